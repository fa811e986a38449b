/-! MEET, HIDE with what stays -/
theorem c_meet {w : Wd} {v1 v2 v3 : Int} (h : LI w) (i_v1 : ((-2147483648 : Int) ≤ v1 ∧ v1 ≤ 2147483647)) (i_v2 : ((-2147483648 : Int) ≤ v2 ∧ v2 ≤ 2147483647)) (i_v3 : ((0 : Int) ≤ v3 ∧ v3 ≤ 1)) : OK (f_E_meet v1 v2 v3 w) (fun r1 u1 => OK (f_R_meet v1 v2 v3 u1) (fun r2 u2 => LI u2 ∧ r1 = r2)) := by
  refine ok_w (ok_pc (e_E_meet h.1 i_v1 i_v2 i_v3) (me_E v1 v2 v3 w)) (fun r1 u1 q1 => ?_)
  obtain ⟨⟨g1, s1⟩, x1⟩ := q1
  refine ok_w (ok_pc (e_R_meet s1 i_v1 i_v2 i_v3) (me_R v1 v2 v3 u1 (s1.1.1 43 0))) (fun r2 u2 q2 => ?_)
  obtain ⟨⟨g2, s2⟩, x2⟩ := q2
  have e0 : u1 43 0 = w 43 0 := g1.2.1 43 0 rfl
  refine ⟨⟨s2, co_fr h.2 (fr_tr (fr_g g1 rfl) (fr_g g2 rfl))⟩, ?_⟩
  rw [x1, x2, e0, h.2.2.1]
theorem c_hide {w : Wd} {v1 v2 : Int} (h : LI w) (i_v1 : ((-2147483648 : Int) ≤ v1 ∧ v1 ≤ 2147483647)) (i_v2 : ((0 : Int) ≤ v2 ∧ v2 ≤ 1)) : OK (f_E_hide v1 v2 w) (fun r1 u1 => OK (f_R_hide v1 v2 u1) (fun r2 u2 => LI u2 ∧ r1 = r2)) := by
  refine ok_w (ok_pc (e_E_hide h.1 i_v1 i_v2) (hi_E v1 v2 w)) (fun r1 u1 q1 => ?_)
  obtain ⟨⟨g1, s1⟩, x1⟩ := q1
  refine ok_w (ok_pc (e_R_hide s1 i_v1 i_v2) (hi_R v1 v2 u1 (s1.1.1 43 0))) (fun r2 u2 q2 => ?_)
  obtain ⟨⟨g2, s2⟩, x2⟩ := q2
  have e0 : u1 43 0 = w 43 0 := g1.2.1 43 0 rfl
  refine ⟨⟨s2, co_fr h.2 (fr_tr (fr_g g1 rfl) (fr_g g2 rfl))⟩, ?_⟩
  rw [x1, x2, e0, h.2.2.1]
/-! SHEET -/
theorem w32_w (z : Int) (b : Int) : w32 (w32 z + b) = w32 (z + b) := by
  unfold w32
  exact Int.bmod_add_bmod
theorem w32_r (z : Int) (b : Int) : w32 (b + w32 z) = w32 (b + z) := by
  rw [Int.add_comm, w32_w, Int.add_comm]
theorem w32_id {z : Int} (h : -2147483648 ≤ z ∧ z ≤ 2147483647) : w32 z = z := by
  have := w32_sp z
  omega
theorem hasE_e {x k : Int} (w : Wd) (hk : 0 ≤ k ∧ k < 10) : f_E_has x k w = some (if bt x k.toNat then 1 else 0, w) := by
  unfold f_E_has
  rw [if_neg (by omega), if_neg (by omega)]
  have h := has_bt (x := x) (k := k) (by omega)
  have h2 := iand_r (x := ishr x k) (y := 1) (by decide)
  cases hb : bt x k.toNat with
  | true => rw [if_neg (by rw [h.mpr hb]; decide)]; rfl
  | false =>
    have h3 : ¬ iand (ishr x k) 1 = 1 := fun e => by rw [h.mp e] at hb; cases hb
    rw [if_pos (by omega)]; rfl
def shv (k v : Int) : Int := imax 0 (imin 9 (if k = 0 then i2b v else if k = 1 then i2s v else v))
theorem shv_rg (k v : Int) : 0 ≤ shv k v ∧ shv k v ≤ 9 := by
  unfold shv
  generalize (if k = 0 then i2b v else if k = 1 then i2s v else v) = e
  have h1 := imin_sp 9 e
  have h2 := imax_sp 0 (imin 9 e)
  omega
def shp (k n f s : Int) (j : Nat) : Int := if k = 3 then 0 else if (j : Int) < n then shv k (w32 (f + j * s)) else 0
theorem shp_rg (k n f s : Int) (j : Nat) : 0 ≤ shp k n f s j ∧ shp k n f s j ≤ 9 := by
  unfold shp
  by_cases h : k = 3
  · rw [if_pos h]; decide
  · rw [if_neg h]
    by_cases h2 : (j : Int) < n
    · rw [if_pos h2]; exact shv_rg _ _
    · rw [if_neg h2]; decide
def sms (g : Nat → Int) : Nat → Int
  | 0 => 0
  | k + 1 => sms g k + g k
theorem sms_rg {g : Nat → Int} (h : ∀ j, 0 ≤ g j ∧ g j ≤ 9) : ∀ n : Nat, 0 ≤ sms g n ∧ sms g n ≤ 9 * n := by
  intro n
  induction n with
  | zero => exact ⟨Int.le_refl 0, Int.le_refl 0⟩
  | succ n ih => have := h n; rw [sms]; omega
theorem sms_eq {g h : Nat → Int} : ∀ {n : Nat}, (∀ j, j < n → g j = h j) → sms g n = sms h n := by
  intro n
  induction n with
  | zero => intro _; rfl
  | succ n ih => intro e; rw [sms, sms, ih (fun j hj => e j (by omega)), e n (by omega)]
/-- what some cost -/
theorem po_pc {x P : Int} {w : Wd} (hP : 0 ≤ P ∧ P ≤ 10) (h3 : w 5 3 = P) (h6 : ∀ j : Nat, (0 : Int) ≤ w 6 j ∧ w 6 j ≤ 9) : ∀ (n : Nat) {v2 v3 : Int}, 0 ≤ v3 → v3 ≤ P → v2 = sms (fun j => if bt x j then w 6 j else 0) v3.toNat → PC (f_F_pricesOf_4 n x v2 v3 w) (fun r u => u = w ∧ r = sms (fun j => if bt x j then w 6 j else 0) P.toNat) := by
  have hg : ∀ j : Nat, 0 ≤ (if bt x j then w 6 j else 0) ∧ (if bt x j then w 6 j else 0) ≤ 9 := fun j => by
    by_cases c : bt x j = true
    · rw [if_pos c]; exact h6 j
    · rw [if_neg c]; decide
  intro n
  induction n with
  | zero => intros; exact pc_none
  | succ n ih =>
    intro v2 v3 i3 i4 h2
    rw [f_F_pricesOf_4, h3]
    have hr := sms_rg hg v3.toNat
    have hj := hg v3.toNat
    have w1 := w32_sp (v3 + 1)
    refine pc_ite (fun c => ?_) (fun c => ?_)
    · have : v3 = P := by omega
      exact pc_some ⟨rfl, by rw [h2, this]⟩
    · rw [hasE_e w (by omega), jc_s]
      have nx : ∀ s : Int, s = (if bt x v3.toNat then w 6 v3.toNat else 0) → PC (f_F_pricesOf_31 (f_F_pricesOf_4 n) x v3 v2 s w) (fun r u => u = w ∧ r = sms (fun j => if bt x j then w 6 j else 0) P.toNat) := by
        intro s hs
        unfold f_F_pricesOf_31
        refine pc_let (fun x3 e3 => ?_)
        refine pc_let (fun x4 e4 => ?_)
        rw [w32_id (by omega)] at e3
        rw [w32_id (by omega)] at e4
        refine ih (by omega) (by omega) ?_
        rw [e4, show (v3 + 1).toNat = v3.toNat + 1 by omega, sms, e3, h2, hs]
      cases hb : bt x v3.toNat with
      | true =>
        refine pc_ite (fun e => absurd e (by decide)) (fun _ => ?_)
        exact pc_gd (fun _ => nx _ (by rw [hb]; rfl))
      | false =>
        refine pc_ite (fun _ => nx 0 (by rw [hb]; rfl)) (fun e => absurd rfl e)
theorem prs_pc {x : Int} {w : Wd} (hP : 0 ≤ w 5 3 ∧ w 5 3 ≤ 10) (h6 : ∀ j : Nat, (0 : Int) ≤ w 6 j ∧ w 6 j ≤ 9) : PC (f_F_pricesOf x w) (fun r u => u = w ∧ r = sms (fun j => if bt x j then w 6 j else 0) (w 5 3).toNat) := by
  unfold f_F_pricesOf
  exact po_pc hP rfl h6 FU (by decide) hP.1 rfl
theorem se_46 {k m f s P : Int} (hk : k = 0 ∨ k = 1 ∨ k = 2) (hm : 0 ≤ m ∧ m ≤ 10) (hf : -2147483648 ≤ f ∧ f ≤ 2147483647) (hP : 0 ≤ P ∧ P ≤ 10) : ∀ (n : Nat) {w : Wd} {v5 : Int}, 0 ≤ v5 → v5 ≤ P → w 5 3 = P → (∀ j : Nat, (0 : Int) ≤ w 6 j ∧ w 6 j ≤ 9) → (∀ j : Nat, (j : Int) < v5 → w 6 j = shp k m f s j) → PC (f_E_sheet_46 n k m f s v5 w) (fun r u => r = sms (shp k m f s) P.toNat ∧ ∀ j : Nat, (j : Int) < P → u 6 j = shp k m f s j) := by
  intro n
  induction n with
  | zero => intros; exact pc_none
  | succ n ih =>
    intro w v5 i5 i6 h3 h6 hD
    rw [f_E_sheet_46, h3]
    have w1 := w32_sp (v5 + 1)
    refine pc_ite (fun c => ?_) (fun c => ?_)
    · unfold f_F_everybody
      rw [jc_s, h3]
      refine pc_call (prs_pc (by omega) h6) (fun r3 u4 q => pc_some ⟨?_, fun j hj => ?_⟩)
      · rw [q.2, h3]
        refine sms_eq (fun j hj => ?_)
        rw [(all_e hP).1, bt_all (by omega) (by omega), decide_eq_true hj]
        exact hD j (by omega)
      · rw [q.1]; exact hD j (by omega)
    · have nx : ∀ e : Int, e = shp k m f s v5.toNat → PC (f_E_sheet_88 (f_E_sheet_46 n) k m f s v5 v5 e w) (fun r u => r = sms (shp k m f s) P.toNat ∧ ∀ j : Nat, (j : Int) < P → u 6 j = shp k m f s j) := by
        intro e he
        unfold f_E_sheet_88
        refine pc_gd (fun _ => ?_)
        refine pc_lw (fun u5 e5 => ?_)
        refine pc_let (fun x6 e6 => ?_)
        refine ih (by omega) (by omega) (by rw [e5, st_c (by decide)]; exact h3) (fun j => ?_) (fun j hj => ?_)
        · rw [e5]
          by_cases hj : j = v5.toNat
          · rw [hj, st_eq, he]; exact shp_rg _ _ _ _ _
          · rw [st_k hj]; exact h6 j
        · rw [e5]
          by_cases hjv : j = v5.toNat
          · rw [hjv, st_eq]; exact he
          · rw [st_k hjv]; exact hD j (by omega)
      refine pc_ite (fun c1 => nx 0 ?_) (fun c1 => ?_)
      · unfold shp
        rw [if_neg (by omega), if_neg (by omega)]
      · have ee : PC (f_E_entry k (w32 (f + w32 (v5 * s))) w) (fun r u => u = w ∧ r = shp k m f s v5.toNat) := by
          have hv : shp k m f s v5.toNat = shv k (w32 (f + w32 (v5 * s))) := by
            unfold shp
            rw [if_neg (by omega), if_pos (by omega), w32_r, Int.toNat_of_nonneg i5]
          unfold f_E_entry f_E_entry_20
          rw [hv]
          unfold shv
          refine pc_ite (fun c2 => pc_some ⟨rfl, by rw [if_pos c2]⟩) (fun c2 => ?_)
          exact pc_ite (fun c3 => pc_some ⟨rfl, by rw [if_neg c2, if_pos c3]⟩) (fun c3 => pc_some ⟨rfl, by rw [if_neg c2, if_neg c3]⟩)
        refine pc_call ee (fun r7 u8 q => ?_)
        rw [q.1]
        exact nx r7 q.2
def SHc (k n : Int) : Prop := (0 ≤ k ∧ k ≤ 3) ∧ n ≤ 10
theorem fl6 {v : Int} : ∀ (n : Nat) {w : Wd} {v2 : Int}, 0 ≤ v2 → v2 ≤ 10 → (∀ j : Nat, (j : Int) < v2 → w 6 j = v) → PC (f_JA_fill_6_5 n v v2 10 w) (fun _ u => ∀ j : Nat, (j : Int) < 10 → u 6 j = v) := by
  intro n
  induction n with
  | zero => intros; exact pc_none
  | succ n ih =>
    intro w v2 i1 i2 h
    rw [f_JA_fill_6_5]
    have w1 := w32_sp (v2 + 1)
    refine pc_ite (fun c => pc_some (fun j hj => h j (by omega))) (fun c => ?_)
    refine pc_gd (fun _ => ?_)
    refine pc_lw (fun u1 e1 => ?_)
    refine pc_let (fun x2 e2 => ?_)
    refine ih (by omega) (by omega) (fun j hj => ?_)
    rw [e1]
    by_cases c2 : j = v2.toNat
    · rw [c2, st_eq]
    · rw [st_k c2]; exact h j (by omega)
theorem sh_E {w : Wd} {k m f s : Int} (hf : -2147483648 ≤ f ∧ f ≤ 2147483647) (hP : 0 ≤ w 5 3 ∧ w 5 3 ≤ 10) (h6 : ∀ j : Nat, (0 : Int) ≤ w 6 j ∧ w 6 j ≤ 9) : PC (f_E_sheet k m f s w) (fun r u => (¬ SHc k m ∧ r = -1 ∧ u = w) ∨ ((SHc k m ∧ k ≠ 3 ∧ m < 0) ∧ r = -2 ∧ u = w) ∨ ((SHc k m ∧ (k = 3 ∨ 0 ≤ m)) ∧ r = (if k = 3 then -3 else sms (shp k m f s) (w 5 3).toNat) ∧ ∀ j : Nat, (j : Int) < w 5 3 → u 6 j = shp k m f s j)) := by
  unfold f_E_sheet SHc
  refine pc_ite (fun c => pc_some (Or.inl ⟨by omega, rfl, rfl⟩)) (fun c1 => ?_)
  refine pc_ite (fun c => pc_some (Or.inl ⟨by omega, rfl, rfl⟩)) (fun c2 => ?_)
  refine pc_ite (fun c3 => ?_) (fun c => pc_some (Or.inl ⟨by omega, rfl, rfl⟩))
  refine pc_ite (fun c4 => ?_) (fun c4 => ?_)
  · unfold f_JA_fill_6
    refine pc_call (fl6 FU (by decide) (by decide) (fun j hj => by omega)) (fun r9 u10 q => pc_some (Or.inr (Or.inr ⟨⟨by omega, Or.inl c4⟩, ?_, fun j hj => ?_⟩)))
    · rw [if_pos c4]
    · rw [q j (by omega)]
      unfold shp
      rw [if_pos c4]
  · refine pc_ite (fun c5 => ?_) (fun c5 => pc_some (Or.inr (Or.inl ⟨⟨by omega, c4, by omega⟩, rfl, rfl⟩)))
    refine pc_w (se_46 (P := w 5 3) (by omega) (by omega) hf hP FU (by decide) hP.1 rfl h6 (fun j hj => by omega)) (fun r u q => Or.inr (Or.inr ⟨⟨by omega, Or.inr c5⟩, ?_, q.2⟩))
    rw [if_neg c4]; exact q.1
theorem sr_43 {k m f s P : Int} (hk : 0 ≤ k ∧ k ≤ 3) (hf : -2147483648 ≤ f ∧ f ≤ 2147483647) (hP : 0 ≤ P ∧ P ≤ 10) : ∀ (n : Nat) {w : Wd} {v5 v6 v7 : Int}, 0 ≤ v7 → v7 ≤ P → w 43 0 = P → v6 = w32 (f + v7 * s) → v5 = sms (shp k m f s) v7.toNat → (∀ j : Nat, (j : Int) < v7 → w 44 j = shp k m f s j) → PC (f_R_sheet_43 n k m s v5 v6 v7 w) (fun r u => r = (if k = 3 then -3 else sms (shp k m f s) P.toNat) ∧ ∀ j : Nat, (j : Int) < P → u 44 j = shp k m f s j) := by
  intro n
  induction n with
  | zero => intros; exact pc_none
  | succ n ih =>
    intro w v5 v6 v7 i7 i8 h0 h6 h5 hD
    rw [f_R_sheet_43, h0]
    have hr := sms_rg (shp_rg k m f s) v7.toNat
    have hj := shp_rg k m f s v7.toNat
    have w1 := w32_sp (v7 + 1)
    refine pc_ite (fun c => ?_) (fun c => ?_)
    · have e : v7 = P := by omega
      subst e
      refine pc_ite (fun c2 => pc_some ⟨by rw [if_pos c2], hD⟩) (fun c2 => pc_some ⟨by rw [if_neg c2]; exact h5, hD⟩)
    · have nx : ∀ e : Int, e = shp k m f s v7.toNat → PC (f_R_sheet_109 (f_R_sheet_43 n) k m s v5 v6 v7 v7 e w) (fun r u => r = (if k = 3 then -3 else sms (shp k m f s) P.toNat) ∧ ∀ j : Nat, (j : Int) < P → u 44 j = shp k m f s j) := by
        intro e he
        unfold f_R_sheet_109
        refine pc_gd (fun _ => ?_)
        refine pc_lw (fun u4 e4 => ?_)
        refine pc_gd (fun _ => ?_)
        refine pc_let (fun x5 e5 => ?_)
        refine pc_let (fun x6 e6 => ?_)
        refine pc_let (fun x7 e7 => ?_)
        have t : u4 44 v7.toNat = e := by rw [e4, st_eq]
        rw [t, he, w32_id (by omega)] at e5
        rw [w32_id (by omega)] at e7
        refine ih (by omega) (by omega) (by rw [e4, st_c (by decide)]; exact h0) ?_ ?_ (fun j hj => ?_)
        · rw [e6, h6, w32_w, e7]
          congr 1
          rw [Int.add_mul]
          omega
        · rw [e7, show (v7 + 1).toNat = v7.toNat + 1 by omega, sms, e5, h5]
        · rw [e4]
          by_cases hjv : j = v7.toNat
          · rw [hjv, st_eq]; exact he
          · rw [st_k hjv]; exact hD j (by omega)
      have n5 : ∀ e : Int, (k ≠ 3 → e = (if k = 0 then i2b v6 else if k = 1 then i2s v6 else v6)) → PC (f_R_sheet_75 (f_R_sheet_43 n) k m s v5 v6 v7 e w) (fun r u => r = (if k = 3 then -3 else sms (shp k m f s) P.toNat) ∧ ∀ j : Nat, (j : Int) < P → u 44 j = shp k m f s j) := by
        intro e he
        unfold f_R_sheet_75
        refine pc_ite (fun c3 => ?_) (fun c3 => ?_)
        · unfold f_R_sheet_94
          refine nx 0 ?_
          unfold shp
          rw [if_pos c3]
        · refine pc_ite (fun c4 => ?_) (fun c4 => ?_)
          · refine nx _ ?_
            unfold shp shv
            rw [if_neg c3, if_pos (by omega), Int.toNat_of_nonneg i7, ← h6, he c3]
          · unfold f_R_sheet_94
            refine nx 0 ?_
            unfold shp
            rw [if_neg c3, if_neg (by omega)]
      refine pc_ite (fun c1 => n5 _ (fun _ => by rw [if_pos c1])) (fun c1 => ?_)
      exact pc_ite (fun c2 => n5 _ (fun _ => by rw [if_neg c1, if_pos c2])) (fun c2 => n5 _ (fun _ => by rw [if_neg c1, if_neg c2]))
theorem sh_R {w : Wd} {k m f s : Int} (hf : -2147483648 ≤ f ∧ f ≤ 2147483647) (hP : 0 ≤ w 43 0 ∧ w 43 0 ≤ 10) : PC (f_R_sheet k m f s w) (fun r u => (¬ SHc k m ∧ r = -1 ∧ u = st w 43 16 0) ∨ ((SHc k m ∧ k ≠ 3 ∧ m < 0) ∧ r = -2 ∧ u = st w 43 16 0) ∨ ((SHc k m ∧ (k = 3 ∨ 0 ≤ m)) ∧ r = (if k = 3 then -3 else sms (shp k m f s) (w 43 0).toNat) ∧ ∀ j : Nat, (j : Int) < w 43 0 → u 44 j = shp k m f s j)) := by
  unfold f_R_sheet SHc
  refine pc_lw (fun u1 e1 => ?_)
  have t0 : u1 43 0 = w 43 0 := by rw [e1, st_k (by decide)]
  rw [in_e, jc_s]
  have go : 0 ≤ k ∧ k ≤ 3 → PC (f_R_sheet_34 k m f s u1) (fun r u => r = (if k = 3 then -3 else sms (shp k m f s) (w 43 0).toNat) ∧ ∀ j : Nat, (j : Int) < w 43 0 → u 44 j = shp k m f s j) := by
    intro hk
    unfold f_R_sheet_34
    refine sr_43 hk hf hP FU (by decide) hP.1 t0 ?_ rfl (fun j hj => by omega)
    rw [show f + 0 * s = f by omega, w32_id hf]
  refine pc_ite (fun hr => ?_) (fun hr => ?_)
  · refine pc_some (Or.inl ⟨fun h2 => ?_, rfl, e1⟩)
    rw [if_pos h2.1] at hr; exact absurd hr (by decide)
  · have hk : 0 ≤ k ∧ k ≤ 3 := by
      by_cases h2 : 0 ≤ k ∧ k ≤ 3
      · exact h2
      · rw [if_neg h2] at hr; exact absurd rfl hr
    refine pc_ite (fun c3 => ?_) (fun c => pc_some (Or.inl ⟨by omega, rfl, e1⟩))
    refine pc_ite (fun c4 => ?_) (fun c4 => ?_)
    · exact pc_w (go hk) (fun r u q => Or.inr (Or.inr ⟨⟨by omega, by omega⟩, q⟩))
    · refine pc_ite (fun c5 => ?_) (fun c5 => pc_some (Or.inr (Or.inl ⟨⟨by omega, by omega, by omega⟩, rfl, e1⟩)))
      exact pc_w (go hk) (fun r u q => Or.inr (Or.inr ⟨⟨by omega, by omega⟩, q⟩))
theorem c_sheet {w : Wd} {v1 v2 v3 v4 : Int} (h : LI w) (i_v1 : ((-2147483648 : Int) ≤ v1 ∧ v1 ≤ 2147483647)) (i_v2 : ((-2147483648 : Int) ≤ v2 ∧ v2 ≤ 2147483647)) (i_v3 : ((-2147483648 : Int) ≤ v3 ∧ v3 ≤ 2147483647)) (i_v4 : ((-2147483648 : Int) ≤ v4 ∧ v4 ≤ 2147483647)) : OK (f_E_sheet v1 v2 v3 v4 w) (fun r1 u1 => OK (f_R_sheet v1 v2 v3 v4 u1) (fun r2 u2 => LI u2 ∧ r1 = r2)) := by
  refine ok_w (ok_pc (e_E_sheet h.1 i_v1 i_v2 i_v3 i_v4) (sh_E i_v3 (h.1.1.1 5 3) (fun j => h.1.1.1 6 j))) (fun r1 u1 q1 => ?_)
  obtain ⟨⟨g1, s1⟩, x1⟩ := q1
  refine ok_w (ok_pc (e_R_sheet s1 i_v1 i_v2 i_v3 i_v4) (sh_R i_v3 (s1.1.1 43 0))) (fun r2 u2 q2 => ?_)
  obtain ⟨⟨g2, s2⟩, x2⟩ := q2
  have e0 : u1 43 0 = w 43 0 := g1.2.1 43 0 rfl
  refine ⟨⟨s2, co_fr h.2 (fr_tr (fr_g g1 rfl) (fr_g g2 rfl))⟩, ?_⟩
  rw [e0, ← h.2.2.1] at x2
  rcases x1 with ⟨n1, a1, _⟩ | ⟨n1, a1, _⟩ | ⟨n1, a1, _⟩ <;> rcases x2 with ⟨n2, a2, _⟩ | ⟨n2, a2, _⟩ | ⟨n2, a2, _⟩
  · rw [a1, a2]
  · exact absurd n2.1 n1
  · exact absurd n2.1 n1
  · exact absurd n1.1 n2
  · rw [a1, a2]
  · exfalso; omega
  · exact absurd n1.1 n2
  · exfalso; omega
  · rw [a1, a2]
/-! EVERY METHOD KEEPS THE COUPLING -/
theorem w0_TX : TX w0 := tx_0 (by decide +kernel) (by decide +kernel)
theorem w0_KM : ∀ c m : Nat, (c = 37 ∧ m = 0) ∨ (c = 40 ∧ m = 1) → KM w0 c m := by
  intro c m h
  have h1 : w0 37 2 = 0 ∧ w0 80 0 = 0 ∧ w0 40 2 = 0 ∧ w0 80 1 = 0 := by decide +kernel
  rcases h with ⟨rfl, rfl⟩ | ⟨rfl, rfl⟩
  · exact ⟨h1.1.trans h1.2.1.symm, fun n => absurd h1.1 n⟩
  · exact ⟨h1.2.2.1.trans h1.2.2.2.symm, fun n => absurd h1.2.2.1 n⟩
theorem w0_LI : LI w0 := ⟨w0_RS, w0_TX, by decide +kernel, ⟨by decide +kernel, by decide +kernel⟩, w0_KM 37 0 (Or.inl ⟨rfl, rfl⟩), w0_KM 40 1 (Or.inr ⟨rfl, rfl⟩)⟩
theorem fr_82 {P : List (Nat × Nat)} {A : List Nat} {w u : Wd} (h : ∀ c, c ≠ 82 → u c = w c) (hP : P.all (fun p => p.1 != 82) = true := by decide) (hA : A.all (fun c => c != 82) = true := by decide) : FR P A w u :=
  ⟨fun p hp => congrFun (h p.1 (by have := List.all_eq_true.mp hP p hp; simpa using this)) p.2, fun c hc => h c (by have := List.all_eq_true.mp hA c hc; simpa using this)⟩
theorem c_of {w : Wd} {v1 v2 : Int} (h : LI w) (i_v1 : ((-2147483648 : Int) ≤ v1 ∧ v1 ≤ 2147483647)) (i_v2 : ((-2147483648 : Int) ≤ v2 ∧ v2 ≤ 2147483647)) : OK (f_A_of v1 v2 w) (fun _ u1 => OK (f_R_of v1 v2 u1) (fun _ u2 => LI u2 ∧ True)) := ok_w (e_A_of h.1 i_v1 i_v2) (fun _ u1 q1 => ok_w (e_R_of q1.1 i_v1 i_v2) (fun _ u2 q2 => ⟨⟨q2.2, co_fr (co_fr h.2 (fr_82 q1.2)) (fr_g q2.1 rfl)⟩, trivial⟩))
theorem c_can {w : Wd} (h : LI w) : OK (f_E_can w) (fun _ u1 => OK (f_R_can u1) (fun _ u2 => LI u2 ∧ True)) := ok_w (e_E_can h.1) (fun _ u1 q1 => ok_w (e_R_can q1.2) (fun _ u2 q2 => ⟨⟨q2.2, co_fr (co_fr h.2 (fr_g q1.1 rfl)) (fr_g q2.1 rfl)⟩, trivial⟩))
theorem c_pairs {w : Wd} (h : LI w) : OK (f_E_pairs w) (fun _ u1 => OK (f_R_pairs u1) (fun _ u2 => LI u2 ∧ True)) := ok_w (e_E_pairs h.1) (fun _ u1 q1 => ok_w (e_R_pairs q1.2) (fun _ u2 q2 => ⟨⟨q2.2, co_fr (co_fr h.2 (fr_g q1.1 rfl)) (fr_g q2.1 rfl)⟩, trivial⟩))
theorem c_bars {w : Wd} (h : LI w) : OK (f_E_bars w) (fun _ u1 => OK (f_R_bars u1) (fun _ u2 => LI u2 ∧ True)) := ok_w (e_E_bars h.1) (fun _ u1 q1 => ok_w (e_R_bars q1.2) (fun _ u2 q2 => ⟨⟨q2.2, co_fr (co_fr h.2 (fr_g q1.1 rfl)) (fr_g q2.1 rfl)⟩, trivial⟩))
theorem c_states {w : Wd} (h : LI w) : OK (f_E_states w) (fun _ u1 => OK (f_R_states u1) (fun _ u2 => LI u2 ∧ True)) := ok_w (e_E_states h.1) (fun _ u1 q1 => ok_w (e_R_states q1.2) (fun _ u2 q2 => ⟨⟨q2.2, co_fr (co_fr h.2 (fr_g q1.1 rfl)) (fr_g q2.1 rfl)⟩, trivial⟩))
theorem c_most {w : Wd} {v1 : Int} (h : LI w) (i_v1 : ((-2147483648 : Int) ≤ v1 ∧ v1 ≤ 2147483647)) : OK (f_E_most v1 w) (fun _ u1 => OK (f_R_most v1 u1) (fun _ u2 => LI u2 ∧ True)) := ok_w (e_E_most h.1 i_v1) (fun _ u1 q1 => ok_w (e_R_most q1.2 i_v1) (fun _ u2 q2 => ⟨⟨q2.2, co_fr (co_fr h.2 (fr_g q1.1 rfl)) (fr_g q2.1 rfl)⟩, trivial⟩))
theorem c_reach {w : Wd} {v1 : Int} (h : LI w) (i_v1 : ((-2147483648 : Int) ≤ v1 ∧ v1 ≤ 2147483647)) : OK (f_E_reach v1 w) (fun _ u1 => OK (f_R_reach v1 u1) (fun _ u2 => LI u2 ∧ True)) := ok_w (e_E_reach h.1 i_v1) (fun _ u1 q1 => ok_w (e_R_reach q1.2 i_v1) (fun _ u2 q2 => ⟨⟨q2.2, co_fr (co_fr h.2 (fr_g q1.1 rfl)) (fr_g q2.1 rfl)⟩, trivial⟩))
theorem c_fewest {w : Wd} {v1 : Int} (h : LI w) (i_v1 : ((-2147483648 : Int) ≤ v1 ∧ v1 ≤ 2147483647)) : OK (f_E_fewest v1 w) (fun _ u1 => OK (f_R_fewest v1 u1) (fun _ u2 => LI u2 ∧ True)) := ok_w (e_E_fewest h.1 i_v1) (fun _ u1 q1 => ok_w (e_R_fewest q1.2 i_v1) (fun _ u2 q2 => ⟨⟨q2.2, co_fr (co_fr h.2 (fr_g q1.1 rfl)) (fr_g q2.1 rfl)⟩, trivial⟩))
theorem c_crowd {w : Wd} (h : LI w) : OK (f_E_crowd w) (fun _ u1 => OK (f_R_crowd u1) (fun _ u2 => LI u2 ∧ True)) := ok_w (e_E_crowd h.1) (fun _ u1 q1 => ok_w (e_R_crowd q1.2) (fun _ u2 q2 => ⟨⟨q2.2, co_fr (co_fr h.2 (fr_g q1.1 rfl)) (fr_g q2.1 rfl)⟩, trivial⟩))
theorem c_both {w : Wd} {v1 v2 v3 : Int} (h : LI w) (i_v1 : ((-2147483648 : Int) ≤ v1 ∧ v1 ≤ 2147483647)) (i_v2 : ((-2147483648 : Int) ≤ v2 ∧ v2 ≤ 2147483647)) (i_v3 : ((-2147483648 : Int) ≤ v3 ∧ v3 ≤ 2147483647)) : OK (f_E_both v1 v2 v3 w) (fun _ u1 => OK (f_R_both v1 v2 v3 u1) (fun _ u2 => LI u2 ∧ True)) := ok_w (e_E_both h.1 i_v1 i_v2 i_v3) (fun _ u1 q1 => ok_w (e_R_both q1.2 i_v1 i_v2 i_v3) (fun _ u2 q2 => ⟨⟨q2.2, co_fr (co_fr h.2 (fr_g q1.1 rfl)) (fr_g q2.1 rfl)⟩, trivial⟩))
theorem c_last {w : Wd} (h : LI w) : OK (f_E_last w) (fun _ u1 => OK (f_R_last u1) (fun _ u2 => LI u2 ∧ True)) := ok_w (e_E_last h.1) (fun _ u1 q1 => ok_w (e_R_last q1.2) (fun _ u2 q2 => ⟨⟨q2.2, co_fr (co_fr h.2 (fr_g q1.1 rfl)) (fr_g q2.1 rfl)⟩, trivial⟩))
theorem c_begin {w : Wd} (h : LI w) : OK (f_E_begin w) (fun _ u1 => OK (f_R_begin2 u1) (fun _ u2 => LI u2 ∧ True)) := ok_w (e_E_begin h.1) (fun _ u1 q1 => ok_w (e_R_begin2 q1.2) (fun _ u2 q2 => ⟨⟨q2.2, co_fr (co_fr h.2 (fr_g q1.1 rfl)) (fr_g q2.1 rfl)⟩, trivial⟩))
theorem c_cheap {w : Wd} {v1 : Int} (h : LI w) (i_v1 : ((-2147483648 : Int) ≤ v1 ∧ v1 ≤ 2147483647)) : OK (f_E_cheap v1 w) (fun _ u1 => OK (f_R_cheap v1 u1) (fun _ u2 => LI u2 ∧ True)) := ok_w (e_E_cheap h.1 i_v1) (fun _ u1 q1 => ok_w (e_R_cheap q1.2 i_v1) (fun _ u2 q2 => ⟨⟨q2.2, co_fr (co_fr h.2 (fr_g q1.1 rfl)) (fr_g q2.1 rfl)⟩, trivial⟩))
theorem c_stays {w : Wd} {v1 : Int} (h : LI w) (i_v1 : ((-2147483648 : Int) ≤ v1 ∧ v1 ≤ 2147483647)) : OK (f_E_stays v1 w) (fun _ u1 => OK (f_R_stays v1 u1) (fun _ u2 => LI u2 ∧ True)) := ok_w (e_E_stays h.1 i_v1) (fun _ u1 q1 => ok_w (e_R_stays q1.2 i_v1) (fun _ u2 q2 => ⟨⟨q2.2, co_fr (co_fr h.2 (fr_g q1.1 rfl)) (fr_g q2.1 rfl)⟩, trivial⟩))
theorem c_soonest {w : Wd} {v1 : Int} (h : LI w) (i_v1 : ((-2147483648 : Int) ≤ v1 ∧ v1 ≤ 2147483647)) : OK (f_E_soonest v1 w) (fun _ u1 => OK (f_R_soonest v1 u1) (fun _ u2 => LI u2 ∧ True)) := ok_w (e_E_soonest h.1 i_v1) (fun _ u1 q1 => ok_w (e_R_soonest q1.2 i_v1) (fun _ u2 q2 => ⟨⟨q2.2, co_fr (co_fr h.2 (fr_g q1.1 rfl)) (fr_g q2.1 rfl)⟩, trivial⟩))
theorem c_worth {w : Wd} {v1 : Int} (h : LI w) (i_v1 : ((-2147483648 : Int) ≤ v1 ∧ v1 ≤ 2147483647)) : OK (f_E_worth v1 w) (fun _ u1 => OK (f_R_worth v1 u1) (fun _ u2 => LI u2 ∧ True)) := ok_w (e_E_worth h.1 i_v1) (fun _ u1 q1 => ok_w (e_R_worth q1.2 i_v1) (fun _ u2 q2 => ⟨⟨q2.2, co_fr (co_fr h.2 (fr_g q1.1 rfl)) (fr_g q2.1 rfl)⟩, trivial⟩))
theorem c_needed {w : Wd} (h : LI w) : OK (f_E_needed w) (fun _ u1 => OK (f_R_needed u1) (fun _ u2 => LI u2 ∧ True)) := ok_w (e_E_needed h.1) (fun _ u1 q1 => ok_w (e_R_needed q1.2) (fun _ u2 q2 => ⟨⟨q2.2, co_fr (co_fr h.2 (fr_g q1.1 rfl)) (fr_g q2.1 rfl)⟩, trivial⟩))
theorem c_never {w : Wd} (h : LI w) : OK (f_E_never w) (fun _ u1 => OK (f_R_never u1) (fun _ u2 => LI u2 ∧ True)) := ok_w (e_E_never h.1) (fun _ u1 q1 => ok_w (e_R_never q1.2) (fun _ u2 q2 => ⟨⟨q2.2, co_fr (co_fr h.2 (fr_g q1.1 rfl)) (fr_g q2.1 rfl)⟩, trivial⟩))
theorem c_bound {w : Wd} (h : LI w) : OK (f_E_bound w) (fun _ u1 => OK (f_R_bound u1) (fun _ u2 => LI u2 ∧ True)) := ok_w (e_E_bound h.1) (fun _ u1 q1 => ok_w (e_R_bound q1.2) (fun _ u2 q2 => ⟨⟨q2.2, co_fr (co_fr h.2 (fr_g q1.1 rfl)) (fr_g q2.1 rfl)⟩, trivial⟩))
theorem c_far {w : Wd} {v1 : Int} (h : LI w) (i_v1 : ((-2147483648 : Int) ≤ v1 ∧ v1 ≤ 2147483647)) : OK (f_E_far v1 w) (fun _ u1 => OK (f_R_far v1 u1) (fun _ u2 => LI u2 ∧ True)) := ok_w (e_E_far h.1 i_v1) (fun _ u1 q1 => ok_w (e_R_far q1.2 i_v1) (fun _ u2 q2 => ⟨⟨q2.2, co_fr (co_fr h.2 (fr_g q1.1 rfl)) (fr_g q2.1 rfl)⟩, trivial⟩))
theorem c_line {w : Wd} {v1 : Int} (h : LI w) (i_v1 : ((-2147483648 : Int) ≤ v1 ∧ v1 ≤ 2147483647)) : OK (f_E_line v1 w) (fun _ u1 => OK (f_R_line v1 u1) (fun _ u2 => LI u2 ∧ True)) := ok_w (e_E_line h.1 i_v1) (fun _ u1 q1 => ok_w (e_R_line q1.2 i_v1) (fun _ u2 q2 => ⟨⟨q2.2, co_fr (co_fr h.2 (fr_g q1.1 rfl)) (fr_g q2.1 rfl)⟩, trivial⟩))
theorem c_led {w : Wd} {v1 : Int} (h : LI w) (i_v1 : ((-2147483648 : Int) ≤ v1 ∧ v1 ≤ 2147483647)) : OK (f_E_led v1 w) (fun _ u1 => OK (f_R_led v1 u1) (fun _ u2 => LI u2 ∧ True)) := ok_w (e_E_led h.1 i_v1) (fun _ u1 q1 => ok_w (e_R_led q1.2 i_v1) (fun _ u2 q2 => ⟨⟨q2.2, co_fr (co_fr h.2 (fr_g q1.1 rfl)) (fr_g q2.1 rfl)⟩, trivial⟩))
theorem c_was {w : Wd} {v1 : Int} (h : LI w) (i_v1 : ((-2147483648 : Int) ≤ v1 ∧ v1 ≤ 2147483647)) : OK (f_E_was v1 w) (fun _ u1 => OK (f_R_was v1 u1) (fun _ u2 => LI u2 ∧ True)) := ok_w (e_E_was h.1 i_v1) (fun _ u1 q1 => ok_w (e_R_was q1.2 i_v1) (fun _ u2 q2 => ⟨⟨q2.2, co_fr (co_fr h.2 (fr_g q1.1 rfl)) (fr_g q2.1 rfl)⟩, trivial⟩))
theorem c_common {w : Wd} {v1 v2 : Int} (h : LI w) (i_v1 : ((-2147483648 : Int) ≤ v1 ∧ v1 ≤ 2147483647)) (i_v2 : ((-2147483648 : Int) ≤ v2 ∧ v2 ≤ 2147483647)) : OK (f_E_common v1 v2 w) (fun _ u1 => OK (f_R_common v1 v2 u1) (fun _ u2 => LI u2 ∧ True)) := ok_w (e_E_common h.1 i_v1 i_v2) (fun _ u1 q1 => ok_w (e_R_common q1.2 i_v1 i_v2) (fun _ u2 q2 => ⟨⟨q2.2, co_fr (co_fr h.2 (fr_g q1.1 rfl)) (fr_g q2.1 rfl)⟩, trivial⟩))
theorem c_father {w : Wd} (h : LI w) : OK (f_E_father w) (fun _ u1 => OK (f_R_father u1) (fun _ u2 => LI u2 ∧ True)) := ok_w (e_E_father h.1) (fun _ u1 q1 => ok_w (e_R_father q1.2) (fun _ u2 q2 => ⟨⟨q2.2, co_fr (co_fr h.2 (fr_g q1.1 rfl)) (fr_g q2.1 rfl)⟩, trivial⟩))
theorem c_count {w : Wd} {v1 : Int} (h : LI w) (i_v1 : ((-2147483648 : Int) ≤ v1 ∧ v1 ≤ 2147483647)) : OK (f_E_count v1 w) (fun _ u1 => OK (f_R_count v1 u1) (fun _ u2 => LI u2 ∧ True)) := ok_w (e_E_count h.1 i_v1) (fun _ u1 q1 => ok_w (e_R_count q1.2 i_v1) (fun _ u2 q2 => ⟨⟨q2.2, co_fr (co_fr h.2 (fr_g q1.1 rfl)) (fr_g q2.1 rfl)⟩, trivial⟩))
theorem c_row {w : Wd} {v1 : Int} (h : LI w) (i_v1 : ((-2147483648 : Int) ≤ v1 ∧ v1 ≤ 2147483647)) : OK (f_A_row v1 w) (fun _ u1 => OK (f_R_row v1 u1) (fun _ u2 => LI u2 ∧ True)) := ok_w (e_A_row h.1 i_v1) (fun _ u1 q1 => ok_w (e_R_row q1.1 i_v1) (fun _ u2 q2 => ⟨⟨q2.2, co_fr (co_fr h.2 (fr_82 q1.2)) (fr_g q2.1 rfl)⟩, trivial⟩))
/-! SETS OF PEOPLE: ten bits -/
def B10 (x : Int) (f : Nat → Bool) : Prop := (0 ≤ x ∧ x ≤ 1023) ∧ ∀ k, k < 10 → bt x k = f k
theorem bt_hi {x : Int} (h : 0 ≤ x ∧ x ≤ 1023) {k : Nat} (hk : 10 ≤ k) : bt x k = false := by
  cases hb : bt x k with
  | false => rfl
  | true =>
    have e : ((2 ^ 10 : Nat) : Int) = 1024 := by decide
    have := bt_lt (x := x) (n := 10) (by decide) ⟨h.1, by omega⟩ hb
    omega
theorem b10_self {x : Int} (h : 0 ≤ x ∧ x ≤ 1023) : B10 x (bt x) := ⟨h, fun _ _ => rfl⟩
theorem b10_eq {x y : Int} {f g : Nat → Bool} (hx : B10 x f) (hy : B10 y g) (h : ∀ k, k < 10 → f k = g k) : x = y :=
  bt_ext hx.1 hy.1 (fun k hk => by rw [hx.2 k hk, hy.2 k hk]; exact h k hk)
theorem b10_w {x : Int} {f g : Nat → Bool} (hx : B10 x f) (h : ∀ k, k < 10 → f k = g k) : B10 x g := ⟨hx.1, fun k hk => (hx.2 k hk).trans (h k hk)⟩
theorem b10_0 : B10 0 (fun _ => false) := ⟨by decide, fun k _ => bt_0 k⟩
theorem b10_and {x y : Int} {f g : Nat → Bool} (hx : B10 x f) (hy : ∀ k, k < 10 → bt y k = g k) : B10 (iand x y) (fun k => f k && g k) := by
  have h1 := hx.1
  have h := iand_l (x := x) (y := y) (by omega)
  exact ⟨by omega, fun k hk => by rw [bt_and, hx.2 k hk, hy k hk]⟩
theorem b10_andn {x y : Int} {f g : Nat → Bool} (hx : B10 x f) (hy : ∀ k, k < 10 → bt y k = g k) : B10 (iand x (ixor y (-1))) (fun k => f k && !g k) :=
  b10_and hx (fun k hk => by rw [bt_not _ (by omega), hy k hk])
theorem b10_or {x y : Int} {f g : Nat → Bool} (hx : B10 x f) (hy : B10 y g) : B10 (ior x y) (fun k => f k || g k) := by
  have h := ior_n 10 (x := x) (y := y) (m := 1023) (by decide) (by decide) hx.1 hy.1
  exact ⟨h, fun k hk => by rw [bt_or, hx.2 k hk, hy.2 k hk]⟩
theorem b10_1 {i : Int} (h : 0 ≤ i ∧ i ≤ 9) : B10 (ishl 1 i) (fun k => decide (k = i.toNat)) := by
  have h1 := ishl1_n 9 (i := i) (j := 9) (m := 512) (by decide) (by decide) (by decide) h
  exact ⟨by omega, fun k hk => bt_shl (by omega) (by omega)⟩
theorem b10_all {P : Int} (h : 0 ≤ P ∧ P ≤ 10) : B10 (w32 (ishl 1 P - 1)) (fun k => decide ((k : Int) < P)) := by
  have hA := all_e h
  refine ⟨hA.2, fun k hk => ?_⟩
  rw [hA.1, bt_all (by omega) (by omega)]
  show _ = decide ((k : Int) < P)
  by_cases c : (k : Int) < P
  · rw [decide_eq_true c, decide_eq_true (by omega)]
  · rw [decide_eq_false c, decide_eq_false (by omega)]
theorem bt_1023 {k : Nat} (hk : k < 32) : bt 1023 k = decide (k < 10) := by
  have h := bt_all (P := 10) (by decide) hk
  exact h
theorem bt_shr {x i : Int} {k : Nat} (hi : 0 ≤ i) (hk : i.toNat + k < 32) : bt (ishr x i) k = bt x (i.toNat + k) := by
  have hh : (List.range 32).all (fun k => decide (((Int32.ofInt (k : Int) &&& 31).toBitVec.smod 32).toNat = k)) = true := by decide +kernel
  have h2 := of_decide_eq_true (List.all_eq_true.mp hh i.toNat (List.mem_range.mpr (by omega)))
  rw [Int.toNat_of_nonneg hi] at h2
  unfold bt ishr
  rw [Int32.ofInt_toInt, Int32.toBitVec_shiftRight, BitVec.sshiftRight', h2, BitVec.getLsbD_sshiftRight]
  rw [if_pos hk]
  simp
  omega
theorem bt_shr10 {x : Int} {k : Nat} (hk : k < 22) : bt (ishr x 10) k = bt x (10 + k) := bt_shr (i := 10) (by decide) (show 10 + k < 32 by omega)
theorem bt_shr20 {x : Int} {k : Nat} (hk : k < 12) : bt (ishr x 20) k = bt x (20 + k) := bt_shr (i := 20) (by decide) (show 20 + k < 32 by omega)
theorem b10_m {y : Int} {f : Nat → Bool} (hy : ∀ k, k < 10 → bt y k = f k) : B10 (iand y 1023) f := by
  have h := iand_r (x := y) (y := 1023) (by decide)
  exact ⟨h, fun k hk => by rw [bt_and, bt_1023 (by omega), decide_eq_true hk, Bool.and_true]; exact hy k hk⟩
theorem bit_i {x k : Int} (hk : 0 ≤ k ∧ k < 32) : iand (ishr x k) 1 = if bt x k.toNat then 1 else 0 := by
  have h := has_bt (x := x) hk
  have h2 := iand_r (x := ishr x k) (y := 1) (by decide)
  cases hb : bt x k.toNat with
  | true => rw [h.mpr hb]; rfl
  | false =>
    have h3 : ¬ iand (ishr x k) 1 = 1 := fun e => by rw [h.mp e] at hb; cases hb
    show _ = (0 : Int)
    omega
/-! how many -/
def pn (f : Nat → Bool) : Nat → Nat
  | 0 => 0
  | k + 1 => pn f k + (if f k then 1 else 0)
theorem pn_le (f : Nat → Bool) : ∀ n, pn f n ≤ n := by
  intro n
  induction n with
  | zero => exact Nat.le_refl 0
  | succ n ih => rw [pn]; split <;> omega
theorem pn_eq {f g : Nat → Bool} : ∀ {n : Nat}, (∀ k, k < n → f k = g k) → pn f n = pn g n := by
  intro n
  induction n with
  | zero => intro _; rfl
  | succ n ih => intro h; rw [pn, pn, ih (fun k hk => h k (by omega)), h n (by omega)]
theorem pn_0 {f : Nat → Bool} : ∀ {n : Nat}, (∀ k, k < n → f k = false) → pn f n = 0 := by
  intro n
  induction n with
  | zero => intro _; rfl
  | succ n ih => intro h; rw [pn, ih (fun k hk => h k (by omega)), h n (by omega)]; rfl
theorem pn_or {f g : Nat → Bool} : ∀ {n : Nat}, (∀ k, k < n → (f k && g k) = false) → pn (fun k => f k || g k) n = pn f n + pn g n := by
  intro n
  induction n with
  | zero => intro _; rfl
  | succ n ih =>
    intro h
    have h1 := h n (by omega)
    rw [pn, pn, pn, ih (fun k hk => h k (by omega))]
    cases hf : f n <;> cases hg : g n
    · simp
    · simp; omega
    · simp; omega
    · rw [hf, hg] at h1; cases h1
def bcI (v0 : Int) : Int :=
  let x1 := w32 (v0 - (iand (iush v0 1) 1431655765))
  let x2 := w32 ((iand x1 858993459) + (iand (iush x1 2) 858993459))
  let x3 := iand (w32 (x2 + (iush x2 4))) 252645135
  let x4 := w32 (x3 + (iush x3 8))
  let x5 := w32 (x4 + (iush x4 16))
  iand x5 63
theorem bcI_e : (List.range 1024).all (fun n => bcI (n : Int) == (pn (bt (n : Int)) 10 : Int)) = true := by decide +kernel
theorem bc_self {x : Int} (h : 0 ≤ x ∧ x ≤ 1023) (w : Wd) : f_JI_bitCount x w = some (((pn (bt x) 10 : Nat) : Int), w) := by
  have h1 := eq_of_beq (List.all_eq_true.mp bcI_e x.toNat (List.mem_range.mpr (by omega)))
  rw [Int.toNat_of_nonneg h.1] at h1
  show some (bcI x, w) = _
  rw [h1]
theorem bcs_e {x : Int} {f : Nat → Bool} (h : B10 x f) (w : Wd) : f_JI_bitCount x w = some (((pn f 10 : Nat) : Int), w) := by
  rw [bc_self h.1, pn_eq h.2]
theorem has_10 {x k : Int} {f : Nat → Bool} (w : Wd) (h : B10 x f) (hk : 0 ≤ k ∧ k < 10) : f_E_has x k w = some (if f k.toNat then 1 else 0, w) := by
  rw [hasE_e w hk, h.2 k.toNat (by omega)]
theorem has_o {x k : Int} (w : Wd) (hk : ¬ (0 ≤ k ∧ k < 10)) : f_E_has x k w = some (0, w) := by
  unfold f_E_has
  by_cases h : k < 0
  · rw [if_pos h]
  · rw [if_neg h, if_pos (by omega)]
/-! A STATE AS THE CLASS HAS IT: three bits of each, and as the reference has it: a number of each -/
def inP (P : Int) (k : Nat) : Bool := decide ((k : Int) < P)
def WH (x : Int) (s : Nat → Int) (P : Int) : Prop := (0 ≤ x ∧ x < 1073741824) ∧ (∀ k : Nat, k < 10 → bt x k = (inP P k && (s k == 1 || s k == 3)) ∧ bt x (10 + k) = (inP P k && (s k == 2 || s k == 3)) ∧ bt x (20 + k) = (inP P k && s k == 4)) ∧ ∀ k : Nat, (k : Int) < P → 0 ≤ s k ∧ s k ≤ 4
theorem v5 {v : Int} (h : 0 ≤ v ∧ v ≤ 4) : v = 0 ∨ v = 1 ∨ v = 2 ∨ v = 3 ∨ v = 4 := by omega
theorem inP_t {P : Int} {k : Nat} (h : inP P k = true) : (k : Int) < P := of_decide_eq_true h
def gs (P : Int) (s : Nat → Int) (k : Nat) : Bool := inP P k && gst (s k)
def sr (P : Int) (s : Nat → Int) (k : Nat) : Bool := inP P k && s k == 0
def ou (P : Int) (s : Nat → Int) (k : Nat) : Bool := inP P k && s k == 4
theorem wh_gs {x P : Int} {s : Nat → Int} (h : WH x s P) : B10 (iand (ior x (ishr x 10)) 1023) (gs P s) := by
  refine b10_m (fun k hk => ?_)
  have h1 := h.2.1 k hk
  rw [bt_or, bt_shr10 (by omega), h1.1, h1.2.1]
  unfold gs
  cases hp : inP P k with
  | false => rfl
  | true =>
    have h2 := h.2.2 k (inP_t hp)
    rcases v5 h2 with e | e | e | e | e <;> rw [e] <;> decide
theorem wh_ou {x P : Int} {s : Nat → Int} (h : WH x s P) : B10 (iand (ishr x 20) 1023) (ou P s) := by
  refine b10_m (fun k hk => ?_)
  have h1 := h.2.1 k hk
  rw [bt_shr20 (by omega), h1.2.2]
  rfl
theorem wh_kn {x P : Int} {s : Nat → Int} (h : WH x s P) : B10 (iand (ior (ior x (ishr x 10)) (ishr x 20)) 1023) (fun k => inP P k && !(s k == 0)) := by
  refine b10_m (fun k hk => ?_)
  have h1 := h.2.1 k hk
  rw [bt_or, bt_or, bt_shr10 (by omega), bt_shr20 (by omega), h1.1, h1.2.1, h1.2.2]
  cases hp : inP P k with
  | false => rfl
  | true =>
    have h2 := h.2.2 k (inP_t hp)
    rcases v5 h2 with e | e | e | e | e <;> rw [e] <;> decide
theorem og_e {x P : Int} {s : Nat → Int} (h : WH x s P) (w : Wd) : ∃ r, f_O_guests x w = some (r, w) ∧ B10 r (gs P s) := ⟨_, rfl, wh_gs h⟩
theorem oo_e {x P : Int} {s : Nat → Int} (h : WH x s P) (w : Wd) : ∃ r, f_O_out x w = some (r, w) ∧ B10 r (ou P s) := ⟨_, rfl, wh_ou h⟩
theorem late_e {x P : Int} {s : Nat → Int} (h : WH x s P) {v : Int} (w : Wd) : f_O_late x v w = some (if 0 ≤ v ∧ v < 10 ∧ gs P s v.toNat = true then s v.toNat - 1 else -1, w) := by
  unfold f_O_late f_O_guests
  rw [jc_s]
  by_cases hv : 0 ≤ v ∧ v < 10
  · rw [has_10 w (wh_gs h) hv, jc_s]
    have h1 := h.2.1 v.toNat (by omega)
    have e1 := bit_i (x := x) (k := v) (by omega)
    have w1 := w32_sp (10 + v)
    have e2 := bit_i (x := x) (k := w32 (10 + v)) (by omega)
    rw [show (w32 (10 + v)).toNat = 10 + v.toNat by omega] at e2
    rw [e1, e2, h1.1, h1.2.1]
    by_cases hg : gs P s v.toNat = true
    · rw [if_pos hg, if_neg (show ¬ (1 : Int) = 0 by decide), if_pos (show 0 ≤ v ∧ v < 10 ∧ gs P s v.toNat = true from ⟨hv.1, hv.2, hg⟩)]
      unfold gs at hg
      rw [Bool.and_eq_true] at hg
      rw [hg.1]
      have h3 : 1 ≤ s v.toNat ∧ s v.toNat < 4 := of_decide_eq_true hg.2
      have h4 : s v.toNat = 1 ∨ s v.toNat = 2 ∨ s v.toNat = 3 := by omega
      rcases h4 with e | e | e <;> rw [e] <;> rfl
    · rw [if_neg hg, if_pos rfl, if_neg (fun c => hg c.2.2)]
  · rw [has_o w hv, jc_s, if_pos rfl, if_neg (fun c => hv ⟨c.1, c.2.1⟩)]
/-- who stays a GUEST without bringing anybody -/
def sy1 (P : Int) (s : Nat → Int) (g : Int) (k : Nat) : Bool := inP P k && (s k == 1 && decide (1 < g))
def sy2 (P : Int) (s : Nat → Int) (g : Int) (k : Nat) : Bool := inP P k && (s k == 2 && decide (2 < g))
theorem wh_10 {x P : Int} {s : Nat → Int} (h : WH x s P) {k : Nat} (hk : k < 10) : bt (ishr x 10) k = (inP P k && (s k == 2 || s k == 3)) := by
  rw [bt_shr10 (by omega)]
  exact (h.2.1 k hk).2.1
theorem l1_e {x P g : Int} {s : Nat → Int} (h : WH x s P) (w : Wd) : ∃ r, f_O_lateOne x g w = some (r, w) ∧ B10 r (sy1 P s g) := by
  unfold f_O_lateOne
  by_cases hg : g ≤ 1
  · rw [if_pos hg]
    refine ⟨0, rfl, b10_w b10_0 (fun k hk => ?_)⟩
    unfold sy1
    rw [decide_eq_false (show ¬ 1 < g by omega), Bool.and_false, Bool.and_false]
  · rw [if_neg hg]
    refine ⟨_, rfl, b10_m (fun k hk => ?_)⟩
    rw [bt_and, bt_not _ (by omega), wh_10 h hk, (h.2.1 k hk).1]
    unfold sy1
    rw [decide_eq_true (show 1 < g by omega), Bool.and_true]
    cases hp : inP P k with
    | false => rfl
    | true =>
      have h2 := h.2.2 k (inP_t hp)
      rcases v5 h2 with e | e | e | e | e <;> rw [e] <;> decide
theorem l2_e {x P g : Int} {s : Nat → Int} (h : WH x s P) (w : Wd) : ∃ r, f_O_lateTwo x g w = some (r, w) ∧ B10 r (sy2 P s g) := by
  unfold f_O_lateTwo
  by_cases hg : g ≤ 2
  · rw [if_pos hg]
    refine ⟨0, rfl, b10_w b10_0 (fun k hk => ?_)⟩
    unfold sy2
    rw [decide_eq_false (show ¬ 2 < g by omega), Bool.and_false, Bool.and_false]
  · rw [if_neg hg]
    refine ⟨_, rfl, b10_m (fun k hk => ?_)⟩
    rw [bt_and, bt_not _ (by omega), wh_10 h hk, (h.2.1 k hk).1]
    unfold sy2
    rw [decide_eq_true (show 2 < g by omega), Bool.and_true]
    cases hp : inP P k with
    | false => rfl
    | true =>
      have h2 := h.2.2 k (inP_t hp)
      rcases v5 h2 with e | e | e | e | e <;> rw [e] <;> decide
def sty (P : Int) (s : Nat → Int) (g : Int) (k : Nat) : Bool := gs P s k && decide (s k < g)
theorem sty_e {P g : Int} {s : Nat → Int} (hg : g ≤ 3) (k : Nat) : (sy1 P s g k || sy2 P s g k) = sty P s g k := by
  unfold sy1 sy2 sty gs
  cases inP P k with
  | false => rfl
  | true =>
    by_cases e1 : s k = 1
    · rw [e1]; by_cases c : 1 < g
      · rw [decide_eq_true c]; rfl
      · rw [decide_eq_false c]; rfl
    · by_cases e2 : s k = 2
      · rw [e2]; by_cases c : 2 < g
        · rw [decide_eq_true c]; rfl
        · rw [decide_eq_false c]; rfl
      · have b1 : (s k == 1) = false := beq_eq_false_iff_ne.mpr e1
        have b2 : (s k == 2) = false := beq_eq_false_iff_ne.mpr e2
        rw [b1, b2]
        by_cases e3 : 1 ≤ s k ∧ s k < 4
        · rw [decide_eq_false (show ¬ s k < g by omega), Bool.and_false]; rfl
        · have : gst (s k) = false := decide_eq_false e3
          rw [this]; rfl
theorem stay_e {x P g : Int} {s : Nat → Int} (h : WH x s P) (hg : g ≤ 3) (w : Wd) : ∃ r, f_O_stay x g w = some (r, w) ∧ B10 r (sty P s g) := by
  obtain ⟨r1, e1, b1⟩ := l1_e (g := g) h w
  obtain ⟨r2, e2, b2⟩ := l2_e (g := g) h w
  refine ⟨ior r1 r2, ?_, b10_w (b10_or b1 b2) (fun k _ => sty_e hg k)⟩
  unfold f_O_stay
  rw [e1, jc_s, e2, jc_s]
/-- of each behind a WEEK in which some bring or are brought -/
def nis (P : Int) (s : Nat → Int) (g : Int) (mv : Nat → Bool) (k : Nat) : Int := if mv k then 1 else if gst (s k) then (if s k < g then s k + 1 else 4) else s k
theorem nis_rg {P g : Int} {s : Nat → Int} {mv : Nat → Bool} {k : Nat} (hg : g ≤ 3) (h : 0 ≤ s k ∧ s k ≤ 4) : 0 ≤ nis P s g mv k ∧ nis P s g mv k ≤ 4 := by
  unfold nis
  split
  · decide
  · split
    · split <;> omega
    · exact h
theorem bt_shl_k {x : Int} {i : Nat} (hi : i ≤ 20) (hx : 0 ≤ x ∧ x ≤ 1023) {k : Nat} (hk : k < 32) : bt (ishl x (i : Int)) k = (decide (i ≤ k) && bt x (k - i)) := by
  have hh : (List.range 32).all (fun k => decide (((Int32.ofInt (k : Int) &&& 31).toBitVec.smod 32).toNat = k)) = true := by decide +kernel
  have h2 := of_decide_eq_true (List.all_eq_true.mp hh i (List.mem_range.mpr (by omega)))
  unfold bt ishl
  rw [Int32.ofInt_toInt, Int32.toBitVec_shiftLeft, BitVec.shiftLeft_eq', h2, BitVec.getLsbD_shiftLeft, decide_eq_true hk, Bool.true_and]
  by_cases c : k < i
  · rw [decide_eq_true c, decide_eq_false (show ¬ i ≤ k by omega)]; rfl
  · rw [decide_eq_false c, decide_eq_true (show i ≤ k by omega)]; rfl
theorem jl_e {α : Type} {x : Int} {f : Int → α} : jlet x f = f x := rfl
theorem ish10 {y : Int} (h : 0 ≤ y ∧ y ≤ 1023) : ishl y 10 = y * 1024 := ishl_k 10 (by rfl) (by decide) (by decide) h.1 (by omega) (by omega)
theorem ish20 {y : Int} (h : 0 ≤ y ∧ y ≤ 1023) : ishl y 20 = y * 1048576 := ishl_k 20 (by rfl) (by decide) (by decide) h.1 (by omega) (by omega)
theorem mix_rg {a b c : Int} (ha : 0 ≤ a ∧ a ≤ 1023) (hb : 0 ≤ b ∧ b ≤ 1023) (hc : 0 ≤ c ∧ c ≤ 1023) : 0 ≤ ior (ior a (ishl b 10)) (ishl c 20) ∧ ior (ior a (ishl b 10)) (ishl c 20) < 1073741824 := by
  have m1 := ish10 hb
  have m2 := ish20 hc
  have n1 := ior_n 20 (x := a) (y := ishl b 10) (m := 1048575) (by decide) (by decide) (by omega) (by omega)
  have n2 := ior_n 30 (x := ior a (ishl b 10)) (y := ishl c 20) (m := 1073741823) (by decide) (by decide) (by omega) (by omega)
  omega
theorem after_e {x P g v : Int} {s : Nat → Int} {mv : Nat → Bool} (h : WH x s P) (hP : 0 ≤ P ∧ P ≤ 10) (hg : 1 ≤ g ∧ g ≤ 3) (hm : B10 v mv) (ho : ∀ k, k < 10 → mv k = true → (k : Int) < P ∧ s k ≠ 4) (w : Wd) : ∃ r, f_O_after x v g w = some (r, w) ∧ WH r (nis P s g mv) P := by
  obtain ⟨r1, e1, b1⟩ := l1_e (g := g) h w
  obtain ⟨r2, e2, b2⟩ := l2_e (g := g) h w
  obtain ⟨r3, e3, b3⟩ := oo_e h w
  obtain ⟨r4, e4, b4⟩ := og_e h w
  have x3 := b10_andn b1 hm.2
  have x6 := b10_andn b2 hm.2
  have x36 := b10_or x3 x6
  have xo := b10_or b3 (b10_andn b4 (b10_or (b10_or hm x3) x6).2)
  have lo := b10_or hm x6
  have eq : f_O_after x v g w = some (ior (ior (ior v (iand r2 (ixor v (-1)))) (ishl (ior (iand r1 (ixor v (-1))) (iand r2 (ixor v (-1)))) 10)) (ishl (ior r3 (iand r4 (ixor (ior (ior v (iand r1 (ixor v (-1)))) (iand r2 (ixor v (-1)))) (-1)))) 20), w) := by
    unfold f_O_after
    rw [e1, jc_s, jl_e, e2, jc_s, jl_e, e3, jc_s, e4, jc_s, jl_e]
  refine ⟨_, eq, ?_⟩
  clear eq
  generalize iand r1 (ixor v (-1)) = y3 at x3 x6 x36 xo lo ⊢
  generalize iand r2 (ixor v (-1)) = y6 at x3 x6 x36 xo lo ⊢
  generalize ior r3 (iand r4 (ixor (ior (ior v y3) y6) (-1))) = yo at xo ⊢
  generalize ior v y6 = yl at lo ⊢
  generalize ior y3 y6 = yh at x36 ⊢
  refine ⟨mix_rg lo.1 x36.1 xo.1, fun k hk => ?_, fun k hk => nis_rg hg.2 (h.2.2 k hk)⟩
  have c1 : ∀ j, j < 30 → bt (ior (ior yl (ishl yh 10)) (ishl yo 20)) j = (bt yl j || (decide (10 ≤ j) && bt yh (j - 10)) || (decide (20 ≤ j) && bt yo (j - 20))) := fun j hj => by
    rw [bt_or, bt_or]
    have a1 := bt_shl_k (i := 10) (by decide) x36.1 (k := j) (by omega)
    have a2 := bt_shl_k (i := 20) (by decide) xo.1 (k := j) (by omega)
    rw [show ((10 : Nat) : Int) = 10 from rfl] at a1
    rw [show ((20 : Nat) : Int) = 20 from rfl] at a2
    rw [a1, a2]
  have hs : inP P k = true → 0 ≤ s k ∧ s k ≤ 4 := fun hp => h.2.2 k (inP_t hp)
  have hp0 : inP P k = false → mv k = false := fun hp => by
    cases hm2 : mv k with
    | false => rfl
    | true => have := (ho k hk hm2).1; rw [show inP P k = true from decide_eq_true this] at hp; cases hp
  have hg3 : g = 1 ∨ g = 2 ∨ g = 3 := by omega
  refine ⟨?_, ?_, ?_⟩
  · rw [c1 k (by omega), decide_eq_false (show ¬ 10 ≤ k by omega), decide_eq_false (show ¬ 20 ≤ k by omega), lo.2 k hk, Bool.false_and, Bool.false_and, Bool.or_false, Bool.or_false]
    unfold nis sy2
    dsimp only
    cases hp : inP P k with
    | false => rw [hp0 hp]; rfl
    | true =>
      cases hm2 : mv k with
      | true => rfl
      | false =>
        rcases v5 (hs hp) with e | e | e | e | e <;> rcases hg3 with e2 | e2 | e2 <;> rw [e, e2] <;> decide
  · rw [c1 (10 + k) (by omega), bt_hi lo.1 (by omega), decide_eq_true (show 10 ≤ 10 + k by omega), decide_eq_false (show ¬ 20 ≤ 10 + k by omega), show 10 + k - 10 = k by omega, x36.2 k hk, Bool.false_and, Bool.or_false, Bool.false_or, Bool.true_and]
    unfold nis sy1 sy2
    dsimp only
    cases hp : inP P k with
    | false => rfl
    | true =>
      cases hm2 : mv k with
      | true => simp
      | false =>
        rcases v5 (hs hp) with e | e | e | e | e <;> rcases hg3 with e2 | e2 | e2 <;> rw [e, e2] <;> decide
  · rw [c1 (20 + k) (by omega), bt_hi lo.1 (by omega), decide_eq_true (show 20 ≤ 20 + k by omega), show 20 + k - 20 = k by omega, bt_hi x36.1 (by omega), xo.2 k hk, Bool.and_false, Bool.false_or, Bool.false_or, Bool.true_and]
    unfold nis sy1 sy2 ou gs
    dsimp only
    cases hp : inP P k with
    | false => rfl
    | true =>
      cases hm2 : mv k with
      | true =>
        have := (ho k hk hm2).2
        rw [show (s k == 4) = false from beq_eq_false_iff_ne.mpr this]
        simp
      | false =>
        rcases v5 (hs hp) with e | e | e | e | e <;> rcases hg3 with e2 | e2 | e2 <;> rw [e, e2] <;> decide
/-! SETS THAT THE REFERENCE COUNTS OUT -/
theorem wsucc {v P : Int} (h : 0 ≤ v ∧ v < P) (hP : P ≤ 10000) : w32 (v + 1) = v + 1 := w32_id (by omega)
theorem b10_step {x v : Int} {f : Nat → Bool} (hv : 0 ≤ v ∧ v ≤ 9) (hx : B10 x (fun k => decide ((k : Int) < v) && f k)) : B10 (ior x (if f v.toNat = true then ishl 1 v else 0)) (fun k => decide ((k : Int) < v + 1) && f k) := by
  have key : ∀ k : Nat, k < 10 → ((decide ((k : Int) < v) && f k) || (decide (k = v.toNat) && f v.toNat)) = (decide ((k : Int) < v + 1) && f k) := by
    intro k hk
    by_cases c : k = v.toNat
    · rw [c, decide_eq_false (show ¬ ((v.toNat : Nat) : Int) < v by omega), decide_eq_true (show ((v.toNat : Nat) : Int) < v + 1 by omega), decide_eq_true rfl]
      rfl
    · rw [decide_eq_false c]
      by_cases c2 : (k : Int) < v
      · rw [decide_eq_true c2, decide_eq_true (show (k : Int) < v + 1 by omega)]; simp
      · rw [decide_eq_false c2, decide_eq_false (show ¬ (k : Int) < v + 1 by omega)]; rfl
  cases hf : f v.toNat with
  | true =>
    rw [if_pos rfl]
    refine b10_w (b10_or hx (b10_1 hv)) (fun k hk => ?_)
    rw [← key k hk, hf, Bool.and_true]
  | false =>
    rw [if_neg (by decide)]
    refine b10_w (b10_or hx b10_0) (fun k hk => ?_)
    rw [← key k hk, hf, Bool.and_false]
theorem th_e {lo hi P : Int} {w : Wd} (hP : 0 ≤ P ∧ P ≤ 10) (h0 : w 43 0 = P) : ∀ (n : Nat) {v3 v4 : Int}, 0 ≤ v4 → v4 ≤ P → B10 v3 (fun k => decide ((k : Int) < v4) && decide (lo ≤ w 47 k ∧ w 47 k ≤ hi)) → PC (f_R_those_5 n lo hi v3 v4 w) (fun r u => u = w ∧ B10 r (fun k => inP P k && decide (lo ≤ w 47 k ∧ w 47 k ≤ hi))) := by
  intro n
  induction n with
  | zero => intros; exact pc_none
  | succ n ih =>
    intro v3 v4 i4 i5 hB
    rw [f_R_those_5, h0]
    refine pc_ite (fun c => ?_) (fun c => ?_)
    · have e : v4 = P := by omega
      subst e
      exact pc_some ⟨rfl, hB⟩
    · refine pc_gd (fun _ => ?_)
      rw [in_e, jc_s]
      have hs := b10_step (by omega) hB
      have nx : ∀ s : Int, s = (if decide (lo ≤ w 47 v4.toNat ∧ w 47 v4.toNat ≤ hi) = true then ishl 1 v4 else 0) → PC (f_R_those_38 (f_R_those_5 n) lo hi v4 v3 s w) (fun r u => u = w ∧ B10 r (fun k => inP P k && decide (lo ≤ w 47 k ∧ w 47 k ≤ hi))) := by
        intro s e
        unfold f_R_those_38
        refine pc_let (fun x3 e3 => ?_)
        refine pc_let (fun x4 e4 => ?_)
        rw [wsucc (P := P) (by omega) (by omega)] at e4
        refine ih (by omega) (by omega) ?_
        rw [e3, e4, e]; exact hs
      by_cases c2 : lo ≤ w 47 v4.toNat ∧ w 47 v4.toNat ≤ hi
      · rw [if_pos c2]
        refine pc_ite (fun h => absurd h (by decide)) (fun _ => nx _ ?_)
        rw [if_pos (decide_eq_true c2)]
      · rw [if_neg c2]
        refine pc_ite (fun _ => nx _ ?_) (fun h => absurd rfl h)
        rw [decide_eq_false c2]; rfl
theorem those_e {lo hi : Int} {w : Wd} (hP : 0 ≤ w 43 0 ∧ w 43 0 ≤ 10) : PC (f_R_those lo hi w) (fun r u => u = w ∧ B10 r (fun k => inP (w 43 0) k && decide (lo ≤ w 47 k ∧ w 47 k ≤ hi))) := by
  unfold f_R_those
  refine th_e hP rfl FU (by decide) hP.1 (b10_w b10_0 (fun k _ => ?_))
  rw [decide_eq_false (show ¬ (k : Int) < 0 by omega)]; rfl
theorem rg_e {w : Wd} (hP : 0 ≤ w 43 0 ∧ w 43 0 ≤ 10) : PC (f_R_guests w) (fun r u => u = w ∧ B10 r (gs (w 43 0) (w 47))) := by
  unfold f_R_guests
  refine pc_call (those_e hP) (fun r u q => pc_some ⟨q.1, b10_w q.2 (fun k _ => ?_)⟩)
  unfold gs gst
  by_cases c : 1 ≤ w 47 k ∧ w 47 k ≤ 3
  · rw [decide_eq_true c, decide_eq_true (show 1 ≤ w 47 k ∧ w 47 k < 4 by omega)]
  · rw [decide_eq_false c, decide_eq_false (show ¬ (1 ≤ w 47 k ∧ w 47 k < 4) by omega)]
theorem rs0_e {w : Wd} (hP : 0 ≤ w 43 0 ∧ w 43 0 ≤ 10) : PC (f_R_those 0 0 w) (fun r u => u = w ∧ B10 r (sr (w 43 0) (w 47))) := by
  refine pc_w (those_e hP) (fun r u q => ⟨q.1, b10_w q.2 (fun k _ => ?_)⟩)
  unfold sr
  by_cases c : w 47 k = 0
  · rw [decide_eq_true (show 0 ≤ w 47 k ∧ w 47 k ≤ 0 by omega), c]; rfl
  · rw [decide_eq_false (show ¬ (0 ≤ w 47 k ∧ w 47 k ≤ 0) by omega), beq_eq_false_iff_ne.mpr c]
def hB (P : Int) (h : Nat → Int) (k : Nat) : Bool := inP P k && !(h k == 0)
theorem hid_e {P : Int} {w : Wd} (hP : 0 ≤ P ∧ P ≤ 10) (h0 : w 43 0 = P) : ∀ (n : Nat) {v1 v2 : Int}, 0 ≤ v2 → v2 ≤ P → B10 v1 (fun k => decide ((k : Int) < v2) && !(w 46 k == 0)) → PC (f_R_hidden_4 n v1 v2 w) (fun r u => u = w ∧ B10 r (hB P (w 46))) := by
  intro n
  induction n with
  | zero => intros; exact pc_none
  | succ n ih =>
    intro v1 v2 i4 i5 hB1
    rw [f_R_hidden_4, h0]
    refine pc_ite (fun c => ?_) (fun c => ?_)
    · have e : v2 = P := by omega
      subst e
      exact pc_some ⟨rfl, hB1⟩
    · refine pc_gd (fun _ => ?_)
      have hs := b10_step (f := fun k => !(w 46 k == 0)) (by omega) hB1
      have nx : ∀ s : Int, s = (if (!(w 46 v2.toNat == 0)) = true then ishl 1 v2 else 0) → PC (f_R_hidden_29 (f_R_hidden_4 n) v2 v1 s w) (fun r u => u = w ∧ B10 r (hB P (w 46))) := by
        intro s e
        unfold f_R_hidden_29
        refine pc_let (fun x3 e3 => ?_)
        refine pc_let (fun x4 e4 => ?_)
        rw [wsucc (P := P) (by omega) (by omega)] at e4
        refine ih (by omega) (by omega) ?_
        rw [e3, e4, e]; exact hs
      by_cases c2 : w 46 v2.toNat = 0
      · refine pc_ite (fun _ => nx _ ?_) (fun h => absurd c2 h)
        rw [c2]; rfl
      · refine pc_ite (fun h => absurd h c2) (fun _ => nx _ ?_)
        rw [beq_eq_false_iff_ne.mpr c2]; rfl
theorem hidden_e {w : Wd} (hP : 0 ≤ w 43 0 ∧ w 43 0 ≤ 10) : PC (f_R_hidden w) (fun r u => u = w ∧ B10 r (hB (w 43 0) (w 46))) := by
  unfold f_R_hidden
  refine hid_e hP rfl FU (by decide) hP.1 (b10_w b10_0 (fun k _ => ?_))
  rw [decide_eq_false (show ¬ (k : Int) < 0 by omega)]; rfl
def fre (P : Int) (s h : Nat → Int) (k : Nat) : Bool := sr P s k && !hB P h k
theorem rfree_e {w : Wd} (hP : 0 ≤ w 43 0 ∧ w 43 0 ≤ 10) : PC (f_R_free w) (fun r u => u = w ∧ B10 r (fre (w 43 0) (w 47) (w 46))) := by
  unfold f_R_free
  refine pc_call (rs0_e hP) (fun r1 u2 q => ?_)
  rw [q.1]
  refine pc_call (hidden_e hP) (fun r3 u4 p => pc_some ⟨p.1, b10_andn q.2 p.2.2⟩)
/-! SETS THAT THE CLASS HAS -/
theorem eall_e {w : Wd} (hP : 0 ≤ w 5 3 ∧ w 5 3 ≤ 10) : ∃ r, f_F_everybody w = some (r, w) ∧ B10 r (inP (w 5 3)) := ⟨_, rfl, b10_all hP⟩
theorem eg_e {w : Wd} {P : Int} {s : Nat → Int} (h : WH (w 5 4) s P) : PC (f_F_guests w) (fun r u => u = w ∧ B10 r (gs P s)) := by
  unfold f_F_guests
  obtain ⟨r, e, b⟩ := og_e h w
  rw [e, jc_s]
  exact pc_some ⟨rfl, b⟩
theorem es_e {w : Wd} {P : Int} {s : Nat → Int} (h : WH (w 5 4) s P) (hP : 0 ≤ P ∧ P ≤ 10) (h3 : w 5 3 = P) : PC (f_F_strangers w) (fun r u => u = w ∧ B10 r (sr P s)) := by
  unfold f_F_strangers
  obtain ⟨r, e, b⟩ := eall_e (w := w) (by omega)
  rw [e, jc_s]
  unfold f_O_known
  rw [jc_s]
  refine pc_some ⟨rfl, b10_w (b10_andn b (wh_kn h).2) (fun k _ => ?_)⟩
  rw [h3]
  unfold sr
  cases inP P k with
  | false => rfl
  | true => cases (s k == 0) <;> rfl
theorem ef_e {w : Wd} {P : Int} {s h : Nat → Int} (hw : WH (w 5 4) s P) (hP : 0 ≤ P ∧ P ≤ 10) (h3 : w 5 3 = P) (h5 : B10 (w 5 5) (hB P h)) : PC (f_F_free w) (fun r u => u = w ∧ B10 r (fre P s h)) := by
  unfold f_F_free
  refine pc_call (es_e hw hP h3) (fun r1 u2 q => ?_)
  rw [q.1]
  exact pc_some ⟨rfl, b10_andn q.2 h5.2⟩
theorem ega_e {w : Wd} {P v : Int} {s : Nat → Int} {mv : Nat → Bool} (hw : WH (w 5 4) s P) (hg : w 5 7 ≤ 3) (hv : B10 v mv) : PC (f_F_guestsAfter v w) (fun r u => u = w ∧ r = ((pn (fun k => sty P s (w 5 7) k || mv k) 10 : Nat) : Int)) := by
  unfold f_F_guestsAfter
  obtain ⟨r, e, b⟩ := stay_e hw hg w
  rw [e, jc_s, bcs_e (b10_or b hv) w, jc_s]
  exact pc_some ⟨rfl, rfl⟩
/-- whom some know together -/
def kbn (kn : Nat → Int) (f : Nat → Bool) : Nat → Nat → Bool
  | 0, _ => false
  | n + 1, q => kbn kn f n q || (f n && bt (kn n) q)
theorem kbn_0 {kn : Nat → Int} {f : Nat → Bool} {q : Nat} : ∀ {n : Nat}, (∀ k, k < n → f k = false) → kbn kn f n q = false := by
  intro n
  induction n with
  | zero => intro _; rfl
  | succ n ih => intro h; rw [kbn, ih (fun k hk => h k (by omega)), h n (by omega)]; rfl
theorem kbn_1 {kn : Nat → Int} {i q : Nat} : ∀ {n : Nat}, i < n → kbn kn (fun k => decide (k = i)) n q = bt (kn i) q := by
  intro n
  induction n with
  | zero => intro h; omega
  | succ n ih =>
    intro h
    rw [kbn]
    by_cases c : n = i
    · rw [kbn_0 (fun k hk => decide_eq_false (show ¬ k = i by omega)), decide_eq_true c, c]; rfl
    · rw [ih (by omega), decide_eq_false c]; simp
theorem kb_e {x P : Int} {f : Nat → Bool} {w : Wd} (hP : 0 ≤ P ∧ P ≤ 10) (h3 : w 5 3 = P) (hx : ∀ k, k < 10 → bt x k = f k) (h7 : ∀ j : Nat, (j : Int) < P → (0 : Int) ≤ w 7 j ∧ w 7 j ≤ 1023) : ∀ (n : Nat) {v2 v3 : Int}, 0 ≤ v3 → v3 ≤ P → B10 v2 (kbn (w 7) f v3.toNat) → PC (f_F_knownBy_4 n x v2 v3 w) (fun r u => u = w ∧ B10 r (kbn (w 7) f P.toNat)) := by
  intro n
  induction n with
  | zero => intros; exact pc_none
  | succ n ih =>
    intro v2 v3 i3 i4 hB1
    rw [f_F_knownBy_4, h3]
    refine pc_ite (fun c => ?_) (fun c => ?_)
    · have e : v3 = P := by omega
      subst e
      exact pc_some ⟨rfl, hB1⟩
    · rw [hasE_e w (by omega), jc_s, hx _ (by omega)]
      have nx : ∀ s : Int, B10 s (fun q => f v3.toNat && bt (w 7 v3.toNat) q) → PC (f_F_knownBy_31 (f_F_knownBy_4 n) x v3 v2 s w) (fun r u => u = w ∧ B10 r (kbn (w 7) f P.toNat)) := by
        intro s e
        unfold f_F_knownBy_31
        refine pc_let (fun x3 e3 => ?_)
        refine pc_let (fun x4 e4 => ?_)
        rw [wsucc (P := P) (by omega) (by omega)] at e4
        refine ih (by omega) (by omega) ?_
        rw [e3, e4, show (v3 + 1).toNat = v3.toNat + 1 by omega]
        exact b10_or hB1 e
      cases hf : f v3.toNat with
      | true =>
        refine pc_ite (fun h => absurd h (by decide)) (fun _ => ?_)
        refine pc_gd (fun _ => nx _ ?_)
        rw [hf]
        exact b10_w (b10_self (h7 v3.toNat (by omega))) (fun k _ => by rw [Bool.true_and])
      | false =>
        refine pc_ite (fun _ => nx 0 ?_) (fun h => absurd rfl h)
        rw [hf]
        exact b10_w b10_0 (fun k _ => by rw [Bool.false_and])
theorem knb_e {x : Int} {f : Nat → Bool} {w : Wd} (hP : 0 ≤ w 5 3 ∧ w 5 3 ≤ 10) (hx : ∀ k, k < 10 → bt x k = f k) (h7 : ∀ j : Nat, (j : Int) < w 5 3 → (0 : Int) ≤ w 7 j ∧ w 7 j ≤ 1023) : PC (f_F_knownBy x w) (fun r u => u = w ∧ B10 r (kbn (w 7) f (w 5 3).toNat)) := by
  unfold f_F_knownBy
  exact kb_e hP rfl hx h7 FU (by decide) hP.1 b10_0
/-- of one -/
theorem kn1_e {i : Int} {w : Wd} (hP : 0 ≤ w 5 3 ∧ w 5 3 ≤ 10) (hi : 0 ≤ i ∧ i < w 5 3) (h7 : ∀ j : Nat, (j : Int) < w 5 3 → (0 : Int) ≤ w 7 j ∧ w 7 j ≤ 1023) : PC (f_F_knownBy (ishl 1 i) w) (fun r u => u = w ∧ r = w 7 i.toNat) := by
  refine pc_w (knb_e hP (b10_1 (i := i) (by omega)).2 h7) (fun r u q => ⟨q.1, ?_⟩)
  refine b10_eq q.2 (b10_self (h7 i.toNat (by omega))) (fun k _ => ?_)
  exact kbn_1 (by omega)
/-! THE WEEK BEHIND WHICH ONE WAS A GUEST FIRST -/
def fw (f : Nat → Int) (j : Nat) : Nat → Int
  | 0 => -1
  | n + 1 => if fw f j n = -1 then (if bt (f n) j = true then (n : Int) else -1) else fw f j n
theorem fw_eq {f g : Nat → Int} {j : Nat} : ∀ {n : Nat}, (∀ t, t < n → f t = g t) → fw f j n = fw g j n := by
  intro n
  induction n with
  | zero => intro _; rfl
  | succ n ih => intro h; rw [fw, fw, ih (fun k hk => h k (by omega)), h n (by omega)]
theorem fw_no {f : Nat → Int} {j : Nat} : ∀ {n : Nat}, (∀ t, t < n → bt (f t) j = false) → fw f j n = -1 := by
  intro n
  induction n with
  | zero => intro _; rfl
  | succ n ih => intro h; rw [fw, if_pos (ih (fun k hk => h k (by omega))), h n (by omega)]; rfl
theorem fw_s {f : Nat → Int} {j n : Nat} (h : bt (f n) j = true) : fw f j (n + 1) = if fw f j n = -1 then (n : Int) else fw f j n := by
  rw [fw, if_pos h]
theorem fw_sf {f : Nat → Int} {j n : Nat} (h : bt (f n) j = false) : fw f j (n + 1) = fw f j n := by
  rw [fw, h]
  by_cases c : fw f j n = -1
  · rw [if_pos c, c]; rfl
  · rw [if_neg c]
/-! WHAT BOTH HAVE IN COMMON: all of who is what, weeks, what is kept -/
def SN (P : Int) (s b f wr : Nat → Int) (wk : Int) : Prop :=
  (∀ j : Nat, (j : Int) < P → s j = 0 → b j = -1 ∧ ∀ t : Nat, (t : Int) ≤ wk → bt (wr t) j = false) ∧ (∀ j : Nat, (j : Int) < P → f j = fw wr j (wk + 1).toNat) ∧ B10 (wr wk.toNat) (gs P s) ∧ ∀ t : Nat, (t : Int) ≤ wk → (0 ≤ wr t ∧ wr t ≤ 1023) ∧ ∀ j : Nat, j < 10 → bt (wr t) j = true → (j : Int) < P
def wki (w : Wd) (t : Nat) : Int := w 43 8 - w 43 32 + t
def UB (w : Wd) : Prop := ∀ t : Nat, (t : Int) < w 43 32 → WH (w 17 (wki w t).toNat) (fun j => w 59 (31 * t + 3 * j)) (w 43 0) ∧ w 18 (wki w t).toNat = w 59 (31 * t + 30) ∧ SN (w 43 0) (fun j => w 59 (31 * t + 3 * j)) (fun j => w 59 (31 * t + 3 * j + 1)) (fun j => w 59 (31 * t + 3 * j + 2)) (w 50) (wki w t) ∧ (∀ j : Nat, (j : Int) < w 43 0 → w 59 (31 * t + 3 * j) ≠ 0 → w 59 (31 * t + 3 * j + 1) = w 48 j ∧ w 47 j ≠ 0) ∧ ∀ t2 : Nat, t ≤ t2 → (t2 : Int) < w 43 32 → ∀ j : Nat, (j : Int) < w 43 0 → w 59 (31 * t + 3 * j) ≠ 0 → w 59 (31 * t2 + 3 * j) ≠ 0
def KBf (w : Wd) (c d g m : Nat) : Prop := w c 2 ≠ 0 → w c 3 = w 5 3 → WH (w c 4) (fun j => w 79 (105 * m + 3 * j)) (w 43 0) ∧ B10 (w c 5) (hB (w 43 0) (fun j => w 79 (105 * m + 31 + j))) ∧ (∀ j : Nat, (j : Int) < w 43 0 → w 79 (105 * m + 31 + j) = 0 ∨ w 79 (105 * m + 31 + j) = 1) ∧ w c 6 = w 79 (105 * m + 30) ∧ (w c 9 = w 79 (105 * m + 43) ∧ 0 ≤ w c 9 ∧ w c 9 ≤ 60) ∧ (∀ j : Nat, (j : Int) < w 43 0 → w d j = w 79 (105 * m + 3 * j + 1)) ∧ (∀ t : Nat, t < 61 → (t : Int) ≤ w c 9 → w g t = w 79 (105 * m + 44 + t)) ∧ SN (w 43 0) (fun j => w 79 (105 * m + 3 * j)) (fun j => w 79 (105 * m + 3 * j + 1)) (fun j => w 79 (105 * m + 3 * j + 2)) (fun t => w 79 (105 * m + 44 + t)) (w c 9) ∧ (1 ≤ w c 7 ∧ w c 7 ≤ 3) ∧ 1 ≤ w c 8 ∧ w c 8 ≤ 10
def PPL (w : Wd) : Prop := ∀ j : Nat, (j : Int) < w 43 0 → w 6 j = w 44 j ∧ w 7 j = w 45 j ∧ w 8 j = w 48 j
def FC (w : Wd) : Prop := CO w ∧ PPL w ∧ B10 (w 5 5) (hB (w 43 0) (w 46)) ∧ WH (w 5 4) (w 47) (w 43 0) ∧ (w 5 6 = w 43 7 ∧ w 15 3 = w 43 8 ∧ w 15 4 = w 43 32) ∧ (∀ t : Nat, (t : Int) ≤ w 43 8 → w 16 t = w 50 t) ∧ SN (w 43 0) (w 47) (w 48) (w 49) (w 50) (w 43 8) ∧ UB w ∧ KBf w 37 38 39 0 ∧ KBf w 40 41 42 1 ∧ (1 ≤ w 43 10 ∧ w 43 10 ≤ 3) ∧ 1 ≤ w 43 11 ∧ w 43 11 ≤ 10
def fcP : List (Nat × Nat) := [(1, 1), (43, 13), (5, 3), (5, 4), (5, 5), (5, 6), (5, 7), (5, 8), (15, 3), (15, 4), (37, 2), (37, 3), (37, 4), (37, 5), (37, 6), (37, 7), (37, 8), (37, 9), (40, 2), (40, 3), (40, 4), (40, 5), (40, 6), (40, 7), (40, 8), (40, 9), (43, 0), (43, 7), (43, 8), (43, 10), (43, 11), (43, 32), (43, 56)]
def fcA : List Nat := [2, 6, 7, 8, 16, 17, 18, 38, 39, 41, 42, 44, 45, 46, 47, 48, 49, 50, 51, 59, 79, 80, 81]
theorem fc_fr {w u : Wd} (h : FC w) (f : FR fcP fcA w u) : FC u := by
  have c0 := co_fr h.1 (fr_sub f (by decide) (by decide))
  have p := f.1
  have p1_1 := p (1, 1) (by decide)
  have p43_13 := p (43, 13) (by decide)
  have p5_3 := p (5, 3) (by decide)
  have p5_4 := p (5, 4) (by decide)
  have p5_5 := p (5, 5) (by decide)
  have p5_6 := p (5, 6) (by decide)
  have p5_7 := p (5, 7) (by decide)
  have p5_8 := p (5, 8) (by decide)
  have p15_3 := p (15, 3) (by decide)
  have p15_4 := p (15, 4) (by decide)
  have p37_2 := p (37, 2) (by decide)
  have p37_3 := p (37, 3) (by decide)
  have p37_4 := p (37, 4) (by decide)
  have p37_5 := p (37, 5) (by decide)
  have p37_6 := p (37, 6) (by decide)
  have p37_7 := p (37, 7) (by decide)
  have p37_8 := p (37, 8) (by decide)
  have p37_9 := p (37, 9) (by decide)
  have p40_2 := p (40, 2) (by decide)
  have p40_3 := p (40, 3) (by decide)
  have p40_4 := p (40, 4) (by decide)
  have p40_5 := p (40, 5) (by decide)
  have p40_6 := p (40, 6) (by decide)
  have p40_7 := p (40, 7) (by decide)
  have p40_8 := p (40, 8) (by decide)
  have p40_9 := p (40, 9) (by decide)
  have p43_0 := p (43, 0) (by decide)
  have p43_7 := p (43, 7) (by decide)
  have p43_8 := p (43, 8) (by decide)
  have p43_10 := p (43, 10) (by decide)
  have p43_11 := p (43, 11) (by decide)
  have p43_32 := p (43, 32) (by decide)
  have p43_56 := p (43, 56) (by decide)
  have a2 := f.2 2 (by decide)
  have a6 := f.2 6 (by decide)
  have a7 := f.2 7 (by decide)
  have a8 := f.2 8 (by decide)
  have a16 := f.2 16 (by decide)
  have a17 := f.2 17 (by decide)
  have a18 := f.2 18 (by decide)
  have a38 := f.2 38 (by decide)
  have a39 := f.2 39 (by decide)
  have a41 := f.2 41 (by decide)
  have a42 := f.2 42 (by decide)
  have a44 := f.2 44 (by decide)
  have a45 := f.2 45 (by decide)
  have a46 := f.2 46 (by decide)
  have a47 := f.2 47 (by decide)
  have a48 := f.2 48 (by decide)
  have a49 := f.2 49 (by decide)
  have a50 := f.2 50 (by decide)
  have a51 := f.2 51 (by decide)
  have a59 := f.2 59 (by decide)
  have a79 := f.2 79 (by decide)
  have a80 := f.2 80 (by decide)
  have a81 := f.2 81 (by decide)

  refine ⟨c0, ?_⟩
  unfold PPL UB KBf wki
  rw [p5_3, p5_4, p5_5, p5_6, p15_3, p15_4, p37_2, p37_3, p37_4, p37_5, p37_6, p37_7, p37_8, p37_9, p40_2, p40_3, p40_4, p40_5, p40_6, p40_7, p40_8, p40_9, p43_0, p43_7, p43_8, p43_10, p43_11, p43_32, a6, a7, a8, a16, a17, a18, a38, a39, a41, a42, a44, a45, a46, a47, a48, a49, a50, a59, a79]
  exact h.2
/-! WHAT THE LAND'S LINES TELL -/
def lk (s : Int → Int) (num : Int) : Nat → Int → Int → Int
  | 0, _, acc => acc
  | k + 1, p, acc => if s p = 97 + (num - ((k : Int) + 1)) then lk s num k (p + 1) (ior acc (ishl 1 (num - ((k : Int) + 1)))) else lk s num k p acc
theorem ior0 {x : Int} (h : -2147483648 ≤ x ∧ x ≤ 2147483647) : ior x 0 = x :=
  ext32 (ior_rg _ _) h (fun k _ => by rw [bt_or, bt_0, Bool.or_false])
theorem lk_none {s : Int → Int} {num : Int} : ∀ (k : Nat) {p acc : Int}, (∀ x : Int, num - k ≤ x → x < num → s p ≠ 97 + x) → lk s num k p acc = acc := by
  intro k
  induction k with
  | zero => intro p acc _; rfl
  | succ k ih =>
    intro p acc h
    rw [lk, if_neg (h _ (by omega) (by omega))]
    exact ih (fun x h1 h2 => h x (by omega) h2)
theorem lk_skip {s : Int → Int} {num x p : Int} (hx : s p = 97 + x) (h2 : x < num) : ∀ (k : Nat) {acc : Int}, num - k ≤ x → lk s num k p acc = lk s num (num - x - 1).toNat (p + 1) (ior acc (ishl 1 x)) := by
  intro k
  induction k with
  | zero => intro acc h; omega
  | succ k ih =>
    intro acc h
    rw [lk]
    by_cases e : x = num - ((k : Int) + 1)
    · rw [if_pos (by omega), show (num - x - 1).toNat = k by omega, e]
    · rw [if_neg (by omega)]
      exact ih (by omega)
theorem lk_rg {s : Int → Int} {num : Int} (hn : num ≤ 9) : ∀ (k : Nat) {p acc : Int}, (k : Int) ≤ num → (0 ≤ acc ∧ acc ≤ 1023) → (∀ q, q < 10 → bt acc q = true → (q : Int) < num) → (0 ≤ lk s num k p acc ∧ lk s num k p acc ≤ 1023) ∧ ∀ q, q < 10 → bt (lk s num k p acc) q = true → (q : Int) < num := by
  intro k
  induction k with
  | zero => intro p acc _ h1 h2; exact ⟨h1, h2⟩
  | succ k ih =>
    intro p acc hk h1 h2
    rw [lk]
    by_cases c : s p = 97 + (num - ((k : Int) + 1))
    · rw [if_pos c]
      have b := b10_or (b10_self h1) (b10_1 (i := num - ((k : Int) + 1)) (by omega))
      refine ih (by omega) b.1 (fun q hq hb => ?_)
      rw [b.2 q hq, Bool.or_eq_true] at hb
      rcases hb with hb | hb
      · exact h2 q hq hb
      · have := of_decide_eq_true hb; omega
    · rw [if_neg c]; exact ih (by omega) h1 h2
def le1 (s : Int → Int) (num q : Int) : Int := lt s num num.toNat (q + 1)
def lp (s : Int → Int) (a : Int) : Nat → Int
  | 0 => 0
  | i + 1 => en s (a + i) (lp s a i) + 1
def lpr (s : Int → Int) (a : Int) (i : Nat) : Int := s (lp s a i) - 48
def lkn (s : Int → Int) (a : Int) (i : Nat) : Int := lk s (a + i) (a + i).toNat (lp s a i + 1) 0
def lgs (s : Int → Int) (a : Int) (i : Nat) : Bool := decide (s (le1 s (a + i) (lp s a i)) = 33)
def lhi (s : Int → Int) (a : Int) (i : Nat) : Bool := decide (s (if s (le1 s (a + i) (lp s a i)) = 33 then le1 s (a + i) (lp s a i) + 1 else le1 s (a + i) (lp s a i)) = 63)
theorem lkn_rg {s : Int → Int} {a : Int} {i : Nat} (h : 0 ≤ a ∧ a + i ≤ 9) : (0 ≤ lkn s a i ∧ lkn s a i ≤ 1023) ∧ ∀ q, q < 10 → bt (lkn s a i) q = true → (q : Int) < a + i :=
  lk_rg (by omega) _ (by omega) (by decide) (fun q _ hb => by rw [bt_0] at hb; cases hb)
/-! the class reads: what stands in its lines -/
def ECt (s : Int → Int) (a : Int) (j : Nat) (w : Wd) : Prop := (∀ i : Nat, i < j → w 10 i = lpr s a i ∧ w 11 i = lkn s a i) ∧ B10 (w 9 2) (fun k => decide (a ≤ k ∧ (k : Int) < a + j) && lgs s a ((k : Int) - a).toNat) ∧ B10 (w 9 3) (fun k => decide (a ≤ k ∧ (k : Int) < a + j) && lhi s a ((k : Int) - a).toNat)
theorem b10_line {x a : Int} {j : Nat} {f : Nat → Bool} (h : 0 ≤ a ∧ a + j ≤ 9) (hx : B10 x (fun k => decide (a ≤ k ∧ (k : Int) < a + j) && f ((k : Int) - a).toNat)) : B10 (ior x (if f j = true then ishl 1 (a + j) else 0)) (fun k => decide (a ≤ k ∧ (k : Int) < a + ((j + 1 : Nat) : Int)) && f ((k : Int) - a).toNat) := by
  have key : ∀ k : Nat, k < 10 → ((decide (a ≤ k ∧ (k : Int) < a + j) && f ((k : Int) - a).toNat) || (decide (k = (a + j).toNat) && f j)) = (decide (a ≤ k ∧ (k : Int) < a + ((j + 1 : Nat) : Int)) && f ((k : Int) - a).toNat) := by
    intro k hk
    by_cases c : k = (a + j).toNat
    · rw [decide_eq_false (show ¬ (a ≤ (k : Int) ∧ (k : Int) < a + j) by omega), decide_eq_true (show a ≤ (k : Int) ∧ (k : Int) < a + ((j + 1 : Nat) : Int) by omega), decide_eq_true c, show ((k : Int) - a).toNat = j by omega]
      rfl
    · rw [decide_eq_false c]
      by_cases c2 : a ≤ (k : Int) ∧ (k : Int) < a + j
      · rw [decide_eq_true c2, decide_eq_true (show a ≤ (k : Int) ∧ (k : Int) < a + ((j + 1 : Nat) : Int) by omega)]; simp
      · rw [decide_eq_false c2, decide_eq_false (show ¬ (a ≤ (k : Int) ∧ (k : Int) < a + ((j + 1 : Nat) : Int)) by omega)]; rfl
  cases hf : f j with
  | true =>
    rw [if_pos rfl]
    refine b10_w (b10_or hx (b10_1 (i := a + j) (by omega))) (fun k hk => ?_)
    rw [← key k hk, hf, Bool.and_true]
  | false =>
    rw [if_neg (by decide)]
    refine b10_w (b10_or hx b10_0) (fun k hk => ?_)
    rw [← key k hk, hf, Bool.and_false]
/-- behind the letters: both marks -/
theorem m137 {n0 : Int} {f0 z0 : Nat → Int} {num : Int} {w : Wd} {s1 s2 : Int} (h : EV n0 f0 z0 w) (h5 : 0 ≤ w 9 5 ∧ w 9 5 ≤ 76) (h4 : 0 ≤ w 9 4 ∧ w 9 4 ≤ 9) : PC (f_L_readLine_137 num s1 s2 w) (fun r u => r = 1 ∧ EV n0 f0 z0 u ∧ u 9 4 = w 9 4 + 1 ∧ u 9 5 = (if sE n0 f0 (w 9 5) = 63 then w 9 5 + 1 else w 9 5) ∧ u 10 = w 10 ∧ u 11 = w 11 ∧ u 9 2 = ior s1 s2 ∧ u 9 3 = ior (w 9 3) (if sE n0 f0 (w 9 5) = 63 then ishl 1 num else 0)) := by
  have k163 : ∀ {u : Wd} {s1 s2 : Int}, EV n0 f0 z0 u → u 9 4 = w 9 4 → PC (f_L_readLine_163 s1 s2 u) (fun r u' => r = 1 ∧ EV n0 f0 z0 u' ∧ u' 9 4 = w 9 4 + 1 ∧ u' 9 5 = u 9 5 ∧ u' 10 = u 10 ∧ u' 11 = u 11 ∧ u' 9 2 = u 9 2 ∧ u' 9 3 = ior s1 s2) := by
    intro u s1 s2 hu e4
    unfold f_L_readLine_163
    refine pc_lw (fun u11 e11 => ?_)
    have t4 : u11 9 4 = w 9 4 := by rw [e11, st_k (by decide)]; exact e4
    have w1 := w32_sp (u11 9 4 + 1)
    refine pc_lw (fun u12 e12 => ?_)
    refine pc_some ⟨rfl, ev_st (ev_st hu e11 (by decide)) e12 (by decide), ?_, ?_, ?_, ?_, ?_, ?_⟩
    · rw [e12, st_eq]; omega
    · rw [e12, st_k (by decide), e11, st_k (by decide)]
    · rw [e12, st_row (by decide), e11, st_row (by decide)]
    · rw [e12, st_row (by decide), e11, st_row (by decide)]
    · rw [e12, st_k (by decide), e11, st_k (by decide)]
    · rw [e12, st_k (by decide), e11, st_eq]
  unfold f_L_readLine_137
  refine pc_lw (fun u8 e8 => ?_)
  have t5 : u8 9 5 = w 9 5 := by rw [e8, st_k (by decide)]
  have t4 : u8 9 4 = w 9 4 := by rw [e8, st_k (by decide)]
  have t3 : u8 9 3 = w 9 3 := by rw [e8, st_k (by decide)]
  have t2 : u8 9 2 = ior s1 s2 := by rw [e8, st_eq]
  have t10 : u8 10 = w 10 := by rw [e8]; exact st_row (by decide)
  have t11 : u8 11 = w 11 := by rw [e8]; exact st_row (by decide)
  have h8 := ev_st h e8 (by decide)
  refine pc_call (tk_pc h8 63 (by omega)) (fun r9 u10 q => ?_)
  rw [t5] at q
  rw [t3]
  rcases q with ⟨q1, q2, q3⟩ | ⟨q1, q2, q3⟩
  · have h10 := ev_st h8 q3 (by decide)
    refine pc_ite (fun h => absurd (q2.symm.trans h) (by decide)) (fun _ => ?_)
    refine pc_w (k163 h10 (by rw [q3, st_k (by decide)]; exact t4)) (fun r u q => ⟨q.1, q.2.1, q.2.2.1, ?_, ?_, ?_, ?_, ?_⟩)
    · rw [if_pos q1, q.2.2.2.1, q3, st_eq]
    · rw [q.2.2.2.2.1, q3, st_row (by decide), t10]
    · rw [q.2.2.2.2.2.1, q3, st_row (by decide), t11]
    · rw [q.2.2.2.2.2.2.1, q3, st_k (by decide), t2]
    · rw [q.2.2.2.2.2.2.2, if_pos q1]
  · rw [q3]
    refine pc_ite (fun _ => ?_) (fun h => absurd q2 h)
    refine pc_w (k163 h8 t4) (fun r u q => ⟨q.1, q.2.1, q.2.2.1, ?_, ?_, ?_, ?_, ?_⟩)
    · rw [if_neg q1, q.2.2.2.1, t5]
    · rw [q.2.2.2.2.1, t10]
    · rw [q.2.2.2.2.2.1, t11]
    · rw [q.2.2.2.2.2.2.1, t2]
    · rw [q.2.2.2.2.2.2.2, if_neg q1]
theorem m70 {n0 : Int} {f0 z0 : Nat → Int} {num j : Int} (hn : 0 ≤ num ∧ num ≤ 9) (hj : 0 ≤ j ∧ j ≤ 9) (pr kn : Nat → Int) (g0 h0 : Int) : ∀ (n : Nat) {w : Wd} {v4 acc : Int} (k : Nat), v4 = num - k → 0 ≤ v4 → EV n0 f0 z0 w → (0 ≤ w 9 5 ∧ w 9 5 ≤ 76) → w 9 4 = j → w 10 = pr → w 11 j.toNat = acc → (0 ≤ acc ∧ acc ≤ 1023) → (∀ i, i ≠ j.toNat → w 11 i = kn i) → w 9 2 = g0 → w 9 3 = h0 → PC (f_L_readLine_70 n num v4 w) (fun _ u => u 10 = pr ∧ (∀ i, i ≠ j.toNat → u 11 i = kn i) ∧ u 11 j.toNat = lk (sE n0 f0) num k (w 9 5) acc ∧ u 9 2 = ior g0 (if sE n0 f0 (lt (sE n0 f0) num k (w 9 5)) = 33 then ishl 1 num else 0) ∧ u 9 3 = ior h0 (if sE n0 f0 (if sE n0 f0 (lt (sE n0 f0) num k (w 9 5)) = 33 then lt (sE n0 f0) num k (w 9 5) + 1 else lt (sE n0 f0) num k (w 9 5)) = 63 then ishl 1 num else 0)) := by
  intro n
  induction n with
  | zero => intros; exact pc_none
  | succ n ih =>
    intro w v4 acc k hk i4 h h5 h4 h10 h11 ha h11o h2 h3
    rw [f_L_readLine_70]
    refine pc_ite (fun hc => ?_) (fun hc => ?_)
    · have k0 : k = 0 := by omega
      subst k0
      have e0 : lt (sE n0 f0) num 0 (w 9 5) = w 9 5 := rfl
      have e1 : lk (sE n0 f0) num 0 (w 9 5) acc = acc := rfl
      rw [e0, e1]
      refine pc_call (tk_pc h 33 h5) (fun r6 u7 q => ?_)
      rcases q with ⟨q1, q2, q3⟩ | ⟨q1, q2, q3⟩
      · have l5 := sE_lt (n := n0) (f := f0) (p := w 9 5) (by omega)
        refine pc_ite (fun h => absurd (q2.symm.trans h) (by decide)) (fun _ => ?_)
        have t5 : u7 9 5 = w 9 5 + 1 := by rw [q3, st_eq]
        have t4 : u7 9 4 = w 9 4 := by rw [q3, st_k (by decide)]
        have t3 : u7 9 3 = w 9 3 := by rw [q3, st_k (by decide)]
        refine pc_w (m137 (ev_st h q3 (by decide)) (by omega) (by omega)) (fun r u q => ?_)
        obtain ⟨_, _, _, _, p10, p11, p2, p3⟩ := q
        rw [if_pos q1, if_pos q1]
        refine ⟨?_, fun i hi => ?_, ?_, ?_, ?_⟩
        · rw [p10, q3, st_row (by decide)]; exact h10
        · rw [p11, q3, st_row (by decide)]; exact h11o i hi
        · rw [p11, q3, st_row (by decide)]; exact h11
        · rw [p2, h2]
        · rw [p3, t3, h3, t5]
      · refine pc_ite (fun _ => ?_) (fun h => absurd q2 h)
        rw [q3]
        refine pc_w (m137 h h5 (by omega)) (fun r u q => ?_)
        obtain ⟨_, _, _, _, p10, p11, p2, p3⟩ := q
        rw [if_neg q1, if_neg q1]
        exact ⟨by rw [p10]; exact h10, fun i hi => by rw [p11]; exact h11o i hi, by rw [p11]; exact h11, by rw [p2, h2], by rw [p3, h3]⟩
    · cases k with
      | zero => exfalso; omega
      | succ k =>
        refine pc_let (fun x13 e13 => ?_)
        refine pc_gd (fun _ => ?_)
        have w1 := w32_sp (97 + v4)
        have e97 : w32 (97 + v4) = 97 + (num - ((k : Int) + 1)) := by omega
        rw [e97]
        have ex : x13.toNat = j.toNat := by omega
        have nx : ∀ {u : Wd} {s3 acc2 : Int}, EV n0 f0 z0 u → (0 ≤ u 9 5 ∧ u 9 5 ≤ 76) → u 9 4 = j → u 10 = pr → (∀ i, i ≠ j.toNat → u 11 i = kn i) → u 9 2 = g0 → u 9 3 = h0 → ior acc s3 = acc2 → (0 ≤ acc2 ∧ acc2 ≤ 1023) → PC (f_L_readLine_107 (f_L_readLine_70 n) num v4 x13 (w 11 x13.toNat) s3 u) (fun _ u' => u' 10 = pr ∧ (∀ i, i ≠ j.toNat → u' 11 i = kn i) ∧ u' 11 j.toNat = lk (sE n0 f0) num k (u 9 5) acc2 ∧ u' 9 2 = ior g0 (if sE n0 f0 (lt (sE n0 f0) num k (u 9 5)) = 33 then ishl 1 num else 0) ∧ u' 9 3 = ior h0 (if sE n0 f0 (if sE n0 f0 (lt (sE n0 f0) num k (u 9 5)) = 33 then lt (sE n0 f0) num k (u 9 5) + 1 else lt (sE n0 f0) num k (u 9 5)) = 63 then ishl 1 num else 0)) := by
          intro u s3 acc2 hu u5 u4 u10 u11 u2 u3 ea ha2
          unfold f_L_readLine_107
          refine pc_gd (fun _ => ?_)
          refine pc_lw (fun u16 e16 => ?_)
          have w2 := w32_sp (v4 + 1)
          refine pc_let (fun x17 e17 => ?_)
          rw [ex, h11, ea] at e16
          have t5 : u16 9 5 = u 9 5 := by rw [e16, st_c (by decide)]
          rw [← t5]
          refine ih k (by omega) (by omega) (ev_st hu e16 (by decide)) (by omega) ?_ ?_ ?_ ha2 (fun i hi => ?_) ?_ ?_
          · rw [e16, st_c (by decide)]; exact u4
          · rw [e16, st_row (by decide)]; exact u10
          · rw [e16, st_eq]
          · rw [e16, st_k hi]; exact u11 i hi
          · rw [e16, st_c (by decide)]; exact u2
          · rw [e16, st_c (by decide)]; exact u3
        refine pc_call (tk_pc h _ h5) (fun r14 u15 q => ?_)
        rcases q with ⟨q1, q2, q3⟩ | ⟨q1, q2, q3⟩
        · have l5 := sE_lt (n := n0) (f := f0) (p := w 9 5) (by omega)
          refine pc_ite (fun h => absurd (q2.symm.trans h) (by decide)) (fun _ => ?_)
          have t5 : u15 9 5 = w 9 5 + 1 := by rw [q3, st_eq]
          rw [lt, if_pos q1, lk, if_pos q1, ← t5]
          have ev : v4 = num - ((k : Int) + 1) := by omega
          have b := b10_or (b10_self ha) (b10_1 (i := v4) (by omega))
          refine nx (ev_st h q3 (by decide)) (by omega) (by rw [q3, st_k (by decide)]; exact h4) (by rw [q3, st_row (by decide)]; exact h10) (fun i hi => by rw [q3, st_row (by decide)]; exact h11o i hi) (by rw [q3, st_k (by decide)]; exact h2) (by rw [q3, st_k (by decide)]; exact h3) (by rw [ev]) ?_
          rw [← ev]; exact b.1
        · refine pc_ite (fun _ => ?_) (fun h => absurd q2 h)
          rw [lt, if_neg q1, lk, if_neg q1, q3]
          exact nx h h5 h4 h10 h11o h2 h3 (ior0 (by omega)) ha
theorem mrl {n0 : Int} {f0 z0 : Nat → Int} {a : Int} {j : Nat} (ha : 0 ≤ a) (haj : a + j ≤ 9) {w : Wd} (h : EV n0 f0 z0 w) (h5 : w 9 5 = lp (sE n0 f0) a j) (h5r : 0 ≤ w 9 5 ∧ w 9 5 ≤ 76) (h4 : w 9 4 = j) (hc : ECt (sE n0 f0) a j w) : PC (f_L_readLine (a + j) w) (fun r u => r = 0 ∨ ECt (sE n0 f0) a (j + 1) u) := by
  unfold f_L_readLine
  refine pc_call (sa_pc h (w 9 5)) (fun r1 u2 q => ?_)
  obtain ⟨q1, q2⟩ := q
  rw [q1]
  refine pc_ite (fun c1 => pc_some (Or.inl rfl)) (fun c1 => ?_)
  refine pc_ite (fun c2 => pc_some (Or.inl rfl)) (fun c2 => ?_)
  have l5 := sE_lt (n := n0) (f := f0) (p := w 9 5) (by omega)
  refine pc_ite (fun c3 => ?_) (fun c3 => pc_some (Or.inl rfl))
  have w1 := w32_sp (w 9 5 + 1)
  have w2 := w32_sp (r1 - 48)
  refine pc_lw (fun u3 e3 => ?_)
  refine pc_gd (fun _ => ?_)
  refine pc_lw (fun u4 e4 => ?_)
  refine pc_gd (fun _ => ?_)
  refine pc_lw (fun u5 e5 => ?_)
  have t34 : u3 9 4 = j := by rw [e3, st_k (by decide)]; exact h4
  have t44 : u4 9 4 = j := by rw [e4, st_c (by decide)]; exact t34
  have ej : ((j : Int)).toNat = j := by omega
  rw [t34, ej] at e4
  rw [t44, ej] at e5
  have t5 : u5 9 5 = w 9 5 + 1 := by rw [e5, st_c (by decide), e4, st_c (by decide), e3, st_eq]; omega
  have t54 : u5 9 4 = j := by rw [e5, st_c (by decide)]; exact t44
  have t11 : ∀ i, i ≠ j → u5 11 i = w 11 i := fun i hi => by rw [e5, st_k hi, e4, st_c (by decide), e3, st_c (by decide)]
  have t10 : ∀ i, i ≠ j → u5 10 i = w 10 i := fun i hi => by rw [e5, st_c (by decide), e4, st_k hi, e3, st_c (by decide)]
  have t10j : u5 10 j = lpr (sE n0 f0) a j := by
    rw [e5, st_c (by decide), e4, st_eq]
    unfold lpr
    rw [← h5, ← q2]; omega
  have t2 : u5 9 2 = w 9 2 := by rw [e5, st_c (by decide), e4, st_c (by decide), e3, st_k (by decide)]
  have t3 : u5 9 3 = w 9 3 := by rw [e5, st_c (by decide), e4, st_c (by decide), e3, st_k (by decide)]
  refine pc_w (m70 (j := j) (num := a + j) (by omega) (by omega) (u5 10) (w 11) (w 9 2) (w 9 3) FU (a + j).toNat (by omega) (by omega) (ev_st (ev_st (ev_st h e3 (by decide)) e4 (by decide)) e5 (by decide)) (by omega) t54 rfl (acc := 0) (by rw [e5, ej, st_eq]) (by decide) (fun i hi => t11 i (by omega)) t2 t3) (fun r u q => Or.inr ?_)
  obtain ⟨p10, p11, p11j, p2, p3⟩ := q
  rw [ej] at p11 p11j
  obtain ⟨c1, c2, c3⟩ := hc
  have x1 : lt (sE n0 f0) (a + j) (a + j).toNat (u5 9 5) = le1 (sE n0 f0) (a + j) (lp (sE n0 f0) a j) := by rw [t5, h5]; rfl
  rw [x1] at p2 p3
  refine ⟨fun i hi => ?_, ?_, ?_⟩
  · by_cases e : i = j
    · rw [e]
      refine ⟨by rw [p10]; exact t10j, ?_⟩
      rw [p11j, t5, h5]; rfl
    · rw [p10, t10 i e, p11 i e]
      exact c1 i (by omega)
  · rw [p2]
    have b := b10_line (f := lgs (sE n0 f0) a) ⟨ha, haj⟩ c2
    unfold lgs at b ⊢
    simp only [decide_eq_true_eq] at b
    exact b
  · rw [p3]
    have b := b10_line (f := lhi (sE n0 f0) a) ⟨ha, haj⟩ c3
    unfold lhi at b ⊢
    simp only [decide_eq_true_eq] at b
    exact b
theorem m31 {n0 : Int} {f0 z0 : Nat → Int} (hf : ∀ k, 0 ≤ f0 k) {a : Int} (ha : 0 ≤ a) : ∀ (n : Nat) {w : Wd} {v3 : Int} (j : Nat), v3 = a + j → v3 ≤ 10 → EV n0 f0 z0 w → (0 ≤ w 9 5 ∧ w 9 5 ≤ 76) → w 9 4 = j → w 9 5 = lp (sE n0 f0) a j → ECt (sE n0 f0) a j w → PC (f_L_read_31 n v3 w) (fun r u => 0 < r → ECt (sE n0 f0) a r.toNat u) := by
  intro n
  induction n with
  | zero => intros; exact pc_none
  | succ n ih =>
    intro w v3 j hv h10 h h5 h4 hl hc
    rw [f_L_read_31]
    have w1 := w32_sp (-1 - w 9 5)
    refine pc_ite (fun c1 => pc_some (fun h0 => by omega)) (fun c1 => ?_)
    rw [hv]
    refine pc_call (pc_and (lrl (by omega) h h5 (by omega)) (mrl ha (by omega) h hl h5 h4 hc)) (fun r5 u6 q => ?_)
    obtain ⟨⟨h6, q⟩, qc⟩ := q
    rcases q with ⟨q1, q2, q3⟩ | ⟨q1, q2, q3, q4⟩
    · refine pc_ite (fun _ => ?_) (fun h => absurd q2 h)
      rw [q3]
      exact pc_some (fun h0 => by omega)
    · refine pc_ite (fun h => absurd (q2.symm.trans h) (by decide)) (fun _ => ?_)
      have qc2 : ECt (sE n0 f0) a (j + 1) u6 := qc.resolve_left (fun e => by rw [q2] at e; exact absurd e (by decide))
      have b1 := en_ge (sE n0 f0) (a + j) (w 9 5)
      have b2 := en_le (sE_76 n0 f0) (num := a + j) (by omega) h5.1 (by omega)
      refine pc_call (sa_pc h6 (u6 9 5)) (fun r7 u8 q => ?_)
      obtain ⟨p1, p2⟩ := q
      rw [p1]
      have w2 := w32_sp (-1 - u6 9 5)
      have w3 := w32_sp (u6 9 5 + 1)
      have w4 := w32_sp (a + j + 1)
      refine pc_ite (fun c2 => pc_some (fun h0 => ?_)) (fun c2 => ?_)
      · have e : (u6 9 4).toNat = j + 1 := by omega
        rw [e]; exact qc2
      · refine pc_ite (fun c3 => ?_) (fun c3 => pc_some (fun h0 => by omega))
        have l5 := sE_lt (n := n0) (f := f0) (p := u6 9 5) (by omega)
        refine pc_lw (fun u9 e9 => ?_)
        refine pc_let (fun x10 e10 => ?_)
        have t5 : u9 9 5 = u6 9 5 + 1 := by rw [e9, st_eq]; omega
        have t4 : u9 9 4 = u6 9 4 := by rw [e9, st_k (by decide)]
        refine ih (j + 1) (by omega) (by omega) (ev_st h6 e9 (by decide)) (by omega) (by omega) ?_ ?_
        · rw [t5, q4, hl]; rfl
        · obtain ⟨d1, d2, d3⟩ := qc2
          refine ⟨fun i hi => ?_, ?_, ?_⟩
          · rw [e9, st_c (by decide), st_c (by decide)]; exact d1 i hi
          · rw [e9, st_k (by decide)]; exact d2
          · rw [e9, st_k (by decide)]; exact d3
theorem mread {n0 : Int} {f0 z0 : Nat → Int} (hf : ∀ k, 0 ≤ f0 k) {a : Int} (ha : 0 ≤ a ∧ a ≤ 10) {w : Wd} (h : EV n0 f0 z0 w) : PC (f_L_read a w) (fun r u => 0 < r → ECt (sE n0 f0) a r.toNat u) := by
  unfold f_L_read
  refine pc_lw (fun u1 e1 => ?_)
  refine pc_lw (fun u2 e2 => ?_)
  refine pc_lw (fun u3 e3 => ?_)
  refine pc_lw (fun u4 e4 => ?_)
  have h4 := ev_st (ev_st (ev_st (ev_st h e1 (by decide)) e2 (by decide)) e3 (by decide)) e4 (by decide)
  have t5 : u4 9 5 = 0 := by rw [e4, st_eq]
  have t4 : u4 9 4 = 0 := by rw [e4, st_k (by decide), e3, st_eq]
  have t2 : u4 9 2 = 0 := by rw [e4, st_k (by decide), e3, st_k (by decide), e2, st_k (by decide), e1, st_eq]
  have t3 : u4 9 3 = 0 := by rw [e4, st_k (by decide), e3, st_k (by decide), e2, st_eq]
  refine pc_ite (fun c => pc_some (fun h0 => by omega)) (fun c => ?_)
  refine m31 hf ha.1 FU 0 (by omega) ha.2 h4 (by omega) t4 t5 ⟨fun i hi => by omega, ?_, ?_⟩
  · rw [t2]
    refine b10_w b10_0 (fun k _ => ?_)
    rw [decide_eq_false (show ¬ (a ≤ (k : Int) ∧ (k : Int) < a + ((0 : Nat) : Int)) by omega)]; rfl
  · rw [t3]
    refine b10_w b10_0 (fun k _ => ?_)
    rw [decide_eq_false (show ¬ (a ≤ (k : Int) ∧ (k : Int) < a + ((0 : Nat) : Int)) by omega)]; rfl
/-! the reference reads: what stands in its lines -/
def RCt (h : Int → Int) (a : Int) (j : Nat) (w : Wd) : Prop := ∀ i : Nat, i < j → w 53 (a + i).toNat = lpr h a i ∧ w 54 (a + i).toNat = lkn h a i ∧ w 55 (a + i).toNat = (if lgs h a i = true then 1 else 0) ∧ w 56 (a + i).toNat = (if lhi h a i = true then 1 else 0)
/-- rows of one, and what stays of others -/
def R5 (x : Nat) (w u : Wd) : Prop := ∀ i, i ≠ x → u 53 i = w 53 i ∧ u 54 i = w 54 i ∧ u 55 i = w 55 i ∧ u 56 i = w 56 i
theorem r5_tr {x : Nat} {w u v : Wd} (h : R5 x w u) (h2 : R5 x u v) : R5 x w v := fun i hi => by
  obtain ⟨a1, a2, a3, a4⟩ := h i hi
  obtain ⟨b1, b2, b3, b4⟩ := h2 i hi
  exact ⟨b1.trans a1, b2.trans a2, b3.trans a3, b4.trans a4⟩
theorem r5_st {x : Nat} {w u : Wd} {c k : Nat} {z : Int} (e : u = st w c k z) (hc : (c ≠ 53 ∧ c ≠ 54 ∧ c ≠ 55 ∧ c ≠ 56) ∨ k = x) : R5 x w u := by
  intro i hi
  rw [e]
  rcases hc with hc | hc
  · rw [st_c (Ne.symm hc.1), st_c (Ne.symm hc.2.1), st_c (Ne.symm hc.2.2.1), st_c (Ne.symm hc.2.2.2)]
    exact ⟨rfl, rfl, rfl, rfl⟩
  · have hk : i ≠ k := by omega
    refine ⟨?_, ?_, ?_, ?_⟩
    · unfold st; rw [if_neg (fun h => hk h.2)]
    · unfold st; rw [if_neg (fun h => hk h.2)]
    · unfold st; rw [if_neg (fun h => hk h.2)]
    · unfold st; rw [if_neg (fun h => hk h.2)]
theorem n142 {n0 : Int} {f0 : Nat → Int} {P0 : Int} {w : Wd} {v1 s2 : Int} (h : RV n0 f0 P0 w) (h21 : w 43 21 = -1) (h20 : 0 ≤ w 43 20 ∧ w 43 20 ≤ 76) : PC (f_R_readOne_142 v1 v1 s2 w) (fun _ u => R5 v1.toNat w u ∧ u 53 v1.toNat = w 53 v1.toNat ∧ u 54 v1.toNat = w 54 v1.toNat ∧ u 55 v1.toNat = s2 ∧ u 56 v1.toNat = (if hR n0 f0 (w 43 20) = 63 then 1 else 0)) := by
  unfold f_R_readOne_142
  refine pc_gd (fun _ => ?_)
  refine pc_lw (fun u16 e16 => ?_)
  have h16 := rv_st h e16 (by decide) (Or.inl (by decide))
  have t20 : u16 43 20 = w 43 20 := by rw [e16, st_c (by decide)]
  have t21 : u16 43 21 = -1 := by rw [e16, st_c (by decide)]; exact h21
  have r16 : R5 v1.toNat w u16 := r5_st e16 (Or.inr rfl)
  refine pc_call (ps_pc h16 63 (by omega)) (fun r17 u18 q => ?_)
  rw [t20] at q
  refine pc_gd (fun _ => ?_)
  refine pc_lw (fun u19 e19 => ?_)
  have r19 : R5 v1.toNat u18 u19 := r5_st e19 (Or.inr rfl)
  have n1 : nz 1 = 1 := by decide
  have n0 : nz 0 = 0 := by decide
  rcases q with ⟨_, q1, q2, q3⟩ | ⟨q1, q2, q3⟩
  · have r18 : R5 v1.toNat u16 u18 := r5_st q3 (Or.inl (by decide))
    refine pc_some ⟨r5_tr (r5_tr r16 r18) r19, ?_, ?_, ?_, ?_⟩
    · rw [e19, st_c (by decide), q3, st_c (by decide), e16, st_c (by decide)]
    · rw [e19, st_c (by decide), q3, st_c (by decide), e16, st_c (by decide)]
    · rw [e19, st_c (by decide), q3, st_c (by decide), e16, st_eq]
    · rw [e19, st_eq, q2, if_pos q1]; exact n1
  · rw [q3] at e19 r19
    refine pc_some ⟨r5_tr r16 r19, ?_, ?_, ?_, ?_⟩
    · rw [e19, st_c (by decide), e16, st_c (by decide)]
    · rw [e19, st_c (by decide), e16, st_c (by decide)]
    · rw [e19, st_c (by decide), e16, st_eq]
    · rw [e19, st_eq, q2, if_neg (fun h2 => q1 ⟨t21, h2⟩)]; exact n0
theorem nr55 {n0 : Int} {f0 : Nat → Int} {P0 : Int} {v1 : Int} (i1 : 0 ≤ v1 ∧ v1 ≤ 9) : ∀ (n : Nat) {w : Wd} {v2 acc : Int} (k : Nat), v2 + 1 = v1 - k → -1 ≤ v2 → RV n0 f0 P0 w → w 43 21 = -1 → (0 ≤ w 43 20 ∧ w 43 20 ≤ 76) → w 54 v1.toNat = acc → PC (f_R_readOne_55 n v1 v2 w) (fun _ u => R5 v1.toNat w u ∧ (u 43 21 = -1 → u 53 v1.toNat = w 53 v1.toNat ∧ u 54 v1.toNat = lk (hR n0 f0) v1 k (w 43 20) acc ∧ u 55 v1.toNat = (if hR n0 f0 (lt (hR n0 f0) v1 k (w 43 20)) = 33 then 1 else 0) ∧ u 56 v1.toNat = (if hR n0 f0 (if hR n0 f0 (lt (hR n0 f0) v1 k (w 43 20)) = 33 then lt (hR n0 f0) v1 k (w 43 20) + 1 else lt (hR n0 f0) v1 k (w 43 20)) = 63 then 1 else 0))) := by
  intro n
  induction n with
  | zero => intros; exact pc_none
  | succ n ih =>
    intro w v2 acc k hk i2 h h21 h20 h54
    rw [f_R_readOne_55]
    refine pc_call (here_pc h) (fun r10 u11 q => ?_)
    obtain ⟨q1, q2⟩ := q
    rw [q1, in_e, jc_s]
    refine pc_ite (fun hc => ?_) (fun hc => ?_)
    · have hn : ¬ (97 ≤ r10 ∧ r10 ≤ 106) := fun h2 => by rw [if_pos h2] at hc; exact absurd hc (by decide)
      have e0 : lt (hR n0 f0) v1 k (w 43 20) = w 43 20 := lt_none k (fun x h1 h2 e => hn (by omega))
      have e1 : lk (hR n0 f0) v1 k (w 43 20) acc = acc := lk_none k (fun x h1 h2 e => hn (by omega))
      rw [e0, e1]
      refine pc_call (ps_pc h 33 h20) (fun r14 u15 q => ?_)
      rcases q with ⟨_, p1, p2, p3⟩ | ⟨p1, p2, p3⟩
      · have l5 := hR_lt (n := n0) (f := f0) (p := w 43 20) (by omega)
        have t20 : u15 43 20 = w 43 20 + 1 := by rw [p3, st_eq]
        refine pc_ite (fun h => absurd (p2.symm.trans h) (by decide)) (fun _ => ?_)
        refine pc_w (n142 (v1 := v1) (rv_st h p3 (by decide) (Or.inr (by decide))) (by rw [p3, st_k (by decide)]; exact h21) (by omega)) (fun r u q => ⟨r5_tr (r5_st p3 (Or.inl (by decide))) q.1, fun _ => ⟨?_, ?_, ?_, ?_⟩⟩)
        · rw [q.2.1, p3, st_c (by decide)]
        · rw [q.2.2.1, p3, st_c (by decide)]; exact h54
        · rw [if_pos p1]; exact q.2.2.2.1
        · rw [if_pos p1, q.2.2.2.2, t20]
      · refine pc_ite (fun _ => ?_) (fun h => absurd p2 h)
        rw [p3]
        have np : ¬ hR n0 f0 (w 43 20) = 33 := fun h2 => p1 ⟨h21, h2⟩
        refine pc_w (n142 (v1 := v1) h h21 h20) (fun r u q => ⟨q.1, fun _ => ⟨q.2.1, q.2.2.1.trans h54, ?_, ?_⟩⟩)
        · rw [if_neg np]; exact q.2.2.2.1
        · rw [if_neg np]; exact q.2.2.2.2
    · have hl : 97 ≤ r10 ∧ r10 ≤ 106 := by
        by_cases h2 : 97 ≤ r10 ∧ r10 ≤ 106
        · exact h2
        · rw [if_neg h2] at hc; exact absurd rfl hc
      have l5 := hR_lt (n := n0) (f := f0) (p := w 43 20) (by omega)
      have f87 : PC (f_R_readOne_87 w) (fun _ u => R5 v1.toNat w u ∧ (u 43 21 = -1 → u 53 v1.toNat = w 53 v1.toNat ∧ u 54 v1.toNat = lk (hR n0 f0) v1 k (w 43 20) acc ∧ u 55 v1.toNat = (if hR n0 f0 (lt (hR n0 f0) v1 k (w 43 20)) = 33 then 1 else 0) ∧ u 56 v1.toNat = (if hR n0 f0 (if hR n0 f0 (lt (hR n0 f0) v1 k (w 43 20)) = 33 then lt (hR n0 f0) v1 k (w 43 20) + 1 else lt (hR n0 f0) v1 k (w 43 20)) = 63 then 1 else 0))) := by
        unfold f_R_readOne_87
        refine pc_call (fl_pc w (w 43 20)) (fun r23 u24 q => ?_)
        rw [if_pos h21] at q
        refine pc_some ⟨r5_st q (Or.inl (by decide)), fun e => ?_⟩
        rw [q, st_eq] at e
        exfalso; omega
      refine pc_call (here_pc h) (fun r20 u21 q => ?_)
      obtain ⟨p1, p2⟩ := q
      rw [p1]
      have w1 := w32_sp (r20 - 97)
      refine pc_let (fun x22 e22 => ?_)
      have e23 : hR n0 f0 (w 43 20) = 97 + x22 := by omega
      refine pc_ite (fun c1 => f87) (fun c1 => ?_)
      refine pc_ite (fun c2 => ?_) (fun c2 => f87)
      refine pc_gd (fun _ => ?_)
      refine pc_gd (fun _ => ?_)
      refine pc_lw (fun u25 e25 => ?_)
      have t20 : u25 43 20 = w 43 20 := by rw [e25, st_c (by decide)]
      have w2 := w32_sp (u25 43 20 + 1)
      refine pc_lw (fun u26 e26 => ?_)
      have t26 : u26 43 20 = w 43 20 + 1 := by rw [e26, st_eq]; omega
      rw [lt_skip e23 c2 k (by omega), lk_skip e23 c2 k (by omega), ← t26]
      refine pc_w (ih (v1 - x22 - 1).toNat (acc := ior acc (ishl 1 x22)) (by omega) (by omega) (rv_st (rv_st h e25 (by decide) (Or.inl (by decide))) e26 (by decide) (Or.inr (by decide))) (by rw [e26, st_k (by decide), e25, st_c (by decide)]; exact h21) (by omega) (by rw [e26, st_c (by decide), e25, st_eq, h54])) (fun r u q => ⟨r5_tr (r5_tr (r5_st e25 (Or.inr rfl)) (r5_st e26 (Or.inl (by decide)))) q.1, fun e => ?_⟩)
      obtain ⟨y1, y2⟩ := q.2 e
      exact ⟨by rw [y1, e26, st_c (by decide), e25, st_c (by decide)], y2⟩
theorem nrl {n0 : Int} {f0 : Nat → Int} {P0 : Int} {a : Int} {j : Nat} (ha : 0 ≤ a) (haj : a + j ≤ 9) {w : Wd} (h : RV n0 f0 P0 w) (h21 : w 43 21 = -1) (h20 : 0 ≤ w 43 20 ∧ w 43 20 ≤ 76) (hl : w 43 20 = lp (hR n0 f0) a j) (hc : RCt (hR n0 f0) a j w) : PC (f_R_readOne (a + j) w) (fun _ u => u 43 21 = -1 → RCt (hR n0 f0) a (j + 1) u) := by
  unfold f_R_readOne
  refine pc_call (here_pc h) (fun r1 u2 q => ?_)
  obtain ⟨q1, q2⟩ := q
  rw [q1, in_e, jc_s]
  refine pc_ite (fun hc => ?_) (fun hcc => ?_)
  · refine pc_call (fl_pc w (w 43 20)) (fun r27 u28 q => ?_)
    rw [if_pos h21] at q
    refine pc_some (fun e => ?_)
    rw [q, st_eq] at e
    exfalso; omega
  · have hl2 : 48 ≤ r1 ∧ r1 ≤ 57 := by
      by_cases h2 : 48 ≤ r1 ∧ r1 ≤ 57
      · exact h2
      · rw [if_neg h2] at hcc; exact absurd rfl hcc
    have l5 := hR_lt (n := n0) (f := f0) (p := w 43 20) (by omega)
    refine pc_call (here_pc h) (fun r5 u6 q => ?_)
    obtain ⟨p1, p2⟩ := q
    rw [p1]
    have w3 := w32_sp (r5 - 48)
    refine pc_gd (fun _ => ?_)
    refine pc_lw (fun u7 e7 => ?_)
    have t20 : u7 43 20 = w 43 20 := by rw [e7, st_c (by decide)]
    have w2 := w32_sp (u7 43 20 + 1)
    refine pc_lw (fun u8 e8 => ?_)
    refine pc_gd (fun _ => ?_)
    refine pc_lw (fun u9 e9 => ?_)
    have t9 : u9 43 20 = w 43 20 + 1 := by rw [e9, st_c (by decide), e8, st_eq]; omega
    have t53 : u9 53 (a + j).toNat = lpr (hR n0 f0) a j := by
      rw [e9, st_c (by decide), e8, st_c (by decide), e7, st_eq]
      unfold lpr
      rw [← hl, ← p2]; omega
    refine pc_w (nr55 (v1 := a + j) (acc := 0) (by omega) FU (a + j).toNat (by omega) (by omega) (rv_st (rv_st (rv_st h e7 (by decide) (Or.inl (by decide))) e8 (by decide) (Or.inr (by decide))) e9 (by decide) (Or.inl (by decide))) (by rw [e9, st_c (by decide), e8, st_k (by decide), e7, st_c (by decide)]; exact h21) (by omega) (by rw [e9, st_eq])) (fun r u q e => ?_)
    obtain ⟨q5, qv⟩ := q
    obtain ⟨y1, y2, y3, y4⟩ := qv e
    have r5 := r5_tr (r5_tr (r5_tr (r5_st (x := (a + j).toNat) e7 (Or.inr rfl)) (r5_st e8 (Or.inl (by decide)))) (r5_st e9 (Or.inr rfl))) q5
    rw [t9, hl] at y2 y3 y4
    intro i hi
    by_cases c : i = j
    · rw [c]
      refine ⟨y1.trans t53, y2, ?_, ?_⟩
      · rw [y3]
        unfold lgs le1
        simp only [decide_eq_true_eq]
      · rw [y4]
        unfold lhi le1
        simp only [decide_eq_true_eq]
    · obtain ⟨z1, z2, z3, z4⟩ := r5 (a + i).toNat (by omega)
      obtain ⟨x1, x2, x3, x4⟩ := hc i (by omega)
      exact ⟨z1.trans x1, z2.trans x2, z3.trans x3, z4.trans x4⟩
/-! PEOPLE ARE ADDED -/
def wth (x i : Int) (b : Bool) : Int := if b = true then ior x (ishl 1 i) else iand x (ixor (ishl 1 i) (-1))
theorem with_e (x i : Int) (b : Bool) (w : Wd) : f_E_with x i (if b = true then 1 else 0) w = some (wth x i b, w) := by
  unfold f_E_with wth
  cases b <;> rfl
theorem wth_no {x i : Int} (hx : 0 ≤ x ∧ x ≤ 1023) (hi : 0 ≤ i ∧ i ≤ 9) (h : bt x i.toNat = false) : wth x i false = x := by
  unfold wth
  rw [if_neg (by decide)]
  refine b10_eq (b10_andn (b10_self hx) (b10_1 hi).2) (b10_self hx) (fun k _ => ?_)
  by_cases c : k = i.toNat
  · rw [c, h]; rfl
  · rw [decide_eq_false c]; simp
/-- whom all know when one more comes -/
def adk (kn : Nat → Int) (i : Nat) (k : Int) (j : Nat) : Int := if j = i then k else if j < i ∧ bt k j = true then ior (kn j) (ishl 1 (i : Int)) else kn j
def ads (kn : Nat → Int) (a : Nat) (k : Nat → Int) : Nat → Nat → Int
  | 0 => kn
  | n + 1 => adk (ads kn a k n) (a + n) (k n)
/-- known ones of so many are among them -/
def KNW (i : Nat) (kn : Nat → Int) : Prop := ∀ j : Nat, j < i → (0 ≤ kn j ∧ kn j ≤ 1023) ∧ ∀ q, q < 10 → bt (kn j) q = true → q < i
theorem kw_adk {i : Nat} {kn : Nat → Int} {k : Int} (hi : i ≤ 9) (h : KNW i kn) (hk : (0 ≤ k ∧ k ≤ 1023) ∧ ∀ q, q < 10 → bt k q = true → q < i) : KNW (i + 1) (adk kn i k) := by
  intro j hj
  unfold adk
  by_cases c : j = i
  · rw [if_pos c]; exact ⟨hk.1, fun q hq hb => by have := hk.2 q hq hb; omega⟩
  · rw [if_neg c]
    obtain ⟨h1, h2⟩ := h j (by omega)
    by_cases c2 : j < i ∧ bt k j = true
    · rw [if_pos c2]
      have b := b10_or (b10_self h1) (b10_1 (i := (i : Int)) (by omega))
      refine ⟨b.1, fun q hq hb => ?_⟩
      rw [b.2 q hq, Bool.or_eq_true] at hb
      rcases hb with hb | hb
      · have := h2 q hq hb; omega
      · have := of_decide_eq_true hb; omega
    · rw [if_neg c2]; exact ⟨h1, fun q hq hb => by have := h2 q hq hb; omega⟩
theorem kw_ads {a : Nat} {kn : Nat → Int} {k : Nat → Int} (h : KNW a kn) : ∀ {n : Nat}, a + n ≤ 10 → (∀ i, i < n → (0 ≤ k i ∧ k i ≤ 1023) ∧ ∀ q, q < 10 → bt (k i) q = true → q < a + i) → KNW (a + n) (ads kn a k n) := by
  intro n
  induction n with
  | zero => intro _ _; exact h
  | succ n ih => intro hn hk; exact kw_adk (i := a + n) (by omega) (ih (by omega) (fun i hi => hk i (by omega))) (hk n (by omega))
theorem ads_eq {a : Nat} {kn kn2 : Nat → Int} {k k2 : Nat → Int} (h : ∀ j, j < a → kn j = kn2 j) : ∀ {n : Nat}, (∀ i, i < n → k i = k2 i) → ∀ j, j < a + n → ads kn a k n j = ads kn2 a k2 n j := by
  intro n
  induction n with
  | zero => intro _ j hj; exact h j hj
  | succ n ih =>
    intro hk j hj
    have ih2 := ih (fun i hi => hk i (by omega))
    show adk _ _ _ _ = adk _ _ _ _
    unfold adk
    rw [hk n (by omega)]
    by_cases c : j = a + n
    · rw [if_pos c, if_pos c]
    · rw [if_neg c, if_neg c, ih2 j (by omega)]
/-- one comes to the class -/
def EA1 (i : Nat) (p k : Int) (w u : Wd) : Prop := u 5 3 = (i : Int) + 1 ∧ (∀ j, u 6 j = if j = i then p else w 6 j) ∧ (∀ j, j < i + 1 → u 7 j = adk (w 7) i k j) ∧ (∀ j, u 8 j = if j = i then -1 else w 8 j) ∧ ∀ c k, c ≠ 6 → c ≠ 7 → c ≠ 8 → ¬ (c = 5 ∧ k = 3) → u c k = w c k
theorem ea42 {i : Nat} (hi : i ≤ 9) {k : Int} {z : Nat → Int} (hz : KNW i z) (x : Wd) : ∀ (n : Nat) {w : Wd} {v3 : Int}, 0 ≤ v3 → v3 ≤ i → w 5 3 = i → w 7 i = k → (∀ j : Nat, j < i → w 7 j = if (j : Int) < v3 then adk z i k j else z j) → (∀ c k, c ≠ 7 → w c k = x c k) → PC (f_F_add_42 n k v3 w) (fun _ u => u 5 3 = (i : Int) + 1 ∧ u 7 i = k ∧ (∀ j : Nat, j < i → u 7 j = adk z i k j) ∧ ∀ c k, c ≠ 7 → ¬ (c = 5 ∧ k = 3) → u c k = x c k) := by
  intro n
  induction n with
  | zero => intros; exact pc_none
  | succ n ih =>
    intro w v3 i3 i4 h3 h7i h7 hx
    rw [f_F_add_42, h3]
    have w1 := w32_sp ((i : Int) + 1)
    refine pc_ite (fun c => ?_) (fun c => ?_)
    · refine pc_lw (fun u4 e4 => pc_some ⟨?_, ?_, fun j hj => ?_, fun c k h1 h2 => ?_⟩)
      · rw [e4, st_eq]; omega
      · rw [e4, st_c (by decide)]; exact h7i
      · rw [e4, st_c (by decide), h7 j hj, if_pos (by omega)]
      · rw [e4]; unfold st; rw [if_neg h2]; exact hx c k h1
    · refine pc_gd (fun _ => ?_)
      rw [hasE_e w (by omega), jc_s, with_e, jc_s]
      refine pc_gd (fun _ => ?_)
      refine pc_lw (fun u9 e9 => ?_)
      refine pc_let (fun x10 e10 => ?_)
      rw [wsucc (P := 10) (by omega) (by decide)] at e10
      have hv := h7 v3.toNat (by omega)
      rw [if_neg (by omega)] at hv
      refine ih (by omega) (by omega) (by rw [e9, st_c (by decide)]; exact h3) (by rw [e9, st_k (by omega)]; exact h7i) (fun j hj => ?_) (fun c k h1 => by rw [e9, st_c h1]; exact hx c k h1)
      rw [e9]
      by_cases cj : j = v3.toNat
      · rw [cj, st_eq, if_pos (by omega), hv]
        unfold adk
        rw [if_neg (by omega)]
        obtain ⟨z1, z2⟩ := hz v3.toNat (by omega)
        cases hb : bt k v3.toNat with
        | true => rw [if_pos ⟨by omega, rfl⟩]; rfl
        | false =>
          rw [if_neg (fun h => by cases h.2)]
          refine wth_no z1 (by omega) ?_
          cases hq : bt (z v3.toNat) ((i : Int)).toNat with
          | false => rfl
          | true => have := z2 _ (by omega) hq; omega
      · rw [st_k cj, h7 j hj]
        by_cases c2 : (j : Int) < v3
        · rw [if_pos c2, if_pos (by omega)]
        · rw [if_neg c2, if_neg (by omega)]
theorem ea_pc {i : Nat} (hi : i ≤ 9) {p k : Int} {w : Wd} (h3 : w 5 3 = i) (hz : KNW i (w 7)) : PC (f_F_add p k w) (fun _ u => EA1 i p k w u) := by
  unfold f_F_add
  refine pc_ite (fun _ => ?_) (fun c => by exfalso; omega)
  refine pc_gd (fun _ => ?_)
  refine pc_lw (fun u1 e1 => ?_)
  refine pc_gd (fun _ => ?_)
  refine pc_lw (fun u2 e2 => ?_)
  refine pc_gd (fun _ => ?_)
  refine pc_lw (fun u3 e3 => ?_)
  have y1 : u1 5 3 = i := by rw [e1, st_c (by decide)]; exact h3
  have y2 : u2 5 3 = i := by rw [e2, st_c (by decide)]; exact y1
  have ei : ((i : Nat) : Int).toNat = i := by omega
  rw [h3, ei] at e1; rw [y1, ei] at e2; rw [y2, ei] at e3
  refine pc_w (ea42 hi (z := w 7) hz u3 FU (by decide) (by omega) (by rw [e3, st_c (by decide)]; exact y2) (by rw [e3, st_c (by decide), e2, st_eq]) (fun j hj => ?_) (fun _ _ _ => rfl)) (fun r u q => ⟨q.1, fun j => ?_, fun j hj => ?_, fun j => ?_, fun c k h6 h7 h8 h5 => ?_⟩)
  · rw [if_neg (by omega), e3, st_c (by decide), e2, st_k (by omega), e1, st_c (by decide)]
  · rw [q.2.2.2 6 j (by decide) (by omega), e3, st_c (by decide), e2, st_c (by decide), e1]
    by_cases c : j = i
    · rw [if_pos c, c, st_eq]
    · rw [if_neg c, st_k c]
  · by_cases c : j = i
    · rw [c, q.2.1]; unfold adk; rw [if_pos rfl]
    · exact q.2.2.1 j (by omega)
  · rw [q.2.2.2 8 j (by decide) (by omega), e3]
    by_cases c : j = i
    · rw [if_pos c, c, st_eq]
    · rw [if_neg c, st_k c, e2, st_c (by decide), e1, st_c (by decide)]
  · rw [q.2.2.2 c k h7 h5, e3, st_c h8, e2, st_c h7, e1, st_c h6]
/-- one comes to the reference -/
def RA1 (i : Nat) (p k g h : Int) (w u : Wd) : Prop := (∀ j, u 44 j = if j = i then p else w 44 j) ∧ (∀ j, u 45 j = adk (w 45) i k j) ∧ (∀ j, u 47 j = if j = i then g else w 47 j) ∧ (∀ j, u 46 j = if j = i then h else w 46 j) ∧ (∀ j, u 48 j = if j = i then -1 else w 48 j) ∧ (∀ j, u 49 j = if j = i then (if g = 1 then w 43 8 else -1) else w 49 j) ∧ ∀ c k, c ≠ 44 → c ≠ 45 → c ≠ 46 → c ≠ 47 → c ≠ 48 → c ≠ 49 → u c k = w c k
theorem ra17 {i : Nat} (hi : i ≤ 9) {k g h : Int} (hg : nz h = h) {z : Nat → Int} (x : Wd) : ∀ (n : Nat) {w : Wd} {v6 : Int}, 0 ≤ v6 → v6 ≤ i → (∀ j : Nat, w 45 j = if (j : Int) < v6 ∧ bt k j = true then ior (z j) (ishl 1 (i : Int)) else z j) → (∀ c k, c ≠ 45 → w c k = x c k) → PC (f_R_add_17 n i k g h v6 w) (fun _ u => (∀ j : Nat, u 45 j = if (j : Int) < i ∧ bt k j = true then ior (z j) (ishl 1 (i : Int)) else z j) ∧ (∀ j, u 47 j = if j = i then g else x 47 j) ∧ (∀ j, u 46 j = if j = i then h else x 46 j) ∧ (∀ j, u 48 j = if j = i then -1 else x 48 j) ∧ (∀ j, u 49 j = if j = i then (if g = 1 then x 43 8 else -1) else x 49 j) ∧ ∀ c k, c ≠ 45 → c ≠ 46 → c ≠ 47 → c ≠ 48 → c ≠ 49 → u c k = x c k) := by
  intro n
  induction n with
  | zero => intros; exact pc_none
  | succ n ih =>
    intro w v6 i6 i7 h45 hx
    rw [f_R_add_17]
    have ei : ((i : Nat) : Int).toNat = i := by omega
    refine pc_ite (fun c => ?_) (fun c => ?_)
    · have ev : v6 = i := by omega
      refine pc_gd (fun _ => ?_)
      refine pc_lw (fun u3 e3 => ?_)
      refine pc_gd (fun _ => ?_)
      refine pc_lw (fun u4 e4 => ?_)
      refine pc_gd (fun _ => ?_)
      refine pc_lw (fun u5 e5 => ?_)
      rw [ei] at e3 e4 e5
      rw [hg] at e4
      have y8 : u5 43 8 = x 43 8 := by rw [e5, st_c (by decide), e4, st_c (by decide), e3, st_c (by decide)]; exact hx 43 8 (by decide)
      have fin : ∀ s : Int, s = (if g = 1 then x 43 8 else -1) → PC (f_R_add_93 i s u5) (fun _ u => (∀ j : Nat, u 45 j = if (j : Int) < i ∧ bt k j = true then ior (z j) (ishl 1 (i : Int)) else z j) ∧ (∀ j, u 47 j = if j = i then g else x 47 j) ∧ (∀ j, u 46 j = if j = i then h else x 46 j) ∧ (∀ j, u 48 j = if j = i then -1 else x 48 j) ∧ (∀ j, u 49 j = if j = i then (if g = 1 then x 43 8 else -1) else x 49 j) ∧ ∀ c k, c ≠ 45 → c ≠ 46 → c ≠ 47 → c ≠ 48 → c ≠ 49 → u c k = x c k) := by
        intro s es
        unfold f_R_add_93
        refine pc_gd (fun _ => ?_)
        refine pc_lw (fun u6 e6 => ?_)
        rw [ei] at e6
        refine pc_some ⟨fun j => ?_, fun j => ?_, fun j => ?_, fun j => ?_, fun j => ?_, fun c k h45 h46 h47 h48 h49 => ?_⟩
        · rw [e6, st_c (by decide), e5, st_c (by decide), e4, st_c (by decide), e3, st_c (by decide), h45 j, ev]
        · rw [e6, st_c (by decide), e5, st_c (by decide), e4, st_c (by decide), e3]
          by_cases c : j = i
          · rw [if_pos c, c, st_eq]
          · rw [if_neg c, st_k c]; exact hx 47 j (by decide)
        · rw [e6, st_c (by decide), e5, st_c (by decide), e4]
          by_cases c : j = i
          · rw [if_pos c, c, st_eq]
          · rw [if_neg c, st_k c, e3, st_c (by decide)]; exact hx 46 j (by decide)
        · rw [e6, st_c (by decide), e5]
          by_cases c : j = i
          · rw [if_pos c, c, st_eq]
          · rw [if_neg c, st_k c, e4, st_c (by decide), e3, st_c (by decide)]; exact hx 48 j (by decide)
        · rw [e6]
          by_cases c : j = i
          · rw [if_pos c, c, st_eq]; exact es
          · rw [if_neg c, st_k c, e5, st_c (by decide), e4, st_c (by decide), e3, st_c (by decide)]; exact hx 49 j (by decide)
        · rw [e6, st_c h49, e5, st_c h48, e4, st_c h46, e3, st_c h47]; exact hx c k h45
      rw [y8]
      exact pc_ite (fun c => fin _ (by rw [if_pos c])) (fun c => fin _ (by rw [if_neg c]))
    · rw [has_e w (by omega), jc_s]
      have nx : ∀ {u : Wd}, (∀ j : Nat, u 45 j = if (j : Int) < v6 + 1 ∧ bt k j = true then ior (z j) (ishl 1 (i : Int)) else z j) → (∀ c k, c ≠ 45 → u c k = x c k) → PC (f_R_add_45 (f_R_add_17 n) i k g h v6 u) (fun _ u => (∀ j : Nat, u 45 j = if (j : Int) < i ∧ bt k j = true then ior (z j) (ishl 1 (i : Int)) else z j) ∧ (∀ j, u 47 j = if j = i then g else x 47 j) ∧ (∀ j, u 46 j = if j = i then h else x 46 j) ∧ (∀ j, u 48 j = if j = i then -1 else x 48 j) ∧ (∀ j, u 49 j = if j = i then (if g = 1 then x 43 8 else -1) else x 49 j) ∧ ∀ c k, c ≠ 45 → c ≠ 46 → c ≠ 47 → c ≠ 48 → c ≠ 49 → u c k = x c k) := by
        intro u hu hx2
        unfold f_R_add_45
        refine pc_let (fun x9 e9 => ?_)
        rw [wsucc (P := 10) (by omega) (by decide)] at e9
        exact ih (by omega) (by omega) (by rw [e9]; exact hu) hx2
      have hv := h45 v6.toNat
      rw [if_neg (by omega)] at hv
      cases hb : bt k v6.toNat with
      | false =>
        refine pc_ite (fun _ => nx (fun j => ?_) hx) (fun h => absurd rfl h)
        rw [h45 j]
        by_cases cj : j = v6.toNat
        · rw [cj, hb, if_neg (fun h => by cases h.2), if_neg (fun h => by cases h.2)]
        · by_cases c2 : (j : Int) < v6 ∧ bt k j = true
          · rw [if_pos c2, if_pos ⟨by omega, c2.2⟩]
          · rw [if_neg c2, if_neg (fun h => c2 ⟨by omega, h.2⟩)]
      | true =>
        refine pc_ite (fun h => absurd h (by decide)) (fun _ => ?_)
        refine pc_gd (fun _ => ?_)
        refine pc_gd (fun _ => ?_)
        refine pc_lw (fun u10 e10 => nx (fun j => ?_) (fun c k h1 => by rw [e10, st_c h1]; exact hx c k h1))
        rw [e10]
        by_cases cj : j = v6.toNat
        · rw [cj, st_eq, hv, if_pos ⟨by omega, hb⟩]
        · rw [st_k cj, h45 j]
          by_cases c2 : (j : Int) < v6 ∧ bt k j = true
          · rw [if_pos c2, if_pos ⟨by omega, c2.2⟩]
          · rw [if_neg c2, if_neg (fun h => c2 ⟨by omega, h.2⟩)]
theorem ra_pc {i : Nat} (hi : i ≤ 9) {v1 p k g h : Int} (hv : v1 = i) (hg : nz h = h) {w : Wd} : PC (f_R_add v1 p k g h w) (fun _ u => RA1 i p k g h w u) := by
  unfold f_R_add
  have ei : v1.toNat = i := by omega
  refine pc_gd (fun _ => ?_)
  refine pc_lw (fun u1 e1 => ?_)
  refine pc_gd (fun _ => ?_)
  refine pc_lw (fun u2 e2 => ?_)
  rw [ei] at e1 e2
  rw [hv]
  refine pc_w (ra17 hi hg (z := u2 45) u2 FU (by decide) (by omega) (fun j => by rw [if_neg (by omega)]) (fun _ _ _ => rfl)) (fun r u q => ?_)
  obtain ⟨q45, q47, q46, q48, q49, qo⟩ := q
  have f : ∀ c k, c ≠ 44 → c ≠ 45 → u2 c k = w c k := fun c k h1 h2 => by rw [e2, st_c h2, e1, st_c h1]
  refine ⟨fun j => ?_, fun j => ?_, fun j => ?_, fun j => ?_, fun j => ?_, fun j => ?_, fun c k h44 h45 h46 h47 h48 h49 => ?_⟩
  · rw [qo 44 j (by decide) (by decide) (by decide) (by decide) (by decide), e2, st_c (by decide), e1]
    by_cases c : j = i
    · rw [if_pos c, c, st_eq]
    · rw [if_neg c, st_k c]
  · rw [q45 j]
    unfold adk
    by_cases c : j = i
    · rw [if_pos c, if_neg (by omega), c, e2, st_eq]
    · have y : u2 45 j = w 45 j := by rw [e2, st_k c, e1, st_c (by decide)]
      rw [if_neg c, y]
      by_cases c2 : j < i ∧ bt k j = true
      · rw [if_pos c2, if_pos ⟨by omega, c2.2⟩]
      · rw [if_neg c2, if_neg (fun h => c2 ⟨by omega, h.2⟩)]
  · rw [q47 j, f 47 j (by decide) (by decide)]
  · rw [q46 j, f 46 j (by decide) (by decide)]
  · rw [q48 j, f 48 j (by decide) (by decide)]
  · rw [q49 j, f 49 j (by decide) (by decide), f 43 8 (by decide) (by decide)]
  · rw [qo c k h45 h46 h47 h48 h49]; exact f c k h44 h45
/-! MANY COME: to the class -/
def EAN (a n : Nat) (pr kn : Nat → Int) (w u : Wd) : Prop := u 5 3 = (a : Int) + n ∧ (∀ j, j < a → u 6 j = w 6 j ∧ u 8 j = w 8 j) ∧ (∀ i, i < n → u 6 (a + i) = pr i ∧ u 8 (a + i) = -1) ∧ (∀ j, j < a + n → u 7 j = ads (w 7) a kn n j) ∧ ∀ c k, c ≠ 6 → c ≠ 7 → c ≠ 8 → ¬ (c = 5 ∧ k = 3) → u c k = w c k
theorem ean_0 {a : Nat} {pr kn : Nat → Int} {w : Wd} (h : w 5 3 = a) : EAN a 0 pr kn w w := ⟨by omega, fun _ _ => ⟨rfl, rfl⟩, fun i hi => by omega, fun _ _ => rfl, fun _ _ _ _ _ _ => rfl⟩
theorem ean_s {a n : Nat} {pr kn : Nat → Int} {w u v : Wd} (h : EAN a n pr kn w u) (h1 : EA1 (a + n) (pr n) (kn n) u v) : EAN a (n + 1) pr kn w v := by
  obtain ⟨a1, a2, a3, a4, a5⟩ := h
  obtain ⟨b1, b2, b3, b4, b5⟩ := h1
  refine ⟨by omega, fun j hj => ?_, fun i hi => ?_, fun j hj => ?_, fun c k h6 h7 h8 h5 => (b5 c k h6 h7 h8 h5).trans (a5 c k h6 h7 h8 h5)⟩
  · rw [b2, b4, if_neg (by omega), if_neg (by omega)]; exact a2 j hj
  · rw [b2, b4]
    by_cases c : i = n
    · rw [c, if_pos rfl, if_pos rfl]; exact ⟨rfl, rfl⟩
    · rw [if_neg (by omega), if_neg (by omega)]; exact a3 i (by omega)
  · rw [b3 j (by omega)]
    show adk _ _ _ _ = adk _ _ _ _
    unfold adk
    by_cases c : j = a + n
    · rw [if_pos c, if_pos c]
    · rw [if_neg c, if_neg c, a4 j (by omega)]
theorem et2 {a m : Nat} {pr kn : Nat → Int} (x : Wd) (ham : a + m ≤ 10) (hK : KNW a (x 7)) (hk : ∀ i, i < m → (0 ≤ kn i ∧ kn i ≤ 1023) ∧ ∀ q, q < 10 → bt (kn i) q = true → q < a + i) (h9 : x 9 4 = m) (h10 : ∀ i, i < m → x 10 i = pr i ∧ x 11 i = kn i) : ∀ (n : Nat) {w : Wd} (i : Nat), i ≤ m → EAN a i pr kn x w → PC (f_L_settle_2 n i w) (fun _ u => ∃ v, EAN a m pr kn x v ∧ u 5 4 = ior (x 5 4) (x 9 2) ∧ u 5 5 = ior (x 5 5) (x 9 3) ∧ ∀ c k, ¬ (c = 5 ∧ (k = 4 ∨ k = 5)) → u c k = v c k) := by
  intro n
  induction n with
  | zero => intros; exact pc_none
  | succ n ih =>
    intro w i hi hE
    rw [f_L_settle_2]
    obtain ⟨a1, a2, a3, a4, a5⟩ := hE
    have y9 : w 9 4 = m := (a5 9 4 (by decide) (by decide) (by decide) (by omega)).trans h9
    rw [y9]
    refine pc_ite (fun c => ?_) (fun c => ?_)
    · have e : i = m := by omega
      subst e
      refine pc_lw (fun u1 e1 => ?_)
      refine pc_lw (fun u2 e2 => pc_some ⟨w, ⟨a1, a2, a3, a4, a5⟩, ?_, ?_, fun c k hc => ?_⟩)
      · rw [e2, st_k (by decide), e1, st_eq, a5 5 4 (by decide) (by decide) (by decide) (by omega), a5 9 2 (by decide) (by decide) (by decide) (by omega)]
      · rw [e2, st_eq, e1, st_k (by decide), st_c (by decide), a5 5 5 (by decide) (by decide) (by decide) (by omega), a5 9 3 (by decide) (by decide) (by decide) (by omega)]
      · rw [e2]; unfold st; rw [if_neg (by omega), e1]; unfold st; rw [if_neg (by omega)]
    · have ei : ((i : Nat) : Int).toNat = i := by omega
      refine pc_gd (fun _ => ?_)
      refine pc_gd (fun _ => ?_)
      rw [ei, a5 10 i (by decide) (by decide) (by decide) (by omega), a5 11 i (by decide) (by decide) (by decide) (by omega), (h10 i (by omega)).1, (h10 i (by omega)).2]
      have kw : KNW (a + i) (w 7) := by
        intro j hj
        rw [a4 j hj]
        exact kw_ads hK (by omega) (fun i2 h2 => hk i2 (by omega)) j hj
      refine pc_call (ea_pc (i := a + i) (by omega) (by omega) kw) (fun r3 u4 q => ?_)
      refine pc_let (fun x5 e5 => ?_)
      rw [wsucc (P := 10) (by omega) (by decide)] at e5
      have ex : x5 = ((i + 1 : Nat) : Int) := by omega
      rw [ex]
      exact ih (i + 1) (by omega) (ean_s ⟨a1, a2, a3, a4, a5⟩ q)
theorem wh_eq {x P : Int} {s t : Nat → Int} (h : WH x s P) (e : ∀ k : Nat, (k : Int) < P → s k = t k) : WH x t P := by
  obtain ⟨h1, h2, h3⟩ := h
  refine ⟨h1, fun k hk => ?_, fun k hk => by rw [← e k hk]; exact h3 k hk⟩
  have := h2 k hk
  cases hp : inP P k with
  | false => rw [hp] at this; exact this
  | true => rw [hp] at this; rw [← e k (inP_t hp)]; exact this
theorem gs_eq {P : Int} {s t : Nat → Int} (e : ∀ k : Nat, (k : Int) < P → s k = t k) (k : Nat) : gs P s k = gs P t k := by
  unfold gs
  cases hp : inP P k with
  | false => rfl
  | true => rw [e k (inP_t hp)]
theorem hB_eq {P : Int} {s t : Nat → Int} (e : ∀ k : Nat, (k : Int) < P → s k = t k) (k : Nat) : hB P s k = hB P t k := by
  unfold hB
  cases hp : inP P k with
  | false => rfl
  | true => rw [e k (inP_t hp)]
/-- new ones among who is what: bits are joined -/
theorem wh_come {x g : Int} {s : Nat → Int} {a n : Nat} {gf : Nat → Bool} (han : a + n ≤ 10) (h : WH x s a) (hg : B10 g (fun k => decide ((a : Int) ≤ k ∧ (k : Int) < a + n) && gf ((k : Int) - a).toNat)) : WH (ior x g) (fun j => if j < a then s j else if gf (j - a) = true then 1 else 0) ((a : Int) + n) := by
  obtain ⟨h1, h2, h3⟩ := h
  have o := ior_n 30 (x := x) (y := g) (m := 1073741823) (by decide) (by decide) (by omega) (by have := hg.1; omega)
  refine ⟨by omega, fun k hk => ?_, fun k hk => ?_⟩
  · obtain ⟨b1, b2, b3⟩ := h2 k hk
    rw [bt_or, bt_or, bt_or, b1, b2, b3, hg.2 k hk, bt_hi hg.1 (by omega), bt_hi hg.1 (by omega)]
    dsimp only
    by_cases c : k < a
    · rw [show inP (a : Int) k = true from decide_eq_true (by omega), show inP ((a : Int) + n) k = true from decide_eq_true (by omega), if_pos c, decide_eq_false (show ¬ ((a : Int) ≤ k ∧ (k : Int) < a + n) by omega)]
      simp
    · rw [show inP (a : Int) k = false from decide_eq_false (by omega), if_neg c]
      by_cases c2 : k < a + n
      · rw [show inP ((a : Int) + n) k = true from decide_eq_true (by omega), decide_eq_true (show (a : Int) ≤ k ∧ (k : Int) < a + n by omega), show ((k : Int) - a).toNat = k - a by omega]
        cases gf (k - a) <;> simp
      · rw [show inP ((a : Int) + n) k = false from decide_eq_false (by omega), decide_eq_false (show ¬ ((a : Int) ≤ k ∧ (k : Int) < a + n) by omega)]
        simp
  · dsimp only
    by_cases c : k < a
    · rw [if_pos c]; exact h3 k (by omega)
    · rw [if_neg c]; split <;> decide
theorem hB_come {x g : Int} {s : Nat → Int} {a n : Nat} {gf : Nat → Bool} (han : a + n ≤ 10) (h : B10 x (hB a s)) (hg : B10 g (fun k => decide ((a : Int) ≤ k ∧ (k : Int) < a + n) && gf ((k : Int) - a).toNat)) : B10 (ior x g) (hB ((a : Int) + n) (fun j => if j < a then s j else if gf (j - a) = true then 1 else 0)) := by
  refine b10_w (b10_or h hg) (fun k hk => ?_)
  unfold hB
  dsimp only
  by_cases c : k < a
  · rw [show inP (a : Int) k = true from decide_eq_true (by omega), show inP ((a : Int) + n) k = true from decide_eq_true (by omega), if_pos c, decide_eq_false (show ¬ ((a : Int) ≤ k ∧ (k : Int) < a + n) by omega)]
    simp
  · rw [show inP (a : Int) k = false from decide_eq_false (by omega), if_neg c]
    by_cases c2 : k < a + n
    · rw [show inP ((a : Int) + n) k = true from decide_eq_true (by omega), decide_eq_true (show (a : Int) ≤ k ∧ (k : Int) < a + n by omega), show ((k : Int) - a).toNat = k - a by omega]
      cases gf (k - a) <;> simp
    · rw [show inP ((a : Int) + n) k = false from decide_eq_false (by omega), decide_eq_false (show ¬ ((a : Int) ≤ k ∧ (k : Int) < a + n) by omega)]
      simp
/-- who were GUESTS is noted -/
theorem ng_pc {v1 : Int} {w : Wd} (h : 0 ≤ w 15 3 ∧ w 15 3 ≤ 60) : PC (f_D_noteGuests v1 w) (fun _ u => u = st w 16 (w 15 3).toNat v1) := by
  unfold f_D_noteGuests f_D_isOne
  rw [if_neg (by omega), if_neg (by omega), if_neg (by omega), jc_s, if_neg (by decide)]
  exact pc_gd (fun _ => pc_lw (fun u3 e3 => pc_some e3))
theorem pcm_pc {w : Wd} {P : Int} {s : Nat → Int} (hw : WH (w 5 4) s P) (h : 0 ≤ w 15 3 ∧ w 15 3 ≤ 60) : PC (f_E_peopleCame w) (fun _ u => B10 (u 16 (w 15 3).toNat) (gs P s) ∧ u 15 4 = 0 ∧ (∀ t, t ≠ (w 15 3).toNat → u 16 t = w 16 t) ∧ ∀ c k, c ≠ 16 → c ≠ 28 → ¬ (c = 15 ∧ k = 4) → u c k = w c k) := by
  unfold f_E_peopleCame
  refine pc_call (eg_e hw) (fun r1 u2 q => ?_)
  rw [q.1]
  refine pc_call (ng_pc h) (fun r3 u4 p => ?_)
  refine pc_lw (fun u5 e5 => ?_)
  refine pc_call (sf_pc u5) (fun r6 u7 y => pc_some ⟨?_, ?_, fun t ht => ?_, fun c k h1 h2 h3 => ?_⟩)
  · rw [y 16 (by decide), e5, st_c (by decide), p, st_eq]; exact q.2
  · rw [y 15 (by decide), e5, st_eq]
  · rw [y 16 (by decide), e5, st_c (by decide), p, st_k ht]
  · rw [y c h2, e5]; unfold st; rw [if_neg h3, p]; unfold st; rw [if_neg (fun e => h1 e.1)]
/-- as EAN, but who, hidden and the diary too may be others -/
def EAW (a n : Nat) (pr kn : Nat → Int) (w u : Wd) : Prop := u 5 3 = (a : Int) + n ∧ (∀ j, j < a → u 6 j = w 6 j ∧ u 8 j = w 8 j) ∧ (∀ i, i < n → u 6 (a + i) = pr i ∧ u 8 (a + i) = -1) ∧ (∀ j, j < a + n → u 7 j = ads (w 7) a kn n j)
theorem eaw_eq {a n : Nat} {pr kn : Nat → Int} {w v u : Wd} (h : EAN a n pr kn w v) (e3 : u 5 3 = v 5 3) (e6 : u 6 = v 6) (e7 : u 7 = v 7) (e8 : u 8 = v 8) : EAW a n pr kn w u := by
  obtain ⟨a1, a2, a3, a4, _⟩ := h
  unfold EAW
  rw [e3, e6, e7, e8]
  exact ⟨a1, a2, a3, a4⟩
def ECN (a n : Nat) (pr kn : Nat → Int) (gf hf : Nat → Bool) (s h : Nat → Int) (w u : Wd) : Prop := EAW a n pr kn w u ∧ WH (u 5 4) (fun j => if j < a then s j else if gf (j - a) = true then 1 else 0) ((a : Int) + n) ∧ B10 (u 5 5) (hB ((a : Int) + n) (fun j => if j < a then h j else if hf (j - a) = true then 1 else 0)) ∧ B10 (u 16 (w 15 3).toNat) (gs ((a : Int) + n) (fun j => if j < a then s j else if gf (j - a) = true then 1 else 0)) ∧ u 15 4 = 0 ∧ (∀ t, t ≠ (w 15 3).toNat → u 16 t = w 16 t) ∧ (u 5 6 = w 5 6 ∧ u 15 3 = w 15 3)
theorem lf_E {w : Wd} {a : Nat} {s h : Nat → Int} (hG : G md_E_land w w) (ha : w 5 3 = a) (hw : WH (w 5 4) s a) (hh : B10 (w 5 5) (hB a h)) (hK : KNW a (w 7)) (hd : 0 ≤ w 15 3 ∧ w 15 3 ≤ 60) : PC (f_E_land w) (fun r u => (¬ 0 < r ∧ ∀ c k, c ≠ 9 → c ≠ 10 → c ≠ 11 → ¬ (c = 1 ∧ k = 1) → u c k = w c k) ∨ (0 < r ∧ (a : Int) + r ≤ 10 ∧ ECN a r.toNat (lpr (sE (w 1 1) (w 2)) a) (lkn (sE (w 1 1) (w 2)) a) (lgs (sE (w 1 1) (w 2)) a) (lhi (sE (w 1 1) (w 2)) a) s h w u)) := by
  unfold f_E_land
  have a0 : (0 : Int) ≤ w 5 3 ∧ w 5 3 ≤ 10 := hG.1 5 3
  have hf : ∀ k, 0 ≤ w 2 k := fun k => (hG.1 2 k).1
  refine pc_call (pc_and (pc_ok (s_L_read (g_self hG) (by omega))) (pc_and (lread hf a0 ⟨rfl, rfl, rfl⟩) (mread hf a0 ⟨rfl, rfl, rfl⟩))) (fun r1 u2 q => ?_)
  obtain ⟨⟨_, gy⟩, ⟨_, q1, q2⟩, q3⟩ := q
  have f2 : ∀ c k, c ≠ 9 → c ≠ 10 → c ≠ 11 → u2 c k = w c k := fun c k h9 h10 h11 => gy.2.1 c k (by
    have e : md_L_read = [902, 903, 904, 905, 1099, 1199] := rfl
    rw [e]
    refine mS_ar ?_ k
    simp [Nat.blt_eq]
    omega)
  unfold f_T_clear
  rw [show (jlw (st u2 1 1 0) fun u1 => some ((0 : Int), u1)) = some (0, st u2 1 1 0) from rfl, jc_s]
  have f4 : ∀ c k, c ≠ 9 → c ≠ 10 → c ≠ 11 → ¬ (c = 1 ∧ k = 1) → st u2 1 1 0 c k = w c k := fun c k h9 h10 h11 h1 => by
    unfold st
    rw [if_neg h1]; exact f2 c k h9 h10 h11
  refine pc_ite (fun c => pc_some (Or.inl ⟨by omega, f4⟩)) (fun c => ?_)
  have hle : r1 ≤ 10 - w 5 3 := by
    rw [q1]
    unfold landA
    split
    · omega
    · exact lan_le _ _ _ a0.2 _ _ _ (Int.le_refl 0)
  have hc := q3 (by omega)
  rw [ha] at hc
  obtain ⟨c1, c2, c3⟩ := hc
  generalize e4 : st u2 1 1 0 = u4 at f4 ⊢
  have t9 : ∀ k, u4 9 k = u2 9 k := fun k => by rw [← e4, st_c (by decide)]
  have t10 : u4 10 = u2 10 := by rw [← e4]; exact st_row (by decide)
  have t11 : u4 11 = u2 11 := by rw [← e4]; exact st_row (by decide)
  have k7 : u4 7 = w 7 := funext fun k => f4 7 k (by decide) (by decide) (by decide) (by omega)
  have hr : ((r1.toNat : Nat) : Int) = r1 := by omega
  have hkn : ∀ i, i < r1.toNat → (0 ≤ lkn (sE (w 1 1) (w 2)) a i ∧ lkn (sE (w 1 1) (w 2)) a i ≤ 1023) ∧ ∀ q, q < 10 → bt (lkn (sE (w 1 1) (w 2)) a i) q = true → q < a + i := fun i hi => by
    obtain ⟨y1, y2⟩ := lkn_rg (s := sE (w 1 1) (w 2)) (a := (a : Int)) (i := i) (by omega)
    exact ⟨y1, fun q hq hb => by have := y2 q hq hb; omega⟩
  have hs : PC (f_L_settle u4) (fun _ u => ∃ v, EAN a r1.toNat (lpr (sE (w 1 1) (w 2)) a) (lkn (sE (w 1 1) (w 2)) a) u4 v ∧ u 5 4 = ior (u4 5 4) (u4 9 2) ∧ u 5 5 = ior (u4 5 5) (u4 9 3) ∧ ∀ c k, ¬ (c = 5 ∧ (k = 4 ∨ k = 5)) → u c k = v c k) := by
    unfold f_L_settle
    refine et2 u4 (m := r1.toNat) (by omega) (by rw [k7]; exact hK) hkn ?_ (fun i hi => ?_) FU 0 (by omega) (ean_0 ?_)
    · rw [t9, q2 (by omega), hr]
    · rw [t10, t11]; exact c1 i hi
    · rw [f4 5 3 (by decide) (by decide) (by decide) (by omega)]; exact ha
  refine pc_call hs (fun r5 u6 q => ?_)
  obtain ⟨v, hE, y4, y5, yo⟩ := q
  have o4 := f4 5 4 (by decide) (by decide) (by decide) (by omega)
  have o5 := f4 5 5 (by decide) (by decide) (by decide) (by omega)
  rw [o4, t9] at y4
  rw [o5, t9] at y5
  have w6 : WH (u6 5 4) (fun j => if j < a then s j else if lgs (sE (w 1 1) (w 2)) a (j - a) = true then 1 else 0) ((a : Int) + r1.toNat) := by
    rw [y4]
    exact wh_come (by omega) hw (by rw [hr]; rw [hr] at c2; exact c2)
  have d15 : u6 15 3 = w 15 3 := by
    rw [yo 15 3 (by omega), hE.2.2.2.2 15 3 (by decide) (by decide) (by decide) (by omega)]
    exact f4 15 3 (by decide) (by decide) (by decide) (by omega)
  refine pc_call (pcm_pc w6 (by omega)) (fun r7 u8 q => ?_)
  obtain ⟨z1, z2, z3, z4⟩ := q
  have row : ∀ c, c ≠ 16 → c ≠ 28 → c ≠ 15 → c ≠ 5 → u8 c = v c := fun c h16 h28 h15 h5 => funext fun k => (z4 c k h16 h28 (fun e => h15 e.1)).trans (yo c k (fun e => h5 e.1))
  have E8 : EAW a r1.toNat (lpr (sE (w 1 1) (w 2)) a) (lkn (sE (w 1 1) (w 2)) a) u4 u8 := eaw_eq hE ((z4 5 3 (by decide) (by decide) (by decide)).trans (yo 5 3 (by decide))) (row 6 (by decide) (by decide) (by decide) (by omega)) (row 7 (by decide) (by decide) (by decide) (by omega)) (row 8 (by decide) (by decide) (by decide) (by omega))
  refine pc_some (Or.inr ⟨by omega, by omega, ?_, ?_, ?_, ?_, z2, fun t ht => ?_, ?_, ?_⟩)
  · unfold EAW at E8 ⊢
    rw [show u4 6 = w 6 from funext fun k => f4 6 k (by decide) (by decide) (by decide) (by omega), show u4 8 = w 8 from funext fun k => f4 8 k (by decide) (by decide) (by decide) (by omega), k7] at E8
    exact E8
  · rw [z4 5 4 (by decide) (by decide) (by decide)]; exact w6
  · rw [z4 5 5 (by decide) (by decide) (by decide), y5]
    exact hB_come (by omega) hh (by rw [hr]; rw [hr] at c3; exact c3)
  · rw [← d15]; exact z1
  · rw [z3 t (by rw [d15]; exact ht), yo 16 t (by omega), hE.2.2.2.2 16 t (by decide) (by decide) (by decide) (by omega)]
    exact f4 16 t (by decide) (by decide) (by decide) (by omega)
  · rw [z4 5 6 (by decide) (by decide) (by decide), yo 5 6 (by omega), hE.2.2.2.2 5 6 (by decide) (by decide) (by decide) (by omega)]
    exact f4 5 6 (by decide) (by decide) (by decide) (by omega)
  · rw [z4 15 3 (by decide) (by decide) (by decide)]; exact d15
/-! MANY COME: to the reference -/
def RAN (a n : Nat) (pr kn g h : Nat → Int) (w u : Wd) : Prop := (∀ j, j < a → u 44 j = w 44 j ∧ u 46 j = w 46 j ∧ u 47 j = w 47 j ∧ u 48 j = w 48 j ∧ u 49 j = w 49 j) ∧ (∀ i, i < n → u 44 (a + i) = pr i ∧ u 46 (a + i) = h i ∧ u 47 (a + i) = g i ∧ u 48 (a + i) = -1 ∧ u 49 (a + i) = if g i = 1 then w 43 8 else -1) ∧ (∀ j, j < a + n → u 45 j = ads (w 45) a kn n j) ∧ ∀ c k, c ≠ 44 → c ≠ 45 → c ≠ 46 → c ≠ 47 → c ≠ 48 → c ≠ 49 → u c k = w c k
theorem ran_0 {a : Nat} {pr kn g h : Nat → Int} {w : Wd} : RAN a 0 pr kn g h w w := ⟨fun _ _ => ⟨rfl, rfl, rfl, rfl, rfl⟩, fun i hi => by omega, fun _ _ => rfl, fun _ _ _ _ _ _ _ _ => rfl⟩
theorem ran_s {a n : Nat} {pr kn g h : Nat → Int} {w u v : Wd} (hr : RAN a n pr kn g h w u) (h1 : RA1 (a + n) (pr n) (kn n) (g n) (h n) u v) : RAN a (n + 1) pr kn g h w v := by
  obtain ⟨a2, a3, a4, a5⟩ := hr
  obtain ⟨b44, b45, b47, b46, b48, b49, bo⟩ := h1
  have y8 : u 43 8 = w 43 8 := a5 43 8 (by decide) (by decide) (by decide) (by decide) (by decide) (by decide)
  refine ⟨fun j hj => ?_, fun i hi => ?_, fun j hj => ?_, fun c k h1 h2 h3 h4 h5 h6 => (bo c k h1 h2 h3 h4 h5 h6).trans (a5 c k h1 h2 h3 h4 h5 h6)⟩
  · rw [b44, b46, b47, b48, b49, if_neg (by omega), if_neg (by omega), if_neg (by omega), if_neg (by omega), if_neg (by omega)]; exact a2 j hj
  · rw [b44, b46, b47, b48, b49, y8]
    by_cases c : i = n
    · rw [c, if_pos rfl, if_pos rfl, if_pos rfl, if_pos rfl, if_pos rfl]; exact ⟨rfl, rfl, rfl, rfl, rfl⟩
    · rw [if_neg (by omega), if_neg (by omega), if_neg (by omega), if_neg (by omega), if_neg (by omega)]; exact a3 i (by omega)
  · rw [b45 j]
    show adk _ _ _ _ = adk _ _ _ _
    unfold adk
    by_cases c : j = a + n
    · rw [if_pos c, if_pos c]
    · rw [if_neg c, if_neg c, a4 j (by omega)]
theorem tdq_pc {w : Wd} (hP : 0 ≤ w 43 0 ∧ w 43 0 ≤ 10) (h56 : 0 ≤ w 43 56 ∧ w 43 56 ≤ 10) : PC (f_R_told w) (fun _ u => B10 (u 50 (w 43 8).toNat) (gs (w 43 0) (w 47)) ∧ (∀ t, t ≠ (w 43 8).toNat → u 50 t = w 50 t) ∧ u 43 32 = 0 ∧ u 43 56 = w 43 56 + 1 ∧ ∀ c k, c ≠ 50 → ¬ (c = 43 ∧ (k = 32 ∨ k = 56)) → u c k = w c k) := by
  unfold f_R_told
  refine pc_call (rg_e hP) (fun r1 u2 q => ?_)
  rw [q.1]
  refine pc_gd (fun _ => ?_)
  refine pc_lw (fun u3 e3 => ?_)
  refine pc_lw (fun u4 e4 => ?_)
  refine pc_lw (fun u5 e5 => ?_)
  have t : u4 43 56 = w 43 56 := by rw [e4, st_k (by decide), e3, st_c (by decide)]
  have w1 := w32_sp (u4 43 56 + 1)
  refine pc_some ⟨?_, fun t ht => ?_, ?_, ?_, fun c k h1 h2 => ?_⟩
  · rw [e5, st_c (by decide), e4, st_c (by decide), e3, st_eq]; exact q.2
  · rw [e5, st_c (by decide), e4, st_c (by decide), e3, st_k ht]
  · rw [e5, st_k (by decide), e4, st_eq]
  · rw [e5, st_eq]; omega
  · rw [e5]; unfold st; rw [if_neg (by omega), e4]; unfold st; rw [if_neg (by omega), e3]; unfold st; rw [if_neg (fun e => h1 e.1)]
/-- the reference's side when so many came -/
def RCN (a n : Nat) (pr kn g h : Nat → Int) (w u : Wd) : Prop := (∃ v, RAN a n pr kn g h w v ∧ ∀ c, c = 44 ∨ c = 45 ∨ c = 46 ∨ c = 47 ∨ c = 48 ∨ c = 49 → u c = v c) ∧ u 43 0 = (a : Int) + n ∧ B10 (u 50 (w 43 8).toNat) (gs ((a : Int) + n) (u 47)) ∧ (∀ t, t ≠ (w 43 8).toNat → u 50 t = w 50 t) ∧ u 43 32 = 0 ∧ u 43 56 = w 43 56 + 1 ∧ (u 43 7 = w 43 7 ∧ u 43 8 = w 43 8 ∧ u 43 10 = w 43 10 ∧ u 43 11 = w 43 11) ∧ ∀ c, c = 79 ∨ c = 80 ∨ c = 81 → u c = w c
theorem rcn_fin {a n : Nat} (han : a + n ≤ 10) {pr kn g h : Nat → Int} {w v v2 u : Wd} (hv : RAN a n pr kn g h w v) (e2 : v2 = st v 43 0 ((a : Int) + n)) (q : B10 (u 50 (v2 43 8).toNat) (gs (v2 43 0) (v2 47)) ∧ (∀ t, t ≠ (v2 43 8).toNat → u 50 t = v2 50 t) ∧ u 43 32 = 0 ∧ u 43 56 = v2 43 56 + 1 ∧ ∀ c k, c ≠ 50 → ¬ (c = 43 ∧ (k = 32 ∨ k = 56)) → u c k = v2 c k) : RCN a n pr kn g h w u := by
  have f : ∀ c k, c ≠ 44 → c ≠ 45 → c ≠ 46 → c ≠ 47 → c ≠ 48 → c ≠ 49 → ¬ (c = 43 ∧ k = 0) → v2 c k = w c k := fun c k h1 h2 h3 h4 h5 h6 h7 => by
    rw [e2]; unfold st; rw [if_neg h7]; exact hv.2.2.2 c k h1 h2 h3 h4 h5 h6
  obtain ⟨q1, q2, q3, q4, q5⟩ := q
  have y8 : v2 43 8 = w 43 8 := f 43 8 (by decide) (by decide) (by decide) (by decide) (by decide) (by decide) (by decide)
  have y0 : v2 43 0 = (a : Int) + n := by rw [e2, st_eq]
  have y47 : u 47 = v2 47 := funext fun k => q5 47 k (by decide) (by omega)
  rw [y8] at q1 q2
  rw [y0, ← y47] at q1
  refine ⟨⟨v, hv, fun c hc => funext fun k => ?_⟩, ?_, q1, fun t ht => ?_, q3, ?_, ⟨?_, ?_, ?_, ?_⟩, fun c hc => funext fun k => ?_⟩
  · rw [q5 c k (by omega) (by omega), e2, st_c (by omega)]
  · rw [q5 43 0 (by decide) (by decide)]; exact y0
  · rw [q2 t ht, f 50 t (by decide) (by decide) (by decide) (by decide) (by decide) (by decide) (by omega)]
  · rw [q4, f 43 56 (by decide) (by decide) (by decide) (by decide) (by decide) (by decide) (by decide)]
  · rw [q5 43 7 (by decide) (by decide), f 43 7 (by decide) (by decide) (by decide) (by decide) (by decide) (by decide) (by decide)]
  · rw [q5 43 8 (by decide) (by decide)]; exact y8
  · rw [q5 43 10 (by decide) (by decide), f 43 10 (by decide) (by decide) (by decide) (by decide) (by decide) (by decide) (by decide)]
  · rw [q5 43 11 (by decide) (by decide), f 43 11 (by decide) (by decide) (by decide) (by decide) (by decide) (by decide) (by decide)]
  · rw [q5 c k (by omega) (by omega), f c k (by omega) (by omega) (by omega) (by omega) (by omega) (by omega) (by omega)]
/-- what the reading of lines leaves as it was -/
def KF0 (w0 w : Wd) : Prop := (∀ c k, c ≠ 43 → c ≠ 53 → c ≠ 54 → c ≠ 55 → c ≠ 56 → w c k = w0 c k) ∧ ∀ k, k ≠ 13 → k ≠ 16 → k ≠ 17 → k ≠ 18 → k ≠ 19 → k ≠ 20 → k ≠ 21 → w 43 k = w0 43 k
theorem kf_st {w0 w u : Wd} {c k : Nat} {z : Int} (h : KF0 w0 w) (e : u = st w c k z) (hc : c = 43 ∧ (k = 13 ∨ k = 16 ∨ k = 17 ∨ k = 18 ∨ k = 19 ∨ k = 20 ∨ k = 21)) : KF0 w0 u := by
  refine ⟨fun c' k' h1 h2 h3 h4 h5 => ?_, fun k' h1 h2 h3 h4 h5 h6 h7 => ?_⟩
  · rw [e, st_c (by omega)]; exact h.1 c' k' h1 h2 h3 h4 h5
  · rw [e, hc.1, st_k (by omega)]; exact h.2 k' h1 h2 h3 h4 h5 h6 h7
theorem mS_mem {S : List Nat} {c k : Nat} (h : mS S c k = true) : ∃ x ∈ S, x = c * 100 + 99 ∨ (k < 99 ∧ x = c * 100 + k) := by
  unfold mS at h
  rw [Bool.or_eq_true, Bool.and_eq_true, Nat.blt_eq] at h
  rcases h with h | h
  · exact ⟨_, List.contains_iff_mem.mp h, Or.inl rfl⟩
  · exact ⟨_, List.contains_iff_mem.mp h.2, Or.inr ⟨h.1, rfl⟩⟩
theorem kf_ro {w0 w u : Wd} (h : KF0 w0 w) (g : G md_R_readOne w u) : KF0 w0 u := by
  have key : ∀ c k, ¬ (c = 43 ∧ (k = 20 ∨ k = 21)) → c ≠ 53 → c ≠ 54 → c ≠ 55 → c ≠ 56 → u c k = w c k := by
    intro c k h1 h2 h3 h4 h5
    refine g.2.1 c k ?_
    cases hm : mS md_R_readOne c k with
    | false => rfl
    | true =>
      obtain ⟨x, hx, hx2⟩ := mS_mem hm
      have e : md_R_readOne = [4320, 4321, 5399, 5499, 5599, 5699] := rfl
      rw [e] at hx
      simp only [List.mem_cons, List.not_mem_nil, or_false] at hx
      exfalso
      omega
  refine ⟨fun c k h1 h2 h3 h4 h5 => ?_, fun k h1 h2 h3 h4 h5 h6 h7 => ?_⟩
  · rw [key c k (by omega) h2 h3 h4 h5]; exact h.1 c k h1 h2 h3 h4 h5
  · rw [key 43 k (by omega) (by decide) (by decide) (by decide) (by decide)]; exact h.2 k h1 h2 h3 h4 h5 h6 h7
theorem n132 {a m : Nat} (ham : a + m ≤ 10) {h : Int → Int} {v3 : Int} (x : Wd) (hx : RCt h a m x) (h56 : 0 ≤ x 43 56 ∧ x 43 56 ≤ 10) : ∀ (n : Nat) {w : Wd} (i : Nat), i ≤ m → RAN a i (lpr h a) (lkn h a) (fun i => if lgs h a i = true then 1 else 0) (fun i => if lhi h a i = true then 1 else 0) x w → PC (f_R_land_132 n ((a : Int) + m) v3 ((a : Int) + i) w) (fun _ u => RCN a m (lpr h a) (lkn h a) (fun i => if lgs h a i = true then 1 else 0) (fun i => if lhi h a i = true then 1 else 0) x u) := by
  intro n
  induction n with
  | zero => intros; exact pc_none
  | succ n ih =>
    intro w i hi hR
    rw [f_R_land_132]
    have fo := hR.2.2.2
    refine pc_ite (fun c => ?_) (fun c => ?_)
    · have e : i = m := by omega
      subst e
      refine pc_lw (fun u10 e10 => ?_)
      have y0 : u10 43 0 = (a : Int) + i := by rw [e10, st_eq]
      have y56 : u10 43 56 = x 43 56 := by rw [e10, st_k (by decide)]; exact fo 43 56 (by decide) (by decide) (by decide) (by decide) (by decide) (by decide)
      refine pc_call (tdq_pc (w := u10) (by omega) (by omega)) (fun r11 u12 q => pc_some ?_)
      exact rcn_fin ham hR e10 q
    · have ei : ((a : Int) + i).toNat = a + i := by omega
      refine pc_gd (fun _ => ?_)
      refine pc_gd (fun _ => ?_)
      refine pc_gd (fun _ => ?_)
      refine pc_gd (fun _ => ?_)
      obtain ⟨x1, x2, x3, x4⟩ := hx i (by omega)
      rw [ei] at x1 x2 x3 x4 ⊢
      rw [fo 53 _ (by decide) (by decide) (by decide) (by decide) (by decide) (by decide), fo 54 _ (by decide) (by decide) (by decide) (by decide) (by decide) (by decide), fo 55 _ (by decide) (by decide) (by decide) (by decide) (by decide) (by decide), fo 56 _ (by decide) (by decide) (by decide) (by decide) (by decide) (by decide), x1, x2, x3, x4]
      refine pc_call (ra_pc (i := a + i) (by omega) (by omega) (by cases lhi h a i <;> decide)) (fun r13 u14 q => ?_)
      refine pc_let (fun x15 e15 => ?_)
      rw [wsucc (P := 10) (by omega) (by decide)] at e15
      have ex : x15 = (a : Int) + ((i + 1 : Nat) : Int) := by omega
      rw [ex]
      exact ih (i + 1) (by omega) (ran_s hR q)
theorem rcn_tr {a n : Nat} {pr kn g h : Nat → Int} {w0 x u : Wd} (k : KF0 w0 x) (hr : RCN a n pr kn g h x u) : RCN a n pr kn g h w0 u := by
  obtain ⟨⟨v, ⟨a2, a3, a4, a5⟩, hv⟩, r0, r50, r50o, r32, r56, ⟨r7, r8, r10, r11⟩, rk⟩ := hr
  have k8 : x 43 8 = w0 43 8 := k.2 8 (by decide) (by decide) (by decide) (by decide) (by decide) (by decide) (by decide)
  have row : ∀ c, c ≠ 43 → c ≠ 53 → c ≠ 54 → c ≠ 55 → c ≠ 56 → x c = w0 c := fun c h1 h2 h3 h4 h5 => funext fun j => k.1 c j h1 h2 h3 h4 h5
  -- v is not what it is against w0 in the reader's own cells: make it so
  refine ⟨⟨fun c j => if c = 43 ∨ c = 53 ∨ c = 54 ∨ c = 55 ∨ c = 56 then w0 c j else v c j, ⟨fun j hj => ?_, fun i hi => ?_, fun j hj => ?_, fun c j h1 h2 h3 h4 h5 h6 => ?_⟩, fun c hc => ?_⟩, r0, by rw [← k8]; exact r50, fun t ht => ?_, r32, ?_, ⟨?_, ?_, ?_, ?_⟩, fun c hc => ?_⟩
  · have := a2 j hj
    rw [row 44 (by decide) (by decide) (by decide) (by decide) (by decide), row 46 (by decide) (by decide) (by decide) (by decide) (by decide), row 47 (by decide) (by decide) (by decide) (by decide) (by decide), row 48 (by decide) (by decide) (by decide) (by decide) (by decide), row 49 (by decide) (by decide) (by decide) (by decide) (by decide)] at this
    exact this
  · have := a3 i hi
    rw [k8] at this
    exact this
  · have := a4 j hj
    rw [row 45 (by decide) (by decide) (by decide) (by decide) (by decide)] at this
    exact this
  · dsimp only
    by_cases c1 : c = 43 ∨ c = 53 ∨ c = 54 ∨ c = 55 ∨ c = 56
    · rw [if_pos c1]
    · rw [if_neg c1, a5 c j h1 h2 h3 h4 h5 h6]; exact k.1 c j (by omega) (by omega) (by omega) (by omega) (by omega)
  · rw [hv c hc]
    funext j
    dsimp only
    rw [if_neg (by omega)]
  · rw [r50o t (by rw [k8]; exact ht)]; exact k.1 50 t (by decide) (by decide) (by decide) (by decide) (by decide)
  · rw [r56, k.2 56 (by decide) (by decide) (by decide) (by decide) (by decide) (by decide) (by decide)]
  · rw [r7, k.2 7 (by decide) (by decide) (by decide) (by decide) (by decide) (by decide) (by decide)]
  · rw [r8]; exact k8
  · rw [r10, k.2 10 (by decide) (by decide) (by decide) (by decide) (by decide) (by decide) (by decide)]
  · rw [r11, k.2 11 (by decide) (by decide) (by decide) (by decide) (by decide) (by decide) (by decide)]
  · rw [rk c hc]; exact row c (by omega) (by omega) (by omega) (by omega) (by omega)
/-- so many lines were read: they come, or there is a fault -/
theorem n40z {b w0 : Wd} {a m : Nat} {n0 : Int} {f0 : Nat → Int} (ham : a + m ≤ 10) (n : Nat) {w : Wd} (hG : G md_R_land b w) (hV : RV n0 f0 (a : Int) w) (h21 : w 43 21 = -1) (h56 : 0 ≤ w 43 56 ∧ w 43 56 ≤ 10) (hc : RCt (hR n0 f0) a m w) (hk : KF0 w0 w) : PC (f_R_land_40 n ((a : Int) + m) 0 w) (fun r u => 0 < r → RCN a m (lpr (hR n0 f0) a) (lkn (hR n0 f0) a) (fun i => if lgs (hR n0 f0) a i = true then 1 else 0) (fun i => if lhi (hR n0 f0) a i = true then 1 else 0) w0 u) := by
  cases n with
  | zero => exact pc_none
  | succ n =>
    rw [f_R_land_40]
    refine pc_ite (fun _ => ?_) (fun h => absurd rfl h)
    have a20 : (0 : Int) ≤ w 43 20 ∧ w 43 20 ≤ 80 := hG.1 43 20
    by_cases cc : w 43 18 ≤ w 43 20
    · unfold f_R_land_86
      rw [if_pos cc]
      unfold f_R_land_105
      rw [fine_e, jc_s, if_pos h21]
      refine pc_ite (fun h => absurd h (by decide)) (fun _ => ?_)
      refine pc_let (fun x8 e8 => ?_)
      refine pc_let (fun x9 e9 => ?_)
      have e : x9 = (a : Int) + ((0 : Nat) : Int) := by rw [e9, hV.2.2.2.2]; omega
      rw [e]
      exact pc_w (n132 ham w hc h56 FU 0 (by omega) ran_0) (fun r u q _ => rcn_tr hk q)
    · refine pc_w (r86 (v1 := (a : Int) + m) (by omega) hG h56 (Or.inl (by omega))) (fun r u q h0 => ?_)
      rw [if_pos h21, if_neg cc] at q
      exfalso; omega
theorem n40 {b w0 : Wd} {a : Nat} {n0 : Int} {f0 : Nat → Int} {C0 : Int} (hC : 0 ≤ C0 ∧ C0 ≤ 10) : ∀ (n : Nat) {w : Wd} (j : Nat), a + j ≤ 10 → G md_R_land b w → RV n0 f0 (a : Int) w → w 43 21 = -1 → (0 ≤ w 43 20 ∧ w 43 20 ≤ 76) → w 43 56 = C0 → w 43 20 = lp (hR n0 f0) a j → RCt (hR n0 f0) a j w → KF0 w0 w → PC (f_R_land_40 n ((a : Int) + j) 1 w) (fun r u => 0 < r → (a : Int) + r ≤ 10 ∧ RCN a r.toNat (lpr (hR n0 f0) a) (lkn (hR n0 f0) a) (fun i => if lgs (hR n0 f0) a i = true then 1 else 0) (fun i => if lhi (hR n0 f0) a i = true then 1 else 0) w0 u) := by
  intro n
  induction n with
  | zero => intros; exact pc_none
  | succ n ih =>
    intro w j haj hG h h21 h20 h56 hl hc hk
    rw [f_R_land_40]
    have w1 := w32_sp ((a : Int) + j + 1)
    refine pc_ite (fun h => absurd h (by decide)) (fun _ => ?_)
    rw [fine_e, jc_s, if_pos h21]
    refine pc_ite (fun h => absurd h (by decide)) (fun _ => ?_)
    have stop : ∀ {u : Wd} {x : Int}, G md_R_land b u → RV n0 f0 (a : Int) u → u 43 21 = x → 0 ≤ x → (0 ≤ u 43 20 ∧ u 43 20 ≤ 76) → u 43 56 = C0 → PC (f_R_land_73 (f_R_land_40 n) ((a : Int) + j) u) (fun r u' => 0 < r → (a : Int) + r ≤ 10 ∧ RCN a r.toNat (lpr (hR n0 f0) a) (lkn (hR n0 f0) a) (fun i => if lgs (hR n0 f0) a i = true then 1 else 0) (fun i => if lhi (hR n0 f0) a i = true then 1 else 0) w0 u') := by
      intro u x gu hu ux x0 u20 u56
      unfold f_R_land_73
      refine pc_let (fun x22 e22 => ?_)
      refine pc_call (ps_pc hu 59 u20) (fun r23 u24 q => ?_)
      rcases q with ⟨q0, _⟩ | ⟨_, q2, q3⟩
      · exfalso; omega
      · rw [q2, q3]
        have hne : ¬ u 43 21 = -1 := by omega
        refine pc_w (r40z (v1 := x22) (by omega) n gu (by omega) (Or.inr hne)) (fun r u' p h0 => ?_)
        rw [if_neg hne, ux] at p
        exfalso; omega
    refine pc_ite (fun c1 => ?_) (fun c1 => ?_)
    · refine pc_call (pc_and (pc_ok (s_R_fault (g_self hG) (by omega) h20.1)) (fl_pc w (w 43 20))) (fun r25 u26 q => ?_)
      obtain ⟨⟨_, gy, _⟩, q⟩ := q
      rw [if_pos h21] at q
      have t20 : u26 43 20 = w 43 20 := by rw [q, st_k (by decide)]
      exact stop (g_tr hG gy rfl) (rv_st h q (by decide) (Or.inr (by decide))) (by rw [q, st_eq]) h20.1 (by omega) (by rw [q, st_k (by decide)]; exact h56)
    · refine pc_call (pc_and (pc_ok (s_R_readOne (g_self hG) (by omega) h.1)) (pc_and (rrl (by omega) h h21 h20) (nrl (by omega) (by omega) h h21 h20 hl hc))) (fun r20 u21 q => ?_)
      obtain ⟨⟨_, gy⟩, ⟨hu, q⟩, qc⟩ := q
      have gu : G md_R_land b u21 := g_tr hG gy rfl
      have ku := kf_ro hk gy
      have t56 : u21 43 56 = C0 := (gy.2.1 43 56 rfl).trans h56
      rcases q with ⟨q1, q2, q3⟩ | ⟨q1, q⟩
      · exact stop gu hu q2 h20.1 (by omega) t56
      · have l5 := hR_lt (n := n0) (f := f0) (p := w 43 20) (by omega)
        have b1 := lt_ge (hR n0 f0) ((a : Int) + j) ((a : Int) + j).toNat (w 43 20 + 1)
        have b2 := lt_le (hR_76 n0 f0) (num := (a : Int) + j) ((a : Int) + j).toNat (p := w 43 20 + 1) (by omega) (by omega)
        have b3 := fnl_le (hR_76 n0 f0) (p := lt (hR n0 f0) ((a : Int) + j) ((a : Int) + j).toNat (w 43 20 + 1)) (by omega)
        have b4 := fnl_ge (hR n0 f0) (lt (hR n0 f0) ((a : Int) + j) ((a : Int) + j).toNat (w 43 20 + 1))
        have ee : en (hR n0 f0) ((a : Int) + j) (w 43 20) = fnl (hR n0 f0) (lt (hR n0 f0) ((a : Int) + j) ((a : Int) + j).toNat (w 43 20 + 1)) := rfl
        generalize lt (hR n0 f0) ((a : Int) + j) ((a : Int) + j).toNat (w 43 20 + 1) = x at *
        rcases q with ⟨p1, p2, p3⟩ | ⟨p1, p2, p3⟩
        · have l6 := hR_lt (n := n0) (f := f0) (p := x) (by omega)
          exact stop gu hu p2 (by omega) (by omega) t56
        · have qc2 := qc p2
          unfold f_R_land_73
          refine pc_let (fun x22 e22 => ?_)
          have e22' : x22 = (a : Int) + ((j + 1 : Nat) : Int) := by omega
          rw [e22']
          have y20 : u21 43 20 = en (hR n0 f0) ((a : Int) + j) (w 43 20) := by rw [ee]; exact p3
          refine pc_call (pc_and (pc_ok (s_R_passes (g_self gu) (by decide) (Or.inl hu.1) (by decide))) (ps_pc hu 59 (by omega))) (fun r23 u24 q => ?_)
          obtain ⟨⟨_, gy2, _⟩, q⟩ := q
          rcases q with ⟨_, c2, q2, q3⟩ | ⟨q1', q2, q3⟩
          · have l6 := hR_lt (n := n0) (f := f0) (p := u21 43 20) (by omega)
            rw [q2]
            have t20 : u24 43 20 = u21 43 20 + 1 := by rw [q3, st_eq]
            refine ih (j + 1) (by omega) (g_tr gu gy2 rfl) (rv_st hu q3 (by decide) (Or.inr (by decide))) (by rw [q3, st_k (by decide)]; exact p2) (by omega) (by rw [q3, st_k (by decide)]; exact t56) ?_ ?_ (kf_st ku q3 (by omega))
            · rw [t20, y20, hl]; rfl
            · intro i hi
              rw [q3, st_c (by decide), st_c (by decide), st_c (by decide), st_c (by decide)]
              exact qc2 i hi
          · rw [q2, q3]
            refine pc_w (pc_and (n40z (a := a) (m := j + 1) (by omega) n gu hu p2 (by omega) qc2 ku) (r40z (v1 := (a : Int) + ((j + 1 : Nat) : Int)) (by omega) n gu (by omega) (Or.inl (by omega)))) (fun r u' p h0 => ?_)
            obtain ⟨p1', p2'⟩ := p
            rw [if_pos p2, hu.2.2.2.2] at p2'
            by_cases c3 : u21 43 18 ≤ u21 43 20
            · rw [if_pos c3] at p2'
              have er : r = ((j + 1 : Nat) : Int) := by omega
              have er2 : r.toNat = j + 1 := by omega
              rw [er2]
              exact ⟨by omega, p1' h0⟩
            · rw [if_neg c3] at p2'
              exfalso; omega
theorem lf_R {w : Wd} {a : Nat} (hG : G md_R_land w w) (ha : w 43 0 = a) (h56 : 0 ≤ w 43 56 ∧ w 43 56 ≤ 10) : PC (f_R_land w) (fun r u => 0 < r → (a : Int) + r ≤ 10 ∧ RCN a r.toNat (lpr (hR (w 43 13) (w 51)) a) (lkn (hR (w 43 13) (w 51)) a) (fun i => if lgs (hR (w 43 13) (w 51)) a i = true then 1 else 0) (fun i => if lhi (hR (w 43 13) (w 51)) a i = true then 1 else 0) w u) := by
  unfold f_R_land
  have a0 : (0 : Int) ≤ w 43 0 ∧ w 43 0 ≤ 10 := hG.1 43 0
  refine pc_lw (fun u1 e1 => ?_)
  have g1 : G md_R_land w u1 := g_st hG e1 rfl rfl (show (0 : Int) ≤ 0 ∧ (0 : Int) ≤ 1 by decide)
  have a13 : (0 : Int) ≤ u1 43 13 ∧ u1 43 13 ≤ 80 := g1.1 43 13
  have t13 : u1 43 13 = w 43 13 := by rw [e1, st_k (by decide)]
  have t0 : u1 43 0 = w 43 0 := by rw [e1, st_k (by decide)]
  have t51 : u1 51 = w 51 := by rw [e1]; exact st_row (by decide)
  have k1 : KF0 w u1 := kf_st ⟨fun _ _ _ _ _ _ _ => rfl, fun _ _ _ _ _ _ _ _ => rfl⟩ e1 (by omega)
  have q1 : PC (f_R_begin1_43_51 (u1 43 13) 76 u1) (fun _ u => RV (w 43 13) (w 51) (a : Int) u ∧ u 43 20 = 0 ∧ u 43 21 = -1 ∧ KF0 w u) := by
    unfold f_R_begin1_43_51
    refine pc_lw (fun x1 y1 => ?_)
    refine pc_lw (fun x2 y2 => ?_)
    refine pc_lw (fun x3 y3 => ?_)
    refine pc_lw (fun x4 y4 => ?_)
    refine pc_lw (fun x5 y5 => ?_)
    refine pc_some ⟨⟨?_, ?_, ?_, ?_, ?_⟩, ?_, ?_, ?_⟩
    · rw [y5, st_k (by decide), y4, st_k (by decide), y3, st_k (by decide), y2, st_k (by decide), y1, st_eq]
    · rw [y5, st_k (by decide), y4, st_k (by decide), y3, st_k (by decide), y2, st_eq]; exact t13
    · rw [y5, st_k (by decide), y4, st_k (by decide), y3, st_eq]
    · rw [y5, st_row (by decide), y4, st_row (by decide), y3, st_row (by decide), y2, st_row (by decide), y1, st_row (by decide)]; exact t51
    · rw [y5, st_k (by decide), y4, st_k (by decide), y3, st_k (by decide), y2, st_k (by decide), y1, st_k (by decide), t0]; exact ha
    · rw [y5, st_k (by decide), y4, st_eq]
    · rw [y5, st_eq]
    · exact kf_st (kf_st (kf_st (kf_st (kf_st k1 y1 (by omega)) y2 (by omega)) y3 (by omega)) y4 (by omega)) y5 (by omega)
  refine pc_call (pc_and (pc_ok (s_R_begin1_43_51 (g_self g1) (by omega) (by omega))) q1) (fun r2 u3 q => ?_)
  obtain ⟨⟨_, gy, _⟩, hu, q20, q21, k3⟩ := q
  have g3 : G md_R_land w u3 := g_tr g1 gy rfl
  refine pc_lw (fun u4 e4 => ?_)
  have g4 : G md_R_land w u4 := g_st g3 e4 rfl rfl (show (0 : Int) ≤ 0 ∧ (0 : Int) ≤ 80 by decide)
  have h4 := rv_st hu e4 (by decide) (Or.inr (by decide))
  have t20 : u4 43 20 = 0 := by rw [e4, st_k (by decide)]; exact q20
  have t21 : u4 43 21 = -1 := by rw [e4, st_k (by decide)]; exact q21
  have t56 : u4 43 56 = w 43 56 := by rw [e4, st_k (by decide), gy.2.1 43 56 rfl, e1, st_k (by decide)]
  refine pc_ite (fun c => pc_some (fun h0 => by omega)) (fun c => ?_)
  refine pc_let (fun x5 e5 => ?_)
  have ex : x5 = (a : Int) + ((0 : Nat) : Int) := by rw [e5, h4.2.2.2.2]; omega
  rw [ex]
  exact n40 h56 FU 0 (by omega) g4 h4 t21 (by omega) t56 t20 (fun i hi => by omega) (kf_st k3 e4 (by omega))
