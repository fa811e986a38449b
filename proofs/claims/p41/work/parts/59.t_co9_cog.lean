/-! MEET, HIDE with what stays -/
theorem c_meet {w : Wd} {v1 v2 v3 : Int} (h : LI w) (i_v1 : ((-2147483648 : Int) ≤ v1 ∧ v1 ≤ 2147483647)) (i_v2 : ((-2147483648 : Int) ≤ v2 ∧ v2 ≤ 2147483647)) (i_v3 : ((0 : Int) ≤ v3 ∧ v3 ≤ 1)) : OK (f_E_meet v1 v2 v3 w) (fun r1 u1 => OK (f_R_meet v1 v2 v3 u1) (fun r2 u2 => LI u2 ∧ r1 = r2)) := by
  refine ok_w (ok_pc (e_E_meet h.1 i_v1 i_v2 i_v3) (me_E v1 v2 v3 w)) (fun r1 u1 q1 => ?_)
  obtain ⟨⟨g1, s1⟩, x1⟩ := q1
  refine ok_w (ok_pc (e_R_meet s1 i_v1 i_v2 i_v3) (me_R v1 v2 v3 u1 (s1.1.1 43 0))) (fun r2 u2 q2 => ?_)
  obtain ⟨⟨g2, s2⟩, x2⟩ := q2
  have e0 : u1 43 0 = w 43 0 := g1.2.1 43 0 rfl
  refine ⟨⟨s2, co_fr h.2 (fr_tr (fr_g g1 rfl) (fr_g g2 rfl))⟩, ?_⟩
  rw [x1, x2, e0, h.2.2.1]
theorem c_hide {w : Wd} {v1 v2 : Int} (h : LI w) (i_v1 : ((-2147483648 : Int) ≤ v1 ∧ v1 ≤ 2147483647)) (i_v2 : ((0 : Int) ≤ v2 ∧ v2 ≤ 1)) : OK (f_E_hide v1 v2 w) (fun r1 u1 => OK (f_R_hide v1 v2 u1) (fun r2 u2 => LI u2 ∧ r1 = r2)) := by
  refine ok_w (ok_pc (e_E_hide h.1 i_v1 i_v2) (hi_E v1 v2 w)) (fun r1 u1 q1 => ?_)
  obtain ⟨⟨g1, s1⟩, x1⟩ := q1
  refine ok_w (ok_pc (e_R_hide s1 i_v1 i_v2) (hi_R v1 v2 u1 (s1.1.1 43 0))) (fun r2 u2 q2 => ?_)
  obtain ⟨⟨g2, s2⟩, x2⟩ := q2
  have e0 : u1 43 0 = w 43 0 := g1.2.1 43 0 rfl
  refine ⟨⟨s2, co_fr h.2 (fr_tr (fr_g g1 rfl) (fr_g g2 rfl))⟩, ?_⟩
  rw [x1, x2, e0, h.2.2.1]
/-! SHEET -/
theorem w32_w (z : Int) (b : Int) : w32 (w32 z + b) = w32 (z + b) := by
  unfold w32
  exact Int.bmod_add_bmod
theorem w32_r (z : Int) (b : Int) : w32 (b + w32 z) = w32 (b + z) := by
  rw [Int.add_comm, w32_w, Int.add_comm]
theorem w32_id {z : Int} (h : -2147483648 ≤ z ∧ z ≤ 2147483647) : w32 z = z := by
  have := w32_sp z
  omega
theorem hasE_e {x k : Int} (w : Wd) (hk : 0 ≤ k ∧ k < 10) : f_E_has x k w = some (if bt x k.toNat then 1 else 0, w) := by
  unfold f_E_has
  rw [if_neg (by omega), if_neg (by omega)]
  have h := has_bt (x := x) (k := k) (by omega)
  have h2 := iand_r (x := ishr x k) (y := 1) (by decide)
  cases hb : bt x k.toNat with
  | true => rw [if_neg (by rw [h.mpr hb]; decide)]; rfl
  | false =>
    have h3 : ¬ iand (ishr x k) 1 = 1 := fun e => by rw [h.mp e] at hb; cases hb
    rw [if_pos (by omega)]; rfl
def shv (k v : Int) : Int := imax 0 (imin 9 (if k = 0 then i2b v else if k = 1 then i2s v else v))
theorem shv_rg (k v : Int) : 0 ≤ shv k v ∧ shv k v ≤ 9 := by
  unfold shv
  generalize (if k = 0 then i2b v else if k = 1 then i2s v else v) = e
  have h1 := imin_sp 9 e
  have h2 := imax_sp 0 (imin 9 e)
  omega
def shp (k n f s : Int) (j : Nat) : Int := if k = 3 then 0 else if (j : Int) < n then shv k (w32 (f + j * s)) else 0
theorem shp_rg (k n f s : Int) (j : Nat) : 0 ≤ shp k n f s j ∧ shp k n f s j ≤ 9 := by
  unfold shp
  by_cases h : k = 3
  · rw [if_pos h]; decide
  · rw [if_neg h]
    by_cases h2 : (j : Int) < n
    · rw [if_pos h2]; exact shv_rg _ _
    · rw [if_neg h2]; decide
def sms (g : Nat → Int) : Nat → Int
  | 0 => 0
  | k + 1 => sms g k + g k
theorem sms_rg {g : Nat → Int} (h : ∀ j, 0 ≤ g j ∧ g j ≤ 9) : ∀ n : Nat, 0 ≤ sms g n ∧ sms g n ≤ 9 * n := by
  intro n
  induction n with
  | zero => exact ⟨Int.le_refl 0, Int.le_refl 0⟩
  | succ n ih => have := h n; rw [sms]; omega
theorem sms_eq {g h : Nat → Int} : ∀ {n : Nat}, (∀ j, j < n → g j = h j) → sms g n = sms h n := by
  intro n
  induction n with
  | zero => intro _; rfl
  | succ n ih => intro e; rw [sms, sms, ih (fun j hj => e j (by omega)), e n (by omega)]
/-- what some cost -/
theorem po_pc {x P : Int} {w : Wd} (hP : 0 ≤ P ∧ P ≤ 10) (h3 : w 5 3 = P) (h6 : ∀ j : Nat, (0 : Int) ≤ w 6 j ∧ w 6 j ≤ 9) : ∀ (n : Nat) {v2 v3 : Int}, 0 ≤ v3 → v3 ≤ P → v2 = sms (fun j => if bt x j then w 6 j else 0) v3.toNat → PC (f_F_pricesOf_4 n x v2 v3 w) (fun r u => u = w ∧ r = sms (fun j => if bt x j then w 6 j else 0) P.toNat) := by
  have hg : ∀ j : Nat, 0 ≤ (if bt x j then w 6 j else 0) ∧ (if bt x j then w 6 j else 0) ≤ 9 := fun j => by
    by_cases c : bt x j = true
    · rw [if_pos c]; exact h6 j
    · rw [if_neg c]; decide
  intro n
  induction n with
  | zero => intros; exact pc_none
  | succ n ih =>
    intro v2 v3 i3 i4 h2
    rw [f_F_pricesOf_4, h3]
    have hr := sms_rg hg v3.toNat
    have hj := hg v3.toNat
    have w1 := w32_sp (v3 + 1)
    refine pc_ite (fun c => ?_) (fun c => ?_)
    · have : v3 = P := by omega
      exact pc_some ⟨rfl, by rw [h2, this]⟩
    · rw [hasE_e w (by omega), jc_s]
      have nx : ∀ s : Int, s = (if bt x v3.toNat then w 6 v3.toNat else 0) → PC (f_F_pricesOf_31 (f_F_pricesOf_4 n) x v3 v2 s w) (fun r u => u = w ∧ r = sms (fun j => if bt x j then w 6 j else 0) P.toNat) := by
        intro s hs
        unfold f_F_pricesOf_31
        refine pc_let (fun x3 e3 => ?_)
        refine pc_let (fun x4 e4 => ?_)
        rw [w32_id (by omega)] at e3
        rw [w32_id (by omega)] at e4
        refine ih (by omega) (by omega) ?_
        rw [e4, show (v3 + 1).toNat = v3.toNat + 1 by omega, sms, e3, h2, hs]
      cases hb : bt x v3.toNat with
      | true =>
        refine pc_ite (fun e => absurd e (by decide)) (fun _ => ?_)
        exact pc_gd (fun _ => nx _ (by rw [hb]; rfl))
      | false =>
        refine pc_ite (fun _ => nx 0 (by rw [hb]; rfl)) (fun e => absurd rfl e)
theorem prs_pc {x : Int} {w : Wd} (hP : 0 ≤ w 5 3 ∧ w 5 3 ≤ 10) (h6 : ∀ j : Nat, (0 : Int) ≤ w 6 j ∧ w 6 j ≤ 9) : PC (f_F_pricesOf x w) (fun r u => u = w ∧ r = sms (fun j => if bt x j then w 6 j else 0) (w 5 3).toNat) := by
  unfold f_F_pricesOf
  exact po_pc hP rfl h6 FU (by decide) hP.1 rfl
theorem se_46 {k m f s P : Int} (hk : k = 0 ∨ k = 1 ∨ k = 2) (hm : 0 ≤ m ∧ m ≤ 10) (hf : -2147483648 ≤ f ∧ f ≤ 2147483647) (hP : 0 ≤ P ∧ P ≤ 10) : ∀ (n : Nat) {w : Wd} {v5 : Int}, 0 ≤ v5 → v5 ≤ P → w 5 3 = P → (∀ j : Nat, (0 : Int) ≤ w 6 j ∧ w 6 j ≤ 9) → (∀ j : Nat, (j : Int) < v5 → w 6 j = shp k m f s j) → PC (f_E_sheet_46 n k m f s v5 w) (fun r u => r = sms (shp k m f s) P.toNat ∧ ∀ j : Nat, (j : Int) < P → u 6 j = shp k m f s j) := by
  intro n
  induction n with
  | zero => intros; exact pc_none
  | succ n ih =>
    intro w v5 i5 i6 h3 h6 hD
    rw [f_E_sheet_46, h3]
    have w1 := w32_sp (v5 + 1)
    refine pc_ite (fun c => ?_) (fun c => ?_)
    · unfold f_F_everybody
      rw [jc_s, h3]
      refine pc_call (prs_pc (by omega) h6) (fun r3 u4 q => pc_some ⟨?_, fun j hj => ?_⟩)
      · rw [q.2, h3]
        refine sms_eq (fun j hj => ?_)
        rw [(all_e hP).1, bt_all (by omega) (by omega), decide_eq_true hj]
        exact hD j (by omega)
      · rw [q.1]; exact hD j (by omega)
    · have nx : ∀ e : Int, e = shp k m f s v5.toNat → PC (f_E_sheet_88 (f_E_sheet_46 n) k m f s v5 v5 e w) (fun r u => r = sms (shp k m f s) P.toNat ∧ ∀ j : Nat, (j : Int) < P → u 6 j = shp k m f s j) := by
        intro e he
        unfold f_E_sheet_88
        refine pc_gd (fun _ => ?_)
        refine pc_lw (fun u5 e5 => ?_)
        refine pc_let (fun x6 e6 => ?_)
        refine ih (by omega) (by omega) (by rw [e5, st_c (by decide)]; exact h3) (fun j => ?_) (fun j hj => ?_)
        · rw [e5]
          by_cases hj : j = v5.toNat
          · rw [hj, st_eq, he]; exact shp_rg _ _ _ _ _
          · rw [st_k hj]; exact h6 j
        · rw [e5]
          by_cases hjv : j = v5.toNat
          · rw [hjv, st_eq]; exact he
          · rw [st_k hjv]; exact hD j (by omega)
      refine pc_ite (fun c1 => nx 0 ?_) (fun c1 => ?_)
      · unfold shp
        rw [if_neg (by omega), if_neg (by omega)]
      · have ee : PC (f_E_entry k (w32 (f + w32 (v5 * s))) w) (fun r u => u = w ∧ r = shp k m f s v5.toNat) := by
          have hv : shp k m f s v5.toNat = shv k (w32 (f + w32 (v5 * s))) := by
            unfold shp
            rw [if_neg (by omega), if_pos (by omega), w32_r, Int.toNat_of_nonneg i5]
          unfold f_E_entry f_E_entry_20
          rw [hv]
          unfold shv
          refine pc_ite (fun c2 => pc_some ⟨rfl, by rw [if_pos c2]⟩) (fun c2 => ?_)
          exact pc_ite (fun c3 => pc_some ⟨rfl, by rw [if_neg c2, if_pos c3]⟩) (fun c3 => pc_some ⟨rfl, by rw [if_neg c2, if_neg c3]⟩)
        refine pc_call ee (fun r7 u8 q => ?_)
        rw [q.1]
        exact nx r7 q.2
def SHc (k n : Int) : Prop := (0 ≤ k ∧ k ≤ 3) ∧ n ≤ 10
theorem fl6 {v : Int} : ∀ (n : Nat) {w : Wd} {v2 : Int}, 0 ≤ v2 → v2 ≤ 10 → (∀ j : Nat, (j : Int) < v2 → w 6 j = v) → PC (f_JA_fill_6_5 n v v2 10 w) (fun _ u => ∀ j : Nat, (j : Int) < 10 → u 6 j = v) := by
  intro n
  induction n with
  | zero => intros; exact pc_none
  | succ n ih =>
    intro w v2 i1 i2 h
    rw [f_JA_fill_6_5]
    have w1 := w32_sp (v2 + 1)
    refine pc_ite (fun c => pc_some (fun j hj => h j (by omega))) (fun c => ?_)
    refine pc_gd (fun _ => ?_)
    refine pc_lw (fun u1 e1 => ?_)
    refine pc_let (fun x2 e2 => ?_)
    refine ih (by omega) (by omega) (fun j hj => ?_)
    rw [e1]
    by_cases c2 : j = v2.toNat
    · rw [c2, st_eq]
    · rw [st_k c2]; exact h j (by omega)
theorem sh_E {w : Wd} {k m f s : Int} (hf : -2147483648 ≤ f ∧ f ≤ 2147483647) (hP : 0 ≤ w 5 3 ∧ w 5 3 ≤ 10) (h6 : ∀ j : Nat, (0 : Int) ≤ w 6 j ∧ w 6 j ≤ 9) : PC (f_E_sheet k m f s w) (fun r u => (¬ SHc k m ∧ r = -1 ∧ u = w) ∨ ((SHc k m ∧ k ≠ 3 ∧ m < 0) ∧ r = -2 ∧ u = w) ∨ ((SHc k m ∧ (k = 3 ∨ 0 ≤ m)) ∧ r = (if k = 3 then -3 else sms (shp k m f s) (w 5 3).toNat) ∧ ∀ j : Nat, (j : Int) < w 5 3 → u 6 j = shp k m f s j)) := by
  unfold f_E_sheet SHc
  refine pc_ite (fun c => pc_some (Or.inl ⟨by omega, rfl, rfl⟩)) (fun c1 => ?_)
  refine pc_ite (fun c => pc_some (Or.inl ⟨by omega, rfl, rfl⟩)) (fun c2 => ?_)
  refine pc_ite (fun c3 => ?_) (fun c => pc_some (Or.inl ⟨by omega, rfl, rfl⟩))
  refine pc_ite (fun c4 => ?_) (fun c4 => ?_)
  · unfold f_JA_fill_6
    refine pc_call (fl6 FU (by decide) (by decide) (fun j hj => by omega)) (fun r9 u10 q => pc_some (Or.inr (Or.inr ⟨⟨by omega, Or.inl c4⟩, ?_, fun j hj => ?_⟩)))
    · rw [if_pos c4]
    · rw [q j (by omega)]
      unfold shp
      rw [if_pos c4]
  · refine pc_ite (fun c5 => ?_) (fun c5 => pc_some (Or.inr (Or.inl ⟨⟨by omega, c4, by omega⟩, rfl, rfl⟩)))
    refine pc_w (se_46 (P := w 5 3) (by omega) (by omega) hf hP FU (by decide) hP.1 rfl h6 (fun j hj => by omega)) (fun r u q => Or.inr (Or.inr ⟨⟨by omega, Or.inr c5⟩, ?_, q.2⟩))
    rw [if_neg c4]; exact q.1
theorem sr_43 {k m f s P : Int} (hk : 0 ≤ k ∧ k ≤ 3) (hf : -2147483648 ≤ f ∧ f ≤ 2147483647) (hP : 0 ≤ P ∧ P ≤ 10) : ∀ (n : Nat) {w : Wd} {v5 v6 v7 : Int}, 0 ≤ v7 → v7 ≤ P → w 43 0 = P → v6 = w32 (f + v7 * s) → v5 = sms (shp k m f s) v7.toNat → (∀ j : Nat, (j : Int) < v7 → w 44 j = shp k m f s j) → PC (f_R_sheet_43 n k m s v5 v6 v7 w) (fun r u => r = (if k = 3 then -3 else sms (shp k m f s) P.toNat) ∧ ∀ j : Nat, (j : Int) < P → u 44 j = shp k m f s j) := by
  intro n
  induction n with
  | zero => intros; exact pc_none
  | succ n ih =>
    intro w v5 v6 v7 i7 i8 h0 h6 h5 hD
    rw [f_R_sheet_43, h0]
    have hr := sms_rg (shp_rg k m f s) v7.toNat
    have hj := shp_rg k m f s v7.toNat
    have w1 := w32_sp (v7 + 1)
    refine pc_ite (fun c => ?_) (fun c => ?_)
    · have e : v7 = P := by omega
      subst e
      refine pc_ite (fun c2 => pc_some ⟨by rw [if_pos c2], hD⟩) (fun c2 => pc_some ⟨by rw [if_neg c2]; exact h5, hD⟩)
    · have nx : ∀ e : Int, e = shp k m f s v7.toNat → PC (f_R_sheet_109 (f_R_sheet_43 n) k m s v5 v6 v7 v7 e w) (fun r u => r = (if k = 3 then -3 else sms (shp k m f s) P.toNat) ∧ ∀ j : Nat, (j : Int) < P → u 44 j = shp k m f s j) := by
        intro e he
        unfold f_R_sheet_109
        refine pc_gd (fun _ => ?_)
        refine pc_lw (fun u4 e4 => ?_)
        refine pc_gd (fun _ => ?_)
        refine pc_let (fun x5 e5 => ?_)
        refine pc_let (fun x6 e6 => ?_)
        refine pc_let (fun x7 e7 => ?_)
        have t : u4 44 v7.toNat = e := by rw [e4, st_eq]
        rw [t, he, w32_id (by omega)] at e5
        rw [w32_id (by omega)] at e7
        refine ih (by omega) (by omega) (by rw [e4, st_c (by decide)]; exact h0) ?_ ?_ (fun j hj => ?_)
        · rw [e6, h6, w32_w, e7]
          congr 1
          rw [Int.add_mul]
          omega
        · rw [e7, show (v7 + 1).toNat = v7.toNat + 1 by omega, sms, e5, h5]
        · rw [e4]
          by_cases hjv : j = v7.toNat
          · rw [hjv, st_eq]; exact he
          · rw [st_k hjv]; exact hD j (by omega)
      have n5 : ∀ e : Int, (k ≠ 3 → e = (if k = 0 then i2b v6 else if k = 1 then i2s v6 else v6)) → PC (f_R_sheet_75 (f_R_sheet_43 n) k m s v5 v6 v7 e w) (fun r u => r = (if k = 3 then -3 else sms (shp k m f s) P.toNat) ∧ ∀ j : Nat, (j : Int) < P → u 44 j = shp k m f s j) := by
        intro e he
        unfold f_R_sheet_75
        refine pc_ite (fun c3 => ?_) (fun c3 => ?_)
        · unfold f_R_sheet_94
          refine nx 0 ?_
          unfold shp
          rw [if_pos c3]
        · refine pc_ite (fun c4 => ?_) (fun c4 => ?_)
          · refine nx _ ?_
            unfold shp shv
            rw [if_neg c3, if_pos (by omega), Int.toNat_of_nonneg i7, ← h6, he c3]
          · unfold f_R_sheet_94
            refine nx 0 ?_
            unfold shp
            rw [if_neg c3, if_neg (by omega)]
      refine pc_ite (fun c1 => n5 _ (fun _ => by rw [if_pos c1])) (fun c1 => ?_)
      exact pc_ite (fun c2 => n5 _ (fun _ => by rw [if_neg c1, if_pos c2])) (fun c2 => n5 _ (fun _ => by rw [if_neg c1, if_neg c2]))
theorem sh_R {w : Wd} {k m f s : Int} (hf : -2147483648 ≤ f ∧ f ≤ 2147483647) (hP : 0 ≤ w 43 0 ∧ w 43 0 ≤ 10) : PC (f_R_sheet k m f s w) (fun r u => (¬ SHc k m ∧ r = -1 ∧ u = st w 43 16 0) ∨ ((SHc k m ∧ k ≠ 3 ∧ m < 0) ∧ r = -2 ∧ u = st w 43 16 0) ∨ ((SHc k m ∧ (k = 3 ∨ 0 ≤ m)) ∧ r = (if k = 3 then -3 else sms (shp k m f s) (w 43 0).toNat) ∧ ∀ j : Nat, (j : Int) < w 43 0 → u 44 j = shp k m f s j)) := by
  unfold f_R_sheet SHc
  refine pc_lw (fun u1 e1 => ?_)
  have t0 : u1 43 0 = w 43 0 := by rw [e1, st_k (by decide)]
  rw [in_e, jc_s]
  have go : 0 ≤ k ∧ k ≤ 3 → PC (f_R_sheet_34 k m f s u1) (fun r u => r = (if k = 3 then -3 else sms (shp k m f s) (w 43 0).toNat) ∧ ∀ j : Nat, (j : Int) < w 43 0 → u 44 j = shp k m f s j) := by
    intro hk
    unfold f_R_sheet_34
    refine sr_43 hk hf hP FU (by decide) hP.1 t0 ?_ rfl (fun j hj => by omega)
    rw [show f + 0 * s = f by omega, w32_id hf]
  refine pc_ite (fun hr => ?_) (fun hr => ?_)
  · refine pc_some (Or.inl ⟨fun h2 => ?_, rfl, e1⟩)
    rw [if_pos h2.1] at hr; exact absurd hr (by decide)
  · have hk : 0 ≤ k ∧ k ≤ 3 := by
      by_cases h2 : 0 ≤ k ∧ k ≤ 3
      · exact h2
      · rw [if_neg h2] at hr; exact absurd rfl hr
    refine pc_ite (fun c3 => ?_) (fun c => pc_some (Or.inl ⟨by omega, rfl, e1⟩))
    refine pc_ite (fun c4 => ?_) (fun c4 => ?_)
    · exact pc_w (go hk) (fun r u q => Or.inr (Or.inr ⟨⟨by omega, by omega⟩, q⟩))
    · refine pc_ite (fun c5 => ?_) (fun c5 => pc_some (Or.inr (Or.inl ⟨⟨by omega, by omega, by omega⟩, rfl, e1⟩)))
      exact pc_w (go hk) (fun r u q => Or.inr (Or.inr ⟨⟨by omega, by omega⟩, q⟩))
theorem c_sheet {w : Wd} {v1 v2 v3 v4 : Int} (h : LI w) (i_v1 : ((-2147483648 : Int) ≤ v1 ∧ v1 ≤ 2147483647)) (i_v2 : ((-2147483648 : Int) ≤ v2 ∧ v2 ≤ 2147483647)) (i_v3 : ((-2147483648 : Int) ≤ v3 ∧ v3 ≤ 2147483647)) (i_v4 : ((-2147483648 : Int) ≤ v4 ∧ v4 ≤ 2147483647)) : OK (f_E_sheet v1 v2 v3 v4 w) (fun r1 u1 => OK (f_R_sheet v1 v2 v3 v4 u1) (fun r2 u2 => LI u2 ∧ r1 = r2)) := by
  refine ok_w (ok_pc (e_E_sheet h.1 i_v1 i_v2 i_v3 i_v4) (sh_E i_v3 (h.1.1.1 5 3) (fun j => h.1.1.1 6 j))) (fun r1 u1 q1 => ?_)
  obtain ⟨⟨g1, s1⟩, x1⟩ := q1
  refine ok_w (ok_pc (e_R_sheet s1 i_v1 i_v2 i_v3 i_v4) (sh_R i_v3 (s1.1.1 43 0))) (fun r2 u2 q2 => ?_)
  obtain ⟨⟨g2, s2⟩, x2⟩ := q2
  have e0 : u1 43 0 = w 43 0 := g1.2.1 43 0 rfl
  refine ⟨⟨s2, co_fr h.2 (fr_tr (fr_g g1 rfl) (fr_g g2 rfl))⟩, ?_⟩
  rw [e0, ← h.2.2.1] at x2
  rcases x1 with ⟨n1, a1, _⟩ | ⟨n1, a1, _⟩ | ⟨n1, a1, _⟩ <;> rcases x2 with ⟨n2, a2, _⟩ | ⟨n2, a2, _⟩ | ⟨n2, a2, _⟩
  · rw [a1, a2]
  · exact absurd n2.1 n1
  · exact absurd n2.1 n1
  · exact absurd n1.1 n2
  · rw [a1, a2]
  · exfalso; omega
  · exact absurd n1.1 n2
  · exfalso; omega
  · rw [a1, a2]
/-! EVERY METHOD KEEPS THE COUPLING -/
theorem w0_TX : TX w0 := tx_0 (by decide +kernel) (by decide +kernel)
theorem w0_KM : ∀ c m : Nat, (c = 37 ∧ m = 0) ∨ (c = 40 ∧ m = 1) → KM w0 c m := by
  intro c m h
  have h1 : w0 37 2 = 0 ∧ w0 80 0 = 0 ∧ w0 40 2 = 0 ∧ w0 80 1 = 0 := by decide +kernel
  rcases h with ⟨rfl, rfl⟩ | ⟨rfl, rfl⟩
  · exact ⟨h1.1.trans h1.2.1.symm, fun n => absurd h1.1 n⟩
  · exact ⟨h1.2.2.1.trans h1.2.2.2.symm, fun n => absurd h1.2.2.1 n⟩
theorem w0_LI : LI w0 := ⟨w0_RS, w0_TX, by decide +kernel, ⟨by decide +kernel, by decide +kernel⟩, w0_KM 37 0 (Or.inl ⟨rfl, rfl⟩), w0_KM 40 1 (Or.inr ⟨rfl, rfl⟩)⟩
theorem c_rule {w : Wd} (h : LI w) : OK (f_E_rule w) (fun _ u1 => OK (f_R_rule u1) (fun _ u2 => LI u2 ∧ True)) := ok_w (c_rule0 h) (fun _ _ q => ok_w q (fun _ _ p => ⟨p, trivial⟩))
theorem c_week {w : Wd} (h : LI w) : OK (f_E_week w) (fun _ u1 => OK (f_R_week u1) (fun _ u2 => LI u2 ∧ True)) := ok_w (c_week0 h) (fun _ _ q => ok_w q (fun _ _ p => ⟨p, trivial⟩))
theorem fr_82 {P : List (Nat × Nat)} {A : List Nat} {w u : Wd} (h : ∀ c, c ≠ 82 → u c = w c) (hP : P.all (fun p => p.1 != 82) = true := by decide) (hA : A.all (fun c => c != 82) = true := by decide) : FR P A w u :=
  ⟨fun p hp => congrFun (h p.1 (by have := List.all_eq_true.mp hP p hp; simpa using this)) p.2, fun c hc => h c (by have := List.all_eq_true.mp hA c hc; simpa using this)⟩
theorem c_of {w : Wd} {v1 v2 : Int} (h : LI w) (i_v1 : ((-2147483648 : Int) ≤ v1 ∧ v1 ≤ 2147483647)) (i_v2 : ((-2147483648 : Int) ≤ v2 ∧ v2 ≤ 2147483647)) : OK (f_A_of v1 v2 w) (fun _ u1 => OK (f_R_of v1 v2 u1) (fun _ u2 => LI u2 ∧ True)) := ok_w (e_A_of h.1 i_v1 i_v2) (fun _ u1 q1 => ok_w (e_R_of q1.1 i_v1 i_v2) (fun _ u2 q2 => ⟨⟨q2.2, co_fr (co_fr h.2 (fr_82 q1.2)) (fr_g q2.1 rfl)⟩, trivial⟩))
theorem c_goes {w : Wd} {v1 : Int} (h : LI w) (i_v1 : ((-2147483648 : Int) ≤ v1 ∧ v1 ≤ 2147483647)) : OK (f_E_goes v1 w) (fun _ u1 => OK (f_R_goes v1 u1) (fun _ u2 => LI u2 ∧ True)) := ok_w (e_E_goes h.1 i_v1) (fun _ u1 q1 => ok_w (e_R_goes q1.2 i_v1) (fun _ u2 q2 => ⟨⟨q2.2.1, co_fr (co_fr h.2 (fr_g q1.1 rfl)) (fr_g q2.1 rfl)⟩, trivial⟩))
theorem c_undo {w : Wd} (h : LI w) : OK (f_E_undo w) (fun _ u1 => OK (f_R_undo u1) (fun _ u2 => LI u2 ∧ True)) := ok_w (e_E_undo h.1) (fun _ u1 q1 => ok_w (e_R_undo q1.2) (fun _ u2 q2 => ⟨⟨q2.2.1, co_fr (co_fr h.2 (fr_g q1.1 rfl)) (fr_g q2.1 rfl)⟩, trivial⟩))
theorem c_can {w : Wd} (h : LI w) : OK (f_E_can w) (fun _ u1 => OK (f_R_can u1) (fun _ u2 => LI u2 ∧ True)) := ok_w (e_E_can h.1) (fun _ u1 q1 => ok_w (e_R_can q1.2) (fun _ u2 q2 => ⟨⟨q2.2, co_fr (co_fr h.2 (fr_g q1.1 rfl)) (fr_g q2.1 rfl)⟩, trivial⟩))
theorem c_picks {w : Wd} {v1 : Int} (h : LI w) (i_v1 : ((-2147483648 : Int) ≤ v1 ∧ v1 ≤ 2147483647)) : OK (f_E_picks v1 w) (fun _ u1 => OK (f_R_picks v1 u1) (fun _ u2 => LI u2 ∧ True)) := ok_w (e_E_picks h.1 i_v1) (fun _ u1 q1 => ok_w (e_R_picks q1.2 i_v1) (fun _ u2 q2 => ⟨⟨q2.2, co_fr (co_fr h.2 (fr_g q1.1 rfl)) (fr_g q2.1 rfl)⟩, trivial⟩))
theorem c_pairs {w : Wd} (h : LI w) : OK (f_E_pairs w) (fun _ u1 => OK (f_R_pairs u1) (fun _ u2 => LI u2 ∧ True)) := ok_w (e_E_pairs h.1) (fun _ u1 q1 => ok_w (e_R_pairs q1.2) (fun _ u2 q2 => ⟨⟨q2.2, co_fr (co_fr h.2 (fr_g q1.1 rfl)) (fr_g q2.1 rfl)⟩, trivial⟩))
theorem c_bars {w : Wd} (h : LI w) : OK (f_E_bars w) (fun _ u1 => OK (f_R_bars u1) (fun _ u2 => LI u2 ∧ True)) := ok_w (e_E_bars h.1) (fun _ u1 q1 => ok_w (e_R_bars q1.2) (fun _ u2 q2 => ⟨⟨q2.2, co_fr (co_fr h.2 (fr_g q1.1 rfl)) (fr_g q2.1 rfl)⟩, trivial⟩))
theorem c_states {w : Wd} (h : LI w) : OK (f_E_states w) (fun _ u1 => OK (f_R_states u1) (fun _ u2 => LI u2 ∧ True)) := ok_w (e_E_states h.1) (fun _ u1 q1 => ok_w (e_R_states q1.2) (fun _ u2 q2 => ⟨⟨q2.2, co_fr (co_fr h.2 (fr_g q1.1 rfl)) (fr_g q2.1 rfl)⟩, trivial⟩))
theorem c_most {w : Wd} {v1 : Int} (h : LI w) (i_v1 : ((-2147483648 : Int) ≤ v1 ∧ v1 ≤ 2147483647)) : OK (f_E_most v1 w) (fun _ u1 => OK (f_R_most v1 u1) (fun _ u2 => LI u2 ∧ True)) := ok_w (e_E_most h.1 i_v1) (fun _ u1 q1 => ok_w (e_R_most q1.2 i_v1) (fun _ u2 q2 => ⟨⟨q2.2, co_fr (co_fr h.2 (fr_g q1.1 rfl)) (fr_g q2.1 rfl)⟩, trivial⟩))
theorem c_reach {w : Wd} {v1 : Int} (h : LI w) (i_v1 : ((-2147483648 : Int) ≤ v1 ∧ v1 ≤ 2147483647)) : OK (f_E_reach v1 w) (fun _ u1 => OK (f_R_reach v1 u1) (fun _ u2 => LI u2 ∧ True)) := ok_w (e_E_reach h.1 i_v1) (fun _ u1 q1 => ok_w (e_R_reach q1.2 i_v1) (fun _ u2 q2 => ⟨⟨q2.2, co_fr (co_fr h.2 (fr_g q1.1 rfl)) (fr_g q2.1 rfl)⟩, trivial⟩))
theorem c_fewest {w : Wd} {v1 : Int} (h : LI w) (i_v1 : ((-2147483648 : Int) ≤ v1 ∧ v1 ≤ 2147483647)) : OK (f_E_fewest v1 w) (fun _ u1 => OK (f_R_fewest v1 u1) (fun _ u2 => LI u2 ∧ True)) := ok_w (e_E_fewest h.1 i_v1) (fun _ u1 q1 => ok_w (e_R_fewest q1.2 i_v1) (fun _ u2 q2 => ⟨⟨q2.2, co_fr (co_fr h.2 (fr_g q1.1 rfl)) (fr_g q2.1 rfl)⟩, trivial⟩))
theorem c_crowd {w : Wd} (h : LI w) : OK (f_E_crowd w) (fun _ u1 => OK (f_R_crowd u1) (fun _ u2 => LI u2 ∧ True)) := ok_w (e_E_crowd h.1) (fun _ u1 q1 => ok_w (e_R_crowd q1.2) (fun _ u2 q2 => ⟨⟨q2.2, co_fr (co_fr h.2 (fr_g q1.1 rfl)) (fr_g q2.1 rfl)⟩, trivial⟩))
theorem c_both {w : Wd} {v1 v2 v3 : Int} (h : LI w) (i_v1 : ((-2147483648 : Int) ≤ v1 ∧ v1 ≤ 2147483647)) (i_v2 : ((-2147483648 : Int) ≤ v2 ∧ v2 ≤ 2147483647)) (i_v3 : ((-2147483648 : Int) ≤ v3 ∧ v3 ≤ 2147483647)) : OK (f_E_both v1 v2 v3 w) (fun _ u1 => OK (f_R_both v1 v2 v3 u1) (fun _ u2 => LI u2 ∧ True)) := ok_w (e_E_both h.1 i_v1 i_v2 i_v3) (fun _ u1 q1 => ok_w (e_R_both q1.2 i_v1 i_v2 i_v3) (fun _ u2 q2 => ⟨⟨q2.2, co_fr (co_fr h.2 (fr_g q1.1 rfl)) (fr_g q2.1 rfl)⟩, trivial⟩))
theorem c_last {w : Wd} (h : LI w) : OK (f_E_last w) (fun _ u1 => OK (f_R_last u1) (fun _ u2 => LI u2 ∧ True)) := ok_w (e_E_last h.1) (fun _ u1 q1 => ok_w (e_R_last q1.2) (fun _ u2 q2 => ⟨⟨q2.2, co_fr (co_fr h.2 (fr_g q1.1 rfl)) (fr_g q2.1 rfl)⟩, trivial⟩))
theorem c_begin {w : Wd} (h : LI w) : OK (f_E_begin w) (fun _ u1 => OK (f_R_begin2 u1) (fun _ u2 => LI u2 ∧ True)) := ok_w (e_E_begin h.1) (fun _ u1 q1 => ok_w (e_R_begin2 q1.2) (fun _ u2 q2 => ⟨⟨q2.2, co_fr (co_fr h.2 (fr_g q1.1 rfl)) (fr_g q2.1 rfl)⟩, trivial⟩))
theorem c_cheap {w : Wd} {v1 : Int} (h : LI w) (i_v1 : ((-2147483648 : Int) ≤ v1 ∧ v1 ≤ 2147483647)) : OK (f_E_cheap v1 w) (fun _ u1 => OK (f_R_cheap v1 u1) (fun _ u2 => LI u2 ∧ True)) := ok_w (e_E_cheap h.1 i_v1) (fun _ u1 q1 => ok_w (e_R_cheap q1.2 i_v1) (fun _ u2 q2 => ⟨⟨q2.2, co_fr (co_fr h.2 (fr_g q1.1 rfl)) (fr_g q2.1 rfl)⟩, trivial⟩))
theorem c_stays {w : Wd} {v1 : Int} (h : LI w) (i_v1 : ((-2147483648 : Int) ≤ v1 ∧ v1 ≤ 2147483647)) : OK (f_E_stays v1 w) (fun _ u1 => OK (f_R_stays v1 u1) (fun _ u2 => LI u2 ∧ True)) := ok_w (e_E_stays h.1 i_v1) (fun _ u1 q1 => ok_w (e_R_stays q1.2 i_v1) (fun _ u2 q2 => ⟨⟨q2.2, co_fr (co_fr h.2 (fr_g q1.1 rfl)) (fr_g q2.1 rfl)⟩, trivial⟩))
theorem c_soonest {w : Wd} {v1 : Int} (h : LI w) (i_v1 : ((-2147483648 : Int) ≤ v1 ∧ v1 ≤ 2147483647)) : OK (f_E_soonest v1 w) (fun _ u1 => OK (f_R_soonest v1 u1) (fun _ u2 => LI u2 ∧ True)) := ok_w (e_E_soonest h.1 i_v1) (fun _ u1 q1 => ok_w (e_R_soonest q1.2 i_v1) (fun _ u2 q2 => ⟨⟨q2.2, co_fr (co_fr h.2 (fr_g q1.1 rfl)) (fr_g q2.1 rfl)⟩, trivial⟩))
theorem c_worth {w : Wd} {v1 : Int} (h : LI w) (i_v1 : ((-2147483648 : Int) ≤ v1 ∧ v1 ≤ 2147483647)) : OK (f_E_worth v1 w) (fun _ u1 => OK (f_R_worth v1 u1) (fun _ u2 => LI u2 ∧ True)) := ok_w (e_E_worth h.1 i_v1) (fun _ u1 q1 => ok_w (e_R_worth q1.2 i_v1) (fun _ u2 q2 => ⟨⟨q2.2, co_fr (co_fr h.2 (fr_g q1.1 rfl)) (fr_g q2.1 rfl)⟩, trivial⟩))
theorem c_needed {w : Wd} (h : LI w) : OK (f_E_needed w) (fun _ u1 => OK (f_R_needed u1) (fun _ u2 => LI u2 ∧ True)) := ok_w (e_E_needed h.1) (fun _ u1 q1 => ok_w (e_R_needed q1.2) (fun _ u2 q2 => ⟨⟨q2.2, co_fr (co_fr h.2 (fr_g q1.1 rfl)) (fr_g q2.1 rfl)⟩, trivial⟩))
theorem c_never {w : Wd} (h : LI w) : OK (f_E_never w) (fun _ u1 => OK (f_R_never u1) (fun _ u2 => LI u2 ∧ True)) := ok_w (e_E_never h.1) (fun _ u1 q1 => ok_w (e_R_never q1.2) (fun _ u2 q2 => ⟨⟨q2.2, co_fr (co_fr h.2 (fr_g q1.1 rfl)) (fr_g q2.1 rfl)⟩, trivial⟩))
theorem c_bound {w : Wd} (h : LI w) : OK (f_E_bound w) (fun _ u1 => OK (f_R_bound u1) (fun _ u2 => LI u2 ∧ True)) := ok_w (e_E_bound h.1) (fun _ u1 q1 => ok_w (e_R_bound q1.2) (fun _ u2 q2 => ⟨⟨q2.2, co_fr (co_fr h.2 (fr_g q1.1 rfl)) (fr_g q2.1 rfl)⟩, trivial⟩))
theorem c_far {w : Wd} {v1 : Int} (h : LI w) (i_v1 : ((-2147483648 : Int) ≤ v1 ∧ v1 ≤ 2147483647)) : OK (f_E_far v1 w) (fun _ u1 => OK (f_R_far v1 u1) (fun _ u2 => LI u2 ∧ True)) := ok_w (e_E_far h.1 i_v1) (fun _ u1 q1 => ok_w (e_R_far q1.2 i_v1) (fun _ u2 q2 => ⟨⟨q2.2, co_fr (co_fr h.2 (fr_g q1.1 rfl)) (fr_g q2.1 rfl)⟩, trivial⟩))
theorem c_line {w : Wd} {v1 : Int} (h : LI w) (i_v1 : ((-2147483648 : Int) ≤ v1 ∧ v1 ≤ 2147483647)) : OK (f_E_line v1 w) (fun _ u1 => OK (f_R_line v1 u1) (fun _ u2 => LI u2 ∧ True)) := ok_w (e_E_line h.1 i_v1) (fun _ u1 q1 => ok_w (e_R_line q1.2 i_v1) (fun _ u2 q2 => ⟨⟨q2.2, co_fr (co_fr h.2 (fr_g q1.1 rfl)) (fr_g q2.1 rfl)⟩, trivial⟩))
theorem c_led {w : Wd} {v1 : Int} (h : LI w) (i_v1 : ((-2147483648 : Int) ≤ v1 ∧ v1 ≤ 2147483647)) : OK (f_E_led v1 w) (fun _ u1 => OK (f_R_led v1 u1) (fun _ u2 => LI u2 ∧ True)) := ok_w (e_E_led h.1 i_v1) (fun _ u1 q1 => ok_w (e_R_led q1.2 i_v1) (fun _ u2 q2 => ⟨⟨q2.2, co_fr (co_fr h.2 (fr_g q1.1 rfl)) (fr_g q2.1 rfl)⟩, trivial⟩))
theorem c_was {w : Wd} {v1 : Int} (h : LI w) (i_v1 : ((-2147483648 : Int) ≤ v1 ∧ v1 ≤ 2147483647)) : OK (f_E_was v1 w) (fun _ u1 => OK (f_R_was v1 u1) (fun _ u2 => LI u2 ∧ True)) := ok_w (e_E_was h.1 i_v1) (fun _ u1 q1 => ok_w (e_R_was q1.2 i_v1) (fun _ u2 q2 => ⟨⟨q2.2, co_fr (co_fr h.2 (fr_g q1.1 rfl)) (fr_g q2.1 rfl)⟩, trivial⟩))
theorem c_common {w : Wd} {v1 v2 : Int} (h : LI w) (i_v1 : ((-2147483648 : Int) ≤ v1 ∧ v1 ≤ 2147483647)) (i_v2 : ((-2147483648 : Int) ≤ v2 ∧ v2 ≤ 2147483647)) : OK (f_E_common v1 v2 w) (fun _ u1 => OK (f_R_common v1 v2 u1) (fun _ u2 => LI u2 ∧ True)) := ok_w (e_E_common h.1 i_v1 i_v2) (fun _ u1 q1 => ok_w (e_R_common q1.2 i_v1 i_v2) (fun _ u2 q2 => ⟨⟨q2.2, co_fr (co_fr h.2 (fr_g q1.1 rfl)) (fr_g q2.1 rfl)⟩, trivial⟩))
theorem c_father {w : Wd} (h : LI w) : OK (f_E_father w) (fun _ u1 => OK (f_R_father u1) (fun _ u2 => LI u2 ∧ True)) := ok_w (e_E_father h.1) (fun _ u1 q1 => ok_w (e_R_father q1.2) (fun _ u2 q2 => ⟨⟨q2.2, co_fr (co_fr h.2 (fr_g q1.1 rfl)) (fr_g q2.1 rfl)⟩, trivial⟩))
theorem c_count {w : Wd} {v1 : Int} (h : LI w) (i_v1 : ((-2147483648 : Int) ≤ v1 ∧ v1 ≤ 2147483647)) : OK (f_E_count v1 w) (fun _ u1 => OK (f_R_count v1 u1) (fun _ u2 => LI u2 ∧ True)) := ok_w (e_E_count h.1 i_v1) (fun _ u1 q1 => ok_w (e_R_count q1.2 i_v1) (fun _ u2 q2 => ⟨⟨q2.2, co_fr (co_fr h.2 (fr_g q1.1 rfl)) (fr_g q2.1 rfl)⟩, trivial⟩))
theorem c_row {w : Wd} {v1 : Int} (h : LI w) (i_v1 : ((-2147483648 : Int) ≤ v1 ∧ v1 ≤ 2147483647)) : OK (f_A_row v1 w) (fun _ u1 => OK (f_R_row v1 u1) (fun _ u2 => LI u2 ∧ True)) := ok_w (e_A_row h.1 i_v1) (fun _ u1 q1 => ok_w (e_R_row q1.1 i_v1) (fun _ u2 q2 => ⟨⟨q2.2, co_fr (co_fr h.2 (fr_82 q1.2)) (fr_g q2.1 rfl)⟩, trivial⟩))
