/-! OF -/
def ofs (w : Wd) (v1 v2 : Int) : Int := if (0 ≤ v1 ∧ v1 < w 43 0) ∧ (0 ≤ v2 ∧ v2 ≤ 6) then (if v2 = 0 then w 44 v1.toNat else if v2 = 1 then w 45 v1.toNat else if v2 = 2 then (if w 46 v1.toNat = 0 then 0 else 1) else if v2 = 3 then (if w 47 v1.toNat = 0 then 0 else if w 47 v1.toNat = 4 then 2 else 1) else if v2 = 4 then (if gst (w 47 v1.toNat) = true then w 47 v1.toNat - 1 else -1) else if v2 = 5 then w 48 v1.toNat else w 49 v1.toNat) else THR
theorem fw_pc {v1 wk : Int} {w : Wd} (hw : w 15 3 = wk) (h0 : 0 ≤ wk ∧ wk ≤ 60) (hv : 0 ≤ v1 ∧ v1 < 10) : ∀ (n : Nat) {v2 : Int}, 0 ≤ v2 → v2 ≤ wk + 1 → (∀ t : Nat, (t : Int) < v2 → bt (w 16 t) v1.toNat = false) → PC (f_D_firstWeekOf_2 n v1 v2 w) (fun r u => u = w ∧ r = fw (w 16) v1.toNat (wk + 1).toNat) := by
  intro n
  induction n with
  | zero => intros; exact pc_none
  | succ n ih =>
    intro v2 i0 i1 hn
    rw [f_D_firstWeekOf_2, hw]
    refine pc_ite (fun c => pc_some ⟨rfl, ?_⟩) (fun c => ?_)
    · exact (fw_no (fun t ht => hn t (by omega))).symm
    · refine pc_call (gb_pc (v1 := v2) (w := w) (by omega)) (fun r1 u2 q => ?_)
      rw [q.1, q.2, hasE_e w hv, jc_s]
      cases hb : bt (w 16 v2.toNat) v1.toNat with
      | true =>
        refine pc_ite (fun e => absurd e (by decide)) (fun _ => pc_some ⟨rfl, ?_⟩)
        have := fw_at (f := w 16) (j := v1.toNat) (n := v2.toNat) hb (fun t ht => hn t (by omega)) (m := (wk + 1).toNat) (by omega)
        omega
      | false =>
        refine pc_ite (fun _ => ?_) (fun e => absurd rfl e)
        refine pc_let (fun x e => ?_)
        rw [w32_id (by omega)] at e
        rw [e]
        refine ih (by omega) (by omega) (fun t ht => ?_)
        by_cases c2 : (t : Int) = v2
        · rw [show t = v2.toNat by omega]; exact hb
        · exact hn t (by omega)
theorem ofE_pc {w : Wd} {v1 v2 : Int} (hP : 0 ≤ w 43 0 ∧ w 43 0 ≤ 10) (hF : FC w) (h8 : 0 ≤ w 43 8 ∧ w 43 8 ≤ 60) : PC (f_E_of v1 v2 w) (fun r u => u = w ∧ r = ofs w v1 v2) := by
  obtain ⟨fCO, fPP, fHB, fWH, fN, f16, fSN, _⟩ := hF
  have x3 : w 5 3 = w 43 0 := fCO.2.1
  unfold f_E_of ofs
  refine pc_call (it_pc v1 w) (fun r1 u2 q => ?_)
  rw [q.1, q.2, x3]
  unfold hd
  by_cases c1 : 0 ≤ v1 ∧ v1 < w 43 0
  · rw [if_pos c1]
    refine pc_ite (fun e => absurd e (by decide)) (fun _ => ?_)
    by_cases c2 : 0 ≤ v2 ∧ v2 ≤ 6
    · have pp := fPP v1.toNat (by omega)
      have ip : inP (w 43 0) v1.toNat = true := decide_eq_true (by omega)
      have sr4 := fWH.2.2 v1.toNat (by omega)
      refine pc_ite (fun e => by omega) (fun _ => ?_)
      rw [if_pos (show (0 ≤ v1 ∧ v1 < w 43 0) ∧ (0 ≤ v2 ∧ v2 ≤ 6) from ⟨c1, c2⟩)]
      refine pc_ite (fun e => ?_) (fun e0 => ?_)
      · rw [if_pos e]; exact pc_gd (fun _ => pc_some ⟨rfl, pp.1⟩)
      rw [if_neg e0]
      refine pc_ite (fun e => ?_) (fun e1 => ?_)
      · rw [if_pos e]; exact pc_gd (fun _ => pc_some ⟨rfl, pp.2.1⟩)
      rw [if_neg e1]
      refine pc_ite (fun e => ?_) (fun e2 => ?_)
      · rw [if_pos e, has_10 w fHB (by omega), jc_s]
        unfold hB
        rw [ip]
        by_cases z : w 46 v1.toNat = 0
        · rw [if_pos z, z]
          exact pc_ite (fun _ => pc_some ⟨rfl, rfl⟩) (fun e => absurd rfl e)
        · rw [if_neg z, beq_eq_false_iff_ne.mpr z]
          exact pc_ite (fun e => absurd e (by decide)) (fun _ => pc_some ⟨rfl, rfl⟩)
      rw [if_neg e2]
      refine pc_ite (fun e => ?_) (fun e3 => ?_)
      · rw [if_pos e]
        refine pc_call (es_e fWH hP x3) (fun r5 u6 q5 => ?_)
        rw [q5.1, has_10 w q5.2 (by omega), jc_s]
        unfold sr
        rw [ip]
        by_cases z : w 47 v1.toNat = 0
        · rw [if_pos z, z]
          exact pc_ite (fun e => absurd e (by decide)) (fun _ => pc_some ⟨rfl, rfl⟩)
        · rw [if_neg z, beq_eq_false_iff_ne.mpr z]
          refine pc_ite (fun _ => ?_) (fun e => absurd rfl e)
          refine pc_call (eg_e fWH) (fun r9 u10 q9 => ?_)
          rw [q9.1, has_10 w q9.2 (by omega), jc_s]
          unfold gs
          rw [ip]
          by_cases z4 : w 47 v1.toNat = 4
          · rw [if_pos z4, z4]
            exact pc_ite (fun _ => pc_some ⟨rfl, rfl⟩) (fun e => absurd rfl e)
          · rw [if_neg z4, show gst (w 47 v1.toNat) = true from decide_eq_true (by omega)]
            exact pc_ite (fun e => absurd e (by decide)) (fun _ => pc_some ⟨rfl, rfl⟩)
      rw [if_neg e3]
      refine pc_ite (fun e => ?_) (fun e4 => ?_)
      · rw [if_pos e, late_e fWH w, jc_s]
        refine pc_some ⟨rfl, ?_⟩
        unfold gs
        rw [ip]
        by_cases z : gst (w 47 v1.toNat) = true
        · rw [if_pos z, if_pos ⟨by omega, by omega, by rw [z]; rfl⟩]
        · rw [if_neg z, if_neg (fun hh => z (by simpa using hh.2.2))]
      rw [if_neg e4]
      refine pc_ite (fun e => ?_) (fun e5 => ?_)
      · rw [if_pos e]; exact pc_gd (fun _ => pc_some ⟨rfl, pp.2.2⟩)
      rw [if_neg e5]
      refine pc_ite (fun _ => ?_) (fun e6 => by omega)
      unfold f_D_firstWeekOf
      refine pc_call (fw_pc (v1 := v1) (w := w) fN.2.1 h8 (by omega) FU (v2 := 0) (by decide) (by omega) (fun t ht => by omega)) (fun r15 u16 q15 => pc_some ⟨q15.1, ?_⟩)
      rw [q15.2, fSN.2.1 v1.toNat (by omega)]
      exact fw_eq (fun t ht => f16 t (by omega))
    · refine pc_ite (fun _ => pc_some ⟨rfl, ?_⟩) (fun e => by omega)
      rw [if_neg (fun hh => c2 hh.2)]
  · rw [if_neg c1]
    refine pc_ite (fun _ => pc_some ⟨rfl, ?_⟩) (fun e => absurd rfl e)
    rw [if_neg (fun hh => c1 hh.1)]
theorem ofR_pc {w : Wd} {v1 v2 : Int} (hP : 0 ≤ w 43 0 ∧ w 43 0 ≤ 10) : PC (f_R_of v1 v2 w) (fun r u => (ofs w v1 v2 = THR ∧ u 43 16 = 1) ∨ (((0 ≤ v1 ∧ v1 < w 43 0) ∧ (0 ≤ v2 ∧ v2 ≤ 6)) ∧ r = ofs w v1 v2 ∧ u 43 16 = 0)) := by
  unfold f_R_of
  refine pc_lw (fun y ey => ?_)
  have y0 : y 43 0 = w 43 0 := by rw [ey, st_k (by decide)]
  have y16 : y 43 16 = 0 := by rw [ey, st_eq]
  have yr : ∀ c, c ≠ 43 → y c = w c := fun c hc => by rw [ey, st_row hc]
  have los : PC (f_R_of_23 y) (fun r u => u 43 16 = 1) := by
    unfold f_R_of_23 f_R_lost
    refine pc_call (P := fun _ u => u 43 16 = 1) (pc_lw (fun u1 e1 => pc_some (by rw [e1, st_eq]))) (fun r u q => pc_some q)
  refine pc_call (io_pc v1 y (by omega)) (fun r2 u3 q3 => ?_)
  rw [q3.1, q3.2, y0]
  unfold hd ofs
  by_cases c1 : 0 ≤ v1 ∧ v1 < w 43 0
  · rw [if_pos c1]
    refine pc_ite (fun e => absurd e (by decide)) (fun _ => ?_)
    rw [in_e, jc_s]
    by_cases c2 : 0 ≤ v2 ∧ v2 ≤ 6
    · have cc : (0 ≤ v1 ∧ v1 < w 43 0) ∧ (0 ≤ v2 ∧ v2 ≤ 6) := ⟨c1, c2⟩
      rw [if_pos c2, if_pos cc]
      refine pc_ite (fun e => absurd e (by decide)) (fun _ => ?_)
      refine pc_ite (fun e => ?_) (fun e6 => ?_)
      · rw [if_neg (show ¬ v2 = 0 by omega), if_neg (show ¬ v2 = 1 by omega), if_neg (show ¬ v2 = 2 by omega), if_neg (show ¬ v2 = 3 by omega), if_neg (show ¬ v2 = 4 by omega), if_neg (show ¬ v2 = 5 by omega)]
        exact pc_gd (fun _ => pc_some (Or.inr ⟨cc, by rw [yr 49 (by decide)], y16⟩))
      refine pc_ite (fun e => ?_) (fun e0 => ?_)
      · rw [if_pos e]; exact pc_gd (fun _ => pc_some (Or.inr ⟨cc, by rw [yr 44 (by decide)], y16⟩))
      rw [if_neg e0]
      refine pc_ite (fun e => ?_) (fun e1 => ?_)
      · rw [if_pos e]; exact pc_gd (fun _ => pc_some (Or.inr ⟨cc, by rw [yr 45 (by decide)], y16⟩))
      rw [if_neg e1]
      refine pc_ite (fun e => ?_) (fun e2 => ?_)
      · rw [if_pos e, yr 46 (by decide)]
        refine pc_gd (fun _ => pc_ite (fun z => pc_some (Or.inr ⟨cc, ?_, y16⟩)) (fun z => pc_some (Or.inr ⟨cc, ?_, y16⟩)))
        · rw [if_pos z]
        · rw [if_neg z]
      rw [if_neg e2]
      refine pc_ite (fun e => ?_) (fun e3 => ?_)
      · rw [if_pos e, yr 47 (by decide)]
        refine pc_gd (fun _ => pc_ite (fun z => pc_some (Or.inr ⟨cc, ?_, y16⟩)) (fun z => pc_gd (fun _ => pc_ite (fun z4 => pc_some (Or.inr ⟨cc, ?_, y16⟩)) (fun z4 => pc_some (Or.inr ⟨cc, ?_, y16⟩)))))
        · rw [if_pos z]
        · rw [if_neg z, if_pos z4]
        · rw [if_neg z, if_neg z4]
      rw [if_neg e3]
      refine pc_ite (fun e => ?_) (fun e4 => ?_)
      · rw [if_pos e, yr 47 (by decide)]
        refine pc_gd (fun i10 => ?_)
        rw [isG_e, jc_s]
        cases z : gst (w 47 v1.toNat) with
        | false =>
          refine pc_ite (fun _ => pc_some (Or.inr ⟨cc, ?_, y16⟩)) (fun e => absurd rfl e)
          rw [if_neg (by decide)]
        | true =>
          refine pc_ite (fun e => absurd e (by decide)) (fun _ => pc_gd (fun _ => pc_some (Or.inr ⟨cc, ?_, y16⟩)))
          have z2 : 1 ≤ w 47 v1.toNat ∧ w 47 v1.toNat < 4 := of_decide_eq_true z
          rw [if_pos rfl, yr 47 (by decide), w32_id (by omega)]
      rw [if_neg e4]
      refine pc_ite (fun e => ?_) (fun e5 => by omega)
      rw [if_pos e]; exact pc_gd (fun _ => pc_some (Or.inr ⟨cc, by rw [yr 48 (by decide)], y16⟩))
    · rw [if_neg c2, if_neg (fun hh : (0 ≤ v1 ∧ v1 < w 43 0) ∧ (0 ≤ v2 ∧ v2 ≤ 6) => c2 hh.2)]
      refine pc_ite (fun _ => pc_w los (fun r u q => Or.inl ⟨rfl, q⟩)) (fun e => absurd rfl e)
  · rw [if_neg c1, if_neg (fun hh : (0 ≤ v1 ∧ v1 < w 43 0) ∧ (0 ≤ v2 ∧ v2 ≤ 6) => c1 hh.1)]
    refine pc_ite (fun _ => pc_w los (fun r u q => Or.inl ⟨rfl, q⟩)) (fun e => absurd rfl e)
theorem ofs_rg {w : Wd} {v1 v2 : Int} (hG : G [] w w) (c : (0 ≤ v1 ∧ v1 < w 43 0) ∧ (0 ≤ v2 ∧ v2 ≤ 6)) : ofs w v1 v2 ≠ THR := by
  have a44 : (0 : Int) ≤ w 44 v1.toNat ∧ w 44 v1.toNat ≤ 9 := hG.1 44 v1.toNat
  have a45 : (0 : Int) ≤ w 45 v1.toNat ∧ w 45 v1.toNat ≤ 1023 := hG.1 45 v1.toNat
  have a47 : (-2147483648 : Int) ≤ w 47 v1.toNat ∧ w 47 v1.toNat ≤ 2147483647 := hG.1 47 v1.toNat
  have a48 : (-1 : Int) ≤ w 48 v1.toNat ∧ w 48 v1.toNat ≤ 9 := hG.1 48 v1.toNat
  have a49 : (-2147483648 : Int) ≤ w 49 v1.toNat ∧ w 49 v1.toNat ≤ 2147483647 := hG.1 49 v1.toNat
  have et : THR = 4294967296 := rfl
  rw [et]
  unfold ofs
  rw [if_pos c]
  split
  · omega
  split
  · omega
  split
  · split <;> decide
  split
  · split
    · decide
    · split <;> decide
  split
  · split
    · omega
    · decide
  split <;> omega
theorem dq_of {w : Wd} {v1 v2 : Int} (h : LU w) (i_v1 : ((-2147483648 : Int) ≤ v1 ∧ v1 ≤ 2147483647)) (i_v2 : ((-2147483648 : Int) ≤ v2 ∧ v2 ≤ 2147483647)) : OK (f_A_of v1 v2 w) (fun r1 u1 => OK (f_R_of v1 v2 u1) (fun r2 u2 => LU u2 ∧ u2 43 16 = r1 ∧ (r1 = 0 ∨ r1 = 1) ∧ (r1 = 0 → u2 82 0 = r2))) := by
  have hP : 0 ≤ w 43 0 ∧ w 43 0 ≤ 10 := h.1.1.1.1 43 0
  have h8 : 0 ≤ w 43 8 ∧ w 43 8 ≤ 60 := h.1.1.1.1 43 8
  have hE := ofE_pc (w := w) (v1 := v1) (v2 := v2) hP h.1.2 h8
  have hA : PC (f_A_of v1 v2 w) (fun k u => (∀ c, c ≠ 82 → u c = w c) ∧ ((ofs w v1 v2 = THR ∧ k = 1) ∨ (ofs w v1 v2 ≠ THR ∧ k = 0 ∧ u 82 0 = ofs w v1 v2))) := by
    unfold f_A_of
    refine pc_call hE (fun r w1 q => ?_)
    rw [q.1, q.2]
    refine pc_ite (fun e => pc_some ⟨fun _ _ => rfl, Or.inl ⟨e, rfl⟩⟩) (fun e => ?_)
    refine pc_gd (fun _ => pc_lw (fun w2 e2 => pc_some ⟨fun c hc => by rw [e2, st_row hc], Or.inr ⟨e, rfl, ?_⟩⟩))
    rw [e2]; exact st_eq _ _ _ _
  refine ok_w (ok_pc (d_of h i_v1 i_v2) (pc_and (pc_ok (e_A_of h.1.1 i_v1 i_v2)) hA)) (fun k u1 q => ?_)
  obtain ⟨q1, q2, q3, q4⟩ := q
  have u0 : u1 43 0 = w 43 0 := by rw [q3 43 (by decide)]
  have os : ofs u1 v1 v2 = ofs w v1 v2 := by
    unfold ofs
    rw [q3 43 (by decide), q3 44 (by decide), q3 45 (by decide), q3 46 (by decide), q3 47 (by decide), q3 48 (by decide), q3 49 (by decide)]
  refine ok_w (ok_pc q1 (pc_and (ofR_pc (w := u1) (v1 := v1) (v2 := v2) (by omega)) (pc_ok (e_R_of q2.1 i_v1 i_v2)))) (fun b u2 p => ?_)
  obtain ⟨p1, p2, p3⟩ := p
  have p82 : u2 82 0 = u1 82 0 := p3.1.2.1 82 0 rfl
  rw [os, u0] at p2
  rcases p2 with ⟨p2, p4⟩ | ⟨p2, p4, p5⟩
  · rcases q4 with ⟨_, e⟩ | ⟨e, _⟩
    · exact ⟨p1.1, by rw [p4, e], Or.inr e, fun z => by rw [e] at z; cases z⟩
    · exact absurd p2 e
  · have := ofs_rg h.1.1.1 p2
    rcases q4 with ⟨e, _⟩ | ⟨_, e, e2⟩
    · exact absurd e this
    · exact ⟨p1.1, by rw [p5, e], Or.inl e, fun _ => by rw [p82, e2, p4]⟩
