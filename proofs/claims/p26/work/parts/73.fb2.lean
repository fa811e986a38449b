/-! UNDO, all of it -/
theorem ug70 {P : Int} {s : Nat → Int} (hP : 0 ≤ P ∧ P ≤ 10) (x : Wd) (hw : WH (x 5 4) s P) (h3 : x 5 3 = P) : ∀ (n : Nat) {w : Wd} {v2 : Int}, 0 ≤ v2 → v2 ≤ P → (∀ c k, c ≠ 8 → w c k = x c k) → (∀ j : Nat, w 8 j = if (j : Int) < v2 ∧ s j = 0 then -1 else x 8 j) → PC (f_D_goBack_70 n v2 w) (fun r u => r = 1 ∧ (∀ c k, c ≠ 8 → u c k = x c k) ∧ ∀ j : Nat, u 8 j = if (j : Int) < P ∧ s j = 0 then -1 else x 8 j) := by
  intro n
  induction n with
  | zero => intros; exact pc_none
  | succ n ih =>
    intro w v2 i0 i1 hx h8
    rw [f_D_goBack_70]
    have y3 : w 5 3 = P := (hx 5 3 (by decide)).trans h3
    have y4 : w 5 4 = x 5 4 := hx 5 4 (by decide)
    rw [y3]
    refine pc_ite (fun c => ?_) (fun c => ?_)
    · have e : v2 = P := by omega
      rw [e] at h8
      exact pc_some ⟨rfl, hx, h8⟩
    · refine pc_call (es_e (P := P) (s := s) (by rw [y4]; exact hw) hP y3) (fun r7 u8 q => ?_)
      rw [q.1, has_10 w q.2 (by omega), jc_s]
      have e1 := wsucc (v := v2) (P := P) (by omega) (by omega)
      have hs : sr P s v2.toNat = (s v2.toNat == 0) := by
        unfold sr
        rw [show inP P v2.toNat = true from decide_eq_true (by omega)]; rfl
      rw [hs]
      by_cases c2 : s v2.toNat = 0
      · rw [c2]
        refine pc_ite (fun h => absurd h (by decide)) (fun _ => ?_)
        refine pc_gd (fun _ => ?_)
        refine pc_lw (fun u12 e12 => ?_)
        unfold f_D_goBack_96
        refine pc_let (fun x11 e11 => ?_)
        rw [e1] at e11
        refine ih (by omega) (by omega) (fun c k hc => by rw [e12, st_c hc]; exact hx c k hc) (fun j => ?_)
        rw [e12]
        by_cases cj : j = v2.toNat
        · rw [cj, st_eq, if_pos ⟨by omega, c2⟩]
        · rw [st_k cj, h8 j]
          by_cases c3 : (j : Int) < v2 ∧ s j = 0
          · rw [if_pos c3, if_pos ⟨by omega, c3.2⟩]
          · rw [if_neg c3, if_neg (fun h => c3 ⟨by omega, h.2⟩)]
      · rw [beq_eq_false_iff_ne.mpr c2]
        refine pc_ite (fun _ => ?_) (fun h => absurd rfl h)
        unfold f_D_goBack_96
        refine pc_let (fun x11 e11 => ?_)
        rw [e1] at e11
        refine ih (by omega) (by omega) hx (fun j => ?_)
        rw [h8 j]
        by_cases c3 : (j : Int) < v2 ∧ s j = 0
        · rw [if_pos c3, if_pos ⟨by omega, c3.2⟩]
        · rw [if_neg c3, if_neg (fun h => c3 ⟨by
            by_cases cj : j = v2.toNat
            · rw [cj] at h; exact absurd h.2 c2
            · omega, h.2⟩)]
theorem uf_E {P : Int} {s : Nat → Int} {w : Wd} (hP : 0 ≤ P ∧ P ≤ 10) (h3 : w 5 3 = P) (hd : 0 ≤ w 15 3 ∧ w 15 3 ≤ 60) (hu : w 15 4 ≠ 0 → 1 ≤ w 15 3 ∧ 0 ≤ w 15 4 ∧ w 15 4 ≤ 60 ∧ WH (w 17 (w 15 3 - 1).toNat) s P) : PC (f_E_undo w) (fun r u => (w 15 4 = 0 ∧ r = -1 ∧ u = w) ∨ (w 15 4 ≠ 0 ∧ r = w 15 3 - 1 ∧ u 15 4 = w 15 4 - 1 ∧ u 15 3 = w 15 3 - 1 ∧ u 5 4 = w 17 (w 15 3 - 1).toNat ∧ u 5 6 = w 18 (w 15 3 - 1).toNat ∧ (∀ j : Nat, u 8 j = if (j : Int) < P ∧ s j = 0 then -1 else w 8 j) ∧ ∀ c k, c ≠ 28 → c ≠ 8 → ¬ (c = 15 ∧ (k = 3 ∨ k = 4)) → ¬ (c = 5 ∧ (k = 4 ∨ k = 6)) → u c k = w c k)) := by
  unfold f_E_undo
  have hg : PC (f_D_goBack w) (fun r u => (w 15 4 = 0 ∧ r = 0 ∧ u = w) ∨ (w 15 4 ≠ 0 ∧ r = 1 ∧ u 15 4 = w 15 4 - 1 ∧ u 15 3 = w 15 3 - 1 ∧ u 5 4 = w 17 (w 15 3 - 1).toNat ∧ u 5 6 = w 18 (w 15 3 - 1).toNat ∧ (∀ j : Nat, u 8 j = if (j : Int) < P ∧ s j = 0 then -1 else w 8 j) ∧ ∀ c k, c ≠ 8 → ¬ (c = 15 ∧ (k = 3 ∨ k = 4)) → ¬ (c = 5 ∧ (k = 4 ∨ k = 6)) → u c k = w c k)) := by
    unfold f_D_goBack
    refine pc_ite (fun c => pc_some (Or.inl ⟨c, rfl, rfl⟩)) (fun c => ?_)
    obtain ⟨u1, u2, u3, u4⟩ := hu c
    have w1 := w32_sp (w 15 3 - 1)
    have w2 := w32_sp (w 15 4 - 1)
    unfold f_D_isOne
    rw [if_neg (by omega), if_neg (by omega), if_neg (by omega), jc_s, if_neg (by decide)]
    refine pc_lw (fun x3 e3 => ?_)
    have y1 : x3 15 3 = w 15 3 := by rw [e3, st_k (by decide)]
    refine pc_lw (fun x4 e4 => ?_)
    rw [y1, show w32 (w 15 3 - 1) = w 15 3 - 1 by omega] at e4
    rw [show w32 (w 15 4 - 1) = w 15 4 - 1 by omega] at e3
    have y2 : x4 15 3 = w 15 3 - 1 := by rw [e4, st_eq]
    refine pc_gd (fun _ => ?_)
    refine pc_lw (fun x5 e5 => ?_)
    rw [y2] at e5
    have y3 : x5 15 3 = w 15 3 - 1 := by rw [e5, st_c (by decide)]; exact y2
    refine pc_gd (fun _ => ?_)
    refine pc_lw (fun x6 e6 => ?_)
    rw [y3] at e6
    have z17 : x4 17 (w 15 3 - 1).toNat = w 17 (w 15 3 - 1).toNat := by rw [e4, st_c (by decide), e3, st_c (by decide)]
    have z18 : x5 18 (w 15 3 - 1).toNat = w 18 (w 15 3 - 1).toNat := by rw [e5, st_c (by decide), e4, st_c (by decide), e3, st_c (by decide)]
    rw [z17] at e5
    rw [z18] at e6
    have q4 : x6 5 4 = w 17 (w 15 3 - 1).toNat := by rw [e6, st_k (by decide), e5, st_eq]
    have q3 : x6 5 3 = P := by rw [e6, st_k (by decide), e5, st_k (by decide), e4, st_c (by decide), e3, st_c (by decide)]; exact h3
    have q8 : ∀ j, x6 8 j = w 8 j := fun j => by rw [e6, st_c (by decide), e5, st_c (by decide), e4, st_c (by decide), e3, st_c (by decide)]
    refine pc_w (ug70 hP x6 (by rw [q4]; exact u4) q3 FU (by decide) hP.1 (fun _ _ _ => rfl) (fun j => by rw [if_neg (by omega)])) (fun r u q => Or.inr ⟨c, q.1, ?_, ?_, ?_, ?_, fun j => ?_, fun c' k h8 h15 h5 => ?_⟩)
    · rw [q.2.1 15 4 (by decide), e6, st_c (by decide), e5, st_c (by decide), e4, st_k (by decide), e3, st_eq]
    · rw [q.2.1 15 3 (by decide), e6, st_c (by decide)]; exact y3
    · rw [q.2.1 5 4 (by decide)]; exact q4
    · rw [q.2.1 5 6 (by decide), e6, st_eq]
    · rw [q.2.2 j, q8 j]
    · rw [q.2.1 c' k h8, e6]; unfold st; rw [if_neg (by omega), e5]; unfold st; rw [if_neg (by omega), e4]; unfold st; rw [if_neg (by omega), e3]; unfold st; rw [if_neg (by omega)]
  refine pc_call hg (fun r1 u2 q => ?_)
  rcases q with ⟨c, q1, q2⟩ | ⟨c, q1, q2, q3, q4, q5, q6, q7⟩
  · refine pc_ite (fun _ => pc_some (Or.inl ⟨c, rfl, q2⟩)) (fun h => absurd q1 h)
  · refine pc_ite (fun h => absurd (q1.symm.trans h) (by decide)) (fun _ => ?_)
    refine pc_call (sf_pc u2) (fun r3 u4 y => pc_some (Or.inr ⟨c, ?_, ?_, ?_, ?_, ?_, fun j => ?_, fun c' k h28 h8 h15 h5 => ?_⟩))
    · rw [y 15 (by decide)]; exact q3
    · rw [y 15 (by decide)]; exact q2
    · rw [y 15 (by decide)]; exact q3
    · rw [y 5 (by decide)]; exact q4
    · rw [y 5 (by decide)]; exact q5
    · rw [y 8 (by decide)]; exact q6 j
    · rw [y c' h28]; exact q7 c' k h8 h15 h5
theorem uf_R {w : Wd} (hG : G md_R_undo w w) (hb : 0 ≤ w 43 32 ∧ w 43 32 ≤ w 43 8 ∧ w 43 8 ≤ 60) (h0 : w 43 0 ≤ 10) : PC (f_R_undo w) (fun r u => (w 43 32 = 0 ∧ r = -1 ∧ u = st w 43 16 0) ∨ (w 43 32 ≠ 0 ∧ r = w 43 8 - 1 ∧ u 43 32 = w 43 32 - 1 ∧ u 43 8 = w 43 8 - 1 ∧ (∀ j : Nat, (j : Int) < w 43 0 → u 47 j = w 59 (31 * (w 43 32 - 1).toNat + 3 * j) ∧ u 48 j = w 59 (31 * (w 43 32 - 1).toNat + 3 * j + 1) ∧ u 49 j = w 59 (31 * (w 43 32 - 1).toNat + 3 * j + 2)) ∧ u 43 7 = w 59 (31 * (w 43 32 - 1).toNat + 30))) := by
  unfold f_R_undo
  refine pc_lw (fun u1 e1 => ?_)
  have t32 : u1 43 32 = w 43 32 := by rw [e1, st_k (by decide)]
  have t8 : u1 43 8 = w 43 8 := by rw [e1, st_k (by decide)]
  rw [t32]
  refine pc_ite (fun c => pc_some (Or.inl ⟨c, rfl, e1⟩)) (fun c => ?_)
  have w1 := w32_sp (w 43 32 - 1)
  have w2 := w32_sp (w 43 8 - 1)
  refine pc_lw (fun u2 e2 => ?_)
  have y8 : u2 43 8 = w 43 8 := by rw [e2, st_k (by decide)]; exact t8
  rw [y8]
  refine pc_lw (fun u3 e3 => ?_)
  rw [show w32 (w 43 32 - 1) = w 43 32 - 1 by omega] at e2
  rw [show w32 (w 43 8 - 1) = w 43 8 - 1 by omega] at e3
  have z32 : u3 43 32 = w 43 32 - 1 := by rw [e3, st_k (by decide), e2, st_eq]
  have z8 : u3 43 8 = w 43 8 - 1 := by rw [e3, st_eq]
  have z0 : u3 43 0 = w 43 0 := by rw [e3, st_k (by decide), e2, st_k (by decide), e1, st_k (by decide)]
  have z59 : u3 59 = w 59 := by rw [e3, st_row (by decide), e2, st_row (by decide), e1, st_row (by decide)]
  have w3 := w32_sp (31 * u3 43 32)
  have g1 : G md_R_undo w u1 := g_st hG e1 rfl rfl (show (0 : Int) ≤ 0 ∧ (0 : Int) ≤ 1 by decide)
  have g2 : G md_R_undo w u2 := g_st g1 e2 rfl rfl (show (0 : Int) ≤ w 43 32 - 1 ∧ w 43 32 - 1 ≤ 60 by omega)
  have g3 : G md_R_undo w u3 := g_st g2 e3 rfl rfl (show (0 : Int) ≤ w 43 8 - 1 ∧ w 43 8 - 1 ≤ 60 by omega)
  refine pc_call (pc_and (pc_ok (s_R_bring_43_59 (v2 := w32 (31 * u3 43 32)) (g_self g3) (by omega) (by omega) (by omega))) (bringq59 (k := 31 * (w 43 32 - 1).toNat) (v2 := w32 (31 * u3 43 32)) (by omega) (by omega) u3 (by omega))) (fun r4 u5 q => ?_)
  obtain ⟨⟨_, gy⟩, hD, h7⟩ := q
  rw [z59] at hD h7
  refine pc_some (Or.inr ⟨c, ?_, ?_, ?_, fun j hj => hD j (by omega), h7⟩)
  · rw [gy.2.1 43 8 rfl]; exact z8
  · rw [gy.2.1 43 32 rfl]; exact z32
  · rw [gy.2.1 43 8 rfl]; exact z8
def udP : List (Nat × Nat) := [(1, 1), (43, 13), (5, 3), (5, 5), (5, 7), (5, 8), (37, 2), (37, 3), (37, 4), (37, 5), (37, 6), (37, 7), (37, 8), (37, 9), (40, 2), (40, 3), (40, 4), (40, 5), (40, 6), (40, 7), (40, 8), (40, 9), (43, 0), (43, 10), (43, 11), (43, 56)]
def udA : List Nat := [2, 6, 7, 16, 17, 18, 38, 39, 41, 42, 44, 45, 46, 50, 51, 59, 79, 80, 81]
theorem k_undo {w : Wd} (h : LF w) : OK (f_E_undo w) (fun r1 u1 => OK (f_R_undo u1) (fun r2 u2 => LF u2 ∧ r1 = r2)) := by
  have a0 : (0 : Int) ≤ w 43 0 ∧ w 43 0 ≤ 10 := h.1.1.1 43 0
  have a8 : (0 : Int) ≤ w 43 8 ∧ w 43 8 ≤ 60 := h.1.1.1 43 8
  have a32 : (0 : Int) ≤ w 43 32 ∧ w 43 32 ≤ 60 := h.1.1.1 43 32
  have hUI := h.1.2.1.2.2.2.2
  have hF := h.2
  obtain ⟨hCO, hPP, hHB, hWH, ⟨hp, hwk, hun⟩, hwe, hSN, hUB, hK0, hK1, hgs⟩ := hF
  have hPe := hCO.2.1
  -- the latest of all that can be undone
  have tt : w 43 32 ≠ 0 → ((w 43 32 - 1).toNat : Int) = w 43 32 - 1 ∧ wki w (w 43 32 - 1).toNat = w 43 8 - 1 := fun hn => by
    have e : ((w 43 32 - 1).toNat : Int) = w 43 32 - 1 := by omega
    refine ⟨e, ?_⟩
    unfold wki
    rw [e]; omega
  refine ok_w (ok_pc (e_E_undo h.1) (uf_E (P := w 43 0) (s := fun j => w 59 (31 * (w 43 32 - 1).toNat + 3 * j)) a0 hPe (by omega) (fun hn => ?_))) (fun r1 u1 q1 => ?_)
  · rw [hun] at hn
    obtain ⟨t1, t2⟩ := tt hn
    obtain ⟨x1, _⟩ := hUB (w 43 32 - 1).toNat (by omega)
    rw [t2] at x1
    rw [hwk]
    exact ⟨by omega, by omega, by omega, x1⟩
  obtain ⟨⟨g1, s1⟩, x1⟩ := q1
  have f1 := fr_g (P := [(43, 0), (43, 8), (43, 32)]) (A := [59]) g1 rfl
  have e0 : u1 43 0 = w 43 0 := f1.1 (43, 0) (by decide)
  have e8 : u1 43 8 = w 43 8 := f1.1 (43, 8) (by decide)
  have e32 : u1 43 32 = w 43 32 := f1.1 (43, 32) (by decide)
  have e59 := f1.2 59 (by decide)
  refine ok_w (ok_pc (e_R_undo s1) (uf_R (g_self s1.1) (by omega) (by omega))) (fun r2 u2 q2 => ?_)
  obtain ⟨⟨g2, s2, _⟩, x2⟩ := q2
  rw [e0, e8, e32, e59] at x2
  have f := fr_tr (fr_g (P := udP) (A := udA) g1 rfl) (fr_g g2 rfl)
  have hco : CO u2 := co_fr hCO (fr_sub f (by decide) (by decide))
  rcases x1 with ⟨n1, c1, c2⟩ | ⟨n1, c1, c2, c3, c4, c5, c6, c7⟩
  · rcases x2 with ⟨n2, d1, d2⟩ | ⟨n2, _⟩
    · refine ⟨⟨s2, ?_⟩, by omega⟩
      rw [c2] at d2
      refine fc_fr2 h.2 hco ⟨fun p hp => ?_, fun c hc => ?_⟩
      · rw [d2]
        simp only [fdP, List.mem_cons, List.not_mem_nil, or_false] at hp
        unfold st
        rw [if_neg]
        rintro ⟨y1, y2⟩
        obtain ⟨p1, p2⟩ := p
        simp only at y1 y2
        subst y1; subst y2
        simp at hp
      · rw [d2]
        refine st_row ?_
        simp only [fdA, List.mem_cons, List.not_mem_nil, or_false] at hc
        omega
    · exfalso; omega
  · rcases x2 with ⟨n2, _⟩ | ⟨n2, d1, d2, d3, d4, d5⟩
    · exfalso; omega
    · obtain ⟨t1, t2⟩ := tt n2
      obtain ⟨y1, y2, y3, y4, y5⟩ := hUB (w 43 32 - 1).toNat (by omega)
      rw [t2] at y1 y2 y3
      generalize hT : (w 43 32 - 1).toNat = T at *
      have q0 : u2 43 0 = w 43 0 := f.1 (43, 0) (by decide)
      have fE := fr_g (P := [(5, 4), (5, 6), (15, 3), (15, 4)]) (A := [8]) g2 rfl
      have r54 : u2 5 4 = w 17 (w 43 8 - 1).toNat := by rw [fE.1 (5, 4) (by decide), c4, hwk]
      have r56 : u2 5 6 = w 18 (w 43 8 - 1).toNat := by rw [fE.1 (5, 6) (by decide), c5, hwk]
      have r153 : u2 15 3 = w 43 8 - 1 := by rw [fE.1 (15, 3) (by decide), c3, hwk]
      have r154 : u2 15 4 = w 43 32 - 1 := by rw [fE.1 (15, 4) (by decide), c2, hun]
      have r8 := fE.2 8 (by decide)
      have b8 : ∀ j : Nat, (j : Int) < w 43 0 → u2 8 j = u2 48 j := fun j hj => by
        rw [r8, c6 j, (d4 j hj).2.1]
        by_cases cs : w 59 (31 * T + 3 * j) = 0
        · rw [if_pos ⟨hj, cs⟩]
          exact (y3.1 j hj cs).1.symm
        · rw [if_neg (fun e => cs e.2), (y4 j hj cs).1]
          exact (hPP j hj).2.2
      refine ⟨⟨s2, hco, fun j hj => ?_, ?_, ?_, ⟨?_, ?_, ?_⟩, fun t ht => ?_, ?_, fun t ht => ?_, kbf_ag hK0 (fr_sub f (by decide) (by decide)), kbf_ag hK1 (fr_sub f (by decide) (by decide)), ?_⟩, by omega⟩
      · rw [q0] at hj
        rw [f.2 6 (by decide), f.2 7 (by decide), f.2 44 (by decide), f.2 45 (by decide)]
        obtain ⟨z1, z2, _⟩ := hPP j hj
        exact ⟨z1, z2, b8 j hj⟩
      · rw [f.1 (5, 5) (by decide), q0, f.2 46 (by decide)]; exact hHB
      · rw [r54, q0]
        exact wh_eq y1 (fun k hk => ((d4 k hk).1).symm)
      · rw [r56, d5]; exact y2
      · rw [r153, d3]
      · rw [r154, d2]
      · rw [d3] at ht
        rw [f.2 16 (by decide), f.2 50 (by decide)]
        exact hwe t (by omega)
      · rw [q0, d3, f.2 50 (by decide)]
        exact sn_eq y3 (by omega) (fun j hj => ⟨((d4 j hj).1).symm, ((d4 j hj).2.1).symm, ((d4 j hj).2.2).symm⟩) (fun _ _ => rfl)
      · rw [d2] at ht
        obtain ⟨z1, z2, z3, z4, z5⟩ := hUB t (by omega)
        have ew : wki u2 t = wki w t := by
          unfold wki
          rw [d3, d2]; omega
        rw [ew, q0, f.2 17 (by decide), f.2 18 (by decide), f.2 50 (by decide), f.2 59 (by decide), d2]
        refine ⟨z1, z2, z3, fun j hj hn => ?_, fun t2 h2 h3 => z5 t2 h2 (by omega)⟩
        have nT := z5 T (by omega) (by omega) j hj hn
        rw [(d4 j hj).1, (d4 j hj).2.1, (y4 j hj nT).1]
        exact ⟨(z4 j hj hn).1, nT⟩
      · rw [f.1 (43, 10) (by decide), f.1 (43, 11) (by decide)]; exact hgs
/-! BABY, all of it -/
theorem bf_E {w : Wd} {a : Nat} {s h : Nat → Int} {v1 : Int} (ha : w 5 3 = a) (h10 : a ≤ 10) (hw : WH (w 5 4) s a) (hh : B10 (w 5 5) (hB a h)) (hK : KNW a (w 7)) (hd : 0 ≤ w 15 3 ∧ w 15 3 ≤ 60) (hv : -2147483648 ≤ v1 ∧ v1 ≤ 2147483647) : PC (f_E_baby v1 w) (fun _ u => (¬ (w 5 3 ≤ 9 ∧ 0 ≤ v1 ∧ v1 ≤ w32 (ishl 1 (w 5 3) - 1)) ∧ u = w) ∨ ((w 5 3 ≤ 9 ∧ 0 ≤ v1 ∧ v1 ≤ w32 (ishl 1 (w 5 3) - 1)) ∧ ECN a 1 (fun _ => 0) (fun _ => v1) (fun _ => false) (fun _ => false) s h w u)) := by
  unfold f_E_baby
  have a0 : (0 : Int) ≤ w 5 3 ∧ w 5 3 ≤ 10 := by omega
  refine pc_ite (fun c => pc_some (Or.inl ⟨fun c2 => by omega, rfl⟩)) (fun c => ?_)
  unfold f_F_everybody
  rw [jc_s]
  refine pc_ite (fun c1 => ?_) (fun c1 => pc_some (Or.inl ⟨fun c2 => c1 ((baby_c a0 hv).mpr c2.2), rfl⟩))
  have c2 := (baby_c a0 hv).mp c1
  refine pc_call (ea_pc (i := a) (by omega) ha hK) (fun r3 u4 q => ?_)
  have hE : EAN a 1 (fun _ => 0) (fun _ => v1) w u4 := ean_s (n := 0) (ean_0 ha) q
  have fo := hE.2.2.2.2
  have g0 : B10 0 (fun k => decide ((a : Int) ≤ k ∧ (k : Int) < a + ((1 : Nat) : Int)) && (fun _ : Nat => false) ((k : Int) - a).toNat) := b10_w b10_0 (fun k _ => by simp)
  have y4 : u4 5 4 = w 5 4 := fo 5 4 (by decide) (by decide) (by decide) (by decide)
  have y5 : u4 5 5 = w 5 5 := fo 5 5 (by decide) (by decide) (by decide) (by decide)
  have y15 : u4 15 3 = w 15 3 := fo 15 3 (by decide) (by decide) (by decide) (by decide)
  have w4 : WH (u4 5 4) (fun j => if j < a then s j else if (fun _ : Nat => false) (j - a) = true then 1 else 0) ((a : Int) + ((1 : Nat) : Int)) := by
    have := wh_come (n := 1) (gf := fun _ => false) (by omega) hw g0
    rw [ior0 (by have := hw.1; omega)] at this
    rw [y4]; exact this
  refine pc_call (pcm_pc w4 (by omega)) (fun r5 u6 q2 => ?_)
  obtain ⟨z1, z2, z3, z4⟩ := q2
  have row : ∀ c, c ≠ 16 → c ≠ 28 → c ≠ 15 → u6 c = u4 c := fun c h16 h28 h15 => funext fun k => z4 c k h16 h28 (fun e => h15 e.1)
  refine pc_some (Or.inr ⟨⟨by omega, c2⟩, ?_, ?_, ?_, ?_, z2, fun t ht => ?_, ?_, ?_⟩)
  · exact eaw_eq hE (z4 5 3 (by decide) (by decide) (by decide)) (row 6 (by decide) (by decide) (by decide)) (row 7 (by decide) (by decide) (by decide)) (row 8 (by decide) (by decide) (by decide))
  · rw [z4 5 4 (by decide) (by decide) (by decide)]; exact w4
  · have := hB_come (n := 1) (gf := fun _ => false) (by omega) hh g0
    rw [ior0 (by have := hh.1; omega)] at this
    rw [z4 5 5 (by decide) (by decide) (by decide), y5]; exact this
  · rw [← y15]; exact z1
  · rw [z3 t (by rw [y15]; exact ht)]; exact fo 16 t (by decide) (by decide) (by decide) (by omega)
  · rw [z4 5 6 (by decide) (by decide) (by decide)]; exact fo 5 6 (by decide) (by decide) (by decide) (by decide)
  · rw [z4 15 3 (by decide) (by decide) (by decide)]; exact y15
theorem bf_R {w : Wd} {a : Nat} {v1 : Int} (ha : w 43 0 = a) (h10 : a ≤ 10) (h56 : 0 ≤ w 43 56 ∧ w 43 56 ≤ 10) : PC (f_R_baby v1 w) (fun _ u => (¬ (w 43 0 ≤ 9 ∧ 0 ≤ v1 ∧ v1 ≤ w32 (ishl 1 (w 43 0) - 1)) ∧ u = st w 43 16 0) ∨ ((w 43 0 ≤ 9 ∧ 0 ≤ v1 ∧ v1 ≤ w32 (ishl 1 (w 43 0) - 1)) ∧ RCN a 1 (fun _ => 0) (fun _ => v1) (fun _ => 0) (fun _ => 0) w u)) := by
  unfold f_R_baby
  refine pc_lw (fun u1 e1 => ?_)
  have t0 : u1 43 0 = w 43 0 := by rw [e1, st_k (by decide)]
  rw [in_e, jc_s, t0]
  refine pc_ite (fun c => ?_) (fun c => ?_)
  · refine pc_some (Or.inl ⟨fun c2 => ?_, e1⟩)
    rw [if_pos c2.2] at c
    exact absurd c (by decide)
  · have c1 : 0 ≤ v1 ∧ v1 ≤ w32 (ishl 1 (w 43 0) - 1) := by
      by_cases c2 : 0 ≤ v1 ∧ v1 ≤ w32 (ishl 1 (w 43 0) - 1)
      · exact c2
      · rw [if_neg c2] at c; exact absurd rfl c
    refine pc_ite (fun c2 => pc_some (Or.inl ⟨fun c3 => by omega, e1⟩)) (fun c2 => ?_)
    have k1 : FR [(43, 7), (43, 8), (43, 10), (43, 11), (43, 56)] [44, 45, 46, 47, 48, 49, 50, 79, 80, 81] w u1 := by
      refine ⟨fun p hp => ?_, fun c hc => ?_⟩
      · rw [e1]
        simp only [List.mem_cons, List.not_mem_nil, or_false] at hp
        unfold st
        rw [if_neg]
        rintro ⟨y1, y2⟩
        obtain ⟨p1, p2⟩ := p
        simp only at y1 y2
        subst y1; subst y2
        simp at hp
      · rw [e1]
        refine st_row ?_
        simp only [List.mem_cons, List.not_mem_nil, or_false] at hc
        omega
    refine pc_call (ra_pc (i := a) (v1 := w 43 0) (p := 0) (k := v1) (g := 0) (h := 0) (by omega) ha (by decide)) (fun r4 u5 q => ?_)
    have hR : RAN a 1 (fun _ => 0) (fun _ => v1) (fun _ => 0) (fun _ => 0) u1 u5 := ran_s (n := 0) ran_0 q
    have fo := hR.2.2.2
    have y0 : u5 43 0 = w 43 0 := (fo 43 0 (by decide) (by decide) (by decide) (by decide) (by decide) (by decide)).trans t0
    have y56 : u5 43 56 = w 43 56 := (fo 43 56 (by decide) (by decide) (by decide) (by decide) (by decide) (by decide)).trans (k1.1 (43, 56) (by decide))
    have w1 := w32_sp (w 43 0 + 1)
    rw [y0]
    refine pc_lw (fun u6 e6 => ?_)
    rw [show w32 (w 43 0 + 1) = (a : Int) + ((1 : Nat) : Int) by omega] at e6
    have z0 : u6 43 0 = (a : Int) + 1 := by rw [e6, st_eq]; rfl
    have z56 : u6 43 56 = w 43 56 := by rw [e6, st_k (by decide)]; exact y56
    refine pc_call (tdq_pc (w := u6) (by omega) (by omega)) (fun r7 u8 q7 => pc_some (Or.inr ⟨⟨by omega, c1⟩, rcn_x k1 (rcn_fin (by omega) hR e6 q7)⟩))
theorem k_baby {w : Wd} {v1 : Int} (h : LF w) (i_v1 : ((-2147483648 : Int) ≤ v1 ∧ v1 ≤ 2147483647)) : OK (f_E_baby v1 w) (fun r1 u1 => OK (f_R_baby v1 u1) (fun r2 u2 => LF u2 ∧ r1 = r2)) := by
  have a0 : (0 : Int) ≤ w 43 0 ∧ w 43 0 ≤ 10 := h.1.1.1 43 0
  have a8 : (0 : Int) ≤ w 43 8 ∧ w 43 8 ≤ 60 := h.1.1.1 43 8
  have hF := h.2
  obtain ⟨hCO, hPP, hHB, hWH, ⟨hp, hwk, hun⟩, hwe, hSN, hUB, hK0, hK1, hgr, hse⟩ := hF
  have hP := hCO.2.1
  have ea : w 43 0 = (((w 43 0).toNat : Nat) : Int) := by omega
  generalize hA : (w 43 0).toNat = a at ea
  have kn : KNW a (w 7) := by
    have k := rs_kn h.1
    rw [hA] at k
    intro j hj
    rw [(hPP j (by omega)).2.1]
    exact k j hj
  refine ok_w (ok_pc (c_baby (lf_li h) i_v1) (pc_and (pc_ok (e_E_baby h.1 i_v1)) (bf_E (a := a) (s := w 47) (h := w 46) (by omega) (by omega) (by rw [← ea]; exact hWH) (by rw [← ea]; exact hHB) kn (by omega) i_v1))) (fun r1 u1 q1 => ?_)
  obtain ⟨o1, ⟨g1, s1⟩, x1⟩ := q1
  have e0 : u1 43 0 = w 43 0 := g1.2.1 43 0 rfl
  refine ok_w (ok_pc o1 (pc_and (pc_ok (e_R_baby s1 i_v1)) (bf_R (a := a) (by omega) (by omega) (rs_56 s1)))) (fun r2 u2 q2 => ?_)
  obtain ⟨⟨hL, hr⟩, ⟨g2, s2⟩, x2⟩ := q2
  refine ⟨⟨s2, ?_⟩, hr⟩
  rw [e0, ← hP] at x2
  rcases x1 with ⟨n1, c1⟩ | ⟨n1, hE⟩
  · rcases x2 with ⟨n2, d2⟩ | ⟨n2, _⟩
    · rw [c1] at d2
      refine fc_fr2 h.2 hL.2 ⟨fun p hp => ?_, fun c hc => ?_⟩
      · rw [d2]
        simp only [fdP, List.mem_cons, List.not_mem_nil, or_false] at hp
        unfold st
        rw [if_neg]
        rintro ⟨y1, y2⟩
        obtain ⟨p1, p2⟩ := p
        simp only at y1 y2
        subst y1; subst y2
        simp at hp
      · rw [d2]
        refine st_row ?_
        simp only [fdA, List.mem_cons, List.not_mem_nil, or_false] at hc
        omega
    · exact absurd n2 n1
  · rcases x2 with ⟨n2, _⟩ | ⟨n2, hR⟩
    · exact absurd n1 n2
    · have fR := fr_g (P := [(43, 7), (43, 8), (43, 10), (43, 11), (43, 56)]) (A := [44, 45, 46, 47, 48, 49, 50, 79, 80, 81]) g1 rfl
      obtain ⟨⟨v, hv1, hv⟩, rest⟩ := rcn_x fR hR
      exact fc_come (a := a) (n := 1) h.2 ea (by omega) (by decide) a8 hL.2 hE (pr2 := fun _ => 0) (kn2 := fun _ => v1) ⟨⟨v, ran_eq hv1 (fun i _ => ⟨rfl, rfl⟩), hv⟩, rest⟩ (fun _ _ => rfl) (fun _ _ => rfl) (fr_g g2 rfl) (fr_tr (u := u1) (fr_g (P := []) g1 rfl) (fr_g g2 rfl))
