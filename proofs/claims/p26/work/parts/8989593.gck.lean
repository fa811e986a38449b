/-! THE REFERENCE'S SEARCH, once more: the table of its STATES stands too, and who is HIDDEN -/
def RLC (P g se : Int) (h kn : Nat → Int) (x0 : Int) (u : Wd) : Prop := RLI P g se h kn x0 u ∧ COD P g se h kn x0 u ∧ ∃ nm, B10 (u 43 44) nm ∧ ∀ k : Nat, (k : Int) < P → nm k = hB P h k
theorem fs53c {P g se : Int} {h kn : Nat → Int} {x0 : Int} {b : Wd} (hP : 0 ≤ P ∧ P ≤ 10) (hg : 1 ≤ g ∧ g ≤ 3) (h0 : WH x0 (sof x0) P) : ∀ (n : Nat) {v2 : Int} {w : Wd}, FRY b w → w 43 0 = P → w 43 10 = g → w 43 11 = se → (∀ j : Nat, (j : Int) < P → w 45 j = kn j ∧ 0 ≤ kn j ∧ kn j ≤ 1023) → (∃ nm, B10 (w 43 44) nm ∧ ∀ k : Nat, (k : Int) < P → nm k = hB P h k) → RSI P g se h kn x0 v2 w → PC (f_R_findStates_53 n v2 w) (fun r u => FRY b u ∧ G [] u u ∧ ((r = 0 ∧ MNY P g se h kn x0) ∨ (r = 1 ∧ RLC P g se h kn x0 u))) := by
  intro n
  induction n with
  | zero => intros; exact pc_none
  | succ n ih =>
    intro v2 w hF c0 c10 c11 c45 c44 hI
    obtain ⟨hG, hC, hv, h1, hz, hU, hE⟩ := hI
    rw [f_R_findStates_53]
    have a40 : (0 : Int) ≤ w 43 40 ∧ w 43 40 ≤ 3000 := hG.1 43 40
    have a41 : (0 : Int) ≤ w 43 41 ∧ w 43 41 ≤ 756000 := hG.1 43 41
    refine pc_ite (fun c => ?_) (fun c => ?_)
    · refine pc_gd (fun _ => pc_lw (fun u e => pc_some ?_))
      have ev : v2 = w 43 40 := by omega
      have G1 : G [6499] w u := g_st (g_self hG) e rfl rfl (show (0 : Int) ≤ w 43 41 ∧ w 43 41 ≤ 756000 by omega)
      have ro : ∀ c, c ≠ 64 → u c = w c := fun c hc => by rw [e, st_row hc]
      have z64 : ∀ k, u 64 k = if k = (w 43 40).toNat then w 43 41 else w 64 k := fun k => by
        rw [e]
        by_cases ck : k = (w 43 40).toNat
        · rw [if_pos ck, ck, st_eq]
        · rw [if_neg ck, st_k ck]
      have r43 := ro 43 (by decide)
      have nx : ∀ s : Nat, (s : Int) < w 43 40 → u 64 (s + 1) = nxe w v2 s := fun s hs => by
        unfold nxe
        rw [z64]
        by_cases cs : (s : Int) + 1 < v2
        · rw [if_pos cs, if_neg (by omega)]
        · rw [if_neg cs, if_pos (by omega)]
      have closed : ∀ (t : Nat) (x : Int), RCX P g se h kn x0 t x → ∃ i : Nat, (i : Int) < w 43 40 ∧ w 63 i = cdx P x := by
        intro t
        induction t with
        | zero => intro x ex; exact ⟨0, by omega, by rw [show x = x0 from ex]; exact hz⟩
        | succ t iht =>
          rintro x ⟨y, hy, hs⟩
          obtain ⟨i, hi, ei⟩ := iht y hy
          obtain ⟨e', _, _, h3, h4⟩ := ((hE i (by omega)).2 y ⟨rx_wh hP h0 hy, t, hy⟩ ei).2 x hs
          exact ⟨(w 65 e').toNat, by omega, h4⟩
      have hcod : COD P g se h kn x0 u := by
        unfold COD Fnd Miss
        rw [r43, ro 63 (by decide), ro 67 (by decide)]
        exact hC
      refine ⟨⟨fun c a1 a2 a3 a4 a5 a6 a7 => (ro c a3).trans (hF.1 c a1 a2 a3 a4 a5 a6 a7), fun k a b c => by rw [r43]; exact hF.2 k a b c⟩, g_self G1, Or.inr ⟨rfl, ?_, hcod, by rw [r43]; exact c44⟩⟩
      unfold RLI
      rw [r43, ro 63 (by decide)]
      refine ⟨⟨h1, a40.2⟩, fun i j hi hj e2 => ?_, hC.2, fun x hx => ?_, hz, fun s hs => ?_⟩
      · have f1 := hC.1 i hi
        rw [e2] at f1
        exact fnd_one f1 (hC.1 j hj)
      · obtain ⟨t, ht⟩ := hx.2
        exact closed t x ht
      · obtain ⟨e1, e2⟩ := hE s (by omega)
        have es : u 64 s = w 64 s := by rw [z64, if_neg (by omega)]
        rw [nx s hs, es]
        refine ⟨by omega, ?_⟩
        unfold EDS
        rw [es, r43, ro 63 (by decide), ro 65 (by decide)]
        exact e2
    · refine pc_gd (fun _ => pc_lw (fun u11 e11 => ?_))
      have G1 : G [6499] w u11 := g_st (g_self hG) e11 rfl rfl (show (0 : Int) ≤ w 43 41 ∧ w 43 41 ≤ 756000 by omega)
      have ro : ∀ c, c ≠ 64 → u11 c = w c := fun c hc => by rw [e11, st_row hc]
      have z64 : ∀ k, u11 64 k = if k = v2.toNat then w 43 41 else w 64 k := fun k => by
        rw [e11]
        by_cases ck : k = v2.toNat
        · rw [if_pos ck, ck, st_eq]
        · rw [if_neg ck, st_k ck]
      have ev : v2 = ((v2.toNat : Nat) : Int) := by omega
      obtain ⟨x, hx, ex⟩ := hC.2 v2.toNat (by omega)
      have hld := load_pc (P := P) (s := sof x) (w := u11) (t := v2.toNat) hP (by rw [ro 43 (by decide)]; exact c0) hx.1.2.2 (by rw [ro 63 (by decide)]; exact ex)
      rw [← ev] at hld
      refine pc_call (pc_and hld (pc_ok (s_R_load (g_self G1) (by omega)))) (fun r12 u13 q => ?_)
      obtain ⟨⟨q1, q2⟩, _, q3⟩ := q
      have G13 : G [] u13 u13 := g_self q3
      have rr : ∀ c, c ≠ 64 → c ≠ 68 → u13 c = w c := fun c a b => (q2 c b).trans (ro c a)
      have r43 := rr 43 (by decide) (by decide)
      have r63 := rr 63 (by decide) (by decide)
      have r65 := rr 65 (by decide) (by decide)
      have r66 := rr 66 (by decide) (by decide)
      have r67 := rr 67 (by decide) (by decide)
      have hR : RCx P g se h kn (sof x) u13 := by
        refine ⟨by rw [r43]; exact c0, by rw [r43]; exact c10, by rw [r43]; exact c11, q1, fun j hj => ?_, ?_⟩
        · rw [rr 45 (by decide) (by decide)]; exact c45 j hj
        · rw [r43]; exact c44
      have cod13 : COD P g se h kn x0 u13 := by
        unfold COD
        rw [r43, r63]
        exact ⟨fun t ht => fnd_congr (fun k => by rw [r67]) (fun k => by rw [r63]) (hC.1 t ht), hC.2⟩
      have hJ : JIx P g se h kn x0 x v2 (w 43 41) u13 := by
        refine ⟨G13, cod13, by rw [r43]; omega, fun e h1 h2 => ?_, fun t ht hs => ?_, fun t ht => ?_⟩
        · rw [r43] at h2; omega
        · rw [r43] at ht
          rw [r66] at hs
          have := hU t ht; omega
        · rw [r43] at ht
          rw [r66]
          have := hU t ht; omega
      refine pc_call (gp_pc hP hg h0 hx (by omega) 16 (m := 0) (d := 0) (f := 0) hR hJ ⟨rfl, rfl⟩ (by decide) hP.1 (b10_w b10_0 (fun k _ => by rw [bt_0]; rfl)) (b10_w b10_0 (fun k _ => by rw [bt_0]; rfl))) (fun r14 u15 q => ?_)
      obtain ⟨q4, q5, q6⟩ := q
      have f13 : FRY b u13 := ⟨fun c a1 a2 a3 a4 a5 a6 a7 => (rr c a3 a7).trans (hF.1 c a1 a2 a3 a4 a5 a6 a7), fun k a b c => by rw [r43]; exact hF.2 k a b c⟩
      have f15 : FRY b u15 := ⟨fun c a1 a2 a3 a4 a5 a6 a7 => (q5.1.1 c a1 a2 a4 a5 a6).trans (f13.1 c a1 a2 a3 a4 a5 a6 a7), fun k a b c => (q5.1.2 k a b).trans (f13.2 k a b c)⟩
      rcases q6 with ⟨q6, q7⟩ | ⟨q6, q7⟩
      · refine pc_ite (fun _ => pc_some ⟨f15, q4.1, Or.inl ⟨rfl, q7⟩⟩) (fun e => absurd q6 e)
      · refine pc_ite (fun e => by omega) (fun _ => pc_let (fun x16 e16 => ?_))
        rw [w32_id (by omega)] at e16
        rw [e16]
        obtain ⟨g1, g2, g3, g4, g5⟩ := q5
        rw [r43] at g2 g3 g4 g5
        rw [r63] at g3
        rw [r65] at g5
        have u64 : u15 64 = u11 64 := (g1.1 64 (by decide) (by decide) (by decide) (by decide) (by decide)).trans (q2 64 (by decide))
        have b40 : (0 : Int) ≤ u15 43 40 ∧ u15 43 40 ≤ 3000 := q4.1.1 43 40
        refine ih f15 (by rw [g1.2 0 (by decide) (by decide), r43]; exact c0) (by rw [g1.2 10 (by decide) (by decide), r43]; exact c10) (by rw [g1.2 11 (by decide) (by decide), r43]; exact c11) (fun j hj => by rw [g1.1 45 (by decide) (by decide) (by decide) (by decide) (by decide), rr 45 (by decide) (by decide)]; exact c45 j hj) (by rw [g1.2 44 (by decide) (by decide), r43]; exact c44) ⟨q4.1, q4.2.1, by omega, by omega, by rw [g3 0 (by omega)]; exact hz, fun t ht => by have := q4.2.2.2.2.2 t ht; omega, fun s hs => ?_⟩
        by_cases cs : (s : Int) < v2
        · obtain ⟨e1, e2⟩ := hE s cs
          have es : u15 64 s = w 64 s := by rw [u64, z64, if_neg (by omega)]
          have en : nxe u15 (v2 + 1) s = nxe w v2 s := by
            unfold nxe
            rw [if_pos (by omega), u64, z64]
            by_cases cs2 : (s : Int) + 1 < v2
            · rw [if_pos cs2, if_neg (by omega)]
            · rw [if_neg cs2, if_pos (by omega)]
          rw [en, es]
          refine ⟨by omega, fun y hy ey => ?_⟩
          rw [g3 s (by omega)] at ey
          obtain ⟨b1, b2⟩ := e2 y hy ey
          rw [es]
          refine ⟨fun e h1 h2 => ?_, fun z hz' => ?_⟩
          · obtain ⟨b3, z, b4, b5⟩ := b1 e h1 h2
            rw [g5 e (by omega), g3 _ (by omega)]
            exact ⟨by omega, z, b4, b5⟩
          · obtain ⟨e, b3, b4, b5, b6'⟩ := b2 z hz'
            exact ⟨e, b3, b4, by rw [g5 e (by omega)]; omega, by rw [g5 e (by omega), g3 _ (by omega)]; exact b6'⟩
        · have es : s = v2.toNat := by omega
          have e64 : u15 64 s = w 43 41 := by rw [u64, z64, if_pos es]
          have en : nxe u15 (v2 + 1) s = u15 43 41 := by unfold nxe; rw [if_neg (by omega)]
          rw [en, e64]
          refine ⟨by omega, fun y hy ey => ?_⟩
          have eyx : y = x := cdx_inj hP hy.1 hx.1 (by rw [← ey, es, g3 _ (by omega)]; exact ex)
          rw [eyx, e64]
          refine ⟨fun e h1 h2 => ?_, fun z hz' => ?_⟩
          · obtain ⟨b3, _, b4⟩ := q4.2.2.2.1 e h1 h2
            exact ⟨b3, b4⟩
          · obtain ⟨m, ⟨d, f, hD⟩, hwz⟩ := hz'
            obtain ⟨hD2, hso⟩ := (drc_se hP).mp hD
            have hso2 : m = 0 ∨ ((pn (fun k => sty P (sof x) g k || bt m k) 10 : Nat) : Int) ≤ se := by
              rcases hso with e | e
              · left; rw [e] at hD2; exact hD2.2
              · exact Or.inr e
            have := q7 m (by rw [show (P - 0).toNat = P.toNat by omega]; exact ext_all hP hD2) hso2
            obtain ⟨e, b3, b4, b5, b6'⟩ := this
            exact ⟨e, b3, b4, b5, by rw [b6']; exact (cdx_wh hP hwz).symm⟩
theorem fs12c {P g se : Int} {h kn : Nat → Int} {x0 : Int} {b : Wd} (hP : 0 ≤ P ∧ P ≤ 10) (hg : 1 ≤ g ∧ g ≤ 3) (h0 : WH x0 (sof x0) P) : ∀ (n : Nat) {v2 : Int} {w : Wd}, FRY b w → G [] w w → (0 ≤ v2 ∧ v2 ≤ 8192) → (∀ p : Nat, (p : Int) < v2 → w 67 p = 0) → w 43 0 = P → w 43 10 = g → w 43 11 = se → (∀ k : Nat, (k : Int) < P → w 47 k = sof x0 k) → (∀ j : Nat, (j : Int) < P → w 45 j = kn j ∧ 0 ≤ kn j ∧ kn j ≤ 1023) → (∃ nm, B10 (w 43 44) nm ∧ ∀ k : Nat, (k : Int) < P → nm k = hB P h k) → PC (f_R_findStates_12 n v2 w) (fun r u => FRY b u ∧ G [] u u ∧ ((r = 0 ∧ MNY P g se h kn x0) ∨ (r = 1 ∧ RLC P g se h kn x0 u))) := by
  intro n
  induction n with
  | zero => intros; exact pc_none
  | succ n ih =>
    intro v2 w hF hG i2 hz c0 c10 c11 c47 c45 c44
    rw [f_R_findStates_12]
    refine pc_ite (fun c => ?_) (fun c => ?_)
    · have hz' : ∀ p, p < 8192 → w 67 p = 0 := fun p hp => hz p (by omega)
      refine pc_lw (fun u4 e4 => pc_lw (fun u5 e5 => ?_))
      have t67 : ∀ p, u4 67 p = w 67 p := fun p => by rw [e4, st_c (by decide)]
      have t40 : u4 43 40 = 0 := by rw [e4, st_eq]
      have g4 : G [4340] w u4 := by
        refine g_st0 (g_self hG) e4 rfl ⟨?_, ?_⟩ (show (0 : Int) ≤ 0 ∧ (0 : Int) ≤ 3000 by decide)
        · intro p q hp hq e hn
          rw [t67, hz' p hp] at hn
          exact absurd rfl hn
        · intro p hp
          rw [t67, hz' p hp, t40]; exact Int.le_refl _
      have g5 : G [4341] u4 u5 := g_st (g_self g4) e5 rfl rfl (show (0 : Int) ≤ 0 ∧ (0 : Int) ≤ 756000 by decide)
      have ro : ∀ c, c ≠ 43 → u5 c = w c := fun c hc => by rw [e5, st_row hc, e4, st_row hc]
      have rk : ∀ k, k ≠ 40 → k ≠ 41 → u5 43 k = w 43 k := fun k a b => by rw [e5, st_k b, e4, st_k a]
      have f40 : u5 43 40 = 0 := by rw [e5, st_k (by decide)]; exact t40
      have f41 : u5 43 41 = 0 := by rw [e5, st_eq]
      refine pc_call (cnow_pc (s := sof x0) hP (by rw [rk 0 (by decide) (by decide)]; exact c0) (fun k hk => by rw [ro 47 (by decide)]; exact c47 k hk) h0.2.2) (fun r6 u7 q => ?_)
      rw [q.1, q.2]
      have cr := cdx_rg hP h0
      have ecd : cdf (sof x0) P.toNat = cdx P x0 := rfl
      rw [ecd]
      refine pc_call (so_pc (g_self g5) (by omega)) (fun r8 u9 z => ?_)
      obtain ⟨⟨z1, z2, z3, z4⟩, ⟨s1, s2, s3⟩, z6⟩ := z
      rw [f40] at s2 s3
      rw [f41] at z4
      have s3' : r8 = 0 ∧ u9 43 40 = 0 + 1 ∧ u9 66 r8.toNat = -1 ∧ Fnd u9 (cdx P x0) r8.toNat := by
        rcases s3 with h1 | h1 | h1
        · exfalso; have := h1.2.2; omega
        · exfalso; omega
        · exact h1
      obtain ⟨y1, y2, y3, y4⟩ := s3'
      rw [y1] at y3 y4
      have y5 : u9 63 0 = cdx P x0 := by
        obtain ⟨_, _, _, _, e⟩ := y4
        exact e
      have f9 : FRY b u9 := ⟨fun c a1 a2 a3 a4 a5 a6 a7 => ((z2.1 c a1 a2 a4 a5 a6).trans (ro c a1)).trans (hF.1 c a1 a2 a3 a4 a5 a6 a7), fun k a b c => ((z2.2 k a b).trans (rk k a b)).trans (hF.2 k a b c)⟩
      refine fs53c hP hg h0 FU f9 (by rw [z2.2 0 (by decide) (by decide), rk 0 (by decide) (by decide)]; exact c0) (by rw [z2.2 10 (by decide) (by decide), rk 10 (by decide) (by decide)]; exact c10) (by rw [z2.2 11 (by decide) (by decide), rk 11 (by decide) (by decide)]; exact c11) (fun j hj => by rw [z2.1 45 (by decide) (by decide) (by decide) (by decide) (by decide), ro 45 (by decide)]; exact c45 j hj) (by rw [z2.2 44 (by decide) (by decide), rk 44 (by decide) (by decide)]; exact c44) ⟨z1, ⟨fun t ht => ?_, fun t ht => ?_⟩, by omega, by omega, y5, fun t ht => ?_, fun s hs => by omega⟩
      · rw [show t = 0 by omega, y5]; exact y4
      · rw [show t = 0 by omega, y5]; exact ⟨x0, ⟨h0, 0, rfl⟩, rfl⟩
      · rw [show t = 0 by omega]
        have e : u9 66 0 = -1 := y3
        rw [e]; decide
    · refine pc_gd (fun _ => pc_lw (fun u17 e17 => pc_let (fun x18 e18 => ?_)))
      rw [w32_id (by omega)] at e18
      rw [e18]
      have ro : ∀ c, c ≠ 67 → u17 c = w c := fun c hc => by rw [e17, st_row hc]
      have t67 : ∀ p, u17 67 p = if p = v2.toNat then 0 else w 67 p := fun p => by
        rw [e17]
        by_cases hp : p = v2.toNat
        · rw [if_pos hp, hp, st_eq]
        · rw [if_neg hp, st_k hp]
      have a40 : (0 : Int) ≤ w 43 40 ∧ w 43 40 ≤ 3000 := hG.1 43 40
      have g17 : G [6799] w u17 := by
        refine g_st0 (g_self hG) e17 rfl ⟨?_, ?_⟩ (show (0 : Int) ≤ 0 ∧ (0 : Int) ≤ 3000 by decide)
        · intro p q hp hq e hn
          rw [t67] at hn
          rw [t67, t67] at e
          by_cases h1 : p = v2.toNat
          · rw [if_pos h1] at hn; exact absurd rfl hn
          · rw [if_neg h1] at hn e
            by_cases h2 : q = v2.toNat
            · rw [if_pos h2] at e; exact absurd e hn
            · rw [if_neg h2] at e
              exact hG.2.2.1 p q hp hq e hn
        · intro p hp
          rw [t67, ro 43 (by decide)]
          split
          · omega
          · exact hG.2.2.2 p hp
      have r43 := ro 43 (by decide)
      refine ih ⟨fun c a1 a2 a3 a4 a5 a6 a7 => (ro c a6).trans (hF.1 c a1 a2 a3 a4 a5 a6 a7), fun k a b c => by rw [r43]; exact hF.2 k a b c⟩ (g_self g17) (by omega) (fun p hp => ?_) (by rw [r43]; exact c0) (by rw [r43]; exact c10) (by rw [r43]; exact c11) (fun k hk => by rw [ro 47 (by decide)]; exact c47 k hk) (fun j hj => by rw [ro 45 (by decide)]; exact c45 j hj) (by rw [r43]; exact c44)
      rw [t67]
      split
      · rfl
      · exact hz p (by omega)
/-- the search of the reference, some more being HIDDEN -/
theorem fstc_pc {P g se : Int} {h kn : Nat → Int} {x0 v1 : Int} {w : Wd} (hP : 0 ≤ P ∧ P ≤ 10) (hg : 1 ≤ g ∧ g ≤ 3) (h0 : WH x0 (sof x0) P) (hG : G [] w w) (c0 : w 43 0 = P) (c10 : w 43 10 = g) (c11 : w 43 11 = se) (c47 : ∀ k : Nat, (k : Int) < P → w 47 k = sof x0 k) (c45 : ∀ j : Nat, (j : Int) < P → w 45 j = kn j ∧ 0 ≤ kn j ∧ kn j ≤ 1023) (hv : 0 ≤ v1 ∧ v1 ≤ 1023) (hh : ∀ k : Nat, (k : Int) < P → (hB P (w 46) k || bt v1 k) = hB P h k) : PC (f_R_findStates v1 w) (fun r u => FRY w u ∧ G [] u u ∧ ((r = 0 ∧ MNY P g se h kn x0) ∨ (r = 1 ∧ RLC P g se h kn x0 u))) := by
  unfold f_R_findStates
  refine pc_call (hidden_e (w := w) (by omega)) (fun r1 u2 q => ?_)
  rw [q.1]
  have q2 := q.2
  rw [c0] at q2
  refine pc_lw (fun u3 e3 => ?_)
  have hB1 := b10_or q2 (b10_self hv)
  have hr := hB1.1
  have g3 : G [4344] w u3 := g_st (g_self hG) e3 rfl rfl (show (0 : Int) ≤ ior r1 v1 ∧ ior r1 v1 ≤ 1023 by omega)
  have ro : ∀ c, c ≠ 43 → u3 c = w c := fun c hc => by rw [e3, st_row hc]
  have rk : ∀ k, k ≠ 44 → u3 43 k = w 43 k := fun k hk => by rw [e3, st_k hk]
  refine fs12c hP hg h0 FU ⟨fun c a1 _ _ _ _ _ _ => ro c a1, fun k _ _ c => rk k c⟩ (g_self g3) (by decide) (fun p hp => by omega) (by rw [rk 0 (by decide)]; exact c0) (by rw [rk 10 (by decide)]; exact c10) (by rw [rk 11 (by decide)]; exact c11) (fun k hk => by rw [ro 47 (by decide)]; exact c47 k hk) (fun j hj => by rw [ro 45 (by decide)]; exact c45 j hj) ⟨fun k => hB P (w 46) k || bt v1 k, by rw [e3, st_eq]; exact hB1, hh⟩
