/-! ALL STATES BEHIND ONE: the reference -/
def EXT (P : Int) (kn : Nat → Int) (br fr : Nat → Bool) : Nat → Int → Int → Prop
  | 0, m, m' => m' = m
  | n + 1, m, m' => EXT P kn br fr n m m' ∨ ∃ o : Nat, o < 10 ∧ br (P.toNat - (n + 1)) = true ∧ fr o = true ∧ bt (kn (P.toNat - (n + 1))) o = true ∧ bt m o = false ∧ EXT P kn br fr n (sq m (P.toNat - (n + 1)) o) m'
theorem drc_add {P : Int} {kn : Nat → Int} {br fr sy : Nat → Bool} {d i o : Nat} {f m : Int} (h : DRC P 20 kn br fr sy d f m) (hf : f ≤ (i : Int)) (hi : (i : Int) < P) (ho : o < 10) (hb : br i = true) (hfr : fr o = true) (hk : bt (kn i) o = true) (hm : bt m o = false) : DRC P 20 kn br fr sy (d + 1) ((i : Int) + 1) (sq m i o) :=
  ⟨f, m, h, i, o, hf, hi, ho, hb, hfr, hk, hm, rfl, by have := pn_le (fun k => sy k || bt (sq m i o) k) 10; omega, rfl⟩
theorem ext_all {P : Int} {kn : Nat → Int} {br fr sy : Nat → Bool} (hP : 0 ≤ P ∧ P ≤ 10) {d : Nat} {f m : Int} (h : DRC P 20 kn br fr sy d f m) : EXT P kn br fr P.toNat 0 m := by
  have key : ∀ i : Nat, (i : Int) ≤ P → ∀ {d : Nat} {f m : Int}, DRC P 20 kn br fr sy d f m → f ≤ (i : Int) → ∀ m', EXT P kn br fr (P.toNat - i) m m' → EXT P kn br fr P.toNat 0 m' := by
    intro i
    induction i with
    | zero =>
      intro _ d f m h hf m' he
      cases d with
      | zero =>
        obtain ⟨_, e⟩ := h
        rw [e] at he; exact he
      | succ d =>
        obtain ⟨f0, m0, h0, j, o, h1, h2, h3, h4, h5, h6, h7, h8, h9, h10⟩ := h
        have := (drc_rg hP h0).2.1
        omega
    | succ i ih =>
      intro hi d f m h hf m' he
      have en : P.toNat - i = (P.toNat - (i + 1)) + 1 := by omega
      by_cases c : f ≤ (i : Int)
      · refine ih (by omega) h c m' ?_
        rw [en]
        exact Or.inl he
      · cases d with
        | zero => obtain ⟨e, _⟩ := h; omega
        | succ d =>
          obtain ⟨f0, m0, h0, j, o, h1, h2, h3, h4, h5, h6, h7, h8, h9, h10⟩ := h
          have ej : j = i := by omega
          subst ej
          refine ih (by omega) h0 (by omega) m' ?_
          rw [en]
          refine Or.inr ⟨o, h3, ?_, h5, ?_, h7, ?_⟩
          · rw [show P.toNat - (P.toNat - (j + 1) + 1) = j by omega]; exact h4
          · rw [show P.toNat - (P.toNat - (j + 1) + 1) = j by omega]; exact h6
          · rw [show P.toNat - (P.toNat - (j + 1) + 1) = j by omega, ← h8]; exact he
  have r := drc_rg hP h
  exact key P.toNat (by omega) h (by omega) m (by rw [Nat.sub_self]; exact rfl)
def VLS (P g se : Int) (h kn : Nat → Int) (x0 x : Int) : Prop := WH x (sof x) P ∧ ∃ n, RCX P g se h kn x0 n x
def COD (P g se : Int) (h kn : Nat → Int) (x0 : Int) (w : Wd) : Prop := (∀ t : Nat, (t : Int) < w 43 40 → Fnd w (w 63 t) t) ∧ ∀ t : Nat, (t : Int) < w 43 40 → ∃ x, VLS P g se h kn x0 x ∧ w 63 t = cdx P x
def JIx (P g se : Int) (h kn : Nat → Int) (x0 x fr e0 : Int) (w : Wd) : Prop := G [] w w ∧ COD P g se h kn x0 w ∧ (0 ≤ e0 ∧ e0 ≤ w 43 41) ∧ (∀ e : Nat, e0 ≤ (e : Int) → (e : Int) < w 43 41 → (0 ≤ w 65 e ∧ w 65 e < w 43 40) ∧ w 66 (w 65 e).toNat = fr ∧ ∃ y, SUX P g se h kn x y ∧ w 63 (w 65 e).toNat = cdx P y) ∧ (∀ t : Nat, (t : Int) < w 43 40 → w 66 t = fr → ∃ e : Nat, e0 ≤ (e : Int) ∧ (e : Int) < w 43 41 ∧ w 65 e = (t : Int)) ∧ ∀ t : Nat, (t : Int) < w 43 40 → w 66 t ≤ fr
def GRR (w u : Wd) : Prop := FRX w u ∧ w 43 40 ≤ u 43 40 ∧ (∀ t : Nat, (t : Int) < w 43 40 → u 63 t = w 63 t) ∧ w 43 41 ≤ u 43 41 ∧ ∀ e : Nat, (e : Int) < w 43 41 → u 65 e = w 65 e
theorem grr_self (w : Wd) : GRR w w := ⟨frx_self w, Int.le_refl _, fun _ _ => rfl, Int.le_refl _, fun _ _ => rfl⟩
theorem grr_tr {w u v : Wd} (h : GRR w u) (h2 : GRR u v) : GRR w v := by
  obtain ⟨a1, a2, a3, a4, a5⟩ := h
  obtain ⟨b1, b2, b3, b4, b5⟩ := h2
  exact ⟨frx_tr a1 b1, by omega, fun t ht => (b3 t (by omega)).trans (a3 t ht), by omega, fun e he => (b5 e (by omega)).trans (a5 e he)⟩
def EDG (e0 : Int) (u : Wd) (c : Int) : Prop := ∃ e : Nat, e0 ≤ (e : Int) ∧ (e : Int) < u 43 41 ∧ (0 ≤ u 65 e ∧ u 65 e < u 43 40) ∧ u 63 (u 65 e).toNat = c
theorem edg_grr {e0 c : Int} {w u : Wd} (h : GRR w u) (he : EDG e0 w c) : EDG e0 u c := by
  obtain ⟨e, h1, h2, h3, h4⟩ := he
  obtain ⟨_, b2, b3, b4, b5⟩ := h
  exact ⟨e, h1, by omega, by rw [b5 e h2]; omega, by rw [b5 e h2, b3 _ (by omega)]; exact h4⟩
def RCx (P g se : Int) (h kn s : Nat → Int) (w : Wd) : Prop := w 43 0 = P ∧ w 43 10 = g ∧ w 43 11 = se ∧ (∀ k : Nat, (k : Int) < P → w 68 k = s k) ∧ (∀ j : Nat, (j : Int) < P → w 45 j = kn j ∧ 0 ≤ kn j ∧ kn j ≤ 1023) ∧ ∃ nm, B10 (w 43 44) nm ∧ ∀ k : Nat, (k : Int) < P → nm k = hB P h k
theorem rct_frx {P g se : Int} {h kn s : Nat → Int} {w u : Wd} (hr : RCx P g se h kn s w) (f : FRX w u) : RCx P g se h kn s u := by
  unfold RCx
  rw [f.2 0 (by decide) (by decide), f.2 10 (by decide) (by decide), f.2 11 (by decide) (by decide), f.2 44 (by decide) (by decide), f.1 68 (by decide) (by decide) (by decide) (by decide) (by decide), f.1 45 (by decide) (by decide) (by decide) (by decide) (by decide)]
  exact hr
/-- one leaf: the STATE behind this WEEK has its edge, or there are too many STATES -/
theorem leaf_pc {P g se : Int} {h kn : Nat → Int} {x0 x fr e0 : Int} {w : Wd} {v3 v4 m : Int} {d : Nat} {f : Int} (hP : 0 ≤ P ∧ P ≤ 10) (hg : 1 ≤ g ∧ g ≤ 3) (h0 : WH x0 (sof x0) P) (hx : VLS P g se h kn x0 x) (hR : RCx P g se h kn (sof x) w) (hJ : JIx P g se h kn x0 x fr e0 w) (hfr : 0 ≤ fr ∧ fr ≤ 2999) (hD : DRC P 20 kn (gs P (sof x)) (fre P (sof x) h) (sty P (sof x) g) d f m) (hm : ior v3 v4 = m) (h3 : v3 = 0 ↔ d = 0) : PC (jcall (f_R_behind v3 v4 w) fun r10 u11 => if r10 = (-2) then some (0, u11) else if r10 = (-1) then some (1, u11) else jgd ((0 : Int) ≤ r10 ∧ r10 < 3000) <| if (u11 66 r10.toNat) = fr then some (1, u11) else jgd ((0 : Int) ≤ r10 ∧ r10 < 3000) <| jlw (st u11 66 r10.toNat fr) fun u12 => jgd ((0 : Int) ≤ (u12 43 41) ∧ (u12 43 41) < 756000) <| jlw (st u12 65 (u12 43 41).toNat r10) fun u13 => jlw (st u13 43 41 (w32 ((u13 43 41) + 1))) fun u14 => some (1, u14)) (fun r u => JIx P g se h kn x0 x fr e0 u ∧ GRR w u ∧ ((r = 0 ∧ MNY P g se h kn x0) ∨ (r = 1 ∧ ((d = 0 ∨ ((pn (fun k => sty P (sof x) g k || bt m k) 10 : Nat) : Int) ≤ se) → EDG e0 u (cdf (nis P (sof x) g (bt m)) P.toNat))))) := by
  obtain ⟨c0, c10, c11, c68, c45, _⟩ := hR
  obtain ⟨hG, ⟨hC1, hC2⟩, he0, hE, hS, hU⟩ := hJ
  have hmr := drc_rg hP hD
  have a40 : (0 : Int) ≤ w 43 40 ∧ w 43 40 ≤ 3000 := hG.1 43 40
  have hin : ∀ k, k < 10 → bt m k = true → (k : Int) < P ∧ sof x k ≠ 4 := fun k hk hb => by
    have hM : MVS P g 20 h kn (sof x) m := ⟨d, f, hD⟩
    exact mvs_ok hP hM k hk hb
  refine pc_call (be_pc hG hP c0 c10 c11 hg.2 c68 hx.1.2.2 hm hmr.1 (fun k hk hb => (hin k hk hb).1)) (fun r10 u11 q => ?_)
  obtain ⟨⟨q1, q2, q3, q4⟩, q5⟩ := q
  obtain ⟨y, _, hy⟩ := after_e (v := m) hx.1 hP hg (b10_self hmr.1) hin w
  have ecy : cdf (nis P (sof x) g (bt m)) P.toNat = cdx P y := (cdx_wh hP hy).symm
  have okk : (v3 = 0 ∨ ((pn (fun k => sty P (sof x) g k || bt m k) 10 : Nat) : Int) ≤ se) ↔ (d = 0 ∨ ((pn (fun k => sty P (sof x) g k || bt m k) 10 : Nat) : Int) ≤ se) := by rw [h3]
  rw [okk] at q5
  have sux : (d = 0 ∨ ((pn (fun k => sty P (sof x) g k || bt m k) 10 : Nat) : Int) ≤ se) → SUX P g se h kn x y := fun ho => ⟨m, ⟨d, f, (drc_se hP).mpr ⟨hD, ho⟩⟩, hy⟩
  have vy : (d = 0 ∨ ((pn (fun k => sty P (sof x) g k || bt m k) 10 : Nat) : Int) ≤ se) → VLS P g se h kn x0 y := fun ho => by
    obtain ⟨n, hn⟩ := hx.2
    exact ⟨wh_sof hy hP.2, n + 1, x, hn, sux ho⟩
  rcases q5 with ⟨n1, e, eu⟩ | ⟨ho, e, eu, e40, nf⟩ | ⟨ho, hr, s1, s2, s3⟩
  · refine pc_ite (fun e2 => by omega) (fun _ => pc_ite (fun _ => pc_some ?_) (fun e2 => absurd e e2))
    rw [eu]
    exact ⟨⟨hG, ⟨hC1, hC2⟩, he0, hE, hS, hU⟩, grr_self w, Or.inr ⟨rfl, fun ho => absurd ho n1⟩⟩
  · refine pc_ite (fun _ => pc_some ?_) (fun e2 => absurd e e2)
    rw [eu]
    refine ⟨⟨hG, ⟨hC1, hC2⟩, he0, hE, hS, hU⟩, grr_self w, Or.inl ⟨rfl, ?_⟩⟩
    have ch : ∀ t : Nat, ∃ z, (t : Int) < w 43 40 → VLS P g se h kn x0 z ∧ w 63 t = cdx P z := fun t => by
      by_cases c : (t : Int) < w 43 40
      · obtain ⟨z, hz⟩ := hC2 t c
        exact ⟨z, fun _ => hz⟩
      · exact ⟨0, fun hh => absurd hh c⟩
    have hF : ∃ F : Nat → Int, ∀ t : Nat, (t : Int) < w 43 40 → VLS P g se h kn x0 (F t) ∧ w 63 t = cdx P (F t) := ⟨fun t => Classical.choose (ch t), fun t => Classical.choose_spec (ch t)⟩
    obtain ⟨F, hF⟩ := hF
    refine ⟨fun i => if i < 3000 then F i else y, fun i hi => ?_, fun i j hi hj e2 => ?_⟩
    · show ∃ t, RCX P g se h kn x0 t (if i < 3000 then F i else y)
      by_cases c : i < 3000
      · rw [if_pos c]; exact (hF i (by omega)).1.2
      · rw [if_neg c]; exact (vy ho).2
    · have e3 : (if i < 3000 then F i else y) = (if j < 3000 then F j else y) := e2
      have new : ∀ t : Nat, (t : Int) < w 43 40 → F t ≠ y := fun t ht ee => by
        apply nf t
        rw [ecy, ← ee, ← (hF t ht).2]
        exact hC1 t ht
      by_cases ci : i < 3000 <;> by_cases cj : j < 3000
      · rw [if_pos ci, if_pos cj] at e3
        have h1 := hC1 i (by omega)
        rw [(hF i (by omega)).2, e3, ← (hF j (by omega)).2] at h1
        exact fnd_one h1 (hC1 j (by omega))
      · rw [if_pos ci, if_neg cj] at e3
        exact absurd e3 (new i (by omega))
      · rw [if_neg ci, if_pos cj] at e3
        exact absurd e3.symm (new j (by omega))
      · omega
  · refine pc_ite (fun e2 => by omega) (fun _ => pc_ite (fun e2 => by omega) (fun _ => pc_gd (fun _ => ?_)))
    have u40 : (0 : Int) ≤ u11 43 40 ∧ u11 43 40 ≤ 3000 := q1.1 43 40
    have u41 : (0 : Int) ≤ u11 43 41 ∧ u11 43 41 ≤ 756000 := q1.1 43 41
    have le40 : w 43 40 ≤ u11 43 40 := by
      rcases s3 with h1 | h1 | h1
      · exfalso; omega
      · rw [h1.2.2.1]; exact Int.le_refl _
      · omega
    have hfn : Fnd u11 (cdf (nis P (sof x) g (bt m)) P.toNat) r10.toNat := by
      rcases s3 with h1 | h1 | h1
      · omega
      · exact h1.2.2.2
      · exact h1.2.2.2
    have rlt : r10 < u11 43 40 := by
      rcases s3 with h1 | h1 | h1
      · omega
      · rw [h1.2.2.1]; exact h1.2.1
      · omega
    have ecr : u11 63 r10.toNat = cdf (nis P (sof x) g (bt m)) P.toNat := by
      obtain ⟨_, _, _, _, e2⟩ := hfn
      exact e2
    have g11 : GRR w u11 := ⟨q2, le40, fun t ht => (s2 t ht).1, by rw [q4]; exact Int.le_refl _, fun e _ => by rw [q3]⟩
    have cod : COD P g se h kn x0 u11 := by
      constructor
      · intro t ht
        by_cases c : (t : Int) < w 43 40
        · rw [(s2 t c).1]; exact s1 _ t (hC1 t c)
        · have et : t = r10.toNat := by
            rcases s3 with h1 | h1 | h1
            · omega
            · rw [h1.2.2.1] at ht; omega
            · omega
          rw [et, ecr]; exact hfn
      · intro t ht
        by_cases c : (t : Int) < w 43 40
        · rw [(s2 t c).1]; exact hC2 t c
        · have et : t = r10.toNat := by
            rcases s3 with h1 | h1 | h1
            · omega
            · rw [h1.2.2.1] at ht; omega
            · omega
          rw [et, ecr, ecy]; exact ⟨y, vy ho, rfl⟩
    have J11 : JIx P g se h kn x0 x fr e0 u11 := by
      refine ⟨q1, cod, by rw [q4]; exact he0, fun e h1 h2 => ?_, fun t ht hs => ?_, fun t ht => ?_⟩
      · rw [q4] at h2
        rw [q3]
        obtain ⟨a1, a2, y', a3, a4⟩ := hE e h1 h2
        have s2' := s2 (w 65 e).toNat (by omega)
        exact ⟨by omega, by rw [s2'.2]; exact a2, y', a3, by rw [s2'.1]; exact a4⟩
      · have c : (t : Int) < w 43 40 := by
          refine Classical.byContradiction fun c => ?_
          rcases s3 with h1 | h1 | h1
          · omega
          · rw [h1.2.2.1] at ht; omega
          · have et : t = r10.toNat := by omega
            rw [et, h1.2.2.1] at hs
            omega
        rw [(s2 t c).2] at hs
        rw [q4, q3]
        exact hS t c hs
      · by_cases c : (t : Int) < w 43 40
        · rw [(s2 t c).2]; exact hU t c
        · rcases s3 with h1 | h1 | h1
          · omega
          · rw [h1.2.2.1] at ht; omega
          · have et : t = r10.toNat := by omega
            rw [et, h1.2.2.1]; omega
    refine pc_ite (fun c => pc_some ⟨J11, g11, Or.inr ⟨rfl, fun _ => ?_⟩⟩) (fun c => ?_)
    · obtain ⟨e, h1, h2, h4⟩ := J11.2.2.2.2.1 r10.toNat (by omega) c
      exact ⟨e, h1, h2, by omega, by rw [h4, show ((r10.toNat : Nat) : Int).toNat = r10.toNat by omega]; exact ecr⟩
    · refine pc_gd (fun _ => pc_lw (fun u12 e12 => pc_gd (fun g12 => pc_lw (fun u13 e13 => pc_lw (fun u14 e14 => pc_some ?_)))))
      have x41 : u12 43 41 = u11 43 41 := by rw [e12, st_c (by decide)]
      rw [x41] at e13 g12
      have y41 : u13 43 41 = u11 43 41 := by rw [e13, st_c (by decide)]; exact x41
      rw [y41, w32_id (by omega)] at e14
      have G12 : G [6699] u11 u12 := g_st (g_self q1) e12 rfl rfl (show (-1 : Int) ≤ fr ∧ fr ≤ 2999 by omega)
      have G13 : G [6599] u12 u13 := g_st (g_self G12) e13 rfl rfl (show (0 : Int) ≤ r10 ∧ r10 ≤ 2999 by omega)
      have G14 : G [4341] u13 u14 := g_st (g_self G13) e14 rfl rfl (show (0 : Int) ≤ u11 43 41 + 1 ∧ u11 43 41 + 1 ≤ 756000 by omega)
      have z41 : u14 43 41 = u11 43 41 + 1 := by rw [e14, st_eq]
      have z40 : u14 43 40 = u11 43 40 := by rw [e14, st_k (by decide), e13, st_c (by decide), e12, st_c (by decide)]
      have z63 : u14 63 = u11 63 := by rw [e14, st_row (by decide), e13, st_row (by decide), e12, st_row (by decide)]
      have z67 : u14 67 = u11 67 := by rw [e14, st_row (by decide), e13, st_row (by decide), e12, st_row (by decide)]
      have z65 : ∀ k, u14 65 k = if k = (u11 43 41).toNat then r10 else u11 65 k := fun k => by
        rw [e14, st_c (by decide), e13]
        by_cases ck : k = (u11 43 41).toNat
        · rw [if_pos ck, ck, st_eq]
        · rw [if_neg ck, st_k ck, e12, st_c (by decide)]
      have z66 : ∀ k, u14 66 k = if k = r10.toNat then fr else u11 66 k := fun k => by
        rw [e14, st_c (by decide), e13, st_c (by decide), e12]
        by_cases ck : k = r10.toNat
        · rw [if_pos ck, ck, st_eq]
        · rw [if_neg ck, st_k ck]
      have f14 : FRX u11 u14 := ⟨fun c a1 a2 a3 a4 a5 => by rw [e14, st_row a1, e13, st_row a3, e12, st_row a4], fun k a1 a2 => by rw [e14, st_k a2, e13, st_c (by decide), e12, st_c (by decide)]⟩
      have g14 : GRR u11 u14 := ⟨f14, by rw [z40]; exact Int.le_refl _, fun t _ => by rw [z63], by omega, fun e he => by rw [z65, if_neg (by omega)]⟩
      refine ⟨⟨g_self G14, ⟨fun t ht => ?_, fun t ht => ?_⟩, by rw [z41, q4]; omega, fun e h1 h2 => ?_, fun t ht hs => ?_, fun t ht => ?_⟩, grr_tr g11 g14, Or.inr ⟨rfl, fun _ => ?_⟩⟩
      · rw [z40] at ht
        rw [z63]
        exact fnd_congr (fun k => by rw [z67]) (fun k => by rw [z63]) (cod.1 t ht)
      · rw [z40] at ht
        rw [z63]; exact cod.2 t ht
      · rw [z41] at h2
        rw [z65, z40, z63]
        by_cases ck : e = (u11 43 41).toNat
        · rw [if_pos ck]
          exact ⟨by omega, by rw [z66, if_pos rfl], y, sux ho, by rw [ecr]; exact ecy⟩
        · rw [if_neg ck]
          obtain ⟨a1, a2, a3⟩ := J11.2.2.2.1 e h1 (by omega)
          refine ⟨a1, ?_, a3⟩
          rw [z66]
          split
          · rfl
          · exact a2
      · rw [z40] at ht
        rw [z66] at hs
        by_cases ck : t = r10.toNat
        · exact ⟨(u11 43 41).toNat, by rw [q4]; omega, by omega, by rw [z65, if_pos rfl]; omega⟩
        · rw [if_neg ck] at hs
          obtain ⟨e, h1, h2, h3'⟩ := J11.2.2.2.2.1 t ht hs
          exact ⟨e, h1, by omega, by rw [z65, if_neg (by omega)]; exact h3'⟩
      · rw [z40] at ht
        rw [z66]
        split
        · exact Int.le_refl _
        · exact J11.2.2.2.2.2 t ht
      · exact ⟨(u11 43 41).toNat, by rw [q4]; omega, by omega, by rw [z65, if_pos rfl, z40]; omega, by rw [z65, if_pos rfl, z63]; exact ecr⟩
/-- all of them -/
theorem gp_pc {P g se : Int} {h kn : Nat → Int} {x0 x fr e0 : Int} (hP : 0 ≤ P ∧ P ≤ 10) (hg : 1 ≤ g ∧ g ≤ 3) (h0 : WH x0 (sof x0) P) (hx : VLS P g se h kn x0 x) (hfr : 0 ≤ fr ∧ fr ≤ 2999) : ∀ (D : Nat) {v2 v3 v4 m : Int} {d : Nat} {f : Int} {w : Wd}, RCx P g se h kn (sof x) w → JIx P g se h kn x0 x fr e0 w → DRC P 20 kn (gs P (sof x)) (fre P (sof x) h) (sty P (sof x) g) d f m → f ≤ v2 → v2 ≤ P → B10 v3 (fun k => bt m k && gs P (sof x) k) → B10 v4 (fun k => bt m k && fre P (sof x) h k) → PC (f_R_goPairs D fr v2 v3 v4 w) (fun r u => JIx P g se h kn x0 x fr e0 u ∧ GRR w u ∧ ((r = 0 ∧ MNY P g se h kn x0) ∨ (r = 1 ∧ ∀ m', EXT P kn (gs P (sof x)) (fre P (sof x) h) (P - v2).toNat m m' → (m' = 0 ∨ ((pn (fun k => sty P (sof x) g k || bt m' k) 10 : Nat) : Int) ≤ se) → EDG e0 u (cdf (nis P (sof x) g (bt m')) P.toNat)))) := by
  intro D
  induction D with
  | zero => intros; exact pc_none
  | succ D ih =>
    intro v2 v3 v4 m d f w hR hJ hD hf2 h2P hB3 hB4
    have hmr := drc_rg hP hD
    have dsj : ∀ k, k < 10 → gs P (sof x) k = true → fre P (sof x) h k = false := gs_fre
    have hm : ior v3 v4 = m := b10_eq (b10_or hB3 hB4) (b10_self hmr.1) (fun k hk => by
      cases hb : bt m k with
      | false => rfl
      | true =>
        rcases (drc_fr hP dsj hD).2.2 k hk hb with ⟨_, e⟩ | e
        · rw [e]; rfl
        · rw [e]; simp)
    have md : ∀ {d : Nat} {f m : Int}, DRC P 20 kn (gs P (sof x)) (fre P (sof x) h) (sty P (sof x) g) d f m → (m = 0 ↔ d = 0) := fun {d f m} hD => by
      have := (drc_pn hP dsj hD).1
      constructor
      · intro e
        rw [e, pn_0 (fun k _ => bt_0 k)] at this; omega
      · intro e
        rw [e] at hD; exact hD.2
    have h3 : v3 = 0 ↔ d = 0 := by
      constructor
      · intro e
        cases d with
        | zero => rfl
        | succ d =>
          rcases (drc_fr hP dsj hD).2.1 with ⟨_, e2⟩ | ⟨k, _, hk, e2, e3⟩
          · exact (md hD).mp e2
          · have this : bt v3 k = (bt m k && gs P (sof x) k) := hB3.2 k hk
            rw [e, bt_0, e2, e3] at this
            cases this
      · intro e
        refine b10_eq hB3 b10_0 (fun k _ => ?_)
        rw [(md hD).mpr e, bt_0]; rfl
    rw [f_R_goPairs]
    unfold f_R_goPairs_b
    rw [hR.1]
    refine pc_ite (fun c => ?_) (fun c => ?_)
    · refine pc_w (leaf_pc hP hg h0 hx hR hJ hfr hD hm h3) (fun r u q => ⟨q.1, q.2.1, ?_⟩)
      rcases q.2.2 with q3 | ⟨q3, q4⟩
      · exact Or.inl q3
      · refine Or.inr ⟨q3, fun m' he ho => ?_⟩
        rw [show (P - v2).toNat = 0 by omega] at he
        have e : m' = m := he
        rw [e] at ho ⊢
        exact q4 (by rw [← md hD]; exact ho)
    · have w1 : w32 (v2 + 1) = v2 + 1 := w32_id (by omega)
      have en : (P - v2).toNat = (P - (v2 + 1)).toNat + 1 := by omega
      have ei : P.toNat - ((P - (v2 + 1)).toNat + 1) = v2.toNat := by omega
      rw [w1]
      refine pc_call (ih hR hJ hD (by omega) (by omega) hB3 hB4) (fun r1 u2 q => ?_)
      obtain ⟨q1, q2, q3⟩ := q
      rcases q3 with ⟨q3, q4⟩ | ⟨q3, q4⟩
      · refine pc_ite (fun _ => pc_some ⟨q1, q2, Or.inl ⟨rfl, q4⟩⟩) (fun e => absurd q3 e)
      · refine pc_ite (fun e => by omega) (fun _ => pc_gd (fun _ => ?_))
        have hR2 := rct_frx hR q2.1
        rw [isG_e, jc_s, hR2.2.2.2.1 v2.toNat (by omega)]
        have egs : gs P (sof x) v2.toNat = gst (sof x v2.toNat) := by
          unfold gs
          rw [show inP P v2.toNat = true from decide_eq_true (by omega)]; rfl
        cases hgs : gst (sof x v2.toNat) with
        | false =>
          refine pc_ite (fun _ => pc_some ⟨q1, q2, Or.inr ⟨rfl, fun m' he ho => ?_⟩⟩) (fun e => absurd rfl e)
          rw [en] at he
          rcases he with he | ⟨o, _, hb, _⟩
          · exact q4 m' he ho
          · rw [ei, egs, hgs] at hb; cases hb
        | true =>
          refine pc_ite (fun e => absurd e (by decide)) (fun _ => ?_)
          obtain ⟨nm, hnm, hnmh⟩ := hR.2.2.2.2.2
          have l109 : ∀ (n : Nat) {v5 : Int} {u : Wd}, 0 ≤ v5 → v5 ≤ P → JIx P g se h kn x0 x fr e0 u → GRR w u → (∀ m', EXT P kn (gs P (sof x)) (fre P (sof x) h) (P - (v2 + 1)).toNat m m' → (m' = 0 ∨ ((pn (fun k => sty P (sof x) g k || bt m' k) 10 : Nat) : Int) ≤ se) → EDG e0 u (cdf (nis P (sof x) g (bt m')) P.toNat)) → (∀ o : Nat, (o : Int) < v5 → fre P (sof x) h o = true → bt (kn v2.toNat) o = true → bt m o = false → ∀ m', EXT P kn (gs P (sof x)) (fre P (sof x) h) (P - (v2 + 1)).toNat (sq m v2.toNat o) m' → (m' = 0 ∨ ((pn (fun k => sty P (sof x) g k || bt m' k) 10 : Nat) : Int) ≤ se) → EDG e0 u (cdf (nis P (sof x) g (bt m')) P.toNat)) → PC (f_R_goPairs_109 (f_R_goPairs D) n fr v2 v3 v4 v5 u) (fun r u => JIx P g se h kn x0 x fr e0 u ∧ GRR w u ∧ ((r = 0 ∧ MNY P g se h kn x0) ∨ (r = 1 ∧ ∀ m', EXT P kn (gs P (sof x)) (fre P (sof x) h) (P - v2).toNat m m' → (m' = 0 ∨ ((pn (fun k => sty P (sof x) g k || bt m' k) 10 : Nat) : Int) ≤ se) → EDG e0 u (cdf (nis P (sof x) g (bt m')) P.toNat)))) := by
            intro n
            induction n with
            | zero => intros; exact pc_none
            | succ n ihn =>
              intro v5 u i5 i5' hJu hgu hA hO
              have hRu := rct_frx hR hgu.1
              rw [f_R_goPairs_109, hRu.1]
              refine pc_ite (fun c5 => pc_some ⟨hJu, hgu, Or.inr ⟨rfl, fun m' he ho => ?_⟩⟩) (fun c5 => pc_gd (fun _ => ?_))
              · rw [en] at he
                rcases he with he | ⟨o, ho10, hb, hfo, hko, hmo, he⟩
                · exact hA m' he ho
                · rw [ei] at hko he
                  have := (fre_sr hfo).1
                  exact hO o (by omega) hfo hko hmo m' he ho
              · have hj := hRu.2.2.2.2.1 v2.toNat (by omega)
                have k5 : (v5.toNat : Int) < P := by omega
                have nm44 : u 43 44 = w 43 44 := hgu.1.2 44 (by decide) (by decide)
                rw [hj.1, nm44]
                have hB := b10_andn (b10_andn (b10_self hj.2) hB4.2) hnm.2
                rw [hasR_10 u hB (by omega), jc_s]
                have nx : ∀ v, JIx P g se h kn x0 x fr e0 v → GRR w v → GRR u v → (fre P (sof x) h v5.toNat = true → bt (kn v2.toNat) v5.toNat = true → bt m v5.toNat = false → ∀ m', EXT P kn (gs P (sof x)) (fre P (sof x) h) (P - (v2 + 1)).toNat (sq m v2.toNat v5.toNat) m' → (m' = 0 ∨ ((pn (fun k => sty P (sof x) g k || bt m' k) 10 : Nat) : Int) ≤ se) → EDG e0 v (cdf (nis P (sof x) g (bt m')) P.toNat)) → PC (f_R_goPairs_182 (f_R_goPairs D) (f_R_goPairs_109 (f_R_goPairs D) n) fr v2 v3 v4 v5 v) (fun r u => JIx P g se h kn x0 x fr e0 u ∧ GRR w u ∧ ((r = 0 ∧ MNY P g se h kn x0) ∨ (r = 1 ∧ ∀ m', EXT P kn (gs P (sof x)) (fre P (sof x) h) (P - v2).toNat m m' → (m' = 0 ∨ ((pn (fun k => sty P (sof x) g k || bt m' k) 10 : Nat) : Int) ≤ se) → EDG e0 u (cdf (nis P (sof x) g (bt m')) P.toNat)))) := fun v hJv hgv huv hnew => by
                  unfold f_R_goPairs_182
                  refine pc_let (fun x7 e7 => ?_)
                  rw [w32_id (by omega)] at e7
                  rw [e7]
                  refine ihn (by omega) (by omega) hJv hgv (fun m' he ho => edg_grr huv (hA m' he ho)) (fun o ho5 a1 a2 a3 m' he ho => ?_)
                  by_cases co : (o : Int) < v5
                  · exact edg_grr huv (hO o co a1 a2 a3 m' he ho)
                  · have eo : o = v5.toNat := by omega
                    rw [eo] at a1 a2 a3 he
                    exact hnew a1 a2 a3 m' he ho
                have fe : fre P (sof x) h v5.toNat = ((sof x v5.toNat == 0) && !nm v5.toNat) := by
                  unfold fre sr
                  rw [show inP P v5.toNat = true from decide_eq_true k5, hnmh v5.toNat k5]; rfl
                cases hc : (bt (kn v2.toNat) v5.toNat && !(bt m v5.toNat && fre P (sof x) h v5.toNat) && !nm v5.toNat) with
                | false =>
                  refine pc_ite (fun _ => nx u hJu hgu (grr_self u) (fun a1 a2 a3 => ?_)) (fun e => absurd rfl e)
                  exfalso
                  rw [fe, Bool.and_eq_true] at a1
                  rw [a2, a3, Bool.false_and, a1.2] at hc
                  cases hc
                | true =>
                  refine pc_ite (fun e => absurd e (by decide)) (fun _ => pc_gd (fun _ => ?_))
                  rw [hRu.2.2.2.1 v5.toNat k5]
                  rw [Bool.and_eq_true, Bool.and_eq_true, Bool.not_eq_true', Bool.not_eq_true'] at hc
                  refine pc_ite (fun z => ?_) (fun z => nx u hJu hgu (grr_self u) (fun a1 _ _ => ?_))
                  · have a1 : fre P (sof x) h v5.toNat = true := by rw [fe, z, hc.2]; rfl
                    have a3 : bt m v5.toNat = false := by
                      have := hc.1.2
                      rw [a1, Bool.and_true] at this
                      exact this
                    have hD' := drc_add hD (i := v2.toNat) (o := v5.toNat) (by omega) (by omega) (by omega) (by rw [egs]; exact hgs) a1 hc.1.1 a3
                    have e2 : v2 = ((v2.toNat : Nat) : Int) := by omega
                    have e5 : v5 = ((v5.toNat : Nat) : Int) := by omega
                    have o2 := or1_b hB3.1 (o := v2.toNat) (by omega)
                    have o5 := or1_b hB4.1 (o := v5.toNat) (by omega)
                    rw [← e2] at o2
                    rw [← e5] at o5
                    rw [w1]
                    refine pc_call (ih hRu hJu hD' (by omega) (by omega) (b10_w o2 (fun k hk => ?_)) (b10_w o5 (fun k hk => ?_))) (fun r8 u9 q8 => ?_)
                    · rw [hB3.2 k hk, sq_t hmr.1 (by omega) (by omega) hk]
                      by_cases c1 : k = v2.toNat
                      · rw [c1, egs, hgs, decide_eq_true rfl]; simp
                      · rw [decide_eq_false c1]
                        by_cases c2 : k = v5.toNat
                        · have : gs P (sof x) k = false := by
                            cases hh : gs P (sof x) k with
                            | false => rfl
                            | true => rw [c2] at hh; rw [dsj v5.toNat (by omega) hh] at a1; cases a1
                          simp [this]
                        · rw [decide_eq_false c2]; simp
                    · rw [hB4.2 k hk, sq_t hmr.1 (by omega) (by omega) hk]
                      by_cases c2 : k = v5.toNat
                      · rw [c2, a1, decide_eq_true rfl]; simp
                      · rw [decide_eq_false c2]
                        by_cases c1 : k = v2.toNat
                        · have : fre P (sof x) h k = false := by rw [c1]; exact dsj v2.toNat (by omega) (by rw [egs]; exact hgs)
                          simp [this]
                        · rw [decide_eq_false c1]; simp
                    · obtain ⟨p1, p2, p3⟩ := q8
                      rcases p3 with ⟨p3, p4⟩ | ⟨p3, p4⟩
                      · refine pc_ite (fun _ => pc_some ⟨p1, grr_tr hgu p2, Or.inl ⟨rfl, p4⟩⟩) (fun e => absurd p3 e)
                      · refine pc_ite (fun e => by omega) (fun _ => nx u9 p1 (grr_tr hgu p2) p2 (fun _ _ _ m' he ho => p4 m' he ho))
                  · rw [fe, beq_eq_false_iff_ne.mpr z] at a1
                    cases a1
          exact l109 FU (by decide) hP.1 q1 q2 q4 (fun o ho => by omega)
