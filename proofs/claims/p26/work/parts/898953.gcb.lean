/-! CHEAP: the least paid, so many WEEKS on -/
def LCQ (P g se : Int) (h kn pr : Nat → Int) (x : Int) (n : Nat) (r : Int) : Prop := (r = 1000000 ∧ ∀ y, RCX P g se h kn x n y → ¬ sbg P y) ∨ ((∃ y, RCX P g se h kn x n y ∧ sbg P y ∧ csf P pr x y = r) ∧ ∀ y, RCX P g se h kn x n y → sbg P y → r ≤ csf P pr x y)
theorem lcq_rg {P g se : Int} {h kn pr : Nat → Int} {x : Int} {n : Nat} {r : Int} (hP : 0 ≤ P ∧ P ≤ 10) (hpr : ∀ k, 0 ≤ pr k ∧ pr k ≤ 9) (hl : LCQ P g se h kn pr x n r) : 0 ≤ r ∧ r ≤ 1000000 := by
  rcases hl with ⟨e, _⟩ | ⟨⟨y, _, _, e⟩, _⟩
  · omega
  · have := csf_rg (P := P) (pr := pr) hP hpr x y
    omega
theorem csf_first {P g se : Int} {h kn : Nat → Int} {x z y : Int} {pr : Nat → Int} {n : Nat} (hP : 0 ≤ P ∧ P ≤ 10) (hs : SUX P g se h kn x z) (hn : RCX P g se h kn z n y) : csf P pr x y = csf P pr x z + csf P pr z y := by
  refine cst_add (fun k hk => ?_)
  have a : sr P (sof y) k = true → sr P (sof z) k = true := fun e => sr_path hP hn e
  have b : sr P (sof z) k = true → sr P (sof x) k = true := fun e => sr_step hP hs e
  cases h1 : sr P (sof x) k <;> cases h2 : sr P (sof z) k <;> cases h3 : sr P (sof y) k <;> simp [h1, h2, h3] at a b ⊢
theorem chp_pc {P g se : Int} {h kn : Nat → Int} {x0 : Int} {X pr : Nat → Int} {w b : Wd} {v1 : Int} (hP : 0 ≤ P ∧ P ≤ 10) (hg : 1 ≤ g ∧ g ≤ 3) (h0 : WH x0 (sof x0) P) (c0 : w 43 0 = P) (h44 : w 44 = pr) (hpr : ∀ k, 0 ≤ pr k ∧ pr k ≤ 9) (hr : RLI P g se h kn x0 w) (hx : XOK P g se h kn x0 X w) (hv : 0 ≤ v1 ∧ v1 < 45) (q1 : ∀ c, c ≠ 72 → c ≠ 73 → b c = w c) (ho : ODR P X (w 43 40) b) : PC (f_R_cheap_40 FU v1 0 b) (fun r _ => ∃ m, LCQ P g se h kn pr x0 v1.toNat m ∧ r = if m = 1000000 then -2 else m) := by
  obtain ⟨o1, o2, o3, o4⟩ := ho
  have h3000 := hr.1
  have b43 : b 43 = w 43 := q1 43 (by decide) (by decide)
  have b44 : b 44 = w 44 := q1 44 (by decide) (by decide)
  have b63 : b 63 = w 63 := q1 63 (by decide) (by decide)
  have b64 : b 64 = w 64 := q1 64 (by decide) (by decide)
  have b65 : b 65 = w 65 := q1 65 (by decide) (by decide)
  have hvz : ∀ x z, VLS P g se h kn x0 x → SUX P g se h kn x z → VLS P g se h kn x0 z := fun x z hv hs => by
    obtain ⟨n, hn⟩ := hv.2
    have hs' := hs
    obtain ⟨m, _, hw⟩ := hs
    exact ⟨wh_sof hw hP.2, n + 1, x, hn, hs'⟩
  have pcT : ∀ o : Option (Int × Wd), PC o (fun _ _ => True) := fun _ _ _ _ => trivial
  -- all that follows answers this
  have l229 : ∀ (n : Nat) {x8 v3 : Int} {v : Wd}, PC (f_R_cheap_229 n v1 x8 v3 v) (fun r _ => r = x8) := by
    intro n
    induction n with
    | zero => intros; exact pc_none
    | succ n ih =>
      intro x8 v3 v
      rw [f_R_cheap_229]
      unfold f_R_cheap_278 f_R_cheap_279
      refine pc_ite (fun _ => pc_call (pcT _) (fun _ _ _ => pc_some rfl)) (fun _ => pc_call (pcT _) (fun _ _ _ => pc_ite (fun _ => pc_gd (fun _ => pc_lw (fun _ _ => pc_let (fun _ _ => ih)))) (fun _ => pc_gd (fun _ => pc_call (pcT _) (fun _ _ _ => pc_ite (fun _ => pc_gd (fun _ => pc_lw (fun _ _ => pc_let (fun _ _ => ih)))) (fun _ => pc_gd (fun _ => pc_lw (fun _ _ => pc_let (fun _ _ => ih)))))))))
  have l40 : ∀ (n : Nat) {v2 : Int} {u : Wd}, 0 ≤ v2 → v2 ≤ w 43 40 → (∀ c, c ≠ 77 → u c = b c) → (∀ j : Nat, (j : Int) < v2 → ∀ q : Nat, (q : Int) ≤ v1 → LCQ P g se h kn pr (X (b 72 j).toNat) q (u 77 (45 * (b 72 j).toNat + q))) → PC (f_R_cheap_40 n v1 v2 u) (fun r _ => ∃ m, LCQ P g se h kn pr x0 v1.toNat m ∧ r = if m = 1000000 then -2 else m) := by
    intro n
    induction n with
    | zero => intros; exact pc_none
    | succ n ih =>
      intro v2 u i2 i2' hu hL
      rw [f_R_cheap_40, hu 43 (by decide), b43]
      refine pc_ite (fun c => ?_) (fun c => ?_)
      · obtain ⟨k, hk, e⟩ := o3 0 (by omega)
        have hl := hL k (by omega) v1.toNat (by omega)
        have e0 : (b 72 k).toNat = 0 := by omega
        rw [e0, (xok_0 hP h0 hr hx (by omega)).mpr rfl, show 45 * 0 + v1.toNat = v1.toNat by omega] at hl
        refine pc_gd (fun _ => pc_let (fun x8 e8 => ?_))
        rw [← e8] at hl
        refine pc_ite (fun c8 => pc_some ⟨x8, hl, by rw [if_pos c8]⟩) (fun c8 => pc_lw (fun u9 _ => pc_ite (fun _ => pc_some ⟨x8, hl, by rw [if_neg c8]⟩) (fun _ => pc_call (pcT _) (fun _ _ _ => pc_w (l229 FU) (fun r _ e => ⟨x8, hl, by rw [e, if_neg c8]⟩)))))
      · refine pc_gd (fun _ => pc_let (fun x3 e3 => ?_))
        rw [hu 72 (by decide)] at e3
        obtain ⟨s1, s2⟩ := o1 v2.toNat (by omega)
        rw [← e3] at s1 s2
        obtain ⟨hxv, hcv⟩ := hx.1 x3.toNat (by omega)
        obtain ⟨⟨hlo, hhi⟩, hE⟩ := hr.2.2.2.2.2 x3.toNat (by omega)
        obtain ⟨hE1, hE2⟩ := hE (X x3.toNat) hxv hcv
        have ahead : ∀ j : Nat, (j : Int) < v2 → (b 72 j).toNat ≠ x3.toNat := fun j hj e => by
          have r1 := (o1 j (by omega)).1
          have := o2 j v2.toNat (by omega) (by omega) (by omega)
          omega
        have w2 : w32 (v2 + 1) = v2 + 1 := w32_id (by omega)
        have w3 : w32 (x3 + 1) = x3 + 1 := w32_id (by omega)
        have l58 : ∀ (m : Nat) {v4 : Int} {v : Wd}, 0 ≤ v4 → v4 ≤ v1 + 1 → (∀ c, c ≠ 77 → v c = b c) → (∀ j : Nat, (j : Int) < v2 → ∀ q : Nat, (q : Int) ≤ v1 → LCQ P g se h kn pr (X (b 72 j).toNat) q (v 77 (45 * (b 72 j).toNat + q))) → (∀ q : Nat, (q : Int) < v4 → LCQ P g se h kn pr (X x3.toNat) q (v 77 (45 * x3.toNat + q))) → PC (f_R_cheap_58 (f_R_cheap_40 n) m v1 v2 x3 v4 v) (fun r _ => ∃ m, LCQ P g se h kn pr x0 v1.toNat m ∧ r = if m = 1000000 then -2 else m) := by
          intro m
          induction m with
          | zero => intros; exact pc_none
          | succ m ihm =>
            intro v4 v i4 i4' hv' hA hM
            rw [f_R_cheap_58]
            refine pc_ite (fun c4 => pc_let (fun x21 e21 => ?_)) (fun c4 => ?_)
            · rw [w2] at e21
              rw [e21]
              refine ih (by omega) (by omega) hv' (fun j hj => ?_)
              by_cases cj : (j : Int) < v2
              · exact hA j cj
              · rw [show j = v2.toNat by omega, ← e3]
                exact fun q hq => hM q (by omega)
            · -- what is written
              have w163 : ∀ {v5 : Int}, LCQ P g se h kn pr (X x3.toNat) v4.toNat v5 → PC (f_R_cheap_163 (f_R_cheap_40 n) (f_R_cheap_58 (f_R_cheap_40 n) m) v1 v2 x3 v4 v5 v) (fun r _ => ∃ m, LCQ P g se h kn pr x0 v1.toNat m ∧ r = if m = 1000000 then -2 else m) := fun {v5} hl => by
                unfold f_R_cheap_163
                have hl5 := lcq_rg hP hpr hl
                rw [w32_id (show -2147483648 ≤ 45 * x3 ∧ 45 * x3 ≤ 2147483647 by omega), w32_id (show -2147483648 ≤ 45 * x3 + v4 ∧ 45 * x3 + v4 ≤ 2147483647 by omega), w32_id (show -2147483648 ≤ v4 + 1 ∧ v4 + 1 ≤ 2147483647 by omega)]
                have im : imin v5 1000000 = v5 := by
                  rcases imin_sp v5 1000000 with ⟨a, e⟩ | ⟨_, e⟩
                  · omega
                  · exact e
                rw [im]
                refine pc_gd (fun _ => pc_lw (fun u24 e24 => pc_let (fun x25 e25 => ?_)))
                have ix : (45 * x3 + v4).toNat = 45 * x3.toNat + v4.toNat := by omega
                rw [ix] at e24
                have k24 : ∀ k, k ≠ 45 * x3.toNat + v4.toNat → u24 77 k = v 77 k := fun k hk => by rw [e24, st_k hk]
                rw [e25]
                refine ihm (by omega) (by omega) (fun c hc => by rw [e24, st_row hc, hv' c hc]) (fun j hj q hq => ?_) (fun q hq => ?_)
                · have := ahead j hj
                  rw [k24 _ (by omega)]
                  exact hA j hj q hq
                · by_cases cq : (q : Int) < v4
                  · rw [k24 _ (by omega)]; exact hM q cq
                  · rw [show q = v4.toNat by omega, e24, st_eq]; exact hl
              refine pc_call (gx_pc hP hx (by rw [hv' 43 (by decide), b43]; exact c0) (by rw [hv' 63 (by decide), b63]) ⟨s1, s2⟩) (fun r22 u23 z => ?_)
              rw [z.1]
              have sb := sbg_0 z.2
              refine pc_ite (fun cz => w163 (Or.inl ⟨rfl, fun y hy hs => ?_⟩)) (fun cz => ?_)
              · exact absurd cz (sb.mpr (sbg_back hP hxv.1 hy hs))
              · have hsb := sb.mp cz
                -- what stands at the end of an edge
                have tgt : ∀ e : Nat, w 64 x3.toNat ≤ (e : Int) → (e : Int) < w 64 (x3.toNat + 1) → (0 ≤ w 65 e ∧ w 65 e < w 43 40) ∧ SUX P g se h kn (X x3.toNat) (X (w 65 e).toNat) ∧ ∀ q : Nat, (q : Int) ≤ v1 → LCQ P g se h kn pr (X (w 65 e).toNat) q (v 77 (45 * (w 65 e).toNat + q)) := fun e h1 h2 => by
                  obtain ⟨g4, y, g5, g6⟩ := hE1 e h1 h2
                  have hy := hx.1 (w 65 e).toNat (by omega)
                  have eX : X (w 65 e).toNat = y := cdx_inj hP hy.1.1 (hvz _ _ hxv g5).1 (by rw [← hy.2, g6])
                  have hl := ls_gs hP hg hxv g5 hsb
                  obtain ⟨j, hj, ej⟩ := o3 (w 65 e).toNat (by omega)
                  have hjv : (j : Int) < v2 := by
                    refine Classical.byContradiction fun hh => ?_
                    have le : Lf P X x3.toNat ≤ Lf P X (w 65 e).toNat := by
                      by_cases cj : j = v2.toNat
                      · rw [cj, ← e3] at ej
                        have : x3.toNat = (w 65 e).toNat := by omega
                        rw [this]; exact Int.le_refl _
                      · have := o4 v2.toNat j (by omega) hj
                        rw [← e3, ej, show (((w 65 e).toNat : Nat) : Int).toNat = (w 65 e).toNat by omega] at this
                        exact this
                    unfold Lf at le
                    rw [eX] at le
                    omega
                  refine ⟨g4, by rw [eX]; exact g5, fun q hq => ?_⟩
                  have := hA j hjv q hq
                  rw [ej, show (((w 65 e).toNat : Nat) : Int).toNat = (w 65 e).toNat by omega] at this
                  exact this
                -- one edge after the other
                have l99 : ∀ (k : Nat) {v5 v6 : Int}, w 64 x3.toNat ≤ v6 → v6 ≤ w 64 (x3.toNat + 1) → (v4 = 0 → v5 = 0) → (0 < v4 → (0 ≤ v5 ∧ v5 ≤ 1000000) ∧ (v5 = 1000000 ∨ ∃ y, RCX P g se h kn (X x3.toNat) v4.toNat y ∧ sbg P y ∧ csf P pr (X x3.toNat) y = v5) ∧ ∀ e : Nat, w 64 x3.toNat ≤ (e : Int) → (e : Int) < v6 → v5 ≤ v 77 (45 * (w 65 e).toNat + (v4.toNat - 1)) + csf P pr (X x3.toNat) (X (w 65 e).toNat)) → PC (f_R_cheap_99 (f_R_cheap_40 n) (f_R_cheap_58 (f_R_cheap_40 n) m) k v1 v2 x3 v4 v5 v6 v) (fun r _ => ∃ m, LCQ P g se h kn pr x0 v1.toNat m ∧ r = if m = 1000000 then -2 else m) := by
                  intro k
                  induction k with
                  | zero => intros; exact pc_none
                  | succ k ihk =>
                    intro v5 v6 i6 i6' hz hn
                    have zero : v4 = 0 → LCQ P g se h kn pr (X x3.toNat) v4.toNat v5 := fun e4 => by
                      rw [e4, hz e4]
                      refine Or.inr ⟨⟨X x3.toNat, rfl, hsb, csf_self P pr _⟩, fun y hy _ => ?_⟩
                      exact (csf_rg (P := P) (pr := pr) hP hpr (X x3.toNat) y).1
                    rw [f_R_cheap_99, w3, hv' 64 (by decide), b64, show (x3 + 1).toNat = x3.toNat + 1 by omega]
                    refine pc_gd (fun _ => pc_ite (fun c6 => ?_) (fun c6 => pc_ite (fun c40 => w163 (zero (by omega))) (fun c40 => ?_)))
                    · by_cases c40 : v4 = 0
                      · exact w163 (zero c40)
                      · obtain ⟨n1, n2, n3⟩ := hn (by omega)
                        have hmin : ∀ y, RCX P g se h kn (X x3.toNat) v4.toNat y → sbg P y → v5 ≤ csf P pr (X x3.toNat) y := fun y hy hs => by
                          rw [show v4.toNat = (v4.toNat - 1) + 1 by omega] at hy
                          obtain ⟨z', hz1, hz2⟩ := rcx_first.mp hy
                          obtain ⟨e, g1, g2, g3, g4⟩ := hE2 z' hz1
                          have ha := hx.1 (w 65 e).toNat (by omega)
                          have eX : X (w 65 e).toNat = z' := cdx_inj hP ha.1.1 (hvz _ _ hxv hz1).1 (by rw [← ha.2, g4])
                          have t3 := (tgt e g1 g2).2.2 (v4.toNat - 1) (by omega)
                          have n4 := n3 e g1 (by omega)
                          rw [eX] at t3 n4
                          rcases t3 with ⟨_, t4⟩ | ⟨_, t4⟩
                          · exact absurd hs (t4 y hz2)
                          · have := t4 y hz2 hs
                            have := csf_first (pr := pr) hP hz1 hz2
                            omega
                        refine w163 ?_
                        by_cases c5 : v5 = 1000000
                        · refine Or.inl ⟨c5, fun y hy hs => ?_⟩
                          have a1 := hmin y hy hs
                          have a2 := csf_rg (P := P) (pr := pr) hP hpr (X x3.toNat) y
                          omega
                        · rcases n2 with e | hy
                          · exact absurd e c5
                          · exact Or.inr ⟨hy, hmin⟩
                    · obtain ⟨n1, n2, n3⟩ := hn (by omega)
                      obtain ⟨g4, t2, t3⟩ := tgt v6.toNat (by omega) (by omega)
                      have t4 := t3 (v4.toNat - 1) (by omega)
                      have t5 := lcq_rg hP hpr t4
                      have e65 : w 65 v6.toNat = (((w 65 v6.toNat).toNat : Nat) : Int) := by omega
                      have e3v : x3 = ((x3.toNat : Nat) : Int) := by omega
                      have hy := hx.1 (w 65 v6.toNat).toNat (by omega)
                      have c2' := csf_rg (P := P) (pr := pr) hP hpr (X x3.toNat) (X (w 65 v6.toNat).toNat)
                      have cp := cost_pc (P := P) (s := sof (X x3.toNat)) (s' := sof (X (w 65 v6.toNat).toNat)) (w := v) (t := x3.toNat) (t' := (w 65 v6.toNat).toNat) hP (by rw [hv' 43 (by decide), b43]; exact c0) (by rw [hv' 44 (by decide), b44, h44]; exact hpr) hxv.1.2.2 hy.1.1.2.2 (by rw [hv' 63 (by decide), b63]; exact hcv) (by rw [hv' 63 (by decide), b63]; exact hy.2)
                      rw [← e3v, ← e65, hv' 44 (by decide), b44, h44] at cp
                      rw [hv' 65 (by decide), b65]
                      refine pc_gd (fun _ => pc_gd (fun _ => pc_gd (fun _ => pc_call cp (fun r27 u28 q => ?_))))
                      have er : r27 = csf P pr (X x3.toNat) (X (w 65 v6.toNat).toNat) := q.2
                      rw [q.1, er, w32_id (show -2147483648 ≤ 45 * w 65 v6.toNat ∧ 45 * w 65 v6.toNat ≤ 2147483647 by omega), w32_id (show -2147483648 ≤ 45 * w 65 v6.toNat + v4 ∧ 45 * w 65 v6.toNat + v4 ≤ 2147483647 by omega), w32_id (show -2147483648 ≤ 45 * w 65 v6.toNat + v4 - 1 ∧ 45 * w 65 v6.toNat + v4 - 1 ≤ 2147483647 by omega)]
                      rw [show (45 * w 65 v6.toNat + v4 - 1).toNat = 45 * (w 65 v6.toNat).toNat + (v4.toNat - 1) by omega]
                      have b41 : v6 ≤ 2147483646 := by omega
                      rw [w32_id (by omega), w32_id (by omega)]
                      refine pc_let (fun x29 e29 => pc_let (fun x30 e30 => ?_))
                      rw [e30]
                      have im := imin_sp v5 (v 77 (45 * (w 65 v6.toNat).toNat + (v4.toNat - 1)) + csf P pr (X x3.toNat) (X (w 65 v6.toNat).toNat))
                      refine ihk (by omega) (by omega) (fun e => by omega) (fun _ => ⟨?_, ?_, fun e h1 h2 => ?_⟩)
                      · rcases im with ⟨a1, a2⟩ | ⟨a1, a2⟩ <;> rw [e29, a2] <;> omega
                      · rcases im with ⟨a1, a2⟩ | ⟨a1, a2⟩
                        · rw [e29, a2]
                          rcases t4 with ⟨e, _⟩ | ⟨⟨y, y1, y2, y3⟩, _⟩
                          · omega
                          · refine Or.inr ⟨y, ?_, y2, ?_⟩
                            · rw [show v4.toNat = (v4.toNat - 1) + 1 by omega]
                              exact rcx_first.mpr ⟨_, t2, y1⟩
                            · rw [csf_first (pr := pr) hP t2 y1, y3]; omega
                        · rw [e29, a2]; exact n2
                      · have le : x29 ≤ v5 ∧ x29 ≤ v 77 (45 * (w 65 v6.toNat).toNat + (v4.toNat - 1)) + csf P pr (X x3.toNat) (X (w 65 v6.toNat).toNat) := by
                          rcases im with ⟨a1, a2⟩ | ⟨a1, a2⟩ <;> rw [e29, a2] <;> omega
                        by_cases ce : (e : Int) < v6
                        · have := n3 e h1 ce; omega
                        · rw [show e = v6.toNat by omega]; exact le.2
                unfold f_R_cheap_89
                rw [hv' 64 (by decide), b64]
                refine pc_ite (fun c40 => pc_gd (fun _ => pc_let (fun x26 e26 => ?_))) (fun c40 => pc_gd (fun _ => pc_let (fun x26 e26 => ?_)))
                · rw [e26]
                  exact l99 FU (Int.le_refl _) hhi (fun _ => rfl) (fun hh => by omega)
                · rw [e26]
                  exact l99 FU (Int.le_refl _) hhi (fun hh => absurd hh c40) (fun _ => ⟨by decide, Or.inl rfl, fun e h1 h2 => by omega⟩)
        exact l58 FU (by decide) (by omega) hu hL (fun q hq => by omega)
  exact l40 FU (by decide) (by omega) (fun c hc => rfl) (fun j hj => by omega)
theorem er_cheap {a w : Wd} {P g se : Int} {h kn : Nat → Int} {x0 n v1 : Int} (hp : PRM a w P g se h kn x0) (hG : G [] a a) (hs : SCR n w) (hn : n ≤ 2600) (hk : w 28 9 ≠ 0 → KPT P g se h kn x0 w) : PC (f_E_cheap v1 w) (fun r _ => PC (f_R_cheap v1 a) (fun r' _ => r = r')) := by
  obtain ⟨hP, hg, h0, hw, ⟨c0, _⟩, c47, _, _, c44, c6⟩ := id hp
  unfold f_E_cheap f_R_cheap
  rw [isw_e, jc_s]
  have pcT : ∀ o : Option (Int × Wd), PC o (fun _ _ => True) := fun _ _ _ _ => trivial
  by_cases hv : 0 ≤ v1 ∧ v1 ≤ 60
  · rw [if_pos hv]
    refine pc_ite (fun e => absurd e (by decide)) (fun _ => ?_)
    refine pc_w (two_run (KR := fun u5 => jcall (f_R_findOrder u5) fun r6 u7 => if v1 < 45 then f_R_cheap_40 FU v1 0 u7 else some ((-2), u7)) (A := fun r => ∃ m, MinQ (fun x => VLS P g se h kn x0 x ∧ RCX P g se h kn x0 v1.toNat x ∧ SUB P (fun _ => false) x) (csf P (a 44) x0) (-1) m ∧ r = if m = -1 then -2 else m) (B := fun r => ∃ m, LCQ P g se h kn (a 44) x0 v1.toNat m ∧ r = if m = 1000000 then -2 else m) hp hG hs hn hk (fun u hu _ hc => ?_) (fun y u ey hf hg' hr => ?_) (fun r r' hA hB => ?_)) (fun r _ q => pc_lw (fun y ey => pc_call (iswR_e v1 y) (fun r2 u3 z => ?_)))
    · obtain ⟨u5, u6, u7⟩ := run_5 hu
      refine pc_call (clp_pc (pr := a 44) hP h0 hc (by rw [u5]; exact hw.1) (by rw [u5]; exact hw.2.2.2.2.1) (fun j hj => by rw [u6]; exact ⟨c6 j hj, c44 j⟩) c44 hv b10_0) (fun r5 u8 z => ?_)
      refine pc_ite (fun e => pc_some ⟨r5, z.2, by rw [if_pos e]⟩) (fun e => pc_ite (fun _ => ?_) (fun _ => ?_))
      · exact pc_call (pcT _) (fun _ _ _ => pc_some ⟨r5, z.2, by rw [if_neg e]⟩)
      · exact pc_call (pcT _) (fun _ _ _ => pc_call (pcT _) (fun _ _ _ => pc_some ⟨r5, z.2, by rw [if_neg e]⟩))
    · have u0 : u 43 0 = P := by rw [hf.2 0 (by decide) (by decide) (by decide), ey, st_k (by decide)]; exact c0
      have u44 : u 44 = a 44 := by rw [hf.1 44 (by decide) (by decide) (by decide) (by decide) (by decide) (by decide) (by decide), ey, st_row (by decide)]
      obtain ⟨X, hx⟩ := rli_x hP hr
      refine pc_call (fo_pc hP u0 hr.1 hx) (fun r6 b q => ?_)
      refine pc_ite (fun c => chp_pc hP hg h0 u0 u44 c44 hr hx ⟨hv.1, c⟩ q.1 q.2) (fun c => pc_some ⟨1000000, Or.inl ⟨rfl, fun y hy hs => ?_⟩, rfl⟩)
      have := wk_29 hP hg h0 hy hs
      omega
    · obtain ⟨m, m1, m2⟩ := hA
      obtain ⟨m', m1', m2'⟩ := hB
      have vls : ∀ y, RCX P g se h kn x0 v1.toNat y → VLS P g se h kn x0 y := fun y hy => ⟨rx_wh hP h0 hy, _, hy⟩
      rcases m1 with ⟨e, hno⟩ | ⟨⟨x, ⟨x1, x2, x3⟩, x4⟩, hmin⟩
      · rcases m1' with ⟨e', _⟩ | ⟨⟨y, y1, y2, _⟩, _⟩
        · rw [m2, m2', if_pos e, if_pos e']
        · exact absurd ⟨vls y y1, y1, y2, fun q _ hF => by cases hF⟩ (hno y)
      · have r1 := csf_rg (P := P) (pr := a 44) hP c44 x0 x
        rcases m1' with ⟨e', hno⟩ | ⟨⟨y, y1, y2, y4⟩, hmin'⟩
        · exact absurd x3.1 (hno x x2)
        · have r2 := csf_rg (P := P) (pr := a 44) hP c44 x0 y
          have a1 := hmin' x x2 x3.1
          have a2 := hmin y ⟨vls y y1, y1, y2, fun q _ hF => by cases hF⟩
          rw [m2, m2', if_neg (by omega), if_neg (by omega)]
          omega
    · rw [z.1, z.2, if_pos hv]
      refine pc_ite (fun e => absurd e (by decide)) (fun _ => q y ey)
  · rw [if_neg hv]
    refine pc_ite (fun _ => pc_some (pc_lw (fun y ey => pc_call (iswR_e v1 y) (fun r2 u3 z => ?_)))) (fun e => absurd rfl e)
    rw [z.1, z.2, if_neg hv]
    exact pc_ite (fun _ => pc_some rfl) (fun e => absurd rfl e)
