/-! WEEKS, BY THE REFERENCE -/
theorem sr_step {P g se : Int} {h kn : Nat → Int} {y x : Int} (hP : 0 ≤ P ∧ P ≤ 10) (hs : SUX P g se h kn y x) {k : Nat} (hk : sr P (sof x) k = true) : sr P (sof y) k = true := by
  obtain ⟨m, _, hw⟩ := hs
  unfold sr at *
  rw [Bool.and_eq_true, beq_iff_eq] at *
  refine ⟨hk.1, ?_⟩
  have hkP := inP_t hk.1
  have e := hk.2
  rw [sof_e hw hP.2 hkP] at e
  unfold nis at e
  by_cases c : bt m k = true
  · rw [if_pos c] at e; cases e
  · rw [if_neg c] at e
    by_cases c2 : gst (sof y k) = true
    · rw [if_pos c2] at e
      have := of_decide_eq_true c2
      split at e <;> omega
    · rw [if_neg c2] at e; exact e
theorem sr_path {P g se : Int} {h kn : Nat → Int} {x0 : Int} (hP : 0 ≤ P ∧ P ≤ 10) : ∀ {n : Nat} {x : Int}, RCX P g se h kn x0 n x → ∀ {k : Nat}, sr P (sof x) k = true → sr P (sof x0) k = true := by
  intro n
  induction n with
  | zero => intro x e k hk; rw [show x = x0 from e] at hk; exact hk
  | succ n ih =>
    rintro x ⟨y, hy, hs⟩ k hk
    exact ih hy (sr_step hP hs hk)
def csf (P : Int) (pr : Nat → Int) (x y : Int) : Int := cst pr (fun k => sr P (sof x) k && !sr P (sof y) k) P.toNat
theorem csf_rg {P : Int} {pr : Nat → Int} (hP : 0 ≤ P ∧ P ≤ 10) (hpr : ∀ k, 0 ≤ pr k ∧ pr k ≤ 9) (x y : Int) : 0 ≤ csf P pr x y ∧ csf P pr x y ≤ 90 := by
  have := cst_rg (pr := pr) (f := fun k => sr P (sof x) k && !sr P (sof y) k) (n := P.toNat) (fun k _ => hpr k)
  unfold csf
  omega
theorem csf_self (P : Int) (pr : Nat → Int) (x : Int) : csf P pr x x = 0 := by
  unfold csf
  have : ∀ n : Nat, cst pr (fun k => sr P (sof x) k && !sr P (sof x) k) n = 0 := by
    intro n
    induction n with
    | zero => rfl
    | succ n ih =>
      rw [cst, ih]
      cases sr P (sof x) n <;> rfl
  exact this _
theorem csf_add {P g se : Int} {h kn : Nat → Int} {x0 y x : Int} {pr : Nat → Int} {n : Nat} (hP : 0 ≤ P ∧ P ≤ 10) (hy : RCX P g se h kn x0 n y) (hs : SUX P g se h kn y x) : csf P pr x0 x = csf P pr x0 y + csf P pr y x := by
  refine cst_add (fun k hk => ?_)
  have a : sr P (sof x) k = true → sr P (sof y) k = true := fun e => sr_step hP hs e
  have b : sr P (sof y) k = true → sr P (sof x0) k = true := fun e => sr_path hP hy e
  cases h1 : sr P (sof x0) k <;> cases h2 : sr P (sof y) k <;> cases h3 : sr P (sof x) k <;> simp [h1, h2, h3] at a b ⊢
theorem rli_eq {P g se : Int} {h kn : Nat → Int} {x0 : Int} {w u : Wd} (hr : RLI P g se h kn x0 w) (h40 : u 43 40 = w 43 40) (h63 : u 63 = w 63) (h64 : u 64 = w 64) (h65 : u 65 = w 65) : RLI P g se h kn x0 u := by
  unfold RLI EDS
  rw [h40, h63, h64, h65]
  exact hr
def XOK (P g se : Int) (h kn : Nat → Int) (x0 : Int) (X : Nat → Int) (w : Wd) : Prop := (∀ t : Nat, (t : Int) < w 43 40 → VLS P g se h kn x0 (X t) ∧ w 63 t = cdx P (X t)) ∧ ∀ x, VLS P g se h kn x0 x → ∃ t : Nat, (t : Int) < w 43 40 ∧ X t = x
theorem xok_eq {P g se : Int} {h kn : Nat → Int} {x0 : Int} {X : Nat → Int} {w u : Wd} (hx : XOK P g se h kn x0 X w) (h40 : u 43 40 = w 43 40) (h63 : u 63 = w 63) : XOK P g se h kn x0 X u := by
  unfold XOK
  rw [h40, h63]; exact hx
theorem xok_0 {P g se : Int} {h kn : Nat → Int} {x0 : Int} {X : Nat → Int} {w : Wd} (hP : 0 ≤ P ∧ P ≤ 10) (h0 : WH x0 (sof x0) P) (hr : RLI P g se h kn x0 w) (hx : XOK P g se h kn x0 X w) {t : Nat} (ht : (t : Int) < w 43 40) : X t = x0 ↔ t = 0 := by
  have h1 := hr.1
  have e0 := (hx.1 0 (by omega)).2
  rw [hr.2.2.2.2.1] at e0
  have x00 : X 0 = x0 := (cdx_inj hP h0 (hx.1 0 (by omega)).1.1 e0).symm
  constructor
  · intro e
    refine hr.2.1 t 0 ht (by omega) ?_
    rw [(hx.1 t ht).2, (hx.1 0 (by omega)).2, e, x00]
  · intro e; rw [e]; exact x00
def PTW (P g se : Int) (h kn : Nat → Int) (x0 : Int) (X : Nat → Int) (pr : Nat → Int) (n : Nat) (w : Wd) : Prop := ∀ t : Nat, (t : Int) < w 43 40 → (RCX P g se h kn x0 n (X t) → w 69 t = csf P pr x0 (X t)) ∧ (¬ RCX P g se h kn x0 n (X t) → w 69 t = 1000000)
theorem bw_pc {P g se : Int} {h kn : Nat → Int} {x0 : Int} {X pr : Nat → Int} {w : Wd} (hP : 0 ≤ P ∧ P ≤ 10) (h0 : WH x0 (sof x0) P) (hr : RLI P g se h kn x0 w) (hx : XOK P g se h kn x0 X w) : PC (f_R_beginWeeks w) (fun _ u => (∀ c, c ≠ 69 → u c = w c) ∧ PTW P g se h kn x0 X pr 0 u) := by
  have h3000 := hr.1
  have l2 : ∀ (n : Nat) {v1 : Int} {u : Wd}, 0 ≤ v1 → v1 ≤ w 43 40 → (∀ c, c ≠ 69 → u c = w c) → (∀ t : Nat, (t : Int) < v1 → u 69 t = if t = 0 then 0 else 1000000) → PC (f_R_beginWeeks_2 n v1 u) (fun _ u => (∀ c, c ≠ 69 → u c = w c) ∧ PTW P g se h kn x0 X pr 0 u) := by
    intro n
    induction n with
    | zero => intros; exact pc_none
    | succ n ih =>
      intro v1 u i1 i1' hu ht
      rw [f_R_beginWeeks_2, hu 43 (by decide)]
      refine pc_ite (fun c => pc_some ⟨hu, fun t htl => ?_⟩) (fun c => ?_)
      · rw [hu 43 (by decide)] at htl
        have e := xok_0 hP h0 hr hx htl
        rw [ht t (by omega)]
        constructor
        · intro hq
          have e2 : X t = x0 := hq
          rw [if_pos (e.mp e2), e2, csf_self]
        · intro hq
          rw [if_neg (fun e2 => hq (e.mpr e2))]
      · have nx : ∀ z : Int, z = (if v1.toNat = 0 then 0 else 1000000) → PC (f_R_beginWeeks_26 (f_R_beginWeeks_2 n) v1 v1 z u) (fun _ u => (∀ c, c ≠ 69 → u c = w c) ∧ PTW P g se h kn x0 X pr 0 u) := fun z ez => by
          unfold f_R_beginWeeks_26
          refine pc_gd (fun _ => pc_lw (fun u1 e1 => pc_let (fun x2 e2 => ?_)))
          rw [w32_id (by omega)] at e2
          rw [e2]
          refine ih (by omega) (by omega) (fun c hc => by rw [e1, st_row hc, hu c hc]) (fun t htl => ?_)
          rw [e1]
          by_cases ck : t = v1.toNat
          · rw [ck, st_eq, ez]
          · rw [st_k ck]; exact ht t (by omega)
        refine pc_ite (fun e => nx 0 ?_) (fun e => nx 1000000 ?_)
        · rw [if_pos (by omega)]
        · rw [if_neg (by omega)]
  unfold f_R_beginWeeks
  exact l2 FU (by decide) (by omega) (fun _ _ => rfl) (fun t ht => by omega)
theorem gwk_pc {P g se : Int} {h kn : Nat → Int} {x0 : Int} {X pr : Nat → Int} {w : Wd} {n0 : Nat} (hP : 0 ≤ P ∧ P ≤ 10) (h0 : WH x0 (sof x0) P) (c0 : w 43 0 = P) (h44 : w 44 = pr) (hpr : ∀ k, 0 ≤ pr k ∧ pr k ≤ 9) (hr : RLI P g se h kn x0 w) (hx : XOK P g se h kn x0 X w) (hT : PTW P g se h kn x0 X pr n0 w) : PC (f_R_goOneWeek w) (fun _ u => (∀ c, c ≠ 69 → c ≠ 70 → u c = w c) ∧ PTW P g se h kn x0 X pr (n0 + 1) u) := by
  have h3000 := hr.1
  have crg := csf_rg (P := P) (pr := pr) hP hpr x0
  -- copied at the end
  have l126 : ∀ (n : Nat) {v1 : Int} {u : Wd}, 0 ≤ v1 → v1 ≤ w 43 40 → (∀ c, c ≠ 69 → c ≠ 70 → u c = w c) → (∀ t : Nat, (t : Int) < w 43 40 → (RCX P g se h kn x0 (n0 + 1) (X t) → u 70 t = csf P pr x0 (X t)) ∧ (¬ RCX P g se h kn x0 (n0 + 1) (X t) → u 70 t = 1000000)) → (∀ t : Nat, (t : Int) < v1 → u 69 t = u 70 t) → PC (f_R_goOneWeek_126 n v1 u) (fun _ u => (∀ c, c ≠ 69 → c ≠ 70 → u c = w c) ∧ PTW P g se h kn x0 X pr (n0 + 1) u) := by
    intro n
    induction n with
    | zero => intros; exact pc_none
    | succ n ih =>
      intro v1 u i1 i1' hu h70 h69
      rw [f_R_goOneWeek_126, hu 43 (by decide) (by decide)]
      refine pc_ite (fun c => pc_some ⟨hu, fun t ht => ?_⟩) (fun c => ?_)
      · rw [hu 43 (by decide) (by decide)] at ht
        rw [h69 t (by omega)]
        exact h70 t ht
      · refine pc_gd (fun _ => pc_gd (fun _ => pc_lw (fun u1 e1 => pc_let (fun x2 e2 => ?_))))
        rw [w32_id (by omega)] at e2
        rw [e2]
        have e70 : u1 70 = u 70 := by rw [e1, st_row (by decide)]
        refine ih (by omega) (by omega) (fun c a b => by rw [e1, st_row a, hu c a b]) (fun t ht => by rw [e70]; exact h70 t ht) (fun t ht => ?_)
        rw [e70, e1]
        by_cases ck : t = v1.toNat
        · rw [ck, st_eq]
        · rw [st_k ck]; exact h69 t (by omega)
  -- what is reached from the STATES ahead of v1
  have l27 : ∀ (n : Nat) {v1 : Int} {u : Wd}, 0 ≤ v1 → v1 ≤ w 43 40 → (∀ c, c ≠ 70 → u c = w c) → (∀ t : Nat, (t : Int) < w 43 40 → ((∃ s : Nat, (s : Int) < v1 ∧ RCX P g se h kn x0 n0 (X s) ∧ SUX P g se h kn (X s) (X t)) → u 70 t = csf P pr x0 (X t)) ∧ ((¬ ∃ s : Nat, (s : Int) < v1 ∧ RCX P g se h kn x0 n0 (X s) ∧ SUX P g se h kn (X s) (X t)) → u 70 t = 1000000)) → PC (f_R_goOneWeek_27 n v1 u) (fun _ u => (∀ c, c ≠ 69 → c ≠ 70 → u c = w c) ∧ PTW P g se h kn x0 X pr (n0 + 1) u) := by
    intro n
    induction n with
    | zero => intros; exact pc_none
    | succ n ih =>
      intro v1 u i1 i1' hu h70
      rw [f_R_goOneWeek_27, hu 43 (by decide)]
      refine pc_ite (fun c => ?_) (fun c => ?_)
      · have eq : ∀ t : Nat, (t : Int) < w 43 40 → ((∃ s : Nat, (s : Int) < v1 ∧ RCX P g se h kn x0 n0 (X s) ∧ SUX P g se h kn (X s) (X t)) ↔ RCX P g se h kn x0 (n0 + 1) (X t)) := fun t ht => by
          constructor
          · rintro ⟨s, _, a, b⟩; exact ⟨X s, a, b⟩
          · rintro ⟨y, a, b⟩
            obtain ⟨s, hs, e⟩ := hx.2 y ⟨rx_wh hP h0 a, n0, a⟩
            exact ⟨s, by omega, by rw [e]; exact a, by rw [e]; exact b⟩
        refine l126 FU (by decide) (by omega) (fun c _ b => hu c b) (fun t ht => ?_) (fun t ht => by omega)
        rw [← eq t ht]
        exact h70 t ht
      · have e1v : v1 = ((v1.toNat : Nat) : Int) := by omega
        obtain ⟨hxv, hcv⟩ := hx.1 v1.toNat (by omega)
        obtain ⟨hT1, hT2⟩ := hT v1.toNat (by omega)
        obtain ⟨⟨hlo, hhi⟩, hE⟩ := hr.2.2.2.2.2 v1.toNat (by omega)
        obtain ⟨hE1, hE2⟩ := hE (X v1.toNat) hxv hcv
        refine pc_gd (fun _ => ?_)
        rw [hu 69 (by decide)]
        refine pc_ite (fun cf => ?_) (fun cf => pc_gd (fun _ => pc_let (fun x3 e3 => ?_)))
        · have nr : ¬ RCX P g se h kn x0 n0 (X v1.toNat) := fun hq => by
            have := hT1 hq
            have := crg (X v1.toNat)
            omega
          unfold f_R_goOneWeek_118
          refine pc_let (fun x4 e4 => ?_)
          rw [w32_id (by omega)] at e4
          rw [e4]
          refine ih (by omega) (by omega) hu (fun t ht => ?_)
          have : (∃ s : Nat, (s : Int) < v1 + 1 ∧ RCX P g se h kn x0 n0 (X s) ∧ SUX P g se h kn (X s) (X t)) ↔ (∃ s : Nat, (s : Int) < v1 ∧ RCX P g se h kn x0 n0 (X s) ∧ SUX P g se h kn (X s) (X t)) := by
            constructor
            · rintro ⟨s, hs, a, b⟩
              by_cases cs : (s : Int) < v1
              · exact ⟨s, cs, a, b⟩
              · rw [show s = v1.toNat by omega] at a; exact absurd a nr
            · rintro ⟨s, hs, a, b⟩; exact ⟨s, by omega, a, b⟩
          rw [this]
          exact h70 t ht
        · have yr : RCX P g se h kn x0 n0 (X v1.toNat) := Classical.byContradiction fun hq => cf (hT2 hq)
          rw [hu 64 (by decide)] at e3
          have ev69 := hT1 yr
          have w1 : w32 (v1 + 1) = v1 + 1 := w32_id (by omega)
          -- one edge after the other
          have l57 : ∀ (k : Nat) {v2 : Int} {u : Wd}, w 64 v1.toNat ≤ v2 → v2 ≤ w 64 (v1.toNat + 1) → (∀ c, c ≠ 70 → u c = w c) → (∀ t : Nat, (t : Int) < w 43 40 → (((∃ s : Nat, (s : Int) < v1 ∧ RCX P g se h kn x0 n0 (X s) ∧ SUX P g se h kn (X s) (X t)) ∨ ∃ e : Nat, w 64 v1.toNat ≤ (e : Int) ∧ (e : Int) < v2 ∧ w 65 e = (t : Int)) → u 70 t = csf P pr x0 (X t)) ∧ ((¬ ((∃ s : Nat, (s : Int) < v1 ∧ RCX P g se h kn x0 n0 (X s) ∧ SUX P g se h kn (X s) (X t)) ∨ ∃ e : Nat, w 64 v1.toNat ≤ (e : Int) ∧ (e : Int) < v2 ∧ w 65 e = (t : Int))) → u 70 t = 1000000)) → PC (f_R_goOneWeek_57 (f_R_goOneWeek_27 n) k v1 v2 u) (fun _ u => (∀ c, c ≠ 69 → c ≠ 70 → u c = w c) ∧ PTW P g se h kn x0 X pr (n0 + 1) u) := by
            intro k
            induction k with
            | zero => intros; exact pc_none
            | succ k ihk =>
              intro v2 u i2 i2' hu h70
              rw [f_R_goOneWeek_57, w1, hu 64 (by decide), show (v1 + 1).toNat = v1.toNat + 1 by omega]
              refine pc_gd (fun _ => pc_ite (fun c2 => ?_) (fun c2 => ?_))
              · unfold f_R_goOneWeek_118
                refine pc_let (fun x4 e4 => ?_)
                rw [w1] at e4
                rw [e4]
                refine ih (by omega) (by omega) hu (fun t ht => ?_)
                have : (∃ s : Nat, (s : Int) < v1 + 1 ∧ RCX P g se h kn x0 n0 (X s) ∧ SUX P g se h kn (X s) (X t)) ↔ ((∃ s : Nat, (s : Int) < v1 ∧ RCX P g se h kn x0 n0 (X s) ∧ SUX P g se h kn (X s) (X t)) ∨ ∃ e : Nat, w 64 v1.toNat ≤ (e : Int) ∧ (e : Int) < v2 ∧ w 65 e = (t : Int)) := by
                  constructor
                  · rintro ⟨s, hs, a, b⟩
                    by_cases cs : (s : Int) < v1
                    · exact Or.inl ⟨s, cs, a, b⟩
                    · rw [show s = v1.toNat by omega] at b
                      obtain ⟨e, g1, g2, g3, g4⟩ := hE2 (X t) b
                      refine Or.inr ⟨e, g1, by omega, ?_⟩
                      have := hr.2.1 (w 65 e).toNat t (by omega) ht (by rw [g4, (hx.1 t ht).2])
                      omega
                  · rintro (⟨s, hs, a, b⟩ | ⟨e, g1, g2, g3⟩)
                    · exact ⟨s, by omega, a, b⟩
                    · obtain ⟨g4, y, g5, g6⟩ := hE1 e g1 (by omega)
                      refine ⟨v1.toNat, by omega, yr, ?_⟩
                      have hy := (hx.1 t ht).2
                      rw [g3, show ((t : Nat) : Int).toNat = t by omega, hy] at g6
                      have hyw : WH y (sof y) P := by
                        obtain ⟨m, _, hw⟩ := g5
                        exact wh_sof hw hP.2
                      rw [cdx_inj hP (hx.1 t ht).1.1 hyw g6]
                      exact g5
                rw [this]
                exact h70 t ht
              · have e2v : v2 = ((v2.toNat : Nat) : Int) := by omega
                obtain ⟨g4, y, g5, g6⟩ := hE1 v2.toNat (by omega) (by omega)
                have hyw : WH y (sof y) P := by
                  obtain ⟨m, _, hw⟩ := g5
                  exact wh_sof hw hP.2
                have hy := hx.1 (w 65 v2.toNat).toNat (by omega)
                have eX : X (w 65 v2.toNat).toNat = y := cdx_inj hP hy.1.1 hyw (by rw [← hy.2, g6])
                have e65 : w 65 v2.toNat = (((w 65 v2.toNat).toNat : Nat) : Int) := by omega
                rw [hu 65 (by decide), hu 69 (by decide)]
                refine pc_gd (fun _ => pc_gd (fun _ => pc_gd (fun _ => pc_gd (fun _ => pc_gd (fun _ => ?_)))))
                have cp := cost_pc (P := P) (s := sof (X v1.toNat)) (s' := sof y) (w := u) (t := v1.toNat) (t' := (w 65 v2.toNat).toNat) hP (by rw [hu 43 (by decide)]; exact c0) (by rw [hu 44 (by decide), h44]; exact hpr) hxv.1.2.2 hyw.2.2 (by rw [hu 63 (by decide)]; exact hcv) (by rw [hu 63 (by decide)]; exact g6)
                rw [← e1v, ← e65, hu 44 (by decide), h44] at cp
                refine pc_call cp (fun r5 u6 q => ?_)
                rw [q.1]
                have add : csf P pr x0 y = csf P pr x0 (X v1.toNat) + csf P pr (X v1.toNat) y := csf_add hP yr g5
                have er5 : r5 = csf P pr (X v1.toNat) y := q.2
                have c1 := crg (X v1.toNat)
                have c2' := csf_rg (P := P) (pr := pr) hP hpr (X v1.toNat) y
                have c3 := crg y
                rw [ev69, er5, w32_id (by omega), ← add]
                refine pc_gd (fun _ => pc_lw (fun u7 e7 => pc_let (fun x8 e8 => ?_)))
                have b41 : v2 < 2147483647 := by
                  have := hr.1
                  omega
                rw [w32_id (by omega)] at e8
                rw [e8]
                refine ihk (by omega) (by omega) (fun c hc => by rw [e7, st_row hc, hu c hc]) (fun t ht => ?_)
                have h70t := h70 t ht
                by_cases ck : t = (w 65 v2.toNat).toNat
                · have z : u7 70 t = csf P pr x0 (X t) := by
                    rw [e7, ck, st_eq, eX]
                    rw [ck, eX] at h70t
                    have m := imin_sp (u 70 (w 65 v2.toNat).toNat) (csf P pr x0 y)
                    by_cases cR : (∃ s : Nat, (s : Int) < v1 ∧ RCX P g se h kn x0 n0 (X s) ∧ SUX P g se h kn (X s) y) ∨ ∃ e : Nat, w 64 v1.toNat ≤ (e : Int) ∧ (e : Int) < v2 ∧ w 65 e = (((w 65 v2.toNat).toNat : Nat) : Int)
                    · have e := h70t.1 cR
                      rcases m with ⟨_, m2⟩ | ⟨_, m2⟩
                      · exact m2
                      · exact m2.trans e
                    · have e := h70t.2 cR
                      rcases m with ⟨_, m2⟩ | ⟨m1, _⟩
                      · exact m2
                      · rw [e] at m1; omega
                  refine ⟨fun _ => z, fun hn => absurd (Or.inr ⟨v2.toNat, by omega, by omega, by omega⟩) hn⟩
                · have z : u7 70 t = u 70 t := by rw [e7, st_k ck]
                  have : (∃ e : Nat, w 64 v1.toNat ≤ (e : Int) ∧ (e : Int) < v2 + 1 ∧ w 65 e = (t : Int)) ↔ (∃ e : Nat, w 64 v1.toNat ≤ (e : Int) ∧ (e : Int) < v2 ∧ w 65 e = (t : Int)) := by
                    constructor
                    · rintro ⟨e, a1, a2, a3⟩
                      by_cases ce : (e : Int) < v2
                      · exact ⟨e, a1, ce, a3⟩
                      · rw [show e = v2.toNat by omega] at a3; omega
                    · rintro ⟨e, a1, a2, a3⟩; exact ⟨e, a1, by omega, a3⟩
                  rw [z, this]
                  exact h70t
          rw [e3]
          refine l57 FU (Int.le_refl _) hhi hu (fun t ht => ?_)
          have : (∃ e : Nat, w 64 v1.toNat ≤ (e : Int) ∧ (e : Int) < w 64 v1.toNat ∧ w 65 e = (t : Int)) ↔ False := ⟨fun ⟨e, a1, a2, _⟩ => by omega, fun hf => hf.elim⟩
          rw [this, or_false]
          exact h70 t ht
  have l2 : ∀ (n : Nat) {v1 : Int} {u : Wd}, 0 ≤ v1 → v1 ≤ w 43 40 → (∀ c, c ≠ 70 → u c = w c) → (∀ t : Nat, (t : Int) < v1 → u 70 t = 1000000) → PC (f_R_goOneWeek_2 n v1 u) (fun _ u => (∀ c, c ≠ 69 → c ≠ 70 → u c = w c) ∧ PTW P g se h kn x0 X pr (n0 + 1) u) := by
    intro n
    induction n with
    | zero => intros; exact pc_none
    | succ n ih =>
      intro v1 u i1 i1' hu ht
      rw [f_R_goOneWeek_2, hu 43 (by decide)]
      refine pc_ite (fun c => l27 FU (by decide) (by omega) hu (fun t htl => ⟨fun ⟨s, hs, _⟩ => by omega, fun _ => ht t (by omega)⟩)) (fun c => ?_)
      refine pc_gd (fun _ => pc_lw (fun u9 e9 => pc_let (fun x10 e10 => ?_)))
      rw [w32_id (by omega)] at e10
      rw [e10]
      refine ih (by omega) (by omega) (fun c hc => by rw [e9, st_row hc, hu c hc]) (fun t htl => ?_)
      rw [e9]
      by_cases ck : t = v1.toNat
      · rw [ck, st_eq]
      · rw [st_k ck]; exact ht t (by omega)
  unfold f_R_goOneWeek
  exact l2 FU (by decide) (by omega) (fun _ _ => rfl) (fun t ht => by omega)
/-- so many weeks -/
def WKS (P g se : Int) (h kn : Nat → Int) (x0 : Int) (pr : Nat → Int) (n : Nat) (b w : Wd) : Prop := (∀ c, c ≠ 69 → c ≠ 70 → w c = b c) ∧ RLI P g se h kn x0 w ∧ ∃ X, XOK P g se h kn x0 X w ∧ PTW P g se h kn x0 X pr n w
theorem wks_0 {P g se : Int} {h kn : Nat → Int} {x0 : Int} {pr : Nat → Int} {w : Wd} (hP : 0 ≤ P ∧ P ≤ 10) (h0 : WH x0 (sof x0) P) (hr : RLI P g se h kn x0 w) : PC (f_R_beginWeeks w) (fun _ u => WKS P g se h kn x0 pr 0 w u) := by
  obtain ⟨X, hx⟩ := rli_x hP hr
  refine pc_w (bw_pc (pr := pr) hP h0 hr hx) (fun _ u q => ⟨fun c a _ => q.1 c a, rli_eq hr ?_ ?_ ?_ ?_, X, xok_eq hx ?_ ?_, q.2⟩)
  · rw [q.1 43 (by decide)]
  · exact q.1 63 (by decide)
  · exact q.1 64 (by decide)
  · exact q.1 65 (by decide)
  · rw [q.1 43 (by decide)]
  · exact q.1 63 (by decide)
theorem wks_s {P g se : Int} {h kn : Nat → Int} {x0 : Int} {pr : Nat → Int} {n : Nat} {b w : Wd} (hP : 0 ≤ P ∧ P ≤ 10) (h0 : WH x0 (sof x0) P) (c0 : b 43 0 = P) (h44 : b 44 = pr) (hpr : ∀ k, 0 ≤ pr k ∧ pr k ≤ 9) (hw : WKS P g se h kn x0 pr n b w) : PC (f_R_goOneWeek w) (fun _ u => WKS P g se h kn x0 pr (n + 1) b u) := by
  obtain ⟨h1, h2, X, h3, h4⟩ := hw
  refine pc_w (gwk_pc hP h0 (by rw [h1 43 (by decide) (by decide)]; exact c0) (by rw [h1 44 (by decide) (by decide)]; exact h44) hpr h2 h3 h4) (fun _ u q => ⟨fun c a d => (q.1 c a d).trans (h1 c a d), rli_eq h2 ?_ ?_ ?_ ?_, X, xok_eq h3 ?_ ?_, q.2⟩)
  · rw [q.1 43 (by decide) (by decide)]
  · exact q.1 63 (by decide) (by decide)
  · exact q.1 64 (by decide) (by decide)
  · exact q.1 65 (by decide) (by decide)
  · rw [q.1 43 (by decide) (by decide)]
  · exact q.1 63 (by decide) (by decide)
theorem fwk_pc {P g se : Int} {h kn : Nat → Int} {x0 : Int} {w : Wd} {v1 : Int} (hP : 0 ≤ P ∧ P ≤ 10) (hg : 1 ≤ g ∧ g ≤ 3) (h0 : WH x0 (sof x0) P) (hG : G [] w w) (c0 : w 43 0 = P) (c10 : w 43 10 = g) (c11 : w 43 11 = se) (c47 : ∀ k : Nat, (k : Int) < P → w 47 k = sof x0 k) (c45 : ∀ j : Nat, (j : Int) < P → w 45 j = kn j ∧ 0 ≤ kn j ∧ kn j ≤ 1023) (hh : ∀ k : Nat, (k : Int) < P → hB P (w 46) k = hB P h k) (hv : 0 ≤ v1 ∧ v1 ≤ 60) : PC (f_R_findWeek v1 w) (fun r u => (r = 0 ∧ MNY P g se h kn x0) ∨ (r = 1 ∧ ∃ b, FRY w b ∧ WKS P g se h kn x0 (w 44) v1.toNat b u)) := by
  unfold f_R_findWeek
  refine pc_call (fst_pc (h := h) (v1 := 0) hP hg h0 hG c0 c10 c11 c47 c45 (by decide) (fun k hk => by rw [bt_0, Bool.or_false]; exact hh k hk)) (fun r1 b q => ?_)
  obtain ⟨q1, q2, q3⟩ := q
  rcases q3 with ⟨q3, q4⟩ | ⟨q3, q4⟩
  · refine pc_ite (fun _ => pc_some (Or.inl ⟨rfl, q4⟩)) (fun e => absurd q3 e)
  · refine pc_ite (fun e => by omega) (fun _ => ?_)
    refine pc_call (wks_0 (pr := w 44) hP h0 q4) (fun r3 u4 z => ?_)
    have b44 : b 44 = w 44 := q1.1 44 (by decide) (by decide) (by decide) (by decide) (by decide) (by decide) (by decide)
    have b0 : b 43 0 = P := (q1.2 0 (by decide) (by decide) (by decide)).trans c0
    have l16 : ∀ (n : Nat) {v2 : Int} {u : Wd}, 0 ≤ v2 → v2 ≤ v1 → WKS P g se h kn x0 (w 44) v2.toNat b u → PC (f_R_findWeek_16 n v1 v2 u) (fun r u => (r = 0 ∧ MNY P g se h kn x0) ∨ (r = 1 ∧ ∃ b, FRY w b ∧ WKS P g se h kn x0 (w 44) v1.toNat b u)) := by
      intro n
      induction n with
      | zero => intros; exact pc_none
      | succ n ih =>
        intro v2 u i2 i2' hu
        rw [f_R_findWeek_16]
        refine pc_ite (fun c => pc_some (Or.inr ⟨rfl, b, q1, by rw [show v1 = v2 by omega]; exact hu⟩)) (fun c => ?_)
        refine pc_call (wks_s hP h0 b0 b44 (fun k => hG.1 44 k) hu) (fun r5 u6 z2 => pc_let (fun x7 e7 => ?_))
        rw [w32_id (by omega)] at e7
        rw [e7]
        exact ih (by omega) (by omega) (by rw [show (v2 + 1).toNat = v2.toNat + 1 by omega]; exact z2)
    exact l16 FU (by decide) hv.1 z
