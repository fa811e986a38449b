/-! HOW LONG STILL: the reference -/
theorem rcx_first {P g se : Int} {h kn : Nat → Int} : ∀ {n : Nat} {x y : Int}, RCX P g se h kn x (n + 1) y ↔ ∃ z, SUX P g se h kn x z ∧ RCX P g se h kn z n y := by
  intro n
  induction n with
  | zero =>
    intro x y
    constructor
    · rintro ⟨z, e, hs⟩
      have e' : z = x := e
      rw [e'] at hs
      exact ⟨y, hs, rfl⟩
    · rintro ⟨z, hs, e⟩
      have e' : y = z := e
      rw [e']
      exact ⟨x, rfl, hs⟩
  | succ n ih =>
    intro x y
    constructor
    · rintro ⟨v, hv, hs⟩
      obtain ⟨z, a, b⟩ := ih.mp hv
      exact ⟨z, a, v, b, hs⟩
    · rintro ⟨z, a, v, b, hs⟩
      exact ⟨v, ih.mpr ⟨z, a, b⟩, hs⟩
theorem rcx_add {P g se : Int} {h kn : Nat → Int} {n : Nat} {x z : Int} (hz : RCX P g se h kn x n z) : ∀ {m : Nat} {y : Int}, RCX P g se h kn z m y → RCX P g se h kn x (n + m) y := by
  intro m
  induction m with
  | zero => intro y e; rw [show y = z from e]; exact hz
  | succ m ih =>
    rintro y ⟨v, hv, hs⟩
    exact ⟨v, ih hv, hs⟩
def wgt (v : Int) : Int := if v = 0 then 100 else if gst v = true then 4 - v else 0
def lsm (s : Nat → Int) : Nat → Int
  | 0 => 0
  | n + 1 => lsm s n + wgt (s n)
theorem wgt_rg (v : Int) : 0 ≤ wgt v ∧ wgt v ≤ 100 := by
  unfold wgt
  by_cases c : v = 0
  · rw [if_pos c]; decide
  · rw [if_neg c]
    by_cases c2 : gst v = true
    · rw [if_pos c2]
      have := of_decide_eq_true c2
      omega
    · rw [if_neg c2]; decide
theorem lsm_rg (s : Nat → Int) : ∀ n : Nat, 0 ≤ lsm s n ∧ lsm s n ≤ 100 * n := by
  intro n
  induction n with
  | zero => exact ⟨Int.le_refl _, Int.le_refl _⟩
  | succ n ih => rw [lsm]; have := wgt_rg (s n); omega
/-- sums of differences -/
theorem lsm_le {s t : Nat → Int} {d : Nat → Int} : ∀ {n : Nat}, (∀ k, k < n → wgt (t k) ≤ wgt (s k) + d k) → lsm t n ≤ lsm s n + (List.range n).foldl (fun a k => a + d k) 0 := by
  intro n
  induction n with
  | zero => intro _; exact Int.le_refl _
  | succ n ih =>
    intro h
    rw [lsm, lsm, List.range_succ, List.foldl_append]
    have h1 := ih (fun k hk => h k (by omega))
    have h2 := h n (by omega)
    show lsm t n + wgt (t n) ≤ lsm s n + wgt (s n) + (List.foldl (fun a k => a + d k) 0 (List.range n) + d n)
    omega
/-- it gets less while somebody is a GUEST -/
theorem sx_lsm {P g se : Int} {h kn : Nat → Int} {x y : Int} (hP : 0 ≤ P ∧ P ≤ 10) (hg : 1 ≤ g ∧ g ≤ 3) (hx : WH x (sof x) P) (hs : SUX P g se h kn x y) (hgu : sbg P x) : lsm (sof y) P.toNat < lsm (sof x) P.toNat := by
  obtain ⟨m, hm, hw⟩ := hs
  have ek : ∀ k : Nat, (k : Int) < P → sof y k = nis P (sof x) g (bt m) k := fun k hk => sof_e hw hP.2 hk
  -- each alone
  have one : ∀ k : Nat, (k : Int) < P → (bt m k = false → wgt (sof y k) ≤ wgt (sof x k) ∧ (gst (sof x k) = true → wgt (sof y k) + 1 ≤ wgt (sof x k))) ∧ (bt m k = true → wgt (sof y k) = 3) := fun k hk => by
    have r := hx.2.2 k hk
    rw [ek k hk]
    unfold nis
    constructor
    · intro hb
      rw [hb]
      simp only [Bool.false_eq_true, if_false]
      rcases v5 r with e | e | e | e | e
      · rw [e]; simp [show gst 0 = false from rfl]
      · rw [e]
        by_cases c : 1 < g
        · simp only [show gst 1 = true from rfl, if_true, if_pos c]; decide
        · simp only [show gst 1 = true from rfl, if_true, if_neg c]; decide
      · rw [e]
        by_cases c : 2 < g
        · simp only [show gst 2 = true from rfl, if_true, if_pos c]; decide
        · simp only [show gst 2 = true from rfl, if_true, if_neg c]; decide
      · rw [e]
        by_cases c : 3 < g
        · simp only [show gst 3 = true from rfl, if_true, if_pos c]; decide
        · simp only [show gst 3 = true from rfl, if_true, if_neg c]; decide
      · rw [e]; simp [show gst 4 = false from rfl]
    · intro hb
      rw [hb, if_pos rfl]; decide
  obtain ⟨d, f, hD⟩ := hm
  have hmr := drc_rg hP hD
  -- by how much it may grow: of who brings 2, of who is brought -97
  have key : ∀ n : Nat, (n : Int) ≤ P → lsm (sof y) n + 97 * ((pn (fun k => bt m k && fre P (sof x) h k) n : Nat) : Int) + ((pn (fun k => gs P (sof x) k && !bt m k) n : Nat) : Int) ≤ lsm (sof x) n + 2 * ((pn (fun k => bt m k && gs P (sof x) k) n : Nat) : Int) := by
    intro n
    induction n with
    | zero => intro _; exact Int.le_refl _
    | succ n ih =>
      intro hn
      have h1 := ih (by omega)
      have h2 := one n (by omega)
      have rx := hx.2.2 n (by omega)
      rw [lsm, lsm, pn, pn, pn]
      have egs : gs P (sof x) n = gst (sof x n) := by unfold gs; rw [show inP P n = true from decide_eq_true (by omega)]; rfl
      cases hb : bt m n with
      | false =>
        obtain ⟨a1, a2⟩ := h2.1 hb
        rw [egs]
        cases hgs : gst (sof x n) with
        | false => simp; omega
        | true => have := a2 hgs; simp; omega
      | true =>
        have a1 := h2.2 hb
        have wr := wgt_rg (sof x n)
        rcases (mvs_who hP ⟨d, f, hD⟩).2 n (by omega) hb with e | e
        · have nf := gs_fre (P := P) (s := sof x) (h := h) n (by omega) e
          rw [e, nf]
          have : 1 ≤ wgt (sof x n) := by
            rw [egs] at e
            have h4 := of_decide_eq_true e
            unfold wgt
            rw [if_neg (by omega), if_pos e]; omega
          simp; omega
        · have ng : gs P (sof x) n = false := by
            cases hh : gs P (sof x) n with
            | false => rfl
            | true => rw [gs_fre (P := P) (s := sof x) (h := h) n (by omega) hh] at e; cases e
          have hf := fre_sr e
          rw [e, ng]
          have : wgt (sof x n) = 100 := by rw [hf.2.1]; rfl
          simp; omega
  have hk := key P.toNat (by omega)
  -- as many bring as are brought
  have cut : ∀ f : Nat → Bool, (∀ k, k < 10 → f k = true → (k : Int) < P) → pn f P.toNat = pn f 10 := fun f hf => (pn_cut (f := f) (n := P.toNat) (m := 10) (by omega) (fun k h1 h2 => by
    cases hb : f k with
    | false => rfl
    | true => have := hf k h2 hb; omega)).symm
  have gin : ∀ k, gs P (sof x) k = true → (k : Int) < P := fun k e => by unfold gs at e; rw [Bool.and_eq_true] at e; exact inP_t e.1
  have bal : ∀ {d : Nat} {f m : Int}, DRC P se kn (gs P (sof x)) (fre P (sof x) h) (sty P (sof x) g) d f m → pn (fun k => bt m k && fre P (sof x) h k) 10 = d ∧ pn (fun k => bt m k && gs P (sof x) k) 10 = d := by
    intro d
    induction d with
    | zero =>
      intro f m hD
      rw [hD.2]
      exact ⟨pn_0 (fun k _ => by rw [bt_0]; rfl), pn_0 (fun k _ => by rw [bt_0]; rfl)⟩
    | succ d ihd =>
      rintro f m ⟨f0, m0, h0', i, o, b1, b2, b3, b4, b5, b6', b7, b8, b9, b10'⟩
      obtain ⟨i1, i2⟩ := ihd h0'
      have r0 := drc_rg hP h0'
      obtain ⟨n1, n2⟩ := chd_new hP gs_fre h0' b1 (by omega) b3 b4 b5
      have st : ∀ k, k < 10 → bt m k = (bt m0 k || decide (k = i) || decide (k = o)) := fun k hk => by rw [b8]; exact sq_t r0.1 (by omega) b3 hk
      have fi : fre P (sof x) h i = false := gs_fre i (by omega) b4
      have go : gs P (sof x) o = false := by
        cases hh : gs P (sof x) o with
        | false => rfl
        | true => rw [gs_fre (P := P) (s := sof x) (h := h) o b3 hh] at b5; cases b5
      constructor
      · rw [← i1]
        refine pn_up (f := fun k => bt m0 k && fre P (sof x) h k) (f' := fun k => bt m k && fre P (sof x) h k) (i := o) b3 (fun k hk hn => ?_) (by rw [b7]; rfl) (by rw [st o b3, decide_eq_true rfl, b5]; simp)
        rw [st k hk, decide_eq_false hn, Bool.or_false]
        by_cases c : k = i
        · rw [c, fi]; simp
        · rw [decide_eq_false c, Bool.or_false]
      · rw [← i2]
        refine pn_up (f := fun k => bt m0 k && gs P (sof x) k) (f' := fun k => bt m k && gs P (sof x) k) (i := i) (by omega) (fun k hk hn => ?_) (by rw [n1]; rfl) (by rw [st i (by omega), decide_eq_true rfl, b4]; simp)
        rw [st k hk, decide_eq_false hn, Bool.or_false]
        by_cases c : k = o
        · rw [c, go]; simp
        · rw [decide_eq_false c, Bool.or_false]
  obtain ⟨q1, q2⟩ := bal hD
  rw [cut _ (fun k _ e => by rw [Bool.and_eq_true] at e; exact (fre_sr e.2).1), cut _ (fun k _ e => by rw [Bool.and_eq_true] at e; exact gin k e.1), cut _ (fun k _ e => by rw [Bool.and_eq_true] at e; exact gin k e.2), q1, q2] at hk
  by_cases c : d = 0
  · have m0 : m = 0 := by rw [c] at hD; exact hD.2
    obtain ⟨k0, hk0, hg0⟩ := hgu
    have := pn_pos (f := fun k => gs P (sof x) k && !bt m k) hk0 (by rw [hg0, m0, bt_0]; rfl)
    omega
  · omega
/-! the reference's order -/
def Lf (P : Int) (X : Nat → Int) (t : Nat) : Int := lsm (sof (X t)) P.toNat
def ODR (P : Int) (X : Nat → Int) (N : Int) (w : Wd) : Prop := (∀ k : Nat, (k : Int) < N → 0 ≤ w 72 k ∧ w 72 k < N) ∧ (∀ i j : Nat, (i : Int) < N → (j : Int) < N → w 72 i = w 72 j → i = j) ∧ (∀ t : Nat, (t : Int) < N → ∃ k : Nat, (k : Int) < N ∧ w 72 k = (t : Int)) ∧ ∀ i j : Nat, i < j → (j : Int) < N → Lf P X (w 72 i).toNat ≤ Lf P X (w 72 j).toNat
theorem fo_pc {P g se : Int} {h kn : Nat → Int} {x0 : Int} {X : Nat → Int} {w : Wd} (hP : 0 ≤ P ∧ P ≤ 10) (c0 : w 43 0 = P) (hr : 1 ≤ w 43 40 ∧ w 43 40 ≤ 3000) (hx : XOK P g se h kn x0 X w) : PC (f_R_findOrder w) (fun _ u => (∀ c, c ≠ 72 → c ≠ 73 → u c = w c) ∧ ODR P X (w 43 40) u) := by
  -- the order is written
  have l103 : ∀ (n : Nat) {v1 v2 v3 : Int} {u : Wd}, 0 ≤ v3 → 0 ≤ v2 → (∀ c, c ≠ 72 → c ≠ 73 → u c = w c) → (v1 ≤ 1000 ∧ ∀ t : Nat, (t : Int) < w 43 40 → u 73 t = Lf P X t ∧ Lf P X t ≤ v1) → (∀ k : Nat, (k : Int) < v2 → (0 ≤ u 72 k ∧ u 72 k < w 43 40) ∧ Lf P X (u 72 k).toNat < v3) → (∀ i j : Nat, (i : Int) < v2 → (j : Int) < v2 → u 72 i = u 72 j → i = j) → (∀ t : Nat, (t : Int) < w 43 40 → Lf P X t < v3 → ∃ k : Nat, (k : Int) < v2 ∧ u 72 k = (t : Int)) → (∀ i j : Nat, i < j → (j : Int) < v2 → Lf P X (u 72 i).toNat ≤ Lf P X (u 72 j).toNat) → PC (f_R_findOrder_103 n v1 v2 v3 u) (fun _ u => (∀ c, c ≠ 72 → c ≠ 73 → u c = w c) ∧ ODR P X (w 43 40) u) := by
    intro n
    induction n with
    | zero => intros; exact pc_none
    | succ n ih =>
      intro v1 v2 v3 u i3 i2 hu h73 hA hI hS hO
      rw [f_R_findOrder_103]
      refine pc_ite (fun c => pc_some ⟨hu, ?_⟩) (fun c => ?_)
      · have all : ∀ t : Nat, (t : Int) < w 43 40 → ∃ k : Nat, (k : Int) < v2 ∧ u 72 k = (t : Int) := fun t ht => hS t ht (by have := (h73.2 t ht).2; omega)
        -- as many as there are
        have ev : v2 = w 43 40 := by
          have a := php (w 43 40).toNat v2.toNat (fun i => (u 72 i).toNat) (fun i hi => by
            have := (hA i (by omega)).1
            show (u 72 i).toNat < (w 43 40).toNat
            omega) (fun i j hi hj e => by
            have e' : (u 72 i).toNat = (u 72 j).toNat := e
            have r1 := (hA i (by omega)).1
            have r2 := (hA j (by omega)).1
            exact hI i j (by omega) (by omega) (by omega))
          have ch : ∀ t : Nat, ∃ k : Nat, (t : Int) < w 43 40 → (k : Int) < v2 ∧ u 72 k = (t : Int) := fun t => by
            by_cases ct : (t : Int) < w 43 40
            · obtain ⟨k, hk⟩ := all t ct
              exact ⟨k, fun _ => hk⟩
            · exact ⟨0, fun hh => absurd hh ct⟩
          have b := php v2.toNat (w 43 40).toNat (fun i => Classical.choose (ch i)) (fun i hi => by
            have := (Classical.choose_spec (ch i) (by omega)).1
            show Classical.choose (ch i) < v2.toNat
            omega) (fun i j hi hj e => by
            have a := (Classical.choose_spec (ch i) (by omega)).2
            have b := (Classical.choose_spec (ch j) (by omega)).2
            have e2 : Classical.choose (ch i) = Classical.choose (ch j) := e
            rw [e2] at a
            omega)
          omega
        rw [ev] at hA hI hO all
        exact ⟨fun k hk => (hA k hk).1, hI, all, hO⟩
      · -- all of one sum
        have l111 : ∀ (m : Nat) {v2 v4 : Int} {u : Wd}, 0 ≤ v4 → v4 ≤ w 43 40 → 0 ≤ v2 → (∀ c, c ≠ 72 → c ≠ 73 → u c = w c) → (v1 ≤ 1000 ∧ ∀ t : Nat, (t : Int) < w 43 40 → u 73 t = Lf P X t ∧ Lf P X t ≤ v1) → (∀ k : Nat, (k : Int) < v2 → (0 ≤ u 72 k ∧ u 72 k < w 43 40) ∧ (Lf P X (u 72 k).toNat < v3 ∨ (Lf P X (u 72 k).toNat = v3 ∧ u 72 k < v4))) → (∀ i j : Nat, (i : Int) < v2 → (j : Int) < v2 → u 72 i = u 72 j → i = j) → (∀ t : Nat, (t : Int) < w 43 40 → (Lf P X t < v3 ∨ (Lf P X t = v3 ∧ (t : Int) < v4)) → ∃ k : Nat, (k : Int) < v2 ∧ u 72 k = (t : Int)) → (∀ i j : Nat, i < j → (j : Int) < v2 → Lf P X (u 72 i).toNat ≤ Lf P X (u 72 j).toNat) → PC (f_R_findOrder_111 (f_R_findOrder_103 n) m v1 v2 v3 v4 u) (fun _ u => (∀ c, c ≠ 72 → c ≠ 73 → u c = w c) ∧ ODR P X (w 43 40) u) := by
          intro m
          induction m with
          | zero => intros; exact pc_none
          | succ m ihm =>
            intro v2 v4 u i4 i4' i2 hu h73 hA hI hS hO
            rw [f_R_findOrder_111, hu 43 (by decide) (by decide)]
            unfold f_R_findOrder_142
            refine pc_ite (fun c4 => pc_let (fun x1 e1 => ?_)) (fun c4 => pc_gd (fun _ => ?_))
            · have h1000 := h73.1
              rw [w32_id (by omega)] at e1
              rw [e1]
              refine ih (by omega) i2 hu h73 (fun k hk => ?_) hI (fun t ht hlt => hS t ht (by omega)) hO
              have := hA k hk
              exact ⟨this.1, by omega⟩
            · obtain ⟨z73, z1⟩ := h73.2 v4.toNat (by omega)
              rw [z73]
              refine pc_ite (fun ce => pc_let (fun x3 e3 => pc_gd (fun g3 => pc_lw (fun u4 e4 => pc_let (fun x2 e2 => ?_))))) (fun ce => pc_let (fun x2 e2 => ?_))
              · rw [w32_id (by omega)] at e3
                rw [w32_id (by omega)] at e2
                rw [e2, e3]
                have z72 : ∀ k, u4 72 k = if k = v2.toNat then v4 else u 72 k := fun k => by
                  rw [e4]
                  by_cases ck : k = v2.toNat
                  · rw [if_pos ck, ck, st_eq]
                  · rw [if_neg ck, st_k ck]
                have o73 : u4 73 = u 73 := by rw [e4, st_row (by decide)]
                refine ihm (by omega) (by omega) (by omega) (fun c a b => by rw [e4, st_row a, hu c a b]) (by rw [o73]; exact h73) (fun k hk => ?_) (fun i j hi hj e => ?_) (fun t ht hlt => ?_) (fun i j hij hj => ?_)
                · rw [z72]
                  by_cases ck : k = v2.toNat
                  · rw [if_pos ck]; exact ⟨by omega, Or.inr ⟨ce, by omega⟩⟩
                  · rw [if_neg ck]
                    have := hA k (by omega)
                    exact ⟨this.1, by omega⟩
                · rw [z72, z72] at e
                  by_cases ci : i = v2.toNat <;> by_cases cj : j = v2.toNat
                  · omega
                  · rw [if_pos ci, if_neg cj] at e
                    have := hA j (by omega)
                    have e2 : (u 72 j).toNat = v4.toNat := by omega
                    rw [e2] at this; omega
                  · rw [if_neg ci, if_pos cj] at e
                    have := hA i (by omega)
                    have e2 : (u 72 i).toNat = v4.toNat := by omega
                    rw [e2] at this; omega
                  · rw [if_neg ci, if_neg cj] at e
                    exact hI i j (by omega) (by omega) e
                · by_cases ct : (t : Int) = v4
                  · exact ⟨v2.toNat, by omega, by rw [z72, if_pos rfl]; omega⟩
                  · obtain ⟨k, hk, e⟩ := hS t ht (by omega)
                    exact ⟨k, by omega, by rw [z72, if_neg (by omega)]; exact e⟩
                · rw [z72, z72, if_neg (show ¬ i = v2.toNat by omega)]
                  by_cases cj : j = v2.toNat
                  · rw [if_pos cj, ce]
                    have := hA i (by omega)
                    omega
                  · rw [if_neg cj]; exact hO i j hij (by omega)
              · rw [w32_id (by omega)] at e2
                rw [e2]
                refine ihm (by omega) (by omega) i2 hu h73 (fun k hk => ?_) hI (fun t ht hlt => ?_) hO
                · have := hA k hk
                  exact ⟨this.1, by omega⟩
                · by_cases ct : (t : Int) = v4
                  · rcases hlt with hlt | hlt
                    · exact hS t ht (Or.inl hlt)
                    · have e : t = v4.toNat := by omega
                      rw [e] at hlt
                      exact absurd hlt.1 ce
                  · exact hS t ht (by omega)
        exact l111 FU (by decide) (by omega) i2 hu h73 (fun k hk => ⟨(hA k hk).1, Or.inl (hA k hk).2⟩) hI (fun t ht hlt => hS t ht (by omega)) hO
  -- the sums
  have l4 : ∀ (n : Nat) {v1 v2 : Int} {u : Wd}, 0 ≤ v2 → v2 ≤ w 43 40 → (∀ c, c ≠ 72 → c ≠ 73 → u c = w c) → (0 ≤ v1 ∧ v1 ≤ 1000 ∧ ∀ t : Nat, (t : Int) < v2 → u 73 t = Lf P X t ∧ Lf P X t ≤ v1) → PC (f_R_findOrder_4 n v1 v2 u) (fun _ u => (∀ c, c ≠ 72 → c ≠ 73 → u c = w c) ∧ ODR P X (w 43 40) u) := by
    intro n
    induction n with
    | zero => intros; exact pc_none
    | succ n ih =>
      intro v1 v2 u i2 i2' hu h73
      rw [f_R_findOrder_4, hu 43 (by decide) (by decide)]
      refine pc_ite (fun c => ?_) (fun c => pc_gd (fun _ => pc_let (fun x5 e5 => ?_)))
      · refine l103 FU (by decide) (by decide) hu ⟨h73.2.1, fun t ht => h73.2.2 t (by omega)⟩ (fun k hk => by omega) (fun i j hi => by omega) (fun t ht hlt => ?_) (fun i j hij hj => by omega)
        have := (lsm_rg (sof (X t)) P.toNat).1
        unfold Lf at hlt
        omega
      · obtain ⟨hxv, hcv⟩ := hx.1 v2.toNat (by omega)
        have hs := hxv.1.2.2
        rw [hu 63 (by decide) (by decide)] at e5
        have l25 : ∀ (m : Nat) {v3 v4 v5 : Int}, 0 ≤ v5 → v5 ≤ P → v3 = cdf (sof (X v2.toNat)) (P - v5).toNat → (0 ≤ v4 ∧ v4 + lsm (sof (X v2.toNat)) (P - v5).toNat = Lf P X v2.toNat) → PC (f_R_findOrder_25 (f_R_findOrder_4 n) m v1 v2 v3 v4 v5 u) (fun _ u => (∀ c, c ≠ 72 → c ≠ 73 → u c = w c) ∧ ODR P X (w 43 40) u) := by
          intro m
          induction m with
          | zero => intros; exact pc_none
          | succ m ihm =>
            intro v3 v4 v5 i5 i5' e3 e4
            rw [f_R_findOrder_25, hu 43 (by decide) (by decide), c0]
            have lr := lsm_rg (sof (X v2.toNat)) P.toNat
            have eL : Lf P X v2.toNat = lsm (sof (X v2.toNat)) P.toNat := rfl
            refine pc_ite (fun c5 => ?_) (fun c5 => ?_)
            · rw [show (P - v5).toNat = 0 by omega] at e4
              have e4' : v4 = Lf P X v2.toNat := by
                have : lsm (sof (X v2.toNat)) 0 = 0 := rfl
                omega
              refine pc_gd (fun _ => pc_lw (fun u6 e6 => pc_let (fun x7 e7 => pc_let (fun x8 e8 => ?_))))
              rw [w32_id (by omega)] at e8
              rw [e8]
              have mm := imax_sp v1 v4
              refine ih (by omega) (by omega) (fun c a b => by rw [e6, st_row b, hu c a b]) ⟨by omega, by omega, fun t ht => ?_⟩
              rw [e6]
              by_cases ck : t = v2.toNat
              · rw [ck, st_eq]; exact ⟨e4', by omega⟩
              · rw [st_k ck]
                obtain ⟨a1, a2⟩ := h73.2.2 t (by omega)
                exact ⟨a1, by omega⟩
            · have en : (P - v5).toNat = (P - (v5 + 1)).toNat + 1 := by omega
              rw [en] at e3 e4
              obtain ⟨d1, d2⟩ := dg5 (s := sof (X v2.toNat)) (n := (P - (v5 + 1)).toNat) (fun k hk => hs k (by omega)) (by omega)
              have hsk := hs (P - (v5 + 1)).toNat (by omega)
              have lr2 := lsm_rg (sof (X v2.toNat)) (P - (v5 + 1)).toNat
              have wr := wgt_rg (sof (X v2.toNat) (P - (v5 + 1)).toNat)
              rw [lsm] at e4
              have nx : ∀ z : Int, z = wgt (sof (X v2.toNat) (P - (v5 + 1)).toNat) → PC (f_R_findOrder_65 (f_R_findOrder_4 n) (f_R_findOrder_25 (f_R_findOrder_4 n) m) v1 v2 v3 v5 v4 z u) (fun _ u => (∀ c, c ≠ 72 → c ≠ 73 → u c = w c) ∧ ODR P X (w 43 40) u) := fun z ez => by
                unfold f_R_findOrder_65
                refine pc_let (fun x11 e11 => ?_)
                rw [w32_id (by omega)] at e11
                rw [if_neg (by decide), e3, d2]
                refine pc_let (fun x12 e12 => pc_let (fun x13 e13 => ?_))
                rw [w32_id (by omega)] at e13
                rw [e11, e12, e13]
                exact ihm (by omega) (by omega) rfl (by omega)
              have ew : ∀ v : Int, v = sof (X v2.toNat) (P - (v5 + 1)).toNat → wgt v = wgt (sof (X v2.toNat) (P - (v5 + 1)).toNat) := fun v e => by rw [e]
              rw [if_neg (by decide), e3, d1]
              rw [← e3]
              refine pc_ite (fun z => nx 100 ?_) (fun z => ?_)
              · rw [z]; rfl
              · rw [if_neg (by decide), isG_e, jc_s]
                cases hgs : gst (sof (X v2.toNat) (P - (v5 + 1)).toNat) with
                | false =>
                  refine pc_ite (fun _ => nx 0 ?_) (fun e => absurd rfl e)
                  unfold wgt
                  rw [if_neg z, if_neg (by rw [hgs]; decide)]
                | true =>
                  refine pc_ite (fun e => absurd e (by decide)) (fun _ => ?_)
                  rw [if_neg (by decide)]
                  refine nx _ ?_
                  unfold wgt
                  rw [if_neg z, if_pos hgs]
                  exact w32_id (by omega)
        rw [e5]
        refine l25 FU (by decide) hP.1 (by rw [show (P - 0).toNat = P.toNat by omega]; exact hcv) ⟨Int.le_refl _, ?_⟩
        rw [show (P - 0).toNat = P.toNat by omega]
        unfold Lf; omega
  unfold f_R_findOrder
  exact l4 FU (by decide) (by omega) (fun _ _ _ => rfl) ⟨by decide, by decide, fun t ht => by omega⟩
