/-! THE REFERENCE'S TABLE OF STATES -/
theorem g_fr {S : List Nat} {b u : Wd} (h : G S b u) (cs : List Nat) (hS : S.all (fun x => cs.contains (x / 100)) = true) : ∀ c, cs.contains c = false → u c = b c := by
  intro c hc
  funext k
  refine h.2.1 c k (mS_ar ?_ k)
  rw [List.all_eq_true]
  intro x hx
  have h1 := List.all_eq_true.mp hS x hx
  rw [Bool.or_eq_true, Nat.blt_eq, Nat.blt_eq]
  by_cases e : x / 100 = c
  · rw [e, hc] at h1; cases h1
  · omega
theorem g_43 {S : List Nat} {b u : Wd} (h : G S b u) (ks : List Nat) (hS : S.all (fun x => x / 100 != 43 || (x != 4399 && ks.contains (x - 4300))) = true) : ∀ k, ks.contains k = false → u 43 k = b 43 k := by
  intro k hk
  refine h.2.1 43 k ?_
  unfold mS
  have f : ∀ x, S.contains x = true → x / 100 ≠ 43 ∨ (x ≠ 4399 ∧ ks.contains (x - 4300) = true) := fun x hx => by
    have h1 := List.all_eq_true.mp hS x (List.contains_iff_mem.mp hx)
    rw [Bool.or_eq_true, Bool.and_eq_true, bne_iff_ne, bne_iff_ne] at h1
    exact h1
  cases h1 : S.contains (43 * 100 + 99) with
  | true =>
    rcases f _ h1 with e | e
    · exact absurd rfl e
    · exact absurd rfl e.1
  | false =>
    cases h2 : Nat.blt k 99 with
    | false => rfl
    | true =>
      rw [Nat.blt_eq] at h2
      cases h3 : S.contains (43 * 100 + k) with
      | false => rfl
      | true =>
        rcases f _ h3 with e | e
        · exact absurd (by omega) e
        · rw [show 43 * 100 + k - 4300 = k by omega, hk] at e
          cases e.2
theorem mfn {w : Wd} {c : Int} {e t : Nat} (hm : Miss w c e) (hz : w 67 (slot c e) = 0) : ¬ Fnd w c t := by
  rintro ⟨d', hd', hm', e1', e2'⟩
  rcases Nat.lt_trichotomy e d' with h | h | h
  · exact (hm' e h).1 hz
  · subst h
    rw [hz] at e1'
    omega
  · have h1 := (hm d' h).2
    rw [e1'] at h1
    exact absurd (by rw [show ((t : Int) + 1 - 1).toNat = t by omega]; exact e2') h1
theorem nf13 {c : Int} : ∀ (n : Nat) {v2 : Int} {w : Wd} {d : Nat}, (∀ p, 0 ≤ w 67 p ∧ w 67 p ≤ 3000) → (0 ≤ v2 ∧ v2 ≤ 8191) → v2.toNat = slot c d → Miss w c d → PC (f_R_stateOf_13 n c v2 w) (fun r _ => r = -1 → ∀ t, ¬ Fnd w c t) := by
  intro n
  induction n with
  | zero => intros; exact pc_none
  | succ n ih =>
    intro v2 w d hr i2 e2 hm
    rw [f_R_stateOf_13]
    have r2 := hr v2.toNat
    have z : w32 (w 67 v2.toNat - 1) = w 67 v2.toNat - 1 := w32_id (by omega)
    have f50 : (w 67 v2.toNat ≠ 0 ∨ Miss w c d) → PC (f_R_stateOf_50 c v2 w) (fun r _ => r = -1 → ∀ t, ¬ Fnd w c t) := fun _ => by
      unfold f_R_stateOf_50
      refine pc_gd (fun _ => pc_ite (fun c1 => ?_) (fun c1 => pc_gd (fun _ => pc_some (fun e => ?_))))
      · refine pc_ite (fun c2 => pc_some (fun _ t => mfn hm (by rw [← e2]; exact c1))) (fun c2 => ?_)
        refine pc_gd (fun g1 => pc_lw (fun u2 q2 => pc_gd (fun _ => pc_lw (fun u3 q3 => pc_lw (fun u4 q4 => pc_gd (fun _ => pc_lw (fun u5 q5 => pc_some (fun e => ?_))))))))
        exfalso
        have s3 : u3 43 40 = w 43 40 := by rw [q3, st_c (by decide), q2, st_c (by decide)]
        have s5 : u5 43 40 = w 43 40 + 1 := by rw [q5, st_c (by decide), q4, st_eq, s3]; exact w32_id (by omega)
        rw [s5, w32_id (by omega)] at e
        omega
      · exfalso
        rw [z] at e
        omega
    refine pc_gd (fun _ => pc_ite (fun c1 => f50 (Or.inr hm)) (fun c1 => pc_gd (fun _ => pc_gd (fun _ => ?_))))
    rw [z]
    refine pc_ite (fun c2 => f50 (Or.inl c1)) (fun c2 => pc_let (fun x6 e6 => ?_))
    obtain ⟨q1, q2⟩ := slot_s e2 i2
    rw [← e6] at q1 q2
    refine ih hr q2 q1 (fun j hj => ?_)
    by_cases cj : j < d
    · exact hm j cj
    · rw [show j = d by omega, ← e2]
      exact ⟨c1, c2⟩
/-- what a search of the reference leaves as it is -/
def FRX (w u : Wd) : Prop := (∀ c, c ≠ 43 → c ≠ 63 → c ≠ 65 → c ≠ 66 → c ≠ 67 → u c = w c) ∧ ∀ k, k ≠ 40 → k ≠ 41 → u 43 k = w 43 k
theorem frx_tr {w u v : Wd} (h : FRX w u) (h2 : FRX u v) : FRX w v := ⟨fun c a b d e f => (h2.1 c a b d e f).trans (h.1 c a b d e f), fun k a b => (h2.2 k a b).trans (h.2 k a b)⟩
theorem frx_self (w : Wd) : FRX w w := ⟨fun _ _ _ _ _ _ => rfl, fun _ _ _ => rfl⟩
theorem so_pc {w : Wd} {c : Int} (hG : G [] w w) (iv : -2147483648 ≤ c ∧ c ≤ 2147483647) : PC (f_R_stateOf c w) (fun r u => (G [] u u ∧ FRX w u ∧ u 65 = w 65 ∧ u 43 41 = w 43 41) ∧ SO w u c r ∧ (r = -1 → ∀ t, ¬ Fnd w c t)) := by
  have h2 : PC (f_R_stateOf c w) (fun r _ => r = -1 → ∀ t, ¬ Fnd w c t) := by
    unfold f_R_stateOf
    have hr := iand_r (x := iush (w32 (c * (-1640531535))) 19) (y := 8191) (by decide)
    refine pc_let (fun x1 e1 => nf13 FU (d := 0) (fun p => hG.1 67 p) (by rw [e1]; omega) ?_ (fun j hj => by omega))
    have hh : x1.toNat = hsh c := by rw [e1]; rfl
    rw [hh]
    unfold slot
    have hs : hsh c < 8192 := by rw [← hh, e1]; omega
    omega
  refine pc_w (pc_and (pc_ok (so (g_self hG) iv)) h2) (fun r u q => ?_)
  obtain ⟨⟨_, gu, hs⟩, hn⟩ := q
  refine ⟨⟨g_self gu, ⟨fun k a b d e f => ?_, fun k a b => ?_⟩, ?_, ?_⟩, hs, hn⟩
  · refine g_fr gu [43, 63, 66, 67] (by decide) k ?_
    simp [a, b, e, f]
  · refine g_43 gu [40] (by decide) k ?_
    simp [a]
  · exact g_fr gu [43, 63, 66, 67] (by decide) 65 (by decide)
  · exact g_43 gu [40] (by decide) 41 (by decide)
/-- behind a WEEK -/
def BEQ (w u : Wd) (c : Int) (ok : Prop) (r : Int) : Prop := (G [] u u ∧ FRX w u ∧ u 65 = w 65 ∧ u 43 41 = w 43 41) ∧ ((¬ ok ∧ r = -1 ∧ u = w) ∨ (ok ∧ r = -2 ∧ u = w ∧ w 43 40 = 3000 ∧ ∀ t, ¬ Fnd w c t) ∨ (ok ∧ 0 ≤ r ∧ SO w u c r))
theorem be120 {w : Wd} {c : Int} {ok : Prop} (hG : G [] w w) (iv : -2147483648 ≤ c ∧ c ≤ 2147483647) (hok : ok) : PC (f_R_behind_120 c w) (fun r u => BEQ w u c ok r) := by
  unfold f_R_behind_120
  refine pc_call (so_pc hG iv) (fun r1 u2 q => ?_)
  obtain ⟨q1, q2, q3⟩ := q
  have a40 : (0 : Int) ≤ w 43 40 ∧ w 43 40 ≤ 3000 := hG.1 43 40
  refine pc_ite (fun e => pc_some ⟨q1, Or.inr (Or.inl ⟨hok, rfl, ?_⟩)⟩) (fun e => pc_some ⟨q1, Or.inr (Or.inr ⟨hok, ?_, q2⟩)⟩)
  · rcases q2.2.2 with h1 | h1 | h1
    · exact ⟨h1.2.1, h1.2.2, q3 e⟩
    · exfalso; omega
    · exfalso; omega
  · rcases q2.2.2 with h1 | h1 | h1
    · exact absurd h1.1 e
    · exact h1.1
    · omega
theorem be_pc {P g se : Int} {s : Nat → Int} {w : Wd} {v1 v2 m : Int} (hG : G [] w w) (hP : 0 ≤ P ∧ P ≤ 10) (h0 : w 43 0 = P) (hg : w 43 10 = g) (hse : w 43 11 = se) (hg3 : g ≤ 3) (h68 : ∀ k : Nat, (k : Int) < P → w 68 k = s k) (hs : ∀ k : Nat, (k : Int) < P → 0 ≤ s k ∧ s k ≤ 4) (hm : ior v1 v2 = m) (hmr : 0 ≤ m ∧ m ≤ 1023) (hin : ∀ k, k < 10 → bt m k = true → (k : Int) < P) : PC (f_R_behind v1 v2 w) (fun r u => BEQ w u (cdf (nis P s g (bt m)) P.toNat) (v1 = 0 ∨ ((pn (fun k => sty P s g k || bt m k) 10 : Nat) : Int) ≤ se) r) := by
  have gn : ∀ k : Nat, (k : Int) < P → gst (nis P s g (bt m) k) = (sty P s g k || bt m k) := fun k hk => by
    unfold nis sty gs
    rw [show inP P k = true from decide_eq_true hk]
    cases hb : bt m k with
    | true => simp; decide
    | false =>
      cases hgs : gst (s k) with
      | false => simp [hgs]
      | true =>
        have h1 : 1 ≤ s k ∧ s k < 4 := of_decide_eq_true hgs
        by_cases c : s k < g
        · rw [decide_eq_true c]
          simp [c]
          exact decide_eq_true (by omega)
        · rw [decide_eq_false c]
          simp [c]
          exact decide_eq_false (by omega)
  have cnt : pn (fun k => gst (nis P s g (bt m) k)) P.toNat = pn (fun k => sty P s g k || bt m k) 10 := by
    rw [pn_cut (f := fun k => sty P s g k || bt m k) (n := P.toNat) (m := 10) (by omega) (fun k h1 h2 => ?_)]
    · exact pn_eq (fun k hk => gn k (by omega))
    · have ip : inP P k = false := decide_eq_false (by omega)
      have hb : bt m k = false := by
        cases hb : bt m k with
        | false => rfl
        | true => have := hin k h2 hb; omega
      show (sty P s g k || bt m k) = false
      unfold sty gs
      rw [ip, hb]; rfl
  have nr : ∀ k : Nat, (k : Int) < P → 0 ≤ nis P s g (bt m) k ∧ nis P s g (bt m) k ≤ 4 := fun k hk => nis_rg hg3 (hs k hk)
  have l8 : ∀ (n : Nat) {v3 v4 v5 : Int}, 0 ≤ v5 → v5 ≤ P → v3 = cdf (nis P s g (bt m)) v5.toNat → v4 = ((pn (fun k => gst (nis P s g (bt m) k)) v5.toNat : Nat) : Int) → PC (f_R_behind_8 n v1 v2 v3 v4 v5 w) (fun r u => BEQ w u (cdf (nis P s g (bt m)) P.toNat) (v1 = 0 ∨ ((pn (fun k => sty P s g k || bt m k) 10 : Nat) : Int) ≤ se) r) := by
    intro n
    induction n with
    | zero => intros; exact pc_none
    | succ n ih =>
      intro v3 v4 v5 i5 i5' e3 e4
      rw [f_R_behind_8, h0]
      have c1 := cdf_rg (s := nis P s g (bt m)) (n := v5.toNat) (fun k hk => nr k (by omega))
      have c2 := p5_le v5.toNat (by omega)
      refine pc_ite (fun c => ?_) (fun c => ?_)
      · have e5 : v5 = P := by omega
        rw [e5] at e3 e4 c1 c2
        rw [cnt] at e4
        rw [← e3]
        refine pc_ite (fun z => be120 hG (by rw [e3]; omega) (Or.inl z)) (fun z => ?_)
        rw [hse]
        refine pc_ite (fun z2 => be120 hG (by rw [e3]; omega) (Or.inr (by omega))) (fun z2 => pc_some ⟨⟨hG, frx_self w, rfl, rfl⟩, Or.inl ⟨fun ho => ?_, rfl, rfl⟩⟩)
        rcases ho with h1 | h1
        · exact z h1
        · omega
      · have k5 : (v5.toNat : Int) < P := by omega
        have nk := nr v5.toNat k5
        have pl := pn_le (fun k => gst (nis P s g (bt m) k)) v5.toNat
        have f89 : ∀ (x z : Int), x = nis P s g (bt m) v5.toNat → z = (if gst (nis P s g (bt m) v5.toNat) = true then 1 else 0) → PC (f_R_behind_89 (f_R_behind_8 n) v1 v2 v3 v5 x v4 z w) (fun r u => BEQ w u (cdf (nis P s g (bt m)) P.toNat) (v1 = 0 ∨ ((pn (fun k => sty P s g k || bt m k) 10 : Nat) : Int) ≤ se) r) := fun x z ex ez => by
          unfold f_R_behind_89
          have z01 : 0 ≤ z ∧ z ≤ 1 := by rw [ez]; split <;> decide
          refine pc_let (fun x10 e10 => pc_let (fun x11 e11 => pc_let (fun x12 e12 => ?_)))
          rw [w32_id (by omega)] at e12
          rw [w32_id (by omega)] at e10
          rw [e3, ex, w32_id (show -2147483648 ≤ 5 * cdf (nis P s g (bt m)) v5.toNat ∧ 5 * cdf (nis P s g (bt m)) v5.toNat ≤ 2147483647 by omega), w32_id (by omega)] at e11
          rw [e10, e11, e12]
          refine ih (by omega) (by omega) (by rw [show (v5 + 1).toNat = v5.toNat + 1 by omega, cdf]) ?_
          rw [show (v5 + 1).toNat = v5.toNat + 1 by omega, pn, e4, ez]
          cases gst (nis P s g (bt m) v5.toNat) <;> simp
        have f74 : ∀ x : Int, x = nis P s g (bt m) v5.toNat → PC (f_R_behind_74 (f_R_behind_8 n) v1 v2 v3 v4 v5 x w) (fun r u => BEQ w u (cdf (nis P s g (bt m)) P.toNat) (v1 = 0 ∨ ((pn (fun k => sty P s g k || bt m k) 10 : Nat) : Int) ≤ se) r) := fun x ex => by
          unfold f_R_behind_74
          rw [isG_e, jc_s, ex]
          cases hb : gst (nis P s g (bt m) v5.toNat) with
          | false => exact pc_ite (fun _ => f89 _ 0 rfl (by rw [hb]; rfl)) (fun e => absurd rfl e)
          | true => exact pc_ite (fun e => absurd e (by decide)) (fun _ => f89 _ 1 rfl (by rw [hb]; rfl))
        have sk := hs v5.toNat k5
        refine pc_gd (fun _ => pc_let (fun x3 ex3 => ?_))
        rw [h68 v5.toNat k5] at ex3
        rw [hm, hasR_10 w (b10_self hmr) (by omega), jc_s, ex3]
        cases hb : bt m v5.toNat with
        | true =>
          refine pc_ite (fun e => absurd e (by decide)) (fun _ => f74 1 ?_)
          unfold nis; rw [hb]; rfl
        | false =>
          refine pc_ite (fun _ => ?_) (fun e => absurd rfl e)
          rw [isG_e, jc_s]
          cases hgs : gst (s v5.toNat) with
          | false =>
            refine pc_ite (fun _ => f74 _ ?_) (fun e => absurd rfl e)
            unfold nis; rw [hb, hgs]; rfl
          | true =>
            refine pc_ite (fun e => absurd e (by decide)) (fun _ => ?_)
            have e1 : w32 (s v5.toNat + 1) = s v5.toNat + 1 := w32_id (by omega)
            have e2 : w32 (s v5.toNat + 1 - 1) = s v5.toNat := (w32_id (by omega)).trans (by omega)
            rw [e1, e2, hg]
            unfold f_R_behind_72
            refine pc_ite (fun z => f74 _ ?_) (fun z => f74 _ ?_)
            · unfold nis; rw [hb, hgs]; simp [z]
            · unfold nis; rw [hb, hgs]; simp [z]
  unfold f_R_behind
  exact l8 FU (by decide) hP.1 rfl rfl
/-! ALL STATES BEHIND ONE: the reference -/
def EXT (P : Int) (kn : Nat → Int) (br fr : Nat → Bool) : Nat → Int → Int → Prop
  | 0, m, m' => m' = m
  | n + 1, m, m' => EXT P kn br fr n m m' ∨ ∃ o : Nat, o < 10 ∧ br (P.toNat - (n + 1)) = true ∧ fr o = true ∧ bt (kn (P.toNat - (n + 1))) o = true ∧ bt m o = false ∧ EXT P kn br fr n (sq m (P.toNat - (n + 1)) o) m'
theorem drc_add {P : Int} {kn : Nat → Int} {br fr sy : Nat → Bool} {d i o : Nat} {f m : Int} (h : DRC P 20 kn br fr sy d f m) (hf : f ≤ (i : Int)) (hi : (i : Int) < P) (ho : o < 10) (hb : br i = true) (hfr : fr o = true) (hk : bt (kn i) o = true) (hm : bt m o = false) : DRC P 20 kn br fr sy (d + 1) ((i : Int) + 1) (sq m i o) :=
  ⟨f, m, h, i, o, hf, hi, ho, hb, hfr, hk, hm, rfl, by have := pn_le (fun k => sy k || bt (sq m i o) k) 10; omega, rfl⟩
theorem ext_all {P : Int} {kn : Nat → Int} {br fr sy : Nat → Bool} (hP : 0 ≤ P ∧ P ≤ 10) {d : Nat} {f m : Int} (h : DRC P 20 kn br fr sy d f m) : EXT P kn br fr P.toNat 0 m := by
  have key : ∀ i : Nat, (i : Int) ≤ P → ∀ {d : Nat} {f m : Int}, DRC P 20 kn br fr sy d f m → f ≤ (i : Int) → ∀ m', EXT P kn br fr (P.toNat - i) m m' → EXT P kn br fr P.toNat 0 m' := by
    intro i
    induction i with
    | zero =>
      intro _ d f m h hf m' he
      cases d with
      | zero =>
        obtain ⟨_, e⟩ := h
        rw [e] at he; exact he
      | succ d =>
        obtain ⟨f0, m0, h0, j, o, h1, h2, h3, h4, h5, h6, h7, h8, h9, h10⟩ := h
        have := (drc_rg hP h0).2.1
        omega
    | succ i ih =>
      intro hi d f m h hf m' he
      have en : P.toNat - i = (P.toNat - (i + 1)) + 1 := by omega
      by_cases c : f ≤ (i : Int)
      · refine ih (by omega) h c m' ?_
        rw [en]
        exact Or.inl he
      · cases d with
        | zero => obtain ⟨e, _⟩ := h; omega
        | succ d =>
          obtain ⟨f0, m0, h0, j, o, h1, h2, h3, h4, h5, h6, h7, h8, h9, h10⟩ := h
          have ej : j = i := by omega
          subst ej
          refine ih (by omega) h0 (by omega) m' ?_
          rw [en]
          refine Or.inr ⟨o, h3, ?_, h5, ?_, h7, ?_⟩
          · rw [show P.toNat - (P.toNat - (j + 1) + 1) = j by omega]; exact h4
          · rw [show P.toNat - (P.toNat - (j + 1) + 1) = j by omega]; exact h6
          · rw [show P.toNat - (P.toNat - (j + 1) + 1) = j by omega, ← h8]; exact he
  have r := drc_rg hP h
  exact key P.toNat (by omega) h (by omega) m (by rw [Nat.sub_self]; exact rfl)
def VLS (P g se : Int) (h kn : Nat → Int) (x0 x : Int) : Prop := WH x (sof x) P ∧ ∃ n, RCX P g se h kn x0 n x
def COD (P g se : Int) (h kn : Nat → Int) (x0 : Int) (w : Wd) : Prop := (∀ t : Nat, (t : Int) < w 43 40 → Fnd w (w 63 t) t) ∧ ∀ t : Nat, (t : Int) < w 43 40 → ∃ x, VLS P g se h kn x0 x ∧ w 63 t = cdx P x
def JIx (P g se : Int) (h kn : Nat → Int) (x0 x fr e0 : Int) (w : Wd) : Prop := G [] w w ∧ COD P g se h kn x0 w ∧ (0 ≤ e0 ∧ e0 ≤ w 43 41) ∧ (∀ e : Nat, e0 ≤ (e : Int) → (e : Int) < w 43 41 → (0 ≤ w 65 e ∧ w 65 e < w 43 40) ∧ w 66 (w 65 e).toNat = fr ∧ ∃ y, SUX P g se h kn x y ∧ w 63 (w 65 e).toNat = cdx P y) ∧ (∀ t : Nat, (t : Int) < w 43 40 → w 66 t = fr → ∃ e : Nat, e0 ≤ (e : Int) ∧ (e : Int) < w 43 41 ∧ w 65 e = (t : Int)) ∧ ∀ t : Nat, (t : Int) < w 43 40 → w 66 t ≤ fr
def GRR (w u : Wd) : Prop := FRX w u ∧ w 43 40 ≤ u 43 40 ∧ (∀ t : Nat, (t : Int) < w 43 40 → u 63 t = w 63 t) ∧ w 43 41 ≤ u 43 41 ∧ ∀ e : Nat, (e : Int) < w 43 41 → u 65 e = w 65 e
theorem grr_self (w : Wd) : GRR w w := ⟨frx_self w, Int.le_refl _, fun _ _ => rfl, Int.le_refl _, fun _ _ => rfl⟩
theorem grr_tr {w u v : Wd} (h : GRR w u) (h2 : GRR u v) : GRR w v := by
  obtain ⟨a1, a2, a3, a4, a5⟩ := h
  obtain ⟨b1, b2, b3, b4, b5⟩ := h2
  exact ⟨frx_tr a1 b1, by omega, fun t ht => (b3 t (by omega)).trans (a3 t ht), by omega, fun e he => (b5 e (by omega)).trans (a5 e he)⟩
def EDG (e0 : Int) (u : Wd) (c : Int) : Prop := ∃ e : Nat, e0 ≤ (e : Int) ∧ (e : Int) < u 43 41 ∧ (0 ≤ u 65 e ∧ u 65 e < u 43 40) ∧ u 63 (u 65 e).toNat = c
theorem edg_grr {e0 c : Int} {w u : Wd} (h : GRR w u) (he : EDG e0 w c) : EDG e0 u c := by
  obtain ⟨e, h1, h2, h3, h4⟩ := he
  obtain ⟨_, b2, b3, b4, b5⟩ := h
  exact ⟨e, h1, by omega, by rw [b5 e h2]; omega, by rw [b5 e h2, b3 _ (by omega)]; exact h4⟩
def RCx (P g se : Int) (h kn s : Nat → Int) (w : Wd) : Prop := w 43 0 = P ∧ w 43 10 = g ∧ w 43 11 = se ∧ (∀ k : Nat, (k : Int) < P → w 68 k = s k) ∧ (∀ j : Nat, (j : Int) < P → w 45 j = kn j ∧ 0 ≤ kn j ∧ kn j ≤ 1023) ∧ ∃ nm, B10 (w 43 44) nm ∧ ∀ k : Nat, (k : Int) < P → nm k = hB P h k
theorem rct_frx {P g se : Int} {h kn s : Nat → Int} {w u : Wd} (hr : RCx P g se h kn s w) (f : FRX w u) : RCx P g se h kn s u := by
  unfold RCx
  rw [f.2 0 (by decide) (by decide), f.2 10 (by decide) (by decide), f.2 11 (by decide) (by decide), f.2 44 (by decide) (by decide), f.1 68 (by decide) (by decide) (by decide) (by decide) (by decide), f.1 45 (by decide) (by decide) (by decide) (by decide) (by decide)]
  exact hr
/-- one leaf: the STATE behind this WEEK has its edge, or there are too many STATES -/
theorem leaf_pc {P g se : Int} {h kn : Nat → Int} {x0 x fr e0 : Int} {w : Wd} {v3 v4 m : Int} {d : Nat} {f : Int} (hP : 0 ≤ P ∧ P ≤ 10) (hg : 1 ≤ g ∧ g ≤ 3) (h0 : WH x0 (sof x0) P) (hx : VLS P g se h kn x0 x) (hR : RCx P g se h kn (sof x) w) (hJ : JIx P g se h kn x0 x fr e0 w) (hfr : 0 ≤ fr ∧ fr ≤ 2999) (hD : DRC P 20 kn (gs P (sof x)) (fre P (sof x) h) (sty P (sof x) g) d f m) (hm : ior v3 v4 = m) (h3 : v3 = 0 ↔ d = 0) : PC (jcall (f_R_behind v3 v4 w) fun r10 u11 => if r10 = (-2) then some (0, u11) else if r10 = (-1) then some (1, u11) else jgd ((0 : Int) ≤ r10 ∧ r10 < 3000) <| if (u11 66 r10.toNat) = fr then some (1, u11) else jgd ((0 : Int) ≤ r10 ∧ r10 < 3000) <| jlw (st u11 66 r10.toNat fr) fun u12 => jgd ((0 : Int) ≤ (u12 43 41) ∧ (u12 43 41) < 756000) <| jlw (st u12 65 (u12 43 41).toNat r10) fun u13 => jlw (st u13 43 41 (w32 ((u13 43 41) + 1))) fun u14 => some (1, u14)) (fun r u => JIx P g se h kn x0 x fr e0 u ∧ GRR w u ∧ ((r = 0 ∧ MNY P g se h kn x0) ∨ (r = 1 ∧ ((d = 0 ∨ ((pn (fun k => sty P (sof x) g k || bt m k) 10 : Nat) : Int) ≤ se) → EDG e0 u (cdf (nis P (sof x) g (bt m)) P.toNat))))) := by
  obtain ⟨c0, c10, c11, c68, c45, _⟩ := hR
  obtain ⟨hG, ⟨hC1, hC2⟩, he0, hE, hS, hU⟩ := hJ
  have hmr := drc_rg hP hD
  have a40 : (0 : Int) ≤ w 43 40 ∧ w 43 40 ≤ 3000 := hG.1 43 40
  have hin : ∀ k, k < 10 → bt m k = true → (k : Int) < P ∧ sof x k ≠ 4 := fun k hk hb => by
    have hM : MVS P g 20 h kn (sof x) m := ⟨d, f, hD⟩
    exact mvs_ok hP hM k hk hb
  refine pc_call (be_pc hG hP c0 c10 c11 hg.2 c68 hx.1.2.2 hm hmr.1 (fun k hk hb => (hin k hk hb).1)) (fun r10 u11 q => ?_)
  obtain ⟨⟨q1, q2, q3, q4⟩, q5⟩ := q
  obtain ⟨y, _, hy⟩ := after_e (v := m) hx.1 hP hg (b10_self hmr.1) hin w
  have ecy : cdf (nis P (sof x) g (bt m)) P.toNat = cdx P y := (cdx_wh hP hy).symm
  have okk : (v3 = 0 ∨ ((pn (fun k => sty P (sof x) g k || bt m k) 10 : Nat) : Int) ≤ se) ↔ (d = 0 ∨ ((pn (fun k => sty P (sof x) g k || bt m k) 10 : Nat) : Int) ≤ se) := by rw [h3]
  rw [okk] at q5
  have sux : (d = 0 ∨ ((pn (fun k => sty P (sof x) g k || bt m k) 10 : Nat) : Int) ≤ se) → SUX P g se h kn x y := fun ho => ⟨m, ⟨d, f, (drc_se hP).mpr ⟨hD, ho⟩⟩, hy⟩
  have vy : (d = 0 ∨ ((pn (fun k => sty P (sof x) g k || bt m k) 10 : Nat) : Int) ≤ se) → VLS P g se h kn x0 y := fun ho => by
    obtain ⟨n, hn⟩ := hx.2
    exact ⟨wh_sof hy hP.2, n + 1, x, hn, sux ho⟩
  rcases q5 with ⟨n1, e, eu⟩ | ⟨ho, e, eu, e40, nf⟩ | ⟨ho, hr, s1, s2, s3⟩
  · refine pc_ite (fun e2 => by omega) (fun _ => pc_ite (fun _ => pc_some ?_) (fun e2 => absurd e e2))
    rw [eu]
    exact ⟨⟨hG, ⟨hC1, hC2⟩, he0, hE, hS, hU⟩, grr_self w, Or.inr ⟨rfl, fun ho => absurd ho n1⟩⟩
  · refine pc_ite (fun _ => pc_some ?_) (fun e2 => absurd e e2)
    rw [eu]
    refine ⟨⟨hG, ⟨hC1, hC2⟩, he0, hE, hS, hU⟩, grr_self w, Or.inl ⟨rfl, ?_⟩⟩
    have ch : ∀ t : Nat, ∃ z, (t : Int) < w 43 40 → VLS P g se h kn x0 z ∧ w 63 t = cdx P z := fun t => by
      by_cases c : (t : Int) < w 43 40
      · obtain ⟨z, hz⟩ := hC2 t c
        exact ⟨z, fun _ => hz⟩
      · exact ⟨0, fun hh => absurd hh c⟩
    have hF : ∃ F : Nat → Int, ∀ t : Nat, (t : Int) < w 43 40 → VLS P g se h kn x0 (F t) ∧ w 63 t = cdx P (F t) := ⟨fun t => Classical.choose (ch t), fun t => Classical.choose_spec (ch t)⟩
    obtain ⟨F, hF⟩ := hF
    refine ⟨fun i => if i < 3000 then F i else y, fun i hi => ?_, fun i j hi hj e2 => ?_⟩
    · show ∃ t, RCX P g se h kn x0 t (if i < 3000 then F i else y)
      by_cases c : i < 3000
      · rw [if_pos c]; exact (hF i (by omega)).1.2
      · rw [if_neg c]; exact (vy ho).2
    · have e3 : (if i < 3000 then F i else y) = (if j < 3000 then F j else y) := e2
      have new : ∀ t : Nat, (t : Int) < w 43 40 → F t ≠ y := fun t ht ee => by
        apply nf t
        rw [ecy, ← ee, ← (hF t ht).2]
        exact hC1 t ht
      by_cases ci : i < 3000 <;> by_cases cj : j < 3000
      · rw [if_pos ci, if_pos cj] at e3
        have h1 := hC1 i (by omega)
        rw [(hF i (by omega)).2, e3, ← (hF j (by omega)).2] at h1
        exact fnd_one h1 (hC1 j (by omega))
      · rw [if_pos ci, if_neg cj] at e3
        exact absurd e3 (new i (by omega))
      · rw [if_neg ci, if_pos cj] at e3
        exact absurd e3.symm (new j (by omega))
      · omega
  · refine pc_ite (fun e2 => by omega) (fun _ => pc_ite (fun e2 => by omega) (fun _ => pc_gd (fun _ => ?_)))
    have u40 : (0 : Int) ≤ u11 43 40 ∧ u11 43 40 ≤ 3000 := q1.1 43 40
    have u41 : (0 : Int) ≤ u11 43 41 ∧ u11 43 41 ≤ 756000 := q1.1 43 41
    have le40 : w 43 40 ≤ u11 43 40 := by
      rcases s3 with h1 | h1 | h1
      · exfalso; omega
      · rw [h1.2.2.1]; exact Int.le_refl _
      · omega
    have hfn : Fnd u11 (cdf (nis P (sof x) g (bt m)) P.toNat) r10.toNat := by
      rcases s3 with h1 | h1 | h1
      · omega
      · exact h1.2.2.2
      · exact h1.2.2.2
    have rlt : r10 < u11 43 40 := by
      rcases s3 with h1 | h1 | h1
      · omega
      · rw [h1.2.2.1]; exact h1.2.1
      · omega
    have ecr : u11 63 r10.toNat = cdf (nis P (sof x) g (bt m)) P.toNat := by
      obtain ⟨_, _, _, _, e2⟩ := hfn
      exact e2
    have g11 : GRR w u11 := ⟨q2, le40, fun t ht => (s2 t ht).1, by rw [q4]; exact Int.le_refl _, fun e _ => by rw [q3]⟩
    have cod : COD P g se h kn x0 u11 := by
      constructor
      · intro t ht
        by_cases c : (t : Int) < w 43 40
        · rw [(s2 t c).1]; exact s1 _ t (hC1 t c)
        · have et : t = r10.toNat := by
            rcases s3 with h1 | h1 | h1
            · omega
            · rw [h1.2.2.1] at ht; omega
            · omega
          rw [et, ecr]; exact hfn
      · intro t ht
        by_cases c : (t : Int) < w 43 40
        · rw [(s2 t c).1]; exact hC2 t c
        · have et : t = r10.toNat := by
            rcases s3 with h1 | h1 | h1
            · omega
            · rw [h1.2.2.1] at ht; omega
            · omega
          rw [et, ecr, ecy]; exact ⟨y, vy ho, rfl⟩
    have J11 : JIx P g se h kn x0 x fr e0 u11 := by
      refine ⟨q1, cod, by rw [q4]; exact he0, fun e h1 h2 => ?_, fun t ht hs => ?_, fun t ht => ?_⟩
      · rw [q4] at h2
        rw [q3]
        obtain ⟨a1, a2, y', a3, a4⟩ := hE e h1 h2
        have s2' := s2 (w 65 e).toNat (by omega)
        exact ⟨by omega, by rw [s2'.2]; exact a2, y', a3, by rw [s2'.1]; exact a4⟩
      · have c : (t : Int) < w 43 40 := by
          refine Classical.byContradiction fun c => ?_
          rcases s3 with h1 | h1 | h1
          · omega
          · rw [h1.2.2.1] at ht; omega
          · have et : t = r10.toNat := by omega
            rw [et, h1.2.2.1] at hs
            omega
        rw [(s2 t c).2] at hs
        rw [q4, q3]
        exact hS t c hs
      · by_cases c : (t : Int) < w 43 40
        · rw [(s2 t c).2]; exact hU t c
        · rcases s3 with h1 | h1 | h1
          · omega
          · rw [h1.2.2.1] at ht; omega
          · have et : t = r10.toNat := by omega
            rw [et, h1.2.2.1]; omega
    refine pc_ite (fun c => pc_some ⟨J11, g11, Or.inr ⟨rfl, fun _ => ?_⟩⟩) (fun c => ?_)
    · obtain ⟨e, h1, h2, h4⟩ := J11.2.2.2.2.1 r10.toNat (by omega) c
      exact ⟨e, h1, h2, by omega, by rw [h4, show ((r10.toNat : Nat) : Int).toNat = r10.toNat by omega]; exact ecr⟩
    · refine pc_gd (fun _ => pc_lw (fun u12 e12 => pc_gd (fun g12 => pc_lw (fun u13 e13 => pc_lw (fun u14 e14 => pc_some ?_)))))
      have x41 : u12 43 41 = u11 43 41 := by rw [e12, st_c (by decide)]
      rw [x41] at e13 g12
      have y41 : u13 43 41 = u11 43 41 := by rw [e13, st_c (by decide)]; exact x41
      rw [y41, w32_id (by omega)] at e14
      have G12 : G [6699] u11 u12 := g_st (g_self q1) e12 rfl rfl (show (-1 : Int) ≤ fr ∧ fr ≤ 2999 by omega)
      have G13 : G [6599] u12 u13 := g_st (g_self G12) e13 rfl rfl (show (0 : Int) ≤ r10 ∧ r10 ≤ 2999 by omega)
      have G14 : G [4341] u13 u14 := g_st (g_self G13) e14 rfl rfl (show (0 : Int) ≤ u11 43 41 + 1 ∧ u11 43 41 + 1 ≤ 756000 by omega)
      have z41 : u14 43 41 = u11 43 41 + 1 := by rw [e14, st_eq]
      have z40 : u14 43 40 = u11 43 40 := by rw [e14, st_k (by decide), e13, st_c (by decide), e12, st_c (by decide)]
      have z63 : u14 63 = u11 63 := by rw [e14, st_row (by decide), e13, st_row (by decide), e12, st_row (by decide)]
      have z67 : u14 67 = u11 67 := by rw [e14, st_row (by decide), e13, st_row (by decide), e12, st_row (by decide)]
      have z65 : ∀ k, u14 65 k = if k = (u11 43 41).toNat then r10 else u11 65 k := fun k => by
        rw [e14, st_c (by decide), e13]
        by_cases ck : k = (u11 43 41).toNat
        · rw [if_pos ck, ck, st_eq]
        · rw [if_neg ck, st_k ck, e12, st_c (by decide)]
      have z66 : ∀ k, u14 66 k = if k = r10.toNat then fr else u11 66 k := fun k => by
        rw [e14, st_c (by decide), e13, st_c (by decide), e12]
        by_cases ck : k = r10.toNat
        · rw [if_pos ck, ck, st_eq]
        · rw [if_neg ck, st_k ck]
      have f14 : FRX u11 u14 := ⟨fun c a1 a2 a3 a4 a5 => by rw [e14, st_row a1, e13, st_row a3, e12, st_row a4], fun k a1 a2 => by rw [e14, st_k a2, e13, st_c (by decide), e12, st_c (by decide)]⟩
      have g14 : GRR u11 u14 := ⟨f14, by rw [z40]; exact Int.le_refl _, fun t _ => by rw [z63], by omega, fun e he => by rw [z65, if_neg (by omega)]⟩
      refine ⟨⟨g_self G14, ⟨fun t ht => ?_, fun t ht => ?_⟩, by rw [z41, q4]; omega, fun e h1 h2 => ?_, fun t ht hs => ?_, fun t ht => ?_⟩, grr_tr g11 g14, Or.inr ⟨rfl, fun _ => ?_⟩⟩
      · rw [z40] at ht
        rw [z63]
        exact fnd_congr (fun k => by rw [z67]) (fun k => by rw [z63]) (cod.1 t ht)
      · rw [z40] at ht
        rw [z63]; exact cod.2 t ht
      · rw [z41] at h2
        rw [z65, z40, z63]
        by_cases ck : e = (u11 43 41).toNat
        · rw [if_pos ck]
          exact ⟨by omega, by rw [z66, if_pos rfl], y, sux ho, by rw [ecr]; exact ecy⟩
        · rw [if_neg ck]
          obtain ⟨a1, a2, a3⟩ := J11.2.2.2.1 e h1 (by omega)
          refine ⟨a1, ?_, a3⟩
          rw [z66]
          split
          · rfl
          · exact a2
      · rw [z40] at ht
        rw [z66] at hs
        by_cases ck : t = r10.toNat
        · exact ⟨(u11 43 41).toNat, by rw [q4]; omega, by omega, by rw [z65, if_pos rfl]; omega⟩
        · rw [if_neg ck] at hs
          obtain ⟨e, h1, h2, h3'⟩ := J11.2.2.2.2.1 t ht hs
          exact ⟨e, h1, by omega, by rw [z65, if_neg (by omega)]; exact h3'⟩
      · rw [z40] at ht
        rw [z66]
        split
        · exact Int.le_refl _
        · exact J11.2.2.2.2.2 t ht
      · exact ⟨(u11 43 41).toNat, by rw [q4]; omega, by omega, by rw [z65, if_pos rfl, z40]; omega, by rw [z65, if_pos rfl, z63]; exact ecr⟩
/-- all of them -/
theorem gp_pc {P g se : Int} {h kn : Nat → Int} {x0 x fr e0 : Int} (hP : 0 ≤ P ∧ P ≤ 10) (hg : 1 ≤ g ∧ g ≤ 3) (h0 : WH x0 (sof x0) P) (hx : VLS P g se h kn x0 x) (hfr : 0 ≤ fr ∧ fr ≤ 2999) : ∀ (D : Nat) {v2 v3 v4 m : Int} {d : Nat} {f : Int} {w : Wd}, RCx P g se h kn (sof x) w → JIx P g se h kn x0 x fr e0 w → DRC P 20 kn (gs P (sof x)) (fre P (sof x) h) (sty P (sof x) g) d f m → f ≤ v2 → v2 ≤ P → B10 v3 (fun k => bt m k && gs P (sof x) k) → B10 v4 (fun k => bt m k && fre P (sof x) h k) → PC (f_R_goPairs D fr v2 v3 v4 w) (fun r u => JIx P g se h kn x0 x fr e0 u ∧ GRR w u ∧ ((r = 0 ∧ MNY P g se h kn x0) ∨ (r = 1 ∧ ∀ m', EXT P kn (gs P (sof x)) (fre P (sof x) h) (P - v2).toNat m m' → (m' = 0 ∨ ((pn (fun k => sty P (sof x) g k || bt m' k) 10 : Nat) : Int) ≤ se) → EDG e0 u (cdf (nis P (sof x) g (bt m')) P.toNat)))) := by
  intro D
  induction D with
  | zero => intros; exact pc_none
  | succ D ih =>
    intro v2 v3 v4 m d f w hR hJ hD hf2 h2P hB3 hB4
    have hmr := drc_rg hP hD
    have dsj : ∀ k, k < 10 → gs P (sof x) k = true → fre P (sof x) h k = false := gs_fre
    have hm : ior v3 v4 = m := b10_eq (b10_or hB3 hB4) (b10_self hmr.1) (fun k hk => by
      cases hb : bt m k with
      | false => rfl
      | true =>
        rcases (drc_fr hP dsj hD).2.2 k hk hb with ⟨_, e⟩ | e
        · rw [e]; rfl
        · rw [e]; simp)
    have md : ∀ {d : Nat} {f m : Int}, DRC P 20 kn (gs P (sof x)) (fre P (sof x) h) (sty P (sof x) g) d f m → (m = 0 ↔ d = 0) := fun {d f m} hD => by
      have := (drc_pn hP dsj hD).1
      constructor
      · intro e
        rw [e, pn_0 (fun k _ => bt_0 k)] at this; omega
      · intro e
        rw [e] at hD; exact hD.2
    have h3 : v3 = 0 ↔ d = 0 := by
      constructor
      · intro e
        cases d with
        | zero => rfl
        | succ d =>
          rcases (drc_fr hP dsj hD).2.1 with ⟨_, e2⟩ | ⟨k, _, hk, e2, e3⟩
          · exact (md hD).mp e2
          · have this : bt v3 k = (bt m k && gs P (sof x) k) := hB3.2 k hk
            rw [e, bt_0, e2, e3] at this
            cases this
      · intro e
        refine b10_eq hB3 b10_0 (fun k _ => ?_)
        rw [(md hD).mpr e, bt_0]; rfl
    rw [f_R_goPairs]
    unfold f_R_goPairs_b
    rw [hR.1]
    refine pc_ite (fun c => ?_) (fun c => ?_)
    · refine pc_w (leaf_pc hP hg h0 hx hR hJ hfr hD hm h3) (fun r u q => ⟨q.1, q.2.1, ?_⟩)
      rcases q.2.2 with q3 | ⟨q3, q4⟩
      · exact Or.inl q3
      · refine Or.inr ⟨q3, fun m' he ho => ?_⟩
        rw [show (P - v2).toNat = 0 by omega] at he
        have e : m' = m := he
        rw [e] at ho ⊢
        exact q4 (by rw [← md hD]; exact ho)
    · have w1 : w32 (v2 + 1) = v2 + 1 := w32_id (by omega)
      have en : (P - v2).toNat = (P - (v2 + 1)).toNat + 1 := by omega
      have ei : P.toNat - ((P - (v2 + 1)).toNat + 1) = v2.toNat := by omega
      rw [w1]
      refine pc_call (ih hR hJ hD (by omega) (by omega) hB3 hB4) (fun r1 u2 q => ?_)
      obtain ⟨q1, q2, q3⟩ := q
      rcases q3 with ⟨q3, q4⟩ | ⟨q3, q4⟩
      · refine pc_ite (fun _ => pc_some ⟨q1, q2, Or.inl ⟨rfl, q4⟩⟩) (fun e => absurd q3 e)
      · refine pc_ite (fun e => by omega) (fun _ => pc_gd (fun _ => ?_))
        have hR2 := rct_frx hR q2.1
        rw [isG_e, jc_s, hR2.2.2.2.1 v2.toNat (by omega)]
        have egs : gs P (sof x) v2.toNat = gst (sof x v2.toNat) := by
          unfold gs
          rw [show inP P v2.toNat = true from decide_eq_true (by omega)]; rfl
        cases hgs : gst (sof x v2.toNat) with
        | false =>
          refine pc_ite (fun _ => pc_some ⟨q1, q2, Or.inr ⟨rfl, fun m' he ho => ?_⟩⟩) (fun e => absurd rfl e)
          rw [en] at he
          rcases he with he | ⟨o, _, hb, _⟩
          · exact q4 m' he ho
          · rw [ei, egs, hgs] at hb; cases hb
        | true =>
          refine pc_ite (fun e => absurd e (by decide)) (fun _ => ?_)
          obtain ⟨nm, hnm, hnmh⟩ := hR.2.2.2.2.2
          have l109 : ∀ (n : Nat) {v5 : Int} {u : Wd}, 0 ≤ v5 → v5 ≤ P → JIx P g se h kn x0 x fr e0 u → GRR w u → (∀ m', EXT P kn (gs P (sof x)) (fre P (sof x) h) (P - (v2 + 1)).toNat m m' → (m' = 0 ∨ ((pn (fun k => sty P (sof x) g k || bt m' k) 10 : Nat) : Int) ≤ se) → EDG e0 u (cdf (nis P (sof x) g (bt m')) P.toNat)) → (∀ o : Nat, (o : Int) < v5 → fre P (sof x) h o = true → bt (kn v2.toNat) o = true → bt m o = false → ∀ m', EXT P kn (gs P (sof x)) (fre P (sof x) h) (P - (v2 + 1)).toNat (sq m v2.toNat o) m' → (m' = 0 ∨ ((pn (fun k => sty P (sof x) g k || bt m' k) 10 : Nat) : Int) ≤ se) → EDG e0 u (cdf (nis P (sof x) g (bt m')) P.toNat)) → PC (f_R_goPairs_109 (f_R_goPairs D) n fr v2 v3 v4 v5 u) (fun r u => JIx P g se h kn x0 x fr e0 u ∧ GRR w u ∧ ((r = 0 ∧ MNY P g se h kn x0) ∨ (r = 1 ∧ ∀ m', EXT P kn (gs P (sof x)) (fre P (sof x) h) (P - v2).toNat m m' → (m' = 0 ∨ ((pn (fun k => sty P (sof x) g k || bt m' k) 10 : Nat) : Int) ≤ se) → EDG e0 u (cdf (nis P (sof x) g (bt m')) P.toNat)))) := by
            intro n
            induction n with
            | zero => intros; exact pc_none
            | succ n ihn =>
              intro v5 u i5 i5' hJu hgu hA hO
              have hRu := rct_frx hR hgu.1
              rw [f_R_goPairs_109, hRu.1]
              refine pc_ite (fun c5 => pc_some ⟨hJu, hgu, Or.inr ⟨rfl, fun m' he ho => ?_⟩⟩) (fun c5 => pc_gd (fun _ => ?_))
              · rw [en] at he
                rcases he with he | ⟨o, ho10, hb, hfo, hko, hmo, he⟩
                · exact hA m' he ho
                · rw [ei] at hko he
                  have := (fre_sr hfo).1
                  exact hO o (by omega) hfo hko hmo m' he ho
              · have hj := hRu.2.2.2.2.1 v2.toNat (by omega)
                have k5 : (v5.toNat : Int) < P := by omega
                have nm44 : u 43 44 = w 43 44 := hgu.1.2 44 (by decide) (by decide)
                rw [hj.1, nm44]
                have hB := b10_andn (b10_andn (b10_self hj.2) hB4.2) hnm.2
                rw [hasR_10 u hB (by omega), jc_s]
                have nx : ∀ v, JIx P g se h kn x0 x fr e0 v → GRR w v → GRR u v → (fre P (sof x) h v5.toNat = true → bt (kn v2.toNat) v5.toNat = true → bt m v5.toNat = false → ∀ m', EXT P kn (gs P (sof x)) (fre P (sof x) h) (P - (v2 + 1)).toNat (sq m v2.toNat v5.toNat) m' → (m' = 0 ∨ ((pn (fun k => sty P (sof x) g k || bt m' k) 10 : Nat) : Int) ≤ se) → EDG e0 v (cdf (nis P (sof x) g (bt m')) P.toNat)) → PC (f_R_goPairs_182 (f_R_goPairs D) (f_R_goPairs_109 (f_R_goPairs D) n) fr v2 v3 v4 v5 v) (fun r u => JIx P g se h kn x0 x fr e0 u ∧ GRR w u ∧ ((r = 0 ∧ MNY P g se h kn x0) ∨ (r = 1 ∧ ∀ m', EXT P kn (gs P (sof x)) (fre P (sof x) h) (P - v2).toNat m m' → (m' = 0 ∨ ((pn (fun k => sty P (sof x) g k || bt m' k) 10 : Nat) : Int) ≤ se) → EDG e0 u (cdf (nis P (sof x) g (bt m')) P.toNat)))) := fun v hJv hgv huv hnew => by
                  unfold f_R_goPairs_182
                  refine pc_let (fun x7 e7 => ?_)
                  rw [w32_id (by omega)] at e7
                  rw [e7]
                  refine ihn (by omega) (by omega) hJv hgv (fun m' he ho => edg_grr huv (hA m' he ho)) (fun o ho5 a1 a2 a3 m' he ho => ?_)
                  by_cases co : (o : Int) < v5
                  · exact edg_grr huv (hO o co a1 a2 a3 m' he ho)
                  · have eo : o = v5.toNat := by omega
                    rw [eo] at a1 a2 a3 he
                    exact hnew a1 a2 a3 m' he ho
                have fe : fre P (sof x) h v5.toNat = ((sof x v5.toNat == 0) && !nm v5.toNat) := by
                  unfold fre sr
                  rw [show inP P v5.toNat = true from decide_eq_true k5, hnmh v5.toNat k5]; rfl
                cases hc : (bt (kn v2.toNat) v5.toNat && !(bt m v5.toNat && fre P (sof x) h v5.toNat) && !nm v5.toNat) with
                | false =>
                  refine pc_ite (fun _ => nx u hJu hgu (grr_self u) (fun a1 a2 a3 => ?_)) (fun e => absurd rfl e)
                  exfalso
                  rw [fe, Bool.and_eq_true] at a1
                  rw [a2, a3, Bool.false_and, a1.2] at hc
                  cases hc
                | true =>
                  refine pc_ite (fun e => absurd e (by decide)) (fun _ => pc_gd (fun _ => ?_))
                  rw [hRu.2.2.2.1 v5.toNat k5]
                  rw [Bool.and_eq_true, Bool.and_eq_true, Bool.not_eq_true', Bool.not_eq_true'] at hc
                  refine pc_ite (fun z => ?_) (fun z => nx u hJu hgu (grr_self u) (fun a1 _ _ => ?_))
                  · have a1 : fre P (sof x) h v5.toNat = true := by rw [fe, z, hc.2]; rfl
                    have a3 : bt m v5.toNat = false := by
                      have := hc.1.2
                      rw [a1, Bool.and_true] at this
                      exact this
                    have hD' := drc_add hD (i := v2.toNat) (o := v5.toNat) (by omega) (by omega) (by omega) (by rw [egs]; exact hgs) a1 hc.1.1 a3
                    have e2 : v2 = ((v2.toNat : Nat) : Int) := by omega
                    have e5 : v5 = ((v5.toNat : Nat) : Int) := by omega
                    have o2 := or1_b hB3.1 (o := v2.toNat) (by omega)
                    have o5 := or1_b hB4.1 (o := v5.toNat) (by omega)
                    rw [← e2] at o2
                    rw [← e5] at o5
                    rw [w1]
                    refine pc_call (ih hRu hJu hD' (by omega) (by omega) (b10_w o2 (fun k hk => ?_)) (b10_w o5 (fun k hk => ?_))) (fun r8 u9 q8 => ?_)
                    · rw [hB3.2 k hk, sq_t hmr.1 (by omega) (by omega) hk]
                      by_cases c1 : k = v2.toNat
                      · rw [c1, egs, hgs, decide_eq_true rfl]; simp
                      · rw [decide_eq_false c1]
                        by_cases c2 : k = v5.toNat
                        · have : gs P (sof x) k = false := by
                            cases hh : gs P (sof x) k with
                            | false => rfl
                            | true => rw [c2] at hh; rw [dsj v5.toNat (by omega) hh] at a1; cases a1
                          simp [this]
                        · rw [decide_eq_false c2]; simp
                    · rw [hB4.2 k hk, sq_t hmr.1 (by omega) (by omega) hk]
                      by_cases c2 : k = v5.toNat
                      · rw [c2, a1, decide_eq_true rfl]; simp
                      · rw [decide_eq_false c2]
                        by_cases c1 : k = v2.toNat
                        · have : fre P (sof x) h k = false := by rw [c1]; exact dsj v2.toNat (by omega) (by rw [egs]; exact hgs)
                          simp [this]
                        · rw [decide_eq_false c1]; simp
                    · obtain ⟨p1, p2, p3⟩ := q8
                      rcases p3 with ⟨p3, p4⟩ | ⟨p3, p4⟩
                      · refine pc_ite (fun _ => pc_some ⟨p1, grr_tr hgu p2, Or.inl ⟨rfl, p4⟩⟩) (fun e => absurd p3 e)
                      · refine pc_ite (fun e => by omega) (fun _ => nx u9 p1 (grr_tr hgu p2) p2 (fun _ _ _ m' he ho => p4 m' he ho))
                  · rw [fe, beq_eq_false_iff_ne.mpr z] at a1
                    cases a1
          exact l109 FU (by decide) hP.1 q1 q2 q4 (fun o ho => by omega)
/-! THE REFERENCE'S SEARCH -/
def EDS (P g se : Int) (h kn : Nat → Int) (x0 : Int) (w : Wd) (s : Nat) (hi : Int) : Prop := ∀ x, VLS P g se h kn x0 x → w 63 s = cdx P x → (∀ e : Nat, w 64 s ≤ (e : Int) → (e : Int) < hi → (0 ≤ w 65 e ∧ w 65 e < w 43 40) ∧ ∃ y, SUX P g se h kn x y ∧ w 63 (w 65 e).toNat = cdx P y) ∧ ∀ y, SUX P g se h kn x y → ∃ e : Nat, w 64 s ≤ (e : Int) ∧ (e : Int) < hi ∧ (0 ≤ w 65 e ∧ w 65 e < w 43 40) ∧ w 63 (w 65 e).toNat = cdx P y
def nxe (w : Wd) (v2 : Int) (s : Nat) : Int := if (s : Int) + 1 < v2 then w 64 (s + 1) else w 43 41
def RSI (P g se : Int) (h kn : Nat → Int) (x0 v2 : Int) (w : Wd) : Prop := G [] w w ∧ COD P g se h kn x0 w ∧ (0 ≤ v2 ∧ v2 ≤ w 43 40) ∧ 1 ≤ w 43 40 ∧ w 63 0 = cdx P x0 ∧ (∀ t : Nat, (t : Int) < w 43 40 → w 66 t < v2) ∧ ∀ s : Nat, (s : Int) < v2 → (0 ≤ w 64 s ∧ w 64 s ≤ nxe w v2 s ∧ nxe w v2 s ≤ w 43 41) ∧ EDS P g se h kn x0 w s (nxe w v2 s)
/-- what the reference's search found, where it ended well -/
def RLI (P g se : Int) (h kn : Nat → Int) (x0 : Int) (w : Wd) : Prop := (1 ≤ w 43 40 ∧ w 43 40 ≤ 3000) ∧ (∀ i j : Nat, (i : Int) < w 43 40 → (j : Int) < w 43 40 → w 63 i = w 63 j → i = j) ∧ (∀ t : Nat, (t : Int) < w 43 40 → ∃ x, VLS P g se h kn x0 x ∧ w 63 t = cdx P x) ∧ (∀ x, VLS P g se h kn x0 x → ∃ t : Nat, (t : Int) < w 43 40 ∧ w 63 t = cdx P x) ∧ w 63 0 = cdx P x0 ∧ ∀ s : Nat, (s : Int) < w 43 40 → (0 ≤ w 64 s ∧ w 64 s ≤ w 64 (s + 1)) ∧ EDS P g se h kn x0 w s (w 64 (s + 1))
/-- what may have changed -/
def FRY (w u : Wd) : Prop := (∀ c, c ≠ 43 → c ≠ 63 → c ≠ 64 → c ≠ 65 → c ≠ 66 → c ≠ 67 → c ≠ 68 → u c = w c) ∧ ∀ k, k ≠ 40 → k ≠ 41 → k ≠ 44 → u 43 k = w 43 k
theorem fs53 {P g se : Int} {h kn : Nat → Int} {x0 : Int} {b : Wd} (hP : 0 ≤ P ∧ P ≤ 10) (hg : 1 ≤ g ∧ g ≤ 3) (h0 : WH x0 (sof x0) P) : ∀ (n : Nat) {v2 : Int} {w : Wd}, FRY b w → w 43 0 = P → w 43 10 = g → w 43 11 = se → (∀ j : Nat, (j : Int) < P → w 45 j = kn j ∧ 0 ≤ kn j ∧ kn j ≤ 1023) → (∃ nm, B10 (w 43 44) nm ∧ ∀ k : Nat, (k : Int) < P → nm k = hB P h k) → RSI P g se h kn x0 v2 w → PC (f_R_findStates_53 n v2 w) (fun r u => FRY b u ∧ G [] u u ∧ ((r = 0 ∧ MNY P g se h kn x0) ∨ (r = 1 ∧ RLI P g se h kn x0 u))) := by
  intro n
  induction n with
  | zero => intros; exact pc_none
  | succ n ih =>
    intro v2 w hF c0 c10 c11 c45 c44 hI
    obtain ⟨hG, hC, hv, h1, hz, hU, hE⟩ := hI
    rw [f_R_findStates_53]
    have a40 : (0 : Int) ≤ w 43 40 ∧ w 43 40 ≤ 3000 := hG.1 43 40
    have a41 : (0 : Int) ≤ w 43 41 ∧ w 43 41 ≤ 756000 := hG.1 43 41
    refine pc_ite (fun c => ?_) (fun c => ?_)
    · refine pc_gd (fun _ => pc_lw (fun u e => pc_some ?_))
      have ev : v2 = w 43 40 := by omega
      have G1 : G [6499] w u := g_st (g_self hG) e rfl rfl (show (0 : Int) ≤ w 43 41 ∧ w 43 41 ≤ 756000 by omega)
      have ro : ∀ c, c ≠ 64 → u c = w c := fun c hc => by rw [e, st_row hc]
      have z64 : ∀ k, u 64 k = if k = (w 43 40).toNat then w 43 41 else w 64 k := fun k => by
        rw [e]
        by_cases ck : k = (w 43 40).toNat
        · rw [if_pos ck, ck, st_eq]
        · rw [if_neg ck, st_k ck]
      have r43 := ro 43 (by decide)
      have nx : ∀ s : Nat, (s : Int) < w 43 40 → u 64 (s + 1) = nxe w v2 s := fun s hs => by
        unfold nxe
        rw [z64]
        by_cases cs : (s : Int) + 1 < v2
        · rw [if_pos cs, if_neg (by omega)]
        · rw [if_neg cs, if_pos (by omega)]
      have closed : ∀ (t : Nat) (x : Int), RCX P g se h kn x0 t x → ∃ i : Nat, (i : Int) < w 43 40 ∧ w 63 i = cdx P x := by
        intro t
        induction t with
        | zero => intro x ex; exact ⟨0, by omega, by rw [show x = x0 from ex]; exact hz⟩
        | succ t iht =>
          rintro x ⟨y, hy, hs⟩
          obtain ⟨i, hi, ei⟩ := iht y hy
          obtain ⟨e', _, _, h3, h4⟩ := ((hE i (by omega)).2 y ⟨rx_wh hP h0 hy, t, hy⟩ ei).2 x hs
          exact ⟨(w 65 e').toNat, by omega, h4⟩
      refine ⟨⟨fun c a1 a2 a3 a4 a5 a6 a7 => (ro c a3).trans (hF.1 c a1 a2 a3 a4 a5 a6 a7), fun k a b c => by rw [r43]; exact hF.2 k a b c⟩, g_self G1, Or.inr ⟨rfl, ?_⟩⟩
      unfold RLI
      rw [r43, ro 63 (by decide)]
      refine ⟨⟨h1, a40.2⟩, fun i j hi hj e2 => ?_, hC.2, fun x hx => ?_, hz, fun s hs => ?_⟩
      · have f1 := hC.1 i hi
        rw [e2] at f1
        exact fnd_one f1 (hC.1 j hj)
      · obtain ⟨t, ht⟩ := hx.2
        exact closed t x ht
      · obtain ⟨e1, e2⟩ := hE s (by omega)
        have es : u 64 s = w 64 s := by rw [z64, if_neg (by omega)]
        rw [nx s hs, es]
        refine ⟨by omega, ?_⟩
        unfold EDS
        rw [es, r43, ro 63 (by decide), ro 65 (by decide)]
        exact e2
    · refine pc_gd (fun _ => pc_lw (fun u11 e11 => ?_))
      have G1 : G [6499] w u11 := g_st (g_self hG) e11 rfl rfl (show (0 : Int) ≤ w 43 41 ∧ w 43 41 ≤ 756000 by omega)
      have ro : ∀ c, c ≠ 64 → u11 c = w c := fun c hc => by rw [e11, st_row hc]
      have z64 : ∀ k, u11 64 k = if k = v2.toNat then w 43 41 else w 64 k := fun k => by
        rw [e11]
        by_cases ck : k = v2.toNat
        · rw [if_pos ck, ck, st_eq]
        · rw [if_neg ck, st_k ck]
      have ev : v2 = ((v2.toNat : Nat) : Int) := by omega
      obtain ⟨x, hx, ex⟩ := hC.2 v2.toNat (by omega)
      have hld := load_pc (P := P) (s := sof x) (w := u11) (t := v2.toNat) hP (by rw [ro 43 (by decide)]; exact c0) hx.1.2.2 (by rw [ro 63 (by decide)]; exact ex)
      rw [← ev] at hld
      refine pc_call (pc_and hld (pc_ok (s_R_load (g_self G1) (by omega)))) (fun r12 u13 q => ?_)
      obtain ⟨⟨q1, q2⟩, _, q3⟩ := q
      have G13 : G [] u13 u13 := g_self q3
      have rr : ∀ c, c ≠ 64 → c ≠ 68 → u13 c = w c := fun c a b => (q2 c b).trans (ro c a)
      have r43 := rr 43 (by decide) (by decide)
      have r63 := rr 63 (by decide) (by decide)
      have r65 := rr 65 (by decide) (by decide)
      have r66 := rr 66 (by decide) (by decide)
      have r67 := rr 67 (by decide) (by decide)
      have hR : RCx P g se h kn (sof x) u13 := by
        refine ⟨by rw [r43]; exact c0, by rw [r43]; exact c10, by rw [r43]; exact c11, q1, fun j hj => ?_, ?_⟩
        · rw [rr 45 (by decide) (by decide)]; exact c45 j hj
        · rw [r43]; exact c44
      have cod13 : COD P g se h kn x0 u13 := by
        unfold COD
        rw [r43, r63]
        exact ⟨fun t ht => fnd_congr (fun k => by rw [r67]) (fun k => by rw [r63]) (hC.1 t ht), hC.2⟩
      have hJ : JIx P g se h kn x0 x v2 (w 43 41) u13 := by
        refine ⟨G13, cod13, by rw [r43]; omega, fun e h1 h2 => ?_, fun t ht hs => ?_, fun t ht => ?_⟩
        · rw [r43] at h2; omega
        · rw [r43] at ht
          rw [r66] at hs
          have := hU t ht; omega
        · rw [r43] at ht
          rw [r66]
          have := hU t ht; omega
      refine pc_call (gp_pc hP hg h0 hx (by omega) 16 (m := 0) (d := 0) (f := 0) hR hJ ⟨rfl, rfl⟩ (by decide) hP.1 (b10_w b10_0 (fun k _ => by rw [bt_0]; rfl)) (b10_w b10_0 (fun k _ => by rw [bt_0]; rfl))) (fun r14 u15 q => ?_)
      obtain ⟨q4, q5, q6⟩ := q
      have f13 : FRY b u13 := ⟨fun c a1 a2 a3 a4 a5 a6 a7 => (rr c a3 a7).trans (hF.1 c a1 a2 a3 a4 a5 a6 a7), fun k a b c => by rw [r43]; exact hF.2 k a b c⟩
      have f15 : FRY b u15 := ⟨fun c a1 a2 a3 a4 a5 a6 a7 => (q5.1.1 c a1 a2 a4 a5 a6).trans (f13.1 c a1 a2 a3 a4 a5 a6 a7), fun k a b c => (q5.1.2 k a b).trans (f13.2 k a b c)⟩
      rcases q6 with ⟨q6, q7⟩ | ⟨q6, q7⟩
      · refine pc_ite (fun _ => pc_some ⟨f15, q4.1, Or.inl ⟨rfl, q7⟩⟩) (fun e => absurd q6 e)
      · refine pc_ite (fun e => by omega) (fun _ => pc_let (fun x16 e16 => ?_))
        rw [w32_id (by omega)] at e16
        rw [e16]
        obtain ⟨g1, g2, g3, g4, g5⟩ := q5
        rw [r43] at g2 g3 g4 g5
        rw [r63] at g3
        rw [r65] at g5
        have u64 : u15 64 = u11 64 := (g1.1 64 (by decide) (by decide) (by decide) (by decide) (by decide)).trans (q2 64 (by decide))
        have b40 : (0 : Int) ≤ u15 43 40 ∧ u15 43 40 ≤ 3000 := q4.1.1 43 40
        refine ih f15 (by rw [g1.2 0 (by decide) (by decide), r43]; exact c0) (by rw [g1.2 10 (by decide) (by decide), r43]; exact c10) (by rw [g1.2 11 (by decide) (by decide), r43]; exact c11) (fun j hj => by rw [g1.1 45 (by decide) (by decide) (by decide) (by decide) (by decide), rr 45 (by decide) (by decide)]; exact c45 j hj) (by rw [g1.2 44 (by decide) (by decide), r43]; exact c44) ⟨q4.1, q4.2.1, by omega, by omega, by rw [g3 0 (by omega)]; exact hz, fun t ht => by have := q4.2.2.2.2.2 t ht; omega, fun s hs => ?_⟩
        by_cases cs : (s : Int) < v2
        · obtain ⟨e1, e2⟩ := hE s cs
          have es : u15 64 s = w 64 s := by rw [u64, z64, if_neg (by omega)]
          have en : nxe u15 (v2 + 1) s = nxe w v2 s := by
            unfold nxe
            rw [if_pos (by omega), u64, z64]
            by_cases cs2 : (s : Int) + 1 < v2
            · rw [if_pos cs2, if_neg (by omega)]
            · rw [if_neg cs2, if_pos (by omega)]
          rw [en, es]
          refine ⟨by omega, fun y hy ey => ?_⟩
          rw [g3 s (by omega)] at ey
          obtain ⟨b1, b2⟩ := e2 y hy ey
          rw [es]
          refine ⟨fun e h1 h2 => ?_, fun z hz' => ?_⟩
          · obtain ⟨b3, z, b4, b5⟩ := b1 e h1 h2
            rw [g5 e (by omega), g3 _ (by omega)]
            exact ⟨by omega, z, b4, b5⟩
          · obtain ⟨e, b3, b4, b5, b6'⟩ := b2 z hz'
            exact ⟨e, b3, b4, by rw [g5 e (by omega)]; omega, by rw [g5 e (by omega), g3 _ (by omega)]; exact b6'⟩
        · have es : s = v2.toNat := by omega
          have e64 : u15 64 s = w 43 41 := by rw [u64, z64, if_pos es]
          have en : nxe u15 (v2 + 1) s = u15 43 41 := by unfold nxe; rw [if_neg (by omega)]
          rw [en, e64]
          refine ⟨by omega, fun y hy ey => ?_⟩
          have eyx : y = x := cdx_inj hP hy.1 hx.1 (by rw [← ey, es, g3 _ (by omega)]; exact ex)
          rw [eyx, e64]
          refine ⟨fun e h1 h2 => ?_, fun z hz' => ?_⟩
          · obtain ⟨b3, _, b4⟩ := q4.2.2.2.1 e h1 h2
            exact ⟨b3, b4⟩
          · obtain ⟨m, ⟨d, f, hD⟩, hwz⟩ := hz'
            obtain ⟨hD2, hso⟩ := (drc_se hP).mp hD
            have hso2 : m = 0 ∨ ((pn (fun k => sty P (sof x) g k || bt m k) 10 : Nat) : Int) ≤ se := by
              rcases hso with e | e
              · left; rw [e] at hD2; exact hD2.2
              · exact Or.inr e
            have := q7 m (by rw [show (P - 0).toNat = P.toNat by omega]; exact ext_all hP hD2) hso2
            obtain ⟨e, b3, b4, b5, b6'⟩ := this
            exact ⟨e, b3, b4, b5, by rw [b6']; exact (cdx_wh hP hwz).symm⟩
theorem fs12 {P g se : Int} {h kn : Nat → Int} {x0 : Int} {b : Wd} (hP : 0 ≤ P ∧ P ≤ 10) (hg : 1 ≤ g ∧ g ≤ 3) (h0 : WH x0 (sof x0) P) : ∀ (n : Nat) {v2 : Int} {w : Wd}, FRY b w → G [] w w → (0 ≤ v2 ∧ v2 ≤ 8192) → (∀ p : Nat, (p : Int) < v2 → w 67 p = 0) → w 43 0 = P → w 43 10 = g → w 43 11 = se → (∀ k : Nat, (k : Int) < P → w 47 k = sof x0 k) → (∀ j : Nat, (j : Int) < P → w 45 j = kn j ∧ 0 ≤ kn j ∧ kn j ≤ 1023) → (∃ nm, B10 (w 43 44) nm ∧ ∀ k : Nat, (k : Int) < P → nm k = hB P h k) → PC (f_R_findStates_12 n v2 w) (fun r u => FRY b u ∧ G [] u u ∧ ((r = 0 ∧ MNY P g se h kn x0) ∨ (r = 1 ∧ RLI P g se h kn x0 u))) := by
  intro n
  induction n with
  | zero => intros; exact pc_none
  | succ n ih =>
    intro v2 w hF hG i2 hz c0 c10 c11 c47 c45 c44
    rw [f_R_findStates_12]
    refine pc_ite (fun c => ?_) (fun c => ?_)
    · have hz' : ∀ p, p < 8192 → w 67 p = 0 := fun p hp => hz p (by omega)
      refine pc_lw (fun u4 e4 => pc_lw (fun u5 e5 => ?_))
      have t67 : ∀ p, u4 67 p = w 67 p := fun p => by rw [e4, st_c (by decide)]
      have t40 : u4 43 40 = 0 := by rw [e4, st_eq]
      have g4 : G [4340] w u4 := by
        refine g_st0 (g_self hG) e4 rfl ⟨?_, ?_⟩ (show (0 : Int) ≤ 0 ∧ (0 : Int) ≤ 3000 by decide)
        · intro p q hp hq e hn
          rw [t67, hz' p hp] at hn
          exact absurd rfl hn
        · intro p hp
          rw [t67, hz' p hp, t40]; exact Int.le_refl _
      have g5 : G [4341] u4 u5 := g_st (g_self g4) e5 rfl rfl (show (0 : Int) ≤ 0 ∧ (0 : Int) ≤ 756000 by decide)
      have ro : ∀ c, c ≠ 43 → u5 c = w c := fun c hc => by rw [e5, st_row hc, e4, st_row hc]
      have rk : ∀ k, k ≠ 40 → k ≠ 41 → u5 43 k = w 43 k := fun k a b => by rw [e5, st_k b, e4, st_k a]
      have f40 : u5 43 40 = 0 := by rw [e5, st_k (by decide)]; exact t40
      have f41 : u5 43 41 = 0 := by rw [e5, st_eq]
      refine pc_call (cnow_pc (s := sof x0) hP (by rw [rk 0 (by decide) (by decide)]; exact c0) (fun k hk => by rw [ro 47 (by decide)]; exact c47 k hk) h0.2.2) (fun r6 u7 q => ?_)
      rw [q.1, q.2]
      have cr := cdx_rg hP h0
      have ecd : cdf (sof x0) P.toNat = cdx P x0 := rfl
      rw [ecd]
      refine pc_call (so_pc (g_self g5) (by omega)) (fun r8 u9 z => ?_)
      obtain ⟨⟨z1, z2, z3, z4⟩, ⟨s1, s2, s3⟩, z6⟩ := z
      rw [f40] at s2 s3
      rw [f41] at z4
      have s3' : r8 = 0 ∧ u9 43 40 = 0 + 1 ∧ u9 66 r8.toNat = -1 ∧ Fnd u9 (cdx P x0) r8.toNat := by
        rcases s3 with h1 | h1 | h1
        · exfalso; have := h1.2.2; omega
        · exfalso; omega
        · exact h1
      obtain ⟨y1, y2, y3, y4⟩ := s3'
      rw [y1] at y3 y4
      have y5 : u9 63 0 = cdx P x0 := by
        obtain ⟨_, _, _, _, e⟩ := y4
        exact e
      have f9 : FRY b u9 := ⟨fun c a1 a2 a3 a4 a5 a6 a7 => ((z2.1 c a1 a2 a4 a5 a6).trans (ro c a1)).trans (hF.1 c a1 a2 a3 a4 a5 a6 a7), fun k a b c => ((z2.2 k a b).trans (rk k a b)).trans (hF.2 k a b c)⟩
      refine fs53 hP hg h0 FU f9 (by rw [z2.2 0 (by decide) (by decide), rk 0 (by decide) (by decide)]; exact c0) (by rw [z2.2 10 (by decide) (by decide), rk 10 (by decide) (by decide)]; exact c10) (by rw [z2.2 11 (by decide) (by decide), rk 11 (by decide) (by decide)]; exact c11) (fun j hj => by rw [z2.1 45 (by decide) (by decide) (by decide) (by decide) (by decide), ro 45 (by decide)]; exact c45 j hj) (by rw [z2.2 44 (by decide) (by decide), rk 44 (by decide) (by decide)]; exact c44) ⟨z1, ⟨fun t ht => ?_, fun t ht => ?_⟩, by omega, by omega, y5, fun t ht => ?_, fun s hs => by omega⟩
      · rw [show t = 0 by omega, y5]; exact y4
      · rw [show t = 0 by omega, y5]; exact ⟨x0, ⟨h0, 0, rfl⟩, rfl⟩
      · rw [show t = 0 by omega]
        have e : u9 66 0 = -1 := y3
        rw [e]; decide
    · refine pc_gd (fun _ => pc_lw (fun u17 e17 => pc_let (fun x18 e18 => ?_)))
      rw [w32_id (by omega)] at e18
      rw [e18]
      have ro : ∀ c, c ≠ 67 → u17 c = w c := fun c hc => by rw [e17, st_row hc]
      have t67 : ∀ p, u17 67 p = if p = v2.toNat then 0 else w 67 p := fun p => by
        rw [e17]
        by_cases hp : p = v2.toNat
        · rw [if_pos hp, hp, st_eq]
        · rw [if_neg hp, st_k hp]
      have a40 : (0 : Int) ≤ w 43 40 ∧ w 43 40 ≤ 3000 := hG.1 43 40
      have g17 : G [6799] w u17 := by
        refine g_st0 (g_self hG) e17 rfl ⟨?_, ?_⟩ (show (0 : Int) ≤ 0 ∧ (0 : Int) ≤ 3000 by decide)
        · intro p q hp hq e hn
          rw [t67] at hn
          rw [t67, t67] at e
          by_cases h1 : p = v2.toNat
          · rw [if_pos h1] at hn; exact absurd rfl hn
          · rw [if_neg h1] at hn e
            by_cases h2 : q = v2.toNat
            · rw [if_pos h2] at e; exact absurd e hn
            · rw [if_neg h2] at e
              exact hG.2.2.1 p q hp hq e hn
        · intro p hp
          rw [t67, ro 43 (by decide)]
          split
          · omega
          · exact hG.2.2.2 p hp
      have r43 := ro 43 (by decide)
      refine ih ⟨fun c a1 a2 a3 a4 a5 a6 a7 => (ro c a6).trans (hF.1 c a1 a2 a3 a4 a5 a6 a7), fun k a b c => by rw [r43]; exact hF.2 k a b c⟩ (g_self g17) (by omega) (fun p hp => ?_) (by rw [r43]; exact c0) (by rw [r43]; exact c10) (by rw [r43]; exact c11) (fun k hk => by rw [ro 47 (by decide)]; exact c47 k hk) (fun j hj => by rw [ro 45 (by decide)]; exact c45 j hj) (by rw [r43]; exact c44)
      rw [t67]
      split
      · rfl
      · exact hz p (by omega)
/-- the search of the reference, some more being HIDDEN -/
theorem fst_pc {P g se : Int} {h kn : Nat → Int} {x0 v1 : Int} {w : Wd} (hP : 0 ≤ P ∧ P ≤ 10) (hg : 1 ≤ g ∧ g ≤ 3) (h0 : WH x0 (sof x0) P) (hG : G [] w w) (c0 : w 43 0 = P) (c10 : w 43 10 = g) (c11 : w 43 11 = se) (c47 : ∀ k : Nat, (k : Int) < P → w 47 k = sof x0 k) (c45 : ∀ j : Nat, (j : Int) < P → w 45 j = kn j ∧ 0 ≤ kn j ∧ kn j ≤ 1023) (hv : 0 ≤ v1 ∧ v1 ≤ 1023) (hh : ∀ k : Nat, (k : Int) < P → (hB P (w 46) k || bt v1 k) = hB P h k) : PC (f_R_findStates v1 w) (fun r u => FRY w u ∧ G [] u u ∧ ((r = 0 ∧ MNY P g se h kn x0) ∨ (r = 1 ∧ RLI P g se h kn x0 u))) := by
  unfold f_R_findStates
  refine pc_call (hidden_e (w := w) (by omega)) (fun r1 u2 q => ?_)
  rw [q.1]
  have q2 := q.2
  rw [c0] at q2
  refine pc_lw (fun u3 e3 => ?_)
  have hB1 := b10_or q2 (b10_self hv)
  have hr := hB1.1
  have g3 : G [4344] w u3 := g_st (g_self hG) e3 rfl rfl (show (0 : Int) ≤ ior r1 v1 ∧ ior r1 v1 ≤ 1023 by omega)
  have ro : ∀ c, c ≠ 43 → u3 c = w c := fun c hc => by rw [e3, st_row hc]
  have rk : ∀ k, k ≠ 44 → u3 43 k = w 43 k := fun k hk => by rw [e3, st_k hk]
  refine fs12 hP hg h0 FU ⟨fun c a1 _ _ _ _ _ _ => ro c a1, fun k _ _ c => rk k c⟩ (g_self g3) (by decide) (fun p hp => by omega) (by rw [rk 0 (by decide)]; exact c0) (by rw [rk 10 (by decide)]; exact c10) (by rw [rk 11 (by decide)]; exact c11) (fun k hk => by rw [ro 47 (by decide)]; exact c47 k hk) (fun j hj => by rw [ro 45 (by decide)]; exact c45 j hj) ⟨fun k => hB P (w 46) k || bt v1 k, by rw [e3, st_eq]; exact hB1, hh⟩
/-! THE MOST, THE LEAST, ALL OF SOME -/
/-! WHAT THE CLASS FOUND: a list of all STATES -/
def CLI (P g se : Int) (h kn : Nat → Int) (x0 : Int) (w : Wd) : Prop := (0 ≤ w 28 7 ∧ w 28 7 ≤ 3000) ∧ (∀ i j : Nat, (i : Int) < w 28 7 → (j : Int) < w 28 7 → w 30 i = w 30 j → i = j) ∧ (∀ k : Nat, (k : Int) < w 28 7 → VLS P g se h kn x0 (w 30 k)) ∧ (∀ x, VLS P g se h kn x0 x → ∃ k : Nat, (k : Int) < w 28 7 ∧ w 30 k = x) ∧ ∀ k : Nat, (k : Int) < w 28 7 → ∀ t, t < 61 → (b6 (w 31 k) t = true ↔ RCX P g se h kn x0 t (w 30 k))
theorem src_cli {P g se : Int} {h kn : Nat → Int} {x0 : Int} {w : Wd} (hP : 0 ≤ P ∧ P ≤ 10) (h0 : WH x0 (sof x0) P) (hs : SRC P g se h kn x0 w) : CLI P g se h kn x0 w := by
  obtain ⟨⟨hT, hS⟩, hX, hC, _, _, _⟩ := hs
  have all : ∀ (t : Nat) (x : Int), RCX P g se h kn x0 t x → ∃ k : Nat, (k : Int) < w 28 7 ∧ w 30 k = x ∧ (t < 61 → b6 (w 31 k) t = true) := by
    intro t
    induction t with
    | zero =>
      intro x e
      obtain ⟨k, hk, e2, hb⟩ := hX
      exact ⟨k, hk, by rw [e2]; exact (show x = x0 from e).symm, fun _ => hb⟩
    | succ t ih =>
      rintro x ⟨y, hy, hsx⟩
      obtain ⟨k, hk, e, hb⟩ := ih y hy
      rw [← e] at hsx
      obtain ⟨j, hj, ej, ht⟩ := hC k hk x hsx
      exact ⟨j, hj, ej, fun h61 => ht t h61 (hb (by omega))⟩
  refine ⟨hT.2.2.1, fun i j hi hj e => tc_one hT hi hj e, fun k hk => ?_, fun x hx => ?_, fun k hk t ht => ⟨fun hb => (hS k hk).2 t ht hb, fun hr => ?_⟩⟩
  · obtain ⟨t, hr⟩ := (hS k hk).1
    exact ⟨rx_wh hP h0 hr, t, hr⟩
  · obtain ⟨t, hr⟩ := hx.2
    obtain ⟨k, hk, e, _⟩ := all t x hr
    exact ⟨k, hk, e⟩
  · obtain ⟨j, hj, e, hb⟩ := all t (w 30 k) hr
    rw [tc_one hT hk hj e.symm]
    exact hb ht
/-- too many for one is too many for both -/
theorem cli_mny {P g se : Int} {h kn : Nat → Int} {x0 : Int} {w : Wd} (hP : 0 ≤ P ∧ P ≤ 10) (h0 : WH x0 (sof x0) P) (hc : CLI P g se h kn x0 w) : ¬ MNY P g se h kn x0 := by
  rintro ⟨F, hF, hI⟩
  obtain ⟨h1, h2, h3, h4, _⟩ := hc
  have ch : ∀ i : Nat, ∃ k : Nat, i < 3001 → (k : Int) < w 28 7 ∧ w 30 k = F i := fun i => by
    by_cases c : i < 3001
    · obtain ⟨t, ht⟩ := hF i c
      obtain ⟨k, hk, e⟩ := h4 (F i) ⟨rx_wh hP h0 ht, t, ht⟩
      exact ⟨k, fun _ => ⟨hk, e⟩⟩
    · exact ⟨0, fun hh => absurd hh c⟩
  have := php (w 28 7).toNat 3001 (fun i => Classical.choose (ch i)) (fun i hi => by
    have := (Classical.choose_spec (ch i) hi).1
    show Classical.choose (ch i) < (w 28 7).toNat
    omega) (fun i j hi hj e => by
    have a := (Classical.choose_spec (ch i) hi).2
    have b := (Classical.choose_spec (ch j) hj).2
    have e2 : Classical.choose (ch i) = Classical.choose (ch j) := e
    rw [e2] at a
    exact hI i j hi hj (a.symm.trans b))
  omega
/-- what the reference found, as STATES -/
theorem rli_x {P g se : Int} {h kn : Nat → Int} {x0 : Int} {w : Wd} (hP : 0 ≤ P ∧ P ≤ 10) (hr : RLI P g se h kn x0 w) : ∃ X : Nat → Int, (∀ t : Nat, (t : Int) < w 43 40 → VLS P g se h kn x0 (X t) ∧ w 63 t = cdx P (X t)) ∧ ∀ x, VLS P g se h kn x0 x → ∃ t : Nat, (t : Int) < w 43 40 ∧ X t = x := by
  obtain ⟨h1, h2, h3, h4, _⟩ := hr
  have ch : ∀ t : Nat, ∃ x, (t : Int) < w 43 40 → VLS P g se h kn x0 x ∧ w 63 t = cdx P x := fun t => by
    by_cases c : (t : Int) < w 43 40
    · obtain ⟨x, hx⟩ := h3 t c
      exact ⟨x, fun _ => hx⟩
    · exact ⟨0, fun hh => absurd hh c⟩
  refine ⟨fun t => Classical.choose (ch t), fun t ht => Classical.choose_spec (ch t) ht, fun x hx => ?_⟩
  obtain ⟨t, ht, e⟩ := h4 x hx
  obtain ⟨a, b⟩ := Classical.choose_spec (ch t) ht
  exact ⟨t, ht, cdx_inj hP a.1 hx.1 (by rw [← b, e])⟩
theorem rli_mny {P g se : Int} {h kn : Nat → Int} {x0 : Int} {w : Wd} (hP : 0 ≤ P ∧ P ≤ 10) (h0 : WH x0 (sof x0) P) (hr : RLI P g se h kn x0 w) : ¬ MNY P g se h kn x0 := by
  rintro ⟨F, hF, hI⟩
  obtain ⟨h1, h2, h3, h4, _⟩ := hr
  have ch : ∀ i : Nat, ∃ k : Nat, i < 3001 → (k : Int) < w 43 40 ∧ w 63 k = cdx P (F i) ∧ WH (F i) (sof (F i)) P := fun i => by
    by_cases c : i < 3001
    · obtain ⟨t, ht⟩ := hF i c
      have hw := rx_wh hP h0 ht
      obtain ⟨k, hk, e⟩ := h4 (F i) ⟨hw, t, ht⟩
      exact ⟨k, fun _ => ⟨hk, e, hw⟩⟩
    · exact ⟨0, fun hh => absurd hh c⟩
  have := php (w 43 40).toNat 3001 (fun i => Classical.choose (ch i)) (fun i hi => by
    have := (Classical.choose_spec (ch i) hi).1
    show Classical.choose (ch i) < (w 43 40).toNat
    omega) (fun i j hi hj e => by
    obtain ⟨_, a, a2⟩ := Classical.choose_spec (ch i) hi
    obtain ⟨_, b, b2⟩ := Classical.choose_spec (ch j) hj
    have e2 : Classical.choose (ch i) = Classical.choose (ch j) := e
    rw [e2] at a
    exact hI i j hi hj (cdx_inj hP a2 b2 (a.symm.trans b)))
  omega
/-! the class reads its list -/
theorem cg_pc {P g se : Int} {h kn : Nat → Int} {x0 : Int} {w u : Wd} (hc : CLI P g se h kn x0 w) (h7 : u 28 7 = w 28 7) (h30 : u 30 = w 30) {k : Int} (hk : 0 ≤ k ∧ k < w 28 7) : PC (f_S_guests k u) (fun r v => v = u ∧ B10 r (gs P (sof (w 30 k.toNat)))) := by
  have hx := (hc.2.2.1 k.toNat (by omega)).1
  refine pc_w (sgu_pc (P := P) (w := u) (s := k) (by omega) (by rw [h30]; exact hx)) (fun r v q => ⟨q.1, ?_⟩)
  rw [← h30]; exact q.2
def gn (P x : Int) : Int := ((pn (gs P (sof x)) 10 : Nat) : Int)
/-- somebody is a GUEST -/
def sbg (P x : Int) : Prop := ∃ k, k < 10 ∧ gs P (sof x) k = true
/-! WEEKS, BY THE REFERENCE -/
theorem sr_step {P g se : Int} {h kn : Nat → Int} {y x : Int} (hP : 0 ≤ P ∧ P ≤ 10) (hs : SUX P g se h kn y x) {k : Nat} (hk : sr P (sof x) k = true) : sr P (sof y) k = true := by
  obtain ⟨m, _, hw⟩ := hs
  unfold sr at *
  rw [Bool.and_eq_true, beq_iff_eq] at *
  refine ⟨hk.1, ?_⟩
  have hkP := inP_t hk.1
  have e := hk.2
  rw [sof_e hw hP.2 hkP] at e
  unfold nis at e
  by_cases c : bt m k = true
  · rw [if_pos c] at e; cases e
  · rw [if_neg c] at e
    by_cases c2 : gst (sof y k) = true
    · rw [if_pos c2] at e
      have := of_decide_eq_true c2
      split at e <;> omega
    · rw [if_neg c2] at e; exact e
def XOK (P g se : Int) (h kn : Nat → Int) (x0 : Int) (X : Nat → Int) (w : Wd) : Prop := (∀ t : Nat, (t : Int) < w 43 40 → VLS P g se h kn x0 (X t) ∧ w 63 t = cdx P (X t)) ∧ ∀ x, VLS P g se h kn x0 x → ∃ t : Nat, (t : Int) < w 43 40 ∧ X t = x
theorem xok_0 {P g se : Int} {h kn : Nat → Int} {x0 : Int} {X : Nat → Int} {w : Wd} (hP : 0 ≤ P ∧ P ≤ 10) (h0 : WH x0 (sof x0) P) (hr : RLI P g se h kn x0 w) (hx : XOK P g se h kn x0 X w) {t : Nat} (ht : (t : Int) < w 43 40) : X t = x0 ↔ t = 0 := by
  have h1 := hr.1
  have e0 := (hx.1 0 (by omega)).2
  rw [hr.2.2.2.2.1] at e0
  have x00 : X 0 = x0 := (cdx_inj hP h0 (hx.1 0 (by omega)).1.1 e0).symm
  constructor
  · intro e
    refine hr.2.1 t 0 ht (by omega) ?_
    rw [(hx.1 t ht).2, (hx.1 0 (by omega)).2, e, x00]
  · intro e; rw [e]; exact x00
/-! BOTH SEARCH: side by side -/
def hof (b : Int) (k : Nat) : Int := if bt b k = true then 1 else 0
theorem hof_B {b P : Int} {h : Nat → Int} (hb : B10 b (hB P h)) (k : Nat) (hk : k < 10) : hB P h k = hB P (hof b) k := by
  have e := hb.2 k hk
  unfold hB hof at *
  rw [e]
  cases inP P k with
  | false => rfl
  | true => cases (h k == 0) <;> rfl
def PRM (a w : Wd) (P g se : Int) (h kn : Nat → Int) (x0 : Int) : Prop := (0 ≤ P ∧ P ≤ 10) ∧ (1 ≤ g ∧ g ≤ 3) ∧ WH x0 (sof x0) P ∧ CW P g se h kn x0 w ∧ (a 43 0 = P ∧ a 43 10 = g ∧ a 43 11 = se) ∧ (∀ k : Nat, (k : Int) < P → a 47 k = sof x0 k) ∧ (∀ j : Nat, (j : Int) < P → a 45 j = kn j ∧ 0 ≤ kn j ∧ kn j ≤ 1023) ∧ (∀ k : Nat, (k : Int) < P → hB P (a 46) k = hB P h k) ∧ (∀ k, 0 ≤ a 44 k ∧ a 44 k ≤ 9) ∧ ∀ j : Nat, (j : Int) < P → w 6 j = a 44 j
theorem er_prm {a w : Wd} (h : ER a w) : PRM a w (w 5 3) (w 5 7) (w 5 8) (hof (w 5 5)) (w 7) (w 5 4) := by
  have x0 : 0 ≤ a 43 0 ∧ a 43 0 ≤ 10 := h.2.2.1
  have x3 : w 5 3 = a 43 0 := h.1.1.2.1
  have xp : ∀ j : Nat, (j : Int) < a 43 0 → w 6 j = a 44 j ∧ w 7 j = a 45 j ∧ w 8 j = a 48 j := h.1.2.1
  have xh : B10 (w 5 5) (hB (a 43 0) (a 46)) := h.1.2.2.1
  have xw : WH (w 5 4) (a 47) (a 43 0) := h.1.2.2.2.1
  have x7 : w 5 7 = a 43 10 := h.1.1.2.2.1.1
  have x8 : w 5 8 = a 43 11 := h.1.1.2.2.1.2
  have x45 : ∀ j : Nat, (j : Int) < a 43 0 → 0 ≤ a 45 j ∧ a 45 j ≤ 1023 := h.2.2.2.2.2.1
  have x44 : ∀ j, 0 ≤ a 44 j ∧ a 44 j ≤ 9 := h.2.2.2.1
  have xg : 1 ≤ a 43 10 ∧ a 43 10 ≤ 3 := h.1.2.2.2.2.2.2.2.2.2.2.1
  rw [← x3] at x0 xp xh xw x45
  refine ⟨x0, by rw [x7]; exact xg, wh_sof xw x0.2, ⟨rfl, ?_, rfl, rfl, rfl, fun j hj => ⟨rfl, ?_⟩⟩, ⟨x3.symm, x7.symm, x8.symm⟩, fun k hk => (sof_e xw x0.2 hk).symm, fun j hj => ⟨(xp j hj).2.1.symm, ?_⟩, fun k hk => hof_B xh k (by omega), x44, fun j hj => (xp j hj).1⟩
  · exact b10_w xh (fun k hk => hof_B xh k hk)
  · rw [(xp j hj).2.1]; exact x45 j hj
  · rw [(xp j hj).2.1]; exact x45 j hj
/-- of the class alone: what is kept of a search, and the count of its rounds -/
def SCR (n : Int) (w : Wd) : Prop := (ROK w ∧ w 24 4 ≤ 2000 * n) ∧ (w 28 9 ≠ 0 → KPT (w 5 3) (w 5 7) (w 5 8) (hof (w 5 5)) (w 7) (w 5 4) w)
theorem scr_mono {n n' : Int} {w : Wd} (h : SCR n w) (hn : n ≤ n') : SCR n' w := ⟨⟨h.1.1, by have := h.1.2; omega⟩, h.2⟩
theorem kpt_eq {P g se : Int} {h kn : Nat → Int} {x0 : Int} {w u : Wd} (hk : KPT P g se h kn x0 w) (h28 : ∀ k, k ≠ 9 → u 28 k = w 28 k) (h29 : u 29 = w 29) (h30 : u 30 = w 30) (h31 : u 31 = w 31) (h35 : u 35 = w 35) : KPT P g se h kn x0 u := by
  unfold KPT at *
  rw [h28 10 (by decide)]
  rcases hk with ⟨e, s1, s2, s3, s4, s5, s6⟩ | e
  · refine Or.inl ⟨e, ⟨tc_eq s1.1 h29 h30 (h28 7 (by decide)), ?_⟩, ?_, ?_, ?_, ?_, ?_⟩
    · rw [h28 7 (by decide), h30, h31]; exact s1.2
    · unfold XST; rw [h28 7 (by decide), h30, h31]; exact s2
    · unfold CLSx; rw [h28 7 (by decide), h30, h31]; exact s3
    · unfold ORD; rw [h28 7 (by decide), h28 8 (by decide), h35]; exact s4
    · unfold PRO; rw [h28 7 (by decide), h28 8 (by decide), h35]; exact s5
    · unfold ORK; rw [h28 8 (by decide), h30, h35]; exact s6
  · exact Or.inr e
/-- nothing of it is touched -/
theorem scr_fr {n : Int} {w u : Wd} (h : SCR n w) (h5 : u 5 = w 5) (h7 : u 7 = w 7) (h24 : u 24 = w 24) (h27 : u 27 = w 27) (h28 : u 28 = w 28) (h29 : u 29 = w 29) (h30 : u 30 = w 30) (h31 : u 31 = w 31) (h35 : u 35 = w 35) : SCR n u := by
  unfold SCR ROK
  rw [h24, h27, h28, h5, h7]
  exact ⟨h.1, fun hf => kpt_eq (h.2 hf) (fun k _ => by rw [h28]) h29 h30 h31 h35⟩
/-- it is forgotten -/
theorem scr_no {n : Int} {w u : Wd} (h : SCR n w) (h24 : u 24 = w 24) (h27 : u 27 = w 27) (h9 : u 28 9 = 0) : SCR n u := by
  unfold SCR ROK
  rw [h24, h27]
  exact ⟨h.1, fun hf => absurd h9 hf⟩
/-- what a run of the class leaves -/
def RUN (P g se : Int) (h kn : Nat → Int) (x0 : Int) (w u : Wd) : Prop := (∀ c, c ≠ 24 → c ≠ 25 → c ≠ 26 → c ≠ 27 → c ≠ 28 → c ≠ 29 → c ≠ 30 → c ≠ 31 → c ≠ 33 → c ≠ 34 → c ≠ 35 → u c = w c) ∧ (ROK u ∧ u 24 4 ≤ w 24 4 + 3000) ∧ u 28 9 ≠ 0 ∧ KPT P g se h kn x0 u
theorem crun {a w : Wd} {P g se : Int} {h kn : Nat → Int} {x0 n : Int} (hp : PRM a w P g se h kn x0) (hs : SCR n w) (hn : n ≤ 2600) (hk : w 28 9 ≠ 0 → KPT P g se h kn x0 w) : PC (f_S_run w) (fun r u => RUN P g se h kn x0 w u ∧ ((r = 1 ∧ SRC P g se h kn x0 u) ∨ (r = 0 ∧ MNY P g se h kn x0))) := by
  obtain ⟨hP, hg, h0, hw, _⟩ := hp
  refine pc_w (run_pc hP hg h0 hw hk hs.1.1 (by have := hs.1.2; omega)) (fun r u q => ?_)
  obtain ⟨q1, q2, q3, q4⟩ := q
  rcases q4 with ⟨e, e2, s⟩ | ⟨e, e2, m⟩
  · exact ⟨⟨q1, q2, q3, Or.inl ⟨e2, s⟩⟩, Or.inl ⟨e, s⟩⟩
  · exact ⟨⟨q1, q2, q3, Or.inr ⟨e2, m⟩⟩, Or.inr ⟨e, m⟩⟩
theorem run_scr {w u : Wd} {n : Int} (hs : SCR n w) (hr : RUN (w 5 3) (w 5 7) (w 5 8) (hof (w 5 5)) (w 7) (w 5 4) w u) : SCR (n + 5) u := by
  obtain ⟨q1, q2, q3, q4⟩ := hr
  have h5 : u 5 = w 5 := q1 5 (by decide) (by decide) (by decide) (by decide) (by decide) (by decide) (by decide) (by decide) (by decide) (by decide) (by decide)
  have h7 : u 7 = w 7 := q1 7 (by decide) (by decide) (by decide) (by decide) (by decide) (by decide) (by decide) (by decide) (by decide) (by decide) (by decide)
  refine ⟨⟨q2.1, by have := hs.1.2; omega⟩, fun _ => ?_⟩
  rw [h5, h7]; exact q4
/-! STATES, NEVER, MOST, REACH, FEWEST -/
theorem gx_pc {P g se : Int} {h kn : Nat → Int} {x0 : Int} {X : Nat → Int} {w u : Wd} (hP : 0 ≤ P ∧ P ≤ 10) (hx : XOK P g se h kn x0 X w) (h0 : u 43 0 = P) (h63 : u 63 = w 63) {k : Int} (hk : 0 ≤ k ∧ k < w 43 40) : PC (f_R_guestsIn k u) (fun r v => v = u ∧ B10 r (gs P (sof (X k.toNat)))) := by
  obtain ⟨h1, h2⟩ := hx.1 k.toNat (by omega)
  have := gsIn_pc (P := P) (s := sof (X k.toNat)) (w := u) (t := k.toNat) hP h0 h1.1.2.2 (by rw [h63]; exact h2)
  rw [show ((k.toNat : Nat) : Int) = k by omega] at this
  exact this
theorem run_5 {P g se : Int} {h kn : Nat → Int} {x0 : Int} {w u : Wd} (hr : RUN P g se h kn x0 w u) : u 5 = w 5 ∧ u 6 = w 6 ∧ u 7 = w 7 := ⟨hr.1 5 (by decide) (by decide) (by decide) (by decide) (by decide) (by decide) (by decide) (by decide) (by decide) (by decide) (by decide), hr.1 6 (by decide) (by decide) (by decide) (by decide) (by decide) (by decide) (by decide) (by decide) (by decide) (by decide) (by decide), hr.1 7 (by decide) (by decide) (by decide) (by decide) (by decide) (by decide) (by decide) (by decide) (by decide) (by decide) (by decide)⟩
theorem sbg_0 {P x r : Int} (hb : B10 r (gs P (sof x))) : r ≠ 0 ↔ sbg P x := by
  rcases b10_some hb with ⟨e, hn⟩ | ⟨e, hs⟩
  · exact ⟨fun c => absurd e c, fun ⟨k, hk, e2⟩ => by rw [hn k hk] at e2; cases e2⟩
  · exact ⟨fun _ => hs, fun _ => e⟩
/-! WHAT IS PAID, WEEKS OF SOME: the class -/
/-- some are all GUESTS, somebody is one -/
def SUB (P : Int) (F : Nat → Bool) (x : Int) : Prop := sbg P x ∧ ∀ q, q < 10 → F q = true → gs P (sof x) q = true
theorem sub_0 {P v r x : Int} {F : Nat → Bool} (hb : B10 r (gs P (sof x))) (hv : B10 v F) : iand v (ixor r (-1)) = 0 ↔ ∀ q, q < 10 → F q = true → gs P (sof x) q = true := by
  have h := b10_andn hv hb.2
  constructor
  · intro e q hq hF
    have := h.2 q hq
    rw [e, bt_0] at this
    have t2 : false = (F q && !gs P (sof x) q) := this
    rw [hF] at t2
    cases hg : gs P (sof x) q with
    | true => rfl
    | false => rw [hg] at t2; cases t2
  · intro hA
    refine b10_eq h b10_0 (fun q hq => ?_)
    cases hF : F q with
    | false => rfl
    | true => rw [hA q hq hF]; rfl
/-- in which WEEKS some are all GUESTS, and some others all STRANGERS still -/
def WKT (P g se : Int) (h kn : Nat → Int) (x0 : Int) (F H : Nat → Bool) (t : Nat) : Prop := ∃ x, RCX P g se h kn x0 t x ∧ SUB P F x ∧ ∀ q, q < 10 → H q = true → kno P (sof x) q = false
theorem kno_0 {P v r x : Int} {H : Nat → Bool} (hb : B10 r (fun k => inP P k && !(sof x k == 0))) (hv : B10 v H) : iand r v = 0 ↔ ∀ q, q < 10 → H q = true → kno P (sof x) q = false := by
  have h := b10_and hb hv.2
  constructor
  · intro e q hq hH
    have := h.2 q hq
    rw [e, bt_0] at this
    have t2 : false = ((inP P q && !(sof x q == 0)) && H q) := this
    rw [hH, Bool.and_true] at t2
    exact t2.symm
  · intro hA
    refine b10_eq h b10_0 (fun q hq => ?_)
    cases hH : H q with
    | false => simp
    | true =>
      have := hA q hq hH
      unfold kno at this
      rw [this]; rfl
theorem cww_pc {P g se : Int} {h kn : Nat → Int} {x0 : Int} {u : Wd} {v1 v2 : Int} {F H : Nat → Bool} (hc : CLI P g se h kn x0 u) (hP : 0 ≤ P ∧ P ≤ 10) (h0 : WH x0 (sof x0) P) (hF : B10 v1 F) (hH : B10 v2 H) : PC (f_S_weeksWith v1 v2 u) (fun r v => v = u ∧ ∀ t, t < 61 → (b6 r t = true ↔ WKT P g se h kn x0 F H t)) := by
  have l5 : ∀ (n : Nat) {v3 v5 : Int}, 0 ≤ v5 → v5 ≤ u 28 7 → (∀ t, t < 61 → (b6 v3 t = true ↔ ∃ k : Nat, (k : Int) < v5 ∧ RCX P g se h kn x0 t (u 30 k) ∧ SUB P F (u 30 k) ∧ ∀ q, q < 10 → H q = true → kno P (sof (u 30 k)) q = false)) → PC (f_S_weeksWith_5 n v1 v2 v3 v5 u) (fun r v => v = u ∧ ∀ t, t < 61 → (b6 r t = true ↔ WKT P g se h kn x0 F H t)) := by
    intro n
    induction n with
    | zero => intros; exact pc_none
    | succ n ih =>
      intro v3 v5 i5 i5' hM
      rw [f_S_weeksWith_5]
      have h3000 := hc.1
      unfold f_S_weeksWith_61
      have skip : ¬ (SUB P F (u 30 v5.toNat) ∧ ∀ q, q < 10 → H q = true → kno P (sof (u 30 v5.toNat)) q = false) → ∀ t, t < 61 → (b6 v3 t = true ↔ ∃ k : Nat, (k : Int) < v5 + 1 ∧ RCX P g se h kn x0 t (u 30 k) ∧ SUB P F (u 30 k) ∧ ∀ q, q < 10 → H q = true → kno P (sof (u 30 k)) q = false) := fun hn t ht => by
        rw [hM t ht]
        constructor
        · rintro ⟨k, hk, a⟩; exact ⟨k, by omega, a⟩
        · rintro ⟨k, hk, a, b⟩
          by_cases c : (k : Int) < v5
          · exact ⟨k, c, a, b⟩
          · rw [show k = v5.toNat by omega] at b; exact absurd b hn
      refine pc_ite (fun c => pc_some ⟨rfl, fun t ht => ?_⟩) (fun c => ?_)
      · rw [hM t ht]
        constructor
        · rintro ⟨k, hk, a, b⟩; exact ⟨u 30 k, a, b⟩
        · rintro ⟨x, a, b⟩
          obtain ⟨k, hk, e⟩ := hc.2.2.2.1 x ⟨rx_wh hP h0 a, t, a⟩
          exact ⟨k, by omega, by rw [e]; exact a, by rw [e]; exact b⟩
      · refine pc_call (cg_pc hc rfl rfl ⟨i5, by omega⟩) (fun r1 u2 z => ?_)
        rw [z.1]
        have sb := sbg_0 z.2
        refine pc_ite (fun cz => pc_let (fun x9 e9 => ?_)) (fun cz => ?_)
        · rw [w32_id (by omega)] at e9
          rw [e9]
          exact ih (by omega) (by omega) (skip (fun hh => absurd cz (sb.mpr hh.1.1)))
        · refine pc_call (cg_pc hc rfl rfl ⟨i5, by omega⟩) (fun r4 u5 z2 => ?_)
          rw [z2.1]
          have s0 := sub_0 z2.2 hF
          refine pc_ite (fun c2 => pc_gd (fun _ => ?_)) (fun c2 => pc_let (fun x9 e9 => ?_))
          · have hx := (hc.2.2.1 v5.toNat (by omega)).1
            unfold f_O_known
            rw [jc_s]
            have k0 := kno_0 (wh_kn hx) hH
            refine pc_ite (fun c3 => pc_gd (fun _ => pc_let (fun x8 e8 => pc_let (fun x9 e9 => ?_)))) (fun c3 => pc_let (fun x9 e9 => ?_))
            · rw [w32_id (by omega)] at e9
              rw [e8, e9]
              refine ih (by omega) (by omega) (fun t ht => ?_)
              rw [b6_or, Bool.or_eq_true, hM t ht, hc.2.2.2.2 v5.toNat (by omega) t ht]
              constructor
              · rintro (⟨k, hk, a⟩ | a)
                · exact ⟨k, by omega, a⟩
                · exact ⟨v5.toNat, by omega, a, ⟨sb.mp cz, s0.mp c2⟩, k0.mp c3⟩
              · rintro ⟨k, hk, a, b⟩
                by_cases ck : (k : Int) < v5
                · exact Or.inl ⟨k, ck, a, b⟩
                · rw [show k = v5.toNat by omega] at a; exact Or.inr a
            · rw [w32_id (by omega)] at e9
              rw [e9]
              exact ih (by omega) (by omega) (skip (fun hh => c3 (k0.mpr hh.2)))
          · rw [w32_id (by omega)] at e9
            rw [e9]
            exact ih (by omega) (by omega) (skip (fun hh => c2 (s0.mpr hh.1.2)))
  unfold f_S_weeksWith
  exact l5 FU (by decide) hc.1.1 (fun t _ => by rw [b6_0]; exact ⟨(fun e => by cases e), (fun e => by obtain ⟨k, hk, _⟩ := e; omega)⟩)
def LstQ (T : Nat → Prop) (r : Int) : Prop := (r = -1 ∧ ∀ t, t < 61 → ¬ T t) ∨ ((0 ≤ r ∧ r ≤ 60) ∧ T r.toNat ∧ ∀ t, t < 61 → T t → (t : Int) ≤ r)
theorem clw_pc {P g se : Int} {h kn : Nat → Int} {x0 : Int} {u : Wd} {v1 v2 : Int} {F H : Nat → Bool} (hc : CLI P g se h kn x0 u) (hP : 0 ≤ P ∧ P ≤ 10) (h0 : WH x0 (sof x0) P) (hF : B10 v1 F) (hH : B10 v2 H) : PC (f_S_lastWeek v1 v2 u) (fun r v => v = u ∧ LstQ (WKT P g se h kn x0 F H) r) := by
  unfold f_S_lastWeek
  refine pc_call (cww_pc hc hP h0 hF hH) (fun r1 u2 q => ?_)
  rw [q.1]
  have l11 : ∀ (n : Nat) {v5 : Int}, -1 ≤ v5 → v5 ≤ 60 → (∀ t : Nat, v5 < (t : Int) → t < 61 → ¬ WKT P g se h kn x0 F H t) → PC (f_S_lastWeek_11 n r1 v5 u) (fun r v => v = u ∧ LstQ (WKT P g se h kn x0 F H) r) := by
    intro n
    induction n with
    | zero => intros; exact pc_none
    | succ n ih =>
      intro v5 i5 i5' hn
      rw [f_S_lastWeek_11]
      refine pc_ite (fun c => pc_some ⟨rfl, Or.inl ⟨rfl, fun t ht => hn t (by omega) ht⟩⟩) (fun c => ?_)
      rw [b6_ask (by omega)]
      have hb := q.2 v5.toNat (by omega)
      cases e : b6 r1 v5.toNat with
      | true =>
        refine pc_ite (fun c => absurd c (by decide)) (fun _ => pc_some ⟨rfl, Or.inr ⟨by omega, hb.mp e, fun t ht hT => ?_⟩⟩)
        refine Classical.byContradiction fun hh => hn t (by omega) ht hT
      | false =>
        refine pc_ite (fun _ => pc_let (fun x3 e3 => ?_)) (fun c => absurd rfl c)
        rw [w32_id (by omega)] at e3
        rw [e3]
        refine ih (by omega) (by omega) (fun t ht h61 hT => ?_)
        by_cases ct : v5 < (t : Int)
        · exact hn t ct h61 hT
        · rw [show t = v5.toNat by omega] at hT
          rw [hb.mpr hT] at e; cases e
  exact l11 FU (by decide) (by decide) (fun t ht h61 => by omega)
/-! NOT FOR LONG: in 29 WEEKS nobody is a GUEST any more -/
def phi (P : Int) (s : Nat → Int) (L : Int) : Int := 3 * ((pn (sr P s) 10 : Nat) : Int) + 3 - L
/-- the least value of a GUEST -/
def LEA (P : Int) (s : Nat → Int) (L : Int) : Prop := (1 ≤ L ∧ L ≤ 3) ∧ ∀ k, k < 10 → gs P s k = true → L ≤ s k
theorem sx_phi {P g se : Int} {h kn : Nat → Int} {x y : Int} (hP : 0 ≤ P ∧ P ≤ 10) (hg : 1 ≤ g ∧ g ≤ 3) (hx : WH x (sof x) P) (hs : SUX P g se h kn x y) {L : Int} (hL : LEA P (sof x) L) (hy : sbg P y) : ∃ L', LEA P (sof y) L' ∧ phi P (sof y) L' + 1 ≤ phi P (sof x) L := by
  have hs' := hs
  obtain ⟨m, hm, hw⟩ := hs
  have ek : ∀ k : Nat, (k : Int) < P → sof y k = nis P (sof x) g (bt m) k := fun k hk => sof_e hw hP.2 hk
  have srm : ∀ k, k < 10 → sr P (sof y) k = true → sr P (sof x) k = true := fun k _ e => sr_step hP hs' e
  have gin : ∀ (s : Nat → Int) k, gs P s k = true → (k : Int) < P ∧ 1 ≤ s k ∧ s k < 4 := fun s k e => by
    unfold gs at e
    rw [Bool.and_eq_true] at e
    have := of_decide_eq_true e.2
    exact ⟨inP_t e.1, this⟩
  rcases mvs_some hP hm with e | ⟨⟨o, ho, hb, hf⟩, _⟩
  · -- nobody brings anybody: all GUESTS are later
    have key : ∀ k, k < 10 → gs P (sof y) k = true → L + 1 ≤ sof y k := fun k hk hgk => by
      obtain ⟨h1, h2, h3⟩ := gin _ k hgk
      have e2 := ek k h1
      rw [e] at e2
      unfold nis at e2
      rw [bt_0] at e2
      by_cases c : gst (sof x k) = true
      · rw [if_neg (by decide), if_pos c] at e2
        have gx : gs P (sof x) k = true := by unfold gs; rw [show inP P k = true from decide_eq_true h1, c]; rfl
        have := hL.2 k hk gx
        split at e2 <;> omega
      · rw [if_neg (by decide), if_neg c] at e2
        exact absurd (decide_eq_true (by omega)) c
    obtain ⟨k0, hk0, hgk0⟩ := hy
    have b := key k0 hk0 hgk0
    have b2 := gin _ k0 hgk0
    refine ⟨L + 1, ⟨by have := hL.1; omega, key⟩, ?_⟩
    have := pn_mono (f := sr P (sof y)) (g := sr P (sof x)) (n := 10) srm
    unfold phi; omega
  · have hfo := fre_sr hf
    have lt := pn_lt (f := sr P (sof y)) (g := sr P (sof x)) (n := 10) srm ⟨o, ho, by
      unfold sr
      rw [ek o hfo.1]
      unfold nis
      rw [hb]; simp, by unfold sr; rw [show inP P o = true from decide_eq_true hfo.1, hfo.2.1]; rfl⟩
    refine ⟨1, ⟨by decide, fun k hk hgk => (gin _ k hgk).2.1⟩, ?_⟩
    have := hL.1
    unfold phi; omega
theorem few_wk {P g se : Int} {h kn : Nat → Int} {x0 : Int} (hP : 0 ≤ P ∧ P ≤ 10) (hg : 1 ≤ g ∧ g ≤ 3) (h0 : WH x0 (sof x0) P) : ∀ {t : Nat} {x : Int}, RCX P g se h kn x0 t x → sbg P x → ∃ L, LEA P (sof x) L ∧ (t : Int) + phi P (sof x) L ≤ 29 := by
  intro t
  induction t with
  | zero =>
    intro x e hs
    have e' : x = x0 := e
    rw [e'] at hs ⊢
    obtain ⟨k, hk, hgk⟩ := hs
    refine ⟨1, ⟨by decide, fun k hk hgk => ?_⟩, ?_⟩
    · unfold gs at hgk
      rw [Bool.and_eq_true] at hgk
      have := of_decide_eq_true hgk.2
      omega
    · have := pn_lt (f := sr P (sof x0)) (g := fun _ => true) (n := 10) (fun _ _ _ => rfl) ⟨k, hk, by
        unfold gs at hgk
        rw [Bool.and_eq_true] at hgk
        have h2 := of_decide_eq_true hgk.2
        unfold sr
        rw [beq_eq_false_iff_ne.mpr (show ¬ sof x0 k = 0 by omega)]; simp, rfl⟩
      have := pn_le (fun _ : Nat => true) 10
      unfold phi
      omega
  | succ t ih =>
    rintro x ⟨y, hy, hs⟩ hsx
    have hwy := rx_wh hP h0 hy
    have sy : sbg P y := by
      refine Classical.byContradiction fun hn => ?_
      have h1 : ∀ k, k < 10 → gs P (sof y) k = false := fun k hk => by
        cases e : gs P (sof y) k with
        | false => rfl
        | true => exact absurd ⟨k, hk, e⟩ hn
      have := (sx_no (g := g) (se := se) (h := h) (kn := kn) hP hwy h1).mp hs
      rw [this] at hsx
      exact hn hsx
    obtain ⟨L, hL, hb⟩ := ih hy sy
    obtain ⟨L', hL', hb'⟩ := sx_phi hP hg hwy hs hL hsx
    exact ⟨L', hL', by omega⟩
theorem wk_29 {P g se : Int} {h kn : Nat → Int} {x0 : Int} (hP : 0 ≤ P ∧ P ≤ 10) (hg : 1 ≤ g ∧ g ≤ 3) (h0 : WH x0 (sof x0) P) {t : Nat} {x : Int} (hr : RCX P g se h kn x0 t x) (hs : sbg P x) : t ≤ 29 := by
  obtain ⟨L, hL, hb⟩ := few_wk hP hg h0 hr hs
  have := hL.1
  unfold phi at hb
  omega
/-! HOW LONG STILL: the reference -/
theorem rcx_first {P g se : Int} {h kn : Nat → Int} : ∀ {n : Nat} {x y : Int}, RCX P g se h kn x (n + 1) y ↔ ∃ z, SUX P g se h kn x z ∧ RCX P g se h kn z n y := by
  intro n
  induction n with
  | zero =>
    intro x y
    constructor
    · rintro ⟨z, e, hs⟩
      have e' : z = x := e
      rw [e'] at hs
      exact ⟨y, hs, rfl⟩
    · rintro ⟨z, hs, e⟩
      have e' : y = z := e
      rw [e']
      exact ⟨x, rfl, hs⟩
  | succ n ih =>
    intro x y
    constructor
    · rintro ⟨v, hv, hs⟩
      obtain ⟨z, a, b⟩ := ih.mp hv
      exact ⟨z, a, v, b, hs⟩
    · rintro ⟨z, a, v, b, hs⟩
      exact ⟨v, ih.mpr ⟨z, a, b⟩, hs⟩
def wgt (v : Int) : Int := if v = 0 then 100 else if gst v = true then 4 - v else 0
def lsm (s : Nat → Int) : Nat → Int
  | 0 => 0
  | n + 1 => lsm s n + wgt (s n)
theorem wgt_rg (v : Int) : 0 ≤ wgt v ∧ wgt v ≤ 100 := by
  unfold wgt
  by_cases c : v = 0
  · rw [if_pos c]; decide
  · rw [if_neg c]
    by_cases c2 : gst v = true
    · rw [if_pos c2]
      have := of_decide_eq_true c2
      omega
    · rw [if_neg c2]; decide
theorem lsm_rg (s : Nat → Int) : ∀ n : Nat, 0 ≤ lsm s n ∧ lsm s n ≤ 100 * n := by
  intro n
  induction n with
  | zero => exact ⟨Int.le_refl _, Int.le_refl _⟩
  | succ n ih => rw [lsm]; have := wgt_rg (s n); omega
/-- it gets less while somebody is a GUEST -/
theorem sx_lsm {P g se : Int} {h kn : Nat → Int} {x y : Int} (hP : 0 ≤ P ∧ P ≤ 10) (hg : 1 ≤ g ∧ g ≤ 3) (hx : WH x (sof x) P) (hs : SUX P g se h kn x y) (hgu : sbg P x) : lsm (sof y) P.toNat < lsm (sof x) P.toNat := by
  obtain ⟨m, hm, hw⟩ := hs
  have ek : ∀ k : Nat, (k : Int) < P → sof y k = nis P (sof x) g (bt m) k := fun k hk => sof_e hw hP.2 hk
  -- each alone
  have one : ∀ k : Nat, (k : Int) < P → (bt m k = false → wgt (sof y k) ≤ wgt (sof x k) ∧ (gst (sof x k) = true → wgt (sof y k) + 1 ≤ wgt (sof x k))) ∧ (bt m k = true → wgt (sof y k) = 3) := fun k hk => by
    have r := hx.2.2 k hk
    rw [ek k hk]
    unfold nis
    constructor
    · intro hb
      rw [hb]
      simp only [Bool.false_eq_true, if_false]
      rcases v5 r with e | e | e | e | e
      · rw [e]; simp [show gst 0 = false from rfl]
      · rw [e]
        by_cases c : 1 < g
        · simp only [show gst 1 = true from rfl, if_true, if_pos c]; decide
        · simp only [show gst 1 = true from rfl, if_true, if_neg c]; decide
      · rw [e]
        by_cases c : 2 < g
        · simp only [show gst 2 = true from rfl, if_true, if_pos c]; decide
        · simp only [show gst 2 = true from rfl, if_true, if_neg c]; decide
      · rw [e]
        by_cases c : 3 < g
        · simp only [show gst 3 = true from rfl, if_true, if_pos c]; decide
        · simp only [show gst 3 = true from rfl, if_true, if_neg c]; decide
      · rw [e]; simp [show gst 4 = false from rfl]
    · intro hb
      rw [hb, if_pos rfl]; decide
  obtain ⟨d, f, hD⟩ := hm
  have hmr := drc_rg hP hD
  -- by how much it may grow: of who brings 2, of who is brought -97
  have key : ∀ n : Nat, (n : Int) ≤ P → lsm (sof y) n + 97 * ((pn (fun k => bt m k && fre P (sof x) h k) n : Nat) : Int) + ((pn (fun k => gs P (sof x) k && !bt m k) n : Nat) : Int) ≤ lsm (sof x) n + 2 * ((pn (fun k => bt m k && gs P (sof x) k) n : Nat) : Int) := by
    intro n
    induction n with
    | zero => intro _; exact Int.le_refl _
    | succ n ih =>
      intro hn
      have h1 := ih (by omega)
      have h2 := one n (by omega)
      have rx := hx.2.2 n (by omega)
      rw [lsm, lsm, pn, pn, pn]
      have egs : gs P (sof x) n = gst (sof x n) := by unfold gs; rw [show inP P n = true from decide_eq_true (by omega)]; rfl
      cases hb : bt m n with
      | false =>
        obtain ⟨a1, a2⟩ := h2.1 hb
        rw [egs]
        cases hgs : gst (sof x n) with
        | false => simp; omega
        | true => have := a2 hgs; simp; omega
      | true =>
        have a1 := h2.2 hb
        have wr := wgt_rg (sof x n)
        rcases (mvs_who hP ⟨d, f, hD⟩).2 n (by omega) hb with e | e
        · have nf := gs_fre (P := P) (s := sof x) (h := h) n (by omega) e
          rw [e, nf]
          have : 1 ≤ wgt (sof x n) := by
            rw [egs] at e
            have h4 := of_decide_eq_true e
            unfold wgt
            rw [if_neg (by omega), if_pos e]; omega
          simp; omega
        · have ng : gs P (sof x) n = false := by
            cases hh : gs P (sof x) n with
            | false => rfl
            | true => rw [gs_fre (P := P) (s := sof x) (h := h) n (by omega) hh] at e; cases e
          have hf := fre_sr e
          rw [e, ng]
          have : wgt (sof x n) = 100 := by rw [hf.2.1]; rfl
          simp; omega
  have hk := key P.toNat (by omega)
  -- as many bring as are brought
  have cut : ∀ f : Nat → Bool, (∀ k, k < 10 → f k = true → (k : Int) < P) → pn f P.toNat = pn f 10 := fun f hf => (pn_cut (f := f) (n := P.toNat) (m := 10) (by omega) (fun k h1 h2 => by
    cases hb : f k with
    | false => rfl
    | true => have := hf k h2 hb; omega)).symm
  have gin : ∀ k, gs P (sof x) k = true → (k : Int) < P := fun k e => by unfold gs at e; rw [Bool.and_eq_true] at e; exact inP_t e.1
  have bal : ∀ {d : Nat} {f m : Int}, DRC P se kn (gs P (sof x)) (fre P (sof x) h) (sty P (sof x) g) d f m → pn (fun k => bt m k && fre P (sof x) h k) 10 = d ∧ pn (fun k => bt m k && gs P (sof x) k) 10 = d := by
    intro d
    induction d with
    | zero =>
      intro f m hD
      rw [hD.2]
      exact ⟨pn_0 (fun k _ => by rw [bt_0]; rfl), pn_0 (fun k _ => by rw [bt_0]; rfl)⟩
    | succ d ihd =>
      rintro f m ⟨f0, m0, h0', i, o, b1, b2, b3, b4, b5, b6', b7, b8, b9, b10'⟩
      obtain ⟨i1, i2⟩ := ihd h0'
      have r0 := drc_rg hP h0'
      obtain ⟨n1, n2⟩ := chd_new hP gs_fre h0' b1 (by omega) b3 b4 b5
      have st : ∀ k, k < 10 → bt m k = (bt m0 k || decide (k = i) || decide (k = o)) := fun k hk => by rw [b8]; exact sq_t r0.1 (by omega) b3 hk
      have fi : fre P (sof x) h i = false := gs_fre i (by omega) b4
      have go : gs P (sof x) o = false := by
        cases hh : gs P (sof x) o with
        | false => rfl
        | true => rw [gs_fre (P := P) (s := sof x) (h := h) o b3 hh] at b5; cases b5
      constructor
      · rw [← i1]
        refine pn_up (f := fun k => bt m0 k && fre P (sof x) h k) (f' := fun k => bt m k && fre P (sof x) h k) (i := o) b3 (fun k hk hn => ?_) (by rw [b7]; rfl) (by rw [st o b3, decide_eq_true rfl, b5]; simp)
        rw [st k hk, decide_eq_false hn, Bool.or_false]
        by_cases c : k = i
        · rw [c, fi]; simp
        · rw [decide_eq_false c, Bool.or_false]
      · rw [← i2]
        refine pn_up (f := fun k => bt m0 k && gs P (sof x) k) (f' := fun k => bt m k && gs P (sof x) k) (i := i) (by omega) (fun k hk hn => ?_) (by rw [n1]; rfl) (by rw [st i (by omega), decide_eq_true rfl, b4]; simp)
        rw [st k hk, decide_eq_false hn, Bool.or_false]
        by_cases c : k = o
        · rw [c, go]; simp
        · rw [decide_eq_false c, Bool.or_false]
  obtain ⟨q1, q2⟩ := bal hD
  rw [cut _ (fun k _ e => by rw [Bool.and_eq_true] at e; exact (fre_sr e.2).1), cut _ (fun k _ e => by rw [Bool.and_eq_true] at e; exact gin k e.1), cut _ (fun k _ e => by rw [Bool.and_eq_true] at e; exact gin k e.2), q1, q2] at hk
  by_cases c : d = 0
  · have m0 : m = 0 := by rw [c] at hD; exact hD.2
    obtain ⟨k0, hk0, hg0⟩ := hgu
    have := pn_pos (f := fun k => gs P (sof x) k && !bt m k) hk0 (by rw [hg0, m0, bt_0]; rfl)
    omega
  · omega
/-! the reference's order -/
def Lf (P : Int) (X : Nat → Int) (t : Nat) : Int := lsm (sof (X t)) P.toNat
def ODR (P : Int) (X : Nat → Int) (N : Int) (w : Wd) : Prop := (∀ k : Nat, (k : Int) < N → 0 ≤ w 72 k ∧ w 72 k < N) ∧ (∀ i j : Nat, (i : Int) < N → (j : Int) < N → w 72 i = w 72 j → i = j) ∧ (∀ t : Nat, (t : Int) < N → ∃ k : Nat, (k : Int) < N ∧ w 72 k = (t : Int)) ∧ ∀ i j : Nat, i < j → (j : Int) < N → Lf P X (w 72 i).toNat ≤ Lf P X (w 72 j).toNat
theorem fo_pc {P g se : Int} {h kn : Nat → Int} {x0 : Int} {X : Nat → Int} {w : Wd} (hP : 0 ≤ P ∧ P ≤ 10) (c0 : w 43 0 = P) (hr : 1 ≤ w 43 40 ∧ w 43 40 ≤ 3000) (hx : XOK P g se h kn x0 X w) : PC (f_R_findOrder w) (fun _ u => (∀ c, c ≠ 72 → c ≠ 73 → u c = w c) ∧ ODR P X (w 43 40) u) := by
  -- the order is written
  have l103 : ∀ (n : Nat) {v1 v2 v3 : Int} {u : Wd}, 0 ≤ v3 → 0 ≤ v2 → (∀ c, c ≠ 72 → c ≠ 73 → u c = w c) → (v1 ≤ 1000 ∧ ∀ t : Nat, (t : Int) < w 43 40 → u 73 t = Lf P X t ∧ Lf P X t ≤ v1) → (∀ k : Nat, (k : Int) < v2 → (0 ≤ u 72 k ∧ u 72 k < w 43 40) ∧ Lf P X (u 72 k).toNat < v3) → (∀ i j : Nat, (i : Int) < v2 → (j : Int) < v2 → u 72 i = u 72 j → i = j) → (∀ t : Nat, (t : Int) < w 43 40 → Lf P X t < v3 → ∃ k : Nat, (k : Int) < v2 ∧ u 72 k = (t : Int)) → (∀ i j : Nat, i < j → (j : Int) < v2 → Lf P X (u 72 i).toNat ≤ Lf P X (u 72 j).toNat) → PC (f_R_findOrder_103 n v1 v2 v3 u) (fun _ u => (∀ c, c ≠ 72 → c ≠ 73 → u c = w c) ∧ ODR P X (w 43 40) u) := by
    intro n
    induction n with
    | zero => intros; exact pc_none
    | succ n ih =>
      intro v1 v2 v3 u i3 i2 hu h73 hA hI hS hO
      rw [f_R_findOrder_103]
      refine pc_ite (fun c => pc_some ⟨hu, ?_⟩) (fun c => ?_)
      · have all : ∀ t : Nat, (t : Int) < w 43 40 → ∃ k : Nat, (k : Int) < v2 ∧ u 72 k = (t : Int) := fun t ht => hS t ht (by have := (h73.2 t ht).2; omega)
        -- as many as there are
        have ev : v2 = w 43 40 := by
          have a := php (w 43 40).toNat v2.toNat (fun i => (u 72 i).toNat) (fun i hi => by
            have := (hA i (by omega)).1
            show (u 72 i).toNat < (w 43 40).toNat
            omega) (fun i j hi hj e => by
            have e' : (u 72 i).toNat = (u 72 j).toNat := e
            have r1 := (hA i (by omega)).1
            have r2 := (hA j (by omega)).1
            exact hI i j (by omega) (by omega) (by omega))
          have ch : ∀ t : Nat, ∃ k : Nat, (t : Int) < w 43 40 → (k : Int) < v2 ∧ u 72 k = (t : Int) := fun t => by
            by_cases ct : (t : Int) < w 43 40
            · obtain ⟨k, hk⟩ := all t ct
              exact ⟨k, fun _ => hk⟩
            · exact ⟨0, fun hh => absurd hh ct⟩
          have b := php v2.toNat (w 43 40).toNat (fun i => Classical.choose (ch i)) (fun i hi => by
            have := (Classical.choose_spec (ch i) (by omega)).1
            show Classical.choose (ch i) < v2.toNat
            omega) (fun i j hi hj e => by
            have a := (Classical.choose_spec (ch i) (by omega)).2
            have b := (Classical.choose_spec (ch j) (by omega)).2
            have e2 : Classical.choose (ch i) = Classical.choose (ch j) := e
            rw [e2] at a
            omega)
          omega
        rw [ev] at hA hI hO all
        exact ⟨fun k hk => (hA k hk).1, hI, all, hO⟩
      · -- all of one sum
        have l111 : ∀ (m : Nat) {v2 v4 : Int} {u : Wd}, 0 ≤ v4 → v4 ≤ w 43 40 → 0 ≤ v2 → (∀ c, c ≠ 72 → c ≠ 73 → u c = w c) → (v1 ≤ 1000 ∧ ∀ t : Nat, (t : Int) < w 43 40 → u 73 t = Lf P X t ∧ Lf P X t ≤ v1) → (∀ k : Nat, (k : Int) < v2 → (0 ≤ u 72 k ∧ u 72 k < w 43 40) ∧ (Lf P X (u 72 k).toNat < v3 ∨ (Lf P X (u 72 k).toNat = v3 ∧ u 72 k < v4))) → (∀ i j : Nat, (i : Int) < v2 → (j : Int) < v2 → u 72 i = u 72 j → i = j) → (∀ t : Nat, (t : Int) < w 43 40 → (Lf P X t < v3 ∨ (Lf P X t = v3 ∧ (t : Int) < v4)) → ∃ k : Nat, (k : Int) < v2 ∧ u 72 k = (t : Int)) → (∀ i j : Nat, i < j → (j : Int) < v2 → Lf P X (u 72 i).toNat ≤ Lf P X (u 72 j).toNat) → PC (f_R_findOrder_111 (f_R_findOrder_103 n) m v1 v2 v3 v4 u) (fun _ u => (∀ c, c ≠ 72 → c ≠ 73 → u c = w c) ∧ ODR P X (w 43 40) u) := by
          intro m
          induction m with
          | zero => intros; exact pc_none
          | succ m ihm =>
            intro v2 v4 u i4 i4' i2 hu h73 hA hI hS hO
            rw [f_R_findOrder_111, hu 43 (by decide) (by decide)]
            unfold f_R_findOrder_142
            refine pc_ite (fun c4 => pc_let (fun x1 e1 => ?_)) (fun c4 => pc_gd (fun _ => ?_))
            · have h1000 := h73.1
              rw [w32_id (by omega)] at e1
              rw [e1]
              refine ih (by omega) i2 hu h73 (fun k hk => ?_) hI (fun t ht hlt => hS t ht (by omega)) hO
              have := hA k hk
              exact ⟨this.1, by omega⟩
            · obtain ⟨z73, z1⟩ := h73.2 v4.toNat (by omega)
              rw [z73]
              refine pc_ite (fun ce => pc_let (fun x3 e3 => pc_gd (fun g3 => pc_lw (fun u4 e4 => pc_let (fun x2 e2 => ?_))))) (fun ce => pc_let (fun x2 e2 => ?_))
              · rw [w32_id (by omega)] at e3
                rw [w32_id (by omega)] at e2
                rw [e2, e3]
                have z72 : ∀ k, u4 72 k = if k = v2.toNat then v4 else u 72 k := fun k => by
                  rw [e4]
                  by_cases ck : k = v2.toNat
                  · rw [if_pos ck, ck, st_eq]
                  · rw [if_neg ck, st_k ck]
                have o73 : u4 73 = u 73 := by rw [e4, st_row (by decide)]
                refine ihm (by omega) (by omega) (by omega) (fun c a b => by rw [e4, st_row a, hu c a b]) (by rw [o73]; exact h73) (fun k hk => ?_) (fun i j hi hj e => ?_) (fun t ht hlt => ?_) (fun i j hij hj => ?_)
                · rw [z72]
                  by_cases ck : k = v2.toNat
                  · rw [if_pos ck]; exact ⟨by omega, Or.inr ⟨ce, by omega⟩⟩
                  · rw [if_neg ck]
                    have := hA k (by omega)
                    exact ⟨this.1, by omega⟩
                · rw [z72, z72] at e
                  by_cases ci : i = v2.toNat <;> by_cases cj : j = v2.toNat
                  · omega
                  · rw [if_pos ci, if_neg cj] at e
                    have := hA j (by omega)
                    have e2 : (u 72 j).toNat = v4.toNat := by omega
                    rw [e2] at this; omega
                  · rw [if_neg ci, if_pos cj] at e
                    have := hA i (by omega)
                    have e2 : (u 72 i).toNat = v4.toNat := by omega
                    rw [e2] at this; omega
                  · rw [if_neg ci, if_neg cj] at e
                    exact hI i j (by omega) (by omega) e
                · by_cases ct : (t : Int) = v4
                  · exact ⟨v2.toNat, by omega, by rw [z72, if_pos rfl]; omega⟩
                  · obtain ⟨k, hk, e⟩ := hS t ht (by omega)
                    exact ⟨k, by omega, by rw [z72, if_neg (by omega)]; exact e⟩
                · rw [z72, z72, if_neg (show ¬ i = v2.toNat by omega)]
                  by_cases cj : j = v2.toNat
                  · rw [if_pos cj, ce]
                    have := hA i (by omega)
                    omega
                  · rw [if_neg cj]; exact hO i j hij (by omega)
              · rw [w32_id (by omega)] at e2
                rw [e2]
                refine ihm (by omega) (by omega) i2 hu h73 (fun k hk => ?_) hI (fun t ht hlt => ?_) hO
                · have := hA k hk
                  exact ⟨this.1, by omega⟩
                · by_cases ct : (t : Int) = v4
                  · rcases hlt with hlt | hlt
                    · exact hS t ht (Or.inl hlt)
                    · have e : t = v4.toNat := by omega
                      rw [e] at hlt
                      exact absurd hlt.1 ce
                  · exact hS t ht (by omega)
        exact l111 FU (by decide) (by omega) i2 hu h73 (fun k hk => ⟨(hA k hk).1, Or.inl (hA k hk).2⟩) hI (fun t ht hlt => hS t ht (by omega)) hO
  -- the sums
  have l4 : ∀ (n : Nat) {v1 v2 : Int} {u : Wd}, 0 ≤ v2 → v2 ≤ w 43 40 → (∀ c, c ≠ 72 → c ≠ 73 → u c = w c) → (0 ≤ v1 ∧ v1 ≤ 1000 ∧ ∀ t : Nat, (t : Int) < v2 → u 73 t = Lf P X t ∧ Lf P X t ≤ v1) → PC (f_R_findOrder_4 n v1 v2 u) (fun _ u => (∀ c, c ≠ 72 → c ≠ 73 → u c = w c) ∧ ODR P X (w 43 40) u) := by
    intro n
    induction n with
    | zero => intros; exact pc_none
    | succ n ih =>
      intro v1 v2 u i2 i2' hu h73
      rw [f_R_findOrder_4, hu 43 (by decide) (by decide)]
      refine pc_ite (fun c => ?_) (fun c => pc_gd (fun _ => pc_let (fun x5 e5 => ?_)))
      · refine l103 FU (by decide) (by decide) hu ⟨h73.2.1, fun t ht => h73.2.2 t (by omega)⟩ (fun k hk => by omega) (fun i j hi => by omega) (fun t ht hlt => ?_) (fun i j hij hj => by omega)
        have := (lsm_rg (sof (X t)) P.toNat).1
        unfold Lf at hlt
        omega
      · obtain ⟨hxv, hcv⟩ := hx.1 v2.toNat (by omega)
        have hs := hxv.1.2.2
        rw [hu 63 (by decide) (by decide)] at e5
        have l25 : ∀ (m : Nat) {v3 v4 v5 : Int}, 0 ≤ v5 → v5 ≤ P → v3 = cdf (sof (X v2.toNat)) (P - v5).toNat → (0 ≤ v4 ∧ v4 + lsm (sof (X v2.toNat)) (P - v5).toNat = Lf P X v2.toNat) → PC (f_R_findOrder_25 (f_R_findOrder_4 n) m v1 v2 v3 v4 v5 u) (fun _ u => (∀ c, c ≠ 72 → c ≠ 73 → u c = w c) ∧ ODR P X (w 43 40) u) := by
          intro m
          induction m with
          | zero => intros; exact pc_none
          | succ m ihm =>
            intro v3 v4 v5 i5 i5' e3 e4
            rw [f_R_findOrder_25, hu 43 (by decide) (by decide), c0]
            have lr := lsm_rg (sof (X v2.toNat)) P.toNat
            have eL : Lf P X v2.toNat = lsm (sof (X v2.toNat)) P.toNat := rfl
            refine pc_ite (fun c5 => ?_) (fun c5 => ?_)
            · rw [show (P - v5).toNat = 0 by omega] at e4
              have e4' : v4 = Lf P X v2.toNat := by
                have : lsm (sof (X v2.toNat)) 0 = 0 := rfl
                omega
              refine pc_gd (fun _ => pc_lw (fun u6 e6 => pc_let (fun x7 e7 => pc_let (fun x8 e8 => ?_))))
              rw [w32_id (by omega)] at e8
              rw [e8]
              have mm := imax_sp v1 v4
              refine ih (by omega) (by omega) (fun c a b => by rw [e6, st_row b, hu c a b]) ⟨by omega, by omega, fun t ht => ?_⟩
              rw [e6]
              by_cases ck : t = v2.toNat
              · rw [ck, st_eq]; exact ⟨e4', by omega⟩
              · rw [st_k ck]
                obtain ⟨a1, a2⟩ := h73.2.2 t (by omega)
                exact ⟨a1, by omega⟩
            · have en : (P - v5).toNat = (P - (v5 + 1)).toNat + 1 := by omega
              rw [en] at e3 e4
              obtain ⟨d1, d2⟩ := dg5 (s := sof (X v2.toNat)) (n := (P - (v5 + 1)).toNat) (fun k hk => hs k (by omega)) (by omega)
              have hsk := hs (P - (v5 + 1)).toNat (by omega)
              have lr2 := lsm_rg (sof (X v2.toNat)) (P - (v5 + 1)).toNat
              have wr := wgt_rg (sof (X v2.toNat) (P - (v5 + 1)).toNat)
              rw [lsm] at e4
              have nx : ∀ z : Int, z = wgt (sof (X v2.toNat) (P - (v5 + 1)).toNat) → PC (f_R_findOrder_65 (f_R_findOrder_4 n) (f_R_findOrder_25 (f_R_findOrder_4 n) m) v1 v2 v3 v5 v4 z u) (fun _ u => (∀ c, c ≠ 72 → c ≠ 73 → u c = w c) ∧ ODR P X (w 43 40) u) := fun z ez => by
                unfold f_R_findOrder_65
                refine pc_let (fun x11 e11 => ?_)
                rw [w32_id (by omega)] at e11
                rw [if_neg (by decide), e3, d2]
                refine pc_let (fun x12 e12 => pc_let (fun x13 e13 => ?_))
                rw [w32_id (by omega)] at e13
                rw [e11, e12, e13]
                exact ihm (by omega) (by omega) rfl (by omega)
              have ew : ∀ v : Int, v = sof (X v2.toNat) (P - (v5 + 1)).toNat → wgt v = wgt (sof (X v2.toNat) (P - (v5 + 1)).toNat) := fun v e => by rw [e]
              rw [if_neg (by decide), e3, d1]
              rw [← e3]
              refine pc_ite (fun z => nx 100 ?_) (fun z => ?_)
              · rw [z]; rfl
              · rw [if_neg (by decide), isG_e, jc_s]
                cases hgs : gst (sof (X v2.toNat) (P - (v5 + 1)).toNat) with
                | false =>
                  refine pc_ite (fun _ => nx 0 ?_) (fun e => absurd rfl e)
                  unfold wgt
                  rw [if_neg z, if_neg (by rw [hgs]; decide)]
                | true =>
                  refine pc_ite (fun e => absurd e (by decide)) (fun _ => ?_)
                  rw [if_neg (by decide)]
                  refine nx _ ?_
                  unfold wgt
                  rw [if_neg z, if_pos hgs]
                  exact w32_id (by omega)
        rw [e5]
        refine l25 FU (by decide) hP.1 (by rw [show (P - 0).toNat = P.toNat by omega]; exact hcv) ⟨Int.le_refl _, ?_⟩
        rw [show (P - 0).toNat = P.toNat by omega]
        unfold Lf; omega
  unfold f_R_findOrder
  exact l4 FU (by decide) (by omega) (fun _ _ _ => rfl) ⟨by decide, by decide, fun t ht => by omega⟩
/-! LAST, STAYS, WORTH, NEEDED -/
def LFQ (P g se : Int) (h kn : Nat → Int) (ok : Int → Prop) (x r : Int) : Prop := (¬ ok x ∧ r = -1) ∨ (ok x ∧ 0 ≤ r ∧ (∃ y, RCX P g se h kn x r.toNat y ∧ ok y) ∧ ∀ n y, RCX P g se h kn x n y → ok y → (n : Int) ≤ r)
theorem imx (a b : Int) : a ≤ imax a b ∧ b ≤ imax a b ∧ (imax a b = a ∨ imax a b = b) := by have := imax_sp a b; omega
theorem flf_pc {P g se : Int} {h kn : Nat → Int} {x0 : Int} {X : Nat → Int} {w : Wd} {v1 : Int} {F : Nat → Bool} {ok : Int → Prop} (hP : 0 ≤ P ∧ P ≤ 10) (c0 : w 43 0 = P) (hr : RLI P g se h kn x0 w) (hx : XOK P g se h kn x0 X w) (hF : B10 v1 F) (hok : ∀ x, ok x ↔ ∃ q, q < 10 ∧ gs P (sof x) q = true ∧ F q = true) (hback : ∀ x z n y, VLS P g se h kn x0 x → SUX P g se h kn x z → ok x → RCX P g se h kn z n y → ok y → ok z) (hless : ∀ x z, VLS P g se h kn x0 x → ok x → SUX P g se h kn x z → lsm (sof z) P.toNat < lsm (sof x) P.toNat) : PC (f_R_findLife v1 w) (fun _ u => (∀ c, c ≠ 71 → c ≠ 72 → c ≠ 73 → u c = w c) ∧ ∀ t : Nat, (t : Int) < w 43 40 → LFQ P g se h kn ok (X t) (u 71 t)) := by
  unfold f_R_findLife
  refine pc_call (fo_pc hP c0 hr.1 hx) (fun r1 b q => ?_)
  obtain ⟨q1, o1, o2, o3, o4⟩ := q
  have h3000 := hr.1
  have b43 : b 43 = w 43 := q1 43 (by decide) (by decide)
  have b63 : b 63 = w 63 := q1 63 (by decide) (by decide)
  have b64 : b 64 = w 64 := q1 64 (by decide) (by decide)
  have b65 : b 65 = w 65 := q1 65 (by decide) (by decide)
  have hvz : ∀ x z, VLS P g se h kn x0 x → SUX P g se h kn x z → VLS P g se h kn x0 z := fun x z hv hs => by
    obtain ⟨n, hn⟩ := hv.2
    have hs' := hs
    obtain ⟨m, _, hw⟩ := hs
    exact ⟨wh_sof hw hP.2, n + 1, x, hn, hs'⟩
  have l6 : ∀ (n : Nat) {v2 : Int} {u : Wd}, 0 ≤ v2 → v2 ≤ w 43 40 → (∀ c, c ≠ 71 → u c = b c) → (∀ j : Nat, (j : Int) < v2 → LFQ P g se h kn ok (X (b 72 j).toNat) (u 71 (b 72 j).toNat)) → PC (f_R_findLife_6 n v1 v2 u) (fun _ u => (∀ c, c ≠ 71 → c ≠ 72 → c ≠ 73 → u c = w c) ∧ ∀ t : Nat, (t : Int) < w 43 40 → LFQ P g se h kn ok (X t) (u 71 t)) := by
    intro n
    induction n with
    | zero => intros; exact pc_none
    | succ n ih =>
      intro v2 u i2 i2' hu hL
      rw [f_R_findLife_6, hu 43 (by decide), b43]
      unfold f_R_findLife_104
      refine pc_ite (fun c => pc_some ⟨fun c a1 a2 a3 => (hu c a1).trans (q1 c a2 a3), fun t ht => ?_⟩) (fun c => ?_)
      · obtain ⟨k, hk, e⟩ := o3 t ht
        have := hL k (by omega)
        rw [e, show ((t : Nat) : Int).toNat = t by omega] at this
        exact this
      · refine pc_gd (fun _ => pc_let (fun x3 e3 => ?_))
        rw [hu 72 (by decide)] at e3
        obtain ⟨s1, s2⟩ := o1 v2.toNat (by omega)
        rw [← e3] at s1 s2
        have es : x3 = ((x3.toNat : Nat) : Int) := by omega
        obtain ⟨hxv, hcv⟩ := hx.1 x3.toNat (by omega)
        obtain ⟨⟨hlo, hhi⟩, hE⟩ := hr.2.2.2.2.2 x3.toNat (by omega)
        obtain ⟨hE1, hE2⟩ := hE (X x3.toNat) hxv hcv
        -- what comes ahead of it
        have ahead : ∀ j : Nat, (j : Int) < v2 → (b 72 j).toNat ≠ x3.toNat := fun j hj e => by
          have r1 := (o1 j (by omega)).1
          have := o2 j v2.toNat (by omega) (by omega) (by omega)
          omega
        refine pc_gd (fun _ => pc_lw (fun u4 e4 => ?_))
        have hu4 : ∀ c, c ≠ 71 → u4 c = b c := fun c hc => by rw [e4, st_row hc, hu c hc]
        have k4 : ∀ k, k ≠ x3.toNat → u4 71 k = u 71 k := fun k hk => by rw [e4, st_k hk]
        refine pc_call (gx_pc hP hx (by rw [hu4 43 (by decide), b43]; exact c0) (by rw [hu4 63 (by decide), b63]) ⟨s1, s2⟩) (fun r5 u6 z => ?_)
        rw [z.1]
        have hand := b10_and z.2 hF.2
        have ok0 : iand r5 v1 = 0 ↔ ¬ ok (X x3.toNat) := by
          rw [hok]
          rcases b10_some hand with ⟨e, hn⟩ | ⟨e, q, hq, hb⟩
          · refine ⟨fun _ => fun ⟨q, hq, a1, a2⟩ => ?_, fun _ => e⟩
            have := hn q hq
            rw [a1, a2] at this; cases this
          · refine ⟨fun c => absurd c e, fun c => absurd ⟨q, hq, ?_⟩ c⟩
            rw [Bool.and_eq_true] at hb
            exact hb
        have w2 : w32 (v2 + 1) = v2 + 1 := w32_id (by omega)
        refine pc_ite (fun cz => pc_let (fun x9 e9 => ?_)) (fun cz => ?_)
        · rw [w2] at e9
          rw [e9]
          refine ih (by omega) (by omega) hu4 (fun j hj => ?_)
          by_cases cj : (j : Int) < v2
          · rw [k4 _ (ahead j cj)]; exact hL j cj
          · rw [show j = v2.toNat by omega, ← e3]
            exact Or.inl ⟨ok0.mp cz, by rw [e4, st_eq]⟩
        · have hokx : ok (X x3.toNat) := Classical.byContradiction fun hh => cz (ok0.mpr hh)
          refine pc_gd (fun _ => pc_lw (fun u7 e7 => pc_gd (fun _ => pc_let (fun x8 e8 => ?_))))
          have hu7 : ∀ c, c ≠ 71 → u7 c = b c := fun c hc => by rw [e7, st_row hc, hu4 c hc]
          have k7 : ∀ k, k ≠ x3.toNat → u7 71 k = u 71 k := fun k hk => by rw [e7, st_k hk, k4 k hk]
          have w3 : w32 (x3 + 1) = x3 + 1 := w32_id (by omega)
          rw [hu7 64 (by decide), b64] at e8
          -- one edge after the other: the longest so far
          have l56 : ∀ (m : Nat) {v4 : Int} {v : Wd}, w 64 x3.toNat ≤ v4 → v4 ≤ w 64 (x3.toNat + 1) → (∀ c, c ≠ 71 → v c = b c) → (∀ k, k ≠ x3.toNat → v 71 k = u 71 k) → (0 ≤ v 71 x3.toNat ∧ (∃ y, RCX P g se h kn (X x3.toNat) (v 71 x3.toNat).toNat y ∧ ok y) ∧ ∀ e : Nat, w 64 x3.toNat ≤ (e : Int) → (e : Int) < v4 → u 71 (w 65 e).toNat + 1 ≤ v 71 x3.toNat) → PC (f_R_findLife_56 (f_R_findLife_6 n) m v1 v2 x3 v4 v) (fun _ u => (∀ c, c ≠ 71 → c ≠ 72 → c ≠ 73 → u c = w c) ∧ ∀ t : Nat, (t : Int) < w 43 40 → LFQ P g se h kn ok (X t) (u 71 t)) := by
            intro m
            induction m with
            | zero => intros; exact pc_none
            | succ m ihm =>
              intro v4 v i4 i4' hv k71 hmx
              obtain ⟨m1, m2, m3⟩ := hmx
              rw [f_R_findLife_56, w3, hv 64 (by decide), b64, show (x3 + 1).toNat = x3.toNat + 1 by omega]
              unfold f_R_findLife_104
              -- what stands at the end of an edge
              have tgt : ∀ e : Nat, w 64 x3.toNat ≤ (e : Int) → (e : Int) < w 64 (x3.toNat + 1) → (w 65 e).toNat ≠ x3.toNat ∧ SUX P g se h kn (X x3.toNat) (X (w 65 e).toNat) ∧ LFQ P g se h kn ok (X (w 65 e).toNat) (u 71 (w 65 e).toNat) := fun e h1 h2 => by
                obtain ⟨g4, y, g5, g6⟩ := hE1 e h1 h2
                have hy := hx.1 (w 65 e).toNat (by omega)
                have eX : X (w 65 e).toNat = y := cdx_inj hP hy.1.1 (hvz _ _ hxv g5).1 (by rw [← hy.2, g6])
                have hl := hless _ _ hxv hokx g5
                obtain ⟨j, hj, ej⟩ := o3 (w 65 e).toNat (by omega)
                have hjv : (j : Int) < v2 := by
                  refine Classical.byContradiction fun hh => ?_
                  have le : Lf P X x3.toNat ≤ Lf P X (w 65 e).toNat := by
                    by_cases cj : j = v2.toNat
                    · rw [cj, ← e3] at ej
                      have : x3.toNat = (w 65 e).toNat := by omega
                      rw [this]; exact Int.le_refl _
                    · have := o4 v2.toNat j (by omega) hj
                      rw [← e3, ej, show (((w 65 e).toNat : Nat) : Int).toNat = (w 65 e).toNat by omega] at this
                      exact this
                  unfold Lf at le
                  rw [eX] at le
                  omega
                refine ⟨fun hh => ?_, by rw [eX]; exact g5, ?_⟩
                · rw [hh] at eX
                  rw [eX] at hl
                  omega
                · have := hL j hjv
                  rw [ej, show (((w 65 e).toNat : Nat) : Int).toNat = (w 65 e).toNat by omega] at this
                  exact this
              refine pc_gd (fun _ => pc_ite (fun c4 => pc_let (fun x9 e9 => ?_)) (fun c4 => ?_))
              · rw [w2] at e9
                rw [e9]
                refine ih (by omega) (by omega) hv (fun j hj => ?_)
                by_cases cj : (j : Int) < v2
                · rw [k71 _ (ahead j cj)]; exact hL j cj
                · rw [show j = v2.toNat by omega, ← e3]
                  refine Or.inr ⟨hokx, m1, m2, fun n y hn hy => ?_⟩
                  cases n with
                  | zero => omega
                  | succ n =>
                    obtain ⟨z', hz1, hz2⟩ := rcx_first.mp hn
                    obtain ⟨e, g1, g2, g3, g4⟩ := hE2 z' hz1
                    have ha := hx.1 (w 65 e).toNat (by omega)
                    have eX : X (w 65 e).toNat = z' := cdx_inj hP ha.1.1 (hvz _ _ hxv hz1).1 (by rw [← ha.2, g4])
                    have hokz := hback _ _ _ _ hxv hz1 hokx hz2 hy
                    have t3 := (tgt e g1 g2).2.2
                    rw [eX] at t3
                    rcases t3 with ⟨t4, _⟩ | ⟨_, _, _, t5⟩
                    · exact absurd hokz t4
                    · have := t5 n y hz2 hy
                      have := m3 e g1 (by omega)
                      omega
              · obtain ⟨t1, t2, t3⟩ := tgt v4.toNat (by omega) (by omega)
                have g4 := (hE1 v4.toNat (by omega) (by omega)).1
                rw [hv 65 (by decide), b65]
                refine pc_gd (fun _ => pc_gd (fun _ => pc_gd (fun _ => pc_gd (fun _ => pc_lw (fun u10 e10 => pc_let (fun x11 e11 => ?_))))))
                rw [k71 _ t1] at e10
                -- a number that is no bigger than the number of STATES' sums
                have lbd : u 71 (w 65 v4.toNat).toNat ≤ 2147483646 := by
                  rcases t3 with ⟨_, e⟩ | ⟨_, _, ⟨y, hy, oky⟩, _⟩
                  · omega
                  · have path : ∀ (n : Nat) (x' y : Int), VLS P g se h kn x0 x' → ok x' → RCX P g se h kn x' n y → ok y → (n : Int) + lsm (sof y) P.toNat ≤ lsm (sof x') P.toNat := by
                      intro n
                      induction n with
                      | zero => intro x' y _ _ e _; rw [show y = x' from e]; omega
                      | succ n ihn =>
                        intro x' y hv' hox hn hoy
                        obtain ⟨z', hz1, hz2⟩ := rcx_first.mp hn
                        have hoz := hback _ _ _ _ hv' hz1 hox hz2 hoy
                        have := ihn z' y (hvz _ _ hv' hz1) hoz hz2 hoy
                        have := hless _ _ hv' hox hz1
                        omega
                    have hokz := hback _ _ _ _ hxv t2 hokx hy oky
                    have a1 := path _ _ _ (hvz _ _ hxv t2) hokz hy oky
                    have a2 := (lsm_rg (sof y) P.toNat).1
                    have a3 := (lsm_rg (sof (X (w 65 v4.toNat).toNat)) P.toNat).2
                    omega
                have lbd2 : -1 ≤ u 71 (w 65 v4.toNat).toNat := by
                  rcases t3 with ⟨_, e⟩ | ⟨_, e, _⟩ <;> omega
                rw [w32_id (show -2147483648 ≤ u 71 (w 65 v4.toNat).toNat + 1 ∧ u 71 (w 65 v4.toNat).toNat + 1 ≤ 2147483647 by omega)] at e10
                have b41 : v4 ≤ 2147483646 := by omega
                rw [w32_id (by omega)] at e11
                rw [e11]
                obtain ⟨x1', x2', x3'⟩ := imx (v 71 x3.toNat) (u 71 (w 65 v4.toNat).toNat + 1)
                have z71 : u10 71 x3.toNat = imax (v 71 x3.toNat) (u 71 (w 65 v4.toNat).toNat + 1) := by rw [e10, st_eq]
                refine ihm (by omega) (by omega) (fun c hc => by rw [e10, st_row hc, hv c hc]) (fun k hk => by rw [e10, st_k hk, k71 k hk]) ⟨by rw [z71]; omega, ?_, fun e h1 h2 => ?_⟩
                · rw [z71]
                  rcases x3' with e | e
                  · rw [e]; exact m2
                  · rw [e]
                    by_cases cn : u 71 (w 65 v4.toNat).toNat = -1
                    · rw [cn]; exact ⟨X x3.toNat, rfl, hokx⟩
                    · rcases t3 with ⟨_, e'⟩ | ⟨_, e', ⟨y, hy, oky⟩, _⟩
                      · exact absurd e' cn
                      · refine ⟨y, ?_, oky⟩
                        rw [show (u 71 (w 65 v4.toNat).toNat + 1).toNat = (u 71 (w 65 v4.toNat).toNat).toNat + 1 by omega]
                        exact rcx_first.mpr ⟨_, t2, hy⟩
                · rw [z71]
                  by_cases ce : (e : Int) < v4
                  · have := m3 e h1 ce; omega
                  · rw [show e = v4.toNat by omega]; exact x2'
          rw [e8]
          exact l56 FU (Int.le_refl _) hhi hu7 k7 ⟨by rw [e7, st_eq]; exact Int.le_refl _, ⟨X x3.toNat, by rw [e7, st_eq]; exact rfl, hokx⟩, fun e h1 h2 => by omega⟩
  exact l6 FU (by decide) (by omega) (fun _ _ => rfl) (fun j hj => by omega)
/-- somebody a GUEST: all along -/
theorem sbg_back {P g se : Int} {h kn : Nat → Int} (hP : 0 ≤ P ∧ P ≤ 10) : ∀ {n : Nat} {z y : Int}, WH z (sof z) P → RCX P g se h kn z n y → sbg P y → sbg P z := by
  intro n
  induction n with
  | zero => intro z y _ e hs; rw [show y = z from e] at hs; exact hs
  | succ n ih =>
    intro z y hz hn hs
    obtain ⟨v, h1, h2⟩ := rcx_first.mp hn
    have hv : WH v (sof v) P := by
      obtain ⟨m, _, hw⟩ := h1
      exact wh_sof hw hP.2
    have sv := ih hv h2 hs
    refine Classical.byContradiction fun hno => ?_
    have h3 : ∀ k, k < 10 → gs P (sof z) k = false := fun k hk => by
      cases e : gs P (sof z) k with
      | false => rfl
      | true => exact absurd ⟨k, hk, e⟩ hno
    rw [(sx_no (g := g) (se := se) (h := h) (kn := kn) hP hz h3).mp h1] at sv
    exact hno sv
theorem ls_gs {P g se : Int} {h kn : Nat → Int} {x0 : Int} (hP : 0 ≤ P ∧ P ≤ 10) (hg : 1 ≤ g ∧ g ≤ 3) {x z : Int} (hv : VLS P g se h kn x0 x) (hs : SUX P g se h kn x z) (hgu : sbg P x) : lsm (sof z) P.toNat < lsm (sof x) P.toNat := sx_lsm hP hg hv.1 hs hgu
/-- the last WEEK with somebody a GUEST -/
def LWQ (P g se : Int) (h kn : Nat → Int) (x0 r : Int) : Prop := (r = -1 ∧ ¬ sbg P x0) ∨ (0 ≤ r ∧ (∃ y, RCX P g se h kn x0 r.toNat y ∧ sbg P y) ∧ ∀ n y, RCX P g se h kn x0 n y → sbg P y → (n : Int) ≤ r)
theorem lwq_one {P g se : Int} {h kn : Nat → Int} {x0 r r' : Int} (hP : 0 ≤ P ∧ P ≤ 10) (h0 : WH x0 (sof x0) P) (a : LWQ P g se h kn x0 r) (b : LWQ P g se h kn x0 r') : r = r' := by
  rcases a with ⟨a1, a2⟩ | ⟨a1, ⟨y, a2, a3⟩, a4⟩
  · rcases b with ⟨b1, _⟩ | ⟨b1, ⟨y', b2, b3⟩, _⟩
    · omega
    · exact absurd (sbg_back hP h0 b2 b3) a2
  · rcases b with ⟨b1, b2⟩ | ⟨b1, ⟨y', b2, b3⟩, b4⟩
    · exact absurd (sbg_back hP h0 a2 a3) b2
    · have := b4 _ _ a2 a3
      have := a4 _ _ b2 b3
      omega
theorem flall_pc {P g se : Int} {h kn : Nat → Int} {x0 : Int} {w : Wd} (hP : 0 ≤ P ∧ P ≤ 10) (hg : 1 ≤ g ∧ g ≤ 3) (h0 : WH x0 (sof x0) P) (c0 : w 43 0 = P) (hr : RLI P g se h kn x0 w) : PC (jcall (f_R_all w) fun r4 u5 => f_R_findLife r4 u5) (fun _ u => (∀ c, c ≠ 71 → c ≠ 72 → c ≠ 73 → u c = w c) ∧ LWQ P g se h kn x0 (u 71 0)) := by
  obtain ⟨X, hx⟩ := rli_x hP hr
  unfold f_R_all
  rw [jc_s, c0]
  have h1 := hr.1
  refine pc_w (flf_pc (ok := sbg P) hP c0 hr hx (b10_all hP) (fun x => ?_) (fun x z n y hv hs _ hn hy => ?_) (fun x z hv hgu hs => ls_gs hP hg hv hs hgu)) (fun _ u q => ⟨q.1, ?_⟩)
  · constructor
    · rintro ⟨k, hk, hgk⟩
      refine ⟨k, hk, hgk, decide_eq_true ?_⟩
      unfold gs at hgk
      rw [Bool.and_eq_true] at hgk
      exact inP_t hgk.1
    · rintro ⟨k, hk, hgk, _⟩; exact ⟨k, hk, hgk⟩
  · obtain ⟨m, _, hw⟩ := hs
    exact sbg_back hP (wh_sof hw hP.2) hn hy
  · have := q.2 0 (by omega)
    rw [(xok_0 hP h0 hr hx (by omega)).mpr rfl] at this
    rcases this with ⟨a, b⟩ | ⟨a, b, c, d⟩
    · exact Or.inl ⟨b, a⟩
    · exact Or.inr ⟨b, c, d⟩
/-- the class's -/
theorem lst_lwq {P g se : Int} {h kn : Nat → Int} {x0 r : Int} (hP : 0 ≤ P ∧ P ≤ 10) (hg : 1 ≤ g ∧ g ≤ 3) (h0 : WH x0 (sof x0) P) {T : Nat → Prop} (hT : ∀ t, T t ↔ ∃ y, RCX P g se h kn x0 t y ∧ sbg P y) (hl : LstQ T r) : LWQ P g se h kn x0 r := by
  rcases hl with ⟨e, hn⟩ | ⟨e, h1, h2⟩
  · exact Or.inl ⟨e, fun hs => hn 0 (by decide) ((hT 0).mpr ⟨x0, rfl, hs⟩)⟩
  · refine Or.inr ⟨e.1, (hT _).mp h1, fun n y hn hy => h2 n ?_ ((hT n).mpr ⟨y, hn, hy⟩)⟩
    have := wk_29 hP hg h0 hn hy
    omega
theorem wkt_all {P g se : Int} {h kn : Nat → Int} {x0 : Int} (t : Nat) : WKT P g se h kn x0 (fun _ => false) (fun _ => false) t ↔ ∃ y, RCX P g se h kn x0 t y ∧ sbg P y := by
  constructor
  · rintro ⟨x, a, ⟨b, _⟩, _⟩; exact ⟨x, a, b⟩
  · rintro ⟨x, a, b⟩; exact ⟨x, a, ⟨b, fun q _ hF => by cases hF⟩, fun q _ hF => by cases hF⟩
/-! ONE HIDDEN: what each is worth, and who is needed -/
def hidn (h : Nat → Int) (i k : Nat) : Int := if k = i then 1 else h k
theorem hB_hid {P : Int} {h : Nat → Int} {i : Nat} (hi : (i : Int) < P) (k : Nat) : hB P (hidn h i) k = (hB P h k || decide (k = i)) := by
  unfold hB hidn
  by_cases c : k = i
  · subst c; rw [show inP P k = true from decide_eq_true hi]; simp
  · rw [if_neg c]; simp [c]
theorem fre_hid {P : Int} {s h : Nat → Int} {i : Nat} (hi : (i : Int) < P) (k : Nat) : fre P s (hidn h i) k = (fre P s h k && !decide (k = i)) := by
  unfold fre
  rw [hB_hid hi]
  by_cases c : k = i <;> simp [c]
theorem drc_w {P se : Int} {kn : Nat → Int} {br fr fr' sy : Nat → Bool} (hP : 0 ≤ P ∧ P ≤ 10) : ∀ {d : Nat} {f m : Int}, (∀ k, k < 10 → bt m k = true → fr k = true → fr' k = true) → DRC P se kn br fr sy d f m → DRC P se kn br fr' sy d f m := by
  intro d
  induction d with
  | zero => intro f m _ h; exact h
  | succ d ih =>
    intro f m hf h
    obtain ⟨f0, m0, h0, i, o, h1, h2, h3, h4, h5, h6, h7, h8, h9, h10⟩ := h
    have r := drc_rg hP h0
    have bm : ∀ k, k < 10 → bt m k = (bt m0 k || decide (k = i) || decide (k = o)) := fun k hk => by rw [h8, sq_t r.1 (by omega) h3 hk]
    exact ⟨f0, m0, ih (fun k hk hb => hf k hk (by rw [bm k hk, hb]; simp)) h0, i, o, h1, h2, h3, h4, hf o h3 (by rw [bm o h3]; simp) h5, h6, h7, h8, h9, h10⟩
theorem mvs_dn {P g se : Int} {h kn s : Nat → Int} {i : Nat} {m : Int} (hP : 0 ≤ P ∧ P ≤ 10) (hi : (i : Int) < P) (hs : s i = 0) (hm : MVS P g se (hidn h i) kn s m) : MVS P g se h kn s m ∧ bt m i = false := by
  have hw := mvs_who hP hm
  obtain ⟨d, f, h1⟩ := hm
  refine ⟨⟨d, f, drc_w hP (fun k _ _ hf => ?_) h1⟩, ?_⟩
  · rw [fre_hid hi, Bool.and_eq_true] at hf; exact hf.1
  · cases hb : bt m i with
    | false => rfl
    | true =>
      rcases hw.2 i (by omega) hb with e | e
      · unfold gs at e; rw [hs] at e; simp [gst] at e
      · rw [fre_hid hi] at e; simp at e
theorem mvs_up {P g se : Int} {h kn s : Nat → Int} {i : Nat} {m : Int} (hP : 0 ≤ P ∧ P ≤ 10) (hi : (i : Int) < P) (hb : bt m i = false) (hm : MVS P g se h kn s m) : MVS P g se (hidn h i) kn s m := by
  obtain ⟨d, f, h1⟩ := hm
  refine ⟨d, f, drc_w hP (fun k _ hk hf => ?_) h1⟩
  rw [fre_hid hi, hf]
  have c : k ≠ i := fun e => by rw [e, hb] at hk; cases hk
  simp [c]
theorem rcx_hid {P g se : Int} {h kn : Nat → Int} {x0 : Int} {i : Nat} (hP : 0 ≤ P ∧ P ≤ 10) (hi : (i : Int) < P) (h0 : sof x0 i = 0) : ∀ {t : Nat} {x : Int}, RCX P g se (hidn h i) kn x0 t x ↔ RCX P g se h kn x0 t x ∧ sof x i = 0 := by
  intro t
  induction t with
  | zero =>
    intro x
    constructor
    · intro e; exact ⟨e, by rw [show x = x0 from e]; exact h0⟩
    · intro e; exact e.1
  | succ t ih =>
    intro x
    constructor
    · rintro ⟨y, hy, m, hm, hw⟩
      have q := ih.mp hy
      have d := mvs_dn hP hi q.2 hm
      refine ⟨⟨y, q.1, m, d.1, hw⟩, ?_⟩
      rw [sof_e hw hP.2 hi]
      unfold nis
      rw [if_neg (by rw [d.2]; decide), q.2, if_neg (by decide)]
    · rintro ⟨⟨y, hy, m, hm, hw⟩, ex⟩
      have hsr : sr P (sof x) i = true := by
        unfold sr; rw [ex, show inP P i = true from decide_eq_true hi]; rfl
      have sy := sr_step (h := h) (kn := kn) (se := se) hP ⟨m, hm, hw⟩ hsr
      have ey : sof y i = 0 := by
        unfold sr at sy; rw [Bool.and_eq_true, beq_iff_eq] at sy; exact sy.2
      have hb : bt m i = false := by
        cases hb : bt m i with
        | false => rfl
        | true =>
          rw [sof_e hw hP.2 hi] at ex
          unfold nis at ex
          rw [if_pos hb] at ex
          cases ex
      exact ⟨y, ih.mpr ⟨hy, ey⟩, m, mvs_up hP hi hb hm, hw⟩
theorem wkt_hid {P g se : Int} {h kn : Nat → Int} {x0 : Int} {i : Nat} (hP : 0 ≤ P ∧ P ≤ 10) (hi : (i : Int) < P) (h0 : sof x0 i = 0) (t : Nat) : WKT P g se h kn x0 (fun _ => false) (fun k => decide (k = i)) t ↔ ∃ y, RCX P g se (hidn h i) kn x0 t y ∧ sbg P y := by
  have hk : ∀ x, kno P (sof x) i = false ↔ sof x i = 0 := fun x => by
    unfold kno
    rw [show inP P i = true from decide_eq_true hi]
    simp
  constructor
  · rintro ⟨x, a, ⟨b, _⟩, c⟩
    exact ⟨x, (rcx_hid hP hi h0).mpr ⟨a, (hk x).mp (c i (by omega) (decide_eq_true rfl))⟩, b⟩
  · rintro ⟨x, a, b⟩
    have q := (rcx_hid hP hi h0).mp a
    refine ⟨x, q.1, ⟨b, fun q _ hF => by cases hF⟩, fun j _ hF => ?_⟩
    rw [of_decide_eq_true hF]
    exact (hk x).mpr q.2
theorem mny_hid {P g se : Int} {h kn : Nat → Int} {x0 : Int} {i : Nat} (hP : 0 ≤ P ∧ P ≤ 10) (hi : (i : Int) < P) (h0 : sof x0 i = 0) (hm : MNY P g se (hidn h i) kn x0) : MNY P g se h kn x0 := by
  obtain ⟨F, h1, h2⟩ := hm
  refine ⟨F, fun j hj => ?_, h2⟩
  obtain ⟨t, ht⟩ := h1 j hj
  exact ⟨t, ((rcx_hid hP hi h0).mp ht).1⟩
theorem fre_0 {P : Int} {s h : Nat → Int} {k : Nat} (hf : fre P s h k = true) : (k : Int) < P ∧ s k = 0 ∧ hB P h k = false := by
  unfold fre sr at hf
  rw [Bool.and_eq_true, Bool.and_eq_true, beq_iff_eq] at hf
  refine ⟨inP_t hf.1.1, hf.1.2, ?_⟩
  have := hf.2
  cases e : hB P h k with
  | false => rfl
  | true => rw [e] at this; cases this
/-- the reference, before and behind each search -/
def RFI (P g se : Int) (h kn : Nat → Int) (x0 : Int) (u : Wd) : Prop := G [] u u ∧ (u 43 0 = P ∧ u 43 10 = g ∧ u 43 11 = se) ∧ (∀ k : Nat, (k : Int) < P → u 47 k = sof x0 k) ∧ (∀ j : Nat, (j : Int) < P → u 45 j = kn j ∧ 0 ≤ kn j ∧ kn j ≤ 1023) ∧ ∀ k : Nat, (k : Int) < P → hB P (u 46) k = hB P h k
theorem lw_pc {P g se : Int} {h h' kn : Nat → Int} {x0 v1 : Int} {w : Wd} (hP : 0 ≤ P ∧ P ≤ 10) (hg : 1 ≤ g ∧ g ≤ 3) (h0 : WH x0 (sof x0) P) (hr : RFI P g se h kn x0 w) (hv : 0 ≤ v1 ∧ v1 ≤ 512) (hh : ∀ k : Nat, (k : Int) < P → (hB P h k || bt v1 k) = hB P h' k) : PC (f_R_lastWith v1 w) (fun r u => RFI P g se h kn x0 u ∧ ((MNY P g se h' kn x0 ∧ r = -3) ∨ (¬ MNY P g se h' kn x0 ∧ ∃ m, LWQ P g se h' kn x0 m ∧ r = if m = -1 then -2 else m))) := by
  obtain ⟨gw, ⟨c0, c10, c11⟩, c47, c45, c46⟩ := hr
  refine pc_w (pc_and (pc_ok (s_R_lastWith (g_self gw) hv)) (Q := fun r _ => (MNY P g se h' kn x0 ∧ r = -3) ∨ (¬ MNY P g se h' kn x0 ∧ ∃ m, LWQ P g se h' kn x0 m ∧ r = if m = -1 then -2 else m)) ?_) (fun r u q => ⟨?_, q.2⟩)
  · unfold f_R_lastWith
    refine pc_call (fst_pc (h := h') hP hg h0 gw c0 c10 c11 c47 c45 (by omega) (fun k hk => by rw [c46 k hk]; exact hh k hk)) (fun r1 u2 z => ?_)
    obtain ⟨z1, z2, z3⟩ := z
    rcases z3 with ⟨e, m⟩ | ⟨e, l⟩
    · exact pc_ite (fun _ => pc_some (Or.inl ⟨m, rfl⟩)) (fun c => absurd e c)
    · refine pc_ite (fun c => by omega) (fun _ => ?_)
      have u0 : u2 43 0 = P := by rw [z1.2 0 (by decide) (by decide) (by decide)]; exact c0
      have nm := rli_mny hP h0 l
      have fl := flall_pc hP hg h0 u0 l
      unfold f_R_all at fl ⊢
      rw [jc_s] at fl ⊢
      refine pc_call fl (fun r6 u7 q => pc_gd (fun _ => ?_))
      have hq : LWQ P g se h' kn x0 (u7 71 (0 : Int).toNat) := q.2
      refine pc_ite (fun c => pc_gd (fun _ => pc_some (Or.inr ⟨nm, _, hq, ?_⟩))) (fun c => pc_some (Or.inr ⟨nm, -1, ?_, rfl⟩))
      · rw [if_neg (by omega)]
      · have : u7 71 (0 : Int).toNat = -1 := by
          rcases hq with ⟨e, _⟩ | ⟨e, _⟩
          · exact e
          · exact absurd e c
        rw [this] at hq
        exact hq
  · have G1 := q.1.2
    have f := g_fr G1 [43, 63, 64, 65, 66, 67, 68, 71, 72, 73] rfl
    have k := g_43 G1 [40, 41, 44] rfl
    refine ⟨g_self G1, ⟨by rw [k 0 rfl]; exact c0, by rw [k 10 rfl]; exact c10, by rw [k 11 rfl]; exact c11⟩, ?_, ?_, ?_⟩
    · rw [f 47 rfl]; exact c47
    · rw [f 45 rfl]; exact c45
    · rw [f 46 rfl]; exact c46
theorem shl_512 : ∀ i : Nat, i < 10 → 0 ≤ ishl 1 (i : Int) ∧ ishl 1 (i : Int) ≤ 512 := by decide +kernel
theorem hh_hid {P : Int} {h : Nat → Int} {i : Nat} (hP : 0 ≤ P ∧ P ≤ 10) (hi : (i : Int) < P) (k : Nat) (hk : (k : Int) < P) : (hB P h k || bt (ishl 1 (i : Int)) k) = hB P (hidn h i) k := by
  rw [hB_hid hi]
  have a := (b10_1 (i := (i : Int)) (by omega)).2 k (by omega)
  have ei : ((i : Nat) : Int).toNat = i := by omega
  rw [ei] at a
  have a2 : bt (ishl 1 (i : Int)) k = decide (k = i) := a
  rw [a2]
theorem b10_i {P : Int} {i : Nat} (hP : 0 ≤ P ∧ P ≤ 10) (hi : (i : Int) < P) : B10 (ishl 1 (i : Int)) (fun k => decide (k = i)) := by
  have a := b10_1 (i := (i : Int)) (by omega)
  have ei : ((i : Nat) : Int).toNat = i := by omega
  rw [ei] at a
  exact a
/-- the class's answer, one hidden -/
theorem clh_pc {P g se : Int} {h kn : Nat → Int} {x0 : Int} {u : Wd} {i : Nat} (hc : CLI P g se h kn x0 u) (hP : 0 ≤ P ∧ P ≤ 10) (hg : 1 ≤ g ∧ g ≤ 3) (h0 : WH x0 (sof x0) P) (hi : (i : Int) < P) (hz : sof x0 i = 0) : PC (f_S_lastWeek 0 (ishl 1 (i : Int)) u) (fun r v => v = u ∧ LWQ P g se (hidn h i) kn x0 r) :=
  pc_w (clw_pc hc hP h0 b10_0 (b10_i hP hi)) (fun _ _ q => ⟨q.1, lst_lwq hP hg h0 (wkt_hid hP hi hz) q.2⟩)
theorem prm_rfi {a w : Wd} {P g se : Int} {h kn : Nat → Int} {x0 : Int} (hp : PRM a w P g se h kn x0) (hG : G [] a a) {y : Wd} (ey : y = st a 43 16 0) : RFI P g se h kn x0 y := by
  obtain ⟨hP, hg, h0, hw, ⟨c0, c10, c11⟩, c47, c45, c46, _⟩ := hp
  have gy : G [4316] a y := g_st (g_self hG) ey rfl rfl (show (0 : Int) ≤ 0 ∧ (0 : Int) ≤ 1 by decide)
  have yr : ∀ c, c ≠ 43 → y c = a c := fun c hc => by rw [ey, st_row hc]
  have yk : ∀ k, k ≠ 16 → y 43 k = a 43 k := fun k hk => by rw [ey, st_k hk]
  exact ⟨g_self gy, ⟨by rw [yk 0 (by decide)]; exact c0, by rw [yk 10 (by decide)]; exact c10, by rw [yk 11 (by decide)]; exact c11⟩, by rw [yr 47 (by decide)]; exact c47, by rw [yr 45 (by decide)]; exact c45, by rw [yr 46 (by decide)]; exact c46⟩
theorem lwq_ne {P g se : Int} {h h' kn : Nat → Int} {x0 m m' : Int} (hP : 0 ≤ P ∧ P ≤ 10) (h0 : WH x0 (sof x0) P) (hm : m ≠ -1) (a : LWQ P g se h kn x0 m) (b : LWQ P g se h' kn x0 m') : m' ≠ -1 := by
  intro e
  rcases a with ⟨a1, _⟩ | ⟨_, ⟨y, a2, a3⟩, _⟩
  · exact hm a1
  · rcases b with ⟨_, b2⟩ | ⟨b1, _⟩
    · exact b2 (sbg_back hP h0 a2 a3)
    · omega
theorem lwq_0 {P g se : Int} {h kn : Nat → Int} {x0 m : Int} (hm : m ≠ -1) (a : LWQ P g se h kn x0 m) : 0 ≤ m := by
  rcases a with ⟨a1, _⟩ | ⟨a1, _⟩
  · exact absurd a1 hm
  · exact a1
/-! WHO IS NEEDED -/
def NDR (D : Nat → Prop) : Nat → Int → Prop
  | 0, r => r = 0
  | n + 1, r => ∃ r0, NDR D n r0 ∧ ((D n ∧ r = ior r0 (ishl 1 (n : Int))) ∨ (¬ D n ∧ r = r0))
theorem ndr_one {D : Nat → Prop} : ∀ {n : Nat} {r r' : Int}, NDR D n r → NDR D n r' → r = r' := by
  intro n
  induction n with
  | zero => intro r r' a b; rw [show r = 0 from a, show r' = 0 from b]
  | succ n ih =>
    rintro r r' ⟨s, a1, a2⟩ ⟨s', b1, b2⟩
    have e := ih a1 b1
    rcases a2 with ⟨a3, a4⟩ | ⟨a3, a4⟩
    · rcases b2 with ⟨_, b4⟩ | ⟨b3, _⟩
      · rw [a4, b4, e]
      · exact absurd a3 b3
    · rcases b2 with ⟨b3, _⟩ | ⟨_, b4⟩
      · exact absurd b3 a3
      · rw [a4, b4, e]
def NED (P g se : Int) (h kn : Nat → Int) (x0 m : Int) (k : Nat) : Prop := fre P (sof x0) h k = true ∧ ∃ m', LWQ P g se (hidn h k) kn x0 m' ∧ m' < m
theorem ndr_y {D : Nat → Prop} {v3 v2 : Int} (h0 : 0 ≤ v3) (h : NDR D v3.toNat v2) (hd : D v3.toNat) : NDR D (v3 + 1).toNat (ior v2 (ishl 1 v3)) := by
  rw [show (v3 + 1).toNat = v3.toNat + 1 by omega]
  refine ⟨v2, h, Or.inl ⟨hd, ?_⟩⟩
  rw [show ((v3.toNat : Nat) : Int) = v3 by omega]
theorem ndr_n {D : Nat → Prop} {v3 v2 : Int} (h0 : 0 ≤ v3) (h : NDR D v3.toNat v2) (hd : ¬ D v3.toNat) : NDR D (v3 + 1).toNat v2 := by
  rw [show (v3 + 1).toNat = v3.toNat + 1 by omega]
  exact ⟨v2, h, Or.inr ⟨hd, rfl⟩⟩
theorem en43 {P g se : Int} {h kn : Nat → Int} {x0 m : Int} {u : Wd} (hc : CLI P g se h kn x0 u) (hP : 0 ≤ P ∧ P ≤ 10) (hg : 1 ≤ g ∧ g ≤ 3) (h0 : WH x0 (sof x0) P) (h3 : u 5 3 = P) (h4 : u 5 4 = x0) (h5 : B10 (u 5 5) (hB P h)) : ∀ (n : Nat) {v2 v3 : Int}, 0 ≤ v3 → v3 ≤ P → NDR (NED P g se h kn x0 m) v3.toNat v2 → PC (f_E_needed_43 n m v2 v3 u) (fun r _ => NDR (NED P g se h kn x0 m) P.toNat r) := by
  intro n
  induction n with
  | zero => intros; exact pc_none
  | succ n ih =>
    intro v2 v3 i1 i2 hN
    rw [f_E_needed_43, h3]
    have z := w32_sp (v3 + 1)
    unfold f_E_needed_89
    refine pc_ite (fun c => ?_) (fun c => ?_)
    · have e : v3 = P := by omega
      rw [e] at hN
      exact pc_some hN
    refine pc_call (ef_e (by rw [h4]; exact h0) hP h3 h5) (fun r5 u6 q => ?_)
    rw [q.1, has_10 u q.2 (by omega), jc_s]
    by_cases f : fre P (sof x0) h v3.toNat = true
    · rw [if_pos f, if_neg (by decide)]
      have fz := fre_0 f
      have cp := clh_pc hc hP hg h0 fz.1 fz.2.1
      rw [show ((v3.toNat : Nat) : Int) = v3 by omega] at cp
      refine pc_call cp (fun r10 u11 q2 => ?_)
      rw [q2.1]
      refine pc_ite (fun c2 => pc_let (fun x9 e9 => ?_)) (fun c2 => pc_let (fun x12 e12 => pc_let (fun x9 e9 => ?_)))
      · have e : x9 = v3 + 1 := by omega
        rw [e]
        refine ih (by omega) (by omega) (ndr_n i1 hN (fun hd => ?_))
        obtain ⟨_, m', a1, a2⟩ := hd
        have := lwq_one hP h0 a1 q2.2
        omega
      · have e : x9 = v3 + 1 := by omega
        rw [e, e12]
        exact ih (by omega) (by omega) (ndr_y i1 hN ⟨f, r10, q2.2, by omega⟩)
    · rw [if_neg f, if_pos rfl]
      refine pc_let (fun x9 e9 => ?_)
      have e : x9 = v3 + 1 := by omega
      rw [e]
      exact ih (by omega) (by omega) (ndr_n i1 hN (fun hd => f hd.1))
theorem rfi_free {P g se : Int} {h kn : Nat → Int} {x0 : Int} {u : Wd} (hP : 0 ≤ P ∧ P ≤ 10) (hr : RFI P g se h kn x0 u) : PC (f_R_free u) (fun r v => v = u ∧ B10 r (fre P (sof x0) h)) := by
  obtain ⟨gw, ⟨c0, _, _⟩, c47, _, c46⟩ := hr
  refine pc_w (rfree_e (w := u) (by rw [c0]; exact hP)) (fun r v q => ⟨q.1, ?_⟩)
  have q2 := q.2
  rw [c0] at q2
  refine b10_w q2 (fun k hk => ?_)
  unfold fre sr
  by_cases c : (k : Int) < P
  · rw [c46 k c, c47 k c]
  · rw [show inP P k = false from decide_eq_false c]; rfl
theorem en21 {P g se : Int} {h kn : Nat → Int} {x0 m : Int} (hP : 0 ≤ P ∧ P ≤ 10) (hg : 1 ≤ g ∧ g ≤ 3) (h0 : WH x0 (sof x0) P) (hm : ¬ MNY P g se h kn x0) (hm1 : m ≠ -1) (hl : LWQ P g se h kn x0 m) : ∀ (n : Nat) {v2 v3 : Int} {u : Wd}, RFI P g se h kn x0 u → 0 ≤ v3 → v3 ≤ P → NDR (NED P g se h kn x0 m) v3.toNat v2 → PC (f_R_needed_21 n m v2 v3 u) (fun r _ => NDR (NED P g se h kn x0 m) P.toNat r) := by
  intro n
  induction n with
  | zero => intros; exact pc_none
  | succ n ih =>
    intro v2 v3 u hr i1 i2 hN
    have c0 := hr.2.1.1
    rw [f_R_needed_21, c0]
    have z := w32_sp (v3 + 1)
    unfold f_R_needed_57
    refine pc_ite (fun c => ?_) (fun c => ?_)
    · have e : v3 = P := by omega
      rw [e] at hN
      exact pc_some hN
    refine pc_call (rfi_free hP hr) (fun r5 u6 q => ?_)
    rw [q.1, hasR_10 u q.2 (by omega), jc_s]
    by_cases f : fre P (sof x0) h v3.toNat = true
    · rw [if_pos f, if_neg (by decide)]
      have fz := fre_0 f
      have s5 := shl_512 v3.toNat (by omega)
      have hh := fun (k : Nat) (hk : (k : Int) < P) => hh_hid (h := h) hP fz.1 k hk
      rw [show ((v3.toNat : Nat) : Int) = v3 by omega] at s5 hh
      refine pc_call (lw_pc (h' := hidn h v3.toNat) hP hg h0 hr s5 hh) (fun r10 u11 q2 => ?_)
      obtain ⟨hr2, q3⟩ := q2
      rcases q3 with ⟨k1, _⟩ | ⟨_, m', k2, k3⟩
      · exact absurd (mny_hid hP fz.1 fz.2.1 k1) hm
      · rw [if_neg (lwq_ne hP h0 hm1 hl k2)] at k3
        refine pc_ite (fun c2 => pc_let (fun x9 e9 => ?_)) (fun c2 => pc_let (fun x12 e12 => pc_let (fun x9 e9 => ?_)))
        · have e : x9 = v3 + 1 := by omega
          rw [e]
          refine ih hr2 (by omega) (by omega) (ndr_n i1 hN (fun hd => ?_))
          obtain ⟨_, m2, a1, a2⟩ := hd
          have := lwq_one hP h0 a1 k2
          omega
        · have e : x9 = v3 + 1 := by omega
          rw [e, e12]
          exact ih hr2 (by omega) (by omega) (ndr_y i1 hN ⟨f, m', k2, by omega⟩)
    · rw [if_neg f, if_pos rfl]
      refine pc_let (fun x9 e9 => ?_)
      have e : x9 = v3 + 1 := by omega
      rw [e]
      exact ih hr (by omega) (by omega) (ndr_n i1 hN (fun hd => f hd.1))
theorem er_needed {a w : Wd} {P g se : Int} {h kn : Nat → Int} {x0 n : Int} (hp : PRM a w P g se h kn x0) (hG : G [] a a) (hs : SCR n w) (hn : n ≤ 2600) (hk : w 28 9 ≠ 0 → KPT P g se h kn x0 w) : PC (f_E_needed w) (fun r _ => PC (f_R_needed a) (fun r' _ => r = r')) := by
  obtain ⟨hP, hg, h0, hw, _⟩ := id hp
  unfold f_E_needed f_R_needed
  refine pc_call (crun hp hs hn hk) (fun r1 u z => ?_)
  have hlw : ∀ y, y = st a 43 16 0 → PC (f_R_lastWith 0 y) (fun r u => RFI P g se h kn x0 u ∧ ((MNY P g se h kn x0 ∧ r = -3) ∨ (¬ MNY P g se h kn x0 ∧ ∃ m, LWQ P g se h kn x0 m ∧ r = if m = -1 then -2 else m))) := fun y ey => lw_pc (h' := h) hP hg h0 (prm_rfi hp hG ey) (by decide) (fun k _ => by rw [bt_0, Bool.or_false])
  rcases z.2 with ⟨e, s⟩ | ⟨e, m⟩
  · refine pc_ite (fun c => by omega) (fun _ => ?_)
    have cl := src_cli hP h0 s
    have nm := cli_mny hP h0 cl
    refine pc_call (clw_pc cl hP h0 b10_0 b10_0) (fun r3 u4 z3 => ?_)
    rw [z3.1]
    have hl := lst_lwq hP hg h0 wkt_all z3.2
    refine pc_ite (fun e => pc_some (pc_lw (fun y ey => pc_call (hlw y ey) (fun r2 u3 q => ?_)))) (fun e => ?_)
    · rcases q.2 with ⟨k1, _⟩ | ⟨_, m', k2, k3⟩
      · exact absurd k1 nm
      · have := lwq_one hP h0 hl k2
        rw [if_pos (by omega)] at k3
        exact pc_ite (fun c => by omega) (fun _ => pc_some k3.symm)
    · have u5 := (run_5 z.1).1
      have hwu : u 5 3 = P ∧ u 5 4 = x0 ∧ B10 (u 5 5) (hB P h) := by
        rw [u5]; exact ⟨hw.1, hw.2.2.2.2.1, hw.2.1⟩
      refine pc_w (en43 cl hP hg h0 hwu.1 hwu.2.1 hwu.2.2 FU (by decide) hP.1 rfl) (fun r _ hA => pc_lw (fun y ey => pc_call (hlw y ey) (fun r2 u3 q => ?_)))
      rcases q.2 with ⟨k1, _⟩ | ⟨_, m', k2, k3⟩
      · exact absurd k1 nm
      · have e2 := lwq_one hP h0 hl k2
        rw [if_neg (by omega)] at k3
        have e3 : r2 = r3 := by omega
        rw [e3]
        have := lwq_0 e hl
        refine pc_ite (fun _ => ?_) (fun c => by omega)
        exact pc_w (en21 hP hg h0 nm e hl FU q.1 (by decide) hP.1 rfl) (fun r' _ hB => ndr_one hA hB)
  · refine pc_ite (fun _ => pc_some (pc_lw (fun y ey => pc_call (hlw y ey) (fun r2 u3 q => ?_)))) (fun c => absurd e c)
    rcases q.2 with ⟨_, k2⟩ | ⟨k1, _⟩
    · exact pc_ite (fun c => by omega) (fun _ => pc_some k2.symm)
    · exact absurd m k1
/-! WHAT IS KEPT OF A SEARCH: it stays through all reading -/
def SJ (L : Int) (b w : Wd) : Prop := (w 5 = b 5 ∧ w 7 = b 7 ∧ w 28 = b 28 ∧ w 29 = b 29 ∧ w 30 = b 30 ∧ w 31 = b 31 ∧ w 35 = b 35) ∧ ROK w ∧ w 24 4 ≤ L
theorem sj_mono {L M : Int} {b w : Wd} (h : SJ L b w) (hM : L ≤ M) : SJ M b w := ⟨h.1, h.2.1, Int.le_trans h.2.2 hM⟩
theorem sj_st {L : Int} {b w u : Wd} {c k : Nat} {z : Int} (h : SJ L b w) (e : u = st w c k z) (hc : [5, 7, 24, 27, 28, 29, 30, 31, 35].contains c = false) : SJ L b u := by
  have f : ∀ c', [5, 7, 24, 27, 28, 29, 30, 31, 35].contains c' = true → u c' = w c' := fun c' hc' => by
    rw [e]; exact st_row (fun hh => by rw [hh, hc] at hc'; cases hc')
  unfold SJ ROK
  rw [f 5 rfl, f 7 rfl, f 24 rfl, f 27 rfl, f 28 rfl, f 29 rfl, f 30 rfl, f 31 rfl, f 35 rfl]
  exact h
theorem sj_s24 {L : Int} {b w u : Wd} {k : Nat} {z : Int} (h : SJ L b w) (e : u = st w 24 k z) (hk : (k == 4) = false) : SJ L b u := by
  have f : ∀ c', c' ≠ 24 → u c' = w c' := fun c' hc' => by rw [e]; exact st_row hc'
  have f4 : u 24 4 = w 24 4 := by rw [e]; exact st_k (fun hh => by rw [← hh] at hk; cases hk)
  unfold SJ ROK
  rw [f 5 (by decide), f 7 (by decide), f4, f 27 (by decide), f 28 (by decide), f 29 (by decide), f 30 (by decide), f 31 (by decide), f 35 (by decide)]
  exact h
theorem sj_fm {L : Int} {b w u : Wd} (h : SJ L b w) (f : FM w u) : SJ L b u := by
  have g := f.1
  have f4 : u 24 4 = w 24 4 := f.2.1 4 (by decide)
  obtain ⟨h1, h2, h3⟩ := h
  refine ⟨?_, ⟨by rw [f4]; exact h2.1, fun k hk => ?_⟩, by rw [f4]; exact h3⟩
  · rw [g 5 (by decide) (by decide) (by decide) (by decide), g 7 (by decide) (by decide) (by decide) (by decide), g 28 (by decide) (by decide) (by decide) (by decide), g 29 (by decide) (by decide) (by decide) (by decide), g 30 (by decide) (by decide) (by decide) (by decide), g 31 (by decide) (by decide) (by decide) (by decide), g 35 (by decide) (by decide) (by decide) (by decide)]
    exact h1
  · rw [f4]
    rcases f.2.2 k with e | e
    · rw [e]; exact h2.2 k hk
    · rw [e]; exact Int.le_refl _
theorem zq_E_isWeek {b : Wd} {v0 : Int} {w : Wd} (h : w = b) : PC (f_E_isWeek v0 w) (fun _ u => u = b) := by
  unfold f_E_isWeek
  refine pc_ite (fun _ => ?_) (fun _ => ?_)
  · exact pc_some h
  · refine pc_ite (fun _ => ?_) (fun _ => ?_)
    · exact pc_some h
    · exact pc_some h
theorem zq_F_isThere {b : Wd} {v1 : Int} {w : Wd} (h : w = b) : PC (f_F_isThere v1 w) (fun _ u => u = b) := by
  unfold f_F_isThere
  refine pc_ite (fun _ => ?_) (fun _ => ?_)
  · exact pc_some h
  · refine pc_ite (fun _ => ?_) (fun _ => ?_)
    · exact pc_some h
    · exact pc_some h
theorem zq_E_areTwo {b : Wd} {v1 v2 : Int} {w : Wd} (h : w = b) : PC (f_E_areTwo v1 v2 w) (fun _ u => u = b) := by
  unfold f_E_areTwo
  refine pc_ite (fun _ => ?_) (fun _ => ?_)
  · exact pc_some h
  · refine pc_call (zq_F_isThere h) (fun r1 u2 h => ?_)
    refine pc_ite (fun _ => ?_) (fun _ => ?_)
    · exact pc_some h
    · refine pc_call (zq_F_isThere h) (fun r3 u4 h => ?_)
      refine pc_ite (fun _ => ?_) (fun _ => ?_)
      · exact pc_some h
      · exact pc_some h
theorem zq_F_everybody {b : Wd} {w : Wd} (h : w = b) : PC (f_F_everybody  w) (fun _ u => u = b) := by
  unfold f_F_everybody
  exact pc_some h
theorem zq_O_known {b : Wd} {v0 : Int} {w : Wd} (h : w = b) : PC (f_O_known v0 w) (fun _ u => u = b) := by
  unfold f_O_known
  exact pc_some h
theorem zq_F_strangers {b : Wd} {w : Wd} (h : w = b) : PC (f_F_strangers  w) (fun _ u => u = b) := by
  unfold f_F_strangers
  refine pc_call (zq_F_everybody h) (fun r1 u2 h => ?_)
  refine pc_call (zq_O_known h) (fun r3 u4 h => ?_)
  exact pc_some h
theorem zq_F_free {b : Wd} {w : Wd} (h : w = b) : PC (f_F_free  w) (fun _ u => u = b) := by
  unfold f_F_free
  refine pc_call (zq_F_strangers h) (fun r1 u2 h => ?_)
  exact pc_some h
theorem zq_E_has {b : Wd} {v0 v1 : Int} {w : Wd} (h : w = b) : PC (f_E_has v0 v1 w) (fun _ u => u = b) := by
  unfold f_E_has
  refine pc_ite (fun _ => ?_) (fun _ => ?_)
  · exact pc_some h
  · refine pc_ite (fun _ => ?_) (fun _ => ?_)
    · exact pc_some h
    · refine pc_ite (fun _ => ?_) (fun _ => ?_)
      · exact pc_some h
      · exact pc_some h
theorem zs_O_lateOne {L : Int} {b : Wd} {v0 v1 : Int} {w : Wd} (h : SJ L b w) : PC (f_O_lateOne v0 v1 w) (fun _ u => SJ L b u) := by
  unfold f_O_lateOne
  refine pc_ite (fun _ => ?_) (fun _ => ?_)
  · exact pc_some h
  · exact pc_some h
theorem zs_O_lateTwo {L : Int} {b : Wd} {v0 v1 : Int} {w : Wd} (h : SJ L b w) : PC (f_O_lateTwo v0 v1 w) (fun _ u => SJ L b u) := by
  unfold f_O_lateTwo
  refine pc_ite (fun _ => ?_) (fun _ => ?_)
  · exact pc_some h
  · exact pc_some h
theorem zs_O_stay {L : Int} {b : Wd} {v0 v1 : Int} {w : Wd} (h : SJ L b w) : PC (f_O_stay v0 v1 w) (fun _ u => SJ L b u) := by
  unfold f_O_stay
  refine pc_call (zs_O_lateOne h) (fun r1 u2 h => ?_)
  refine pc_call (zs_O_lateTwo h) (fun r3 u4 h => ?_)
  exact pc_some h
theorem zs_F_everybody {L : Int} {b : Wd} {w : Wd} (h : SJ L b w) : PC (f_F_everybody  w) (fun _ u => SJ L b u) := by
  unfold f_F_everybody
  exact pc_some h
theorem zs_O_known {L : Int} {b : Wd} {v0 : Int} {w : Wd} (h : SJ L b w) : PC (f_O_known v0 w) (fun _ u => SJ L b u) := by
  unfold f_O_known
  exact pc_some h
theorem zs_M_prepare {L : Int} {b : Wd} {v2 v3 v4 : Int} {w : Wd} (h : SJ L b w) (hL : L + 1 ≤ 2147480000) : PC (f_M_prepare v2 v3 v4 w) (fun _ u => SJ (L + 1) b u) := by
  unfold f_M_prepare
  refine pc_lw (fun u1 e => ?_)
  replace h := sj_s24 h e rfl
  refine pc_lw (fun u2 e => ?_)
  replace h := sj_s24 h e rfl
  refine pc_call (zs_F_everybody h) (fun r3 u4 h => ?_)
  refine pc_call (zs_O_known h) (fun r5 u6 h => ?_)
  refine pc_lw (fun u7 e => ?_)
  replace h := sj_s24 h e rfl
  refine pc_call (zs_O_stay h) (fun r8 u9 h => ?_)
  refine pc_lw (fun u10 e => ?_)
  replace h := sj_s24 h e rfl
  refine pc_lw (fun u11 e => ?_)
  replace h := sj_s24 h e rfl
  refine pc_lw (fun u12 e => ?_)
  replace h := sj_s24 h e rfl
  refine pc_lw (fun u13 e => ?_)
  obtain ⟨h1, ⟨h2, h3⟩, h4⟩ := h
  have z := w32_sp (u12 24 4 + 1)
  have f : ∀ c', c' ≠ 24 → u13 c' = u12 c' := fun c' hc' => by rw [e]; exact st_row hc'
  have f4 : u13 24 4 = u12 24 4 + 1 := by rw [e, st_eq]; omega
  refine pc_some ⟨?_, ⟨by omega, fun k hk => ?_⟩, by omega⟩
  · rw [f 5 (by decide), f 7 (by decide), f 28 (by decide), f 29 (by decide), f 30 (by decide), f 31 (by decide), f 35 (by decide)]
    exact h1
  · rw [f4, f 27 (by decide)]
    have := h3 k hk
    omega
theorem zs_M_spread {L : Int} {b : Wd} {D : Nat} {f m x : Int} {w : Wd} (h : SJ L b w) : PC (f_M_spread D f m x w) (fun _ u => SJ L b u) := pc_w (spf_pc D) (fun _ _ q => sj_fm h q)
theorem zs_O_guests {L : Int} {b : Wd} {v0 : Int} {w : Wd} (h : SJ L b w) : PC (f_O_guests v0 w) (fun _ u => SJ L b u) := by
  unfold f_O_guests
  exact pc_some h
theorem zs_M_gather {L : Int} {b : Wd} {v2 v3 : Int} {w : Wd} (h : SJ L b w) (hL : L + 1 ≤ 2147480000) : PC (f_M_gather v2 v3 w) (fun _ u => SJ (L + 1) b u) := by
  unfold f_M_gather
  refine pc_call (zs_O_guests h) (fun r1 u2 h => ?_)
  refine pc_call (zs_M_prepare h (by omega)) (fun r3 u4 h => ?_)
  refine pc_call (zs_M_spread h) (fun r5 u6 h => ?_)
  exact pc_some (sj_mono h (by omega))
theorem zs_M_gatherBehind_34 {L : Int} {b : Wd} {v3 : Int} {w : Wd} (h : SJ L b w) : PC (f_M_gatherBehind_34 v3 w) (fun _ u => SJ L b u) := by
  unfold f_M_gatherBehind_34
  refine pc_call (zs_M_spread h) (fun r3 u4 h => ?_)
  exact pc_some h
theorem zs_JI_bitCount {L : Int} {b : Wd} {v0 : Int} {w : Wd} (h : SJ L b w) : PC (f_JI_bitCount v0 w) (fun _ u => SJ L b u) := by
  unfold f_JI_bitCount
  refine pc_let (fun x1 _ => ?_)
  refine pc_let (fun x2 _ => ?_)
  refine pc_let (fun x3 _ => ?_)
  refine pc_let (fun x4 _ => ?_)
  refine pc_let (fun x5 _ => ?_)
  exact pc_some h
theorem zs_M_gatherBehind {L : Int} {b : Wd} {v2 v3 : Int} {w : Wd} (h : SJ L b w) (hL : L + 1 ≤ 2147480000) : PC (f_M_gatherBehind v2 v3 w) (fun _ u => SJ (L + 1) b u) := by
  unfold f_M_gatherBehind
  refine pc_call (zs_M_prepare h (by omega)) (fun r1 u2 h => ?_)
  refine pc_ite (fun _ => ?_) (fun _ => ?_)
  · exact pc_w (zs_M_gatherBehind_34 h) (fun _ _ h => sj_mono h (by omega))
  · refine pc_call (zs_JI_bitCount h) (fun r5 u6 h => ?_)
    refine pc_ite (fun _ => ?_) (fun _ => ?_)
    · exact pc_some (sj_mono h (by omega))
    · exact pc_w (zs_M_gatherBehind_34 h) (fun _ _ h => sj_mono h (by omega))
theorem zs_F_strangers {L : Int} {b : Wd} {w : Wd} (h : SJ L b w) : PC (f_F_strangers  w) (fun _ u => SJ L b u) := by
  unfold f_F_strangers
  refine pc_call (zs_F_everybody h) (fun r1 u2 h => ?_)
  refine pc_call (zs_O_known h) (fun r3 u4 h => ?_)
  exact pc_some h
theorem zs_N_clear {L : Int} {b : Wd} {w : Wd} (h : SJ L b w) : PC (f_N_clear  w) (fun _ u => SJ L b u) := by
  unfold f_N_clear
  refine pc_lw (fun u1 e => ?_)
  replace h := sj_st h e (by decide)
  exact pc_some h
theorem zs_N_put {L : Int} {b : Wd} {v1 : Int} {w : Wd} (h : SJ L b w) : PC (f_N_put v1 w) (fun _ u => SJ L b u) := by
  unfold f_N_put
  refine pc_ite (fun _ => ?_) (fun _ => ?_)
  · exact pc_some h
  · refine pc_gd (fun _ => ?_)
    refine pc_lw (fun u1 e => ?_)
    replace h := sj_st h e (by decide)
    refine pc_lw (fun u2 e => ?_)
    replace h := sj_st h e (by decide)
    exact pc_some h
theorem zs_N_tell1 {L : Int} {b : Wd} {v1 : Int} {w : Wd} (h : SJ L b w) : PC (f_N_tell1 v1 w) (fun _ u => SJ L b u) := by
  unfold f_N_tell1
  refine pc_call (zs_N_clear h) (fun r1 u2 h => ?_)
  refine pc_call (zs_N_put h) (fun r3 u4 h => ?_)
  exact pc_some h
theorem zs_F_guests {L : Int} {b : Wd} {w : Wd} (h : SJ L b w) : PC (f_F_guests  w) (fun _ u => SJ L b u) := by
  unfold f_F_guests
  refine pc_call (zs_O_guests h) (fun r1 u2 h => ?_)
  exact pc_some h
theorem zs_M_moversOf {L : Int} {b : Wd} {v1 : Int} {w : Wd} (h : SJ L b w) : PC (f_M_moversOf v1 w) (fun _ u => SJ L b u) := by
  unfold f_M_moversOf
  refine pc_ite (fun _ => ?_) (fun _ => ?_)
  · exact pc_some h
  · refine pc_ite (fun _ => ?_) (fun _ => ?_)
    · exact pc_some h
    · refine pc_gd (fun _ => ?_)
      exact pc_some h
theorem zs_E_can_29 {L : Int} {b : Wd} : ∀ (n : Nat) {v1 v2 : Int} {w : Wd}, SJ L b w → PC (f_E_can_29 n v1 v2 w) (fun _ u => SJ L b u) := by
  intro n
  induction n with
  | zero => intros; exact pc_none
  | succ n ih =>
    intro v1 v2 w h
    rw [f_E_can_29]
    refine pc_ite (fun _ => ?_) (fun _ => ?_)
    · refine pc_call (zs_F_strangers h) (fun r3 u4 h => ?_)
      refine pc_call (zs_N_tell1 h) (fun r5 u6 h => ?_)
      refine pc_call (zs_F_guests h) (fun r7 u8 h => ?_)
      exact pc_some h
    · refine pc_call (zs_M_moversOf h) (fun r9 u10 h => ?_)
      refine pc_let (fun x11 _ => ?_)
      refine pc_let (fun x12 _ => ?_)
      exact ih h
theorem zs_E_can {L : Int} {b : Wd} {w : Wd} (h : SJ L b w) (hL : L + 1 ≤ 2147480000) : PC (f_E_can  w) (fun _ u => SJ (L + 1) b u) := by
  unfold f_E_can
  refine pc_call (zs_M_gather h (by omega)) (fun r1 u2 h => ?_)
  exact pc_w (zs_E_can_29 _ h) (fun _ _ h => sj_mono h (by omega))
theorem zs_E_largestWeek_62 {L : Int} {b : Wd} {k24 : Int → Int → Wd → Option (Int × Wd)} {v1 v2 : Int} {w : Wd} (h : SJ L b w) (hk : ∀ {a0 a1 : Int} {w : Wd}, SJ L b w → PC (k24 a0 a1 w) (fun _ u => SJ L b u)) : PC (f_E_largestWeek_62 k24 v1 v2 w) (fun _ u => SJ L b u) := by
  unfold f_E_largestWeek_62
  refine pc_let (fun x11 _ => ?_)
  exact hk h
theorem zs_E_largestWeek_24 {L : Int} {b : Wd} : ∀ (n : Nat) {v1 v2 : Int} {w : Wd}, SJ L b w → PC (f_E_largestWeek_24 n v1 v2 w) (fun _ u => SJ L b u) := by
  intro n
  induction n with
  | zero => intros; exact pc_none
  | succ n ih =>
    intro v1 v2 w h
    rw [f_E_largestWeek_24]
    refine pc_ite (fun _ => ?_) (fun _ => ?_)
    · exact pc_some h
    · refine pc_call (zs_M_moversOf h) (fun r3 u4 h => ?_)
      refine pc_call (zs_JI_bitCount h) (fun r5 u6 h => ?_)
      refine pc_call (zs_M_moversOf h) (fun r7 u8 h => ?_)
      refine pc_call (zs_JI_bitCount h) (fun r9 u10 h => ?_)
      refine pc_ite (fun _ => ?_) (fun _ => ?_)
      · exact (zs_E_largestWeek_62 h (fun h => ih h))
      · exact (zs_E_largestWeek_62 h (fun h => ih h))
theorem zs_E_largestWeek {L : Int} {b : Wd} {w : Wd} (h : SJ L b w) (hL : L + 1 ≤ 2147480000) : PC (f_E_largestWeek  w) (fun _ u => SJ (L + 1) b u) := by
  unfold f_E_largestWeek
  refine pc_call (zs_M_gather h (by omega)) (fun r1 u2 h => ?_)
  exact pc_w (zs_E_largestWeek_24 _ h) (fun _ _ h => sj_mono h (by omega))
theorem zs_E_lowest {L : Int} {b : Wd} {v0 : Int} {w : Wd} (h : SJ L b w) : PC (f_E_lowest v0 w) (fun _ u => SJ L b u) := by
  unfold f_E_lowest
  refine pc_ite (fun _ => ?_) (fun _ => ?_)
  · exact pc_some h
  · refine pc_call (zs_JI_bitCount h) (fun r1 u2 h => ?_)
    exact pc_some h
theorem zs_N_putFirst_12 {L : Int} {b : Wd} : ∀ (n : Nat) {v1 v2 : Int} {w : Wd}, SJ L b w → PC (f_N_putFirst_12 n v1 v2 w) (fun _ u => SJ L b u) := by
  intro n
  induction n with
  | zero => intros; exact pc_none
  | succ n ih =>
    intro v1 v2 w h
    rw [f_N_putFirst_12]
    refine pc_ite (fun _ => ?_) (fun _ => ?_)
    · exact pc_some h
    · refine pc_gd (fun _ => ?_)
      refine pc_gd (fun _ => ?_)
      refine pc_lw (fun u4 e => ?_)
      replace h := sj_st h e (by decide)
      refine pc_gd (fun _ => ?_)
      refine pc_lw (fun u5 e => ?_)
      replace h := sj_st h e (by decide)
      refine pc_let (fun x6 _ => ?_)
      exact ih h
theorem zs_N_putFirst {L : Int} {b : Wd} {v1 : Int} {w : Wd} (h : SJ L b w) : PC (f_N_putFirst v1 w) (fun _ u => SJ L b u) := by
  unfold f_N_putFirst
  refine pc_call (zs_N_put h) (fun r1 u2 h => ?_)
  refine pc_let (fun x3 _ => ?_)
  exact (zs_N_putFirst_12 _ h)
theorem zs_M_tellPairs_9 {L : Int} {b : Wd} : ∀ (n : Nat) {v3 v4 : Int} {w : Wd}, SJ L b w → PC (f_M_tellPairs_9 n v3 v4 w) (fun _ u => SJ L b u) := by
  intro n
  induction n with
  | zero => intros; exact pc_none
  | succ n ih =>
    intro v3 v4 w h
    rw [f_M_tellPairs_9]
    refine pc_ite (fun _ => ?_) (fun _ => ?_)
    · exact pc_some h
    · refine pc_ite (fun _ => ?_) (fun _ => ?_)
      · exact pc_some h
      · refine pc_ite (fun _ => ?_) (fun _ => ?_)
        · exact pc_some h
        · refine pc_gd (fun _ => ?_)
          refine pc_gd (fun _ => ?_)
          refine pc_call (zs_M_moversOf h) (fun r3 u4 h => ?_)
          refine pc_let (fun x5 _ => ?_)
          refine pc_call (zs_E_lowest h) (fun r6 u7 h => ?_)
          refine pc_call (zs_E_lowest h) (fun r8 u9 h => ?_)
          refine pc_call (zs_N_putFirst h) (fun r10 u11 h => ?_)
          refine pc_gd (fun _ => ?_)
          refine pc_let (fun x12 _ => ?_)
          refine pc_let (fun x13 _ => ?_)
          exact ih h
theorem zs_M_tellPairs {L : Int} {b : Wd} {v1 : Int} {w : Wd} (h : SJ L b w) : PC (f_M_tellPairs v1 w) (fun _ u => SJ L b u) := by
  unfold f_M_tellPairs
  refine pc_call (zs_N_clear h) (fun r1 u2 h => ?_)
  exact (zs_M_tellPairs_9 _ h)
theorem zs_E_pairs {L : Int} {b : Wd} {w : Wd} (h : SJ L b w) (hL : L + 1 ≤ 2147480000) : PC (f_E_pairs  w) (fun _ u => SJ (L + 1) b u) := by
  unfold f_E_pairs
  refine pc_call (zs_E_largestWeek h (by omega)) (fun r1 u2 h => ?_)
  refine pc_call (zs_M_tellPairs h) (fun r3 u4 h => ?_)
  exact pc_some (sj_mono h (by omega))
theorem zs_E_has {L : Int} {b : Wd} {v0 v1 : Int} {w : Wd} (h : SJ L b w) : PC (f_E_has v0 v1 w) (fun _ u => SJ L b u) := by
  unfold f_E_has
  refine pc_ite (fun _ => ?_) (fun _ => ?_)
  · exact pc_some h
  · refine pc_ite (fun _ => ?_) (fun _ => ?_)
    · exact pc_some h
    · refine pc_ite (fun _ => ?_) (fun _ => ?_)
      · exact pc_some h
      · exact pc_some h
theorem zs_F_knownBy_31 {L : Int} {b : Wd} {k4 : Int → Int → Int → Wd → Option (Int × Wd)} {v1 v3 s0 s1 : Int} {w : Wd} (h : SJ L b w) (hk : ∀ {a0 a1 a2 : Int} {w : Wd}, SJ L b w → PC (k4 a0 a1 a2 w) (fun _ u => SJ L b u)) : PC (f_F_knownBy_31 k4 v1 v3 s0 s1 w) (fun _ u => SJ L b u) := by
  unfold f_F_knownBy_31
  refine pc_let (fun x3 _ => ?_)
  refine pc_let (fun x4 _ => ?_)
  exact hk h
theorem zs_F_knownBy_4 {L : Int} {b : Wd} : ∀ (n : Nat) {v1 v2 v3 : Int} {w : Wd}, SJ L b w → PC (f_F_knownBy_4 n v1 v2 v3 w) (fun _ u => SJ L b u) := by
  intro n
  induction n with
  | zero => intros; exact pc_none
  | succ n ih =>
    intro v1 v2 v3 w h
    rw [f_F_knownBy_4]
    refine pc_ite (fun _ => ?_) (fun _ => ?_)
    · exact pc_some h
    · refine pc_call (zs_E_has h) (fun r1 u2 h => ?_)
      refine pc_ite (fun _ => ?_) (fun _ => ?_)
      · exact (zs_F_knownBy_31 h (fun h => ih h))
      · refine pc_gd (fun _ => ?_)
        exact (zs_F_knownBy_31 h (fun h => ih h))
theorem zs_F_knownBy {L : Int} {b : Wd} {v1 : Int} {w : Wd} (h : SJ L b w) : PC (f_F_knownBy v1 w) (fun _ u => SJ L b u) := by
  unfold f_F_knownBy
  exact (zs_F_knownBy_4 _ h)
theorem zs_F_free {L : Int} {b : Wd} {w : Wd} (h : SJ L b w) : PC (f_F_free  w) (fun _ u => SJ L b u) := by
  unfold f_F_free
  refine pc_call (zs_F_strangers h) (fun r1 u2 h => ?_)
  exact pc_some h
theorem zs_N_tell2 {L : Int} {b : Wd} {v1 v2 : Int} {w : Wd} (h : SJ L b w) : PC (f_N_tell2 v1 v2 w) (fun _ u => SJ L b u) := by
  unfold f_N_tell2
  refine pc_call (zs_N_tell1 h) (fun r1 u2 h => ?_)
  refine pc_call (zs_N_put h) (fun r3 u4 h => ?_)
  exact pc_some h
theorem zs_E_bars_89 {L : Int} {b : Wd} {k32 : Int → Int → Int → Wd → Option (Int × Wd)} {v1 v2 v3 : Int} {w : Wd} (h : SJ L b w) (hk : ∀ {a0 a1 a2 : Int} {w : Wd}, SJ L b w → PC (k32 a0 a1 a2 w) (fun _ u => SJ L b u)) : PC (f_E_bars_89 k32 v1 v2 v3 w) (fun _ u => SJ L b u) := by
  unfold f_E_bars_89
  refine pc_let (fun x17 _ => ?_)
  exact hk h
theorem zs_E_bars_32 {L : Int} {b : Wd} : ∀ (n : Nat) {v1 v2 v3 : Int} {w : Wd}, SJ L b w → PC (f_E_bars_32 n v1 v2 v3 w) (fun _ u => SJ L b u) := by
  intro n
  induction n with
  | zero => intros; exact pc_none
  | succ n ih =>
    intro v1 v2 v3 w h
    rw [f_E_bars_32]
    refine pc_ite (fun _ => ?_) (fun _ => ?_)
    · exact pc_some h
    · refine pc_call (zs_F_knownBy h) (fun r12 u13 h => ?_)
      refine pc_call (zs_F_free h) (fun r14 u15 h => ?_)
      refine pc_let (fun x16 _ => ?_)
      refine pc_ite (fun _ => ?_) (fun _ => ?_)
      · refine pc_call (zs_JI_bitCount h) (fun r18 u19 h => ?_)
        refine pc_call (zs_JI_bitCount h) (fun r20 u21 h => ?_)
        refine pc_ite (fun _ => ?_) (fun _ => ?_)
        · refine pc_call (zs_N_tell2 h) (fun r22 u23 h => ?_)
          exact pc_some h
        · exact (zs_E_bars_89 h (fun h => ih h))
      · exact (zs_E_bars_89 h (fun h => ih h))
theorem zs_E_bars {L : Int} {b : Wd} {w : Wd} (h : SJ L b w) (hL : L + 1 ≤ 2147480000) : PC (f_E_bars  w) (fun _ u => SJ (L + 1) b u) := by
  unfold f_E_bars
  refine pc_call (zs_F_guests h) (fun r1 u2 h => ?_)
  refine pc_call (zs_JI_bitCount h) (fun r3 u4 h => ?_)
  refine pc_call (zs_E_largestWeek h (by omega)) (fun r5 u6 h => ?_)
  refine pc_call (zs_M_moversOf h) (fun r7 u8 h => ?_)
  refine pc_call (zs_JI_bitCount h) (fun r9 u10 h => ?_)
  refine pc_ite (fun _ => pc_none) (fun _ => ?_)
  refine pc_let (fun x11 _ => ?_)
  exact pc_w (zs_E_bars_32 _ h) (fun _ _ h => sj_mono h (by omega))
theorem zs_S_guests {L : Int} {b : Wd} {v1 : Int} {w : Wd} (h : SJ L b w) : PC (f_S_guests v1 w) (fun _ u => SJ L b u) := by
  unfold f_S_guests
  refine pc_ite (fun _ => ?_) (fun _ => ?_)
  · exact pc_some h
  · refine pc_ite (fun _ => ?_) (fun _ => ?_)
    · exact pc_some h
    · refine pc_gd (fun _ => ?_)
      refine pc_call (zs_O_guests h) (fun r1 u2 h => ?_)
      exact pc_some h
theorem zs_O_out {L : Int} {b : Wd} {v0 : Int} {w : Wd} (h : SJ L b w) : PC (f_O_out v0 w) (fun _ u => SJ L b u) := by
  unfold f_O_out
  exact pc_some h
theorem zs_O_after {L : Int} {b : Wd} {v0 v1 v2 : Int} {w : Wd} (h : SJ L b w) : PC (f_O_after v0 v1 v2 w) (fun _ u => SJ L b u) := by
  unfold f_O_after
  refine pc_call (zs_O_lateOne h) (fun r1 u2 h => ?_)
  refine pc_let (fun x3 _ => ?_)
  refine pc_call (zs_O_lateTwo h) (fun r4 u5 h => ?_)
  refine pc_let (fun x6 _ => ?_)
  refine pc_call (zs_O_out h) (fun r7 u8 h => ?_)
  refine pc_call (zs_O_guests h) (fun r9 u10 h => ?_)
  refine pc_let (fun x11 _ => ?_)
  exact pc_some h
theorem zs_S_slotOf_14 {L : Int} {b : Wd} : ∀ (n : Nat) {v1 v2 v3 : Int} {w : Wd}, SJ L b w → PC (f_S_slotOf_14 n v1 v2 v3 w) (fun _ u => SJ L b u) := by
  intro n
  induction n with
  | zero => intros; exact pc_none
  | succ n ih =>
    intro v1 v2 v3 w h
    rw [f_S_slotOf_14]
    refine pc_ite (fun _ => ?_) (fun _ => ?_)
    · exact pc_some h
    · refine pc_gd (fun _ => ?_)
      refine pc_ite (fun _ => ?_) (fun _ => ?_)
      · exact pc_some h
      · refine pc_gd (fun _ => ?_)
        refine pc_gd (fun _ => ?_)
        refine pc_ite (fun _ => ?_) (fun _ => ?_)
        · exact pc_some h
        · refine pc_ite (fun _ => pc_none) (fun _ => ?_)
          refine pc_let (fun x2 _ => ?_)
          refine pc_let (fun x3 _ => ?_)
          exact ih h
theorem zs_S_slotOf {L : Int} {b : Wd} {v1 : Int} {w : Wd} (h : SJ L b w) : PC (f_S_slotOf v1 w) (fun _ u => SJ L b u) := by
  unfold f_S_slotOf
  refine pc_ite (fun _ => pc_none) (fun _ => ?_)
  refine pc_let (fun x1 _ => ?_)
  exact (zs_S_slotOf_14 _ h)
theorem zs_S_leftOf {L : Int} {b : Wd} {v1 : Int} {w : Wd} (h : SJ L b w) : PC (f_S_leftOf v1 w) (fun _ u => SJ L b u) := by
  unfold f_S_leftOf
  refine pc_call (zs_S_slotOf h) (fun r1 u2 h => ?_)
  refine pc_gd (fun _ => ?_)
  refine pc_let (fun x3 _ => ?_)
  refine pc_ite (fun _ => ?_) (fun _ => ?_)
  · exact pc_some h
  · refine pc_ite (fun _ => ?_) (fun _ => ?_)
    · exact pc_some h
    · refine pc_gd (fun _ => ?_)
      exact pc_some h
theorem zs_S_leftBehind_29 {L : Int} {b : Wd} : ∀ (n : Nat) {v1 v4 v6 : Int} {w : Wd}, SJ L b w → PC (f_S_leftBehind_29 n v1 v4 v6 w) (fun _ u => SJ L b u) := by
  intro n
  induction n with
  | zero => intros; exact pc_none
  | succ n ih =>
    intro v1 v4 v6 w h
    rw [f_S_leftBehind_29]
    refine pc_ite (fun _ => ?_) (fun _ => ?_)
    · exact pc_some h
    · refine pc_gd (fun _ => ?_)
      refine pc_call (zs_M_moversOf h) (fun r5 u6 h => ?_)
      refine pc_call (zs_O_after h) (fun r7 u8 h => ?_)
      refine pc_call (zs_S_leftOf h) (fun r9 u10 h => ?_)
      refine pc_let (fun x11 _ => ?_)
      refine pc_let (fun x12 _ => ?_)
      exact ih h
theorem zs_S_leftBehind {L : Int} {b : Wd} {v1 : Int} {w : Wd} (h : SJ L b w) (hL : L + 1 ≤ 2147480000) : PC (f_S_leftBehind v1 w) (fun _ u => SJ (L + 1) b u) := by
  unfold f_S_leftBehind
  refine pc_call (zs_S_guests h) (fun r1 u2 h => ?_)
  refine pc_ite (fun _ => ?_) (fun _ => ?_)
  · exact pc_some (sj_mono h (by omega))
  · refine pc_gd (fun _ => ?_)
    refine pc_call (zs_M_gather h (by omega)) (fun r3 u4 h => ?_)
    exact pc_w (zs_S_leftBehind_29 _ h) (fun _ _ h => sj_mono h (by omega))
theorem zs_F_pricesOf_31 {L : Int} {b : Wd} {k4 : Int → Int → Int → Wd → Option (Int × Wd)} {v1 v3 s0 s1 : Int} {w : Wd} (h : SJ L b w) (hk : ∀ {a0 a1 a2 : Int} {w : Wd}, SJ L b w → PC (k4 a0 a1 a2 w) (fun _ u => SJ L b u)) : PC (f_F_pricesOf_31 k4 v1 v3 s0 s1 w) (fun _ u => SJ L b u) := by
  unfold f_F_pricesOf_31
  refine pc_let (fun x3 _ => ?_)
  refine pc_let (fun x4 _ => ?_)
  exact hk h
theorem zs_F_pricesOf_4 {L : Int} {b : Wd} : ∀ (n : Nat) {v1 v2 v3 : Int} {w : Wd}, SJ L b w → PC (f_F_pricesOf_4 n v1 v2 v3 w) (fun _ u => SJ L b u) := by
  intro n
  induction n with
  | zero => intros; exact pc_none
  | succ n ih =>
    intro v1 v2 v3 w h
    rw [f_F_pricesOf_4]
    refine pc_ite (fun _ => ?_) (fun _ => ?_)
    · exact pc_some h
    · refine pc_call (zs_E_has h) (fun r1 u2 h => ?_)
      refine pc_ite (fun _ => ?_) (fun _ => ?_)
      · exact (zs_F_pricesOf_31 h (fun h => ih h))
      · refine pc_gd (fun _ => ?_)
        exact (zs_F_pricesOf_31 h (fun h => ih h))
theorem zs_F_pricesOf {L : Int} {b : Wd} {v1 : Int} {w : Wd} (h : SJ L b w) : PC (f_F_pricesOf v1 w) (fun _ u => SJ L b u) := by
  unfold f_F_pricesOf
  exact (zs_F_pricesOf_4 _ h)
theorem zs_S_paidFor {L : Int} {b : Wd} {v1 : Int} {w : Wd} (h : SJ L b w) : PC (f_S_paidFor v1 w) (fun _ u => SJ L b u) := by
  unfold f_S_paidFor
  refine pc_ite (fun _ => ?_) (fun _ => ?_)
  · exact pc_some h
  · refine pc_ite (fun _ => ?_) (fun _ => ?_)
    · exact pc_some h
    · refine pc_call (zs_F_strangers h) (fun r1 u2 h => ?_)
      refine pc_gd (fun _ => ?_)
      refine pc_call (zs_O_known h) (fun r3 u4 h => ?_)
      refine pc_call (zs_F_pricesOf h) (fun r5 u6 h => ?_)
      exact pc_some h
theorem zs_S_leads {L : Int} {b : Wd} {v1 v2 : Int} {w : Wd} (h : SJ L b w) : PC (f_S_leads v1 v2 w) (fun _ u => SJ L b u) := by
  unfold f_S_leads
  refine pc_call (zs_S_leftOf h) (fun r1 u2 h => ?_)
  refine pc_ite (fun _ => ?_) (fun _ => ?_)
  · exact pc_some h
  · exact pc_some h
theorem zs_E_firstThatLeads_2 {L : Int} {b : Wd} : ∀ (n : Nat) {v1 v2 : Int} {w : Wd}, SJ L b w → PC (f_E_firstThatLeads_2 n v1 v2 w) (fun _ u => SJ L b u) := by
  intro n
  induction n with
  | zero => intros; exact pc_none
  | succ n ih =>
    intro v1 v2 w h
    rw [f_E_firstThatLeads_2]
    refine pc_ite (fun _ => ?_) (fun _ => ?_)
    · exact pc_some h
    · refine pc_call (zs_M_moversOf h) (fun r1 u2 h => ?_)
      refine pc_call (zs_O_after h) (fun r3 u4 h => ?_)
      refine pc_call (zs_S_leads h) (fun r5 u6 h => ?_)
      refine pc_ite (fun _ => ?_) (fun _ => ?_)
      · refine pc_let (fun x7 _ => ?_)
        exact ih h
      · exact pc_some h
theorem zs_E_firstThatLeads {L : Int} {b : Wd} {v1 : Int} {w : Wd} (h : SJ L b w) : PC (f_E_firstThatLeads v1 w) (fun _ u => SJ L b u) := by
  unfold f_E_firstThatLeads
  exact (zs_E_firstThatLeads_2 _ h)
theorem zs_E_tellFirstWeek {L : Int} {b : Wd} {v1 : Int} {w : Wd} (h : SJ L b w) (hL : L + 1 ≤ 2147480000) : PC (f_E_tellFirstWeek v1 w) (fun _ u => SJ (L + 1) b u) := by
  unfold f_E_tellFirstWeek
  refine pc_call (zs_M_gather h (by omega)) (fun r1 u2 h => ?_)
  refine pc_call (zs_E_firstThatLeads h) (fun r3 u4 h => ?_)
  refine pc_ite (fun _ => ?_) (fun _ => ?_)
  · exact pc_some (sj_mono h (by omega))
  · refine pc_call (zs_M_tellPairs h) (fun r5 u6 h => ?_)
    exact pc_some (sj_mono h (by omega))
theorem zs_S_mostGuests_4 {L : Int} {b : Wd} : ∀ (n : Nat) {v1 v2 : Int} {w : Wd}, SJ L b w → PC (f_S_mostGuests_4 n v1 v2 w) (fun _ u => SJ L b u) := by
  intro n
  induction n with
  | zero => intros; exact pc_none
  | succ n ih =>
    intro v1 v2 w h
    rw [f_S_mostGuests_4]
    refine pc_ite (fun _ => ?_) (fun _ => ?_)
    · exact pc_some h
    · refine pc_call (zs_S_guests h) (fun r1 u2 h => ?_)
      refine pc_call (zs_JI_bitCount h) (fun r3 u4 h => ?_)
      refine pc_let (fun x5 _ => ?_)
      refine pc_let (fun x6 _ => ?_)
      exact ih h
theorem zs_S_mostGuests {L : Int} {b : Wd} {w : Wd} (h : SJ L b w) : PC (f_S_mostGuests  w) (fun _ u => SJ L b u) := by
  unfold f_S_mostGuests
  exact (zs_S_mostGuests_4 _ h)
theorem zs_E_states_53 {L : Int} {b : Wd} {k25 : Int → Int → Wd → Option (Int × Wd)} {v2 s0 s1 : Int} {w : Wd} (h : SJ L b w) (hk : ∀ {a0 a1 : Int} {w : Wd}, SJ L b w → PC (k25 a0 a1 w) (fun _ u => SJ L b u)) : PC (f_E_states_53 k25 v2 s0 s1 w) (fun _ u => SJ L b u) := by
  unfold f_E_states_53
  refine pc_let (fun x9 _ => ?_)
  refine pc_let (fun x10 _ => ?_)
  exact hk h
theorem zs_E_states_25 {L : Int} {b : Wd} : ∀ (n : Nat) {v1 v2 : Int} {w : Wd}, SJ L b w → PC (f_E_states_25 n v1 v2 w) (fun _ u => SJ L b u) := by
  intro n
  induction n with
  | zero => intros; exact pc_none
  | succ n ih =>
    intro v1 v2 w h
    rw [f_E_states_25]
    refine pc_ite (fun _ => ?_) (fun _ => ?_)
    · refine pc_call (zs_S_mostGuests h) (fun r3 u4 h => ?_)
      refine pc_call (zs_N_tell2 h) (fun r5 u6 h => ?_)
      exact pc_some h
    · refine pc_call (zs_S_guests h) (fun r7 u8 h => ?_)
      refine pc_ite (fun _ => ?_) (fun _ => ?_)
      · exact (zs_E_states_53 h (fun h => ih h))
      · exact (zs_E_states_53 h (fun h => ih h))
theorem zs_S_weeksOf {L : Int} {b : Wd} {v1 : Int} {w : Wd} (h : SJ L b w) : PC (f_S_weeksOf v1 w) (fun _ u => SJ L b u) := by
  unfold f_S_weeksOf
  refine pc_ite (fun _ => ?_) (fun _ => ?_)
  · exact pc_some h
  · refine pc_ite (fun _ => ?_) (fun _ => ?_)
    · exact pc_some h
    · refine pc_gd (fun _ => ?_)
      exact pc_some h
theorem zs_S_canBe {L : Int} {b : Wd} {v1 v2 : Int} {w : Wd} (h : SJ L b w) : PC (f_S_canBe v1 v2 w) (fun _ u => SJ L b u) := by
  unfold f_S_canBe
  refine pc_call (zs_S_weeksOf h) (fun r1 u2 h => ?_)
  refine pc_ite (fun _ => ?_) (fun _ => ?_)
  · exact pc_some h
  · exact pc_some h
theorem zs_E_most_82 {L : Int} {b : Wd} {k37 : Int → Int → Int → Int → Wd → Option (Int × Wd)} {v1 v2 v3 v4 : Int} {w : Wd} (h : SJ L b w) (hk : ∀ {a0 a1 a2 a3 : Int} {w : Wd}, SJ L b w → PC (k37 a0 a1 a2 a3 w) (fun _ u => SJ L b u)) : PC (f_E_most_82 k37 v1 v2 v3 v4 w) (fun _ u => SJ L b u) := by
  unfold f_E_most_82
  refine pc_let (fun x9 _ => ?_)
  exact hk h
theorem zs_E_most_37 {L : Int} {b : Wd} : ∀ (n : Nat) {v1 v2 v3 v4 : Int} {w : Wd}, SJ L b w → PC (f_E_most_37 n v1 v2 v3 v4 w) (fun _ u => SJ L b u) := by
  intro n
  induction n with
  | zero => intros; exact pc_none
  | succ n ih =>
    intro v1 v2 v3 v4 w h
    rw [f_E_most_37]
    refine pc_ite (fun _ => ?_) (fun _ => ?_)
    · refine pc_call (zs_N_tell1 h) (fun r5 u6 h => ?_)
      exact pc_some h
    · refine pc_call (zs_S_canBe h) (fun r7 u8 h => ?_)
      refine pc_ite (fun _ => ?_) (fun _ => ?_)
      · exact (zs_E_most_82 h (fun h => ih h))
      · refine pc_call (zs_S_guests h) (fun r10 u11 h => ?_)
        refine pc_call (zs_JI_bitCount h) (fun r12 u13 h => ?_)
        refine pc_let (fun x14 _ => ?_)
        refine pc_let (fun x15 _ => ?_)
        exact (zs_E_most_82 h (fun h => ih h))
theorem zs_E_reach_100 {L : Int} {b : Wd} {k39 : Int → Int → Int → Int → Wd → Option (Int × Wd)} {v1 v2 v3 v4 : Int} {w : Wd} (h : SJ L b w) (hk : ∀ {a0 a1 a2 a3 : Int} {w : Wd}, SJ L b w → PC (k39 a0 a1 a2 a3 w) (fun _ u => SJ L b u)) : PC (f_E_reach_100 k39 v1 v2 v3 v4 w) (fun _ u => SJ L b u) := by
  unfold f_E_reach_100
  refine pc_let (fun x9 _ => ?_)
  exact hk h
theorem zs_E_reach_39 {L : Int} {b : Wd} : ∀ (n : Nat) {v1 v2 v3 v4 : Int} {w : Wd}, SJ L b w → PC (f_E_reach_39 n v1 v2 v3 v4 w) (fun _ u => SJ L b u) := by
  intro n
  induction n with
  | zero => intros; exact pc_none
  | succ n ih =>
    intro v1 v2 v3 v4 w h
    rw [f_E_reach_39]
    refine pc_ite (fun _ => ?_) (fun _ => ?_)
    · refine pc_call (zs_N_tell1 h) (fun r5 u6 h => ?_)
      exact pc_some h
    · refine pc_call (zs_S_canBe h) (fun r7 u8 h => ?_)
      refine pc_ite (fun _ => ?_) (fun _ => ?_)
      · exact (zs_E_reach_100 h (fun h => ih h))
      · refine pc_call (zs_S_guests h) (fun r10 u11 h => ?_)
        refine pc_ite (fun _ => ?_) (fun _ => ?_)
        · exact (zs_E_reach_100 h (fun h => ih h))
        · refine pc_call (zs_S_guests h) (fun r12 u13 h => ?_)
          refine pc_let (fun x14 _ => ?_)
          refine pc_call (zs_S_guests h) (fun r15 u16 h => ?_)
          refine pc_let (fun x17 _ => ?_)
          exact (zs_E_reach_100 h (fun h => ih h))
theorem zs_S_fewestGuests_42 {L : Int} {b : Wd} {k4 : Int → Int → Int → Wd → Option (Int × Wd)} {v1 v2 v3 : Int} {w : Wd} (h : SJ L b w) (hk : ∀ {a0 a1 a2 : Int} {w : Wd}, SJ L b w → PC (k4 a0 a1 a2 w) (fun _ u => SJ L b u)) : PC (f_S_fewestGuests_42 k4 v1 v2 v3 w) (fun _ u => SJ L b u) := by
  unfold f_S_fewestGuests_42
  refine pc_let (fun x3 _ => ?_)
  exact hk h
theorem zs_E_less_10 {L : Int} {b : Wd} {v1 : Int} {w : Wd} (h : SJ L b w) : PC (f_E_less_10 v1 w) (fun _ u => SJ L b u) := by
  unfold f_E_less_10
  exact pc_some h
theorem zs_E_less {L : Int} {b : Wd} {v0 v1 : Int} {w : Wd} (h : SJ L b w) : PC (f_E_less v0 v1 w) (fun _ u => SJ L b u) := by
  unfold f_E_less
  refine pc_ite (fun _ => ?_) (fun _ => ?_)
  · exact (zs_E_less_10 h)
  · refine pc_ite (fun _ => ?_) (fun _ => ?_)
    · exact pc_some h
    · exact (zs_E_less_10 h)
theorem zs_S_fewestGuests_4 {L : Int} {b : Wd} : ∀ (n : Nat) {v1 v2 v3 : Int} {w : Wd}, SJ L b w → PC (f_S_fewestGuests_4 n v1 v2 v3 w) (fun _ u => SJ L b u) := by
  intro n
  induction n with
  | zero => intros; exact pc_none
  | succ n ih =>
    intro v1 v2 v3 w h
    rw [f_S_fewestGuests_4]
    refine pc_ite (fun _ => ?_) (fun _ => ?_)
    · exact pc_some h
    · refine pc_call (zs_S_canBe h) (fun r1 u2 h => ?_)
      refine pc_ite (fun _ => ?_) (fun _ => ?_)
      · exact (zs_S_fewestGuests_42 h (fun h => ih h))
      · refine pc_call (zs_S_guests h) (fun r4 u5 h => ?_)
        refine pc_ite (fun _ => ?_) (fun _ => ?_)
        · exact (zs_S_fewestGuests_42 h (fun h => ih h))
        · refine pc_call (zs_S_guests h) (fun r6 u7 h => ?_)
          refine pc_call (zs_JI_bitCount h) (fun r8 u9 h => ?_)
          refine pc_call (zs_E_less h) (fun r10 u11 h => ?_)
          exact (zs_S_fewestGuests_42 h (fun h => ih h))
theorem zs_S_fewestGuests {L : Int} {b : Wd} {v1 : Int} {w : Wd} (h : SJ L b w) : PC (f_S_fewestGuests v1 w) (fun _ u => SJ L b u) := by
  unfold f_S_fewestGuests
  exact (zs_S_fewestGuests_4 _ h)
theorem zs_E_firstWeek_2 {L : Int} {b : Wd} : ∀ (n : Nat) {v0 v2 : Int} {w : Wd}, SJ L b w → PC (f_E_firstWeek_2 n v0 v2 w) (fun _ u => SJ L b u) := by
  intro n
  induction n with
  | zero => intros; exact pc_none
  | succ n ih =>
    intro v0 v2 w h
    rw [f_E_firstWeek_2]
    refine pc_ite (fun _ => ?_) (fun _ => ?_)
    · exact pc_some h
    · refine pc_ite (fun _ => ?_) (fun _ => ?_)
      · refine pc_let (fun x1 _ => ?_)
        exact ih h
      · exact pc_some h
theorem zs_E_firstWeek {L : Int} {b : Wd} {v0 : Int} {w : Wd} (h : SJ L b w) : PC (f_E_firstWeek v0 w) (fun _ u => SJ L b u) := by
  unfold f_E_firstWeek
  exact (zs_E_firstWeek_2 _ h)
theorem zs_E_crowd_154 {L : Int} {b : Wd} {k92 : Int → Int → Int → Int → Wd → Option (Int × Wd)} {v1 v4 v5 v6 : Int} {w : Wd} (h : SJ L b w) (hk : ∀ {a0 a1 a2 a3 : Int} {w : Wd}, SJ L b w → PC (k92 a0 a1 a2 a3 w) (fun _ u => SJ L b u)) : PC (f_E_crowd_154 k92 v1 v4 v5 v6 w) (fun _ u => SJ L b u) := by
  unfold f_E_crowd_154
  refine pc_let (fun x13 _ => ?_)
  exact hk h
theorem zs_E_crowd_92 {L : Int} {b : Wd} : ∀ (n : Nat) {v1 v4 v5 v6 : Int} {w : Wd}, SJ L b w → PC (f_E_crowd_92 n v1 v4 v5 v6 w) (fun _ u => SJ L b u) := by
  intro n
  induction n with
  | zero => intros; exact pc_none
  | succ n ih =>
    intro v1 v4 v5 v6 w h
    rw [f_E_crowd_92]
    refine pc_ite (fun _ => ?_) (fun _ => ?_)
    · refine pc_call (zs_N_tell2 h) (fun r7 u8 h => ?_)
      exact pc_some h
    · refine pc_call (zs_S_guests h) (fun r9 u10 h => ?_)
      refine pc_call (zs_JI_bitCount h) (fun r11 u12 h => ?_)
      refine pc_ite (fun _ => ?_) (fun _ => ?_)
      · refine pc_call (zs_S_canBe h) (fun r14 u15 h => ?_)
        refine pc_ite (fun _ => ?_) (fun _ => ?_)
        · exact (zs_E_crowd_154 h (fun h => ih h))
        · refine pc_call (zs_S_paidFor h) (fun r16 u17 h => ?_)
          refine pc_call (zs_E_less h) (fun r18 u19 h => ?_)
          exact (zs_E_crowd_154 h (fun h => ih h))
      · exact (zs_E_crowd_154 h (fun h => ih h))
theorem zs_E_crowd_74 {L : Int} {b : Wd} {k34 : Int → Int → Int → Wd → Option (Int × Wd)} {v1 v2 v4 : Int} {w : Wd} (h : SJ L b w) (hk : ∀ {a0 a1 a2 : Int} {w : Wd}, SJ L b w → PC (k34 a0 a1 a2 w) (fun _ u => SJ L b u)) : PC (f_E_crowd_74 k34 v1 v2 v4 w) (fun _ u => SJ L b u) := by
  unfold f_E_crowd_74
  refine pc_let (fun x24 _ => ?_)
  exact hk h
theorem zs_E_crowd_34 {L : Int} {b : Wd} : ∀ (n : Nat) {v1 v2 v4 : Int} {w : Wd}, SJ L b w → PC (f_E_crowd_34 n v1 v2 v4 w) (fun _ u => SJ L b u) := by
  intro n
  induction n with
  | zero => intros; exact pc_none
  | succ n ih =>
    intro v1 v2 v4 w h
    rw [f_E_crowd_34]
    refine pc_ite (fun _ => ?_) (fun _ => ?_)
    · refine pc_call (zs_E_firstWeek h) (fun r5 u6 h => ?_)
      exact (zs_E_crowd_92 _ h)
    · refine pc_call (zs_S_guests h) (fun r20 u21 h => ?_)
      refine pc_call (zs_JI_bitCount h) (fun r22 u23 h => ?_)
      refine pc_ite (fun _ => ?_) (fun _ => ?_)
      · refine pc_call (zs_S_weeksOf h) (fun r25 u26 h => ?_)
        refine pc_let (fun x27 _ => ?_)
        exact (zs_E_crowd_74 h (fun h => ih h))
      · exact (zs_E_crowd_74 h (fun h => ih h))
theorem zs_S_leastPaid_61 {L : Int} {b : Wd} {k6 : Int → Int → Int → Int → Wd → Option (Int × Wd)} {v1 v2 v4 v5 : Int} {w : Wd} (h : SJ L b w) (hk : ∀ {a0 a1 a2 a3 : Int} {w : Wd}, SJ L b w → PC (k6 a0 a1 a2 a3 w) (fun _ u => SJ L b u)) : PC (f_S_leastPaid_61 k6 v1 v2 v4 v5 w) (fun _ u => SJ L b u) := by
  unfold f_S_leastPaid_61
  refine pc_let (fun x3 _ => ?_)
  exact hk h
theorem zs_S_leastPaid_6 {L : Int} {b : Wd} : ∀ (n : Nat) {v1 v2 v4 v5 : Int} {w : Wd}, SJ L b w → PC (f_S_leastPaid_6 n v1 v2 v4 v5 w) (fun _ u => SJ L b u) := by
  intro n
  induction n with
  | zero => intros; exact pc_none
  | succ n ih =>
    intro v1 v2 v4 v5 w h
    rw [f_S_leastPaid_6]
    refine pc_ite (fun _ => ?_) (fun _ => ?_)
    · exact pc_some h
    · refine pc_call (zs_S_canBe h) (fun r1 u2 h => ?_)
      refine pc_ite (fun _ => ?_) (fun _ => ?_)
      · exact (zs_S_leastPaid_61 h (fun h => ih h))
      · refine pc_call (zs_S_guests h) (fun r4 u5 h => ?_)
        refine pc_ite (fun _ => ?_) (fun _ => ?_)
        · exact (zs_S_leastPaid_61 h (fun h => ih h))
        · refine pc_call (zs_S_guests h) (fun r6 u7 h => ?_)
          refine pc_ite (fun _ => ?_) (fun _ => ?_)
          · refine pc_call (zs_S_paidFor h) (fun r8 u9 h => ?_)
            refine pc_call (zs_E_less h) (fun r10 u11 h => ?_)
            exact (zs_S_leastPaid_61 h (fun h => ih h))
          · exact (zs_S_leastPaid_61 h (fun h => ih h))
theorem zs_S_leastPaid {L : Int} {b : Wd} {v1 v2 : Int} {w : Wd} (h : SJ L b w) : PC (f_S_leastPaid v1 v2 w) (fun _ u => SJ L b u) := by
  unfold f_S_leastPaid
  exact (zs_S_leastPaid_6 _ h)
theorem zs_S_weeksWith_61 {L : Int} {b : Wd} {k5 : Int → Int → Int → Int → Wd → Option (Int × Wd)} {v1 v2 v3 v5 : Int} {w : Wd} (h : SJ L b w) (hk : ∀ {a0 a1 a2 a3 : Int} {w : Wd}, SJ L b w → PC (k5 a0 a1 a2 a3 w) (fun _ u => SJ L b u)) : PC (f_S_weeksWith_61 k5 v1 v2 v3 v5 w) (fun _ u => SJ L b u) := by
  unfold f_S_weeksWith_61
  refine pc_let (fun x3 _ => ?_)
  exact hk h
theorem zs_S_weeksWith_5 {L : Int} {b : Wd} : ∀ (n : Nat) {v1 v2 v3 v5 : Int} {w : Wd}, SJ L b w → PC (f_S_weeksWith_5 n v1 v2 v3 v5 w) (fun _ u => SJ L b u) := by
  intro n
  induction n with
  | zero => intros; exact pc_none
  | succ n ih =>
    intro v1 v2 v3 v5 w h
    rw [f_S_weeksWith_5]
    refine pc_ite (fun _ => ?_) (fun _ => ?_)
    · exact pc_some h
    · refine pc_call (zs_S_guests h) (fun r1 u2 h => ?_)
      refine pc_ite (fun _ => ?_) (fun _ => ?_)
      · exact (zs_S_weeksWith_61 h (fun h => ih h))
      · refine pc_call (zs_S_guests h) (fun r4 u5 h => ?_)
        refine pc_ite (fun _ => ?_) (fun _ => ?_)
        · refine pc_gd (fun _ => ?_)
          refine pc_call (zs_O_known h) (fun r6 u7 h => ?_)
          refine pc_ite (fun _ => ?_) (fun _ => ?_)
          · refine pc_gd (fun _ => ?_)
            refine pc_let (fun x8 _ => ?_)
            exact (zs_S_weeksWith_61 h (fun h => ih h))
          · exact (zs_S_weeksWith_61 h (fun h => ih h))
        · exact (zs_S_weeksWith_61 h (fun h => ih h))
theorem zs_S_weeksWith {L : Int} {b : Wd} {v1 v2 : Int} {w : Wd} (h : SJ L b w) : PC (f_S_weeksWith v1 v2 w) (fun _ u => SJ L b u) := by
  unfold f_S_weeksWith
  exact (zs_S_weeksWith_5 _ h)
theorem zs_S_lastWeek_11 {L : Int} {b : Wd} : ∀ (n : Nat) {v3 v5 : Int} {w : Wd}, SJ L b w → PC (f_S_lastWeek_11 n v3 v5 w) (fun _ u => SJ L b u) := by
  intro n
  induction n with
  | zero => intros; exact pc_none
  | succ n ih =>
    intro v3 v5 w h
    rw [f_S_lastWeek_11]
    refine pc_ite (fun _ => ?_) (fun _ => ?_)
    · exact pc_some h
    · refine pc_ite (fun _ => ?_) (fun _ => ?_)
      · refine pc_let (fun x3 _ => ?_)
        exact ih h
      · exact pc_some h
theorem zs_S_lastWeek {L : Int} {b : Wd} {v1 v2 : Int} {w : Wd} (h : SJ L b w) : PC (f_S_lastWeek v1 v2 w) (fun _ u => SJ L b u) := by
  unfold f_S_lastWeek
  refine pc_call (zs_S_weeksWith h) (fun r1 u2 h => ?_)
  exact (zs_S_lastWeek_11 _ h)
theorem zs_E_stays_95 {L : Int} {b : Wd} {v2 v3 : Int} {w : Wd} (h : SJ L b w) : PC (f_E_stays_95 v2 v3 w) (fun _ u => SJ L b u) := by
  unfold f_E_stays_95
  refine pc_call (zs_N_tell1 h) (fun r11 u12 h => ?_)
  exact pc_some h
theorem zs_E_needed_89 {L : Int} {b : Wd} {k43 : Int → Int → Int → Wd → Option (Int × Wd)} {v1 v2 v3 : Int} {w : Wd} (h : SJ L b w) (hk : ∀ {a0 a1 a2 : Int} {w : Wd}, SJ L b w → PC (k43 a0 a1 a2 w) (fun _ u => SJ L b u)) : PC (f_E_needed_89 k43 v1 v2 v3 w) (fun _ u => SJ L b u) := by
  unfold f_E_needed_89
  refine pc_let (fun x9 _ => ?_)
  exact hk h
theorem zs_E_needed_43 {L : Int} {b : Wd} : ∀ (n : Nat) {v1 v2 v3 : Int} {w : Wd}, SJ L b w → PC (f_E_needed_43 n v1 v2 v3 w) (fun _ u => SJ L b u) := by
  intro n
  induction n with
  | zero => intros; exact pc_none
  | succ n ih =>
    intro v1 v2 v3 w h
    rw [f_E_needed_43]
    refine pc_ite (fun _ => ?_) (fun _ => ?_)
    · exact pc_some h
    · refine pc_call (zs_F_free h) (fun r5 u6 h => ?_)
      refine pc_call (zs_E_has h) (fun r7 u8 h => ?_)
      refine pc_ite (fun _ => ?_) (fun _ => ?_)
      · exact (zs_E_needed_89 h (fun h => ih h))
      · refine pc_call (zs_S_lastWeek h) (fun r10 u11 h => ?_)
        refine pc_ite (fun _ => ?_) (fun _ => ?_)
        · exact (zs_E_needed_89 h (fun h => ih h))
        · refine pc_let (fun x12 _ => ?_)
          exact (zs_E_needed_89 h (fun h => ih h))
theorem zs_E_never_25 {L : Int} {b : Wd} : ∀ (n : Nat) {v1 v2 : Int} {w : Wd}, SJ L b w → PC (f_E_never_25 n v1 v2 w) (fun _ u => SJ L b u) := by
  intro n
  induction n with
  | zero => intros; exact pc_none
  | succ n ih =>
    intro v1 v2 w h
    rw [f_E_never_25]
    refine pc_ite (fun _ => ?_) (fun _ => ?_)
    · refine pc_call (zs_F_strangers h) (fun r3 u4 h => ?_)
      exact pc_some h
    · refine pc_call (zs_S_guests h) (fun r5 u6 h => ?_)
      refine pc_let (fun x7 _ => ?_)
      refine pc_let (fun x8 _ => ?_)
      exact ih h
theorem zs_S_lookBack_79 {L T : Int} {b : Wd} {k8 : Int → Int → Int → Wd → Option (Int × Wd)} {v3 v4 v5 v6 s0 : Int} {w : Wd} (h : SJ L b w) (hL : L + 1 ≤ 2147480000) (hk : ∀ {w : Wd}, SJ (L + 1) b w → PC (k8 v3 v4 (w32 (v5 + (-1))) w) (fun _ u => SJ T b u)) : PC (f_S_lookBack_79 k8 v3 v4 v5 v6 s0 w) (fun _ u => SJ T b u) := by
  unfold f_S_lookBack_79
  refine pc_call (zs_S_leftBehind h hL) (fun r5 u6 h => ?_)
  refine pc_gd (fun _ => pc_lw (fun u7 e => pc_let (fun x8 e8 => ?_)))
  rw [e8]
  exact hk (sj_st h e (by decide))
theorem zs_S_lookBack_49 {L T : Int} {b : Wd} {k8 : Int → Int → Int → Wd → Option (Int × Wd)} {v3 v4 v5 v6 s0 : Int} {w : Wd} (h : SJ L b w) (hL : L + 1 ≤ 2147480000) (hk : ∀ {w : Wd}, SJ (L + 1) b w → PC (k8 v3 v4 (w32 (v5 + (-1))) w) (fun _ u => SJ T b u)) : PC (f_S_lookBack_49 k8 v3 v4 v5 v6 s0 w) (fun _ u => SJ T b u) := by
  unfold f_S_lookBack_49 f_S_lookBack_78 f_S_lookBack_74
  refine pc_ite (fun _ => zs_S_lookBack_79 h hL hk) (fun _ => pc_ite (fun _ => zs_S_lookBack_79 h hL hk) (fun _ => pc_call (zs_S_paidFor h) (fun r9 u10 h => pc_ite (fun _ => zs_S_lookBack_79 h hL hk) (fun _ => zs_S_lookBack_79 h hL hk))))
theorem zs_S_lookBack_8 {T : Int} {b : Wd} (hT : T ≤ 2147480000) : ∀ (n : Nat) {v3 v4 v5 L : Int} {w : Wd}, SJ L b w → L ≤ T → (v5 < 3000 → L + (v5 + 1) ≤ T) → PC (f_S_lookBack_8 n v3 v4 v5 w) (fun _ u => SJ T b u) := by
  intro n
  induction n with
  | zero => intros; exact pc_none
  | succ n ih =>
    intro v3 v4 v5 L w h h1 h2
    rw [f_S_lookBack_8]
    refine pc_ite (fun _ => pc_some (sj_mono h h1)) (fun c => pc_gd (fun g => pc_let (fun x2 _ => ?_)))
    have z := w32_sp (v5 + (-1))
    have hk : ∀ {w : Wd}, SJ (L + 1) b w → PC (f_S_lookBack_8 n v3 v4 (w32 (v5 + (-1))) w) (fun _ u => SJ T b u) := fun h => ih h (by omega) (by omega)
    refine pc_call (zs_S_guests h) (fun r3 u4 h => ?_)
    unfold f_S_lookBack_48
    refine pc_ite (fun _ => zs_S_lookBack_49 h (by omega) hk) (fun _ => pc_call (zs_S_guests h) (fun r11 u12 h => pc_ite (fun _ => zs_S_lookBack_49 h (by omega) hk) (fun _ => zs_S_lookBack_49 h (by omega) hk)))
theorem zs_S_lookBack {L : Int} {b : Wd} {v3 v4 : Int} {w : Wd} (h : SJ L b w) (hL : L + 3000 ≤ 2147480000) : PC (f_S_lookBack v3 v4 w) (fun _ u => SJ (L + 3000) b u) := by
  unfold f_S_lookBack
  exact pc_let (fun x1 _ => zs_S_lookBack_8 hL FU h (by omega) (fun _ => by omega))
theorem zs_E_firstToBring_41 {T : Int} {b : Wd} (hT : T ≤ 2147480000) (h53 : b 5 3 ≤ 10) : ∀ (n : Nat) {v1 v2 v3 v4 L : Int} {w : Wd}, SJ L b w → L ≤ T → 0 ≤ v4 → v4 ≤ 10 → L + (10 - v4) ≤ T → PC (f_E_firstToBring_41 n v1 v2 v3 v4 w) (fun _ u => SJ T b u) := by
  intro n
  induction n with
  | zero => intros; exact pc_none
  | succ n ih =>
    intro v1 v2 v3 v4 L w h h1 h0 h10 h2
    rw [f_E_firstToBring_41]
    refine pc_ite (fun _ => pc_some (sj_mono h h1)) (fun c => ?_)
    rw [h.1.1] at c
    have z := w32_sp (v4 + 1)
    refine pc_call (zs_F_knownBy h) (fun r8 u9 h => pc_call (zs_F_free h) (fun r10 u11 h => pc_call (zs_E_has h) (fun r12 u13 h => ?_)))
    unfold f_E_firstToBring_111
    refine pc_ite (fun _ => pc_let (fun x14 e => ?_)) (fun _ => ?_)
    · exact ih h h1 (by omega) (by omega) (by omega)
    · refine pc_call (zs_M_gatherBehind h (by omega)) (fun r15 u16 h => pc_call (zs_E_firstThatLeads h) (fun r17 u18 h => ?_))
      refine pc_ite (fun _ => pc_let (fun x14 e => ?_)) (fun _ => pc_some (sj_mono h (by omega)))
      exact ih h (by omega) (by omega) (by omega) (by omega)
theorem zs_E_firstToBring {L : Int} {b : Wd} {v1 v2 : Int} {w : Wd} (h : SJ L b w) (hL : L + 11 ≤ 2147480000) (h53 : b 5 3 ≤ 10) : PC (f_E_firstToBring v1 v2 w) (fun _ u => SJ (L + 11) b u) := by
  unfold f_E_firstToBring
  refine pc_call (zs_F_guests h) (fun r1 u2 h => pc_let (fun x3 _ => ?_))
  refine pc_call (zs_M_gatherBehind h (by omega)) (fun r4 u5 h => pc_call (zs_E_firstThatLeads h) (fun r6 u7 h => ?_))
  exact pc_ite (fun _ => zs_E_firstToBring_41 hL h53 FU h (by omega) (by omega) (by omega) (by omega)) (fun _ => pc_some (sj_mono h (by omega)))
/-! WHAT IS KEPT OF A SEARCH: every method of the class -/
theorem sj_scr {n m L : Int} {w u : Wd} (hs : SCR n w) (h : SJ L w u) (hL : L ≤ 2000 * m) : SCR m u := by
  obtain ⟨⟨z5, z7, z28, z29, z30, z31, z35⟩, zr, zl⟩ := h
  refine ⟨⟨zr, by omega⟩, fun hf => ?_⟩
  rw [z28] at hf
  rw [z5, z7]
  exact kpt_eq (hs.2 hf) (fun k _ => by rw [z28]) z29 z30 z31 z35
theorem sj_0 {n : Int} {w : Wd} (hs : SCR n w) : SJ (w 24 4) w w := ⟨⟨rfl, rfl, rfl, rfl, rfl, rfl, rfl⟩, hs.1.1, Int.le_refl _⟩
theorem zrun {n : Int} {a w : Wd} {K : Int → Wd → Option (Int × Wd)} (he : ER a w) (hs : SCR n w) (hn : n ≤ 2600) (hK : ∀ r u, SJ (w 24 4 + 3000) u u → u 5 3 ≤ 10 → PC (K r u) (fun _ v => SJ (w 24 4 + 7000) u v)) : PC (jcall (f_S_run w) K) (fun _ v => SCR (n + 5) v) := by
  have hp := er_prm he
  refine pc_call (crun hp hs hn hs.2) (fun r u q => ?_)
  have hr := q.1
  have s := run_scr hs hr
  have h5 : u 5 = w 5 := hr.1 5 (by decide) (by decide) (by decide) (by decide) (by decide) (by decide) (by decide) (by decide) (by decide) (by decide) (by decide)
  refine pc_w (hK r u ⟨⟨rfl, rfl, rfl, rfl, rfl, rfl, rfl⟩, hr.2.1⟩ (by rw [h5]; exact hp.1.2)) (fun _ v z => sj_scr s z (by have := hs.1.2; omega))
theorem g_out {S : List Nat} {b u : Wd} (h : G S b u) (cs : List Nat) (hS : S.all (fun x => !cs.contains (x / 100)) = true) : ∀ c, cs.contains c = true → u c = b c := by
  intro c hc
  funext k
  refine h.2.1 c k (mS_ar ?_ k)
  rw [List.all_eq_true]
  intro x hx
  have h1 := List.all_eq_true.mp hS x hx
  rw [Bool.or_eq_true, Nat.blt_eq, Nat.blt_eq]
  by_cases e : x / 100 = c
  · rw [e, hc] at h1; cases h1
  · omega
/-- the method touches nothing of it -/
theorem scr_g {n : Int} {S : List Nat} {w u : Wd} (hs : SCR n w) (hG : G S w u) (hS : S.all (fun x => !([5, 7, 24, 27, 28, 29, 30, 31, 35] : List Nat).contains (x / 100)) = true) : SCR n u := by
  have f := g_out hG _ hS
  exact scr_fr hs (f 5 rfl) (f 7 rfl) (f 24 rfl) (f 27 rfl) (f 28 rfl) (f 29 rfl) (f 30 rfl) (f 31 rfl) (f 35 rfl)
/-- forgotten, or nothing touched -/
def FGT (b w : Wd) : Prop := w 28 9 = 0 ∨ (w 5 = b 5 ∧ w 7 = b 7 ∧ w 28 = b 28)
theorem fgt_self (w : Wd) : FGT w w := Or.inr ⟨rfl, rfl, rfl⟩
theorem fgt_g {S : List Nat} {b w u : Wd} (h : FGT b w) (hG : G S w u) (hS : S.all (fun x => !([5, 7, 28] : List Nat).contains (x / 100)) = true) : FGT b u := by
  have f := g_out hG _ hS
  unfold FGT
  rw [f 5 rfl, f 7 rfl, f 28 rfl]
  exact h
theorem fgt_scr {n : Int} {S : List Nat} {w u : Wd} (hs : SCR n w) (h : FGT w u) (hG : G S w u) (hS : S.all (fun x => !([24, 27, 29, 30, 31, 35] : List Nat).contains (x / 100)) = true) : SCR n u := by
  have f := g_out hG _ hS
  rcases h with e | ⟨e5, e7, e28⟩
  · exact scr_no hs (f 24 rfl) (f 27 rfl) e
  · exact scr_fr hs e5 e7 (f 24 rfl) (f 27 rfl) e28 (f 29 rfl) (f 30 rfl) (f 31 rfl) (f 35 rfl)
theorem fgn (w : Wd) : PC (f_S_forget w) (fun _ u => u 28 9 = 0) := pc_lw (fun y e => pc_some (by rw [e, st_eq]))
theorem pcN (o : Option (Int × Wd)) : PC o (fun _ _ => True) := fun _ _ _ => trivial
theorem fgn_pc {b w : Wd} {r : Wd → Int} : PC (jcall (f_S_forget w) fun _ u => some (r u, u)) (fun _ u => FGT b u) := pc_call (fgn w) (fun _ _ h => pc_some (Or.inl h))
theorem pcm_no (w : Wd) : PC (f_E_peopleCame w) (fun _ u => u 28 9 = 0) := by
  unfold f_E_peopleCame
  exact pc_call (pcN _) (fun _ _ _ => pc_call (pcN _) (fun _ _ _ => pc_lw (fun _ _ => pc_call (fgn _) (fun _ _ h => pc_some h))))
theorem ps15_no : ∀ (n : Nat) {v1 v2 : Int} {w : Wd}, PC (f_E_pass_15 n v1 v2 w) (fun _ u => u 28 9 = 0) := by
  intro n
  induction n with
  | zero => intros; exact pc_none
  | succ n ih =>
    intro v1 v2 w
    rw [f_E_pass_15]
    refine pc_ite (fun _ => pc_lw (fun _ _ => pc_call (pcN _) (fun _ _ _ => pc_lw (fun _ _ => pc_lw (fun _ _ => pc_call (pcN _) (fun _ _ _ => pc_call (pcN _) (fun _ _ _ => pc_call (fgn _) (fun _ _ h => pc_some h)))))))) (fun _ => pc_call (pcN _) (fun _ _ _ => pc_call (pcN _) (fun _ _ _ => pc_call (pcN _) (fun _ _ _ => pc_let (fun _ _ => pc_let (fun _ _ => ih))))))
theorem ps_no (w : Wd) : PC (f_E_pass w) (fun _ u => u 28 9 = 0) := by
  unfold f_E_pass
  exact pc_call (pcN _) (fun _ _ _ => ps15_no FU)
theorem fg_land {w : Wd} (hG : G [] w w) : PC (f_E_land w) (fun _ u => FGT w u) := by
  unfold f_E_land
  have r5 : 0 ≤ w 5 3 ∧ w 5 3 ≤ 10 := hG.1 5 3
  refine pc_call (pc_ok (s_L_read (g_self hG) r5)) (fun r1 u2 q => ?_)
  refine pc_call (pc_ok (s_T_clear (g_self q.2))) (fun r3 u4 q2 => ?_)
  refine pc_ite (fun _ => pc_some (fgt_g (fgt_g (fgt_self w) q.2 rfl) q2.2.1 rfl)) (fun _ => pc_call (pcN _) (fun _ _ _ => pc_call (pcm_no _) (fun _ _ h => pc_some (Or.inl h))))
theorem fg_law {w : Wd} {v1 v2 : Int} : PC (f_E_law v1 v2 w) (fun _ u => FGT w u) := by
  unfold f_E_law f_E_law_25 f_E_law_51 f_E_law_75
  refine pc_ite (fun _ => pc_some (fgt_self w)) (fun _ => pc_ite (fun _ => pc_some (fgt_self w)) (fun _ => pc_ite (fun _ => pc_some (fgt_self w)) (fun _ => pc_ite (fun _ => ?_) (fun _ => ?_)))) <;> refine pc_ite (fun _ => pc_ite (fun _ => ?_) (fun _ => ?_)) (fun _ => pc_some (fgt_self w)) <;> exact pc_ite (fun _ => pc_lw (fun _ _ => fgn_pc)) (fun _ => pc_lw (fun _ _ => fgn_pc))
theorem fg_meet {w : Wd} {v1 v2 v3 : Int} : PC (f_E_meet v1 v2 v3 w) (fun _ u => FGT w u) := by
  unfold f_E_meet
  refine pc_call (zq_E_areTwo rfl) (fun r1 u2 e => ?_)
  refine pc_ite (fun _ => pc_some (by rw [e]; exact fgt_self w)) (fun _ => pc_gd (fun _ => pc_call (pcN _) (fun _ _ _ => pc_gd (fun _ => pc_lw (fun _ _ => pc_gd (fun _ => pc_call (pcN _) (fun _ _ _ => pc_gd (fun _ => pc_lw (fun _ _ => fgn_pc)))))))))
theorem fg_hide {w : Wd} {v1 v2 : Int} : PC (f_E_hide v1 v2 w) (fun _ u => FGT w u) := by
  unfold f_E_hide
  refine pc_call (zq_F_isThere rfl) (fun r1 u2 e => ?_)
  refine pc_ite (fun _ => pc_some (by rw [e]; exact fgt_self w)) (fun _ => pc_call (pcN _) (fun _ _ _ => pc_lw (fun _ _ => fgn_pc)))
theorem fg_baby {w : Wd} {v1 : Int} : PC (f_E_baby v1 w) (fun _ u => FGT w u) := by
  unfold f_E_baby
  refine pc_ite (fun _ => pc_some (fgt_self w)) (fun _ => ?_)
  refine pc_call (zq_F_everybody rfl) (fun r1 u2 e => ?_)
  refine pc_ite (fun _ => pc_call (pcN _) (fun _ _ _ => pc_call (pcm_no _) (fun _ _ h => pc_some (Or.inl h)))) (fun _ => pc_some (by rw [e]; exact fgt_self w))
theorem fg_week {w : Wd} (hG : G [] w w) : PC (f_E_week w) (fun _ u => FGT w u) := by
  unfold f_E_week f_E_week_100
  refine pc_call (pc_ok (s_P_read (g_self hG))) (fun r1 u2 q => ?_)
  refine pc_call (pc_ok (s_T_clear (g_self q.2))) (fun r3 u4 q2 => ?_)
  have f4 := fgt_g (fgt_g (fgt_self w) q.2 rfl) q2.2.1 rfl
  refine pc_ite (fun _ => pc_ite (fun _ => ?_) (fun _ => pc_some f4)) (fun _ => pc_some f4)
  refine pc_call (pc_ok (s_P_firstWrongPair (g_self q2.2.1))) (fun r5 u6 q3 => ?_)
  have f6 := fgt_g f4 q3.2 rfl
  refine pc_ite (fun _ => pc_ite (fun _ => pc_call (ps_no _) (fun _ _ h => pc_some (Or.inl h))) (fun _ => ?_)) (fun _ => pc_some f6)
  refine pc_call (pc_ok (s_F_guestsAfter (g_self q3.2) (show -2147483648 ≤ u6 12 3 ∧ u6 12 3 ≤ 2147483647 from q3.2.1 12 3))) (fun r9 u10 q4 => ?_)
  exact pc_ite (fun _ => pc_call (ps_no _) (fun _ _ h => pc_some (Or.inl h))) (fun _ => pc_some (fgt_g f6 q4.2 rfl))
theorem fg_g75 {b w : Wd} {v2 v3 : Int} (hG : G [] w w) (h : FGT b w) (iv : -2147483648 ≤ v3 ∧ v3 ≤ 2147483647) : PC (f_E_goes_75 v2 v3 w) (fun _ u => FGT b u) := by
  unfold f_E_goes_75
  refine pc_call (pc_ok (s_F_guests (g_self hG))) (fun r u q => ?_)
  refine pc_call (pc_ok (s_N_tell2 (g_self q.2) (by have := q.1; omega) iv)) (fun r u q2 => pc_some ?_)
  exact fgt_g (fgt_g h q.2 rfl) q2.2 rfl
theorem fg_g13 {b : Wd} {v1 : Int} : ∀ (n : Nat) {v2 v3 : Int} {w : Wd}, G [] w w → FGT b w → (-2147483648 ≤ v3 ∧ v3 ≤ 2147483647) → PC (f_E_goes_13 n v1 v2 v3 w) (fun _ u => FGT b u) := by
  intro n
  induction n with
  | zero => intros; exact pc_none
  | succ n ih =>
    intro v2 v3 w hG h iv
    rw [f_E_goes_13]
    refine pc_ite (fun _ => fg_g75 hG h iv) (fun _ => pc_ite (fun _ => fg_g75 hG h iv) (fun c => ?_))
    have r15 : 0 ≤ w 15 3 ∧ w 15 3 ≤ 60 := hG.1 15 3
    refine pc_call (pc_ok (s_F_guests (g_self hG))) (fun r7 u8 q => ?_)
    have e8 : u8 15 = w 15 := g_out q.2 [15] rfl 15 rfl
    refine pc_ite (fun _ => fg_g75 (g_self q.2) (fgt_g h q.2 rfl) iv) (fun _ => ?_)
    refine pc_call (pc_ok (s_P_follow (g_self q.2) (by rw [e8]; omega))) (fun r9 u10 q2 => ?_)
    have e10 : u10 15 = u8 15 := g_out q2.2 [15] rfl 15 rfl
    refine pc_call (fun r u e => And.intro (pc_ok (s_E_pass (g_self q2.2) (by rw [e10, e8]; omega)) r u e) (ps_no _ r u e)) (fun r11 u12 q3 => ?_)
    refine pc_let (fun x13 e13 => pc_let (fun x14 _ => ?_))
    have z := w32_sp (v3 + r11)
    exact ih (g_self q3.1.2) (Or.inl q3.2) (by omega)
theorem fg_goes {w : Wd} {v1 : Int} (hG : G [] w w) : PC (f_E_goes v1 w) (fun _ u => FGT w u) := by
  unfold f_E_goes
  refine pc_call (zq_E_isWeek rfl) (fun r1 u2 e => ?_)
  rw [e]
  exact pc_ite (fun _ => pc_some (fgt_self w)) (fun _ => fg_g13 FU hG (fgt_self w) (by decide))
theorem fg_undo {w : Wd} (hG : G [] w w) : PC (f_E_undo w) (fun _ u => FGT w u) := by
  unfold f_E_undo f_D_goBack
  have r70 : ∀ (n : Nat) {v2 : Int} {w : Wd}, PC (f_D_goBack_70 n v2 w) (fun r _ => r = 1) := by
    intro n
    induction n with
    | zero => intros; exact pc_none
    | succ n ih =>
      intro v2 w
      rw [f_D_goBack_70]
      unfold f_D_goBack_96
      exact pc_ite (fun _ => pc_some rfl) (fun _ => pc_call (pcN _) (fun _ _ _ => pc_call (pcN _) (fun _ _ _ => pc_ite (fun _ => pc_let (fun _ _ => ih)) (fun _ => pc_gd (fun _ => pc_lw (fun _ _ => pc_let (fun _ _ => ih)))))))
  have g : PC (if (w 15 4) = 0 then some ((0 : Int), w) else jcall (f_D_isOne (w32 ((w 15 3) - 1)) w) fun r1 u2 => if r1 = 0 then some (0, u2) else jlw (st u2 15 4 (w32 ((u2 15 4) - 1))) fun u3 => jlw (st u3 15 3 (w32 ((u3 15 3) - 1))) fun u4 => jgd ((0 : Int) ≤ (u4 15 3) ∧ (u4 15 3) < 61) <| jlw (st u4 5 4 (u4 17 (u4 15 3).toNat)) fun u5 => jgd ((0 : Int) ≤ (u5 15 3) ∧ (u5 15 3) < 61) <| jlw (st u5 5 6 (u5 18 (u5 15 3).toNat)) fun u6 => f_D_goBack_70 FU 0 u6) (fun r u => (r = 0 → u = w)) := by
    refine pc_ite (fun _ => pc_some (fun _ => rfl)) (fun _ => pc_call (P := fun _ u => u = w) ?_ (fun r1 u2 e => pc_ite (fun _ => pc_some (fun _ => e)) (fun _ => pc_lw (fun _ _ => pc_lw (fun _ _ => pc_gd (fun _ => pc_lw (fun _ _ => pc_gd (fun _ => pc_lw (fun _ _ => pc_w (r70 FU) (fun r u e h0 => absurd (e.symm.trans h0) (by decide)))))))))))
    unfold f_D_isOne
    exact pc_ite (fun _ => pc_some rfl) (fun _ => pc_ite (fun _ => pc_some rfl) (fun _ => pc_ite (fun _ => pc_some rfl) (fun _ => pc_some rfl)))
  refine pc_call g (fun r1 u2 q => ?_)
  exact pc_ite (fun e => pc_some (by rw [q e]; exact fgt_self w)) (fun _ => fgn_pc)
theorem fg_again {w : Wd} {v1 : Int} (hG : G [] w w) : PC (f_E_again v1 w) (fun _ u => FGT w u) := by
  unfold f_E_again
  refine pc_ite (fun _ => pc_some (fgt_self w)) (fun _ => pc_ite (fun _ => pc_some (fgt_self w)) (fun _ => pc_ite (fun _ => ?_) (fun _ => pc_ite (fun _ => ?_) (fun _ => pc_none))))
  · refine pc_call (pc_ok (s_K_fits (g_self hG))) (fun r1 u2 q => pc_ite (fun _ => pc_some (fgt_g (fgt_self w) q.2 rfl)) (fun _ => ?_))
    exact pc_ite (fun _ => pc_call (pcN _) (fun _ _ _ => fgn_pc)) (fun _ => pc_ite (fun _ => pc_call (pcN _) (fun _ _ _ => fgn_pc)) (fun _ => pc_none))
  · refine pc_call (pc_ok (s_K_fits_40_5 (g_self hG))) (fun r1 u2 q => pc_ite (fun _ => pc_some (fgt_g (fgt_self w) q.2 rfl)) (fun _ => ?_))
    exact pc_ite (fun _ => pc_call (pcN _) (fun _ _ _ => fgn_pc)) (fun _ => pc_ite (fun _ => pc_call (pcN _) (fun _ _ _ => fgn_pc)) (fun _ => pc_none))
theorem sc_states {n : Int} {w : Wd} (h : LU w) (hs : SCR n w) (hn : n ≤ 2600) : PC (f_E_states  w) (fun _ u => SCR (n + 5) u) := by
  have he := lu_er h (fun _ _ => rfl)
  have hb : w 24 4 ≤ 5200000 := by have := hs.1.2; omega
  unfold f_E_states
  refine zrun he hs hn (fun r1 u2 h h53 => ?_)
  refine pc_ite (fun _ => ?_) (fun _ => ?_)
  · exact pc_some (sj_mono h (by omega))
  · exact pc_w (zs_E_states_25 _ h) (fun _ _ h => sj_mono h (by omega))
theorem sc_most {n : Int} {w : Wd} {v1 : Int} (h : LU w) (hs : SCR n w) (hn : n ≤ 2600) : PC (f_E_most v1 w) (fun _ u => SCR (n + 5) u) := by
  have he := lu_er h (fun _ _ => rfl)
  have hb : w 24 4 ≤ 5200000 := by have := hs.1.2; omega
  unfold f_E_most
  refine pc_call (zq_E_isWeek rfl) (fun r1 u2 e => ?_)
  subst e
  refine pc_ite (fun _ => ?_) (fun _ => ?_)
  · exact pc_some (scr_mono hs (by omega))
  · refine zrun he hs hn (fun r3 u4 h h53 => ?_)
    refine pc_ite (fun _ => ?_) (fun _ => ?_)
    · exact pc_some (sj_mono h (by omega))
    · exact pc_w (zs_E_most_37 _ h) (fun _ _ h => sj_mono h (by omega))
theorem sc_reach {n : Int} {w : Wd} {v1 : Int} (h : LU w) (hs : SCR n w) (hn : n ≤ 2600) : PC (f_E_reach v1 w) (fun _ u => SCR (n + 5) u) := by
  have he := lu_er h (fun _ _ => rfl)
  have hb : w 24 4 ≤ 5200000 := by have := hs.1.2; omega
  unfold f_E_reach
  refine pc_call (zq_E_isWeek rfl) (fun r1 u2 e => ?_)
  subst e
  refine pc_ite (fun _ => ?_) (fun _ => ?_)
  · exact pc_some (scr_mono hs (by omega))
  · refine zrun he hs hn (fun r3 u4 h h53 => ?_)
    refine pc_ite (fun _ => ?_) (fun _ => ?_)
    · exact pc_some (sj_mono h (by omega))
    · exact pc_w (zs_E_reach_39 _ h) (fun _ _ h => sj_mono h (by omega))
theorem sc_fewest {n : Int} {w : Wd} {v1 : Int} (h : LU w) (hs : SCR n w) (hn : n ≤ 2600) : PC (f_E_fewest v1 w) (fun _ u => SCR (n + 5) u) := by
  have he := lu_er h (fun _ _ => rfl)
  have hb : w 24 4 ≤ 5200000 := by have := hs.1.2; omega
  unfold f_E_fewest
  refine pc_call (zq_E_isWeek rfl) (fun r1 u2 e => ?_)
  subst e
  refine pc_ite (fun _ => ?_) (fun _ => ?_)
  · exact pc_some (scr_mono hs (by omega))
  · refine zrun he hs hn (fun r3 u4 h h53 => ?_)
    refine pc_ite (fun _ => ?_) (fun _ => ?_)
    · exact pc_some (sj_mono h (by omega))
    · refine pc_call (zs_S_fewestGuests h) (fun r5 u6 h => ?_)
      refine pc_ite (fun _ => ?_) (fun _ => ?_)
      · exact pc_some (sj_mono h (by omega))
      · exact pc_some (sj_mono h (by omega))
theorem sc_crowd {n : Int} {w : Wd} (h : LU w) (hs : SCR n w) (hn : n ≤ 2600) : PC (f_E_crowd  w) (fun _ u => SCR (n + 5) u) := by
  have he := lu_er h (fun _ _ => rfl)
  have hb : w 24 4 ≤ 5200000 := by have := hs.1.2; omega
  unfold f_E_crowd
  refine zrun he hs hn (fun r1 u2 h h53 => ?_)
  refine pc_ite (fun _ => ?_) (fun _ => ?_)
  · exact pc_some (sj_mono h (by omega))
  · refine pc_call (zs_S_mostGuests h) (fun r3 u4 h => ?_)
    exact pc_w (zs_E_crowd_34 _ h) (fun _ _ h => sj_mono h (by omega))
theorem sc_both {n : Int} {w : Wd} {v1 v2 v3 : Int} (h : LU w) (hs : SCR n w) (hn : n ≤ 2600) : PC (f_E_both v1 v2 v3 w) (fun _ u => SCR (n + 5) u) := by
  have he := lu_er h (fun _ _ => rfl)
  have hb : w 24 4 ≤ 5200000 := by have := hs.1.2; omega
  unfold f_E_both
  refine pc_call (zq_E_areTwo rfl) (fun r1 u2 e => ?_)
  subst e
  refine pc_ite (fun _ => ?_) (fun _ => ?_)
  · exact pc_some (scr_mono hs (by omega))
  · refine pc_call (zq_E_isWeek rfl) (fun r3 u4 e => ?_)
    subst e
    refine pc_ite (fun _ => ?_) (fun _ => ?_)
    · exact pc_some (scr_mono hs (by omega))
    · refine zrun he hs hn (fun r5 u6 h h53 => ?_)
      refine pc_ite (fun _ => ?_) (fun _ => ?_)
      · exact pc_some (sj_mono h (by omega))
      · refine pc_call (zs_S_leastPaid h) (fun r7 u8 h => ?_)
        refine pc_ite (fun _ => ?_) (fun _ => ?_)
        · exact pc_some (sj_mono h (by omega))
        · exact pc_some (sj_mono h (by omega))
theorem sc_last {n : Int} {w : Wd} (h : LU w) (hs : SCR n w) (hn : n ≤ 2600) : PC (f_E_last  w) (fun _ u => SCR (n + 5) u) := by
  have he := lu_er h (fun _ _ => rfl)
  have hb : w 24 4 ≤ 5200000 := by have := hs.1.2; omega
  unfold f_E_last
  refine zrun he hs hn (fun r1 u2 h h53 => ?_)
  refine pc_ite (fun _ => ?_) (fun _ => ?_)
  · exact pc_some (sj_mono h (by omega))
  · refine pc_call (zs_S_lastWeek h) (fun r3 u4 h => ?_)
    refine pc_ite (fun _ => ?_) (fun _ => ?_)
    · exact pc_some (sj_mono h (by omega))
    · refine pc_call (zs_S_fewestGuests h) (fun r5 u6 h => ?_)
      refine pc_call (zs_N_tell1 h) (fun r7 u8 h => ?_)
      exact pc_some (sj_mono h (by omega))
theorem sc_begin {n : Int} {w : Wd} (h : LU w) (hs : SCR n w) (hn : n ≤ 2600) : PC (f_E_begin  w) (fun _ u => SCR (n + 5) u) := by
  have he := lu_er h (fun _ _ => rfl)
  have hb : w 24 4 ≤ 5200000 := by have := hs.1.2; omega
  unfold f_E_begin
  refine zrun he hs hn (fun r1 u2 h h53 => ?_)
  refine pc_ite (fun _ => ?_) (fun _ => ?_)
  · exact pc_some (sj_mono h (by omega))
  · refine pc_call (zs_S_lastWeek h) (fun r3 u4 h => ?_)
    refine pc_ite (fun _ => ?_) (fun _ => ?_)
    · refine pc_call (zs_S_lookBack h (by omega)) (fun r5 u6 h => ?_)
      refine pc_call (zs_E_tellFirstWeek h (by omega)) (fun r7 u8 h => ?_)
      exact pc_some (sj_mono h (by omega))
    · exact pc_some (sj_mono h (by omega))
theorem sc_cheap {n : Int} {w : Wd} {v1 : Int} (h : LU w) (hs : SCR n w) (hn : n ≤ 2600) : PC (f_E_cheap v1 w) (fun _ u => SCR (n + 5) u) := by
  have he := lu_er h (fun _ _ => rfl)
  have hb : w 24 4 ≤ 5200000 := by have := hs.1.2; omega
  unfold f_E_cheap
  refine pc_call (zq_E_isWeek rfl) (fun r1 u2 e => ?_)
  subst e
  refine pc_ite (fun _ => ?_) (fun _ => ?_)
  · exact pc_some (scr_mono hs (by omega))
  · refine zrun he hs hn (fun r3 u4 h h53 => ?_)
    refine pc_ite (fun _ => ?_) (fun _ => ?_)
    · exact pc_some (sj_mono h (by omega))
    · refine pc_call (zs_S_leastPaid h) (fun r5 u6 h => ?_)
      refine pc_ite (fun _ => ?_) (fun _ => ?_)
      · exact pc_some (sj_mono h (by omega))
      · refine pc_ite (fun _ => ?_) (fun _ => ?_)
        · refine pc_call (zs_N_clear h) (fun r11 u12 h => ?_)
          exact pc_some (sj_mono h (by omega))
        · refine pc_call (zs_S_lookBack h (by omega)) (fun r7 u8 h => ?_)
          refine pc_call (zs_E_tellFirstWeek h (by omega)) (fun r9 u10 h => ?_)
          exact pc_some (sj_mono h (by omega))
theorem sc_stays {n : Int} {w : Wd} {v1 : Int} (h : LU w) (hs : SCR n w) (hn : n ≤ 2600) : PC (f_E_stays v1 w) (fun _ u => SCR (n + 5) u) := by
  have he := lu_er h (fun _ _ => rfl)
  have hb : w 24 4 ≤ 5200000 := by have := hs.1.2; omega
  unfold f_E_stays
  refine pc_call (zq_F_isThere rfl) (fun r1 u2 e => ?_)
  subst e
  refine pc_ite (fun _ => ?_) (fun _ => ?_)
  · exact pc_some (scr_mono hs (by omega))
  · refine zrun he hs hn (fun r3 u4 h h53 => ?_)
    refine pc_ite (fun _ => ?_) (fun _ => ?_)
    · exact pc_some (sj_mono h (by omega))
    · refine pc_call (zs_F_guests h) (fun r5 u6 h => ?_)
      refine pc_call (zs_E_has h) (fun r7 u8 h => ?_)
      refine pc_ite (fun _ => ?_) (fun _ => ?_)
      · exact pc_some (sj_mono h (by omega))
      · refine pc_call (zs_S_lastWeek h) (fun r9 u10 h => ?_)
        refine pc_ite (fun _ => ?_) (fun _ => ?_)
        · exact pc_w (zs_E_stays_95 h) (fun _ _ h => sj_mono h (by omega))
        · refine pc_call (zs_S_lookBack h (by omega)) (fun r13 u14 h => ?_)
          refine pc_call (zs_E_firstToBring h (by omega) h53) (fun r15 u16 h => ?_)
          exact pc_w (zs_E_stays_95 h) (fun _ _ h => sj_mono h (by omega))
theorem sc_soonest {n : Int} {w : Wd} {v1 : Int} (h : LU w) (hs : SCR n w) (hn : n ≤ 2600) : PC (f_E_soonest v1 w) (fun _ u => SCR (n + 5) u) := by
  have he := lu_er h (fun _ _ => rfl)
  have hb : w 24 4 ≤ 5200000 := by have := hs.1.2; omega
  unfold f_E_soonest
  refine pc_call (zq_F_isThere rfl) (fun r1 u2 e => ?_)
  subst e
  refine pc_ite (fun _ => ?_) (fun _ => ?_)
  · exact pc_some (scr_mono hs (by omega))
  · refine zrun he hs hn (fun r3 u4 h h53 => ?_)
    refine pc_ite (fun _ => ?_) (fun _ => ?_)
    · exact pc_some (sj_mono h (by omega))
    · refine pc_call (zs_S_weeksWith h) (fun r5 u6 h => ?_)
      refine pc_call (zs_E_firstWeek h) (fun r7 u8 h => ?_)
      refine pc_ite (fun _ => ?_) (fun _ => ?_)
      · exact pc_some (sj_mono h (by omega))
      · exact pc_some (sj_mono h (by omega))
theorem sc_worth {n : Int} {w : Wd} {v1 : Int} (h : LU w) (hs : SCR n w) (hn : n ≤ 2600) : PC (f_E_worth v1 w) (fun _ u => SCR (n + 5) u) := by
  have he := lu_er h (fun _ _ => rfl)
  have hb : w 24 4 ≤ 5200000 := by have := hs.1.2; omega
  unfold f_E_worth
  refine pc_call (zq_F_free rfl) (fun r1 u2 e => ?_)
  subst e
  refine pc_call (zq_E_has rfl) (fun r3 u4 e => ?_)
  subst e
  refine pc_ite (fun _ => ?_) (fun _ => ?_)
  · exact pc_some (scr_mono hs (by omega))
  · refine zrun he hs hn (fun r5 u6 h h53 => ?_)
    refine pc_ite (fun _ => ?_) (fun _ => ?_)
    · exact pc_some (sj_mono h (by omega))
    · refine pc_call (zs_S_lastWeek h) (fun r7 u8 h => ?_)
      refine pc_ite (fun _ => ?_) (fun _ => ?_)
      · exact pc_some (sj_mono h (by omega))
      · refine pc_call (zs_S_lastWeek h) (fun r9 u10 h => ?_)
        exact pc_some (sj_mono h (by omega))
theorem sc_needed {n : Int} {w : Wd} (h : LU w) (hs : SCR n w) (hn : n ≤ 2600) : PC (f_E_needed  w) (fun _ u => SCR (n + 5) u) := by
  have he := lu_er h (fun _ _ => rfl)
  have hb : w 24 4 ≤ 5200000 := by have := hs.1.2; omega
  unfold f_E_needed
  refine zrun he hs hn (fun r1 u2 h h53 => ?_)
  refine pc_ite (fun _ => ?_) (fun _ => ?_)
  · exact pc_some (sj_mono h (by omega))
  · refine pc_call (zs_S_lastWeek h) (fun r3 u4 h => ?_)
    refine pc_ite (fun _ => ?_) (fun _ => ?_)
    · exact pc_some (sj_mono h (by omega))
    · exact pc_w (zs_E_needed_43 _ h) (fun _ _ h => sj_mono h (by omega))
theorem sc_never {n : Int} {w : Wd} (h : LU w) (hs : SCR n w) (hn : n ≤ 2600) : PC (f_E_never  w) (fun _ u => SCR (n + 5) u) := by
  have he := lu_er h (fun _ _ => rfl)
  have hb : w 24 4 ≤ 5200000 := by have := hs.1.2; omega
  unfold f_E_never
  refine zrun he hs hn (fun r1 u2 h h53 => ?_)
  refine pc_ite (fun _ => ?_) (fun _ => ?_)
  · exact pc_some (sj_mono h (by omega))
  · exact pc_w (zs_E_never_25 _ h) (fun _ _ h => sj_mono h (by omega))
theorem sc_can {n : Int} {w : Wd} (hs : SCR n w) (hn : n ≤ 2600) : PC (f_E_can w) (fun _ u => SCR (n + 5) u) := by
  have hb := hs.1.2
  exact pc_w (zs_E_can (sj_0 hs) (by omega)) (fun _ _ h => sj_scr hs h (by omega))
theorem sc_pairs {n : Int} {w : Wd} (hs : SCR n w) (hn : n ≤ 2600) : PC (f_E_pairs w) (fun _ u => SCR (n + 5) u) := by
  have hb := hs.1.2
  exact pc_w (zs_E_pairs (sj_0 hs) (by omega)) (fun _ _ h => sj_scr hs h (by omega))
theorem sc_bars {n : Int} {w : Wd} (hs : SCR n w) (hn : n ≤ 2600) : PC (f_E_bars w) (fun _ u => SCR (n + 5) u) := by
  have hb := hs.1.2
  exact pc_w (zs_E_bars (sj_0 hs) (by omega)) (fun _ _ h => sj_scr hs h (by omega))
