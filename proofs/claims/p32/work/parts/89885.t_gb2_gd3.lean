/-! THE REFERENCE'S TABLE OF STATES -/
theorem g_fr {S : List Nat} {b u : Wd} (h : G S b u) (cs : List Nat) (hS : S.all (fun x => cs.contains (x / 100)) = true) : ∀ c, cs.contains c = false → u c = b c := by
  intro c hc
  funext k
  refine h.2.1 c k (mS_ar ?_ k)
  rw [List.all_eq_true]
  intro x hx
  have h1 := List.all_eq_true.mp hS x hx
  rw [Bool.or_eq_true, Nat.blt_eq, Nat.blt_eq]
  by_cases e : x / 100 = c
  · rw [e, hc] at h1; cases h1
  · omega
theorem g_43 {S : List Nat} {b u : Wd} (h : G S b u) (ks : List Nat) (hS : S.all (fun x => x / 100 != 43 || (x != 4399 && ks.contains (x - 4300))) = true) : ∀ k, ks.contains k = false → u 43 k = b 43 k := by
  intro k hk
  refine h.2.1 43 k ?_
  unfold mS
  have f : ∀ x, S.contains x = true → x / 100 ≠ 43 ∨ (x ≠ 4399 ∧ ks.contains (x - 4300) = true) := fun x hx => by
    have h1 := List.all_eq_true.mp hS x (List.contains_iff_mem.mp hx)
    rw [Bool.or_eq_true, Bool.and_eq_true, bne_iff_ne, bne_iff_ne] at h1
    exact h1
  cases h1 : S.contains (43 * 100 + 99) with
  | true =>
    rcases f _ h1 with e | e
    · exact absurd rfl e
    · exact absurd rfl e.1
  | false =>
    cases h2 : Nat.blt k 99 with
    | false => rfl
    | true =>
      rw [Nat.blt_eq] at h2
      cases h3 : S.contains (43 * 100 + k) with
      | false => rfl
      | true =>
        rcases f _ h3 with e | e
        · exact absurd (by omega) e
        · rw [show 43 * 100 + k - 4300 = k by omega, hk] at e
          cases e.2
theorem mfn {w : Wd} {c : Int} {e t : Nat} (hm : Miss w c e) (hz : w 67 (slot c e) = 0) : ¬ Fnd w c t := by
  rintro ⟨d', hd', hm', e1', e2'⟩
  rcases Nat.lt_trichotomy e d' with h | h | h
  · exact (hm' e h).1 hz
  · subst h
    rw [hz] at e1'
    omega
  · have h1 := (hm d' h).2
    rw [e1'] at h1
    exact absurd (by rw [show ((t : Int) + 1 - 1).toNat = t by omega]; exact e2') h1
theorem nf13 {c : Int} : ∀ (n : Nat) {v2 : Int} {w : Wd} {d : Nat}, (∀ p, 0 ≤ w 67 p ∧ w 67 p ≤ 3000) → (0 ≤ v2 ∧ v2 ≤ 8191) → v2.toNat = slot c d → Miss w c d → PC (f_R_stateOf_13 n c v2 w) (fun r _ => r = -1 → ∀ t, ¬ Fnd w c t) := by
  intro n
  induction n with
  | zero => intros; exact pc_none
  | succ n ih =>
    intro v2 w d hr i2 e2 hm
    rw [f_R_stateOf_13]
    have r2 := hr v2.toNat
    have z : w32 (w 67 v2.toNat - 1) = w 67 v2.toNat - 1 := w32_id (by omega)
    have f50 : (w 67 v2.toNat ≠ 0 ∨ Miss w c d) → PC (f_R_stateOf_50 c v2 w) (fun r _ => r = -1 → ∀ t, ¬ Fnd w c t) := fun _ => by
      unfold f_R_stateOf_50
      refine pc_gd (fun _ => pc_ite (fun c1 => ?_) (fun c1 => pc_gd (fun _ => pc_some (fun e => ?_))))
      · refine pc_ite (fun c2 => pc_some (fun _ t => mfn hm (by rw [← e2]; exact c1))) (fun c2 => ?_)
        refine pc_gd (fun g1 => pc_lw (fun u2 q2 => pc_gd (fun _ => pc_lw (fun u3 q3 => pc_lw (fun u4 q4 => pc_gd (fun _ => pc_lw (fun u5 q5 => pc_some (fun e => ?_))))))))
        exfalso
        have s3 : u3 43 40 = w 43 40 := by rw [q3, st_c (by decide), q2, st_c (by decide)]
        have s5 : u5 43 40 = w 43 40 + 1 := by rw [q5, st_c (by decide), q4, st_eq, s3]; exact w32_id (by omega)
        rw [s5, w32_id (by omega)] at e
        omega
      · exfalso
        rw [z] at e
        omega
    refine pc_gd (fun _ => pc_ite (fun c1 => f50 (Or.inr hm)) (fun c1 => pc_gd (fun _ => pc_gd (fun _ => ?_))))
    rw [z]
    refine pc_ite (fun c2 => f50 (Or.inl c1)) (fun c2 => pc_let (fun x6 e6 => ?_))
    obtain ⟨q1, q2⟩ := slot_s e2 i2
    rw [← e6] at q1 q2
    refine ih hr q2 q1 (fun j hj => ?_)
    by_cases cj : j < d
    · exact hm j cj
    · rw [show j = d by omega, ← e2]
      exact ⟨c1, c2⟩
/-- what a search of the reference leaves as it is -/
def FRX (w u : Wd) : Prop := (∀ c, c ≠ 43 → c ≠ 63 → c ≠ 65 → c ≠ 66 → c ≠ 67 → u c = w c) ∧ ∀ k, k ≠ 40 → k ≠ 41 → u 43 k = w 43 k
theorem frx_tr {w u v : Wd} (h : FRX w u) (h2 : FRX u v) : FRX w v := ⟨fun c a b d e f => (h2.1 c a b d e f).trans (h.1 c a b d e f), fun k a b => (h2.2 k a b).trans (h.2 k a b)⟩
theorem frx_self (w : Wd) : FRX w w := ⟨fun _ _ _ _ _ _ => rfl, fun _ _ _ => rfl⟩
theorem so_pc {w : Wd} {c : Int} (hG : G [] w w) (iv : -2147483648 ≤ c ∧ c ≤ 2147483647) : PC (f_R_stateOf c w) (fun r u => (G [] u u ∧ FRX w u ∧ u 65 = w 65 ∧ u 43 41 = w 43 41) ∧ SO w u c r ∧ (r = -1 → ∀ t, ¬ Fnd w c t)) := by
  have h2 : PC (f_R_stateOf c w) (fun r _ => r = -1 → ∀ t, ¬ Fnd w c t) := by
    unfold f_R_stateOf
    have hr := iand_r (x := iush (w32 (c * (-1640531535))) 19) (y := 8191) (by decide)
    refine pc_let (fun x1 e1 => nf13 FU (d := 0) (fun p => hG.1 67 p) (by rw [e1]; omega) ?_ (fun j hj => by omega))
    have hh : x1.toNat = hsh c := by rw [e1]; rfl
    rw [hh]
    unfold slot
    have hs : hsh c < 8192 := by rw [← hh, e1]; omega
    omega
  refine pc_w (pc_and (pc_ok (so (g_self hG) iv)) h2) (fun r u q => ?_)
  obtain ⟨⟨_, gu, hs⟩, hn⟩ := q
  refine ⟨⟨g_self gu, ⟨fun k a b d e f => ?_, fun k a b => ?_⟩, ?_, ?_⟩, hs, hn⟩
  · refine g_fr gu [43, 63, 66, 67] (by decide) k ?_
    simp [a, b, e, f]
  · refine g_43 gu [40] (by decide) k ?_
    simp [a]
  · exact g_fr gu [43, 63, 66, 67] (by decide) 65 (by decide)
  · exact g_43 gu [40] (by decide) 41 (by decide)
/-- behind a WEEK -/
def BEQ (w u : Wd) (c : Int) (ok : Prop) (r : Int) : Prop := (G [] u u ∧ FRX w u ∧ u 65 = w 65 ∧ u 43 41 = w 43 41) ∧ ((¬ ok ∧ r = -1 ∧ u = w) ∨ (ok ∧ r = -2 ∧ u = w ∧ w 43 40 = 3000 ∧ ∀ t, ¬ Fnd w c t) ∨ (ok ∧ 0 ≤ r ∧ SO w u c r))
theorem be120 {w : Wd} {c : Int} {ok : Prop} (hG : G [] w w) (iv : -2147483648 ≤ c ∧ c ≤ 2147483647) (hok : ok) : PC (f_R_behind_120 c w) (fun r u => BEQ w u c ok r) := by
  unfold f_R_behind_120
  refine pc_call (so_pc hG iv) (fun r1 u2 q => ?_)
  obtain ⟨q1, q2, q3⟩ := q
  have a40 : (0 : Int) ≤ w 43 40 ∧ w 43 40 ≤ 3000 := hG.1 43 40
  refine pc_ite (fun e => pc_some ⟨q1, Or.inr (Or.inl ⟨hok, rfl, ?_⟩)⟩) (fun e => pc_some ⟨q1, Or.inr (Or.inr ⟨hok, ?_, q2⟩)⟩)
  · rcases q2.2.2 with h1 | h1 | h1
    · exact ⟨h1.2.1, h1.2.2, q3 e⟩
    · exfalso; omega
    · exfalso; omega
  · rcases q2.2.2 with h1 | h1 | h1
    · exact absurd h1.1 e
    · exact h1.1
    · omega
theorem be_pc {P g se : Int} {s : Nat → Int} {w : Wd} {v1 v2 m : Int} (hG : G [] w w) (hP : 0 ≤ P ∧ P ≤ 10) (h0 : w 43 0 = P) (hg : w 43 10 = g) (hse : w 43 11 = se) (hg3 : g ≤ 3) (h68 : ∀ k : Nat, (k : Int) < P → w 68 k = s k) (hs : ∀ k : Nat, (k : Int) < P → 0 ≤ s k ∧ s k ≤ 4) (hm : ior v1 v2 = m) (hmr : 0 ≤ m ∧ m ≤ 1023) (hin : ∀ k, k < 10 → bt m k = true → (k : Int) < P) : PC (f_R_behind v1 v2 w) (fun r u => BEQ w u (cdf (nis P s g (bt m)) P.toNat) (v1 = 0 ∨ ((pn (fun k => sty P s g k || bt m k) 10 : Nat) : Int) ≤ se) r) := by
  have gn : ∀ k : Nat, (k : Int) < P → gst (nis P s g (bt m) k) = (sty P s g k || bt m k) := fun k hk => by
    unfold nis sty gs
    rw [show inP P k = true from decide_eq_true hk]
    cases hb : bt m k with
    | true => simp; decide
    | false =>
      cases hgs : gst (s k) with
      | false => simp [hgs]
      | true =>
        have h1 : 1 ≤ s k ∧ s k < 4 := of_decide_eq_true hgs
        by_cases c : s k < g
        · rw [decide_eq_true c]
          simp [c]
          exact decide_eq_true (by omega)
        · rw [decide_eq_false c]
          simp [c]
          exact decide_eq_false (by omega)
  have cnt : pn (fun k => gst (nis P s g (bt m) k)) P.toNat = pn (fun k => sty P s g k || bt m k) 10 := by
    rw [pn_cut (f := fun k => sty P s g k || bt m k) (n := P.toNat) (m := 10) (by omega) (fun k h1 h2 => ?_)]
    · exact pn_eq (fun k hk => gn k (by omega))
    · have ip : inP P k = false := decide_eq_false (by omega)
      have hb : bt m k = false := by
        cases hb : bt m k with
        | false => rfl
        | true => have := hin k h2 hb; omega
      show (sty P s g k || bt m k) = false
      unfold sty gs
      rw [ip, hb]; rfl
  have nr : ∀ k : Nat, (k : Int) < P → 0 ≤ nis P s g (bt m) k ∧ nis P s g (bt m) k ≤ 4 := fun k hk => nis_rg hg3 (hs k hk)
  have l8 : ∀ (n : Nat) {v3 v4 v5 : Int}, 0 ≤ v5 → v5 ≤ P → v3 = cdf (nis P s g (bt m)) v5.toNat → v4 = ((pn (fun k => gst (nis P s g (bt m) k)) v5.toNat : Nat) : Int) → PC (f_R_behind_8 n v1 v2 v3 v4 v5 w) (fun r u => BEQ w u (cdf (nis P s g (bt m)) P.toNat) (v1 = 0 ∨ ((pn (fun k => sty P s g k || bt m k) 10 : Nat) : Int) ≤ se) r) := by
    intro n
    induction n with
    | zero => intros; exact pc_none
    | succ n ih =>
      intro v3 v4 v5 i5 i5' e3 e4
      rw [f_R_behind_8, h0]
      have c1 := cdf_rg (s := nis P s g (bt m)) (n := v5.toNat) (fun k hk => nr k (by omega))
      have c2 := p5_le v5.toNat (by omega)
      refine pc_ite (fun c => ?_) (fun c => ?_)
      · have e5 : v5 = P := by omega
        rw [e5] at e3 e4 c1 c2
        rw [cnt] at e4
        rw [← e3]
        refine pc_ite (fun z => be120 hG (by rw [e3]; omega) (Or.inl z)) (fun z => ?_)
        rw [hse]
        refine pc_ite (fun z2 => be120 hG (by rw [e3]; omega) (Or.inr (by omega))) (fun z2 => pc_some ⟨⟨hG, frx_self w, rfl, rfl⟩, Or.inl ⟨fun ho => ?_, rfl, rfl⟩⟩)
        rcases ho with h1 | h1
        · exact z h1
        · omega
      · have k5 : (v5.toNat : Int) < P := by omega
        have nk := nr v5.toNat k5
        have pl := pn_le (fun k => gst (nis P s g (bt m) k)) v5.toNat
        have f89 : ∀ (x z : Int), x = nis P s g (bt m) v5.toNat → z = (if gst (nis P s g (bt m) v5.toNat) = true then 1 else 0) → PC (f_R_behind_89 (f_R_behind_8 n) v1 v2 v3 v5 x v4 z w) (fun r u => BEQ w u (cdf (nis P s g (bt m)) P.toNat) (v1 = 0 ∨ ((pn (fun k => sty P s g k || bt m k) 10 : Nat) : Int) ≤ se) r) := fun x z ex ez => by
          unfold f_R_behind_89
          have z01 : 0 ≤ z ∧ z ≤ 1 := by rw [ez]; split <;> decide
          refine pc_let (fun x10 e10 => pc_let (fun x11 e11 => pc_let (fun x12 e12 => ?_)))
          rw [w32_id (by omega)] at e12
          rw [w32_id (by omega)] at e10
          rw [e3, ex, w32_id (show -2147483648 ≤ 5 * cdf (nis P s g (bt m)) v5.toNat ∧ 5 * cdf (nis P s g (bt m)) v5.toNat ≤ 2147483647 by omega), w32_id (by omega)] at e11
          rw [e10, e11, e12]
          refine ih (by omega) (by omega) (by rw [show (v5 + 1).toNat = v5.toNat + 1 by omega, cdf]) ?_
          rw [show (v5 + 1).toNat = v5.toNat + 1 by omega, pn, e4, ez]
          cases gst (nis P s g (bt m) v5.toNat) <;> simp
        have f74 : ∀ x : Int, x = nis P s g (bt m) v5.toNat → PC (f_R_behind_74 (f_R_behind_8 n) v1 v2 v3 v4 v5 x w) (fun r u => BEQ w u (cdf (nis P s g (bt m)) P.toNat) (v1 = 0 ∨ ((pn (fun k => sty P s g k || bt m k) 10 : Nat) : Int) ≤ se) r) := fun x ex => by
          unfold f_R_behind_74
          rw [isG_e, jc_s, ex]
          cases hb : gst (nis P s g (bt m) v5.toNat) with
          | false => exact pc_ite (fun _ => f89 _ 0 rfl (by rw [hb]; rfl)) (fun e => absurd rfl e)
          | true => exact pc_ite (fun e => absurd e (by decide)) (fun _ => f89 _ 1 rfl (by rw [hb]; rfl))
        have sk := hs v5.toNat k5
        refine pc_gd (fun _ => pc_let (fun x3 ex3 => ?_))
        rw [h68 v5.toNat k5] at ex3
        rw [hm, hasR_10 w (b10_self hmr) (by omega), jc_s, ex3]
        cases hb : bt m v5.toNat with
        | true =>
          refine pc_ite (fun e => absurd e (by decide)) (fun _ => f74 1 ?_)
          unfold nis; rw [hb]; rfl
        | false =>
          refine pc_ite (fun _ => ?_) (fun e => absurd rfl e)
          rw [isG_e, jc_s]
          cases hgs : gst (s v5.toNat) with
          | false =>
            refine pc_ite (fun _ => f74 _ ?_) (fun e => absurd rfl e)
            unfold nis; rw [hb, hgs]; rfl
          | true =>
            refine pc_ite (fun e => absurd e (by decide)) (fun _ => ?_)
            have e1 : w32 (s v5.toNat + 1) = s v5.toNat + 1 := w32_id (by omega)
            have e2 : w32 (s v5.toNat + 1 - 1) = s v5.toNat := (w32_id (by omega)).trans (by omega)
            rw [e1, e2, hg]
            unfold f_R_behind_72
            refine pc_ite (fun z => f74 _ ?_) (fun z => f74 _ ?_)
            · unfold nis; rw [hb, hgs]; simp [z]
            · unfold nis; rw [hb, hgs]; simp [z]
  unfold f_R_behind
  exact l8 FU (by decide) hP.1 rfl rfl
/-! ALL STATES BEHIND ONE: the reference -/
def EXT (P : Int) (kn : Nat → Int) (br fr : Nat → Bool) : Nat → Int → Int → Prop
  | 0, m, m' => m' = m
  | n + 1, m, m' => EXT P kn br fr n m m' ∨ ∃ o : Nat, o < 10 ∧ br (P.toNat - (n + 1)) = true ∧ fr o = true ∧ bt (kn (P.toNat - (n + 1))) o = true ∧ bt m o = false ∧ EXT P kn br fr n (sq m (P.toNat - (n + 1)) o) m'
theorem drc_add {P : Int} {kn : Nat → Int} {br fr sy : Nat → Bool} {d i o : Nat} {f m : Int} (h : DRC P 20 kn br fr sy d f m) (hf : f ≤ (i : Int)) (hi : (i : Int) < P) (ho : o < 10) (hb : br i = true) (hfr : fr o = true) (hk : bt (kn i) o = true) (hm : bt m o = false) : DRC P 20 kn br fr sy (d + 1) ((i : Int) + 1) (sq m i o) :=
  ⟨f, m, h, i, o, hf, hi, ho, hb, hfr, hk, hm, rfl, by have := pn_le (fun k => sy k || bt (sq m i o) k) 10; omega, rfl⟩
theorem ext_all {P : Int} {kn : Nat → Int} {br fr sy : Nat → Bool} (hP : 0 ≤ P ∧ P ≤ 10) {d : Nat} {f m : Int} (h : DRC P 20 kn br fr sy d f m) : EXT P kn br fr P.toNat 0 m := by
  have key : ∀ i : Nat, (i : Int) ≤ P → ∀ {d : Nat} {f m : Int}, DRC P 20 kn br fr sy d f m → f ≤ (i : Int) → ∀ m', EXT P kn br fr (P.toNat - i) m m' → EXT P kn br fr P.toNat 0 m' := by
    intro i
    induction i with
    | zero =>
      intro _ d f m h hf m' he
      cases d with
      | zero =>
        obtain ⟨_, e⟩ := h
        rw [e] at he; exact he
      | succ d =>
        obtain ⟨f0, m0, h0, j, o, h1, h2, h3, h4, h5, h6, h7, h8, h9, h10⟩ := h
        have := (drc_rg hP h0).2.1
        omega
    | succ i ih =>
      intro hi d f m h hf m' he
      have en : P.toNat - i = (P.toNat - (i + 1)) + 1 := by omega
      by_cases c : f ≤ (i : Int)
      · refine ih (by omega) h c m' ?_
        rw [en]
        exact Or.inl he
      · cases d with
        | zero => obtain ⟨e, _⟩ := h; omega
        | succ d =>
          obtain ⟨f0, m0, h0, j, o, h1, h2, h3, h4, h5, h6, h7, h8, h9, h10⟩ := h
          have ej : j = i := by omega
          subst ej
          refine ih (by omega) h0 (by omega) m' ?_
          rw [en]
          refine Or.inr ⟨o, h3, ?_, h5, ?_, h7, ?_⟩
          · rw [show P.toNat - (P.toNat - (j + 1) + 1) = j by omega]; exact h4
          · rw [show P.toNat - (P.toNat - (j + 1) + 1) = j by omega]; exact h6
          · rw [show P.toNat - (P.toNat - (j + 1) + 1) = j by omega, ← h8]; exact he
  have r := drc_rg hP h
  exact key P.toNat (by omega) h (by omega) m (by rw [Nat.sub_self]; exact rfl)
def VLS (P g se : Int) (h kn : Nat → Int) (x0 x : Int) : Prop := WH x (sof x) P ∧ ∃ n, RCX P g se h kn x0 n x
def COD (P g se : Int) (h kn : Nat → Int) (x0 : Int) (w : Wd) : Prop := (∀ t : Nat, (t : Int) < w 43 40 → Fnd w (w 63 t) t) ∧ ∀ t : Nat, (t : Int) < w 43 40 → ∃ x, VLS P g se h kn x0 x ∧ w 63 t = cdx P x
def JIx (P g se : Int) (h kn : Nat → Int) (x0 x fr e0 : Int) (w : Wd) : Prop := G [] w w ∧ COD P g se h kn x0 w ∧ (0 ≤ e0 ∧ e0 ≤ w 43 41) ∧ (∀ e : Nat, e0 ≤ (e : Int) → (e : Int) < w 43 41 → (0 ≤ w 65 e ∧ w 65 e < w 43 40) ∧ w 66 (w 65 e).toNat = fr ∧ ∃ y, SUX P g se h kn x y ∧ w 63 (w 65 e).toNat = cdx P y) ∧ (∀ t : Nat, (t : Int) < w 43 40 → w 66 t = fr → ∃ e : Nat, e0 ≤ (e : Int) ∧ (e : Int) < w 43 41 ∧ w 65 e = (t : Int)) ∧ ∀ t : Nat, (t : Int) < w 43 40 → w 66 t ≤ fr
def GRR (w u : Wd) : Prop := FRX w u ∧ w 43 40 ≤ u 43 40 ∧ (∀ t : Nat, (t : Int) < w 43 40 → u 63 t = w 63 t) ∧ w 43 41 ≤ u 43 41 ∧ ∀ e : Nat, (e : Int) < w 43 41 → u 65 e = w 65 e
theorem grr_self (w : Wd) : GRR w w := ⟨frx_self w, Int.le_refl _, fun _ _ => rfl, Int.le_refl _, fun _ _ => rfl⟩
theorem grr_tr {w u v : Wd} (h : GRR w u) (h2 : GRR u v) : GRR w v := by
  obtain ⟨a1, a2, a3, a4, a5⟩ := h
  obtain ⟨b1, b2, b3, b4, b5⟩ := h2
  exact ⟨frx_tr a1 b1, by omega, fun t ht => (b3 t (by omega)).trans (a3 t ht), by omega, fun e he => (b5 e (by omega)).trans (a5 e he)⟩
def EDG (e0 : Int) (u : Wd) (c : Int) : Prop := ∃ e : Nat, e0 ≤ (e : Int) ∧ (e : Int) < u 43 41 ∧ (0 ≤ u 65 e ∧ u 65 e < u 43 40) ∧ u 63 (u 65 e).toNat = c
theorem edg_grr {e0 c : Int} {w u : Wd} (h : GRR w u) (he : EDG e0 w c) : EDG e0 u c := by
  obtain ⟨e, h1, h2, h3, h4⟩ := he
  obtain ⟨_, b2, b3, b4, b5⟩ := h
  exact ⟨e, h1, by omega, by rw [b5 e h2]; omega, by rw [b5 e h2, b3 _ (by omega)]; exact h4⟩
def RCx (P g se : Int) (h kn s : Nat → Int) (w : Wd) : Prop := w 43 0 = P ∧ w 43 10 = g ∧ w 43 11 = se ∧ (∀ k : Nat, (k : Int) < P → w 68 k = s k) ∧ (∀ j : Nat, (j : Int) < P → w 45 j = kn j ∧ 0 ≤ kn j ∧ kn j ≤ 1023) ∧ ∃ nm, B10 (w 43 44) nm ∧ ∀ k : Nat, (k : Int) < P → nm k = hB P h k
theorem rct_frx {P g se : Int} {h kn s : Nat → Int} {w u : Wd} (hr : RCx P g se h kn s w) (f : FRX w u) : RCx P g se h kn s u := by
  unfold RCx
  rw [f.2 0 (by decide) (by decide), f.2 10 (by decide) (by decide), f.2 11 (by decide) (by decide), f.2 44 (by decide) (by decide), f.1 68 (by decide) (by decide) (by decide) (by decide) (by decide), f.1 45 (by decide) (by decide) (by decide) (by decide) (by decide)]
  exact hr
/-- one leaf: the STATE behind this WEEK has its edge, or there are too many STATES -/
theorem leaf_pc {P g se : Int} {h kn : Nat → Int} {x0 x fr e0 : Int} {w : Wd} {v3 v4 m : Int} {d : Nat} {f : Int} (hP : 0 ≤ P ∧ P ≤ 10) (hg : 1 ≤ g ∧ g ≤ 3) (h0 : WH x0 (sof x0) P) (hx : VLS P g se h kn x0 x) (hR : RCx P g se h kn (sof x) w) (hJ : JIx P g se h kn x0 x fr e0 w) (hfr : 0 ≤ fr ∧ fr ≤ 2999) (hD : DRC P 20 kn (gs P (sof x)) (fre P (sof x) h) (sty P (sof x) g) d f m) (hm : ior v3 v4 = m) (h3 : v3 = 0 ↔ d = 0) : PC (jcall (f_R_behind v3 v4 w) fun r10 u11 => if r10 = (-2) then some (0, u11) else if r10 = (-1) then some (1, u11) else jgd ((0 : Int) ≤ r10 ∧ r10 < 3000) <| if (u11 66 r10.toNat) = fr then some (1, u11) else jgd ((0 : Int) ≤ r10 ∧ r10 < 3000) <| jlw (st u11 66 r10.toNat fr) fun u12 => jgd ((0 : Int) ≤ (u12 43 41) ∧ (u12 43 41) < 756000) <| jlw (st u12 65 (u12 43 41).toNat r10) fun u13 => jlw (st u13 43 41 (w32 ((u13 43 41) + 1))) fun u14 => some (1, u14)) (fun r u => JIx P g se h kn x0 x fr e0 u ∧ GRR w u ∧ ((r = 0 ∧ MNY P g se h kn x0) ∨ (r = 1 ∧ ((d = 0 ∨ ((pn (fun k => sty P (sof x) g k || bt m k) 10 : Nat) : Int) ≤ se) → EDG e0 u (cdf (nis P (sof x) g (bt m)) P.toNat))))) := by
  obtain ⟨c0, c10, c11, c68, c45, _⟩ := hR
  obtain ⟨hG, ⟨hC1, hC2⟩, he0, hE, hS, hU⟩ := hJ
  have hmr := drc_rg hP hD
  have a40 : (0 : Int) ≤ w 43 40 ∧ w 43 40 ≤ 3000 := hG.1 43 40
  have hin : ∀ k, k < 10 → bt m k = true → (k : Int) < P ∧ sof x k ≠ 4 := fun k hk hb => by
    have hM : MVS P g 20 h kn (sof x) m := ⟨d, f, hD⟩
    exact mvs_ok hP hM k hk hb
  refine pc_call (be_pc hG hP c0 c10 c11 hg.2 c68 hx.1.2.2 hm hmr.1 (fun k hk hb => (hin k hk hb).1)) (fun r10 u11 q => ?_)
  obtain ⟨⟨q1, q2, q3, q4⟩, q5⟩ := q
  obtain ⟨y, _, hy⟩ := after_e (v := m) hx.1 hP hg (b10_self hmr.1) hin w
  have ecy : cdf (nis P (sof x) g (bt m)) P.toNat = cdx P y := (cdx_wh hP hy).symm
  have okk : (v3 = 0 ∨ ((pn (fun k => sty P (sof x) g k || bt m k) 10 : Nat) : Int) ≤ se) ↔ (d = 0 ∨ ((pn (fun k => sty P (sof x) g k || bt m k) 10 : Nat) : Int) ≤ se) := by rw [h3]
  rw [okk] at q5
  have sux : (d = 0 ∨ ((pn (fun k => sty P (sof x) g k || bt m k) 10 : Nat) : Int) ≤ se) → SUX P g se h kn x y := fun ho => ⟨m, ⟨d, f, (drc_se hP).mpr ⟨hD, ho⟩⟩, hy⟩
  have vy : (d = 0 ∨ ((pn (fun k => sty P (sof x) g k || bt m k) 10 : Nat) : Int) ≤ se) → VLS P g se h kn x0 y := fun ho => by
    obtain ⟨n, hn⟩ := hx.2
    exact ⟨wh_sof hy hP.2, n + 1, x, hn, sux ho⟩
  rcases q5 with ⟨n1, e, eu⟩ | ⟨ho, e, eu, e40, nf⟩ | ⟨ho, hr, s1, s2, s3⟩
  · refine pc_ite (fun e2 => by omega) (fun _ => pc_ite (fun _ => pc_some ?_) (fun e2 => absurd e e2))
    rw [eu]
    exact ⟨⟨hG, ⟨hC1, hC2⟩, he0, hE, hS, hU⟩, grr_self w, Or.inr ⟨rfl, fun ho => absurd ho n1⟩⟩
  · refine pc_ite (fun _ => pc_some ?_) (fun e2 => absurd e e2)
    rw [eu]
    refine ⟨⟨hG, ⟨hC1, hC2⟩, he0, hE, hS, hU⟩, grr_self w, Or.inl ⟨rfl, ?_⟩⟩
    have ch : ∀ t : Nat, ∃ z, (t : Int) < w 43 40 → VLS P g se h kn x0 z ∧ w 63 t = cdx P z := fun t => by
      by_cases c : (t : Int) < w 43 40
      · obtain ⟨z, hz⟩ := hC2 t c
        exact ⟨z, fun _ => hz⟩
      · exact ⟨0, fun hh => absurd hh c⟩
    have hF : ∃ F : Nat → Int, ∀ t : Nat, (t : Int) < w 43 40 → VLS P g se h kn x0 (F t) ∧ w 63 t = cdx P (F t) := ⟨fun t => Classical.choose (ch t), fun t => Classical.choose_spec (ch t)⟩
    obtain ⟨F, hF⟩ := hF
    refine ⟨fun i => if i < 3000 then F i else y, fun i hi => ?_, fun i j hi hj e2 => ?_⟩
    · show ∃ t, RCX P g se h kn x0 t (if i < 3000 then F i else y)
      by_cases c : i < 3000
      · rw [if_pos c]; exact (hF i (by omega)).1.2
      · rw [if_neg c]; exact (vy ho).2
    · have e3 : (if i < 3000 then F i else y) = (if j < 3000 then F j else y) := e2
      have new : ∀ t : Nat, (t : Int) < w 43 40 → F t ≠ y := fun t ht ee => by
        apply nf t
        rw [ecy, ← ee, ← (hF t ht).2]
        exact hC1 t ht
      by_cases ci : i < 3000 <;> by_cases cj : j < 3000
      · rw [if_pos ci, if_pos cj] at e3
        have h1 := hC1 i (by omega)
        rw [(hF i (by omega)).2, e3, ← (hF j (by omega)).2] at h1
        exact fnd_one h1 (hC1 j (by omega))
      · rw [if_pos ci, if_neg cj] at e3
        exact absurd e3 (new i (by omega))
      · rw [if_neg ci, if_pos cj] at e3
        exact absurd e3.symm (new j (by omega))
      · omega
  · refine pc_ite (fun e2 => by omega) (fun _ => pc_ite (fun e2 => by omega) (fun _ => pc_gd (fun _ => ?_)))
    have u40 : (0 : Int) ≤ u11 43 40 ∧ u11 43 40 ≤ 3000 := q1.1 43 40
    have u41 : (0 : Int) ≤ u11 43 41 ∧ u11 43 41 ≤ 756000 := q1.1 43 41
    have le40 : w 43 40 ≤ u11 43 40 := by
      rcases s3 with h1 | h1 | h1
      · exfalso; omega
      · rw [h1.2.2.1]; exact Int.le_refl _
      · omega
    have hfn : Fnd u11 (cdf (nis P (sof x) g (bt m)) P.toNat) r10.toNat := by
      rcases s3 with h1 | h1 | h1
      · omega
      · exact h1.2.2.2
      · exact h1.2.2.2
    have rlt : r10 < u11 43 40 := by
      rcases s3 with h1 | h1 | h1
      · omega
      · rw [h1.2.2.1]; exact h1.2.1
      · omega
    have ecr : u11 63 r10.toNat = cdf (nis P (sof x) g (bt m)) P.toNat := by
      obtain ⟨_, _, _, _, e2⟩ := hfn
      exact e2
    have g11 : GRR w u11 := ⟨q2, le40, fun t ht => (s2 t ht).1, by rw [q4]; exact Int.le_refl _, fun e _ => by rw [q3]⟩
    have cod : COD P g se h kn x0 u11 := by
      constructor
      · intro t ht
        by_cases c : (t : Int) < w 43 40
        · rw [(s2 t c).1]; exact s1 _ t (hC1 t c)
        · have et : t = r10.toNat := by
            rcases s3 with h1 | h1 | h1
            · omega
            · rw [h1.2.2.1] at ht; omega
            · omega
          rw [et, ecr]; exact hfn
      · intro t ht
        by_cases c : (t : Int) < w 43 40
        · rw [(s2 t c).1]; exact hC2 t c
        · have et : t = r10.toNat := by
            rcases s3 with h1 | h1 | h1
            · omega
            · rw [h1.2.2.1] at ht; omega
            · omega
          rw [et, ecr, ecy]; exact ⟨y, vy ho, rfl⟩
    have J11 : JIx P g se h kn x0 x fr e0 u11 := by
      refine ⟨q1, cod, by rw [q4]; exact he0, fun e h1 h2 => ?_, fun t ht hs => ?_, fun t ht => ?_⟩
      · rw [q4] at h2
        rw [q3]
        obtain ⟨a1, a2, y', a3, a4⟩ := hE e h1 h2
        have s2' := s2 (w 65 e).toNat (by omega)
        exact ⟨by omega, by rw [s2'.2]; exact a2, y', a3, by rw [s2'.1]; exact a4⟩
      · have c : (t : Int) < w 43 40 := by
          refine Classical.byContradiction fun c => ?_
          rcases s3 with h1 | h1 | h1
          · omega
          · rw [h1.2.2.1] at ht; omega
          · have et : t = r10.toNat := by omega
            rw [et, h1.2.2.1] at hs
            omega
        rw [(s2 t c).2] at hs
        rw [q4, q3]
        exact hS t c hs
      · by_cases c : (t : Int) < w 43 40
        · rw [(s2 t c).2]; exact hU t c
        · rcases s3 with h1 | h1 | h1
          · omega
          · rw [h1.2.2.1] at ht; omega
          · have et : t = r10.toNat := by omega
            rw [et, h1.2.2.1]; omega
    refine pc_ite (fun c => pc_some ⟨J11, g11, Or.inr ⟨rfl, fun _ => ?_⟩⟩) (fun c => ?_)
    · obtain ⟨e, h1, h2, h4⟩ := J11.2.2.2.2.1 r10.toNat (by omega) c
      exact ⟨e, h1, h2, by omega, by rw [h4, show ((r10.toNat : Nat) : Int).toNat = r10.toNat by omega]; exact ecr⟩
    · refine pc_gd (fun _ => pc_lw (fun u12 e12 => pc_gd (fun g12 => pc_lw (fun u13 e13 => pc_lw (fun u14 e14 => pc_some ?_)))))
      have x41 : u12 43 41 = u11 43 41 := by rw [e12, st_c (by decide)]
      rw [x41] at e13 g12
      have y41 : u13 43 41 = u11 43 41 := by rw [e13, st_c (by decide)]; exact x41
      rw [y41, w32_id (by omega)] at e14
      have G12 : G [6699] u11 u12 := g_st (g_self q1) e12 rfl rfl (show (-1 : Int) ≤ fr ∧ fr ≤ 2999 by omega)
      have G13 : G [6599] u12 u13 := g_st (g_self G12) e13 rfl rfl (show (0 : Int) ≤ r10 ∧ r10 ≤ 2999 by omega)
      have G14 : G [4341] u13 u14 := g_st (g_self G13) e14 rfl rfl (show (0 : Int) ≤ u11 43 41 + 1 ∧ u11 43 41 + 1 ≤ 756000 by omega)
      have z41 : u14 43 41 = u11 43 41 + 1 := by rw [e14, st_eq]
      have z40 : u14 43 40 = u11 43 40 := by rw [e14, st_k (by decide), e13, st_c (by decide), e12, st_c (by decide)]
      have z63 : u14 63 = u11 63 := by rw [e14, st_row (by decide), e13, st_row (by decide), e12, st_row (by decide)]
      have z67 : u14 67 = u11 67 := by rw [e14, st_row (by decide), e13, st_row (by decide), e12, st_row (by decide)]
      have z65 : ∀ k, u14 65 k = if k = (u11 43 41).toNat then r10 else u11 65 k := fun k => by
        rw [e14, st_c (by decide), e13]
        by_cases ck : k = (u11 43 41).toNat
        · rw [if_pos ck, ck, st_eq]
        · rw [if_neg ck, st_k ck, e12, st_c (by decide)]
      have z66 : ∀ k, u14 66 k = if k = r10.toNat then fr else u11 66 k := fun k => by
        rw [e14, st_c (by decide), e13, st_c (by decide), e12]
        by_cases ck : k = r10.toNat
        · rw [if_pos ck, ck, st_eq]
        · rw [if_neg ck, st_k ck]
      have f14 : FRX u11 u14 := ⟨fun c a1 a2 a3 a4 a5 => by rw [e14, st_row a1, e13, st_row a3, e12, st_row a4], fun k a1 a2 => by rw [e14, st_k a2, e13, st_c (by decide), e12, st_c (by decide)]⟩
      have g14 : GRR u11 u14 := ⟨f14, by rw [z40]; exact Int.le_refl _, fun t _ => by rw [z63], by omega, fun e he => by rw [z65, if_neg (by omega)]⟩
      refine ⟨⟨g_self G14, ⟨fun t ht => ?_, fun t ht => ?_⟩, by rw [z41, q4]; omega, fun e h1 h2 => ?_, fun t ht hs => ?_, fun t ht => ?_⟩, grr_tr g11 g14, Or.inr ⟨rfl, fun _ => ?_⟩⟩
      · rw [z40] at ht
        rw [z63]
        exact fnd_congr (fun k => by rw [z67]) (fun k => by rw [z63]) (cod.1 t ht)
      · rw [z40] at ht
        rw [z63]; exact cod.2 t ht
      · rw [z41] at h2
        rw [z65, z40, z63]
        by_cases ck : e = (u11 43 41).toNat
        · rw [if_pos ck]
          exact ⟨by omega, by rw [z66, if_pos rfl], y, sux ho, by rw [ecr]; exact ecy⟩
        · rw [if_neg ck]
          obtain ⟨a1, a2, a3⟩ := J11.2.2.2.1 e h1 (by omega)
          refine ⟨a1, ?_, a3⟩
          rw [z66]
          split
          · rfl
          · exact a2
      · rw [z40] at ht
        rw [z66] at hs
        by_cases ck : t = r10.toNat
        · exact ⟨(u11 43 41).toNat, by rw [q4]; omega, by omega, by rw [z65, if_pos rfl]; omega⟩
        · rw [if_neg ck] at hs
          obtain ⟨e, h1, h2, h3'⟩ := J11.2.2.2.2.1 t ht hs
          exact ⟨e, h1, by omega, by rw [z65, if_neg (by omega)]; exact h3'⟩
      · rw [z40] at ht
        rw [z66]
        split
        · exact Int.le_refl _
        · exact J11.2.2.2.2.2 t ht
      · exact ⟨(u11 43 41).toNat, by rw [q4]; omega, by omega, by rw [z65, if_pos rfl, z40]; omega, by rw [z65, if_pos rfl, z63]; exact ecr⟩
/-- all of them -/
theorem gp_pc {P g se : Int} {h kn : Nat → Int} {x0 x fr e0 : Int} (hP : 0 ≤ P ∧ P ≤ 10) (hg : 1 ≤ g ∧ g ≤ 3) (h0 : WH x0 (sof x0) P) (hx : VLS P g se h kn x0 x) (hfr : 0 ≤ fr ∧ fr ≤ 2999) : ∀ (D : Nat) {v2 v3 v4 m : Int} {d : Nat} {f : Int} {w : Wd}, RCx P g se h kn (sof x) w → JIx P g se h kn x0 x fr e0 w → DRC P 20 kn (gs P (sof x)) (fre P (sof x) h) (sty P (sof x) g) d f m → f ≤ v2 → v2 ≤ P → B10 v3 (fun k => bt m k && gs P (sof x) k) → B10 v4 (fun k => bt m k && fre P (sof x) h k) → PC (f_R_goPairs D fr v2 v3 v4 w) (fun r u => JIx P g se h kn x0 x fr e0 u ∧ GRR w u ∧ ((r = 0 ∧ MNY P g se h kn x0) ∨ (r = 1 ∧ ∀ m', EXT P kn (gs P (sof x)) (fre P (sof x) h) (P - v2).toNat m m' → (m' = 0 ∨ ((pn (fun k => sty P (sof x) g k || bt m' k) 10 : Nat) : Int) ≤ se) → EDG e0 u (cdf (nis P (sof x) g (bt m')) P.toNat)))) := by
  intro D
  induction D with
  | zero => intros; exact pc_none
  | succ D ih =>
    intro v2 v3 v4 m d f w hR hJ hD hf2 h2P hB3 hB4
    have hmr := drc_rg hP hD
    have dsj : ∀ k, k < 10 → gs P (sof x) k = true → fre P (sof x) h k = false := gs_fre
    have hm : ior v3 v4 = m := b10_eq (b10_or hB3 hB4) (b10_self hmr.1) (fun k hk => by
      cases hb : bt m k with
      | false => rfl
      | true =>
        rcases (drc_fr hP dsj hD).2.2 k hk hb with ⟨_, e⟩ | e
        · rw [e]; rfl
        · rw [e]; simp)
    have md : ∀ {d : Nat} {f m : Int}, DRC P 20 kn (gs P (sof x)) (fre P (sof x) h) (sty P (sof x) g) d f m → (m = 0 ↔ d = 0) := fun {d f m} hD => by
      have := (drc_pn hP dsj hD).1
      constructor
      · intro e
        rw [e, pn_0 (fun k _ => bt_0 k)] at this; omega
      · intro e
        rw [e] at hD; exact hD.2
    have h3 : v3 = 0 ↔ d = 0 := by
      constructor
      · intro e
        cases d with
        | zero => rfl
        | succ d =>
          rcases (drc_fr hP dsj hD).2.1 with ⟨_, e2⟩ | ⟨k, _, hk, e2, e3⟩
          · exact (md hD).mp e2
          · have this : bt v3 k = (bt m k && gs P (sof x) k) := hB3.2 k hk
            rw [e, bt_0, e2, e3] at this
            cases this
      · intro e
        refine b10_eq hB3 b10_0 (fun k _ => ?_)
        rw [(md hD).mpr e, bt_0]; rfl
    rw [f_R_goPairs]
    unfold f_R_goPairs_b
    rw [hR.1]
    refine pc_ite (fun c => ?_) (fun c => ?_)
    · refine pc_w (leaf_pc hP hg h0 hx hR hJ hfr hD hm h3) (fun r u q => ⟨q.1, q.2.1, ?_⟩)
      rcases q.2.2 with q3 | ⟨q3, q4⟩
      · exact Or.inl q3
      · refine Or.inr ⟨q3, fun m' he ho => ?_⟩
        rw [show (P - v2).toNat = 0 by omega] at he
        have e : m' = m := he
        rw [e] at ho ⊢
        exact q4 (by rw [← md hD]; exact ho)
    · have w1 : w32 (v2 + 1) = v2 + 1 := w32_id (by omega)
      have en : (P - v2).toNat = (P - (v2 + 1)).toNat + 1 := by omega
      have ei : P.toNat - ((P - (v2 + 1)).toNat + 1) = v2.toNat := by omega
      rw [w1]
      refine pc_call (ih hR hJ hD (by omega) (by omega) hB3 hB4) (fun r1 u2 q => ?_)
      obtain ⟨q1, q2, q3⟩ := q
      rcases q3 with ⟨q3, q4⟩ | ⟨q3, q4⟩
      · refine pc_ite (fun _ => pc_some ⟨q1, q2, Or.inl ⟨rfl, q4⟩⟩) (fun e => absurd q3 e)
      · refine pc_ite (fun e => by omega) (fun _ => pc_gd (fun _ => ?_))
        have hR2 := rct_frx hR q2.1
        rw [isG_e, jc_s, hR2.2.2.2.1 v2.toNat (by omega)]
        have egs : gs P (sof x) v2.toNat = gst (sof x v2.toNat) := by
          unfold gs
          rw [show inP P v2.toNat = true from decide_eq_true (by omega)]; rfl
        cases hgs : gst (sof x v2.toNat) with
        | false =>
          refine pc_ite (fun _ => pc_some ⟨q1, q2, Or.inr ⟨rfl, fun m' he ho => ?_⟩⟩) (fun e => absurd rfl e)
          rw [en] at he
          rcases he with he | ⟨o, _, hb, _⟩
          · exact q4 m' he ho
          · rw [ei, egs, hgs] at hb; cases hb
        | true =>
          refine pc_ite (fun e => absurd e (by decide)) (fun _ => ?_)
          obtain ⟨nm, hnm, hnmh⟩ := hR.2.2.2.2.2
          have l109 : ∀ (n : Nat) {v5 : Int} {u : Wd}, 0 ≤ v5 → v5 ≤ P → JIx P g se h kn x0 x fr e0 u → GRR w u → (∀ m', EXT P kn (gs P (sof x)) (fre P (sof x) h) (P - (v2 + 1)).toNat m m' → (m' = 0 ∨ ((pn (fun k => sty P (sof x) g k || bt m' k) 10 : Nat) : Int) ≤ se) → EDG e0 u (cdf (nis P (sof x) g (bt m')) P.toNat)) → (∀ o : Nat, (o : Int) < v5 → fre P (sof x) h o = true → bt (kn v2.toNat) o = true → bt m o = false → ∀ m', EXT P kn (gs P (sof x)) (fre P (sof x) h) (P - (v2 + 1)).toNat (sq m v2.toNat o) m' → (m' = 0 ∨ ((pn (fun k => sty P (sof x) g k || bt m' k) 10 : Nat) : Int) ≤ se) → EDG e0 u (cdf (nis P (sof x) g (bt m')) P.toNat)) → PC (f_R_goPairs_109 (f_R_goPairs D) n fr v2 v3 v4 v5 u) (fun r u => JIx P g se h kn x0 x fr e0 u ∧ GRR w u ∧ ((r = 0 ∧ MNY P g se h kn x0) ∨ (r = 1 ∧ ∀ m', EXT P kn (gs P (sof x)) (fre P (sof x) h) (P - v2).toNat m m' → (m' = 0 ∨ ((pn (fun k => sty P (sof x) g k || bt m' k) 10 : Nat) : Int) ≤ se) → EDG e0 u (cdf (nis P (sof x) g (bt m')) P.toNat)))) := by
            intro n
            induction n with
            | zero => intros; exact pc_none
            | succ n ihn =>
              intro v5 u i5 i5' hJu hgu hA hO
              have hRu := rct_frx hR hgu.1
              rw [f_R_goPairs_109, hRu.1]
              refine pc_ite (fun c5 => pc_some ⟨hJu, hgu, Or.inr ⟨rfl, fun m' he ho => ?_⟩⟩) (fun c5 => pc_gd (fun _ => ?_))
              · rw [en] at he
                rcases he with he | ⟨o, ho10, hb, hfo, hko, hmo, he⟩
                · exact hA m' he ho
                · rw [ei] at hko he
                  have := (fre_sr hfo).1
                  exact hO o (by omega) hfo hko hmo m' he ho
              · have hj := hRu.2.2.2.2.1 v2.toNat (by omega)
                have k5 : (v5.toNat : Int) < P := by omega
                have nm44 : u 43 44 = w 43 44 := hgu.1.2 44 (by decide) (by decide)
                rw [hj.1, nm44]
                have hB := b10_andn (b10_andn (b10_self hj.2) hB4.2) hnm.2
                rw [hasR_10 u hB (by omega), jc_s]
                have nx : ∀ v, JIx P g se h kn x0 x fr e0 v → GRR w v → GRR u v → (fre P (sof x) h v5.toNat = true → bt (kn v2.toNat) v5.toNat = true → bt m v5.toNat = false → ∀ m', EXT P kn (gs P (sof x)) (fre P (sof x) h) (P - (v2 + 1)).toNat (sq m v2.toNat v5.toNat) m' → (m' = 0 ∨ ((pn (fun k => sty P (sof x) g k || bt m' k) 10 : Nat) : Int) ≤ se) → EDG e0 v (cdf (nis P (sof x) g (bt m')) P.toNat)) → PC (f_R_goPairs_182 (f_R_goPairs D) (f_R_goPairs_109 (f_R_goPairs D) n) fr v2 v3 v4 v5 v) (fun r u => JIx P g se h kn x0 x fr e0 u ∧ GRR w u ∧ ((r = 0 ∧ MNY P g se h kn x0) ∨ (r = 1 ∧ ∀ m', EXT P kn (gs P (sof x)) (fre P (sof x) h) (P - v2).toNat m m' → (m' = 0 ∨ ((pn (fun k => sty P (sof x) g k || bt m' k) 10 : Nat) : Int) ≤ se) → EDG e0 u (cdf (nis P (sof x) g (bt m')) P.toNat)))) := fun v hJv hgv huv hnew => by
                  unfold f_R_goPairs_182
                  refine pc_let (fun x7 e7 => ?_)
                  rw [w32_id (by omega)] at e7
                  rw [e7]
                  refine ihn (by omega) (by omega) hJv hgv (fun m' he ho => edg_grr huv (hA m' he ho)) (fun o ho5 a1 a2 a3 m' he ho => ?_)
                  by_cases co : (o : Int) < v5
                  · exact edg_grr huv (hO o co a1 a2 a3 m' he ho)
                  · have eo : o = v5.toNat := by omega
                    rw [eo] at a1 a2 a3 he
                    exact hnew a1 a2 a3 m' he ho
                have fe : fre P (sof x) h v5.toNat = ((sof x v5.toNat == 0) && !nm v5.toNat) := by
                  unfold fre sr
                  rw [show inP P v5.toNat = true from decide_eq_true k5, hnmh v5.toNat k5]; rfl
                cases hc : (bt (kn v2.toNat) v5.toNat && !(bt m v5.toNat && fre P (sof x) h v5.toNat) && !nm v5.toNat) with
                | false =>
                  refine pc_ite (fun _ => nx u hJu hgu (grr_self u) (fun a1 a2 a3 => ?_)) (fun e => absurd rfl e)
                  exfalso
                  rw [fe, Bool.and_eq_true] at a1
                  rw [a2, a3, Bool.false_and, a1.2] at hc
                  cases hc
                | true =>
                  refine pc_ite (fun e => absurd e (by decide)) (fun _ => pc_gd (fun _ => ?_))
                  rw [hRu.2.2.2.1 v5.toNat k5]
                  rw [Bool.and_eq_true, Bool.and_eq_true, Bool.not_eq_true', Bool.not_eq_true'] at hc
                  refine pc_ite (fun z => ?_) (fun z => nx u hJu hgu (grr_self u) (fun a1 _ _ => ?_))
                  · have a1 : fre P (sof x) h v5.toNat = true := by rw [fe, z, hc.2]; rfl
                    have a3 : bt m v5.toNat = false := by
                      have := hc.1.2
                      rw [a1, Bool.and_true] at this
                      exact this
                    have hD' := drc_add hD (i := v2.toNat) (o := v5.toNat) (by omega) (by omega) (by omega) (by rw [egs]; exact hgs) a1 hc.1.1 a3
                    have e2 : v2 = ((v2.toNat : Nat) : Int) := by omega
                    have e5 : v5 = ((v5.toNat : Nat) : Int) := by omega
                    have o2 := or1_b hB3.1 (o := v2.toNat) (by omega)
                    have o5 := or1_b hB4.1 (o := v5.toNat) (by omega)
                    rw [← e2] at o2
                    rw [← e5] at o5
                    rw [w1]
                    refine pc_call (ih hRu hJu hD' (by omega) (by omega) (b10_w o2 (fun k hk => ?_)) (b10_w o5 (fun k hk => ?_))) (fun r8 u9 q8 => ?_)
                    · rw [hB3.2 k hk, sq_t hmr.1 (by omega) (by omega) hk]
                      by_cases c1 : k = v2.toNat
                      · rw [c1, egs, hgs, decide_eq_true rfl]; simp
                      · rw [decide_eq_false c1]
                        by_cases c2 : k = v5.toNat
                        · have : gs P (sof x) k = false := by
                            cases hh : gs P (sof x) k with
                            | false => rfl
                            | true => rw [c2] at hh; rw [dsj v5.toNat (by omega) hh] at a1; cases a1
                          simp [this]
                        · rw [decide_eq_false c2]; simp
                    · rw [hB4.2 k hk, sq_t hmr.1 (by omega) (by omega) hk]
                      by_cases c2 : k = v5.toNat
                      · rw [c2, a1, decide_eq_true rfl]; simp
                      · rw [decide_eq_false c2]
                        by_cases c1 : k = v2.toNat
                        · have : fre P (sof x) h k = false := by rw [c1]; exact dsj v2.toNat (by omega) (by rw [egs]; exact hgs)
                          simp [this]
                        · rw [decide_eq_false c1]; simp
                    · obtain ⟨p1, p2, p3⟩ := q8
                      rcases p3 with ⟨p3, p4⟩ | ⟨p3, p4⟩
                      · refine pc_ite (fun _ => pc_some ⟨p1, grr_tr hgu p2, Or.inl ⟨rfl, p4⟩⟩) (fun e => absurd p3 e)
                      · refine pc_ite (fun e => by omega) (fun _ => nx u9 p1 (grr_tr hgu p2) p2 (fun _ _ _ m' he ho => p4 m' he ho))
                  · rw [fe, beq_eq_false_iff_ne.mpr z] at a1
                    cases a1
          exact l109 FU (by decide) hP.1 q1 q2 q4 (fun o ho => by omega)
/-! THE REFERENCE'S SEARCH -/
def EDS (P g se : Int) (h kn : Nat → Int) (x0 : Int) (w : Wd) (s : Nat) (hi : Int) : Prop := ∀ x, VLS P g se h kn x0 x → w 63 s = cdx P x → (∀ e : Nat, w 64 s ≤ (e : Int) → (e : Int) < hi → (0 ≤ w 65 e ∧ w 65 e < w 43 40) ∧ ∃ y, SUX P g se h kn x y ∧ w 63 (w 65 e).toNat = cdx P y) ∧ ∀ y, SUX P g se h kn x y → ∃ e : Nat, w 64 s ≤ (e : Int) ∧ (e : Int) < hi ∧ (0 ≤ w 65 e ∧ w 65 e < w 43 40) ∧ w 63 (w 65 e).toNat = cdx P y
def nxe (w : Wd) (v2 : Int) (s : Nat) : Int := if (s : Int) + 1 < v2 then w 64 (s + 1) else w 43 41
def RSI (P g se : Int) (h kn : Nat → Int) (x0 v2 : Int) (w : Wd) : Prop := G [] w w ∧ COD P g se h kn x0 w ∧ (0 ≤ v2 ∧ v2 ≤ w 43 40) ∧ 1 ≤ w 43 40 ∧ w 63 0 = cdx P x0 ∧ (∀ t : Nat, (t : Int) < w 43 40 → w 66 t < v2) ∧ ∀ s : Nat, (s : Int) < v2 → (0 ≤ w 64 s ∧ w 64 s ≤ nxe w v2 s ∧ nxe w v2 s ≤ w 43 41) ∧ EDS P g se h kn x0 w s (nxe w v2 s)
/-- what the reference's search found, where it ended well -/
def RLI (P g se : Int) (h kn : Nat → Int) (x0 : Int) (w : Wd) : Prop := (1 ≤ w 43 40 ∧ w 43 40 ≤ 3000) ∧ (∀ i j : Nat, (i : Int) < w 43 40 → (j : Int) < w 43 40 → w 63 i = w 63 j → i = j) ∧ (∀ t : Nat, (t : Int) < w 43 40 → ∃ x, VLS P g se h kn x0 x ∧ w 63 t = cdx P x) ∧ (∀ x, VLS P g se h kn x0 x → ∃ t : Nat, (t : Int) < w 43 40 ∧ w 63 t = cdx P x) ∧ w 63 0 = cdx P x0 ∧ ∀ s : Nat, (s : Int) < w 43 40 → (0 ≤ w 64 s ∧ w 64 s ≤ w 64 (s + 1)) ∧ EDS P g se h kn x0 w s (w 64 (s + 1))
/-- what may have changed -/
def FRY (w u : Wd) : Prop := (∀ c, c ≠ 43 → c ≠ 63 → c ≠ 64 → c ≠ 65 → c ≠ 66 → c ≠ 67 → c ≠ 68 → u c = w c) ∧ ∀ k, k ≠ 40 → k ≠ 41 → k ≠ 44 → u 43 k = w 43 k
theorem fs53 {P g se : Int} {h kn : Nat → Int} {x0 : Int} {b : Wd} (hP : 0 ≤ P ∧ P ≤ 10) (hg : 1 ≤ g ∧ g ≤ 3) (h0 : WH x0 (sof x0) P) : ∀ (n : Nat) {v2 : Int} {w : Wd}, FRY b w → w 43 0 = P → w 43 10 = g → w 43 11 = se → (∀ j : Nat, (j : Int) < P → w 45 j = kn j ∧ 0 ≤ kn j ∧ kn j ≤ 1023) → (∃ nm, B10 (w 43 44) nm ∧ ∀ k : Nat, (k : Int) < P → nm k = hB P h k) → RSI P g se h kn x0 v2 w → PC (f_R_findStates_53 n v2 w) (fun r u => FRY b u ∧ G [] u u ∧ ((r = 0 ∧ MNY P g se h kn x0) ∨ (r = 1 ∧ RLI P g se h kn x0 u))) := by
  intro n
  induction n with
  | zero => intros; exact pc_none
  | succ n ih =>
    intro v2 w hF c0 c10 c11 c45 c44 hI
    obtain ⟨hG, hC, hv, h1, hz, hU, hE⟩ := hI
    rw [f_R_findStates_53]
    have a40 : (0 : Int) ≤ w 43 40 ∧ w 43 40 ≤ 3000 := hG.1 43 40
    have a41 : (0 : Int) ≤ w 43 41 ∧ w 43 41 ≤ 756000 := hG.1 43 41
    refine pc_ite (fun c => ?_) (fun c => ?_)
    · refine pc_gd (fun _ => pc_lw (fun u e => pc_some ?_))
      have ev : v2 = w 43 40 := by omega
      have G1 : G [6499] w u := g_st (g_self hG) e rfl rfl (show (0 : Int) ≤ w 43 41 ∧ w 43 41 ≤ 756000 by omega)
      have ro : ∀ c, c ≠ 64 → u c = w c := fun c hc => by rw [e, st_row hc]
      have z64 : ∀ k, u 64 k = if k = (w 43 40).toNat then w 43 41 else w 64 k := fun k => by
        rw [e]
        by_cases ck : k = (w 43 40).toNat
        · rw [if_pos ck, ck, st_eq]
        · rw [if_neg ck, st_k ck]
      have r43 := ro 43 (by decide)
      have nx : ∀ s : Nat, (s : Int) < w 43 40 → u 64 (s + 1) = nxe w v2 s := fun s hs => by
        unfold nxe
        rw [z64]
        by_cases cs : (s : Int) + 1 < v2
        · rw [if_pos cs, if_neg (by omega)]
        · rw [if_neg cs, if_pos (by omega)]
      have closed : ∀ (t : Nat) (x : Int), RCX P g se h kn x0 t x → ∃ i : Nat, (i : Int) < w 43 40 ∧ w 63 i = cdx P x := by
        intro t
        induction t with
        | zero => intro x ex; exact ⟨0, by omega, by rw [show x = x0 from ex]; exact hz⟩
        | succ t iht =>
          rintro x ⟨y, hy, hs⟩
          obtain ⟨i, hi, ei⟩ := iht y hy
          obtain ⟨e', _, _, h3, h4⟩ := ((hE i (by omega)).2 y ⟨rx_wh hP h0 hy, t, hy⟩ ei).2 x hs
          exact ⟨(w 65 e').toNat, by omega, h4⟩
      refine ⟨⟨fun c a1 a2 a3 a4 a5 a6 a7 => (ro c a3).trans (hF.1 c a1 a2 a3 a4 a5 a6 a7), fun k a b c => by rw [r43]; exact hF.2 k a b c⟩, g_self G1, Or.inr ⟨rfl, ?_⟩⟩
      unfold RLI
      rw [r43, ro 63 (by decide)]
      refine ⟨⟨h1, a40.2⟩, fun i j hi hj e2 => ?_, hC.2, fun x hx => ?_, hz, fun s hs => ?_⟩
      · have f1 := hC.1 i hi
        rw [e2] at f1
        exact fnd_one f1 (hC.1 j hj)
      · obtain ⟨t, ht⟩ := hx.2
        exact closed t x ht
      · obtain ⟨e1, e2⟩ := hE s (by omega)
        have es : u 64 s = w 64 s := by rw [z64, if_neg (by omega)]
        rw [nx s hs, es]
        refine ⟨by omega, ?_⟩
        unfold EDS
        rw [es, r43, ro 63 (by decide), ro 65 (by decide)]
        exact e2
    · refine pc_gd (fun _ => pc_lw (fun u11 e11 => ?_))
      have G1 : G [6499] w u11 := g_st (g_self hG) e11 rfl rfl (show (0 : Int) ≤ w 43 41 ∧ w 43 41 ≤ 756000 by omega)
      have ro : ∀ c, c ≠ 64 → u11 c = w c := fun c hc => by rw [e11, st_row hc]
      have z64 : ∀ k, u11 64 k = if k = v2.toNat then w 43 41 else w 64 k := fun k => by
        rw [e11]
        by_cases ck : k = v2.toNat
        · rw [if_pos ck, ck, st_eq]
        · rw [if_neg ck, st_k ck]
      have ev : v2 = ((v2.toNat : Nat) : Int) := by omega
      obtain ⟨x, hx, ex⟩ := hC.2 v2.toNat (by omega)
      have hld := load_pc (P := P) (s := sof x) (w := u11) (t := v2.toNat) hP (by rw [ro 43 (by decide)]; exact c0) hx.1.2.2 (by rw [ro 63 (by decide)]; exact ex)
      rw [← ev] at hld
      refine pc_call (pc_and hld (pc_ok (s_R_load (g_self G1) (by omega)))) (fun r12 u13 q => ?_)
      obtain ⟨⟨q1, q2⟩, _, q3⟩ := q
      have G13 : G [] u13 u13 := g_self q3
      have rr : ∀ c, c ≠ 64 → c ≠ 68 → u13 c = w c := fun c a b => (q2 c b).trans (ro c a)
      have r43 := rr 43 (by decide) (by decide)
      have r63 := rr 63 (by decide) (by decide)
      have r65 := rr 65 (by decide) (by decide)
      have r66 := rr 66 (by decide) (by decide)
      have r67 := rr 67 (by decide) (by decide)
      have hR : RCx P g se h kn (sof x) u13 := by
        refine ⟨by rw [r43]; exact c0, by rw [r43]; exact c10, by rw [r43]; exact c11, q1, fun j hj => ?_, ?_⟩
        · rw [rr 45 (by decide) (by decide)]; exact c45 j hj
        · rw [r43]; exact c44
      have cod13 : COD P g se h kn x0 u13 := by
        unfold COD
        rw [r43, r63]
        exact ⟨fun t ht => fnd_congr (fun k => by rw [r67]) (fun k => by rw [r63]) (hC.1 t ht), hC.2⟩
      have hJ : JIx P g se h kn x0 x v2 (w 43 41) u13 := by
        refine ⟨G13, cod13, by rw [r43]; omega, fun e h1 h2 => ?_, fun t ht hs => ?_, fun t ht => ?_⟩
        · rw [r43] at h2; omega
        · rw [r43] at ht
          rw [r66] at hs
          have := hU t ht; omega
        · rw [r43] at ht
          rw [r66]
          have := hU t ht; omega
      refine pc_call (gp_pc hP hg h0 hx (by omega) 16 (m := 0) (d := 0) (f := 0) hR hJ ⟨rfl, rfl⟩ (by decide) hP.1 (b10_w b10_0 (fun k _ => by rw [bt_0]; rfl)) (b10_w b10_0 (fun k _ => by rw [bt_0]; rfl))) (fun r14 u15 q => ?_)
      obtain ⟨q4, q5, q6⟩ := q
      have f13 : FRY b u13 := ⟨fun c a1 a2 a3 a4 a5 a6 a7 => (rr c a3 a7).trans (hF.1 c a1 a2 a3 a4 a5 a6 a7), fun k a b c => by rw [r43]; exact hF.2 k a b c⟩
      have f15 : FRY b u15 := ⟨fun c a1 a2 a3 a4 a5 a6 a7 => (q5.1.1 c a1 a2 a4 a5 a6).trans (f13.1 c a1 a2 a3 a4 a5 a6 a7), fun k a b c => (q5.1.2 k a b).trans (f13.2 k a b c)⟩
      rcases q6 with ⟨q6, q7⟩ | ⟨q6, q7⟩
      · refine pc_ite (fun _ => pc_some ⟨f15, q4.1, Or.inl ⟨rfl, q7⟩⟩) (fun e => absurd q6 e)
      · refine pc_ite (fun e => by omega) (fun _ => pc_let (fun x16 e16 => ?_))
        rw [w32_id (by omega)] at e16
        rw [e16]
        obtain ⟨g1, g2, g3, g4, g5⟩ := q5
        rw [r43] at g2 g3 g4 g5
        rw [r63] at g3
        rw [r65] at g5
        have u64 : u15 64 = u11 64 := (g1.1 64 (by decide) (by decide) (by decide) (by decide) (by decide)).trans (q2 64 (by decide))
        have b40 : (0 : Int) ≤ u15 43 40 ∧ u15 43 40 ≤ 3000 := q4.1.1 43 40
        refine ih f15 (by rw [g1.2 0 (by decide) (by decide), r43]; exact c0) (by rw [g1.2 10 (by decide) (by decide), r43]; exact c10) (by rw [g1.2 11 (by decide) (by decide), r43]; exact c11) (fun j hj => by rw [g1.1 45 (by decide) (by decide) (by decide) (by decide) (by decide), rr 45 (by decide) (by decide)]; exact c45 j hj) (by rw [g1.2 44 (by decide) (by decide), r43]; exact c44) ⟨q4.1, q4.2.1, by omega, by omega, by rw [g3 0 (by omega)]; exact hz, fun t ht => by have := q4.2.2.2.2.2 t ht; omega, fun s hs => ?_⟩
        by_cases cs : (s : Int) < v2
        · obtain ⟨e1, e2⟩ := hE s cs
          have es : u15 64 s = w 64 s := by rw [u64, z64, if_neg (by omega)]
          have en : nxe u15 (v2 + 1) s = nxe w v2 s := by
            unfold nxe
            rw [if_pos (by omega), u64, z64]
            by_cases cs2 : (s : Int) + 1 < v2
            · rw [if_pos cs2, if_neg (by omega)]
            · rw [if_neg cs2, if_pos (by omega)]
          rw [en, es]
          refine ⟨by omega, fun y hy ey => ?_⟩
          rw [g3 s (by omega)] at ey
          obtain ⟨b1, b2⟩ := e2 y hy ey
          rw [es]
          refine ⟨fun e h1 h2 => ?_, fun z hz' => ?_⟩
          · obtain ⟨b3, z, b4, b5⟩ := b1 e h1 h2
            rw [g5 e (by omega), g3 _ (by omega)]
            exact ⟨by omega, z, b4, b5⟩
          · obtain ⟨e, b3, b4, b5, b6'⟩ := b2 z hz'
            exact ⟨e, b3, b4, by rw [g5 e (by omega)]; omega, by rw [g5 e (by omega), g3 _ (by omega)]; exact b6'⟩
        · have es : s = v2.toNat := by omega
          have e64 : u15 64 s = w 43 41 := by rw [u64, z64, if_pos es]
          have en : nxe u15 (v2 + 1) s = u15 43 41 := by unfold nxe; rw [if_neg (by omega)]
          rw [en, e64]
          refine ⟨by omega, fun y hy ey => ?_⟩
          have eyx : y = x := cdx_inj hP hy.1 hx.1 (by rw [← ey, es, g3 _ (by omega)]; exact ex)
          rw [eyx, e64]
          refine ⟨fun e h1 h2 => ?_, fun z hz' => ?_⟩
          · obtain ⟨b3, _, b4⟩ := q4.2.2.2.1 e h1 h2
            exact ⟨b3, b4⟩
          · obtain ⟨m, ⟨d, f, hD⟩, hwz⟩ := hz'
            obtain ⟨hD2, hso⟩ := (drc_se hP).mp hD
            have hso2 : m = 0 ∨ ((pn (fun k => sty P (sof x) g k || bt m k) 10 : Nat) : Int) ≤ se := by
              rcases hso with e | e
              · left; rw [e] at hD2; exact hD2.2
              · exact Or.inr e
            have := q7 m (by rw [show (P - 0).toNat = P.toNat by omega]; exact ext_all hP hD2) hso2
            obtain ⟨e, b3, b4, b5, b6'⟩ := this
            exact ⟨e, b3, b4, b5, by rw [b6']; exact (cdx_wh hP hwz).symm⟩
theorem fs12 {P g se : Int} {h kn : Nat → Int} {x0 : Int} {b : Wd} (hP : 0 ≤ P ∧ P ≤ 10) (hg : 1 ≤ g ∧ g ≤ 3) (h0 : WH x0 (sof x0) P) : ∀ (n : Nat) {v2 : Int} {w : Wd}, FRY b w → G [] w w → (0 ≤ v2 ∧ v2 ≤ 8192) → (∀ p : Nat, (p : Int) < v2 → w 67 p = 0) → w 43 0 = P → w 43 10 = g → w 43 11 = se → (∀ k : Nat, (k : Int) < P → w 47 k = sof x0 k) → (∀ j : Nat, (j : Int) < P → w 45 j = kn j ∧ 0 ≤ kn j ∧ kn j ≤ 1023) → (∃ nm, B10 (w 43 44) nm ∧ ∀ k : Nat, (k : Int) < P → nm k = hB P h k) → PC (f_R_findStates_12 n v2 w) (fun r u => FRY b u ∧ G [] u u ∧ ((r = 0 ∧ MNY P g se h kn x0) ∨ (r = 1 ∧ RLI P g se h kn x0 u))) := by
  intro n
  induction n with
  | zero => intros; exact pc_none
  | succ n ih =>
    intro v2 w hF hG i2 hz c0 c10 c11 c47 c45 c44
    rw [f_R_findStates_12]
    refine pc_ite (fun c => ?_) (fun c => ?_)
    · have hz' : ∀ p, p < 8192 → w 67 p = 0 := fun p hp => hz p (by omega)
      refine pc_lw (fun u4 e4 => pc_lw (fun u5 e5 => ?_))
      have t67 : ∀ p, u4 67 p = w 67 p := fun p => by rw [e4, st_c (by decide)]
      have t40 : u4 43 40 = 0 := by rw [e4, st_eq]
      have g4 : G [4340] w u4 := by
        refine g_st0 (g_self hG) e4 rfl ⟨?_, ?_⟩ (show (0 : Int) ≤ 0 ∧ (0 : Int) ≤ 3000 by decide)
        · intro p q hp hq e hn
          rw [t67, hz' p hp] at hn
          exact absurd rfl hn
        · intro p hp
          rw [t67, hz' p hp, t40]; exact Int.le_refl _
      have g5 : G [4341] u4 u5 := g_st (g_self g4) e5 rfl rfl (show (0 : Int) ≤ 0 ∧ (0 : Int) ≤ 756000 by decide)
      have ro : ∀ c, c ≠ 43 → u5 c = w c := fun c hc => by rw [e5, st_row hc, e4, st_row hc]
      have rk : ∀ k, k ≠ 40 → k ≠ 41 → u5 43 k = w 43 k := fun k a b => by rw [e5, st_k b, e4, st_k a]
      have f40 : u5 43 40 = 0 := by rw [e5, st_k (by decide)]; exact t40
      have f41 : u5 43 41 = 0 := by rw [e5, st_eq]
      refine pc_call (cnow_pc (s := sof x0) hP (by rw [rk 0 (by decide) (by decide)]; exact c0) (fun k hk => by rw [ro 47 (by decide)]; exact c47 k hk) h0.2.2) (fun r6 u7 q => ?_)
      rw [q.1, q.2]
      have cr := cdx_rg hP h0
      have ecd : cdf (sof x0) P.toNat = cdx P x0 := rfl
      rw [ecd]
      refine pc_call (so_pc (g_self g5) (by omega)) (fun r8 u9 z => ?_)
      obtain ⟨⟨z1, z2, z3, z4⟩, ⟨s1, s2, s3⟩, z6⟩ := z
      rw [f40] at s2 s3
      rw [f41] at z4
      have s3' : r8 = 0 ∧ u9 43 40 = 0 + 1 ∧ u9 66 r8.toNat = -1 ∧ Fnd u9 (cdx P x0) r8.toNat := by
        rcases s3 with h1 | h1 | h1
        · exfalso; have := h1.2.2; omega
        · exfalso; omega
        · exact h1
      obtain ⟨y1, y2, y3, y4⟩ := s3'
      rw [y1] at y3 y4
      have y5 : u9 63 0 = cdx P x0 := by
        obtain ⟨_, _, _, _, e⟩ := y4
        exact e
      have f9 : FRY b u9 := ⟨fun c a1 a2 a3 a4 a5 a6 a7 => ((z2.1 c a1 a2 a4 a5 a6).trans (ro c a1)).trans (hF.1 c a1 a2 a3 a4 a5 a6 a7), fun k a b c => ((z2.2 k a b).trans (rk k a b)).trans (hF.2 k a b c)⟩
      refine fs53 hP hg h0 FU f9 (by rw [z2.2 0 (by decide) (by decide), rk 0 (by decide) (by decide)]; exact c0) (by rw [z2.2 10 (by decide) (by decide), rk 10 (by decide) (by decide)]; exact c10) (by rw [z2.2 11 (by decide) (by decide), rk 11 (by decide) (by decide)]; exact c11) (fun j hj => by rw [z2.1 45 (by decide) (by decide) (by decide) (by decide) (by decide), ro 45 (by decide)]; exact c45 j hj) (by rw [z2.2 44 (by decide) (by decide), rk 44 (by decide) (by decide)]; exact c44) ⟨z1, ⟨fun t ht => ?_, fun t ht => ?_⟩, by omega, by omega, y5, fun t ht => ?_, fun s hs => by omega⟩
      · rw [show t = 0 by omega, y5]; exact y4
      · rw [show t = 0 by omega, y5]; exact ⟨x0, ⟨h0, 0, rfl⟩, rfl⟩
      · rw [show t = 0 by omega]
        have e : u9 66 0 = -1 := y3
        rw [e]; decide
    · refine pc_gd (fun _ => pc_lw (fun u17 e17 => pc_let (fun x18 e18 => ?_)))
      rw [w32_id (by omega)] at e18
      rw [e18]
      have ro : ∀ c, c ≠ 67 → u17 c = w c := fun c hc => by rw [e17, st_row hc]
      have t67 : ∀ p, u17 67 p = if p = v2.toNat then 0 else w 67 p := fun p => by
        rw [e17]
        by_cases hp : p = v2.toNat
        · rw [if_pos hp, hp, st_eq]
        · rw [if_neg hp, st_k hp]
      have a40 : (0 : Int) ≤ w 43 40 ∧ w 43 40 ≤ 3000 := hG.1 43 40
      have g17 : G [6799] w u17 := by
        refine g_st0 (g_self hG) e17 rfl ⟨?_, ?_⟩ (show (0 : Int) ≤ 0 ∧ (0 : Int) ≤ 3000 by decide)
        · intro p q hp hq e hn
          rw [t67] at hn
          rw [t67, t67] at e
          by_cases h1 : p = v2.toNat
          · rw [if_pos h1] at hn; exact absurd rfl hn
          · rw [if_neg h1] at hn e
            by_cases h2 : q = v2.toNat
            · rw [if_pos h2] at e; exact absurd e hn
            · rw [if_neg h2] at e
              exact hG.2.2.1 p q hp hq e hn
        · intro p hp
          rw [t67, ro 43 (by decide)]
          split
          · omega
          · exact hG.2.2.2 p hp
      have r43 := ro 43 (by decide)
      refine ih ⟨fun c a1 a2 a3 a4 a5 a6 a7 => (ro c a6).trans (hF.1 c a1 a2 a3 a4 a5 a6 a7), fun k a b c => by rw [r43]; exact hF.2 k a b c⟩ (g_self g17) (by omega) (fun p hp => ?_) (by rw [r43]; exact c0) (by rw [r43]; exact c10) (by rw [r43]; exact c11) (fun k hk => by rw [ro 47 (by decide)]; exact c47 k hk) (fun j hj => by rw [ro 45 (by decide)]; exact c45 j hj) (by rw [r43]; exact c44)
      rw [t67]
      split
      · rfl
      · exact hz p (by omega)
/-- the search of the reference, some more being HIDDEN -/
theorem fst_pc {P g se : Int} {h kn : Nat → Int} {x0 v1 : Int} {w : Wd} (hP : 0 ≤ P ∧ P ≤ 10) (hg : 1 ≤ g ∧ g ≤ 3) (h0 : WH x0 (sof x0) P) (hG : G [] w w) (c0 : w 43 0 = P) (c10 : w 43 10 = g) (c11 : w 43 11 = se) (c47 : ∀ k : Nat, (k : Int) < P → w 47 k = sof x0 k) (c45 : ∀ j : Nat, (j : Int) < P → w 45 j = kn j ∧ 0 ≤ kn j ∧ kn j ≤ 1023) (hv : 0 ≤ v1 ∧ v1 ≤ 1023) (hh : ∀ k : Nat, (k : Int) < P → (hB P (w 46) k || bt v1 k) = hB P h k) : PC (f_R_findStates v1 w) (fun r u => FRY w u ∧ G [] u u ∧ ((r = 0 ∧ MNY P g se h kn x0) ∨ (r = 1 ∧ RLI P g se h kn x0 u))) := by
  unfold f_R_findStates
  refine pc_call (hidden_e (w := w) (by omega)) (fun r1 u2 q => ?_)
  rw [q.1]
  have q2 := q.2
  rw [c0] at q2
  refine pc_lw (fun u3 e3 => ?_)
  have hB1 := b10_or q2 (b10_self hv)
  have hr := hB1.1
  have g3 : G [4344] w u3 := g_st (g_self hG) e3 rfl rfl (show (0 : Int) ≤ ior r1 v1 ∧ ior r1 v1 ≤ 1023 by omega)
  have ro : ∀ c, c ≠ 43 → u3 c = w c := fun c hc => by rw [e3, st_row hc]
  have rk : ∀ k, k ≠ 44 → u3 43 k = w 43 k := fun k hk => by rw [e3, st_k hk]
  refine fs12 hP hg h0 FU ⟨fun c a1 _ _ _ _ _ _ => ro c a1, fun k _ _ c => rk k c⟩ (g_self g3) (by decide) (fun p hp => by omega) (by rw [rk 0 (by decide)]; exact c0) (by rw [rk 10 (by decide)]; exact c10) (by rw [rk 11 (by decide)]; exact c11) (fun k hk => by rw [ro 47 (by decide)]; exact c47 k hk) (fun j hj => by rw [ro 45 (by decide)]; exact c45 j hj) ⟨fun k => hB P (w 46) k || bt v1 k, by rw [e3, st_eq]; exact hB1, hh⟩
/-! THE MOST, THE LEAST, ALL OF SOME -/
def OrI (X : Nat → Int) (N : Int) (S : Int → Prop) (F : Int → Nat → Bool) (r : Int) : Prop := (0 ≤ r ∧ r ≤ 1023) ∧ ∀ q, q < 10 → (bt r q = true ↔ ∃ k : Nat, (k : Int) < N ∧ S (X k) ∧ F (X k) q = true)
theorem ori_0 {X : Nat → Int} {S : Int → Prop} {F : Int → Nat → Bool} : OrI X 0 S F 0 := ⟨by decide, fun q _ => by rw [bt_0]; exact ⟨(fun h => by cases h), (fun h => by obtain ⟨k, hk, _⟩ := h; omega)⟩⟩
theorem ori_y {X : Nat → Int} {v : Int} {S : Int → Prop} {F : Int → Nat → Bool} {r z : Int} (h : OrI X v S F r) (hv : 0 ≤ v) (hs : S (X v.toNat)) (hz : B10 z (F (X v.toNat))) : OrI X (v + 1) S F (ior r z) := by
  have hb := b10_or (b10_self h.1) hz
  refine ⟨hb.1, fun q hq => ?_⟩
  have e : bt (ior r z) q = (bt r q || F (X v.toNat) q) := hb.2 q hq
  rw [e, Bool.or_eq_true, h.2 q hq]
  constructor
  · rintro (⟨k, hk, a, b⟩ | b)
    · exact ⟨k, by omega, a, b⟩
    · exact ⟨v.toNat, by omega, hs, b⟩
  · rintro ⟨k, hk, a, b⟩
    by_cases c : (k : Int) < v
    · exact Or.inl ⟨k, c, a, b⟩
    · rw [show k = v.toNat by omega] at b; exact Or.inr b
/-! WHAT THE CLASS FOUND: a list of all STATES -/
def CLI (P g se : Int) (h kn : Nat → Int) (x0 : Int) (w : Wd) : Prop := (0 ≤ w 28 7 ∧ w 28 7 ≤ 3000) ∧ (∀ i j : Nat, (i : Int) < w 28 7 → (j : Int) < w 28 7 → w 30 i = w 30 j → i = j) ∧ (∀ k : Nat, (k : Int) < w 28 7 → VLS P g se h kn x0 (w 30 k)) ∧ (∀ x, VLS P g se h kn x0 x → ∃ k : Nat, (k : Int) < w 28 7 ∧ w 30 k = x) ∧ ∀ k : Nat, (k : Int) < w 28 7 → ∀ t, t < 61 → (b6 (w 31 k) t = true ↔ RCX P g se h kn x0 t (w 30 k))
theorem src_cli {P g se : Int} {h kn : Nat → Int} {x0 : Int} {w : Wd} (hP : 0 ≤ P ∧ P ≤ 10) (h0 : WH x0 (sof x0) P) (hs : SRC P g se h kn x0 w) : CLI P g se h kn x0 w := by
  obtain ⟨⟨hT, hS⟩, hX, hC, _, _, _⟩ := hs
  have all : ∀ (t : Nat) (x : Int), RCX P g se h kn x0 t x → ∃ k : Nat, (k : Int) < w 28 7 ∧ w 30 k = x ∧ (t < 61 → b6 (w 31 k) t = true) := by
    intro t
    induction t with
    | zero =>
      intro x e
      obtain ⟨k, hk, e2, hb⟩ := hX
      exact ⟨k, hk, by rw [e2]; exact (show x = x0 from e).symm, fun _ => hb⟩
    | succ t ih =>
      rintro x ⟨y, hy, hsx⟩
      obtain ⟨k, hk, e, hb⟩ := ih y hy
      rw [← e] at hsx
      obtain ⟨j, hj, ej, ht⟩ := hC k hk x hsx
      exact ⟨j, hj, ej, fun h61 => ht t h61 (hb (by omega))⟩
  refine ⟨hT.2.2.1, fun i j hi hj e => tc_one hT hi hj e, fun k hk => ?_, fun x hx => ?_, fun k hk t ht => ⟨fun hb => (hS k hk).2 t ht hb, fun hr => ?_⟩⟩
  · obtain ⟨t, hr⟩ := (hS k hk).1
    exact ⟨rx_wh hP h0 hr, t, hr⟩
  · obtain ⟨t, hr⟩ := hx.2
    obtain ⟨k, hk, e, _⟩ := all t x hr
    exact ⟨k, hk, e⟩
  · obtain ⟨j, hj, e, hb⟩ := all t (w 30 k) hr
    rw [tc_one hT hk hj e.symm]
    exact hb ht
/-- too many for one is too many for both -/
theorem cli_mny {P g se : Int} {h kn : Nat → Int} {x0 : Int} {w : Wd} (hP : 0 ≤ P ∧ P ≤ 10) (h0 : WH x0 (sof x0) P) (hc : CLI P g se h kn x0 w) : ¬ MNY P g se h kn x0 := by
  rintro ⟨F, hF, hI⟩
  obtain ⟨h1, h2, h3, h4, _⟩ := hc
  have ch : ∀ i : Nat, ∃ k : Nat, i < 3001 → (k : Int) < w 28 7 ∧ w 30 k = F i := fun i => by
    by_cases c : i < 3001
    · obtain ⟨t, ht⟩ := hF i c
      obtain ⟨k, hk, e⟩ := h4 (F i) ⟨rx_wh hP h0 ht, t, ht⟩
      exact ⟨k, fun _ => ⟨hk, e⟩⟩
    · exact ⟨0, fun hh => absurd hh c⟩
  have := php (w 28 7).toNat 3001 (fun i => Classical.choose (ch i)) (fun i hi => by
    have := (Classical.choose_spec (ch i) hi).1
    show Classical.choose (ch i) < (w 28 7).toNat
    omega) (fun i j hi hj e => by
    have a := (Classical.choose_spec (ch i) hi).2
    have b := (Classical.choose_spec (ch j) hj).2
    have e2 : Classical.choose (ch i) = Classical.choose (ch j) := e
    rw [e2] at a
    exact hI i j hi hj (a.symm.trans b))
  omega
/-- what the reference found, as STATES -/
theorem rli_x {P g se : Int} {h kn : Nat → Int} {x0 : Int} {w : Wd} (hP : 0 ≤ P ∧ P ≤ 10) (hr : RLI P g se h kn x0 w) : ∃ X : Nat → Int, (∀ t : Nat, (t : Int) < w 43 40 → VLS P g se h kn x0 (X t) ∧ w 63 t = cdx P (X t)) ∧ ∀ x, VLS P g se h kn x0 x → ∃ t : Nat, (t : Int) < w 43 40 ∧ X t = x := by
  obtain ⟨h1, h2, h3, h4, _⟩ := hr
  have ch : ∀ t : Nat, ∃ x, (t : Int) < w 43 40 → VLS P g se h kn x0 x ∧ w 63 t = cdx P x := fun t => by
    by_cases c : (t : Int) < w 43 40
    · obtain ⟨x, hx⟩ := h3 t c
      exact ⟨x, fun _ => hx⟩
    · exact ⟨0, fun hh => absurd hh c⟩
  refine ⟨fun t => Classical.choose (ch t), fun t ht => Classical.choose_spec (ch t) ht, fun x hx => ?_⟩
  obtain ⟨t, ht, e⟩ := h4 x hx
  obtain ⟨a, b⟩ := Classical.choose_spec (ch t) ht
  exact ⟨t, ht, cdx_inj hP a.1 hx.1 (by rw [← b, e])⟩
theorem rli_mny {P g se : Int} {h kn : Nat → Int} {x0 : Int} {w : Wd} (hP : 0 ≤ P ∧ P ≤ 10) (h0 : WH x0 (sof x0) P) (hr : RLI P g se h kn x0 w) : ¬ MNY P g se h kn x0 := by
  rintro ⟨F, hF, hI⟩
  obtain ⟨h1, h2, h3, h4, _⟩ := hr
  have ch : ∀ i : Nat, ∃ k : Nat, i < 3001 → (k : Int) < w 43 40 ∧ w 63 k = cdx P (F i) ∧ WH (F i) (sof (F i)) P := fun i => by
    by_cases c : i < 3001
    · obtain ⟨t, ht⟩ := hF i c
      have hw := rx_wh hP h0 ht
      obtain ⟨k, hk, e⟩ := h4 (F i) ⟨hw, t, ht⟩
      exact ⟨k, fun _ => ⟨hk, e, hw⟩⟩
    · exact ⟨0, fun hh => absurd hh c⟩
  have := php (w 43 40).toNat 3001 (fun i => Classical.choose (ch i)) (fun i hi => by
    have := (Classical.choose_spec (ch i) hi).1
    show Classical.choose (ch i) < (w 43 40).toNat
    omega) (fun i j hi hj e => by
    obtain ⟨_, a, a2⟩ := Classical.choose_spec (ch i) hi
    obtain ⟨_, b, b2⟩ := Classical.choose_spec (ch j) hj
    have e2 : Classical.choose (ch i) = Classical.choose (ch j) := e
    rw [e2] at a
    exact hI i j hi hj (cdx_inj hP a2 b2 (a.symm.trans b)))
  omega
/-! the class reads its list -/
theorem cg_pc {P g se : Int} {h kn : Nat → Int} {x0 : Int} {w u : Wd} (hc : CLI P g se h kn x0 w) (h7 : u 28 7 = w 28 7) (h30 : u 30 = w 30) {k : Int} (hk : 0 ≤ k ∧ k < w 28 7) : PC (f_S_guests k u) (fun r v => v = u ∧ B10 r (gs P (sof (w 30 k.toNat)))) := by
  have hx := (hc.2.2.1 k.toNat (by omega)).1
  refine pc_w (sgu_pc (P := P) (w := u) (s := k) (by omega) (by rw [h30]; exact hx)) (fun r v q => ⟨q.1, ?_⟩)
  rw [← h30]; exact q.2
def gn (P x : Int) : Int := ((pn (gs P (sof x)) 10 : Nat) : Int)
/-! WEEKS, BY THE REFERENCE -/
def XOK (P g se : Int) (h kn : Nat → Int) (x0 : Int) (X : Nat → Int) (w : Wd) : Prop := (∀ t : Nat, (t : Int) < w 43 40 → VLS P g se h kn x0 (X t) ∧ w 63 t = cdx P (X t)) ∧ ∀ x, VLS P g se h kn x0 x → ∃ t : Nat, (t : Int) < w 43 40 ∧ X t = x
/-! BOTH SEARCH: side by side -/
def hof (b : Int) (k : Nat) : Int := if bt b k = true then 1 else 0
theorem hof_B {b P : Int} {h : Nat → Int} (hb : B10 b (hB P h)) (k : Nat) (hk : k < 10) : hB P h k = hB P (hof b) k := by
  have e := hb.2 k hk
  unfold hB hof at *
  rw [e]
  cases inP P k with
  | false => rfl
  | true => cases (h k == 0) <;> rfl
def PRM (a w : Wd) (P g se : Int) (h kn : Nat → Int) (x0 : Int) : Prop := (0 ≤ P ∧ P ≤ 10) ∧ (1 ≤ g ∧ g ≤ 3) ∧ WH x0 (sof x0) P ∧ CW P g se h kn x0 w ∧ (a 43 0 = P ∧ a 43 10 = g ∧ a 43 11 = se) ∧ (∀ k : Nat, (k : Int) < P → a 47 k = sof x0 k) ∧ (∀ j : Nat, (j : Int) < P → a 45 j = kn j ∧ 0 ≤ kn j ∧ kn j ≤ 1023) ∧ (∀ k : Nat, (k : Int) < P → hB P (a 46) k = hB P h k) ∧ (∀ k, 0 ≤ a 44 k ∧ a 44 k ≤ 9) ∧ ∀ j : Nat, (j : Int) < P → w 6 j = a 44 j
theorem er_prm {a w : Wd} (h : ER a w) : PRM a w (w 5 3) (w 5 7) (w 5 8) (hof (w 5 5)) (w 7) (w 5 4) := by
  have x0 : 0 ≤ a 43 0 ∧ a 43 0 ≤ 10 := h.2.2.1
  have x3 : w 5 3 = a 43 0 := h.1.1.2.1
  have xp : ∀ j : Nat, (j : Int) < a 43 0 → w 6 j = a 44 j ∧ w 7 j = a 45 j ∧ w 8 j = a 48 j := h.1.2.1
  have xh : B10 (w 5 5) (hB (a 43 0) (a 46)) := h.1.2.2.1
  have xw : WH (w 5 4) (a 47) (a 43 0) := h.1.2.2.2.1
  have x7 : w 5 7 = a 43 10 := h.1.1.2.2.1.1
  have x8 : w 5 8 = a 43 11 := h.1.1.2.2.1.2
  have x45 : ∀ j : Nat, (j : Int) < a 43 0 → 0 ≤ a 45 j ∧ a 45 j ≤ 1023 := h.2.2.2.2.2.1
  have x44 : ∀ j, 0 ≤ a 44 j ∧ a 44 j ≤ 9 := h.2.2.2.1
  have xg : 1 ≤ a 43 10 ∧ a 43 10 ≤ 3 := h.1.2.2.2.2.2.2.2.2.2.2.1
  rw [← x3] at x0 xp xh xw x45
  refine ⟨x0, by rw [x7]; exact xg, wh_sof xw x0.2, ⟨rfl, ?_, rfl, rfl, rfl, fun j hj => ⟨rfl, ?_⟩⟩, ⟨x3.symm, x7.symm, x8.symm⟩, fun k hk => (sof_e xw x0.2 hk).symm, fun j hj => ⟨(xp j hj).2.1.symm, ?_⟩, fun k hk => hof_B xh k (by omega), x44, fun j hj => (xp j hj).1⟩
  · exact b10_w xh (fun k hk => hof_B xh k hk)
  · rw [(xp j hj).2.1]; exact x45 j hj
  · rw [(xp j hj).2.1]; exact x45 j hj
/-- of the class alone: what is kept of a search, and the count of its rounds -/
def SCR (n : Int) (w : Wd) : Prop := (ROK w ∧ w 24 4 ≤ 2000 * n) ∧ (w 28 9 ≠ 0 → KPT (w 5 3) (w 5 7) (w 5 8) (hof (w 5 5)) (w 7) (w 5 4) w)
theorem scr_mono {n n' : Int} {w : Wd} (h : SCR n w) (hn : n ≤ n') : SCR n' w := ⟨⟨h.1.1, by have := h.1.2; omega⟩, h.2⟩
theorem kpt_eq {P g se : Int} {h kn : Nat → Int} {x0 : Int} {w u : Wd} (hk : KPT P g se h kn x0 w) (h28 : ∀ k, k ≠ 9 → u 28 k = w 28 k) (h29 : u 29 = w 29) (h30 : u 30 = w 30) (h31 : u 31 = w 31) (h35 : u 35 = w 35) : KPT P g se h kn x0 u := by
  unfold KPT at *
  rw [h28 10 (by decide)]
  rcases hk with ⟨e, s1, s2, s3, s4, s5, s6⟩ | e
  · refine Or.inl ⟨e, ⟨tc_eq s1.1 h29 h30 (h28 7 (by decide)), ?_⟩, ?_, ?_, ?_, ?_, ?_⟩
    · rw [h28 7 (by decide), h30, h31]; exact s1.2
    · unfold XST; rw [h28 7 (by decide), h30, h31]; exact s2
    · unfold CLSx; rw [h28 7 (by decide), h30, h31]; exact s3
    · unfold ORD; rw [h28 7 (by decide), h28 8 (by decide), h35]; exact s4
    · unfold PRO; rw [h28 7 (by decide), h28 8 (by decide), h35]; exact s5
    · unfold ORK; rw [h28 8 (by decide), h30, h35]; exact s6
  · exact Or.inr e
/-- nothing of it is touched -/
theorem scr_fr {n : Int} {w u : Wd} (h : SCR n w) (h5 : u 5 = w 5) (h7 : u 7 = w 7) (h24 : u 24 = w 24) (h27 : u 27 = w 27) (h28 : u 28 = w 28) (h29 : u 29 = w 29) (h30 : u 30 = w 30) (h31 : u 31 = w 31) (h35 : u 35 = w 35) : SCR n u := by
  unfold SCR ROK
  rw [h24, h27, h28, h5, h7]
  exact ⟨h.1, fun hf => kpt_eq (h.2 hf) (fun k _ => by rw [h28]) h29 h30 h31 h35⟩
/-- it is forgotten -/
theorem scr_no {n : Int} {w u : Wd} (h : SCR n w) (h24 : u 24 = w 24) (h27 : u 27 = w 27) (h9 : u 28 9 = 0) : SCR n u := by
  unfold SCR ROK
  rw [h24, h27]
  exact ⟨h.1, fun hf => absurd h9 hf⟩
/-- what a run of the class leaves -/
def RUN (P g se : Int) (h kn : Nat → Int) (x0 : Int) (w u : Wd) : Prop := (∀ c, c ≠ 24 → c ≠ 25 → c ≠ 26 → c ≠ 27 → c ≠ 28 → c ≠ 29 → c ≠ 30 → c ≠ 31 → c ≠ 33 → c ≠ 34 → c ≠ 35 → u c = w c) ∧ (ROK u ∧ u 24 4 ≤ w 24 4 + 3000) ∧ u 28 9 ≠ 0 ∧ KPT P g se h kn x0 u
theorem crun {a w : Wd} {P g se : Int} {h kn : Nat → Int} {x0 n : Int} (hp : PRM a w P g se h kn x0) (hs : SCR n w) (hn : n ≤ 2600) (hk : w 28 9 ≠ 0 → KPT P g se h kn x0 w) : PC (f_S_run w) (fun r u => RUN P g se h kn x0 w u ∧ ((r = 1 ∧ SRC P g se h kn x0 u) ∨ (r = 0 ∧ MNY P g se h kn x0))) := by
  obtain ⟨hP, hg, h0, hw, _⟩ := hp
  refine pc_w (run_pc hP hg h0 hw hk hs.1.1 (by have := hs.1.2; omega)) (fun r u q => ?_)
  obtain ⟨q1, q2, q3, q4⟩ := q
  rcases q4 with ⟨e, e2, s⟩ | ⟨e, e2, m⟩
  · exact ⟨⟨q1, q2, q3, Or.inl ⟨e2, s⟩⟩, Or.inl ⟨e, s⟩⟩
  · exact ⟨⟨q1, q2, q3, Or.inr ⟨e2, m⟩⟩, Or.inr ⟨e, m⟩⟩
theorem run_scr {w u : Wd} {n : Int} (hs : SCR n w) (hr : RUN (w 5 3) (w 5 7) (w 5 8) (hof (w 5 5)) (w 7) (w 5 4) w u) : SCR (n + 5) u := by
  obtain ⟨q1, q2, q3, q4⟩ := hr
  have h5 : u 5 = w 5 := q1 5 (by decide) (by decide) (by decide) (by decide) (by decide) (by decide) (by decide) (by decide) (by decide) (by decide) (by decide)
  have h7 : u 7 = w 7 := q1 7 (by decide) (by decide) (by decide) (by decide) (by decide) (by decide) (by decide) (by decide) (by decide) (by decide) (by decide)
  refine ⟨⟨q2.1, by have := hs.1.2; omega⟩, fun _ => ?_⟩
  rw [h5, h7]; exact q4
/-- the class's list, and the reference's -/
theorem two_run {a w : Wd} {P g se : Int} {h kn : Nat → Int} {x0 n : Int} {K KR : Wd → Option (Int × Wd)} {A B : Int → Prop} (hp : PRM a w P g se h kn x0) (hG : G [] a a) (hs : SCR n w) (hn : n ≤ 2600) (hk : w 28 9 ≠ 0 → KPT P g se h kn x0 w)
    (hE : ∀ u, RUN P g se h kn x0 w u → SRC P g se h kn x0 u → CLI P g se h kn x0 u → PC (K u) (fun r _ => A r))
    (hR : ∀ y u, y = st a 43 16 0 → FRY y u → G [] u u → RLI P g se h kn x0 u → PC (KR u) (fun r _ => B r)) (hAB : ∀ r r', A r → B r' → r = r') :
    PC (jcall (f_S_run w) fun r1 u2 => if r1 = 0 then some ((-3), u2) else K u2) (fun r _ => ∀ y, y = st a 43 16 0 → PC (jcall (f_R_findStates 0 y) fun r2 u3 => if r2 = 0 then some ((-3), u3) else KR u3) (fun r' _ => r = r')) := by
  obtain ⟨hP, hg, h0, hw, ⟨c0, c10, c11⟩, c47, c45, c46, _⟩ := id hp
  have hrf : ∀ y, y = st a 43 16 0 → PC (f_R_findStates 0 y) (fun r u => FRY y u ∧ G [] u u ∧ ((r = 0 ∧ MNY P g se h kn x0) ∨ (r = 1 ∧ RLI P g se h kn x0 u))) := fun y ey => by
    have gy : G [4316] a y := g_st (g_self hG) ey rfl rfl (show (0 : Int) ≤ 0 ∧ (0 : Int) ≤ 1 by decide)
    have yr : ∀ c, c ≠ 43 → y c = a c := fun c hc => by rw [ey, st_row hc]
    have yk : ∀ k, k ≠ 16 → y 43 k = a 43 k := fun k hk => by rw [ey, st_k hk]
    refine fst_pc (h := h) hP hg h0 (g_self gy) (by rw [yk 0 (by decide)]; exact c0) (by rw [yk 10 (by decide)]; exact c10) (by rw [yk 11 (by decide)]; exact c11) (fun k hk => by rw [yr 47 (by decide)]; exact c47 k hk) (fun j hj => by rw [yr 45 (by decide)]; exact c45 j hj) (by decide) (fun k hk => ?_)
    rw [bt_0, Bool.or_false, yr 46 (by decide)]; exact c46 k hk
  refine pc_call (crun hp hs hn hk) (fun r1 u q => ?_)
  obtain ⟨q1, q2⟩ := q
  rcases q2 with ⟨e, s⟩ | ⟨e, m⟩
  · refine pc_ite (fun c => by omega) (fun _ => ?_)
    have cl := src_cli hP h0 s
    refine pc_w (hE u q1 s cl) (fun r _ hA y ey => ?_)
    refine pc_call (hrf y ey) (fun r2 u3 z => ?_)
    obtain ⟨z1, z2, z3⟩ := z
    rcases z3 with ⟨_, m⟩ | ⟨e3, l⟩
    · exact absurd m (cli_mny hP h0 cl)
    · refine pc_ite (fun c => by omega) (fun _ => ?_)
      exact pc_w (hR y u3 ey z1 z2 l) (fun r' _ hB => hAB r r' hA hB)
  · refine pc_ite (fun _ => pc_some (fun y ey => ?_)) (fun c => absurd e c)
    refine pc_call (hrf y ey) (fun r2 u3 z => ?_)
    obtain ⟨z1, z2, z3⟩ := z
    rcases z3 with ⟨e3, _⟩ | ⟨e3, l⟩
    · exact pc_ite (fun _ => pc_some rfl) (fun c => absurd e3 c)
    · exact absurd m (rli_mny hP h0 l)
/-! STATES, NEVER, MOST, REACH, FEWEST -/
theorem gx_pc {P g se : Int} {h kn : Nat → Int} {x0 : Int} {X : Nat → Int} {w u : Wd} (hP : 0 ≤ P ∧ P ≤ 10) (hx : XOK P g se h kn x0 X w) (h0 : u 43 0 = P) (h63 : u 63 = w 63) {k : Int} (hk : 0 ≤ k ∧ k < w 43 40) : PC (f_R_guestsIn k u) (fun r v => v = u ∧ B10 r (gs P (sof (X k.toNat)))) := by
  obtain ⟨h1, h2⟩ := hx.1 k.toNat (by omega)
  have := gsIn_pc (P := P) (s := sof (X k.toNat)) (w := u) (t := k.toNat) hP h0 h1.1.2.2 (by rw [h63]; exact h2)
  rw [show ((k.toNat : Nat) : Int) = k by omega] at this
  exact this
theorem run_5 {P g se : Int} {h kn : Nat → Int} {x0 : Int} {w u : Wd} (hr : RUN P g se h kn x0 w u) : u 5 = w 5 ∧ u 6 = w 6 ∧ u 7 = w 7 := ⟨hr.1 5 (by decide) (by decide) (by decide) (by decide) (by decide) (by decide) (by decide) (by decide) (by decide) (by decide) (by decide), hr.1 6 (by decide) (by decide) (by decide) (by decide) (by decide) (by decide) (by decide) (by decide) (by decide) (by decide) (by decide), hr.1 7 (by decide) (by decide) (by decide) (by decide) (by decide) (by decide) (by decide) (by decide) (by decide) (by decide) (by decide)⟩
theorem er_never {a w : Wd} {P g se : Int} {h kn : Nat → Int} {x0 n : Int} (hp : PRM a w P g se h kn x0) (hG : G [] a a) (hs : SCR n w) (hn : n ≤ 2600) (hk : w 28 9 ≠ 0 → KPT P g se h kn x0 w) : PC (f_E_never w) (fun r _ => PC (f_R_never a) (fun r' _ => r = r')) := by
  obtain ⟨hP, hg, h0, hw, ⟨c0, _⟩, c47, _⟩ := id hp
  unfold f_E_never f_R_never
  refine pc_w (two_run (A := fun r => (0 ≤ r ∧ r ≤ 1023) ∧ ∀ q, q < 10 → (bt r q = true ↔ (sr P (sof x0) q = true ∧ ¬ ∃ x, VLS P g se h kn x0 x ∧ gs P (sof x) q = true))) (B := fun r => (0 ≤ r ∧ r ≤ 1023) ∧ ∀ q, q < 10 → (bt r q = true ↔ (sr P (sof x0) q = true ∧ ¬ ∃ x, VLS P g se h kn x0 x ∧ gs P (sof x) q = true))) hp hG hs hn hk (fun u hu _ hc => ?_) (fun y u ey hf hg' hr => ?_) (fun r r' hA hB => ?_)) (fun r _ q => pc_lw (fun y ey => q y ey))
  · have l25 : ∀ (n : Nat) {v1 v2 : Int}, 0 ≤ v2 → v2 ≤ u 28 7 → OrI (u 30) v2 (fun _ => True) (fun x => gs P (sof x)) v1 → PC (f_E_never_25 n v1 v2 u) (fun r _ => (0 ≤ r ∧ r ≤ 1023) ∧ ∀ q, q < 10 → (bt r q = true ↔ (sr P (sof x0) q = true ∧ ¬ ∃ x, VLS P g se h kn x0 x ∧ gs P (sof x) q = true))) := by
      intro n
      induction n with
      | zero => intros; exact pc_none
      | succ n ih =>
        intro v1 v2 i2 i2' hO
        rw [f_E_never_25]
        have h3000 := hc.1
        refine pc_ite (fun c => ?_) (fun c => ?_)
        · rw [show v2 = u 28 7 by omega] at hO
          refine pc_call (es_e (P := P) (s := sof x0) (by rw [(run_5 hu).1, hw.2.2.2.2.1]; exact h0) hP (by rw [(run_5 hu).1]; exact hw.1)) (fun r3 u4 q => pc_some ?_)
          have hb := b10_andn q.2 (b10_self hO.1).2
          refine ⟨hb.1, fun q' hq => ?_⟩
          have e : bt (iand r3 (ixor v1 (-1))) q' = (sr P (sof x0) q' && !bt v1 q') := hb.2 q' hq
          have ho := hO.2 q' hq
          have ex : (∃ k : Nat, (k : Int) < u 28 7 ∧ True ∧ gs P (sof (u 30 k)) q' = true) ↔ ∃ x, VLS P g se h kn x0 x ∧ gs P (sof x) q' = true := by
            constructor
            · rintro ⟨k, hk, _, b⟩; exact ⟨u 30 k, hc.2.2.1 k hk, b⟩
            · rintro ⟨x, hx, b⟩
              obtain ⟨k, hk, e⟩ := hc.2.2.2.1 x hx
              exact ⟨k, hk, trivial, by rw [e]; exact b⟩
          rw [ex] at ho
          rw [e, Bool.and_eq_true, Bool.not_eq_true', ← ho]
          simp
        · refine pc_call (cg_pc hc rfl rfl ⟨i2, by omega⟩) (fun r5 u6 q => ?_)
          rw [q.1]
          refine pc_let (fun x7 e7 => pc_let (fun x8 e8 => ?_))
          rw [w32_id (by omega)] at e8
          rw [e7, e8]
          exact ih (by omega) (by omega) (ori_y hO i2 trivial q.2)
    exact l25 FU (by decide) hc.1.1 ori_0
  · obtain ⟨X, hx⟩ := rli_x hP hr
    have u0 : u 43 0 = P := by rw [hf.2 0 (by decide) (by decide) (by decide), ey, st_k (by decide)]; exact c0
    have u47 : u 47 = a 47 := by rw [hf.1 47 (by decide) (by decide) (by decide) (by decide) (by decide) (by decide) (by decide), ey, st_row (by decide)]
    refine pc_call (rs0_e (w := u) (by omega)) (fun r4 u5 q => ?_)
    rw [q.1]
    have q2 : B10 r4 (sr P (sof x0)) := by
      have q2 := q.2
      rw [u0, u47] at q2
      refine b10_w q2 (fun k _ => ?_)
      unfold sr
      cases hp : inP P k with
      | false => rfl
      | true => rw [c47 k (inP_t hp)]
    have l25 : ∀ (n : Nat) {v1 v2 : Int}, 0 ≤ v2 → v2 ≤ u 43 40 → (0 ≤ v1 ∧ v1 ≤ 1023) → (∀ q, q < 10 → (bt v1 q = true ↔ (sr P (sof x0) q = true ∧ ¬ ∃ k : Nat, (k : Int) < v2 ∧ gs P (sof (X k)) q = true))) → PC (f_R_never_25 n v1 v2 u) (fun r _ => (0 ≤ r ∧ r ≤ 1023) ∧ ∀ q, q < 10 → (bt r q = true ↔ (sr P (sof x0) q = true ∧ ¬ ∃ x, VLS P g se h kn x0 x ∧ gs P (sof x) q = true))) := by
      intro n
      induction n with
      | zero => intros; exact pc_none
      | succ n ih =>
        intro v1 v2 i2 i2' hr1 hO
        rw [f_R_never_25]
        have h3000 := hr.1
        refine pc_ite (fun c => pc_some ⟨hr1, fun q hq => ?_⟩) (fun c => ?_)
        · rw [hO q hq]
          have ex : (∃ k : Nat, (k : Int) < v2 ∧ gs P (sof (X k)) q = true) ↔ ∃ x, VLS P g se h kn x0 x ∧ gs P (sof x) q = true := by
            constructor
            · rintro ⟨k, hk, b⟩; exact ⟨X k, (hx.1 k (by omega)).1, b⟩
            · rintro ⟨x, hx', b⟩
              obtain ⟨k, hk, e⟩ := hx.2 x hx'
              exact ⟨k, by omega, by rw [e]; exact b⟩
          rw [ex]
        · refine pc_call (gx_pc hP hx u0 rfl ⟨i2, by omega⟩) (fun r6 u7 z => ?_)
          rw [z.1]
          have hb := b10_andn (b10_self hr1) z.2.2
          refine pc_let (fun x8 e8 => pc_let (fun x9 e9 => ?_))
          rw [w32_id (by omega)] at e9
          rw [e8, e9]
          refine ih (by omega) (by omega) hb.1 (fun q hq => ?_)
          have e : bt (iand v1 (ixor r6 (-1))) q = (bt v1 q && !gs P (sof (X v2.toNat)) q) := hb.2 q hq
          rw [e, Bool.and_eq_true, Bool.not_eq_true', hO q hq]
          constructor
          · rintro ⟨⟨a1, a2⟩, a3⟩
            refine ⟨a1, fun ⟨k, hk, b⟩ => ?_⟩
            by_cases ck : (k : Int) < v2
            · exact a2 ⟨k, ck, b⟩
            · rw [show k = v2.toNat by omega, a3] at b; cases b
          · rintro ⟨a1, a2⟩
            refine ⟨⟨a1, fun ⟨k, hk, b⟩ => a2 ⟨k, by omega, b⟩⟩, ?_⟩
            cases hb2 : gs P (sof (X v2.toNat)) q with
            | false => rfl
            | true => exact absurd ⟨v2.toNat, by omega, hb2⟩ a2
    refine l25 FU (by decide) (by have := hr.1; omega) q2.1 (fun q' hq => ?_)
    rw [q2.2 q' hq]
    exact ⟨fun e => ⟨e, fun ⟨k, hk, _⟩ => by omega⟩, fun e => e.1⟩
  · refine bt_ext hA.1 hB.1 (fun k hk => ?_)
    have e1 := hA.2 k hk
    rw [← hB.2 k hk] at e1
    cases h1 : bt r k <;> cases h2 : bt r' k <;> simp [h1, h2] at e1 ⊢
/-! WHAT IS KEPT OF A SEARCH: it stays through all reading -/
def SJ (L : Int) (b w : Wd) : Prop := (w 5 = b 5 ∧ w 7 = b 7 ∧ w 28 = b 28 ∧ w 29 = b 29 ∧ w 30 = b 30 ∧ w 31 = b 31 ∧ w 35 = b 35) ∧ ROK w ∧ w 24 4 ≤ L
theorem sj_mono {L M : Int} {b w : Wd} (h : SJ L b w) (hM : L ≤ M) : SJ M b w := ⟨h.1, h.2.1, Int.le_trans h.2.2 hM⟩
theorem sj_st {L : Int} {b w u : Wd} {c k : Nat} {z : Int} (h : SJ L b w) (e : u = st w c k z) (hc : [5, 7, 24, 27, 28, 29, 30, 31, 35].contains c = false) : SJ L b u := by
  have f : ∀ c', [5, 7, 24, 27, 28, 29, 30, 31, 35].contains c' = true → u c' = w c' := fun c' hc' => by
    rw [e]; exact st_row (fun hh => by rw [hh, hc] at hc'; cases hc')
  unfold SJ ROK
  rw [f 5 rfl, f 7 rfl, f 24 rfl, f 27 rfl, f 28 rfl, f 29 rfl, f 30 rfl, f 31 rfl, f 35 rfl]
  exact h
theorem sj_s24 {L : Int} {b w u : Wd} {k : Nat} {z : Int} (h : SJ L b w) (e : u = st w 24 k z) (hk : (k == 4) = false) : SJ L b u := by
  have f : ∀ c', c' ≠ 24 → u c' = w c' := fun c' hc' => by rw [e]; exact st_row hc'
  have f4 : u 24 4 = w 24 4 := by rw [e]; exact st_k (fun hh => by rw [← hh] at hk; cases hk)
  unfold SJ ROK
  rw [f 5 (by decide), f 7 (by decide), f4, f 27 (by decide), f 28 (by decide), f 29 (by decide), f 30 (by decide), f 31 (by decide), f 35 (by decide)]
  exact h
theorem sj_fm {L : Int} {b w u : Wd} (h : SJ L b w) (f : FM w u) : SJ L b u := by
  have g := f.1
  have f4 : u 24 4 = w 24 4 := f.2.1 4 (by decide)
  obtain ⟨h1, h2, h3⟩ := h
  refine ⟨?_, ⟨by rw [f4]; exact h2.1, fun k hk => ?_⟩, by rw [f4]; exact h3⟩
  · rw [g 5 (by decide) (by decide) (by decide) (by decide), g 7 (by decide) (by decide) (by decide) (by decide), g 28 (by decide) (by decide) (by decide) (by decide), g 29 (by decide) (by decide) (by decide) (by decide), g 30 (by decide) (by decide) (by decide) (by decide), g 31 (by decide) (by decide) (by decide) (by decide), g 35 (by decide) (by decide) (by decide) (by decide)]
    exact h1
  · rw [f4]
    rcases f.2.2 k with e | e
    · rw [e]; exact h2.2 k hk
    · rw [e]; exact Int.le_refl _
theorem zq_E_isWeek {b : Wd} {v0 : Int} {w : Wd} (h : w = b) : PC (f_E_isWeek v0 w) (fun _ u => u = b) := by
  unfold f_E_isWeek
  refine pc_ite (fun _ => ?_) (fun _ => ?_)
  · exact pc_some h
  · refine pc_ite (fun _ => ?_) (fun _ => ?_)
    · exact pc_some h
    · exact pc_some h
theorem zq_F_isThere {b : Wd} {v1 : Int} {w : Wd} (h : w = b) : PC (f_F_isThere v1 w) (fun _ u => u = b) := by
  unfold f_F_isThere
  refine pc_ite (fun _ => ?_) (fun _ => ?_)
  · exact pc_some h
  · refine pc_ite (fun _ => ?_) (fun _ => ?_)
    · exact pc_some h
    · exact pc_some h
theorem zq_E_areTwo {b : Wd} {v1 v2 : Int} {w : Wd} (h : w = b) : PC (f_E_areTwo v1 v2 w) (fun _ u => u = b) := by
  unfold f_E_areTwo
  refine pc_ite (fun _ => ?_) (fun _ => ?_)
  · exact pc_some h
  · refine pc_call (zq_F_isThere h) (fun r1 u2 h => ?_)
    refine pc_ite (fun _ => ?_) (fun _ => ?_)
    · exact pc_some h
    · refine pc_call (zq_F_isThere h) (fun r3 u4 h => ?_)
      refine pc_ite (fun _ => ?_) (fun _ => ?_)
      · exact pc_some h
      · exact pc_some h
theorem zq_F_everybody {b : Wd} {w : Wd} (h : w = b) : PC (f_F_everybody  w) (fun _ u => u = b) := by
  unfold f_F_everybody
  exact pc_some h
theorem zq_O_known {b : Wd} {v0 : Int} {w : Wd} (h : w = b) : PC (f_O_known v0 w) (fun _ u => u = b) := by
  unfold f_O_known
  exact pc_some h
theorem zq_F_strangers {b : Wd} {w : Wd} (h : w = b) : PC (f_F_strangers  w) (fun _ u => u = b) := by
  unfold f_F_strangers
  refine pc_call (zq_F_everybody h) (fun r1 u2 h => ?_)
  refine pc_call (zq_O_known h) (fun r3 u4 h => ?_)
  exact pc_some h
theorem zq_F_free {b : Wd} {w : Wd} (h : w = b) : PC (f_F_free  w) (fun _ u => u = b) := by
  unfold f_F_free
  refine pc_call (zq_F_strangers h) (fun r1 u2 h => ?_)
  exact pc_some h
theorem zq_E_has {b : Wd} {v0 v1 : Int} {w : Wd} (h : w = b) : PC (f_E_has v0 v1 w) (fun _ u => u = b) := by
  unfold f_E_has
  refine pc_ite (fun _ => ?_) (fun _ => ?_)
  · exact pc_some h
  · refine pc_ite (fun _ => ?_) (fun _ => ?_)
    · exact pc_some h
    · refine pc_ite (fun _ => ?_) (fun _ => ?_)
      · exact pc_some h
      · exact pc_some h
theorem zs_O_lateOne {L : Int} {b : Wd} {v0 v1 : Int} {w : Wd} (h : SJ L b w) : PC (f_O_lateOne v0 v1 w) (fun _ u => SJ L b u) := by
  unfold f_O_lateOne
  refine pc_ite (fun _ => ?_) (fun _ => ?_)
  · exact pc_some h
  · exact pc_some h
theorem zs_O_lateTwo {L : Int} {b : Wd} {v0 v1 : Int} {w : Wd} (h : SJ L b w) : PC (f_O_lateTwo v0 v1 w) (fun _ u => SJ L b u) := by
  unfold f_O_lateTwo
  refine pc_ite (fun _ => ?_) (fun _ => ?_)
  · exact pc_some h
  · exact pc_some h
theorem zs_O_stay {L : Int} {b : Wd} {v0 v1 : Int} {w : Wd} (h : SJ L b w) : PC (f_O_stay v0 v1 w) (fun _ u => SJ L b u) := by
  unfold f_O_stay
  refine pc_call (zs_O_lateOne h) (fun r1 u2 h => ?_)
  refine pc_call (zs_O_lateTwo h) (fun r3 u4 h => ?_)
  exact pc_some h
theorem zs_F_everybody {L : Int} {b : Wd} {w : Wd} (h : SJ L b w) : PC (f_F_everybody  w) (fun _ u => SJ L b u) := by
  unfold f_F_everybody
  exact pc_some h
theorem zs_O_known {L : Int} {b : Wd} {v0 : Int} {w : Wd} (h : SJ L b w) : PC (f_O_known v0 w) (fun _ u => SJ L b u) := by
  unfold f_O_known
  exact pc_some h
theorem zs_M_prepare {L : Int} {b : Wd} {v2 v3 v4 : Int} {w : Wd} (h : SJ L b w) (hL : L + 1 ≤ 2147480000) : PC (f_M_prepare v2 v3 v4 w) (fun _ u => SJ (L + 1) b u) := by
  unfold f_M_prepare
  refine pc_lw (fun u1 e => ?_)
  replace h := sj_s24 h e rfl
  refine pc_lw (fun u2 e => ?_)
  replace h := sj_s24 h e rfl
  refine pc_call (zs_F_everybody h) (fun r3 u4 h => ?_)
  refine pc_call (zs_O_known h) (fun r5 u6 h => ?_)
  refine pc_lw (fun u7 e => ?_)
  replace h := sj_s24 h e rfl
  refine pc_call (zs_O_stay h) (fun r8 u9 h => ?_)
  refine pc_lw (fun u10 e => ?_)
  replace h := sj_s24 h e rfl
  refine pc_lw (fun u11 e => ?_)
  replace h := sj_s24 h e rfl
  refine pc_lw (fun u12 e => ?_)
  replace h := sj_s24 h e rfl
  refine pc_lw (fun u13 e => ?_)
  obtain ⟨h1, ⟨h2, h3⟩, h4⟩ := h
  have z := w32_sp (u12 24 4 + 1)
  have f : ∀ c', c' ≠ 24 → u13 c' = u12 c' := fun c' hc' => by rw [e]; exact st_row hc'
  have f4 : u13 24 4 = u12 24 4 + 1 := by rw [e, st_eq]; omega
  refine pc_some ⟨?_, ⟨by omega, fun k hk => ?_⟩, by omega⟩
  · rw [f 5 (by decide), f 7 (by decide), f 28 (by decide), f 29 (by decide), f 30 (by decide), f 31 (by decide), f 35 (by decide)]
    exact h1
  · rw [f4, f 27 (by decide)]
    have := h3 k hk
    omega
theorem zs_M_spread {L : Int} {b : Wd} {D : Nat} {f m x : Int} {w : Wd} (h : SJ L b w) : PC (f_M_spread D f m x w) (fun _ u => SJ L b u) := pc_w (spf_pc D) (fun _ _ q => sj_fm h q)
theorem zs_O_guests {L : Int} {b : Wd} {v0 : Int} {w : Wd} (h : SJ L b w) : PC (f_O_guests v0 w) (fun _ u => SJ L b u) := by
  unfold f_O_guests
  exact pc_some h
theorem zs_M_gather {L : Int} {b : Wd} {v2 v3 : Int} {w : Wd} (h : SJ L b w) (hL : L + 1 ≤ 2147480000) : PC (f_M_gather v2 v3 w) (fun _ u => SJ (L + 1) b u) := by
  unfold f_M_gather
  refine pc_call (zs_O_guests h) (fun r1 u2 h => ?_)
  refine pc_call (zs_M_prepare h (by omega)) (fun r3 u4 h => ?_)
  refine pc_call (zs_M_spread h) (fun r5 u6 h => ?_)
  exact pc_some (sj_mono h (by omega))
theorem zs_M_gatherBehind_34 {L : Int} {b : Wd} {v3 : Int} {w : Wd} (h : SJ L b w) : PC (f_M_gatherBehind_34 v3 w) (fun _ u => SJ L b u) := by
  unfold f_M_gatherBehind_34
  refine pc_call (zs_M_spread h) (fun r3 u4 h => ?_)
  exact pc_some h
theorem zs_JI_bitCount {L : Int} {b : Wd} {v0 : Int} {w : Wd} (h : SJ L b w) : PC (f_JI_bitCount v0 w) (fun _ u => SJ L b u) := by
  unfold f_JI_bitCount
  refine pc_let (fun x1 _ => ?_)
  refine pc_let (fun x2 _ => ?_)
  refine pc_let (fun x3 _ => ?_)
  refine pc_let (fun x4 _ => ?_)
  refine pc_let (fun x5 _ => ?_)
  exact pc_some h
theorem zs_M_gatherBehind {L : Int} {b : Wd} {v2 v3 : Int} {w : Wd} (h : SJ L b w) (hL : L + 1 ≤ 2147480000) : PC (f_M_gatherBehind v2 v3 w) (fun _ u => SJ (L + 1) b u) := by
  unfold f_M_gatherBehind
  refine pc_call (zs_M_prepare h (by omega)) (fun r1 u2 h => ?_)
  refine pc_ite (fun _ => ?_) (fun _ => ?_)
  · exact pc_w (zs_M_gatherBehind_34 h) (fun _ _ h => sj_mono h (by omega))
  · refine pc_call (zs_JI_bitCount h) (fun r5 u6 h => ?_)
    refine pc_ite (fun _ => ?_) (fun _ => ?_)
    · exact pc_some (sj_mono h (by omega))
    · exact pc_w (zs_M_gatherBehind_34 h) (fun _ _ h => sj_mono h (by omega))
theorem zs_F_strangers {L : Int} {b : Wd} {w : Wd} (h : SJ L b w) : PC (f_F_strangers  w) (fun _ u => SJ L b u) := by
  unfold f_F_strangers
  refine pc_call (zs_F_everybody h) (fun r1 u2 h => ?_)
  refine pc_call (zs_O_known h) (fun r3 u4 h => ?_)
  exact pc_some h
theorem zs_N_clear {L : Int} {b : Wd} {w : Wd} (h : SJ L b w) : PC (f_N_clear  w) (fun _ u => SJ L b u) := by
  unfold f_N_clear
  refine pc_lw (fun u1 e => ?_)
  replace h := sj_st h e (by decide)
  exact pc_some h
theorem zs_N_put {L : Int} {b : Wd} {v1 : Int} {w : Wd} (h : SJ L b w) : PC (f_N_put v1 w) (fun _ u => SJ L b u) := by
  unfold f_N_put
  refine pc_ite (fun _ => ?_) (fun _ => ?_)
  · exact pc_some h
  · refine pc_gd (fun _ => ?_)
    refine pc_lw (fun u1 e => ?_)
    replace h := sj_st h e (by decide)
    refine pc_lw (fun u2 e => ?_)
    replace h := sj_st h e (by decide)
    exact pc_some h
theorem zs_N_tell1 {L : Int} {b : Wd} {v1 : Int} {w : Wd} (h : SJ L b w) : PC (f_N_tell1 v1 w) (fun _ u => SJ L b u) := by
  unfold f_N_tell1
  refine pc_call (zs_N_clear h) (fun r1 u2 h => ?_)
  refine pc_call (zs_N_put h) (fun r3 u4 h => ?_)
  exact pc_some h
theorem zs_F_guests {L : Int} {b : Wd} {w : Wd} (h : SJ L b w) : PC (f_F_guests  w) (fun _ u => SJ L b u) := by
  unfold f_F_guests
  refine pc_call (zs_O_guests h) (fun r1 u2 h => ?_)
  exact pc_some h
theorem zs_M_moversOf {L : Int} {b : Wd} {v1 : Int} {w : Wd} (h : SJ L b w) : PC (f_M_moversOf v1 w) (fun _ u => SJ L b u) := by
  unfold f_M_moversOf
  refine pc_ite (fun _ => ?_) (fun _ => ?_)
  · exact pc_some h
  · refine pc_ite (fun _ => ?_) (fun _ => ?_)
    · exact pc_some h
    · refine pc_gd (fun _ => ?_)
      exact pc_some h
theorem zs_E_can_29 {L : Int} {b : Wd} : ∀ (n : Nat) {v1 v2 : Int} {w : Wd}, SJ L b w → PC (f_E_can_29 n v1 v2 w) (fun _ u => SJ L b u) := by
  intro n
  induction n with
  | zero => intros; exact pc_none
  | succ n ih =>
    intro v1 v2 w h
    rw [f_E_can_29]
    refine pc_ite (fun _ => ?_) (fun _ => ?_)
    · refine pc_call (zs_F_strangers h) (fun r3 u4 h => ?_)
      refine pc_call (zs_N_tell1 h) (fun r5 u6 h => ?_)
      refine pc_call (zs_F_guests h) (fun r7 u8 h => ?_)
      exact pc_some h
    · refine pc_call (zs_M_moversOf h) (fun r9 u10 h => ?_)
      refine pc_let (fun x11 _ => ?_)
      refine pc_let (fun x12 _ => ?_)
      exact ih h
theorem zs_E_can {L : Int} {b : Wd} {w : Wd} (h : SJ L b w) (hL : L + 1 ≤ 2147480000) : PC (f_E_can  w) (fun _ u => SJ (L + 1) b u) := by
  unfold f_E_can
  refine pc_call (zs_M_gather h (by omega)) (fun r1 u2 h => ?_)
  exact pc_w (zs_E_can_29 _ h) (fun _ _ h => sj_mono h (by omega))
theorem zs_E_largestWeek_62 {L : Int} {b : Wd} {k24 : Int → Int → Wd → Option (Int × Wd)} {v1 v2 : Int} {w : Wd} (h : SJ L b w) (hk : ∀ {a0 a1 : Int} {w : Wd}, SJ L b w → PC (k24 a0 a1 w) (fun _ u => SJ L b u)) : PC (f_E_largestWeek_62 k24 v1 v2 w) (fun _ u => SJ L b u) := by
  unfold f_E_largestWeek_62
  refine pc_let (fun x11 _ => ?_)
  exact hk h
theorem zs_E_largestWeek_24 {L : Int} {b : Wd} : ∀ (n : Nat) {v1 v2 : Int} {w : Wd}, SJ L b w → PC (f_E_largestWeek_24 n v1 v2 w) (fun _ u => SJ L b u) := by
  intro n
  induction n with
  | zero => intros; exact pc_none
  | succ n ih =>
    intro v1 v2 w h
    rw [f_E_largestWeek_24]
    refine pc_ite (fun _ => ?_) (fun _ => ?_)
    · exact pc_some h
    · refine pc_call (zs_M_moversOf h) (fun r3 u4 h => ?_)
      refine pc_call (zs_JI_bitCount h) (fun r5 u6 h => ?_)
      refine pc_call (zs_M_moversOf h) (fun r7 u8 h => ?_)
      refine pc_call (zs_JI_bitCount h) (fun r9 u10 h => ?_)
      refine pc_ite (fun _ => ?_) (fun _ => ?_)
      · exact (zs_E_largestWeek_62 h (fun h => ih h))
      · exact (zs_E_largestWeek_62 h (fun h => ih h))
theorem zs_E_largestWeek {L : Int} {b : Wd} {w : Wd} (h : SJ L b w) (hL : L + 1 ≤ 2147480000) : PC (f_E_largestWeek  w) (fun _ u => SJ (L + 1) b u) := by
  unfold f_E_largestWeek
  refine pc_call (zs_M_gather h (by omega)) (fun r1 u2 h => ?_)
  exact pc_w (zs_E_largestWeek_24 _ h) (fun _ _ h => sj_mono h (by omega))
theorem zs_E_lowest {L : Int} {b : Wd} {v0 : Int} {w : Wd} (h : SJ L b w) : PC (f_E_lowest v0 w) (fun _ u => SJ L b u) := by
  unfold f_E_lowest
  refine pc_ite (fun _ => ?_) (fun _ => ?_)
  · exact pc_some h
  · refine pc_call (zs_JI_bitCount h) (fun r1 u2 h => ?_)
    exact pc_some h
theorem zs_N_putFirst_12 {L : Int} {b : Wd} : ∀ (n : Nat) {v1 v2 : Int} {w : Wd}, SJ L b w → PC (f_N_putFirst_12 n v1 v2 w) (fun _ u => SJ L b u) := by
  intro n
  induction n with
  | zero => intros; exact pc_none
  | succ n ih =>
    intro v1 v2 w h
    rw [f_N_putFirst_12]
    refine pc_ite (fun _ => ?_) (fun _ => ?_)
    · exact pc_some h
    · refine pc_gd (fun _ => ?_)
      refine pc_gd (fun _ => ?_)
      refine pc_lw (fun u4 e => ?_)
      replace h := sj_st h e (by decide)
      refine pc_gd (fun _ => ?_)
      refine pc_lw (fun u5 e => ?_)
      replace h := sj_st h e (by decide)
      refine pc_let (fun x6 _ => ?_)
      exact ih h
theorem zs_N_putFirst {L : Int} {b : Wd} {v1 : Int} {w : Wd} (h : SJ L b w) : PC (f_N_putFirst v1 w) (fun _ u => SJ L b u) := by
  unfold f_N_putFirst
  refine pc_call (zs_N_put h) (fun r1 u2 h => ?_)
  refine pc_let (fun x3 _ => ?_)
  exact (zs_N_putFirst_12 _ h)
theorem zs_M_tellPairs_9 {L : Int} {b : Wd} : ∀ (n : Nat) {v3 v4 : Int} {w : Wd}, SJ L b w → PC (f_M_tellPairs_9 n v3 v4 w) (fun _ u => SJ L b u) := by
  intro n
  induction n with
  | zero => intros; exact pc_none
  | succ n ih =>
    intro v3 v4 w h
    rw [f_M_tellPairs_9]
    refine pc_ite (fun _ => ?_) (fun _ => ?_)
    · exact pc_some h
    · refine pc_ite (fun _ => ?_) (fun _ => ?_)
      · exact pc_some h
      · refine pc_ite (fun _ => ?_) (fun _ => ?_)
        · exact pc_some h
        · refine pc_gd (fun _ => ?_)
          refine pc_gd (fun _ => ?_)
          refine pc_call (zs_M_moversOf h) (fun r3 u4 h => ?_)
          refine pc_let (fun x5 _ => ?_)
          refine pc_call (zs_E_lowest h) (fun r6 u7 h => ?_)
          refine pc_call (zs_E_lowest h) (fun r8 u9 h => ?_)
          refine pc_call (zs_N_putFirst h) (fun r10 u11 h => ?_)
          refine pc_gd (fun _ => ?_)
          refine pc_let (fun x12 _ => ?_)
          refine pc_let (fun x13 _ => ?_)
          exact ih h
theorem zs_M_tellPairs {L : Int} {b : Wd} {v1 : Int} {w : Wd} (h : SJ L b w) : PC (f_M_tellPairs v1 w) (fun _ u => SJ L b u) := by
  unfold f_M_tellPairs
  refine pc_call (zs_N_clear h) (fun r1 u2 h => ?_)
  exact (zs_M_tellPairs_9 _ h)
theorem zs_E_pairs {L : Int} {b : Wd} {w : Wd} (h : SJ L b w) (hL : L + 1 ≤ 2147480000) : PC (f_E_pairs  w) (fun _ u => SJ (L + 1) b u) := by
  unfold f_E_pairs
  refine pc_call (zs_E_largestWeek h (by omega)) (fun r1 u2 h => ?_)
  refine pc_call (zs_M_tellPairs h) (fun r3 u4 h => ?_)
  exact pc_some (sj_mono h (by omega))
theorem zs_E_has {L : Int} {b : Wd} {v0 v1 : Int} {w : Wd} (h : SJ L b w) : PC (f_E_has v0 v1 w) (fun _ u => SJ L b u) := by
  unfold f_E_has
  refine pc_ite (fun _ => ?_) (fun _ => ?_)
  · exact pc_some h
  · refine pc_ite (fun _ => ?_) (fun _ => ?_)
    · exact pc_some h
    · refine pc_ite (fun _ => ?_) (fun _ => ?_)
      · exact pc_some h
      · exact pc_some h
theorem zs_F_knownBy_31 {L : Int} {b : Wd} {k4 : Int → Int → Int → Wd → Option (Int × Wd)} {v1 v3 s0 s1 : Int} {w : Wd} (h : SJ L b w) (hk : ∀ {a0 a1 a2 : Int} {w : Wd}, SJ L b w → PC (k4 a0 a1 a2 w) (fun _ u => SJ L b u)) : PC (f_F_knownBy_31 k4 v1 v3 s0 s1 w) (fun _ u => SJ L b u) := by
  unfold f_F_knownBy_31
  refine pc_let (fun x3 _ => ?_)
  refine pc_let (fun x4 _ => ?_)
  exact hk h
theorem zs_F_knownBy_4 {L : Int} {b : Wd} : ∀ (n : Nat) {v1 v2 v3 : Int} {w : Wd}, SJ L b w → PC (f_F_knownBy_4 n v1 v2 v3 w) (fun _ u => SJ L b u) := by
  intro n
  induction n with
  | zero => intros; exact pc_none
  | succ n ih =>
    intro v1 v2 v3 w h
    rw [f_F_knownBy_4]
    refine pc_ite (fun _ => ?_) (fun _ => ?_)
    · exact pc_some h
    · refine pc_call (zs_E_has h) (fun r1 u2 h => ?_)
      refine pc_ite (fun _ => ?_) (fun _ => ?_)
      · exact (zs_F_knownBy_31 h (fun h => ih h))
      · refine pc_gd (fun _ => ?_)
        exact (zs_F_knownBy_31 h (fun h => ih h))
theorem zs_F_knownBy {L : Int} {b : Wd} {v1 : Int} {w : Wd} (h : SJ L b w) : PC (f_F_knownBy v1 w) (fun _ u => SJ L b u) := by
  unfold f_F_knownBy
  exact (zs_F_knownBy_4 _ h)
theorem zs_F_free {L : Int} {b : Wd} {w : Wd} (h : SJ L b w) : PC (f_F_free  w) (fun _ u => SJ L b u) := by
  unfold f_F_free
  refine pc_call (zs_F_strangers h) (fun r1 u2 h => ?_)
  exact pc_some h
theorem zs_N_tell2 {L : Int} {b : Wd} {v1 v2 : Int} {w : Wd} (h : SJ L b w) : PC (f_N_tell2 v1 v2 w) (fun _ u => SJ L b u) := by
  unfold f_N_tell2
  refine pc_call (zs_N_tell1 h) (fun r1 u2 h => ?_)
  refine pc_call (zs_N_put h) (fun r3 u4 h => ?_)
  exact pc_some h
theorem zs_E_bars_89 {L : Int} {b : Wd} {k32 : Int → Int → Int → Wd → Option (Int × Wd)} {v1 v2 v3 : Int} {w : Wd} (h : SJ L b w) (hk : ∀ {a0 a1 a2 : Int} {w : Wd}, SJ L b w → PC (k32 a0 a1 a2 w) (fun _ u => SJ L b u)) : PC (f_E_bars_89 k32 v1 v2 v3 w) (fun _ u => SJ L b u) := by
  unfold f_E_bars_89
  refine pc_let (fun x17 _ => ?_)
  exact hk h
theorem zs_E_bars_32 {L : Int} {b : Wd} : ∀ (n : Nat) {v1 v2 v3 : Int} {w : Wd}, SJ L b w → PC (f_E_bars_32 n v1 v2 v3 w) (fun _ u => SJ L b u) := by
  intro n
  induction n with
  | zero => intros; exact pc_none
  | succ n ih =>
    intro v1 v2 v3 w h
    rw [f_E_bars_32]
    refine pc_ite (fun _ => ?_) (fun _ => ?_)
    · exact pc_some h
    · refine pc_call (zs_F_knownBy h) (fun r12 u13 h => ?_)
      refine pc_call (zs_F_free h) (fun r14 u15 h => ?_)
      refine pc_let (fun x16 _ => ?_)
      refine pc_ite (fun _ => ?_) (fun _ => ?_)
      · refine pc_call (zs_JI_bitCount h) (fun r18 u19 h => ?_)
        refine pc_call (zs_JI_bitCount h) (fun r20 u21 h => ?_)
        refine pc_ite (fun _ => ?_) (fun _ => ?_)
        · refine pc_call (zs_N_tell2 h) (fun r22 u23 h => ?_)
          exact pc_some h
        · exact (zs_E_bars_89 h (fun h => ih h))
      · exact (zs_E_bars_89 h (fun h => ih h))
theorem zs_E_bars {L : Int} {b : Wd} {w : Wd} (h : SJ L b w) (hL : L + 1 ≤ 2147480000) : PC (f_E_bars  w) (fun _ u => SJ (L + 1) b u) := by
  unfold f_E_bars
  refine pc_call (zs_F_guests h) (fun r1 u2 h => ?_)
  refine pc_call (zs_JI_bitCount h) (fun r3 u4 h => ?_)
  refine pc_call (zs_E_largestWeek h (by omega)) (fun r5 u6 h => ?_)
  refine pc_call (zs_M_moversOf h) (fun r7 u8 h => ?_)
  refine pc_call (zs_JI_bitCount h) (fun r9 u10 h => ?_)
  refine pc_ite (fun _ => pc_none) (fun _ => ?_)
  refine pc_let (fun x11 _ => ?_)
  exact pc_w (zs_E_bars_32 _ h) (fun _ _ h => sj_mono h (by omega))
theorem zs_S_guests {L : Int} {b : Wd} {v1 : Int} {w : Wd} (h : SJ L b w) : PC (f_S_guests v1 w) (fun _ u => SJ L b u) := by
  unfold f_S_guests
  refine pc_ite (fun _ => ?_) (fun _ => ?_)
  · exact pc_some h
  · refine pc_ite (fun _ => ?_) (fun _ => ?_)
    · exact pc_some h
    · refine pc_gd (fun _ => ?_)
      refine pc_call (zs_O_guests h) (fun r1 u2 h => ?_)
      exact pc_some h
theorem zs_O_out {L : Int} {b : Wd} {v0 : Int} {w : Wd} (h : SJ L b w) : PC (f_O_out v0 w) (fun _ u => SJ L b u) := by
  unfold f_O_out
  exact pc_some h
theorem zs_O_after {L : Int} {b : Wd} {v0 v1 v2 : Int} {w : Wd} (h : SJ L b w) : PC (f_O_after v0 v1 v2 w) (fun _ u => SJ L b u) := by
  unfold f_O_after
  refine pc_call (zs_O_lateOne h) (fun r1 u2 h => ?_)
  refine pc_let (fun x3 _ => ?_)
  refine pc_call (zs_O_lateTwo h) (fun r4 u5 h => ?_)
  refine pc_let (fun x6 _ => ?_)
  refine pc_call (zs_O_out h) (fun r7 u8 h => ?_)
  refine pc_call (zs_O_guests h) (fun r9 u10 h => ?_)
  refine pc_let (fun x11 _ => ?_)
  exact pc_some h
theorem zs_S_slotOf_14 {L : Int} {b : Wd} : ∀ (n : Nat) {v1 v2 v3 : Int} {w : Wd}, SJ L b w → PC (f_S_slotOf_14 n v1 v2 v3 w) (fun _ u => SJ L b u) := by
  intro n
  induction n with
  | zero => intros; exact pc_none
  | succ n ih =>
    intro v1 v2 v3 w h
    rw [f_S_slotOf_14]
    refine pc_ite (fun _ => ?_) (fun _ => ?_)
    · exact pc_some h
    · refine pc_gd (fun _ => ?_)
      refine pc_ite (fun _ => ?_) (fun _ => ?_)
      · exact pc_some h
      · refine pc_gd (fun _ => ?_)
        refine pc_gd (fun _ => ?_)
        refine pc_ite (fun _ => ?_) (fun _ => ?_)
        · exact pc_some h
        · refine pc_ite (fun _ => pc_none) (fun _ => ?_)
          refine pc_let (fun x2 _ => ?_)
          refine pc_let (fun x3 _ => ?_)
          exact ih h
theorem zs_S_slotOf {L : Int} {b : Wd} {v1 : Int} {w : Wd} (h : SJ L b w) : PC (f_S_slotOf v1 w) (fun _ u => SJ L b u) := by
  unfold f_S_slotOf
  refine pc_ite (fun _ => pc_none) (fun _ => ?_)
  refine pc_let (fun x1 _ => ?_)
  exact (zs_S_slotOf_14 _ h)
theorem zs_S_leftOf {L : Int} {b : Wd} {v1 : Int} {w : Wd} (h : SJ L b w) : PC (f_S_leftOf v1 w) (fun _ u => SJ L b u) := by
  unfold f_S_leftOf
  refine pc_call (zs_S_slotOf h) (fun r1 u2 h => ?_)
  refine pc_gd (fun _ => ?_)
  refine pc_let (fun x3 _ => ?_)
  refine pc_ite (fun _ => ?_) (fun _ => ?_)
  · exact pc_some h
  · refine pc_ite (fun _ => ?_) (fun _ => ?_)
    · exact pc_some h
    · refine pc_gd (fun _ => ?_)
      exact pc_some h
theorem zs_S_leftBehind_29 {L : Int} {b : Wd} : ∀ (n : Nat) {v1 v4 v6 : Int} {w : Wd}, SJ L b w → PC (f_S_leftBehind_29 n v1 v4 v6 w) (fun _ u => SJ L b u) := by
  intro n
  induction n with
  | zero => intros; exact pc_none
  | succ n ih =>
    intro v1 v4 v6 w h
    rw [f_S_leftBehind_29]
    refine pc_ite (fun _ => ?_) (fun _ => ?_)
    · exact pc_some h
    · refine pc_gd (fun _ => ?_)
      refine pc_call (zs_M_moversOf h) (fun r5 u6 h => ?_)
      refine pc_call (zs_O_after h) (fun r7 u8 h => ?_)
      refine pc_call (zs_S_leftOf h) (fun r9 u10 h => ?_)
      refine pc_let (fun x11 _ => ?_)
      refine pc_let (fun x12 _ => ?_)
      exact ih h
theorem zs_S_leftBehind {L : Int} {b : Wd} {v1 : Int} {w : Wd} (h : SJ L b w) (hL : L + 1 ≤ 2147480000) : PC (f_S_leftBehind v1 w) (fun _ u => SJ (L + 1) b u) := by
  unfold f_S_leftBehind
  refine pc_call (zs_S_guests h) (fun r1 u2 h => ?_)
  refine pc_ite (fun _ => ?_) (fun _ => ?_)
  · exact pc_some (sj_mono h (by omega))
  · refine pc_gd (fun _ => ?_)
    refine pc_call (zs_M_gather h (by omega)) (fun r3 u4 h => ?_)
    exact pc_w (zs_S_leftBehind_29 _ h) (fun _ _ h => sj_mono h (by omega))
theorem zs_F_pricesOf_31 {L : Int} {b : Wd} {k4 : Int → Int → Int → Wd → Option (Int × Wd)} {v1 v3 s0 s1 : Int} {w : Wd} (h : SJ L b w) (hk : ∀ {a0 a1 a2 : Int} {w : Wd}, SJ L b w → PC (k4 a0 a1 a2 w) (fun _ u => SJ L b u)) : PC (f_F_pricesOf_31 k4 v1 v3 s0 s1 w) (fun _ u => SJ L b u) := by
  unfold f_F_pricesOf_31
  refine pc_let (fun x3 _ => ?_)
  refine pc_let (fun x4 _ => ?_)
  exact hk h
theorem zs_F_pricesOf_4 {L : Int} {b : Wd} : ∀ (n : Nat) {v1 v2 v3 : Int} {w : Wd}, SJ L b w → PC (f_F_pricesOf_4 n v1 v2 v3 w) (fun _ u => SJ L b u) := by
  intro n
  induction n with
  | zero => intros; exact pc_none
  | succ n ih =>
    intro v1 v2 v3 w h
    rw [f_F_pricesOf_4]
    refine pc_ite (fun _ => ?_) (fun _ => ?_)
    · exact pc_some h
    · refine pc_call (zs_E_has h) (fun r1 u2 h => ?_)
      refine pc_ite (fun _ => ?_) (fun _ => ?_)
      · exact (zs_F_pricesOf_31 h (fun h => ih h))
      · refine pc_gd (fun _ => ?_)
        exact (zs_F_pricesOf_31 h (fun h => ih h))
theorem zs_F_pricesOf {L : Int} {b : Wd} {v1 : Int} {w : Wd} (h : SJ L b w) : PC (f_F_pricesOf v1 w) (fun _ u => SJ L b u) := by
  unfold f_F_pricesOf
  exact (zs_F_pricesOf_4 _ h)
theorem zs_S_paidFor {L : Int} {b : Wd} {v1 : Int} {w : Wd} (h : SJ L b w) : PC (f_S_paidFor v1 w) (fun _ u => SJ L b u) := by
  unfold f_S_paidFor
  refine pc_ite (fun _ => ?_) (fun _ => ?_)
  · exact pc_some h
  · refine pc_ite (fun _ => ?_) (fun _ => ?_)
    · exact pc_some h
    · refine pc_call (zs_F_strangers h) (fun r1 u2 h => ?_)
      refine pc_gd (fun _ => ?_)
      refine pc_call (zs_O_known h) (fun r3 u4 h => ?_)
      refine pc_call (zs_F_pricesOf h) (fun r5 u6 h => ?_)
      exact pc_some h
theorem zs_S_leads {L : Int} {b : Wd} {v1 v2 : Int} {w : Wd} (h : SJ L b w) : PC (f_S_leads v1 v2 w) (fun _ u => SJ L b u) := by
  unfold f_S_leads
  refine pc_call (zs_S_leftOf h) (fun r1 u2 h => ?_)
  refine pc_ite (fun _ => ?_) (fun _ => ?_)
  · exact pc_some h
  · exact pc_some h
theorem zs_E_firstThatLeads_2 {L : Int} {b : Wd} : ∀ (n : Nat) {v1 v2 : Int} {w : Wd}, SJ L b w → PC (f_E_firstThatLeads_2 n v1 v2 w) (fun _ u => SJ L b u) := by
  intro n
  induction n with
  | zero => intros; exact pc_none
  | succ n ih =>
    intro v1 v2 w h
    rw [f_E_firstThatLeads_2]
    refine pc_ite (fun _ => ?_) (fun _ => ?_)
    · exact pc_some h
    · refine pc_call (zs_M_moversOf h) (fun r1 u2 h => ?_)
      refine pc_call (zs_O_after h) (fun r3 u4 h => ?_)
      refine pc_call (zs_S_leads h) (fun r5 u6 h => ?_)
      refine pc_ite (fun _ => ?_) (fun _ => ?_)
      · refine pc_let (fun x7 _ => ?_)
        exact ih h
      · exact pc_some h
theorem zs_E_firstThatLeads {L : Int} {b : Wd} {v1 : Int} {w : Wd} (h : SJ L b w) : PC (f_E_firstThatLeads v1 w) (fun _ u => SJ L b u) := by
  unfold f_E_firstThatLeads
  exact (zs_E_firstThatLeads_2 _ h)
theorem zs_E_tellFirstWeek {L : Int} {b : Wd} {v1 : Int} {w : Wd} (h : SJ L b w) (hL : L + 1 ≤ 2147480000) : PC (f_E_tellFirstWeek v1 w) (fun _ u => SJ (L + 1) b u) := by
  unfold f_E_tellFirstWeek
  refine pc_call (zs_M_gather h (by omega)) (fun r1 u2 h => ?_)
  refine pc_call (zs_E_firstThatLeads h) (fun r3 u4 h => ?_)
  refine pc_ite (fun _ => ?_) (fun _ => ?_)
  · exact pc_some (sj_mono h (by omega))
  · refine pc_call (zs_M_tellPairs h) (fun r5 u6 h => ?_)
    exact pc_some (sj_mono h (by omega))
theorem zs_S_mostGuests_4 {L : Int} {b : Wd} : ∀ (n : Nat) {v1 v2 : Int} {w : Wd}, SJ L b w → PC (f_S_mostGuests_4 n v1 v2 w) (fun _ u => SJ L b u) := by
  intro n
  induction n with
  | zero => intros; exact pc_none
  | succ n ih =>
    intro v1 v2 w h
    rw [f_S_mostGuests_4]
    refine pc_ite (fun _ => ?_) (fun _ => ?_)
    · exact pc_some h
    · refine pc_call (zs_S_guests h) (fun r1 u2 h => ?_)
      refine pc_call (zs_JI_bitCount h) (fun r3 u4 h => ?_)
      refine pc_let (fun x5 _ => ?_)
      refine pc_let (fun x6 _ => ?_)
      exact ih h
theorem zs_S_mostGuests {L : Int} {b : Wd} {w : Wd} (h : SJ L b w) : PC (f_S_mostGuests  w) (fun _ u => SJ L b u) := by
  unfold f_S_mostGuests
  exact (zs_S_mostGuests_4 _ h)
theorem zs_E_states_53 {L : Int} {b : Wd} {k25 : Int → Int → Wd → Option (Int × Wd)} {v2 s0 s1 : Int} {w : Wd} (h : SJ L b w) (hk : ∀ {a0 a1 : Int} {w : Wd}, SJ L b w → PC (k25 a0 a1 w) (fun _ u => SJ L b u)) : PC (f_E_states_53 k25 v2 s0 s1 w) (fun _ u => SJ L b u) := by
  unfold f_E_states_53
  refine pc_let (fun x9 _ => ?_)
  refine pc_let (fun x10 _ => ?_)
  exact hk h
theorem zs_E_states_25 {L : Int} {b : Wd} : ∀ (n : Nat) {v1 v2 : Int} {w : Wd}, SJ L b w → PC (f_E_states_25 n v1 v2 w) (fun _ u => SJ L b u) := by
  intro n
  induction n with
  | zero => intros; exact pc_none
  | succ n ih =>
    intro v1 v2 w h
    rw [f_E_states_25]
    refine pc_ite (fun _ => ?_) (fun _ => ?_)
    · refine pc_call (zs_S_mostGuests h) (fun r3 u4 h => ?_)
      refine pc_call (zs_N_tell2 h) (fun r5 u6 h => ?_)
      exact pc_some h
    · refine pc_call (zs_S_guests h) (fun r7 u8 h => ?_)
      refine pc_ite (fun _ => ?_) (fun _ => ?_)
      · exact (zs_E_states_53 h (fun h => ih h))
      · exact (zs_E_states_53 h (fun h => ih h))
theorem zs_S_weeksOf {L : Int} {b : Wd} {v1 : Int} {w : Wd} (h : SJ L b w) : PC (f_S_weeksOf v1 w) (fun _ u => SJ L b u) := by
  unfold f_S_weeksOf
  refine pc_ite (fun _ => ?_) (fun _ => ?_)
  · exact pc_some h
  · refine pc_ite (fun _ => ?_) (fun _ => ?_)
    · exact pc_some h
    · refine pc_gd (fun _ => ?_)
      exact pc_some h
theorem zs_S_canBe {L : Int} {b : Wd} {v1 v2 : Int} {w : Wd} (h : SJ L b w) : PC (f_S_canBe v1 v2 w) (fun _ u => SJ L b u) := by
  unfold f_S_canBe
  refine pc_call (zs_S_weeksOf h) (fun r1 u2 h => ?_)
  refine pc_ite (fun _ => ?_) (fun _ => ?_)
  · exact pc_some h
  · exact pc_some h
theorem zs_E_most_82 {L : Int} {b : Wd} {k37 : Int → Int → Int → Int → Wd → Option (Int × Wd)} {v1 v2 v3 v4 : Int} {w : Wd} (h : SJ L b w) (hk : ∀ {a0 a1 a2 a3 : Int} {w : Wd}, SJ L b w → PC (k37 a0 a1 a2 a3 w) (fun _ u => SJ L b u)) : PC (f_E_most_82 k37 v1 v2 v3 v4 w) (fun _ u => SJ L b u) := by
  unfold f_E_most_82
  refine pc_let (fun x9 _ => ?_)
  exact hk h
theorem zs_E_most_37 {L : Int} {b : Wd} : ∀ (n : Nat) {v1 v2 v3 v4 : Int} {w : Wd}, SJ L b w → PC (f_E_most_37 n v1 v2 v3 v4 w) (fun _ u => SJ L b u) := by
  intro n
  induction n with
  | zero => intros; exact pc_none
  | succ n ih =>
    intro v1 v2 v3 v4 w h
    rw [f_E_most_37]
    refine pc_ite (fun _ => ?_) (fun _ => ?_)
    · refine pc_call (zs_N_tell1 h) (fun r5 u6 h => ?_)
      exact pc_some h
    · refine pc_call (zs_S_canBe h) (fun r7 u8 h => ?_)
      refine pc_ite (fun _ => ?_) (fun _ => ?_)
      · exact (zs_E_most_82 h (fun h => ih h))
      · refine pc_call (zs_S_guests h) (fun r10 u11 h => ?_)
        refine pc_call (zs_JI_bitCount h) (fun r12 u13 h => ?_)
        refine pc_let (fun x14 _ => ?_)
        refine pc_let (fun x15 _ => ?_)
        exact (zs_E_most_82 h (fun h => ih h))
theorem zs_E_reach_100 {L : Int} {b : Wd} {k39 : Int → Int → Int → Int → Wd → Option (Int × Wd)} {v1 v2 v3 v4 : Int} {w : Wd} (h : SJ L b w) (hk : ∀ {a0 a1 a2 a3 : Int} {w : Wd}, SJ L b w → PC (k39 a0 a1 a2 a3 w) (fun _ u => SJ L b u)) : PC (f_E_reach_100 k39 v1 v2 v3 v4 w) (fun _ u => SJ L b u) := by
  unfold f_E_reach_100
  refine pc_let (fun x9 _ => ?_)
  exact hk h
theorem zs_E_reach_39 {L : Int} {b : Wd} : ∀ (n : Nat) {v1 v2 v3 v4 : Int} {w : Wd}, SJ L b w → PC (f_E_reach_39 n v1 v2 v3 v4 w) (fun _ u => SJ L b u) := by
  intro n
  induction n with
  | zero => intros; exact pc_none
  | succ n ih =>
    intro v1 v2 v3 v4 w h
    rw [f_E_reach_39]
    refine pc_ite (fun _ => ?_) (fun _ => ?_)
    · refine pc_call (zs_N_tell1 h) (fun r5 u6 h => ?_)
      exact pc_some h
    · refine pc_call (zs_S_canBe h) (fun r7 u8 h => ?_)
      refine pc_ite (fun _ => ?_) (fun _ => ?_)
      · exact (zs_E_reach_100 h (fun h => ih h))
      · refine pc_call (zs_S_guests h) (fun r10 u11 h => ?_)
        refine pc_ite (fun _ => ?_) (fun _ => ?_)
        · exact (zs_E_reach_100 h (fun h => ih h))
        · refine pc_call (zs_S_guests h) (fun r12 u13 h => ?_)
          refine pc_let (fun x14 _ => ?_)
          refine pc_call (zs_S_guests h) (fun r15 u16 h => ?_)
          refine pc_let (fun x17 _ => ?_)
          exact (zs_E_reach_100 h (fun h => ih h))
theorem zs_S_fewestGuests_42 {L : Int} {b : Wd} {k4 : Int → Int → Int → Wd → Option (Int × Wd)} {v1 v2 v3 : Int} {w : Wd} (h : SJ L b w) (hk : ∀ {a0 a1 a2 : Int} {w : Wd}, SJ L b w → PC (k4 a0 a1 a2 w) (fun _ u => SJ L b u)) : PC (f_S_fewestGuests_42 k4 v1 v2 v3 w) (fun _ u => SJ L b u) := by
  unfold f_S_fewestGuests_42
  refine pc_let (fun x3 _ => ?_)
  exact hk h
theorem zs_E_less_10 {L : Int} {b : Wd} {v1 : Int} {w : Wd} (h : SJ L b w) : PC (f_E_less_10 v1 w) (fun _ u => SJ L b u) := by
  unfold f_E_less_10
  exact pc_some h
theorem zs_E_less {L : Int} {b : Wd} {v0 v1 : Int} {w : Wd} (h : SJ L b w) : PC (f_E_less v0 v1 w) (fun _ u => SJ L b u) := by
  unfold f_E_less
  refine pc_ite (fun _ => ?_) (fun _ => ?_)
  · exact (zs_E_less_10 h)
  · refine pc_ite (fun _ => ?_) (fun _ => ?_)
    · exact pc_some h
    · exact (zs_E_less_10 h)
theorem zs_S_fewestGuests_4 {L : Int} {b : Wd} : ∀ (n : Nat) {v1 v2 v3 : Int} {w : Wd}, SJ L b w → PC (f_S_fewestGuests_4 n v1 v2 v3 w) (fun _ u => SJ L b u) := by
  intro n
  induction n with
  | zero => intros; exact pc_none
  | succ n ih =>
    intro v1 v2 v3 w h
    rw [f_S_fewestGuests_4]
    refine pc_ite (fun _ => ?_) (fun _ => ?_)
    · exact pc_some h
    · refine pc_call (zs_S_canBe h) (fun r1 u2 h => ?_)
      refine pc_ite (fun _ => ?_) (fun _ => ?_)
      · exact (zs_S_fewestGuests_42 h (fun h => ih h))
      · refine pc_call (zs_S_guests h) (fun r4 u5 h => ?_)
        refine pc_ite (fun _ => ?_) (fun _ => ?_)
        · exact (zs_S_fewestGuests_42 h (fun h => ih h))
        · refine pc_call (zs_S_guests h) (fun r6 u7 h => ?_)
          refine pc_call (zs_JI_bitCount h) (fun r8 u9 h => ?_)
          refine pc_call (zs_E_less h) (fun r10 u11 h => ?_)
          exact (zs_S_fewestGuests_42 h (fun h => ih h))
theorem zs_S_fewestGuests {L : Int} {b : Wd} {v1 : Int} {w : Wd} (h : SJ L b w) : PC (f_S_fewestGuests v1 w) (fun _ u => SJ L b u) := by
  unfold f_S_fewestGuests
  exact (zs_S_fewestGuests_4 _ h)
theorem zs_E_firstWeek_2 {L : Int} {b : Wd} : ∀ (n : Nat) {v0 v2 : Int} {w : Wd}, SJ L b w → PC (f_E_firstWeek_2 n v0 v2 w) (fun _ u => SJ L b u) := by
  intro n
  induction n with
  | zero => intros; exact pc_none
  | succ n ih =>
    intro v0 v2 w h
    rw [f_E_firstWeek_2]
    refine pc_ite (fun _ => ?_) (fun _ => ?_)
    · exact pc_some h
    · refine pc_ite (fun _ => ?_) (fun _ => ?_)
      · refine pc_let (fun x1 _ => ?_)
        exact ih h
      · exact pc_some h
theorem zs_E_firstWeek {L : Int} {b : Wd} {v0 : Int} {w : Wd} (h : SJ L b w) : PC (f_E_firstWeek v0 w) (fun _ u => SJ L b u) := by
  unfold f_E_firstWeek
  exact (zs_E_firstWeek_2 _ h)
theorem zs_E_crowd_154 {L : Int} {b : Wd} {k92 : Int → Int → Int → Int → Wd → Option (Int × Wd)} {v1 v4 v5 v6 : Int} {w : Wd} (h : SJ L b w) (hk : ∀ {a0 a1 a2 a3 : Int} {w : Wd}, SJ L b w → PC (k92 a0 a1 a2 a3 w) (fun _ u => SJ L b u)) : PC (f_E_crowd_154 k92 v1 v4 v5 v6 w) (fun _ u => SJ L b u) := by
  unfold f_E_crowd_154
  refine pc_let (fun x13 _ => ?_)
  exact hk h
theorem zs_E_crowd_92 {L : Int} {b : Wd} : ∀ (n : Nat) {v1 v4 v5 v6 : Int} {w : Wd}, SJ L b w → PC (f_E_crowd_92 n v1 v4 v5 v6 w) (fun _ u => SJ L b u) := by
  intro n
  induction n with
  | zero => intros; exact pc_none
  | succ n ih =>
    intro v1 v4 v5 v6 w h
    rw [f_E_crowd_92]
    refine pc_ite (fun _ => ?_) (fun _ => ?_)
    · refine pc_call (zs_N_tell2 h) (fun r7 u8 h => ?_)
      exact pc_some h
    · refine pc_call (zs_S_guests h) (fun r9 u10 h => ?_)
      refine pc_call (zs_JI_bitCount h) (fun r11 u12 h => ?_)
      refine pc_ite (fun _ => ?_) (fun _ => ?_)
      · refine pc_call (zs_S_canBe h) (fun r14 u15 h => ?_)
        refine pc_ite (fun _ => ?_) (fun _ => ?_)
        · exact (zs_E_crowd_154 h (fun h => ih h))
        · refine pc_call (zs_S_paidFor h) (fun r16 u17 h => ?_)
          refine pc_call (zs_E_less h) (fun r18 u19 h => ?_)
          exact (zs_E_crowd_154 h (fun h => ih h))
      · exact (zs_E_crowd_154 h (fun h => ih h))
theorem zs_E_crowd_74 {L : Int} {b : Wd} {k34 : Int → Int → Int → Wd → Option (Int × Wd)} {v1 v2 v4 : Int} {w : Wd} (h : SJ L b w) (hk : ∀ {a0 a1 a2 : Int} {w : Wd}, SJ L b w → PC (k34 a0 a1 a2 w) (fun _ u => SJ L b u)) : PC (f_E_crowd_74 k34 v1 v2 v4 w) (fun _ u => SJ L b u) := by
  unfold f_E_crowd_74
  refine pc_let (fun x24 _ => ?_)
  exact hk h
theorem zs_E_crowd_34 {L : Int} {b : Wd} : ∀ (n : Nat) {v1 v2 v4 : Int} {w : Wd}, SJ L b w → PC (f_E_crowd_34 n v1 v2 v4 w) (fun _ u => SJ L b u) := by
  intro n
  induction n with
  | zero => intros; exact pc_none
  | succ n ih =>
    intro v1 v2 v4 w h
    rw [f_E_crowd_34]
    refine pc_ite (fun _ => ?_) (fun _ => ?_)
    · refine pc_call (zs_E_firstWeek h) (fun r5 u6 h => ?_)
      exact (zs_E_crowd_92 _ h)
    · refine pc_call (zs_S_guests h) (fun r20 u21 h => ?_)
      refine pc_call (zs_JI_bitCount h) (fun r22 u23 h => ?_)
      refine pc_ite (fun _ => ?_) (fun _ => ?_)
      · refine pc_call (zs_S_weeksOf h) (fun r25 u26 h => ?_)
        refine pc_let (fun x27 _ => ?_)
        exact (zs_E_crowd_74 h (fun h => ih h))
      · exact (zs_E_crowd_74 h (fun h => ih h))
theorem zs_S_leastPaid_61 {L : Int} {b : Wd} {k6 : Int → Int → Int → Int → Wd → Option (Int × Wd)} {v1 v2 v4 v5 : Int} {w : Wd} (h : SJ L b w) (hk : ∀ {a0 a1 a2 a3 : Int} {w : Wd}, SJ L b w → PC (k6 a0 a1 a2 a3 w) (fun _ u => SJ L b u)) : PC (f_S_leastPaid_61 k6 v1 v2 v4 v5 w) (fun _ u => SJ L b u) := by
  unfold f_S_leastPaid_61
  refine pc_let (fun x3 _ => ?_)
  exact hk h
theorem zs_S_leastPaid_6 {L : Int} {b : Wd} : ∀ (n : Nat) {v1 v2 v4 v5 : Int} {w : Wd}, SJ L b w → PC (f_S_leastPaid_6 n v1 v2 v4 v5 w) (fun _ u => SJ L b u) := by
  intro n
  induction n with
  | zero => intros; exact pc_none
  | succ n ih =>
    intro v1 v2 v4 v5 w h
    rw [f_S_leastPaid_6]
    refine pc_ite (fun _ => ?_) (fun _ => ?_)
    · exact pc_some h
    · refine pc_call (zs_S_canBe h) (fun r1 u2 h => ?_)
      refine pc_ite (fun _ => ?_) (fun _ => ?_)
      · exact (zs_S_leastPaid_61 h (fun h => ih h))
      · refine pc_call (zs_S_guests h) (fun r4 u5 h => ?_)
        refine pc_ite (fun _ => ?_) (fun _ => ?_)
        · exact (zs_S_leastPaid_61 h (fun h => ih h))
        · refine pc_call (zs_S_guests h) (fun r6 u7 h => ?_)
          refine pc_ite (fun _ => ?_) (fun _ => ?_)
          · refine pc_call (zs_S_paidFor h) (fun r8 u9 h => ?_)
            refine pc_call (zs_E_less h) (fun r10 u11 h => ?_)
            exact (zs_S_leastPaid_61 h (fun h => ih h))
          · exact (zs_S_leastPaid_61 h (fun h => ih h))
theorem zs_S_leastPaid {L : Int} {b : Wd} {v1 v2 : Int} {w : Wd} (h : SJ L b w) : PC (f_S_leastPaid v1 v2 w) (fun _ u => SJ L b u) := by
  unfold f_S_leastPaid
  exact (zs_S_leastPaid_6 _ h)
theorem zs_S_weeksWith_61 {L : Int} {b : Wd} {k5 : Int → Int → Int → Int → Wd → Option (Int × Wd)} {v1 v2 v3 v5 : Int} {w : Wd} (h : SJ L b w) (hk : ∀ {a0 a1 a2 a3 : Int} {w : Wd}, SJ L b w → PC (k5 a0 a1 a2 a3 w) (fun _ u => SJ L b u)) : PC (f_S_weeksWith_61 k5 v1 v2 v3 v5 w) (fun _ u => SJ L b u) := by
  unfold f_S_weeksWith_61
  refine pc_let (fun x3 _ => ?_)
  exact hk h
theorem zs_S_weeksWith_5 {L : Int} {b : Wd} : ∀ (n : Nat) {v1 v2 v3 v5 : Int} {w : Wd}, SJ L b w → PC (f_S_weeksWith_5 n v1 v2 v3 v5 w) (fun _ u => SJ L b u) := by
  intro n
  induction n with
  | zero => intros; exact pc_none
  | succ n ih =>
    intro v1 v2 v3 v5 w h
    rw [f_S_weeksWith_5]
    refine pc_ite (fun _ => ?_) (fun _ => ?_)
    · exact pc_some h
    · refine pc_call (zs_S_guests h) (fun r1 u2 h => ?_)
      refine pc_ite (fun _ => ?_) (fun _ => ?_)
      · exact (zs_S_weeksWith_61 h (fun h => ih h))
      · refine pc_call (zs_S_guests h) (fun r4 u5 h => ?_)
        refine pc_ite (fun _ => ?_) (fun _ => ?_)
        · refine pc_gd (fun _ => ?_)
          refine pc_call (zs_O_known h) (fun r6 u7 h => ?_)
          refine pc_ite (fun _ => ?_) (fun _ => ?_)
          · refine pc_gd (fun _ => ?_)
            refine pc_let (fun x8 _ => ?_)
            exact (zs_S_weeksWith_61 h (fun h => ih h))
          · exact (zs_S_weeksWith_61 h (fun h => ih h))
        · exact (zs_S_weeksWith_61 h (fun h => ih h))
theorem zs_S_weeksWith {L : Int} {b : Wd} {v1 v2 : Int} {w : Wd} (h : SJ L b w) : PC (f_S_weeksWith v1 v2 w) (fun _ u => SJ L b u) := by
  unfold f_S_weeksWith
  exact (zs_S_weeksWith_5 _ h)
theorem zs_S_lastWeek_11 {L : Int} {b : Wd} : ∀ (n : Nat) {v3 v5 : Int} {w : Wd}, SJ L b w → PC (f_S_lastWeek_11 n v3 v5 w) (fun _ u => SJ L b u) := by
  intro n
  induction n with
  | zero => intros; exact pc_none
  | succ n ih =>
    intro v3 v5 w h
    rw [f_S_lastWeek_11]
    refine pc_ite (fun _ => ?_) (fun _ => ?_)
    · exact pc_some h
    · refine pc_ite (fun _ => ?_) (fun _ => ?_)
      · refine pc_let (fun x3 _ => ?_)
        exact ih h
      · exact pc_some h
theorem zs_S_lastWeek {L : Int} {b : Wd} {v1 v2 : Int} {w : Wd} (h : SJ L b w) : PC (f_S_lastWeek v1 v2 w) (fun _ u => SJ L b u) := by
  unfold f_S_lastWeek
  refine pc_call (zs_S_weeksWith h) (fun r1 u2 h => ?_)
  exact (zs_S_lastWeek_11 _ h)
theorem zs_E_stays_95 {L : Int} {b : Wd} {v2 v3 : Int} {w : Wd} (h : SJ L b w) : PC (f_E_stays_95 v2 v3 w) (fun _ u => SJ L b u) := by
  unfold f_E_stays_95
  refine pc_call (zs_N_tell1 h) (fun r11 u12 h => ?_)
  exact pc_some h
theorem zs_E_needed_89 {L : Int} {b : Wd} {k43 : Int → Int → Int → Wd → Option (Int × Wd)} {v1 v2 v3 : Int} {w : Wd} (h : SJ L b w) (hk : ∀ {a0 a1 a2 : Int} {w : Wd}, SJ L b w → PC (k43 a0 a1 a2 w) (fun _ u => SJ L b u)) : PC (f_E_needed_89 k43 v1 v2 v3 w) (fun _ u => SJ L b u) := by
  unfold f_E_needed_89
  refine pc_let (fun x9 _ => ?_)
  exact hk h
theorem zs_E_needed_43 {L : Int} {b : Wd} : ∀ (n : Nat) {v1 v2 v3 : Int} {w : Wd}, SJ L b w → PC (f_E_needed_43 n v1 v2 v3 w) (fun _ u => SJ L b u) := by
  intro n
  induction n with
  | zero => intros; exact pc_none
  | succ n ih =>
    intro v1 v2 v3 w h
    rw [f_E_needed_43]
    refine pc_ite (fun _ => ?_) (fun _ => ?_)
    · exact pc_some h
    · refine pc_call (zs_F_free h) (fun r5 u6 h => ?_)
      refine pc_call (zs_E_has h) (fun r7 u8 h => ?_)
      refine pc_ite (fun _ => ?_) (fun _ => ?_)
      · exact (zs_E_needed_89 h (fun h => ih h))
      · refine pc_call (zs_S_lastWeek h) (fun r10 u11 h => ?_)
        refine pc_ite (fun _ => ?_) (fun _ => ?_)
        · exact (zs_E_needed_89 h (fun h => ih h))
        · refine pc_let (fun x12 _ => ?_)
          exact (zs_E_needed_89 h (fun h => ih h))
theorem zs_E_never_25 {L : Int} {b : Wd} : ∀ (n : Nat) {v1 v2 : Int} {w : Wd}, SJ L b w → PC (f_E_never_25 n v1 v2 w) (fun _ u => SJ L b u) := by
  intro n
  induction n with
  | zero => intros; exact pc_none
  | succ n ih =>
    intro v1 v2 w h
    rw [f_E_never_25]
    refine pc_ite (fun _ => ?_) (fun _ => ?_)
    · refine pc_call (zs_F_strangers h) (fun r3 u4 h => ?_)
      exact pc_some h
    · refine pc_call (zs_S_guests h) (fun r5 u6 h => ?_)
      refine pc_let (fun x7 _ => ?_)
      refine pc_let (fun x8 _ => ?_)
      exact ih h
theorem zs_S_lookBack_79 {L T : Int} {b : Wd} {k8 : Int → Int → Int → Wd → Option (Int × Wd)} {v3 v4 v5 v6 s0 : Int} {w : Wd} (h : SJ L b w) (hL : L + 1 ≤ 2147480000) (hk : ∀ {w : Wd}, SJ (L + 1) b w → PC (k8 v3 v4 (w32 (v5 + (-1))) w) (fun _ u => SJ T b u)) : PC (f_S_lookBack_79 k8 v3 v4 v5 v6 s0 w) (fun _ u => SJ T b u) := by
  unfold f_S_lookBack_79
  refine pc_call (zs_S_leftBehind h hL) (fun r5 u6 h => ?_)
  refine pc_gd (fun _ => pc_lw (fun u7 e => pc_let (fun x8 e8 => ?_)))
  rw [e8]
  exact hk (sj_st h e (by decide))
theorem zs_S_lookBack_49 {L T : Int} {b : Wd} {k8 : Int → Int → Int → Wd → Option (Int × Wd)} {v3 v4 v5 v6 s0 : Int} {w : Wd} (h : SJ L b w) (hL : L + 1 ≤ 2147480000) (hk : ∀ {w : Wd}, SJ (L + 1) b w → PC (k8 v3 v4 (w32 (v5 + (-1))) w) (fun _ u => SJ T b u)) : PC (f_S_lookBack_49 k8 v3 v4 v5 v6 s0 w) (fun _ u => SJ T b u) := by
  unfold f_S_lookBack_49 f_S_lookBack_78 f_S_lookBack_74
  refine pc_ite (fun _ => zs_S_lookBack_79 h hL hk) (fun _ => pc_ite (fun _ => zs_S_lookBack_79 h hL hk) (fun _ => pc_call (zs_S_paidFor h) (fun r9 u10 h => pc_ite (fun _ => zs_S_lookBack_79 h hL hk) (fun _ => zs_S_lookBack_79 h hL hk))))
theorem zs_S_lookBack_8 {T : Int} {b : Wd} (hT : T ≤ 2147480000) : ∀ (n : Nat) {v3 v4 v5 L : Int} {w : Wd}, SJ L b w → L ≤ T → (v5 < 3000 → L + (v5 + 1) ≤ T) → PC (f_S_lookBack_8 n v3 v4 v5 w) (fun _ u => SJ T b u) := by
  intro n
  induction n with
  | zero => intros; exact pc_none
  | succ n ih =>
    intro v3 v4 v5 L w h h1 h2
    rw [f_S_lookBack_8]
    refine pc_ite (fun _ => pc_some (sj_mono h h1)) (fun c => pc_gd (fun g => pc_let (fun x2 _ => ?_)))
    have z := w32_sp (v5 + (-1))
    have hk : ∀ {w : Wd}, SJ (L + 1) b w → PC (f_S_lookBack_8 n v3 v4 (w32 (v5 + (-1))) w) (fun _ u => SJ T b u) := fun h => ih h (by omega) (by omega)
    refine pc_call (zs_S_guests h) (fun r3 u4 h => ?_)
    unfold f_S_lookBack_48
    refine pc_ite (fun _ => zs_S_lookBack_49 h (by omega) hk) (fun _ => pc_call (zs_S_guests h) (fun r11 u12 h => pc_ite (fun _ => zs_S_lookBack_49 h (by omega) hk) (fun _ => zs_S_lookBack_49 h (by omega) hk)))
theorem zs_S_lookBack {L : Int} {b : Wd} {v3 v4 : Int} {w : Wd} (h : SJ L b w) (hL : L + 3000 ≤ 2147480000) : PC (f_S_lookBack v3 v4 w) (fun _ u => SJ (L + 3000) b u) := by
  unfold f_S_lookBack
  exact pc_let (fun x1 _ => zs_S_lookBack_8 hL FU h (by omega) (fun _ => by omega))
theorem zs_E_firstToBring_41 {T : Int} {b : Wd} (hT : T ≤ 2147480000) (h53 : b 5 3 ≤ 10) : ∀ (n : Nat) {v1 v2 v3 v4 L : Int} {w : Wd}, SJ L b w → L ≤ T → 0 ≤ v4 → v4 ≤ 10 → L + (10 - v4) ≤ T → PC (f_E_firstToBring_41 n v1 v2 v3 v4 w) (fun _ u => SJ T b u) := by
  intro n
  induction n with
  | zero => intros; exact pc_none
  | succ n ih =>
    intro v1 v2 v3 v4 L w h h1 h0 h10 h2
    rw [f_E_firstToBring_41]
    refine pc_ite (fun _ => pc_some (sj_mono h h1)) (fun c => ?_)
    rw [h.1.1] at c
    have z := w32_sp (v4 + 1)
    refine pc_call (zs_F_knownBy h) (fun r8 u9 h => pc_call (zs_F_free h) (fun r10 u11 h => pc_call (zs_E_has h) (fun r12 u13 h => ?_)))
    unfold f_E_firstToBring_111
    refine pc_ite (fun _ => pc_let (fun x14 e => ?_)) (fun _ => ?_)
    · exact ih h h1 (by omega) (by omega) (by omega)
    · refine pc_call (zs_M_gatherBehind h (by omega)) (fun r15 u16 h => pc_call (zs_E_firstThatLeads h) (fun r17 u18 h => ?_))
      refine pc_ite (fun _ => pc_let (fun x14 e => ?_)) (fun _ => pc_some (sj_mono h (by omega)))
      exact ih h (by omega) (by omega) (by omega) (by omega)
theorem zs_E_firstToBring {L : Int} {b : Wd} {v1 v2 : Int} {w : Wd} (h : SJ L b w) (hL : L + 11 ≤ 2147480000) (h53 : b 5 3 ≤ 10) : PC (f_E_firstToBring v1 v2 w) (fun _ u => SJ (L + 11) b u) := by
  unfold f_E_firstToBring
  refine pc_call (zs_F_guests h) (fun r1 u2 h => pc_let (fun x3 _ => ?_))
  refine pc_call (zs_M_gatherBehind h (by omega)) (fun r4 u5 h => pc_call (zs_E_firstThatLeads h) (fun r6 u7 h => ?_))
  exact pc_ite (fun _ => zs_E_firstToBring_41 hL h53 FU h (by omega) (by omega) (by omega) (by omega)) (fun _ => pc_some (sj_mono h (by omega)))
/-! WHAT IS KEPT OF A SEARCH: every method of the class -/
theorem sj_scr {n m L : Int} {w u : Wd} (hs : SCR n w) (h : SJ L w u) (hL : L ≤ 2000 * m) : SCR m u := by
  obtain ⟨⟨z5, z7, z28, z29, z30, z31, z35⟩, zr, zl⟩ := h
  refine ⟨⟨zr, by omega⟩, fun hf => ?_⟩
  rw [z28] at hf
  rw [z5, z7]
  exact kpt_eq (hs.2 hf) (fun k _ => by rw [z28]) z29 z30 z31 z35
theorem sj_0 {n : Int} {w : Wd} (hs : SCR n w) : SJ (w 24 4) w w := ⟨⟨rfl, rfl, rfl, rfl, rfl, rfl, rfl⟩, hs.1.1, Int.le_refl _⟩
theorem zrun {n : Int} {a w : Wd} {K : Int → Wd → Option (Int × Wd)} (he : ER a w) (hs : SCR n w) (hn : n ≤ 2600) (hK : ∀ r u, SJ (w 24 4 + 3000) u u → u 5 3 ≤ 10 → PC (K r u) (fun _ v => SJ (w 24 4 + 7000) u v)) : PC (jcall (f_S_run w) K) (fun _ v => SCR (n + 5) v) := by
  have hp := er_prm he
  refine pc_call (crun hp hs hn hs.2) (fun r u q => ?_)
  have hr := q.1
  have s := run_scr hs hr
  have h5 : u 5 = w 5 := hr.1 5 (by decide) (by decide) (by decide) (by decide) (by decide) (by decide) (by decide) (by decide) (by decide) (by decide) (by decide)
  refine pc_w (hK r u ⟨⟨rfl, rfl, rfl, rfl, rfl, rfl, rfl⟩, hr.2.1⟩ (by rw [h5]; exact hp.1.2)) (fun _ v z => sj_scr s z (by have := hs.1.2; omega))
theorem g_out {S : List Nat} {b u : Wd} (h : G S b u) (cs : List Nat) (hS : S.all (fun x => !cs.contains (x / 100)) = true) : ∀ c, cs.contains c = true → u c = b c := by
  intro c hc
  funext k
  refine h.2.1 c k (mS_ar ?_ k)
  rw [List.all_eq_true]
  intro x hx
  have h1 := List.all_eq_true.mp hS x hx
  rw [Bool.or_eq_true, Nat.blt_eq, Nat.blt_eq]
  by_cases e : x / 100 = c
  · rw [e, hc] at h1; cases h1
  · omega
/-- the method touches nothing of it -/
theorem scr_g {n : Int} {S : List Nat} {w u : Wd} (hs : SCR n w) (hG : G S w u) (hS : S.all (fun x => !([5, 7, 24, 27, 28, 29, 30, 31, 35] : List Nat).contains (x / 100)) = true) : SCR n u := by
  have f := g_out hG _ hS
  exact scr_fr hs (f 5 rfl) (f 7 rfl) (f 24 rfl) (f 27 rfl) (f 28 rfl) (f 29 rfl) (f 30 rfl) (f 31 rfl) (f 35 rfl)
/-- forgotten, or nothing touched -/
def FGT (b w : Wd) : Prop := w 28 9 = 0 ∨ (w 5 = b 5 ∧ w 7 = b 7 ∧ w 28 = b 28)
theorem fgt_self (w : Wd) : FGT w w := Or.inr ⟨rfl, rfl, rfl⟩
theorem fgt_g {S : List Nat} {b w u : Wd} (h : FGT b w) (hG : G S w u) (hS : S.all (fun x => !([5, 7, 28] : List Nat).contains (x / 100)) = true) : FGT b u := by
  have f := g_out hG _ hS
  unfold FGT
  rw [f 5 rfl, f 7 rfl, f 28 rfl]
  exact h
theorem fgt_scr {n : Int} {S : List Nat} {w u : Wd} (hs : SCR n w) (h : FGT w u) (hG : G S w u) (hS : S.all (fun x => !([24, 27, 29, 30, 31, 35] : List Nat).contains (x / 100)) = true) : SCR n u := by
  have f := g_out hG _ hS
  rcases h with e | ⟨e5, e7, e28⟩
  · exact scr_no hs (f 24 rfl) (f 27 rfl) e
  · exact scr_fr hs e5 e7 (f 24 rfl) (f 27 rfl) e28 (f 29 rfl) (f 30 rfl) (f 31 rfl) (f 35 rfl)
theorem fgn (w : Wd) : PC (f_S_forget w) (fun _ u => u 28 9 = 0) := pc_lw (fun y e => pc_some (by rw [e, st_eq]))
theorem pcN (o : Option (Int × Wd)) : PC o (fun _ _ => True) := fun _ _ _ => trivial
theorem fgn_pc {b w : Wd} {r : Wd → Int} : PC (jcall (f_S_forget w) fun _ u => some (r u, u)) (fun _ u => FGT b u) := pc_call (fgn w) (fun _ _ h => pc_some (Or.inl h))
theorem pcm_no (w : Wd) : PC (f_E_peopleCame w) (fun _ u => u 28 9 = 0) := by
  unfold f_E_peopleCame
  exact pc_call (pcN _) (fun _ _ _ => pc_call (pcN _) (fun _ _ _ => pc_lw (fun _ _ => pc_call (fgn _) (fun _ _ h => pc_some h))))
theorem ps15_no : ∀ (n : Nat) {v1 v2 : Int} {w : Wd}, PC (f_E_pass_15 n v1 v2 w) (fun _ u => u 28 9 = 0) := by
  intro n
  induction n with
  | zero => intros; exact pc_none
  | succ n ih =>
    intro v1 v2 w
    rw [f_E_pass_15]
    refine pc_ite (fun _ => pc_lw (fun _ _ => pc_call (pcN _) (fun _ _ _ => pc_lw (fun _ _ => pc_lw (fun _ _ => pc_call (pcN _) (fun _ _ _ => pc_call (pcN _) (fun _ _ _ => pc_call (fgn _) (fun _ _ h => pc_some h)))))))) (fun _ => pc_call (pcN _) (fun _ _ _ => pc_call (pcN _) (fun _ _ _ => pc_call (pcN _) (fun _ _ _ => pc_let (fun _ _ => pc_let (fun _ _ => ih))))))
theorem ps_no (w : Wd) : PC (f_E_pass w) (fun _ u => u 28 9 = 0) := by
  unfold f_E_pass
  exact pc_call (pcN _) (fun _ _ _ => ps15_no FU)
theorem fg_land {w : Wd} (hG : G [] w w) : PC (f_E_land w) (fun _ u => FGT w u) := by
  unfold f_E_land
  have r5 : 0 ≤ w 5 3 ∧ w 5 3 ≤ 10 := hG.1 5 3
  refine pc_call (pc_ok (s_L_read (g_self hG) r5)) (fun r1 u2 q => ?_)
  refine pc_call (pc_ok (s_T_clear (g_self q.2))) (fun r3 u4 q2 => ?_)
  refine pc_ite (fun _ => pc_some (fgt_g (fgt_g (fgt_self w) q.2 rfl) q2.2.1 rfl)) (fun _ => pc_call (pcN _) (fun _ _ _ => pc_call (pcm_no _) (fun _ _ h => pc_some (Or.inl h))))
theorem fg_law {w : Wd} {v1 v2 : Int} : PC (f_E_law v1 v2 w) (fun _ u => FGT w u) := by
  unfold f_E_law f_E_law_25 f_E_law_51 f_E_law_75
  refine pc_ite (fun _ => pc_some (fgt_self w)) (fun _ => pc_ite (fun _ => pc_some (fgt_self w)) (fun _ => pc_ite (fun _ => pc_some (fgt_self w)) (fun _ => pc_ite (fun _ => ?_) (fun _ => ?_)))) <;> refine pc_ite (fun _ => pc_ite (fun _ => ?_) (fun _ => ?_)) (fun _ => pc_some (fgt_self w)) <;> exact pc_ite (fun _ => pc_lw (fun _ _ => fgn_pc)) (fun _ => pc_lw (fun _ _ => fgn_pc))
theorem fg_meet {w : Wd} {v1 v2 v3 : Int} : PC (f_E_meet v1 v2 v3 w) (fun _ u => FGT w u) := by
  unfold f_E_meet
  refine pc_call (zq_E_areTwo rfl) (fun r1 u2 e => ?_)
  refine pc_ite (fun _ => pc_some (by rw [e]; exact fgt_self w)) (fun _ => pc_gd (fun _ => pc_call (pcN _) (fun _ _ _ => pc_gd (fun _ => pc_lw (fun _ _ => pc_gd (fun _ => pc_call (pcN _) (fun _ _ _ => pc_gd (fun _ => pc_lw (fun _ _ => fgn_pc)))))))))
theorem fg_hide {w : Wd} {v1 v2 : Int} : PC (f_E_hide v1 v2 w) (fun _ u => FGT w u) := by
  unfold f_E_hide
  refine pc_call (zq_F_isThere rfl) (fun r1 u2 e => ?_)
  refine pc_ite (fun _ => pc_some (by rw [e]; exact fgt_self w)) (fun _ => pc_call (pcN _) (fun _ _ _ => pc_lw (fun _ _ => fgn_pc)))
theorem fg_baby {w : Wd} {v1 : Int} : PC (f_E_baby v1 w) (fun _ u => FGT w u) := by
  unfold f_E_baby
  refine pc_ite (fun _ => pc_some (fgt_self w)) (fun _ => ?_)
  refine pc_call (zq_F_everybody rfl) (fun r1 u2 e => ?_)
  refine pc_ite (fun _ => pc_call (pcN _) (fun _ _ _ => pc_call (pcm_no _) (fun _ _ h => pc_some (Or.inl h)))) (fun _ => pc_some (by rw [e]; exact fgt_self w))
theorem fg_week {w : Wd} (hG : G [] w w) : PC (f_E_week w) (fun _ u => FGT w u) := by
  unfold f_E_week f_E_week_100
  refine pc_call (pc_ok (s_P_read (g_self hG))) (fun r1 u2 q => ?_)
  refine pc_call (pc_ok (s_T_clear (g_self q.2))) (fun r3 u4 q2 => ?_)
  have f4 := fgt_g (fgt_g (fgt_self w) q.2 rfl) q2.2.1 rfl
  refine pc_ite (fun _ => pc_ite (fun _ => ?_) (fun _ => pc_some f4)) (fun _ => pc_some f4)
  refine pc_call (pc_ok (s_P_firstWrongPair (g_self q2.2.1))) (fun r5 u6 q3 => ?_)
  have f6 := fgt_g f4 q3.2 rfl
  refine pc_ite (fun _ => pc_ite (fun _ => pc_call (ps_no _) (fun _ _ h => pc_some (Or.inl h))) (fun _ => ?_)) (fun _ => pc_some f6)
  refine pc_call (pc_ok (s_F_guestsAfter (g_self q3.2) (show -2147483648 ≤ u6 12 3 ∧ u6 12 3 ≤ 2147483647 from q3.2.1 12 3))) (fun r9 u10 q4 => ?_)
  exact pc_ite (fun _ => pc_call (ps_no _) (fun _ _ h => pc_some (Or.inl h))) (fun _ => pc_some (fgt_g f6 q4.2 rfl))
theorem fg_g75 {b w : Wd} {v2 v3 : Int} (hG : G [] w w) (h : FGT b w) (iv : -2147483648 ≤ v3 ∧ v3 ≤ 2147483647) : PC (f_E_goes_75 v2 v3 w) (fun _ u => FGT b u) := by
  unfold f_E_goes_75
  refine pc_call (pc_ok (s_F_guests (g_self hG))) (fun r u q => ?_)
  refine pc_call (pc_ok (s_N_tell2 (g_self q.2) (by have := q.1; omega) iv)) (fun r u q2 => pc_some ?_)
  exact fgt_g (fgt_g h q.2 rfl) q2.2 rfl
theorem fg_g13 {b : Wd} {v1 : Int} : ∀ (n : Nat) {v2 v3 : Int} {w : Wd}, G [] w w → FGT b w → (-2147483648 ≤ v3 ∧ v3 ≤ 2147483647) → PC (f_E_goes_13 n v1 v2 v3 w) (fun _ u => FGT b u) := by
  intro n
  induction n with
  | zero => intros; exact pc_none
  | succ n ih =>
    intro v2 v3 w hG h iv
    rw [f_E_goes_13]
    refine pc_ite (fun _ => fg_g75 hG h iv) (fun _ => pc_ite (fun _ => fg_g75 hG h iv) (fun c => ?_))
    have r15 : 0 ≤ w 15 3 ∧ w 15 3 ≤ 60 := hG.1 15 3
    refine pc_call (pc_ok (s_F_guests (g_self hG))) (fun r7 u8 q => ?_)
    have e8 : u8 15 = w 15 := g_out q.2 [15] rfl 15 rfl
    refine pc_ite (fun _ => fg_g75 (g_self q.2) (fgt_g h q.2 rfl) iv) (fun _ => ?_)
    refine pc_call (pc_ok (s_P_follow (g_self q.2) (by rw [e8]; omega))) (fun r9 u10 q2 => ?_)
    have e10 : u10 15 = u8 15 := g_out q2.2 [15] rfl 15 rfl
    refine pc_call (fun r u e => And.intro (pc_ok (s_E_pass (g_self q2.2) (by rw [e10, e8]; omega)) r u e) (ps_no _ r u e)) (fun r11 u12 q3 => ?_)
    refine pc_let (fun x13 e13 => pc_let (fun x14 _ => ?_))
    have z := w32_sp (v3 + r11)
    exact ih (g_self q3.1.2) (Or.inl q3.2) (by omega)
theorem fg_goes {w : Wd} {v1 : Int} (hG : G [] w w) : PC (f_E_goes v1 w) (fun _ u => FGT w u) := by
  unfold f_E_goes
  refine pc_call (zq_E_isWeek rfl) (fun r1 u2 e => ?_)
  rw [e]
  exact pc_ite (fun _ => pc_some (fgt_self w)) (fun _ => fg_g13 FU hG (fgt_self w) (by decide))
theorem fg_undo {w : Wd} (hG : G [] w w) : PC (f_E_undo w) (fun _ u => FGT w u) := by
  unfold f_E_undo f_D_goBack
  have r70 : ∀ (n : Nat) {v2 : Int} {w : Wd}, PC (f_D_goBack_70 n v2 w) (fun r _ => r = 1) := by
    intro n
    induction n with
    | zero => intros; exact pc_none
    | succ n ih =>
      intro v2 w
      rw [f_D_goBack_70]
      unfold f_D_goBack_96
      exact pc_ite (fun _ => pc_some rfl) (fun _ => pc_call (pcN _) (fun _ _ _ => pc_call (pcN _) (fun _ _ _ => pc_ite (fun _ => pc_let (fun _ _ => ih)) (fun _ => pc_gd (fun _ => pc_lw (fun _ _ => pc_let (fun _ _ => ih)))))))
  have g : PC (if (w 15 4) = 0 then some ((0 : Int), w) else jcall (f_D_isOne (w32 ((w 15 3) - 1)) w) fun r1 u2 => if r1 = 0 then some (0, u2) else jlw (st u2 15 4 (w32 ((u2 15 4) - 1))) fun u3 => jlw (st u3 15 3 (w32 ((u3 15 3) - 1))) fun u4 => jgd ((0 : Int) ≤ (u4 15 3) ∧ (u4 15 3) < 61) <| jlw (st u4 5 4 (u4 17 (u4 15 3).toNat)) fun u5 => jgd ((0 : Int) ≤ (u5 15 3) ∧ (u5 15 3) < 61) <| jlw (st u5 5 6 (u5 18 (u5 15 3).toNat)) fun u6 => f_D_goBack_70 FU 0 u6) (fun r u => (r = 0 → u = w)) := by
    refine pc_ite (fun _ => pc_some (fun _ => rfl)) (fun _ => pc_call (P := fun _ u => u = w) ?_ (fun r1 u2 e => pc_ite (fun _ => pc_some (fun _ => e)) (fun _ => pc_lw (fun _ _ => pc_lw (fun _ _ => pc_gd (fun _ => pc_lw (fun _ _ => pc_gd (fun _ => pc_lw (fun _ _ => pc_w (r70 FU) (fun r u e h0 => absurd (e.symm.trans h0) (by decide)))))))))))
    unfold f_D_isOne
    exact pc_ite (fun _ => pc_some rfl) (fun _ => pc_ite (fun _ => pc_some rfl) (fun _ => pc_ite (fun _ => pc_some rfl) (fun _ => pc_some rfl)))
  refine pc_call g (fun r1 u2 q => ?_)
  exact pc_ite (fun e => pc_some (by rw [q e]; exact fgt_self w)) (fun _ => fgn_pc)
theorem fg_again {w : Wd} {v1 : Int} (hG : G [] w w) : PC (f_E_again v1 w) (fun _ u => FGT w u) := by
  unfold f_E_again
  refine pc_ite (fun _ => pc_some (fgt_self w)) (fun _ => pc_ite (fun _ => pc_some (fgt_self w)) (fun _ => pc_ite (fun _ => ?_) (fun _ => pc_ite (fun _ => ?_) (fun _ => pc_none))))
  · refine pc_call (pc_ok (s_K_fits (g_self hG))) (fun r1 u2 q => pc_ite (fun _ => pc_some (fgt_g (fgt_self w) q.2 rfl)) (fun _ => ?_))
    exact pc_ite (fun _ => pc_call (pcN _) (fun _ _ _ => fgn_pc)) (fun _ => pc_ite (fun _ => pc_call (pcN _) (fun _ _ _ => fgn_pc)) (fun _ => pc_none))
  · refine pc_call (pc_ok (s_K_fits_40_5 (g_self hG))) (fun r1 u2 q => pc_ite (fun _ => pc_some (fgt_g (fgt_self w) q.2 rfl)) (fun _ => ?_))
    exact pc_ite (fun _ => pc_call (pcN _) (fun _ _ _ => fgn_pc)) (fun _ => pc_ite (fun _ => pc_call (pcN _) (fun _ _ _ => fgn_pc)) (fun _ => pc_none))
theorem sc_states {n : Int} {w : Wd} (h : LU w) (hs : SCR n w) (hn : n ≤ 2600) : PC (f_E_states  w) (fun _ u => SCR (n + 5) u) := by
  have he := lu_er h (fun _ _ => rfl)
  have hb : w 24 4 ≤ 5200000 := by have := hs.1.2; omega
  unfold f_E_states
  refine zrun he hs hn (fun r1 u2 h h53 => ?_)
  refine pc_ite (fun _ => ?_) (fun _ => ?_)
  · exact pc_some (sj_mono h (by omega))
  · exact pc_w (zs_E_states_25 _ h) (fun _ _ h => sj_mono h (by omega))
theorem sc_most {n : Int} {w : Wd} {v1 : Int} (h : LU w) (hs : SCR n w) (hn : n ≤ 2600) : PC (f_E_most v1 w) (fun _ u => SCR (n + 5) u) := by
  have he := lu_er h (fun _ _ => rfl)
  have hb : w 24 4 ≤ 5200000 := by have := hs.1.2; omega
  unfold f_E_most
  refine pc_call (zq_E_isWeek rfl) (fun r1 u2 e => ?_)
  subst e
  refine pc_ite (fun _ => ?_) (fun _ => ?_)
  · exact pc_some (scr_mono hs (by omega))
  · refine zrun he hs hn (fun r3 u4 h h53 => ?_)
    refine pc_ite (fun _ => ?_) (fun _ => ?_)
    · exact pc_some (sj_mono h (by omega))
    · exact pc_w (zs_E_most_37 _ h) (fun _ _ h => sj_mono h (by omega))
theorem sc_reach {n : Int} {w : Wd} {v1 : Int} (h : LU w) (hs : SCR n w) (hn : n ≤ 2600) : PC (f_E_reach v1 w) (fun _ u => SCR (n + 5) u) := by
  have he := lu_er h (fun _ _ => rfl)
  have hb : w 24 4 ≤ 5200000 := by have := hs.1.2; omega
  unfold f_E_reach
  refine pc_call (zq_E_isWeek rfl) (fun r1 u2 e => ?_)
  subst e
  refine pc_ite (fun _ => ?_) (fun _ => ?_)
  · exact pc_some (scr_mono hs (by omega))
  · refine zrun he hs hn (fun r3 u4 h h53 => ?_)
    refine pc_ite (fun _ => ?_) (fun _ => ?_)
    · exact pc_some (sj_mono h (by omega))
    · exact pc_w (zs_E_reach_39 _ h) (fun _ _ h => sj_mono h (by omega))
theorem sc_fewest {n : Int} {w : Wd} {v1 : Int} (h : LU w) (hs : SCR n w) (hn : n ≤ 2600) : PC (f_E_fewest v1 w) (fun _ u => SCR (n + 5) u) := by
  have he := lu_er h (fun _ _ => rfl)
  have hb : w 24 4 ≤ 5200000 := by have := hs.1.2; omega
  unfold f_E_fewest
  refine pc_call (zq_E_isWeek rfl) (fun r1 u2 e => ?_)
  subst e
  refine pc_ite (fun _ => ?_) (fun _ => ?_)
  · exact pc_some (scr_mono hs (by omega))
  · refine zrun he hs hn (fun r3 u4 h h53 => ?_)
    refine pc_ite (fun _ => ?_) (fun _ => ?_)
    · exact pc_some (sj_mono h (by omega))
    · refine pc_call (zs_S_fewestGuests h) (fun r5 u6 h => ?_)
      refine pc_ite (fun _ => ?_) (fun _ => ?_)
      · exact pc_some (sj_mono h (by omega))
      · exact pc_some (sj_mono h (by omega))
theorem sc_crowd {n : Int} {w : Wd} (h : LU w) (hs : SCR n w) (hn : n ≤ 2600) : PC (f_E_crowd  w) (fun _ u => SCR (n + 5) u) := by
  have he := lu_er h (fun _ _ => rfl)
  have hb : w 24 4 ≤ 5200000 := by have := hs.1.2; omega
  unfold f_E_crowd
  refine zrun he hs hn (fun r1 u2 h h53 => ?_)
  refine pc_ite (fun _ => ?_) (fun _ => ?_)
  · exact pc_some (sj_mono h (by omega))
  · refine pc_call (zs_S_mostGuests h) (fun r3 u4 h => ?_)
    exact pc_w (zs_E_crowd_34 _ h) (fun _ _ h => sj_mono h (by omega))
theorem sc_both {n : Int} {w : Wd} {v1 v2 v3 : Int} (h : LU w) (hs : SCR n w) (hn : n ≤ 2600) : PC (f_E_both v1 v2 v3 w) (fun _ u => SCR (n + 5) u) := by
  have he := lu_er h (fun _ _ => rfl)
  have hb : w 24 4 ≤ 5200000 := by have := hs.1.2; omega
  unfold f_E_both
  refine pc_call (zq_E_areTwo rfl) (fun r1 u2 e => ?_)
  subst e
  refine pc_ite (fun _ => ?_) (fun _ => ?_)
  · exact pc_some (scr_mono hs (by omega))
  · refine pc_call (zq_E_isWeek rfl) (fun r3 u4 e => ?_)
    subst e
    refine pc_ite (fun _ => ?_) (fun _ => ?_)
    · exact pc_some (scr_mono hs (by omega))
    · refine zrun he hs hn (fun r5 u6 h h53 => ?_)
      refine pc_ite (fun _ => ?_) (fun _ => ?_)
      · exact pc_some (sj_mono h (by omega))
      · refine pc_call (zs_S_leastPaid h) (fun r7 u8 h => ?_)
        refine pc_ite (fun _ => ?_) (fun _ => ?_)
        · exact pc_some (sj_mono h (by omega))
        · exact pc_some (sj_mono h (by omega))
theorem sc_last {n : Int} {w : Wd} (h : LU w) (hs : SCR n w) (hn : n ≤ 2600) : PC (f_E_last  w) (fun _ u => SCR (n + 5) u) := by
  have he := lu_er h (fun _ _ => rfl)
  have hb : w 24 4 ≤ 5200000 := by have := hs.1.2; omega
  unfold f_E_last
  refine zrun he hs hn (fun r1 u2 h h53 => ?_)
  refine pc_ite (fun _ => ?_) (fun _ => ?_)
  · exact pc_some (sj_mono h (by omega))
  · refine pc_call (zs_S_lastWeek h) (fun r3 u4 h => ?_)
    refine pc_ite (fun _ => ?_) (fun _ => ?_)
    · exact pc_some (sj_mono h (by omega))
    · refine pc_call (zs_S_fewestGuests h) (fun r5 u6 h => ?_)
      refine pc_call (zs_N_tell1 h) (fun r7 u8 h => ?_)
      exact pc_some (sj_mono h (by omega))
theorem sc_begin {n : Int} {w : Wd} (h : LU w) (hs : SCR n w) (hn : n ≤ 2600) : PC (f_E_begin  w) (fun _ u => SCR (n + 5) u) := by
  have he := lu_er h (fun _ _ => rfl)
  have hb : w 24 4 ≤ 5200000 := by have := hs.1.2; omega
  unfold f_E_begin
  refine zrun he hs hn (fun r1 u2 h h53 => ?_)
  refine pc_ite (fun _ => ?_) (fun _ => ?_)
  · exact pc_some (sj_mono h (by omega))
  · refine pc_call (zs_S_lastWeek h) (fun r3 u4 h => ?_)
    refine pc_ite (fun _ => ?_) (fun _ => ?_)
    · refine pc_call (zs_S_lookBack h (by omega)) (fun r5 u6 h => ?_)
      refine pc_call (zs_E_tellFirstWeek h (by omega)) (fun r7 u8 h => ?_)
      exact pc_some (sj_mono h (by omega))
    · exact pc_some (sj_mono h (by omega))
theorem sc_cheap {n : Int} {w : Wd} {v1 : Int} (h : LU w) (hs : SCR n w) (hn : n ≤ 2600) : PC (f_E_cheap v1 w) (fun _ u => SCR (n + 5) u) := by
  have he := lu_er h (fun _ _ => rfl)
  have hb : w 24 4 ≤ 5200000 := by have := hs.1.2; omega
  unfold f_E_cheap
  refine pc_call (zq_E_isWeek rfl) (fun r1 u2 e => ?_)
  subst e
  refine pc_ite (fun _ => ?_) (fun _ => ?_)
  · exact pc_some (scr_mono hs (by omega))
  · refine zrun he hs hn (fun r3 u4 h h53 => ?_)
    refine pc_ite (fun _ => ?_) (fun _ => ?_)
    · exact pc_some (sj_mono h (by omega))
    · refine pc_call (zs_S_leastPaid h) (fun r5 u6 h => ?_)
      refine pc_ite (fun _ => ?_) (fun _ => ?_)
      · exact pc_some (sj_mono h (by omega))
      · refine pc_ite (fun _ => ?_) (fun _ => ?_)
        · refine pc_call (zs_N_clear h) (fun r11 u12 h => ?_)
          exact pc_some (sj_mono h (by omega))
        · refine pc_call (zs_S_lookBack h (by omega)) (fun r7 u8 h => ?_)
          refine pc_call (zs_E_tellFirstWeek h (by omega)) (fun r9 u10 h => ?_)
          exact pc_some (sj_mono h (by omega))
theorem sc_stays {n : Int} {w : Wd} {v1 : Int} (h : LU w) (hs : SCR n w) (hn : n ≤ 2600) : PC (f_E_stays v1 w) (fun _ u => SCR (n + 5) u) := by
  have he := lu_er h (fun _ _ => rfl)
  have hb : w 24 4 ≤ 5200000 := by have := hs.1.2; omega
  unfold f_E_stays
  refine pc_call (zq_F_isThere rfl) (fun r1 u2 e => ?_)
  subst e
  refine pc_ite (fun _ => ?_) (fun _ => ?_)
  · exact pc_some (scr_mono hs (by omega))
  · refine zrun he hs hn (fun r3 u4 h h53 => ?_)
    refine pc_ite (fun _ => ?_) (fun _ => ?_)
    · exact pc_some (sj_mono h (by omega))
    · refine pc_call (zs_F_guests h) (fun r5 u6 h => ?_)
      refine pc_call (zs_E_has h) (fun r7 u8 h => ?_)
      refine pc_ite (fun _ => ?_) (fun _ => ?_)
      · exact pc_some (sj_mono h (by omega))
      · refine pc_call (zs_S_lastWeek h) (fun r9 u10 h => ?_)
        refine pc_ite (fun _ => ?_) (fun _ => ?_)
        · exact pc_w (zs_E_stays_95 h) (fun _ _ h => sj_mono h (by omega))
        · refine pc_call (zs_S_lookBack h (by omega)) (fun r13 u14 h => ?_)
          refine pc_call (zs_E_firstToBring h (by omega) h53) (fun r15 u16 h => ?_)
          exact pc_w (zs_E_stays_95 h) (fun _ _ h => sj_mono h (by omega))
theorem sc_soonest {n : Int} {w : Wd} {v1 : Int} (h : LU w) (hs : SCR n w) (hn : n ≤ 2600) : PC (f_E_soonest v1 w) (fun _ u => SCR (n + 5) u) := by
  have he := lu_er h (fun _ _ => rfl)
  have hb : w 24 4 ≤ 5200000 := by have := hs.1.2; omega
  unfold f_E_soonest
  refine pc_call (zq_F_isThere rfl) (fun r1 u2 e => ?_)
  subst e
  refine pc_ite (fun _ => ?_) (fun _ => ?_)
  · exact pc_some (scr_mono hs (by omega))
  · refine zrun he hs hn (fun r3 u4 h h53 => ?_)
    refine pc_ite (fun _ => ?_) (fun _ => ?_)
    · exact pc_some (sj_mono h (by omega))
    · refine pc_call (zs_S_weeksWith h) (fun r5 u6 h => ?_)
      refine pc_call (zs_E_firstWeek h) (fun r7 u8 h => ?_)
      refine pc_ite (fun _ => ?_) (fun _ => ?_)
      · exact pc_some (sj_mono h (by omega))
      · exact pc_some (sj_mono h (by omega))
theorem sc_worth {n : Int} {w : Wd} {v1 : Int} (h : LU w) (hs : SCR n w) (hn : n ≤ 2600) : PC (f_E_worth v1 w) (fun _ u => SCR (n + 5) u) := by
  have he := lu_er h (fun _ _ => rfl)
  have hb : w 24 4 ≤ 5200000 := by have := hs.1.2; omega
  unfold f_E_worth
  refine pc_call (zq_F_free rfl) (fun r1 u2 e => ?_)
  subst e
  refine pc_call (zq_E_has rfl) (fun r3 u4 e => ?_)
  subst e
  refine pc_ite (fun _ => ?_) (fun _ => ?_)
  · exact pc_some (scr_mono hs (by omega))
  · refine zrun he hs hn (fun r5 u6 h h53 => ?_)
    refine pc_ite (fun _ => ?_) (fun _ => ?_)
    · exact pc_some (sj_mono h (by omega))
    · refine pc_call (zs_S_lastWeek h) (fun r7 u8 h => ?_)
      refine pc_ite (fun _ => ?_) (fun _ => ?_)
      · exact pc_some (sj_mono h (by omega))
      · refine pc_call (zs_S_lastWeek h) (fun r9 u10 h => ?_)
        exact pc_some (sj_mono h (by omega))
theorem sc_needed {n : Int} {w : Wd} (h : LU w) (hs : SCR n w) (hn : n ≤ 2600) : PC (f_E_needed  w) (fun _ u => SCR (n + 5) u) := by
  have he := lu_er h (fun _ _ => rfl)
  have hb : w 24 4 ≤ 5200000 := by have := hs.1.2; omega
  unfold f_E_needed
  refine zrun he hs hn (fun r1 u2 h h53 => ?_)
  refine pc_ite (fun _ => ?_) (fun _ => ?_)
  · exact pc_some (sj_mono h (by omega))
  · refine pc_call (zs_S_lastWeek h) (fun r3 u4 h => ?_)
    refine pc_ite (fun _ => ?_) (fun _ => ?_)
    · exact pc_some (sj_mono h (by omega))
    · exact pc_w (zs_E_needed_43 _ h) (fun _ _ h => sj_mono h (by omega))
theorem sc_never {n : Int} {w : Wd} (h : LU w) (hs : SCR n w) (hn : n ≤ 2600) : PC (f_E_never  w) (fun _ u => SCR (n + 5) u) := by
  have he := lu_er h (fun _ _ => rfl)
  have hb : w 24 4 ≤ 5200000 := by have := hs.1.2; omega
  unfold f_E_never
  refine zrun he hs hn (fun r1 u2 h h53 => ?_)
  refine pc_ite (fun _ => ?_) (fun _ => ?_)
  · exact pc_some (sj_mono h (by omega))
  · exact pc_w (zs_E_never_25 _ h) (fun _ _ h => sj_mono h (by omega))
theorem sc_can {n : Int} {w : Wd} (hs : SCR n w) (hn : n ≤ 2600) : PC (f_E_can w) (fun _ u => SCR (n + 5) u) := by
  have hb := hs.1.2
  exact pc_w (zs_E_can (sj_0 hs) (by omega)) (fun _ _ h => sj_scr hs h (by omega))
theorem sc_pairs {n : Int} {w : Wd} (hs : SCR n w) (hn : n ≤ 2600) : PC (f_E_pairs w) (fun _ u => SCR (n + 5) u) := by
  have hb := hs.1.2
  exact pc_w (zs_E_pairs (sj_0 hs) (by omega)) (fun _ _ h => sj_scr hs h (by omega))
theorem sc_bars {n : Int} {w : Wd} (hs : SCR n w) (hn : n ≤ 2600) : PC (f_E_bars w) (fun _ u => SCR (n + 5) u) := by
  have hb := hs.1.2
  exact pc_w (zs_E_bars (sj_0 hs) (by omega)) (fun _ _ h => sj_scr hs h (by omega))
/-! EVERY METHOD KEEPS ALL THAT BOTH HAVE IN COMMON, AND WHAT IS KEPT OF A SEARCH -/
def LV (n : Int) (w : Wd) : Prop := LU w ∧ SCR n w
theorem lv_mono {n m : Int} {w : Wd} (h : LV n w) (hn : n ≤ m) : LV m w := ⟨h.1, scr_mono h.2 hn⟩
theorem w0_LV : LV 0 w0 := by
  have e : w0 24 4 = 0 ∧ w0 28 9 = 0 := by decide +kernel
  have e27 : ∀ k : Nat, k < 1024 → w0 27 k = 0 := by decide +kernel
  exact ⟨w0_LU, ⟨⟨by rw [e.1]; decide, fun k hk => by rw [e.1, e27 k hk]; decide⟩, by rw [e.1]; decide⟩, fun f => absurd e.2 f⟩
theorem dv {xE : Option (Int × Wd)} {xR : Wd → Option (Int × Wd)} {m : Int} {X : Int → Int → Prop} (hd : OK xE (fun r1 u1 => OK (xR u1) (fun r2 u2 => LU u2 ∧ X r1 r2))) (hS : PC xE (fun _ u => SCR m u)) (hR : PC xE (fun _ u => PC (xR u) (fun _ u2 => ∀ c, c < 43 → u2 c = u c))) : OK xE (fun r1 u1 => OK (xR u1) (fun r2 u2 => LV m u2 ∧ X r1 r2)) := by
  obtain ⟨r1, u1, e1, r2, u2, e2, q1, q2⟩ := hd
  have f := hR r1 u1 e1 r2 u2 e2
  exact ⟨r1, u1, e1, r2, u2, e2, ⟨q1, scr_fr (hS r1 u1 e1) (f 5 (by decide)) (f 7 (by decide)) (f 24 (by decide)) (f 27 (by decide)) (f 28 (by decide)) (f 29 (by decide)) (f 30 (by decide)) (f 31 (by decide)) (f 35 (by decide))⟩, q2⟩
theorem d_er2 {xE : Option (Int × Wd)} {xR : Wd → Option (Int × Wd)} {w : Wd} (h : LU w) (hd : OK xE (fun _ u1 => OK (xR u1) (fun _ u2 => LU u2 ∧ True))) (hG : PC xE (fun _ u => RS u ∧ ∀ c, 43 ≤ c → u c = w c)) (q : ∀ a, RS a → ER a w → PC xE (fun r _ => PC (xR a) (fun r' _ => r = r'))) : OK xE (fun r1 u1 => OK (xR u1) (fun r2 u2 => LU u2 ∧ r1 = r2)) := by
  obtain ⟨r1, u1, e1, h1⟩ := hd
  refine ⟨r1, u1, e1, ?_⟩
  obtain ⟨r2, u2, e2, h2, _⟩ := h1
  obtain ⟨g, hR⟩ := hG r1 u1 e1
  exact ⟨r2, u2, e2, h2, q u1 g (lu_er h hR) r1 u1 e1 r2 u2 e2⟩
theorem v_sign {n : Int} {w : Wd} {v1 : Int} (h : LV n w) (hn : n ≤ 2600) (i_v1 : ((-2147483648 : Int) ≤ v1 ∧ v1 ≤ 2147483647)) : OK (f_E_sign v1 w) (fun r1 u1 => OK (f_R_sign v1 u1) (fun r2 u2 => LV (n + 5) u2 ∧ r1 = r2)) := dv (xR := fun u => f_R_sign v1 u) (X := fun r1 r2 => r1 = r2) (d_sign h.1 i_v1) (pc_w (pc_ok (e_E_sign h.1.1.1 i_v1)) (fun _ _ q => scr_mono (scr_g h.2 q.1 rfl) (by omega))) (pc_w (pc_ok (e_E_sign h.1.1.1 i_v1)) (fun _ _ q => pc_w (pc_ok (e_R_sign q.2.1 i_v1)) (fun _ _ q2 => g_lo q2.1 rfl)))
theorem v_end {n : Int} {w : Wd} {v1 : Int} (h : LV n w) (hn : n ≤ 2600) (i_v1 : ((-2147483648 : Int) ≤ v1 ∧ v1 ≤ 2147483647)) : OK (f_E_end v1 w) (fun r1 u1 => OK (f_R_end v1 u1) (fun r2 u2 => LV (n + 5) u2 ∧ r1 = r2)) := dv (xR := fun u => f_R_end v1 u) (X := fun r1 r2 => r1 = r2) (d_end h.1 i_v1) (pc_w (pc_ok (e_E_end h.1.1.1 i_v1)) (fun _ _ q => scr_mono (scr_g h.2 q.1 rfl) (by omega))) (pc_w (pc_ok (e_E_end h.1.1.1 i_v1)) (fun _ _ q => pc_w (pc_ok (e_R_end q.2.1 i_v1)) (fun _ _ q2 => g_lo q2.1 rfl)))
theorem v_land {n : Int} {w : Wd} (h : LV n w) (hn : n ≤ 2600) : OK (f_E_land w) (fun r1 u1 => OK (f_R_land u1) (fun r2 u2 => LV (n + 5) u2 ∧ r1 = r2)) := dv (xR := fun u => f_R_land u) (X := fun r1 r2 => r1 = r2) (d_land h.1) (pc_w (pc_and (fg_land h.1.1.1.1) (pc_ok (e_E_land h.1.1.1))) (fun _ _ q => scr_mono (fgt_scr h.2 q.1 q.2.1 rfl) (by omega))) (pc_w (pc_ok (e_E_land h.1.1.1)) (fun _ _ q => pc_w (pc_ok (e_R_land q.2.1)) (fun _ _ q2 => g_lo q2.1 rfl)))
theorem v_rule {n : Int} {w : Wd} (h : LV n w) (hn : n ≤ 2600) : OK (f_E_rule w) (fun r1 u1 => OK (f_R_rule u1) (fun r2 u2 => LV (n + 5) u2 ∧ r1 = r2)) := dv (xR := fun u => f_R_rule u) (X := fun r1 r2 => r1 = r2) (d_rule h.1) (pc_w (pc_ok (e_E_rule h.1.1.1)) (fun _ _ q => scr_mono (scr_g h.2 q.1 rfl) (by omega))) (pc_w (pc_ok (e_E_rule h.1.1.1)) (fun _ _ q => pc_w (pc_ok (e_R_rule q.2.1)) (fun _ _ q2 => g_lo q2.1 rfl)))
theorem v_of {n : Int} {w : Wd} {v1 v2 : Int} (h : LV n w) (hn : n ≤ 2600) (i_v1 : ((-2147483648 : Int) ≤ v1 ∧ v1 ≤ 2147483647)) (i_v2 : ((-2147483648 : Int) ≤ v2 ∧ v2 ≤ 2147483647)) : OK (f_A_of v1 v2 w) (fun r1 u1 => OK (f_R_of v1 v2 u1) (fun r2 u2 => LV (n + 5) u2 ∧ True)) := dv (xR := fun u => f_R_of v1 v2 u) (X := fun r1 r2 => True) (d_of h.1 i_v1 i_v2) (pc_w (pc_ok (e_A_of h.1.1.1 i_v1 i_v2)) (fun _ _ q => scr_mono (scr_fr h.2 (q.2 5 (by decide)) (q.2 7 (by decide)) (q.2 24 (by decide)) (q.2 27 (by decide)) (q.2 28 (by decide)) (q.2 29 (by decide)) (q.2 30 (by decide)) (q.2 31 (by decide)) (q.2 35 (by decide))) (by omega))) (pc_w (pc_ok (e_A_of h.1.1.1 i_v1 i_v2)) (fun _ _ q => pc_w (pc_ok (e_R_of q.1 i_v1 i_v2)) (fun _ _ q2 => g_lo q2.1 rfl)))
theorem v_law {n : Int} {w : Wd} {v1 v2 : Int} (h : LV n w) (hn : n ≤ 2600) (i_v1 : ((-2147483648 : Int) ≤ v1 ∧ v1 ≤ 2147483647)) (i_v2 : ((-2147483648 : Int) ≤ v2 ∧ v2 ≤ 2147483647)) : OK (f_E_law v1 v2 w) (fun r1 u1 => OK (f_R_law v1 v2 u1) (fun r2 u2 => LV (n + 5) u2 ∧ r1 = r2)) := dv (xR := fun u => f_R_law v1 v2 u) (X := fun r1 r2 => r1 = r2) (d_law h.1 i_v1 i_v2) (pc_w (pc_and (fg_law) (pc_ok (e_E_law h.1.1.1 i_v1 i_v2))) (fun _ _ q => scr_mono (fgt_scr h.2 q.1 q.2.1 rfl) (by omega))) (pc_w (pc_ok (e_E_law h.1.1.1 i_v1 i_v2)) (fun _ _ q => pc_w (pc_ok (e_R_law q.2 i_v1 i_v2)) (fun _ _ q2 => g_lo q2.1 rfl)))
theorem v_meet {n : Int} {w : Wd} {v1 v2 v3 : Int} (h : LV n w) (hn : n ≤ 2600) (i_v1 : ((-2147483648 : Int) ≤ v1 ∧ v1 ≤ 2147483647)) (i_v2 : ((-2147483648 : Int) ≤ v2 ∧ v2 ≤ 2147483647)) (i_v3 : ((0 : Int) ≤ v3 ∧ v3 ≤ 1)) : OK (f_E_meet v1 v2 v3 w) (fun r1 u1 => OK (f_R_meet v1 v2 v3 u1) (fun r2 u2 => LV (n + 5) u2 ∧ r1 = r2)) := dv (xR := fun u => f_R_meet v1 v2 v3 u) (X := fun r1 r2 => r1 = r2) (d_meet h.1 i_v1 i_v2 i_v3) (pc_w (pc_and (fg_meet) (pc_ok (e_E_meet h.1.1.1 i_v1 i_v2 i_v3))) (fun _ _ q => scr_mono (fgt_scr h.2 q.1 q.2.1 rfl) (by omega))) (pc_w (pc_ok (e_E_meet h.1.1.1 i_v1 i_v2 i_v3)) (fun _ _ q => pc_w (pc_ok (e_R_meet q.2 i_v1 i_v2 i_v3)) (fun _ _ q2 => g_lo q2.1 rfl)))
theorem v_hide {n : Int} {w : Wd} {v1 v2 : Int} (h : LV n w) (hn : n ≤ 2600) (i_v1 : ((-2147483648 : Int) ≤ v1 ∧ v1 ≤ 2147483647)) (i_v2 : ((0 : Int) ≤ v2 ∧ v2 ≤ 1)) : OK (f_E_hide v1 v2 w) (fun r1 u1 => OK (f_R_hide v1 v2 u1) (fun r2 u2 => LV (n + 5) u2 ∧ r1 = r2)) := dv (xR := fun u => f_R_hide v1 v2 u) (X := fun r1 r2 => r1 = r2) (d_hide h.1 i_v1 i_v2) (pc_w (pc_and (fg_hide) (pc_ok (e_E_hide h.1.1.1 i_v1 i_v2))) (fun _ _ q => scr_mono (fgt_scr h.2 q.1 q.2.1 rfl) (by omega))) (pc_w (pc_ok (e_E_hide h.1.1.1 i_v1 i_v2)) (fun _ _ q => pc_w (pc_ok (e_R_hide q.2 i_v1 i_v2)) (fun _ _ q2 => g_lo q2.1 rfl)))
theorem v_baby {n : Int} {w : Wd} {v1 : Int} (h : LV n w) (hn : n ≤ 2600) (i_v1 : ((-2147483648 : Int) ≤ v1 ∧ v1 ≤ 2147483647)) : OK (f_E_baby v1 w) (fun r1 u1 => OK (f_R_baby v1 u1) (fun r2 u2 => LV (n + 5) u2 ∧ r1 = r2)) := dv (xR := fun u => f_R_baby v1 u) (X := fun r1 r2 => r1 = r2) (d_baby h.1 i_v1) (pc_w (pc_and (fg_baby) (pc_ok (e_E_baby h.1.1.1 i_v1))) (fun _ _ q => scr_mono (fgt_scr h.2 q.1 q.2.1 rfl) (by omega))) (pc_w (pc_ok (e_E_baby h.1.1.1 i_v1)) (fun _ _ q => pc_w (pc_ok (e_R_baby q.2 i_v1)) (fun _ _ q2 => g_lo q2.1 rfl)))
theorem v_sheet {n : Int} {w : Wd} {v1 v2 v3 v4 : Int} (h : LV n w) (hn : n ≤ 2600) (i_v1 : ((-2147483648 : Int) ≤ v1 ∧ v1 ≤ 2147483647)) (i_v2 : ((-2147483648 : Int) ≤ v2 ∧ v2 ≤ 2147483647)) (i_v3 : ((-2147483648 : Int) ≤ v3 ∧ v3 ≤ 2147483647)) (i_v4 : ((-2147483648 : Int) ≤ v4 ∧ v4 ≤ 2147483647)) : OK (f_E_sheet v1 v2 v3 v4 w) (fun r1 u1 => OK (f_R_sheet v1 v2 v3 v4 u1) (fun r2 u2 => LV (n + 5) u2 ∧ r1 = r2)) := dv (xR := fun u => f_R_sheet v1 v2 v3 v4 u) (X := fun r1 r2 => r1 = r2) (d_sheet h.1 i_v1 i_v2 i_v3 i_v4) (pc_w (pc_ok (e_E_sheet h.1.1.1 i_v1 i_v2 i_v3 i_v4)) (fun _ _ q => scr_mono (scr_g h.2 q.1 rfl) (by omega))) (pc_w (pc_ok (e_E_sheet h.1.1.1 i_v1 i_v2 i_v3 i_v4)) (fun _ _ q => pc_w (pc_ok (e_R_sheet q.2 i_v1 i_v2 i_v3 i_v4)) (fun _ _ q2 => g_lo q2.1 rfl)))
theorem v_week {n : Int} {w : Wd} (h : LV n w) (hn : n ≤ 2600) : OK (f_E_week w) (fun r1 u1 => OK (f_R_week u1) (fun r2 u2 => LV (n + 5) u2 ∧ r1 = r2)) := dv (xR := fun u => f_R_week u) (X := fun r1 r2 => r1 = r2) (d_week h.1) (pc_w (pc_and (fg_week h.1.1.1.1) (pc_ok (e_E_week h.1.1.1))) (fun _ _ q => scr_mono (fgt_scr h.2 q.1 q.2.1 rfl) (by omega))) (pc_w (pc_ok (e_E_week h.1.1.1)) (fun _ _ q => pc_w (pc_ok (e_R_week q.2.1)) (fun _ _ q2 => g_lo q2.1 rfl)))
theorem v_goes {n : Int} {w : Wd} {v1 : Int} (h : LV n w) (hn : n ≤ 2600) (i_v1 : ((-2147483648 : Int) ≤ v1 ∧ v1 ≤ 2147483647)) : OK (f_E_goes v1 w) (fun r1 u1 => OK (f_R_goes v1 u1) (fun r2 u2 => LV (n + 5) u2 ∧ r1 = r2)) := dv (xR := fun u => f_R_goes v1 u) (X := fun r1 r2 => r1 = r2) (d_goes h.1 i_v1) (pc_w (pc_and (fg_goes h.1.1.1.1) (pc_ok (e_E_goes h.1.1.1 i_v1))) (fun _ _ q => scr_mono (fgt_scr h.2 q.1 q.2.1 rfl) (by omega))) (pc_w (pc_ok (e_E_goes h.1.1.1 i_v1)) (fun _ _ q => pc_w (pc_ok (e_R_goes q.2 i_v1)) (fun _ _ q2 => g_lo q2.1 rfl)))
theorem v_undo {n : Int} {w : Wd} (h : LV n w) (hn : n ≤ 2600) : OK (f_E_undo w) (fun r1 u1 => OK (f_R_undo u1) (fun r2 u2 => LV (n + 5) u2 ∧ r1 = r2)) := dv (xR := fun u => f_R_undo u) (X := fun r1 r2 => r1 = r2) (d_undo h.1) (pc_w (pc_and (fg_undo h.1.1.1.1) (pc_ok (e_E_undo h.1.1.1))) (fun _ _ q => scr_mono (fgt_scr h.2 q.1 q.2.1 rfl) (by omega))) (pc_w (pc_ok (e_E_undo h.1.1.1)) (fun _ _ q => pc_w (pc_ok (e_R_undo q.2)) (fun _ _ q2 => g_lo q2.1 rfl)))
theorem v_can {n : Int} {w : Wd} (h : LV n w) (hn : n ≤ 2600) : OK (f_E_can w) (fun r1 u1 => OK (f_R_can u1) (fun r2 u2 => LV (n + 5) u2 ∧ True)) := dv (xR := fun u => f_R_can u) (X := fun r1 r2 => True) (d_can h.1) (sc_can h.2 hn) (pc_w (pc_ok (e_E_can h.1.1.1)) (fun _ _ q => pc_w (pc_ok (e_R_can q.2)) (fun _ _ q2 => g_lo q2.1 rfl)))
theorem v_picks {n : Int} {w : Wd} {v1 : Int} (h : LV n w) (hn : n ≤ 2600) (i_v1 : ((-2147483648 : Int) ≤ v1 ∧ v1 ≤ 2147483647)) : OK (f_E_picks v1 w) (fun r1 u1 => OK (f_R_picks v1 u1) (fun r2 u2 => LV (n + 5) u2 ∧ r1 = r2)) := dv (xR := fun u => f_R_picks v1 u) (X := fun r1 r2 => r1 = r2) (d_picks h.1 i_v1) (pc_w (pc_ok (e_E_picks h.1.1.1 i_v1)) (fun _ _ q => scr_mono (scr_g h.2 q.1 rfl) (by omega))) (pc_w (pc_ok (e_E_picks h.1.1.1 i_v1)) (fun _ _ q => pc_w (pc_ok (e_R_picks q.2 i_v1)) (fun _ _ q2 => g_lo q2.1 rfl)))
theorem v_pairs {n : Int} {w : Wd} (h : LV n w) (hn : n ≤ 2600) : OK (f_E_pairs w) (fun r1 u1 => OK (f_R_pairs u1) (fun r2 u2 => LV (n + 5) u2 ∧ True)) := dv (xR := fun u => f_R_pairs u) (X := fun r1 r2 => True) (d_pairs h.1) (sc_pairs h.2 hn) (pc_w (pc_ok (e_E_pairs h.1.1.1)) (fun _ _ q => pc_w (pc_ok (e_R_pairs q.2)) (fun _ _ q2 => g_lo q2.1 rfl)))
theorem v_bars {n : Int} {w : Wd} (h : LV n w) (hn : n ≤ 2600) : OK (f_E_bars w) (fun r1 u1 => OK (f_R_bars u1) (fun r2 u2 => LV (n + 5) u2 ∧ True)) := dv (xR := fun u => f_R_bars u) (X := fun r1 r2 => True) (d_bars h.1) (sc_bars h.2 hn) (pc_w (pc_ok (e_E_bars h.1.1.1)) (fun _ _ q => pc_w (pc_ok (e_R_bars q.2)) (fun _ _ q2 => g_lo q2.1 rfl)))
theorem v_states {n : Int} {w : Wd} (h : LV n w) (hn : n ≤ 2600) : OK (f_E_states w) (fun r1 u1 => OK (f_R_states u1) (fun r2 u2 => LV (n + 5) u2 ∧ True)) := dv (xR := fun u => f_R_states u) (X := fun r1 r2 => True) (d_states h.1) (sc_states h.1 h.2 hn) (pc_w (pc_ok (e_E_states h.1.1.1)) (fun _ _ q => pc_w (pc_ok (e_R_states q.2)) (fun _ _ q2 => g_lo q2.1 rfl)))
theorem v_most {n : Int} {w : Wd} {v1 : Int} (h : LV n w) (hn : n ≤ 2600) (i_v1 : ((-2147483648 : Int) ≤ v1 ∧ v1 ≤ 2147483647)) : OK (f_E_most v1 w) (fun r1 u1 => OK (f_R_most v1 u1) (fun r2 u2 => LV (n + 5) u2 ∧ True)) := dv (xR := fun u => f_R_most v1 u) (X := fun r1 r2 => True) (d_most h.1 i_v1) (sc_most h.1 h.2 hn) (pc_w (pc_ok (e_E_most h.1.1.1 i_v1)) (fun _ _ q => pc_w (pc_ok (e_R_most q.2 i_v1)) (fun _ _ q2 => g_lo q2.1 rfl)))
theorem v_reach {n : Int} {w : Wd} {v1 : Int} (h : LV n w) (hn : n ≤ 2600) (i_v1 : ((-2147483648 : Int) ≤ v1 ∧ v1 ≤ 2147483647)) : OK (f_E_reach v1 w) (fun r1 u1 => OK (f_R_reach v1 u1) (fun r2 u2 => LV (n + 5) u2 ∧ True)) := dv (xR := fun u => f_R_reach v1 u) (X := fun r1 r2 => True) (d_reach h.1 i_v1) (sc_reach h.1 h.2 hn) (pc_w (pc_ok (e_E_reach h.1.1.1 i_v1)) (fun _ _ q => pc_w (pc_ok (e_R_reach q.2 i_v1)) (fun _ _ q2 => g_lo q2.1 rfl)))
theorem v_fewest {n : Int} {w : Wd} {v1 : Int} (h : LV n w) (hn : n ≤ 2600) (i_v1 : ((-2147483648 : Int) ≤ v1 ∧ v1 ≤ 2147483647)) : OK (f_E_fewest v1 w) (fun r1 u1 => OK (f_R_fewest v1 u1) (fun r2 u2 => LV (n + 5) u2 ∧ True)) := dv (xR := fun u => f_R_fewest v1 u) (X := fun r1 r2 => True) (d_fewest h.1 i_v1) (sc_fewest h.1 h.2 hn) (pc_w (pc_ok (e_E_fewest h.1.1.1 i_v1)) (fun _ _ q => pc_w (pc_ok (e_R_fewest q.2 i_v1)) (fun _ _ q2 => g_lo q2.1 rfl)))
theorem v_crowd {n : Int} {w : Wd} (h : LV n w) (hn : n ≤ 2600) : OK (f_E_crowd w) (fun r1 u1 => OK (f_R_crowd u1) (fun r2 u2 => LV (n + 5) u2 ∧ True)) := dv (xR := fun u => f_R_crowd u) (X := fun r1 r2 => True) (d_crowd h.1) (sc_crowd h.1 h.2 hn) (pc_w (pc_ok (e_E_crowd h.1.1.1)) (fun _ _ q => pc_w (pc_ok (e_R_crowd q.2)) (fun _ _ q2 => g_lo q2.1 rfl)))
theorem v_both {n : Int} {w : Wd} {v1 v2 v3 : Int} (h : LV n w) (hn : n ≤ 2600) (i_v1 : ((-2147483648 : Int) ≤ v1 ∧ v1 ≤ 2147483647)) (i_v2 : ((-2147483648 : Int) ≤ v2 ∧ v2 ≤ 2147483647)) (i_v3 : ((-2147483648 : Int) ≤ v3 ∧ v3 ≤ 2147483647)) : OK (f_E_both v1 v2 v3 w) (fun r1 u1 => OK (f_R_both v1 v2 v3 u1) (fun r2 u2 => LV (n + 5) u2 ∧ True)) := dv (xR := fun u => f_R_both v1 v2 v3 u) (X := fun r1 r2 => True) (d_both h.1 i_v1 i_v2 i_v3) (sc_both h.1 h.2 hn) (pc_w (pc_ok (e_E_both h.1.1.1 i_v1 i_v2 i_v3)) (fun _ _ q => pc_w (pc_ok (e_R_both q.2 i_v1 i_v2 i_v3)) (fun _ _ q2 => g_lo q2.1 rfl)))
theorem v_last {n : Int} {w : Wd} (h : LV n w) (hn : n ≤ 2600) : OK (f_E_last w) (fun r1 u1 => OK (f_R_last u1) (fun r2 u2 => LV (n + 5) u2 ∧ True)) := dv (xR := fun u => f_R_last u) (X := fun r1 r2 => True) (d_last h.1) (sc_last h.1 h.2 hn) (pc_w (pc_ok (e_E_last h.1.1.1)) (fun _ _ q => pc_w (pc_ok (e_R_last q.2)) (fun _ _ q2 => g_lo q2.1 rfl)))
theorem v_begin {n : Int} {w : Wd} (h : LV n w) (hn : n ≤ 2600) : OK (f_E_begin w) (fun r1 u1 => OK (f_R_begin2 u1) (fun r2 u2 => LV (n + 5) u2 ∧ True)) := dv (xR := fun u => f_R_begin2 u) (X := fun r1 r2 => True) (d_begin h.1) (sc_begin h.1 h.2 hn) (pc_w (pc_ok (e_E_begin h.1.1.1)) (fun _ _ q => pc_w (pc_ok (e_R_begin2 q.2)) (fun _ _ q2 => g_lo q2.1 rfl)))
theorem v_cheap {n : Int} {w : Wd} {v1 : Int} (h : LV n w) (hn : n ≤ 2600) (i_v1 : ((-2147483648 : Int) ≤ v1 ∧ v1 ≤ 2147483647)) : OK (f_E_cheap v1 w) (fun r1 u1 => OK (f_R_cheap v1 u1) (fun r2 u2 => LV (n + 5) u2 ∧ True)) := dv (xR := fun u => f_R_cheap v1 u) (X := fun r1 r2 => True) (d_cheap h.1 i_v1) (sc_cheap h.1 h.2 hn) (pc_w (pc_ok (e_E_cheap h.1.1.1 i_v1)) (fun _ _ q => pc_w (pc_ok (e_R_cheap q.2 i_v1)) (fun _ _ q2 => g_lo q2.1 rfl)))
theorem v_stays {n : Int} {w : Wd} {v1 : Int} (h : LV n w) (hn : n ≤ 2600) (i_v1 : ((-2147483648 : Int) ≤ v1 ∧ v1 ≤ 2147483647)) : OK (f_E_stays v1 w) (fun r1 u1 => OK (f_R_stays v1 u1) (fun r2 u2 => LV (n + 5) u2 ∧ True)) := dv (xR := fun u => f_R_stays v1 u) (X := fun r1 r2 => True) (d_stays h.1 i_v1) (sc_stays h.1 h.2 hn) (pc_w (pc_ok (e_E_stays h.1.1.1 i_v1)) (fun _ _ q => pc_w (pc_ok (e_R_stays q.2 i_v1)) (fun _ _ q2 => g_lo q2.1 rfl)))
theorem v_soonest {n : Int} {w : Wd} {v1 : Int} (h : LV n w) (hn : n ≤ 2600) (i_v1 : ((-2147483648 : Int) ≤ v1 ∧ v1 ≤ 2147483647)) : OK (f_E_soonest v1 w) (fun r1 u1 => OK (f_R_soonest v1 u1) (fun r2 u2 => LV (n + 5) u2 ∧ True)) := dv (xR := fun u => f_R_soonest v1 u) (X := fun r1 r2 => True) (d_soonest h.1 i_v1) (sc_soonest h.1 h.2 hn) (pc_w (pc_ok (e_E_soonest h.1.1.1 i_v1)) (fun _ _ q => pc_w (pc_ok (e_R_soonest q.2 i_v1)) (fun _ _ q2 => g_lo q2.1 rfl)))
theorem v_worth {n : Int} {w : Wd} {v1 : Int} (h : LV n w) (hn : n ≤ 2600) (i_v1 : ((-2147483648 : Int) ≤ v1 ∧ v1 ≤ 2147483647)) : OK (f_E_worth v1 w) (fun r1 u1 => OK (f_R_worth v1 u1) (fun r2 u2 => LV (n + 5) u2 ∧ True)) := dv (xR := fun u => f_R_worth v1 u) (X := fun r1 r2 => True) (d_worth h.1 i_v1) (sc_worth h.1 h.2 hn) (pc_w (pc_ok (e_E_worth h.1.1.1 i_v1)) (fun _ _ q => pc_w (pc_ok (e_R_worth q.2 i_v1)) (fun _ _ q2 => g_lo q2.1 rfl)))
theorem v_needed {n : Int} {w : Wd} (h : LV n w) (hn : n ≤ 2600) : OK (f_E_needed w) (fun r1 u1 => OK (f_R_needed u1) (fun r2 u2 => LV (n + 5) u2 ∧ True)) := dv (xR := fun u => f_R_needed u) (X := fun r1 r2 => True) (d_needed h.1) (sc_needed h.1 h.2 hn) (pc_w (pc_ok (e_E_needed h.1.1.1)) (fun _ _ q => pc_w (pc_ok (e_R_needed q.2)) (fun _ _ q2 => g_lo q2.1 rfl)))
theorem v_never {n : Int} {w : Wd} (h : LV n w) (hn : n ≤ 2600) : OK (f_E_never w) (fun r1 u1 => OK (f_R_never u1) (fun r2 u2 => LV (n + 5) u2 ∧ r1 = r2)) := dv (xR := fun u => f_R_never u) (X := fun r1 r2 => r1 = r2) (d_er2 (xR := fun u => f_R_never u) h.1 (d_never h.1) (pc_w (pc_ok (e_E_never h.1.1.1)) (fun _ _ q => ⟨q.2, g_hi q.1 (by decide)⟩)) (fun a ga ha => er_never (er_prm ha) ga.1 h.2 hn h.2.2)) (sc_never h.1 h.2 hn) (pc_w (pc_ok (e_E_never h.1.1.1)) (fun _ _ q => pc_w (pc_ok (e_R_never q.2)) (fun _ _ q2 => g_lo q2.1 rfl)))
theorem v_bound {n : Int} {w : Wd} (h : LV n w) (hn : n ≤ 2600) : OK (f_E_bound w) (fun r1 u1 => OK (f_R_bound u1) (fun r2 u2 => LV (n + 5) u2 ∧ True)) := dv (xR := fun u => f_R_bound u) (X := fun r1 r2 => True) (d_bound h.1) (pc_w (pc_ok (e_E_bound h.1.1.1)) (fun _ _ q => scr_mono (scr_g h.2 q.1 rfl) (by omega))) (pc_w (pc_ok (e_E_bound h.1.1.1)) (fun _ _ q => pc_w (pc_ok (e_R_bound q.2)) (fun _ _ q2 => g_lo q2.1 rfl)))
theorem v_far {n : Int} {w : Wd} {v1 : Int} (h : LV n w) (hn : n ≤ 2600) (i_v1 : ((-2147483648 : Int) ≤ v1 ∧ v1 ≤ 2147483647)) : OK (f_E_far v1 w) (fun r1 u1 => OK (f_R_far v1 u1) (fun r2 u2 => LV (n + 5) u2 ∧ True)) := dv (xR := fun u => f_R_far v1 u) (X := fun r1 r2 => True) (d_far h.1 i_v1) (pc_w (pc_ok (e_E_far h.1.1.1 i_v1)) (fun _ _ q => scr_mono (scr_g h.2 q.1 rfl) (by omega))) (pc_w (pc_ok (e_E_far h.1.1.1 i_v1)) (fun _ _ q => pc_w (pc_ok (e_R_far q.2 i_v1)) (fun _ _ q2 => g_lo q2.1 rfl)))
theorem v_line {n : Int} {w : Wd} {v1 : Int} (h : LV n w) (hn : n ≤ 2600) (i_v1 : ((-2147483648 : Int) ≤ v1 ∧ v1 ≤ 2147483647)) : OK (f_E_line v1 w) (fun r1 u1 => OK (f_R_line v1 u1) (fun r2 u2 => LV (n + 5) u2 ∧ True)) := dv (xR := fun u => f_R_line v1 u) (X := fun r1 r2 => True) (d_line h.1 i_v1) (pc_w (pc_ok (e_E_line h.1.1.1 i_v1)) (fun _ _ q => scr_mono (scr_g h.2 q.1 rfl) (by omega))) (pc_w (pc_ok (e_E_line h.1.1.1 i_v1)) (fun _ _ q => pc_w (pc_ok (e_R_line q.2 i_v1)) (fun _ _ q2 => g_lo q2.1 rfl)))
theorem v_led {n : Int} {w : Wd} {v1 : Int} (h : LV n w) (hn : n ≤ 2600) (i_v1 : ((-2147483648 : Int) ≤ v1 ∧ v1 ≤ 2147483647)) : OK (f_E_led v1 w) (fun r1 u1 => OK (f_R_led v1 u1) (fun r2 u2 => LV (n + 5) u2 ∧ True)) := dv (xR := fun u => f_R_led v1 u) (X := fun r1 r2 => True) (d_led h.1 i_v1) (pc_w (pc_ok (e_E_led h.1.1.1 i_v1)) (fun _ _ q => scr_mono (scr_g h.2 q.1 rfl) (by omega))) (pc_w (pc_ok (e_E_led h.1.1.1 i_v1)) (fun _ _ q => pc_w (pc_ok (e_R_led q.2 i_v1)) (fun _ _ q2 => g_lo q2.1 rfl)))
theorem v_was {n : Int} {w : Wd} {v1 : Int} (h : LV n w) (hn : n ≤ 2600) (i_v1 : ((-2147483648 : Int) ≤ v1 ∧ v1 ≤ 2147483647)) : OK (f_E_was v1 w) (fun r1 u1 => OK (f_R_was v1 u1) (fun r2 u2 => LV (n + 5) u2 ∧ True)) := dv (xR := fun u => f_R_was v1 u) (X := fun r1 r2 => True) (d_was h.1 i_v1) (pc_w (pc_ok (e_E_was h.1.1.1 i_v1)) (fun _ _ q => scr_mono (scr_g h.2 q.1 rfl) (by omega))) (pc_w (pc_ok (e_E_was h.1.1.1 i_v1)) (fun _ _ q => pc_w (pc_ok (e_R_was q.2 i_v1)) (fun _ _ q2 => g_lo q2.1 rfl)))
theorem v_common {n : Int} {w : Wd} {v1 v2 : Int} (h : LV n w) (hn : n ≤ 2600) (i_v1 : ((-2147483648 : Int) ≤ v1 ∧ v1 ≤ 2147483647)) (i_v2 : ((-2147483648 : Int) ≤ v2 ∧ v2 ≤ 2147483647)) : OK (f_E_common v1 v2 w) (fun r1 u1 => OK (f_R_common v1 v2 u1) (fun r2 u2 => LV (n + 5) u2 ∧ True)) := dv (xR := fun u => f_R_common v1 v2 u) (X := fun r1 r2 => True) (d_common h.1 i_v1 i_v2) (pc_w (pc_ok (e_E_common h.1.1.1 i_v1 i_v2)) (fun _ _ q => scr_mono (scr_g h.2 q.1 rfl) (by omega))) (pc_w (pc_ok (e_E_common h.1.1.1 i_v1 i_v2)) (fun _ _ q => pc_w (pc_ok (e_R_common q.2 i_v1 i_v2)) (fun _ _ q2 => g_lo q2.1 rfl)))
theorem v_father {n : Int} {w : Wd} (h : LV n w) (hn : n ≤ 2600) : OK (f_E_father w) (fun r1 u1 => OK (f_R_father u1) (fun r2 u2 => LV (n + 5) u2 ∧ True)) := dv (xR := fun u => f_R_father u) (X := fun r1 r2 => True) (d_father h.1) (pc_w (pc_ok (e_E_father h.1.1.1)) (fun _ _ q => scr_mono (scr_g h.2 q.1 rfl) (by omega))) (pc_w (pc_ok (e_E_father h.1.1.1)) (fun _ _ q => pc_w (pc_ok (e_R_father q.2)) (fun _ _ q2 => g_lo q2.1 rfl)))
theorem v_keep {n : Int} {w : Wd} {v1 : Int} (h : LV n w) (hn : n ≤ 2600) (i_v1 : ((-2147483648 : Int) ≤ v1 ∧ v1 ≤ 2147483647)) : OK (f_E_keep v1 w) (fun r1 u1 => OK (f_R_keep v1 u1) (fun r2 u2 => LV (n + 5) u2 ∧ r1 = r2)) := dv (xR := fun u => f_R_keep v1 u) (X := fun r1 r2 => r1 = r2) (d_keep h.1 i_v1) (pc_w (pc_ok (e_E_keep h.1.1.1 i_v1)) (fun _ _ q => scr_mono (scr_g h.2 q.1 rfl) (by omega))) (pc_w (pc_ok (e_E_keep h.1.1.1 i_v1)) (fun _ _ q => pc_w (pc_ok (e_R_keep q.2 i_v1)) (fun _ _ q2 => g_lo q2.1 rfl)))
theorem v_again {n : Int} {w : Wd} {v1 : Int} (h : LV n w) (hn : n ≤ 2600) (i_v1 : ((-2147483648 : Int) ≤ v1 ∧ v1 ≤ 2147483647)) : OK (f_E_again v1 w) (fun r1 u1 => OK (f_R_again v1 u1) (fun r2 u2 => LV (n + 5) u2 ∧ r1 = r2)) := dv (xR := fun u => f_R_again v1 u) (X := fun r1 r2 => r1 = r2) (d_again h.1 i_v1) (pc_w (pc_and (fg_again h.1.1.1.1) (pc_ok (e_E_again h.1.1.1 i_v1))) (fun _ _ q => scr_mono (fgt_scr h.2 q.1 q.2.1 rfl) (by omega))) (pc_w (pc_ok (e_E_again h.1.1.1 i_v1)) (fun _ _ q => pc_w (pc_ok (e_R_again q.2 i_v1)) (fun _ _ q2 => g_lo q2.1 rfl)))
theorem v_count {n : Int} {w : Wd} {v1 : Int} (h : LV n w) (hn : n ≤ 2600) (i_v1 : ((-2147483648 : Int) ≤ v1 ∧ v1 ≤ 2147483647)) : OK (f_E_count v1 w) (fun r1 u1 => OK (f_R_count v1 u1) (fun r2 u2 => LV (n + 5) u2 ∧ True)) := dv (xR := fun u => f_R_count v1 u) (X := fun r1 r2 => True) (d_count h.1 i_v1) (pc_w (pc_ok (e_E_count h.1.1.1 i_v1)) (fun _ _ q => scr_mono (scr_g h.2 q.1 rfl) (by omega))) (pc_w (pc_ok (e_E_count h.1.1.1 i_v1)) (fun _ _ q => pc_w (pc_ok (e_R_count q.2 i_v1)) (fun _ _ q2 => g_lo q2.1 rfl)))
theorem v_row {n : Int} {w : Wd} {v1 : Int} (h : LV n w) (hn : n ≤ 2600) (i_v1 : ((-2147483648 : Int) ≤ v1 ∧ v1 ≤ 2147483647)) : OK (f_A_row v1 w) (fun r1 u1 => OK (f_R_row v1 u1) (fun r2 u2 => LV (n + 5) u2 ∧ True)) := dv (xR := fun u => f_R_row v1 u) (X := fun r1 r2 => True) (d_row h.1 i_v1) (pc_w (pc_ok (e_A_row h.1.1.1 i_v1)) (fun _ _ q => scr_mono (scr_fr h.2 (q.2 5 (by decide)) (q.2 7 (by decide)) (q.2 24 (by decide)) (q.2 27 (by decide)) (q.2 28 (by decide)) (q.2 29 (by decide)) (q.2 30 (by decide)) (q.2 31 (by decide)) (q.2 35 (by decide))) (by omega))) (pc_w (pc_ok (e_A_row h.1.1.1 i_v1)) (fun _ _ q => pc_w (pc_ok (e_R_row q.1 i_v1)) (fun _ _ q2 => g_lo q2.1 rfl)))
