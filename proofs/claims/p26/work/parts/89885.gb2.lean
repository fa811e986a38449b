/-! THE REFERENCE'S TABLE OF STATES -/
theorem g_fr {S : List Nat} {b u : Wd} (h : G S b u) (cs : List Nat) (hS : S.all (fun x => cs.contains (x / 100)) = true) : ∀ c, cs.contains c = false → u c = b c := by
  intro c hc
  funext k
  refine h.2.1 c k (mS_ar ?_ k)
  rw [List.all_eq_true]
  intro x hx
  have h1 := List.all_eq_true.mp hS x hx
  rw [Bool.or_eq_true, Nat.blt_eq, Nat.blt_eq]
  by_cases e : x / 100 = c
  · rw [e, hc] at h1; cases h1
  · omega
theorem g_43 {S : List Nat} {b u : Wd} (h : G S b u) (ks : List Nat) (hS : S.all (fun x => x / 100 != 43 || (x != 4399 && ks.contains (x - 4300))) = true) : ∀ k, ks.contains k = false → u 43 k = b 43 k := by
  intro k hk
  refine h.2.1 43 k ?_
  unfold mS
  have f : ∀ x, S.contains x = true → x / 100 ≠ 43 ∨ (x ≠ 4399 ∧ ks.contains (x - 4300) = true) := fun x hx => by
    have h1 := List.all_eq_true.mp hS x (List.contains_iff_mem.mp hx)
    rw [Bool.or_eq_true, Bool.and_eq_true, bne_iff_ne, bne_iff_ne] at h1
    exact h1
  cases h1 : S.contains (43 * 100 + 99) with
  | true =>
    rcases f _ h1 with e | e
    · exact absurd rfl e
    · exact absurd rfl e.1
  | false =>
    cases h2 : Nat.blt k 99 with
    | false => rfl
    | true =>
      rw [Nat.blt_eq] at h2
      cases h3 : S.contains (43 * 100 + k) with
      | false => rfl
      | true =>
        rcases f _ h3 with e | e
        · exact absurd (by omega) e
        · rw [show 43 * 100 + k - 4300 = k by omega, hk] at e
          cases e.2
theorem mfn {w : Wd} {c : Int} {e t : Nat} (hm : Miss w c e) (hz : w 67 (slot c e) = 0) : ¬ Fnd w c t := by
  rintro ⟨d', hd', hm', e1', e2'⟩
  rcases Nat.lt_trichotomy e d' with h | h | h
  · exact (hm' e h).1 hz
  · subst h
    rw [hz] at e1'
    omega
  · have h1 := (hm d' h).2
    rw [e1'] at h1
    exact absurd (by rw [show ((t : Int) + 1 - 1).toNat = t by omega]; exact e2') h1
theorem nf13 {c : Int} : ∀ (n : Nat) {v2 : Int} {w : Wd} {d : Nat}, (∀ p, 0 ≤ w 67 p ∧ w 67 p ≤ 3000) → (0 ≤ v2 ∧ v2 ≤ 8191) → v2.toNat = slot c d → Miss w c d → PC (f_R_stateOf_13 n c v2 w) (fun r _ => r = -1 → ∀ t, ¬ Fnd w c t) := by
  intro n
  induction n with
  | zero => intros; exact pc_none
  | succ n ih =>
    intro v2 w d hr i2 e2 hm
    rw [f_R_stateOf_13]
    have r2 := hr v2.toNat
    have z : w32 (w 67 v2.toNat - 1) = w 67 v2.toNat - 1 := w32_id (by omega)
    have f50 : (w 67 v2.toNat ≠ 0 ∨ Miss w c d) → PC (f_R_stateOf_50 c v2 w) (fun r _ => r = -1 → ∀ t, ¬ Fnd w c t) := fun _ => by
      unfold f_R_stateOf_50
      refine pc_gd (fun _ => pc_ite (fun c1 => ?_) (fun c1 => pc_gd (fun _ => pc_some (fun e => ?_))))
      · refine pc_ite (fun c2 => pc_some (fun _ t => mfn hm (by rw [← e2]; exact c1))) (fun c2 => ?_)
        refine pc_gd (fun g1 => pc_lw (fun u2 q2 => pc_gd (fun _ => pc_lw (fun u3 q3 => pc_lw (fun u4 q4 => pc_gd (fun _ => pc_lw (fun u5 q5 => pc_some (fun e => ?_))))))))
        exfalso
        have s3 : u3 43 40 = w 43 40 := by rw [q3, st_c (by decide), q2, st_c (by decide)]
        have s5 : u5 43 40 = w 43 40 + 1 := by rw [q5, st_c (by decide), q4, st_eq, s3]; exact w32_id (by omega)
        rw [s5, w32_id (by omega)] at e
        omega
      · exfalso
        rw [z] at e
        omega
    refine pc_gd (fun _ => pc_ite (fun c1 => f50 (Or.inr hm)) (fun c1 => pc_gd (fun _ => pc_gd (fun _ => ?_))))
    rw [z]
    refine pc_ite (fun c2 => f50 (Or.inl c1)) (fun c2 => pc_let (fun x6 e6 => ?_))
    obtain ⟨q1, q2⟩ := slot_s e2 i2
    rw [← e6] at q1 q2
    refine ih hr q2 q1 (fun j hj => ?_)
    by_cases cj : j < d
    · exact hm j cj
    · rw [show j = d by omega, ← e2]
      exact ⟨c1, c2⟩
/-- what a search of the reference leaves as it is -/
def FRX (w u : Wd) : Prop := (∀ c, c ≠ 43 → c ≠ 63 → c ≠ 65 → c ≠ 66 → c ≠ 67 → u c = w c) ∧ ∀ k, k ≠ 40 → k ≠ 41 → u 43 k = w 43 k
theorem frx_tr {w u v : Wd} (h : FRX w u) (h2 : FRX u v) : FRX w v := ⟨fun c a b d e f => (h2.1 c a b d e f).trans (h.1 c a b d e f), fun k a b => (h2.2 k a b).trans (h.2 k a b)⟩
theorem frx_self (w : Wd) : FRX w w := ⟨fun _ _ _ _ _ _ => rfl, fun _ _ _ => rfl⟩
theorem so_pc {w : Wd} {c : Int} (hG : G [] w w) (iv : -2147483648 ≤ c ∧ c ≤ 2147483647) : PC (f_R_stateOf c w) (fun r u => (G [] u u ∧ FRX w u ∧ u 65 = w 65 ∧ u 43 41 = w 43 41) ∧ SO w u c r ∧ (r = -1 → ∀ t, ¬ Fnd w c t)) := by
  have h2 : PC (f_R_stateOf c w) (fun r _ => r = -1 → ∀ t, ¬ Fnd w c t) := by
    unfold f_R_stateOf
    have hr := iand_r (x := iush (w32 (c * (-1640531535))) 19) (y := 8191) (by decide)
    refine pc_let (fun x1 e1 => nf13 FU (d := 0) (fun p => hG.1 67 p) (by rw [e1]; omega) ?_ (fun j hj => by omega))
    have hh : x1.toNat = hsh c := by rw [e1]; rfl
    rw [hh]
    unfold slot
    have hs : hsh c < 8192 := by rw [← hh, e1]; omega
    omega
  refine pc_w (pc_and (pc_ok (so (g_self hG) iv)) h2) (fun r u q => ?_)
  obtain ⟨⟨_, gu, hs⟩, hn⟩ := q
  refine ⟨⟨g_self gu, ⟨fun k a b d e f => ?_, fun k a b => ?_⟩, ?_, ?_⟩, hs, hn⟩
  · refine g_fr gu [43, 63, 66, 67] (by decide) k ?_
    simp [a, b, e, f]
  · refine g_43 gu [40] (by decide) k ?_
    simp [a]
  · exact g_fr gu [43, 63, 66, 67] (by decide) 65 (by decide)
  · exact g_43 gu [40] (by decide) 41 (by decide)
/-- behind a WEEK -/
def BEQ (w u : Wd) (c : Int) (ok : Prop) (r : Int) : Prop := (G [] u u ∧ FRX w u ∧ u 65 = w 65 ∧ u 43 41 = w 43 41) ∧ ((¬ ok ∧ r = -1 ∧ u = w) ∨ (ok ∧ r = -2 ∧ u = w ∧ w 43 40 = 3000 ∧ ∀ t, ¬ Fnd w c t) ∨ (ok ∧ 0 ≤ r ∧ SO w u c r))
theorem be120 {w : Wd} {c : Int} {ok : Prop} (hG : G [] w w) (iv : -2147483648 ≤ c ∧ c ≤ 2147483647) (hok : ok) : PC (f_R_behind_120 c w) (fun r u => BEQ w u c ok r) := by
  unfold f_R_behind_120
  refine pc_call (so_pc hG iv) (fun r1 u2 q => ?_)
  obtain ⟨q1, q2, q3⟩ := q
  have a40 : (0 : Int) ≤ w 43 40 ∧ w 43 40 ≤ 3000 := hG.1 43 40
  refine pc_ite (fun e => pc_some ⟨q1, Or.inr (Or.inl ⟨hok, rfl, ?_⟩)⟩) (fun e => pc_some ⟨q1, Or.inr (Or.inr ⟨hok, ?_, q2⟩)⟩)
  · rcases q2.2.2 with h1 | h1 | h1
    · exact ⟨h1.2.1, h1.2.2, q3 e⟩
    · exfalso; omega
    · exfalso; omega
  · rcases q2.2.2 with h1 | h1 | h1
    · exact absurd h1.1 e
    · exact h1.1
    · omega
theorem be_pc {P g se : Int} {s : Nat → Int} {w : Wd} {v1 v2 m : Int} (hG : G [] w w) (hP : 0 ≤ P ∧ P ≤ 10) (h0 : w 43 0 = P) (hg : w 43 10 = g) (hse : w 43 11 = se) (hg3 : g ≤ 3) (h68 : ∀ k : Nat, (k : Int) < P → w 68 k = s k) (hs : ∀ k : Nat, (k : Int) < P → 0 ≤ s k ∧ s k ≤ 4) (hm : ior v1 v2 = m) (hmr : 0 ≤ m ∧ m ≤ 1023) (hin : ∀ k, k < 10 → bt m k = true → (k : Int) < P) : PC (f_R_behind v1 v2 w) (fun r u => BEQ w u (cdf (nis P s g (bt m)) P.toNat) (v1 = 0 ∨ ((pn (fun k => sty P s g k || bt m k) 10 : Nat) : Int) ≤ se) r) := by
  have gn : ∀ k : Nat, (k : Int) < P → gst (nis P s g (bt m) k) = (sty P s g k || bt m k) := fun k hk => by
    unfold nis sty gs
    rw [show inP P k = true from decide_eq_true hk]
    cases hb : bt m k with
    | true => simp; decide
    | false =>
      cases hgs : gst (s k) with
      | false => simp [hgs]
      | true =>
        have h1 : 1 ≤ s k ∧ s k < 4 := of_decide_eq_true hgs
        by_cases c : s k < g
        · rw [decide_eq_true c]
          simp [c]
          exact decide_eq_true (by omega)
        · rw [decide_eq_false c]
          simp [c]
          exact decide_eq_false (by omega)
  have cnt : pn (fun k => gst (nis P s g (bt m) k)) P.toNat = pn (fun k => sty P s g k || bt m k) 10 := by
    rw [pn_cut (f := fun k => sty P s g k || bt m k) (n := P.toNat) (m := 10) (by omega) (fun k h1 h2 => ?_)]
    · exact pn_eq (fun k hk => gn k (by omega))
    · have ip : inP P k = false := decide_eq_false (by omega)
      have hb : bt m k = false := by
        cases hb : bt m k with
        | false => rfl
        | true => have := hin k h2 hb; omega
      show (sty P s g k || bt m k) = false
      unfold sty gs
      rw [ip, hb]; rfl
  have nr : ∀ k : Nat, (k : Int) < P → 0 ≤ nis P s g (bt m) k ∧ nis P s g (bt m) k ≤ 4 := fun k hk => nis_rg hg3 (hs k hk)
  have l8 : ∀ (n : Nat) {v3 v4 v5 : Int}, 0 ≤ v5 → v5 ≤ P → v3 = cdf (nis P s g (bt m)) v5.toNat → v4 = ((pn (fun k => gst (nis P s g (bt m) k)) v5.toNat : Nat) : Int) → PC (f_R_behind_8 n v1 v2 v3 v4 v5 w) (fun r u => BEQ w u (cdf (nis P s g (bt m)) P.toNat) (v1 = 0 ∨ ((pn (fun k => sty P s g k || bt m k) 10 : Nat) : Int) ≤ se) r) := by
    intro n
    induction n with
    | zero => intros; exact pc_none
    | succ n ih =>
      intro v3 v4 v5 i5 i5' e3 e4
      rw [f_R_behind_8, h0]
      have c1 := cdf_rg (s := nis P s g (bt m)) (n := v5.toNat) (fun k hk => nr k (by omega))
      have c2 := p5_le v5.toNat (by omega)
      refine pc_ite (fun c => ?_) (fun c => ?_)
      · have e5 : v5 = P := by omega
        rw [e5] at e3 e4 c1 c2
        rw [cnt] at e4
        rw [← e3]
        refine pc_ite (fun z => be120 hG (by rw [e3]; omega) (Or.inl z)) (fun z => ?_)
        rw [hse]
        refine pc_ite (fun z2 => be120 hG (by rw [e3]; omega) (Or.inr (by omega))) (fun z2 => pc_some ⟨⟨hG, frx_self w, rfl, rfl⟩, Or.inl ⟨fun ho => ?_, rfl, rfl⟩⟩)
        rcases ho with h1 | h1
        · exact z h1
        · omega
      · have k5 : (v5.toNat : Int) < P := by omega
        have nk := nr v5.toNat k5
        have pl := pn_le (fun k => gst (nis P s g (bt m) k)) v5.toNat
        have f89 : ∀ (x z : Int), x = nis P s g (bt m) v5.toNat → z = (if gst (nis P s g (bt m) v5.toNat) = true then 1 else 0) → PC (f_R_behind_89 (f_R_behind_8 n) v1 v2 v3 v5 x v4 z w) (fun r u => BEQ w u (cdf (nis P s g (bt m)) P.toNat) (v1 = 0 ∨ ((pn (fun k => sty P s g k || bt m k) 10 : Nat) : Int) ≤ se) r) := fun x z ex ez => by
          unfold f_R_behind_89
          have z01 : 0 ≤ z ∧ z ≤ 1 := by rw [ez]; split <;> decide
          refine pc_let (fun x10 e10 => pc_let (fun x11 e11 => pc_let (fun x12 e12 => ?_)))
          rw [w32_id (by omega)] at e12
          rw [w32_id (by omega)] at e10
          rw [e3, ex, w32_id (show -2147483648 ≤ 5 * cdf (nis P s g (bt m)) v5.toNat ∧ 5 * cdf (nis P s g (bt m)) v5.toNat ≤ 2147483647 by omega), w32_id (by omega)] at e11
          rw [e10, e11, e12]
          refine ih (by omega) (by omega) (by rw [show (v5 + 1).toNat = v5.toNat + 1 by omega, cdf]) ?_
          rw [show (v5 + 1).toNat = v5.toNat + 1 by omega, pn, e4, ez]
          cases gst (nis P s g (bt m) v5.toNat) <;> simp
        have f74 : ∀ x : Int, x = nis P s g (bt m) v5.toNat → PC (f_R_behind_74 (f_R_behind_8 n) v1 v2 v3 v4 v5 x w) (fun r u => BEQ w u (cdf (nis P s g (bt m)) P.toNat) (v1 = 0 ∨ ((pn (fun k => sty P s g k || bt m k) 10 : Nat) : Int) ≤ se) r) := fun x ex => by
          unfold f_R_behind_74
          rw [isG_e, jc_s, ex]
          cases hb : gst (nis P s g (bt m) v5.toNat) with
          | false => exact pc_ite (fun _ => f89 _ 0 rfl (by rw [hb]; rfl)) (fun e => absurd rfl e)
          | true => exact pc_ite (fun e => absurd e (by decide)) (fun _ => f89 _ 1 rfl (by rw [hb]; rfl))
        have sk := hs v5.toNat k5
        refine pc_gd (fun _ => pc_let (fun x3 ex3 => ?_))
        rw [h68 v5.toNat k5] at ex3
        rw [hm, hasR_10 w (b10_self hmr) (by omega), jc_s, ex3]
        cases hb : bt m v5.toNat with
        | true =>
          refine pc_ite (fun e => absurd e (by decide)) (fun _ => f74 1 ?_)
          unfold nis; rw [hb]; rfl
        | false =>
          refine pc_ite (fun _ => ?_) (fun e => absurd rfl e)
          rw [isG_e, jc_s]
          cases hgs : gst (s v5.toNat) with
          | false =>
            refine pc_ite (fun _ => f74 _ ?_) (fun e => absurd rfl e)
            unfold nis; rw [hb, hgs]; rfl
          | true =>
            refine pc_ite (fun e => absurd e (by decide)) (fun _ => ?_)
            have e1 : w32 (s v5.toNat + 1) = s v5.toNat + 1 := w32_id (by omega)
            have e2 : w32 (s v5.toNat + 1 - 1) = s v5.toNat := (w32_id (by omega)).trans (by omega)
            rw [e1, e2, hg]
            unfold f_R_behind_72
            refine pc_ite (fun z => f74 _ ?_) (fun z => f74 _ ?_)
            · unfold nis; rw [hb, hgs]; simp [z]
            · unfold nis; rw [hb, hgs]; simp [z]
  unfold f_R_behind
  exact l8 FU (by decide) hP.1 rfl rfl
