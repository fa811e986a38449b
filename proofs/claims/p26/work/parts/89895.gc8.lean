/-! LAST, STAYS, WORTH, NEEDED -/
def LFQ (P g se : Int) (h kn : Nat → Int) (ok : Int → Prop) (x r : Int) : Prop := (¬ ok x ∧ r = -1) ∨ (ok x ∧ 0 ≤ r ∧ (∃ y, RCX P g se h kn x r.toNat y ∧ ok y) ∧ ∀ n y, RCX P g se h kn x n y → ok y → (n : Int) ≤ r)
theorem imx (a b : Int) : a ≤ imax a b ∧ b ≤ imax a b ∧ (imax a b = a ∨ imax a b = b) := by have := imax_sp a b; omega
theorem flf_pc {P g se : Int} {h kn : Nat → Int} {x0 : Int} {X : Nat → Int} {w : Wd} {v1 : Int} {F : Nat → Bool} {ok : Int → Prop} (hP : 0 ≤ P ∧ P ≤ 10) (c0 : w 43 0 = P) (hr : RLI P g se h kn x0 w) (hx : XOK P g se h kn x0 X w) (hF : B10 v1 F) (hok : ∀ x, ok x ↔ ∃ q, q < 10 ∧ gs P (sof x) q = true ∧ F q = true) (hback : ∀ x z n y, VLS P g se h kn x0 x → SUX P g se h kn x z → ok x → RCX P g se h kn z n y → ok y → ok z) (hless : ∀ x z, VLS P g se h kn x0 x → ok x → SUX P g se h kn x z → lsm (sof z) P.toNat < lsm (sof x) P.toNat) : PC (f_R_findLife v1 w) (fun _ u => (∀ c, c ≠ 71 → c ≠ 72 → c ≠ 73 → u c = w c) ∧ ∀ t : Nat, (t : Int) < w 43 40 → LFQ P g se h kn ok (X t) (u 71 t)) := by
  unfold f_R_findLife
  refine pc_call (fo_pc hP c0 hr.1 hx) (fun r1 b q => ?_)
  obtain ⟨q1, o1, o2, o3, o4⟩ := q
  have h3000 := hr.1
  have b43 : b 43 = w 43 := q1 43 (by decide) (by decide)
  have b63 : b 63 = w 63 := q1 63 (by decide) (by decide)
  have b64 : b 64 = w 64 := q1 64 (by decide) (by decide)
  have b65 : b 65 = w 65 := q1 65 (by decide) (by decide)
  have hvz : ∀ x z, VLS P g se h kn x0 x → SUX P g se h kn x z → VLS P g se h kn x0 z := fun x z hv hs => by
    obtain ⟨n, hn⟩ := hv.2
    have hs' := hs
    obtain ⟨m, _, hw⟩ := hs
    exact ⟨wh_sof hw hP.2, n + 1, x, hn, hs'⟩
  have l6 : ∀ (n : Nat) {v2 : Int} {u : Wd}, 0 ≤ v2 → v2 ≤ w 43 40 → (∀ c, c ≠ 71 → u c = b c) → (∀ j : Nat, (j : Int) < v2 → LFQ P g se h kn ok (X (b 72 j).toNat) (u 71 (b 72 j).toNat)) → PC (f_R_findLife_6 n v1 v2 u) (fun _ u => (∀ c, c ≠ 71 → c ≠ 72 → c ≠ 73 → u c = w c) ∧ ∀ t : Nat, (t : Int) < w 43 40 → LFQ P g se h kn ok (X t) (u 71 t)) := by
    intro n
    induction n with
    | zero => intros; exact pc_none
    | succ n ih =>
      intro v2 u i2 i2' hu hL
      rw [f_R_findLife_6, hu 43 (by decide), b43]
      unfold f_R_findLife_104
      refine pc_ite (fun c => pc_some ⟨fun c a1 a2 a3 => (hu c a1).trans (q1 c a2 a3), fun t ht => ?_⟩) (fun c => ?_)
      · obtain ⟨k, hk, e⟩ := o3 t ht
        have := hL k (by omega)
        rw [e, show ((t : Nat) : Int).toNat = t by omega] at this
        exact this
      · refine pc_gd (fun _ => pc_let (fun x3 e3 => ?_))
        rw [hu 72 (by decide)] at e3
        obtain ⟨s1, s2⟩ := o1 v2.toNat (by omega)
        rw [← e3] at s1 s2
        have es : x3 = ((x3.toNat : Nat) : Int) := by omega
        obtain ⟨hxv, hcv⟩ := hx.1 x3.toNat (by omega)
        obtain ⟨⟨hlo, hhi⟩, hE⟩ := hr.2.2.2.2.2 x3.toNat (by omega)
        obtain ⟨hE1, hE2⟩ := hE (X x3.toNat) hxv hcv
        -- what comes ahead of it
        have ahead : ∀ j : Nat, (j : Int) < v2 → (b 72 j).toNat ≠ x3.toNat := fun j hj e => by
          have r1 := (o1 j (by omega)).1
          have := o2 j v2.toNat (by omega) (by omega) (by omega)
          omega
        refine pc_gd (fun _ => pc_lw (fun u4 e4 => ?_))
        have hu4 : ∀ c, c ≠ 71 → u4 c = b c := fun c hc => by rw [e4, st_row hc, hu c hc]
        have k4 : ∀ k, k ≠ x3.toNat → u4 71 k = u 71 k := fun k hk => by rw [e4, st_k hk]
        refine pc_call (gx_pc hP hx (by rw [hu4 43 (by decide), b43]; exact c0) (by rw [hu4 63 (by decide), b63]) ⟨s1, s2⟩) (fun r5 u6 z => ?_)
        rw [z.1]
        have hand := b10_and z.2 hF.2
        have ok0 : iand r5 v1 = 0 ↔ ¬ ok (X x3.toNat) := by
          rw [hok]
          rcases b10_some hand with ⟨e, hn⟩ | ⟨e, q, hq, hb⟩
          · refine ⟨fun _ => fun ⟨q, hq, a1, a2⟩ => ?_, fun _ => e⟩
            have := hn q hq
            rw [a1, a2] at this; cases this
          · refine ⟨fun c => absurd c e, fun c => absurd ⟨q, hq, ?_⟩ c⟩
            rw [Bool.and_eq_true] at hb
            exact hb
        have w2 : w32 (v2 + 1) = v2 + 1 := w32_id (by omega)
        refine pc_ite (fun cz => pc_let (fun x9 e9 => ?_)) (fun cz => ?_)
        · rw [w2] at e9
          rw [e9]
          refine ih (by omega) (by omega) hu4 (fun j hj => ?_)
          by_cases cj : (j : Int) < v2
          · rw [k4 _ (ahead j cj)]; exact hL j cj
          · rw [show j = v2.toNat by omega, ← e3]
            exact Or.inl ⟨ok0.mp cz, by rw [e4, st_eq]⟩
        · have hokx : ok (X x3.toNat) := Classical.byContradiction fun hh => cz (ok0.mpr hh)
          refine pc_gd (fun _ => pc_lw (fun u7 e7 => pc_gd (fun _ => pc_let (fun x8 e8 => ?_))))
          have hu7 : ∀ c, c ≠ 71 → u7 c = b c := fun c hc => by rw [e7, st_row hc, hu4 c hc]
          have k7 : ∀ k, k ≠ x3.toNat → u7 71 k = u 71 k := fun k hk => by rw [e7, st_k hk, k4 k hk]
          have w3 : w32 (x3 + 1) = x3 + 1 := w32_id (by omega)
          rw [hu7 64 (by decide), b64] at e8
          -- one edge after the other: the longest so far
          have l56 : ∀ (m : Nat) {v4 : Int} {v : Wd}, w 64 x3.toNat ≤ v4 → v4 ≤ w 64 (x3.toNat + 1) → (∀ c, c ≠ 71 → v c = b c) → (∀ k, k ≠ x3.toNat → v 71 k = u 71 k) → (0 ≤ v 71 x3.toNat ∧ (∃ y, RCX P g se h kn (X x3.toNat) (v 71 x3.toNat).toNat y ∧ ok y) ∧ ∀ e : Nat, w 64 x3.toNat ≤ (e : Int) → (e : Int) < v4 → u 71 (w 65 e).toNat + 1 ≤ v 71 x3.toNat) → PC (f_R_findLife_56 (f_R_findLife_6 n) m v1 v2 x3 v4 v) (fun _ u => (∀ c, c ≠ 71 → c ≠ 72 → c ≠ 73 → u c = w c) ∧ ∀ t : Nat, (t : Int) < w 43 40 → LFQ P g se h kn ok (X t) (u 71 t)) := by
            intro m
            induction m with
            | zero => intros; exact pc_none
            | succ m ihm =>
              intro v4 v i4 i4' hv k71 hmx
              obtain ⟨m1, m2, m3⟩ := hmx
              rw [f_R_findLife_56, w3, hv 64 (by decide), b64, show (x3 + 1).toNat = x3.toNat + 1 by omega]
              unfold f_R_findLife_104
              -- what stands at the end of an edge
              have tgt : ∀ e : Nat, w 64 x3.toNat ≤ (e : Int) → (e : Int) < w 64 (x3.toNat + 1) → (w 65 e).toNat ≠ x3.toNat ∧ SUX P g se h kn (X x3.toNat) (X (w 65 e).toNat) ∧ LFQ P g se h kn ok (X (w 65 e).toNat) (u 71 (w 65 e).toNat) := fun e h1 h2 => by
                obtain ⟨g4, y, g5, g6⟩ := hE1 e h1 h2
                have hy := hx.1 (w 65 e).toNat (by omega)
                have eX : X (w 65 e).toNat = y := cdx_inj hP hy.1.1 (hvz _ _ hxv g5).1 (by rw [← hy.2, g6])
                have hl := hless _ _ hxv hokx g5
                obtain ⟨j, hj, ej⟩ := o3 (w 65 e).toNat (by omega)
                have hjv : (j : Int) < v2 := by
                  refine Classical.byContradiction fun hh => ?_
                  have le : Lf P X x3.toNat ≤ Lf P X (w 65 e).toNat := by
                    by_cases cj : j = v2.toNat
                    · rw [cj, ← e3] at ej
                      have : x3.toNat = (w 65 e).toNat := by omega
                      rw [this]; exact Int.le_refl _
                    · have := o4 v2.toNat j (by omega) hj
                      rw [← e3, ej, show (((w 65 e).toNat : Nat) : Int).toNat = (w 65 e).toNat by omega] at this
                      exact this
                  unfold Lf at le
                  rw [eX] at le
                  omega
                refine ⟨fun hh => ?_, by rw [eX]; exact g5, ?_⟩
                · rw [hh] at eX
                  rw [eX] at hl
                  omega
                · have := hL j hjv
                  rw [ej, show (((w 65 e).toNat : Nat) : Int).toNat = (w 65 e).toNat by omega] at this
                  exact this
              refine pc_gd (fun _ => pc_ite (fun c4 => pc_let (fun x9 e9 => ?_)) (fun c4 => ?_))
              · rw [w2] at e9
                rw [e9]
                refine ih (by omega) (by omega) hv (fun j hj => ?_)
                by_cases cj : (j : Int) < v2
                · rw [k71 _ (ahead j cj)]; exact hL j cj
                · rw [show j = v2.toNat by omega, ← e3]
                  refine Or.inr ⟨hokx, m1, m2, fun n y hn hy => ?_⟩
                  cases n with
                  | zero => omega
                  | succ n =>
                    obtain ⟨z', hz1, hz2⟩ := rcx_first.mp hn
                    obtain ⟨e, g1, g2, g3, g4⟩ := hE2 z' hz1
                    have ha := hx.1 (w 65 e).toNat (by omega)
                    have eX : X (w 65 e).toNat = z' := cdx_inj hP ha.1.1 (hvz _ _ hxv hz1).1 (by rw [← ha.2, g4])
                    have hokz := hback _ _ _ _ hxv hz1 hokx hz2 hy
                    have t3 := (tgt e g1 g2).2.2
                    rw [eX] at t3
                    rcases t3 with ⟨t4, _⟩ | ⟨_, _, _, t5⟩
                    · exact absurd hokz t4
                    · have := t5 n y hz2 hy
                      have := m3 e g1 (by omega)
                      omega
              · obtain ⟨t1, t2, t3⟩ := tgt v4.toNat (by omega) (by omega)
                have g4 := (hE1 v4.toNat (by omega) (by omega)).1
                rw [hv 65 (by decide), b65]
                refine pc_gd (fun _ => pc_gd (fun _ => pc_gd (fun _ => pc_gd (fun _ => pc_lw (fun u10 e10 => pc_let (fun x11 e11 => ?_))))))
                rw [k71 _ t1] at e10
                -- a number that is no bigger than the number of STATES' sums
                have lbd : u 71 (w 65 v4.toNat).toNat ≤ 2147483646 := by
                  rcases t3 with ⟨_, e⟩ | ⟨_, _, ⟨y, hy, oky⟩, _⟩
                  · omega
                  · have path : ∀ (n : Nat) (x' y : Int), VLS P g se h kn x0 x' → ok x' → RCX P g se h kn x' n y → ok y → (n : Int) + lsm (sof y) P.toNat ≤ lsm (sof x') P.toNat := by
                      intro n
                      induction n with
                      | zero => intro x' y _ _ e _; rw [show y = x' from e]; omega
                      | succ n ihn =>
                        intro x' y hv' hox hn hoy
                        obtain ⟨z', hz1, hz2⟩ := rcx_first.mp hn
                        have hoz := hback _ _ _ _ hv' hz1 hox hz2 hoy
                        have := ihn z' y (hvz _ _ hv' hz1) hoz hz2 hoy
                        have := hless _ _ hv' hox hz1
                        omega
                    have hokz := hback _ _ _ _ hxv t2 hokx hy oky
                    have a1 := path _ _ _ (hvz _ _ hxv t2) hokz hy oky
                    have a2 := (lsm_rg (sof y) P.toNat).1
                    have a3 := (lsm_rg (sof (X (w 65 v4.toNat).toNat)) P.toNat).2
                    omega
                have lbd2 : -1 ≤ u 71 (w 65 v4.toNat).toNat := by
                  rcases t3 with ⟨_, e⟩ | ⟨_, e, _⟩ <;> omega
                rw [w32_id (show -2147483648 ≤ u 71 (w 65 v4.toNat).toNat + 1 ∧ u 71 (w 65 v4.toNat).toNat + 1 ≤ 2147483647 by omega)] at e10
                have b41 : v4 ≤ 2147483646 := by omega
                rw [w32_id (by omega)] at e11
                rw [e11]
                obtain ⟨x1', x2', x3'⟩ := imx (v 71 x3.toNat) (u 71 (w 65 v4.toNat).toNat + 1)
                have z71 : u10 71 x3.toNat = imax (v 71 x3.toNat) (u 71 (w 65 v4.toNat).toNat + 1) := by rw [e10, st_eq]
                refine ihm (by omega) (by omega) (fun c hc => by rw [e10, st_row hc, hv c hc]) (fun k hk => by rw [e10, st_k hk, k71 k hk]) ⟨by rw [z71]; omega, ?_, fun e h1 h2 => ?_⟩
                · rw [z71]
                  rcases x3' with e | e
                  · rw [e]; exact m2
                  · rw [e]
                    by_cases cn : u 71 (w 65 v4.toNat).toNat = -1
                    · rw [cn]; exact ⟨X x3.toNat, rfl, hokx⟩
                    · rcases t3 with ⟨_, e'⟩ | ⟨_, e', ⟨y, hy, oky⟩, _⟩
                      · exact absurd e' cn
                      · refine ⟨y, ?_, oky⟩
                        rw [show (u 71 (w 65 v4.toNat).toNat + 1).toNat = (u 71 (w 65 v4.toNat).toNat).toNat + 1 by omega]
                        exact rcx_first.mpr ⟨_, t2, hy⟩
                · rw [z71]
                  by_cases ce : (e : Int) < v4
                  · have := m3 e h1 ce; omega
                  · rw [show e = v4.toNat by omega]; exact x2'
          rw [e8]
          exact l56 FU (Int.le_refl _) hhi hu7 k7 ⟨by rw [e7, st_eq]; exact Int.le_refl _, ⟨X x3.toNat, by rw [e7, st_eq]; exact rfl, hokx⟩, fun e h1 h2 => by omega⟩
  exact l6 FU (by decide) (by omega) (fun _ _ => rfl) (fun j hj => by omega)
/-- somebody a GUEST: all along -/
theorem sbg_back {P g se : Int} {h kn : Nat → Int} (hP : 0 ≤ P ∧ P ≤ 10) : ∀ {n : Nat} {z y : Int}, WH z (sof z) P → RCX P g se h kn z n y → sbg P y → sbg P z := by
  intro n
  induction n with
  | zero => intro z y _ e hs; rw [show y = z from e] at hs; exact hs
  | succ n ih =>
    intro z y hz hn hs
    obtain ⟨v, h1, h2⟩ := rcx_first.mp hn
    have hv : WH v (sof v) P := by
      obtain ⟨m, _, hw⟩ := h1
      exact wh_sof hw hP.2
    have sv := ih hv h2 hs
    refine Classical.byContradiction fun hno => ?_
    have h3 : ∀ k, k < 10 → gs P (sof z) k = false := fun k hk => by
      cases e : gs P (sof z) k with
      | false => rfl
      | true => exact absurd ⟨k, hk, e⟩ hno
    rw [(sx_no (g := g) (se := se) (h := h) (kn := kn) hP hz h3).mp h1] at sv
    exact hno sv
/-- who is OUT stays OUT -/
theorem out_on {P g se : Int} {h kn : Nat → Int} (hP : 0 ≤ P ∧ P ≤ 10) {i : Nat} (hi : (i : Int) < P) : ∀ {n : Nat} {z y : Int}, RCX P g se h kn z n y → sof z i = 4 → sof y i = 4 := by
  intro n
  induction n with
  | zero => intro z y e hs; rw [show y = z from e]; exact hs
  | succ n ih =>
    rintro z y ⟨v, hv, hs⟩ e
    have ev := ih hv e
    obtain ⟨m, hm, hw⟩ := hs
    rw [sof_e hw hP.2 hi]
    have nm : bt m i = false := by
      cases hb : bt m i with
      | false => rfl
      | true => exact absurd ev (mvs_ok hP hm i (by omega) hb).2
    unfold nis
    rw [nm, ev]; rfl
theorem gsi_back {P g se : Int} {h kn : Nat → Int} (hP : 0 ≤ P ∧ P ≤ 10) {i : Nat} {x z y : Int} {n : Nat} (hs : SUX P g se h kn x z) (hx : gs P (sof x) i = true) (hn : RCX P g se h kn z n y) (hy : gs P (sof y) i = true) : gs P (sof z) i = true := by
  unfold gs at hx hy ⊢
  rw [Bool.and_eq_true] at hx hy ⊢
  have hi := inP_t hx.1
  refine ⟨hx.1, ?_⟩
  have h1 : 1 ≤ sof x i ∧ sof x i < 4 := of_decide_eq_true hx.2
  have h2 : 1 ≤ sof y i ∧ sof y i < 4 := of_decide_eq_true hy.2
  have n4 : sof z i ≠ 4 := fun e => by have := out_on hP hi hn e; omega
  obtain ⟨m, _, hw⟩ := hs
  rw [sof_e hw hP.2 hi] at n4 ⊢
  unfold nis at n4 ⊢
  by_cases c : bt m i = true
  · rw [if_pos c]; rfl
  · rw [if_neg c, if_pos hx.2] at n4 ⊢
    by_cases c2 : sof x i < g
    · rw [if_pos c2] at n4 ⊢; exact decide_eq_true (by omega)
    · rw [if_neg c2] at n4; exact absurd rfl n4
theorem ls_gs {P g se : Int} {h kn : Nat → Int} {x0 : Int} (hP : 0 ≤ P ∧ P ≤ 10) (hg : 1 ≤ g ∧ g ≤ 3) {x z : Int} (hv : VLS P g se h kn x0 x) (hs : SUX P g se h kn x z) (hgu : sbg P x) : lsm (sof z) P.toNat < lsm (sof x) P.toNat := sx_lsm hP hg hv.1 hs hgu
/-- the last WEEK with somebody a GUEST -/
def LWQ (P g se : Int) (h kn : Nat → Int) (x0 r : Int) : Prop := (r = -1 ∧ ¬ sbg P x0) ∨ (0 ≤ r ∧ (∃ y, RCX P g se h kn x0 r.toNat y ∧ sbg P y) ∧ ∀ n y, RCX P g se h kn x0 n y → sbg P y → (n : Int) ≤ r)
theorem lwq_one {P g se : Int} {h kn : Nat → Int} {x0 r r' : Int} (hP : 0 ≤ P ∧ P ≤ 10) (h0 : WH x0 (sof x0) P) (a : LWQ P g se h kn x0 r) (b : LWQ P g se h kn x0 r') : r = r' := by
  rcases a with ⟨a1, a2⟩ | ⟨a1, ⟨y, a2, a3⟩, a4⟩
  · rcases b with ⟨b1, _⟩ | ⟨b1, ⟨y', b2, b3⟩, _⟩
    · omega
    · exact absurd (sbg_back hP h0 b2 b3) a2
  · rcases b with ⟨b1, b2⟩ | ⟨b1, ⟨y', b2, b3⟩, b4⟩
    · exact absurd (sbg_back hP h0 a2 a3) b2
    · have := b4 _ _ a2 a3
      have := a4 _ _ b2 b3
      omega
theorem flall_pc {P g se : Int} {h kn : Nat → Int} {x0 : Int} {w : Wd} (hP : 0 ≤ P ∧ P ≤ 10) (hg : 1 ≤ g ∧ g ≤ 3) (h0 : WH x0 (sof x0) P) (c0 : w 43 0 = P) (hr : RLI P g se h kn x0 w) : PC (jcall (f_R_all w) fun r4 u5 => f_R_findLife r4 u5) (fun _ u => (∀ c, c ≠ 71 → c ≠ 72 → c ≠ 73 → u c = w c) ∧ LWQ P g se h kn x0 (u 71 0)) := by
  obtain ⟨X, hx⟩ := rli_x hP hr
  unfold f_R_all
  rw [jc_s, c0]
  have h1 := hr.1
  refine pc_w (flf_pc (ok := sbg P) hP c0 hr hx (b10_all hP) (fun x => ?_) (fun x z n y hv hs _ hn hy => ?_) (fun x z hv hgu hs => ls_gs hP hg hv hs hgu)) (fun _ u q => ⟨q.1, ?_⟩)
  · constructor
    · rintro ⟨k, hk, hgk⟩
      refine ⟨k, hk, hgk, decide_eq_true ?_⟩
      unfold gs at hgk
      rw [Bool.and_eq_true] at hgk
      exact inP_t hgk.1
    · rintro ⟨k, hk, hgk, _⟩; exact ⟨k, hk, hgk⟩
  · obtain ⟨m, _, hw⟩ := hs
    exact sbg_back hP (wh_sof hw hP.2) hn hy
  · have := q.2 0 (by omega)
    rw [(xok_0 hP h0 hr hx (by omega)).mpr rfl] at this
    rcases this with ⟨a, b⟩ | ⟨a, b, c, d⟩
    · exact Or.inl ⟨b, a⟩
    · exact Or.inr ⟨b, c, d⟩
/-- the class's -/
theorem lst_lwq {P g se : Int} {h kn : Nat → Int} {x0 r : Int} (hP : 0 ≤ P ∧ P ≤ 10) (hg : 1 ≤ g ∧ g ≤ 3) (h0 : WH x0 (sof x0) P) {T : Nat → Prop} (hT : ∀ t, T t ↔ ∃ y, RCX P g se h kn x0 t y ∧ sbg P y) (hl : LstQ T r) : LWQ P g se h kn x0 r := by
  rcases hl with ⟨e, hn⟩ | ⟨e, h1, h2⟩
  · exact Or.inl ⟨e, fun hs => hn 0 (by decide) ((hT 0).mpr ⟨x0, rfl, hs⟩)⟩
  · refine Or.inr ⟨e.1, (hT _).mp h1, fun n y hn hy => h2 n ?_ ((hT n).mpr ⟨y, hn, hy⟩)⟩
    have := wk_29 hP hg h0 hn hy
    omega
theorem wkt_all {P g se : Int} {h kn : Nat → Int} {x0 : Int} (t : Nat) : WKT P g se h kn x0 (fun _ => false) (fun _ => false) t ↔ ∃ y, RCX P g se h kn x0 t y ∧ sbg P y := by
  constructor
  · rintro ⟨x, a, ⟨b, _⟩, _⟩; exact ⟨x, a, b⟩
  · rintro ⟨x, a, b⟩; exact ⟨x, a, ⟨b, fun q _ hF => by cases hF⟩, fun q _ hF => by cases hF⟩
theorem er_last {a w : Wd} {P g se : Int} {h kn : Nat → Int} {x0 n : Int} (hp : PRM a w P g se h kn x0) (hG : G [] a a) (hs : SCR n w) (hn : n ≤ 2600) (hk : w 28 9 ≠ 0 → KPT P g se h kn x0 w) : PC (f_E_last w) (fun r _ => PC (f_R_last a) (fun r' _ => r = r')) := by
  obtain ⟨hP, hg, h0, hw, ⟨c0, _⟩, c47, _, _, c44, c6⟩ := id hp
  unfold f_E_last f_R_last
  refine pc_w (two_run (A := fun r => ∃ m, LWQ P g se h kn x0 m ∧ r = if m = -1 then -2 else m) (B := fun r => ∃ m, LWQ P g se h kn x0 m ∧ r = if m = -1 then -2 else m) hp hG hs hn hk (fun u hu _ hc => ?_) (fun y u ey hf hg' hr => ?_) (fun r r' hA hB => ?_)) (fun r _ q => pc_lw (fun y ey => q y ey))
  · refine pc_call (clw_pc hc hP h0 b10_0 b10_0) (fun r3 u4 z => ?_)
    rw [z.1]
    have hl := lst_lwq hP hg h0 wkt_all z.2
    refine pc_ite (fun e => pc_some ⟨r3, hl, by rw [if_pos e]⟩) (fun e => ?_)
    have e60 : 0 ≤ r3 ∧ r3 ≤ 60 := by
      rcases z.2 with ⟨e', _⟩ | ⟨e', _⟩
      · exact absurd e' e
      · exact e'
    refine pc_call (cfg_pc hc e60) (fun r5 u6 _ => ?_)
    have nt1 : ∀ (x : Int) (z : Wd), PC (f_N_tell1 x z) (fun _ _ => True) := fun _ _ _ _ _ => trivial
    exact pc_call (nt1 r5 u6) (fun _ _ _ => pc_some ⟨r3, hl, by rw [if_neg e]⟩)
  · have u0 : u 43 0 = P := by rw [hf.2 0 (by decide) (by decide) (by decide), ey, st_k (by decide)]; exact c0
    have fl := flall_pc hP hg h0 u0 hr
    unfold f_R_all at fl ⊢
    rw [jc_s] at fl ⊢
    refine pc_call fl (fun r6 u7 q => pc_gd (fun _ => pc_let (fun x8 e8 => ?_)))
    have e8' : x8 = u7 71 0 := e8
    have hq := q.2
    rw [← e8'] at hq
    have pc1T : ∀ o : Option (Int × Wd), PC o (fun _ _ => True) := fun _ _ _ _ => trivial
    refine pc_ite (fun c => ?_) (fun c => pc_some ⟨x8, hq, ?_⟩)
    · have l65 : ∀ (m : Nat) {v2 v3 : Int} {v : Wd}, PC (f_R_last_65 m x8 v2 v3 v) (fun r _ => r = x8) := by
        intro m
        induction m with
        | zero => intros; exact pc_none
        | succ m ih =>
          intro v2 v3 v
          rw [f_R_last_65]
          unfold f_R_last_106
          refine pc_ite (fun _ => pc_lw (fun u11 _ => pc_call (pc1T _) (fun _ _ _ => pc_some rfl))) (fun _ => pc_gd (fun _ => pc_ite (fun _ => pc_let (fun _ _ => ih)) (fun _ => pc_call (pc1T _) (fun _ _ _ => ?_))))
          exact pc_ite (fun _ => pc_let (fun _ _ => ih)) (fun _ => pc_call (pc1T _) (fun _ _ _ => pc_call (pc1T _) (fun _ _ _ => pc_let (fun _ _ => pc_let (fun _ _ => ih)))))
      have l44 : ∀ (m : Nat) {v2 : Int} {v : Wd}, PC (f_R_last_44 m x8 v2 v) (fun r _ => r = x8) := by
        intro m
        induction m with
        | zero => intros; exact pc_none
        | succ m ih =>
          intro v2 v
          rw [f_R_last_44]
          exact pc_ite (fun _ => l65 FU) (fun _ => pc_call (pc1T _) (fun _ _ _ => pc_let (fun _ _ => ih)))
      refine pc_call (pc1T _) (fun _ u10 _ => pc_w (l44 FU) (fun r _ e => ⟨x8, hq, ?_⟩))
      rw [e, if_neg (by omega)]
    · have : x8 = -1 := by
        rcases hq with ⟨e, _⟩ | ⟨e, _⟩
        · exact e
        · exact absurd e c
      rw [if_pos this]
  · obtain ⟨m, m1, m2⟩ := hA
    obtain ⟨m', m1', m2'⟩ := hB
    have e := lwq_one hP h0 m1 m1'
    rw [m2, m2', e]
theorem er_stays {a w : Wd} {P g se : Int} {h kn : Nat → Int} {x0 n v1 : Int} (hp : PRM a w P g se h kn x0) (hG : G [] a a) (hs : SCR n w) (hn : n ≤ 2600) (hk : w 28 9 ≠ 0 → KPT P g se h kn x0 w) : PC (f_E_stays v1 w) (fun r _ => PC (f_R_stays v1 a) (fun r' _ => r = r')) := by
  obtain ⟨hP, hg, h0, hw, ⟨c0, _⟩, c47, _, _, c44, c6⟩ := id hp
  unfold f_E_stays f_R_stays
  have pc1T : ∀ o : Option (Int × Wd), PC o (fun _ _ => True) := fun _ _ _ _ => trivial
  refine pc_call (it_pc v1 w) (fun r1 u2 q => ?_)
  rw [q.1, q.2, hw.1]
  have yy : ∀ y : Wd, y = st a 43 16 0 → y 43 0 = P := fun y ey => by rw [ey, st_k (by decide)]; exact c0
  unfold hd
  by_cases ct : 0 ≤ v1 ∧ v1 < P
  · rw [if_pos ct]
    refine pc_ite (fun e => absurd e (by decide)) (fun _ => ?_)
    refine pc_w (two_run (KR := fun u5 => jgd ((0 : Int) ≤ v1 ∧ v1 < 10) <| jcall (f_R_isGuest (u5 47 v1.toNat) u5) fun r6 u7 => if r6 = 0 then some ((-2), u7) else jcall (f_R_findLife (ishl 1 v1) u7) fun r8 u9 => jgd ((0 : Int) ≤ (0 : Int) ∧ (0 : Int) < 3000) <| jlet (u9 71 (0 : Int).toNat) fun x10 => jcall (f_R_findNext u9) fun r11 u12 => f_R_stays_61 FU v1 x10 0 u12) (A := fun r => (gs P (sof x0) v1.toNat = false ∧ r = -2) ∨ (gs P (sof x0) v1.toNat = true ∧ 0 ≤ r ∧ ISG P g se h kn x0 v1.toNat r.toNat ∧ ∀ t, ISG P g se h kn x0 v1.toNat t → (t : Int) ≤ r)) (B := fun r => (gs P (sof x0) v1.toNat = false ∧ r = -2) ∨ (gs P (sof x0) v1.toNat = true ∧ 0 ≤ r ∧ ISG P g se h kn x0 v1.toNat r.toNat ∧ ∀ t, ISG P g se h kn x0 v1.toNat t → (t : Int) ≤ r)) hp hG hs hn hk (fun u hu _ hc => ?_) (fun y u ey hf hg' hr => ?_) (fun r r' hA hB => ?_)) (fun r _ q => pc_lw (fun y ey => ?_))
    · obtain ⟨u5, u6, u7⟩ := run_5 hu
      refine pc_call (eg_e (P := P) (s := sof x0) (by rw [u5, hw.2.2.2.2.1]; exact h0)) (fun r5 u6' z => ?_)
      rw [z.1, has_10 u z.2 (by omega), jc_s]
      cases hgx : gs P (sof x0) v1.toNat with
      | false => exact pc_ite (fun _ => pc_some (Or.inl ⟨rfl, rfl⟩)) (fun e => absurd rfl e)
      | true =>
        refine pc_ite (fun e => absurd e (by decide)) (fun _ => ?_)
        refine pc_call (clw_pc hc hP h0 (b10_1 (i := v1) (by omega)) b10_0) (fun r9 u10 z2 => ?_)
        have iff : ∀ t, WKT P g se h kn x0 (fun k => decide (k = v1.toNat)) (fun _ => false) t ↔ ISG P g se h kn x0 v1.toNat t := fun t => by
          constructor
          · rintro ⟨x, a1, ⟨_, a2⟩, _⟩
            exact ⟨x, a1, a2 v1.toNat (by omega) (decide_eq_true rfl)⟩
          · rintro ⟨x, a1, a2⟩
            refine ⟨x, a1, ⟨⟨v1.toNat, by omega, a2⟩, fun q hq hF => ?_⟩, fun q _ hF => by cases hF⟩
            rw [of_decide_eq_true hF]; exact a2
        have fin : ∀ r : Int, r = r9 → (true = false ∧ r = -2) ∨ (true = true ∧ 0 ≤ r ∧ ISG P g se h kn x0 v1.toNat r.toNat ∧ ∀ t, ISG P g se h kn x0 v1.toNat t → (t : Int) ≤ r) := fun r e => by
          rw [e]
          rcases z2.2 with ⟨_, e2⟩ | ⟨e1, e2, e3⟩
          · exact absurd ((iff 0).mpr ⟨x0, rfl, hgx⟩) (e2 0 (by decide))
          · refine Or.inr ⟨rfl, e1.1, (iff _).mp e2, fun t ht => e3 t ?_ ((iff t).mpr ht)⟩
            obtain ⟨x, b1, b2⟩ := ht
            have := wk_29 hP hg h0 b1 ⟨v1.toNat, by omega, b2⟩
            omega
        unfold f_E_stays_95
        refine pc_ite (fun _ => pc_call (pc1T _) (fun _ _ _ => pc_some (fin _ rfl))) (fun _ => pc_call (pc1T _) (fun _ _ _ => pc_call (pc1T _) (fun _ _ _ => pc_call (pc1T _) (fun _ _ _ => pc_some (fin _ rfl)))))
    · have u0 : u 43 0 = P := by rw [hf.2 0 (by decide) (by decide) (by decide)]; exact yy y ey
      have u47 : u 47 = a 47 := by rw [hf.1 47 (by decide) (by decide) (by decide) (by decide) (by decide) (by decide) (by decide), ey, st_row (by decide)]
      obtain ⟨X, hx⟩ := rli_x hP hr
      refine pc_gd (fun _ => ?_)
      rw [isG_e, jc_s, u47, c47 v1.toNat (by omega)]
      have egs : gs P (sof x0) v1.toNat = gst (sof x0 v1.toNat) := by
        unfold gs
        rw [show inP P v1.toNat = true from decide_eq_true (by omega)]; rfl
      rw [egs]
      cases hgx : gst (sof x0 v1.toNat) with
      | false => exact pc_ite (fun _ => pc_some (Or.inl ⟨rfl, rfl⟩)) (fun e => absurd rfl e)
      | true =>
        refine pc_ite (fun e => absurd e (by decide)) (fun _ => ?_)
        have b1 := b10_1 (i := v1) (by omega)
        have h1 := hr.1
        refine pc_call (flf_pc (ok := fun x => gs P (sof x) v1.toNat = true) hP u0 hr hx b1 (fun x => ?_) (fun x z n y hv hs' hox hn' hy => gsi_back hP hs' hox hn' hy) (fun x z hv hgu hs' => ls_gs hP hg hv hs' ⟨v1.toNat, by omega, hgu⟩)) (fun r8 u9 z => ?_)
        · constructor
          · intro e; exact ⟨v1.toNat, by omega, e, decide_eq_true rfl⟩
          · rintro ⟨q, _, a1, a2⟩
            rw [of_decide_eq_true a2] at a1; exact a1
        refine pc_gd (fun _ => pc_let (fun x10 e10 => pc_call (pc1T _) (fun _ u12 _ => ?_)))
        have lz := z.2 0 (by omega)
        rw [(xok_0 hP h0 hr hx (by omega)).mpr rfl] at lz
        have e10' : x10 = u9 71 0 := e10
        rw [← e10'] at lz
        have res : ∀ r : Int, r = x10 → (true = false ∧ r = -2) ∨ (true = true ∧ 0 ≤ r ∧ ISG P g se h kn x0 v1.toNat r.toNat ∧ ∀ t, ISG P g se h kn x0 v1.toNat t → (t : Int) ≤ r) := fun r e => by
          rw [e]
          rcases lz with ⟨a1, _⟩ | ⟨_, a2, a3, a4⟩
          · exact absurd (show gs P (sof x0) v1.toNat = true by rw [egs]; exact hgx) a1
          · exact Or.inr ⟨rfl, a2, a3, fun t ⟨x, b1, b2⟩ => a4 t x b1 b2⟩
        -- all that follows answers this
        have l236 : ∀ {v3 : Int} {v : Wd}, PC (f_R_stays_236 x10 v3 v) (fun r _ => r = x10) := fun {v3 v} => by
          unfold f_R_stays_236
          exact pc_lw (fun u15 _ => pc_call (pc1T _) (fun _ _ _ => pc_some rfl))
        have l127 : ∀ (m : Nat) {v3 v4 v5 : Int} {v : Wd}, PC (f_R_stays_127 m v1 x10 v3 v4 v5 v) (fun r _ => r = x10) := by
          intro m
          induction m with
          | zero => intros; exact pc_none
          | succ m ih =>
            intro v3 v4 v5 v
            rw [f_R_stays_127]
            have l181 : ∀ {v5 : Int} {v : Wd}, PC (f_R_stays_181 (f_R_stays_127 m) v1 x10 v5 v) (fun r _ => r = x10) := fun {v5 v} => by
              unfold f_R_stays_181 f_R_stays_199 f_R_stays_213 f_R_stays_229 f_R_stays_230
              refine pc_ite (fun _ => pc_ite (fun _ => ?_) (fun _ => ?_)) (fun _ => pc_ite (fun _ => ?_) (fun _ => ?_)) <;> exact pc_call (pc1T _) (fun _ _ _ => pc_ite (fun _ => pc_let (fun _ _ => ih)) (fun _ => pc_let (fun _ _ => ih)))
            unfold f_R_stays_230
            refine pc_ite (fun _ => l236) (fun _ => pc_ite (fun _ => pc_ite (fun _ => l181) (fun _ => pc_gd (fun _ => pc_call (pc1T _) (fun _ _ _ => pc_ite (fun _ => pc_let (fun _ _ => ih)) (fun _ => pc_gd (fun _ => pc_ite (fun _ => l181) (fun _ => pc_let (fun _ _ => ih)))))))) (fun _ => l236))
        have l61 : ∀ (m : Nat) {v3 : Int} {v : Wd}, PC (f_R_stays_61 m v1 x10 v3 v) (fun r _ => r = x10) := by
          intro m
          induction m with
          | zero => intros; exact pc_none
          | succ m ih =>
            intro v3 v
            rw [f_R_stays_61]
            unfold f_R_stays_117 f_R_stays_98 f_R_stays_99
            refine pc_ite (fun _ => pc_ite (fun _ => pc_call (pc1T _) (fun _ _ _ => l127 FU)) (fun _ => pc_call (pc1T _) (fun _ _ _ => l127 FU))) (fun _ => pc_call (pc1T _) (fun _ _ _ => ?_))
            refine pc_ite (fun _ => pc_gd (fun _ => pc_lw (fun _ _ => pc_let (fun _ _ => ih)))) (fun _ => pc_gd (fun _ => pc_ite (fun _ => pc_gd (fun _ => pc_lw (fun _ _ => pc_let (fun _ _ => ih)))) (fun _ => pc_gd (fun _ => pc_lw (fun _ _ => pc_let (fun _ _ => ih))))))
        exact pc_w (l61 FU) (fun r _ e => res r e)
    · rcases hA with ⟨a1, a2⟩ | ⟨a1, a2, a3, a4⟩
      · rcases hB with ⟨_, b2⟩ | ⟨b1, _⟩
        · omega
        · rw [a1] at b1; cases b1
      · rcases hB with ⟨b1, _⟩ | ⟨_, b2, b3, b4⟩
        · rw [a1] at b1; cases b1
        · have := b4 _ a3
          have := a4 _ b3
          omega
    · refine pc_call (io_pc v1 y (by rw [yy y ey]; exact hP)) (fun r2 u3 z => ?_)
      rw [z.1, z.2, yy y ey, show hd P v1 = 1 from if_pos ct]
      exact pc_ite (fun e => absurd e (by decide)) (fun _ => q y ey)
  · rw [if_neg ct]
    refine pc_ite (fun _ => pc_some (pc_lw (fun y ey => ?_))) (fun e => absurd rfl e)
    refine pc_call (io_pc v1 y (by rw [yy y ey]; exact hP)) (fun r2 u3 z => ?_)
    rw [z.2, yy y ey, show hd P v1 = 0 from if_neg ct]
    exact pc_ite (fun _ => pc_some rfl) (fun e => absurd rfl e)
