/-! FAR: the reference, and both -/
def KIN (P : Int) (kn : Nat → Int) (F H : Nat → Bool) (i : Nat) (L : Int) (u : Wd) : Prop := ∀ o : Nat, (o : Int) < P → (u 78 o = 1000000 ∧ kst P kn F H i L.toNat o = false) ∨ ∃ d : Nat, (d : Int) ≤ L ∧ u 78 o = (d : Int) ∧ kst P kn F H i d o = true ∧ ∀ d', d' < d → kst P kn F H i d' o = false
def KQX (kn : Nat → Int) (F H : Nat → Bool) (L : Int) (b : Wd) (x o : Nat) : Prop := b 78 x = L ∧ H x = false ∧ bt (kn x) o = true ∧ (F o = true ∨ H o = true)
def KQR (kn : Nat → Int) (F H : Nat → Bool) (L : Int) (b : Wd) (v4 v5 : Int) (o : Nat) : Prop := (∃ x : Nat, (x : Int) < v4 ∧ KQX kn F H L b x o) ∨ (KQX kn F H L b v4.toNat o ∧ (o : Int) < v5)
def KIM (P : Int) (kn : Nat → Int) (F H : Nat → Bool) (L : Int) (b : Wd) (v4 v5 : Int) (u : Wd) : Prop := ∀ o : Nat, (o : Int) < P → (b 78 o ≠ 1000000 → u 78 o = b 78 o) ∧ (b 78 o = 1000000 → (KQR kn F H L b v4 v5 o → u 78 o = L + 1) ∧ (¬ KQR kn F H L b v4 v5 o → u 78 o = 1000000))
theorem kim_w {P : Int} {kn : Nat → Int} {F H : Nat → Bool} {L : Int} {b : Wd} {v4 v5 v4' v5' : Int} {u : Wd} (h : KIM P kn F H L b v4 v5 u) (hR : ∀ o : Nat, (o : Int) < P → (KQR kn F H L b v4' v5' o ↔ KQR kn F H L b v4 v5 o)) : KIM P kn F H L b v4' v5' u := by
  intro o ho
  have := h o ho
  rw [hR o ho]
  exact this
theorem kin_s {P : Int} {kn : Nat → Int} {F H : Nat → Bool} {i : Nat} {L : Int} {b u : Wd} (hP : 0 ≤ P ∧ P ≤ 10) (hL : 0 ≤ L ∧ L < P) (hb : KIN P kn F H i L b) (hm : KIM P kn F H L b P 0 u) : KIN P kn F H i (L + 1) u := by
  intro o ho
  have hmo := hm o ho
  have eL : (L + 1).toNat = L.toNat + 1 := by omega
  rw [eL]
  rcases hb o ho with ⟨b1, b2⟩ | ⟨d, b1, b2, b3, b4⟩
  · have m := hmo.2 b1
    by_cases hR : KQR kn F H L b P 0 o
    · refine Or.inr ⟨L.toNat + 1, by omega, by rw [m.1 hR]; omega, ?_, fun d' hd' => ?_⟩
      · rcases hR with ⟨x, hx, x1, x2, x3, x4⟩ | ⟨_, c⟩
        · rcases hb x hx with ⟨y1, _⟩ | ⟨d, y1, y2, y3, _⟩
          · omega
          · have : d = L.toNat := by omega
            rw [this] at y3
            exact kst_s.mpr (Or.inr ⟨⟨x, by omega, ⟨y3, x2⟩, x3⟩, x4⟩)
        · omega
      · cases e : kst P kn F H i d' o with
        | false => rfl
        | true => rw [kst_m e (show d' ≤ L.toNat by omega)] at b2; cases b2
    · refine Or.inl ⟨m.2 hR, ?_⟩
      cases e : kst P kn F H i (L.toNat + 1) o with
      | false => rfl
      | true =>
        rcases kst_s.mp e with e2 | ⟨⟨x, hx, ⟨x1, x2⟩, x3⟩, x4⟩
        · rw [e2] at b2; cases b2
        · refine absurd (Or.inl ⟨x, by omega, ?_, x2, x3, x4⟩) hR
          rcases hb x (by omega) with ⟨_, y2⟩ | ⟨d, y1, y2, y3, _⟩
          · rw [x1] at y2; cases y2
          · by_cases c : (d : Int) = L
            · rw [y2]; exact c
            · have k1 : kst P kn F H i (d + 1) o = true := kst_s.mpr (Or.inr ⟨⟨x, hx, ⟨y3, x2⟩, x3⟩, x4⟩)
              rw [kst_m k1 (show d + 1 ≤ L.toNat by omega)] at b2
              cases b2
  · have m := hmo.1 (by rw [b2]; omega)
    exact Or.inr ⟨d, by omega, by rw [m]; exact b2, b3, b4⟩
theorem rfar_pc {P : Int} {w : Wd} {v1 : Int} (hP : 0 ≤ P ∧ P ≤ 10) (h0 : w 43 0 = P) (h45 : ∀ j : Nat, (j : Int) < P → 0 ≤ w 45 j ∧ w 45 j ≤ 1023) : PC (f_R_far v1 w) (fun r _ => (¬ (0 ≤ v1 ∧ v1 < P) ∧ r = -1) ∨ ((0 ≤ v1 ∧ v1 < P) ∧ ((gs P (w 47) v1.toNat = false ∧ fre P (w 47) (w 46) v1.toNat = false ∧ r = -2) ∨ ((gs P (w 47) v1.toNat = true ∨ fre P (w 47) (w 46) v1.toNat = true) ∧ FAQ P (w 45) (fre P (w 47) (w 46)) (gs P (w 47)) v1.toNat r)))) := by
  have pcT : ∀ o : Option (Int × Wd), PC o (fun _ _ => True) := fun _ _ _ _ => trivial
  unfold f_R_far
  refine pc_lw (fun y ey => ?_)
  have y0 : y 43 0 = P := by rw [ey, st_k (by decide)]; exact h0
  have yr : ∀ c, c ≠ 43 → y c = w c := fun c hc => by rw [ey, st_row hc]
  refine pc_call (io_pc v1 y (by rw [y0]; exact hP)) (fun r2 u3 z => ?_)
  rw [z.1, z.2, y0]
  by_cases cv : 0 ≤ v1 ∧ v1 < P
  · rw [show hd P v1 = 1 from if_pos cv, if_neg (by decide)]
    have v10 : 0 ≤ v1 ∧ v1 < 10 := by omega
    refine pc_call (rfree_e (w := y) (by rw [y0]; exact hP)) (fun r4 u5 q4 => pc_gd (fun _ => ?_))
    rw [q4.1, isG_e, jc_s, yr 47 (by decide)]
    have b4 := q4.2
    rw [y0, yr 47 (by decide), yr 46 (by decide)] at b4
    have gsv : ∀ o : Nat, (o : Int) < P → gs P (w 47) o = gst (w 47 o) := fun o ho => by
      unfold gs; rw [show inP P o = true from decide_eq_true ho]; rfl
    -- all that follows tells the way: the answer stands
    have l341 : ∀ (n : Nat) {v2 v3 v4 v5 : Int} {v : Wd}, PC (f_R_far_341 n v2 v3 v4 v5 v) (fun r _ => r = v3) := by
      intro n
      induction n with
      | zero => intros; exact pc_none
      | succ n ih =>
        intro v2 v3 v4 v5 v
        rw [f_R_far_341]
        refine pc_ite (fun _ => pc_some rfl) (fun _ => ?_)
        have l396 : ∀ (m : Nat) {v6 v7 : Int} {v : Wd}, PC (f_R_far_396 (f_R_far_341 n) m v2 v3 v5 v6 v7 v) (fun r _ => r = v3) := by
          intro m
          induction m with
          | zero => intros; exact pc_none
          | succ m ihm =>
            intro v6 v7 v
            rw [f_R_far_396]
            unfold f_R_far_427
            exact pc_call (pcT _) (fun _ _ _ => pc_ite (fun _ => pc_let (fun _ _ => ihm)) (fun _ => pc_gd (fun _ => pc_ite (fun _ => pc_call (pcT _) (fun _ _ _ => pc_ite (fun _ => pc_let (fun _ _ => ihm)) (fun _ => pc_call (pcT _) (fun _ _ _ => pc_let (fun _ _ => pc_let (fun _ _ => ih)))))) (fun _ => pc_let (fun _ _ => ihm)))))
        have l352 : ∀ (m : Nat) {v6 v7 : Int} {v : Wd}, PC (f_R_far_352 (f_R_far_341 n) m v2 v3 v4 v5 v6 v7 v) (fun r _ => r = v3) := by
          intro m
          induction m with
          | zero => intros; exact pc_none
          | succ m ihm =>
            intro v6 v7 v
            rw [f_R_far_352]
            unfold f_R_far_384
            exact pc_ite (fun _ => l396 FU) (fun _ => pc_call (pcT _) (fun _ _ _ => pc_ite (fun _ => pc_let (fun _ _ => pc_let (fun _ _ => ihm))) (fun _ => pc_gd (fun _ => pc_let (fun _ _ => pc_let (fun _ _ => ihm))))))
        exact l352 FU
    have l284 : ∀ (n : Nat) {v2 v3 v4 v5 : Int} {v : Wd}, PC (f_R_far_284 n v2 v3 v4 v5 v) (fun r _ => r = v3) := by
      intro n
      induction n with
      | zero => intros; exact pc_none
      | succ n ih =>
        intro v2 v3 v4 v5 v
        rw [f_R_far_284]
        unfold f_R_far_326 f_R_far_327
        exact pc_ite (fun _ => pc_let (fun _ _ => l341 FU)) (fun _ => pc_gd (fun _ => pc_call (pcT _) (fun _ _ _ => pc_ite (fun _ => pc_let (fun _ _ => pc_let (fun _ _ => ih))) (fun _ => pc_gd (fun _ => pc_ite (fun _ => pc_let (fun _ _ => pc_let (fun _ _ => ih))) (fun _ => pc_let (fun _ _ => pc_let (fun _ _ => ih))))))))
    -- the nearest GUEST
    have l223 : ∀ (n : Nat) {v3 v4 : Int} {u : Wd}, 0 ≤ v4 → v4 ≤ P → (∀ c, c ≠ 78 → u c = y c) → KIN P (w 45) (fre P (w 47) (w 46)) (gs P (w 47)) v1.toNat P u → ((0 ≤ v3 ∧ v3 ≤ 1000000) ∧ (∀ q : Nat, (q : Int) < v4 → gs P (w 47) q = true → v3 ≤ u 78 q) ∧ (v3 = 1000000 ∨ ∃ q : Nat, (q : Int) < v4 ∧ gs P (w 47) q = true ∧ u 78 q = v3)) → PC (f_R_far_223 n r4 v3 v4 u) (fun r _ => FAQ P (w 45) (fre P (w 47) (w 46)) (gs P (w 47)) v1.toNat r) := by
      intro n
      induction n with
      | zero => intros; exact pc_none
      | succ n ih =>
        intro v3 v4 u i4 i4' hu hI hM
        obtain ⟨m1, m2, m3⟩ := hM
        rw [f_R_far_223, hu 43 (by decide), y0]
        unfold f_R_far_257
        refine pc_ite (fun c => ?_) (fun c => pc_gd (fun _ => ?_))
        · have e4 : v4 = P := by omega
          have pT : (P.toNat : Int) = P := by omega
          refine pc_ite (fun c3 => pc_some (Or.inl ⟨rfl, fun d hd hT => ?_⟩)) (fun c3 => pc_lw (fun u8 _ => pc_w (l284 FU) (fun r _ e => ?_)))
          · obtain ⟨q, q1, q2, q3⟩ := hT
            have := m2 q (by omega) q2
            rcases hI q q1 with ⟨_, e⟩ | ⟨d', e1, e2, _⟩
            · rw [kst_m q3 (show d ≤ P.toNat by omega)] at e; cases e
            · omega
          · rw [e]
            rcases m3 with e3 | ⟨q, q1, q2, q3⟩
            · exact absurd e3 c3
            · rcases hI q (by omega) with ⟨e1, _⟩ | ⟨d, e1, e2, e3', e4'⟩
              · omega
              · refine Or.inr ⟨by omega, ⟨q, by omega, q2, by rw [show v3.toNat = d by omega]; exact e3'⟩, fun d' hd' hT => ?_⟩
                obtain ⟨p, p1, p2, p3⟩ := hT
                have a1 := m2 p (by omega) p2
                rcases hI p p1 with ⟨_, e⟩ | ⟨d2, f1, f2, _, f4⟩
                · rw [kst_m p3 (show d' ≤ P.toNat by omega)] at e; cases e
                · by_cases c2 : d' < d2
                  · rw [f4 d' c2] at p3; cases p3
                  · omega
        · rw [isG_e, jc_s, hu 47 (by decide), yr 47 (by decide), ← gsv v4.toNat (by omega)]
          have w4 : w32 (v4 + 1) = v4 + 1 := w32_id (by omega)
          rw [w4]
          by_cases cg : gs P (w 47) v4.toNat = true
          · rw [if_pos cg]
            refine pc_ite (fun e => absurd e (by decide)) (fun _ => pc_gd (fun _ => pc_let (fun x30 e30 => pc_let (fun x29 e29 => ?_))))
            rw [e29]
            have u78 : 0 ≤ u 78 v4.toNat ∧ u 78 v4.toNat ≤ 1000000 := by
              rcases hI v4.toNat (by omega) with ⟨e1, _⟩ | ⟨d, e1, e2, _⟩ <;> omega
            have im := imin_sp v3 (u 78 v4.toNat)
            refine ih (by omega) (by omega) hu hI ⟨?_, fun q hq hg => ?_, ?_⟩
            · rcases im with ⟨_, e⟩ | ⟨_, e⟩ <;> rw [e30, e] <;> omega
            · by_cases cq : (q : Int) < v4
              · have := m2 q cq hg
                rcases im with ⟨_, e⟩ | ⟨_, e⟩ <;> rw [e30, e] <;> omega
              · rw [show q = v4.toNat by omega]
                rcases im with ⟨_, e⟩ | ⟨_, e⟩ <;> rw [e30, e] <;> omega
            · rcases im with ⟨_, e⟩ | ⟨_, e⟩
              · exact Or.inr ⟨v4.toNat, by omega, cg, by rw [e30, e]⟩
              · rw [e30, e]
                rcases m3 with e3 | ⟨q, q1, q2, q3⟩
                · exact Or.inl e3
                · exact Or.inr ⟨q, by omega, q2, q3⟩
          · rw [if_neg cg]
            refine pc_ite (fun _ => pc_let (fun x29 e29 => ?_)) (fun e => absurd rfl e)
            rw [e29]
            refine ih (by omega) (by omega) hu hI ⟨m1, fun q hq hg => ?_, ?_⟩
            · by_cases cq : (q : Int) < v4
              · exact m2 q cq hg
              · rw [show q = v4.toNat by omega] at hg; exact absurd hg cg
            · rcases m3 with e3 | ⟨q, q1, q2, q3⟩
              · exact Or.inl e3
              · exact Or.inr ⟨q, by omega, q2, q3⟩
    -- one step after the other
    have l79 : ∀ (n : Nat) {L : Int} {b : Wd}, 0 ≤ L → L ≤ P → (∀ c, c ≠ 78 → b c = y c) → KIN P (w 45) (fre P (w 47) (w 46)) (gs P (w 47)) v1.toNat L b → PC (f_R_far_79 n r4 L b) (fun r _ => FAQ P (w 45) (fre P (w 47) (w 46)) (gs P (w 47)) v1.toNat r) := by
      intro n
      induction n with
      | zero => intros; exact pc_none
      | succ n ih =>
        intro L b iL iL' hbu hI
        rw [f_R_far_79, hbu 43 (by decide), y0]
        refine pc_ite (fun c => ?_) (fun c => ?_)
        · rw [show L = P by omega] at hI
          exact l223 FU (by decide) hP.1 hbu hI ⟨by decide, fun q hq => by omega, Or.inl rfl⟩
        · have l90 : ∀ (m : Nat) {v4 : Int} {u : Wd}, 0 ≤ v4 → v4 ≤ P → (∀ c, c ≠ 78 → u c = y c) → KIM P (w 45) (fre P (w 47) (w 46)) (gs P (w 47)) L b v4 0 u → PC (f_R_far_90 (f_R_far_79 n) m r4 L v4 u) (fun r _ => FAQ P (w 45) (fre P (w 47) (w 46)) (gs P (w 47)) v1.toNat r) := by
            intro m
            induction m with
            | zero => intros; exact pc_none
            | succ m ihm =>
              intro v4 u i4 i4' hu hM
              rw [f_R_far_90, hu 43 (by decide), y0]
              have w4 : w32 (v4 + 1) = v4 + 1 := w32_id (by omega)
              -- on to the next
              have nx : ∀ {v5 : Int} {u : Wd}, v4 < P → (∀ c, c ≠ 78 → u c = y c) → KIM P (w 45) (fre P (w 47) (w 46)) (gs P (w 47)) L b v4 v5 u → (∀ o : Nat, (o : Int) < P → KQX (w 45) (fre P (w 47) (w 46)) (gs P (w 47)) L b v4.toNat o → (o : Int) < v5) → PC (f_R_far_204 (f_R_far_79 n) (f_R_far_90 (f_R_far_79 n) m) r4 L v4 u) (fun r _ => FAQ P (w 45) (fre P (w 47) (w 46)) (gs P (w 47)) v1.toNat r) := fun {v5 u} h4 hu hM hq => by
                unfold f_R_far_204
                rw [w4]
                refine pc_let (fun x32 e32 => ?_)
                rw [e32]
                refine ihm (by omega) (by omega) hu (kim_w hM (fun o ho => ?_))
                constructor
                · rintro (⟨x, hx, hh⟩ | ⟨_, c⟩)
                  · by_cases cx : (x : Int) < v4
                    · exact Or.inl ⟨x, cx, hh⟩
                    · rw [show x = v4.toNat by omega] at hh
                      exact Or.inr ⟨hh, hq o ho hh⟩
                  · omega
                · rintro (⟨x, hx, hh⟩ | ⟨hh, _⟩)
                  · exact Or.inl ⟨x, by omega, hh⟩
                  · exact Or.inl ⟨v4.toNat, by omega, hh⟩
              refine pc_ite (fun c4 => pc_let (fun x31 e31 => ?_)) (fun c4 => pc_gd (fun _ => ?_))
              · rw [w32_id (by omega)] at e31
                rw [e31]
                rw [show v4 = P by omega] at hM
                exact ih (by omega) (by omega) hu (kin_s hP ⟨iL, by omega⟩ hI hM)
              · -- its own number: as at the step's beginning
                have own : u 78 v4.toNat = L ↔ b 78 v4.toNat = L := by
                  have hm := hM v4.toNat (by omega)
                  by_cases cb : b 78 v4.toNat = 1000000
                  · have := hm.2 cb
                    by_cases hR : KQR (w 45) (fre P (w 47) (w 46)) (gs P (w 47)) L b v4 0 v4.toNat
                    · have := this.1 hR; omega
                    · have := this.2 hR; omega
                  · rw [hm.1 cb]
                refine pc_ite (fun cL => pc_gd (fun _ => ?_)) (fun cL => nx (by omega) hu hM (fun o _ hh => absurd (own.mpr hh.1) cL))
                rw [isG_e, jc_s, hu 47 (by decide), yr 47 (by decide), ← gsv v4.toNat (by omega)]
                by_cases cg : gs P (w 47) v4.toNat = true
                · rw [if_pos cg]
                  exact pc_ite (fun e => absurd e (by decide)) (fun _ => nx (by omega) hu hM (fun o _ hh => by have h2 := hh.2.1; rw [cg] at h2; cases h2))
                · rw [if_neg cg]
                  have cg2 : gs P (w 47) v4.toNat = false := by
                    cases e : gs P (w 47) v4.toNat with
                    | false => rfl
                    | true => exact absurd e cg
                  refine pc_ite (fun _ => ?_) (fun e => absurd rfl e)
                  have bL := own.mp cL
                  have l129 : ∀ (k : Nat) {v5 : Int} {u : Wd}, 0 ≤ v5 → v5 ≤ P → (∀ c, c ≠ 78 → u c = y c) → KIM P (w 45) (fre P (w 47) (w 46)) (gs P (w 47)) L b v4 v5 u → PC (f_R_far_129 (f_R_far_79 n) (f_R_far_90 (f_R_far_79 n) m) k r4 L v4 v5 u) (fun r _ => FAQ P (w 45) (fre P (w 47) (w 46)) (gs P (w 47)) v1.toNat r) := by
                    intro k
                    induction k with
                    | zero => intros; exact pc_none
                    | succ k ihk =>
                      intro v5 u i5 i5' hu hM
                      rw [f_R_far_129, hu 43 (by decide), y0]
                      have w5 : w32 (v5 + 1) = v5 + 1 := w32_id (by omega)
                      refine pc_ite (fun c5 => nx (by omega) hu hM (fun o ho _ => by omega)) (fun c5 => pc_gd (fun _ => ?_))
                      -- nothing is written
                      have no : (KQX (w 45) (fre P (w 47) (w 46)) (gs P (w 47)) L b v4.toNat v5.toNat → u 78 v5.toNat ≠ 1000000) → PC (f_R_far_198 (f_R_far_79 n) (f_R_far_90 (f_R_far_79 n) m) (f_R_far_129 (f_R_far_79 n) (f_R_far_90 (f_R_far_79 n) m) k) r4 L v4 v5 u) (fun r _ => FAQ P (w 45) (fre P (w 47) (w 46)) (gs P (w 47)) v1.toNat r) := fun hne => by
                        unfold f_R_far_198
                        rw [w5]
                        refine pc_let (fun x37 e37 => ?_)
                        rw [e37]
                        refine ihk (by omega) (by omega) hu (fun o ho => ⟨(hM o ho).1, fun hb => ?_⟩)
                        have hm := (hM o ho).2 hb
                        refine ⟨fun hR => ?_, fun hR => hm.2 (fun hR0 => hR ?_)⟩
                        · by_cases hR0 : KQR (w 45) (fre P (w 47) (w 46)) (gs P (w 47)) L b v4 v5 o
                          · exact hm.1 hR0
                          · rcases hR with hx | ⟨hh, hlt⟩
                            · exact absurd (Or.inl hx) hR0
                            · by_cases co : (o : Int) < v5
                              · exact absurd (Or.inr ⟨hh, co⟩) hR0
                              · have eo : o = v5.toNat := by omega
                                rw [eo] at hh hm hR0
                                exact absurd (hm.2 hR0) (hne hh)
                        · rcases hR0 with hx | ⟨hh, hlt⟩
                          · exact Or.inl hx
                          · exact Or.inr ⟨hh, by omega⟩
                      -- it is written
                      have yes : KQX (w 45) (fre P (w 47) (w 46)) (gs P (w 47)) L b v4.toNat v5.toNat → u 78 v5.toNat = 1000000 → PC (f_R_far_188 (f_R_far_79 n) (f_R_far_90 (f_R_far_79 n) m) (f_R_far_129 (f_R_far_79 n) (f_R_far_90 (f_R_far_79 n) m) k) r4 L v4 v5 u) (fun r _ => FAQ P (w 45) (fre P (w 47) (w 46)) (gs P (w 47)) v1.toNat r) := fun hq h78 => by
                        unfold f_R_far_188 f_R_far_198
                        rw [w5, w32_id (show -2147483648 ≤ L + 1 ∧ L + 1 ≤ 2147483647 by omega)]
                        refine pc_gd (fun _ => pc_lw (fun u40 e40 => pc_let (fun x37 e37 => ?_)))
                        rw [e37]
                        refine ihk (by omega) (by omega) (fun c hc => by rw [e40, st_row hc, hu c hc]) (fun o ho => ?_)
                        by_cases co : o = v5.toNat
                        · have e78 : u40 78 o = L + 1 := by rw [e40, co, st_eq]
                          have hm := hM o ho
                          rw [co] at hm
                          have hb : b 78 v5.toNat = 1000000 := Classical.byContradiction fun hh => by
                            have := hm.1 hh
                            rw [h78] at this
                            exact hh this.symm
                          rw [co] at e78 ⊢
                          refine ⟨fun hh => absurd hb hh, fun _ => ⟨fun _ => e78, fun hR => absurd (Or.inr ⟨hq, by omega⟩) hR⟩⟩
                        · have e78 : u40 78 o = u 78 o := by rw [e40, st_k co]
                          rw [e78]
                          have hm := hM o ho
                          refine ⟨hm.1, fun hb => ⟨fun hR => (hm.2 hb).1 ?_, fun hR => (hm.2 hb).2 (fun hR0 => hR ?_)⟩⟩
                          · rcases hR with hx | ⟨hh, hlt⟩
                            · exact Or.inl hx
                            · exact Or.inr ⟨hh, by omega⟩
                          · rcases hR0 with hx | ⟨hh, hlt⟩
                            · exact Or.inl hx
                            · exact Or.inr ⟨hh, by omega⟩
                      rw [hu 45 (by decide), yr 45 (by decide), hasR_10 u (b10_self (h45 v4.toNat (by omega))) (by omega), jc_s]
                      by_cases cb : bt (w 45 v4.toNat) v5.toNat = true
                      · rw [if_pos cb]
                        refine pc_ite (fun e => absurd e (by decide)) (fun _ => pc_gd (fun _ => pc_ite (fun c78 => ?_) (fun c78 => no (fun _ => c78))))
                        rw [hasR_10 u b4 (by omega), jc_s]
                        by_cases cf : fre P (w 47) (w 46) v5.toNat = true
                        · rw [if_pos cf]
                          exact pc_ite (fun e => absurd e (by decide)) (fun _ => yes ⟨bL, cg2, cb, Or.inl cf⟩ c78)
                        · rw [if_neg cf]
                          refine pc_ite (fun _ => pc_gd (fun _ => ?_)) (fun e => absurd rfl e)
                          rw [isG_e, jc_s, hu 47 (by decide), yr 47 (by decide), ← gsv v5.toNat (by omega)]
                          by_cases cgo : gs P (w 47) v5.toNat = true
                          · rw [if_pos cgo]
                            exact pc_ite (fun e => absurd e (by decide)) (fun _ => yes ⟨bL, cg2, cb, Or.inr cgo⟩ c78)
                          · rw [if_neg cgo]
                            refine pc_ite (fun _ => no (fun hh => ?_)) (fun e => absurd rfl e)
                            rcases hh.2.2.2 with e | e
                            · exact absurd e cf
                            · exact absurd e cgo
                      · rw [if_neg cb]
                        exact pc_ite (fun _ => no (fun hh => absurd hh.2.2.1 cb)) (fun e => absurd rfl e)
                  exact l129 FU (by decide) hP.1 hu hM
          refine l90 FU (by decide) hP.1 hbu (fun o ho => ⟨fun _ => rfl, fun hb => ⟨fun hR => ?_, fun _ => hb⟩⟩)
          rcases hR with ⟨x, hx, _⟩ | ⟨_, c⟩
          · omega
          · omega
    -- the beginning
    have l45 : ∀ (n : Nat) {v3 : Int} {u : Wd}, 0 ≤ v3 → v3 ≤ P → (∀ c, c ≠ 78 → u c = y c) → (∀ o : Nat, (o : Int) < v3 → u 78 o = if o = v1.toNat then 0 else 1000000) → PC (f_R_far_45 n v1 r4 v3 u) (fun r _ => FAQ P (w 45) (fre P (w 47) (w 46)) (gs P (w 47)) v1.toNat r) := by
      intro n
      induction n with
      | zero => intros; exact pc_none
      | succ n ih =>
        intro v3 u i3 i3' hu hM
        rw [f_R_far_45, hu 43 (by decide), y0]
        unfold f_R_far_70
        refine pc_ite (fun c => ?_) (fun c => ?_)
        · refine l79 FU (by decide) hP.1 hu (fun o ho => ?_)
          have := hM o (by omega)
          by_cases co : o = v1.toNat
          · rw [if_pos co] at this
            exact Or.inr ⟨0, by decide, this, decide_eq_true co, fun d' hd' => by omega⟩
          · rw [if_neg co] at this
            exact Or.inl ⟨this, decide_eq_false co⟩
        · have w3 : w32 (v3 + 1) = v3 + 1 := w32_id (by omega)
          rw [w3]
          have go : ∀ {z : Int}, z = (if v3.toNat = v1.toNat then 0 else 1000000) → PC (jgd ((0 : Int) ≤ v3 ∧ v3 < 10) <| jlw (st u 78 v3.toNat z) fun u43 => jlet (v3 + 1) fun x44 => f_R_far_45 n v1 r4 x44 u43) (fun r _ => FAQ P (w 45) (fre P (w 47) (w 46)) (gs P (w 47)) v1.toNat r) := fun {z} hz => by
            refine pc_gd (fun _ => pc_lw (fun u43 e43 => pc_let (fun x44 e44 => ?_)))
            rw [e44]
            refine ih (by omega) (by omega) (fun c hc => by rw [e43, st_row hc, hu c hc]) (fun o ho => ?_)
            by_cases co : o = v3.toNat
            · rw [e43, co, st_eq, hz]
            · rw [e43, st_k co]; exact hM o (by omega)
          refine pc_ite (fun c3 => go (by rw [if_pos (by omega)])) (fun c3 => go (by rw [if_neg (by omega)]))
    have done : PC (f_R_far_43 v1 r4 y) (fun r _ => FAQ P (w 45) (fre P (w 47) (w 46)) (gs P (w 47)) v1.toNat r) := by
      unfold f_R_far_43
      exact l45 FU (by decide) hP.1 (fun _ _ => rfl) (fun o ho => by omega)
    rw [← gsv v1.toNat (by omega)]
    by_cases cg : gs P (w 47) v1.toNat = true
    · rw [if_pos cg]
      exact pc_ite (fun e => absurd e (by decide)) (fun _ => pc_w done (fun r _ q => Or.inr ⟨cv, Or.inr ⟨Or.inl cg, q⟩⟩))
    · rw [if_neg cg]
      have cg2 : gs P (w 47) v1.toNat = false := by
        cases e : gs P (w 47) v1.toNat with
        | false => rfl
        | true => exact absurd e cg
      refine pc_ite (fun _ => ?_) (fun e => absurd rfl e)
      rw [hasR_10 y b4 v10, jc_s]
      by_cases cf : fre P (w 47) (w 46) v1.toNat = true
      · rw [if_pos cf]
        exact pc_ite (fun e => absurd e (by decide)) (fun _ => pc_w done (fun r _ q => Or.inr ⟨cv, Or.inr ⟨Or.inr cf, q⟩⟩))
      · rw [if_neg cf]
        have cf2 : fre P (w 47) (w 46) v1.toNat = false := by
          cases e : fre P (w 47) (w 46) v1.toNat with
          | false => rfl
          | true => exact absurd e cf
        exact pc_ite (fun _ => pc_some (Or.inr ⟨cv, Or.inl ⟨cg2, cf2, rfl⟩⟩)) (fun e => absurd rfl e)
  · rw [show hd P v1 = 0 from if_neg cv, if_pos rfl]
    exact pc_some (Or.inl ⟨cv, rfl⟩)
theorem er_far {a w : Wd} {v1 : Int} (h : ER a w) (hk : Ks a) : PC (f_E_far v1 w) (fun r _ => PC (f_R_far v1 a) (fun r' _ => r = r')) := by
  have x0 : 0 ≤ a 43 0 ∧ a 43 0 ≤ 10 := h.2.2.1
  have x3 : w 5 3 = a 43 0 := h.1.1.2.1
  have xp : ∀ j : Nat, (j : Int) < a 43 0 → w 6 j = a 44 j ∧ w 7 j = a 45 j ∧ w 8 j = a 48 j := h.1.2.1
  have xh : B10 (w 5 5) (hB (a 43 0) (a 46)) := h.1.2.2.1
  have xw : WH (w 5 4) (a 47) (a 43 0) := h.1.2.2.2.1
  have x45 : ∀ j : Nat, (j : Int) < a 43 0 → 0 ≤ a 45 j ∧ a 45 j ≤ 1023 := h.2.2.2.2.2.1
  refine pc_w (efar_pc (kn := a 45) x0 xw x3 xh (fun j hj => ⟨(xp j hj).2.1, x45 j hj⟩) hk) (fun r _ e => ?_)
  refine pc_w (rfar_pc x0 rfl x45) (fun r' _ e' => ?_)
  rcases e with ⟨c, e⟩ | ⟨c, e⟩
  · rcases e' with ⟨_, e'⟩ | ⟨c', _⟩
    · rw [e, e']
    · exact absurd c' c
  · rcases e' with ⟨c', _⟩ | ⟨_, e'⟩
    · exact absurd c c'
    · rcases e with ⟨g1, g2, e⟩ | ⟨g, e⟩
      · rcases e' with ⟨_, _, e'⟩ | ⟨g', _⟩
        · rw [e, e']
        · rcases g' with g' | g'
          · rw [g1] at g'; cases g'
          · rw [g2] at g'; cases g'
      · rcases e' with ⟨g1, g2, _⟩ | ⟨_, e'⟩
        · rcases g with g | g
          · rw [g1] at g; cases g
          · rw [g2] at g; cases g
        · exact faq_one e e'
