/-! FAR: steps of KNOWING, by both -/
def kst (P : Int) (kn : Nat → Int) (F H : Nat → Bool) (i : Nat) : Nat → Nat → Bool
  | 0, o => decide (o = i)
  | d + 1, o => kst P kn F H i d o || (kbn kn (fun x => kst P kn F H i d x && !H x) P.toNat o && (F o || H o))
theorem kst_m {P : Int} {kn : Nat → Int} {F H : Nat → Bool} {i d e o : Nat} (h : kst P kn F H i d o = true) (hd : d ≤ e) : kst P kn F H i e o = true := by
  induction e with
  | zero => rw [show d = 0 by omega] at h; exact h
  | succ e ih =>
    by_cases c : d = e + 1
    · rw [← c]; exact h
    · rw [kst, ih (by omega)]; rfl
theorem kst_s {P : Int} {kn : Nat → Int} {F H : Nat → Bool} {i d o : Nat} : kst P kn F H i (d + 1) o = true ↔ kst P kn F H i d o = true ∨ (∃ x, x < P.toNat ∧ (kst P kn F H i d x = true ∧ H x = false) ∧ bt (kn x) o = true) ∧ (F o = true ∨ H o = true) := by
  rw [kst, Bool.or_eq_true, Bool.and_eq_true, Bool.or_eq_true, kbn_t]
  have hb : ∀ x, (kst P kn F H i d x && !H x) = true ↔ (kst P kn F H i d x = true ∧ H x = false) := fun x => by
    cases kst P kn F H i d x <;> cases H x <;> simp
  constructor
  · rintro (a | ⟨⟨x, hx, a, b⟩, c⟩)
    · exact Or.inl a
    · exact Or.inr ⟨⟨x, hx, (hb x).mp a, b⟩, c⟩
  · rintro (a | ⟨⟨x, hx, a, b⟩, c⟩)
    · exact Or.inl a
    · exact Or.inr ⟨⟨x, hx, (hb x).mpr a, b⟩, c⟩
def FTD (P : Int) (kn : Nat → Int) (F H : Nat → Bool) (i d : Nat) : Prop := ∃ q : Nat, (q : Int) < P ∧ H q = true ∧ kst P kn F H i d q = true
def FAQ (P : Int) (kn : Nat → Int) (F H : Nat → Bool) (i : Nat) (r : Int) : Prop := (r = -2 ∧ ∀ d : Nat, (d : Int) ≤ P → ¬ FTD P kn F H i d) ∨ ((0 ≤ r ∧ r ≤ P) ∧ FTD P kn F H i r.toNat ∧ ∀ d : Nat, (d : Int) < r → ¬ FTD P kn F H i d)
theorem faq_one {P : Int} {kn : Nat → Int} {F H : Nat → Bool} {i : Nat} {r r' : Int} (a : FAQ P kn F H i r) (b : FAQ P kn F H i r') : r = r' := by
  rcases a with ⟨a1, a2⟩ | ⟨a1, a2, a3⟩
  · rcases b with ⟨b1, _⟩ | ⟨b1, b2, _⟩
    · omega
    · exact absurd b2 (a2 _ (by omega))
  · rcases b with ⟨_, b2⟩ | ⟨b1, b2, b3⟩
    · exact absurd a2 (b2 _ (by omega))
    · rcases Int.lt_trichotomy r r' with c | c | c
      · exact absurd a2 (b3 _ (by omega))
      · exact c
      · exact absurd b2 (a3 _ (by omega))
/-- the class: who is within so many steps -/
def wthn (P : Int) (kn : Nat → Int) (F H : Nat → Bool) (i d o : Nat) : Bool := kst P kn F H i d o && !H o
theorem win_pc {P : Int} {s h kn : Nat → Int} {w : Wd} {v1 k : Int} (hP : 0 ≤ P ∧ P ≤ 10) (hW : WH (w 5 4) s P) (h3 : w 5 3 = P) (h5 : B10 (w 5 5) (hB P h)) (hkn : ∀ j : Nat, (j : Int) < P → w 7 j = kn j ∧ 0 ≤ kn j ∧ kn j ≤ 1023) (hv : 0 ≤ v1 ∧ v1 < P) (hf : fre P s h v1.toNat = true) (hk : 0 ≤ k ∧ k ≤ 20) : PC (f_F_within v1 k w) (fun r u => u = w ∧ B10 r (wthn P kn (fre P s h) (gs P s) v1.toNat k.toNat)) := by
  have nofg : ∀ o, o < 10 → fre P s h o = true → gs P s o = false := fun o ho e => by
    cases c : gs P s o with
    | false => rfl
    | true => rw [gs_fre (h := h) o ho c] at e; cases e
  have l12 : ∀ (n : Nat) {v3 v4 : Int}, 0 ≤ v4 → v4 ≤ k → B10 v3 (wthn P kn (fre P s h) (gs P s) v1.toNat v4.toNat) → PC (f_F_within_12 n k v3 v4 w) (fun r u => u = w ∧ B10 r (wthn P kn (fre P s h) (gs P s) v1.toNat k.toNat)) := by
    intro n
    induction n with
    | zero => intros; exact pc_none
    | succ n ih =>
      intro v3 v4 i4 i4' hB3
      rw [f_F_within_12]
      refine pc_ite (fun c => pc_some ⟨rfl, by rw [show k = v4 by omega]; exact hB3⟩) (fun c => ?_)
      refine pc_call (knb_e (w := w) (x := v3) (f := wthn P kn (fre P s h) (gs P s) v1.toNat v4.toNat) (by rw [h3]; exact hP) hB3.2 (fun j hj => by rw [h3] at hj; rw [(hkn j hj).1]; exact (hkn j hj).2)) (fun r4 u5 q => ?_)
      rw [q.1]
      have q2 := q.2
      rw [h3] at q2
      refine pc_call (ef_e hW hP h3 h5) (fun r6 u7 z => pc_let (fun x8 e8 => pc_let (fun x9 e9 => ?_)))
      rw [w32_id (by omega)] at e9
      rw [z.1, e8, e9]
      refine ih (by omega) (by omega) (b10_w (b10_or hB3 (b10_and q2 z.2.2)) (fun o ho => ?_))
      rw [show (v4 + 1).toNat = v4.toNat + 1 by omega]
      show (wthn P kn (fre P s h) (gs P s) v1.toNat v4.toNat o || (kbn (w 7) (wthn P kn (fre P s h) (gs P s) v1.toNat v4.toNat) P.toNat o && fre P s h o)) = ((kst P kn (fre P s h) (gs P s) v1.toNat v4.toNat o || (kbn kn (fun x => kst P kn (fre P s h) (gs P s) v1.toNat v4.toNat x && !gs P s x) P.toNat o && (fre P s h o || gs P s o))) && !gs P s o)
      rw [kbn_w (kn' := kn) (fun i hi => (hkn i (by omega)).1)]
      show ((kst P kn (fre P s h) (gs P s) v1.toNat v4.toNat o && !gs P s o) || (kbn kn (fun x => kst P kn (fre P s h) (gs P s) v1.toNat v4.toNat x && !gs P s x) P.toNat o && fre P s h o)) = _
      have nf := nofg o ho
      cases a : kst P kn (fre P s h) (gs P s) v1.toNat v4.toNat o <;> cases b : kbn kn (fun x => kst P kn (fre P s h) (gs P s) v1.toNat v4.toNat x && !gs P s x) P.toNat o <;> cases c1 : fre P s h o <;> cases c2 : gs P s o <;> simp [c1, c2] at nf ⊢
  unfold f_F_within
  refine pc_call (ef_e hW hP h3 h5) (fun r1 u2 z => pc_let (fun x3 e3 => ?_))
  rw [z.1, e3]
  refine l12 FU (by decide) hk.1 (b10_w (b10_and (b10_1 (i := v1) (by omega)) z.2.2) (fun o ho => ?_))
  show (decide (o = v1.toNat) && fre P s h o) = (decide (o = v1.toNat) && !gs P s o)
  by_cases c : o = v1.toNat
  · rw [c, hf, nofg v1.toNat (by omega) hf]; rfl
  · rw [decide_eq_false c]; rfl
theorem efar_pc {P : Int} {s h kn : Nat → Int} {w : Wd} {v1 : Int} (hP : 0 ≤ P ∧ P ≤ 10) (hW : WH (w 5 4) s P) (h3 : w 5 3 = P) (h5 : B10 (w 5 5) (hB P h)) (hkn : ∀ j : Nat, (j : Int) < P → w 7 j = kn j ∧ 0 ≤ kn j ∧ kn j ≤ 1023) (hsy : ∀ i j : Nat, (i : Int) < P → (j : Int) < P → bt (kn i) j = bt (kn j) i) : PC (f_E_far v1 w) (fun r _ => (¬ (0 ≤ v1 ∧ v1 < P) ∧ r = -1) ∨ ((0 ≤ v1 ∧ v1 < P) ∧ ((gs P s v1.toNat = false ∧ fre P s h v1.toNat = false ∧ r = -2) ∨ ((gs P s v1.toNat = true ∨ fre P s h v1.toNat = true) ∧ FAQ P kn (fre P s h) (gs P s) v1.toNat r)))) := by
  have pcT : ∀ o : Option (Int × Wd), PC o (fun _ _ => True) := fun _ _ _ _ => trivial
  unfold f_E_far
  refine pc_call (it_pc v1 w) (fun r1 u2 z => ?_)
  rw [z.1, z.2, h3]
  by_cases cv : 0 ≤ v1 ∧ v1 < P
  · rw [show hd P v1 = 1 from if_pos cv, if_neg (by decide)]
    have v10 : 0 ≤ v1 ∧ v1 < 10 := by omega
    have ev : ((v1.toNat : Nat) : Int) = v1 := by omega
    refine pc_call (eg_e hW) (fun r3 u4 q => ?_)
    rw [q.1, has_10 w q.2 v10, jc_s]
    by_cases cg : gs P s v1.toNat = true
    · rw [if_pos cg, if_neg (by decide)]
      refine pc_call (pcT _) (fun _ _ _ => pc_some (Or.inr ⟨cv, Or.inr ⟨Or.inl cg, Or.inr ⟨by omega, ⟨v1.toNat, by omega, cg, decide_eq_true rfl⟩, fun d hd => by omega⟩⟩⟩))
    · rw [if_neg cg, if_pos rfl]
      have cg2 : gs P s v1.toNat = false := by
        cases e : gs P s v1.toNat with
        | false => rfl
        | true => exact absurd e cg
      refine pc_call (ef_e hW hP h3 h5) (fun r7 u8 q7 => ?_)
      rw [q7.1, has_10 w q7.2 v10, jc_s]
      by_cases cf : fre P s h v1.toNat = true
      · rw [if_pos cf, if_neg (by decide)]
        refine pc_call (eg_e hW) (fun r11 u12 q11 => ?_)
        rw [q11.1]
        refine pc_call (knb_e (w := w) (x := r11) (f := gs P s) (by rw [h3]; exact hP) q11.2.2 (fun j hj => by rw [h3] at hj; rw [(hkn j hj).1]; exact (hkn j hj).2)) (fun r13 u14 q13 => ?_)
        rw [q13.1]
        have b13 := q13.2
        rw [h3] at b13
        -- whom a GUEST KNOWS within so many steps: one more leads to a GUEST
        have hit : ∀ k : Nat, (∃ q, q < 10 ∧ (wthn P kn (fre P s h) (gs P s) v1.toNat k q && kbn (w 7) (gs P s) P.toNat q) = true) ↔ FTD P kn (fre P s h) (gs P s) v1.toNat (k + 1) ∨ FTD P kn (fre P s h) (gs P s) v1.toNat k := fun k => by
          have wP : ∀ d q, kst P kn (fre P s h) (gs P s) v1.toNat d q = true → (q : Int) < P := fun d => by
            induction d with
            | zero => intro q e; rw [of_decide_eq_true e]; omega
            | succ d ih =>
              intro q e
              rcases kst_s.mp e with e | ⟨_, e | e⟩
              · exact ih q e
              · exact (fre_0 e).1
              · exact gs_P e
          have frm : ∀ d g, kst P kn (fre P s h) (gs P s) v1.toNat d g = true → gs P s g = true → ∃ d' x, d = d' + 1 ∧ (x < P.toNat ∧ (kst P kn (fre P s h) (gs P s) v1.toNat d' x = true ∧ gs P s x = false) ∧ bt (kn x) g = true) ∨ False := fun d => by
            induction d with
            | zero => intro g e hg; rw [of_decide_eq_true e, cg2] at hg; cases hg
            | succ d ih =>
              intro g e hg
              rcases kst_s.mp e with e2 | ⟨⟨x, hx, a, b⟩, _⟩
              · obtain ⟨d', x, hh⟩ := ih g e2 hg
                rcases hh with ⟨h1, h2, h3', h4⟩ | hh
                · exact ⟨d, x, Or.inl ⟨rfl, h2, ⟨kst_m h3'.1 (by omega), h3'.2⟩, h4⟩⟩
                · exact hh.elim
              · exact ⟨d, x, Or.inl ⟨rfl, hx, a, b⟩⟩
          have bw : ∀ d g, d ≤ k + 1 → kst P kn (fre P s h) (gs P s) v1.toNat d g = true → gs P s g = true → ∃ q, q < 10 ∧ (wthn P kn (fre P s h) (gs P s) v1.toNat k q && kbn (w 7) (gs P s) P.toNat q) = true := fun d g hd e hg => by
            obtain ⟨d', x, hh⟩ := frm d g e hg
            rcases hh with ⟨h1, h2, h3', h4⟩ | hh
            · refine ⟨x, by omega, ?_⟩
              rw [Bool.and_eq_true]
              refine ⟨?_, ?_⟩
              · unfold wthn; rw [kst_m h3'.1 (show d' ≤ k by omega), h3'.2]; rfl
              · rw [kbn_t]
                have hgP := gs_P hg
                exact ⟨g, by omega, hg, by rw [(hkn g hgP).1, ← hsy x g (by omega) hgP]; exact h4⟩
            · exact hh.elim
          constructor
          · rintro ⟨q, hq, e⟩
            rw [Bool.and_eq_true] at e
            have e1 := e.1
            unfold wthn at e1
            rw [Bool.and_eq_true] at e1
            have hqP := wP _ _ e1.1
            obtain ⟨g, hg, a, b⟩ := kbn_t.mp e.2
            have hgq : gs P s q = false := by
              cases c : gs P s q with
              | false => rfl
              | true => have := e1.2; rw [c] at this; cases this
            refine Or.inl ⟨g, by omega, a, kst_s.mpr (Or.inr ⟨⟨q, by omega, ⟨e1.1, hgq⟩, ?_⟩, Or.inr a⟩)⟩
            rw [(hkn g (by omega)).1] at b
            rw [hsy q g hqP (by omega)]; exact b
          · rintro (⟨g, _, a, b⟩ | ⟨g, _, a, b⟩)
            · exact bw (k + 1) g (Nat.le_refl _) b a
            · exact bw k g (by omega) b a
        have n0 : ¬ FTD P kn (fre P s h) (gs P s) v1.toNat 0 := fun ⟨g, _, a, b⟩ => by
          rw [of_decide_eq_true b, cg2] at a; cases a
        have l118 : ∀ {v3 : Int}, ((v3 = -1 ∧ ∀ d : Nat, (d : Int) ≤ P → ¬ FTD P kn (fre P s h) (gs P s) v1.toNat d) ∨ ((0 ≤ v3 ∧ v3 < P) ∧ FTD P kn (fre P s h) (gs P s) v1.toNat (v3.toNat + 1) ∧ ∀ d : Nat, (d : Int) ≤ v3 → ¬ FTD P kn (fre P s h) (gs P s) v1.toNat d)) → PC (f_E_far_118 v1 r13 v3 w) (fun r _ => FAQ P kn (fre P s h) (gs P s) v1.toNat r) := fun {v3} hh => by
          unfold f_E_far_118
          rcases hh with ⟨e, hn⟩ | ⟨hr, ht, hn⟩
          · exact pc_ite (fun _ => pc_some (Or.inl ⟨rfl, hn⟩)) (fun c => absurd e c)
          · refine pc_ite (fun c => by omega) (fun _ => pc_call (pcT _) (fun _ _ _ => pc_some (Or.inr ?_)))
            rw [w32_id (by omega), show (v3 + 1).toNat = v3.toNat + 1 by omega]
            exact ⟨by omega, ht, fun d hd => hn d (by omega)⟩
        have l73 : ∀ (n : Nat) {v3 v4 : Int}, 0 ≤ v4 → v4 ≤ P → ((v3 = -1 ∧ ∀ d : Nat, (d : Int) ≤ v4 → ¬ FTD P kn (fre P s h) (gs P s) v1.toNat d) ∨ ((0 ≤ v3 ∧ v3 < P) ∧ FTD P kn (fre P s h) (gs P s) v1.toNat (v3.toNat + 1) ∧ ∀ d : Nat, (d : Int) ≤ v3 → ¬ FTD P kn (fre P s h) (gs P s) v1.toNat d)) → PC (f_E_far_73 n v1 r13 v3 v4 w) (fun r _ => FAQ P kn (fre P s h) (gs P s) v1.toNat r) := by
          intro n
          induction n with
          | zero => intros; exact pc_none
          | succ n ih =>
            intro v3 v4 i4 i4' hh
            rw [f_E_far_73, h3]
            unfold f_E_far_111
            refine pc_ite (fun c => l118 ?_) (fun c => pc_ite (fun c3 => ?_) (fun c3 => l118 ?_))
            · rw [show v4 = P by omega] at hh; exact hh
            · have hn : ∀ d : Nat, (d : Int) ≤ v4 → ¬ FTD P kn (fre P s h) (gs P s) v1.toNat d := by
                rcases hh with ⟨_, hn⟩ | ⟨hr, _⟩
                · exact hn
                · omega
              refine pc_call (win_pc hP hW h3 h5 hkn cv cf ⟨i4, by omega⟩) (fun r17 u18 q17 => ?_)
              rw [q17.1, w32_id (by omega)]
              have hand := b10_and q17.2 b13.2
              have hv4 := hn v4.toNat (by omega)
              refine pc_ite (fun c0 => pc_let (fun x19 e19 => ?_)) (fun c0 => pc_let (fun x19 e19 => ?_))
              · rw [e19]
                refine ih (by omega) (by omega) (Or.inl ⟨rfl, fun d hd hT => ?_⟩)
                by_cases cd : (d : Int) ≤ v4
                · exact hn d cd hT
                · rw [show d = v4.toNat + 1 by omega] at hT
                  obtain ⟨q, hq, e⟩ := (hit v4.toNat).mpr (Or.inl hT)
                  rcases b10_some hand with ⟨_, hz⟩ | ⟨hne, _⟩
                  · have := hz q hq
                    rw [e] at this; cases this
                  · exact hne c0
              · rw [e19]
                refine ih (by omega) (by omega) (Or.inr ⟨by omega, ?_, hn⟩)
                rcases b10_some hand with ⟨e, _⟩ | ⟨_, q, hq, e⟩
                · exact absurd e c0
                · rcases (hit v4.toNat).mp ⟨q, hq, e⟩ with hT | hT
                  · exact hT
                  · exact absurd hT hv4
            · rcases hh with ⟨e, _⟩ | hh
              · exact absurd e c3
              · exact Or.inr hh
        refine pc_w (l73 FU (by decide) hP.1 (Or.inl ⟨rfl, fun d hd => by rw [show d = 0 by omega]; exact n0⟩)) (fun r _ hq => Or.inr ⟨cv, Or.inr ⟨Or.inr cf, hq⟩⟩)
      · rw [if_neg cf, if_pos rfl]
        have cf2 : fre P s h v1.toNat = false := by
          cases e : fre P s h v1.toNat with
          | false => rfl
          | true => exact absurd e cf
        exact pc_some (Or.inr ⟨cv, Or.inl ⟨cg2, cf2, rfl⟩⟩)
  · rw [show hd P v1 = 0 from if_neg cv, if_pos rfl]
    exact pc_some (Or.inl ⟨cv, rfl⟩)
/-! FAR: the reference, and both -/
def KIN (P : Int) (kn : Nat → Int) (F H : Nat → Bool) (i : Nat) (L : Int) (u : Wd) : Prop := ∀ o : Nat, (o : Int) < P → (u 78 o = 1000000 ∧ kst P kn F H i L.toNat o = false) ∨ ∃ d : Nat, (d : Int) ≤ L ∧ u 78 o = (d : Int) ∧ kst P kn F H i d o = true ∧ ∀ d', d' < d → kst P kn F H i d' o = false
def KQX (kn : Nat → Int) (F H : Nat → Bool) (L : Int) (b : Wd) (x o : Nat) : Prop := b 78 x = L ∧ H x = false ∧ bt (kn x) o = true ∧ (F o = true ∨ H o = true)
def KQR (kn : Nat → Int) (F H : Nat → Bool) (L : Int) (b : Wd) (v4 v5 : Int) (o : Nat) : Prop := (∃ x : Nat, (x : Int) < v4 ∧ KQX kn F H L b x o) ∨ (KQX kn F H L b v4.toNat o ∧ (o : Int) < v5)
def KIM (P : Int) (kn : Nat → Int) (F H : Nat → Bool) (L : Int) (b : Wd) (v4 v5 : Int) (u : Wd) : Prop := ∀ o : Nat, (o : Int) < P → (b 78 o ≠ 1000000 → u 78 o = b 78 o) ∧ (b 78 o = 1000000 → (KQR kn F H L b v4 v5 o → u 78 o = L + 1) ∧ (¬ KQR kn F H L b v4 v5 o → u 78 o = 1000000))
theorem kim_w {P : Int} {kn : Nat → Int} {F H : Nat → Bool} {L : Int} {b : Wd} {v4 v5 v4' v5' : Int} {u : Wd} (h : KIM P kn F H L b v4 v5 u) (hR : ∀ o : Nat, (o : Int) < P → (KQR kn F H L b v4' v5' o ↔ KQR kn F H L b v4 v5 o)) : KIM P kn F H L b v4' v5' u := by
  intro o ho
  have := h o ho
  rw [hR o ho]
  exact this
theorem kin_s {P : Int} {kn : Nat → Int} {F H : Nat → Bool} {i : Nat} {L : Int} {b u : Wd} (hP : 0 ≤ P ∧ P ≤ 10) (hL : 0 ≤ L ∧ L < P) (hb : KIN P kn F H i L b) (hm : KIM P kn F H L b P 0 u) : KIN P kn F H i (L + 1) u := by
  intro o ho
  have hmo := hm o ho
  have eL : (L + 1).toNat = L.toNat + 1 := by omega
  rw [eL]
  rcases hb o ho with ⟨b1, b2⟩ | ⟨d, b1, b2, b3, b4⟩
  · have m := hmo.2 b1
    by_cases hR : KQR kn F H L b P 0 o
    · refine Or.inr ⟨L.toNat + 1, by omega, by rw [m.1 hR]; omega, ?_, fun d' hd' => ?_⟩
      · rcases hR with ⟨x, hx, x1, x2, x3, x4⟩ | ⟨_, c⟩
        · rcases hb x hx with ⟨y1, _⟩ | ⟨d, y1, y2, y3, _⟩
          · omega
          · have : d = L.toNat := by omega
            rw [this] at y3
            exact kst_s.mpr (Or.inr ⟨⟨x, by omega, ⟨y3, x2⟩, x3⟩, x4⟩)
        · omega
      · cases e : kst P kn F H i d' o with
        | false => rfl
        | true => rw [kst_m e (show d' ≤ L.toNat by omega)] at b2; cases b2
    · refine Or.inl ⟨m.2 hR, ?_⟩
      cases e : kst P kn F H i (L.toNat + 1) o with
      | false => rfl
      | true =>
        rcases kst_s.mp e with e2 | ⟨⟨x, hx, ⟨x1, x2⟩, x3⟩, x4⟩
        · rw [e2] at b2; cases b2
        · refine absurd (Or.inl ⟨x, by omega, ?_, x2, x3, x4⟩) hR
          rcases hb x (by omega) with ⟨_, y2⟩ | ⟨d, y1, y2, y3, _⟩
          · rw [x1] at y2; cases y2
          · by_cases c : (d : Int) = L
            · rw [y2]; exact c
            · have k1 : kst P kn F H i (d + 1) o = true := kst_s.mpr (Or.inr ⟨⟨x, hx, ⟨y3, x2⟩, x3⟩, x4⟩)
              rw [kst_m k1 (show d + 1 ≤ L.toNat by omega)] at b2
              cases b2
  · have m := hmo.1 (by rw [b2]; omega)
    exact Or.inr ⟨d, by omega, by rw [m]; exact b2, b3, b4⟩
theorem rfar_pc {P : Int} {w : Wd} {v1 : Int} (hP : 0 ≤ P ∧ P ≤ 10) (h0 : w 43 0 = P) (h45 : ∀ j : Nat, (j : Int) < P → 0 ≤ w 45 j ∧ w 45 j ≤ 1023) : PC (f_R_far v1 w) (fun r _ => (¬ (0 ≤ v1 ∧ v1 < P) ∧ r = -1) ∨ ((0 ≤ v1 ∧ v1 < P) ∧ ((gs P (w 47) v1.toNat = false ∧ fre P (w 47) (w 46) v1.toNat = false ∧ r = -2) ∨ ((gs P (w 47) v1.toNat = true ∨ fre P (w 47) (w 46) v1.toNat = true) ∧ FAQ P (w 45) (fre P (w 47) (w 46)) (gs P (w 47)) v1.toNat r)))) := by
  have pcT : ∀ o : Option (Int × Wd), PC o (fun _ _ => True) := fun _ _ _ _ => trivial
  unfold f_R_far
  refine pc_lw (fun y ey => ?_)
  have y0 : y 43 0 = P := by rw [ey, st_k (by decide)]; exact h0
  have yr : ∀ c, c ≠ 43 → y c = w c := fun c hc => by rw [ey, st_row hc]
  refine pc_call (io_pc v1 y (by rw [y0]; exact hP)) (fun r2 u3 z => ?_)
  rw [z.1, z.2, y0]
  by_cases cv : 0 ≤ v1 ∧ v1 < P
  · rw [show hd P v1 = 1 from if_pos cv, if_neg (by decide)]
    have v10 : 0 ≤ v1 ∧ v1 < 10 := by omega
    refine pc_call (rfree_e (w := y) (by rw [y0]; exact hP)) (fun r4 u5 q4 => pc_gd (fun _ => ?_))
    rw [q4.1, isG_e, jc_s, yr 47 (by decide)]
    have b4 := q4.2
    rw [y0, yr 47 (by decide), yr 46 (by decide)] at b4
    have gsv : ∀ o : Nat, (o : Int) < P → gs P (w 47) o = gst (w 47 o) := fun o ho => by
      unfold gs; rw [show inP P o = true from decide_eq_true ho]; rfl
    -- all that follows tells the way: the answer stands
    have l341 : ∀ (n : Nat) {v2 v3 v4 v5 : Int} {v : Wd}, PC (f_R_far_341 n v2 v3 v4 v5 v) (fun r _ => r = v3) := by
      intro n
      induction n with
      | zero => intros; exact pc_none
      | succ n ih =>
        intro v2 v3 v4 v5 v
        rw [f_R_far_341]
        refine pc_ite (fun _ => pc_some rfl) (fun _ => ?_)
        have l396 : ∀ (m : Nat) {v6 v7 : Int} {v : Wd}, PC (f_R_far_396 (f_R_far_341 n) m v2 v3 v5 v6 v7 v) (fun r _ => r = v3) := by
          intro m
          induction m with
          | zero => intros; exact pc_none
          | succ m ihm =>
            intro v6 v7 v
            rw [f_R_far_396]
            unfold f_R_far_427
            exact pc_call (pcT _) (fun _ _ _ => pc_ite (fun _ => pc_let (fun _ _ => ihm)) (fun _ => pc_gd (fun _ => pc_ite (fun _ => pc_call (pcT _) (fun _ _ _ => pc_ite (fun _ => pc_let (fun _ _ => ihm)) (fun _ => pc_call (pcT _) (fun _ _ _ => pc_let (fun _ _ => pc_let (fun _ _ => ih)))))) (fun _ => pc_let (fun _ _ => ihm)))))
        have l352 : ∀ (m : Nat) {v6 v7 : Int} {v : Wd}, PC (f_R_far_352 (f_R_far_341 n) m v2 v3 v4 v5 v6 v7 v) (fun r _ => r = v3) := by
          intro m
          induction m with
          | zero => intros; exact pc_none
          | succ m ihm =>
            intro v6 v7 v
            rw [f_R_far_352]
            unfold f_R_far_384
            exact pc_ite (fun _ => l396 FU) (fun _ => pc_call (pcT _) (fun _ _ _ => pc_ite (fun _ => pc_let (fun _ _ => pc_let (fun _ _ => ihm))) (fun _ => pc_gd (fun _ => pc_let (fun _ _ => pc_let (fun _ _ => ihm))))))
        exact l352 FU
    have l284 : ∀ (n : Nat) {v2 v3 v4 v5 : Int} {v : Wd}, PC (f_R_far_284 n v2 v3 v4 v5 v) (fun r _ => r = v3) := by
      intro n
      induction n with
      | zero => intros; exact pc_none
      | succ n ih =>
        intro v2 v3 v4 v5 v
        rw [f_R_far_284]
        unfold f_R_far_326 f_R_far_327
        exact pc_ite (fun _ => pc_let (fun _ _ => l341 FU)) (fun _ => pc_gd (fun _ => pc_call (pcT _) (fun _ _ _ => pc_ite (fun _ => pc_let (fun _ _ => pc_let (fun _ _ => ih))) (fun _ => pc_gd (fun _ => pc_ite (fun _ => pc_let (fun _ _ => pc_let (fun _ _ => ih))) (fun _ => pc_let (fun _ _ => pc_let (fun _ _ => ih))))))))
    -- the nearest GUEST
    have l223 : ∀ (n : Nat) {v3 v4 : Int} {u : Wd}, 0 ≤ v4 → v4 ≤ P → (∀ c, c ≠ 78 → u c = y c) → KIN P (w 45) (fre P (w 47) (w 46)) (gs P (w 47)) v1.toNat P u → ((0 ≤ v3 ∧ v3 ≤ 1000000) ∧ (∀ q : Nat, (q : Int) < v4 → gs P (w 47) q = true → v3 ≤ u 78 q) ∧ (v3 = 1000000 ∨ ∃ q : Nat, (q : Int) < v4 ∧ gs P (w 47) q = true ∧ u 78 q = v3)) → PC (f_R_far_223 n r4 v3 v4 u) (fun r _ => FAQ P (w 45) (fre P (w 47) (w 46)) (gs P (w 47)) v1.toNat r) := by
      intro n
      induction n with
      | zero => intros; exact pc_none
      | succ n ih =>
        intro v3 v4 u i4 i4' hu hI hM
        obtain ⟨m1, m2, m3⟩ := hM
        rw [f_R_far_223, hu 43 (by decide), y0]
        unfold f_R_far_257
        refine pc_ite (fun c => ?_) (fun c => pc_gd (fun _ => ?_))
        · have e4 : v4 = P := by omega
          have pT : (P.toNat : Int) = P := by omega
          refine pc_ite (fun c3 => pc_some (Or.inl ⟨rfl, fun d hd hT => ?_⟩)) (fun c3 => pc_lw (fun u8 _ => pc_w (l284 FU) (fun r _ e => ?_)))
          · obtain ⟨q, q1, q2, q3⟩ := hT
            have := m2 q (by omega) q2
            rcases hI q q1 with ⟨_, e⟩ | ⟨d', e1, e2, _⟩
            · rw [kst_m q3 (show d ≤ P.toNat by omega)] at e; cases e
            · omega
          · rw [e]
            rcases m3 with e3 | ⟨q, q1, q2, q3⟩
            · exact absurd e3 c3
            · rcases hI q (by omega) with ⟨e1, _⟩ | ⟨d, e1, e2, e3', e4'⟩
              · omega
              · refine Or.inr ⟨by omega, ⟨q, by omega, q2, by rw [show v3.toNat = d by omega]; exact e3'⟩, fun d' hd' hT => ?_⟩
                obtain ⟨p, p1, p2, p3⟩ := hT
                have a1 := m2 p (by omega) p2
                rcases hI p p1 with ⟨_, e⟩ | ⟨d2, f1, f2, _, f4⟩
                · rw [kst_m p3 (show d' ≤ P.toNat by omega)] at e; cases e
                · by_cases c2 : d' < d2
                  · rw [f4 d' c2] at p3; cases p3
                  · omega
        · rw [isG_e, jc_s, hu 47 (by decide), yr 47 (by decide), ← gsv v4.toNat (by omega)]
          have w4 : w32 (v4 + 1) = v4 + 1 := w32_id (by omega)
          rw [w4]
          by_cases cg : gs P (w 47) v4.toNat = true
          · rw [if_pos cg]
            refine pc_ite (fun e => absurd e (by decide)) (fun _ => pc_gd (fun _ => pc_let (fun x30 e30 => pc_let (fun x29 e29 => ?_))))
            rw [e29]
            have u78 : 0 ≤ u 78 v4.toNat ∧ u 78 v4.toNat ≤ 1000000 := by
              rcases hI v4.toNat (by omega) with ⟨e1, _⟩ | ⟨d, e1, e2, _⟩ <;> omega
            have im := imin_sp v3 (u 78 v4.toNat)
            refine ih (by omega) (by omega) hu hI ⟨?_, fun q hq hg => ?_, ?_⟩
            · rcases im with ⟨_, e⟩ | ⟨_, e⟩ <;> rw [e30, e] <;> omega
            · by_cases cq : (q : Int) < v4
              · have := m2 q cq hg
                rcases im with ⟨_, e⟩ | ⟨_, e⟩ <;> rw [e30, e] <;> omega
              · rw [show q = v4.toNat by omega]
                rcases im with ⟨_, e⟩ | ⟨_, e⟩ <;> rw [e30, e] <;> omega
            · rcases im with ⟨_, e⟩ | ⟨_, e⟩
              · exact Or.inr ⟨v4.toNat, by omega, cg, by rw [e30, e]⟩
              · rw [e30, e]
                rcases m3 with e3 | ⟨q, q1, q2, q3⟩
                · exact Or.inl e3
                · exact Or.inr ⟨q, by omega, q2, q3⟩
          · rw [if_neg cg]
            refine pc_ite (fun _ => pc_let (fun x29 e29 => ?_)) (fun e => absurd rfl e)
            rw [e29]
            refine ih (by omega) (by omega) hu hI ⟨m1, fun q hq hg => ?_, ?_⟩
            · by_cases cq : (q : Int) < v4
              · exact m2 q cq hg
              · rw [show q = v4.toNat by omega] at hg; exact absurd hg cg
            · rcases m3 with e3 | ⟨q, q1, q2, q3⟩
              · exact Or.inl e3
              · exact Or.inr ⟨q, by omega, q2, q3⟩
    -- one step after the other
    have l79 : ∀ (n : Nat) {L : Int} {b : Wd}, 0 ≤ L → L ≤ P → (∀ c, c ≠ 78 → b c = y c) → KIN P (w 45) (fre P (w 47) (w 46)) (gs P (w 47)) v1.toNat L b → PC (f_R_far_79 n r4 L b) (fun r _ => FAQ P (w 45) (fre P (w 47) (w 46)) (gs P (w 47)) v1.toNat r) := by
      intro n
      induction n with
      | zero => intros; exact pc_none
      | succ n ih =>
        intro L b iL iL' hbu hI
        rw [f_R_far_79, hbu 43 (by decide), y0]
        refine pc_ite (fun c => ?_) (fun c => ?_)
        · rw [show L = P by omega] at hI
          exact l223 FU (by decide) hP.1 hbu hI ⟨by decide, fun q hq => by omega, Or.inl rfl⟩
        · have l90 : ∀ (m : Nat) {v4 : Int} {u : Wd}, 0 ≤ v4 → v4 ≤ P → (∀ c, c ≠ 78 → u c = y c) → KIM P (w 45) (fre P (w 47) (w 46)) (gs P (w 47)) L b v4 0 u → PC (f_R_far_90 (f_R_far_79 n) m r4 L v4 u) (fun r _ => FAQ P (w 45) (fre P (w 47) (w 46)) (gs P (w 47)) v1.toNat r) := by
            intro m
            induction m with
            | zero => intros; exact pc_none
            | succ m ihm =>
              intro v4 u i4 i4' hu hM
              rw [f_R_far_90, hu 43 (by decide), y0]
              have w4 : w32 (v4 + 1) = v4 + 1 := w32_id (by omega)
              -- on to the next
              have nx : ∀ {v5 : Int} {u : Wd}, v4 < P → (∀ c, c ≠ 78 → u c = y c) → KIM P (w 45) (fre P (w 47) (w 46)) (gs P (w 47)) L b v4 v5 u → (∀ o : Nat, (o : Int) < P → KQX (w 45) (fre P (w 47) (w 46)) (gs P (w 47)) L b v4.toNat o → (o : Int) < v5) → PC (f_R_far_204 (f_R_far_79 n) (f_R_far_90 (f_R_far_79 n) m) r4 L v4 u) (fun r _ => FAQ P (w 45) (fre P (w 47) (w 46)) (gs P (w 47)) v1.toNat r) := fun {v5 u} h4 hu hM hq => by
                unfold f_R_far_204
                rw [w4]
                refine pc_let (fun x32 e32 => ?_)
                rw [e32]
                refine ihm (by omega) (by omega) hu (kim_w hM (fun o ho => ?_))
                constructor
                · rintro (⟨x, hx, hh⟩ | ⟨_, c⟩)
                  · by_cases cx : (x : Int) < v4
                    · exact Or.inl ⟨x, cx, hh⟩
                    · rw [show x = v4.toNat by omega] at hh
                      exact Or.inr ⟨hh, hq o ho hh⟩
                  · omega
                · rintro (⟨x, hx, hh⟩ | ⟨hh, _⟩)
                  · exact Or.inl ⟨x, by omega, hh⟩
                  · exact Or.inl ⟨v4.toNat, by omega, hh⟩
              refine pc_ite (fun c4 => pc_let (fun x31 e31 => ?_)) (fun c4 => pc_gd (fun _ => ?_))
              · rw [w32_id (by omega)] at e31
                rw [e31]
                rw [show v4 = P by omega] at hM
                exact ih (by omega) (by omega) hu (kin_s hP ⟨iL, by omega⟩ hI hM)
              · -- its own number: as at the step's beginning
                have own : u 78 v4.toNat = L ↔ b 78 v4.toNat = L := by
                  have hm := hM v4.toNat (by omega)
                  by_cases cb : b 78 v4.toNat = 1000000
                  · have := hm.2 cb
                    by_cases hR : KQR (w 45) (fre P (w 47) (w 46)) (gs P (w 47)) L b v4 0 v4.toNat
                    · have := this.1 hR; omega
                    · have := this.2 hR; omega
                  · rw [hm.1 cb]
                refine pc_ite (fun cL => pc_gd (fun _ => ?_)) (fun cL => nx (by omega) hu hM (fun o _ hh => absurd (own.mpr hh.1) cL))
                rw [isG_e, jc_s, hu 47 (by decide), yr 47 (by decide), ← gsv v4.toNat (by omega)]
                by_cases cg : gs P (w 47) v4.toNat = true
                · rw [if_pos cg]
                  exact pc_ite (fun e => absurd e (by decide)) (fun _ => nx (by omega) hu hM (fun o _ hh => by have h2 := hh.2.1; rw [cg] at h2; cases h2))
                · rw [if_neg cg]
                  have cg2 : gs P (w 47) v4.toNat = false := by
                    cases e : gs P (w 47) v4.toNat with
                    | false => rfl
                    | true => exact absurd e cg
                  refine pc_ite (fun _ => ?_) (fun e => absurd rfl e)
                  have bL := own.mp cL
                  have l129 : ∀ (k : Nat) {v5 : Int} {u : Wd}, 0 ≤ v5 → v5 ≤ P → (∀ c, c ≠ 78 → u c = y c) → KIM P (w 45) (fre P (w 47) (w 46)) (gs P (w 47)) L b v4 v5 u → PC (f_R_far_129 (f_R_far_79 n) (f_R_far_90 (f_R_far_79 n) m) k r4 L v4 v5 u) (fun r _ => FAQ P (w 45) (fre P (w 47) (w 46)) (gs P (w 47)) v1.toNat r) := by
                    intro k
                    induction k with
                    | zero => intros; exact pc_none
                    | succ k ihk =>
                      intro v5 u i5 i5' hu hM
                      rw [f_R_far_129, hu 43 (by decide), y0]
                      have w5 : w32 (v5 + 1) = v5 + 1 := w32_id (by omega)
                      refine pc_ite (fun c5 => nx (by omega) hu hM (fun o ho _ => by omega)) (fun c5 => pc_gd (fun _ => ?_))
                      -- nothing is written
                      have no : (KQX (w 45) (fre P (w 47) (w 46)) (gs P (w 47)) L b v4.toNat v5.toNat → u 78 v5.toNat ≠ 1000000) → PC (f_R_far_198 (f_R_far_79 n) (f_R_far_90 (f_R_far_79 n) m) (f_R_far_129 (f_R_far_79 n) (f_R_far_90 (f_R_far_79 n) m) k) r4 L v4 v5 u) (fun r _ => FAQ P (w 45) (fre P (w 47) (w 46)) (gs P (w 47)) v1.toNat r) := fun hne => by
                        unfold f_R_far_198
                        rw [w5]
                        refine pc_let (fun x37 e37 => ?_)
                        rw [e37]
                        refine ihk (by omega) (by omega) hu (fun o ho => ⟨(hM o ho).1, fun hb => ?_⟩)
                        have hm := (hM o ho).2 hb
                        refine ⟨fun hR => ?_, fun hR => hm.2 (fun hR0 => hR ?_)⟩
                        · by_cases hR0 : KQR (w 45) (fre P (w 47) (w 46)) (gs P (w 47)) L b v4 v5 o
                          · exact hm.1 hR0
                          · rcases hR with hx | ⟨hh, hlt⟩
                            · exact absurd (Or.inl hx) hR0
                            · by_cases co : (o : Int) < v5
                              · exact absurd (Or.inr ⟨hh, co⟩) hR0
                              · have eo : o = v5.toNat := by omega
                                rw [eo] at hh hm hR0
                                exact absurd (hm.2 hR0) (hne hh)
                        · rcases hR0 with hx | ⟨hh, hlt⟩
                          · exact Or.inl hx
                          · exact Or.inr ⟨hh, by omega⟩
                      -- it is written
                      have yes : KQX (w 45) (fre P (w 47) (w 46)) (gs P (w 47)) L b v4.toNat v5.toNat → u 78 v5.toNat = 1000000 → PC (f_R_far_188 (f_R_far_79 n) (f_R_far_90 (f_R_far_79 n) m) (f_R_far_129 (f_R_far_79 n) (f_R_far_90 (f_R_far_79 n) m) k) r4 L v4 v5 u) (fun r _ => FAQ P (w 45) (fre P (w 47) (w 46)) (gs P (w 47)) v1.toNat r) := fun hq h78 => by
                        unfold f_R_far_188 f_R_far_198
                        rw [w5, w32_id (show -2147483648 ≤ L + 1 ∧ L + 1 ≤ 2147483647 by omega)]
                        refine pc_gd (fun _ => pc_lw (fun u40 e40 => pc_let (fun x37 e37 => ?_)))
                        rw [e37]
                        refine ihk (by omega) (by omega) (fun c hc => by rw [e40, st_row hc, hu c hc]) (fun o ho => ?_)
                        by_cases co : o = v5.toNat
                        · have e78 : u40 78 o = L + 1 := by rw [e40, co, st_eq]
                          have hm := hM o ho
                          rw [co] at hm
                          have hb : b 78 v5.toNat = 1000000 := Classical.byContradiction fun hh => by
                            have := hm.1 hh
                            rw [h78] at this
                            exact hh this.symm
                          rw [co] at e78 ⊢
                          refine ⟨fun hh => absurd hb hh, fun _ => ⟨fun _ => e78, fun hR => absurd (Or.inr ⟨hq, by omega⟩) hR⟩⟩
                        · have e78 : u40 78 o = u 78 o := by rw [e40, st_k co]
                          rw [e78]
                          have hm := hM o ho
                          refine ⟨hm.1, fun hb => ⟨fun hR => (hm.2 hb).1 ?_, fun hR => (hm.2 hb).2 (fun hR0 => hR ?_)⟩⟩
                          · rcases hR with hx | ⟨hh, hlt⟩
                            · exact Or.inl hx
                            · exact Or.inr ⟨hh, by omega⟩
                          · rcases hR0 with hx | ⟨hh, hlt⟩
                            · exact Or.inl hx
                            · exact Or.inr ⟨hh, by omega⟩
                      rw [hu 45 (by decide), yr 45 (by decide), hasR_10 u (b10_self (h45 v4.toNat (by omega))) (by omega), jc_s]
                      by_cases cb : bt (w 45 v4.toNat) v5.toNat = true
                      · rw [if_pos cb]
                        refine pc_ite (fun e => absurd e (by decide)) (fun _ => pc_gd (fun _ => pc_ite (fun c78 => ?_) (fun c78 => no (fun _ => c78))))
                        rw [hasR_10 u b4 (by omega), jc_s]
                        by_cases cf : fre P (w 47) (w 46) v5.toNat = true
                        · rw [if_pos cf]
                          exact pc_ite (fun e => absurd e (by decide)) (fun _ => yes ⟨bL, cg2, cb, Or.inl cf⟩ c78)
                        · rw [if_neg cf]
                          refine pc_ite (fun _ => pc_gd (fun _ => ?_)) (fun e => absurd rfl e)
                          rw [isG_e, jc_s, hu 47 (by decide), yr 47 (by decide), ← gsv v5.toNat (by omega)]
                          by_cases cgo : gs P (w 47) v5.toNat = true
                          · rw [if_pos cgo]
                            exact pc_ite (fun e => absurd e (by decide)) (fun _ => yes ⟨bL, cg2, cb, Or.inr cgo⟩ c78)
                          · rw [if_neg cgo]
                            refine pc_ite (fun _ => no (fun hh => ?_)) (fun e => absurd rfl e)
                            rcases hh.2.2.2 with e | e
                            · exact absurd e cf
                            · exact absurd e cgo
                      · rw [if_neg cb]
                        exact pc_ite (fun _ => no (fun hh => absurd hh.2.2.1 cb)) (fun e => absurd rfl e)
                  exact l129 FU (by decide) hP.1 hu hM
          refine l90 FU (by decide) hP.1 hbu (fun o ho => ⟨fun _ => rfl, fun hb => ⟨fun hR => ?_, fun _ => hb⟩⟩)
          rcases hR with ⟨x, hx, _⟩ | ⟨_, c⟩
          · omega
          · omega
    -- the beginning
    have l45 : ∀ (n : Nat) {v3 : Int} {u : Wd}, 0 ≤ v3 → v3 ≤ P → (∀ c, c ≠ 78 → u c = y c) → (∀ o : Nat, (o : Int) < v3 → u 78 o = if o = v1.toNat then 0 else 1000000) → PC (f_R_far_45 n v1 r4 v3 u) (fun r _ => FAQ P (w 45) (fre P (w 47) (w 46)) (gs P (w 47)) v1.toNat r) := by
      intro n
      induction n with
      | zero => intros; exact pc_none
      | succ n ih =>
        intro v3 u i3 i3' hu hM
        rw [f_R_far_45, hu 43 (by decide), y0]
        unfold f_R_far_70
        refine pc_ite (fun c => ?_) (fun c => ?_)
        · refine l79 FU (by decide) hP.1 hu (fun o ho => ?_)
          have := hM o (by omega)
          by_cases co : o = v1.toNat
          · rw [if_pos co] at this
            exact Or.inr ⟨0, by decide, this, decide_eq_true co, fun d' hd' => by omega⟩
          · rw [if_neg co] at this
            exact Or.inl ⟨this, decide_eq_false co⟩
        · have w3 : w32 (v3 + 1) = v3 + 1 := w32_id (by omega)
          rw [w3]
          have go : ∀ {z : Int}, z = (if v3.toNat = v1.toNat then 0 else 1000000) → PC (jgd ((0 : Int) ≤ v3 ∧ v3 < 10) <| jlw (st u 78 v3.toNat z) fun u43 => jlet (v3 + 1) fun x44 => f_R_far_45 n v1 r4 x44 u43) (fun r _ => FAQ P (w 45) (fre P (w 47) (w 46)) (gs P (w 47)) v1.toNat r) := fun {z} hz => by
            refine pc_gd (fun _ => pc_lw (fun u43 e43 => pc_let (fun x44 e44 => ?_)))
            rw [e44]
            refine ih (by omega) (by omega) (fun c hc => by rw [e43, st_row hc, hu c hc]) (fun o ho => ?_)
            by_cases co : o = v3.toNat
            · rw [e43, co, st_eq, hz]
            · rw [e43, st_k co]; exact hM o (by omega)
          refine pc_ite (fun c3 => go (by rw [if_pos (by omega)])) (fun c3 => go (by rw [if_neg (by omega)]))
    have done : PC (f_R_far_43 v1 r4 y) (fun r _ => FAQ P (w 45) (fre P (w 47) (w 46)) (gs P (w 47)) v1.toNat r) := by
      unfold f_R_far_43
      exact l45 FU (by decide) hP.1 (fun _ _ => rfl) (fun o ho => by omega)
    rw [← gsv v1.toNat (by omega)]
    by_cases cg : gs P (w 47) v1.toNat = true
    · rw [if_pos cg]
      exact pc_ite (fun e => absurd e (by decide)) (fun _ => pc_w done (fun r _ q => Or.inr ⟨cv, Or.inr ⟨Or.inl cg, q⟩⟩))
    · rw [if_neg cg]
      have cg2 : gs P (w 47) v1.toNat = false := by
        cases e : gs P (w 47) v1.toNat with
        | false => rfl
        | true => exact absurd e cg
      refine pc_ite (fun _ => ?_) (fun e => absurd rfl e)
      rw [hasR_10 y b4 v10, jc_s]
      by_cases cf : fre P (w 47) (w 46) v1.toNat = true
      · rw [if_pos cf]
        exact pc_ite (fun e => absurd e (by decide)) (fun _ => pc_w done (fun r _ q => Or.inr ⟨cv, Or.inr ⟨Or.inr cf, q⟩⟩))
      · rw [if_neg cf]
        have cf2 : fre P (w 47) (w 46) v1.toNat = false := by
          cases e : fre P (w 47) (w 46) v1.toNat with
          | false => rfl
          | true => exact absurd e cf
        exact pc_ite (fun _ => pc_some (Or.inr ⟨cv, Or.inl ⟨cg2, cf2, rfl⟩⟩)) (fun e => absurd rfl e)
  · rw [show hd P v1 = 0 from if_neg cv, if_pos rfl]
    exact pc_some (Or.inl ⟨cv, rfl⟩)
theorem er_far {a w : Wd} {v1 : Int} (h : ER a w) (hk : Ks a) : PC (f_E_far v1 w) (fun r _ => PC (f_R_far v1 a) (fun r' _ => r = r')) := by
  have x0 : 0 ≤ a 43 0 ∧ a 43 0 ≤ 10 := h.2.2.1
  have x3 : w 5 3 = a 43 0 := h.1.1.2.1
  have xp : ∀ j : Nat, (j : Int) < a 43 0 → w 6 j = a 44 j ∧ w 7 j = a 45 j ∧ w 8 j = a 48 j := h.1.2.1
  have xh : B10 (w 5 5) (hB (a 43 0) (a 46)) := h.1.2.2.1
  have xw : WH (w 5 4) (a 47) (a 43 0) := h.1.2.2.2.1
  have x45 : ∀ j : Nat, (j : Int) < a 43 0 → 0 ≤ a 45 j ∧ a 45 j ≤ 1023 := h.2.2.2.2.2.1
  refine pc_w (efar_pc (kn := a 45) x0 xw x3 xh (fun j hj => ⟨(xp j hj).2.1, x45 j hj⟩) hk) (fun r _ e => ?_)
  refine pc_w (rfar_pc x0 rfl x45) (fun r' _ e' => ?_)
  rcases e with ⟨c, e⟩ | ⟨c, e⟩
  · rcases e' with ⟨_, e'⟩ | ⟨c', _⟩
    · rw [e, e']
    · exact absurd c' c
  · rcases e' with ⟨c', _⟩ | ⟨_, e'⟩
    · exact absurd c c'
    · rcases e with ⟨g1, g2, e⟩ | ⟨g, e⟩
      · rcases e' with ⟨_, _, e'⟩ | ⟨g', _⟩
        · rw [e, e']
        · rcases g' with g' | g'
          · rw [g1] at g'; cases g'
          · rw [g2] at g'; cases g'
      · rcases e' with ⟨g1, g2, _⟩ | ⟨_, e'⟩
        · rcases g with g | g
          · rw [g1] at g; cases g
          · rw [g2] at g; cases g
        · exact faq_one e e'
/-! WHAT IS KEPT OF A SEARCH: it stays through all reading -/
def SJ (L : Int) (b w : Wd) : Prop := (w 5 = b 5 ∧ w 7 = b 7 ∧ w 28 = b 28 ∧ w 29 = b 29 ∧ w 30 = b 30 ∧ w 31 = b 31 ∧ w 35 = b 35) ∧ ROK w ∧ w 24 4 ≤ L
theorem sj_mono {L M : Int} {b w : Wd} (h : SJ L b w) (hM : L ≤ M) : SJ M b w := ⟨h.1, h.2.1, Int.le_trans h.2.2 hM⟩
theorem sj_st {L : Int} {b w u : Wd} {c k : Nat} {z : Int} (h : SJ L b w) (e : u = st w c k z) (hc : [5, 7, 24, 27, 28, 29, 30, 31, 35].contains c = false) : SJ L b u := by
  have f : ∀ c', [5, 7, 24, 27, 28, 29, 30, 31, 35].contains c' = true → u c' = w c' := fun c' hc' => by
    rw [e]; exact st_row (fun hh => by rw [hh, hc] at hc'; cases hc')
  unfold SJ ROK
  rw [f 5 rfl, f 7 rfl, f 24 rfl, f 27 rfl, f 28 rfl, f 29 rfl, f 30 rfl, f 31 rfl, f 35 rfl]
  exact h
theorem sj_s24 {L : Int} {b w u : Wd} {k : Nat} {z : Int} (h : SJ L b w) (e : u = st w 24 k z) (hk : (k == 4) = false) : SJ L b u := by
  have f : ∀ c', c' ≠ 24 → u c' = w c' := fun c' hc' => by rw [e]; exact st_row hc'
  have f4 : u 24 4 = w 24 4 := by rw [e]; exact st_k (fun hh => by rw [← hh] at hk; cases hk)
  unfold SJ ROK
  rw [f 5 (by decide), f 7 (by decide), f4, f 27 (by decide), f 28 (by decide), f 29 (by decide), f 30 (by decide), f 31 (by decide), f 35 (by decide)]
  exact h
theorem sj_fm {L : Int} {b w u : Wd} (h : SJ L b w) (f : FM w u) : SJ L b u := by
  have g := f.1
  have f4 : u 24 4 = w 24 4 := f.2.1 4 (by decide)
  obtain ⟨h1, h2, h3⟩ := h
  refine ⟨?_, ⟨by rw [f4]; exact h2.1, fun k hk => ?_⟩, by rw [f4]; exact h3⟩
  · rw [g 5 (by decide) (by decide) (by decide) (by decide), g 7 (by decide) (by decide) (by decide) (by decide), g 28 (by decide) (by decide) (by decide) (by decide), g 29 (by decide) (by decide) (by decide) (by decide), g 30 (by decide) (by decide) (by decide) (by decide), g 31 (by decide) (by decide) (by decide) (by decide), g 35 (by decide) (by decide) (by decide) (by decide)]
    exact h1
  · rw [f4]
    rcases f.2.2 k with e | e
    · rw [e]; exact h2.2 k hk
    · rw [e]; exact Int.le_refl _
theorem zq_E_isWeek {b : Wd} {v0 : Int} {w : Wd} (h : w = b) : PC (f_E_isWeek v0 w) (fun _ u => u = b) := by
  unfold f_E_isWeek
  refine pc_ite (fun _ => ?_) (fun _ => ?_)
  · exact pc_some h
  · refine pc_ite (fun _ => ?_) (fun _ => ?_)
    · exact pc_some h
    · exact pc_some h
theorem zq_F_isThere {b : Wd} {v1 : Int} {w : Wd} (h : w = b) : PC (f_F_isThere v1 w) (fun _ u => u = b) := by
  unfold f_F_isThere
  refine pc_ite (fun _ => ?_) (fun _ => ?_)
  · exact pc_some h
  · refine pc_ite (fun _ => ?_) (fun _ => ?_)
    · exact pc_some h
    · exact pc_some h
theorem zq_E_areTwo {b : Wd} {v1 v2 : Int} {w : Wd} (h : w = b) : PC (f_E_areTwo v1 v2 w) (fun _ u => u = b) := by
  unfold f_E_areTwo
  refine pc_ite (fun _ => ?_) (fun _ => ?_)
  · exact pc_some h
  · refine pc_call (zq_F_isThere h) (fun r1 u2 h => ?_)
    refine pc_ite (fun _ => ?_) (fun _ => ?_)
    · exact pc_some h
    · refine pc_call (zq_F_isThere h) (fun r3 u4 h => ?_)
      refine pc_ite (fun _ => ?_) (fun _ => ?_)
      · exact pc_some h
      · exact pc_some h
theorem zq_F_everybody {b : Wd} {w : Wd} (h : w = b) : PC (f_F_everybody  w) (fun _ u => u = b) := by
  unfold f_F_everybody
  exact pc_some h
theorem zq_O_known {b : Wd} {v0 : Int} {w : Wd} (h : w = b) : PC (f_O_known v0 w) (fun _ u => u = b) := by
  unfold f_O_known
  exact pc_some h
theorem zq_F_strangers {b : Wd} {w : Wd} (h : w = b) : PC (f_F_strangers  w) (fun _ u => u = b) := by
  unfold f_F_strangers
  refine pc_call (zq_F_everybody h) (fun r1 u2 h => ?_)
  refine pc_call (zq_O_known h) (fun r3 u4 h => ?_)
  exact pc_some h
theorem zq_F_free {b : Wd} {w : Wd} (h : w = b) : PC (f_F_free  w) (fun _ u => u = b) := by
  unfold f_F_free
  refine pc_call (zq_F_strangers h) (fun r1 u2 h => ?_)
  exact pc_some h
theorem zq_E_has {b : Wd} {v0 v1 : Int} {w : Wd} (h : w = b) : PC (f_E_has v0 v1 w) (fun _ u => u = b) := by
  unfold f_E_has
  refine pc_ite (fun _ => ?_) (fun _ => ?_)
  · exact pc_some h
  · refine pc_ite (fun _ => ?_) (fun _ => ?_)
    · exact pc_some h
    · refine pc_ite (fun _ => ?_) (fun _ => ?_)
      · exact pc_some h
      · exact pc_some h
theorem zs_O_lateOne {L : Int} {b : Wd} {v0 v1 : Int} {w : Wd} (h : SJ L b w) : PC (f_O_lateOne v0 v1 w) (fun _ u => SJ L b u) := by
  unfold f_O_lateOne
  refine pc_ite (fun _ => ?_) (fun _ => ?_)
  · exact pc_some h
  · exact pc_some h
theorem zs_O_lateTwo {L : Int} {b : Wd} {v0 v1 : Int} {w : Wd} (h : SJ L b w) : PC (f_O_lateTwo v0 v1 w) (fun _ u => SJ L b u) := by
  unfold f_O_lateTwo
  refine pc_ite (fun _ => ?_) (fun _ => ?_)
  · exact pc_some h
  · exact pc_some h
theorem zs_O_stay {L : Int} {b : Wd} {v0 v1 : Int} {w : Wd} (h : SJ L b w) : PC (f_O_stay v0 v1 w) (fun _ u => SJ L b u) := by
  unfold f_O_stay
  refine pc_call (zs_O_lateOne h) (fun r1 u2 h => ?_)
  refine pc_call (zs_O_lateTwo h) (fun r3 u4 h => ?_)
  exact pc_some h
theorem zs_F_everybody {L : Int} {b : Wd} {w : Wd} (h : SJ L b w) : PC (f_F_everybody  w) (fun _ u => SJ L b u) := by
  unfold f_F_everybody
  exact pc_some h
theorem zs_O_known {L : Int} {b : Wd} {v0 : Int} {w : Wd} (h : SJ L b w) : PC (f_O_known v0 w) (fun _ u => SJ L b u) := by
  unfold f_O_known
  exact pc_some h
theorem zs_M_prepare {L : Int} {b : Wd} {v2 v3 v4 : Int} {w : Wd} (h : SJ L b w) (hL : L + 1 ≤ 2147480000) : PC (f_M_prepare v2 v3 v4 w) (fun _ u => SJ (L + 1) b u) := by
  unfold f_M_prepare
  refine pc_lw (fun u1 e => ?_)
  replace h := sj_s24 h e rfl
  refine pc_lw (fun u2 e => ?_)
  replace h := sj_s24 h e rfl
  refine pc_call (zs_F_everybody h) (fun r3 u4 h => ?_)
  refine pc_call (zs_O_known h) (fun r5 u6 h => ?_)
  refine pc_lw (fun u7 e => ?_)
  replace h := sj_s24 h e rfl
  refine pc_call (zs_O_stay h) (fun r8 u9 h => ?_)
  refine pc_lw (fun u10 e => ?_)
  replace h := sj_s24 h e rfl
  refine pc_lw (fun u11 e => ?_)
  replace h := sj_s24 h e rfl
  refine pc_lw (fun u12 e => ?_)
  replace h := sj_s24 h e rfl
  refine pc_lw (fun u13 e => ?_)
  obtain ⟨h1, ⟨h2, h3⟩, h4⟩ := h
  have z := w32_sp (u12 24 4 + 1)
  have f : ∀ c', c' ≠ 24 → u13 c' = u12 c' := fun c' hc' => by rw [e]; exact st_row hc'
  have f4 : u13 24 4 = u12 24 4 + 1 := by rw [e, st_eq]; omega
  refine pc_some ⟨?_, ⟨by omega, fun k hk => ?_⟩, by omega⟩
  · rw [f 5 (by decide), f 7 (by decide), f 28 (by decide), f 29 (by decide), f 30 (by decide), f 31 (by decide), f 35 (by decide)]
    exact h1
  · rw [f4, f 27 (by decide)]
    have := h3 k hk
    omega
theorem zs_M_spread {L : Int} {b : Wd} {D : Nat} {f m x : Int} {w : Wd} (h : SJ L b w) : PC (f_M_spread D f m x w) (fun _ u => SJ L b u) := pc_w (spf_pc D) (fun _ _ q => sj_fm h q)
theorem zs_O_guests {L : Int} {b : Wd} {v0 : Int} {w : Wd} (h : SJ L b w) : PC (f_O_guests v0 w) (fun _ u => SJ L b u) := by
  unfold f_O_guests
  exact pc_some h
theorem zs_M_gather {L : Int} {b : Wd} {v2 v3 : Int} {w : Wd} (h : SJ L b w) (hL : L + 1 ≤ 2147480000) : PC (f_M_gather v2 v3 w) (fun _ u => SJ (L + 1) b u) := by
  unfold f_M_gather
  refine pc_call (zs_O_guests h) (fun r1 u2 h => ?_)
  refine pc_call (zs_M_prepare h (by omega)) (fun r3 u4 h => ?_)
  refine pc_call (zs_M_spread h) (fun r5 u6 h => ?_)
  exact pc_some (sj_mono h (by omega))
theorem zs_M_gatherBehind_34 {L : Int} {b : Wd} {v3 : Int} {w : Wd} (h : SJ L b w) : PC (f_M_gatherBehind_34 v3 w) (fun _ u => SJ L b u) := by
  unfold f_M_gatherBehind_34
  refine pc_call (zs_M_spread h) (fun r3 u4 h => ?_)
  exact pc_some h
theorem zs_JI_bitCount {L : Int} {b : Wd} {v0 : Int} {w : Wd} (h : SJ L b w) : PC (f_JI_bitCount v0 w) (fun _ u => SJ L b u) := by
  unfold f_JI_bitCount
  refine pc_let (fun x1 _ => ?_)
  refine pc_let (fun x2 _ => ?_)
  refine pc_let (fun x3 _ => ?_)
  refine pc_let (fun x4 _ => ?_)
  refine pc_let (fun x5 _ => ?_)
  exact pc_some h
theorem zs_M_gatherBehind {L : Int} {b : Wd} {v2 v3 : Int} {w : Wd} (h : SJ L b w) (hL : L + 1 ≤ 2147480000) : PC (f_M_gatherBehind v2 v3 w) (fun _ u => SJ (L + 1) b u) := by
  unfold f_M_gatherBehind
  refine pc_call (zs_M_prepare h (by omega)) (fun r1 u2 h => ?_)
  refine pc_ite (fun _ => ?_) (fun _ => ?_)
  · exact pc_w (zs_M_gatherBehind_34 h) (fun _ _ h => sj_mono h (by omega))
  · refine pc_call (zs_JI_bitCount h) (fun r5 u6 h => ?_)
    refine pc_ite (fun _ => ?_) (fun _ => ?_)
    · exact pc_some (sj_mono h (by omega))
    · exact pc_w (zs_M_gatherBehind_34 h) (fun _ _ h => sj_mono h (by omega))
theorem zs_F_strangers {L : Int} {b : Wd} {w : Wd} (h : SJ L b w) : PC (f_F_strangers  w) (fun _ u => SJ L b u) := by
  unfold f_F_strangers
  refine pc_call (zs_F_everybody h) (fun r1 u2 h => ?_)
  refine pc_call (zs_O_known h) (fun r3 u4 h => ?_)
  exact pc_some h
theorem zs_N_clear {L : Int} {b : Wd} {w : Wd} (h : SJ L b w) : PC (f_N_clear  w) (fun _ u => SJ L b u) := by
  unfold f_N_clear
  refine pc_lw (fun u1 e => ?_)
  replace h := sj_st h e (by decide)
  exact pc_some h
theorem zs_N_put {L : Int} {b : Wd} {v1 : Int} {w : Wd} (h : SJ L b w) : PC (f_N_put v1 w) (fun _ u => SJ L b u) := by
  unfold f_N_put
  refine pc_ite (fun _ => ?_) (fun _ => ?_)
  · exact pc_some h
  · refine pc_gd (fun _ => ?_)
    refine pc_lw (fun u1 e => ?_)
    replace h := sj_st h e (by decide)
    refine pc_lw (fun u2 e => ?_)
    replace h := sj_st h e (by decide)
    exact pc_some h
theorem zs_N_tell1 {L : Int} {b : Wd} {v1 : Int} {w : Wd} (h : SJ L b w) : PC (f_N_tell1 v1 w) (fun _ u => SJ L b u) := by
  unfold f_N_tell1
  refine pc_call (zs_N_clear h) (fun r1 u2 h => ?_)
  refine pc_call (zs_N_put h) (fun r3 u4 h => ?_)
  exact pc_some h
theorem zs_F_guests {L : Int} {b : Wd} {w : Wd} (h : SJ L b w) : PC (f_F_guests  w) (fun _ u => SJ L b u) := by
  unfold f_F_guests
  refine pc_call (zs_O_guests h) (fun r1 u2 h => ?_)
  exact pc_some h
theorem zs_M_moversOf {L : Int} {b : Wd} {v1 : Int} {w : Wd} (h : SJ L b w) : PC (f_M_moversOf v1 w) (fun _ u => SJ L b u) := by
  unfold f_M_moversOf
  refine pc_ite (fun _ => ?_) (fun _ => ?_)
  · exact pc_some h
  · refine pc_ite (fun _ => ?_) (fun _ => ?_)
    · exact pc_some h
    · refine pc_gd (fun _ => ?_)
      exact pc_some h
theorem zs_E_can_29 {L : Int} {b : Wd} : ∀ (n : Nat) {v1 v2 : Int} {w : Wd}, SJ L b w → PC (f_E_can_29 n v1 v2 w) (fun _ u => SJ L b u) := by
  intro n
  induction n with
  | zero => intros; exact pc_none
  | succ n ih =>
    intro v1 v2 w h
    rw [f_E_can_29]
    refine pc_ite (fun _ => ?_) (fun _ => ?_)
    · refine pc_call (zs_F_strangers h) (fun r3 u4 h => ?_)
      refine pc_call (zs_N_tell1 h) (fun r5 u6 h => ?_)
      refine pc_call (zs_F_guests h) (fun r7 u8 h => ?_)
      exact pc_some h
    · refine pc_call (zs_M_moversOf h) (fun r9 u10 h => ?_)
      refine pc_let (fun x11 _ => ?_)
      refine pc_let (fun x12 _ => ?_)
      exact ih h
theorem zs_E_can {L : Int} {b : Wd} {w : Wd} (h : SJ L b w) (hL : L + 1 ≤ 2147480000) : PC (f_E_can  w) (fun _ u => SJ (L + 1) b u) := by
  unfold f_E_can
  refine pc_call (zs_M_gather h (by omega)) (fun r1 u2 h => ?_)
  exact pc_w (zs_E_can_29 _ h) (fun _ _ h => sj_mono h (by omega))
theorem zs_E_largestWeek_62 {L : Int} {b : Wd} {k24 : Int → Int → Wd → Option (Int × Wd)} {v1 v2 : Int} {w : Wd} (h : SJ L b w) (hk : ∀ {a0 a1 : Int} {w : Wd}, SJ L b w → PC (k24 a0 a1 w) (fun _ u => SJ L b u)) : PC (f_E_largestWeek_62 k24 v1 v2 w) (fun _ u => SJ L b u) := by
  unfold f_E_largestWeek_62
  refine pc_let (fun x11 _ => ?_)
  exact hk h
theorem zs_E_largestWeek_24 {L : Int} {b : Wd} : ∀ (n : Nat) {v1 v2 : Int} {w : Wd}, SJ L b w → PC (f_E_largestWeek_24 n v1 v2 w) (fun _ u => SJ L b u) := by
  intro n
  induction n with
  | zero => intros; exact pc_none
  | succ n ih =>
    intro v1 v2 w h
    rw [f_E_largestWeek_24]
    refine pc_ite (fun _ => ?_) (fun _ => ?_)
    · exact pc_some h
    · refine pc_call (zs_M_moversOf h) (fun r3 u4 h => ?_)
      refine pc_call (zs_JI_bitCount h) (fun r5 u6 h => ?_)
      refine pc_call (zs_M_moversOf h) (fun r7 u8 h => ?_)
      refine pc_call (zs_JI_bitCount h) (fun r9 u10 h => ?_)
      refine pc_ite (fun _ => ?_) (fun _ => ?_)
      · exact (zs_E_largestWeek_62 h (fun h => ih h))
      · exact (zs_E_largestWeek_62 h (fun h => ih h))
theorem zs_E_largestWeek {L : Int} {b : Wd} {w : Wd} (h : SJ L b w) (hL : L + 1 ≤ 2147480000) : PC (f_E_largestWeek  w) (fun _ u => SJ (L + 1) b u) := by
  unfold f_E_largestWeek
  refine pc_call (zs_M_gather h (by omega)) (fun r1 u2 h => ?_)
  exact pc_w (zs_E_largestWeek_24 _ h) (fun _ _ h => sj_mono h (by omega))
theorem zs_E_lowest {L : Int} {b : Wd} {v0 : Int} {w : Wd} (h : SJ L b w) : PC (f_E_lowest v0 w) (fun _ u => SJ L b u) := by
  unfold f_E_lowest
  refine pc_ite (fun _ => ?_) (fun _ => ?_)
  · exact pc_some h
  · refine pc_call (zs_JI_bitCount h) (fun r1 u2 h => ?_)
    exact pc_some h
theorem zs_N_putFirst_12 {L : Int} {b : Wd} : ∀ (n : Nat) {v1 v2 : Int} {w : Wd}, SJ L b w → PC (f_N_putFirst_12 n v1 v2 w) (fun _ u => SJ L b u) := by
  intro n
  induction n with
  | zero => intros; exact pc_none
  | succ n ih =>
    intro v1 v2 w h
    rw [f_N_putFirst_12]
    refine pc_ite (fun _ => ?_) (fun _ => ?_)
    · exact pc_some h
    · refine pc_gd (fun _ => ?_)
      refine pc_gd (fun _ => ?_)
      refine pc_lw (fun u4 e => ?_)
      replace h := sj_st h e (by decide)
      refine pc_gd (fun _ => ?_)
      refine pc_lw (fun u5 e => ?_)
      replace h := sj_st h e (by decide)
      refine pc_let (fun x6 _ => ?_)
      exact ih h
theorem zs_N_putFirst {L : Int} {b : Wd} {v1 : Int} {w : Wd} (h : SJ L b w) : PC (f_N_putFirst v1 w) (fun _ u => SJ L b u) := by
  unfold f_N_putFirst
  refine pc_call (zs_N_put h) (fun r1 u2 h => ?_)
  refine pc_let (fun x3 _ => ?_)
  exact (zs_N_putFirst_12 _ h)
theorem zs_M_tellPairs_9 {L : Int} {b : Wd} : ∀ (n : Nat) {v3 v4 : Int} {w : Wd}, SJ L b w → PC (f_M_tellPairs_9 n v3 v4 w) (fun _ u => SJ L b u) := by
  intro n
  induction n with
  | zero => intros; exact pc_none
  | succ n ih =>
    intro v3 v4 w h
    rw [f_M_tellPairs_9]
    refine pc_ite (fun _ => ?_) (fun _ => ?_)
    · exact pc_some h
    · refine pc_ite (fun _ => ?_) (fun _ => ?_)
      · exact pc_some h
      · refine pc_ite (fun _ => ?_) (fun _ => ?_)
        · exact pc_some h
        · refine pc_gd (fun _ => ?_)
          refine pc_gd (fun _ => ?_)
          refine pc_call (zs_M_moversOf h) (fun r3 u4 h => ?_)
          refine pc_let (fun x5 _ => ?_)
          refine pc_call (zs_E_lowest h) (fun r6 u7 h => ?_)
          refine pc_call (zs_E_lowest h) (fun r8 u9 h => ?_)
          refine pc_call (zs_N_putFirst h) (fun r10 u11 h => ?_)
          refine pc_gd (fun _ => ?_)
          refine pc_let (fun x12 _ => ?_)
          refine pc_let (fun x13 _ => ?_)
          exact ih h
theorem zs_M_tellPairs {L : Int} {b : Wd} {v1 : Int} {w : Wd} (h : SJ L b w) : PC (f_M_tellPairs v1 w) (fun _ u => SJ L b u) := by
  unfold f_M_tellPairs
  refine pc_call (zs_N_clear h) (fun r1 u2 h => ?_)
  exact (zs_M_tellPairs_9 _ h)
theorem zs_E_pairs {L : Int} {b : Wd} {w : Wd} (h : SJ L b w) (hL : L + 1 ≤ 2147480000) : PC (f_E_pairs  w) (fun _ u => SJ (L + 1) b u) := by
  unfold f_E_pairs
  refine pc_call (zs_E_largestWeek h (by omega)) (fun r1 u2 h => ?_)
  refine pc_call (zs_M_tellPairs h) (fun r3 u4 h => ?_)
  exact pc_some (sj_mono h (by omega))
theorem zs_E_has {L : Int} {b : Wd} {v0 v1 : Int} {w : Wd} (h : SJ L b w) : PC (f_E_has v0 v1 w) (fun _ u => SJ L b u) := by
  unfold f_E_has
  refine pc_ite (fun _ => ?_) (fun _ => ?_)
  · exact pc_some h
  · refine pc_ite (fun _ => ?_) (fun _ => ?_)
    · exact pc_some h
    · refine pc_ite (fun _ => ?_) (fun _ => ?_)
      · exact pc_some h
      · exact pc_some h
theorem zs_F_knownBy_31 {L : Int} {b : Wd} {k4 : Int → Int → Int → Wd → Option (Int × Wd)} {v1 v3 s0 s1 : Int} {w : Wd} (h : SJ L b w) (hk : ∀ {a0 a1 a2 : Int} {w : Wd}, SJ L b w → PC (k4 a0 a1 a2 w) (fun _ u => SJ L b u)) : PC (f_F_knownBy_31 k4 v1 v3 s0 s1 w) (fun _ u => SJ L b u) := by
  unfold f_F_knownBy_31
  refine pc_let (fun x3 _ => ?_)
  refine pc_let (fun x4 _ => ?_)
  exact hk h
theorem zs_F_knownBy_4 {L : Int} {b : Wd} : ∀ (n : Nat) {v1 v2 v3 : Int} {w : Wd}, SJ L b w → PC (f_F_knownBy_4 n v1 v2 v3 w) (fun _ u => SJ L b u) := by
  intro n
  induction n with
  | zero => intros; exact pc_none
  | succ n ih =>
    intro v1 v2 v3 w h
    rw [f_F_knownBy_4]
    refine pc_ite (fun _ => ?_) (fun _ => ?_)
    · exact pc_some h
    · refine pc_call (zs_E_has h) (fun r1 u2 h => ?_)
      refine pc_ite (fun _ => ?_) (fun _ => ?_)
      · exact (zs_F_knownBy_31 h (fun h => ih h))
      · refine pc_gd (fun _ => ?_)
        exact (zs_F_knownBy_31 h (fun h => ih h))
theorem zs_F_knownBy {L : Int} {b : Wd} {v1 : Int} {w : Wd} (h : SJ L b w) : PC (f_F_knownBy v1 w) (fun _ u => SJ L b u) := by
  unfold f_F_knownBy
  exact (zs_F_knownBy_4 _ h)
theorem zs_F_free {L : Int} {b : Wd} {w : Wd} (h : SJ L b w) : PC (f_F_free  w) (fun _ u => SJ L b u) := by
  unfold f_F_free
  refine pc_call (zs_F_strangers h) (fun r1 u2 h => ?_)
  exact pc_some h
theorem zs_N_tell2 {L : Int} {b : Wd} {v1 v2 : Int} {w : Wd} (h : SJ L b w) : PC (f_N_tell2 v1 v2 w) (fun _ u => SJ L b u) := by
  unfold f_N_tell2
  refine pc_call (zs_N_tell1 h) (fun r1 u2 h => ?_)
  refine pc_call (zs_N_put h) (fun r3 u4 h => ?_)
  exact pc_some h
theorem zs_E_bars_89 {L : Int} {b : Wd} {k32 : Int → Int → Int → Wd → Option (Int × Wd)} {v1 v2 v3 : Int} {w : Wd} (h : SJ L b w) (hk : ∀ {a0 a1 a2 : Int} {w : Wd}, SJ L b w → PC (k32 a0 a1 a2 w) (fun _ u => SJ L b u)) : PC (f_E_bars_89 k32 v1 v2 v3 w) (fun _ u => SJ L b u) := by
  unfold f_E_bars_89
  refine pc_let (fun x17 _ => ?_)
  exact hk h
theorem zs_E_bars_32 {L : Int} {b : Wd} : ∀ (n : Nat) {v1 v2 v3 : Int} {w : Wd}, SJ L b w → PC (f_E_bars_32 n v1 v2 v3 w) (fun _ u => SJ L b u) := by
  intro n
  induction n with
  | zero => intros; exact pc_none
  | succ n ih =>
    intro v1 v2 v3 w h
    rw [f_E_bars_32]
    refine pc_ite (fun _ => ?_) (fun _ => ?_)
    · exact pc_some h
    · refine pc_call (zs_F_knownBy h) (fun r12 u13 h => ?_)
      refine pc_call (zs_F_free h) (fun r14 u15 h => ?_)
      refine pc_let (fun x16 _ => ?_)
      refine pc_ite (fun _ => ?_) (fun _ => ?_)
      · refine pc_call (zs_JI_bitCount h) (fun r18 u19 h => ?_)
        refine pc_call (zs_JI_bitCount h) (fun r20 u21 h => ?_)
        refine pc_ite (fun _ => ?_) (fun _ => ?_)
        · refine pc_call (zs_N_tell2 h) (fun r22 u23 h => ?_)
          exact pc_some h
        · exact (zs_E_bars_89 h (fun h => ih h))
      · exact (zs_E_bars_89 h (fun h => ih h))
theorem zs_E_bars {L : Int} {b : Wd} {w : Wd} (h : SJ L b w) (hL : L + 1 ≤ 2147480000) : PC (f_E_bars  w) (fun _ u => SJ (L + 1) b u) := by
  unfold f_E_bars
  refine pc_call (zs_F_guests h) (fun r1 u2 h => ?_)
  refine pc_call (zs_JI_bitCount h) (fun r3 u4 h => ?_)
  refine pc_call (zs_E_largestWeek h (by omega)) (fun r5 u6 h => ?_)
  refine pc_call (zs_M_moversOf h) (fun r7 u8 h => ?_)
  refine pc_call (zs_JI_bitCount h) (fun r9 u10 h => ?_)
  refine pc_ite (fun _ => pc_none) (fun _ => ?_)
  refine pc_let (fun x11 _ => ?_)
  exact pc_w (zs_E_bars_32 _ h) (fun _ _ h => sj_mono h (by omega))
theorem zs_S_guests {L : Int} {b : Wd} {v1 : Int} {w : Wd} (h : SJ L b w) : PC (f_S_guests v1 w) (fun _ u => SJ L b u) := by
  unfold f_S_guests
  refine pc_ite (fun _ => ?_) (fun _ => ?_)
  · exact pc_some h
  · refine pc_ite (fun _ => ?_) (fun _ => ?_)
    · exact pc_some h
    · refine pc_gd (fun _ => ?_)
      refine pc_call (zs_O_guests h) (fun r1 u2 h => ?_)
      exact pc_some h
theorem zs_O_out {L : Int} {b : Wd} {v0 : Int} {w : Wd} (h : SJ L b w) : PC (f_O_out v0 w) (fun _ u => SJ L b u) := by
  unfold f_O_out
  exact pc_some h
theorem zs_O_after {L : Int} {b : Wd} {v0 v1 v2 : Int} {w : Wd} (h : SJ L b w) : PC (f_O_after v0 v1 v2 w) (fun _ u => SJ L b u) := by
  unfold f_O_after
  refine pc_call (zs_O_lateOne h) (fun r1 u2 h => ?_)
  refine pc_let (fun x3 _ => ?_)
  refine pc_call (zs_O_lateTwo h) (fun r4 u5 h => ?_)
  refine pc_let (fun x6 _ => ?_)
  refine pc_call (zs_O_out h) (fun r7 u8 h => ?_)
  refine pc_call (zs_O_guests h) (fun r9 u10 h => ?_)
  refine pc_let (fun x11 _ => ?_)
  exact pc_some h
theorem zs_S_slotOf_14 {L : Int} {b : Wd} : ∀ (n : Nat) {v1 v2 v3 : Int} {w : Wd}, SJ L b w → PC (f_S_slotOf_14 n v1 v2 v3 w) (fun _ u => SJ L b u) := by
  intro n
  induction n with
  | zero => intros; exact pc_none
  | succ n ih =>
    intro v1 v2 v3 w h
    rw [f_S_slotOf_14]
    refine pc_ite (fun _ => ?_) (fun _ => ?_)
    · exact pc_some h
    · refine pc_gd (fun _ => ?_)
      refine pc_ite (fun _ => ?_) (fun _ => ?_)
      · exact pc_some h
      · refine pc_gd (fun _ => ?_)
        refine pc_gd (fun _ => ?_)
        refine pc_ite (fun _ => ?_) (fun _ => ?_)
        · exact pc_some h
        · refine pc_ite (fun _ => pc_none) (fun _ => ?_)
          refine pc_let (fun x2 _ => ?_)
          refine pc_let (fun x3 _ => ?_)
          exact ih h
theorem zs_S_slotOf {L : Int} {b : Wd} {v1 : Int} {w : Wd} (h : SJ L b w) : PC (f_S_slotOf v1 w) (fun _ u => SJ L b u) := by
  unfold f_S_slotOf
  refine pc_ite (fun _ => pc_none) (fun _ => ?_)
  refine pc_let (fun x1 _ => ?_)
  exact (zs_S_slotOf_14 _ h)
theorem zs_S_leftOf {L : Int} {b : Wd} {v1 : Int} {w : Wd} (h : SJ L b w) : PC (f_S_leftOf v1 w) (fun _ u => SJ L b u) := by
  unfold f_S_leftOf
  refine pc_call (zs_S_slotOf h) (fun r1 u2 h => ?_)
  refine pc_gd (fun _ => ?_)
  refine pc_let (fun x3 _ => ?_)
  refine pc_ite (fun _ => ?_) (fun _ => ?_)
  · exact pc_some h
  · refine pc_ite (fun _ => ?_) (fun _ => ?_)
    · exact pc_some h
    · refine pc_gd (fun _ => ?_)
      exact pc_some h
theorem zs_S_leftBehind_29 {L : Int} {b : Wd} : ∀ (n : Nat) {v1 v4 v6 : Int} {w : Wd}, SJ L b w → PC (f_S_leftBehind_29 n v1 v4 v6 w) (fun _ u => SJ L b u) := by
  intro n
  induction n with
  | zero => intros; exact pc_none
  | succ n ih =>
    intro v1 v4 v6 w h
    rw [f_S_leftBehind_29]
    refine pc_ite (fun _ => ?_) (fun _ => ?_)
    · exact pc_some h
    · refine pc_gd (fun _ => ?_)
      refine pc_call (zs_M_moversOf h) (fun r5 u6 h => ?_)
      refine pc_call (zs_O_after h) (fun r7 u8 h => ?_)
      refine pc_call (zs_S_leftOf h) (fun r9 u10 h => ?_)
      refine pc_let (fun x11 _ => ?_)
      refine pc_let (fun x12 _ => ?_)
      exact ih h
theorem zs_S_leftBehind {L : Int} {b : Wd} {v1 : Int} {w : Wd} (h : SJ L b w) (hL : L + 1 ≤ 2147480000) : PC (f_S_leftBehind v1 w) (fun _ u => SJ (L + 1) b u) := by
  unfold f_S_leftBehind
  refine pc_call (zs_S_guests h) (fun r1 u2 h => ?_)
  refine pc_ite (fun _ => ?_) (fun _ => ?_)
  · exact pc_some (sj_mono h (by omega))
  · refine pc_gd (fun _ => ?_)
    refine pc_call (zs_M_gather h (by omega)) (fun r3 u4 h => ?_)
    exact pc_w (zs_S_leftBehind_29 _ h) (fun _ _ h => sj_mono h (by omega))
theorem zs_F_pricesOf_31 {L : Int} {b : Wd} {k4 : Int → Int → Int → Wd → Option (Int × Wd)} {v1 v3 s0 s1 : Int} {w : Wd} (h : SJ L b w) (hk : ∀ {a0 a1 a2 : Int} {w : Wd}, SJ L b w → PC (k4 a0 a1 a2 w) (fun _ u => SJ L b u)) : PC (f_F_pricesOf_31 k4 v1 v3 s0 s1 w) (fun _ u => SJ L b u) := by
  unfold f_F_pricesOf_31
  refine pc_let (fun x3 _ => ?_)
  refine pc_let (fun x4 _ => ?_)
  exact hk h
theorem zs_F_pricesOf_4 {L : Int} {b : Wd} : ∀ (n : Nat) {v1 v2 v3 : Int} {w : Wd}, SJ L b w → PC (f_F_pricesOf_4 n v1 v2 v3 w) (fun _ u => SJ L b u) := by
  intro n
  induction n with
  | zero => intros; exact pc_none
  | succ n ih =>
    intro v1 v2 v3 w h
    rw [f_F_pricesOf_4]
    refine pc_ite (fun _ => ?_) (fun _ => ?_)
    · exact pc_some h
    · refine pc_call (zs_E_has h) (fun r1 u2 h => ?_)
      refine pc_ite (fun _ => ?_) (fun _ => ?_)
      · exact (zs_F_pricesOf_31 h (fun h => ih h))
      · refine pc_gd (fun _ => ?_)
        exact (zs_F_pricesOf_31 h (fun h => ih h))
theorem zs_F_pricesOf {L : Int} {b : Wd} {v1 : Int} {w : Wd} (h : SJ L b w) : PC (f_F_pricesOf v1 w) (fun _ u => SJ L b u) := by
  unfold f_F_pricesOf
  exact (zs_F_pricesOf_4 _ h)
theorem zs_S_paidFor {L : Int} {b : Wd} {v1 : Int} {w : Wd} (h : SJ L b w) : PC (f_S_paidFor v1 w) (fun _ u => SJ L b u) := by
  unfold f_S_paidFor
  refine pc_ite (fun _ => ?_) (fun _ => ?_)
  · exact pc_some h
  · refine pc_ite (fun _ => ?_) (fun _ => ?_)
    · exact pc_some h
    · refine pc_call (zs_F_strangers h) (fun r1 u2 h => ?_)
      refine pc_gd (fun _ => ?_)
      refine pc_call (zs_O_known h) (fun r3 u4 h => ?_)
      refine pc_call (zs_F_pricesOf h) (fun r5 u6 h => ?_)
      exact pc_some h
theorem zs_S_leads {L : Int} {b : Wd} {v1 v2 : Int} {w : Wd} (h : SJ L b w) : PC (f_S_leads v1 v2 w) (fun _ u => SJ L b u) := by
  unfold f_S_leads
  refine pc_call (zs_S_leftOf h) (fun r1 u2 h => ?_)
  refine pc_ite (fun _ => ?_) (fun _ => ?_)
  · exact pc_some h
  · exact pc_some h
theorem zs_E_firstThatLeads_2 {L : Int} {b : Wd} : ∀ (n : Nat) {v1 v2 : Int} {w : Wd}, SJ L b w → PC (f_E_firstThatLeads_2 n v1 v2 w) (fun _ u => SJ L b u) := by
  intro n
  induction n with
  | zero => intros; exact pc_none
  | succ n ih =>
    intro v1 v2 w h
    rw [f_E_firstThatLeads_2]
    refine pc_ite (fun _ => ?_) (fun _ => ?_)
    · exact pc_some h
    · refine pc_call (zs_M_moversOf h) (fun r1 u2 h => ?_)
      refine pc_call (zs_O_after h) (fun r3 u4 h => ?_)
      refine pc_call (zs_S_leads h) (fun r5 u6 h => ?_)
      refine pc_ite (fun _ => ?_) (fun _ => ?_)
      · refine pc_let (fun x7 _ => ?_)
        exact ih h
      · exact pc_some h
theorem zs_E_firstThatLeads {L : Int} {b : Wd} {v1 : Int} {w : Wd} (h : SJ L b w) : PC (f_E_firstThatLeads v1 w) (fun _ u => SJ L b u) := by
  unfold f_E_firstThatLeads
  exact (zs_E_firstThatLeads_2 _ h)
theorem zs_E_tellFirstWeek {L : Int} {b : Wd} {v1 : Int} {w : Wd} (h : SJ L b w) (hL : L + 1 ≤ 2147480000) : PC (f_E_tellFirstWeek v1 w) (fun _ u => SJ (L + 1) b u) := by
  unfold f_E_tellFirstWeek
  refine pc_call (zs_M_gather h (by omega)) (fun r1 u2 h => ?_)
  refine pc_call (zs_E_firstThatLeads h) (fun r3 u4 h => ?_)
  refine pc_ite (fun _ => ?_) (fun _ => ?_)
  · exact pc_some (sj_mono h (by omega))
  · refine pc_call (zs_M_tellPairs h) (fun r5 u6 h => ?_)
    exact pc_some (sj_mono h (by omega))
theorem zs_S_mostGuests_4 {L : Int} {b : Wd} : ∀ (n : Nat) {v1 v2 : Int} {w : Wd}, SJ L b w → PC (f_S_mostGuests_4 n v1 v2 w) (fun _ u => SJ L b u) := by
  intro n
  induction n with
  | zero => intros; exact pc_none
  | succ n ih =>
    intro v1 v2 w h
    rw [f_S_mostGuests_4]
    refine pc_ite (fun _ => ?_) (fun _ => ?_)
    · exact pc_some h
    · refine pc_call (zs_S_guests h) (fun r1 u2 h => ?_)
      refine pc_call (zs_JI_bitCount h) (fun r3 u4 h => ?_)
      refine pc_let (fun x5 _ => ?_)
      refine pc_let (fun x6 _ => ?_)
      exact ih h
theorem zs_S_mostGuests {L : Int} {b : Wd} {w : Wd} (h : SJ L b w) : PC (f_S_mostGuests  w) (fun _ u => SJ L b u) := by
  unfold f_S_mostGuests
  exact (zs_S_mostGuests_4 _ h)
theorem zs_E_states_53 {L : Int} {b : Wd} {k25 : Int → Int → Wd → Option (Int × Wd)} {v2 s0 s1 : Int} {w : Wd} (h : SJ L b w) (hk : ∀ {a0 a1 : Int} {w : Wd}, SJ L b w → PC (k25 a0 a1 w) (fun _ u => SJ L b u)) : PC (f_E_states_53 k25 v2 s0 s1 w) (fun _ u => SJ L b u) := by
  unfold f_E_states_53
  refine pc_let (fun x9 _ => ?_)
  refine pc_let (fun x10 _ => ?_)
  exact hk h
theorem zs_E_states_25 {L : Int} {b : Wd} : ∀ (n : Nat) {v1 v2 : Int} {w : Wd}, SJ L b w → PC (f_E_states_25 n v1 v2 w) (fun _ u => SJ L b u) := by
  intro n
  induction n with
  | zero => intros; exact pc_none
  | succ n ih =>
    intro v1 v2 w h
    rw [f_E_states_25]
    refine pc_ite (fun _ => ?_) (fun _ => ?_)
    · refine pc_call (zs_S_mostGuests h) (fun r3 u4 h => ?_)
      refine pc_call (zs_N_tell2 h) (fun r5 u6 h => ?_)
      exact pc_some h
    · refine pc_call (zs_S_guests h) (fun r7 u8 h => ?_)
      refine pc_ite (fun _ => ?_) (fun _ => ?_)
      · exact (zs_E_states_53 h (fun h => ih h))
      · exact (zs_E_states_53 h (fun h => ih h))
theorem zs_S_weeksOf {L : Int} {b : Wd} {v1 : Int} {w : Wd} (h : SJ L b w) : PC (f_S_weeksOf v1 w) (fun _ u => SJ L b u) := by
  unfold f_S_weeksOf
  refine pc_ite (fun _ => ?_) (fun _ => ?_)
  · exact pc_some h
  · refine pc_ite (fun _ => ?_) (fun _ => ?_)
    · exact pc_some h
    · refine pc_gd (fun _ => ?_)
      exact pc_some h
theorem zs_S_canBe {L : Int} {b : Wd} {v1 v2 : Int} {w : Wd} (h : SJ L b w) : PC (f_S_canBe v1 v2 w) (fun _ u => SJ L b u) := by
  unfold f_S_canBe
  refine pc_call (zs_S_weeksOf h) (fun r1 u2 h => ?_)
  refine pc_ite (fun _ => ?_) (fun _ => ?_)
  · exact pc_some h
  · exact pc_some h
theorem zs_E_most_82 {L : Int} {b : Wd} {k37 : Int → Int → Int → Int → Wd → Option (Int × Wd)} {v1 v2 v3 v4 : Int} {w : Wd} (h : SJ L b w) (hk : ∀ {a0 a1 a2 a3 : Int} {w : Wd}, SJ L b w → PC (k37 a0 a1 a2 a3 w) (fun _ u => SJ L b u)) : PC (f_E_most_82 k37 v1 v2 v3 v4 w) (fun _ u => SJ L b u) := by
  unfold f_E_most_82
  refine pc_let (fun x9 _ => ?_)
  exact hk h
theorem zs_E_most_37 {L : Int} {b : Wd} : ∀ (n : Nat) {v1 v2 v3 v4 : Int} {w : Wd}, SJ L b w → PC (f_E_most_37 n v1 v2 v3 v4 w) (fun _ u => SJ L b u) := by
  intro n
  induction n with
  | zero => intros; exact pc_none
  | succ n ih =>
    intro v1 v2 v3 v4 w h
    rw [f_E_most_37]
    refine pc_ite (fun _ => ?_) (fun _ => ?_)
    · refine pc_call (zs_N_tell1 h) (fun r5 u6 h => ?_)
      exact pc_some h
    · refine pc_call (zs_S_canBe h) (fun r7 u8 h => ?_)
      refine pc_ite (fun _ => ?_) (fun _ => ?_)
      · exact (zs_E_most_82 h (fun h => ih h))
      · refine pc_call (zs_S_guests h) (fun r10 u11 h => ?_)
        refine pc_call (zs_JI_bitCount h) (fun r12 u13 h => ?_)
        refine pc_let (fun x14 _ => ?_)
        refine pc_let (fun x15 _ => ?_)
        exact (zs_E_most_82 h (fun h => ih h))
theorem zs_E_reach_100 {L : Int} {b : Wd} {k39 : Int → Int → Int → Int → Wd → Option (Int × Wd)} {v1 v2 v3 v4 : Int} {w : Wd} (h : SJ L b w) (hk : ∀ {a0 a1 a2 a3 : Int} {w : Wd}, SJ L b w → PC (k39 a0 a1 a2 a3 w) (fun _ u => SJ L b u)) : PC (f_E_reach_100 k39 v1 v2 v3 v4 w) (fun _ u => SJ L b u) := by
  unfold f_E_reach_100
  refine pc_let (fun x9 _ => ?_)
  exact hk h
theorem zs_E_reach_39 {L : Int} {b : Wd} : ∀ (n : Nat) {v1 v2 v3 v4 : Int} {w : Wd}, SJ L b w → PC (f_E_reach_39 n v1 v2 v3 v4 w) (fun _ u => SJ L b u) := by
  intro n
  induction n with
  | zero => intros; exact pc_none
  | succ n ih =>
    intro v1 v2 v3 v4 w h
    rw [f_E_reach_39]
    refine pc_ite (fun _ => ?_) (fun _ => ?_)
    · refine pc_call (zs_N_tell1 h) (fun r5 u6 h => ?_)
      exact pc_some h
    · refine pc_call (zs_S_canBe h) (fun r7 u8 h => ?_)
      refine pc_ite (fun _ => ?_) (fun _ => ?_)
      · exact (zs_E_reach_100 h (fun h => ih h))
      · refine pc_call (zs_S_guests h) (fun r10 u11 h => ?_)
        refine pc_ite (fun _ => ?_) (fun _ => ?_)
        · exact (zs_E_reach_100 h (fun h => ih h))
        · refine pc_call (zs_S_guests h) (fun r12 u13 h => ?_)
          refine pc_let (fun x14 _ => ?_)
          refine pc_call (zs_S_guests h) (fun r15 u16 h => ?_)
          refine pc_let (fun x17 _ => ?_)
          exact (zs_E_reach_100 h (fun h => ih h))
theorem zs_S_fewestGuests_42 {L : Int} {b : Wd} {k4 : Int → Int → Int → Wd → Option (Int × Wd)} {v1 v2 v3 : Int} {w : Wd} (h : SJ L b w) (hk : ∀ {a0 a1 a2 : Int} {w : Wd}, SJ L b w → PC (k4 a0 a1 a2 w) (fun _ u => SJ L b u)) : PC (f_S_fewestGuests_42 k4 v1 v2 v3 w) (fun _ u => SJ L b u) := by
  unfold f_S_fewestGuests_42
  refine pc_let (fun x3 _ => ?_)
  exact hk h
theorem zs_E_less_10 {L : Int} {b : Wd} {v1 : Int} {w : Wd} (h : SJ L b w) : PC (f_E_less_10 v1 w) (fun _ u => SJ L b u) := by
  unfold f_E_less_10
  exact pc_some h
theorem zs_E_less {L : Int} {b : Wd} {v0 v1 : Int} {w : Wd} (h : SJ L b w) : PC (f_E_less v0 v1 w) (fun _ u => SJ L b u) := by
  unfold f_E_less
  refine pc_ite (fun _ => ?_) (fun _ => ?_)
  · exact (zs_E_less_10 h)
  · refine pc_ite (fun _ => ?_) (fun _ => ?_)
    · exact pc_some h
    · exact (zs_E_less_10 h)
theorem zs_S_fewestGuests_4 {L : Int} {b : Wd} : ∀ (n : Nat) {v1 v2 v3 : Int} {w : Wd}, SJ L b w → PC (f_S_fewestGuests_4 n v1 v2 v3 w) (fun _ u => SJ L b u) := by
  intro n
  induction n with
  | zero => intros; exact pc_none
  | succ n ih =>
    intro v1 v2 v3 w h
    rw [f_S_fewestGuests_4]
    refine pc_ite (fun _ => ?_) (fun _ => ?_)
    · exact pc_some h
    · refine pc_call (zs_S_canBe h) (fun r1 u2 h => ?_)
      refine pc_ite (fun _ => ?_) (fun _ => ?_)
      · exact (zs_S_fewestGuests_42 h (fun h => ih h))
      · refine pc_call (zs_S_guests h) (fun r4 u5 h => ?_)
        refine pc_ite (fun _ => ?_) (fun _ => ?_)
        · exact (zs_S_fewestGuests_42 h (fun h => ih h))
        · refine pc_call (zs_S_guests h) (fun r6 u7 h => ?_)
          refine pc_call (zs_JI_bitCount h) (fun r8 u9 h => ?_)
          refine pc_call (zs_E_less h) (fun r10 u11 h => ?_)
          exact (zs_S_fewestGuests_42 h (fun h => ih h))
theorem zs_S_fewestGuests {L : Int} {b : Wd} {v1 : Int} {w : Wd} (h : SJ L b w) : PC (f_S_fewestGuests v1 w) (fun _ u => SJ L b u) := by
  unfold f_S_fewestGuests
  exact (zs_S_fewestGuests_4 _ h)
theorem zs_E_firstWeek_2 {L : Int} {b : Wd} : ∀ (n : Nat) {v0 v2 : Int} {w : Wd}, SJ L b w → PC (f_E_firstWeek_2 n v0 v2 w) (fun _ u => SJ L b u) := by
  intro n
  induction n with
  | zero => intros; exact pc_none
  | succ n ih =>
    intro v0 v2 w h
    rw [f_E_firstWeek_2]
    refine pc_ite (fun _ => ?_) (fun _ => ?_)
    · exact pc_some h
    · refine pc_ite (fun _ => ?_) (fun _ => ?_)
      · refine pc_let (fun x1 _ => ?_)
        exact ih h
      · exact pc_some h
theorem zs_E_firstWeek {L : Int} {b : Wd} {v0 : Int} {w : Wd} (h : SJ L b w) : PC (f_E_firstWeek v0 w) (fun _ u => SJ L b u) := by
  unfold f_E_firstWeek
  exact (zs_E_firstWeek_2 _ h)
theorem zs_E_crowd_154 {L : Int} {b : Wd} {k92 : Int → Int → Int → Int → Wd → Option (Int × Wd)} {v1 v4 v5 v6 : Int} {w : Wd} (h : SJ L b w) (hk : ∀ {a0 a1 a2 a3 : Int} {w : Wd}, SJ L b w → PC (k92 a0 a1 a2 a3 w) (fun _ u => SJ L b u)) : PC (f_E_crowd_154 k92 v1 v4 v5 v6 w) (fun _ u => SJ L b u) := by
  unfold f_E_crowd_154
  refine pc_let (fun x13 _ => ?_)
  exact hk h
theorem zs_E_crowd_92 {L : Int} {b : Wd} : ∀ (n : Nat) {v1 v4 v5 v6 : Int} {w : Wd}, SJ L b w → PC (f_E_crowd_92 n v1 v4 v5 v6 w) (fun _ u => SJ L b u) := by
  intro n
  induction n with
  | zero => intros; exact pc_none
  | succ n ih =>
    intro v1 v4 v5 v6 w h
    rw [f_E_crowd_92]
    refine pc_ite (fun _ => ?_) (fun _ => ?_)
    · refine pc_call (zs_N_tell2 h) (fun r7 u8 h => ?_)
      exact pc_some h
    · refine pc_call (zs_S_guests h) (fun r9 u10 h => ?_)
      refine pc_call (zs_JI_bitCount h) (fun r11 u12 h => ?_)
      refine pc_ite (fun _ => ?_) (fun _ => ?_)
      · refine pc_call (zs_S_canBe h) (fun r14 u15 h => ?_)
        refine pc_ite (fun _ => ?_) (fun _ => ?_)
        · exact (zs_E_crowd_154 h (fun h => ih h))
        · refine pc_call (zs_S_paidFor h) (fun r16 u17 h => ?_)
          refine pc_call (zs_E_less h) (fun r18 u19 h => ?_)
          exact (zs_E_crowd_154 h (fun h => ih h))
      · exact (zs_E_crowd_154 h (fun h => ih h))
theorem zs_E_crowd_74 {L : Int} {b : Wd} {k34 : Int → Int → Int → Wd → Option (Int × Wd)} {v1 v2 v4 : Int} {w : Wd} (h : SJ L b w) (hk : ∀ {a0 a1 a2 : Int} {w : Wd}, SJ L b w → PC (k34 a0 a1 a2 w) (fun _ u => SJ L b u)) : PC (f_E_crowd_74 k34 v1 v2 v4 w) (fun _ u => SJ L b u) := by
  unfold f_E_crowd_74
  refine pc_let (fun x24 _ => ?_)
  exact hk h
theorem zs_E_crowd_34 {L : Int} {b : Wd} : ∀ (n : Nat) {v1 v2 v4 : Int} {w : Wd}, SJ L b w → PC (f_E_crowd_34 n v1 v2 v4 w) (fun _ u => SJ L b u) := by
  intro n
  induction n with
  | zero => intros; exact pc_none
  | succ n ih =>
    intro v1 v2 v4 w h
    rw [f_E_crowd_34]
    refine pc_ite (fun _ => ?_) (fun _ => ?_)
    · refine pc_call (zs_E_firstWeek h) (fun r5 u6 h => ?_)
      exact (zs_E_crowd_92 _ h)
    · refine pc_call (zs_S_guests h) (fun r20 u21 h => ?_)
      refine pc_call (zs_JI_bitCount h) (fun r22 u23 h => ?_)
      refine pc_ite (fun _ => ?_) (fun _ => ?_)
      · refine pc_call (zs_S_weeksOf h) (fun r25 u26 h => ?_)
        refine pc_let (fun x27 _ => ?_)
        exact (zs_E_crowd_74 h (fun h => ih h))
      · exact (zs_E_crowd_74 h (fun h => ih h))
theorem zs_S_leastPaid_61 {L : Int} {b : Wd} {k6 : Int → Int → Int → Int → Wd → Option (Int × Wd)} {v1 v2 v4 v5 : Int} {w : Wd} (h : SJ L b w) (hk : ∀ {a0 a1 a2 a3 : Int} {w : Wd}, SJ L b w → PC (k6 a0 a1 a2 a3 w) (fun _ u => SJ L b u)) : PC (f_S_leastPaid_61 k6 v1 v2 v4 v5 w) (fun _ u => SJ L b u) := by
  unfold f_S_leastPaid_61
  refine pc_let (fun x3 _ => ?_)
  exact hk h
theorem zs_S_leastPaid_6 {L : Int} {b : Wd} : ∀ (n : Nat) {v1 v2 v4 v5 : Int} {w : Wd}, SJ L b w → PC (f_S_leastPaid_6 n v1 v2 v4 v5 w) (fun _ u => SJ L b u) := by
  intro n
  induction n with
  | zero => intros; exact pc_none
  | succ n ih =>
    intro v1 v2 v4 v5 w h
    rw [f_S_leastPaid_6]
    refine pc_ite (fun _ => ?_) (fun _ => ?_)
    · exact pc_some h
    · refine pc_call (zs_S_canBe h) (fun r1 u2 h => ?_)
      refine pc_ite (fun _ => ?_) (fun _ => ?_)
      · exact (zs_S_leastPaid_61 h (fun h => ih h))
      · refine pc_call (zs_S_guests h) (fun r4 u5 h => ?_)
        refine pc_ite (fun _ => ?_) (fun _ => ?_)
        · exact (zs_S_leastPaid_61 h (fun h => ih h))
        · refine pc_call (zs_S_guests h) (fun r6 u7 h => ?_)
          refine pc_ite (fun _ => ?_) (fun _ => ?_)
          · refine pc_call (zs_S_paidFor h) (fun r8 u9 h => ?_)
            refine pc_call (zs_E_less h) (fun r10 u11 h => ?_)
            exact (zs_S_leastPaid_61 h (fun h => ih h))
          · exact (zs_S_leastPaid_61 h (fun h => ih h))
theorem zs_S_leastPaid {L : Int} {b : Wd} {v1 v2 : Int} {w : Wd} (h : SJ L b w) : PC (f_S_leastPaid v1 v2 w) (fun _ u => SJ L b u) := by
  unfold f_S_leastPaid
  exact (zs_S_leastPaid_6 _ h)
theorem zs_S_weeksWith_61 {L : Int} {b : Wd} {k5 : Int → Int → Int → Int → Wd → Option (Int × Wd)} {v1 v2 v3 v5 : Int} {w : Wd} (h : SJ L b w) (hk : ∀ {a0 a1 a2 a3 : Int} {w : Wd}, SJ L b w → PC (k5 a0 a1 a2 a3 w) (fun _ u => SJ L b u)) : PC (f_S_weeksWith_61 k5 v1 v2 v3 v5 w) (fun _ u => SJ L b u) := by
  unfold f_S_weeksWith_61
  refine pc_let (fun x3 _ => ?_)
  exact hk h
theorem zs_S_weeksWith_5 {L : Int} {b : Wd} : ∀ (n : Nat) {v1 v2 v3 v5 : Int} {w : Wd}, SJ L b w → PC (f_S_weeksWith_5 n v1 v2 v3 v5 w) (fun _ u => SJ L b u) := by
  intro n
  induction n with
  | zero => intros; exact pc_none
  | succ n ih =>
    intro v1 v2 v3 v5 w h
    rw [f_S_weeksWith_5]
    refine pc_ite (fun _ => ?_) (fun _ => ?_)
    · exact pc_some h
    · refine pc_call (zs_S_guests h) (fun r1 u2 h => ?_)
      refine pc_ite (fun _ => ?_) (fun _ => ?_)
      · exact (zs_S_weeksWith_61 h (fun h => ih h))
      · refine pc_call (zs_S_guests h) (fun r4 u5 h => ?_)
        refine pc_ite (fun _ => ?_) (fun _ => ?_)
        · refine pc_gd (fun _ => ?_)
          refine pc_call (zs_O_known h) (fun r6 u7 h => ?_)
          refine pc_ite (fun _ => ?_) (fun _ => ?_)
          · refine pc_gd (fun _ => ?_)
            refine pc_let (fun x8 _ => ?_)
            exact (zs_S_weeksWith_61 h (fun h => ih h))
          · exact (zs_S_weeksWith_61 h (fun h => ih h))
        · exact (zs_S_weeksWith_61 h (fun h => ih h))
theorem zs_S_weeksWith {L : Int} {b : Wd} {v1 v2 : Int} {w : Wd} (h : SJ L b w) : PC (f_S_weeksWith v1 v2 w) (fun _ u => SJ L b u) := by
  unfold f_S_weeksWith
  exact (zs_S_weeksWith_5 _ h)
theorem zs_S_lastWeek_11 {L : Int} {b : Wd} : ∀ (n : Nat) {v3 v5 : Int} {w : Wd}, SJ L b w → PC (f_S_lastWeek_11 n v3 v5 w) (fun _ u => SJ L b u) := by
  intro n
  induction n with
  | zero => intros; exact pc_none
  | succ n ih =>
    intro v3 v5 w h
    rw [f_S_lastWeek_11]
    refine pc_ite (fun _ => ?_) (fun _ => ?_)
    · exact pc_some h
    · refine pc_ite (fun _ => ?_) (fun _ => ?_)
      · refine pc_let (fun x3 _ => ?_)
        exact ih h
      · exact pc_some h
theorem zs_S_lastWeek {L : Int} {b : Wd} {v1 v2 : Int} {w : Wd} (h : SJ L b w) : PC (f_S_lastWeek v1 v2 w) (fun _ u => SJ L b u) := by
  unfold f_S_lastWeek
  refine pc_call (zs_S_weeksWith h) (fun r1 u2 h => ?_)
  exact (zs_S_lastWeek_11 _ h)
theorem zs_E_stays_95 {L : Int} {b : Wd} {v2 v3 : Int} {w : Wd} (h : SJ L b w) : PC (f_E_stays_95 v2 v3 w) (fun _ u => SJ L b u) := by
  unfold f_E_stays_95
  refine pc_call (zs_N_tell1 h) (fun r11 u12 h => ?_)
  exact pc_some h
theorem zs_E_needed_89 {L : Int} {b : Wd} {k43 : Int → Int → Int → Wd → Option (Int × Wd)} {v1 v2 v3 : Int} {w : Wd} (h : SJ L b w) (hk : ∀ {a0 a1 a2 : Int} {w : Wd}, SJ L b w → PC (k43 a0 a1 a2 w) (fun _ u => SJ L b u)) : PC (f_E_needed_89 k43 v1 v2 v3 w) (fun _ u => SJ L b u) := by
  unfold f_E_needed_89
  refine pc_let (fun x9 _ => ?_)
  exact hk h
theorem zs_E_needed_43 {L : Int} {b : Wd} : ∀ (n : Nat) {v1 v2 v3 : Int} {w : Wd}, SJ L b w → PC (f_E_needed_43 n v1 v2 v3 w) (fun _ u => SJ L b u) := by
  intro n
  induction n with
  | zero => intros; exact pc_none
  | succ n ih =>
    intro v1 v2 v3 w h
    rw [f_E_needed_43]
    refine pc_ite (fun _ => ?_) (fun _ => ?_)
    · exact pc_some h
    · refine pc_call (zs_F_free h) (fun r5 u6 h => ?_)
      refine pc_call (zs_E_has h) (fun r7 u8 h => ?_)
      refine pc_ite (fun _ => ?_) (fun _ => ?_)
      · exact (zs_E_needed_89 h (fun h => ih h))
      · refine pc_call (zs_S_lastWeek h) (fun r10 u11 h => ?_)
        refine pc_ite (fun _ => ?_) (fun _ => ?_)
        · exact (zs_E_needed_89 h (fun h => ih h))
        · refine pc_let (fun x12 _ => ?_)
          exact (zs_E_needed_89 h (fun h => ih h))
theorem zs_E_never_25 {L : Int} {b : Wd} : ∀ (n : Nat) {v1 v2 : Int} {w : Wd}, SJ L b w → PC (f_E_never_25 n v1 v2 w) (fun _ u => SJ L b u) := by
  intro n
  induction n with
  | zero => intros; exact pc_none
  | succ n ih =>
    intro v1 v2 w h
    rw [f_E_never_25]
    refine pc_ite (fun _ => ?_) (fun _ => ?_)
    · refine pc_call (zs_F_strangers h) (fun r3 u4 h => ?_)
      exact pc_some h
    · refine pc_call (zs_S_guests h) (fun r5 u6 h => ?_)
      refine pc_let (fun x7 _ => ?_)
      refine pc_let (fun x8 _ => ?_)
      exact ih h
theorem zs_S_lookBack_79 {L T : Int} {b : Wd} {k8 : Int → Int → Int → Wd → Option (Int × Wd)} {v3 v4 v5 v6 s0 : Int} {w : Wd} (h : SJ L b w) (hL : L + 1 ≤ 2147480000) (hk : ∀ {w : Wd}, SJ (L + 1) b w → PC (k8 v3 v4 (w32 (v5 + (-1))) w) (fun _ u => SJ T b u)) : PC (f_S_lookBack_79 k8 v3 v4 v5 v6 s0 w) (fun _ u => SJ T b u) := by
  unfold f_S_lookBack_79
  refine pc_call (zs_S_leftBehind h hL) (fun r5 u6 h => ?_)
  refine pc_gd (fun _ => pc_lw (fun u7 e => pc_let (fun x8 e8 => ?_)))
  rw [e8]
  exact hk (sj_st h e (by decide))
theorem zs_S_lookBack_49 {L T : Int} {b : Wd} {k8 : Int → Int → Int → Wd → Option (Int × Wd)} {v3 v4 v5 v6 s0 : Int} {w : Wd} (h : SJ L b w) (hL : L + 1 ≤ 2147480000) (hk : ∀ {w : Wd}, SJ (L + 1) b w → PC (k8 v3 v4 (w32 (v5 + (-1))) w) (fun _ u => SJ T b u)) : PC (f_S_lookBack_49 k8 v3 v4 v5 v6 s0 w) (fun _ u => SJ T b u) := by
  unfold f_S_lookBack_49 f_S_lookBack_78 f_S_lookBack_74
  refine pc_ite (fun _ => zs_S_lookBack_79 h hL hk) (fun _ => pc_ite (fun _ => zs_S_lookBack_79 h hL hk) (fun _ => pc_call (zs_S_paidFor h) (fun r9 u10 h => pc_ite (fun _ => zs_S_lookBack_79 h hL hk) (fun _ => zs_S_lookBack_79 h hL hk))))
theorem zs_S_lookBack_8 {T : Int} {b : Wd} (hT : T ≤ 2147480000) : ∀ (n : Nat) {v3 v4 v5 L : Int} {w : Wd}, SJ L b w → L ≤ T → (v5 < 3000 → L + (v5 + 1) ≤ T) → PC (f_S_lookBack_8 n v3 v4 v5 w) (fun _ u => SJ T b u) := by
  intro n
  induction n with
  | zero => intros; exact pc_none
  | succ n ih =>
    intro v3 v4 v5 L w h h1 h2
    rw [f_S_lookBack_8]
    refine pc_ite (fun _ => pc_some (sj_mono h h1)) (fun c => pc_gd (fun g => pc_let (fun x2 _ => ?_)))
    have z := w32_sp (v5 + (-1))
    have hk : ∀ {w : Wd}, SJ (L + 1) b w → PC (f_S_lookBack_8 n v3 v4 (w32 (v5 + (-1))) w) (fun _ u => SJ T b u) := fun h => ih h (by omega) (by omega)
    refine pc_call (zs_S_guests h) (fun r3 u4 h => ?_)
    unfold f_S_lookBack_48
    refine pc_ite (fun _ => zs_S_lookBack_49 h (by omega) hk) (fun _ => pc_call (zs_S_guests h) (fun r11 u12 h => pc_ite (fun _ => zs_S_lookBack_49 h (by omega) hk) (fun _ => zs_S_lookBack_49 h (by omega) hk)))
theorem zs_S_lookBack {L : Int} {b : Wd} {v3 v4 : Int} {w : Wd} (h : SJ L b w) (hL : L + 3000 ≤ 2147480000) : PC (f_S_lookBack v3 v4 w) (fun _ u => SJ (L + 3000) b u) := by
  unfold f_S_lookBack
  exact pc_let (fun x1 _ => zs_S_lookBack_8 hL FU h (by omega) (fun _ => by omega))
theorem zs_E_firstToBring_41 {T : Int} {b : Wd} (hT : T ≤ 2147480000) (h53 : b 5 3 ≤ 10) : ∀ (n : Nat) {v1 v2 v3 v4 L : Int} {w : Wd}, SJ L b w → L ≤ T → 0 ≤ v4 → v4 ≤ 10 → L + (10 - v4) ≤ T → PC (f_E_firstToBring_41 n v1 v2 v3 v4 w) (fun _ u => SJ T b u) := by
  intro n
  induction n with
  | zero => intros; exact pc_none
  | succ n ih =>
    intro v1 v2 v3 v4 L w h h1 h0 h10 h2
    rw [f_E_firstToBring_41]
    refine pc_ite (fun _ => pc_some (sj_mono h h1)) (fun c => ?_)
    rw [h.1.1] at c
    have z := w32_sp (v4 + 1)
    refine pc_call (zs_F_knownBy h) (fun r8 u9 h => pc_call (zs_F_free h) (fun r10 u11 h => pc_call (zs_E_has h) (fun r12 u13 h => ?_)))
    unfold f_E_firstToBring_111
    refine pc_ite (fun _ => pc_let (fun x14 e => ?_)) (fun _ => ?_)
    · exact ih h h1 (by omega) (by omega) (by omega)
    · refine pc_call (zs_M_gatherBehind h (by omega)) (fun r15 u16 h => pc_call (zs_E_firstThatLeads h) (fun r17 u18 h => ?_))
      refine pc_ite (fun _ => pc_let (fun x14 e => ?_)) (fun _ => pc_some (sj_mono h (by omega)))
      exact ih h (by omega) (by omega) (by omega) (by omega)
theorem zs_E_firstToBring {L : Int} {b : Wd} {v1 v2 : Int} {w : Wd} (h : SJ L b w) (hL : L + 11 ≤ 2147480000) (h53 : b 5 3 ≤ 10) : PC (f_E_firstToBring v1 v2 w) (fun _ u => SJ (L + 11) b u) := by
  unfold f_E_firstToBring
  refine pc_call (zs_F_guests h) (fun r1 u2 h => pc_let (fun x3 _ => ?_))
  refine pc_call (zs_M_gatherBehind h (by omega)) (fun r4 u5 h => pc_call (zs_E_firstThatLeads h) (fun r6 u7 h => ?_))
  exact pc_ite (fun _ => zs_E_firstToBring_41 hL h53 FU h (by omega) (by omega) (by omega) (by omega)) (fun _ => pc_some (sj_mono h (by omega)))
/-! WHAT IS KEPT OF A SEARCH: every method of the class -/
theorem sj_scr {n m L : Int} {w u : Wd} (hs : SCR n w) (h : SJ L w u) (hL : L ≤ 2000 * m) : SCR m u := by
  obtain ⟨⟨z5, z7, z28, z29, z30, z31, z35⟩, zr, zl⟩ := h
  refine ⟨⟨zr, by omega⟩, fun hf => ?_⟩
  rw [z28] at hf
  rw [z5, z7]
  exact kpt_eq (hs.2 hf) (fun k _ => by rw [z28]) z29 z30 z31 z35
theorem sj_0 {n : Int} {w : Wd} (hs : SCR n w) : SJ (w 24 4) w w := ⟨⟨rfl, rfl, rfl, rfl, rfl, rfl, rfl⟩, hs.1.1, Int.le_refl _⟩
theorem zrun {n : Int} {a w : Wd} {K : Int → Wd → Option (Int × Wd)} (he : ER a w) (hs : SCR n w) (hn : n ≤ 2600) (hK : ∀ r u, SJ (w 24 4 + 3000) u u → u 5 3 ≤ 10 → PC (K r u) (fun _ v => SJ (w 24 4 + 7000) u v)) : PC (jcall (f_S_run w) K) (fun _ v => SCR (n + 5) v) := by
  have hp := er_prm he
  refine pc_call (crun hp hs hn hs.2) (fun r u q => ?_)
  have hr := q.1
  have s := run_scr hs hr
  have h5 : u 5 = w 5 := hr.1 5 (by decide) (by decide) (by decide) (by decide) (by decide) (by decide) (by decide) (by decide) (by decide) (by decide) (by decide)
  refine pc_w (hK r u ⟨⟨rfl, rfl, rfl, rfl, rfl, rfl, rfl⟩, hr.2.1⟩ (by rw [h5]; exact hp.1.2)) (fun _ v z => sj_scr s z (by have := hs.1.2; omega))
theorem g_out {S : List Nat} {b u : Wd} (h : G S b u) (cs : List Nat) (hS : S.all (fun x => !cs.contains (x / 100)) = true) : ∀ c, cs.contains c = true → u c = b c := by
  intro c hc
  funext k
  refine h.2.1 c k (mS_ar ?_ k)
  rw [List.all_eq_true]
  intro x hx
  have h1 := List.all_eq_true.mp hS x hx
  rw [Bool.or_eq_true, Nat.blt_eq, Nat.blt_eq]
  by_cases e : x / 100 = c
  · rw [e, hc] at h1; cases h1
  · omega
/-- the method touches nothing of it -/
theorem scr_g {n : Int} {S : List Nat} {w u : Wd} (hs : SCR n w) (hG : G S w u) (hS : S.all (fun x => !([5, 7, 24, 27, 28, 29, 30, 31, 35] : List Nat).contains (x / 100)) = true) : SCR n u := by
  have f := g_out hG _ hS
  exact scr_fr hs (f 5 rfl) (f 7 rfl) (f 24 rfl) (f 27 rfl) (f 28 rfl) (f 29 rfl) (f 30 rfl) (f 31 rfl) (f 35 rfl)
/-- forgotten, or nothing touched -/
def FGT (b w : Wd) : Prop := w 28 9 = 0 ∨ (w 5 = b 5 ∧ w 7 = b 7 ∧ w 28 = b 28)
theorem fgt_self (w : Wd) : FGT w w := Or.inr ⟨rfl, rfl, rfl⟩
theorem fgt_g {S : List Nat} {b w u : Wd} (h : FGT b w) (hG : G S w u) (hS : S.all (fun x => !([5, 7, 28] : List Nat).contains (x / 100)) = true) : FGT b u := by
  have f := g_out hG _ hS
  unfold FGT
  rw [f 5 rfl, f 7 rfl, f 28 rfl]
  exact h
theorem fgt_scr {n : Int} {S : List Nat} {w u : Wd} (hs : SCR n w) (h : FGT w u) (hG : G S w u) (hS : S.all (fun x => !([24, 27, 29, 30, 31, 35] : List Nat).contains (x / 100)) = true) : SCR n u := by
  have f := g_out hG _ hS
  rcases h with e | ⟨e5, e7, e28⟩
  · exact scr_no hs (f 24 rfl) (f 27 rfl) e
  · exact scr_fr hs e5 e7 (f 24 rfl) (f 27 rfl) e28 (f 29 rfl) (f 30 rfl) (f 31 rfl) (f 35 rfl)
theorem fgn (w : Wd) : PC (f_S_forget w) (fun _ u => u 28 9 = 0) := pc_lw (fun y e => pc_some (by rw [e, st_eq]))
theorem pcN (o : Option (Int × Wd)) : PC o (fun _ _ => True) := fun _ _ _ => trivial
theorem fgn_pc {b w : Wd} {r : Wd → Int} : PC (jcall (f_S_forget w) fun _ u => some (r u, u)) (fun _ u => FGT b u) := pc_call (fgn w) (fun _ _ h => pc_some (Or.inl h))
theorem pcm_no (w : Wd) : PC (f_E_peopleCame w) (fun _ u => u 28 9 = 0) := by
  unfold f_E_peopleCame
  exact pc_call (pcN _) (fun _ _ _ => pc_call (pcN _) (fun _ _ _ => pc_lw (fun _ _ => pc_call (fgn _) (fun _ _ h => pc_some h))))
theorem ps15_no : ∀ (n : Nat) {v1 v2 : Int} {w : Wd}, PC (f_E_pass_15 n v1 v2 w) (fun _ u => u 28 9 = 0) := by
  intro n
  induction n with
  | zero => intros; exact pc_none
  | succ n ih =>
    intro v1 v2 w
    rw [f_E_pass_15]
    refine pc_ite (fun _ => pc_lw (fun _ _ => pc_call (pcN _) (fun _ _ _ => pc_lw (fun _ _ => pc_lw (fun _ _ => pc_call (pcN _) (fun _ _ _ => pc_call (pcN _) (fun _ _ _ => pc_call (fgn _) (fun _ _ h => pc_some h)))))))) (fun _ => pc_call (pcN _) (fun _ _ _ => pc_call (pcN _) (fun _ _ _ => pc_call (pcN _) (fun _ _ _ => pc_let (fun _ _ => pc_let (fun _ _ => ih))))))
theorem ps_no (w : Wd) : PC (f_E_pass w) (fun _ u => u 28 9 = 0) := by
  unfold f_E_pass
  exact pc_call (pcN _) (fun _ _ _ => ps15_no FU)
theorem fg_land {w : Wd} (hG : G [] w w) : PC (f_E_land w) (fun _ u => FGT w u) := by
  unfold f_E_land
  have r5 : 0 ≤ w 5 3 ∧ w 5 3 ≤ 10 := hG.1 5 3
  refine pc_call (pc_ok (s_L_read (g_self hG) r5)) (fun r1 u2 q => ?_)
  refine pc_call (pc_ok (s_T_clear (g_self q.2))) (fun r3 u4 q2 => ?_)
  refine pc_ite (fun _ => pc_some (fgt_g (fgt_g (fgt_self w) q.2 rfl) q2.2.1 rfl)) (fun _ => pc_call (pcN _) (fun _ _ _ => pc_call (pcm_no _) (fun _ _ h => pc_some (Or.inl h))))
theorem fg_law {w : Wd} {v1 v2 : Int} : PC (f_E_law v1 v2 w) (fun _ u => FGT w u) := by
  unfold f_E_law f_E_law_25 f_E_law_51 f_E_law_75
  refine pc_ite (fun _ => pc_some (fgt_self w)) (fun _ => pc_ite (fun _ => pc_some (fgt_self w)) (fun _ => pc_ite (fun _ => pc_some (fgt_self w)) (fun _ => pc_ite (fun _ => ?_) (fun _ => ?_)))) <;> refine pc_ite (fun _ => pc_ite (fun _ => ?_) (fun _ => ?_)) (fun _ => pc_some (fgt_self w)) <;> exact pc_ite (fun _ => pc_lw (fun _ _ => fgn_pc)) (fun _ => pc_lw (fun _ _ => fgn_pc))
theorem fg_meet {w : Wd} {v1 v2 v3 : Int} : PC (f_E_meet v1 v2 v3 w) (fun _ u => FGT w u) := by
  unfold f_E_meet
  refine pc_call (zq_E_areTwo rfl) (fun r1 u2 e => ?_)
  refine pc_ite (fun _ => pc_some (by rw [e]; exact fgt_self w)) (fun _ => pc_gd (fun _ => pc_call (pcN _) (fun _ _ _ => pc_gd (fun _ => pc_lw (fun _ _ => pc_gd (fun _ => pc_call (pcN _) (fun _ _ _ => pc_gd (fun _ => pc_lw (fun _ _ => fgn_pc)))))))))
theorem fg_hide {w : Wd} {v1 v2 : Int} : PC (f_E_hide v1 v2 w) (fun _ u => FGT w u) := by
  unfold f_E_hide
  refine pc_call (zq_F_isThere rfl) (fun r1 u2 e => ?_)
  refine pc_ite (fun _ => pc_some (by rw [e]; exact fgt_self w)) (fun _ => pc_call (pcN _) (fun _ _ _ => pc_lw (fun _ _ => fgn_pc)))
theorem fg_baby {w : Wd} {v1 : Int} : PC (f_E_baby v1 w) (fun _ u => FGT w u) := by
  unfold f_E_baby
  refine pc_ite (fun _ => pc_some (fgt_self w)) (fun _ => ?_)
  refine pc_call (zq_F_everybody rfl) (fun r1 u2 e => ?_)
  refine pc_ite (fun _ => pc_call (pcN _) (fun _ _ _ => pc_call (pcm_no _) (fun _ _ h => pc_some (Or.inl h)))) (fun _ => pc_some (by rw [e]; exact fgt_self w))
theorem fg_week {w : Wd} (hG : G [] w w) : PC (f_E_week w) (fun _ u => FGT w u) := by
  unfold f_E_week f_E_week_100
  refine pc_call (pc_ok (s_P_read (g_self hG))) (fun r1 u2 q => ?_)
  refine pc_call (pc_ok (s_T_clear (g_self q.2))) (fun r3 u4 q2 => ?_)
  have f4 := fgt_g (fgt_g (fgt_self w) q.2 rfl) q2.2.1 rfl
  refine pc_ite (fun _ => pc_ite (fun _ => ?_) (fun _ => pc_some f4)) (fun _ => pc_some f4)
  refine pc_call (pc_ok (s_P_firstWrongPair (g_self q2.2.1))) (fun r5 u6 q3 => ?_)
  have f6 := fgt_g f4 q3.2 rfl
  refine pc_ite (fun _ => pc_ite (fun _ => pc_call (ps_no _) (fun _ _ h => pc_some (Or.inl h))) (fun _ => ?_)) (fun _ => pc_some f6)
  refine pc_call (pc_ok (s_F_guestsAfter (g_self q3.2) (show -2147483648 ≤ u6 12 3 ∧ u6 12 3 ≤ 2147483647 from q3.2.1 12 3))) (fun r9 u10 q4 => ?_)
  exact pc_ite (fun _ => pc_call (ps_no _) (fun _ _ h => pc_some (Or.inl h))) (fun _ => pc_some (fgt_g f6 q4.2 rfl))
theorem fg_g75 {b w : Wd} {v2 v3 : Int} (hG : G [] w w) (h : FGT b w) (iv : -2147483648 ≤ v3 ∧ v3 ≤ 2147483647) : PC (f_E_goes_75 v2 v3 w) (fun _ u => FGT b u) := by
  unfold f_E_goes_75
  refine pc_call (pc_ok (s_F_guests (g_self hG))) (fun r u q => ?_)
  refine pc_call (pc_ok (s_N_tell2 (g_self q.2) (by have := q.1; omega) iv)) (fun r u q2 => pc_some ?_)
  exact fgt_g (fgt_g h q.2 rfl) q2.2 rfl
theorem fg_g13 {b : Wd} {v1 : Int} : ∀ (n : Nat) {v2 v3 : Int} {w : Wd}, G [] w w → FGT b w → (-2147483648 ≤ v3 ∧ v3 ≤ 2147483647) → PC (f_E_goes_13 n v1 v2 v3 w) (fun _ u => FGT b u) := by
  intro n
  induction n with
  | zero => intros; exact pc_none
  | succ n ih =>
    intro v2 v3 w hG h iv
    rw [f_E_goes_13]
    refine pc_ite (fun _ => fg_g75 hG h iv) (fun _ => pc_ite (fun _ => fg_g75 hG h iv) (fun c => ?_))
    have r15 : 0 ≤ w 15 3 ∧ w 15 3 ≤ 60 := hG.1 15 3
    refine pc_call (pc_ok (s_F_guests (g_self hG))) (fun r7 u8 q => ?_)
    have e8 : u8 15 = w 15 := g_out q.2 [15] rfl 15 rfl
    refine pc_ite (fun _ => fg_g75 (g_self q.2) (fgt_g h q.2 rfl) iv) (fun _ => ?_)
    refine pc_call (pc_ok (s_P_follow (g_self q.2) (by rw [e8]; omega))) (fun r9 u10 q2 => ?_)
    have e10 : u10 15 = u8 15 := g_out q2.2 [15] rfl 15 rfl
    refine pc_call (fun r u e => And.intro (pc_ok (s_E_pass (g_self q2.2) (by rw [e10, e8]; omega)) r u e) (ps_no _ r u e)) (fun r11 u12 q3 => ?_)
    refine pc_let (fun x13 e13 => pc_let (fun x14 _ => ?_))
    have z := w32_sp (v3 + r11)
    exact ih (g_self q3.1.2) (Or.inl q3.2) (by omega)
theorem fg_goes {w : Wd} {v1 : Int} (hG : G [] w w) : PC (f_E_goes v1 w) (fun _ u => FGT w u) := by
  unfold f_E_goes
  refine pc_call (zq_E_isWeek rfl) (fun r1 u2 e => ?_)
  rw [e]
  exact pc_ite (fun _ => pc_some (fgt_self w)) (fun _ => fg_g13 FU hG (fgt_self w) (by decide))
theorem fg_undo {w : Wd} (hG : G [] w w) : PC (f_E_undo w) (fun _ u => FGT w u) := by
  unfold f_E_undo f_D_goBack
  have r70 : ∀ (n : Nat) {v2 : Int} {w : Wd}, PC (f_D_goBack_70 n v2 w) (fun r _ => r = 1) := by
    intro n
    induction n with
    | zero => intros; exact pc_none
    | succ n ih =>
      intro v2 w
      rw [f_D_goBack_70]
      unfold f_D_goBack_96
      exact pc_ite (fun _ => pc_some rfl) (fun _ => pc_call (pcN _) (fun _ _ _ => pc_call (pcN _) (fun _ _ _ => pc_ite (fun _ => pc_let (fun _ _ => ih)) (fun _ => pc_gd (fun _ => pc_lw (fun _ _ => pc_let (fun _ _ => ih)))))))
  have g : PC (if (w 15 4) = 0 then some ((0 : Int), w) else jcall (f_D_isOne (w32 ((w 15 3) - 1)) w) fun r1 u2 => if r1 = 0 then some (0, u2) else jlw (st u2 15 4 (w32 ((u2 15 4) - 1))) fun u3 => jlw (st u3 15 3 (w32 ((u3 15 3) - 1))) fun u4 => jgd ((0 : Int) ≤ (u4 15 3) ∧ (u4 15 3) < 61) <| jlw (st u4 5 4 (u4 17 (u4 15 3).toNat)) fun u5 => jgd ((0 : Int) ≤ (u5 15 3) ∧ (u5 15 3) < 61) <| jlw (st u5 5 6 (u5 18 (u5 15 3).toNat)) fun u6 => f_D_goBack_70 FU 0 u6) (fun r u => (r = 0 → u = w)) := by
    refine pc_ite (fun _ => pc_some (fun _ => rfl)) (fun _ => pc_call (P := fun _ u => u = w) ?_ (fun r1 u2 e => pc_ite (fun _ => pc_some (fun _ => e)) (fun _ => pc_lw (fun _ _ => pc_lw (fun _ _ => pc_gd (fun _ => pc_lw (fun _ _ => pc_gd (fun _ => pc_lw (fun _ _ => pc_w (r70 FU) (fun r u e h0 => absurd (e.symm.trans h0) (by decide)))))))))))
    unfold f_D_isOne
    exact pc_ite (fun _ => pc_some rfl) (fun _ => pc_ite (fun _ => pc_some rfl) (fun _ => pc_ite (fun _ => pc_some rfl) (fun _ => pc_some rfl)))
  refine pc_call g (fun r1 u2 q => ?_)
  exact pc_ite (fun e => pc_some (by rw [q e]; exact fgt_self w)) (fun _ => fgn_pc)
theorem fg_again {w : Wd} {v1 : Int} (hG : G [] w w) : PC (f_E_again v1 w) (fun _ u => FGT w u) := by
  unfold f_E_again
  refine pc_ite (fun _ => pc_some (fgt_self w)) (fun _ => pc_ite (fun _ => pc_some (fgt_self w)) (fun _ => pc_ite (fun _ => ?_) (fun _ => pc_ite (fun _ => ?_) (fun _ => pc_none))))
  · refine pc_call (pc_ok (s_K_fits (g_self hG))) (fun r1 u2 q => pc_ite (fun _ => pc_some (fgt_g (fgt_self w) q.2 rfl)) (fun _ => ?_))
    exact pc_ite (fun _ => pc_call (pcN _) (fun _ _ _ => fgn_pc)) (fun _ => pc_ite (fun _ => pc_call (pcN _) (fun _ _ _ => fgn_pc)) (fun _ => pc_none))
  · refine pc_call (pc_ok (s_K_fits_40_5 (g_self hG))) (fun r1 u2 q => pc_ite (fun _ => pc_some (fgt_g (fgt_self w) q.2 rfl)) (fun _ => ?_))
    exact pc_ite (fun _ => pc_call (pcN _) (fun _ _ _ => fgn_pc)) (fun _ => pc_ite (fun _ => pc_call (pcN _) (fun _ _ _ => fgn_pc)) (fun _ => pc_none))
theorem sc_states {n : Int} {w : Wd} (h : LU w) (hs : SCR n w) (hn : n ≤ 2600) : PC (f_E_states  w) (fun _ u => SCR (n + 5) u) := by
  have he := lu_er h (fun _ _ => rfl)
  have hb : w 24 4 ≤ 5200000 := by have := hs.1.2; omega
  unfold f_E_states
  refine zrun he hs hn (fun r1 u2 h h53 => ?_)
  refine pc_ite (fun _ => ?_) (fun _ => ?_)
  · exact pc_some (sj_mono h (by omega))
  · exact pc_w (zs_E_states_25 _ h) (fun _ _ h => sj_mono h (by omega))
theorem sc_most {n : Int} {w : Wd} {v1 : Int} (h : LU w) (hs : SCR n w) (hn : n ≤ 2600) : PC (f_E_most v1 w) (fun _ u => SCR (n + 5) u) := by
  have he := lu_er h (fun _ _ => rfl)
  have hb : w 24 4 ≤ 5200000 := by have := hs.1.2; omega
  unfold f_E_most
  refine pc_call (zq_E_isWeek rfl) (fun r1 u2 e => ?_)
  subst e
  refine pc_ite (fun _ => ?_) (fun _ => ?_)
  · exact pc_some (scr_mono hs (by omega))
  · refine zrun he hs hn (fun r3 u4 h h53 => ?_)
    refine pc_ite (fun _ => ?_) (fun _ => ?_)
    · exact pc_some (sj_mono h (by omega))
    · exact pc_w (zs_E_most_37 _ h) (fun _ _ h => sj_mono h (by omega))
theorem sc_reach {n : Int} {w : Wd} {v1 : Int} (h : LU w) (hs : SCR n w) (hn : n ≤ 2600) : PC (f_E_reach v1 w) (fun _ u => SCR (n + 5) u) := by
  have he := lu_er h (fun _ _ => rfl)
  have hb : w 24 4 ≤ 5200000 := by have := hs.1.2; omega
  unfold f_E_reach
  refine pc_call (zq_E_isWeek rfl) (fun r1 u2 e => ?_)
  subst e
  refine pc_ite (fun _ => ?_) (fun _ => ?_)
  · exact pc_some (scr_mono hs (by omega))
  · refine zrun he hs hn (fun r3 u4 h h53 => ?_)
    refine pc_ite (fun _ => ?_) (fun _ => ?_)
    · exact pc_some (sj_mono h (by omega))
    · exact pc_w (zs_E_reach_39 _ h) (fun _ _ h => sj_mono h (by omega))
theorem sc_fewest {n : Int} {w : Wd} {v1 : Int} (h : LU w) (hs : SCR n w) (hn : n ≤ 2600) : PC (f_E_fewest v1 w) (fun _ u => SCR (n + 5) u) := by
  have he := lu_er h (fun _ _ => rfl)
  have hb : w 24 4 ≤ 5200000 := by have := hs.1.2; omega
  unfold f_E_fewest
  refine pc_call (zq_E_isWeek rfl) (fun r1 u2 e => ?_)
  subst e
  refine pc_ite (fun _ => ?_) (fun _ => ?_)
  · exact pc_some (scr_mono hs (by omega))
  · refine zrun he hs hn (fun r3 u4 h h53 => ?_)
    refine pc_ite (fun _ => ?_) (fun _ => ?_)
    · exact pc_some (sj_mono h (by omega))
    · refine pc_call (zs_S_fewestGuests h) (fun r5 u6 h => ?_)
      refine pc_ite (fun _ => ?_) (fun _ => ?_)
      · exact pc_some (sj_mono h (by omega))
      · exact pc_some (sj_mono h (by omega))
theorem sc_crowd {n : Int} {w : Wd} (h : LU w) (hs : SCR n w) (hn : n ≤ 2600) : PC (f_E_crowd  w) (fun _ u => SCR (n + 5) u) := by
  have he := lu_er h (fun _ _ => rfl)
  have hb : w 24 4 ≤ 5200000 := by have := hs.1.2; omega
  unfold f_E_crowd
  refine zrun he hs hn (fun r1 u2 h h53 => ?_)
  refine pc_ite (fun _ => ?_) (fun _ => ?_)
  · exact pc_some (sj_mono h (by omega))
  · refine pc_call (zs_S_mostGuests h) (fun r3 u4 h => ?_)
    exact pc_w (zs_E_crowd_34 _ h) (fun _ _ h => sj_mono h (by omega))
theorem sc_both {n : Int} {w : Wd} {v1 v2 v3 : Int} (h : LU w) (hs : SCR n w) (hn : n ≤ 2600) : PC (f_E_both v1 v2 v3 w) (fun _ u => SCR (n + 5) u) := by
  have he := lu_er h (fun _ _ => rfl)
  have hb : w 24 4 ≤ 5200000 := by have := hs.1.2; omega
  unfold f_E_both
  refine pc_call (zq_E_areTwo rfl) (fun r1 u2 e => ?_)
  subst e
  refine pc_ite (fun _ => ?_) (fun _ => ?_)
  · exact pc_some (scr_mono hs (by omega))
  · refine pc_call (zq_E_isWeek rfl) (fun r3 u4 e => ?_)
    subst e
    refine pc_ite (fun _ => ?_) (fun _ => ?_)
    · exact pc_some (scr_mono hs (by omega))
    · refine zrun he hs hn (fun r5 u6 h h53 => ?_)
      refine pc_ite (fun _ => ?_) (fun _ => ?_)
      · exact pc_some (sj_mono h (by omega))
      · refine pc_call (zs_S_leastPaid h) (fun r7 u8 h => ?_)
        refine pc_ite (fun _ => ?_) (fun _ => ?_)
        · exact pc_some (sj_mono h (by omega))
        · exact pc_some (sj_mono h (by omega))
theorem sc_last {n : Int} {w : Wd} (h : LU w) (hs : SCR n w) (hn : n ≤ 2600) : PC (f_E_last  w) (fun _ u => SCR (n + 5) u) := by
  have he := lu_er h (fun _ _ => rfl)
  have hb : w 24 4 ≤ 5200000 := by have := hs.1.2; omega
  unfold f_E_last
  refine zrun he hs hn (fun r1 u2 h h53 => ?_)
  refine pc_ite (fun _ => ?_) (fun _ => ?_)
  · exact pc_some (sj_mono h (by omega))
  · refine pc_call (zs_S_lastWeek h) (fun r3 u4 h => ?_)
    refine pc_ite (fun _ => ?_) (fun _ => ?_)
    · exact pc_some (sj_mono h (by omega))
    · refine pc_call (zs_S_fewestGuests h) (fun r5 u6 h => ?_)
      refine pc_call (zs_N_tell1 h) (fun r7 u8 h => ?_)
      exact pc_some (sj_mono h (by omega))
theorem sc_begin {n : Int} {w : Wd} (h : LU w) (hs : SCR n w) (hn : n ≤ 2600) : PC (f_E_begin  w) (fun _ u => SCR (n + 5) u) := by
  have he := lu_er h (fun _ _ => rfl)
  have hb : w 24 4 ≤ 5200000 := by have := hs.1.2; omega
  unfold f_E_begin
  refine zrun he hs hn (fun r1 u2 h h53 => ?_)
  refine pc_ite (fun _ => ?_) (fun _ => ?_)
  · exact pc_some (sj_mono h (by omega))
  · refine pc_call (zs_S_lastWeek h) (fun r3 u4 h => ?_)
    refine pc_ite (fun _ => ?_) (fun _ => ?_)
    · refine pc_call (zs_S_lookBack h (by omega)) (fun r5 u6 h => ?_)
      refine pc_call (zs_E_tellFirstWeek h (by omega)) (fun r7 u8 h => ?_)
      exact pc_some (sj_mono h (by omega))
    · exact pc_some (sj_mono h (by omega))
theorem sc_cheap {n : Int} {w : Wd} {v1 : Int} (h : LU w) (hs : SCR n w) (hn : n ≤ 2600) : PC (f_E_cheap v1 w) (fun _ u => SCR (n + 5) u) := by
  have he := lu_er h (fun _ _ => rfl)
  have hb : w 24 4 ≤ 5200000 := by have := hs.1.2; omega
  unfold f_E_cheap
  refine pc_call (zq_E_isWeek rfl) (fun r1 u2 e => ?_)
  subst e
  refine pc_ite (fun _ => ?_) (fun _ => ?_)
  · exact pc_some (scr_mono hs (by omega))
  · refine zrun he hs hn (fun r3 u4 h h53 => ?_)
    refine pc_ite (fun _ => ?_) (fun _ => ?_)
    · exact pc_some (sj_mono h (by omega))
    · refine pc_call (zs_S_leastPaid h) (fun r5 u6 h => ?_)
      refine pc_ite (fun _ => ?_) (fun _ => ?_)
      · exact pc_some (sj_mono h (by omega))
      · refine pc_ite (fun _ => ?_) (fun _ => ?_)
        · refine pc_call (zs_N_clear h) (fun r11 u12 h => ?_)
          exact pc_some (sj_mono h (by omega))
        · refine pc_call (zs_S_lookBack h (by omega)) (fun r7 u8 h => ?_)
          refine pc_call (zs_E_tellFirstWeek h (by omega)) (fun r9 u10 h => ?_)
          exact pc_some (sj_mono h (by omega))
theorem sc_stays {n : Int} {w : Wd} {v1 : Int} (h : LU w) (hs : SCR n w) (hn : n ≤ 2600) : PC (f_E_stays v1 w) (fun _ u => SCR (n + 5) u) := by
  have he := lu_er h (fun _ _ => rfl)
  have hb : w 24 4 ≤ 5200000 := by have := hs.1.2; omega
  unfold f_E_stays
  refine pc_call (zq_F_isThere rfl) (fun r1 u2 e => ?_)
  subst e
  refine pc_ite (fun _ => ?_) (fun _ => ?_)
  · exact pc_some (scr_mono hs (by omega))
  · refine zrun he hs hn (fun r3 u4 h h53 => ?_)
    refine pc_ite (fun _ => ?_) (fun _ => ?_)
    · exact pc_some (sj_mono h (by omega))
    · refine pc_call (zs_F_guests h) (fun r5 u6 h => ?_)
      refine pc_call (zs_E_has h) (fun r7 u8 h => ?_)
      refine pc_ite (fun _ => ?_) (fun _ => ?_)
      · exact pc_some (sj_mono h (by omega))
      · refine pc_call (zs_S_lastWeek h) (fun r9 u10 h => ?_)
        refine pc_ite (fun _ => ?_) (fun _ => ?_)
        · exact pc_w (zs_E_stays_95 h) (fun _ _ h => sj_mono h (by omega))
        · refine pc_call (zs_S_lookBack h (by omega)) (fun r13 u14 h => ?_)
          refine pc_call (zs_E_firstToBring h (by omega) h53) (fun r15 u16 h => ?_)
          exact pc_w (zs_E_stays_95 h) (fun _ _ h => sj_mono h (by omega))
theorem sc_soonest {n : Int} {w : Wd} {v1 : Int} (h : LU w) (hs : SCR n w) (hn : n ≤ 2600) : PC (f_E_soonest v1 w) (fun _ u => SCR (n + 5) u) := by
  have he := lu_er h (fun _ _ => rfl)
  have hb : w 24 4 ≤ 5200000 := by have := hs.1.2; omega
  unfold f_E_soonest
  refine pc_call (zq_F_isThere rfl) (fun r1 u2 e => ?_)
  subst e
  refine pc_ite (fun _ => ?_) (fun _ => ?_)
  · exact pc_some (scr_mono hs (by omega))
  · refine zrun he hs hn (fun r3 u4 h h53 => ?_)
    refine pc_ite (fun _ => ?_) (fun _ => ?_)
    · exact pc_some (sj_mono h (by omega))
    · refine pc_call (zs_S_weeksWith h) (fun r5 u6 h => ?_)
      refine pc_call (zs_E_firstWeek h) (fun r7 u8 h => ?_)
      refine pc_ite (fun _ => ?_) (fun _ => ?_)
      · exact pc_some (sj_mono h (by omega))
      · exact pc_some (sj_mono h (by omega))
theorem sc_worth {n : Int} {w : Wd} {v1 : Int} (h : LU w) (hs : SCR n w) (hn : n ≤ 2600) : PC (f_E_worth v1 w) (fun _ u => SCR (n + 5) u) := by
  have he := lu_er h (fun _ _ => rfl)
  have hb : w 24 4 ≤ 5200000 := by have := hs.1.2; omega
  unfold f_E_worth
  refine pc_call (zq_F_free rfl) (fun r1 u2 e => ?_)
  subst e
  refine pc_call (zq_E_has rfl) (fun r3 u4 e => ?_)
  subst e
  refine pc_ite (fun _ => ?_) (fun _ => ?_)
  · exact pc_some (scr_mono hs (by omega))
  · refine zrun he hs hn (fun r5 u6 h h53 => ?_)
    refine pc_ite (fun _ => ?_) (fun _ => ?_)
    · exact pc_some (sj_mono h (by omega))
    · refine pc_call (zs_S_lastWeek h) (fun r7 u8 h => ?_)
      refine pc_ite (fun _ => ?_) (fun _ => ?_)
      · exact pc_some (sj_mono h (by omega))
      · refine pc_call (zs_S_lastWeek h) (fun r9 u10 h => ?_)
        exact pc_some (sj_mono h (by omega))
theorem sc_needed {n : Int} {w : Wd} (h : LU w) (hs : SCR n w) (hn : n ≤ 2600) : PC (f_E_needed  w) (fun _ u => SCR (n + 5) u) := by
  have he := lu_er h (fun _ _ => rfl)
  have hb : w 24 4 ≤ 5200000 := by have := hs.1.2; omega
  unfold f_E_needed
  refine zrun he hs hn (fun r1 u2 h h53 => ?_)
  refine pc_ite (fun _ => ?_) (fun _ => ?_)
  · exact pc_some (sj_mono h (by omega))
  · refine pc_call (zs_S_lastWeek h) (fun r3 u4 h => ?_)
    refine pc_ite (fun _ => ?_) (fun _ => ?_)
    · exact pc_some (sj_mono h (by omega))
    · exact pc_w (zs_E_needed_43 _ h) (fun _ _ h => sj_mono h (by omega))
theorem sc_never {n : Int} {w : Wd} (h : LU w) (hs : SCR n w) (hn : n ≤ 2600) : PC (f_E_never  w) (fun _ u => SCR (n + 5) u) := by
  have he := lu_er h (fun _ _ => rfl)
  have hb : w 24 4 ≤ 5200000 := by have := hs.1.2; omega
  unfold f_E_never
  refine zrun he hs hn (fun r1 u2 h h53 => ?_)
  refine pc_ite (fun _ => ?_) (fun _ => ?_)
  · exact pc_some (sj_mono h (by omega))
  · exact pc_w (zs_E_never_25 _ h) (fun _ _ h => sj_mono h (by omega))
theorem sc_can {n : Int} {w : Wd} (hs : SCR n w) (hn : n ≤ 2600) : PC (f_E_can w) (fun _ u => SCR (n + 5) u) := by
  have hb := hs.1.2
  exact pc_w (zs_E_can (sj_0 hs) (by omega)) (fun _ _ h => sj_scr hs h (by omega))
theorem sc_pairs {n : Int} {w : Wd} (hs : SCR n w) (hn : n ≤ 2600) : PC (f_E_pairs w) (fun _ u => SCR (n + 5) u) := by
  have hb := hs.1.2
  exact pc_w (zs_E_pairs (sj_0 hs) (by omega)) (fun _ _ h => sj_scr hs h (by omega))
theorem sc_bars {n : Int} {w : Wd} (hs : SCR n w) (hn : n ≤ 2600) : PC (f_E_bars w) (fun _ u => SCR (n + 5) u) := by
  have hb := hs.1.2
  exact pc_w (zs_E_bars (sj_0 hs) (by omega)) (fun _ _ h => sj_scr hs h (by omega))
/-! EVERY METHOD KEEPS ALL THAT BOTH HAVE IN COMMON, AND WHAT IS KEPT OF A SEARCH -/
def LV (n : Int) (w : Wd) : Prop := LU w ∧ SCR n w
theorem lv_mono {n m : Int} {w : Wd} (h : LV n w) (hn : n ≤ m) : LV m w := ⟨h.1, scr_mono h.2 hn⟩
theorem w0_LV : LV 0 w0 := by
  have e : w0 24 4 = 0 ∧ w0 28 9 = 0 := by decide +kernel
  have e27 : ∀ k : Nat, k < 1024 → w0 27 k = 0 := by decide +kernel
  exact ⟨w0_LU, ⟨⟨by rw [e.1]; decide, fun k hk => by rw [e.1, e27 k hk]; decide⟩, by rw [e.1]; decide⟩, fun f => absurd e.2 f⟩
theorem dv {xE : Option (Int × Wd)} {xR : Wd → Option (Int × Wd)} {m : Int} {X : Int → Int → Prop} (hd : OK xE (fun r1 u1 => OK (xR u1) (fun r2 u2 => LU u2 ∧ X r1 r2))) (hS : PC xE (fun _ u => SCR m u)) (hR : PC xE (fun _ u => PC (xR u) (fun _ u2 => ∀ c, c < 43 → u2 c = u c))) : OK xE (fun r1 u1 => OK (xR u1) (fun r2 u2 => LV m u2 ∧ X r1 r2)) := by
  obtain ⟨r1, u1, e1, r2, u2, e2, q1, q2⟩ := hd
  have f := hR r1 u1 e1 r2 u2 e2
  exact ⟨r1, u1, e1, r2, u2, e2, ⟨q1, scr_fr (hS r1 u1 e1) (f 5 (by decide)) (f 7 (by decide)) (f 24 (by decide)) (f 27 (by decide)) (f 28 (by decide)) (f 29 (by decide)) (f 30 (by decide)) (f 31 (by decide)) (f 35 (by decide))⟩, q2⟩
theorem d_er2 {xE : Option (Int × Wd)} {xR : Wd → Option (Int × Wd)} {w : Wd} (h : LU w) (hd : OK xE (fun _ u1 => OK (xR u1) (fun _ u2 => LU u2 ∧ True))) (hG : PC xE (fun _ u => RS u ∧ ∀ c, 43 ≤ c → u c = w c)) (q : ∀ a, RS a → ER a w → PC xE (fun r _ => PC (xR a) (fun r' _ => r = r'))) : OK xE (fun r1 u1 => OK (xR u1) (fun r2 u2 => LU u2 ∧ r1 = r2)) := by
  obtain ⟨r1, u1, e1, h1⟩ := hd
  refine ⟨r1, u1, e1, ?_⟩
  obtain ⟨r2, u2, e2, h2, _⟩ := h1
  obtain ⟨g, hR⟩ := hG r1 u1 e1
  exact ⟨r2, u2, e2, h2, q u1 g (lu_er h hR) r1 u1 e1 r2 u2 e2⟩
theorem v_sign {n : Int} {w : Wd} {v1 : Int} (h : LV n w) (hn : n ≤ 2600) (i_v1 : ((-2147483648 : Int) ≤ v1 ∧ v1 ≤ 2147483647)) : OK (f_E_sign v1 w) (fun r1 u1 => OK (f_R_sign v1 u1) (fun r2 u2 => LV (n + 5) u2 ∧ r1 = r2)) := dv (xR := fun u => f_R_sign v1 u) (X := fun r1 r2 => r1 = r2) (d_sign h.1 i_v1) (pc_w (pc_ok (e_E_sign h.1.1.1 i_v1)) (fun _ _ q => scr_mono (scr_g h.2 q.1 rfl) (by omega))) (pc_w (pc_ok (e_E_sign h.1.1.1 i_v1)) (fun _ _ q => pc_w (pc_ok (e_R_sign q.2.1 i_v1)) (fun _ _ q2 => g_lo q2.1 rfl)))
theorem v_end {n : Int} {w : Wd} {v1 : Int} (h : LV n w) (hn : n ≤ 2600) (i_v1 : ((-2147483648 : Int) ≤ v1 ∧ v1 ≤ 2147483647)) : OK (f_E_end v1 w) (fun r1 u1 => OK (f_R_end v1 u1) (fun r2 u2 => LV (n + 5) u2 ∧ r1 = r2)) := dv (xR := fun u => f_R_end v1 u) (X := fun r1 r2 => r1 = r2) (d_end h.1 i_v1) (pc_w (pc_ok (e_E_end h.1.1.1 i_v1)) (fun _ _ q => scr_mono (scr_g h.2 q.1 rfl) (by omega))) (pc_w (pc_ok (e_E_end h.1.1.1 i_v1)) (fun _ _ q => pc_w (pc_ok (e_R_end q.2.1 i_v1)) (fun _ _ q2 => g_lo q2.1 rfl)))
theorem v_land {n : Int} {w : Wd} (h : LV n w) (hn : n ≤ 2600) : OK (f_E_land w) (fun r1 u1 => OK (f_R_land u1) (fun r2 u2 => LV (n + 5) u2 ∧ r1 = r2)) := dv (xR := fun u => f_R_land u) (X := fun r1 r2 => r1 = r2) (d_land h.1) (pc_w (pc_and (fg_land h.1.1.1.1) (pc_ok (e_E_land h.1.1.1))) (fun _ _ q => scr_mono (fgt_scr h.2 q.1 q.2.1 rfl) (by omega))) (pc_w (pc_ok (e_E_land h.1.1.1)) (fun _ _ q => pc_w (pc_ok (e_R_land q.2.1)) (fun _ _ q2 => g_lo q2.1 rfl)))
theorem v_rule {n : Int} {w : Wd} (h : LV n w) (hn : n ≤ 2600) : OK (f_E_rule w) (fun r1 u1 => OK (f_R_rule u1) (fun r2 u2 => LV (n + 5) u2 ∧ r1 = r2)) := dv (xR := fun u => f_R_rule u) (X := fun r1 r2 => r1 = r2) (d_rule h.1) (pc_w (pc_ok (e_E_rule h.1.1.1)) (fun _ _ q => scr_mono (scr_g h.2 q.1 rfl) (by omega))) (pc_w (pc_ok (e_E_rule h.1.1.1)) (fun _ _ q => pc_w (pc_ok (e_R_rule q.2.1)) (fun _ _ q2 => g_lo q2.1 rfl)))
theorem v_of {n : Int} {w : Wd} {v1 v2 : Int} (h : LV n w) (hn : n ≤ 2600) (i_v1 : ((-2147483648 : Int) ≤ v1 ∧ v1 ≤ 2147483647)) (i_v2 : ((-2147483648 : Int) ≤ v2 ∧ v2 ≤ 2147483647)) : OK (f_A_of v1 v2 w) (fun r1 u1 => OK (f_R_of v1 v2 u1) (fun r2 u2 => LV (n + 5) u2 ∧ True)) := dv (xR := fun u => f_R_of v1 v2 u) (X := fun r1 r2 => True) (d_of h.1 i_v1 i_v2) (pc_w (pc_ok (e_A_of h.1.1.1 i_v1 i_v2)) (fun _ _ q => scr_mono (scr_fr h.2 (q.2 5 (by decide)) (q.2 7 (by decide)) (q.2 24 (by decide)) (q.2 27 (by decide)) (q.2 28 (by decide)) (q.2 29 (by decide)) (q.2 30 (by decide)) (q.2 31 (by decide)) (q.2 35 (by decide))) (by omega))) (pc_w (pc_ok (e_A_of h.1.1.1 i_v1 i_v2)) (fun _ _ q => pc_w (pc_ok (e_R_of q.1 i_v1 i_v2)) (fun _ _ q2 => g_lo q2.1 rfl)))
theorem v_law {n : Int} {w : Wd} {v1 v2 : Int} (h : LV n w) (hn : n ≤ 2600) (i_v1 : ((-2147483648 : Int) ≤ v1 ∧ v1 ≤ 2147483647)) (i_v2 : ((-2147483648 : Int) ≤ v2 ∧ v2 ≤ 2147483647)) : OK (f_E_law v1 v2 w) (fun r1 u1 => OK (f_R_law v1 v2 u1) (fun r2 u2 => LV (n + 5) u2 ∧ r1 = r2)) := dv (xR := fun u => f_R_law v1 v2 u) (X := fun r1 r2 => r1 = r2) (d_law h.1 i_v1 i_v2) (pc_w (pc_and (fg_law) (pc_ok (e_E_law h.1.1.1 i_v1 i_v2))) (fun _ _ q => scr_mono (fgt_scr h.2 q.1 q.2.1 rfl) (by omega))) (pc_w (pc_ok (e_E_law h.1.1.1 i_v1 i_v2)) (fun _ _ q => pc_w (pc_ok (e_R_law q.2 i_v1 i_v2)) (fun _ _ q2 => g_lo q2.1 rfl)))
theorem v_meet {n : Int} {w : Wd} {v1 v2 v3 : Int} (h : LV n w) (hn : n ≤ 2600) (i_v1 : ((-2147483648 : Int) ≤ v1 ∧ v1 ≤ 2147483647)) (i_v2 : ((-2147483648 : Int) ≤ v2 ∧ v2 ≤ 2147483647)) (i_v3 : ((0 : Int) ≤ v3 ∧ v3 ≤ 1)) : OK (f_E_meet v1 v2 v3 w) (fun r1 u1 => OK (f_R_meet v1 v2 v3 u1) (fun r2 u2 => LV (n + 5) u2 ∧ r1 = r2)) := dv (xR := fun u => f_R_meet v1 v2 v3 u) (X := fun r1 r2 => r1 = r2) (d_meet h.1 i_v1 i_v2 i_v3) (pc_w (pc_and (fg_meet) (pc_ok (e_E_meet h.1.1.1 i_v1 i_v2 i_v3))) (fun _ _ q => scr_mono (fgt_scr h.2 q.1 q.2.1 rfl) (by omega))) (pc_w (pc_ok (e_E_meet h.1.1.1 i_v1 i_v2 i_v3)) (fun _ _ q => pc_w (pc_ok (e_R_meet q.2 i_v1 i_v2 i_v3)) (fun _ _ q2 => g_lo q2.1 rfl)))
theorem v_hide {n : Int} {w : Wd} {v1 v2 : Int} (h : LV n w) (hn : n ≤ 2600) (i_v1 : ((-2147483648 : Int) ≤ v1 ∧ v1 ≤ 2147483647)) (i_v2 : ((0 : Int) ≤ v2 ∧ v2 ≤ 1)) : OK (f_E_hide v1 v2 w) (fun r1 u1 => OK (f_R_hide v1 v2 u1) (fun r2 u2 => LV (n + 5) u2 ∧ r1 = r2)) := dv (xR := fun u => f_R_hide v1 v2 u) (X := fun r1 r2 => r1 = r2) (d_hide h.1 i_v1 i_v2) (pc_w (pc_and (fg_hide) (pc_ok (e_E_hide h.1.1.1 i_v1 i_v2))) (fun _ _ q => scr_mono (fgt_scr h.2 q.1 q.2.1 rfl) (by omega))) (pc_w (pc_ok (e_E_hide h.1.1.1 i_v1 i_v2)) (fun _ _ q => pc_w (pc_ok (e_R_hide q.2 i_v1 i_v2)) (fun _ _ q2 => g_lo q2.1 rfl)))
theorem v_baby {n : Int} {w : Wd} {v1 : Int} (h : LV n w) (hn : n ≤ 2600) (i_v1 : ((-2147483648 : Int) ≤ v1 ∧ v1 ≤ 2147483647)) : OK (f_E_baby v1 w) (fun r1 u1 => OK (f_R_baby v1 u1) (fun r2 u2 => LV (n + 5) u2 ∧ r1 = r2)) := dv (xR := fun u => f_R_baby v1 u) (X := fun r1 r2 => r1 = r2) (d_baby h.1 i_v1) (pc_w (pc_and (fg_baby) (pc_ok (e_E_baby h.1.1.1 i_v1))) (fun _ _ q => scr_mono (fgt_scr h.2 q.1 q.2.1 rfl) (by omega))) (pc_w (pc_ok (e_E_baby h.1.1.1 i_v1)) (fun _ _ q => pc_w (pc_ok (e_R_baby q.2 i_v1)) (fun _ _ q2 => g_lo q2.1 rfl)))
theorem v_sheet {n : Int} {w : Wd} {v1 v2 v3 v4 : Int} (h : LV n w) (hn : n ≤ 2600) (i_v1 : ((-2147483648 : Int) ≤ v1 ∧ v1 ≤ 2147483647)) (i_v2 : ((-2147483648 : Int) ≤ v2 ∧ v2 ≤ 2147483647)) (i_v3 : ((-2147483648 : Int) ≤ v3 ∧ v3 ≤ 2147483647)) (i_v4 : ((-2147483648 : Int) ≤ v4 ∧ v4 ≤ 2147483647)) : OK (f_E_sheet v1 v2 v3 v4 w) (fun r1 u1 => OK (f_R_sheet v1 v2 v3 v4 u1) (fun r2 u2 => LV (n + 5) u2 ∧ r1 = r2)) := dv (xR := fun u => f_R_sheet v1 v2 v3 v4 u) (X := fun r1 r2 => r1 = r2) (d_sheet h.1 i_v1 i_v2 i_v3 i_v4) (pc_w (pc_ok (e_E_sheet h.1.1.1 i_v1 i_v2 i_v3 i_v4)) (fun _ _ q => scr_mono (scr_g h.2 q.1 rfl) (by omega))) (pc_w (pc_ok (e_E_sheet h.1.1.1 i_v1 i_v2 i_v3 i_v4)) (fun _ _ q => pc_w (pc_ok (e_R_sheet q.2 i_v1 i_v2 i_v3 i_v4)) (fun _ _ q2 => g_lo q2.1 rfl)))
theorem v_week {n : Int} {w : Wd} (h : LV n w) (hn : n ≤ 2600) : OK (f_E_week w) (fun r1 u1 => OK (f_R_week u1) (fun r2 u2 => LV (n + 5) u2 ∧ r1 = r2)) := dv (xR := fun u => f_R_week u) (X := fun r1 r2 => r1 = r2) (d_week h.1) (pc_w (pc_and (fg_week h.1.1.1.1) (pc_ok (e_E_week h.1.1.1))) (fun _ _ q => scr_mono (fgt_scr h.2 q.1 q.2.1 rfl) (by omega))) (pc_w (pc_ok (e_E_week h.1.1.1)) (fun _ _ q => pc_w (pc_ok (e_R_week q.2.1)) (fun _ _ q2 => g_lo q2.1 rfl)))
theorem v_goes {n : Int} {w : Wd} {v1 : Int} (h : LV n w) (hn : n ≤ 2600) (i_v1 : ((-2147483648 : Int) ≤ v1 ∧ v1 ≤ 2147483647)) : OK (f_E_goes v1 w) (fun r1 u1 => OK (f_R_goes v1 u1) (fun r2 u2 => LV (n + 5) u2 ∧ r1 = r2)) := dv (xR := fun u => f_R_goes v1 u) (X := fun r1 r2 => r1 = r2) (d_goes h.1 i_v1) (pc_w (pc_and (fg_goes h.1.1.1.1) (pc_ok (e_E_goes h.1.1.1 i_v1))) (fun _ _ q => scr_mono (fgt_scr h.2 q.1 q.2.1 rfl) (by omega))) (pc_w (pc_ok (e_E_goes h.1.1.1 i_v1)) (fun _ _ q => pc_w (pc_ok (e_R_goes q.2 i_v1)) (fun _ _ q2 => g_lo q2.1 rfl)))
theorem v_undo {n : Int} {w : Wd} (h : LV n w) (hn : n ≤ 2600) : OK (f_E_undo w) (fun r1 u1 => OK (f_R_undo u1) (fun r2 u2 => LV (n + 5) u2 ∧ r1 = r2)) := dv (xR := fun u => f_R_undo u) (X := fun r1 r2 => r1 = r2) (d_undo h.1) (pc_w (pc_and (fg_undo h.1.1.1.1) (pc_ok (e_E_undo h.1.1.1))) (fun _ _ q => scr_mono (fgt_scr h.2 q.1 q.2.1 rfl) (by omega))) (pc_w (pc_ok (e_E_undo h.1.1.1)) (fun _ _ q => pc_w (pc_ok (e_R_undo q.2)) (fun _ _ q2 => g_lo q2.1 rfl)))
theorem v_can {n : Int} {w : Wd} (h : LV n w) (hn : n ≤ 2600) : OK (f_E_can w) (fun r1 u1 => OK (f_R_can u1) (fun r2 u2 => LV (n + 5) u2 ∧ True)) := dv (xR := fun u => f_R_can u) (X := fun r1 r2 => True) (d_can h.1) (sc_can h.2 hn) (pc_w (pc_ok (e_E_can h.1.1.1)) (fun _ _ q => pc_w (pc_ok (e_R_can q.2)) (fun _ _ q2 => g_lo q2.1 rfl)))
theorem v_picks {n : Int} {w : Wd} {v1 : Int} (h : LV n w) (hn : n ≤ 2600) (i_v1 : ((-2147483648 : Int) ≤ v1 ∧ v1 ≤ 2147483647)) : OK (f_E_picks v1 w) (fun r1 u1 => OK (f_R_picks v1 u1) (fun r2 u2 => LV (n + 5) u2 ∧ r1 = r2)) := dv (xR := fun u => f_R_picks v1 u) (X := fun r1 r2 => r1 = r2) (d_picks h.1 i_v1) (pc_w (pc_ok (e_E_picks h.1.1.1 i_v1)) (fun _ _ q => scr_mono (scr_g h.2 q.1 rfl) (by omega))) (pc_w (pc_ok (e_E_picks h.1.1.1 i_v1)) (fun _ _ q => pc_w (pc_ok (e_R_picks q.2 i_v1)) (fun _ _ q2 => g_lo q2.1 rfl)))
theorem v_pairs {n : Int} {w : Wd} (h : LV n w) (hn : n ≤ 2600) : OK (f_E_pairs w) (fun r1 u1 => OK (f_R_pairs u1) (fun r2 u2 => LV (n + 5) u2 ∧ True)) := dv (xR := fun u => f_R_pairs u) (X := fun r1 r2 => True) (d_pairs h.1) (sc_pairs h.2 hn) (pc_w (pc_ok (e_E_pairs h.1.1.1)) (fun _ _ q => pc_w (pc_ok (e_R_pairs q.2)) (fun _ _ q2 => g_lo q2.1 rfl)))
theorem v_bars {n : Int} {w : Wd} (h : LV n w) (hn : n ≤ 2600) : OK (f_E_bars w) (fun r1 u1 => OK (f_R_bars u1) (fun r2 u2 => LV (n + 5) u2 ∧ True)) := dv (xR := fun u => f_R_bars u) (X := fun r1 r2 => True) (d_bars h.1) (sc_bars h.2 hn) (pc_w (pc_ok (e_E_bars h.1.1.1)) (fun _ _ q => pc_w (pc_ok (e_R_bars q.2)) (fun _ _ q2 => g_lo q2.1 rfl)))
theorem v_states {n : Int} {w : Wd} (h : LV n w) (hn : n ≤ 2600) : OK (f_E_states w) (fun r1 u1 => OK (f_R_states u1) (fun r2 u2 => LV (n + 5) u2 ∧ True)) := dv (xR := fun u => f_R_states u) (X := fun r1 r2 => True) (d_states h.1) (sc_states h.1 h.2 hn) (pc_w (pc_ok (e_E_states h.1.1.1)) (fun _ _ q => pc_w (pc_ok (e_R_states q.2)) (fun _ _ q2 => g_lo q2.1 rfl)))
theorem v_most {n : Int} {w : Wd} {v1 : Int} (h : LV n w) (hn : n ≤ 2600) (i_v1 : ((-2147483648 : Int) ≤ v1 ∧ v1 ≤ 2147483647)) : OK (f_E_most v1 w) (fun r1 u1 => OK (f_R_most v1 u1) (fun r2 u2 => LV (n + 5) u2 ∧ True)) := dv (xR := fun u => f_R_most v1 u) (X := fun r1 r2 => True) (d_most h.1 i_v1) (sc_most h.1 h.2 hn) (pc_w (pc_ok (e_E_most h.1.1.1 i_v1)) (fun _ _ q => pc_w (pc_ok (e_R_most q.2 i_v1)) (fun _ _ q2 => g_lo q2.1 rfl)))
theorem v_reach {n : Int} {w : Wd} {v1 : Int} (h : LV n w) (hn : n ≤ 2600) (i_v1 : ((-2147483648 : Int) ≤ v1 ∧ v1 ≤ 2147483647)) : OK (f_E_reach v1 w) (fun r1 u1 => OK (f_R_reach v1 u1) (fun r2 u2 => LV (n + 5) u2 ∧ True)) := dv (xR := fun u => f_R_reach v1 u) (X := fun r1 r2 => True) (d_reach h.1 i_v1) (sc_reach h.1 h.2 hn) (pc_w (pc_ok (e_E_reach h.1.1.1 i_v1)) (fun _ _ q => pc_w (pc_ok (e_R_reach q.2 i_v1)) (fun _ _ q2 => g_lo q2.1 rfl)))
theorem v_fewest {n : Int} {w : Wd} {v1 : Int} (h : LV n w) (hn : n ≤ 2600) (i_v1 : ((-2147483648 : Int) ≤ v1 ∧ v1 ≤ 2147483647)) : OK (f_E_fewest v1 w) (fun r1 u1 => OK (f_R_fewest v1 u1) (fun r2 u2 => LV (n + 5) u2 ∧ True)) := dv (xR := fun u => f_R_fewest v1 u) (X := fun r1 r2 => True) (d_fewest h.1 i_v1) (sc_fewest h.1 h.2 hn) (pc_w (pc_ok (e_E_fewest h.1.1.1 i_v1)) (fun _ _ q => pc_w (pc_ok (e_R_fewest q.2 i_v1)) (fun _ _ q2 => g_lo q2.1 rfl)))
theorem v_crowd {n : Int} {w : Wd} (h : LV n w) (hn : n ≤ 2600) : OK (f_E_crowd w) (fun r1 u1 => OK (f_R_crowd u1) (fun r2 u2 => LV (n + 5) u2 ∧ True)) := dv (xR := fun u => f_R_crowd u) (X := fun r1 r2 => True) (d_crowd h.1) (sc_crowd h.1 h.2 hn) (pc_w (pc_ok (e_E_crowd h.1.1.1)) (fun _ _ q => pc_w (pc_ok (e_R_crowd q.2)) (fun _ _ q2 => g_lo q2.1 rfl)))
theorem v_both {n : Int} {w : Wd} {v1 v2 v3 : Int} (h : LV n w) (hn : n ≤ 2600) (i_v1 : ((-2147483648 : Int) ≤ v1 ∧ v1 ≤ 2147483647)) (i_v2 : ((-2147483648 : Int) ≤ v2 ∧ v2 ≤ 2147483647)) (i_v3 : ((-2147483648 : Int) ≤ v3 ∧ v3 ≤ 2147483647)) : OK (f_E_both v1 v2 v3 w) (fun r1 u1 => OK (f_R_both v1 v2 v3 u1) (fun r2 u2 => LV (n + 5) u2 ∧ True)) := dv (xR := fun u => f_R_both v1 v2 v3 u) (X := fun r1 r2 => True) (d_both h.1 i_v1 i_v2 i_v3) (sc_both h.1 h.2 hn) (pc_w (pc_ok (e_E_both h.1.1.1 i_v1 i_v2 i_v3)) (fun _ _ q => pc_w (pc_ok (e_R_both q.2 i_v1 i_v2 i_v3)) (fun _ _ q2 => g_lo q2.1 rfl)))
theorem v_last {n : Int} {w : Wd} (h : LV n w) (hn : n ≤ 2600) : OK (f_E_last w) (fun r1 u1 => OK (f_R_last u1) (fun r2 u2 => LV (n + 5) u2 ∧ True)) := dv (xR := fun u => f_R_last u) (X := fun r1 r2 => True) (d_last h.1) (sc_last h.1 h.2 hn) (pc_w (pc_ok (e_E_last h.1.1.1)) (fun _ _ q => pc_w (pc_ok (e_R_last q.2)) (fun _ _ q2 => g_lo q2.1 rfl)))
theorem v_begin {n : Int} {w : Wd} (h : LV n w) (hn : n ≤ 2600) : OK (f_E_begin w) (fun r1 u1 => OK (f_R_begin2 u1) (fun r2 u2 => LV (n + 5) u2 ∧ True)) := dv (xR := fun u => f_R_begin2 u) (X := fun r1 r2 => True) (d_begin h.1) (sc_begin h.1 h.2 hn) (pc_w (pc_ok (e_E_begin h.1.1.1)) (fun _ _ q => pc_w (pc_ok (e_R_begin2 q.2)) (fun _ _ q2 => g_lo q2.1 rfl)))
theorem v_cheap {n : Int} {w : Wd} {v1 : Int} (h : LV n w) (hn : n ≤ 2600) (i_v1 : ((-2147483648 : Int) ≤ v1 ∧ v1 ≤ 2147483647)) : OK (f_E_cheap v1 w) (fun r1 u1 => OK (f_R_cheap v1 u1) (fun r2 u2 => LV (n + 5) u2 ∧ True)) := dv (xR := fun u => f_R_cheap v1 u) (X := fun r1 r2 => True) (d_cheap h.1 i_v1) (sc_cheap h.1 h.2 hn) (pc_w (pc_ok (e_E_cheap h.1.1.1 i_v1)) (fun _ _ q => pc_w (pc_ok (e_R_cheap q.2 i_v1)) (fun _ _ q2 => g_lo q2.1 rfl)))
theorem v_stays {n : Int} {w : Wd} {v1 : Int} (h : LV n w) (hn : n ≤ 2600) (i_v1 : ((-2147483648 : Int) ≤ v1 ∧ v1 ≤ 2147483647)) : OK (f_E_stays v1 w) (fun r1 u1 => OK (f_R_stays v1 u1) (fun r2 u2 => LV (n + 5) u2 ∧ True)) := dv (xR := fun u => f_R_stays v1 u) (X := fun r1 r2 => True) (d_stays h.1 i_v1) (sc_stays h.1 h.2 hn) (pc_w (pc_ok (e_E_stays h.1.1.1 i_v1)) (fun _ _ q => pc_w (pc_ok (e_R_stays q.2 i_v1)) (fun _ _ q2 => g_lo q2.1 rfl)))
theorem v_soonest {n : Int} {w : Wd} {v1 : Int} (h : LV n w) (hn : n ≤ 2600) (i_v1 : ((-2147483648 : Int) ≤ v1 ∧ v1 ≤ 2147483647)) : OK (f_E_soonest v1 w) (fun r1 u1 => OK (f_R_soonest v1 u1) (fun r2 u2 => LV (n + 5) u2 ∧ True)) := dv (xR := fun u => f_R_soonest v1 u) (X := fun r1 r2 => True) (d_soonest h.1 i_v1) (sc_soonest h.1 h.2 hn) (pc_w (pc_ok (e_E_soonest h.1.1.1 i_v1)) (fun _ _ q => pc_w (pc_ok (e_R_soonest q.2 i_v1)) (fun _ _ q2 => g_lo q2.1 rfl)))
theorem v_worth {n : Int} {w : Wd} {v1 : Int} (h : LV n w) (hn : n ≤ 2600) (i_v1 : ((-2147483648 : Int) ≤ v1 ∧ v1 ≤ 2147483647)) : OK (f_E_worth v1 w) (fun r1 u1 => OK (f_R_worth v1 u1) (fun r2 u2 => LV (n + 5) u2 ∧ True)) := dv (xR := fun u => f_R_worth v1 u) (X := fun r1 r2 => True) (d_worth h.1 i_v1) (sc_worth h.1 h.2 hn) (pc_w (pc_ok (e_E_worth h.1.1.1 i_v1)) (fun _ _ q => pc_w (pc_ok (e_R_worth q.2 i_v1)) (fun _ _ q2 => g_lo q2.1 rfl)))
theorem v_needed {n : Int} {w : Wd} (h : LV n w) (hn : n ≤ 2600) : OK (f_E_needed w) (fun r1 u1 => OK (f_R_needed u1) (fun r2 u2 => LV (n + 5) u2 ∧ True)) := dv (xR := fun u => f_R_needed u) (X := fun r1 r2 => True) (d_needed h.1) (sc_needed h.1 h.2 hn) (pc_w (pc_ok (e_E_needed h.1.1.1)) (fun _ _ q => pc_w (pc_ok (e_R_needed q.2)) (fun _ _ q2 => g_lo q2.1 rfl)))
theorem v_never {n : Int} {w : Wd} (h : LV n w) (hn : n ≤ 2600) : OK (f_E_never w) (fun r1 u1 => OK (f_R_never u1) (fun r2 u2 => LV (n + 5) u2 ∧ True)) := dv (xR := fun u => f_R_never u) (X := fun r1 r2 => True) (d_never h.1) (sc_never h.1 h.2 hn) (pc_w (pc_ok (e_E_never h.1.1.1)) (fun _ _ q => pc_w (pc_ok (e_R_never q.2)) (fun _ _ q2 => g_lo q2.1 rfl)))
theorem v_bound {n : Int} {w : Wd} (h : LV n w) (hn : n ≤ 2600) : OK (f_E_bound w) (fun r1 u1 => OK (f_R_bound u1) (fun r2 u2 => LV (n + 5) u2 ∧ True)) := dv (xR := fun u => f_R_bound u) (X := fun r1 r2 => True) (d_bound h.1) (pc_w (pc_ok (e_E_bound h.1.1.1)) (fun _ _ q => scr_mono (scr_g h.2 q.1 rfl) (by omega))) (pc_w (pc_ok (e_E_bound h.1.1.1)) (fun _ _ q => pc_w (pc_ok (e_R_bound q.2)) (fun _ _ q2 => g_lo q2.1 rfl)))
theorem v_far {n : Int} {w : Wd} {v1 : Int} (h : LV n w) (hn : n ≤ 2600) (i_v1 : ((-2147483648 : Int) ≤ v1 ∧ v1 ≤ 2147483647)) : OK (f_E_far v1 w) (fun r1 u1 => OK (f_R_far v1 u1) (fun r2 u2 => LV (n + 5) u2 ∧ r1 = r2)) := dv (xR := fun u => f_R_far v1 u) (X := fun r1 r2 => r1 = r2) (d_er2 (xR := fun u => f_R_far v1 u) h.1 (d_far h.1 i_v1) (pc_w (pc_ok (e_E_far h.1.1.1 i_v1)) (fun _ _ q => ⟨q.2, g_hi q.1 (by decide)⟩)) (fun a ga ha => er_far ha (ks_kb ga.2.2))) (pc_w (pc_ok (e_E_far h.1.1.1 i_v1)) (fun _ _ q => scr_mono (scr_g h.2 q.1 rfl) (by omega))) (pc_w (pc_ok (e_E_far h.1.1.1 i_v1)) (fun _ _ q => pc_w (pc_ok (e_R_far q.2 i_v1)) (fun _ _ q2 => g_lo q2.1 rfl)))
theorem v_line {n : Int} {w : Wd} {v1 : Int} (h : LV n w) (hn : n ≤ 2600) (i_v1 : ((-2147483648 : Int) ≤ v1 ∧ v1 ≤ 2147483647)) : OK (f_E_line v1 w) (fun r1 u1 => OK (f_R_line v1 u1) (fun r2 u2 => LV (n + 5) u2 ∧ True)) := dv (xR := fun u => f_R_line v1 u) (X := fun r1 r2 => True) (d_line h.1 i_v1) (pc_w (pc_ok (e_E_line h.1.1.1 i_v1)) (fun _ _ q => scr_mono (scr_g h.2 q.1 rfl) (by omega))) (pc_w (pc_ok (e_E_line h.1.1.1 i_v1)) (fun _ _ q => pc_w (pc_ok (e_R_line q.2 i_v1)) (fun _ _ q2 => g_lo q2.1 rfl)))
theorem v_led {n : Int} {w : Wd} {v1 : Int} (h : LV n w) (hn : n ≤ 2600) (i_v1 : ((-2147483648 : Int) ≤ v1 ∧ v1 ≤ 2147483647)) : OK (f_E_led v1 w) (fun r1 u1 => OK (f_R_led v1 u1) (fun r2 u2 => LV (n + 5) u2 ∧ True)) := dv (xR := fun u => f_R_led v1 u) (X := fun r1 r2 => True) (d_led h.1 i_v1) (pc_w (pc_ok (e_E_led h.1.1.1 i_v1)) (fun _ _ q => scr_mono (scr_g h.2 q.1 rfl) (by omega))) (pc_w (pc_ok (e_E_led h.1.1.1 i_v1)) (fun _ _ q => pc_w (pc_ok (e_R_led q.2 i_v1)) (fun _ _ q2 => g_lo q2.1 rfl)))
theorem v_was {n : Int} {w : Wd} {v1 : Int} (h : LV n w) (hn : n ≤ 2600) (i_v1 : ((-2147483648 : Int) ≤ v1 ∧ v1 ≤ 2147483647)) : OK (f_E_was v1 w) (fun r1 u1 => OK (f_R_was v1 u1) (fun r2 u2 => LV (n + 5) u2 ∧ True)) := dv (xR := fun u => f_R_was v1 u) (X := fun r1 r2 => True) (d_was h.1 i_v1) (pc_w (pc_ok (e_E_was h.1.1.1 i_v1)) (fun _ _ q => scr_mono (scr_g h.2 q.1 rfl) (by omega))) (pc_w (pc_ok (e_E_was h.1.1.1 i_v1)) (fun _ _ q => pc_w (pc_ok (e_R_was q.2 i_v1)) (fun _ _ q2 => g_lo q2.1 rfl)))
theorem v_common {n : Int} {w : Wd} {v1 v2 : Int} (h : LV n w) (hn : n ≤ 2600) (i_v1 : ((-2147483648 : Int) ≤ v1 ∧ v1 ≤ 2147483647)) (i_v2 : ((-2147483648 : Int) ≤ v2 ∧ v2 ≤ 2147483647)) : OK (f_E_common v1 v2 w) (fun r1 u1 => OK (f_R_common v1 v2 u1) (fun r2 u2 => LV (n + 5) u2 ∧ True)) := dv (xR := fun u => f_R_common v1 v2 u) (X := fun r1 r2 => True) (d_common h.1 i_v1 i_v2) (pc_w (pc_ok (e_E_common h.1.1.1 i_v1 i_v2)) (fun _ _ q => scr_mono (scr_g h.2 q.1 rfl) (by omega))) (pc_w (pc_ok (e_E_common h.1.1.1 i_v1 i_v2)) (fun _ _ q => pc_w (pc_ok (e_R_common q.2 i_v1 i_v2)) (fun _ _ q2 => g_lo q2.1 rfl)))
theorem v_father {n : Int} {w : Wd} (h : LV n w) (hn : n ≤ 2600) : OK (f_E_father w) (fun r1 u1 => OK (f_R_father u1) (fun r2 u2 => LV (n + 5) u2 ∧ True)) := dv (xR := fun u => f_R_father u) (X := fun r1 r2 => True) (d_father h.1) (pc_w (pc_ok (e_E_father h.1.1.1)) (fun _ _ q => scr_mono (scr_g h.2 q.1 rfl) (by omega))) (pc_w (pc_ok (e_E_father h.1.1.1)) (fun _ _ q => pc_w (pc_ok (e_R_father q.2)) (fun _ _ q2 => g_lo q2.1 rfl)))
theorem v_keep {n : Int} {w : Wd} {v1 : Int} (h : LV n w) (hn : n ≤ 2600) (i_v1 : ((-2147483648 : Int) ≤ v1 ∧ v1 ≤ 2147483647)) : OK (f_E_keep v1 w) (fun r1 u1 => OK (f_R_keep v1 u1) (fun r2 u2 => LV (n + 5) u2 ∧ r1 = r2)) := dv (xR := fun u => f_R_keep v1 u) (X := fun r1 r2 => r1 = r2) (d_keep h.1 i_v1) (pc_w (pc_ok (e_E_keep h.1.1.1 i_v1)) (fun _ _ q => scr_mono (scr_g h.2 q.1 rfl) (by omega))) (pc_w (pc_ok (e_E_keep h.1.1.1 i_v1)) (fun _ _ q => pc_w (pc_ok (e_R_keep q.2 i_v1)) (fun _ _ q2 => g_lo q2.1 rfl)))
theorem v_again {n : Int} {w : Wd} {v1 : Int} (h : LV n w) (hn : n ≤ 2600) (i_v1 : ((-2147483648 : Int) ≤ v1 ∧ v1 ≤ 2147483647)) : OK (f_E_again v1 w) (fun r1 u1 => OK (f_R_again v1 u1) (fun r2 u2 => LV (n + 5) u2 ∧ r1 = r2)) := dv (xR := fun u => f_R_again v1 u) (X := fun r1 r2 => r1 = r2) (d_again h.1 i_v1) (pc_w (pc_and (fg_again h.1.1.1.1) (pc_ok (e_E_again h.1.1.1 i_v1))) (fun _ _ q => scr_mono (fgt_scr h.2 q.1 q.2.1 rfl) (by omega))) (pc_w (pc_ok (e_E_again h.1.1.1 i_v1)) (fun _ _ q => pc_w (pc_ok (e_R_again q.2 i_v1)) (fun _ _ q2 => g_lo q2.1 rfl)))
theorem v_count {n : Int} {w : Wd} {v1 : Int} (h : LV n w) (hn : n ≤ 2600) (i_v1 : ((-2147483648 : Int) ≤ v1 ∧ v1 ≤ 2147483647)) : OK (f_E_count v1 w) (fun r1 u1 => OK (f_R_count v1 u1) (fun r2 u2 => LV (n + 5) u2 ∧ True)) := dv (xR := fun u => f_R_count v1 u) (X := fun r1 r2 => True) (d_count h.1 i_v1) (pc_w (pc_ok (e_E_count h.1.1.1 i_v1)) (fun _ _ q => scr_mono (scr_g h.2 q.1 rfl) (by omega))) (pc_w (pc_ok (e_E_count h.1.1.1 i_v1)) (fun _ _ q => pc_w (pc_ok (e_R_count q.2 i_v1)) (fun _ _ q2 => g_lo q2.1 rfl)))
theorem v_row {n : Int} {w : Wd} {v1 : Int} (h : LV n w) (hn : n ≤ 2600) (i_v1 : ((-2147483648 : Int) ≤ v1 ∧ v1 ≤ 2147483647)) : OK (f_A_row v1 w) (fun r1 u1 => OK (f_R_row v1 u1) (fun r2 u2 => LV (n + 5) u2 ∧ True)) := dv (xR := fun u => f_R_row v1 u) (X := fun r1 r2 => True) (d_row h.1 i_v1) (pc_w (pc_ok (e_A_row h.1.1.1 i_v1)) (fun _ _ q => scr_mono (scr_fr h.2 (q.2 5 (by decide)) (q.2 7 (by decide)) (q.2 24 (by decide)) (q.2 27 (by decide)) (q.2 28 (by decide)) (q.2 29 (by decide)) (q.2 30 (by decide)) (q.2 31 (by decide)) (q.2 35 (by decide))) (by omega))) (pc_w (pc_ok (e_A_row h.1.1.1 i_v1)) (fun _ _ q => pc_w (pc_ok (e_R_row q.1 i_v1)) (fun _ _ q2 => g_lo q2.1 rfl)))
