/-! FAR: steps of KNOWING, by both -/
def kst (P : Int) (kn : Nat → Int) (F H : Nat → Bool) (i : Nat) : Nat → Nat → Bool
  | 0, o => decide (o = i)
  | d + 1, o => kst P kn F H i d o || (kbn kn (fun x => kst P kn F H i d x && !H x) P.toNat o && (F o || H o))
theorem kst_m {P : Int} {kn : Nat → Int} {F H : Nat → Bool} {i d e o : Nat} (h : kst P kn F H i d o = true) (hd : d ≤ e) : kst P kn F H i e o = true := by
  induction e with
  | zero => rw [show d = 0 by omega] at h; exact h
  | succ e ih =>
    by_cases c : d = e + 1
    · rw [← c]; exact h
    · rw [kst, ih (by omega)]; rfl
theorem kst_s {P : Int} {kn : Nat → Int} {F H : Nat → Bool} {i d o : Nat} : kst P kn F H i (d + 1) o = true ↔ kst P kn F H i d o = true ∨ (∃ x, x < P.toNat ∧ (kst P kn F H i d x = true ∧ H x = false) ∧ bt (kn x) o = true) ∧ (F o = true ∨ H o = true) := by
  rw [kst, Bool.or_eq_true, Bool.and_eq_true, Bool.or_eq_true, kbn_t]
  have hb : ∀ x, (kst P kn F H i d x && !H x) = true ↔ (kst P kn F H i d x = true ∧ H x = false) := fun x => by
    cases kst P kn F H i d x <;> cases H x <;> simp
  constructor
  · rintro (a | ⟨⟨x, hx, a, b⟩, c⟩)
    · exact Or.inl a
    · exact Or.inr ⟨⟨x, hx, (hb x).mp a, b⟩, c⟩
  · rintro (a | ⟨⟨x, hx, a, b⟩, c⟩)
    · exact Or.inl a
    · exact Or.inr ⟨⟨x, hx, (hb x).mpr a, b⟩, c⟩
def FTD (P : Int) (kn : Nat → Int) (F H : Nat → Bool) (i d : Nat) : Prop := ∃ q : Nat, (q : Int) < P ∧ H q = true ∧ kst P kn F H i d q = true
def FAQ (P : Int) (kn : Nat → Int) (F H : Nat → Bool) (i : Nat) (r : Int) : Prop := (r = -2 ∧ ∀ d : Nat, (d : Int) ≤ P → ¬ FTD P kn F H i d) ∨ ((0 ≤ r ∧ r ≤ P) ∧ FTD P kn F H i r.toNat ∧ ∀ d : Nat, (d : Int) < r → ¬ FTD P kn F H i d)
theorem faq_one {P : Int} {kn : Nat → Int} {F H : Nat → Bool} {i : Nat} {r r' : Int} (a : FAQ P kn F H i r) (b : FAQ P kn F H i r') : r = r' := by
  rcases a with ⟨a1, a2⟩ | ⟨a1, a2, a3⟩
  · rcases b with ⟨b1, _⟩ | ⟨b1, b2, _⟩
    · omega
    · exact absurd b2 (a2 _ (by omega))
  · rcases b with ⟨_, b2⟩ | ⟨b1, b2, b3⟩
    · exact absurd a2 (b2 _ (by omega))
    · rcases Int.lt_trichotomy r r' with c | c | c
      · exact absurd a2 (b3 _ (by omega))
      · exact c
      · exact absurd b2 (a3 _ (by omega))
/-- the class: who is within so many steps -/
def wthn (P : Int) (kn : Nat → Int) (F H : Nat → Bool) (i d o : Nat) : Bool := kst P kn F H i d o && !H o
theorem win_pc {P : Int} {s h kn : Nat → Int} {w : Wd} {v1 k : Int} (hP : 0 ≤ P ∧ P ≤ 10) (hW : WH (w 5 4) s P) (h3 : w 5 3 = P) (h5 : B10 (w 5 5) (hB P h)) (hkn : ∀ j : Nat, (j : Int) < P → w 7 j = kn j ∧ 0 ≤ kn j ∧ kn j ≤ 1023) (hv : 0 ≤ v1 ∧ v1 < P) (hf : fre P s h v1.toNat = true) (hk : 0 ≤ k ∧ k ≤ 20) : PC (f_F_within v1 k w) (fun r u => u = w ∧ B10 r (wthn P kn (fre P s h) (gs P s) v1.toNat k.toNat)) := by
  have nofg : ∀ o, o < 10 → fre P s h o = true → gs P s o = false := fun o ho e => by
    cases c : gs P s o with
    | false => rfl
    | true => rw [gs_fre (h := h) o ho c] at e; cases e
  have l12 : ∀ (n : Nat) {v3 v4 : Int}, 0 ≤ v4 → v4 ≤ k → B10 v3 (wthn P kn (fre P s h) (gs P s) v1.toNat v4.toNat) → PC (f_F_within_12 n k v3 v4 w) (fun r u => u = w ∧ B10 r (wthn P kn (fre P s h) (gs P s) v1.toNat k.toNat)) := by
    intro n
    induction n with
    | zero => intros; exact pc_none
    | succ n ih =>
      intro v3 v4 i4 i4' hB3
      rw [f_F_within_12]
      refine pc_ite (fun c => pc_some ⟨rfl, by rw [show k = v4 by omega]; exact hB3⟩) (fun c => ?_)
      refine pc_call (knb_e (w := w) (x := v3) (f := wthn P kn (fre P s h) (gs P s) v1.toNat v4.toNat) (by rw [h3]; exact hP) hB3.2 (fun j hj => by rw [h3] at hj; rw [(hkn j hj).1]; exact (hkn j hj).2)) (fun r4 u5 q => ?_)
      rw [q.1]
      have q2 := q.2
      rw [h3] at q2
      refine pc_call (ef_e hW hP h3 h5) (fun r6 u7 z => pc_let (fun x8 e8 => pc_let (fun x9 e9 => ?_)))
      rw [w32_id (by omega)] at e9
      rw [z.1, e8, e9]
      refine ih (by omega) (by omega) (b10_w (b10_or hB3 (b10_and q2 z.2.2)) (fun o ho => ?_))
      rw [show (v4 + 1).toNat = v4.toNat + 1 by omega]
      show (wthn P kn (fre P s h) (gs P s) v1.toNat v4.toNat o || (kbn (w 7) (wthn P kn (fre P s h) (gs P s) v1.toNat v4.toNat) P.toNat o && fre P s h o)) = ((kst P kn (fre P s h) (gs P s) v1.toNat v4.toNat o || (kbn kn (fun x => kst P kn (fre P s h) (gs P s) v1.toNat v4.toNat x && !gs P s x) P.toNat o && (fre P s h o || gs P s o))) && !gs P s o)
      rw [kbn_w (kn' := kn) (fun i hi => (hkn i (by omega)).1)]
      show ((kst P kn (fre P s h) (gs P s) v1.toNat v4.toNat o && !gs P s o) || (kbn kn (fun x => kst P kn (fre P s h) (gs P s) v1.toNat v4.toNat x && !gs P s x) P.toNat o && fre P s h o)) = _
      have nf := nofg o ho
      cases a : kst P kn (fre P s h) (gs P s) v1.toNat v4.toNat o <;> cases b : kbn kn (fun x => kst P kn (fre P s h) (gs P s) v1.toNat v4.toNat x && !gs P s x) P.toNat o <;> cases c1 : fre P s h o <;> cases c2 : gs P s o <;> simp [c1, c2] at nf ⊢
  unfold f_F_within
  refine pc_call (ef_e hW hP h3 h5) (fun r1 u2 z => pc_let (fun x3 e3 => ?_))
  rw [z.1, e3]
  refine l12 FU (by decide) hk.1 (b10_w (b10_and (b10_1 (i := v1) (by omega)) z.2.2) (fun o ho => ?_))
  show (decide (o = v1.toNat) && fre P s h o) = (decide (o = v1.toNat) && !gs P s o)
  by_cases c : o = v1.toNat
  · rw [c, hf, nofg v1.toNat (by omega) hf]; rfl
  · rw [decide_eq_false c]; rfl
theorem efar_pc {P : Int} {s h kn : Nat → Int} {w : Wd} {v1 : Int} (hP : 0 ≤ P ∧ P ≤ 10) (hW : WH (w 5 4) s P) (h3 : w 5 3 = P) (h5 : B10 (w 5 5) (hB P h)) (hkn : ∀ j : Nat, (j : Int) < P → w 7 j = kn j ∧ 0 ≤ kn j ∧ kn j ≤ 1023) (hsy : ∀ i j : Nat, (i : Int) < P → (j : Int) < P → bt (kn i) j = bt (kn j) i) : PC (f_E_far v1 w) (fun r _ => (¬ (0 ≤ v1 ∧ v1 < P) ∧ r = -1) ∨ ((0 ≤ v1 ∧ v1 < P) ∧ ((gs P s v1.toNat = false ∧ fre P s h v1.toNat = false ∧ r = -2) ∨ ((gs P s v1.toNat = true ∨ fre P s h v1.toNat = true) ∧ FAQ P kn (fre P s h) (gs P s) v1.toNat r)))) := by
  have pcT : ∀ o : Option (Int × Wd), PC o (fun _ _ => True) := fun _ _ _ _ => trivial
  unfold f_E_far
  refine pc_call (it_pc v1 w) (fun r1 u2 z => ?_)
  rw [z.1, z.2, h3]
  by_cases cv : 0 ≤ v1 ∧ v1 < P
  · rw [show hd P v1 = 1 from if_pos cv, if_neg (by decide)]
    have v10 : 0 ≤ v1 ∧ v1 < 10 := by omega
    have ev : ((v1.toNat : Nat) : Int) = v1 := by omega
    refine pc_call (eg_e hW) (fun r3 u4 q => ?_)
    rw [q.1, has_10 w q.2 v10, jc_s]
    by_cases cg : gs P s v1.toNat = true
    · rw [if_pos cg, if_neg (by decide)]
      refine pc_call (pcT _) (fun _ _ _ => pc_some (Or.inr ⟨cv, Or.inr ⟨Or.inl cg, Or.inr ⟨by omega, ⟨v1.toNat, by omega, cg, decide_eq_true rfl⟩, fun d hd => by omega⟩⟩⟩))
    · rw [if_neg cg, if_pos rfl]
      have cg2 : gs P s v1.toNat = false := by
        cases e : gs P s v1.toNat with
        | false => rfl
        | true => exact absurd e cg
      refine pc_call (ef_e hW hP h3 h5) (fun r7 u8 q7 => ?_)
      rw [q7.1, has_10 w q7.2 v10, jc_s]
      by_cases cf : fre P s h v1.toNat = true
      · rw [if_pos cf, if_neg (by decide)]
        refine pc_call (eg_e hW) (fun r11 u12 q11 => ?_)
        rw [q11.1]
        refine pc_call (knb_e (w := w) (x := r11) (f := gs P s) (by rw [h3]; exact hP) q11.2.2 (fun j hj => by rw [h3] at hj; rw [(hkn j hj).1]; exact (hkn j hj).2)) (fun r13 u14 q13 => ?_)
        rw [q13.1]
        have b13 := q13.2
        rw [h3] at b13
        -- whom a GUEST KNOWS within so many steps: one more leads to a GUEST
        have hit : ∀ k : Nat, (∃ q, q < 10 ∧ (wthn P kn (fre P s h) (gs P s) v1.toNat k q && kbn (w 7) (gs P s) P.toNat q) = true) ↔ FTD P kn (fre P s h) (gs P s) v1.toNat (k + 1) ∨ FTD P kn (fre P s h) (gs P s) v1.toNat k := fun k => by
          have wP : ∀ d q, kst P kn (fre P s h) (gs P s) v1.toNat d q = true → (q : Int) < P := fun d => by
            induction d with
            | zero => intro q e; rw [of_decide_eq_true e]; omega
            | succ d ih =>
              intro q e
              rcases kst_s.mp e with e | ⟨_, e | e⟩
              · exact ih q e
              · exact (fre_0 e).1
              · exact gs_P e
          have frm : ∀ d g, kst P kn (fre P s h) (gs P s) v1.toNat d g = true → gs P s g = true → ∃ d' x, d = d' + 1 ∧ (x < P.toNat ∧ (kst P kn (fre P s h) (gs P s) v1.toNat d' x = true ∧ gs P s x = false) ∧ bt (kn x) g = true) ∨ False := fun d => by
            induction d with
            | zero => intro g e hg; rw [of_decide_eq_true e, cg2] at hg; cases hg
            | succ d ih =>
              intro g e hg
              rcases kst_s.mp e with e2 | ⟨⟨x, hx, a, b⟩, _⟩
              · obtain ⟨d', x, hh⟩ := ih g e2 hg
                rcases hh with ⟨h1, h2, h3', h4⟩ | hh
                · exact ⟨d, x, Or.inl ⟨rfl, h2, ⟨kst_m h3'.1 (by omega), h3'.2⟩, h4⟩⟩
                · exact hh.elim
              · exact ⟨d, x, Or.inl ⟨rfl, hx, a, b⟩⟩
          have bw : ∀ d g, d ≤ k + 1 → kst P kn (fre P s h) (gs P s) v1.toNat d g = true → gs P s g = true → ∃ q, q < 10 ∧ (wthn P kn (fre P s h) (gs P s) v1.toNat k q && kbn (w 7) (gs P s) P.toNat q) = true := fun d g hd e hg => by
            obtain ⟨d', x, hh⟩ := frm d g e hg
            rcases hh with ⟨h1, h2, h3', h4⟩ | hh
            · refine ⟨x, by omega, ?_⟩
              rw [Bool.and_eq_true]
              refine ⟨?_, ?_⟩
              · unfold wthn; rw [kst_m h3'.1 (show d' ≤ k by omega), h3'.2]; rfl
              · rw [kbn_t]
                have hgP := gs_P hg
                exact ⟨g, by omega, hg, by rw [(hkn g hgP).1, ← hsy x g (by omega) hgP]; exact h4⟩
            · exact hh.elim
          constructor
          · rintro ⟨q, hq, e⟩
            rw [Bool.and_eq_true] at e
            have e1 := e.1
            unfold wthn at e1
            rw [Bool.and_eq_true] at e1
            have hqP := wP _ _ e1.1
            obtain ⟨g, hg, a, b⟩ := kbn_t.mp e.2
            have hgq : gs P s q = false := by
              cases c : gs P s q with
              | false => rfl
              | true => have := e1.2; rw [c] at this; cases this
            refine Or.inl ⟨g, by omega, a, kst_s.mpr (Or.inr ⟨⟨q, by omega, ⟨e1.1, hgq⟩, ?_⟩, Or.inr a⟩)⟩
            rw [(hkn g (by omega)).1] at b
            rw [hsy q g hqP (by omega)]; exact b
          · rintro (⟨g, _, a, b⟩ | ⟨g, _, a, b⟩)
            · exact bw (k + 1) g (Nat.le_refl _) b a
            · exact bw k g (by omega) b a
        have n0 : ¬ FTD P kn (fre P s h) (gs P s) v1.toNat 0 := fun ⟨g, _, a, b⟩ => by
          rw [of_decide_eq_true b, cg2] at a; cases a
        have l118 : ∀ {v3 : Int}, ((v3 = -1 ∧ ∀ d : Nat, (d : Int) ≤ P → ¬ FTD P kn (fre P s h) (gs P s) v1.toNat d) ∨ ((0 ≤ v3 ∧ v3 < P) ∧ FTD P kn (fre P s h) (gs P s) v1.toNat (v3.toNat + 1) ∧ ∀ d : Nat, (d : Int) ≤ v3 → ¬ FTD P kn (fre P s h) (gs P s) v1.toNat d)) → PC (f_E_far_118 v1 r13 v3 w) (fun r _ => FAQ P kn (fre P s h) (gs P s) v1.toNat r) := fun {v3} hh => by
          unfold f_E_far_118
          rcases hh with ⟨e, hn⟩ | ⟨hr, ht, hn⟩
          · exact pc_ite (fun _ => pc_some (Or.inl ⟨rfl, hn⟩)) (fun c => absurd e c)
          · refine pc_ite (fun c => by omega) (fun _ => pc_call (pcT _) (fun _ _ _ => pc_some (Or.inr ?_)))
            rw [w32_id (by omega), show (v3 + 1).toNat = v3.toNat + 1 by omega]
            exact ⟨by omega, ht, fun d hd => hn d (by omega)⟩
        have l73 : ∀ (n : Nat) {v3 v4 : Int}, 0 ≤ v4 → v4 ≤ P → ((v3 = -1 ∧ ∀ d : Nat, (d : Int) ≤ v4 → ¬ FTD P kn (fre P s h) (gs P s) v1.toNat d) ∨ ((0 ≤ v3 ∧ v3 < P) ∧ FTD P kn (fre P s h) (gs P s) v1.toNat (v3.toNat + 1) ∧ ∀ d : Nat, (d : Int) ≤ v3 → ¬ FTD P kn (fre P s h) (gs P s) v1.toNat d)) → PC (f_E_far_73 n v1 r13 v3 v4 w) (fun r _ => FAQ P kn (fre P s h) (gs P s) v1.toNat r) := by
          intro n
          induction n with
          | zero => intros; exact pc_none
          | succ n ih =>
            intro v3 v4 i4 i4' hh
            rw [f_E_far_73, h3]
            unfold f_E_far_111
            refine pc_ite (fun c => l118 ?_) (fun c => pc_ite (fun c3 => ?_) (fun c3 => l118 ?_))
            · rw [show v4 = P by omega] at hh; exact hh
            · have hn : ∀ d : Nat, (d : Int) ≤ v4 → ¬ FTD P kn (fre P s h) (gs P s) v1.toNat d := by
                rcases hh with ⟨_, hn⟩ | ⟨hr, _⟩
                · exact hn
                · omega
              refine pc_call (win_pc hP hW h3 h5 hkn cv cf ⟨i4, by omega⟩) (fun r17 u18 q17 => ?_)
              rw [q17.1, w32_id (by omega)]
              have hand := b10_and q17.2 b13.2
              have hv4 := hn v4.toNat (by omega)
              refine pc_ite (fun c0 => pc_let (fun x19 e19 => ?_)) (fun c0 => pc_let (fun x19 e19 => ?_))
              · rw [e19]
                refine ih (by omega) (by omega) (Or.inl ⟨rfl, fun d hd hT => ?_⟩)
                by_cases cd : (d : Int) ≤ v4
                · exact hn d cd hT
                · rw [show d = v4.toNat + 1 by omega] at hT
                  obtain ⟨q, hq, e⟩ := (hit v4.toNat).mpr (Or.inl hT)
                  rcases b10_some hand with ⟨_, hz⟩ | ⟨hne, _⟩
                  · have := hz q hq
                    rw [e] at this; cases this
                  · exact hne c0
              · rw [e19]
                refine ih (by omega) (by omega) (Or.inr ⟨by omega, ?_, hn⟩)
                rcases b10_some hand with ⟨e, _⟩ | ⟨_, q, hq, e⟩
                · exact absurd e c0
                · rcases (hit v4.toNat).mp ⟨q, hq, e⟩ with hT | hT
                  · exact hT
                  · exact absurd hT hv4
            · rcases hh with ⟨e, _⟩ | hh
              · exact absurd e c3
              · exact Or.inr hh
        refine pc_w (l73 FU (by decide) hP.1 (Or.inl ⟨rfl, fun d hd => by rw [show d = 0 by omega]; exact n0⟩)) (fun r _ hq => Or.inr ⟨cv, Or.inr ⟨Or.inr cf, hq⟩⟩)
      · rw [if_neg cf, if_pos rfl]
        have cf2 : fre P s h v1.toNat = false := by
          cases e : fre P s h v1.toNat with
          | false => rfl
          | true => exact absurd e cf
        exact pc_some (Or.inr ⟨cv, Or.inl ⟨cg2, cf2, rfl⟩⟩)
  · rw [show hd P v1 = 0 from if_neg cv, if_pos rfl]
    exact pc_some (Or.inl ⟨cv, rfl⟩)
