/-! A WEEK TOLD: its pairs, one after another -/
def PRE (P : Int) (A B bg : Nat → Int) (i : Nat) : Prop := (∀ j, j < i → (0 ≤ A j ∧ A j < P) ∧ (0 ≤ B j ∧ B j < P) ∧ bg (A j).toNat = B j) ∧ (∀ a : Nat, (a : Int) < P → bg a ≠ -1 → ∃ j, j < i ∧ A j = (a : Int)) ∧ ∀ j l, j < i → l < i → A j = A l → j = l
theorem pre_put {P : Int} {A B bg : Nat → Int} {i : Nat} (h : PRE P A B bg i) (ha : 0 ≤ A i ∧ A i < P) (hb : 0 ≤ B i ∧ B i < P) (hn : bg (A i).toNat = -1) : PRE P A B (put bg (A i).toNat (B i)) (i + 1) := by
  obtain ⟨h1, h2, h3⟩ := h
  have ne : ∀ j, j < i → A j ≠ A i := fun j hj e => by
    have := (h1 j hj).2.2
    rw [e, hn] at this
    have := (h1 j hj).2.1
    omega
  refine ⟨fun j hj => ?_, fun a haP hv => ?_, fun j l hj hl e => ?_⟩
  · by_cases c : j = i
    · rw [c]; exact ⟨ha, hb, put_i _ _ _⟩
    · have := h1 j (by omega)
      refine ⟨this.1, this.2.1, ?_⟩
      rw [put_n (fun e => ne j (by omega) (by omega))]
      exact this.2.2
  · by_cases c : a = (A i).toNat
    · exact ⟨i, by omega, by omega⟩
    · rw [put_n c] at hv
      obtain ⟨j, hj, e⟩ := h2 a haP hv
      exact ⟨j, by omega, e⟩
  · by_cases c1 : j = i
    · by_cases c2 : l = i
      · omega
      · rw [c1] at e; exact absurd e.symm (ne l (by omega))
    · by_cases c2 : l = i
      · rw [c2] at e; exact absurd e (ne j (by omega))
      · exact h3 j l (by omega) (by omega) e
def FR58 (y a : Wd) : Prop := ∀ c, c ≠ 58 → a c = y c
theorem wk_chk {P : Int} {s h kn : Nat → Int} {I : Nat} {w y : Wd} (hI : I ≤ 10) (hP : 0 ≤ P ∧ P ≤ 10) (e0 : y 43 0 = P) (e47 : y 47 = s) (e46 : y 46 = h) (e45 : y 45 = kn) (hw : WH (w 5 4) s P) (h3 : w 5 3 = P) (hh : B10 (w 5 5) (hB P h)) (h7 : ∀ j : Nat, (j : Int) < P → w 7 j = kn j) (hk : ∀ j : Nat, (j : Int) < P → 0 ≤ kn j ∧ kn j ≤ 1023) (h12 : w 12 2 = I) (hA : ∀ j, j < I → (w 13 j = y 60 j ∧ w 14 j = y 61 j) ∧ (0 ≤ y 60 j ∧ y 60 j ≤ 9) ∧ 0 ≤ y 61 j ∧ y 61 j ≤ 9) : ∀ (n m : Nat) {i : Nat} {v2 : Int} {a : Wd}, i ≤ I → FR58 y a → GWK P s h kn (a 58) → B10 v2 (mvb (y 60) (y 61) i) → (∀ k, k < 10 → mvb (y 60) (y 61) i k = mvs P (a 58) k) → PRE P (y 60) (y 61) (a 58) i → PC (f_P_firstWrongPair_4 n v2 i w) (fun r u => u = w ∧ (r = -1 ∨ (0 ≤ r ∧ r ≤ 10)) ∧ ∀ Q : Int → Wd → Prop, ((r = -1 → ∀ a', FR58 y a' → GWK P s h kn (a' 58) → (∀ k, k < 10 → mvb (y 60) (y 61) I k = mvs P (a' 58) k) → PRE P (y 60) (y 61) (a' 58) I → PC (if (I : Int) ≤ 0 then f_R_week_305 a' else jcall (f_R_guestsThen a') fun r11 u12 => if r11 ≤ (u12 43 11) then f_R_week_305 u12 else some ((-200), u12)) Q) → (0 ≤ r → ∀ a', FR58 y a' → Q (w32 (-100 - r)) a') → PC (f_R_week_152 m (I : Int) (i : Int) a) Q)) := by
  intro n
  induction n with
  | zero => intros; exact pc_none
  | succ n ih =>
    intro m i v2 a hi hy hg hB2 hmv hpre
    have o : ∀ c k, c ≠ 58 → a c k = y c k := fun c k hc => by rw [hy c hc]
    rw [f_P_firstWrongPair_4, h12]
    refine pc_ite (fun z => pc_some ⟨rfl, Or.inl rfl, fun Q q1 q2 => ?_⟩) (fun z => ?_)
    · have ei : i = I := by omega
      cases m with
      | zero => exact pc_none
      | succ m =>
        rw [f_R_week_152]
        refine pc_ite (fun _ => ?_) (fun c => absurd (by omega) c)
        exact q1 rfl a hy hg (by rw [← ei]; exact hmv) (by rw [← ei]; exact hpre)
    · have hiI : i < I := by omega
      obtain ⟨⟨a13, a14⟩, a60, a61⟩ := hA i hiI
      refine pc_call (eg_e hw) (fun r1 u2 q => ?_)
      rw [q.1, show ((i : Int)).toNat = i from rfl, a13]
      refine pc_gd (fun _ => ?_)
      have hA1 : B10 (iand r1 (ixor v2 (-1))) (fun k => gs P s k && !mvs P (a 58) k) := b10_andn q.2 (fun k hk2 => (hB2.2 k hk2).trans (hmv k hk2))
      rw [has_10 w hA1 (by omega), jc_s]
      -- the reference at this pair
      have ref : ∀ {Q : Int → Wd → Prop}, (¬ ((y 60 i < P ∧ gst (s (y 60 i).toNat) = true ∧ a 58 (y 60 i).toNat = -1) ∧ okc P s h kn (a 58) (y 60 i).toNat (y 61 i).toNat = true) → Q (w32 (-100 - i)) a) → (y 60 i < P → gst (s (y 60 i).toNat) = true → a 58 (y 60 i).toNat = -1 → okc P s h kn (a 58) (y 60 i).toNat (y 61 i).toNat = true → ∀ l, m = l + 1 → PC (f_R_week_152 l (I : Int) ((i : Int) + 1) (st a 58 (y 60 i).toNat (y 61 i))) Q) → PC (f_R_week_152 m (I : Int) (i : Int) a) Q := by
        intro Q qF qT
        cases m with
        | zero => exact pc_none
        | succ l =>
        rw [f_R_week_152]
        refine pc_ite (fun c => by omega) (fun _ => ?_)
        rw [show ((i : Int)).toNat = i from rfl, o 60 i (by decide), o 61 i (by decide)]
        refine pc_gd (fun _ => pc_let (fun x13 e13 => pc_gd (fun _ => pc_let (fun x14 e14 => ?_))))
        rw [e13, e14]
        have eP : a 43 0 = P := (o 43 0 (by decide)).trans e0
        have r47 : a 47 = s := (hy 47 (by decide)).trans e47
        have r45 : a 45 = kn := (hy 45 (by decide)).trans e45
        have r46 : a 46 = h := (hy 46 (by decide)).trans e46
        have f258 : ¬ ((y 60 i < P ∧ gst (s (y 60 i).toNat) = true ∧ a 58 (y 60 i).toNat = -1) ∧ okc P s h kn (a 58) (y 60 i).toNat (y 61 i).toNat = true) → PC (f_R_week_258 (f_R_week_152 l) I i (y 60 i) (y 61 i) a) Q := fun hn => by
          unfold f_R_week_258 f_R_week_259
          exact pc_ite (fun _ => pc_some (qF hn)) (fun e => absurd rfl e)
        refine pc_call (io_pc (y 60 i) a (by omega)) (fun r15 u16 t => ?_)
        rw [t.1, t.2, eP]
        unfold hd
        by_cases c1 : 0 ≤ y 60 i ∧ y 60 i < P
        · rw [if_pos c1]
          refine pc_ite (fun e => absurd e (by decide)) (fun _ => pc_gd (fun _ => ?_))
          rw [isG_e, jc_s, r47]
          cases c2 : gst (s (y 60 i).toNat) with
          | false =>
            refine pc_ite (fun _ => f258 (fun hn => by rw [c2] at hn; cases hn.1.2.1)) (fun e => absurd rfl e)
          | true =>
            refine pc_ite (fun e => absurd e (by decide)) (fun _ => pc_gd (fun _ => ?_))
            refine pc_ite (fun c3 => ?_) (fun c3 => f258 (fun hn => c3 hn.1.2.2))
            refine pc_call (io_pc (y 61 i) a (by omega)) (fun r21 u22 t2 => ?_)
            rw [t2.1, t2.2, eP]
            unfold hd
            by_cases c4 : 0 ≤ y 61 i ∧ y 61 i < P
            · rw [if_pos c4]
              refine pc_ite (fun e => absurd e (by decide)) (fun _ => ?_)
              refine pc_call (rfree_e (w := a) (by omega)) (fun r23 u24 t3 => ?_)
              have t3b := t3.2
              rw [eP, r47, r46] at t3b
              rw [t3.1, hasR_10 a t3b (by omega), jc_s]
              have ok_e : okc P s h kn (a 58) (y 60 i).toNat (y 61 i).toNat = ((fre P s h (y 61 i).toNat && bt (kn (y 60 i).toNat) (y 61 i).toNat) && !brn (a 58) P.toNat (y 61 i).toNat) := rfl
              cases c5 : fre P s h (y 61 i).toNat with
              | false =>
                refine pc_ite (fun _ => f258 (fun hn => ?_)) (fun e => absurd rfl e)
                rw [ok_e, c5] at hn
                cases hn.2
              | true =>
                refine pc_ite (fun e => absurd e (by decide)) (fun _ => pc_gd (fun _ => ?_))
                rw [r45, hasR_10 a (b10_self (hk (y 60 i).toNat (by omega))) (by omega), jc_s]
                cases c6 : bt (kn (y 60 i).toNat) (y 61 i).toNat with
                | false =>
                  refine pc_ite (fun _ => f258 (fun hn => ?_)) (fun e => absurd rfl e)
                  rw [ok_e, c5, c6] at hn
                  cases hn.2
                | true =>
                  refine pc_ite (fun e => absurd e (by decide)) (fun _ => ?_)
                  refine pc_call (bn_pc (w := a) (by omega) (fun k hk2 => gwk_r hg hP.2 k (by omega))) (fun r29 u30 t4 => ?_)
                  have t4b := t4.2
                  rw [eP] at t4b
                  rw [t4.1, hasR_10 a t4b (by omega), jc_s]
                  cases c7 : brn (a 58) P.toNat (y 61 i).toNat with
                  | true =>
                    refine pc_ite (fun e => absurd e (by decide)) (fun _ => f258 (fun hn => ?_))
                    rw [ok_e, c5, c6, c7] at hn
                    cases hn.2
                  | false =>
                    refine pc_ite (fun _ => ?_) (fun e => absurd rfl e)
                    unfold f_R_week_259
                    refine pc_ite (fun e => absurd e (by decide)) (fun _ => pc_gd (fun _ => pc_lw (fun u17 e17 => pc_let (fun x18 e18 => ?_))))
                    rw [w32_id (show -2147483648 ≤ (i : Int) + 1 ∧ (i : Int) + 1 ≤ 2147483647 by omega)] at e18
                    rw [e18, e17]
                    exact qT c1.2 c2 c3 (by rw [ok_e, c5, c6, c7]; rfl) l rfl
            · rw [if_neg c4]
              refine pc_ite (fun _ => f258 (fun hn => ?_)) (fun e => absurd rfl e)
              have := hn.2
              unfold okc at this
              rw [Bool.and_eq_true, Bool.and_eq_true] at this
              have := (fre_sr this.1.1).1
              omega
        · rw [if_neg c1]
          exact pc_ite (fun _ => f258 (fun hn => c1 ⟨a60.1, hn.1.1⟩)) (fun e => absurd rfl e)
      -- the class finds it wrong
      have wrong : ¬ ((y 60 i < P ∧ gst (s (y 60 i).toNat) = true ∧ a 58 (y 60 i).toNat = -1) ∧ okc P s h kn (a 58) (y 60 i).toNat (y 61 i).toNat = true) → ∀ Q : Int → Wd → Prop, (((i : Int) = -1 → ∀ a', FR58 y a' → GWK P s h kn (a' 58) → (∀ k, k < 10 → mvb (y 60) (y 61) I k = mvs P (a' 58) k) → PRE P (y 60) (y 61) (a' 58) I → PC (if (I : Int) ≤ 0 then f_R_week_305 a' else jcall (f_R_guestsThen a') fun r11 u12 => if r11 ≤ (u12 43 11) then f_R_week_305 u12 else some ((-200), u12)) Q) → (0 ≤ (i : Int) → ∀ a', FR58 y a' → Q (w32 (-100 - i)) a') → PC (f_R_week_152 m (I : Int) (i : Int) a) Q) := fun hn Q _ q2 => ref (fun _ => q2 (by omega) a hy) (fun b1 b2 b3 b4 => absurd ⟨⟨b1, b2, b3⟩, b4⟩ hn)
      have gse : gs P s (y 60 i).toNat = (decide (y 60 i < P) && gst (s (y 60 i).toNat)) := by
        unfold gs inP
        rw [show (((y 60 i).toNat : Nat) : Int) = y 60 i by omega]
      cases hb : (gs P s (y 60 i).toNat && !mvs P (a 58) (y 60 i).toNat) with
      | false =>
        refine pc_ite (fun _ => ?_) (fun c => absurd rfl c)
        unfold f_P_firstWrongPair_48
        refine pc_call (ef_e hw hP h3 hh) (fun r5 u6 q5 => ?_)
        rw [q5.1, show ((i : Int)).toNat = i from rfl, a14]
        refine pc_gd (fun _ => ?_)
        have bz : B10 (iand (iand 0 r5) (ixor v2 (-1))) (fun _ => false) := b10_w (b10_andn (b10_and b10_0 q5.2.2) hB2.2) (fun k _ => by simp)
        rw [has_10 w bz (by omega), jc_s]
        refine pc_ite (fun _ => pc_some ⟨rfl, Or.inr ⟨by omega, by omega⟩, wrong (fun hn => ?_)⟩) (fun c => absurd rfl c)
        obtain ⟨⟨b1, b2, b3⟩, b4⟩ := hn
        rw [gse, decide_eq_true b1, b2] at hb
        have hm : mvs P (a 58) (y 60 i).toNat = true := by
          cases cm : mvs P (a 58) (y 60 i).toNat with
          | true => rfl
          | false => rw [cm] at hb; cases hb
        unfold mvs at hm
        rw [Bool.or_eq_true] at hm
        rcases hm with hm | hm
        · unfold bng at hm
          rw [b3] at hm
          rw [Bool.and_eq_true] at hm
          cases hm.2
        · have := (brn_sr hg hm).2.1
          rw [this] at b2
          cases b2
      | true =>
        refine pc_ite (fun c => absurd c (by decide)) (fun _ => pc_gd (fun _ => ?_))
        rw [Bool.and_eq_true, gse, Bool.and_eq_true, Bool.not_eq_true'] at hb
        obtain ⟨⟨hb1, hb2⟩, hb3⟩ := hb
        have b1 : y 60 i < P := of_decide_eq_true hb1
        have b3 : a 58 (y 60 i).toNat = -1 := by
          unfold mvs at hb3
          rw [Bool.or_eq_false_iff] at hb3
          have := hb3.1
          unfold bng at this
          rw [show inP P (y 60 i).toNat = true from decide_eq_true (by omega)] at this
          cases cb : (a 58 (y 60 i).toNat == -1) with
          | true => exact beq_iff_eq.mp cb
          | false => rw [cb] at this; cases this
        rw [a13]
        refine pc_call (kn1_e (w := w) (i := y 60 i) (by omega) (by omega) (fun j hj => by rw [h7 j (by omega)]; exact hk j (by omega))) (fun r11 u12 q11 => ?_)
        rw [q11.1, q11.2, h7 (y 60 i).toNat (by omega)]
        unfold f_P_firstWrongPair_48
        refine pc_call (ef_e hw hP h3 hh) (fun r5 u6 q5 => ?_)
        rw [q5.1, show ((i : Int)).toNat = i from rfl, a14]
        refine pc_gd (fun _ => ?_)
        have bS := okc_b10 (v := 0) (i := (y 60 i).toNat) (b10_self (hk (y 60 i).toNat (by omega))) q5.2 (b10_w hB2 hmv) hg
        rw [has_10 w bS (by omega), jc_s]
        cases hc : okc P s h kn (a 58) (y 60 i).toNat (y 61 i).toNat with
        | false =>
          refine pc_ite (fun _ => pc_some ⟨rfl, Or.inr ⟨by omega, by omega⟩, wrong (fun hn => by rw [hc] at hn; cases hn.2)⟩) (fun c => absurd rfl c)
        | true =>
          refine pc_ite (fun c => absurd c (by decide)) (fun _ => pc_gd (fun _ => pc_gd (fun _ => pc_let (fun x9 e9 => pc_let (fun x10 e10 => ?_)))))
          rw [w32_id (show -2147483648 ≤ (i : Int) + 1 ∧ (i : Int) + 1 ≤ 2147483647 by omega)] at e10
          rw [a13, a14] at e9
          rw [e10]
          have q61 : 0 ≤ y 61 i ∧ y 61 i < P := by
            have hc2 := hc
            unfold okc at hc2
            rw [Bool.and_eq_true, Bool.and_eq_true] at hc2
            have := (fre_sr hc2.1.1).1
            omega
          have r58 : st a 58 (y 60 i).toNat (y 61 i) 58 = put (a 58) (y 60 i).toNat (y 61 i) := funext fun k => by
            by_cases ck : k = (y 60 i).toNat
            · rw [ck, st_eq, put_i]
            · rw [st_k ck, put_n ck]
          have bx : B10 x9 (mvb (y 60) (y 61) (i + 1)) := by
            rw [e9]
            exact b10_w (b10_or hB2 (b10_or (b10_1 a60) (b10_1 a61))) (fun k _ => rfl)
          intro r u eL
          have nxt := fun l => ih l (i := i + 1) (v2 := x9) (a := st a 58 (y 60 i).toNat (y 61 i)) (by omega) (fun c hc2 => by rw [st_row hc2]; exact hy c hc2) (by rw [r58]; exact gwk_put hg (by omega) b3 hb2 q61 hc) bx (fun k hk2 => by rw [r58, mvb, mvs_put (by omega) q61.1 b3, hmv k hk2]) (by rw [r58]; exact pre_put hpre ⟨a60.1, b1⟩ q61 b3) r u (by rw [show ((i + 1 : Nat) : Int) = (i : Int) + 1 from rfl]; exact eL)
          refine ⟨(nxt 0).1, (nxt 0).2.1, fun Q q1 q2 => ref (fun hn => absurd ⟨⟨b1, hb2, b3⟩, hc⟩ hn) (fun _ _ _ _ l _ => ?_)⟩
          exact (nxt l).2.2 Q q1 q2
