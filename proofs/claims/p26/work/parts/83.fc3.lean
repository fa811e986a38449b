/-! THE CLASS CHOOSES -/
/-- so a WEEK stands in the class's rows -/
def PLm (P : Int) (bg : Nat → Int) (m : Nat) (w : Wd) : Prop := w 12 2 = (m : Int) ∧ B10 (w 12 3) (mvs P bg) ∧ (∀ i, i < m → (0 ≤ w 13 i ∧ w 13 i < P) ∧ (0 ≤ w 14 i ∧ w 14 i < P) ∧ bg (w 13 i).toNat = w 14 i) ∧ (∀ a : Nat, (a : Int) < P → bg a ≠ -1 → ∃ i, i < m ∧ w 13 i = (a : Int)) ∧ ∀ i j, i < m → j < m → w 13 i = w 13 j → i = j
theorem plm_0 {P : Int} {w : Wd} (h2 : w 12 2 = 0) (h3 : w 12 3 = 0) : PLm P (fun _ => -1) 0 w := by
  refine ⟨h2, ?_, fun i hi => by omega, fun a _ h => absurd rfl h, fun i j hi => by omega⟩
  rw [h3]
  refine b10_w b10_0 (fun k _ => ?_)
  have : brn (fun _ => (-1 : Int)) P.toNat k = false := brn_f (fun i _ e => by
    have e2 : (-1 : Int) = (k : Int) := e
    omega)
  unfold mvs bng
  rw [this]
  simp
theorem plm_eq {P : Int} {bg : Nat → Int} {m : Nat} {w u : Wd} (h : PLm P bg m w) (e12 : u 12 2 = w 12 2 ∧ u 12 3 = w 12 3) (e13 : u 13 = w 13) (e14 : u 14 = w 14) : PLm P bg m u := by
  unfold PLm
  rw [e12.1, e12.2, e13, e14]
  exact h
theorem pad_pc {P i q : Int} {bg : Nat → Int} {m : Nat} {w : Wd} (h : PLm P bg m w) (hP : P ≤ 10) (hm : m < 10) (hi : 0 ≤ i ∧ i < P) (hq : 0 ≤ q ∧ q < P) (hb : bg i.toNat = -1) : PC (f_P_add i q w) (fun _ u => PLm P (put bg i.toNat q) (m + 1) u ∧ ∀ d, d ≠ 12 → d ≠ 13 → d ≠ 14 → u d = w d) := by
  obtain ⟨h1, h2, h3, h4, h5⟩ := h
  have eo : ((i.toNat : Nat) : Int) = i := by omega
  unfold f_P_add
  rw [h1, show ((m : Int)).toNat = m from rfl]
  refine pc_ite (fun z => by omega) (fun _ => ?_)
  refine pc_gd (fun _ => ?_)
  refine pc_lw (fun u2 e2 => ?_)
  have a2 : u2 12 2 = (m : Int) := by rw [e2, st_c (by decide)]; exact h1
  rw [a2, show ((m : Int)).toNat = m from rfl]
  refine pc_gd (fun _ => ?_)
  refine pc_lw (fun u3 e3 => ?_)
  have a3 : u3 12 2 = (m : Int) := by rw [e3, st_c (by decide)]; exact a2
  rw [a3]
  refine pc_lw (fun u4 e4 => ?_)
  unfold f_P_add_39
  refine pc_lw (fun u5 e5 => pc_some ⟨⟨?_, ?_, ?_, ?_, ?_⟩, ?_⟩)
  · rw [e5, st_k (by decide), e4, st_eq]
    exact (w32_id (by omega)).trans rfl
  · have e12 : u4 12 3 = w 12 3 := by rw [e4, st_k (by decide), e3, st_c (by decide), e2, st_c (by decide)]
    rw [e5, st_eq, e12]
    refine b10_w (b10_or h2 (b10_or (b10_1 (i := i) (by omega)) (b10_1 (i := q) (by omega)))) (fun k _ => ?_)
    rw [mvs_put (by omega) hq.1 hb k]
  · intro j hj
    have r13 : u5 13 j = if j = m then i else w 13 j := by
      rw [e5, st_c (by decide), e4, st_c (by decide), e3, st_c (by decide), e2]
      by_cases c : j = m
      · rw [if_pos c, c, st_eq]
      · rw [if_neg c, st_k c]
    have r14 : u5 14 j = if j = m then q else w 14 j := by
      rw [e5, st_c (by decide), e4, st_c (by decide), e3]
      by_cases c : j = m
      · rw [if_pos c, c, st_eq]
      · rw [if_neg c, st_k c, e2, st_c (by decide)]
    rw [r13, r14]
    by_cases c : j = m
    · rw [if_pos c, if_pos c]
      exact ⟨hi, hq, put_i _ _ _⟩
    · rw [if_neg c, if_neg c]
      have := h3 j (by omega)
      refine ⟨this.1, this.2.1, ?_⟩
      rw [put_n (fun e => ?_)]
      · exact this.2.2
      · have := this.2.2
        rw [e, hb] at this
        omega
  · intro a ha hn
    have r13 : ∀ j, u5 13 j = if j = m then i else w 13 j := fun j => by
      rw [e5, st_c (by decide), e4, st_c (by decide), e3, st_c (by decide), e2]
      by_cases c : j = m
      · rw [if_pos c, c, st_eq]
      · rw [if_neg c, st_k c]
    by_cases c : a = i.toNat
    · exact ⟨m, by omega, by rw [r13, if_pos rfl]; omega⟩
    · rw [put_n c] at hn
      obtain ⟨k, hk, e⟩ := h4 a ha hn
      exact ⟨k, by omega, by rw [r13, if_neg (by omega)]; exact e⟩
  · intro a b ha hb2 e
    have r13 : ∀ j, u5 13 j = if j = m then i else w 13 j := fun j => by
      rw [e5, st_c (by decide), e4, st_c (by decide), e3, st_c (by decide), e2]
      by_cases c : j = m
      · rw [if_pos c, c, st_eq]
      · rw [if_neg c, st_k c]
    rw [r13, r13] at e
    have no : ∀ k, k < m → w 13 k ≠ i := fun k hk e2 => by
      have := h3 k hk
      rw [e2, hb] at this
      omega
    by_cases c1 : a = m
    · by_cases c2 : b = m
      · omega
      · rw [if_pos c1, if_neg c2] at e
        exact absurd e.symm (no b (by omega))
    · by_cases c2 : b = m
      · rw [if_neg c1, if_pos c2] at e
        exact absurd e (no a (by omega))
      · rw [if_neg c1, if_neg c2] at e
        exact h5 a b (by omega) (by omega) e
  · intro d h12 h13 h14
    rw [e5, st_row h12, e4, st_row h12, e3, st_row h14, e2, st_row h13]
/-- what choosing may change -/
def EXp (x u : Wd) : Prop := ∀ d, d ≠ 12 → d ≠ 13 → d ≠ 14 → d ≠ 23 → u d = x d
theorem okc_b10 {P v : Int} {s h kn bg : Nat → Int} {i : Nat} {x y z : Int} (hx : B10 x (bt (kn i))) (hy : B10 y (fre P s h)) (hz : B10 z (mvs P bg)) (hg : GWK P s h kn bg) : B10 (iand (iand x y) (ixor z (-1))) (okc P s h kn bg i) := by
  refine b10_w (b10_andn (b10_and hx hy.2) hz.2) (fun k _ => ?_)
  unfold okc mvs
  cases hf : fre P s h k with
  | false => simp
  | true =>
    have : bng P bg k = false := by
      cases hb : bng P bg k with
      | false => rfl
      | true =>
        have h1 := gwk_gs hg hb
        rw [(fre_sr hf).2.1] at h1
        cases h1
    rw [this]
    cases bt (kn i) k <;> cases brn bg P.toNat k <;> rfl
theorem fol_pc {P g seats wk : Int} {s h pr kn : Nat → Int} {c : List Int} (x : Wd) (h4 : x 19 4 = c.length) (hc : c.length ≤ 40) (hS : SR (x 20) c) (hP : 0 ≤ P ∧ P ≤ 10) (h3 : x 5 3 = P) (h7g : x 5 7 = g) (hg3 : g ≤ 3) (h8s : x 5 8 = seats) (hw : WH (x 5 4) s P) (hh : B10 (x 5 5) (hB P h)) (h6 : ∀ j : Nat, (j : Int) < P → x 6 j = pr j) (h7 : ∀ j : Nat, (j : Int) < P → x 7 j = kn j) (h6r : ∀ j : Nat, (0 : Int) ≤ x 6 j ∧ x 6 j ≤ 9) (hk : ∀ j : Nat, (j : Int) < P → 0 ≤ kn j ∧ kn j ≤ 1023) : ∀ (n : Nat) {w : Wd} {v4 : Int} {m : Nat}, 0 ≤ v4 → v4 ≤ P → (m : Int) ≤ v4 → EXp x w → PLm P (plf P g seats s h pr kn wk c v4.toNat) m w → PC (f_P_follow_7 n wk v4 w) (fun _ u => EXp x u ∧ ∃ m : Nat, (m : Int) ≤ P ∧ PLm P (plf P g seats s h pr kn wk c P.toNat) m u) := by
  intro n
  induction n with
  | zero => intros; exact pc_none
  | succ n ih =>
    intro w v4 m i0 i1 im hx hL
    have r5 : w 5 = x 5 := hx 5 (by decide) (by decide) (by decide) (by decide)
    rw [f_P_follow_7, r5, h3]
    refine pc_ite (fun z => ?_) (fun z => ?_)
    · have e : v4 = P := by omega
      subst e
      exact pc_some ⟨hx, m, im, hL⟩
    · refine pc_call (eg_e (w := w) (by rw [r5]; exact hw)) (fun r3 u4 q => ?_)
      rw [q.1, has_10 w q.2 (by omega), jc_s]
      have hgk := plf_gwk (P := P) (g := g) (seats := seats) (s := s) (h := h) (pr := pr) (kn := kn) (wk := wk) (c := c) hP.1 v4.toNat (by omega)
      have hm1 := plf_m (P := P) (g := g) (seats := seats) (s := s) (h := h) (pr := pr) (kn := kn) (wk := wk) (c := c) v4.toNat (Nat.le_refl _)
      have ep : plf P g seats s h pr kn wk c (v4.toNat + 1) = if gst (s v4.toNat) = true then put (plf P g seats s h pr kn wk c v4.toNat) v4.toNat (chs P g seats s h pr kn wk c (plf P g seats s h pr kn wk c v4.toNat) v4.toNat) else plf P g seats s h pr kn wk c v4.toNat := rfl
      have nx : ∀ {u : Wd} {m2 : Nat}, (m2 : Int) ≤ v4 + 1 → EXp x u → PLm P (plf P g seats s h pr kn wk c (v4.toNat + 1)) m2 u → PC (f_P_follow_104 (f_P_follow_7 n) wk v4 u) (fun _ u => EXp x u ∧ ∃ m : Nat, (m : Int) ≤ P ∧ PLm P (plf P g seats s h pr kn wk c P.toNat) m u) := by
        intro u m2 hm2 hu hL2
        unfold f_P_follow_104
        refine pc_let (fun x9 e9 => ?_)
        rw [wsucc (P := P) (by omega) (by omega)] at e9
        rw [e9]
        exact ih (by omega) (by omega) hm2 hu (by rw [show (v4 + 1).toNat = v4.toNat + 1 by omega]; exact hL2)
      have ei : inP P v4.toNat = true := decide_eq_true (by omega)
      have egs : gs P s v4.toNat = gst (s v4.toNat) := by unfold gs; rw [ei]; rfl
      rw [egs]
      cases hb : gst (s v4.toNat) with
      | false =>
        refine pc_ite (fun _ => ?_) (fun c => absurd rfl c)
        rw [hb, if_neg (by decide)] at ep
        unfold f_P_follow_51
        refine pc_call (fav_E (x := w) (wk := wk) (one := v4) (ok := fun _ => false) (val := fun _ => 0) hP (by rw [r5]; exact h3) b10_0 (fun q y _ c _ => by cases c)) (fun r7 u8 y => ?_)
        rw [fvt_no (fun _ _ => rfl)] at y
        refine pc_ite (fun _ => ?_) (fun z2 => absurd y.2 z2)
        refine nx (m2 := m) (by omega) (fun d d1 d2 d3 d4 => (y.1 d d4).trans (hx d d1 d2 d3 d4)) ?_
        rw [ep]
        exact plm_eq hL ⟨by rw [y.1 12 (by decide)], by rw [y.1 12 (by decide)]⟩ (y.1 13 (by decide)) (y.1 14 (by decide))
      | true =>
        refine pc_ite (fun c => absurd c (by decide)) (fun _ => ?_)
        rw [hb, if_pos rfl] at ep
        refine pc_gd (fun _ => ?_)
        refine pc_call (ef_e (w := w) (h := h) (by rw [r5]; exact hw) hP (by rw [r5]; exact h3) (by rw [r5]; exact hh)) (fun r14 u15 q2 => ?_)
        rw [q2.1]
        have r7 : w 7 v4.toNat = kn v4.toNat := by rw [hx 7 (by decide) (by decide) (by decide) (by decide)]; exact h7 v4.toNat (by omega)
        rw [r7]
        have bS := okc_b10 (v := 0) (i := v4.toNat) (b10_self (hk v4.toNat (by omega))) q2.2 hL.2.1 hgk
        unfold f_P_follow_51
        have hfv := fav_E (x := w) (wk := wk) (one := v4) (P := P) (val := vlu P s pr kn wk c v4) hP (by rw [r5]; exact h3) bS (fun q y hq _ hy => by
          have a : ∀ d, d ≠ 12 → d ≠ 13 → d ≠ 14 → d ≠ 23 → y d = x d := fun d d1 d2 d3 d4 => (hy d d4).trans (hx d d1 d2 d3 d4)
          have := vfor_pc (w := y) (P := P) (s := s) (pr := pr) (kn := kn) (wk := wk) (one := v4) (other := (q : Int)) (c := c) (by rw [a 19 (by decide) (by decide) (by decide) (by decide)]; exact h4) hc (by rw [a 20 (by decide) (by decide) (by decide) (by decide)]; exact hS) hP (by rw [a 5 (by decide) (by decide) (by decide) (by decide)]; exact h3) (by rw [a 5 (by decide) (by decide) (by decide) (by decide)]; exact hw) (fun j hj => by rw [a 6 (by decide) (by decide) (by decide) (by decide)]; exact h6 j hj) (fun j hj => by rw [a 7 (by decide) (by decide) (by decide) (by decide)]; exact h7 j hj) (fun j => by rw [a 6 (by decide) (by decide) (by decide) (by decide)]; exact h6r j) hk ⟨i0, by omega, hb⟩ (by omega)
          exact this)
        refine pc_call hfv (fun r7 u8 y => ?_)
        have ec : chs P g seats s h pr kn wk c (plf P g seats s h pr kn wk c v4.toNat) v4.toNat = if r7 = -1 then -1 else if gth P s (put (plf P g seats s h pr kn wk c v4.toNat) v4.toNat r7) g P.toNat ≤ seats then r7 else -1 := by
          rw [y.2]
          unfold chs
          rw [show ((v4.toNat : Nat) : Int) = v4 by omega]
        have hx8 : EXp x u8 := fun d d1 d2 d3 d4 => (y.1 d d4).trans (hx d d1 d2 d3 d4)
        have hL8 : PLm P (plf P g seats s h pr kn wk c v4.toNat) m u8 := plm_eq hL ⟨by rw [y.1 12 (by decide)], by rw [y.1 12 (by decide)]⟩ (y.1 13 (by decide)) (y.1 14 (by decide))
        refine pc_ite (fun z1 => ?_) (fun z1 => ?_)
        · rw [if_pos z1] at ec
          rw [ec, put_id hm1] at ep
          exact nx (m2 := m) (by omega) hx8 (by rw [ep]; exact hL8)
        · rw [if_neg z1] at ec
          have hrg := fvt_rg (okc P s h kn (plf P g seats s h pr kn wk c v4.toNat) v4.toNat) (vlu P s pr kn wk c v4) P.toNat
          rw [← y.2] at hrg
          have hr7 : (0 ≤ r7 ∧ r7 < P) ∧ okc P s h kn (plf P g seats s h pr kn wk c v4.toNat) v4.toNat r7.toNat = true := by
            rcases hrg with e | e
            · exact absurd e.1 z1
            · exact ⟨by omega, e.2.2⟩
          have hgp := gwk_put hgk (by omega) hm1 hb hr7.1 hr7.2
          have r58 : u8 5 = x 5 := hx8 5 (by decide) (by decide) (by decide) (by decide)
          have bM : B10 (ior (ior (u8 12 3) (ishl 1 v4)) (ishl 1 r7)) (mvs P (put (plf P g seats s h pr kn wk c v4.toNat) v4.toNat r7)) := by
            refine b10_w (b10_or (b10_or hL8.2.1 (b10_1 (i := v4) (by omega))) (b10_1 (i := r7) (by omega))) (fun k _ => ?_)
            rw [mvs_put (by omega) hr7.1.1 hm1 k, Bool.or_assoc]
          refine pc_call (ega_e (w := u8) (by rw [r58]; exact hw) (by rw [r58, h7g]; exact hg3) bM) (fun r10 u11 q3 => ?_)
          rw [q3.1, r58, h8s]
          have e10 : r10 = gth P s (put (plf P g seats s h pr kn wk c v4.toNat) v4.toNat r7) g P.toNat := by
            rw [q3.2, r58, h7g]
            exact gth_pn hP hgp
          refine pc_ite (fun z2 => ?_) (fun z2 => ?_)
          · rw [if_neg (by omega)] at ec
            rw [ec, put_id hm1] at ep
            exact nx (m2 := m) (by omega) hx8 (by rw [ep]; exact hL8)
          · rw [if_pos (by omega)] at ec
            rw [ec] at ep
            refine pc_call (pad_pc hL8 hP.2 (by omega) ⟨i0, by omega⟩ hr7.1 hm1) (fun r12 u13 q4 => ?_)
            refine nx (m2 := m + 1) (by omega) (fun d d1 d2 d3 d4 => (q4.2 d d1 d2 d3).trans (hx8 d d1 d2 d3 d4)) ?_
            rw [ep]
            exact q4.1
theorem follow_pc {P g seats wk : Int} {s h pr kn : Nat → Int} {c : List Int} {x : Wd} (h4 : x 19 4 = c.length) (hc : c.length ≤ 40) (hS : SR (x 20) c) (hP : 0 ≤ P ∧ P ≤ 10) (h3 : x 5 3 = P) (h7g : x 5 7 = g) (hg3 : g ≤ 3) (h8s : x 5 8 = seats) (hw : WH (x 5 4) s P) (hh : B10 (x 5 5) (hB P h)) (h6 : ∀ j : Nat, (j : Int) < P → x 6 j = pr j) (h7 : ∀ j : Nat, (j : Int) < P → x 7 j = kn j) (h6r : ∀ j : Nat, (0 : Int) ≤ x 6 j ∧ x 6 j ≤ 9) (hk : ∀ j : Nat, (j : Int) < P → 0 ≤ kn j ∧ kn j ≤ 1023) : PC (f_P_follow wk x) (fun _ u => EXp x u ∧ ∃ m : Nat, (m : Int) ≤ P ∧ PLm P (plf P g seats s h pr kn wk c P.toNat) m u) := by
  unfold f_P_follow f_P_clear
  refine pc_call (P := fun _ u => u 12 2 = 0 ∧ u 12 3 = 0 ∧ ∀ d, d ≠ 12 → u d = x d) ?_ (fun r1 u2 q => ?_)
  · refine pc_lw (fun u1 e1 => ?_)
    refine pc_lw (fun u2 e2 => pc_some ⟨?_, ?_, fun d hd => ?_⟩)
    · rw [e2, st_k (by decide), e1, st_eq]
    · rw [e2, st_eq]
    · rw [e2, st_row hd, e1, st_row hd]
  · exact fol_pc x h4 hc hS hP h3 h7g hg3 h8s hw hh h6 h7 h6r hk FU (m := 0) (by decide) hP.1 (by decide) (fun d d1 _ _ _ => q.2.2 d d1) (plm_0 q.1 q.2.1)
