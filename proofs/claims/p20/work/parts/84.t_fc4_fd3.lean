/-! A WEEK GOES BY: the reference -/
theorem sms_add {f : Nat → Bool} {g : Nat → Int} {v : Int} : ∀ {n : Nat}, v.toNat < n → 0 ≤ v → f v.toNat = false → sms (fun q => if (f q || (v == (q : Int))) = true then g q else 0) n = sms (fun q => if f q = true then g q else 0) n + g v.toNat := by
  intro n
  induction n with
  | zero => intro h; omega
  | succ n ih =>
    intro hv h0 hf
    rw [sms, sms]
    by_cases c : n = v.toNat
    · have h1 : sms (fun q => if (f q || (v == (q : Int))) = true then g q else 0) n = sms (fun q => if f q = true then g q else 0) n := sms_eq (fun j hj => by
        rw [beq_eq_false_iff_ne.mpr (show ¬ v = (j : Int) by omega), Bool.or_false])
      have h2 : (v == (n : Int)) = true := beq_iff_eq.mpr (by omega)
      rw [h1, h2, c, hf]
      simp
    · rw [ih (by omega) h0 hf, beq_eq_false_iff_ne.mpr (show ¬ v = (n : Int) by omega), Bool.or_false]
      omega
theorem sms_rg2 {f : Nat → Bool} {g : Nat → Int} (h : ∀ j, 0 ≤ g j ∧ g j ≤ 9) (n : Nat) : 0 ≤ sms (fun q => if f q = true then g q else 0) n ∧ sms (fun q => if f q = true then g q else 0) n ≤ 9 * n := by
  refine sms_rg (fun j => ?_) n
  by_cases c : f j = true
  · rw [if_pos c]; exact h j
  · rw [if_neg c]; omega
theorem lay_fr {v2 : Int} : ∀ (n : Nat) {w : Wd} {v3 : Int}, PC (f_R_lay_43_59_2 n v2 v3 w) (fun _ u => ∀ c, c ≠ 59 → u c = w c) := by
  intro n
  induction n with
  | zero => intros; exact pc_none
  | succ n ih =>
    intro w v3
    rw [f_R_lay_43_59_2]
    refine pc_ite (fun _ => ?_) (fun _ => ?_)
    · refine pc_gd (fun _ => pc_lw (fun u1 e1 => pc_some (fun c hc => by rw [e1, st_row hc])))
    · refine pc_gd (fun _ => pc_gd (fun _ => pc_lw (fun u2 e2 => ?_)))
      refine pc_gd (fun _ => pc_gd (fun _ => pc_lw (fun u3 e3 => ?_)))
      refine pc_gd (fun _ => pc_gd (fun _ => pc_lw (fun u4 e4 => ?_)))
      refine pc_let (fun x5 _ => ?_)
      exact pc_w ih (fun _ u y c hc => by rw [y c hc, e4, st_row hc, e3, st_row hc, e2, st_row hc])
/-- who stays one more week, who goes home, who is busy -/
def mid (s bg : Nat → Int) (g : Int) (i j : Nat) : Int := if j < i ∧ gst (s j) = true then (if bg j = -1 then (if s j < g then s j + 1 else 4) else 1) else s j
theorem mid_nis {P g : Int} {s bg : Nat → Int} {j : Nat} (hj : (j : Int) < P) (hg : ∀ i : Nat, (i : Int) < P → bg i ≠ -1 → gst (s i) = true) : (if brn bg P.toNat j = true then 1 else mid s bg g P.toNat j) = nis P s g (mvs P bg) j := by
  unfold nis mvs bng mid
  rw [show inP P j = true from decide_eq_true hj]
  cases hb : brn bg P.toNat j with
  | true =>
    rw [if_pos rfl, if_pos (by simp)]
  | false =>
    rw [if_neg (by decide)]
    by_cases c : bg j = -1
    · have e1 : ((true && !(bg j == -1)) || false) = false := by rw [c]; rfl
      rw [if_neg (show ¬ ((true && !(bg j == -1)) || false) = true by rw [e1]; decide)]
      cases hs : gst (s j) with
      | true => rw [if_pos ⟨by omega, rfl⟩, if_pos c, if_pos rfl]
      | false => rw [if_neg (fun h => by cases h.2), if_neg (by decide)]
    · have e1 : ((true && !(bg j == -1)) || false) = true := by rw [beq_eq_false_iff_ne.mpr c]; rfl
      rw [if_pos e1, if_pos ⟨by omega, hg j hj c⟩, if_neg c]
/-- the second half -/
theorem gy164 {P v1 v2 : Int} {s : Nat → Int} {f : Nat → Bool} (x : Wd) (hP : 0 ≤ P ∧ P ≤ 10) (h0 : x 43 0 = P) (hB : B10 v2 f) : ∀ (n : Nat) {w : Wd} {v3 : Int}, 0 ≤ v3 → v3 ≤ P → (∀ c, c ≠ 47 → w c = x c) → (∀ j : Nat, (j : Int) < P → w 47 j = if (j : Int) < v3 ∧ f j = true then 1 else s j) → PC (f_R_goWeek_164 n v1 v2 v3 w) (fun r u => r = v1 ∧ (∀ j : Nat, (j : Int) < P → u 47 j = if f j = true then 1 else s j) ∧ B10 (u 50 (x 43 8).toNat) (gs P (u 47)) ∧ (∀ t, t ≠ (x 43 8).toNat → u 50 t = x 50 t) ∧ u 43 7 = w32 (x 43 7 + v1) ∧ ∀ c k, c ≠ 47 → c ≠ 50 → ¬ (c = 43 ∧ k = 7) → u c k = x c k) := by
  intro n
  induction n with
  | zero => intros; exact pc_none
  | succ n ih =>
    intro w v3 i0 i1 hx hd
    have r43 : w 43 = x 43 := hx 43 (by decide)
    rw [f_R_goWeek_164, r43, h0]
    refine pc_ite (fun z => ?_) (fun z => ?_)
    · have e : v3 = P := by omega
      refine pc_call (rg_e (w := w) (by rw [r43]; omega)) (fun r7 u8 q => ?_)
      rw [q.1]
      refine pc_gd (fun _ => ?_)
      refine pc_lw (fun u9 e9 => ?_)
      refine pc_lw (fun u10 e10 => pc_some ⟨rfl, fun j hj => ?_, ?_, fun t ht => ?_, ?_, fun c k h47 h50 h7 => ?_⟩)
      · rw [e10, st_c (by decide), e9, st_c (by decide), hd j hj, e]
        by_cases c : f j = true
        · rw [if_pos ⟨hj, c⟩, if_pos c]
        · rw [if_neg (fun h => c h.2), if_neg c]
      · have e47 : u10 47 = w 47 := by rw [e10, st_row (by decide), e9, st_row (by decide)]
        have := q.2
        rw [r43, h0] at this
        rw [e47, e10, st_c (by decide), e9, st_eq]
        exact this
      · rw [e10, st_c (by decide), e9, st_k ht, hx 50 (by decide)]
      · rw [e10, st_eq, e9, st_c (by decide), r43]
      · rw [e10]; unfold st; rw [if_neg h7, e9]; unfold st; rw [if_neg (fun h => h50 h.1), hx c h47]
    · rw [hasR_10 w hB (by omega), jc_s]
      have nx : ∀ {u : Wd}, (∀ c, c ≠ 47 → u c = x c) → (∀ j : Nat, (j : Int) < P → u 47 j = if (j : Int) < v3 + 1 ∧ f j = true then 1 else s j) → PC (f_R_goWeek_187 (f_R_goWeek_164 n) v1 v2 v3 u) (fun r u => r = v1 ∧ (∀ j : Nat, (j : Int) < P → u 47 j = if f j = true then 1 else s j) ∧ B10 (u 50 (x 43 8).toNat) (gs P (u 47)) ∧ (∀ t, t ≠ (x 43 8).toNat → u 50 t = x 50 t) ∧ u 43 7 = w32 (x 43 7 + v1) ∧ ∀ c k, c ≠ 47 → c ≠ 50 → ¬ (c = 43 ∧ k = 7) → u c k = x c k) := by
        intro u hu hd2
        unfold f_R_goWeek_187
        refine pc_let (fun x5 e5 => ?_)
        rw [wsucc (P := P) (by omega) (by omega)] at e5
        rw [e5]
        exact ih (by omega) (by omega) hu hd2
      cases hb : f v3.toNat with
      | false =>
        refine pc_ite (fun _ => ?_) (fun c => absurd rfl c)
        refine nx hx (fun j hj => ?_)
        rw [hd j hj]
        by_cases c : f j = true
        · have : (j : Int) ≠ v3 := fun e => by
            rw [show j = v3.toNat by omega, hb] at c; cases c
          by_cases c2 : (j : Int) < v3
          · rw [if_pos ⟨c2, c⟩, if_pos ⟨by omega, c⟩]
          · rw [if_neg (fun h => c2 h.1), if_neg (fun h => by have := h.1; omega)]
        · rw [if_neg (fun h => c h.2), if_neg (fun h => c h.2)]
      | true =>
        refine pc_ite (fun c => absurd c (by decide)) (fun _ => ?_)
        refine pc_gd (fun _ => ?_)
        refine pc_lw (fun u14 e14 => ?_)
        refine nx (fun c hc => by rw [e14, st_row hc]; exact hx c hc) (fun j hj => ?_)
        rw [e14]
        by_cases ck : j = v3.toNat
        · rw [ck, st_eq, if_pos ⟨by omega, hb⟩]
        · rw [st_k ck, hd j hj]
          by_cases c2 : (j : Int) < v3
          · by_cases c : f j = true
            · rw [if_pos ⟨c2, c⟩, if_pos ⟨by omega, c⟩]
            · rw [if_neg (fun h => c h.2), if_neg (fun h => c h.2)]
          · rw [if_neg (fun h => c2 h.1), if_neg (fun h => by have := h.1; omega)]
/-- what a WEEK makes of the reference's world -/
def GQ (P : Int) (x : Wd) (r : Int) (u : Wd) : Prop := r = sms (fun q => if brn (x 58) P.toNat q = true then x 44 q else 0) P.toNat ∧ (∀ j : Nat, (j : Int) < P → u 47 j = nis P (x 47) (x 43 10) (mvs P (x 58)) j) ∧ (∀ q : Nat, u 48 q = (if brn (x 58) P.toNat q = true then byo (x 58) P.toNat q else x 48 q) ∧ u 49 q = if brn (x 58) P.toNat q = true then x 43 8 else x 49 q) ∧ B10 (u 50 (x 43 8).toNat) (gs P (u 47)) ∧ (∀ t, t ≠ (x 43 8).toNat → u 50 t = x 50 t) ∧ u 43 7 = w32 (x 43 7 + r) ∧ ∀ c k, c ≠ 47 → c ≠ 48 → c ≠ 49 → c ≠ 50 → ¬ (c = 43 ∧ k = 7) → u c k = x c k
theorem gy44 {P v2 : Int} (x : Wd) (hP : 0 ≤ P ∧ P ≤ 10) (h0 : x 43 0 = P) (hB : B10 v2 (brn (x 58) P.toNat)) (hI : INJ P.toNat (x 58)) (hg : ∀ i : Nat, (i : Int) < P → x 58 i = -1 ∨ ((0 ≤ x 58 i ∧ x 58 i < P) ∧ gst (x 47 i) = true)) (hs : ∀ j : Nat, (j : Int) < P → 0 ≤ x 47 j ∧ x 47 j ≤ 4) (h44 : ∀ j, 0 ≤ x 44 j ∧ x 44 j ≤ 9) : ∀ (n : Nat) {w : Wd} {v1 v3 : Int}, 0 ≤ v3 → v3 ≤ P → (∀ c, c ≠ 47 → c ≠ 48 → c ≠ 49 → w c = x c) → (∀ j : Nat, w 47 j = mid (x 47) (x 58) (x 43 10) v3.toNat j) → (∀ q : Nat, w 48 q = (if brn (x 58) v3.toNat q = true then byo (x 58) v3.toNat q else x 48 q) ∧ w 49 q = if brn (x 58) v3.toNat q = true then x 43 8 else x 49 q) → v1 = sms (fun q => if brn (x 58) v3.toNat q = true then x 44 q else 0) P.toNat → PC (f_R_goWeek_44 n v1 v2 v3 w) (fun r u => GQ P x r u) := by
  intro n
  induction n with
  | zero => intros; exact pc_none
  | succ n ih =>
    intro w v1 v3 i0 i1 hx h47 h48 hv
    have r43 : w 43 = x 43 := hx 43 (by decide) (by decide) (by decide)
    have r58 : w 58 = x 58 := hx 58 (by decide) (by decide) (by decide)
    have r44 : w 44 = x 44 := hx 44 (by decide) (by decide) (by decide)
    rw [f_R_goWeek_44, r43, h0]
    refine pc_ite (fun z => ?_) (fun z => ?_)
    · have e : v3 = P := by omega
      subst e
      refine pc_w (gy164 (s := fun j => mid (x 47) (x 58) (x 43 10) v3.toNat j) w hP (by rw [r43]; exact h0) hB FU (v3 := 0) (by decide) hP.1 (fun _ _ => rfl) (fun j hj => by rw [if_neg (fun h => by have := h.1; omega)]; exact h47 j)) (fun r u y => ?_)
      obtain ⟨y1, y2, y3, y4, y5, y6⟩ := y
      rw [r43] at y3 y4 y5
      refine ⟨by rw [y1]; exact hv, fun j hj => ?_, fun q => ?_, y3, fun t ht => by rw [y4 t ht, hx 50 (by decide) (by decide) (by decide)], by rw [y5, y1], fun c k c1 c2 c3 c4 c5 => by rw [y6 c k c1 c4 c5, hx c c1 c2 c3]⟩
      · rw [y2 j hj]
        exact mid_nis hj (fun i hi hn => by
          rcases hg i hi with e | e
          · exact absurd e hn
          · exact e.2)
      · rw [y6 48 q (by decide) (by decide) (by omega), y6 49 q (by decide) (by decide) (by omega)]
        exact h48 q
    · refine pc_gd (fun _ => ?_)
      have em : mid (x 47) (x 58) (x 43 10) v3.toNat v3.toNat = x 47 v3.toNat := by
        unfold mid
        rw [if_neg (fun h => by have := h.1; omega)]
      rw [isG_e, jc_s, h47, em, r58]
      have e3 : (v3 + 1).toNat = v3.toNat + 1 := by omega
      have ems : ∀ j, j ≠ v3.toNat → mid (x 47) (x 58) (x 43 10) (v3.toNat + 1) j = mid (x 47) (x 58) (x 43 10) v3.toNat j := fun j hj => by
        unfold mid
        by_cases c : j < v3.toNat ∧ gst (x 47 j) = true
        · rw [if_pos c, if_pos ⟨by omega, c.2⟩]
        · rw [if_neg c, if_neg (fun h => c ⟨by omega, h.2⟩)]
      have nx : ∀ {u : Wd} {a : Int}, (∀ c, c ≠ 47 → c ≠ 48 → c ≠ 49 → u c = x c) → (∀ j : Nat, u 47 j = mid (x 47) (x 58) (x 43 10) (v3.toNat + 1) j) → (∀ q : Nat, u 48 q = (if brn (x 58) (v3.toNat + 1) q = true then byo (x 58) (v3.toNat + 1) q else x 48 q) ∧ u 49 q = if brn (x 58) (v3.toNat + 1) q = true then x 43 8 else x 49 q) → a = sms (fun q => if brn (x 58) (v3.toNat + 1) q = true then x 44 q else 0) P.toNat → PC (f_R_goWeek_156 (f_R_goWeek_44 n) a v2 v3 u) (fun r u => GQ P x r u) := by
        intro u a a1 a2 a3 a4
        unfold f_R_goWeek_156
        refine pc_let (fun x5 e5 => ?_)
        rw [wsucc (P := P) (by omega) (by omega)] at e5
        rw [e5]
        exact ih (by omega) (by omega) a1 (by rw [e3]; exact a2) (by rw [e3]; exact a3) (by rw [e3]; exact a4)
      have hgi := hg v3.toNat (by omega)
      -- nobody is brought by this one
      have none1 : x 58 v3.toNat = -1 → (∀ q : Nat, brn (x 58) (v3.toNat + 1) q = brn (x 58) v3.toNat q) ∧ ∀ q : Nat, byo (x 58) (v3.toNat + 1) q = byo (x 58) v3.toNat q := fun e => by
        refine ⟨fun q => ?_, fun q => ?_⟩
        · rw [brn, e, beq_eq_false_iff_ne.mpr (show ¬ (-1 : Int) = (q : Int) by omega), Bool.or_false]
        · rw [byo, if_neg (by rw [e]; omega)]
      cases hb : gst (x 47 v3.toNat) with
      | false =>
        have e1 : x 58 v3.toNat = -1 := by
          rcases hgi with e | e
          · exact e
          · rw [hb] at e; cases e.2
        refine pc_ite (fun _ => ?_) (fun c => absurd rfl c)
        obtain ⟨n1, n2⟩ := none1 e1
        refine nx hx (fun j => ?_) (fun q => ?_) ?_
        · by_cases c : j = v3.toNat
          · rw [h47, c, em]
            unfold mid
            rw [if_neg (fun h => by rw [hb] at h; cases h.2)]
          · rw [ems j c]; exact h47 j
        · rw [n1, n2]; exact h48 q
        · rw [hv]; exact sms_eq (fun j _ => by rw [n1])
      | true =>
        refine pc_ite (fun c => absurd c (by decide)) (fun _ => ?_)
        refine pc_gd (fun _ => ?_)
        have sr := hs v3.toNat (by omega)
        refine pc_ite (fun e1 => ?_) (fun e1 => ?_)
        · obtain ⟨n1, n2⟩ := none1 e1
          refine pc_gd (fun _ => pc_gd (fun _ => pc_lw (fun u23 e23 => pc_gd (fun _ => ?_))))
          have w1 := w32_sp (x 47 v3.toNat + 1)
          have w2 := w32_sp (w32 (x 47 v3.toNat + 1) - 1)
          have ek : u23 47 v3.toNat = x 47 v3.toNat + 1 := by rw [e23, st_eq]; omega
          have e10 : u23 43 10 = x 43 10 := by rw [e23, st_c (by decide), r43]
          have w3 := w32_sp (u23 47 v3.toNat - 1)
          have hmi : mid (x 47) (x 58) (x 43 10) (v3.toNat + 1) v3.toNat = if x 47 v3.toNat < x 43 10 then x 47 v3.toNat + 1 else 4 := by
            unfold mid
            rw [if_pos ⟨by omega, hb⟩, if_pos e1]
          refine pc_ite (fun c => ?_) (fun c => ?_)
          · refine nx (fun c a1 a2 a3 => by rw [e23, st_row a1]; exact hx c a1 a2 a3) (fun j => ?_) (fun q => ?_) ?_
            · by_cases cj : j = v3.toNat
              · rw [cj, ek, hmi, if_pos (by omega)]
              · rw [ems j cj, e23, st_k cj]; exact h47 j
            · rw [n1, n2, e23, st_c (by decide), st_c (by decide)]; exact h48 q
            · rw [hv]; exact sms_eq (fun j _ => by rw [n1])
          · refine pc_gd (fun _ => pc_lw (fun u24 e24 => ?_))
            refine nx (fun c a1 a2 a3 => by rw [e24, st_row a1, e23, st_row a1]; exact hx c a1 a2 a3) (fun j => ?_) (fun q => ?_) ?_
            · by_cases cj : j = v3.toNat
              · rw [cj, e24, st_eq, hmi, if_neg (by omega)]
              · rw [ems j cj, e24, st_k cj, e23, st_k cj]; exact h47 j
            · rw [n1, n2, e24, st_c (by decide), st_c (by decide), e23, st_c (by decide), st_c (by decide)]; exact h48 q
            · rw [hv]; exact sms_eq (fun j _ => by rw [n1])
        · have hq := (hgi.resolve_left e1).1
          have ebg : (((x 58 v3.toNat).toNat : Nat) : Int) = x 58 v3.toNat := by omega
          have hnb : brn (x 58) v3.toNat (x 58 v3.toNat).toNat = false := brn_f (fun i hi e2 => by
            have := hI i v3.toNat (by omega) (by omega) (by rw [e2]; omega) (by rw [e2]; omega)
            omega)
          have hmi : mid (x 47) (x 58) (x 43 10) (v3.toNat + 1) v3.toNat = 1 := by
            unfold mid
            rw [if_pos ⟨by omega, hb⟩, if_neg e1]
          refine pc_gd (fun _ => pc_let (fun x17 e17 => pc_gd (fun _ => pc_lw (fun u18 e18 => pc_gd (fun _ => pc_let (fun x19 e19 => pc_gd (fun _ => pc_lw (fun u20 e20 => pc_gd (fun _ => pc_lw (fun u21 e21 => ?_))))))))))
          have e44' : u18 44 x17.toNat = x 44 (x 58 v3.toNat).toNat := by rw [e18, st_c (by decide), r44, e17]
          have rg := sms_rg2 (f := brn (x 58) v3.toNat) h44 P.toNat
          have p4 := h44 (x 58 v3.toNat).toNat
          have ex19 : x19 = v1 + x 44 (x 58 v3.toNat).toNat := by
            rw [e19, e44']
            have := w32_sp (v1 + x 44 (x 58 v3.toNat).toNat)
            omega
          refine nx (fun c a1 a2 a3 => by rw [e21, st_row a3, e20, st_row a2, e18, st_row a1]; exact hx c a1 a2 a3) (fun j => ?_) (fun q => ?_) ?_
          · rw [e21, st_c (by decide), e20, st_c (by decide), e18]
            by_cases cj : j = v3.toNat
            · rw [cj, st_eq, hmi]
            · rw [ems j cj, st_k cj]; exact h47 j
          · rw [brn, byo]
            have e8 : u20 43 8 = x 43 8 := by rw [e20, st_c (by decide), e18, st_c (by decide), r43]
            by_cases cq : x 58 v3.toNat = (q : Int)
            · have cq2 : x17.toNat = q := by rw [e17]; omega
              rw [beq_iff_eq.mpr cq, Bool.or_true, if_pos rfl, if_pos rfl, if_pos cq]
              refine ⟨?_, ?_⟩
              · rw [e21, st_c (by decide), e20, cq2, st_eq]; omega
              · rw [e21, cq2, st_eq]; exact e8
            · have cq2 : q ≠ x17.toNat := by rw [e17]; omega
              rw [beq_eq_false_iff_ne.mpr cq, Bool.or_false, if_neg cq]
              refine ⟨?_, ?_⟩
              · rw [e21, st_c (by decide), e20, st_k cq2, e18, st_c (by decide)]; exact (h48 q).1
              · rw [e21, st_k cq2, e20, st_c (by decide), e18, st_c (by decide)]; exact (h48 q).2
          · rw [ex19, hv]
            have := sms_add (f := brn (x 58) v3.toNat) (g := x 44) (v := x 58 v3.toNat) (n := P.toNat) (by omega) hq.1 hnb
            rw [← this]
            exact sms_eq (fun j _ => by rw [brn])
def GWq (P : Int) (w : Wd) (r : Int) (u : Wd) : Prop := (u 43 8 = w 43 8 + 1 ∧ u 43 32 = w 43 32 + 1 ∧ u 43 7 = w32 (w 43 7 + r)) ∧ r = sms (fun q => if brn (w 58) P.toNat q = true then w 44 q else 0) P.toNat ∧ (∀ j : Nat, (j : Int) < P → u 47 j = nis P (w 47) (w 43 10) (mvs P (w 58)) j) ∧ (∀ q : Nat, u 48 q = (if brn (w 58) P.toNat q = true then byo (w 58) P.toNat q else w 48 q) ∧ u 49 q = if brn (w 58) P.toNat q = true then w 43 8 + 1 else w 49 q) ∧ B10 (u 50 (w 43 8 + 1).toNat) (gs P (u 47)) ∧ (∀ t, t ≠ (w 43 8 + 1).toNat → u 50 t = w 50 t) ∧ (∀ j : Nat, j < 10 → u 59 (31 * (w 43 32).toNat + 3 * j) = w 47 j ∧ u 59 (31 * (w 43 32).toNat + 3 * j + 1) = w 48 j ∧ u 59 (31 * (w 43 32).toNat + 3 * j + 2) = w 49 j) ∧ u 59 (31 * (w 43 32).toNat + 30) = w 43 7 ∧ (∀ i, i < 31 * (w 43 32).toNat → u 59 i = w 59 i) ∧ ∀ c k, c ≠ 47 → c ≠ 48 → c ≠ 49 → c ≠ 50 → c ≠ 59 → ¬ (c = 43 ∧ (k = 7 ∨ k = 8 ∨ k = 32)) → u c k = w c k
theorem goweek_pc {P : Int} {w : Wd} (hP : 0 ≤ P ∧ P ≤ 10) (h0 : w 43 0 = P) (h8 : 0 ≤ w 43 8 ∧ w 43 8 ≤ 59) (h32 : 0 ≤ w 43 32 ∧ w 43 32 ≤ 59) (hI : INJ P.toNat (w 58)) (hg : ∀ i : Nat, (i : Int) < P → w 58 i = -1 ∨ ((0 ≤ w 58 i ∧ w 58 i < P) ∧ gst (w 47 i) = true)) (hs : ∀ j : Nat, (j : Int) < P → 0 ≤ w 47 j ∧ w 47 j ≤ 4) (h44 : ∀ j, 0 ≤ w 44 j ∧ w 44 j ≤ 9) : PC (f_R_goWeek w) (fun r u => GWq P w r u) := by
  unfold f_R_goWeek
  have e31 : w32 (31 * w 43 32) = ((31 * (w 43 32).toNat : Nat) : Int) := by
    have := w32_sp (31 * w 43 32)
    omega
  refine pc_call (pc_and (layq59 (k := 31 * (w 43 32).toNat) e31 (by omega) w) (by unfold f_R_lay_43_59; exact lay_fr FU)) (fun r1 u2 q => ?_)
  obtain ⟨⟨q1, q2, q3⟩, q4⟩ := q
  refine pc_lw (fun u3 e3 => ?_)
  refine pc_lw (fun u4 e4 => ?_)
  have r43 : u2 43 = w 43 := q4 43 (by decide)
  have o4 : ∀ c k, c ≠ 59 → ¬ (c = 43 ∧ (k = 8 ∨ k = 32)) → u4 c k = w c k := fun c k h59 hc => by
    rw [e4]; unfold st; rw [if_neg (by omega), e3]; unfold st; rw [if_neg (by omega), q4 c h59]
  have ro : ∀ c, c ≠ 59 → c ≠ 43 → u4 c = w c := fun c h59 h43 => funext fun k => o4 c k h59 (by omega)
  have w1 := w32_sp (w 43 8 + 1)
  have w2 := w32_sp (w 43 32 + 1)
  have e8 : u4 43 8 = w 43 8 + 1 := by rw [e4, st_eq, e3, st_k (by decide), r43]; omega
  have e32 : u4 43 32 = w 43 32 + 1 := by rw [e4, st_k (by decide), e3, st_eq, r43]; omega
  have h0' : u4 43 0 = P := by rw [o4 43 0 (by decide) (by decide)]; exact h0
  have r58 : u4 58 = w 58 := ro 58 (by decide) (by decide)
  have r47 : u4 47 = w 47 := ro 47 (by decide) (by decide)
  have hbn := bn_pc (w := u4) (by omega) (fun i hi => by
    rw [r58]
    rcases hg i (by omega) with e | e
    · exact Or.inl e
    · exact Or.inr (by omega))
  rw [h0'] at hbn
  refine pc_call hbn (fun r5 u6 y => ?_)
  rw [y.1]
  refine pc_w (gy44 u4 hP h0' y.2 (by rw [r58]; exact hI) (by rw [r58, r47]; exact hg) (by rw [r47]; exact hs) (by rw [ro 44 (by decide) (by decide)]; exact h44) FU (v3 := 0) (by decide) hP.1 (fun _ _ _ _ => rfl) (fun j => ?_) (fun q => ?_) ?_) (fun r u z => ?_)
  · unfold mid
    rw [if_neg (fun h => by have := h.1; omega)]
  · exact ⟨rfl, rfl⟩
  · exact (sms_0 (fun j _ => rfl)).symm
  · obtain ⟨z1, z2, z3, z4, z5, z6, z7⟩ := z
    rw [r58, ro 44 (by decide) (by decide)] at z1
    rw [r58, r47, o4 43 10 (by decide) (by decide)] at z2
    rw [e8] at z4 z5
    have r59 : ∀ i, u 59 i = u2 59 i := fun i => by
      rw [z7 59 i (by decide) (by decide) (by decide) (by decide) (by omega), e4, st_c (by decide), e3, st_c (by decide)]
    refine ⟨⟨?_, ?_, ?_⟩, z1, z2, fun q => ?_, z4, fun t ht => ?_, fun j hj => ?_, ?_, fun i hi => ?_, fun c k c1 c2 c3 c4 c5 c6 => ?_⟩
    · rw [z7 43 8 (by decide) (by decide) (by decide) (by decide) (by decide)]; exact e8
    · rw [z7 43 32 (by decide) (by decide) (by decide) (by decide) (by decide)]; exact e32
    · rw [z6, o4 43 7 (by decide) (by decide)]
    · have := z3 q
      rw [r58, e8, ro 48 (by decide) (by decide), ro 49 (by decide) (by decide)] at this
      exact this
    · rw [z5 t ht, ro 50 (by decide) (by decide)]
    · rw [r59, r59, r59]; exact q1 j hj
    · rw [r59]; exact q2
    · rw [r59]; exact q3 i (Or.inl hi)
    · rw [z7 c k c1 c2 c3 c4 (by omega)]; exact o4 c k c5 (by omega)
/-! A WEEK GOES BY: the class -/
def EPq (P : Int) (bg s : Nat → Int) (g : Int) (w : Wd) (r : Int) (u : Wd) : Prop := (u 15 3 = w 15 3 + 1 ∧ u 15 4 = w 15 4 + 1 ∧ u 5 6 = w32 (w 5 6 + r)) ∧ r = sms (fun q => if brn bg P.toNat q = true then w 6 q else 0) P.toNat ∧ WH (u 5 4) (nis P s g (mvs P bg)) P ∧ B10 (u 16 (w 15 3 + 1).toNat) (gs P (nis P s g (mvs P bg))) ∧ (∀ t, t ≠ (w 15 3 + 1).toNat → u 16 t = w 16 t) ∧ (∀ q : Nat, (q : Int) < P → u 8 q = if brn bg P.toNat q = true then byo bg P.toNat q else w 8 q) ∧ (u 17 (w 15 3).toNat = w 5 4 ∧ u 18 (w 15 3).toNat = w 5 6 ∧ ∀ t, t ≠ (w 15 3).toNat → u 17 t = w 17 t ∧ u 18 t = w 18 t) ∧ ∀ c k, c ≠ 8 → c ≠ 16 → c ≠ 17 → c ≠ 18 → c ≠ 28 → ¬ (c = 5 ∧ (k = 4 ∨ k = 6)) → ¬ (c = 15 ∧ (k = 3 ∨ k = 4)) → u c k = w c k
theorem pbr_pc {P i : Int} {bg : Nat → Int} {m : Nat} {w : Wd} (h : PLm P bg m w) (hi : 0 ≤ i ∧ i < m) : PC (f_P_bringer i w) (fun r u => u = w ∧ r = w 13 i.toNat) := by
  unfold f_P_bringer
  rw [h.1]
  refine pc_ite (fun z => by omega) (fun _ => ?_)
  refine pc_ite (fun z => by omega) (fun _ => ?_)
  exact pc_gd (fun _ => pc_some ⟨rfl, rfl⟩)
theorem pwo_pc {P i : Int} {bg : Nat → Int} {m : Nat} {w : Wd} (h : PLm P bg m w) (hi : 0 ≤ i ∧ i < m) : PC (f_P_whomOf i w) (fun r u => u = w ∧ r = w 14 i.toNat) := by
  unfold f_P_whomOf
  rw [h.1]
  refine pc_ite (fun z => by omega) (fun _ => ?_)
  refine pc_ite (fun z => by omega) (fun _ => ?_)
  exact pc_gd (fun _ => pc_some ⟨rfl, rfl⟩)
theorem fbr_pc {P a q : Int} {w : Wd} (h3 : w 5 3 = P) (ha : 0 ≤ a ∧ a < P) (hq : 0 ≤ q ∧ q < P) : PC (f_F_bring a q w) (fun r u => r = w 6 q.toNat ∧ u = st w 8 q.toNat a) := by
  unfold f_F_bring
  refine pc_call (it_pc a w) (fun r1 u2 y => ?_)
  rw [y.1, y.2, h3, show hd P a = 1 from if_pos ha]
  refine pc_ite (fun e => absurd e (by decide)) (fun _ => ?_)
  refine pc_call (it_pc q w) (fun r3 u4 y2 => ?_)
  rw [y2.1, y2.2, h3, show hd P q = 1 from if_pos hq]
  refine pc_ite (fun e => absurd e (by decide)) (fun _ => ?_)
  refine pc_gd (fun _ => pc_lw (fun u5 e5 => pc_gd (fun _ => pc_some ⟨?_, e5⟩)))
  rw [e5, st_c (by decide)]
/-- the rows of a WEEK are its pairs -/
theorem plm_inj {P : Int} {bg : Nat → Int} {m : Nat} {w : Wd} (h : PLm P bg m w) (hI : INJ P.toNat bg) : INJ m (w 14) := by
  intro i j hi hj e _
  have a := h.2.2.1 i hi
  have b := h.2.2.1 j hj
  have : (w 13 i).toNat = (w 13 j).toNat := hI _ _ (by omega) (by omega) (by rw [a.2.2, b.2.2]; exact e) (by rw [a.2.2]; omega)
  exact h.2.2.2.2 i j hi hj (by omega)
theorem plm_brn {P : Int} {bg : Nat → Int} {m : Nat} {w : Wd} (h : PLm P bg m w) (q : Nat) : brn (w 14) m q = brn bg P.toNat q := by
  have h1 : brn (w 14) m q = true → brn bg P.toNat q = true := fun e => by
    obtain ⟨i, hi, e2⟩ := brn_t.mp e
    have a := h.2.2.1 i hi
    exact brn_t.mpr ⟨(w 13 i).toNat, by omega, by rw [a.2.2]; exact e2⟩
  have h2 : brn bg P.toNat q = true → brn (w 14) m q = true := fun e => by
    obtain ⟨a, ha, e2⟩ := brn_t.mp e
    obtain ⟨i, hi, e3⟩ := h.2.2.2.1 a (by omega) (by rw [e2]; omega)
    have b := h.2.2.1 i hi
    refine brn_t.mpr ⟨i, hi, ?_⟩
    rw [← b.2.2, e3]
    exact e2
  cases c1 : brn (w 14) m q with
  | true => exact (h1 c1).symm
  | false =>
    cases c2 : brn bg P.toNat q with
    | false => rfl
    | true => rw [h2 c2] at c1; cases c1
theorem plm_byo {P : Int} {bg : Nat → Int} {m : Nat} {w : Wd} (h : PLm P bg m w) (hI : INJ P.toNat bg) {q : Nat} (e : brn bg P.toNat q = true) : w 13 (byo (w 14) m q).toNat = byo bg P.toNat q := by
  obtain ⟨a, ha, e2⟩ := brn_t.mp e
  obtain ⟨i, hi, e3⟩ := h.2.2.2.1 a (by omega) (by rw [e2]; omega)
  have b := h.2.2.1 i hi
  have e4 : w 14 i = q := by rw [← b.2.2, e3]; exact e2
  rw [byo_e (plm_inj h hI) hi e4, byo_e hI ha e2]
  exact e3
theorem mv_ok {P : Int} {s h kn bg : Nat → Int} (hg : GWK P s h kn bg) (k : Nat) (hm : mvs P bg k = true) : (k : Int) < P ∧ s k ≠ 4 := by
  unfold mvs at hm
  rw [Bool.or_eq_true] at hm
  rcases hm with e | e
  · have h1 := gwk_gs hg e
    unfold bng at e
    rw [Bool.and_eq_true] at e
    refine ⟨inP_t e.1, fun e4 => ?_⟩
    rw [e4] at h1
    cases h1
  · have := brn_sr hg e
    exact ⟨this.1, by rw [this.2.1]; decide⟩
theorem ep15 {P g : Int} {bg s h kn : Nat → Int} {m : Nat} (x : Wd) (hP : 0 ≤ P ∧ P ≤ 10) (h3 : x 5 3 = P) (h7 : x 5 7 = g) (hg : 1 ≤ g ∧ g ≤ 3) (hw : WH (x 5 4) s P) (hL : PLm P bg m x) (hm : m ≤ 10) (hW : GWK P s h kn bg) (h15 : 0 ≤ x 15 3 ∧ x 15 3 ≤ 59) (h6 : ∀ j, 0 ≤ x 6 j ∧ x 6 j ≤ 9) : ∀ (n : Nat) {w : Wd} {v1 v2 : Int}, 0 ≤ v2 → v2 ≤ m → (∀ c, c ≠ 8 → w c = x c) → (∀ q : Nat, w 8 q = if brn (x 14) v2.toNat q = true then x 13 (byo (x 14) v2.toNat q).toNat else x 8 q) → v1 = sms (fun q => if brn (x 14) v2.toNat q = true then x 6 q else 0) P.toNat → PC (f_E_pass_15 n v1 v2 w) (fun r u => r = sms (fun q => if brn (x 14) m q = true then x 6 q else 0) P.toNat ∧ (u 15 3 = x 15 3 + 1 ∧ u 5 6 = w32 (x 5 6 + r)) ∧ WH (u 5 4) (nis P s g (mvs P bg)) P ∧ B10 (u 16 (x 15 3 + 1).toNat) (gs P (nis P s g (mvs P bg))) ∧ (∀ t, t ≠ (x 15 3 + 1).toNat → u 16 t = x 16 t) ∧ (∀ q : Nat, u 8 q = if brn (x 14) m q = true then x 13 (byo (x 14) m q).toNat else x 8 q) ∧ ∀ c k, c ≠ 8 → c ≠ 16 → c ≠ 28 → ¬ (c = 5 ∧ (k = 4 ∨ k = 6)) → ¬ (c = 15 ∧ k = 3) → u c k = x c k) := by
  intro n
  induction n with
  | zero => intros; exact pc_none
  | succ n ih =>
    intro w v1 v2 i0 i1 hx h8 hv
    have r12 : w 12 = x 12 := hx 12 (by decide)
    rw [f_E_pass_15, r12, hL.1]
    have hLw : PLm P bg m w := plm_eq hL ⟨by rw [r12], by rw [r12]⟩ (hx 13 (by decide)) (hx 14 (by decide))
    refine pc_ite (fun z => ?_) (fun z => ?_)
    · have e : v2.toNat = m := by omega
      rw [e] at h8 hv
      refine pc_lw (fun u3 e3 => ?_)
      have r5 : ∀ k, k ≠ 6 → u3 5 k = x 5 k := fun k hk => by rw [e3, st_k hk, hx 5 (by decide)]
      have r12' : u3 12 = x 12 := by rw [e3, st_row (by decide)]; exact r12
      rw [r5 4 (by decide), r5 7 (by decide), r12', h7]
      obtain ⟨ra, ea, ewh⟩ := after_e (g := g) (v := x 12 3) hw hP hg hL.2.1 (fun k _ hk => mv_ok hW k hk) u3
      rw [ea, jc_s]
      refine pc_lw (fun u6 e6 => ?_)
      refine pc_lw (fun u7 e7 => ?_)
      have e15 : u7 15 3 = x 15 3 + 1 := by
        rw [e7, st_eq, e6, st_c (by decide), e3, st_c (by decide), hx 15 (by decide)]
        exact w32_id (by omega)
      have e54 : u7 5 4 = ra := by rw [e7, st_c (by decide), e6, st_eq]
      refine pc_call (eg_e (w := u7) (P := P) (s := nis P s g (mvs P bg)) (by rw [e54]; exact ewh)) (fun r8 u9 q => ?_)
      rw [q.1]
      refine pc_call (ng_pc (v1 := r8) (w := u7) (by rw [e15]; omega)) (fun r10 u11 q2 => ?_)
      refine pc_call (sf_pc u11) (fun r12 u13 y => pc_some ⟨hv, ⟨?_, ?_⟩, ?_, ?_, fun t ht => ?_, fun q3 => ?_, fun c k c1 c2 c3 c4 c5 => ?_⟩)
      · rw [y 15 (by decide), q2, st_c (by decide)]; exact e15
      · rw [y 5 (by decide), q2, st_c (by decide), e7, st_c (by decide), e6, st_k (by decide), e3, st_eq, hx 5 (by decide)]
      · rw [y 5 (by decide), q2, st_c (by decide), e54]; exact ewh
      · rw [y 16 (by decide), q2, e15, st_eq]; exact q.2
      · rw [y 16 (by decide), q2, e15, st_k ht, e7, st_c (by decide), e6, st_c (by decide), e3, st_c (by decide), hx 16 (by decide)]
      · rw [y 8 (by decide), q2, st_c (by decide), e7, st_c (by decide), e6, st_c (by decide), e3, st_c (by decide)]; exact h8 q3
      · rw [y c c3, q2]; unfold st; rw [if_neg (fun h => c2 h.1), e7]; unfold st; rw [if_neg c5, e6]; unfold st; rw [if_neg (by omega), e3]; unfold st; rw [if_neg (by omega), hx c c1]
    · have hi : 0 ≤ v2 ∧ v2 < m := by omega
      have hr := hL.2.2.1 v2.toNat (by omega)
      refine pc_call (pbr_pc hLw hi) (fun r14 u15 y1 => ?_)
      rw [y1.1]
      refine pc_call (pwo_pc hLw hi) (fun r16 u17 y2 => ?_)
      rw [y2.1, y1.2, y2.2, hx 13 (by decide), hx 14 (by decide)]
      refine pc_call (fbr_pc (w := w) (P := P) (by rw [hx 5 (by decide)]; exact h3) hr.1 hr.2.1) (fun r18 u19 y3 => ?_)
      have r6 : w 6 = x 6 := hx 6 (by decide)
      have ei := plm_inj hL hW.1
      have hnb : brn (x 14) v2.toNat (x 14 v2.toNat).toNat = false := brn_f (fun i hi2 e2 => by
        have := ei i v2.toNat (by omega) (by omega) (by omega) (by omega)
        omega)
      refine pc_let (fun x20 e20 => ?_)
      refine pc_let (fun x21 e21 => ?_)
      rw [wsucc (P := 10) (by omega) (by omega)] at e21
      rw [e21]
      have e3 : (v2 + 1).toNat = v2.toNat + 1 := by omega
      have rg := sms_rg2 (f := brn (x 14) v2.toNat) h6 P.toNat
      have p6 := h6 (x 14 v2.toNat).toNat
      have ex20 : x20 = v1 + x 6 (x 14 v2.toNat).toNat := by
        rw [e20, y3.1, r6]
        have := w32_sp (v1 + x 6 (x 14 v2.toNat).toNat)
        omega
      refine ih (by omega) (by omega) (fun c hc => by rw [y3.2, st_row hc]; exact hx c hc) (fun q => ?_) ?_
      · rw [y3.2, e3, brn, byo]
        by_cases cq : x 14 v2.toNat = (q : Int)
        · have cq2 : (x 14 v2.toNat).toNat = q := by omega
          rw [beq_iff_eq.mpr cq, Bool.or_true, if_pos rfl, if_pos cq, cq2, st_eq]
          rfl
        · have cq2 : q ≠ (x 14 v2.toNat).toNat := by omega
          rw [beq_eq_false_iff_ne.mpr cq, Bool.or_false, if_neg cq, st_k cq2]
          exact h8 q
      · rw [ex20, hv, e3]
        have := sms_add (f := brn (x 14) v2.toNat) (g := x 6) (v := x 14 v2.toNat) (n := P.toNat) (by omega) hr.2.1.1 hnb
        rw [← this]
        exact sms_eq (fun j _ => by rw [brn])
theorem pass_pc {P g : Int} {bg s h kn : Nat → Int} {m : Nat} {w : Wd} (hP : 0 ≤ P ∧ P ≤ 10) (h3 : w 5 3 = P) (h7 : w 5 7 = g) (hg : 1 ≤ g ∧ g ≤ 3) (hw : WH (w 5 4) s P) (hL : PLm P bg m w) (hm : m ≤ 10) (hW : GWK P s h kn bg) (h15 : 0 ≤ w 15 3 ∧ w 15 3 ≤ 59) (hu : 0 ≤ w 15 4 ∧ w 15 4 ≤ 60) (h6 : ∀ j, 0 ≤ w 6 j ∧ w 6 j ≤ 9) : PC (f_E_pass w) (fun r u => EPq P bg s g w r u) := by
  unfold f_E_pass
  have hna : PC (f_D_noteAhead w) (fun _ u => u = st (st (st w 17 (w 15 3).toNat (w 5 4)) 18 (w 15 3).toNat (w 5 6)) 15 4 (w 15 4 + 1)) := by
    unfold f_D_noteAhead f_D_isOne
    rw [if_neg (by omega), if_neg (by omega), if_neg (by omega), jc_s, if_neg (by decide)]
    refine pc_gd (fun _ => pc_lw (fun u3 e3 => pc_gd (fun _ => pc_lw (fun u4 e4 => pc_lw (fun u5 e5 => pc_some ?_)))))
    have a1 : u3 15 3 = w 15 3 := by rw [e3, st_c (by decide)]
    have a2 : u3 5 6 = w 5 6 := by rw [e3, st_c (by decide)]
    have a3 : u4 15 4 = w 15 4 := by rw [e4, st_c (by decide), e3, st_c (by decide)]
    rw [e5, a3, e4, a1, a2, e3, w32_id (by omega)]
  refine pc_call hna (fun r1 x ex => ?_)
  have ro : ∀ c, c ≠ 17 → c ≠ 18 → c ≠ 15 → x c = w c := fun c c1 c2 c3 => by rw [ex, st_row c3, st_row c2, st_row c1]
  have r153 : x 15 3 = w 15 3 := by rw [ex, st_k (by decide), st_c (by decide), st_c (by decide)]
  have hLx : PLm P bg m x := plm_eq hL ⟨by rw [ro 12 (by decide) (by decide) (by decide)], by rw [ro 12 (by decide) (by decide) (by decide)]⟩ (ro 13 (by decide) (by decide) (by decide)) (ro 14 (by decide) (by decide) (by decide))
  have r5 := ro 5 (by decide) (by decide) (by decide)
  have r6 := ro 6 (by decide) (by decide) (by decide)
  refine pc_w (ep15 x hP (by rw [r5]; exact h3) (by rw [r5]; exact h7) hg (by rw [r5]; exact hw) hLx hm hW (by omega) (by rw [r6]; exact h6) FU (v1 := 0) (v2 := 0) (by decide) (by omega) (fun _ _ => rfl) (fun q => rfl) (sms_0 (fun _ _ => rfl)).symm) (fun r u y => ?_)
  obtain ⟨y1, ⟨y2, y3⟩, y4, y5, y6, y7, y8⟩ := y
  rw [r153] at y2 y5 y6
  rw [r5] at y3
  refine ⟨⟨y2, ?_, y3⟩, ?_, y4, y5, fun t ht => ?_, fun q hq => ?_, ⟨?_, ?_, fun t ht => ⟨?_, ?_⟩⟩, fun c k c1 c2 c3 c4 c5 c6 c7 => ?_⟩
  · rw [y8 15 4 (by decide) (by decide) (by decide) (by decide) (by decide), ex, st_eq]
  · rw [y1, r6]
    exact sms_eq (fun j _ => by rw [plm_brn hLx])
  · rw [y6 t ht, ro 16 (by decide) (by decide) (by decide)]
  · rw [y7 q, plm_brn hLx]
    by_cases c : brn bg P.toNat q = true
    · rw [if_pos c, if_pos c]; exact plm_byo hLx hW.1 c
    · rw [if_neg c, if_neg c, ro 8 (by decide) (by decide) (by decide)]
  · rw [y8 17 _ (by decide) (by decide) (by decide) (by omega) (by omega), ex, st_c (by decide), st_c (by decide), st_eq]
  · rw [y8 18 _ (by decide) (by decide) (by decide) (by omega) (by omega), ex, st_c (by decide), st_eq]
  · rw [y8 17 _ (by decide) (by decide) (by decide) (by omega) (by omega), ex, st_c (by decide), st_c (by decide), st_k ht]
  · rw [y8 18 _ (by decide) (by decide) (by decide) (by omega) (by omega), ex, st_c (by decide), st_k ht, st_c (by decide)]
  · rw [y8 c k c1 c2 c5 c6 (by omega), ex]; unfold st; rw [if_neg (by omega), if_neg (fun h => c4 h.1), if_neg (fun h => c3 h.1)]
/-! BOTH, SIDE BY SIDE: the class's part of one world and the reference's of another -/
def mx (w a : Wd) (c : Nat) : Nat → Int := if c < 43 then w c else a c
def CBd (m : Wd) : Prop := (0 ≤ m 43 0 ∧ m 43 0 ≤ 10) ∧ (∀ j, 0 ≤ m 44 j ∧ m 44 j ≤ 9) ∧ (∀ j, 0 ≤ m 6 j ∧ m 6 j ≤ 9) ∧ (∀ j : Nat, (j : Int) < m 43 0 → 0 ≤ m 45 j ∧ m 45 j ≤ 1023) ∧ (0 ≤ m 43 8 ∧ m 43 8 ≤ 60) ∧ 0 ≤ m 43 32 ∧ m 43 32 ≤ m 43 8
def ER (a w : Wd) : Prop := FC (mx w a) ∧ RU (mx w a) ∧ CBd (mx w a)
theorem fr_of {P : List (Nat × Nat)} {A : List Nat} {w u : Wd} (cc : Nat → Nat → Bool) (h : ∀ c k, cc c k = true → u c k = w c k) (cr : Nat → Bool) (hr : ∀ c, cr c = true → u c = w c) (hP : P.all (fun p => cc p.1 p.2) = true) (hA : A.all (fun c => cr c) = true) : FR P A w u :=
  ⟨fun p hp => h p.1 p.2 (List.all_eq_true.mp hP p hp), fun c hc => hr c (List.all_eq_true.mp hA c hc)⟩
def cbP : List (Nat × Nat) := [(43, 0), (43, 8), (43, 32)]
def cbA : List Nat := [6, 44, 45]
theorem cb_fr {w u : Wd} (h : CBd w) (f : FR cbP cbA w u) : CBd u := by
  have q0 : u 43 0 = w 43 0 := f.1 (43, 0) (by decide)
  have q8 : u 43 8 = w 43 8 := f.1 (43, 8) (by decide)
  have q32 : u 43 32 = w 43 32 := f.1 (43, 32) (by decide)
  unfold CBd
  rw [q0, q8, q32, f.2 6 (by decide), f.2 44 (by decide), f.2 45 (by decide)]
  exact h
/-- the plain frame of choosing -/
def pcc (c k : Nat) : Bool := !(c == 12 || c == 13 || c == 14 || c == 23 || c == 58 || (c == 43 && ((Nat.ble 17 k && Nat.ble k 21) || k == 28 || k == 29)))
def pcr (c : Nat) : Bool := !(c == 12 || c == 13 || c == 14 || c == 23 || c == 58 || c == 43)
theorem pcc_t {c k : Nat} (h : pcc c k = true) : (c ≠ 12 ∧ c ≠ 13 ∧ c ≠ 14 ∧ c ≠ 23) ∧ c ≠ 58 ∧ ¬ (c = 43 ∧ ((17 ≤ k ∧ k ≤ 21) ∨ k = 28 ∨ k = 29)) := by
  unfold pcc at h
  simp only [Bool.not_eq_true', Bool.or_eq_false_iff, Bool.and_eq_false_iff, beq_eq_false_iff_ne] at h
  obtain ⟨⟨⟨⟨⟨h1, h2⟩, h3⟩, h4⟩, h5⟩, h6⟩ := h
  refine ⟨⟨h1, h2, h3, h4⟩, h5, fun ⟨e, hk⟩ => ?_⟩
  rcases h6 with e2 | e2
  · exact e2 e
  · obtain ⟨⟨e3, e4⟩, e5⟩ := e2
    rcases hk with hk | hk | hk
    · rcases e3 with e3 | e3
      · rw [Nat.ble_eq_true_of_le hk.1] at e3; cases e3
      · rw [Nat.ble_eq_true_of_le hk.2] at e3; cases e3
    · exact e4 hk
    · exact e5 hk
theorem pcr_t {c : Nat} (h : pcr c = true) : (c ≠ 12 ∧ c ≠ 13 ∧ c ≠ 14 ∧ c ≠ 23) ∧ c ≠ 58 ∧ c ≠ 43 := by
  unfold pcr at h
  simp only [Bool.not_eq_true', Bool.or_eq_false_iff, beq_eq_false_iff_ne] at h
  obtain ⟨⟨⟨⟨⟨h1, h2⟩, h3⟩, h4⟩, h5⟩, h6⟩ := h
  exact ⟨⟨h1, h2, h3, h4⟩, h5, h6⟩
theorem er_choose {a w a' u : Wd} (h : ER a w) (hE : EXp w u) (hR : RXp a a') : ER a' u := by
  have hc : ∀ c k, pcc c k = true → mx u a' c k = mx w a c k := fun c k hk => by
    have := pcc_t hk
    unfold mx
    by_cases z : c < 43
    · rw [if_pos z, if_pos z, hE c this.1.1 this.1.2.1 this.1.2.2.1 this.1.2.2.2]
    · rw [if_neg z, if_neg z, hR c k this.2.1 this.2.2]
  have hr : ∀ c, pcr c = true → mx u a' c = mx w a c := fun c hk => by
    have := pcr_t hk
    unfold mx
    by_cases z : c < 43
    · rw [if_pos z, if_pos z, hE c this.1.1 this.1.2.1 this.1.2.2.1 this.1.2.2.2]
    · rw [if_neg z, if_neg z]
      exact funext fun k => hR c k this.2.1 (fun e => this.2.2 e.1)
  exact ⟨fc_fr h.1 (fr_of pcc hc pcr hr (by decide) (by decide)), ru_fr h.2.1 (fr_of pcc hc pcr hr (by decide) (by decide)), cb_fr h.2.2 (fr_of pcc hc pcr hr (by decide) (by decide))⟩
/-- a plan as both have it -/
def PLN (a w : Wd) : Prop := ∃ m : Nat, m ≤ 10 ∧ PLm (a 43 0) (a 58) m w ∧ GWK (a 43 0) (a 47) (a 46) (a 45) (a 58)
theorem mvs_eq {P : Int} {b1 b2 : Nat → Int} (e : ∀ k : Nat, (k : Int) < P → b1 k = b2 k) (q : Nat) : mvs P b1 q = mvs P b2 q := by
  unfold mvs bng
  rw [brn_eq (fun k hk => e k (by omega))]
  by_cases c : (q : Int) < P
  · rw [e q c]
  · rw [show inP P q = false from decide_eq_false c]; rfl
theorem plm_bg {P : Int} {b1 b2 : Nat → Int} {m : Nat} {w : Wd} (h : PLm P b1 m w) (e : ∀ k : Nat, (k : Int) < P → b1 k = b2 k) : PLm P b2 m w := by
  refine ⟨h.1, b10_w h.2.1 (fun k _ => mvs_eq e k), fun i hi => ?_, fun a ha hn => ?_, h.2.2.2.2⟩
  · have := h.2.2.1 i hi
    refine ⟨this.1, this.2.1, ?_⟩
    rw [← e (w 13 i).toNat (by omega)]
    exact this.2.2
  · rw [← e a ha] at hn
    exact h.2.2.2.1 a ha hn
theorem gwk_bg {P : Int} {s h kn b1 b2 : Nat → Int} (hg : GWK P s h kn b1) (e : ∀ k : Nat, (k : Int) < P → b1 k = b2 k) : GWK P s h kn b2 := by
  refine ⟨fun i j hi hj e2 hn => ?_, fun i hi => ?_⟩
  · rw [← e i (by omega), ← e j (by omega)] at e2
    rw [← e i (by omega)] at hn
    exact hg.1 i j hi hj e2 hn
  · rw [← e i hi]; exact hg.2 i hi
theorem er_plan {a w : Wd} (h : ER a w) : ∀ r u r' a', f_P_follow (w 15 3) w = some (r, u) → f_R_findChoices a = some (r', a') → ER a' u ∧ PLN a' u ∧ RXp a a' ∧ EXp w u := by
  intro r u r' a' hE hR
  obtain ⟨hF, hU, hC⟩ := h
  obtain ⟨fCO, fPP, fHB, fWH, fN, f16, fSN, fUB, fK1, fK2, fg, fs⟩ := hF
  obtain ⟨c, hc1, hc2, hc3, hc4⟩ := ruc_e hU
  have x0 : 0 ≤ a 43 0 ∧ a 43 0 ≤ 10 := hC.1
  have x3 : w 5 3 = a 43 0 := fCO.2.1
  have x7 : w 5 7 = a 43 10 := fCO.2.2.1.1
  have x8 : w 5 8 = a 43 11 := fCO.2.2.1.2
  have xg : 1 ≤ a 43 10 ∧ a 43 10 ≤ 3 := fg
  have xW : WH (w 5 4) (a 47) (a 43 0) := fWH
  have xH : B10 (w 5 5) (hB (a 43 0) (a 46)) := fHB
  have xp : ∀ j : Nat, (j : Int) < a 43 0 → w 6 j = a 44 j ∧ w 7 j = a 45 j ∧ w 8 j = a 48 j := fPP
  have x15 : w 15 3 = a 43 8 := fN.2.1
  have x6 : ∀ j, 0 ≤ w 6 j ∧ w 6 j ≤ 9 := hC.2.2.1
  have xk : ∀ j : Nat, (j : Int) < a 43 0 → 0 ≤ a 45 j ∧ a 45 j ≤ 1023 := hC.2.2.2.1
  have xc : RUC c (a 43 27) (a 57) := hc1
  have x19 : w 19 4 = (c.length : Int) := hc2
  have x20 : SR (w 20) c := hc3
  obtain ⟨e1, m, e2, e3⟩ := follow_pc (wk := w 15 3) (g := a 43 10) (seats := a 43 11) (s := a 47) (h := a 46) (pr := a 44) (kn := a 45) x19 hc4 x20 x0 x3 x7 xg.2 x8 xW xH (fun j hj => (xp j hj).1) (fun j hj => (xp j hj).2.1) x6 xk r u hE
  obtain ⟨d1, d2⟩ := choices_pc (g := a 43 10) (seats := a 43 11) (wk := w 15 3) (s := a 47) (h := a 46) (pr := a 44) (kn := a 45) xc x0 rfl rfl rfl x15.symm rfl rfl rfl rfl xW.2.2 xk r' a' hR
  refine ⟨er_choose ⟨⟨fCO, fPP, fHB, fWH, fN, f16, fSN, fUB, fK1, fK2, fg, fs⟩, hU, hC⟩ e1 d1, ⟨m, by omega, ?_, ?_⟩, d1, e1⟩
  · rw [d1 43 0 (by decide) (by decide)]
    exact plm_bg e3 (fun k hk => (d2 k hk).symm)
  · rw [d1 43 0 (by decide) (by decide), show a' 47 = a 47 from funext fun k => d1 47 k (by decide) (by omega), show a' 46 = a 46 from funext fun k => d1 46 k (by decide) (by omega), show a' 45 = a 45 from funext fun k => d1 45 k (by decide) (by omega)]
    exact gwk_bg (plf_gwk x0.1 (a 43 0).toNat (by omega)) (fun k hk => (d2 k hk).symm)
/-! the next WEEK keeps what both have in common -/
theorem fw_ne {f : Nat → Int} {j t : Nat} (h : bt (f t) j = true) : ∀ {n : Nat}, t < n → fw f j n ≠ -1 := by
  intro n
  induction n with
  | zero => intro h; omega
  | succ n ih =>
    intro ht
    by_cases c : t = n
    · subst c
      rw [fw_s h]
      by_cases c2 : fw f j t = -1
      · rw [if_pos c2]; omega
      · rw [if_neg c2]; exact c2
    · have := ih (by omega)
      rw [fw, if_neg this]; exact this
theorem nis_0 {P g : Int} {s : Nat → Int} {mv : Nat → Bool} {j : Nat} (hs : 0 ≤ s j) (h : nis P s g mv j = 0) : mv j = false ∧ s j = 0 := by
  unfold nis at h
  cases c : mv j with
  | true => rw [c, if_pos rfl] at h; omega
  | false =>
    rw [c, if_neg (by decide)] at h
    refine ⟨rfl, ?_⟩
    cases c2 : gst (s j) with
    | true =>
      rw [c2, if_pos rfl] at h
      by_cases c3 : s j < g
      · rw [if_pos c3] at h; omega
      · rw [if_neg c3] at h; omega
    | false => rw [c2, if_neg (by decide)] at h; exact h
theorem nis_n {P g : Int} {s : Nat → Int} {mv : Nat → Bool} {j : Nat} (hs : 0 ≤ s j) (h : s j ≠ 0) : nis P s g mv j ≠ 0 := fun e => h (nis_0 hs e).2
theorem nis_g {P g : Int} {s : Nat → Int} {mv : Nat → Bool} {j : Nat} (h : gst (nis P s g mv j) = true) : mv j = true ∨ gst (s j) = true := by
  unfold nis at h
  cases c : mv j with
  | true => exact Or.inl rfl
  | false =>
    rw [c, if_neg (by decide)] at h
    cases c2 : gst (s j) with
    | true => exact Or.inr rfl
    | false => rw [c2, if_neg (by decide), c2] at h; cases h
theorem nis_m {P g : Int} {s : Nat → Int} {mv : Nat → Bool} {j : Nat} (h : mv j = true) : nis P s g mv j = 1 := if_pos h
theorem sn_week {P wk g : Int} {s b f wr s' b' f' wr' hd0 kn bg : Nat → Int} (h : SN P s b f wr wk) (h0 : 0 ≤ wk) (hP : P ≤ 10) (hs : ∀ j : Nat, (j : Int) < P → 0 ≤ s j ∧ s j ≤ 4) (hW : GWK P s hd0 kn bg) (e1 : ∀ j : Nat, (j : Int) < P → s' j = nis P s g (mvs P bg) j) (e2 : ∀ j : Nat, (j : Int) < P → b' j = if brn bg P.toNat j = true then byo bg P.toNat j else b j) (e3 : ∀ j : Nat, (j : Int) < P → f' j = if brn bg P.toNat j = true then wk + 1 else f j) (e4 : B10 (wr' (wk + 1).toNat) (gs P s')) (e5 : ∀ t, t ≠ (wk + 1).toNat → wr' t = wr t) : SN P s' b' f' wr' (wk + 1) := by
  obtain ⟨n1, n2, n3, n4⟩ := h
  have eq1 : (wk + 1).toNat = wk.toNat + 1 := by omega
  have eq2 : (wk + 1 + 1).toNat = wk.toNat + 1 + 1 := by omega
  have old : ∀ t : Nat, (t : Int) ≤ wk → wr' t = wr t := fun t ht => e5 t (by omega)
  refine ⟨fun j hj hz => ?_, fun j hj => ?_, e4, fun t ht => ?_⟩
  · rw [e1 j hj] at hz
    obtain ⟨z1, z2⟩ := nis_0 (hs j hj).1 hz
    obtain ⟨m1, m2⟩ := n1 j hj z2
    have nb : brn bg P.toNat j = false := by
      unfold mvs at z1
      rw [Bool.or_eq_false_iff] at z1
      exact z1.2
    refine ⟨by rw [e2 j hj, nb, if_neg (by decide)]; exact m1, fun t ht => ?_⟩
    by_cases c : t = (wk + 1).toNat
    · rw [c, e4.2 j (by omega)]
      unfold gs
      rw [e1 j hj, hz]
      cases inP P j <;> rfl
    · rw [e5 t c]; exact m2 t (by omega)
  · have hfw : fw wr' j (wk.toNat + 1) = fw wr j (wk.toNat + 1) := fw_eq (fun t ht => old t (by omega))
    have hfo : f j = fw wr j (wk.toNat + 1) := by rw [n2 j hj, eq1]
    have hbt : bt (wr' (wk.toNat + 1)) j = gst (s' j) := by
      rw [← eq1, e4.2 j (by omega)]
      unfold gs
      rw [show inP P j = true from decide_eq_true hj]; rfl
    rw [e3 j hj, eq2]
    cases hb : brn bg P.toNat j with
    | true =>
      rw [if_pos rfl]
      have hsz := (brn_sr hW hb).2.1
      have hno : fw wr' j (wk.toNat + 1) = -1 := fw_no (fun t ht => by rw [old t (by omega)]; exact (n1 j hj hsz).2 t (by omega))
      have hg1 : bt (wr' (wk.toNat + 1)) j = true := by
        rw [hbt, e1 j hj, nis_m (by unfold mvs; rw [hb, Bool.or_true])]
        rfl
      rw [fw_s hg1, hno, if_pos rfl]
      omega
    | false =>
      rw [if_neg (by decide), hfo]
      cases hg : gst (s' j) with
      | false =>
        rw [hg] at hbt
        rw [fw_sf hbt, hfw]
      | true =>
        rw [hg] at hbt
        have was : gst (s j) = true := by
          rw [e1 j hj] at hg
          rcases nis_g hg with e | e
          · unfold mvs at e
            rw [hb, Bool.or_false] at e
            exact gwk_gs hW e
          · exact e
        have hne : fw wr' j (wk.toNat + 1) ≠ -1 := fw_ne (t := wk.toNat) (by
          rw [old wk.toNat (by omega), n3.2 j (by omega)]
          unfold gs
          rw [was, show inP P j = true from decide_eq_true hj]; rfl) (by omega)
        rw [fw_s hbt, if_neg hne, hfw]
  · by_cases c : t = (wk + 1).toNat
    · rw [c]
      refine ⟨e4.1, fun j hj hb => ?_⟩
      rw [e4.2 j hj] at hb
      unfold gs at hb
      rw [Bool.and_eq_true] at hb
      exact inP_t hb.1
    · rw [e5 t c]; exact n4 t (by omega)
def pwc (c k : Nat) : Bool := !(c == 8 || c == 16 || c == 17 || c == 18 || c == 28 || c == 47 || c == 48 || c == 49 || c == 50 || c == 59 || (c == 5 && (k == 4 || k == 6)) || (c == 15 && (k == 3 || k == 4)) || (c == 43 && (k == 7 || k == 8 || k == 32)))
def pwr (c : Nat) : Bool := !(c == 8 || c == 16 || c == 17 || c == 18 || c == 28 || c == 47 || c == 48 || c == 49 || c == 50 || c == 59 || c == 5 || c == 15 || c == 43)
theorem pwc_t {c k : Nat} (h : pwc c k = true) : (c ≠ 8 ∧ c ≠ 16 ∧ c ≠ 17 ∧ c ≠ 18 ∧ c ≠ 28 ∧ ¬ (c = 5 ∧ (k = 4 ∨ k = 6)) ∧ ¬ (c = 15 ∧ (k = 3 ∨ k = 4))) ∧ c ≠ 47 ∧ c ≠ 48 ∧ c ≠ 49 ∧ c ≠ 50 ∧ c ≠ 59 ∧ ¬ (c = 43 ∧ (k = 7 ∨ k = 8 ∨ k = 32)) := by
  unfold pwc at h
  simp only [Bool.not_eq_true', Bool.or_eq_false_iff, Bool.and_eq_false_iff, beq_eq_false_iff_ne] at h
  obtain ⟨⟨⟨⟨⟨⟨⟨⟨⟨⟨⟨⟨h1, h2⟩, h3⟩, h4⟩, h5⟩, h6⟩, h7⟩, h8⟩, h9⟩, ha⟩, hb⟩, hc⟩, hd⟩ := h
  refine ⟨⟨h1, h2, h3, h4, h5, fun ⟨e, hk⟩ => ?_, fun ⟨e, hk⟩ => ?_⟩, h6, h7, h8, h9, ha, fun ⟨e, hk⟩ => ?_⟩
  · rcases hb with e2 | e2
    · exact e2 e
    · rcases hk with hk | hk
      · exact e2.1 hk
      · exact e2.2 hk
  · rcases hc with e2 | e2
    · exact e2 e
    · rcases hk with hk | hk
      · exact e2.1 hk
      · exact e2.2 hk
  · rcases hd with e2 | e2
    · exact e2 e
    · rcases hk with hk | hk | hk
      · exact e2.1.1 hk
      · exact e2.1.2 hk
      · exact e2.2 hk
theorem pwr_t {c : Nat} (h : pwr c = true) (k : Nat) : pwc c k = true := by
  unfold pwr at h
  unfold pwc
  simp only [Bool.not_eq_true', Bool.or_eq_false_iff, beq_eq_false_iff_ne] at h
  obtain ⟨⟨⟨⟨⟨⟨⟨⟨⟨⟨⟨⟨h1, h2⟩, h3⟩, h4⟩, h5⟩, h6⟩, h7⟩, h8⟩, h9⟩, ha⟩, hb⟩, hc⟩, hd⟩ := h
  simp only [Bool.not_eq_true', Bool.or_eq_false_iff, Bool.and_eq_false_iff, beq_eq_false_iff_ne]
  exact ⟨⟨⟨⟨⟨⟨⟨⟨⟨⟨⟨⟨h1, h2⟩, h3⟩, h4⟩, h5⟩, h6⟩, h7⟩, h8⟩, h9⟩, ha⟩, Or.inl hb⟩, Or.inl hc⟩, Or.inl hd⟩
/-- A WEEK: both answer alike, and what both have in common stays so -/
theorem er_pass {a w : Wd} (h : ER a w) (hL : PLN a w) (h59 : a 43 8 ≤ 59) : ∀ r u r' a', f_E_pass w = some (r, u) → f_R_goWeek a = some (r', a') → r = r' ∧ ER a' u ∧ a' 43 7 = w32 (a 43 7 + r') ∧ a' 43 8 = a 43 8 + 1 := by
  intro r u r' a' hE hR
  obtain ⟨hF, hU, hC⟩ := h
  obtain ⟨fCO, fPP, fHB, fWH, fN, f16, fSN, fUB, fK1, fK2, fg, fs⟩ := hF
  obtain ⟨m, hm, hP, hW⟩ := hL
  have x0 : 0 ≤ a 43 0 ∧ a 43 0 ≤ 10 := hC.1
  have x3 : w 5 3 = a 43 0 := fCO.2.1
  have x7 : w 5 7 = a 43 10 := fCO.2.2.1.1
  have xg : 1 ≤ a 43 10 ∧ a 43 10 ≤ 3 := fg
  have xW : WH (w 5 4) (a 47) (a 43 0) := fWH
  have xp : ∀ j : Nat, (j : Int) < a 43 0 → w 6 j = a 44 j ∧ w 7 j = a 45 j ∧ w 8 j = a 48 j := fPP
  have x56 : w 5 6 = a 43 7 := fN.1
  have x15 : w 15 3 = a 43 8 := fN.2.1
  have x154 : w 15 4 = a 43 32 := fN.2.2
  have x44 : ∀ j, 0 ≤ a 44 j ∧ a 44 j ≤ 9 := hC.2.1
  have x6 : ∀ j, 0 ≤ w 6 j ∧ w 6 j ≤ 9 := hC.2.2.1
  have x8 : 0 ≤ a 43 8 ∧ a 43 8 ≤ 60 := hC.2.2.2.2.1
  have x32 : 0 ≤ a 43 32 ∧ a 43 32 ≤ a 43 8 := hC.2.2.2.2.2
  have x16 : ∀ t : Nat, (t : Int) ≤ a 43 8 → w 16 t = a 50 t := f16
  have xSN : SN (a 43 0) (a 47) (a 48) (a 49) (a 50) (a 43 8) := fSN
  obtain ⟨⟨p1, p2, p3⟩, p4, p5, p6, p7, p8, ⟨p9, pa, pb⟩, pc⟩ := pass_pc x0 x3 x7 xg xW hP hm hW (by omega) (by omega) x6 r u hE
  obtain ⟨⟨q1, q2, q3⟩, q4, q5, q6, q7, q8, q9, qa, qb, qc⟩ := goweek_pc x0 rfl ⟨x8.1, h59⟩ (by omega) hW.1 (fun i hi => by
    rcases hW.2 i hi with e | e
    · exact Or.inl e
    · exact Or.inr ⟨e.1, e.2.1⟩) xW.2.2 x44 r' a' hR
  have er : r = r' := by
    rw [p4, q4]
    refine sms_eq (fun j hj => ?_)
    rw [(xp j (by omega)).1]
  have hc : ∀ c k, pwc c k = true → mx u a' c k = mx w a c k := fun c k hk => by
    have := pwc_t hk
    unfold mx
    by_cases z : c < 43
    · rw [if_pos z, if_pos z, pc c k this.1.1 this.1.2.1 this.1.2.2.1 this.1.2.2.2.1 this.1.2.2.2.2.1 this.1.2.2.2.2.2.1 this.1.2.2.2.2.2.2]
    · rw [if_neg z, if_neg z, qc c k this.2.1 this.2.2.1 this.2.2.2.1 this.2.2.2.2.1 this.2.2.2.2.2.1 this.2.2.2.2.2.2]
  have hr : ∀ c, pwr c = true → mx u a' c = mx w a c := fun c hk => funext fun k => hc c k (pwr_t hk k)
  have r430 : a' 43 0 = a 43 0 := hc 43 0 (by decide)
  have r4310 : a' 43 10 = a 43 10 := hc 43 10 (by decide)
  have r4311 : a' 43 11 = a 43 11 := hc 43 11 (by decide)
  have r44 : a' 44 = a 44 := hr 44 (by decide)
  have r45 : a' 45 = a 45 := hr 45 (by decide)
  have r46 : a' 46 = a 46 := hr 46 (by decide)
  have r6 : u 6 = w 6 := hr 6 (by decide)
  have r7 : u 7 = w 7 := hr 7 (by decide)
  have r55 : u 5 5 = w 5 5 := hc 5 5 (by decide)
  have whu : WH (u 5 4) (a' 47) (a 43 0) := wh_eq p5 (fun k hk => (q5 k hk).symm)
  have e8p : (a 43 8 + 1).toNat = (a 43 8).toNat + 1 := by omega
  rw [x15] at p6 p7
  refine ⟨er, ⟨⟨?_, ?_, ?_, ?_, ?_, ?_, ?_, ?_, ?_, ?_, ?_, ?_⟩, ?_, ?_⟩, q3, q1⟩
  · exact co_fr fCO (fr_of pwc hc pwr hr (by decide) (by decide))
  · intro j hj
    have hj2 : (j : Int) < a 43 0 := by rw [← r430]; exact hj
    show u 6 j = a' 44 j ∧ u 7 j = a' 45 j ∧ u 8 j = a' 48 j
    rw [r6, r44, r7, r45, p8 j hj2, (q6 j).1, (xp j hj2).2.2]
    exact ⟨(xp j hj2).1, (xp j hj2).2.1, rfl⟩
  · show B10 (u 5 5) (hB (a' 43 0) (a' 46))
    rw [r55, r430, r46]; exact fHB
  · show WH (u 5 4) (a' 47) (a' 43 0)
    rw [r430]; exact whu
  · show u 5 6 = a' 43 7 ∧ u 15 3 = a' 43 8 ∧ u 15 4 = a' 43 32
    rw [p1, p2, p3, q1, q2, q3, x56, x15, x154, er]
    exact ⟨rfl, rfl, rfl⟩
  · intro t ht
    have ht2 : (t : Int) ≤ a 43 8 + 1 := by rw [← q1]; exact ht
    show u 16 t = a' 50 t
    by_cases c : t = (a 43 8 + 1).toNat
    · rw [c]
      refine b10_eq p6 q7 (fun k _ => ?_)
      exact gs_eq (fun j hj => (q5 j hj).symm) k
    · rw [p7 t c, q8 t c]; exact x16 t (by omega)
  · show SN (a' 43 0) (a' 47) (a' 48) (a' 49) (a' 50) (a' 43 8)
    rw [r430, q1]
    exact sn_week xSN x8.1 x0.2 xW.2.2 hW q5 (fun j _ => (q6 j).1) (fun j _ => (q6 j).2) q7 q8
  · intro t ht
    have ht2 : (t : Int) < a 43 32 + 1 := by rw [← q2]; exact ht
    have ek : (wki (mx u a') t).toNat = (a 43 8 - a 43 32 + t).toNat := by
      show (a' 43 8 - a' 43 32 + t).toNat = _
      rw [q1, q2]; congr 1; omega
    have ek2 : wki (mx u a') t = a 43 8 - a 43 32 + t := by
      show a' 43 8 - a' 43 32 + t = _
      rw [q1, q2]; omega
    rw [ek, ek2]
    show WH (u 17 (a 43 8 - a 43 32 + t).toNat) (fun j => a' 59 (31 * t + 3 * j)) (a' 43 0) ∧ u 18 (a 43 8 - a 43 32 + t).toNat = a' 59 (31 * t + 30) ∧ SN (a' 43 0) (fun j => a' 59 (31 * t + 3 * j)) (fun j => a' 59 (31 * t + 3 * j + 1)) (fun j => a' 59 (31 * t + 3 * j + 2)) (a' 50) (a 43 8 - a 43 32 + t) ∧ (∀ j : Nat, (j : Int) < a' 43 0 → a' 59 (31 * t + 3 * j) ≠ 0 → a' 59 (31 * t + 3 * j + 1) = a' 48 j ∧ a' 47 j ≠ 0) ∧ ∀ t2 : Nat, t ≤ t2 → (t2 : Int) < a' 43 32 → ∀ j : Nat, (j : Int) < a' 43 0 → a' 59 (31 * t + 3 * j) ≠ 0 → a' 59 (31 * t2 + 3 * j) ≠ 0
    rw [r430, q2]
    have old50 : ∀ s : Nat, (s : Int) ≤ a 43 8 → a 50 s = a' 50 s := fun s hs => (q8 s (by omega)).symm
    have now : ∀ j : Nat, (j : Int) < a 43 0 → a 47 j ≠ 0 → a 48 j = a' 48 j ∧ a' 47 j ≠ 0 := fun j hj hn => by
      refine ⟨?_, ?_⟩
      · rw [(q6 j).1]
        have : brn (a 58) (a 43 0).toNat j = false := by
          cases c : brn (a 58) (a 43 0).toNat j with
          | false => rfl
          | true => exact absurd (brn_sr hW c).2.1 hn
        rw [this, if_neg (by decide)]
      · rw [q5 j hj]; exact nis_n (xW.2.2 j hj).1 hn
    by_cases c : t = (a 43 32).toNat
    · have ew : (a 43 8 - a 43 32 + t).toNat = (w 15 3).toNat := by rw [x15]; congr 1; omega
      have ew2 : a 43 8 - a 43 32 + t = a 43 8 := by omega
      have row : ∀ j : Nat, (j : Int) < a 43 0 → a' 59 (31 * t + 3 * j) = a 47 j ∧ a' 59 (31 * t + 3 * j + 1) = a 48 j ∧ a' 59 (31 * t + 3 * j + 2) = a 49 j := fun j hj => by rw [c]; exact q9 j (by omega)
      rw [ew, p9, pa, ew2]
      refine ⟨wh_eq xW (fun k hk => (row k hk).1.symm), ?_, ?_, fun j hj hn => ?_, fun t2 h1 h2 j hj hn => ?_⟩
      · rw [c, qa]; exact x56
      · exact sn_eq xSN x8.1 (fun j hj => ⟨(row j hj).1.symm, (row j hj).2.1.symm, (row j hj).2.2.symm⟩) old50
      · rw [(row j hj).1] at hn
        rw [(row j hj).2.1]
        exact now j hj hn
      · rw [show t2 = t by omega]; exact hn
    · have ht3 : (t : Int) < a 43 32 := by omega
      obtain ⟨u1, u2, u3, u4, u5⟩ := fUB t ht3
      have v1 : WH (w 17 (a 43 8 - a 43 32 + t).toNat) (fun j => a 59 (31 * t + 3 * j)) (a 43 0) := u1
      have v2 : w 18 (a 43 8 - a 43 32 + t).toNat = a 59 (31 * t + 30) := u2
      have v3 : SN (a 43 0) (fun j => a 59 (31 * t + 3 * j)) (fun j => a 59 (31 * t + 3 * j + 1)) (fun j => a 59 (31 * t + 3 * j + 2)) (a 50) (a 43 8 - a 43 32 + t) := u3
      have v4 : ∀ j : Nat, (j : Int) < a 43 0 → a 59 (31 * t + 3 * j) ≠ 0 → a 59 (31 * t + 3 * j + 1) = a 48 j ∧ a 47 j ≠ 0 := u4
      have v5 : ∀ t2 : Nat, t ≤ t2 → (t2 : Int) < a 43 32 → ∀ j : Nat, (j : Int) < a 43 0 → a 59 (31 * t + 3 * j) ≠ 0 → a 59 (31 * t2 + 3 * j) ≠ 0 := u5
      have lo : ∀ i, i ≤ 30 → a' 59 (31 * t + i) = a 59 (31 * t + i) := fun i hi => qb _ (by omega)
      have row : ∀ j : Nat, (j : Int) < a 43 0 → a' 59 (31 * t + 3 * j) = a 59 (31 * t + 3 * j) ∧ a' 59 (31 * t + 3 * j + 1) = a 59 (31 * t + 3 * j + 1) ∧ a' 59 (31 * t + 3 * j + 2) = a 59 (31 * t + 3 * j + 2) := fun j hj => ⟨qb _ (by omega), qb _ (by omega), qb _ (by omega)⟩
      have nw := pb (a 43 8 - a 43 32 + t).toNat (by rw [x15]; omega)
      rw [nw.1, nw.2, lo 30 (by omega)]
      refine ⟨wh_eq v1 (fun k hk => (row k hk).1.symm), v2, ?_, fun j hj hn => ?_, fun t2 h1 h2 j hj hn => ?_⟩
      · exact sn_eq v3 (by omega) (fun j hj => ⟨(row j hj).1.symm, (row j hj).2.1.symm, (row j hj).2.2.symm⟩) (fun s hs => old50 s (by omega))
      · rw [(row j hj).1] at hn
        rw [(row j hj).2.1]
        obtain ⟨z1, z2⟩ := v4 j hj hn
        obtain ⟨z3, z4⟩ := now j hj z2
        exact ⟨z1.trans z3, z4⟩
      · rw [(row j hj).1] at hn
        by_cases c2 : t2 = (a 43 32).toNat
        · rw [c2, (q9 j (by omega)).1]
          exact (v4 j hj hn).2
        · rw [qb (31 * t2 + 3 * j) (by omega)]
          exact v5 t2 h1 (by omega) j hj hn
  · exact kbf_ag fK1 (fr_of pwc hc pwr hr (by decide) (by decide))
  · exact kbf_ag fK2 (fr_of pwc hc pwr hr (by decide) (by decide))
  · show 1 ≤ a' 43 10 ∧ a' 43 10 ≤ 3
    rw [r4310]; exact fg
  · show 1 ≤ a' 43 11 ∧ a' 43 11 ≤ 10
    rw [r4311]; exact fs
  · exact ru_fr hU (fr_of pwc hc pwr hr (by decide) (by decide))
  · refine ⟨?_, ?_, ?_, ?_, ?_, ?_⟩
    · show 0 ≤ a' 43 0 ∧ a' 43 0 ≤ 10
      rw [r430]; exact x0
    · show ∀ j, 0 ≤ a' 44 j ∧ a' 44 j ≤ 9
      rw [r44]; exact x44
    · show ∀ j, 0 ≤ u 6 j ∧ u 6 j ≤ 9
      rw [r6]; exact x6
    · show ∀ j : Nat, (j : Int) < a' 43 0 → 0 ≤ a' 45 j ∧ a' 45 j ≤ 1023
      rw [r430, r45]; exact hC.2.2.2.1
    · show 0 ≤ a' 43 8 ∧ a' 43 8 ≤ 60
      rw [q1]; omega
    · show 0 ≤ a' 43 32 ∧ a' 43 32 ≤ a' 43 8
      rw [q1, q2]; omega
/-! WEEKS: both answer alike -/
def tcc (c k : Nat) : Bool := !(c == 3 || c == 4 || c == 52 || (c == 43 && (k == 15 || k == 16)))
def tcr (c : Nat) : Bool := !(c == 3 || c == 4 || c == 52 || c == 43)
theorem tcc_t {c k : Nat} (h : tcc c k = true) : (c ≠ 3 ∧ c ≠ 4) ∧ c ≠ 52 ∧ ¬ (c = 43 ∧ (k = 15 ∨ k = 16)) := by
  unfold tcc at h
  simp only [Bool.not_eq_true', Bool.or_eq_false_iff, Bool.and_eq_false_iff, beq_eq_false_iff_ne] at h
  obtain ⟨⟨⟨h1, h2⟩, h3⟩, h4⟩ := h
  refine ⟨⟨h1, h2⟩, h3, fun ⟨e, hk⟩ => ?_⟩
  rcases h4 with e2 | e2
  · exact e2 e
  · rcases hk with hk | hk
    · exact e2.1 hk
    · exact e2.2 hk
theorem tcr_t {c : Nat} (h : tcr c = true) (k : Nat) : tcc c k = true := by
  unfold tcr at h
  unfold tcc
  simp only [Bool.not_eq_true', Bool.or_eq_false_iff, beq_eq_false_iff_ne] at h
  obtain ⟨⟨⟨h1, h2⟩, h3⟩, h4⟩ := h
  simp only [Bool.not_eq_true', Bool.or_eq_false_iff, Bool.and_eq_false_iff, beq_eq_false_iff_ne]
  exact ⟨⟨⟨h1, h2⟩, h3⟩, Or.inl h4⟩
theorem er_tell {a w a' u : Wd} (h : ER a w) (hE : ∀ c, c ≠ 3 → c ≠ 4 → u c = w c) (hR : ∀ c k, c ≠ 52 → ¬ (c = 43 ∧ (k = 15 ∨ k = 16)) → a' c k = a c k) : ER a' u := by
  have hc : ∀ c k, tcc c k = true → mx u a' c k = mx w a c k := fun c k hk => by
    have := tcc_t hk
    unfold mx
    by_cases z : c < 43
    · rw [if_pos z, if_pos z, hE c this.1.1 this.1.2]
    · rw [if_neg z, if_neg z, hR c k this.2.1 this.2.2]
  have hr : ∀ c, tcr c = true → mx u a' c = mx w a c := fun c hk => funext fun k => hc c k (tcr_t hk k)
  exact ⟨fc_fr h.1 (fr_of tcc hc tcr hr (by decide) (by decide)), ru_fr h.2.1 (fr_of tcc hc tcr hr (by decide) (by decide)), cb_fr h.2.2 (fr_of tcc hc tcr hr (by decide) (by decide))⟩
theorem pc_eq (o : Option (Int × Wd)) : PC o (fun r u => o = some (r, u)) := fun _ _ e => e
/-- nothing of the reference's part is changed, nothing of the class's -/
theorem g_hi {S : List Nat} {b u : Wd} (h : G S b u) (hS : (S.all fun x => Nat.blt x 4300) = true) : ∀ c, 43 ≤ c → u c = b c := by
  intro c hc
  funext k
  refine h.2.1 c k (mS_ar ?_ k)
  rw [List.all_eq_true]
  intro x hx
  have := List.all_eq_true.mp hS x hx
  have h2 : x < 4300 := Nat.le_of_ble_eq_true this
  rw [Bool.or_eq_true]
  exact Or.inl (Nat.ble_eq_true_of_le (by omega))
theorem g_lo {S : List Nat} {b u : Wd} (h : G S b u) (hS : (S.all fun x => Nat.blt 4299 x) = true) : ∀ c, c < 43 → u c = b c := by
  intro c hc
  funext k
  refine h.2.1 c k (mS_ar ?_ k)
  rw [List.all_eq_true]
  intro x hx
  have := List.all_eq_true.mp hS x hx
  have h2 : 4299 < x := Nat.le_of_ble_eq_true this
  rw [Bool.or_eq_true]
  exact Or.inr (Nat.ble_eq_true_of_le (by omega))
theorem mx_e {w u : Wd} (h : ∀ c, 43 ≤ c → u c = w c) : mx w u = w := by
  funext c
  unfold mx
  by_cases z : c < 43
  · rw [if_pos z]
  · rw [if_neg z, h c (by omega)]
theorem mx_r {w u : Wd} (h : ∀ c, c < 43 → u c = w c) : mx w u = u := by
  funext c
  unfold mx
  by_cases z : c < 43
  · rw [if_pos z, h c z]
  · rw [if_neg z]
theorem rs_cb {w : Wd} (h : RS w) : CBd w := by
  have k := rs_kn h
  refine ⟨h.1.1 43 0, fun j => h.1.1 44 j, fun j => h.1.1 6 j, fun j hj => ?_, h.1.1 43 8, (h.1.1 43 32).1, h.2.1.2.2.2.2⟩
  exact h.1.1 45 j
def LU (w : Wd) : Prop := LF w ∧ RU w
theorem lu_er {w u : Wd} (h : LU w) (hR : ∀ c, 43 ≤ c → u c = w c) : ER u w := by
  unfold ER
  rw [mx_e hR]
  exact ⟨h.1.2, h.2, rs_cb h.1.1⟩
theorem er_lu {w u : Wd} (h : ER u w) (hE : ∀ c, c < 43 → u c = w c) (hS : RS u) : LU u := by
  unfold ER at h
  rw [mx_r hE] at h
  exact ⟨⟨hS, h.1⟩, h.2.1⟩
/-- who is there: the same for both -/
theorem er_gs {a w : Wd} (h : ER a w) : PC (f_F_guests w) (fun r u => u = w ∧ PC (f_R_guests a) (fun r' u' => u' = a ∧ r = r' ∧ B10 r (gs (a 43 0) (a 47)))) := by
  have xW : WH (w 5 4) (a 47) (a 43 0) := h.1.2.2.2.1
  refine pc_w (eg_e xW) (fun r u q => ⟨q.1, ?_⟩)
  exact pc_w (rg_e h.2.2.1) (fun r' u' q' => ⟨q'.1, b10_eq q.2 q'.2 (fun _ _ => rfl), q.2⟩)
theorem nt2 (r v : Int) (w : Wd) : PC (f_N_tell2 r v w) (fun _ u => ∀ c, c ≠ 3 → c ≠ 4 → u c = w c) := by
  have put1 : ∀ (x : Int) (w : Wd), PC (f_N_put x w) (fun _ u => ∀ c, c ≠ 3 → c ≠ 4 → u c = w c) := fun x w => by
    unfold f_N_put
    refine pc_ite (fun _ => pc_some (fun _ _ _ => rfl)) (fun _ => pc_gd (fun _ => pc_lw (fun u1 e1 => pc_lw (fun u2 e2 => pc_some (fun c h3 h4 => by rw [e2, st_row h3, e1, st_row h4])))))
  unfold f_N_tell2 f_N_tell1 f_N_clear
  refine pc_call (P := fun _ u => ∀ c, c ≠ 3 → c ≠ 4 → u c = w c) ?_ (fun r1 u2 q => ?_)
  · refine pc_call (P := fun _ u => ∀ c, c ≠ 3 → c ≠ 4 → u c = w c) (pc_lw (fun u1 e1 => pc_some (fun c h3 _ => by rw [e1, st_row h3]))) (fun r1 u2 q => ?_)
    refine pc_call (put1 r u2) (fun r3 u4 q2 => pc_some (fun c h3 h4 => (q2 c h3 h4).trans (q c h3 h4)))
  · refine pc_call (put1 v u2) (fun r3 u4 q2 => pc_some (fun c h3 h4 => (q2 c h3 h4).trans (q c h3 h4)))
theorem rt1 (v : Int) (w : Wd) : PC (f_R_tell v w) (fun _ u => ∀ c k, c ≠ 52 → ¬ (c = 43 ∧ (k = 15 ∨ k = 16)) → u c k = w c k) := by
  unfold f_R_tell
  refine pc_gd (fun _ => pc_lw (fun u1 e1 => pc_lw (fun u2 e2 => pc_some (fun c k h52 h => ?_))))
  rw [e2]; unfold st; rw [if_neg (by omega), e1]; unfold st; rw [if_neg (fun e => h52 e.1)]
theorem goes_end {a w : Wd} {k v3 v2 : Int} (h : ER a w) : PC (f_E_goes_75 k v3 w) (fun r u => PC (f_R_goes_60 v2 k a) (fun r' a' => r = r' ∧ ER a' u)) := by
  unfold f_E_goes_75
  refine pc_call (er_gs h) (fun r3 u4 q => ?_)
  rw [q.1]
  refine pc_call (nt2 r3 v3 w) (fun r5 u6 y => pc_some ?_)
  unfold f_R_goes_60
  refine pc_lw (fun u5 e5 => ?_)
  have o5 : ∀ c k, c ≠ 52 → ¬ (c = 43 ∧ (k = 15 ∨ k = 16)) → u5 c k = a c k := fun c k _ hk => by
    rw [e5]; unfold st; rw [if_neg (by omega)]
  refine pc_call (rg_e (w := u5) (by rw [o5 43 0 (by decide) (by decide)]; exact h.2.2.1)) (fun r6 u7 z => ?_)
  rw [z.1]
  refine pc_call (rt1 r6 u5) (fun r8 u9 z2 => ?_)
  refine pc_call (rt1 _ u9) (fun r10 u11 z3 => pc_some ⟨rfl, ?_⟩)
  exact er_tell h y (fun c k h52 hk => (z3 c k h52 hk).trans ((z2 c k h52 hk).trans (o5 c k h52 hk)))
theorem goes_2 {v1 V : Int} (hv : v1 ≤ 60) : ∀ (n m : Nat) {w a : Wd} {k v3 : Int}, ER a w → v3 = w32 (a 43 7 - V) → 0 ≤ k → PC (f_E_goes_13 n v1 k v3 w) (fun r u => PC (f_R_goes_24 m v1 V k a) (fun r' a' => r = r' ∧ ER a' u)) := by
  intro n
  induction n with
  | zero => intros; exact pc_none
  | succ n ih =>
    intro m w a k v3 h e3 h0
    have x15 : w 15 3 = a 43 8 := h.1.2.2.2.2.1.2.1
    have x8 : 0 ≤ a 43 8 ∧ a 43 8 ≤ 60 := h.2.2.2.2.2.2.1
    cases m with
    | zero =>
      intro r u _
      exact pc_none
    | succ m =>
      rw [f_E_goes_13, f_R_goes_24, x15]
      refine pc_ite (fun z => ?_) (fun z => ?_)
      · refine pc_w (goes_end (v2 := V) h) (fun r u q => ?_)
        exact pc_ite (fun _ => q) (fun z2 => absurd z z2)
      refine pc_ite (fun z1 => ?_) (fun z1 => ?_)
      · refine pc_w (goes_end (v2 := V) h) (fun r u q => ?_)
        refine pc_ite (fun z2 => absurd z2 z) (fun _ => ?_)
        exact pc_ite (fun _ => q) (fun z2 => absurd z1 z2)
      refine pc_call (er_gs h) (fun r7 u8 q => ?_)
      rw [q.1]
      have hin : ∀ {Q : Int → Wd → Prop}, (r7 = 0 → PC (f_R_goes_60 V k a) Q) → (r7 ≠ 0 → PC (jcall (f_R_findChoices a) fun r14 u15 => jcall (f_R_goWeek u15) fun r16 u17 => jlet (w32 (k + 1)) fun x18 => f_R_goes_24 m v1 V x18 u17) Q) → PC (if v1 ≤ k then f_R_goes_60 V k a else if (60 : Int) ≤ (a 43 8) then f_R_goes_60 V k a else jcall (f_R_guests a) fun r12 u13 => if r12 = 0 then f_R_goes_60 V k u13 else jcall (f_R_findChoices u13) fun r14 u15 => jcall (f_R_goWeek u15) fun r16 u17 => jlet (w32 (k + 1)) fun x18 => f_R_goes_24 m v1 V x18 u17) Q := by
        intro Q q1 q2
        refine pc_ite (fun z2 => absurd z2 z) (fun _ => ?_)
        refine pc_ite (fun z2 => absurd z2 z1) (fun _ => ?_)
        refine pc_call q.2 (fun r12 u13 y => ?_)
        rw [y.1, ← y.2.1]
        exact pc_ite q1 q2
      refine pc_ite (fun z2 => ?_) (fun z2 => ?_)
      · refine pc_w (goes_end (v2 := V) h) (fun r u q3 => ?_)
        exact hin (fun _ => q3) (fun c => absurd z2 c)
      · refine pc_call (pc_eq (f_P_follow (w 15 3) w)) (fun r9 u10 eF => ?_)
        refine pc_call (pc_eq (f_E_pass u10)) (fun r11 u12 eP => ?_)
        refine pc_let (fun x13 e13 => ?_)
        refine pc_let (fun x14 e14 => ?_)
        intro r u eL
        refine hin (fun c => absurd c z2) (fun _ => ?_)
        refine pc_call (pc_eq (f_R_findChoices a)) (fun r14 u15 eC => ?_)
        refine pc_call (pc_eq (f_R_goWeek u15)) (fun r16 u17 eG => ?_)
        refine pc_let (fun x18 e18 => ?_)
        obtain ⟨hp1, hp2, hp3, _⟩ := er_plan h _ _ _ _ eF eC
        have g8 : u15 43 8 = a 43 8 := hp3 43 8 (by decide) (by decide)
        have g7 : u15 43 7 = a 43 7 := hp3 43 7 (by decide) (by decide)
        obtain ⟨er, hq1, hq2, hq3⟩ := er_pass hp1 hp2 (by omega) _ _ _ _ eP eG
        have ek : w32 (k + 1) = k + 1 := w32_id (by omega)
        rw [ek] at e14 e18
        rw [e18]
        rw [e14] at eL
        refine ih m hq1 ?_ (by omega) r u eL
        rw [e13, e3, hq2, g7, er, w32_w]
        have := w32_w (a 43 7 + r16) (-V)
        rw [show w32 (a 43 7 + r16) - V = w32 (a 43 7 + r16) + -V by omega, this]
        congr 1
        omega
theorem k_goes {w : Wd} {v1 : Int} (h : LU w) (i_v1 : ((-2147483648 : Int) ≤ v1 ∧ v1 ≤ 2147483647)) : OK (f_E_goes v1 w) (fun r1 u1 => OK (f_R_goes v1 u1) (fun r2 u2 => LU u2 ∧ r1 = r2)) := by
  obtain ⟨r1, u1, eE, g1, s1⟩ := e_E_goes h.1.1 i_v1
  refine ⟨r1, u1, eE, ?_⟩
  obtain ⟨r2, u2, eR, g2, s2, _⟩ := e_R_goes s1 i_v1
  refine ⟨r2, u2, eR, ?_⟩
  have h1 := lu_er h (g_hi g1 (by decide))
  have key : PC (f_E_goes v1 w) (fun r u => PC (f_R_goes v1 u1) (fun r' a' => r = r' ∧ ER a' u)) := by
    unfold f_E_goes f_R_goes
    have hst : ER (st u1 43 16 0) w := er_tell h1 (fun _ _ _ => rfl) (fun c k _ hk => by unfold st; rw [if_neg (by omega)])
    unfold f_E_isWeek f_R_in
    by_cases c1 : v1 < 0
    · rw [if_pos c1, jc_s, if_pos rfl]
      refine pc_some (pc_lw (fun y1 ey => ?_))
      rw [if_pos c1, jc_s, if_pos rfl, ey]
      exact pc_some ⟨rfl, hst⟩
    · rw [if_neg c1]
      by_cases c2 : 60 < v1
      · rw [if_pos c2, jc_s, if_pos rfl]
        refine pc_some (pc_lw (fun y1 ey => ?_))
        rw [if_neg c1, if_pos c2, jc_s, if_pos rfl, ey]
        exact pc_some ⟨rfl, hst⟩
      · rw [if_neg c2, jc_s, if_neg (by decide)]
        refine pc_w (goes_2 (v1 := v1) (V := u1 43 7) (by omega) FU FU (k := 0) (v3 := 0) hst ?_ (by decide)) (fun r u q => ?_)
        · show (0 : Int) = w32 (u1 43 7 - u1 43 7)
          rw [show u1 43 7 - u1 43 7 = 0 by omega]
          exact (w32_id (by decide)).symm
        · refine pc_lw (fun y1 ey => ?_)
          rw [if_neg c1, if_neg c2, jc_s, if_neg (by decide), ey]
          refine pc_let (fun x4 e4 => ?_)
          rw [e4]
          exact q
  obtain ⟨er, hf⟩ := key r1 u1 eE r2 u2 eR
  exact ⟨er_lu hf (g_lo g2 (by decide)) s2, er⟩
/-! ONE's choice -/
theorem who_pc {P v1 : Int} {bg : Nat → Int} {m : Nat} {w : Wd} (hL : PLm P bg m w) (hm : m ≤ 10) (hv : 0 ≤ v1 ∧ v1 < P) : ∀ (n : Nat) {v2 : Int}, 0 ≤ v2 → v2 ≤ m → (∀ i : Nat, (i : Int) < v2 → w 13 i ≠ v1) → PC (f_P_whom_2 n v1 v2 w) (fun r u => u = w ∧ r = bg v1.toNat) := by
  intro n
  induction n with
  | zero => intros; exact pc_none
  | succ n ih =>
    intro v2 i0 i1 hn
    rw [f_P_whom_2, hL.1]
    refine pc_ite (fun z => pc_some ⟨rfl, ?_⟩) (fun z => ?_)
    · by_cases c : bg v1.toNat = -1
      · exact c.symm
      · obtain ⟨i, hi, e⟩ := hL.2.2.2.1 v1.toNat (by omega) c
        exact absurd (by omega) (hn i (by omega))
    · refine pc_gd (fun _ => ?_)
      refine pc_ite (fun e => ?_) (fun e => ?_)
      · refine pc_gd (fun _ => pc_some ⟨rfl, ?_⟩)
        have := (hL.2.2.1 v2.toNat (by omega)).2.2
        rw [e] at this
        exact this.symm
      · refine pc_let (fun x1 e1 => ?_)
        rw [wsucc (P := 10) (by omega) (by omega)] at e1
        rw [e1]
        refine ih (by omega) (by omega) (fun i hi => ?_)
        by_cases c : i = v2.toNat
        · rw [c]; exact e
        · exact hn i (by omega)
theorem k_picks {w : Wd} {v1 : Int} (h : LU w) (i_v1 : ((-2147483648 : Int) ≤ v1 ∧ v1 ≤ 2147483647)) : OK (f_E_picks v1 w) (fun r1 u1 => OK (f_R_picks v1 u1) (fun r2 u2 => LU u2 ∧ r1 = r2)) := by
  obtain ⟨r1, u1, eE, g1, s1⟩ := e_E_picks h.1.1 i_v1
  refine ⟨r1, u1, eE, ?_⟩
  obtain ⟨r2, u2, eR, g2, s2⟩ := e_R_picks s1 i_v1
  refine ⟨r2, u2, eR, ?_⟩
  have h1 := lu_er h (g_hi g1 (by decide))
  have hst : ER (st u1 43 16 0) w := er_tell h1 (fun _ _ _ => rfl) (fun c k _ hk => by unfold st; rw [if_neg (by omega)])
  have x0 : 0 ≤ st u1 43 16 0 43 0 ∧ st u1 43 16 0 43 0 ≤ 10 := hst.2.2.1
  have key : PC (f_E_picks v1 w) (fun r u => PC (f_R_picks v1 u1) (fun r' a' => r = r' ∧ ER a' u)) := by
    unfold f_E_picks f_R_picks
    have xW : WH (w 5 4) (st u1 43 16 0 47) (st u1 43 16 0 43 0) := hst.1.2.2.2.1
    -- the reference finds no GUEST
    have no : ¬ (0 ≤ v1 ∧ v1 < st u1 43 16 0 43 0 ∧ gst (st u1 43 16 0 47 v1.toNat) = true) → PC (jlw (st u1 43 16 0) fun u1 => jcall (f_R_isOne v1 u1) fun r2 u3 => if r2 = 0 then some ((-1), u3) else jgd ((0 : Int) ≤ v1 ∧ v1 < 10) <| jcall (f_R_isGuest (u3 47 v1.toNat) u3) fun r4 u5 => if r4 = 0 then some ((-1), u5) else jcall (f_R_findChoices u5) fun r6 u7 => jgd ((0 : Int) ≤ v1 ∧ v1 < 10) <| if (u7 58 v1.toNat) = (-1) then some ((-2), u7) else jgd ((0 : Int) ≤ v1 ∧ v1 < 10) <| some (u7 58 v1.toNat, u7)) (fun r' a' => -1 = r' ∧ ER a' w) := fun hn => by
      refine pc_lw (fun y1 ey => ?_)
      rw [ey]
      refine pc_call (io_pc v1 (st u1 43 16 0) x0) (fun q3 q4 z => ?_)
      rw [z.1, z.2]
      unfold hd
      by_cases c : 0 ≤ v1 ∧ v1 < st u1 43 16 0 43 0
      · rw [if_pos c]
        refine pc_ite (fun e => absurd e (by decide)) (fun _ => ?_)
        refine pc_gd (fun _ => ?_)
        rw [isG_e, jc_s]
        cases hb : gst (st u1 43 16 0 47 v1.toNat) with
        | true => exact absurd ⟨c.1, c.2, hb⟩ hn
        | false =>
          refine pc_ite (fun _ => pc_some ⟨rfl, hst⟩) (fun e => absurd rfl e)
      · rw [if_neg c]
        exact pc_ite (fun _ => pc_some ⟨rfl, hst⟩) (fun e => absurd rfl e)
    refine pc_call (eg_e xW) (fun q1 q2 y => ?_)
    rw [y.1]
    by_cases c0 : 0 ≤ v1 ∧ v1 < st u1 43 16 0 43 0 ∧ gst (st u1 43 16 0 47 v1.toNat) = true
    · have hin : inP (st u1 43 16 0 43 0) v1.toNat = true := decide_eq_true (by omega)
      rw [has_10 w y.2 (by omega), show gs (st u1 43 16 0 43 0) (st u1 43 16 0 47) v1.toNat = true from by unfold gs; rw [hin, c0.2.2]; rfl, jc_s]
      refine pc_ite (fun e => absurd e (by decide)) (fun _ => ?_)
      refine pc_call (pc_eq (f_P_follow (w 15 3) w)) (fun q3 q4 eF => ?_)
      intro r u eL
      refine pc_lw (fun y1 ey => ?_)
      rw [ey]
      refine pc_call (io_pc v1 (st u1 43 16 0) x0) (fun q5 q6 z => ?_)
      rw [z.1, z.2, show hd (st u1 43 16 0 43 0) v1 = 1 from if_pos ⟨c0.1, c0.2.1⟩]
      refine pc_ite (fun e => absurd e (by decide)) (fun _ => ?_)
      refine pc_gd (fun _ => ?_)
      rw [isG_e, c0.2.2, jc_s]
      refine pc_ite (fun e => absurd e (by decide)) (fun _ => ?_)
      refine pc_call (pc_eq (f_R_findChoices (st u1 43 16 0))) (fun q7 q8 eC => ?_)
      obtain ⟨p1, ⟨m, p2, p3, p4⟩, p5, _⟩ := er_plan hst _ _ _ _ eF eC
      have e0 : q8 43 0 = st u1 43 16 0 43 0 := p5 43 0 (by decide) (by decide)
      have hw : PC (f_P_whom v1 q4) (fun r u => u = q4 ∧ r = q8 58 v1.toNat) := by
        unfold f_P_whom
        exact who_pc p3 p2 (by rw [e0]; exact ⟨c0.1, c0.2.1⟩) FU (by decide) (by omega) (fun i hi => by omega)
      have := pc_call (Q := fun r u => u = q4 ∧ r = if q8 58 v1.toNat = -1 then -2 else q8 58 v1.toNat) hw (fun a1 a2 a3 => by
        rw [a3.1, a3.2]
        by_cases cc : q8 58 v1.toNat = -1
        · rw [if_pos cc, if_pos cc]; exact pc_some ⟨rfl, rfl⟩
        · rw [if_neg cc, if_neg cc]; exact pc_some ⟨rfl, rfl⟩) r u eL
      rw [this.1, this.2]
      refine pc_gd (fun _ => ?_)
      by_cases cc : q8 58 v1.toNat = -1
      · rw [if_pos cc, if_pos cc]; exact pc_some ⟨rfl, p1⟩
      · rw [if_neg cc, if_neg cc]
        exact pc_gd (fun _ => pc_some ⟨rfl, p1⟩)
    · have hz : f_E_has q1 v1 w = some (0, w) := by
        by_cases c1 : 0 ≤ v1 ∧ v1 < 10
        · rw [has_10 w y.2 c1]
          have : gs (st u1 43 16 0 43 0) (st u1 43 16 0 47) v1.toNat = false := by
            cases cg : gs (st u1 43 16 0 43 0) (st u1 43 16 0 47) v1.toNat with
            | false => rfl
            | true =>
              unfold gs at cg
              rw [Bool.and_eq_true] at cg
              have := inP_t cg.1
              exact absurd ⟨c1.1, by omega, cg.2⟩ c0
          rw [this]; rfl
        · exact has_o w c1
      rw [hz, jc_s, if_pos rfl]
      exact pc_some (no c0)
  obtain ⟨er, hf⟩ := key r1 u1 eE r2 u2 eR
  exact ⟨er_lu hf (g_lo g2 (by decide)) s2, er⟩
/-! A WEEK READ: the class -/
def LT (s : Int → Int) (p : Int) : Prop := 97 ≤ s p ∧ s p < 107
def mvb (A B : Nat → Int) : Nat → Nat → Bool
  | 0, _ => false
  | i + 1, k => mvb A B i k || (decide (k = (A i).toNat) || decide (k = (B i).toNat))
theorem mvb_eq {A B A2 B2 : Nat → Int} {k : Nat} : ∀ {n : Nat}, (∀ j, j < n → A j = A2 j ∧ B j = B2 j) → mvb A B n k = mvb A2 B2 n k := by
  intro n
  induction n with
  | zero => intro _; rfl
  | succ n ih => intro h; rw [mvb, mvb, ih (fun j hj => h j (by omega)), (h n (by omega)).1, (h n (by omega)).2]
def ADq (i : Nat) (a q : Int) (w u : Wd) : Prop := u 12 2 = (i : Int) + 1 ∧ u 12 3 = ior (w 12 3) (ior (ishl 1 a) (ishl 1 q)) ∧ u 13 i = a ∧ u 14 i = q ∧ (∀ j, j < i → u 13 j = w 13 j ∧ u 14 j = w 14 j) ∧ ∀ d, d ≠ 12 → d ≠ 13 → d ≠ 14 → u d = w d
theorem padd_pc {i : Nat} {a q : Int} {w : Wd} (h : w 12 2 = i) (hi : i < 10) : PC (f_P_add a q w) (fun _ u => ADq i a q w u) := by
  unfold f_P_add
  rw [h, show ((i : Int)).toNat = i from rfl]
  refine pc_ite (fun z => by omega) (fun _ => ?_)
  refine pc_gd (fun _ => ?_)
  refine pc_lw (fun u2 e2 => ?_)
  have a2 : u2 12 2 = (i : Int) := by rw [e2, st_c (by decide)]; exact h
  rw [a2, show ((i : Int)).toNat = i from rfl]
  refine pc_gd (fun _ => ?_)
  refine pc_lw (fun u3 e3 => ?_)
  have a3 : u3 12 2 = (i : Int) := by rw [e3, st_c (by decide)]; exact a2
  rw [a3]
  refine pc_lw (fun u4 e4 => ?_)
  unfold f_P_add_39
  refine pc_lw (fun u5 e5 => pc_some ⟨?_, ?_, ?_, ?_, fun j hj => ⟨?_, ?_⟩, fun d d1 d2 d3 => ?_⟩)
  · rw [e5, st_k (by decide), e4, st_eq]; exact w32_id (by omega)
  · rw [e5, st_eq, e4, st_k (by decide), e3, st_c (by decide), e2, st_c (by decide)]
  · rw [e5, st_c (by decide), e4, st_c (by decide), e3, st_c (by decide), e2, st_eq]
  · rw [e5, st_c (by decide), e4, st_c (by decide), e3, st_eq]
  · rw [e5, st_c (by decide), e4, st_c (by decide), e3, st_c (by decide), e2, st_k (by omega)]
  · rw [e5, st_c (by decide), e4, st_c (by decide), e3, st_k (by omega), e2, st_c (by decide)]
  · rw [e5, st_row d1, e4, st_row d1, e3, st_row d3, e2, st_row d2]
theorem r23_pc {N : Int} {f0 : Nat → Int} {k15 : Int → Wd → Option (Int × Wd)} {i : Nat} {w : Wd} {Q : Int → Wd → Prop} (h1 : w 1 1 = N) (h2 : w 2 = f0) (hi : i < 10) (h12 : w 12 2 = i)
    (qA : ¬ LT (sL N f0) (4 * i) → Q (-1 - 4 * i) w)
    (qB : LT (sL N f0) (4 * i) → sL N f0 (4 * i + 1) ≠ 62 → Q (-1 - (4 * i + 1)) w)
    (qC : LT (sL N f0) (4 * i) → sL N f0 (4 * i + 1) = 62 → ¬ LT (sL N f0) (4 * i + 2) → Q (-1 - (4 * i + 2)) w)
    (qD : LT (sL N f0) (4 * i) → sL N f0 (4 * i + 1) = 62 → LT (sL N f0) (4 * i + 2) → ∀ u, ADq i (sL N f0 (4 * i) - 97) (sL N f0 (4 * i + 2) - 97) w u → (sL N f0 (4 * i + 3) = -1 → Q 0 u) ∧ (sL N f0 (4 * i + 3) = 59 → PC (k15 (4 * i + 4) u) Q) ∧ (sL N f0 (4 * i + 3) ≠ -1 → sL N f0 (4 * i + 3) ≠ 59 → Q (-1 - (4 * i + 3)) u)) :
    ∀ n : Nat, PC (f_P_read_23 k15 n (4 * i) (4 * i) w) Q := by
  have sg : ∀ (p : Int) (u : Wd), u 1 = w 1 → u 2 = w 2 → PC (f_T_signAt p 40 u) (fun r u' => u' = u ∧ r = sL N f0 p) := fun p u e1 e2 => by
    have := sl_pc (w := u) p
    rw [e1, e2, h1, h2] at this
    exact this
  have W : ∀ z : Int, -1000 ≤ z → z ≤ 1000 → w32 z = z := fun z a b => w32_id (by omega)
  intro n
  cases n with
  | zero => exact pc_none
  | succ n =>
  rw [f_P_read_23, W (4 * (i : Int) + 3) (by omega) (by omega), W (4 * (i : Int) + 1) (by omega) (by omega)]
  refine pc_ite (fun z => by omega) (fun _ => ?_)
  refine pc_call (sg (4 * i) w rfl rfl) (fun r1 u1 y1 => ?_)
  rw [y1.1, y1.2]
  refine pc_ite (fun z => by omega) (fun _ => ?_)
  have bad : ∀ (p : Int), 0 ≤ p → p ≤ 40 → Q (-1 - p) w → PC (f_P_read_70 p w) Q := fun p a b hq => by
    unfold f_P_read_70
    rw [show w32 (-1 - p) = -1 - p from W _ (by omega) (by omega)]
    exact pc_some hq
  refine pc_ite (fun c => bad _ (by omega) (by omega) (qA (fun h => by have := h.1; omega))) (fun c1 => ?_)
  refine pc_ite (fun c2 => ?_) (fun c => bad _ (by omega) (by omega) (qA (fun h => by have := h.2; omega)))
  have L1 : LT (sL N f0) (4 * i) := ⟨by omega, c2⟩
  unfold f_P_read_74
  refine pc_let (fun x2 e2 => ?_)
  rw [W (4 * (i : Int) + 1) (by omega) (by omega)] at e2
  rw [e2]
  cases n with
  | zero => exact pc_none
  | succ n =>
  rw [f_P_read_23, W (4 * (i : Int) + 3) (by omega) (by omega), W (4 * (i : Int) + 1) (by omega) (by omega)]
  refine pc_ite (fun z => by omega) (fun _ => ?_)
  refine pc_call (sg (4 * i + 1) w rfl rfl) (fun r3 u3 y3 => ?_)
  rw [y3.1, y3.2]
  refine pc_ite (fun _ => ?_) (fun z => absurd rfl z)
  refine pc_ite (fun g1 => ?_) (fun g1 => bad _ (by omega) (by omega) (qB L1 g1))
  unfold f_P_read_74
  refine pc_let (fun x4 e4 => ?_)
  rw [W (4 * (i : Int) + 1 + 1) (by omega) (by omega)] at e4
  rw [e4]
  cases n with
  | zero => exact pc_none
  | succ n =>
  rw [f_P_read_23, W (4 * (i : Int) + 3) (by omega) (by omega), W (4 * (i : Int) + 1) (by omega) (by omega)]
  refine pc_ite (fun z => by omega) (fun _ => ?_)
  rw [show 4 * (i : Int) + 1 + 1 = 4 * i + 2 by omega]
  refine pc_call (sg (4 * i + 2) w rfl rfl) (fun r5 u5 y5 => ?_)
  rw [y5.1, y5.2]
  refine pc_ite (fun z => by omega) (fun _ => ?_)
  refine pc_ite (fun c => bad _ (by omega) (by omega) (qC L1 g1 (fun h => by have := h.1; omega))) (fun c3 => ?_)
  refine pc_ite (fun c4 => ?_) (fun c => bad _ (by omega) (by omega) (qC L1 g1 (fun h => by have := h.2; omega)))
  have L2 : LT (sL N f0) (4 * i + 2) := ⟨by omega, c4⟩
  unfold f_P_read_74
  refine pc_let (fun x6 e6 => ?_)
  rw [W (4 * (i : Int) + 2 + 1) (by omega) (by omega)] at e6
  rw [e6]
  cases n with
  | zero => exact pc_none
  | succ n =>
  rw [f_P_read_23, W (4 * (i : Int) + 3) (by omega) (by omega), W (4 * (i : Int) + 2) (by omega) (by omega)]
  refine pc_ite (fun _ => ?_) (fun z => by omega)
  refine pc_call (sg (4 * i) w rfl rfl) (fun r7 u7 y7 => ?_)
  rw [y7.1, y7.2]
  refine pc_call (sg (4 * i + 2) w rfl rfl) (fun r8 u8 y8 => ?_)
  rw [y8.1, y8.2, W (sL N f0 (4 * i) - 97) (by omega) (by omega), W (sL N f0 (4 * i + 2) - 97) (by omega) (by omega)]
  refine pc_call (padd_pc h12 hi) (fun r9 u9 y9 => ?_)
  obtain ⟨d1, d2, d3⟩ := qD L1 g1 L2 u9 y9
  have o9 := y9.2.2.2.2.2
  refine pc_call (sg (4 * i + 3) u9 (o9 1 (by decide) (by decide) (by decide)) (o9 2 (by decide) (by decide) (by decide))) (fun r10 u10 y10 => ?_)
  rw [y10.1, y10.2]
  refine pc_ite (fun c => pc_some (d1 c)) (fun n1 => ?_)
  refine pc_ite (fun c => ?_) (fun n2 => ?_)
  · refine pc_let (fun x11 e11 => ?_)
    rw [W (4 * (i : Int) + 4) (by omega) (by omega)] at e11
    rw [e11]
    exact d2 c
  · rw [W (-1 - (4 * (i : Int) + 3)) (by omega) (by omega)]
    exact pc_some (d3 n1 n2)
/-! the reference -/
def RW (N : Int) (f1 : Nat → Int) (a : Wd) : Prop := a 43 17 = 52 ∧ a 43 18 = N ∧ a 43 19 = 40 ∧ a 51 = f1
def RXr (x u : Wd) : Prop := ∀ c k, c ≠ 60 → c ≠ 61 → ¬ (c = 43 ∧ (k = 20 ∨ k = 21)) → u c k = x c k
theorem rxr_tr {x u v : Wd} (h : RXr x u) (h2 : RXr u v) : RXr x v := fun c k h60 h61 hc => (h2 c k h60 h61 hc).trans (h c k h60 h61 hc)
theorem rw_fr {N : Int} {f1 : Nat → Int} {x u : Wd} (h : RW N f1 x) (f : RXr x u) : RW N f1 u := by
  refine ⟨?_, ?_, ?_, ?_⟩
  · rw [f 43 17 (by decide) (by decide) (by decide)]; exact h.1
  · rw [f 43 18 (by decide) (by decide) (by decide)]; exact h.2.1
  · rw [f 43 19 (by decide) (by decide) (by decide)]; exact h.2.2.1
  · rw [show u 51 = x 51 from funext fun k => f 51 k (by decide) (by decide) (by omega)]; exact h.2.2.2
theorem herw_pc {N : Int} {f1 : Nat → Int} {a : Wd} (h : RW N f1 a) : PC (f_R_here a) (fun r u => u = a ∧ r = hx N f1 (a 43 20)) := by
  have := hx_pc (n := N) (f0 := f1) (x := a) ⟨h.2.1, h.2.2.1, Or.inl ⟨h.1, h.2.2.2⟩⟩ (a 43 20) (a 43 21)
  rw [xw_self] at this
  exact this
theorem rlw_pc {N p : Int} {f1 : Nat → Int} {a : Wd} (h : RW N f1 a) (hp : a 43 20 = p) (h21 : a 43 21 = -1) (h0 : 0 ≤ p ∧ p ≤ 40) : PC (f_R_readLetter a) (fun r u => (LT (hx N f1) p ∧ r = hx N f1 p - 97 ∧ u = st a 43 20 (p + 1)) ∨ (¬ LT (hx N f1) p ∧ r = 0 ∧ u = st a 43 21 p)) := by
  unfold f_R_readLetter
  rw [fine_e, jc_s, if_pos h21]
  refine pc_ite (fun e => absurd e (by decide)) (fun _ => ?_)
  refine pc_call (herw_pc h) (fun r3 u4 y => ?_)
  rw [y.1, y.2, hp]
  unfold f_R_in
  by_cases c1 : hx N f1 p < 97
  · rw [if_pos c1, jc_s, hp]
    refine pc_ite (fun _ => ?_) (fun e => absurd rfl e)
    refine pc_call (fl_pc a p) (fun r8 u9 y2 => pc_some (Or.inr ⟨fun hL => by have := hL.1; omega, rfl, ?_⟩))
    rw [y2, if_pos h21]
  · rw [if_neg c1]
    by_cases c2 : 106 < hx N f1 p
    · rw [if_pos c2, jc_s, hp]
      refine pc_ite (fun _ => ?_) (fun e => absurd rfl e)
      refine pc_call (fl_pc a p) (fun r8 u9 y2 => pc_some (Or.inr ⟨fun hL => by have := hL.2; omega, rfl, ?_⟩))
      rw [y2, if_pos h21]
    · rw [if_neg c2, jc_s]
      refine pc_ite (fun e => absurd e (by decide)) (fun _ => ?_)
      refine pc_lw (fun u7 e7 => ?_)
      rw [hp, w32_id (show -2147483648 ≤ p + 1 ∧ p + 1 ≤ 2147483647 by omega)] at e7
      have e20 : u7 43 20 = p + 1 := by rw [e7, st_eq]
      have e17 : u7 43 17 = 52 := by rw [e7, st_k (by decide)]; exact h.1
      have e51 : u7 51 = f1 := by rw [e7, st_row (by decide)]; exact h.2.2.2
      have lt := hx_lt (n := N) (f0 := f1) (p := p) (by omega)
      have ev : hx N f1 p = f1 p.toNat := by
        unfold hx
        rw [if_neg (by omega), if_neg (by omega)]
      refine pc_ite (fun _ => ?_) (fun z => absurd e17 z)
      refine pc_gd (fun _ => pc_some (Or.inl ⟨⟨by omega, by omega⟩, ?_, e7⟩))
      rw [e20, e51, show w32 (p + 1 - 1) = p by rw [show p + 1 - 1 = p by omega]; exact w32_id (by omega), ← ev]
      exact w32_id (by omega)
/-- once a fault is found -/
theorem flt77 {q v1 : Int} {a : Wd} {m : Nat} {Q : Int → Wd → Prop} (hq : a 43 21 = q) (hn : q ≠ -1) (hv : 0 ≤ v1 ∧ v1 ≤ 10) (hQ : ∀ a', RXr a a' → a' 43 21 = q → PC (f_R_week_100 (v1 + 1) a') Q) : PC (f_R_week_77 (f_R_week_39 m) v1 a) Q := by
  have nf : ∀ u : Wd, u 43 21 = q → ¬ u 43 21 = -1 := fun u e => by rw [e]; exact hn
  unfold f_R_week_77 f_R_readLetter
  rw [fine_e, if_neg (nf a hq), jc_s, if_pos rfl, jc_s]
  refine pc_gd (fun _ => pc_lw (fun u44 e44 => pc_let (fun x45 e45 => ?_)))
  have e21 : u44 43 21 = q := by rw [e44, st_c (by decide)]; exact hq
  unfold f_R_passes
  rw [fine_e, if_neg (nf u44 e21), jc_s, if_pos rfl, jc_s]
  cases m with
  | zero => exact pc_none
  | succ m =>
    rw [f_R_week_39, if_pos rfl]
    rw [w32_id (show -2147483648 ≤ v1 + 1 ∧ v1 + 1 ≤ 2147483647 by omega)] at e45
    rw [e45]
    exact hQ u44 (fun c k h60 h61 hc => by rw [e44, st_c h61]) e21
theorem r39_pc {N : Int} {f1 : Nat → Int} {i m : Nat} {a : Wd} {Q : Int → Wd → Prop} (h : RW N f1 a) (hi : i ≤ 10) (hp : a 43 20 = 4 * i) (h21 : a 43 21 = -1)
    (qA : ¬ LT (hx N f1) (4 * i) → ∀ a', RXr a a' → a' 43 21 = 4 * i → PC (f_R_week_100 ((i : Int) + 1) a') Q)
    (qB : LT (hx N f1) (4 * i) → hx N f1 (4 * i + 1) ≠ 62 → ∀ a', RXr a a' → a' 43 21 = 4 * i + 1 → PC (f_R_week_100 ((i : Int) + 1) a') Q)
    (qC : LT (hx N f1) (4 * i) → hx N f1 (4 * i + 1) = 62 → ¬ LT (hx N f1) (4 * i + 2) → ∀ a', RXr a a' → a' 43 21 = 4 * i + 2 → PC (f_R_week_100 ((i : Int) + 1) a') Q)
    (qD : LT (hx N f1) (4 * i) → hx N f1 (4 * i + 1) = 62 → LT (hx N f1) (4 * i + 2) → ∀ a', RXr a a' → a' 43 21 = -1 → (∀ j, a' 60 j = if j = i then hx N f1 (4 * i) - 97 else a 60 j) → (∀ j, a' 61 j = if j = i then hx N f1 (4 * i + 2) - 97 else a 61 j) → (hx N f1 (4 * i + 3) = 59 → a' 43 20 = 4 * i + 4 → PC (f_R_week_39 m ((i : Int) + 1) 1 a') Q) ∧ (hx N f1 (4 * i + 3) ≠ 59 → a' 43 20 = 4 * i + 3 → PC (f_R_week_100 ((i : Int) + 1) a') Q)) :
    PC (f_R_week_39 (m + 1) (i : Int) 1 a) Q := by
  rw [f_R_week_39, if_neg (by decide), fine_e, if_pos h21, jc_s, if_neg (by decide)]
  refine pc_call (rlw_pc h hp h21 (by omega)) (fun r37 u38 y => ?_)
  refine pc_gd (fun _ => pc_lw (fun u39 e39 => ?_))
  rw [show ((i : Int)).toNat = i from rfl] at e39
  have eni : ∀ j : Nat, (4 * (i : Int) + j) ≠ -1 := fun j => by omega
  have e3943 : u39 43 = u38 43 := by rw [e39, st_row (by decide)]
  -- a fault stays
  have goF : ∀ (q : Int), 0 ≤ q → u39 43 21 = q → RXr a u39 → (∀ a', RXr a a' → a' 43 21 = q → PC (f_R_week_100 ((i : Int) + 1) a') Q) → PC (jcall (f_R_passes 62 u39) fun r40 u41 => if r40 = 0 then jcall (f_R_fault (u41 43 20) u41) fun r48 u49 => f_R_week_77 (f_R_week_39 m) i u49 else f_R_week_77 (f_R_week_39 m) i u41) Q := fun q h0 hq hx9 hQ => by
    unfold f_R_passes
    rw [fine_e, if_neg (show ¬ u39 43 21 = -1 by omega), jc_s, if_pos rfl, jc_s, if_pos rfl]
    refine pc_call (fl_pc u39 _) (fun r48 u49 y2 => ?_)
    rw [if_neg (show ¬ u39 43 21 = -1 by omega)] at y2
    rw [y2]
    exact flt77 hq (by omega) (by omega) (fun a' b1 b2 => hQ a' (rxr_tr hx9 b1) b2)
  rcases y with ⟨L1, y2, y3⟩ | ⟨L1, y2, y3⟩
  · have x39 : RXr a u39 := fun c k h60 h61 hc => by
      rw [e39, st_c h60, y3]; unfold st; rw [if_neg (by omega)]
    have p39 : u39 43 20 = 4 * i + 1 := by rw [e3943, y3, st_eq]
    have f39 : u39 43 21 = -1 := by rw [e3943, y3, st_k (by decide)]; exact h21
    have h39 := rw_fr h x39
    unfold f_R_passes
    rw [fine_e, if_pos f39, jc_s, if_neg (by decide)]
    refine pc_call (P := fun r u => (hx N f1 (4 * i + 1) = 62 ∧ r = 1 ∧ u = st u39 43 20 (4 * i + 2)) ∨ (hx N f1 (4 * i + 1) ≠ 62 ∧ r = 0 ∧ u = u39)) ?_ (fun r40 u41 z => ?_)
    · refine pc_call (herw_pc h39) (fun r3 u4 y => ?_)
      rw [y.1, y.2, p39]
      refine pc_ite (fun c => ?_) (fun c => pc_some (Or.inr ⟨c, rfl, rfl⟩))
      refine pc_lw (fun u5 e5 => pc_some (Or.inl ⟨c, rfl, ?_⟩))
      rw [e5, w32_id (by omega), show (4 * (i : Int) + 1 + 1) = 4 * i + 2 by omega]
    · rcases z with ⟨g1, z2, z3⟩ | ⟨g1, z2, z3⟩
      · rw [z2]
        refine pc_ite (fun e => absurd e (by decide)) (fun _ => ?_)
        have x41 : RXr a u41 := rxr_tr x39 (fun c k h60 h61 hc => by rw [z3]; unfold st; rw [if_neg (by omega)])
        have p41 : u41 43 20 = 4 * i + 2 := by rw [z3, st_eq]
        have f41 : u41 43 21 = -1 := by rw [z3, st_k (by decide)]; exact f39
        have h41 := rw_fr h x41
        have lt1 := hx_lt (n := N) (f0 := f1) (p := 4 * (i : Int)) (by have := L1.1; omega)
        unfold f_R_week_77
        refine pc_call (rlw_pc (p := 4 * (i : Int) + 2) h41 p41 f41 (by omega)) (fun r42 u43 t => ?_)
        rcases t with ⟨L2, t2, t3⟩ | ⟨L2, t2, t3⟩
        · refine pc_gd (fun _ => pc_lw (fun u44 e44 => pc_let (fun x45 e45 => ?_)))
          rw [show ((i : Int)).toNat = i from rfl] at e44
          rw [w32_id (show -2147483648 ≤ (i : Int) + 1 ∧ (i : Int) + 1 ≤ 2147483647 by omega)] at e45
          have x44 : RXr a u44 := rxr_tr x41 (fun c k h60 h61 hc => by rw [e44, st_c h61, t3]; unfold st; rw [if_neg (by omega)])
          have p44 : u44 43 20 = 4 * i + 3 := by
            rw [e44, st_c (by decide), t3, st_eq]; omega
          have f44 : u44 43 21 = -1 := by rw [e44, st_c (by decide), t3, st_k (by decide)]; exact f41
          have h44 := rw_fr h x44
          have r60 : ∀ j, u44 60 j = if j = i then hx N f1 (4 * i) - 97 else a 60 j := fun j => by
            rw [e44, st_c (by decide), t3, st_c (by decide), z3, st_c (by decide), e39]
            by_cases c : j = i
            · rw [if_pos c, c, st_eq, y2]
            · rw [if_neg c, st_k c, y3, st_c (by decide)]
          have r61 : ∀ j, u44 61 j = if j = i then hx N f1 (4 * i + 2) - 97 else a 61 j := fun j => by
            rw [e44]
            by_cases c : j = i
            · rw [if_pos c, c, st_eq, t2]
            · rw [if_neg c, st_k c, t3, st_c (by decide), z3, st_c (by decide), e39, st_c (by decide), y3, st_c (by decide)]
          unfold f_R_passes
          rw [fine_e, if_pos f44, jc_s, if_neg (by decide)]
          refine pc_call (P := fun r u => (hx N f1 (4 * i + 3) = 59 ∧ r = 1 ∧ u = st u44 43 20 (4 * i + 4)) ∨ (hx N f1 (4 * i + 3) ≠ 59 ∧ r = 0 ∧ u = u44)) ?_ (fun r46 u47 z => ?_)
          · refine pc_call (herw_pc h44) (fun r3 u4 y => ?_)
            rw [y.1, y.2, p44]
            refine pc_ite (fun c => ?_) (fun c => pc_some (Or.inr ⟨c, rfl, rfl⟩))
            refine pc_lw (fun u5 e5 => pc_some (Or.inl ⟨c, rfl, ?_⟩))
            rw [e5, w32_id (by omega), show (4 * (i : Int) + 3 + 1) = 4 * i + 4 by omega]
          · rw [e45]
            rcases z with ⟨g3, s2, s3⟩ | ⟨g3, s2, s3⟩
            · rw [s2]
              refine (qD L1 g1 L2 u47 (rxr_tr x44 (fun c k h60 h61 hc => by rw [s3]; unfold st; rw [if_neg (by omega)])) (by rw [s3, st_k (by decide)]; exact f44) (fun j => by rw [s3, st_c (by decide)]; exact r60 j) (fun j => by rw [s3, st_c (by decide)]; exact r61 j)).1 g3 (by rw [s3, st_eq])
            · rw [s2, s3]
              have := (qD L1 g1 L2 u44 x44 f44 r60 r61).2 g3 p44
              cases m with
              | zero => exact pc_none
              | succ m => rw [f_R_week_39, if_pos rfl]; exact this
        · refine pc_gd (fun _ => pc_lw (fun u44 e44 => pc_let (fun x45 e45 => ?_)))
          rw [w32_id (show -2147483648 ≤ (i : Int) + 1 ∧ (i : Int) + 1 ≤ 2147483647 by omega)] at e45
          have x44 : RXr a u44 := rxr_tr x41 (fun c k h60 h61 hc => by rw [e44, st_c h61, t3]; unfold st; rw [if_neg (by omega)])
          have f44 : u44 43 21 = 4 * i + 2 := by rw [e44, st_c (by decide), t3, st_eq]
          unfold f_R_passes
          rw [fine_e, if_neg (show ¬ u44 43 21 = -1 by omega), jc_s, if_pos rfl, jc_s]
          have := qC L1 g1 L2 u44 x44 f44
          cases m with
          | zero => exact pc_none
          | succ m => rw [f_R_week_39, if_pos rfl, e45]; exact this
      · rw [z2, z3, if_pos rfl]
        refine pc_call (fl_pc u39 _) (fun r48 u49 y2 => ?_)
        rw [if_pos f39, p39] at y2
        refine flt77 (q := 4 * i + 1) (by rw [y2, st_eq]) (by omega) (by omega) (fun a' b1 b2 => qB L1 g1 a' (rxr_tr (rxr_tr x39 (fun c k h60 h61 hc => by rw [y2]; unfold st; rw [if_neg (by omega)])) b1) b2)
  · have x39 : RXr a u39 := fun c k h60 h61 hc => by
      rw [e39, st_c h60, y3]; unfold st; rw [if_neg (by omega)]
    have f39 : u39 43 21 = 4 * i := by rw [e3943, y3, st_eq]
    exact goF (4 * i) (by omega) f39 x39 (qA L1)
/-! A WEEK READ, by both -/
theorem lt_sh {s h : Int → Int} {n p : Int} (hs : SH s h n) (hp : 0 ≤ p) : LT s p ↔ LT h p := by
  have b := (hs p hp).2.1
  constructor
  · intro ⟨h1, h2⟩
    have := (b (s p) (by omega) (by omega)).mp rfl
    exact ⟨by omega, by omega⟩
  · intro ⟨h1, h2⟩
    have := (b (h p) (by omega) (by omega)).mpr rfl
    exact ⟨by omega, by omega⟩
def ARR (i : Nat) (w a : Wd) : Prop := w 12 2 = (i : Int) ∧ B10 (w 12 3) (mvb (a 60) (a 61) i) ∧ ∀ j, j < i → (w 13 j = a 60 j ∧ w 14 j = a 61 j) ∧ (0 ≤ a 60 j ∧ a 60 j ≤ 9) ∧ 0 ≤ a 61 j ∧ a 61 j ≤ 9
def EXr (x u : Wd) : Prop := ∀ d, d ≠ 12 → d ≠ 13 → d ≠ 14 → u d = x d
def WR (x y : Wd) (N r : Int) (u : Wd) (i' : Int) (a' : Wd) : Prop := EXr x u ∧ RXr y a' ∧ ((r = 0 ∧ a' 43 21 = -1 ∧ N ≤ a' 43 20 ∧ ∃ i : Nat, i' = i ∧ i ≤ 10 ∧ ARR i u a') ∨ (r < 0 ∧ 0 ≤ -1 - r ∧ -1 - r ≤ 100 ∧ (a' 43 21 = -1 - r ∨ (a' 43 21 = -1 ∧ a' 43 20 < N ∧ a' 43 20 = -1 - r))))
theorem arr_add {i : Nat} {p q : Int} {w u a a' : Wd} (h : ARR i w a) (hp : 0 ≤ p ∧ p ≤ 9) (hq : 0 ≤ q ∧ q ≤ 9) (hu : ADq i p q w u) (h60 : ∀ j, a' 60 j = if j = i then p else a 60 j) (h61 : ∀ j, a' 61 j = if j = i then q else a 61 j) : ARR (i + 1) u a' := by
  obtain ⟨u1, u2, u3, u4, u5, _⟩ := hu
  obtain ⟨h1, h2, h3⟩ := h
  have o60 : ∀ j, j < i → a' 60 j = a 60 j := fun j hj => by rw [h60, if_neg (by omega)]
  have o61 : ∀ j, j < i → a' 61 j = a 61 j := fun j hj => by rw [h61, if_neg (by omega)]
  have n60 : a' 60 i = p := by rw [h60, if_pos rfl]
  have n61 : a' 61 i = q := by rw [h61, if_pos rfl]
  refine ⟨u1.trans rfl, ?_, fun j hj => ?_⟩
  · rw [u2]
    refine b10_w (b10_or h2 (b10_or (b10_1 hp) (b10_1 hq))) (fun k _ => ?_)
    rw [mvb, n60, n61, mvb_eq (fun j hj => ⟨(o60 j hj).symm, (o61 j hj).symm⟩)]
  · by_cases c : j = i
    · rw [c, n60, n61]
      exact ⟨⟨u3, u4⟩, hp, hq⟩
    · have := h3 j (by omega)
      rw [(u5 j (by omega)).1, (u5 j (by omega)).2, o60 j (by omega), o61 j (by omega)]
      exact this
theorem wk_read {N : Int} {f0 f1 : Nat → Int} (x y : Wd) (hN : 0 ≤ N) (hSH : SH (sL N f0) (hx N f1) N) (hf0 : ∀ k : Nat, (k : Int) < N → 0 ≤ f0 k) (x1 : x 1 1 = N) (x2 : x 2 = f0) (hy : RW N f1 y) : ∀ (n m : Nat) {i : Nat} {w a : Wd}, i ≤ 10 → EXr x w → RXr y a → a 43 20 = 4 * i → a 43 21 = -1 → ARR i w a → PC (f_P_read_15 n (4 * i) w) (fun r u => ∀ Q : Int → Wd → Prop, (∀ i' a', WR x y N r u i' a' → PC (f_R_week_100 i' a') Q) → PC (f_R_week_39 m (i : Int) 1 a) Q) := by
  intro n
  induction n with
  | zero => intros; exact pc_none
  | succ n ih =>
    intro m i w a hi hw ha hp h21 hA
    cases m with
    | zero => exact fun _ _ _ _ _ => pc_none
    | succ m =>
    have hR := rw_fr hy ha
    have ww1 : w 1 = x 1 := hw 1 (by decide) (by decide) (by decide)
    have ww2 : w 2 = x 2 := hw 2 (by decide) (by decide) (by decide)
    rw [f_P_read_15]
    refine pc_ite (fun c => pc_some (fun Q hQ => ?_)) (fun c => ?_)
    · have no : ¬ LT (hx N f1) (4 * i) := fun h => by
        have := hx_lt (n := N) (f0 := f1) (p := 4 * (i : Int)) (by have := h.1; omega)
        omega
      exact r39_pc hR hi hp h21 (fun _ a' b1 b2 => hQ _ a' ⟨hw, rxr_tr ha b1, Or.inr ⟨by decide, by decide, by decide, Or.inl (by rw [b2]; omega)⟩⟩) (fun h => absurd h no) (fun h => absurd h no) (fun h => absurd h no)
    · have e1 := lt_sh hSH (p := 4 * (i : Int)) (by omega)
      have e2 := lt_sh hSH (p := 4 * (i : Int) + 2) (by omega)
      have g1 := (hSH (4 * (i : Int) + 1) (by omega)).2.1 62 (by decide) (by decide)
      have g3 := (hSH (4 * (i : Int) + 3) (by omega)).2.1 59 (by decide) (by decide)
      refine r23_pc (N := N) (f0 := f0) (by rw [ww1]; exact x1) (ww2.trans x2) (by omega) hA.1 (fun z1 Q hQ => ?_) (fun z1 z2 Q hQ => ?_) (fun z1 z2 z3 Q hQ => ?_) (fun z1 z2 z3 u hu => ?_) FU
      · have no : ¬ LT (hx N f1) (4 * i) := fun h => z1 (e1.mpr h)
        exact r39_pc hR hi hp h21 (fun _ a' b1 b2 => hQ _ a' ⟨hw, rxr_tr ha b1, Or.inr ⟨by omega, by omega, by omega, Or.inl (by rw [b2]; omega)⟩⟩) (fun h => absurd h no) (fun h => absurd h no) (fun h => absurd h no)
      · have n62 : hx N f1 (4 * i + 1) ≠ 62 := fun h => z2 (g1.mpr h)
        exact r39_pc hR hi hp h21 (fun h => absurd (e1.mp z1) h) (fun _ _ a' b1 b2 => hQ _ a' ⟨hw, rxr_tr ha b1, Or.inr ⟨by omega, by omega, by omega, Or.inl (by rw [b2]; omega)⟩⟩) (fun _ h => absurd h n62) (fun _ h => absurd h n62)
      · have no : ¬ LT (hx N f1) (4 * i + 2) := fun h => z3 (e2.mpr h)
        exact r39_pc hR hi hp h21 (fun h => absurd (e1.mp z1) h) (fun _ h => absurd (g1.mp z2) h) (fun _ _ _ a' b1 b2 => hQ _ a' ⟨hw, rxr_tr ha b1, Or.inr ⟨by omega, by omega, by omega, Or.inl (by rw [b2]; omega)⟩⟩) (fun _ _ h => absurd h no)
      · have v1 := sh_e hSH (p := 4 * (i : Int)) (by omega) (by have := (e1.mp z1).1; omega)
        have v3 := sh_e hSH (p := 4 * (i : Int) + 2) (by omega) (by have := (e2.mp z3).1; omega)
        have hu' : ADq i (hx N f1 (4 * i) - 97) (hx N f1 (4 * i + 2) - 97) w u := by rw [← v1.1, ← v3.1]; exact hu
        have l1 := e1.mp z1
        have l3 := e2.mp z3
        have hwu : EXr x u := fun d d1 d2 d3 => (hu.2.2.2.2.2 d d1 d2 d3).trans (hw d d1 d2 d3)
        have arr : ∀ {a' : Wd}, (∀ j, a' 60 j = if j = i then hx N f1 (4 * i) - 97 else a 60 j) → (∀ j, a' 61 j = if j = i then hx N f1 (4 * i + 2) - 97 else a 61 j) → ARR (i + 1) u a' := fun b4 b5 => arr_add hA (by have := l1.1; have := l1.2; omega) (by have := l3.1; have := l3.2; omega) hu' b4 b5
        have sl3 : sL N f0 (4 * i + 3) = if 4 * (i : Int) + 3 < N then f0 (4 * (i : Int) + 3).toNat else -1 := by
          unfold sL
          rw [if_neg (by omega)]
          by_cases cn : 4 * (i : Int) + 3 < N
          · rw [if_pos cn, if_pos cn, if_pos (by omega)]
          · rw [if_neg cn, if_neg cn]
        refine ⟨fun y1 Q hQ => ?_, fun y1 => ?_, fun y1 y2 Q hQ => ?_⟩
        · have n59 : hx N f1 (4 * i + 3) ≠ 59 := fun h => by rw [g3.mpr h] at y1; omega
          have nN : N ≤ 4 * (i : Int) + 3 := by
            by_cases cn : 4 * (i : Int) + 3 < N
            · rw [sl3, if_pos cn] at y1
              have := hf0 (4 * (i : Int) + 3).toNat (by omega)
              omega
            · omega
          exact r39_pc hR hi hp h21 (fun h => absurd l1 h) (fun _ h => absurd (g1.mp z2) h) (fun _ _ h => absurd l3 h) (fun _ _ _ a' b1 b2 b4 b5 => ⟨fun h => absurd h n59, fun _ b3 => hQ _ a' ⟨hwu, rxr_tr ha b1, Or.inl ⟨rfl, b2, by rw [b3]; exact nN, i + 1, rfl, by omega, arr b4 b5⟩⟩⟩)
        · intro r u' eL Q hQ
          refine r39_pc hR hi hp h21 (fun h => absurd l1 h) (fun _ h => absurd (g1.mp z2) h) (fun _ _ h => absurd l3 h) (fun _ _ _ a' b1 b2 b4 b5 => ⟨fun _ b3 => ?_, fun h => absurd (g3.mp y1) h⟩)
          have := ih m (i := i + 1) (w := u) (a := a') (by omega) hwu (rxr_tr ha b1) (by rw [b3]; omega) b2 (arr b4 b5)
          rw [show 4 * ((i + 1 : Nat) : Int) = 4 * i + 4 by omega] at this
          exact this r u' eL Q hQ
        · have n59 : hx N f1 (4 * i + 3) ≠ 59 := fun h => y2 (g3.mpr h)
          have nN : 4 * (i : Int) + 3 < N := by
            by_cases cn : 4 * (i : Int) + 3 < N
            · exact cn
            · rw [sl3, if_neg cn] at y1
              exact absurd rfl y1
          exact r39_pc hR hi hp h21 (fun h => absurd l1 h) (fun _ h => absurd (g1.mp z2) h) (fun _ _ h => absurd l3 h) (fun _ _ _ a' b1 b2 b4 b5 => ⟨fun h => absurd h n59, fun _ b3 => hQ _ a' ⟨hwu, rxr_tr ha b1, Or.inr ⟨by omega, by omega, by omega, Or.inr ⟨b2, by rw [b3]; exact nN, by rw [b3]; omega⟩⟩⟩⟩)
/-! A WEEK TOLD: its pairs, one after another -/
def PRE (P : Int) (A B bg : Nat → Int) (i : Nat) : Prop := (∀ j, j < i → (0 ≤ A j ∧ A j < P) ∧ (0 ≤ B j ∧ B j < P) ∧ bg (A j).toNat = B j) ∧ (∀ a : Nat, (a : Int) < P → bg a ≠ -1 → ∃ j, j < i ∧ A j = (a : Int)) ∧ ∀ j l, j < i → l < i → A j = A l → j = l
theorem pre_put {P : Int} {A B bg : Nat → Int} {i : Nat} (h : PRE P A B bg i) (ha : 0 ≤ A i ∧ A i < P) (hb : 0 ≤ B i ∧ B i < P) (hn : bg (A i).toNat = -1) : PRE P A B (put bg (A i).toNat (B i)) (i + 1) := by
  obtain ⟨h1, h2, h3⟩ := h
  have ne : ∀ j, j < i → A j ≠ A i := fun j hj e => by
    have := (h1 j hj).2.2
    rw [e, hn] at this
    have := (h1 j hj).2.1
    omega
  refine ⟨fun j hj => ?_, fun a haP hv => ?_, fun j l hj hl e => ?_⟩
  · by_cases c : j = i
    · rw [c]; exact ⟨ha, hb, put_i _ _ _⟩
    · have := h1 j (by omega)
      refine ⟨this.1, this.2.1, ?_⟩
      rw [put_n (fun e => ne j (by omega) (by omega))]
      exact this.2.2
  · by_cases c : a = (A i).toNat
    · exact ⟨i, by omega, by omega⟩
    · rw [put_n c] at hv
      obtain ⟨j, hj, e⟩ := h2 a haP hv
      exact ⟨j, by omega, e⟩
  · by_cases c1 : j = i
    · by_cases c2 : l = i
      · omega
      · rw [c1] at e; exact absurd e.symm (ne l (by omega))
    · by_cases c2 : l = i
      · rw [c2] at e; exact absurd e (ne j (by omega))
      · exact h3 j l (by omega) (by omega) e
def FR58 (y a : Wd) : Prop := ∀ c, c ≠ 58 → a c = y c
theorem wk_chk {P : Int} {s h kn : Nat → Int} {I : Nat} {w y : Wd} (hI : I ≤ 10) (hP : 0 ≤ P ∧ P ≤ 10) (e0 : y 43 0 = P) (e47 : y 47 = s) (e46 : y 46 = h) (e45 : y 45 = kn) (hw : WH (w 5 4) s P) (h3 : w 5 3 = P) (hh : B10 (w 5 5) (hB P h)) (h7 : ∀ j : Nat, (j : Int) < P → w 7 j = kn j) (hk : ∀ j : Nat, (j : Int) < P → 0 ≤ kn j ∧ kn j ≤ 1023) (h12 : w 12 2 = I) (hA : ∀ j, j < I → (w 13 j = y 60 j ∧ w 14 j = y 61 j) ∧ (0 ≤ y 60 j ∧ y 60 j ≤ 9) ∧ 0 ≤ y 61 j ∧ y 61 j ≤ 9) : ∀ (n m : Nat) {i : Nat} {v2 : Int} {a : Wd}, i ≤ I → FR58 y a → GWK P s h kn (a 58) → B10 v2 (mvb (y 60) (y 61) i) → (∀ k, k < 10 → mvb (y 60) (y 61) i k = mvs P (a 58) k) → PRE P (y 60) (y 61) (a 58) i → PC (f_P_firstWrongPair_4 n v2 i w) (fun r u => u = w ∧ (r = -1 ∨ (0 ≤ r ∧ r ≤ 10)) ∧ ∀ Q : Int → Wd → Prop, ((r = -1 → ∀ a', FR58 y a' → GWK P s h kn (a' 58) → (∀ k, k < 10 → mvb (y 60) (y 61) I k = mvs P (a' 58) k) → PRE P (y 60) (y 61) (a' 58) I → PC (if (I : Int) ≤ 0 then f_R_week_305 a' else jcall (f_R_guestsThen a') fun r11 u12 => if r11 ≤ (u12 43 11) then f_R_week_305 u12 else some ((-200), u12)) Q) → (0 ≤ r → ∀ a', FR58 y a' → Q (w32 (-100 - r)) a') → PC (f_R_week_152 m (I : Int) (i : Int) a) Q)) := by
  intro n
  induction n with
  | zero => intros; exact pc_none
  | succ n ih =>
    intro m i v2 a hi hy hg hB2 hmv hpre
    have o : ∀ c k, c ≠ 58 → a c k = y c k := fun c k hc => by rw [hy c hc]
    rw [f_P_firstWrongPair_4, h12]
    refine pc_ite (fun z => pc_some ⟨rfl, Or.inl rfl, fun Q q1 q2 => ?_⟩) (fun z => ?_)
    · have ei : i = I := by omega
      cases m with
      | zero => exact pc_none
      | succ m =>
        rw [f_R_week_152]
        refine pc_ite (fun _ => ?_) (fun c => absurd (by omega) c)
        exact q1 rfl a hy hg (by rw [← ei]; exact hmv) (by rw [← ei]; exact hpre)
    · have hiI : i < I := by omega
      obtain ⟨⟨a13, a14⟩, a60, a61⟩ := hA i hiI
      refine pc_call (eg_e hw) (fun r1 u2 q => ?_)
      rw [q.1, show ((i : Int)).toNat = i from rfl, a13]
      refine pc_gd (fun _ => ?_)
      have hA1 : B10 (iand r1 (ixor v2 (-1))) (fun k => gs P s k && !mvs P (a 58) k) := b10_andn q.2 (fun k hk2 => (hB2.2 k hk2).trans (hmv k hk2))
      rw [has_10 w hA1 (by omega), jc_s]
      -- the reference at this pair
      have ref : ∀ {Q : Int → Wd → Prop}, (¬ ((y 60 i < P ∧ gst (s (y 60 i).toNat) = true ∧ a 58 (y 60 i).toNat = -1) ∧ okc P s h kn (a 58) (y 60 i).toNat (y 61 i).toNat = true) → Q (w32 (-100 - i)) a) → (y 60 i < P → gst (s (y 60 i).toNat) = true → a 58 (y 60 i).toNat = -1 → okc P s h kn (a 58) (y 60 i).toNat (y 61 i).toNat = true → ∀ l, m = l + 1 → PC (f_R_week_152 l (I : Int) ((i : Int) + 1) (st a 58 (y 60 i).toNat (y 61 i))) Q) → PC (f_R_week_152 m (I : Int) (i : Int) a) Q := by
        intro Q qF qT
        cases m with
        | zero => exact pc_none
        | succ l =>
        rw [f_R_week_152]
        refine pc_ite (fun c => by omega) (fun _ => ?_)
        rw [show ((i : Int)).toNat = i from rfl, o 60 i (by decide), o 61 i (by decide)]
        refine pc_gd (fun _ => pc_let (fun x13 e13 => pc_gd (fun _ => pc_let (fun x14 e14 => ?_))))
        rw [e13, e14]
        have eP : a 43 0 = P := (o 43 0 (by decide)).trans e0
        have r47 : a 47 = s := (hy 47 (by decide)).trans e47
        have r45 : a 45 = kn := (hy 45 (by decide)).trans e45
        have r46 : a 46 = h := (hy 46 (by decide)).trans e46
        have f258 : ¬ ((y 60 i < P ∧ gst (s (y 60 i).toNat) = true ∧ a 58 (y 60 i).toNat = -1) ∧ okc P s h kn (a 58) (y 60 i).toNat (y 61 i).toNat = true) → PC (f_R_week_258 (f_R_week_152 l) I i (y 60 i) (y 61 i) a) Q := fun hn => by
          unfold f_R_week_258 f_R_week_259
          exact pc_ite (fun _ => pc_some (qF hn)) (fun e => absurd rfl e)
        refine pc_call (io_pc (y 60 i) a (by omega)) (fun r15 u16 t => ?_)
        rw [t.1, t.2, eP]
        unfold hd
        by_cases c1 : 0 ≤ y 60 i ∧ y 60 i < P
        · rw [if_pos c1]
          refine pc_ite (fun e => absurd e (by decide)) (fun _ => pc_gd (fun _ => ?_))
          rw [isG_e, jc_s, r47]
          cases c2 : gst (s (y 60 i).toNat) with
          | false =>
            refine pc_ite (fun _ => f258 (fun hn => by rw [c2] at hn; cases hn.1.2.1)) (fun e => absurd rfl e)
          | true =>
            refine pc_ite (fun e => absurd e (by decide)) (fun _ => pc_gd (fun _ => ?_))
            refine pc_ite (fun c3 => ?_) (fun c3 => f258 (fun hn => c3 hn.1.2.2))
            refine pc_call (io_pc (y 61 i) a (by omega)) (fun r21 u22 t2 => ?_)
            rw [t2.1, t2.2, eP]
            unfold hd
            by_cases c4 : 0 ≤ y 61 i ∧ y 61 i < P
            · rw [if_pos c4]
              refine pc_ite (fun e => absurd e (by decide)) (fun _ => ?_)
              refine pc_call (rfree_e (w := a) (by omega)) (fun r23 u24 t3 => ?_)
              have t3b := t3.2
              rw [eP, r47, r46] at t3b
              rw [t3.1, hasR_10 a t3b (by omega), jc_s]
              have ok_e : okc P s h kn (a 58) (y 60 i).toNat (y 61 i).toNat = ((fre P s h (y 61 i).toNat && bt (kn (y 60 i).toNat) (y 61 i).toNat) && !brn (a 58) P.toNat (y 61 i).toNat) := rfl
              cases c5 : fre P s h (y 61 i).toNat with
              | false =>
                refine pc_ite (fun _ => f258 (fun hn => ?_)) (fun e => absurd rfl e)
                rw [ok_e, c5] at hn
                cases hn.2
              | true =>
                refine pc_ite (fun e => absurd e (by decide)) (fun _ => pc_gd (fun _ => ?_))
                rw [r45, hasR_10 a (b10_self (hk (y 60 i).toNat (by omega))) (by omega), jc_s]
                cases c6 : bt (kn (y 60 i).toNat) (y 61 i).toNat with
                | false =>
                  refine pc_ite (fun _ => f258 (fun hn => ?_)) (fun e => absurd rfl e)
                  rw [ok_e, c5, c6] at hn
                  cases hn.2
                | true =>
                  refine pc_ite (fun e => absurd e (by decide)) (fun _ => ?_)
                  refine pc_call (bn_pc (w := a) (by omega) (fun k hk2 => gwk_r hg hP.2 k (by omega))) (fun r29 u30 t4 => ?_)
                  have t4b := t4.2
                  rw [eP] at t4b
                  rw [t4.1, hasR_10 a t4b (by omega), jc_s]
                  cases c7 : brn (a 58) P.toNat (y 61 i).toNat with
                  | true =>
                    refine pc_ite (fun e => absurd e (by decide)) (fun _ => f258 (fun hn => ?_))
                    rw [ok_e, c5, c6, c7] at hn
                    cases hn.2
                  | false =>
                    refine pc_ite (fun _ => ?_) (fun e => absurd rfl e)
                    unfold f_R_week_259
                    refine pc_ite (fun e => absurd e (by decide)) (fun _ => pc_gd (fun _ => pc_lw (fun u17 e17 => pc_let (fun x18 e18 => ?_))))
                    rw [w32_id (show -2147483648 ≤ (i : Int) + 1 ∧ (i : Int) + 1 ≤ 2147483647 by omega)] at e18
                    rw [e18, e17]
                    exact qT c1.2 c2 c3 (by rw [ok_e, c5, c6, c7]; rfl) l rfl
            · rw [if_neg c4]
              refine pc_ite (fun _ => f258 (fun hn => ?_)) (fun e => absurd rfl e)
              have := hn.2
              unfold okc at this
              rw [Bool.and_eq_true, Bool.and_eq_true] at this
              have := (fre_sr this.1.1).1
              omega
        · rw [if_neg c1]
          exact pc_ite (fun _ => f258 (fun hn => c1 ⟨a60.1, hn.1.1⟩)) (fun e => absurd rfl e)
      -- the class finds it wrong
      have wrong : ¬ ((y 60 i < P ∧ gst (s (y 60 i).toNat) = true ∧ a 58 (y 60 i).toNat = -1) ∧ okc P s h kn (a 58) (y 60 i).toNat (y 61 i).toNat = true) → ∀ Q : Int → Wd → Prop, (((i : Int) = -1 → ∀ a', FR58 y a' → GWK P s h kn (a' 58) → (∀ k, k < 10 → mvb (y 60) (y 61) I k = mvs P (a' 58) k) → PRE P (y 60) (y 61) (a' 58) I → PC (if (I : Int) ≤ 0 then f_R_week_305 a' else jcall (f_R_guestsThen a') fun r11 u12 => if r11 ≤ (u12 43 11) then f_R_week_305 u12 else some ((-200), u12)) Q) → (0 ≤ (i : Int) → ∀ a', FR58 y a' → Q (w32 (-100 - i)) a') → PC (f_R_week_152 m (I : Int) (i : Int) a) Q) := fun hn Q _ q2 => ref (fun _ => q2 (by omega) a hy) (fun b1 b2 b3 b4 => absurd ⟨⟨b1, b2, b3⟩, b4⟩ hn)
      have gse : gs P s (y 60 i).toNat = (decide (y 60 i < P) && gst (s (y 60 i).toNat)) := by
        unfold gs inP
        rw [show (((y 60 i).toNat : Nat) : Int) = y 60 i by omega]
      cases hb : (gs P s (y 60 i).toNat && !mvs P (a 58) (y 60 i).toNat) with
      | false =>
        refine pc_ite (fun _ => ?_) (fun c => absurd rfl c)
        unfold f_P_firstWrongPair_48
        refine pc_call (ef_e hw hP h3 hh) (fun r5 u6 q5 => ?_)
        rw [q5.1, show ((i : Int)).toNat = i from rfl, a14]
        refine pc_gd (fun _ => ?_)
        have bz : B10 (iand (iand 0 r5) (ixor v2 (-1))) (fun _ => false) := b10_w (b10_andn (b10_and b10_0 q5.2.2) hB2.2) (fun k _ => by simp)
        rw [has_10 w bz (by omega), jc_s]
        refine pc_ite (fun _ => pc_some ⟨rfl, Or.inr ⟨by omega, by omega⟩, wrong (fun hn => ?_)⟩) (fun c => absurd rfl c)
        obtain ⟨⟨b1, b2, b3⟩, b4⟩ := hn
        rw [gse, decide_eq_true b1, b2] at hb
        have hm : mvs P (a 58) (y 60 i).toNat = true := by
          cases cm : mvs P (a 58) (y 60 i).toNat with
          | true => rfl
          | false => rw [cm] at hb; cases hb
        unfold mvs at hm
        rw [Bool.or_eq_true] at hm
        rcases hm with hm | hm
        · unfold bng at hm
          rw [b3] at hm
          rw [Bool.and_eq_true] at hm
          cases hm.2
        · have := (brn_sr hg hm).2.1
          rw [this] at b2
          cases b2
      | true =>
        refine pc_ite (fun c => absurd c (by decide)) (fun _ => pc_gd (fun _ => ?_))
        rw [Bool.and_eq_true, gse, Bool.and_eq_true, Bool.not_eq_true'] at hb
        obtain ⟨⟨hb1, hb2⟩, hb3⟩ := hb
        have b1 : y 60 i < P := of_decide_eq_true hb1
        have b3 : a 58 (y 60 i).toNat = -1 := by
          unfold mvs at hb3
          rw [Bool.or_eq_false_iff] at hb3
          have := hb3.1
          unfold bng at this
          rw [show inP P (y 60 i).toNat = true from decide_eq_true (by omega)] at this
          cases cb : (a 58 (y 60 i).toNat == -1) with
          | true => exact beq_iff_eq.mp cb
          | false => rw [cb] at this; cases this
        rw [a13]
        refine pc_call (kn1_e (w := w) (i := y 60 i) (by omega) (by omega) (fun j hj => by rw [h7 j (by omega)]; exact hk j (by omega))) (fun r11 u12 q11 => ?_)
        rw [q11.1, q11.2, h7 (y 60 i).toNat (by omega)]
        unfold f_P_firstWrongPair_48
        refine pc_call (ef_e hw hP h3 hh) (fun r5 u6 q5 => ?_)
        rw [q5.1, show ((i : Int)).toNat = i from rfl, a14]
        refine pc_gd (fun _ => ?_)
        have bS := okc_b10 (v := 0) (i := (y 60 i).toNat) (b10_self (hk (y 60 i).toNat (by omega))) q5.2 (b10_w hB2 hmv) hg
        rw [has_10 w bS (by omega), jc_s]
        cases hc : okc P s h kn (a 58) (y 60 i).toNat (y 61 i).toNat with
        | false =>
          refine pc_ite (fun _ => pc_some ⟨rfl, Or.inr ⟨by omega, by omega⟩, wrong (fun hn => by rw [hc] at hn; cases hn.2)⟩) (fun c => absurd rfl c)
        | true =>
          refine pc_ite (fun c => absurd c (by decide)) (fun _ => pc_gd (fun _ => pc_gd (fun _ => pc_let (fun x9 e9 => pc_let (fun x10 e10 => ?_)))))
          rw [w32_id (show -2147483648 ≤ (i : Int) + 1 ∧ (i : Int) + 1 ≤ 2147483647 by omega)] at e10
          rw [a13, a14] at e9
          rw [e10]
          have q61 : 0 ≤ y 61 i ∧ y 61 i < P := by
            have hc2 := hc
            unfold okc at hc2
            rw [Bool.and_eq_true, Bool.and_eq_true] at hc2
            have := (fre_sr hc2.1.1).1
            omega
          have r58 : st a 58 (y 60 i).toNat (y 61 i) 58 = put (a 58) (y 60 i).toNat (y 61 i) := funext fun k => by
            by_cases ck : k = (y 60 i).toNat
            · rw [ck, st_eq, put_i]
            · rw [st_k ck, put_n ck]
          have bx : B10 x9 (mvb (y 60) (y 61) (i + 1)) := by
            rw [e9]
            exact b10_w (b10_or hB2 (b10_or (b10_1 a60) (b10_1 a61))) (fun k _ => rfl)
          intro r u eL
          have nxt := fun l => ih l (i := i + 1) (v2 := x9) (a := st a 58 (y 60 i).toNat (y 61 i)) (by omega) (fun c hc2 => by rw [st_row hc2]; exact hy c hc2) (by rw [r58]; exact gwk_put hg (by omega) b3 hb2 q61 hc) bx (fun k hk2 => by rw [r58, mvb, mvs_put (by omega) q61.1 b3, hmv k hk2]) (by rw [r58]; exact pre_put hpre ⟨a60.1, b1⟩ q61 b3) r u (by rw [show ((i + 1 : Nat) : Int) = (i : Int) + 1 from rfl]; exact eL)
          refine ⟨(nxt 0).1, (nxt 0).2.1, fun Q q1 q2 => ref (fun hn => absurd ⟨⟨b1, hb2, b3⟩, hc⟩ hn) (fun _ _ _ _ l _ => ?_)⟩
          exact (nxt l).2.2 Q q1 q2
/-! A WEEK TOLD: both answer alike -/
def wcc (c k : Nat) : Bool := !(c == 1 || c == 12 || c == 13 || c == 14 || c == 58 || c == 60 || c == 61 || (c == 43 && (k == 13 || (Nat.ble 16 k && Nat.ble k 21))))
def wcr (c : Nat) : Bool := !(c == 1 || c == 12 || c == 13 || c == 14 || c == 58 || c == 60 || c == 61 || c == 43)
theorem wcc_t {c k : Nat} (h : wcc c k = true) : (c ≠ 1 ∧ c ≠ 12 ∧ c ≠ 13 ∧ c ≠ 14) ∧ c ≠ 58 ∧ c ≠ 60 ∧ c ≠ 61 ∧ ¬ (c = 43 ∧ (k = 13 ∨ (16 ≤ k ∧ k ≤ 21))) := by
  unfold wcc at h
  simp only [Bool.not_eq_true', Bool.or_eq_false_iff, Bool.and_eq_false_iff, beq_eq_false_iff_ne] at h
  obtain ⟨⟨⟨⟨⟨⟨⟨h1, h2⟩, h3⟩, h4⟩, h5⟩, h6⟩, h7⟩, h8⟩ := h
  refine ⟨⟨h1, h2, h3, h4⟩, h5, h6, h7, fun ⟨e, hk⟩ => ?_⟩
  rcases h8 with e2 | e2
  · exact e2 e
  · rcases hk with hk | hk
    · exact e2.1 hk
    · rcases e2.2 with e3 | e3
      · rw [Nat.ble_eq_true_of_le hk.1] at e3; cases e3
      · rw [Nat.ble_eq_true_of_le hk.2] at e3; cases e3
theorem wcr_t {c : Nat} (h : wcr c = true) (k : Nat) : wcc c k = true := by
  unfold wcr at h
  unfold wcc
  simp only [Bool.not_eq_true', Bool.or_eq_false_iff, beq_eq_false_iff_ne] at h
  obtain ⟨⟨⟨⟨⟨⟨⟨h1, h2⟩, h3⟩, h4⟩, h5⟩, h6⟩, h7⟩, h8⟩ := h
  simp only [Bool.not_eq_true', Bool.or_eq_false_iff, Bool.and_eq_false_iff, beq_eq_false_iff_ne]
  exact ⟨⟨⟨⟨⟨⟨⟨h1, h2⟩, h3⟩, h4⟩, h5⟩, h6⟩, h7⟩, Or.inl h8⟩
theorem er_week0 {a w a' u : Wd} (h : ER a w) (hE : ∀ c, c ≠ 1 → c ≠ 12 → c ≠ 13 → c ≠ 14 → u c = w c) (h1 : u 1 1 = 0) (hR : ∀ c k, c ≠ 58 → c ≠ 60 → c ≠ 61 → ¬ (c = 43 ∧ (k = 13 ∨ (16 ≤ k ∧ k ≤ 21))) → a' c k = a c k) (h13 : a' 43 13 = 0) : ER a' u := by
  have hc : ∀ c k, wcc c k = true → mx u a' c k = mx w a c k := fun c k hk => by
    have := wcc_t hk
    unfold mx
    by_cases z : c < 43
    · rw [if_pos z, if_pos z, hE c this.1.1 this.1.2.1 this.1.2.2.1 this.1.2.2.2]
    · rw [if_neg z, if_neg z, hR c k this.2.1 this.2.2.1 this.2.2.2.1 this.2.2.2.2]
  have hr : ∀ c, wcr c = true → mx u a' c = mx w a c := fun c hk => funext fun k => hc c k (wcr_t hk k)
  have hco : CO (mx u a') := ct_fr h.1.1 (fr_of wcc hc wcr hr (by decide) (by decide)) (tx_0 h1 h13)
  exact ⟨fc_fr2 h.1 hco (fr_of wcc hc wcr hr (by decide) (by decide)), ru_fr h.2.1 (fr_of wcc hc wcr hr (by decide) (by decide)), cb_fr h.2.2 (fr_of wcc hc wcr hr (by decide) (by decide))⟩
/-- where the reference's reading begins -/
def YP (N : Int) (b y : Wd) : Prop := RW N (b 51) y ∧ y 43 20 = 0 ∧ y 43 21 = -1 ∧ y 43 13 = 0 ∧ ∀ c k, ¬ (c = 43 ∧ (k = 13 ∨ (16 ≤ k ∧ k ≤ 21))) → y c k = b c k
theorem wkR {b : Wd} {Q : Int → Wd → Prop} (hQ : ∀ y, YP (b 43 13) b y → PC (if (y 43 18) ≤ 0 then f_R_week_38 0 0 y else f_R_week_38 0 1 y) Q) : PC (f_R_week b) Q := by
  unfold f_R_week
  refine pc_lw (fun y1 e1 => ?_)
  have y13 : y1 43 13 = b 43 13 := by rw [e1, st_k (by decide)]
  rw [y13]
  unfold f_R_begin1_43_51
  have hbg : PC (jlw (st y1 43 17 52) fun u1 => jlw (st u1 43 18 (b 43 13)) fun u2 => jlw (st u2 43 19 40) fun u3 => jlw (st u3 43 20 0) fun u4 => jlw (st u4 43 21 (-1)) fun u5 => some ((0 : Int), u5)) (fun _ u => u 43 17 = 52 ∧ u 43 18 = b 43 13 ∧ u 43 19 = 40 ∧ u 43 20 = 0 ∧ u 43 21 = -1 ∧ ∀ c k, ¬ (c = 43 ∧ 16 ≤ k ∧ k ≤ 21) → u c k = b c k) := by
    refine pc_lw (fun x1 z1 => ?_)
    refine pc_lw (fun x3 z3 => ?_)
    refine pc_lw (fun x4 z4 => ?_)
    refine pc_lw (fun x5 z5 => ?_)
    refine pc_lw (fun x6 z6 => pc_some ⟨?_, ?_, ?_, ?_, ?_, fun c k hc => ?_⟩)
    · rw [z6, st_k (by decide), z5, st_k (by decide), z4, st_k (by decide), z3, st_k (by decide), z1, st_eq]
    · rw [z6, st_k (by decide), z5, st_k (by decide), z4, st_k (by decide), z3, st_eq]
    · rw [z6, st_k (by decide), z5, st_k (by decide), z4, st_eq]
    · rw [z6, st_k (by decide), z5, st_eq]
    · rw [z6, st_eq]
    · rw [z6]; unfold st; rw [if_neg (by omega), z5]; unfold st; rw [if_neg (by omega), z4]; unfold st; rw [if_neg (by omega), z3]; unfold st; rw [if_neg (by omega), z1]; unfold st; rw [if_neg (by omega), e1]; unfold st; rw [if_neg (by omega)]
  refine pc_call hbg (fun r3 u2 q => ?_)
  obtain ⟨q17, q18, q19, q20, q21, qo⟩ := q
  refine pc_lw (fun y ey => ?_)
  refine hQ y ⟨⟨?_, ?_, ?_, ?_⟩, ?_, ?_, ?_, fun c k hc => ?_⟩
  · rw [ey, st_k (by decide)]; exact q17
  · rw [ey, st_k (by decide)]; exact q18
  · rw [ey, st_k (by decide)]; exact q19
  · rw [ey, st_row (by decide)]; exact funext fun k => qo 51 k (by omega)
  · rw [ey, st_k (by decide)]; exact q20
  · rw [ey, st_k (by decide)]; exact q21
  · rw [ey, st_eq]
  · rw [ey]; unfold st; rw [if_neg (by omega)]; exact qo c k (by omega)
theorem rd_2 {N : Int} {w b : Wd} (hN : 0 ≤ N) (h1 : w 1 1 = N) (h13 : b 43 13 = N) (hSH : SH (sL N (w 2)) (hx N (b 51)) N) (hf0 : ∀ k : Nat, (k : Int) < N → 0 ≤ w 2 k) : PC (f_P_read w) (fun r u => ∀ y, YP N b y → ∀ Q : Int → Wd → Prop, (∀ i' a', WR w y N r u i' a' → PC (f_R_week_100 i' a') Q) → PC (if (y 43 18) ≤ 0 then f_R_week_38 0 0 y else f_R_week_38 0 1 y) Q) := by
  unfold f_P_read f_P_clear
  refine pc_call (P := fun _ u => u 12 2 = 0 ∧ u 12 3 = 0 ∧ ∀ d, d ≠ 12 → u d = w d) ?_ (fun r1 x q => ?_)
  · refine pc_lw (fun u1 e1 => ?_)
    refine pc_lw (fun u2 e2 => pc_some ⟨?_, ?_, fun d hd => ?_⟩)
    · rw [e2, st_k (by decide), e1, st_eq]
    · rw [e2, st_eq]
    · rw [e2, st_row hd, e1, st_row hd]
  obtain ⟨x2, x3, xo⟩ := q
  have hxx : EXr w x := fun d d1 _ _ => xo d d1
  have arr0 : ∀ y, ARR 0 x y := fun y => ⟨x2, by rw [x3]; exact b10_0, fun j hj => by omega⟩
  rw [xo 1 (by decide), h1]
  refine pc_ite (fun z => pc_some (fun y hy Q hQ => ?_)) (fun z => ?_)
  · have e18 : y 43 18 = N := hy.1.2.1
    refine pc_ite (fun _ => ?_) (fun c => absurd (by omega) c)
    have hh := hQ 0 y ⟨hxx, fun _ _ _ _ _ => rfl, Or.inl ⟨rfl, hy.2.2.1, by rw [hy.2.1]; omega, 0, rfl, by decide, arr0 y⟩⟩
    unfold f_R_week_38
    have any : ∀ m : Nat, PC (f_R_week_39 m 0 0 y) Q := fun m => by
      cases m with
      | zero => exact pc_none
      | succ m => rw [f_R_week_39, if_pos rfl]; exact hh
    exact any FU
  · intro r u eL y hy Q hQ
    have e18 : y 43 18 = N := hy.1.2.1
    refine pc_ite (fun c => absurd c (by omega)) (fun _ => ?_)
    have := wk_read (N := N) (f0 := w 2) (f1 := b 51) x y hN hSH hf0 (by rw [xo 1 (by decide)]; exact h1) (xo 2 (by decide)) hy.1 FU FU (i := 0) (w := x) (a := y) (by decide) (fun _ _ _ _ => rfl) (fun _ _ _ _ _ => rfl) hy.2.1 hy.2.2.1 (arr0 y) r u eL Q
    unfold f_R_week_38
    refine this (fun i' a' hW => hQ i' a' ⟨fun d d1 d2 d3 => (hW.1 d d1 d2 d3).trans (hxx d d1 d2 d3), hW.2⟩)
theorem k_week {w : Wd} (h : LU w) : OK (f_E_week w) (fun r1 u1 => OK (f_R_week u1) (fun r2 u2 => LU u2 ∧ r1 = r2)) := by
  obtain ⟨r1, u1, eE, g1, s1, _⟩ := e_E_week h.1.1
  refine ⟨r1, u1, eE, ?_⟩
  obtain ⟨r2, u2, eR, g2, s2, _, _⟩ := e_R_week s1
  refine ⟨r2, u2, eR, ?_⟩
  have h1 := lu_er h (g_hi g1 (by decide))
  have a11 : (0 : Int) ≤ w 1 1 ∧ w 1 1 ≤ 80 := h.1.1.1.1 1 1
  have a2 : ∀ k, (0 : Int) ≤ w 2 k ∧ w 2 k ≤ 65535 := fun k => h.1.1.1.1 2 k
  have hTX : TX (mx w u1) := h1.1.1.1
  have tN : w 1 1 = u1 43 13 := hTX.1
  have tK : ∀ k : Nat, (k : Int) < u1 43 13 → w 2 k ≤ 255 ∧ u1 51 k = (if w 2 k ≤ 127 then w 2 k else w 2 k - 256) := hTX.2
  have hSH : SH (sL (u1 43 13) (w 2)) (hx (u1 43 13) (u1 51)) (u1 43 13) := sh_tx (fun k hk => ⟨(a2 k).1, (tK k hk).1⟩) (fun k hk => (tK k hk).2)
  have key : PC (f_E_week w) (fun r u => PC (f_R_week u1) (fun r' a' => r = r' ∧ ER a' u)) := by
    unfold f_E_week
    refine pc_call (rd_2 (w := w) (b := u1) (by omega) tN rfl hSH (fun k _ => (a2 k).1)) (fun q1 q2 hRd => ?_)
    unfold f_T_clear
    refine pc_call (P := fun _ u => u = st q2 1 1 0) (pc_lw (fun u1 e1 => pc_some e1)) (fun q3 q4 e4 => ?_)
    -- what stays, in whichever way it goes
    have stay : ∀ {y a'' : Wd}, YP (u1 43 13) u1 y → EXr w q2 → (∀ c k, c ≠ 58 → c ≠ 60 → c ≠ 61 → ¬ (c = 43 ∧ (k = 20 ∨ k = 21)) → a'' c k = y c k) → ER a'' q4 := fun hy hx1 hx2 => by
      refine er_week0 h1 (fun c c1 c2 c3 c4 => by rw [e4, st_row c1]; exact hx1 c c2 c3 c4) (by rw [e4, st_eq]) (fun c k c1 c2 c3 hc => ?_) ?_
      · rw [hx2 c k c1 c2 c3 (by omega)]
        exact hy.2.2.2.2 c k hc
      · rw [hx2 43 13 (by decide) (by decide) (by decide) (by decide)]
        exact hy.2.2.2.1
    by_cases hneg : 0 ≤ q1
    · rw [if_pos hneg]
      have x15 : ∀ {y a'' : Wd}, ER a'' q4 → q4 15 3 = a'' 43 8 := fun hh => hh.1.2.2.2.2.1.2.1
      by_cases h60 : q4 15 3 < 60
      · rw [if_pos h60]
        refine pc_call (pc_eq (f_P_firstWrongPair q4)) (fun r5 u6 eW => ?_)
        intro r u eL
        refine wkR (fun y hy => hRd y hy _ (fun i' a' hWR => ?_))
        obtain ⟨hx1, hx2, hcase⟩ := hWR
        rcases hcase with ⟨_, e21, e20, I, eI, hI, hARR⟩ | ⟨hlt, _⟩
        · have h18 : a' 43 18 = u1 43 13 := by
            rw [hx2 43 18 (by decide) (by decide) (by decide)]; exact hy.1.2.1
          have er1 : ER a' q4 := stay hy hx1 (fun c k _ c2 c3 c4 => hx2 c k c2 c3 c4)
          have e8 : q4 15 3 = a' 43 8 := er1.1.2.2.2.2.1.2.1
          rw [eI]
          unfold f_R_week_100
          rw [if_pos (by omega)]
          unfold f_R_week_119
          rw [fine_e, if_pos e21, jc_s, if_neg (by decide), if_neg (show ¬ a' 43 8 = 60 by omega)]
          unfold f_R_nobody
          refine pc_call (nob_pc a' FU (v1 := 0) (by decide) (by decide) (fun _ _ _ => rfl) (fun k hk => by omega)) (fun r7 y2 hn => ?_)
          have er2 : ER y2 q4 := stay hy hx1 (fun c k c1 c2 c3 c4 => (hn.1 c k c1).trans (hx2 c k c2 c3 c4))
          obtain ⟨hF, hU, hC⟩ := er2
          obtain ⟨fCO, fPP, fHB, fWH, fN, f16, fSN, fUB, fK1, fK2, fg, fs⟩ := hF
          have x0 : 0 ≤ y2 43 0 ∧ y2 43 0 ≤ 10 := hC.1
          have x3 : q4 5 3 = y2 43 0 := fCO.2.1
          have x7g : q4 5 7 = y2 43 10 := fCO.2.2.1.1
          have x8 : q4 5 8 = y2 43 11 := fCO.2.2.1.2
          have xg : 1 ≤ y2 43 10 ∧ y2 43 10 ≤ 3 := fg
          have xW : WH (q4 5 4) (y2 47) (y2 43 0) := fWH
          have xH : B10 (q4 5 5) (hB (y2 43 0) (y2 46)) := fHB
          have xp : ∀ j : Nat, (j : Int) < y2 43 0 → q4 6 j = y2 44 j ∧ q4 7 j = y2 45 j ∧ q4 8 j = y2 48 j := fPP
          have xk : ∀ j : Nat, (j : Int) < y2 43 0 → 0 ≤ y2 45 j ∧ y2 45 j ≤ 1023 := hC.2.2.2.1
          have r60 : y2 60 = a' 60 := funext fun k => hn.1 60 k (by decide)
          have r61 : y2 61 = a' 61 := funext fun k => hn.1 61 k (by decide)
          have hg0 : GWK (y2 43 0) (y2 47) (y2 46) (y2 45) (y2 58) := gwk_0 (fun i hi => hn.2 i (by omega))
          obtain ⟨A1, A2, A3⟩ := hARR
          have q12 : q4 12 = q2 12 := by rw [e4, st_row (by decide)]
          have q13 : q4 13 = q2 13 := by rw [e4, st_row (by decide)]
          have q14 : q4 14 = q2 14 := by rw [e4, st_row (by decide)]
          have chk := wk_chk (w := q4) (y := y2) (I := I) hI x0 rfl rfl rfl rfl xW x3 xH (fun j hj => (xp j hj).2.1) xk (by rw [q12]; exact A1) (fun j hj => by rw [q13, q14, r60, r61]; exact A3 j hj) FU FU (i := 0) (v2 := 0) (a := y2) (by omega) (fun _ _ => rfl) hg0 b10_0 (fun k hk => by
            have e1 : brn (y2 58) (y2 43 0).toNat k = false := brn_f (fun i hi e => by
              rw [hn.2 i (by omega)] at e
              omega)
            unfold mvs bng
            rw [e1]
            by_cases ck : (k : Int) < y2 43 0
            · rw [hn.2 k (by omega)]
              cases inP (y2 43 0) k <;> rfl
            · rw [show inP (y2 43 0) k = false from decide_eq_false ck]; rfl) ⟨fun j hj => by omega, fun a ha hv => absurd (hn.2 a (by omega)) hv, fun j l hj => by omega⟩ r5 u6 eW
          obtain ⟨eu6, hr5, hC2⟩ := chk
          subst eu6
          have erOf : ∀ a3, FR58 y2 a3 → ER a3 u6 := fun a3 hf => er_choose ⟨⟨fCO, fPP, fHB, fWH, fN, f16, fSN, fUB, fK1, fK2, fg, fs⟩, hU, hC⟩ (fun _ _ _ _ _ => rfl) (fun c k c1 _ => by rw [hf c c1])
          refine hC2 _ (fun em a3 hf hg3 hmv hpre => ?_) (fun e0 a3 hf => ?_)
          · have er3 := erOf a3 hf
            have z0 : a3 43 0 = y2 43 0 := by rw [hf 43 (by decide)]
            have z43 : a3 43 = y2 43 := hf 43 (by decide)
            rw [r60, r61] at hmv hpre
            have hPL : PLm (a3 43 0) (a3 58) I u6 := by
              rw [z0]
              refine ⟨by rw [q12]; exact A1, by rw [q12]; exact b10_w A2 hmv, fun i hi => ?_, fun a ha hv => ?_, fun i j hi hj e => ?_⟩
              · rw [q13, q14, (A3 i hi).1.1, (A3 i hi).1.2]; exact hpre.1 i hi
              · obtain ⟨j, hj, e⟩ := hpre.2.1 a ha hv
                exact ⟨j, hj, by rw [q13, (A3 j hj).1.1]; exact e⟩
              · rw [q13, (A3 i hi).1.1, (A3 j hj).1.1] at e
                exact hpre.2.2 i j hi hj e
            have hGW : GWK (a3 43 0) (a3 47) (a3 46) (a3 45) (a3 58) := by
              rw [z0, hf 47 (by decide), hf 46 (by decide), hf 45 (by decide)]; exact hg3
            have hPN : PLN a3 u6 := ⟨I, hI, hPL, hGW⟩
            have h59 : a3 43 8 ≤ 59 := by
              have : u6 15 3 = a3 43 8 := er3.1.2.2.2.2.1.2.1
              omega
            rw [if_pos (show r5 < 0 by omega), hPL.1] at eL
            have fin : ∀ {r u : _}, f_E_week_100 u6 = some (r, u) → PC (f_R_week_305 a3) (fun r' a' => r = r' ∧ ER a' u) := fun {r u} e => by
              unfold f_R_week_305
              have e2 : f_E_pass u6 = some (r, u) := by
                unfold f_E_week_100 at e
                cases c : f_E_pass u6 with
                | none => rw [c] at e; cases e
                | some o => rw [c] at e; exact e
              refine pc_call (pc_eq (f_R_goWeek a3)) (fun r9 u10 e3 => pc_some ?_)
              have := er_pass er3 hPN h59 _ _ _ _ e2 e3
              exact ⟨this.1, this.2.1⟩
            by_cases cI : (I : Int) ≤ 0
            · rw [if_pos cI] at eL
              rw [if_pos cI]
              exact fin eL
            · rw [if_neg cI] at eL
              rw [if_neg cI]
              have hga := ega_e (w := u6) (P := y2 43 0) (s := y2 47) (mv := mvs (y2 43 0) (a3 58)) xW (by rw [x7g]; exact xg.2) (by rw [← z0]; exact hPL.2.1)
              have hgp := gth_pn (g := y2 43 10) x0 hg3
              have hgt := gthen_pc (w := a3) (by rw [z0]; exact x0) (fun i hi => by rw [hf 47 (by decide)]; exact xW.2.2 i (by rw [z0] at hi; exact hi))
              refine pc_call hgt (fun r11 u12 y3 => ?_)
              rw [y3.1, y3.2, z43, hf 47 (by decide), ← hgp]
              have main : PC (jcall (f_F_guestsAfter (u6 12 3) u6) fun r9 u10 => if r9 ≤ (u10 5 8) then f_E_week_100 u10 else some ((-200), u10)) (fun r u => PC (if ((pn (fun k => sty (y2 43 0) (y2 47) (y2 43 10) k || mvs (y2 43 0) (a3 58) k) 10 : Nat) : Int) ≤ y2 43 11 then f_R_week_305 a3 else some ((-200), a3)) (fun r' a' => r = r' ∧ ER a' u)) := by
                refine pc_call hga (fun r9 u10 y4 => ?_)
                rw [y4.1, y4.2, x7g, x8]
                by_cases cc : ((pn (fun k => sty (y2 43 0) (y2 47) (y2 43 10) k || mvs (y2 43 0) (a3 58) k) 10 : Nat) : Int) ≤ y2 43 11
                · rw [if_pos cc, if_pos cc]
                  intro r u e
                  exact fin e
                · rw [if_neg cc, if_neg cc]
                  exact pc_some (pc_some ⟨rfl, er3⟩)
              exact main r u eL
          · rw [if_neg (show ¬ r5 < 0 by omega)] at eL
            cases eL
            exact ⟨rfl, erOf a3 hf⟩
        · omega
      · rw [if_neg h60]
        refine pc_some (wkR (fun y hy => hRd y hy _ (fun i' a' hWR => ?_)))
        obtain ⟨hx1, hx2, hcase⟩ := hWR
        rcases hcase with ⟨_, e21, e20, I, eI, hI, hARR⟩ | ⟨hlt, _⟩
        · have h18 : a' 43 18 = u1 43 13 := by
            rw [hx2 43 18 (by decide) (by decide) (by decide)]; exact hy.1.2.1
          have er1 : ER a' q4 := stay hy hx1 (fun c k _ c2 c3 c4 => hx2 c k c2 c3 c4)
          have e8 : q4 15 3 = a' 43 8 := er1.1.2.2.2.2.1.2.1
          have e8r : 0 ≤ a' 43 8 ∧ a' 43 8 ≤ 60 := er1.2.2.2.2.2.2.1
          unfold f_R_week_100
          rw [if_pos (by omega)]
          unfold f_R_week_119
          rw [fine_e, if_pos e21, jc_s, if_neg (by decide), if_pos (show a' 43 8 = 60 by omega)]
          exact pc_some ⟨rfl, er1⟩
        · omega
    · rw [if_neg hneg]
      refine pc_some (wkR (fun y hy => hRd y hy _ (fun i' a' hWR => ?_)))
      obtain ⟨hx1, hx2, hcase⟩ := hWR
      rcases hcase with ⟨e0, _⟩ | ⟨hlt, hb1, hb2, hc⟩
      · omega
      · have h18 : a' 43 18 = u1 43 13 := by
          rw [hx2 43 18 (by decide) (by decide) (by decide)]; exact hy.1.2.1
        have er1 : ER a' q4 := stay hy hx1 (fun c k _ c2 c3 c4 => hx2 c k c2 c3 c4)
        have fin : ∀ a3 : Wd, a3 43 21 = -1 - q1 → ER a3 q4 → PC (f_R_week_119 i' a3) (fun r' a' => q1 = r' ∧ ER a' q4) := fun a3 e21 her => by
          unfold f_R_week_119
          rw [fine_e, if_neg (by omega), jc_s, if_pos rfl, e21]
          exact pc_some ⟨by rw [w32_id (by omega)]; omega, her⟩
        unfold f_R_week_100
        refine pc_ite (fun c => ?_) (fun c => ?_)
        · rcases hc with e | ⟨e1, e2, e3⟩
          · exact fin a' e er1
          · omega
        · refine pc_call (fl_pc a' _) (fun r33 u34 e34 => ?_)
          rcases hc with e | ⟨e1, e2, e3⟩
          · rw [if_neg (by omega)] at e34
            rw [e34]; exact fin a' e er1
          · rw [if_pos e1] at e34
            refine fin u34 (by rw [e34, st_eq]; exact e3) (stay hy hx1 (fun c k _ c2 c3 c4 => ?_))
            rw [e34]; unfold st; rw [if_neg (by omega)]
            exact hx2 c k c2 c3 c4
  obtain ⟨er, hf⟩ := key r1 u1 eE r2 u2 eR
  exact ⟨er_lu hf (g_lo g2 (by decide)) s2, er⟩
