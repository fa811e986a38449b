/-! A WEEK GOES BY: the reference -/
theorem sms_add {f : Nat → Bool} {g : Nat → Int} {v : Int} : ∀ {n : Nat}, v.toNat < n → 0 ≤ v → f v.toNat = false → sms (fun q => if (f q || (v == (q : Int))) = true then g q else 0) n = sms (fun q => if f q = true then g q else 0) n + g v.toNat := by
  intro n
  induction n with
  | zero => intro h; omega
  | succ n ih =>
    intro hv h0 hf
    rw [sms, sms]
    by_cases c : n = v.toNat
    · have h1 : sms (fun q => if (f q || (v == (q : Int))) = true then g q else 0) n = sms (fun q => if f q = true then g q else 0) n := sms_eq (fun j hj => by
        rw [beq_eq_false_iff_ne.mpr (show ¬ v = (j : Int) by omega), Bool.or_false])
      have h2 : (v == (n : Int)) = true := beq_iff_eq.mpr (by omega)
      rw [h1, h2, c, hf]
      simp
    · rw [ih (by omega) h0 hf, beq_eq_false_iff_ne.mpr (show ¬ v = (n : Int) by omega), Bool.or_false]
      omega
theorem sms_rg2 {f : Nat → Bool} {g : Nat → Int} (h : ∀ j, 0 ≤ g j ∧ g j ≤ 9) (n : Nat) : 0 ≤ sms (fun q => if f q = true then g q else 0) n ∧ sms (fun q => if f q = true then g q else 0) n ≤ 9 * n := by
  refine sms_rg (fun j => ?_) n
  by_cases c : f j = true
  · rw [if_pos c]; exact h j
  · rw [if_neg c]; omega
theorem lay_fr {v2 : Int} : ∀ (n : Nat) {w : Wd} {v3 : Int}, PC (f_R_lay_43_59_2 n v2 v3 w) (fun _ u => ∀ c, c ≠ 59 → u c = w c) := by
  intro n
  induction n with
  | zero => intros; exact pc_none
  | succ n ih =>
    intro w v3
    rw [f_R_lay_43_59_2]
    refine pc_ite (fun _ => ?_) (fun _ => ?_)
    · refine pc_gd (fun _ => pc_lw (fun u1 e1 => pc_some (fun c hc => by rw [e1, st_row hc])))
    · refine pc_gd (fun _ => pc_gd (fun _ => pc_lw (fun u2 e2 => ?_)))
      refine pc_gd (fun _ => pc_gd (fun _ => pc_lw (fun u3 e3 => ?_)))
      refine pc_gd (fun _ => pc_gd (fun _ => pc_lw (fun u4 e4 => ?_)))
      refine pc_let (fun x5 _ => ?_)
      exact pc_w ih (fun _ u y c hc => by rw [y c hc, e4, st_row hc, e3, st_row hc, e2, st_row hc])
/-- who stays one more week, who goes home, who is busy -/
def mid (s bg : Nat → Int) (g : Int) (i j : Nat) : Int := if j < i ∧ gst (s j) = true then (if bg j = -1 then (if s j < g then s j + 1 else 4) else 1) else s j
theorem mid_nis {P g : Int} {s bg : Nat → Int} {j : Nat} (hj : (j : Int) < P) (hg : ∀ i : Nat, (i : Int) < P → bg i ≠ -1 → gst (s i) = true) : (if brn bg P.toNat j = true then 1 else mid s bg g P.toNat j) = nis P s g (mvs P bg) j := by
  unfold nis mvs bng mid
  rw [show inP P j = true from decide_eq_true hj]
  cases hb : brn bg P.toNat j with
  | true =>
    rw [if_pos rfl, if_pos (by simp)]
  | false =>
    rw [if_neg (by decide)]
    by_cases c : bg j = -1
    · have e1 : ((true && !(bg j == -1)) || false) = false := by rw [c]; rfl
      rw [if_neg (show ¬ ((true && !(bg j == -1)) || false) = true by rw [e1]; decide)]
      cases hs : gst (s j) with
      | true => rw [if_pos ⟨by omega, rfl⟩, if_pos c, if_pos rfl]
      | false => rw [if_neg (fun h => by cases h.2), if_neg (by decide)]
    · have e1 : ((true && !(bg j == -1)) || false) = true := by rw [beq_eq_false_iff_ne.mpr c]; rfl
      rw [if_pos e1, if_pos ⟨by omega, hg j hj c⟩, if_neg c]
/-- the second half -/
theorem gy164 {P v1 v2 : Int} {s : Nat → Int} {f : Nat → Bool} (x : Wd) (hP : 0 ≤ P ∧ P ≤ 10) (h0 : x 43 0 = P) (hB : B10 v2 f) : ∀ (n : Nat) {w : Wd} {v3 : Int}, 0 ≤ v3 → v3 ≤ P → (∀ c, c ≠ 47 → w c = x c) → (∀ j : Nat, (j : Int) < P → w 47 j = if (j : Int) < v3 ∧ f j = true then 1 else s j) → PC (f_R_goWeek_164 n v1 v2 v3 w) (fun r u => r = v1 ∧ (∀ j : Nat, (j : Int) < P → u 47 j = if f j = true then 1 else s j) ∧ B10 (u 50 (x 43 8).toNat) (gs P (u 47)) ∧ (∀ t, t ≠ (x 43 8).toNat → u 50 t = x 50 t) ∧ u 43 7 = w32 (x 43 7 + v1) ∧ ∀ c k, c ≠ 47 → c ≠ 50 → ¬ (c = 43 ∧ k = 7) → u c k = x c k) := by
  intro n
  induction n with
  | zero => intros; exact pc_none
  | succ n ih =>
    intro w v3 i0 i1 hx hd
    have r43 : w 43 = x 43 := hx 43 (by decide)
    rw [f_R_goWeek_164, r43, h0]
    refine pc_ite (fun z => ?_) (fun z => ?_)
    · have e : v3 = P := by omega
      refine pc_call (rg_e (w := w) (by rw [r43]; omega)) (fun r7 u8 q => ?_)
      rw [q.1]
      refine pc_gd (fun _ => ?_)
      refine pc_lw (fun u9 e9 => ?_)
      refine pc_lw (fun u10 e10 => pc_some ⟨rfl, fun j hj => ?_, ?_, fun t ht => ?_, ?_, fun c k h47 h50 h7 => ?_⟩)
      · rw [e10, st_c (by decide), e9, st_c (by decide), hd j hj, e]
        by_cases c : f j = true
        · rw [if_pos ⟨hj, c⟩, if_pos c]
        · rw [if_neg (fun h => c h.2), if_neg c]
      · have e47 : u10 47 = w 47 := by rw [e10, st_row (by decide), e9, st_row (by decide)]
        have := q.2
        rw [r43, h0] at this
        rw [e47, e10, st_c (by decide), e9, st_eq]
        exact this
      · rw [e10, st_c (by decide), e9, st_k ht, hx 50 (by decide)]
      · rw [e10, st_eq, e9, st_c (by decide), r43]
      · rw [e10]; unfold st; rw [if_neg h7, e9]; unfold st; rw [if_neg (fun h => h50 h.1), hx c h47]
    · rw [hasR_10 w hB (by omega), jc_s]
      have nx : ∀ {u : Wd}, (∀ c, c ≠ 47 → u c = x c) → (∀ j : Nat, (j : Int) < P → u 47 j = if (j : Int) < v3 + 1 ∧ f j = true then 1 else s j) → PC (f_R_goWeek_187 (f_R_goWeek_164 n) v1 v2 v3 u) (fun r u => r = v1 ∧ (∀ j : Nat, (j : Int) < P → u 47 j = if f j = true then 1 else s j) ∧ B10 (u 50 (x 43 8).toNat) (gs P (u 47)) ∧ (∀ t, t ≠ (x 43 8).toNat → u 50 t = x 50 t) ∧ u 43 7 = w32 (x 43 7 + v1) ∧ ∀ c k, c ≠ 47 → c ≠ 50 → ¬ (c = 43 ∧ k = 7) → u c k = x c k) := by
        intro u hu hd2
        unfold f_R_goWeek_187
        refine pc_let (fun x5 e5 => ?_)
        rw [wsucc (P := P) (by omega) (by omega)] at e5
        rw [e5]
        exact ih (by omega) (by omega) hu hd2
      cases hb : f v3.toNat with
      | false =>
        refine pc_ite (fun _ => ?_) (fun c => absurd rfl c)
        refine nx hx (fun j hj => ?_)
        rw [hd j hj]
        by_cases c : f j = true
        · have : (j : Int) ≠ v3 := fun e => by
            rw [show j = v3.toNat by omega, hb] at c; cases c
          by_cases c2 : (j : Int) < v3
          · rw [if_pos ⟨c2, c⟩, if_pos ⟨by omega, c⟩]
          · rw [if_neg (fun h => c2 h.1), if_neg (fun h => by have := h.1; omega)]
        · rw [if_neg (fun h => c h.2), if_neg (fun h => c h.2)]
      | true =>
        refine pc_ite (fun c => absurd c (by decide)) (fun _ => ?_)
        refine pc_gd (fun _ => ?_)
        refine pc_lw (fun u14 e14 => ?_)
        refine nx (fun c hc => by rw [e14, st_row hc]; exact hx c hc) (fun j hj => ?_)
        rw [e14]
        by_cases ck : j = v3.toNat
        · rw [ck, st_eq, if_pos ⟨by omega, hb⟩]
        · rw [st_k ck, hd j hj]
          by_cases c2 : (j : Int) < v3
          · by_cases c : f j = true
            · rw [if_pos ⟨c2, c⟩, if_pos ⟨by omega, c⟩]
            · rw [if_neg (fun h => c h.2), if_neg (fun h => c h.2)]
          · rw [if_neg (fun h => c2 h.1), if_neg (fun h => by have := h.1; omega)]
/-- what a WEEK makes of the reference's world -/
def GQ (P : Int) (x : Wd) (r : Int) (u : Wd) : Prop := r = sms (fun q => if brn (x 58) P.toNat q = true then x 44 q else 0) P.toNat ∧ (∀ j : Nat, (j : Int) < P → u 47 j = nis P (x 47) (x 43 10) (mvs P (x 58)) j) ∧ (∀ q : Nat, u 48 q = (if brn (x 58) P.toNat q = true then byo (x 58) P.toNat q else x 48 q) ∧ u 49 q = if brn (x 58) P.toNat q = true then x 43 8 else x 49 q) ∧ B10 (u 50 (x 43 8).toNat) (gs P (u 47)) ∧ (∀ t, t ≠ (x 43 8).toNat → u 50 t = x 50 t) ∧ u 43 7 = w32 (x 43 7 + r) ∧ ∀ c k, c ≠ 47 → c ≠ 48 → c ≠ 49 → c ≠ 50 → ¬ (c = 43 ∧ k = 7) → u c k = x c k
theorem gy44 {P v2 : Int} (x : Wd) (hP : 0 ≤ P ∧ P ≤ 10) (h0 : x 43 0 = P) (hB : B10 v2 (brn (x 58) P.toNat)) (hI : INJ P.toNat (x 58)) (hg : ∀ i : Nat, (i : Int) < P → x 58 i = -1 ∨ ((0 ≤ x 58 i ∧ x 58 i < P) ∧ gst (x 47 i) = true)) (hs : ∀ j : Nat, (j : Int) < P → 0 ≤ x 47 j ∧ x 47 j ≤ 4) (h44 : ∀ j, 0 ≤ x 44 j ∧ x 44 j ≤ 9) : ∀ (n : Nat) {w : Wd} {v1 v3 : Int}, 0 ≤ v3 → v3 ≤ P → (∀ c, c ≠ 47 → c ≠ 48 → c ≠ 49 → w c = x c) → (∀ j : Nat, w 47 j = mid (x 47) (x 58) (x 43 10) v3.toNat j) → (∀ q : Nat, w 48 q = (if brn (x 58) v3.toNat q = true then byo (x 58) v3.toNat q else x 48 q) ∧ w 49 q = if brn (x 58) v3.toNat q = true then x 43 8 else x 49 q) → v1 = sms (fun q => if brn (x 58) v3.toNat q = true then x 44 q else 0) P.toNat → PC (f_R_goWeek_44 n v1 v2 v3 w) (fun r u => GQ P x r u) := by
  intro n
  induction n with
  | zero => intros; exact pc_none
  | succ n ih =>
    intro w v1 v3 i0 i1 hx h47 h48 hv
    have r43 : w 43 = x 43 := hx 43 (by decide) (by decide) (by decide)
    have r58 : w 58 = x 58 := hx 58 (by decide) (by decide) (by decide)
    have r44 : w 44 = x 44 := hx 44 (by decide) (by decide) (by decide)
    rw [f_R_goWeek_44, r43, h0]
    refine pc_ite (fun z => ?_) (fun z => ?_)
    · have e : v3 = P := by omega
      subst e
      refine pc_w (gy164 (s := fun j => mid (x 47) (x 58) (x 43 10) v3.toNat j) w hP (by rw [r43]; exact h0) hB FU (v3 := 0) (by decide) hP.1 (fun _ _ => rfl) (fun j hj => by rw [if_neg (fun h => by have := h.1; omega)]; exact h47 j)) (fun r u y => ?_)
      obtain ⟨y1, y2, y3, y4, y5, y6⟩ := y
      rw [r43] at y3 y4 y5
      refine ⟨by rw [y1]; exact hv, fun j hj => ?_, fun q => ?_, y3, fun t ht => by rw [y4 t ht, hx 50 (by decide) (by decide) (by decide)], by rw [y5, y1], fun c k c1 c2 c3 c4 c5 => by rw [y6 c k c1 c4 c5, hx c c1 c2 c3]⟩
      · rw [y2 j hj]
        exact mid_nis hj (fun i hi hn => by
          rcases hg i hi with e | e
          · exact absurd e hn
          · exact e.2)
      · rw [y6 48 q (by decide) (by decide) (by omega), y6 49 q (by decide) (by decide) (by omega)]
        exact h48 q
    · refine pc_gd (fun _ => ?_)
      have em : mid (x 47) (x 58) (x 43 10) v3.toNat v3.toNat = x 47 v3.toNat := by
        unfold mid
        rw [if_neg (fun h => by have := h.1; omega)]
      rw [isG_e, jc_s, h47, em, r58]
      have e3 : (v3 + 1).toNat = v3.toNat + 1 := by omega
      have ems : ∀ j, j ≠ v3.toNat → mid (x 47) (x 58) (x 43 10) (v3.toNat + 1) j = mid (x 47) (x 58) (x 43 10) v3.toNat j := fun j hj => by
        unfold mid
        by_cases c : j < v3.toNat ∧ gst (x 47 j) = true
        · rw [if_pos c, if_pos ⟨by omega, c.2⟩]
        · rw [if_neg c, if_neg (fun h => c ⟨by omega, h.2⟩)]
      have nx : ∀ {u : Wd} {a : Int}, (∀ c, c ≠ 47 → c ≠ 48 → c ≠ 49 → u c = x c) → (∀ j : Nat, u 47 j = mid (x 47) (x 58) (x 43 10) (v3.toNat + 1) j) → (∀ q : Nat, u 48 q = (if brn (x 58) (v3.toNat + 1) q = true then byo (x 58) (v3.toNat + 1) q else x 48 q) ∧ u 49 q = if brn (x 58) (v3.toNat + 1) q = true then x 43 8 else x 49 q) → a = sms (fun q => if brn (x 58) (v3.toNat + 1) q = true then x 44 q else 0) P.toNat → PC (f_R_goWeek_156 (f_R_goWeek_44 n) a v2 v3 u) (fun r u => GQ P x r u) := by
        intro u a a1 a2 a3 a4
        unfold f_R_goWeek_156
        refine pc_let (fun x5 e5 => ?_)
        rw [wsucc (P := P) (by omega) (by omega)] at e5
        rw [e5]
        exact ih (by omega) (by omega) a1 (by rw [e3]; exact a2) (by rw [e3]; exact a3) (by rw [e3]; exact a4)
      have hgi := hg v3.toNat (by omega)
      -- nobody is brought by this one
      have none1 : x 58 v3.toNat = -1 → (∀ q : Nat, brn (x 58) (v3.toNat + 1) q = brn (x 58) v3.toNat q) ∧ ∀ q : Nat, byo (x 58) (v3.toNat + 1) q = byo (x 58) v3.toNat q := fun e => by
        refine ⟨fun q => ?_, fun q => ?_⟩
        · rw [brn, e, beq_eq_false_iff_ne.mpr (show ¬ (-1 : Int) = (q : Int) by omega), Bool.or_false]
        · rw [byo, if_neg (by rw [e]; omega)]
      cases hb : gst (x 47 v3.toNat) with
      | false =>
        have e1 : x 58 v3.toNat = -1 := by
          rcases hgi with e | e
          · exact e
          · rw [hb] at e; cases e.2
        refine pc_ite (fun _ => ?_) (fun c => absurd rfl c)
        obtain ⟨n1, n2⟩ := none1 e1
        refine nx hx (fun j => ?_) (fun q => ?_) ?_
        · by_cases c : j = v3.toNat
          · rw [h47, c, em]
            unfold mid
            rw [if_neg (fun h => by rw [hb] at h; cases h.2)]
          · rw [ems j c]; exact h47 j
        · rw [n1, n2]; exact h48 q
        · rw [hv]; exact sms_eq (fun j _ => by rw [n1])
      | true =>
        refine pc_ite (fun c => absurd c (by decide)) (fun _ => ?_)
        refine pc_gd (fun _ => ?_)
        have sr := hs v3.toNat (by omega)
        refine pc_ite (fun e1 => ?_) (fun e1 => ?_)
        · obtain ⟨n1, n2⟩ := none1 e1
          refine pc_gd (fun _ => pc_gd (fun _ => pc_lw (fun u23 e23 => pc_gd (fun _ => ?_))))
          have w1 := w32_sp (x 47 v3.toNat + 1)
          have w2 := w32_sp (w32 (x 47 v3.toNat + 1) - 1)
          have ek : u23 47 v3.toNat = x 47 v3.toNat + 1 := by rw [e23, st_eq]; omega
          have e10 : u23 43 10 = x 43 10 := by rw [e23, st_c (by decide), r43]
          have w3 := w32_sp (u23 47 v3.toNat - 1)
          have hmi : mid (x 47) (x 58) (x 43 10) (v3.toNat + 1) v3.toNat = if x 47 v3.toNat < x 43 10 then x 47 v3.toNat + 1 else 4 := by
            unfold mid
            rw [if_pos ⟨by omega, hb⟩, if_pos e1]
          refine pc_ite (fun c => ?_) (fun c => ?_)
          · refine nx (fun c a1 a2 a3 => by rw [e23, st_row a1]; exact hx c a1 a2 a3) (fun j => ?_) (fun q => ?_) ?_
            · by_cases cj : j = v3.toNat
              · rw [cj, ek, hmi, if_pos (by omega)]
              · rw [ems j cj, e23, st_k cj]; exact h47 j
            · rw [n1, n2, e23, st_c (by decide), st_c (by decide)]; exact h48 q
            · rw [hv]; exact sms_eq (fun j _ => by rw [n1])
          · refine pc_gd (fun _ => pc_lw (fun u24 e24 => ?_))
            refine nx (fun c a1 a2 a3 => by rw [e24, st_row a1, e23, st_row a1]; exact hx c a1 a2 a3) (fun j => ?_) (fun q => ?_) ?_
            · by_cases cj : j = v3.toNat
              · rw [cj, e24, st_eq, hmi, if_neg (by omega)]
              · rw [ems j cj, e24, st_k cj, e23, st_k cj]; exact h47 j
            · rw [n1, n2, e24, st_c (by decide), st_c (by decide), e23, st_c (by decide), st_c (by decide)]; exact h48 q
            · rw [hv]; exact sms_eq (fun j _ => by rw [n1])
        · have hq := (hgi.resolve_left e1).1
          have ebg : (((x 58 v3.toNat).toNat : Nat) : Int) = x 58 v3.toNat := by omega
          have hnb : brn (x 58) v3.toNat (x 58 v3.toNat).toNat = false := brn_f (fun i hi e2 => by
            have := hI i v3.toNat (by omega) (by omega) (by rw [e2]; omega) (by rw [e2]; omega)
            omega)
          have hmi : mid (x 47) (x 58) (x 43 10) (v3.toNat + 1) v3.toNat = 1 := by
            unfold mid
            rw [if_pos ⟨by omega, hb⟩, if_neg e1]
          refine pc_gd (fun _ => pc_let (fun x17 e17 => pc_gd (fun _ => pc_lw (fun u18 e18 => pc_gd (fun _ => pc_let (fun x19 e19 => pc_gd (fun _ => pc_lw (fun u20 e20 => pc_gd (fun _ => pc_lw (fun u21 e21 => ?_))))))))))
          have e44' : u18 44 x17.toNat = x 44 (x 58 v3.toNat).toNat := by rw [e18, st_c (by decide), r44, e17]
          have rg := sms_rg2 (f := brn (x 58) v3.toNat) h44 P.toNat
          have p4 := h44 (x 58 v3.toNat).toNat
          have ex19 : x19 = v1 + x 44 (x 58 v3.toNat).toNat := by
            rw [e19, e44']
            have := w32_sp (v1 + x 44 (x 58 v3.toNat).toNat)
            omega
          refine nx (fun c a1 a2 a3 => by rw [e21, st_row a3, e20, st_row a2, e18, st_row a1]; exact hx c a1 a2 a3) (fun j => ?_) (fun q => ?_) ?_
          · rw [e21, st_c (by decide), e20, st_c (by decide), e18]
            by_cases cj : j = v3.toNat
            · rw [cj, st_eq, hmi]
            · rw [ems j cj, st_k cj]; exact h47 j
          · rw [brn, byo]
            have e8 : u20 43 8 = x 43 8 := by rw [e20, st_c (by decide), e18, st_c (by decide), r43]
            by_cases cq : x 58 v3.toNat = (q : Int)
            · have cq2 : x17.toNat = q := by rw [e17]; omega
              rw [beq_iff_eq.mpr cq, Bool.or_true, if_pos rfl, if_pos rfl, if_pos cq]
              refine ⟨?_, ?_⟩
              · rw [e21, st_c (by decide), e20, cq2, st_eq]; omega
              · rw [e21, cq2, st_eq]; exact e8
            · have cq2 : q ≠ x17.toNat := by rw [e17]; omega
              rw [beq_eq_false_iff_ne.mpr cq, Bool.or_false, if_neg cq]
              refine ⟨?_, ?_⟩
              · rw [e21, st_c (by decide), e20, st_k cq2, e18, st_c (by decide)]; exact (h48 q).1
              · rw [e21, st_k cq2, e20, st_c (by decide), e18, st_c (by decide)]; exact (h48 q).2
          · rw [ex19, hv]
            have := sms_add (f := brn (x 58) v3.toNat) (g := x 44) (v := x 58 v3.toNat) (n := P.toNat) (by omega) hq.1 hnb
            rw [← this]
            exact sms_eq (fun j _ => by rw [brn])
def GWq (P : Int) (w : Wd) (r : Int) (u : Wd) : Prop := (u 43 8 = w 43 8 + 1 ∧ u 43 32 = w 43 32 + 1 ∧ u 43 7 = w32 (w 43 7 + r)) ∧ r = sms (fun q => if brn (w 58) P.toNat q = true then w 44 q else 0) P.toNat ∧ (∀ j : Nat, (j : Int) < P → u 47 j = nis P (w 47) (w 43 10) (mvs P (w 58)) j) ∧ (∀ q : Nat, u 48 q = (if brn (w 58) P.toNat q = true then byo (w 58) P.toNat q else w 48 q) ∧ u 49 q = if brn (w 58) P.toNat q = true then w 43 8 + 1 else w 49 q) ∧ B10 (u 50 (w 43 8 + 1).toNat) (gs P (u 47)) ∧ (∀ t, t ≠ (w 43 8 + 1).toNat → u 50 t = w 50 t) ∧ (∀ j : Nat, j < 10 → u 59 (31 * (w 43 32).toNat + 3 * j) = w 47 j ∧ u 59 (31 * (w 43 32).toNat + 3 * j + 1) = w 48 j ∧ u 59 (31 * (w 43 32).toNat + 3 * j + 2) = w 49 j) ∧ u 59 (31 * (w 43 32).toNat + 30) = w 43 7 ∧ (∀ i, i < 31 * (w 43 32).toNat → u 59 i = w 59 i) ∧ ∀ c k, c ≠ 47 → c ≠ 48 → c ≠ 49 → c ≠ 50 → c ≠ 59 → ¬ (c = 43 ∧ (k = 7 ∨ k = 8 ∨ k = 32)) → u c k = w c k
theorem goweek_pc {P : Int} {w : Wd} (hP : 0 ≤ P ∧ P ≤ 10) (h0 : w 43 0 = P) (h8 : 0 ≤ w 43 8 ∧ w 43 8 ≤ 59) (h32 : 0 ≤ w 43 32 ∧ w 43 32 ≤ 59) (hI : INJ P.toNat (w 58)) (hg : ∀ i : Nat, (i : Int) < P → w 58 i = -1 ∨ ((0 ≤ w 58 i ∧ w 58 i < P) ∧ gst (w 47 i) = true)) (hs : ∀ j : Nat, (j : Int) < P → 0 ≤ w 47 j ∧ w 47 j ≤ 4) (h44 : ∀ j, 0 ≤ w 44 j ∧ w 44 j ≤ 9) : PC (f_R_goWeek w) (fun r u => GWq P w r u) := by
  unfold f_R_goWeek
  have e31 : w32 (31 * w 43 32) = ((31 * (w 43 32).toNat : Nat) : Int) := by
    have := w32_sp (31 * w 43 32)
    omega
  refine pc_call (pc_and (layq59 (k := 31 * (w 43 32).toNat) e31 (by omega) w) (by unfold f_R_lay_43_59; exact lay_fr FU)) (fun r1 u2 q => ?_)
  obtain ⟨⟨q1, q2, q3⟩, q4⟩ := q
  refine pc_lw (fun u3 e3 => ?_)
  refine pc_lw (fun u4 e4 => ?_)
  have r43 : u2 43 = w 43 := q4 43 (by decide)
  have o4 : ∀ c k, c ≠ 59 → ¬ (c = 43 ∧ (k = 8 ∨ k = 32)) → u4 c k = w c k := fun c k h59 hc => by
    rw [e4]; unfold st; rw [if_neg (by omega), e3]; unfold st; rw [if_neg (by omega), q4 c h59]
  have ro : ∀ c, c ≠ 59 → c ≠ 43 → u4 c = w c := fun c h59 h43 => funext fun k => o4 c k h59 (by omega)
  have w1 := w32_sp (w 43 8 + 1)
  have w2 := w32_sp (w 43 32 + 1)
  have e8 : u4 43 8 = w 43 8 + 1 := by rw [e4, st_eq, e3, st_k (by decide), r43]; omega
  have e32 : u4 43 32 = w 43 32 + 1 := by rw [e4, st_k (by decide), e3, st_eq, r43]; omega
  have h0' : u4 43 0 = P := by rw [o4 43 0 (by decide) (by decide)]; exact h0
  have r58 : u4 58 = w 58 := ro 58 (by decide) (by decide)
  have r47 : u4 47 = w 47 := ro 47 (by decide) (by decide)
  have hbn := bn_pc (w := u4) (by omega) (fun i hi => by
    rw [r58]
    rcases hg i (by omega) with e | e
    · exact Or.inl e
    · exact Or.inr (by omega))
  rw [h0'] at hbn
  refine pc_call hbn (fun r5 u6 y => ?_)
  rw [y.1]
  refine pc_w (gy44 u4 hP h0' y.2 (by rw [r58]; exact hI) (by rw [r58, r47]; exact hg) (by rw [r47]; exact hs) (by rw [ro 44 (by decide) (by decide)]; exact h44) FU (v3 := 0) (by decide) hP.1 (fun _ _ _ _ => rfl) (fun j => ?_) (fun q => ?_) ?_) (fun r u z => ?_)
  · unfold mid
    rw [if_neg (fun h => by have := h.1; omega)]
  · exact ⟨rfl, rfl⟩
  · exact (sms_0 (fun j _ => rfl)).symm
  · obtain ⟨z1, z2, z3, z4, z5, z6, z7⟩ := z
    rw [r58, ro 44 (by decide) (by decide)] at z1
    rw [r58, r47, o4 43 10 (by decide) (by decide)] at z2
    rw [e8] at z4 z5
    have r59 : ∀ i, u 59 i = u2 59 i := fun i => by
      rw [z7 59 i (by decide) (by decide) (by decide) (by decide) (by omega), e4, st_c (by decide), e3, st_c (by decide)]
    refine ⟨⟨?_, ?_, ?_⟩, z1, z2, fun q => ?_, z4, fun t ht => ?_, fun j hj => ?_, ?_, fun i hi => ?_, fun c k c1 c2 c3 c4 c5 c6 => ?_⟩
    · rw [z7 43 8 (by decide) (by decide) (by decide) (by decide) (by decide)]; exact e8
    · rw [z7 43 32 (by decide) (by decide) (by decide) (by decide) (by decide)]; exact e32
    · rw [z6, o4 43 7 (by decide) (by decide)]
    · have := z3 q
      rw [r58, e8, ro 48 (by decide) (by decide), ro 49 (by decide) (by decide)] at this
      exact this
    · rw [z5 t ht, ro 50 (by decide) (by decide)]
    · rw [r59, r59, r59]; exact q1 j hj
    · rw [r59]; exact q2
    · rw [r59]; exact q3 i (Or.inl hi)
    · rw [z7 c k c1 c2 c3 c4 (by omega)]; exact o4 c k c5 (by omega)
