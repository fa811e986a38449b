/-! THE CLASS'S SEARCH -/
def CW (P g se : Int) (h kn : Nat → Int) (x0 : Int) (w : Wd) : Prop := w 5 3 = P ∧ B10 (w 5 5) (hB P h) ∧ w 5 7 = g ∧ w 5 8 = se ∧ w 5 4 = x0 ∧ ∀ j : Nat, (j : Int) < P → w 7 j = kn j ∧ 0 ≤ kn j ∧ kn j ≤ 1023
theorem cw_eq {P g se : Int} {h kn : Nat → Int} {x0 : Int} {w u : Wd} (hw : CW P g se h kn x0 w) (h5 : u 5 = w 5) (h7 : u 7 = w 7) : CW P g se h kn x0 u := by
  unfold CW
  rw [h5, h7]; exact hw
def rkx (P x : Int) : Int := rkf P (sof x)
def SI0 (P g se : Int) (h kn : Nat → Int) (x0 : Int) (w : Wd) : Prop := TC w ∧ ∀ k : Nat, (k : Int) < w 28 7 → (∃ t, RCX P g se h kn x0 t (w 30 k)) ∧ ∀ t, t < 61 → b6 (w 31 k) t = true → RCX P g se h kn x0 t (w 30 k)
def PRO (w : Wd) (k : Nat) : Prop := ∃ j : Nat, (j : Int) < w 28 8 ∧ w 35 j = (k : Int)
def CLSx (P g se : Int) (h kn : Nat → Int) (w : Wd) (k : Nat) : Prop := ∀ y, SUX P g se h kn (w 30 k) y → ∃ j : Nat, (j : Int) < w 28 7 ∧ w 30 j = y ∧ ∀ t, t + 1 < 61 → b6 (w 31 k) t = true → b6 (w 31 j) (t + 1) = true
def chn (f : Nat → Int) : Int → List Nat → Prop
  | z, [] => z = -1
  | z, k :: l => z = (k : Int) ∧ chn f (f k) l
theorem chn_eq {f g : Nat → Int} : ∀ {l : List Nat} {z : Int}, (∀ k, k ∈ l → f k = g k) → chn f z l → chn g z l := by
  intro l
  induction l with
  | nil => intro z _ h; exact h
  | cons k l ih =>
    intro z he h
    refine ⟨h.1, ?_⟩
    rw [← he k List.mem_cons_self]
    exact ih (fun q hq => he q (List.mem_cons_of_mem _ hq)) h.2
def BKT (P : Int) (w : Wd) : Prop := ∀ r : Nat, r < 451 → ∃ l : List Nat, chn (w 33) (w 34 r) l ∧ l.Nodup ∧ ∀ k : Nat, k ∈ l ↔ ((k : Int) < w 28 7 ∧ rkx P (w 30 k) = (r : Int) ∧ ¬ PRO w k)
def ORD (w : Wd) : Prop := (0 ≤ w 28 8 ∧ w 28 8 ≤ w 28 7) ∧ (∀ j : Nat, (j : Int) < w 28 8 → 0 ≤ w 35 j ∧ w 35 j < w 28 7) ∧ ∀ i j : Nat, (i : Int) < w 28 8 → (j : Int) < w 28 8 → w 35 i = w 35 j → i = j
def MNY (P g se : Int) (h kn : Nat → Int) (x0 : Int) : Prop := ∃ F : Nat → Int, (∀ i, i < 3001 → ∃ t, RCX P g se h kn x0 t (F i)) ∧ ∀ i j, i < 3001 → j < 3001 → F i = F j → i = j
def COR (P g se : Int) (h kn : Nat → Int) (x0 v3 s : Int) (w : Wd) : Prop := SI0 P g se h kn x0 w ∧ ORD w ∧ BKT P w ∧ (∀ k, PRO w k → rkx P (w 30 k) ≤ v3 ∧ ((k : Int) ≠ s → CLSx P g se h kn w k)) ∧ ∀ k : Nat, (k : Int) < w 28 7 → rkx P (w 30 k) < v3 → PRO w k
/-- more is known, nothing is lost -/
def GRW (w u : Wd) (y : Int) : Prop := w 28 7 ≤ u 28 7 ∧ ∀ k : Nat, (k : Int) < w 28 7 → u 30 k = w 30 k ∧ (∀ t, t < 61 → b6 (w 31 k) t = true → b6 (u 31 k) t = true) ∧ (w 30 k ≠ y → u 31 k = w 31 k)
theorem cls_grw {P g se : Int} {h kn : Nat → Int} {w u : Wd} {y : Int} {k : Nat} (hk : (k : Int) < w 28 7) (hg : GRW w u y) (hn : w 30 k ≠ y) (hc : CLSx P g se h kn w k) : CLSx P g se h kn u k := by
  intro z hz
  obtain ⟨a1, _, a3⟩ := hg.2 k hk
  rw [a1] at hz
  obtain ⟨j, hj, ej, ht⟩ := hc z hz
  obtain ⟨b1, b2, _⟩ := hg.2 j hj
  have := hg.1
  refine ⟨j, by omega, by rw [b1]; exact ej, fun t h61 hb => b2 (t + 1) h61 (ht t h61 ?_)⟩
  rw [a3 hn] at hb; exact hb
theorem pro_eq {w u : Wd} (h8 : u 28 8 = w 28 8) (h35 : u 35 = w 35) (k : Nat) : PRO u k ↔ PRO w k := by
  unfold PRO
  rw [h8, h35]
theorem pro_lt {w : Wd} (ho : ORD w) {k : Nat} (hp : PRO w k) : (k : Int) < w 28 7 := by
  obtain ⟨j, hj, e⟩ := hp
  have := (ho.2.1 j hj).2
  omega
theorem cor_place {P g se : Int} {h kn : Nat → Int} {x0 v3 s : Int} {w u : Wd} {y wk : Int} (hc : COR P g se h kn x0 v3 s w) (hy : WH y (sof y) P) (hv : v3 < rkx P y) (hr : ∃ t, RCX P g se h kn x0 t y) (hb : ∀ t, t < 61 → b6 wk t = true → RCX P g se h kn x0 t y) (hp : PLE w u y wk (rkx P y)) : (u = st w 28 10 1 ∧ MNY P g se h kn x0) ∨ (COR P g se h kn x0 v3 s u ∧ u 28 10 = w 28 10 ∧ GRW w u y ∧ (∃ j : Nat, (j : Int) < u 28 7 ∧ u 30 j = y ∧ ∀ t, t < 61 → b6 wk t = true → b6 (u 31 j) t = true) ∧ (∀ c, c ≠ 28 → c ≠ 29 → c ≠ 30 → c ≠ 31 → c ≠ 33 → c ≠ 34 → u c = w c) ∧ u 28 8 = w 28 8 ∧ u 28 9 = w 28 9) := by
  obtain ⟨⟨c1, c2⟩, c3, c4, c5, c6⟩ := hc
  have h7 := c1.2.2.1
  rcases hp with ⟨e, e7, nw⟩ | ⟨t, ht, et, e⟩ | ⟨lt, nw, n7, n28, n30, n31, n33, n34, nT, not⟩
  · refine Or.inl ⟨e, fun i => if i < 3000 then w 30 i else y, fun i hi => ?_, fun i j hi hj e2 => ?_⟩
    · by_cases c : i < 3000
      · show ∃ t, RCX P g se h kn x0 t (if i < 3000 then w 30 i else y)
        rw [if_pos c]; exact (c2 i (by omega)).1
      · show ∃ t, RCX P g se h kn x0 t (if i < 3000 then w 30 i else y)
        rw [if_neg c]; exact hr
    · have e3 : (if i < 3000 then w 30 i else y) = (if j < 3000 then w 30 j else y) := e2
      by_cases ci : i < 3000 <;> by_cases cj : j < 3000
      · rw [if_pos ci, if_pos cj] at e3
        exact tc_one c1 (by omega) (by omega) e3
      · rw [if_pos ci, if_neg cj] at e3
        exact absurd e3 (nw i (by omega))
      · rw [if_neg ci, if_pos cj] at e3
        exact absurd e3.symm (nw j (by omega))
      · omega
  · have r7 : u 28 7 = w 28 7 := by rw [e, st_c (by decide)]
    have r8 : u 28 8 = w 28 8 := by rw [e, st_c (by decide)]
    have ro : ∀ c, c ≠ 31 → u c = w c := fun c hc => by rw [e, st_row hc]
    have a31 : ∀ k, u 31 k = if k = t then lor (w 31 t) wk else w 31 k := fun k => by
      rw [e]
      by_cases ck : k = t
      · rw [if_pos ck, ck, st_eq]
      · rw [if_neg ck, st_k ck]
    have hg : GRW w u y := ⟨by omega, fun k hk => ⟨by rw [ro 30 (by decide)], fun q _ hq => by
      rw [a31]
      by_cases ck : k = t
      · rw [if_pos ck, b6_or, ← ck, hq]; rfl
      · rw [if_neg ck]; exact hq, fun hn => by
      rw [a31, if_neg (fun ck => hn (by rw [ck]; exact et))]⟩⟩
    refine Or.inr ⟨⟨⟨tc_eq c1 (ro 29 (by decide)) (ro 30 (by decide)) r7, fun k hk => ?_⟩, ?_, ?_, fun k hk => ?_, fun k hk hlt => ?_⟩, by rw [e, st_c (by decide)], hg, ⟨t, by omega, by rw [ro 30 (by decide)]; exact et, fun q _ hq => by rw [a31, if_pos rfl, b6_or, hq, Bool.or_true]⟩, fun c _ _ _ x4 _ _ => ro c x4, r8, by rw [e, st_c (by decide)]⟩
    · rw [ro 30 (by decide)]
      rw [r7] at hk
      refine ⟨(c2 k hk).1, fun q h61 hq => ?_⟩
      rw [a31] at hq
      by_cases ck : k = t
      · rw [if_pos ck, b6_or, Bool.or_eq_true] at hq
        rcases hq with hq | hq
        · rw [ck]; exact (c2 t ht).2 q h61 hq
        · rw [ck, et]; exact hb q h61 hq
      · rw [if_neg ck] at hq
        exact (c2 k hk).2 q h61 hq
    · unfold ORD
      rw [r7, r8, ro 35 (by decide)]; exact c3
    · intro r hr'
      obtain ⟨l, l1, l2, l3⟩ := c4 r hr'
      refine ⟨l, by rw [ro 33 (by decide), ro 34 (by decide)]; exact l1, l2, fun k => ?_⟩
      rw [r7, ro 30 (by decide), pro_eq r8 (ro 35 (by decide))]
      exact l3 k
    · have hk' := (pro_eq r8 (ro 35 (by decide)) k).mp hk
      have q := c5 k hk'
      have hkl := pro_lt c3 hk'
      rw [ro 30 (by decide)]
      refine ⟨q.1, fun hn => cls_grw hkl hg (fun ey => ?_) (q.2 hn)⟩
      rw [ey] at q
      have := q.1
      omega
    · rw [pro_eq r8 (ro 35 (by decide))]
      rw [r7] at hk
      rw [ro 30 (by decide)] at hlt
      exact c6 k hk hlt
  · have r8 : u 28 8 = w 28 8 := n28 8 (by decide)
    have r35 : u 35 = w 35 := not 35 (by decide) (by decide) (by decide) (by decide) (by decide) (by decide)
    have o30 : ∀ k : Nat, (k : Int) < w 28 7 → u 30 k = w 30 k := fun k hk => by rw [n30, if_neg (by omega)]
    have o31 : ∀ k : Nat, (k : Int) < w 28 7 → u 31 k = w 31 k := fun k hk => by rw [n31, if_neg (by omega)]
    have z30 : u 30 (w 28 7).toNat = y := by rw [n30, if_pos rfl]
    have z31 : u 31 (w 28 7).toNat = lor 0 wk := by rw [n31, if_pos rfl]
    have hg : GRW w u y := ⟨by omega, fun k hk => ⟨o30 k hk, fun q _ hq => by rw [o31 k hk]; exact hq, fun _ => o31 k hk⟩⟩
    have pl : ∀ k, PRO u k ↔ PRO w k := pro_eq r8 r35
    refine Or.inr ⟨⟨⟨nT, fun k hk => ?_⟩, ?_, ?_, fun k hk => ?_, fun k hk hlt => ?_⟩, n28 10 (by decide), hg, ⟨(w 28 7).toNat, by omega, z30, fun q _ hq => by rw [z31, b6_or, hq, Bool.or_true]⟩, not, r8, n28 9 (by decide)⟩
    · by_cases ck : (k : Int) < w 28 7
      · rw [o30 k ck, o31 k ck]; exact c2 k ck
      · rw [show k = (w 28 7).toNat by omega, z30, z31]
        refine ⟨hr, fun q h61 hq => hb q h61 ?_⟩
        rw [b6_or, b6_0, Bool.false_or] at hq; exact hq
    · unfold ORD
      rw [r8, r35, n7]
      have c31 := c3.1
      exact ⟨by omega, fun j hj => by have := c3.2.1 j hj; omega, c3.2.2⟩
    · intro r hr'
      obtain ⟨l, l1, l2, l3⟩ := c4 r hr'
      have lm : ∀ k, k ∈ l → w 33 k = u 33 k := fun k hk => by
        have := ((l3 k).mp hk).1
        rw [n33, if_neg (by omega)]
      have nl : (w 28 7).toNat ∉ l := fun hm => by
        have := ((l3 _).mp hm).1
        omega
      have np : ¬ PRO w (w 28 7).toNat := fun hp => by
        have := pro_lt c3 hp
        omega
      by_cases cr : r = (rkx P y).toNat
      · have er : (r : Int) = rkx P y := by
          have := (rkf_rg hy.2.2).1
          have e : rkx P y = rkf P (sof y) := rfl
          omega
        refine ⟨(w 28 7).toNat :: l, ?_, List.nodup_cons.mpr ⟨nl, l2⟩, fun k => ?_⟩
        · refine ⟨by rw [n34, if_pos cr]; omega, ?_⟩
          rw [n33, if_pos rfl, ← cr]
          exact chn_eq lm l1
        · rw [List.mem_cons, pl, l3, n7]
          by_cases ck : k = (w 28 7).toNat
          · rw [ck, z30]
            exact ⟨fun _ => ⟨by omega, er.symm, np⟩, fun _ => Or.inl rfl⟩
          · constructor
            · rintro (e | ⟨h1, h2, h3⟩)
              · exact absurd e ck
              · rw [o30 k h1]; exact ⟨by omega, h2, h3⟩
            · rintro ⟨h1, h2, h3⟩
              have h1' : (k : Int) < w 28 7 := by omega
              rw [o30 k h1'] at h2
              exact Or.inr ⟨h1', h2, h3⟩
      · refine ⟨l, ?_, l2, fun k => ?_⟩
        · rw [n34, if_neg cr]; exact chn_eq lm l1
        · rw [pl, l3, n7]
          by_cases ck : k = (w 28 7).toNat
          · rw [ck, z30]
            constructor
            · rintro ⟨h1, _⟩; omega
            · rintro ⟨_, h2, _⟩
              exact absurd (by rw [h2]; omega) cr
          · constructor
            · rintro ⟨h1, h2, h3⟩
              rw [o30 k h1]; exact ⟨by omega, h2, h3⟩
            · rintro ⟨h1, h2, h3⟩
              have h1' : (k : Int) < w 28 7 := by omega
              rw [o30 k h1'] at h2
              exact ⟨h1', h2, h3⟩
    · have hk' := (pl k).mp hk
      have q := c5 k hk'
      have hkl := pro_lt c3 hk'
      rw [o30 k hkl]
      refine ⟨q.1, fun hn => cls_grw hkl hg (fun ey => ?_) (q.2 hn)⟩
      rw [ey] at q
      have := q.1
      omega
    · rw [pl]
      by_cases ck : (k : Int) < w 28 7
      · rw [o30 k ck] at hlt
        exact c6 k ck hlt
      · rw [show k = (w 28 7).toNat by omega, z30] at hlt
        omega
/-- one STATE's own loop: where nobody is a GUEST -/
theorem cor_no {P g se : Int} {h kn : Nat → Int} {x0 v3 : Int} {w u : Wd} {s : Nat} (hP : 0 ≤ P ∧ P ≤ 10) (h0 : WH x0 (sof x0) P) (hc : COR P g se h kn x0 v3 s w) (hs : (s : Int) < w 28 7) (hn : ∀ k, k < 10 → gs P (sof (w 30 s)) k = false) (e : u = st w 31 s (land (w64 (-(land (w 31 s) (w64 (-(w 31 s)))))) 2305843009213693951)) : COR P g se h kn x0 v3 (-1) u ∧ GRW w u (w 30 s) := by
  obtain ⟨⟨c1, c2⟩, c3, c4, c5, c6⟩ := hc
  have hx : WH (w 30 s) (sof (w 30 s)) P := by
    obtain ⟨t, ht⟩ := (c2 s hs).1
    exact rx_wh hP h0 ht
  have r7 : u 28 7 = w 28 7 := by rw [e, st_c (by decide)]
  have r8 : u 28 8 = w 28 8 := by rw [e, st_c (by decide)]
  have ro : ∀ c, c ≠ 31 → u c = w c := fun c hc => by rw [e, st_row hc]
  have a31 : ∀ k, k ≠ s → u 31 k = w 31 k := fun k hk => by rw [e, st_k hk]
  have s31 : ∀ t, t < 61 → b6 (u 31 s) t = decide (∃ j, j ≤ t ∧ b6 (w 31 s) j = true) := fun t ht => by rw [e, st_eq]; exact b6_up _ ht
  have hg : GRW w u (w 30 s) := ⟨by omega, fun k hk => ⟨by rw [ro 30 (by decide)], fun q h61 hq => by
    by_cases ck : k = s
    · rw [ck, s31 q h61]
      rw [ck] at hq
      exact decide_eq_true ⟨q, Nat.le_refl _, hq⟩
    · rw [a31 k ck]; exact hq, fun hn => a31 k (fun ck => hn (by rw [ck]))⟩⟩
  have pl := pro_eq r8 (ro 35 (by decide))
  have stay : ∀ (d t : Nat), RCX P g se h kn x0 t (w 30 s) → RCX P g se h kn x0 (t + d) (w 30 s) := by
    intro d
    induction d with
    | zero => intro t ht; exact ht
    | succ d ih => intro t ht; exact ⟨w 30 s, ih t ht, (sx_no hP hx hn).mpr rfl⟩
  refine ⟨⟨⟨tc_eq c1 (ro 29 (by decide)) (ro 30 (by decide)) r7, fun k hk => ?_⟩, ?_, ?_, fun k hk => ?_, fun k hk hlt => ?_⟩, hg⟩
  · rw [r7] at hk
    rw [ro 30 (by decide)]
    refine ⟨(c2 k hk).1, fun t h61 hq => ?_⟩
    by_cases ck : k = s
    · rw [ck, s31 t h61, decide_eq_true_iff] at hq
      obtain ⟨j, hj, hb⟩ := hq
      have := stay (t - j) j ((c2 s hs).2 j (by omega) hb)
      rw [show j + (t - j) = t by omega] at this
      rw [ck]; exact this
    · rw [a31 k ck] at hq
      exact (c2 k hk).2 t h61 hq
  · unfold ORD
    rw [r7, r8, ro 35 (by decide)]; exact c3
  · intro r hr'
    obtain ⟨l, l1, l2, l3⟩ := c4 r hr'
    refine ⟨l, by rw [ro 33 (by decide), ro 34 (by decide)]; exact l1, l2, fun k => ?_⟩
    rw [r7, ro 30 (by decide), pl]
    exact l3 k
  · have hk' := (pl k).mp hk
    have q := c5 k hk'
    have hkl := pro_lt c3 hk'
    rw [ro 30 (by decide)]
    refine ⟨q.1, fun _ => ?_⟩
    by_cases ck : k = s
    · intro z hz
      rw [ro 30 (by decide), ck, sx_no hP hx hn] at hz
      refine ⟨s, by omega, by rw [ro 30 (by decide)]; exact hz.symm, fun t h61 hb => ?_⟩
      rw [ck, s31 t (by omega), decide_eq_true_iff] at hb
      rw [s31 (t + 1) h61, decide_eq_true_iff]
      obtain ⟨j, hj, hb⟩ := hb
      exact ⟨j, by omega, hb⟩
    · have hne : w 30 k ≠ w 30 s := fun e2 => ck (tc_one c1 hkl hs e2)
      exact cls_grw hkl hg hne (q.2 (by omega))
  · rw [pl]
    rw [r7] at hk
    rw [ro 30 (by decide)] at hlt
    exact c6 k hk hlt
