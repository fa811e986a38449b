theorem rcn_x {a n : Nat} {pr kn g h : Nat → Int} {w0 x u : Wd} (k : FR [(43, 7), (43, 8), (43, 10), (43, 11), (43, 56)] [44, 45, 46, 47, 48, 49, 50, 79, 80, 81] w0 x) (hr : RCN a n pr kn g h x u) : RCN a n pr kn g h w0 u := by
  obtain ⟨⟨v, ⟨a2, a3, a4, a5⟩, hv⟩, r0, r50, r50o, r32, r56, ⟨r7, r8, r10, r11⟩, rk⟩ := hr
  have k8 : x 43 8 = w0 43 8 := k.1 (43, 8) (by decide)
  have row : ∀ c, c ∈ [44, 45, 46, 47, 48, 49, 50, 79, 80, 81] → x c = w0 c := k.2
  refine ⟨⟨fun c j => if c = 44 ∨ c = 45 ∨ c = 46 ∨ c = 47 ∨ c = 48 ∨ c = 49 then v c j else w0 c j, ⟨fun j hj => ?_, fun i hi => ?_, fun j hj => ?_, fun c j h1 h2 h3 h4 h5 h6 => ?_⟩, fun c hc => ?_⟩, r0, by rw [← k8]; exact r50, fun t ht => ?_, r32, ?_, ⟨?_, ?_, ?_, ?_⟩, fun c hc => ?_⟩
  · have := a2 j hj
    rw [row 44 (by decide), row 46 (by decide), row 47 (by decide), row 48 (by decide), row 49 (by decide)] at this
    exact this
  · have := a3 i hi
    rw [k8] at this
    exact this
  · have := a4 j hj
    rw [row 45 (by decide)] at this
    exact this
  · dsimp only
    rw [if_neg (by omega)]
  · rw [hv c hc]
    funext j
    dsimp only
    rw [if_pos hc]
  · rw [r50o t (by rw [k8]; exact ht), row 50 (by decide)]
  · rw [r56, k.1 (43, 56) (by decide)]
  · rw [r7, k.1 (43, 7) (by decide)]
  · rw [r8]; exact k8
  · rw [r10, k.1 (43, 10) (by decide)]
  · rw [r11, k.1 (43, 11) (by decide)]
  · rw [rk c hc]
    rcases hc with e | e | e
    · rw [e]; exact row 79 (by decide)
    · rw [e]; exact row 80 (by decide)
    · rw [e]; exact row 81 (by decide)
theorem gs_at {P : Int} {s : Nat → Int} {j : Nat} (hj : (j : Int) < P) : gs P s j = gst (s j) := by
  unfold gs
  rw [show inP P j = true from decide_eq_true hj]; rfl
/-- WHAT BOTH HAVE IN COMMON stays so when people came -/
theorem fc_come {w u1 u2 : Wd} {a n : Nat} {pr kn pr2 kn2 : Nat → Int} {gf hf : Nat → Bool} (h : FC w) (ha : w 43 0 = a) (han : a + n ≤ 10) (hn : 1 ≤ n) (h8 : 0 ≤ w 43 8 ∧ w 43 8 ≤ 60) (hc : CO u2) (hE : ECN a n pr kn gf hf (w 47) (w 46) w u1) (hR : RCN a n pr2 kn2 (fun i => if gf i = true then 1 else 0) (fun i => if hf i = true then 1 else 0) w u2) (epr : ∀ i, i < n → pr i = pr2 i) (ekn : ∀ i, i < n → kn i = kn2 i) (fE : FR [(5, 3), (5, 4), (5, 5), (5, 6), (15, 3), (15, 4)] [6, 7, 8, 16] u1 u2) (fK : FR [] [37, 40] w u2) : FC u2 := by
  obtain ⟨hCO, hPP, hHB, hWH, ⟨hp, hwk, hun⟩, hwe, hSN, hUB, hK0, hK1, hgr, hse⟩ := h
  obtain ⟨⟨e3, e68, en68, e7⟩, ewh, ehb, e16, e154, e16o, e56, e153⟩ := hE
  obtain ⟨⟨v, ⟨r2, r3, r4, _⟩, hv⟩, r0, r50, r50o, r32, r56, ⟨r7, r8, r10, r11⟩, rk⟩ := hR
  have p3 := fE.1 (5, 3) (by decide)
  have p4 := fE.1 (5, 4) (by decide)
  have p5 := fE.1 (5, 5) (by decide)
  have p6 := fE.1 (5, 6) (by decide)
  have p15 := fE.1 (15, 3) (by decide)
  have p154 := fE.1 (15, 4) (by decide)
  have q6 := fE.2 6 (by decide)
  have q7 := fE.2 7 (by decide)
  have q8 := fE.2 8 (by decide)
  have q16 := fE.2 16 (by decide)
  simp only at p3 p4 p5 p6 p15 p154
  have s47 : ∀ j : Nat, (j : Int) < (a : Int) + n → (if j < a then w 47 j else if gf (j - a) = true then 1 else 0) = u2 47 j := fun j hj => by
    rw [hv 47 (by omega)]
    by_cases c : j < a
    · rw [if_pos c]; exact (r2 j c).2.2.1.symm
    · rw [if_neg c]
      have := (r3 (j - a) (by omega)).2.2.1
      rw [show a + (j - a) = j by omega] at this
      exact this.symm
  have s46 : ∀ j : Nat, (j : Int) < (a : Int) + n → (if j < a then w 46 j else if hf (j - a) = true then 1 else 0) = u2 46 j := fun j hj => by
    rw [hv 46 (by omega)]
    by_cases c : j < a
    · rw [if_pos c]; exact (r2 j c).2.1.symm
    · rw [if_neg c]
      have := (r3 (j - a) (by omega)).2.1
      rw [show a + (j - a) = j by omega] at this
      exact this.symm
  have hwk2 : w 15 3 = w 43 8 := hwk
  have nk : ∀ {c m : Nat}, KM w c m → u2 c = w c → ∀ {d g : Nat}, KBf u2 c d g m := by
    intro c m hk hc2 d g h2 h3
    exfalso
    rw [hc2] at h2 h3
    have h4 := (hk.2 h2).2.2
    have h5 := hCO.2.1
    omega
  obtain ⟨n1, n2, n3, n4⟩ := hSN
  have e8 : (w 43 8).toNat + 1 = (w 43 8 + 1).toNat := by omega
  refine ⟨hc, fun j hj => ?_, ?_, ?_, ⟨?_, ?_, ?_⟩, fun t ht => ?_, ⟨fun j hj hs => ?_, fun j hj => ?_, ?_, fun t ht => ?_⟩, fun t ht => ?_, nk hCO.2.2.2.1 (fK.2 37 (by decide)), nk hCO.2.2.2.2 (fK.2 40 (by decide)), ?_, ?_⟩
  · rw [r0] at hj
    rw [q6, q7, q8, hv 44 (by omega), hv 45 (by omega), hv 48 (by omega), e7 j (by omega), r4 j (by omega)]
    have ek := ads_eq (a := a) (kn := w 7) (kn2 := w 45) (k := kn) (k2 := kn2) (fun j hj => (hPP j (by omega)).2.1) (n := n) ekn j (by omega)
    by_cases c : j < a
    · obtain ⟨y1, y2⟩ := e68 j c
      obtain ⟨z1, _, _, z4, _⟩ := r2 j c
      obtain ⟨x1, _, x3⟩ := hPP j (by omega)
      rw [y1, y2, z1, z4]
      exact ⟨x1, ek, x3⟩
    · obtain ⟨y1, y2⟩ := en68 (j - a) (by omega)
      obtain ⟨z1, _, _, z4, _⟩ := r3 (j - a) (by omega)
      rw [show a + (j - a) = j by omega] at y1 y2 z1 z4
      rw [y1, y2, z1, z4]
      exact ⟨epr _ (by omega), ek, rfl⟩
  · rw [p5, r0]
    exact b10_w ehb (fun k _ => hB_eq s46 k)
  · rw [p4, r0]
    exact wh_eq ewh s47
  · rw [p6, r7, e56]; exact hp
  · rw [p15, r8, e153]; exact hwk
  · rw [p154, r32]; exact e154
  · rw [r8] at ht
    rw [q16]
    by_cases c : t = (w 43 8).toNat
    · rw [c]
      rw [hwk2] at e16
      refine b10_eq e16 r50 (fun k hk => gs_eq s47 k)
    · rw [e16o t (by rw [hwk2]; exact c), r50o t c]; exact hwe t ht
  · rw [r0] at hj
    have hg : gst (u2 47 j) = false := by rw [hs]; rfl
    have hb : ∀ t : Nat, (t : Int) ≤ u2 43 8 → t = (w 43 8).toNat → bt (u2 50 t) j = false := fun t ht e => by
      rw [e, r50.2 j (by omega), gs_at (by omega)]; exact hg
    by_cases c : j < a
    · have y := (r2 j c).2.2.1
      rw [hv 47 (by omega), y] at hs
      obtain ⟨x1, x2⟩ := n1 j (by omega) hs
      refine ⟨by rw [hv 48 (by omega), (r2 j c).2.2.2.1]; exact x1, fun t ht => ?_⟩
      by_cases c2 : t = (w 43 8).toNat
      · exact hb t ht c2
      · rw [r50o t c2]; exact x2 t (by omega)
    · refine ⟨?_, fun t ht => ?_⟩
      · have := (r3 (j - a) (by omega)).2.2.2.1
        rw [show a + (j - a) = j by omega] at this
        rw [hv 48 (by omega)]; exact this
      · by_cases c2 : t = (w 43 8).toNat
        · exact hb t ht c2
        · rw [r50o t c2]
          cases hq : bt (w 50 t) j with
          | false => rfl
          | true => have := (n4 t (by omega)).2 j (by omega) hq; omega
  · rw [r0] at hj
    have hbit : bt (u2 50 (w 43 8).toNat) j = gst (u2 47 j) := by rw [r50.2 j (by omega), gs_at (by omega)]
    have hold : fw (u2 50) j (w 43 8).toNat = fw (w 50) j (w 43 8).toNat := fw_eq (fun t ht => r50o t (by omega))
    rw [r8, ← e8, hv 49 (by omega), fw, hold, hbit]
    by_cases c : j < a
    · obtain ⟨_, _, z3, _, z5⟩ := r2 j c
      rw [z5, n2 j (by omega), ← e8, fw, n3.2 j (by omega), gs_at (by omega), hv 47 (by omega), z3]
    · obtain ⟨_, _, z3, _, z5⟩ := r3 (j - a) (by omega)
      rw [show a + (j - a) = j by omega] at z3 z5
      have hno : fw (w 50) j (w 43 8).toNat = -1 := fw_no (fun t ht => by
        cases hq : bt (w 50 t) j with
        | false => rfl
        | true => have := (n4 t (by omega)).2 j (by omega) hq; omega)
      rw [z5, hv 47 (by omega), z3, hno, if_pos rfl]
      have e9 : (((w 43 8).toNat : Nat) : Int) = w 43 8 := by omega
      dsimp only
      by_cases c3 : gf (j - a) = true
      · have e : (if gf (j - a) = true then (1 : Int) else 0) = 1 := if_pos c3
        have e2 : gst (if gf (j - a) = true then (1 : Int) else 0) = true := by rw [e]; decide
        rw [if_pos e, if_pos e2]
        exact e9.symm
      · have e : (if gf (j - a) = true then (1 : Int) else 0) = 0 := if_neg c3
        have e1 : ¬ (if gf (j - a) = true then (1 : Int) else 0) = 1 := by rw [e]; decide
        have e2 : ¬ gst (if gf (j - a) = true then (1 : Int) else 0) = true := by rw [e]; decide
        rw [if_neg e1, if_neg e2]
  · rw [r8, r0]; exact r50
  · rw [r8] at ht
    rw [r0]
    by_cases c : t = (w 43 8).toNat
    · rw [c]
      refine ⟨r50.1, fun j hj hb => ?_⟩
      rw [r50.2 j hj] at hb
      unfold gs at hb
      rw [Bool.and_eq_true] at hb
      exact inP_t hb.1
    · rw [r50o t c]
      obtain ⟨x1, x2⟩ := n4 t ht
      exact ⟨x1, fun j hj hb => by have := x2 j hj hb; omega⟩
  · rw [r32] at ht; omega
  · rw [r10]; exact hgr
  · rw [r11]; exact hse
/-! LAND, all of it -/
theorem lp_sy {s h : Int → Int} (hs : Sy s h) {a : Int} (ha : 0 ≤ a) : ∀ (i : Nat), a + i ≤ 10 → lp s a i = lp h a i ∧ 0 ≤ lp s a i := by
  intro i
  induction i with
  | zero => intro _; exact ⟨rfl, Int.le_refl 0⟩
  | succ i ih =>
    intro hi
    obtain ⟨h1, h2⟩ := ih (by omega)
    rw [lp, lp, ← h1, en_sy hs (by omega) h2]
    have := en_ge h (a + i) (lp s a i)
    exact ⟨rfl, by omega⟩
theorem lk_sy {s h : Int → Int} (hs : Sy s h) {num : Int} (hn : num ≤ 10) : ∀ (k : Nat) {p acc : Int}, (k : Int) ≤ num → 0 ≤ p → lk s num k p acc = lk h num k p acc := by
  intro k
  induction k with
  | zero => intro p acc _ _; rfl
  | succ k ih =>
    intro p acc hk hp
    rw [lk, lk]
    have e := hs p (97 + (num - ((k : Int) + 1))) hp (by omega) (by omega)
    by_cases c : s p = 97 + (num - ((k : Int) + 1))
    · rw [if_pos c, if_pos (e.mp c)]; exact ih (by omega) (by omega)
    · rw [if_neg c, if_neg (fun h2 => c (e.mpr h2))]; exact ih (by omega) hp
theorem le1_sy {s h : Int → Int} (hs : Sy s h) {num q : Int} (hn : 0 ≤ num ∧ num ≤ 10) (hq : 0 ≤ q) : le1 s num q = le1 h num q ∧ 0 ≤ le1 s num q := by
  unfold le1
  rw [lt_sy hs hn.2 num.toNat (by omega) (by omega)]
  have := lt_ge h num num.toNat (q + 1)
  exact ⟨rfl, by omega⟩
theorem lgs_sy {s h : Int → Int} (hs : Sy s h) {a : Int} (ha : 0 ≤ a) {i : Nat} (hi : a + i ≤ 9) : lgs s a i = lgs h a i := by
  obtain ⟨h1, h2⟩ := lp_sy hs ha i (by omega)
  obtain ⟨h3, h4⟩ := le1_sy hs (num := a + i) (by omega) h2
  unfold lgs
  rw [← h1, ← h3]
  have e := hs (le1 s (a + i) (lp s a i)) 33 h4 (by decide) (by decide)
  by_cases c : s (le1 s (a + i) (lp s a i)) = 33
  · rw [decide_eq_true c, decide_eq_true (e.mp c)]
  · rw [decide_eq_false c, decide_eq_false (fun h => c (e.mpr h))]
theorem lhi_sy {s h : Int → Int} (hs : Sy s h) {a : Int} (ha : 0 ≤ a) {i : Nat} (hi : a + i ≤ 9) : lhi s a i = lhi h a i := by
  obtain ⟨h1, h2⟩ := lp_sy hs ha i (by omega)
  obtain ⟨h3, h4⟩ := le1_sy hs (num := a + i) (by omega) h2
  unfold lhi
  rw [← h1, ← h3]
  have e := hs (le1 s (a + i) (lp s a i)) 33 h4 (by decide) (by decide)
  have fin : ∀ q : Int, 0 ≤ q → decide (s q = 63) = decide (h q = 63) := fun q hq => by
    have e := hs q 63 hq (by decide) (by decide)
    by_cases c : s q = 63
    · rw [decide_eq_true c, decide_eq_true (e.mp c)]
    · rw [decide_eq_false c, decide_eq_false (fun h => c (e.mpr h))]
  by_cases c : s (le1 s (a + i) (lp s a i)) = 33
  · rw [if_pos c, if_pos (e.mp c)]; exact fin _ (by omega)
  · rw [if_neg c, if_neg (fun h => c (e.mpr h))]; exact fin _ h4
theorem lkn_sy {s h : Int → Int} (hs : Sy s h) {a : Int} (ha : 0 ≤ a) {i : Nat} (hi : a + i ≤ 9) : lkn s a i = lkn h a i := by
  obtain ⟨h1, h2⟩ := lp_sy hs ha i (by omega)
  unfold lkn
  rw [← h1]
  exact lk_sy hs (by omega) _ (by omega) (by omega)
/-- its digit is the same: where a line was read -/
theorem lpr_sy {s h : Int → Int} (hs : Sy s h) {a : Int} (ha : 0 ≤ a) {i : Nat} (hi : a + i ≤ 9) (hd : 0 ≤ lpr s a i ∧ lpr s a i ≤ 9) : lpr s a i = lpr h a i := by
  obtain ⟨h1, h2⟩ := lp_sy hs ha i (by omega)
  unfold lpr at hd ⊢
  rw [← h1]
  have e := (hs (lp s a i) (s (lp s a i)) h2 (by omega) (by omega)).mp rfl
  rw [e]
