/-! ONE STATE AFTER THE OTHER -/
/-- what stays while the class searches -/
def FRS (w u : Wd) : Prop := (∀ c, c ≠ 24 → c ≠ 25 → c ≠ 26 → c ≠ 27 → c ≠ 28 → c ≠ 29 → c ≠ 30 → c ≠ 31 → c ≠ 33 → c ≠ 34 → c ≠ 35 → u c = w c) ∧ u 28 9 = w 28 9
theorem frs_tr {w u v : Wd} (h : FRS w u) (h2 : FRS u v) : FRS w v := ⟨fun c a1 a2 a3 a4 a5 a6 a7 a8 a9 a10 a11 => (h2.1 c a1 a2 a3 a4 a5 a6 a7 a8 a9 a10 a11).trans (h.1 c a1 a2 a3 a4 a5 a6 a7 a8 a9 a10 a11), h2.2.trans h.2⟩
theorem frs_self (w : Wd) : FRS w w := ⟨fun _ _ _ _ _ _ _ _ _ _ _ _ => rfl, rfl⟩
theorem frs_5 {w u : Wd} (h : FRS w u) : u 5 = w 5 := h.1 5 (by decide) (by decide) (by decide) (by decide) (by decide) (by decide) (by decide) (by decide) (by decide) (by decide) (by decide)
theorem frs_7 {w u : Wd} (h : FRS w u) : u 7 = w 7 := h.1 7 (by decide) (by decide) (by decide) (by decide) (by decide) (by decide) (by decide) (by decide) (by decide) (by decide) (by decide)
theorem cor_eq {P g se : Int} {h kn : Nat → Int} {x0 v3 s : Int} {w u : Wd} (hc : COR P g se h kn x0 v3 s w) (h7 : u 28 7 = w 28 7) (h8 : u 28 8 = w 28 8) (h29 : u 29 = w 29) (h30 : u 30 = w 30) (h31 : u 31 = w 31) (h33 : u 33 = w 33) (h34 : u 34 = w 34) (h35 : u 35 = w 35) : COR P g se h kn x0 v3 s u := by
  obtain ⟨⟨c1, c2⟩, c3, c4, c5, c6⟩ := hc
  refine ⟨⟨tc_eq c1 h29 h30 h7, ?_⟩, ?_, ?_, ?_, ?_⟩
  · rw [h7, h30, h31]; exact c2
  · unfold ORD; rw [h7, h8, h35]; exact c3
  · unfold BKT PRO; rw [h7, h8, h30, h33, h34, h35]; exact c4
  · unfold PRO CLSx; rw [h7, h8, h30, h31, h35]; exact c5
  · unfold PRO; rw [h7, h8, h30, h35]; exact c6
theorem sgu_pc {P : Int} {w : Wd} {s : Int} (hs : 0 ≤ s ∧ s < w 28 7) (hx : WH (w 30 s.toNat) (sof (w 30 s.toNat)) P) : PC (f_S_guests s w) (fun r u => u = w ∧ B10 r (gs P (sof (w 30 s.toNat)))) := by
  unfold f_S_guests
  rw [if_neg (by omega), if_neg (by omega)]
  refine pc_gd (fun _ => ?_)
  obtain ⟨r, e, b⟩ := og_e hx w
  rw [e, jc_s]
  exact pc_some ⟨rfl, b⟩
theorem b10_some {x : Int} {f : Nat → Bool} (h : B10 x f) : (x = 0 ∧ ∀ k, k < 10 → f k = false) ∨ (x ≠ 0 ∧ ∃ k, k < 10 ∧ f k = true) := by
  by_cases c : ∃ k, k < 10 ∧ f k = true
  · refine Or.inr ⟨fun e => ?_, c⟩
    obtain ⟨k, hk, e2⟩ := c
    have := h.2 k hk
    rw [e, bt_0, e2] at this; cases this
  · have f0 : ∀ k, k < 10 → f k = false := fun k hk => by
      cases e : f k with
      | false => rfl
      | true => exact absurd ⟨k, hk, e⟩ c
    exact Or.inl ⟨b10_eq h b10_0 f0, f0⟩
/-- the end of one STATE's turn -/
def TRN (P g se : Int) (h kn : Nat → Int) (x0 v3 : Int) (w u : Wd) : Prop := FRS w u ∧ (ROK u ∧ u 24 4 ≤ w 24 4 + 1) ∧ u 28 8 = w 28 8 ∧ u 35 = w 35 ∧ ((u 28 10 = 0 ∧ COR P g se h kn x0 v3 (-1) u ∧ w 28 7 ≤ u 28 7 ∧ ∀ k : Nat, (k : Int) < w 28 7 → u 30 k = w 30 k ∧ ∀ t, t < 61 → b6 (w 31 k) t = true → b6 (u 31 k) t = true) ∨ (u 28 10 = 1 ∧ MNY P g se h kn x0))
theorem goOn_pc {P g se : Int} {h kn : Nat → Int} {x0 v3 s : Int} {w : Wd} (hP : 0 ≤ P ∧ P ≤ 10) (hg : 1 ≤ g ∧ g ≤ 3) (h0 : WH x0 (sof x0) P) (hw : CW P g se h kn x0 w) (hc : COR P g se h kn x0 v3 s w) (hs : 0 ≤ s ∧ s < w 28 7) (hrk : rkx P (w 30 s.toNat) = v3) (hto : w 28 10 = 0) (hr : ROK w) (hlt : w 24 4 < 2147483647) : PC (f_S_goOn s w) (fun _ u => TRN P g se h kn x0 v3 w u) := by
  have es : ((s.toNat : Nat) : Int) = s := by omega
  have hre := (hc.1.2 s.toNat (by omega)).1
  have hx : WH (w 30 s.toNat) (sof (w 30 s.toNat)) P := by
    obtain ⟨t, ht⟩ := hre
    exact rx_wh hP h0 ht
  have hsz := hc.1.1.2.2.1
  unfold f_S_goOn
  refine pc_call (sgu_pc hs hx) (fun r1 u2 q => ?_)
  rw [q.1]
  rcases b10_some q.2 with ⟨e, hn⟩ | ⟨e, hgu⟩
  · refine pc_ite (fun _ => ?_) (fun c => absurd e c)
    refine pc_gd (fun _ => pc_gd (fun _ => pc_gd (fun _ => pc_lw (fun u e12 => pc_some ?_))))
    rw [← es] at hc
    obtain ⟨a1, a2⟩ := cor_no hP h0 hc (by omega) hn e12
    have r24 : u 24 = w 24 := by rw [e12, st_row (by decide)]
    have r27 : u 27 = w 27 := by rw [e12, st_row (by decide)]
    have r28 : u 28 = w 28 := by rw [e12, st_row (by decide)]
    refine ⟨⟨fun c _ _ _ _ _ _ _ x8 _ _ _ => by rw [e12, st_row x8], by rw [r28]⟩, ⟨by unfold ROK; rw [r24, r27]; exact hr, by rw [r24]; omega⟩, by rw [r28], by rw [e12, st_row (by decide)], Or.inl ⟨by rw [r28]; exact hto, a1, a2.1, fun k hk => ⟨(a2.2 k hk).1, (a2.2 k hk).2.1⟩⟩⟩
  · refine pc_ite (fun c => absurd c e) (fun _ => ?_)
    refine pc_gd (fun _ => ?_)
    obtain ⟨w3, w5, w7, w8, w4, wk⟩ := hw
    rw [w8]
    refine pc_call (gat_pc (kn := kn) hP hx w3 w5 hg w7 wk hr hlt) (fun r3 u4 z => ?_)
    obtain ⟨z1, ⟨z2, z3⟩, z4, z5, z6⟩ := z
    have h252 : u4 24 3 ≤ 256 := by
      have hz := z5.1
      have := mov_few hP (gs_fre (P := P) (s := sof (w 30 s.toNat)) (h := h)) (n := (u4 24 3).toNat) (F := u4 25) (fun j hj => (z5.2.1 j (by omega)).2) (fun i j hi hj e => z5.2.2.1 i j (by omega) (by omega) e)
      omega
    have y28 : u4 28 = w 28 := z1 28 (by decide) (by decide) (by decide) (by decide)
    have y31 : u4 31 = w 31 := z1 31 (by decide) (by decide) (by decide) (by decide)
    have y30 : u4 30 = w 30 := z1 30 (by decide) (by decide) (by decide) (by decide)
    have hc4 : COR P g se h kn x0 v3 s u4 := cor_eq hc (by rw [y28]) (by rw [y28]) (z1 29 (by decide) (by decide) (by decide) (by decide)) y30 y31 (z1 33 (by decide) (by decide) (by decide) (by decide)) (z1 34 (by decide) (by decide) (by decide) (by decide)) (z1 35 (by decide) (by decide) (by decide) (by decide))
    have fin : ∀ u : Wd, (∀ c, c ≠ 28 → c ≠ 29 → c ≠ 30 → c ≠ 31 → c ≠ 33 → c ≠ 34 → u c = u4 c) → u 28 8 = w 28 8 → u 28 9 = w 28 9 → FRS w u ∧ (ROK u ∧ u 24 4 ≤ w 24 4 + 1) ∧ u 28 8 = w 28 8 ∧ u 35 = w 35 := fun u hu h8 h9 => by
      refine ⟨⟨fun c x1 x2 x3 x4 x5 x6 x7 x8 x9 x10 x11 => ?_, h9⟩, ⟨?_, ?_⟩, h8, by rw [hu 35 (by decide) (by decide) (by decide) (by decide) (by decide) (by decide), z1 35 (by decide) (by decide) (by decide) (by decide)]⟩
      · rw [hu c x5 x6 x7 x8 x9 x10, z1 c x1 x2 x3 x4]
      · unfold ROK
        rw [hu 24 (by decide) (by decide) (by decide) (by decide) (by decide) (by decide), hu 27 (by decide) (by decide) (by decide) (by decide) (by decide) (by decide)]; exact z3
      · rw [hu 24 (by decide) (by decide) (by decide) (by decide) (by decide) (by decide), z2]; exact Int.le_refl _
    -- the moves in their order
    have loop : ∀ (n : Nat) {v4 : Int} {u : Wd}, 0 ≤ v4 → (∀ c, c ≠ 28 → c ≠ 29 → c ≠ 30 → c ≠ 31 → c ≠ 33 → c ≠ 34 → u c = u4 c) → u 28 8 = w 28 8 → u 28 9 = w 28 9 → ((u 28 10 = 1 ∧ MNY P g se h kn x0) ∨ (u 28 10 = 0 ∧ COR P g se h kn x0 v3 s u ∧ w 28 7 ≤ u 28 7 ∧ (∀ k : Nat, (k : Int) < w 28 7 → u 30 k = w 30 k ∧ ∀ t, t < 61 → b6 (w 31 k) t = true → b6 (u 31 k) t = true) ∧ u 31 s.toNat = w 31 s.toNat ∧ ∀ k : Nat, (k : Int) < v4 → (k : Int) < u4 24 3 → ∀ y, WH y (nis P (sof (w 30 s.toNat)) g (bt (u4 25 k))) P → ∃ j : Nat, (j : Int) < u 28 7 ∧ u 30 j = y ∧ ∀ t, t + 1 < 61 → b6 (w 31 s.toNat) t = true → b6 (u 31 j) (t + 1) = true)) → PC (f_S_goOn_52 n s v4 u) (fun _ u => TRN P g se h kn x0 v3 w u) := by
      intro n
      induction n with
      | zero => intros; exact pc_none
      | succ n ih =>
        intro v4 u i4 hu h8 h9 hd
        rw [f_S_goOn_52, hu 24 (by decide) (by decide) (by decide) (by decide) (by decide) (by decide)]
        obtain ⟨f1, f2, f3, f4⟩ := fin u hu h8 h9
        refine pc_ite (fun c => pc_some ⟨f1, f2, f3, f4, ?_⟩) (fun c => ?_)
        · rcases hd with d1 | ⟨d1, d2, d3, d4, d5, d6⟩
          · exact Or.inr d1
          · obtain ⟨k1, k2, k3, k4, k5⟩ := d2
            refine Or.inl ⟨d1, ⟨k1, k2, k3, fun k hk => ⟨(k4 k hk).1, fun _ => ?_⟩, k5⟩, d3, d4⟩
            by_cases ck : (k : Int) = s
            · intro y hy
              rw [show k = s.toNat by omega] at hy ⊢
              rw [(d4 s.toNat (by omega)).1] at hy
              obtain ⟨m, hm, hwy⟩ := hy
              obtain ⟨i, hi, ei⟩ := z6 m hm
              rw [← ei] at hwy
              obtain ⟨j, hj, ej, hb⟩ := d6 i (by omega) hi y hwy
              exact ⟨j, hj, ej, fun t h61 hbt => hb t h61 (by rw [d5] at hbt; exact hbt)⟩
            · exact (k4 k hk).2 ck
        · refine pc_ite (fun c0 => ?_) (fun c0 => pc_some ⟨f1, f2, f3, f4, ?_⟩)
          · rcases hd with ⟨d1, _⟩ | ⟨d1, d2, d3, d4, d5, d6⟩
            · omega
            refine pc_gd (fun _ => ?_)
            refine pc_call (mo_pc (k := v4) (u := u) (by rw [hu 24 (by decide) (by decide) (by decide) (by decide) (by decide) (by decide)]; omega)) (fun r5 u6 q5 => ?_)
            rw [q5.1, q5.2, hu 25 (by decide) (by decide) (by decide) (by decide) (by decide) (by decide), (d4 s.toNat (by omega)).1]
            have hm := (z5.2.1 v4.toNat (by omega)).2
            have u57 : u 5 7 = g := by rw [hu 5 (by decide) (by decide) (by decide) (by decide) (by decide) (by decide), z1 5 (by decide) (by decide) (by decide) (by decide)]; exact w7
            rw [u57]
            obtain ⟨y, ey, hy⟩ := after_e (v := u4 25 v4.toNat) hx hP hg (b10_self (mvs_who hP hm).1) (mvs_ok hP hm) u
            rw [ey, jc_s]
            refine pc_gd (fun _ => ?_)
            have hys := wh_sof hy hP.2
            have hsx : SUX P g se h kn (w 30 s.toNat) y := ⟨_, hm, hy⟩
            have hup : v3 < rkx P y := by
              have := sx_rank hP hg hx hsx hgu
              unfold rkx at hrk ⊢
              omega
            have hbits : ∀ t, t < 61 → b6 (land (lshl (u 31 s.toNat) 1) 2305843009213693951) t = true → 1 ≤ t ∧ b6 (w 31 s.toNat) (t - 1) = true := fun t h61 hb => by
              rw [b6_and, b6_shl (by omega), d5, Bool.and_eq_true, Bool.and_eq_true, decide_eq_true_iff] at hb
              exact hb.1
            have rs := hc.1.2 s.toNat (by omega)
            have hrt : ∀ t, t < 61 → b6 (land (lshl (u 31 s.toNat) 1) 2305843009213693951) t = true → RCX P g se h kn x0 t y := fun t h61 hb => by
              obtain ⟨b1, b2⟩ := hbits t h61 hb
              rw [show t = t - 1 + 1 by omega]
              exact ⟨_, rs.2 (t - 1) (by omega) b2, hsx⟩
            refine pc_call (place_pc d2.1.1 (orank_e hys u) (rkf_rg hys.2.2)) (fun r9 v pl => pc_let (fun x11 e11 => ?_))
            rw [w32_id (by omega)] at e11
            rw [e11]
            rcases cor_place d2 hys hup (by obtain ⟨t, ht⟩ := hre; exact ⟨t + 1, _, ht, hsx⟩) hrt pl with ⟨e2, hm2⟩ | ⟨p1, p2, p3, ⟨j, hj, ej, hb⟩, p5, p6, p7⟩
            · refine ih (by omega) (fun c a1 a2 a3 a4 a5 a6 => by rw [e2, st_row a1]; exact hu c a1 a2 a3 a4 a5 a6) (by rw [e2, st_k (by decide)]; exact h8) (by rw [e2, st_k (by decide)]; exact h9) (Or.inl ⟨by rw [e2, st_eq], hm2⟩)
            · have hne : ∀ k : Nat, (k : Int) < u 28 7 → rkx P (u 30 k) ≤ v3 → u 30 k ≠ y := fun k _ hle e => by rw [e] at hle; omega
              have s30 : u 30 s.toNat = w 30 s.toNat := (d4 s.toNat (by omega)).1
              refine ih (by omega) (fun c a1 a2 a3 a4 a5 a6 => (p5 c a1 a2 a3 a4 a5 a6).trans (hu c a1 a2 a3 a4 a5 a6)) (p6.trans h8) (p7.trans h9) (Or.inr ⟨p2.trans d1, p1, by have := p3.1; omega, fun k hk => ?_, ?_, fun k hk hk2 y' hy' => ?_⟩)
              · obtain ⟨g1, g2, _⟩ := p3.2 k (by omega)
                exact ⟨g1.trans (d4 k hk).1, fun t h61 hb => g2 t h61 ((d4 k hk).2 t h61 hb)⟩
              · obtain ⟨_, _, g3⟩ := p3.2 s.toNat (by omega)
                rw [g3 (hne _ (by omega) (by rw [s30]; omega)), d5]
              · by_cases ck : (k : Int) < v4
                · obtain ⟨j', hj', ej', hb'⟩ := d6 k ck hk2 y' hy'
                  obtain ⟨g1, g2, _⟩ := p3.2 j' hj'
                  have := p3.1
                  exact ⟨j', by omega, g1.trans ej', fun t h61 hbt => g2 (t + 1) h61 (hb' t h61 hbt)⟩
                · rw [show k = v4.toNat by omega] at hy'
                  have eyy : y' = y := wh_inj hy' hy (fun _ _ => rfl)
                  refine ⟨j, hj, by rw [eyy]; exact ej, fun t h61 hbt => hb (t + 1) h61 ?_⟩
                  rw [b6_and, b6_all (by omega), decide_eq_true h61, Bool.and_true, b6_shl (by omega), decide_eq_true (show 1 ≤ t + 1 by omega), d5, show t + 1 - 1 = t by omega, hbt]; rfl
          · rcases hd with d1 | ⟨d1, _⟩
            · exact Or.inr d1
            · omega
    refine loop FU (by decide) (fun c _ _ _ _ _ _ => rfl) (by rw [y28]) (by rw [y28]) (Or.inr ⟨by rw [y28]; exact hto, hc4, by rw [y28]; exact Int.le_refl _, fun k hk => ⟨by rw [y30], fun t _ hb => by rw [y31]; exact hb⟩, by rw [y31], fun k hk => by omega⟩)
