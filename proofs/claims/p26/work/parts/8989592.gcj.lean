/-! LOOKING BACK: how many WEEKS on, from each STATE (begin: nobody asked for, nothing paid asked for) -/
def OKL (P g se : Int) (h kn : Nat → Int) (x word : Int) : Prop := ∀ n, n < 61 → (b6 word n = true ↔ ∃ y, RCX P g se h kn x n y ∧ sbg P y)
theorem lof_pc {u : Wd} {z : Int} (hT : TC u) : PC (f_S_leftOf z u) (fun r v => v = u ∧ ((∃ j : Nat, (j : Int) < u 28 7 ∧ u 30 j = z) → ∃ j : Nat, (j : Int) < u 28 7 ∧ u 30 j = z ∧ r = u 32 j)) := by
  unfold f_S_leftOf
  refine pc_call (slo_pc hT) (fun r1 u2 q => ?_)
  obtain ⟨q1, q2, d, hd, e1, hm, hq⟩ := q
  rw [q1]
  have b29 := hT.2.1 r1.toNat (by omega)
  have b7 := hT.2.2.1
  refine pc_gd (fun _ => pc_let (fun x3 e3 => ?_))
  rw [w32_id (by omega)] at e3
  refine pc_ite (fun c => pc_some ⟨rfl, fun hj => ?_⟩) (fun c => pc_ite (fun c2 => by omega) (fun c2 => pc_gd (fun _ => pc_some ⟨rfl, fun _ => ?_⟩)))
  · obtain ⟨j, hj1, hj2⟩ := hj
    obtain ⟨d', hd', hm', f1, f2⟩ := hT.2.2.2 j hj1
    rw [hj2] at hm' f1
    have z0 : u 29 (slCx z d) = 0 := by rw [← e1]; omega
    rcases Nat.lt_trichotomy d d' with c1 | c1 | c1
    · exact absurd z0 (hm' d c1).1
    · rw [c1] at z0; omega
    · have := (hm d' c1).2
      rw [f1, show ((j : Int) + 1 - 1).toNat = j by omega] at this
      exact absurd hj2 this
  · rcases hq with hq | ⟨_, hq⟩
    · omega
    · exact ⟨x3.toNat, by omega, by rw [e3]; exact hq, rfl⟩
theorem lbh_pc {P g se : Int} {h kn : Nat → Int} {x0 : Int} {u : Wd} {k : Int} (hP : 0 ≤ P ∧ P ≤ 10) (hg : 1 ≤ g ∧ g ≤ 3) (hw : CW P g se h kn x0 u) (hT : TC u) (hk : 0 ≤ k ∧ k < u 28 7) (hx : WH (u 30 k.toNat) (sof (u 30 k.toNat)) P) (hcl : ∀ y, SUX P g se h kn (u 30 k.toNat) y → ∃ j : Nat, (j : Int) < u 28 7 ∧ u 30 j = y) (hpr : sbg P (u 30 k.toNat) → ∀ j : Nat, (j : Int) < u 28 7 → SUX P g se h kn (u 30 k.toNat) (u 30 j) → OKL P g se h kn (u 30 j) (u 32 j)) (hr : ROK u) (hlt : u 24 4 < 2147483647) : PC (f_S_leftBehind k u) (fun r v => (FXx u v ∧ ROK v ∧ v 24 4 ≤ u 24 4 + 1) ∧ ((¬ sbg P (u 30 k.toNat) ∧ r = 0) ∨ (sbg P (u 30 k.toNat) ∧ ∀ n, n < 61 → (b6 r n = true ↔ ∃ z, SUX P g se h kn (u 30 k.toNat) z ∧ ∃ y, RCX P g se h kn z n y ∧ sbg P y)))) := by
  unfold f_S_leftBehind
  refine pc_call (sgu_pc hk hx) (fun r1 u2 q => ?_)
  rw [q.1]
  have sb := sbg_0 q.2
  refine pc_ite (fun c => pc_some ⟨⟨fun _ _ _ _ _ => rfl, hr, by omega⟩, Or.inl ⟨fun hh => sb.mpr hh c, rfl⟩⟩) (fun c => pc_gd (fun _ => ?_))
  have hsb := sb.mp c
  obtain ⟨w3, w5, w7, w8, w4, wk⟩ := hw
  rw [w8]
  refine pc_call (gat_pc (kn := kn) hP hx w3 w5 hg w7 wk hr hlt) (fun r3 u4 z => ?_)
  obtain ⟨z1, ⟨z2, z3⟩, z4, z5, z6⟩ := z
  have y28 : u4 28 = u 28 := z1 28 (by decide) (by decide) (by decide) (by decide)
  have y29 : u4 29 = u 29 := z1 29 (by decide) (by decide) (by decide) (by decide)
  have y30 : u4 30 = u 30 := z1 30 (by decide) (by decide) (by decide) (by decide)
  have y32 : u4 32 = u 32 := z1 32 (by decide) (by decide) (by decide) (by decide)
  have y5 : u4 5 = u 5 := z1 5 (by decide) (by decide) (by decide) (by decide)
  have hT4 : TC u4 := tc_eq hT y29 y30 (by rw [y28])
  have h252 : u4 24 3 ≤ 256 := by
    have hz := z5.1
    have := mov_few hP (gs_fre (P := P) (s := sof (u 30 k.toNat)) (h := h)) (n := (u4 24 3).toNat) (F := u4 25) (fun j hj => (z5.2.1 j (by omega)).2) (fun i j hi hj e => z5.2.2.1 i j (by omega) (by omega) e)
    omega
  have l29 : ∀ (n : Nat) {v4 v6 : Int}, 0 ≤ v6 → v6 ≤ u4 24 3 → (∀ t, t < 61 → (b6 v4 t = true ↔ ∃ i : Nat, (i : Int) < v6 ∧ ∃ z, WH z (nis P (sof (u 30 k.toNat)) g (bt (u4 25 i))) P ∧ ∃ y, RCX P g se h kn z t y ∧ sbg P y)) → PC (f_S_leftBehind_29 n k v4 v6 u4) (fun r v => (FXx u v ∧ ROK v ∧ v 24 4 ≤ u 24 4 + 1) ∧ ((¬ sbg P (u 30 k.toNat) ∧ r = 0) ∨ (sbg P (u 30 k.toNat) ∧ ∀ n, n < 61 → (b6 r n = true ↔ ∃ z, SUX P g se h kn (u 30 k.toNat) z ∧ ∃ y, RCX P g se h kn z n y ∧ sbg P y)))) := by
    intro n
    induction n with
    | zero => intros; exact pc_none
    | succ n ih =>
      intro v4 v6 i6 i6' hA
      rw [f_S_leftBehind_29]
      refine pc_ite (fun c6 => pc_some ⟨⟨z1, z3, by omega⟩, Or.inr ⟨hsb, fun t ht => ?_⟩⟩) (fun c6 => pc_gd (fun _ => ?_))
      · rw [hA t ht]
        constructor
        · rintro ⟨i, hi, z', hz, y, hy⟩
          exact ⟨z', ⟨_, (z5.2.1 i (by omega)).2, hz⟩, y, hy⟩
        · rintro ⟨z', ⟨m, hm, hz⟩, y, hy⟩
          obtain ⟨i, hi, ei⟩ := z6 m hm
          exact ⟨i, by omega, z', by rw [ei]; exact hz, y, hy⟩
      · refine pc_call (mo_pc (k := v6) (u := u4) (by omega)) (fun r5 u6 q5 => ?_)
        rw [q5.1, q5.2, y5, w7, y30]
        have hm := (z5.2.1 v6.toNat (by omega)).2
        obtain ⟨y, ey, hy⟩ := after_e (v := u4 25 v6.toNat) hx hP hg (b10_self (mvs_who hP hm).1) (mvs_ok hP hm) u4
        rw [ey, jc_s]
        refine pc_call (lof_pc (z := y) hT4) (fun r9 u10 q9 => pc_let (fun x11 e11 => pc_let (fun x12 e12 => ?_)))
        rw [w32_id (by omega)] at e12
        rw [q9.1, e11, e12]
        have hsx : SUX P g se h kn (u 30 k.toNat) y := ⟨_, hm, hy⟩
        have hex := q9.2 (by rw [y28, y30]; exact hcl y hsx)
        obtain ⟨j, j1, j2, j3⟩ := hex
        rw [y28] at j1
        rw [y30] at j2
        rw [y32] at j3
        have ok := hpr hsb j j1 (by rw [j2]; exact hsx)
        rw [j2, ← j3] at ok
        refine ih (by omega) (by omega) (fun t ht => ?_)
        rw [b6_or, Bool.or_eq_true, hA t ht, ok t ht]
        constructor
        · rintro (⟨i, hi, hh⟩ | hh)
          · exact ⟨i, by omega, hh⟩
          · exact ⟨v6.toNat, by omega, y, hy, hh⟩
        · rintro ⟨i, hi, z', hz, hh⟩
          by_cases ci : (i : Int) < v6
          · exact Or.inl ⟨i, ci, z', hz, hh⟩
          · rw [show i = v6.toNat by omega] at hz
            rw [wh_inj hz hy (fun _ _ => rfl)] at hh
            exact Or.inr hh
  exact l29 FU (by decide) z5.1 (fun t _ => by
    rw [b6_0]
    exact ⟨(fun hh => by cases hh), (fun ⟨i, hi, _⟩ => by omega)⟩)
theorem okl_b {P g se : Int} {h kn : Nat → Int} {x r : Int} (hP : 0 ≤ P ∧ P ≤ 10) (hx : WH x (sof x) P) (hs : sbg P x) (hr : ∀ n, n < 61 → (b6 r n = true ↔ ∃ z, SUX P g se h kn x z ∧ ∃ y, RCX P g se h kn z n y ∧ sbg P y)) : OKL P g se h kn x (lor 1 (lshl r 1)) := by
  intro n hn
  rw [b6_or, b6_1 (by omega), b6_shl (by omega)]
  cases n with
  | zero =>
    constructor
    · intro _; exact ⟨x, rfl, hs⟩
    · intro _; rfl
  | succ n =>
    rw [decide_eq_false (show ¬ n + 1 = 0 by omega), decide_eq_true (show 1 ≤ n + 1 by omega), Bool.false_or, Bool.true_and, show n + 1 - 1 = n by omega, hr n (by omega)]
    constructor
    · rintro ⟨z, hz, y, hy, hsy⟩; exact ⟨y, rcx_first.mpr ⟨z, hz, hy⟩, hsy⟩
    · rintro ⟨y, hy, hsy⟩
      obtain ⟨z, hz, hy2⟩ := rcx_first.mp hy
      exact ⟨z, hz, y, hy2, hsy⟩
theorem okl_no {P g se : Int} {h kn : Nat → Int} {x : Int} (hP : 0 ≤ P ∧ P ≤ 10) (hx : WH x (sof x) P) (hs : ¬ sbg P x) : OKL P g se h kn x (lor 0 (lshl 0 1)) := by
  intro n hn
  rw [b6_or, b6_0, b6_shl (by omega), b6_0, Bool.and_false, Bool.or_false]
  exact ⟨(fun hh => by cases hh), fun ⟨y, hy, hsy⟩ => absurd (sbg_back hP hx hy hsy) hs⟩
theorem lkb_pc {P g se : Int} {h kn : Nat → Int} {x0 : Int} {u0 : Wd} (hP : 0 ≤ P ∧ P ≤ 10) (hg : 1 ≤ g ∧ g ≤ 3) (h0 : WH x0 (sof x0) P) (hS : SRC P g se h kn x0 u0) (hw : CW P g se h kn x0 u0) (hr : ROK u0) (hlt : u0 24 4 ≤ 2147470000) : PC (f_S_lookBack 0 (-1) u0) (fun _ u => (∀ c, c ≠ 24 → c ≠ 25 → c ≠ 26 → c ≠ 27 → c ≠ 32 → u c = u0 c) ∧ (ROK u ∧ u 24 4 ≤ u0 24 4 + 3000) ∧ ∀ k : Nat, (k : Int) < u0 28 7 → OKL P g se h kn (u0 30 k) (u 32 k)) := by
  obtain ⟨⟨hT, hre⟩, hX, hC, hO, hPr, hK⟩ := hS
  obtain ⟨⟨o0, o1⟩, o2, o3⟩ := hO
  have b7 := hT.2.2.1
  have whk : ∀ k : Nat, (k : Int) < u0 28 7 → WH (u0 30 k) (sof (u0 30 k)) P := fun k hk => by
    obtain ⟨t, ht⟩ := (hre k hk).1
    exact rx_wh hP h0 ht
  have l8 : ∀ (n : Nat) {v5 : Int} {u : Wd}, -1 ≤ v5 → v5 < u0 28 8 → (∀ c, c ≠ 24 → c ≠ 25 → c ≠ 26 → c ≠ 27 → c ≠ 32 → u c = u0 c) → ROK u → u 24 4 ≤ u0 24 4 + (u0 28 8 - 1 - v5) → (∀ j : Nat, v5 < (j : Int) → (j : Int) < u0 28 8 → OKL P g se h kn (u0 30 (u0 35 j).toNat) (u 32 (u0 35 j).toNat)) → PC (f_S_lookBack_8 n 0 (-1) v5 u) (fun _ u => (∀ c, c ≠ 24 → c ≠ 25 → c ≠ 26 → c ≠ 27 → c ≠ 32 → u c = u0 c) ∧ (ROK u ∧ u 24 4 ≤ u0 24 4 + 3000) ∧ ∀ k : Nat, (k : Int) < u0 28 7 → OKL P g se h kn (u0 30 k) (u 32 k)) := by
    intro n
    induction n with
    | zero => intros; exact pc_none
    | succ n ih =>
      intro v5 u i5 i5' hu hru hlu hA
      rw [f_S_lookBack_8]
      refine pc_ite (fun c => pc_some ⟨hu, ⟨hru, by omega⟩, fun k hk => ?_⟩) (fun c => pc_gd (fun _ => pc_let (fun x2 e2 => ?_)))
      · obtain ⟨j, hj, ej⟩ := hPr k hk
        have := hA j (by omega) hj
        rw [ej, show ((k : Nat) : Int).toNat = k by omega] at this
        exact this
      · rw [hu 35 (by decide) (by decide) (by decide) (by decide) (by decide)] at e2
        have b2 := o2 v5.toNat (by omega)
        rw [← e2] at b2
        have hx := whk x2.toNat (by omega)
        have u28 : u 28 = u0 28 := hu 28 (by decide) (by decide) (by decide) (by decide) (by decide)
        have u30 : u 30 = u0 30 := hu 30 (by decide) (by decide) (by decide) (by decide) (by decide)
        have u5 : u 5 = u0 5 := hu 5 (by decide) (by decide) (by decide) (by decide) (by decide)
        have u7 : u 7 = u0 7 := hu 7 (by decide) (by decide) (by decide) (by decide) (by decide)
        have hTu : TC u := tc_eq hT (hu 29 (by decide) (by decide) (by decide) (by decide) (by decide)) u30 (by rw [u28])
        have hwu : CW P g se h kn x0 u := by unfold CW at hw ⊢; rw [u5, u7]; exact hw
        have hxu : WH (u 30 x2.toNat) (sof (u 30 x2.toNat)) P := by rw [u30]; exact hx
        -- what is written
        have w79 : ∀ {s0 : Int}, ((s0 = 0 ∧ ¬ sbg P (u0 30 x2.toNat)) ∨ (s0 = 1 ∧ sbg P (u0 30 x2.toNat))) → PC (f_S_lookBack_79 (f_S_lookBack_8 n) 0 (-1) v5 x2 s0 u) (fun _ u => (∀ c, c ≠ 24 → c ≠ 25 → c ≠ 26 → c ≠ 27 → c ≠ 32 → u c = u0 c) ∧ (ROK u ∧ u 24 4 ≤ u0 24 4 + 3000) ∧ ∀ k : Nat, (k : Int) < u0 28 7 → OKL P g se h kn (u0 30 k) (u 32 k)) := fun {s0} hs0 => by
          unfold f_S_lookBack_79
          refine pc_call (lbh_pc (x0 := x0) hP hg hwu hTu (by rw [u28]; exact b2) hxu (fun y hy => ?_) (fun hsb j hj hsj => ?_) hru (by omega)) (fun r5 u6 q => ?_)
          · rw [u30] at hy
            obtain ⟨j, j1, j2, _⟩ := hC x2.toNat (by omega) y hy
            exact ⟨j, by rw [u28]; exact j1, by rw [u30]; exact j2⟩
          · rw [u28] at hj
            rw [u30] at hsj hsb ⊢
            obtain ⟨p, hp, ep⟩ := hPr j hj
            have rk := sx_rank hP hg hx hsj hsb
            have hpv : v5 < (p : Int) := by
              refine Classical.byContradiction fun hh => ?_
              by_cases c1 : p = v5.toNat
              · rw [c1, ← e2] at ep
                rw [show j = x2.toNat by omega] at rk
                omega
              · have := hK p v5.toNat (by omega) (by omega)
                rw [ep, ← e2, show ((j : Nat) : Int).toNat = j by omega] at this
                unfold rkx at this
                omega
            have := hA p hpv hp
            rw [ep, show ((j : Nat) : Int).toNat = j by omega] at this
            exact this
          · obtain ⟨⟨q1, q2, q3⟩, q4⟩ := q
            refine pc_gd (fun _ => pc_lw (fun u7' e7 => pc_let (fun x8 e8 => ?_)))
            rw [w32_id (by omega)] at e8
            rw [e8]
            rw [u30] at q4
            have fr : ∀ c, c ≠ 24 → c ≠ 25 → c ≠ 26 → c ≠ 27 → c ≠ 32 → u7' c = u0 c := fun c a1 a2 a3 a4 a5 => by rw [e7, st_row a5, q1 c a1 a2 a3 a4, hu c a1 a2 a3 a4 a5]
            have r24 : u7' 24 = u6 24 := by rw [e7, st_row (by decide)]
            have r27 : u7' 27 = u6 27 := by rw [e7, st_row (by decide)]
            have r32 : u6 32 = u 32 := q1 32 (by decide) (by decide) (by decide) (by decide)
            refine ih (by omega) (by omega) fr (by unfold ROK; rw [r24, r27]; exact q2) (by rw [r24]; omega) (fun j hj1 hj2 => ?_)
            by_cases cj : (j : Int) = v5
            · rw [show j = v5.toNat by omega, ← e2, e7, st_eq]
              rcases q4 with ⟨a1, a2⟩ | ⟨a1, a2⟩
              · rcases hs0 with ⟨b1, _⟩ | ⟨_, b2'⟩
                · rw [b1, a2]; exact okl_no hP hx a1
                · exact absurd b2' a1
              · rcases hs0 with ⟨_, b2'⟩ | ⟨b1, _⟩
                · exact absurd a1 b2'
                · rw [b1]; exact okl_b hP hx a1 a2
            · have ne : (u0 35 j).toNat ≠ x2.toNat := fun hh => by
                have b3 := o2 j hj2
                have := o3 j v5.toNat hj2 (by omega) (by rw [← e2]; omega)
                omega
              rw [e7, st_k ne, r32]
              exact hA j (by omega) hj2
        refine pc_call (sgu_pc (w := u) (s := x2) (by rw [u28]; exact b2) hxu) (fun r3 u4 q => ?_)
        rw [q.1]
        have sb := sbg_0 q.2
        rw [u30] at sb
        unfold f_S_lookBack_48 f_S_lookBack_49 f_S_lookBack_78 f_S_lookBack_74
        refine pc_ite (fun c3 => pc_ite (fun _ => w79 (Or.inl ⟨rfl, fun hh => sb.mpr hh c3⟩)) (fun e => absurd rfl e)) (fun c3 => ?_)
        refine pc_call (sgu_pc (w := u) (s := x2) (by rw [u28]; exact b2) hxu) (fun r11 u12 q' => ?_)
        rw [q'.1]
        have iz : iand 0 (ixor r11 (-1)) = 0 := by have := iand_l (x := 0) (y := ixor r11 (-1)) (by decide); omega
        refine pc_ite (fun _ => pc_ite (fun e => absurd e (by decide)) (fun _ => pc_ite (fun _ => w79 (Or.inr ⟨rfl, sb.mp c3⟩)) (fun e => absurd rfl e))) (fun e => absurd iz e)
  unfold f_S_lookBack
  refine pc_let (fun x1 e1 => ?_)
  rw [w32_id (by omega)] at e1
  rw [e1]
  exact l8 FU (by omega) (by omega) (fun _ _ _ _ _ _ => rfl) hr (by omega) (fun j h1 h2 => by omega)
