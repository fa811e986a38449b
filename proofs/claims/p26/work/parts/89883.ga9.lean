/-! THE WHOLE SEARCH -/
def XST (x0 : Int) (w : Wd) : Prop := ∃ k : Nat, (k : Int) < w 28 7 ∧ w 30 k = x0 ∧ b6 (w 31 k) 0 = true
def ORK (P : Int) (w : Wd) : Prop := ∀ i j : Nat, i < j → (j : Int) < w 28 8 → rkx P (w 30 (w 35 i).toNat) ≤ rkx P (w 30 (w 35 j).toNat)
def RST (P g se : Int) (h kn : Nat → Int) (x0 v3 R : Int) (b w : Wd) : Prop := FRS b w ∧ (ROK w ∧ w 24 4 ≤ R + w 28 8) ∧ (0 ≤ w 28 8 ∧ w 28 8 ≤ 3000) ∧ ((w 28 10 = 1 ∧ MNY P g se h kn x0) ∨ (w 28 10 = 0 ∧ COR P g se h kn x0 v3 (-1) w ∧ XST x0 w ∧ ORK P w))
theorem rst_next {P g se : Int} {h kn : Nat → Int} {x0 R : Int} {v3 : Nat} {b w : Wd} (hs : RST P g se h kn x0 v3 R b w) (hv : v3 < 451) (he : (3000 : Int) ≤ w 28 8 ∨ w 34 v3 = -1 ∨ w 28 10 ≠ 0) : RST P g se h kn x0 ((v3 : Int) + 1) R b w := by
  obtain ⟨a1, a2, a3, a4⟩ := hs
  refine ⟨a1, a2, a3, ?_⟩
  rcases a4 with a4 | ⟨a4, a5, a6, a7⟩
  · exact Or.inl a4
  · refine Or.inr ⟨a4, ?_, a6, a7⟩
    obtain ⟨c1, c2, c3, c4, c5⟩ := a5
    obtain ⟨l, l1, l2, l3⟩ := c3 v3 hv
    have h7 := c1.1.2.2.1
    have hl : l = [] := by
      cases l with
      | nil => rfl
      | cons k l =>
        exfalso
        obtain ⟨k1, k2, k3⟩ := (l3 k).mp List.mem_cons_self
        rcases he with e | e | e
        · have h1 := php (w 28 7).toNat ((w 28 8).toNat + 1) (fun i => if i < (w 28 8).toNat then (w 35 i).toNat else k) (fun i hi => by
            show (if i < (w 28 8).toNat then (w 35 i).toNat else k) < (w 28 7).toNat
            by_cases ci : i < (w 28 8).toNat
            · rw [if_pos ci]; have := c2.2.1 i (by omega); omega
            · rw [if_neg ci]; omega) (fun i j hi hj e2 => by
            have e3 : (if i < (w 28 8).toNat then (w 35 i).toNat else k) = (if j < (w 28 8).toNat then (w 35 j).toNat else k) := e2
            by_cases ci : i < (w 28 8).toNat <;> by_cases cj : j < (w 28 8).toNat
            · rw [if_pos ci, if_pos cj] at e3
              have r1 := c2.2.1 i (by omega)
              have r2 := c2.2.1 j (by omega)
              exact c2.2.2 i j (by omega) (by omega) (by omega)
            · rw [if_pos ci, if_neg cj] at e3
              have r1 := c2.2.1 i (by omega)
              exact absurd ⟨i, by omega, by omega⟩ k3
            · rw [if_neg ci, if_pos cj] at e3
              have r1 := c2.2.1 j (by omega)
              exact absurd ⟨j, by omega, by omega⟩ k3
            · omega)
          omega
        · have := l1.1
          rw [e] at this; omega
        · exact e a4
    refine ⟨c1, c2, c3, fun k hk => ⟨by have := (c4 k hk).1; omega, (c4 k hk).2⟩, fun k hk hlt => ?_⟩
    by_cases c : rkx P (w 30 k) < (v3 : Int)
    · exact c5 k hk c
    · refine Classical.byContradiction fun hn => ?_
      have := (l3 k).mpr ⟨hk, by omega, hn⟩
      rw [hl] at this
      cases this
/-- the first of a rank is taken -/
theorem cor_pop {P g se : Int} {h kn : Nat → Int} {x0 : Int} {v3 : Nat} {w u7 u8 u9 : Wd} (hc : COR P g se h kn x0 v3 (-1) w) (ho : ORK P w) (hv : v3 < 451) (hne : w 34 v3 ≠ -1) (e7 : u7 = st w 34 v3 (w 33 (w 34 v3).toNat)) (e8 : u8 = st u7 35 (u7 28 8).toNat (w 34 v3)) (e9 : u9 = st u8 28 8 (w 28 8 + 1)) : COR P g se h kn x0 v3 (w 34 v3) u9 ∧ ORK P u9 ∧ (0 ≤ w 34 v3 ∧ w 34 v3 < w 28 7) ∧ rkx P (w 30 (w 34 v3).toNat) = (v3 : Int) ∧ u9 28 8 ≤ w 28 7 := by
  obtain ⟨c1, c2, c3, c4, c5⟩ := hc
  obtain ⟨l, l1, l2, l3⟩ := c3 v3 hv
  cases l with
  | nil => exact absurd l1 hne
  | cons s l =>
    obtain ⟨es, l1⟩ := l1
    obtain ⟨k1, k2, k3⟩ := (l3 s).mp List.mem_cons_self
    obtain ⟨nl, l2⟩ := List.nodup_cons.mp l2
    rw [es] at e7 e8 ⊢
    have ets : ((s : Nat) : Int).toNat = s := by omega
    rw [ets] at e7 ⊢
    have d7 : u7 28 8 = w 28 8 := by rw [e7, st_c (by decide)]
    rw [d7] at e8
    have z8 : u9 28 8 = w 28 8 + 1 := by rw [e9, st_eq]
    have z28 : ∀ k, k ≠ 8 → u9 28 k = w 28 k := fun k hk => by rw [e9, st_k hk, e8, st_c (by decide), e7, st_c (by decide)]
    have z35 : ∀ k, u9 35 k = if k = (w 28 8).toNat then (s : Int) else w 35 k := fun k => by
      rw [e9, st_c (by decide), e8]
      by_cases ck : k = (w 28 8).toNat
      · rw [if_pos ck, ck, st_eq]
      · rw [if_neg ck, st_k ck, e7, st_c (by decide)]
    have z34 : ∀ k, u9 34 k = if k = v3 then w 33 s else w 34 k := fun k => by
      rw [e9, st_c (by decide), e8, st_c (by decide), e7]
      by_cases ck : k = v3
      · rw [if_pos ck, ck, st_eq]
      · rw [if_neg ck, st_k ck]
    have zr : ∀ c, c ≠ 28 → c ≠ 34 → c ≠ 35 → u9 c = w c := fun c a1 a2 a3 => by rw [e9, st_row a1, e8, st_row a3, e7, st_row a2]
    have z7 : u9 28 7 = w 28 7 := z28 7 (by decide)
    have z30 : u9 30 = w 30 := zr 30 (by decide) (by decide) (by decide)
    have z31 : u9 31 = w 31 := zr 31 (by decide) (by decide) (by decide)
    have z33 : u9 33 = w 33 := zr 33 (by decide) (by decide) (by decide)
    have h8 := c2.1
    have pr : ∀ q, PRO u9 q ↔ (PRO w q ∨ q = s) := fun q => by
      constructor
      · rintro ⟨j, hj, e⟩
        rw [z35] at e
        by_cases cj : j = (w 28 8).toNat
        · rw [if_pos cj] at e; exact Or.inr (by omega)
        · rw [if_neg cj] at e; exact Or.inl ⟨j, by omega, e⟩
      · rintro (⟨j, hj, e⟩ | e)
        · exact ⟨j, by omega, by rw [z35, if_neg (by omega)]; exact e⟩
        · exact ⟨(w 28 8).toNat, by omega, by rw [z35, if_pos rfl, e]⟩
    have nd : ∀ j : Nat, (j : Int) < w 28 8 → w 35 j ≠ (s : Int) := fun j hj e => k3 ⟨j, hj, e⟩
    -- one more has its turn: no more than there are
    have cnt : w 28 8 + 1 ≤ w 28 7 := by
      have h1 := php (w 28 7).toNat ((w 28 8).toNat + 1) (fun i => if i < (w 28 8).toNat then (w 35 i).toNat else s) (fun i hi => by
        show (if i < (w 28 8).toNat then (w 35 i).toNat else s) < (w 28 7).toNat
        by_cases ci : i < (w 28 8).toNat
        · rw [if_pos ci]; have := c2.2.1 i (by omega); omega
        · rw [if_neg ci]; omega) (fun i j hi hj e2 => by
        have e3 : (if i < (w 28 8).toNat then (w 35 i).toNat else s) = (if j < (w 28 8).toNat then (w 35 j).toNat else s) := e2
        by_cases ci : i < (w 28 8).toNat <;> by_cases cj : j < (w 28 8).toNat
        · rw [if_pos ci, if_pos cj] at e3
          have r1 := c2.2.1 i (by omega)
          have r2 := c2.2.1 j (by omega)
          exact c2.2.2 i j (by omega) (by omega) (by omega)
        · rw [if_pos ci, if_neg cj] at e3
          have r1 := c2.2.1 i (by omega)
          exact absurd (by omega) (nd i (by omega))
        · rw [if_neg ci, if_pos cj] at e3
          have r1 := c2.2.1 j (by omega)
          exact absurd (by omega) (nd j (by omega))
        · omega)
      omega
    refine ⟨⟨⟨tc_eq c1.1 (zr 29 (by decide) (by decide) (by decide)) z30 z7, by rw [z7, z30, z31]; exact c1.2⟩, ⟨by omega, fun j hj => ?_, fun i j hi hj e => ?_⟩, fun r hr => ?_, fun k hk => ?_, fun k hk hlt => ?_⟩, fun i j hij hj => ?_, ⟨by omega, k1⟩, k2, by omega⟩
    · rw [z35, z7]
      by_cases cj : j = (w 28 8).toNat
      · rw [if_pos cj]; omega
      · rw [if_neg cj]; exact c2.2.1 j (by omega)
    · rw [z35, z35] at e
      by_cases ci : i = (w 28 8).toNat <;> by_cases cj : j = (w 28 8).toNat
      · omega
      · rw [if_pos ci, if_neg cj] at e
        exact absurd e.symm (nd j (by omega))
      · rw [if_neg ci, if_pos cj] at e
        exact absurd e (nd i (by omega))
      · rw [if_neg ci, if_neg cj] at e
        exact c2.2.2 i j (by omega) (by omega) e
    · by_cases cr : r = v3
      · refine ⟨l, by rw [z33, z34, if_pos cr]; exact l1, l2, fun k => ?_⟩
        have := l3 k
        rw [List.mem_cons] at this
        rw [z7, z30, pr, cr]
        constructor
        · intro hm
          obtain ⟨q1, q2, q3⟩ := this.mp (Or.inr hm)
          exact ⟨q1, q2, fun hp => hp.elim q3 (fun e => nl (by rw [← e]; exact hm))⟩
        · rintro ⟨q1, q2, q3⟩
          rcases this.mpr ⟨q1, q2, fun hp => q3 (Or.inl hp)⟩ with e | e
          · exact absurd (Or.inr e) q3
          · exact e
      · obtain ⟨l', m1, m2, m3⟩ := c3 r hr
        refine ⟨l', by rw [z33, z34, if_neg cr]; exact m1, m2, fun k => ?_⟩
        rw [m3, z7, z30, pr]
        constructor
        · rintro ⟨q1, q2, q3⟩
          refine ⟨q1, q2, fun hp => hp.elim q3 (fun e => ?_)⟩
          rw [e, k2] at q2
          omega
        · rintro ⟨q1, q2, q3⟩
          exact ⟨q1, q2, fun hp => q3 (Or.inl hp)⟩
    · rw [z30]
      rcases (pr k).mp hk with hp | e
      · have q := c4 k hp
        refine ⟨q.1, fun _ => ?_⟩
        unfold CLSx
        rw [z7, z30, z31]
        exact q.2 (by omega)
      · rw [e]
        exact ⟨by rw [k2]; exact Int.le_refl _, fun hn => absurd rfl hn⟩
    · rw [pr]
      rw [z7] at hk
      rw [z30] at hlt
      exact Or.inl (c5 k hk hlt)
    · rw [z30, z35, z35]
      by_cases cj : j = (w 28 8).toNat
      · rw [if_pos cj, if_neg (by omega), ets, k2]
        have r1 := c2.2.1 i (by omega)
        exact (c4 (w 35 i).toNat ⟨i, by omega, by omega⟩).1
      · rw [if_neg cj, if_neg (by omega)]
        exact ho i j hij (by omega)
theorem run42 {P g se : Int} {h kn : Nat → Int} {x0 R : Int} {b : Wd} {k35 : Int → Wd → Option (Int × Wd)} {Q : Int → Wd → Prop} {v3 : Nat} (hP : 0 ≤ P ∧ P ≤ 10) (hg : 1 ≤ g ∧ g ≤ 3) (h0 : WH x0 (sof x0) P) (hb : CW P g se h kn x0 b) (hR : 0 ≤ R ∧ R ≤ 2147480000) (hv : v3 < 451) (hk : ∀ w, RST P g se h kn x0 ((v3 : Int) + 1) R b w → PC (k35 ((v3 : Int) + 1) w) Q) : ∀ (n : Nat) {w : Wd}, RST P g se h kn x0 v3 R b w → PC (f_S_run_42 k35 n v3 w) Q := by
  intro n
  induction n with
  | zero => intros; exact pc_none
  | succ n ih =>
    intro w hs
    rw [f_S_run_42]
    have nx : ((3000 : Int) ≤ w 28 8 ∨ w 34 v3 = -1 ∨ w 28 10 ≠ 0) → PC (f_S_run_122 k35 v3 w) Q := fun he => by
      unfold f_S_run_122
      refine pc_let (fun x e => ?_)
      rw [w32_id (by omega)] at e
      rw [e]
      exact hk w (rst_next hs hv he)
    have ev : ((v3 : Nat) : Int).toNat = v3 := by omega
    rw [ev]
    refine pc_ite (fun c => nx (Or.inl c)) (fun c1 => pc_gd (fun _ => ?_))
    refine pc_ite (fun c => nx (Or.inr (Or.inl c))) (fun c2 => ?_)
    refine pc_ite (fun c3 => ?_) (fun c => nx (Or.inr (Or.inr c)))
    obtain ⟨a1, a2, a3, a4⟩ := hs
    obtain ⟨_, a5, a6, a7⟩ : w 28 10 = 0 ∧ COR P g se h kn x0 v3 (-1) w ∧ XST x0 w ∧ ORK P w := by
      rcases a4 with a4 | a4
      · have := a4.1; omega
      · exact a4
    refine pc_gd (fun _ => pc_let (fun x6 e6 => pc_gd (fun _ => pc_gd (fun _ => pc_lw (fun u7 e7 => pc_gd (fun _ => pc_lw (fun u8 e8 => pc_lw (fun u9 e9 => ?_))))))))
    rw [e6] at e7 e8 ⊢
    have d8 : u8 28 8 = w 28 8 := by rw [e8, st_c (by decide), e7, st_c (by decide)]
    rw [d8, w32_id (by omega)] at e9
    obtain ⟨p1, p2, p3, p4, p5⟩ := cor_pop a5 a7 hv c2 e7 e8 e9
    have zr : ∀ c, c ≠ 28 → c ≠ 34 → c ≠ 35 → u9 c = w c := fun c a1 a2 a3 => by rw [e9, st_row a1, e8, st_row a3, e7, st_row a2]
    have z28 : ∀ k, k ≠ 8 → u9 28 k = w 28 k := fun k hk => by rw [e9, st_k hk, e8, st_c (by decide), e7, st_c (by decide)]
    have z8 : u9 28 8 = w 28 8 + 1 := by rw [e9, st_eq]
    have f9 : FRS w u9 := ⟨fun c x1 x2 x3 x4 x5 x6 x7 x8 x9 x10 x11 => zr c x5 x10 x11, z28 9 (by decide)⟩
    have fb := frs_tr a1 f9
    have r24 : u9 24 = w 24 := zr 24 (by decide) (by decide) (by decide)
    have r27 : u9 27 = w 27 := zr 27 (by decide) (by decide) (by decide)
    refine pc_call (goOn_pc (s := w 34 v3) hP hg h0 (cw_eq hb (frs_5 fb) (frs_7 fb)) p1 (by rw [z28 7 (by decide)]; exact p3) (by rw [zr 30 (by decide) (by decide) (by decide)]; exact p4) (by rw [z28 10 (by decide)]; exact c3) (by unfold ROK; rw [r24, r27]; exact a2.1) (by rw [r24]; omega)) (fun r10 u11 t => ?_)
    obtain ⟨t1, t2, t3, t35, t4⟩ := t
    rw [r24] at t2
    refine ih ⟨frs_tr fb t1, ⟨t2.1, by omega⟩, by omega, ?_⟩
    rcases t4 with ⟨t4, t5, t6, t7⟩ | t4
    · refine Or.inr ⟨t4, t5, ?_, fun i j hij hj => ?_⟩
      · obtain ⟨k, k1, k2, k3⟩ := a6
        have e7' := z28 7 (by decide)
        obtain ⟨q1, q2⟩ := t7 k (by omega)
        refine ⟨k, by omega, ?_, q2 0 (by decide) ?_⟩
        · rw [q1, zr 30 (by decide) (by decide) (by decide)]; exact k2
        · rw [zr 31 (by decide) (by decide) (by decide)]; exact k3
      · rw [t35]
        have o1 := p1.2.1
        have ri := o1.2.1 i (by omega)
        have rj := o1.2.1 j (by omega)
        rw [(t7 (u9 35 i).toNat (by omega)).1, (t7 (u9 35 j).toNat (by omega)).1]
        exact p2 i j hij (by omega)
    · exact Or.inl t4
/-- what the class's search found, where it ended well -/
def SRC (P g se : Int) (h kn : Nat → Int) (x0 : Int) (w : Wd) : Prop := SI0 P g se h kn x0 w ∧ XST x0 w ∧ (∀ k : Nat, (k : Int) < w 28 7 → CLSx P g se h kn w k) ∧ ORD w ∧ (∀ k : Nat, (k : Int) < w 28 7 → PRO w k) ∧ ORK P w
theorem run35 {P g se : Int} {h kn : Nat → Int} {x0 R : Int} {b : Wd} (hP : 0 ≤ P ∧ P ≤ 10) (hg : 1 ≤ g ∧ g ≤ 3) (h0 : WH x0 (sof x0) P) (hb : CW P g se h kn x0 b) (hR : 0 ≤ R ∧ R ≤ 2147480000) : ∀ (n : Nat) {v3 : Int} {w : Wd}, 0 ≤ v3 → v3 ≤ 451 → RST P g se h kn x0 v3 R b w → PC (f_S_run_35 n v3 w) (fun r u => FRS b u ∧ (ROK u ∧ u 24 4 ≤ R + 3000) ∧ ((r = 1 ∧ u 28 10 = 0 ∧ SRC P g se h kn x0 u) ∨ (r = 0 ∧ u 28 10 = 1 ∧ MNY P g se h kn x0))) := by
  intro n
  induction n with
  | zero => intros; exact pc_none
  | succ n ih =>
    intro v3 w i3 i3' hs
    rw [f_S_run_35]
    refine pc_ite (fun c => ?_) (fun c => ?_)
    · obtain ⟨a1, a2, a3, a4⟩ := hs
      rcases a4 with a4 | ⟨a4, a5, a6, a7⟩
      · refine pc_ite (fun e => by have := a4.1; omega) (fun _ => pc_some ⟨a1, ⟨a2.1, by omega⟩, Or.inr ⟨rfl, a4⟩⟩)
      · refine pc_ite (fun _ => pc_some ⟨a1, ⟨a2.1, by omega⟩, Or.inl ⟨rfl, a4, ?_⟩⟩) (fun e => absurd a4 e)
        obtain ⟨c1, c2, c3, c4, c5⟩ := a5
        have all : ∀ k : Nat, (k : Int) < w 28 7 → PRO w k := fun k hk => c5 k hk (by
          obtain ⟨t, ht⟩ := (c1.2 k hk).1
          have := (rkf_rg (rx_wh hP h0 ht).2.2).2
          have e : rkx P (w 30 k) = rkf P (sof (w 30 k)) := rfl
          omega)
        exact ⟨c1, a6, fun k hk => (c4 k (all k hk)).2 (by omega), c2, all, a7⟩
    · have e : v3 = ((v3.toNat : Nat) : Int) := by omega
      rw [e] at hs ⊢
      exact run42 hP hg h0 hb hR (by omega) (fun w' hw' => ih (by omega) (by omega) hw') FU hs
/-- the table is emptied -/
theorem fill29 : ∀ (n : Nat) {v2 : Int} {w : Wd}, 0 ≤ v2 → v2 ≤ 8192 → (∀ k : Nat, (k : Int) < v2 → w 29 k = 0) → PC (f_JA_fill_29_5 n 0 v2 8192 w) (fun _ u => (∀ k : Nat, k < 8192 → u 29 k = 0) ∧ ∀ c, c ≠ 29 → u c = w c) := by
  intro n
  induction n with
  | zero => intros; exact pc_none
  | succ n ih =>
    intro v2 w i2 i2' hz
    rw [f_JA_fill_29_5]
    refine pc_ite (fun c => pc_some ⟨fun k hk => hz k (by omega), fun _ _ => rfl⟩) (fun c => ?_)
    refine pc_gd (fun _ => pc_lw (fun u1 e1 => pc_let (fun x2 e2 => ?_)))
    rw [w32_id (by omega)] at e2
    rw [e2]
    refine pc_w (ih (w := u1) (by omega) (by omega) (fun k hk => ?_)) (fun _ u q => ⟨q.1, fun c hc => (q.2 c hc).trans (by rw [e1, st_row hc])⟩)
    rw [e1]
    by_cases ck : k = v2.toNat
    · rw [ck, st_eq]
    · rw [st_k ck]; exact hz k (by omega)
theorem fill34 : ∀ (n : Nat) {v2 : Int} {w : Wd}, 0 ≤ v2 → v2 ≤ 451 → (∀ k : Nat, (k : Int) < v2 → w 34 k = -1) → PC (f_JA_fill_34_5 n (-1) v2 451 w) (fun _ u => (∀ k : Nat, k < 451 → u 34 k = -1) ∧ ∀ c, c ≠ 34 → u c = w c) := by
  intro n
  induction n with
  | zero => intros; exact pc_none
  | succ n ih =>
    intro v2 w i2 i2' hz
    rw [f_JA_fill_34_5]
    refine pc_ite (fun c => pc_some ⟨fun k hk => hz k (by omega), fun _ _ => rfl⟩) (fun c => ?_)
    refine pc_gd (fun _ => pc_lw (fun u1 e1 => pc_let (fun x2 e2 => ?_)))
    rw [w32_id (by omega)] at e2
    rw [e2]
    refine pc_w (ih (w := u1) (by omega) (by omega) (fun k hk => ?_)) (fun _ u q => ⟨q.1, fun c hc => (q.2 c hc).trans (by rw [e1, st_row hc])⟩)
    rw [e1]
    by_cases ck : k = v2.toNat
    · rw [ck, st_eq]
    · rw [st_k ck]; exact hz k (by omega)
/-- what is kept of a search -/
def KPT (P g se : Int) (h kn : Nat → Int) (x0 : Int) (w : Wd) : Prop := (w 28 10 = 0 ∧ SRC P g se h kn x0 w) ∨ (w 28 10 = 1 ∧ MNY P g se h kn x0)
theorem run_pc {P g se : Int} {h kn : Nat → Int} {x0 : Int} {w : Wd} (hP : 0 ≤ P ∧ P ≤ 10) (hg : 1 ≤ g ∧ g ≤ 3) (h0 : WH x0 (sof x0) P) (hw : CW P g se h kn x0 w) (hf : w 28 9 ≠ 0 → KPT P g se h kn x0 w) (hr : ROK w) (hlt : w 24 4 ≤ 2147480000) : PC (f_S_run w) (fun r u => (∀ c, c ≠ 24 → c ≠ 25 → c ≠ 26 → c ≠ 27 → c ≠ 28 → c ≠ 29 → c ≠ 30 → c ≠ 31 → c ≠ 33 → c ≠ 34 → c ≠ 35 → u c = w c) ∧ (ROK u ∧ u 24 4 ≤ w 24 4 + 3000) ∧ u 28 9 ≠ 0 ∧ ((r = 1 ∧ u 28 10 = 0 ∧ SRC P g se h kn x0 u) ∨ (r = 0 ∧ u 28 10 = 1 ∧ MNY P g se h kn x0))) := by
  have hr0 := hr.1
  unfold f_S_run
  refine pc_ite (fun c => ?_) (fun c => ?_)
  · have hcl : PC (f_S_clear w) (fun _ u => (∀ c, c ≠ 28 → c ≠ 29 → c ≠ 34 → u c = w c) ∧ (∀ k : Nat, k < 8192 → u 29 k = 0) ∧ (∀ k : Nat, k < 451 → u 34 k = -1) ∧ u 28 7 = 0 ∧ u 28 8 = 0 ∧ u 28 10 = 0 ∧ u 28 9 = 1) := by
      unfold f_S_clear f_JA_fill_29 f_JA_fill_34
      refine pc_call (fill29 FU (v2 := 0) (w := w) (by decide) (by decide) (fun k hk => by omega)) (fun r1 u2 q1 => ?_)
      refine pc_call (fill34 FU (v2 := 0) (w := u2) (by decide) (by decide) (fun k hk => by omega)) (fun r3 u4 q2 => ?_)
      refine pc_lw (fun u5 e5 => pc_lw (fun u6 e6 => pc_lw (fun u7 e7 => pc_lw (fun u8 e8 => pc_some ?_))))
      have ro : ∀ c, c ≠ 28 → u8 c = u4 c := fun c hc => by rw [e8, st_row hc, e7, st_row hc, e6, st_row hc, e5, st_row hc]
      refine ⟨fun c a1 a2 a3 => by rw [ro c a1, q2.2 c a3, q1.2 c a2], fun k hk => by rw [ro 29 (by decide), q2.2 29 (by decide)]; exact q1.1 k hk, fun k hk => by rw [ro 34 (by decide)]; exact q2.1 k hk, ?_, ?_, ?_, ?_⟩
      · rw [e8, st_k (by decide), e7, st_k (by decide), e6, st_k (by decide), e5, st_eq]
      · rw [e8, st_k (by decide), e7, st_k (by decide), e6, st_eq]
      · rw [e8, st_k (by decide), e7, st_eq]
      · rw [e8, st_eq]
    refine pc_call hcl (fun r1 u2 q => ?_)
    obtain ⟨q1, q2, q3, q4, q5, q6, q7⟩ := q
    have hw2 : CW P g se h kn x0 u2 := cw_eq hw (q1 5 (by decide) (by decide) (by decide)) (q1 7 (by decide) (by decide) (by decide))
    rw [hw2.2.2.2.2.1]
    have T2 : TC u2 := ⟨fun p q hp hq _ hn => absurd (q2 p hp) hn, fun p hp => by rw [q2 p hp, q4]; decide, by rw [q4]; decide, fun k hk => by rw [q4] at hk; omega⟩
    have np : ∀ k, ¬ PRO u2 k := fun k hp => by
      obtain ⟨j, hj, _⟩ := hp
      rw [q5] at hj; omega
    have C2 : COR P g se h kn x0 (-1) (-1) u2 := ⟨⟨T2, fun k hk => by rw [q4] at hk; omega⟩, ⟨by rw [q4, q5]; decide, fun j hj => by rw [q5] at hj; omega, fun i j hi => by rw [q5] at hi; omega⟩, fun r hr => ⟨[], q3 r hr, List.nodup_nil, fun k => ⟨(fun hm => by cases hm), (fun hm => by have := hm.1; rw [q4] at this; omega)⟩⟩, fun k hp => absurd hp (np k), fun k hk => by rw [q4] at hk; omega⟩
    have hrk := rkf_rg h0.2.2
    refine pc_call (place_pc T2 (orank_e h0 u2) hrk) (fun r3 u4 pl => ?_)
    have h1b : ∀ t, t < 61 → b6 1 t = true → RCX P g se h kn x0 t x0 := fun t h61 hb => by
      rw [b6_1 (by omega), decide_eq_true_iff] at hb
      rw [hb]; exact rfl
    have e24 : u2 24 = w 24 := q1 24 (by decide) (by decide) (by decide)
    have e27 : u2 27 = w 27 := q1 27 (by decide) (by decide) (by decide)
    have fin : RST P g se h kn x0 0 (w 24 4) u4 u4 := by
      rcases cor_place C2 h0 (by show (-1 : Int) < rkf P (sof x0); omega) ⟨0, rfl⟩ h1b pl with ⟨e2, hm2⟩ | ⟨p1, p2, p3, ⟨j, hj, ej, hb⟩, p5, p6, p7⟩
      · refine ⟨frs_self _, ⟨?_, ?_⟩, ?_, Or.inl ⟨by rw [e2, st_eq], hm2⟩⟩
        · unfold ROK; rw [e2, st_row (by decide), st_row (by decide), e24, e27]; exact hr
        · rw [e2, st_row (by decide), st_k (by decide), e24, q5]; omega
        · rw [e2, st_k (by decide), q5]; decide
      · have e24' : u4 24 = w 24 := by rw [p5 24 (by decide) (by decide) (by decide) (by decide) (by decide) (by decide), e24]
        have e27' : u4 27 = w 27 := by rw [p5 27 (by decide) (by decide) (by decide) (by decide) (by decide) (by decide), e27]
        have np4 : ∀ k, ¬ PRO u4 k := fun k hp => by
          obtain ⟨j, hj, _⟩ := hp
          rw [p6, q5] at hj; omega
        refine ⟨frs_self _, ⟨?_, ?_⟩, ?_, Or.inr ⟨p2.trans q6, ?_, ⟨j, hj, ej, hb 0 (by decide) (by decide +kernel)⟩, fun i j _ hj => by rw [p6, q5] at hj; omega⟩⟩
        · unfold ROK; rw [e24', e27']; exact hr
        · rw [e24', p6, q5]; omega
        · rw [p6, q5]; decide
        · obtain ⟨c1, c2, c3, c4, c5⟩ := p1
          refine ⟨c1, c2, c3, fun k hp => absurd hp (np4 k), fun k hk hlt => ?_⟩
          obtain ⟨t, ht⟩ := (c1.2 k hk).1
          have := (rkf_rg (rx_wh hP h0 ht).2.2).1
          have e : rkx P (u4 30 k) = rkf P (sof (u4 30 k)) := rfl
          omega
    have oth : ∀ c, c ≠ 28 → c ≠ 29 → c ≠ 30 → c ≠ 31 → c ≠ 33 → c ≠ 34 → u4 c = u2 c := by
      rcases pl with ⟨e, _⟩ | ⟨t, _, _, e⟩ | ⟨_, _, hn⟩
      · intro c a1 _ _ _ _ _; rw [e, st_row a1]
      · intro c _ _ _ a4 _ _; rw [e, st_row a4]
      · exact hn.2.2.2.2.2.2.2
    have n9 : u4 28 9 = 1 := by
      rcases pl with ⟨e, _⟩ | ⟨t, _, _, e⟩ | ⟨_, _, hn⟩
      · rw [e, st_k (by decide)]; exact q7
      · rw [e, st_c (by decide)]; exact q7
      · exact (hn.2.1 9 (by decide)).trans q7
    have hw4 : CW P g se h kn x0 u4 := cw_eq hw2 (oth 5 (by decide) (by decide) (by decide) (by decide) (by decide) (by decide)) (oth 7 (by decide) (by decide) (by decide) (by decide) (by decide) (by decide))
    refine pc_w (run35 hP hg h0 hw4 ⟨hr0, hlt⟩ FU (by decide) (by decide) fin) (fun r u z => ?_)
    obtain ⟨z1, z2, z3⟩ := z
    refine ⟨fun c x1 x2 x3 x4 x5 x6 x7 x8 x9 x10 x11 => ?_, z2, by rw [z1.2, n9]; decide, z3⟩
    rw [z1.1 c x1 x2 x3 x4 x5 x6 x7 x8 x9 x10 x11, oth c x5 x6 x7 x8 x9 x10, q1 c x5 x6 x10]
  · rcases hf c with ⟨e, hs⟩ | ⟨e, hm⟩
    · refine pc_ite (fun _ => pc_some ⟨fun _ _ _ _ _ _ _ _ _ _ _ _ => rfl, ⟨hr, by omega⟩, c, Or.inl ⟨rfl, e, hs⟩⟩) (fun c2 => absurd e c2)
    · refine pc_ite (fun c2 => by omega) (fun _ => pc_some ⟨fun _ _ _ _ _ _ _ _ _ _ _ _ => rfl, ⟨hr, by omega⟩, c, Or.inr ⟨rfl, e, hm⟩⟩)
