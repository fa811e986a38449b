/-! BOTH SEARCH: side by side -/
def hof (b : Int) (k : Nat) : Int := if bt b k = true then 1 else 0
theorem hof_B {b P : Int} {h : Nat → Int} (hb : B10 b (hB P h)) (k : Nat) (hk : k < 10) : hB P h k = hB P (hof b) k := by
  have e := hb.2 k hk
  unfold hB hof at *
  rw [e]
  cases inP P k with
  | false => rfl
  | true => cases (h k == 0) <;> rfl
def PRM (a w : Wd) (P g se : Int) (h kn : Nat → Int) (x0 : Int) : Prop := (0 ≤ P ∧ P ≤ 10) ∧ (1 ≤ g ∧ g ≤ 3) ∧ WH x0 (sof x0) P ∧ CW P g se h kn x0 w ∧ (a 43 0 = P ∧ a 43 10 = g ∧ a 43 11 = se) ∧ (∀ k : Nat, (k : Int) < P → a 47 k = sof x0 k) ∧ (∀ j : Nat, (j : Int) < P → a 45 j = kn j ∧ 0 ≤ kn j ∧ kn j ≤ 1023) ∧ (∀ k : Nat, (k : Int) < P → hB P (a 46) k = hB P h k) ∧ (∀ k, 0 ≤ a 44 k ∧ a 44 k ≤ 9) ∧ ∀ j : Nat, (j : Int) < P → w 6 j = a 44 j
theorem er_prm {a w : Wd} (h : ER a w) : PRM a w (w 5 3) (w 5 7) (w 5 8) (hof (w 5 5)) (w 7) (w 5 4) := by
  have x0 : 0 ≤ a 43 0 ∧ a 43 0 ≤ 10 := h.2.2.1
  have x3 : w 5 3 = a 43 0 := h.1.1.2.1
  have xp : ∀ j : Nat, (j : Int) < a 43 0 → w 6 j = a 44 j ∧ w 7 j = a 45 j ∧ w 8 j = a 48 j := h.1.2.1
  have xh : B10 (w 5 5) (hB (a 43 0) (a 46)) := h.1.2.2.1
  have xw : WH (w 5 4) (a 47) (a 43 0) := h.1.2.2.2.1
  have x7 : w 5 7 = a 43 10 := h.1.1.2.2.1.1
  have x8 : w 5 8 = a 43 11 := h.1.1.2.2.1.2
  have x45 : ∀ j : Nat, (j : Int) < a 43 0 → 0 ≤ a 45 j ∧ a 45 j ≤ 1023 := h.2.2.2.2.2.1
  have x44 : ∀ j, 0 ≤ a 44 j ∧ a 44 j ≤ 9 := h.2.2.2.1
  have xg : 1 ≤ a 43 10 ∧ a 43 10 ≤ 3 := h.1.2.2.2.2.2.2.2.2.2.2.1
  rw [← x3] at x0 xp xh xw x45
  refine ⟨x0, by rw [x7]; exact xg, wh_sof xw x0.2, ⟨rfl, ?_, rfl, rfl, rfl, fun j hj => ⟨rfl, ?_⟩⟩, ⟨x3.symm, x7.symm, x8.symm⟩, fun k hk => (sof_e xw x0.2 hk).symm, fun j hj => ⟨(xp j hj).2.1.symm, ?_⟩, fun k hk => hof_B xh k (by omega), x44, fun j hj => (xp j hj).1⟩
  · exact b10_w xh (fun k hk => hof_B xh k hk)
  · rw [(xp j hj).2.1]; exact x45 j hj
  · rw [(xp j hj).2.1]; exact x45 j hj
/-- of the class alone: what is kept of a search, and the count of its rounds -/
def SCR (n : Int) (w : Wd) : Prop := (ROK w ∧ w 24 4 ≤ 2000 * n) ∧ (w 28 9 ≠ 0 → KPT (w 5 3) (w 5 7) (w 5 8) (hof (w 5 5)) (w 7) (w 5 4) w)
theorem scr_mono {n n' : Int} {w : Wd} (h : SCR n w) (hn : n ≤ n') : SCR n' w := ⟨⟨h.1.1, by have := h.1.2; omega⟩, h.2⟩
theorem kpt_eq {P g se : Int} {h kn : Nat → Int} {x0 : Int} {w u : Wd} (hk : KPT P g se h kn x0 w) (h28 : ∀ k, k ≠ 9 → u 28 k = w 28 k) (h29 : u 29 = w 29) (h30 : u 30 = w 30) (h31 : u 31 = w 31) (h35 : u 35 = w 35) : KPT P g se h kn x0 u := by
  unfold KPT at *
  rw [h28 10 (by decide)]
  rcases hk with ⟨e, s1, s2, s3, s4, s5, s6⟩ | e
  · refine Or.inl ⟨e, ⟨tc_eq s1.1 h29 h30 (h28 7 (by decide)), ?_⟩, ?_, ?_, ?_, ?_, ?_⟩
    · rw [h28 7 (by decide), h30, h31]; exact s1.2
    · unfold XST; rw [h28 7 (by decide), h30, h31]; exact s2
    · unfold CLSx; rw [h28 7 (by decide), h30, h31]; exact s3
    · unfold ORD; rw [h28 7 (by decide), h28 8 (by decide), h35]; exact s4
    · unfold PRO; rw [h28 7 (by decide), h28 8 (by decide), h35]; exact s5
    · unfold ORK; rw [h28 8 (by decide), h30, h35]; exact s6
  · exact Or.inr e
/-- nothing of it is touched -/
theorem scr_fr {n : Int} {w u : Wd} (h : SCR n w) (h5 : u 5 = w 5) (h7 : u 7 = w 7) (h24 : u 24 = w 24) (h27 : u 27 = w 27) (h28 : u 28 = w 28) (h29 : u 29 = w 29) (h30 : u 30 = w 30) (h31 : u 31 = w 31) (h35 : u 35 = w 35) : SCR n u := by
  unfold SCR ROK
  rw [h24, h27, h28, h5, h7]
  exact ⟨h.1, fun hf => kpt_eq (h.2 hf) (fun k _ => by rw [h28]) h29 h30 h31 h35⟩
/-- it is forgotten -/
theorem scr_no {n : Int} {w u : Wd} (h : SCR n w) (h24 : u 24 = w 24) (h27 : u 27 = w 27) (h9 : u 28 9 = 0) : SCR n u := by
  unfold SCR ROK
  rw [h24, h27]
  exact ⟨h.1, fun hf => absurd h9 hf⟩
/-- what a run of the class leaves -/
def RUN (P g se : Int) (h kn : Nat → Int) (x0 : Int) (w u : Wd) : Prop := (∀ c, c ≠ 24 → c ≠ 25 → c ≠ 26 → c ≠ 27 → c ≠ 28 → c ≠ 29 → c ≠ 30 → c ≠ 31 → c ≠ 33 → c ≠ 34 → c ≠ 35 → u c = w c) ∧ (ROK u ∧ u 24 4 ≤ w 24 4 + 3000) ∧ u 28 9 ≠ 0 ∧ KPT P g se h kn x0 u
theorem crun {a w : Wd} {P g se : Int} {h kn : Nat → Int} {x0 n : Int} (hp : PRM a w P g se h kn x0) (hs : SCR n w) (hn : n ≤ 2600) (hk : w 28 9 ≠ 0 → KPT P g se h kn x0 w) : PC (f_S_run w) (fun r u => RUN P g se h kn x0 w u ∧ ((r = 1 ∧ SRC P g se h kn x0 u) ∨ (r = 0 ∧ MNY P g se h kn x0))) := by
  obtain ⟨hP, hg, h0, hw, _⟩ := hp
  refine pc_w (run_pc hP hg h0 hw hk hs.1.1 (by have := hs.1.2; omega)) (fun r u q => ?_)
  obtain ⟨q1, q2, q3, q4⟩ := q
  rcases q4 with ⟨e, e2, s⟩ | ⟨e, e2, m⟩
  · exact ⟨⟨q1, q2, q3, Or.inl ⟨e2, s⟩⟩, Or.inl ⟨e, s⟩⟩
  · exact ⟨⟨q1, q2, q3, Or.inr ⟨e2, m⟩⟩, Or.inr ⟨e, m⟩⟩
theorem run_scr {w u : Wd} {n : Int} (hs : SCR n w) (hr : RUN (w 5 3) (w 5 7) (w 5 8) (hof (w 5 5)) (w 7) (w 5 4) w u) : SCR (n + 5) u := by
  obtain ⟨q1, q2, q3, q4⟩ := hr
  have h5 : u 5 = w 5 := q1 5 (by decide) (by decide) (by decide) (by decide) (by decide) (by decide) (by decide) (by decide) (by decide) (by decide) (by decide)
  have h7 : u 7 = w 7 := q1 7 (by decide) (by decide) (by decide) (by decide) (by decide) (by decide) (by decide) (by decide) (by decide) (by decide) (by decide)
  refine ⟨⟨q2.1, by have := hs.1.2; omega⟩, fun _ => ?_⟩
  rw [h5, h7]; exact q4
/-- the class's list, and the reference's -/
theorem two_run {a w : Wd} {P g se : Int} {h kn : Nat → Int} {x0 n : Int} {K KR : Wd → Option (Int × Wd)} {A B : Int → Prop} (hp : PRM a w P g se h kn x0) (hG : G [] a a) (hs : SCR n w) (hn : n ≤ 2600) (hk : w 28 9 ≠ 0 → KPT P g se h kn x0 w)
    (hE : ∀ u, RUN P g se h kn x0 w u → SRC P g se h kn x0 u → CLI P g se h kn x0 u → PC (K u) (fun r _ => A r))
    (hR : ∀ y u, y = st a 43 16 0 → FRY y u → G [] u u → RLI P g se h kn x0 u → PC (KR u) (fun r _ => B r)) (hAB : ∀ r r', A r → B r' → r = r') :
    PC (jcall (f_S_run w) fun r1 u2 => if r1 = 0 then some ((-3), u2) else K u2) (fun r _ => ∀ y, y = st a 43 16 0 → PC (jcall (f_R_findStates 0 y) fun r2 u3 => if r2 = 0 then some ((-3), u3) else KR u3) (fun r' _ => r = r')) := by
  obtain ⟨hP, hg, h0, hw, ⟨c0, c10, c11⟩, c47, c45, c46, _⟩ := id hp
  have hrf : ∀ y, y = st a 43 16 0 → PC (f_R_findStates 0 y) (fun r u => FRY y u ∧ G [] u u ∧ ((r = 0 ∧ MNY P g se h kn x0) ∨ (r = 1 ∧ RLI P g se h kn x0 u))) := fun y ey => by
    have gy : G [4316] a y := g_st (g_self hG) ey rfl rfl (show (0 : Int) ≤ 0 ∧ (0 : Int) ≤ 1 by decide)
    have yr : ∀ c, c ≠ 43 → y c = a c := fun c hc => by rw [ey, st_row hc]
    have yk : ∀ k, k ≠ 16 → y 43 k = a 43 k := fun k hk => by rw [ey, st_k hk]
    refine fst_pc (h := h) hP hg h0 (g_self gy) (by rw [yk 0 (by decide)]; exact c0) (by rw [yk 10 (by decide)]; exact c10) (by rw [yk 11 (by decide)]; exact c11) (fun k hk => by rw [yr 47 (by decide)]; exact c47 k hk) (fun j hj => by rw [yr 45 (by decide)]; exact c45 j hj) (by decide) (fun k hk => ?_)
    rw [bt_0, Bool.or_false, yr 46 (by decide)]; exact c46 k hk
  refine pc_call (crun hp hs hn hk) (fun r1 u q => ?_)
  obtain ⟨q1, q2⟩ := q
  rcases q2 with ⟨e, s⟩ | ⟨e, m⟩
  · refine pc_ite (fun c => by omega) (fun _ => ?_)
    have cl := src_cli hP h0 s
    refine pc_w (hE u q1 s cl) (fun r _ hA y ey => ?_)
    refine pc_call (hrf y ey) (fun r2 u3 z => ?_)
    obtain ⟨z1, z2, z3⟩ := z
    rcases z3 with ⟨_, m⟩ | ⟨e3, l⟩
    · exact absurd m (cli_mny hP h0 cl)
    · refine pc_ite (fun c => by omega) (fun _ => ?_)
      exact pc_w (hR y u3 ey z1 z2 l) (fun r' _ hB => hAB r r' hA hB)
  · refine pc_ite (fun _ => pc_some (fun y ey => ?_)) (fun c => absurd e c)
    refine pc_call (hrf y ey) (fun r2 u3 z => ?_)
    obtain ⟨z1, z2, z3⟩ := z
    rcases z3 with ⟨e3, _⟩ | ⟨e3, l⟩
    · exact pc_ite (fun _ => pc_some rfl) (fun c => absurd e3 c)
    · exact absurd m (rli_mny hP h0 l)
/-- the same, so many weeks on -/
theorem two_week {a w : Wd} {P g se : Int} {h kn : Nat → Int} {x0 n v1 : Int} {K KR : Wd → Option (Int × Wd)} {A B : Int → Prop} (hp : PRM a w P g se h kn x0) (hG : G [] a a) (hs : SCR n w) (hn : n ≤ 2600) (hk : w 28 9 ≠ 0 → KPT P g se h kn x0 w) (hv : 0 ≤ v1 ∧ v1 ≤ 60)
    (hE : ∀ u, RUN P g se h kn x0 w u → CLI P g se h kn x0 u → PC (K u) (fun r _ => A r))
    (hR : ∀ y b u, y = st a 43 16 0 → FRY y b → WKS P g se h kn x0 (a 44) v1.toNat b u → PC (KR u) (fun r _ => B r)) (hAB : ∀ r r', A r → B r' → r = r') :
    PC (jcall (f_S_run w) fun r1 u2 => if r1 = 0 then some ((-3), u2) else K u2) (fun r _ => ∀ y, y = st a 43 16 0 → PC (jcall (f_R_findWeek v1 y) fun r2 u3 => if r2 = 0 then some ((-3), u3) else KR u3) (fun r' _ => r = r')) := by
  obtain ⟨hP, hg, h0, hw, ⟨c0, c10, c11⟩, c47, c45, c46, _⟩ := id hp
  have hrf : ∀ y, y = st a 43 16 0 → PC (f_R_findWeek v1 y) (fun r u => (r = 0 ∧ MNY P g se h kn x0) ∨ (r = 1 ∧ ∃ b, FRY y b ∧ WKS P g se h kn x0 (a 44) v1.toNat b u)) := fun y ey => by
    have gy : G [4316] a y := g_st (g_self hG) ey rfl rfl (show (0 : Int) ≤ 0 ∧ (0 : Int) ≤ 1 by decide)
    have yr : ∀ c, c ≠ 43 → y c = a c := fun c hc => by rw [ey, st_row hc]
    have yk : ∀ k, k ≠ 16 → y 43 k = a 43 k := fun k hk => by rw [ey, st_k hk]
    have e44 : a 44 = y 44 := (yr 44 (by decide)).symm
    rw [e44]
    refine fwk_pc (h := h) hP hg h0 (g_self gy) (by rw [yk 0 (by decide)]; exact c0) (by rw [yk 10 (by decide)]; exact c10) (by rw [yk 11 (by decide)]; exact c11) (fun k hk => by rw [yr 47 (by decide)]; exact c47 k hk) (fun j hj => by rw [yr 45 (by decide)]; exact c45 j hj) (fun k hk => ?_) hv
    rw [yr 46 (by decide)]; exact c46 k hk
  refine pc_call (crun hp hs hn hk) (fun r1 u q => ?_)
  obtain ⟨q1, q2⟩ := q
  rcases q2 with ⟨e, s⟩ | ⟨e, m⟩
  · refine pc_ite (fun c => by omega) (fun _ => ?_)
    have cl := src_cli hP h0 s
    refine pc_w (hE u q1 cl) (fun r _ hA y ey => ?_)
    refine pc_call (hrf y ey) (fun r2 u3 z => ?_)
    rcases z with ⟨_, m⟩ | ⟨e3, b, z1, z2⟩
    · exact absurd m (cli_mny hP h0 cl)
    · refine pc_ite (fun c => by omega) (fun _ => ?_)
      exact pc_w (hR y b u3 ey z1 z2) (fun r' _ hB => hAB r r' hA hB)
  · refine pc_ite (fun _ => pc_some (fun y ey => ?_)) (fun c => absurd e c)
    refine pc_call (hrf y ey) (fun r2 u3 z => ?_)
    rcases z with ⟨e3, _⟩ | ⟨e3, b, z1, z2⟩
    · exact pc_ite (fun _ => pc_some rfl) (fun c => absurd e3 c)
    · exact absurd m (rli_mny hP h0 z2.2.1)
/-- as many STATES -/
theorem cli_rli_n {P g se : Int} {h kn : Nat → Int} {x0 : Int} {w u : Wd} (hP : 0 ≤ P ∧ P ≤ 10) (hc : CLI P g se h kn x0 w) (hr : RLI P g se h kn x0 u) : w 28 7 = u 43 40 := by
  obtain ⟨X, hX1, hX2⟩ := rli_x hP hr
  have h1 := hc.1
  have h2 := hr.1
  have ch : ∀ k : Nat, ∃ t : Nat, (k : Int) < w 28 7 → (t : Int) < u 43 40 ∧ X t = w 30 k := fun k => by
    by_cases c : (k : Int) < w 28 7
    · obtain ⟨t, ht, e⟩ := hX2 (w 30 k) (hc.2.2.1 k c)
      exact ⟨t, fun _ => ⟨ht, e⟩⟩
    · exact ⟨0, fun hh => absurd hh c⟩
  have a := php (u 43 40).toNat (w 28 7).toNat (fun i => Classical.choose (ch i)) (fun i hi => by
    have := (Classical.choose_spec (ch i) (by omega)).1
    show Classical.choose (ch i) < (u 43 40).toNat
    omega) (fun i j hi hj e => by
    have a := (Classical.choose_spec (ch i) (by omega)).2
    have b := (Classical.choose_spec (ch j) (by omega)).2
    have e2 : Classical.choose (ch i) = Classical.choose (ch j) := e
    rw [e2] at a
    exact hc.2.1 i j (by omega) (by omega) (a.symm.trans b))
  have ch2 : ∀ t : Nat, ∃ k : Nat, (t : Int) < u 43 40 → (k : Int) < w 28 7 ∧ w 30 k = X t := fun t => by
    by_cases c : (t : Int) < u 43 40
    · obtain ⟨k, hk, e⟩ := hc.2.2.2.1 (X t) (hX1 t c).1
      exact ⟨k, fun _ => ⟨hk, e⟩⟩
    · exact ⟨0, fun hh => absurd hh c⟩
  have b := php (w 28 7).toNat (u 43 40).toNat (fun i => Classical.choose (ch2 i)) (fun i hi => by
    have := (Classical.choose_spec (ch2 i) (by omega)).1
    show Classical.choose (ch2 i) < (w 28 7).toNat
    omega) (fun i j hi hj e => by
    have a := (Classical.choose_spec (ch2 i) (by omega)).2
    have b := (Classical.choose_spec (ch2 j) (by omega)).2
    have e2 : Classical.choose (ch2 i) = Classical.choose (ch2 j) := e
    rw [e2] at a
    have ex : X i = X j := a.symm.trans b
    exact hr.2.1 i j (by omega) (by omega) (by rw [(hX1 i (by omega)).2, (hX1 j (by omega)).2, ex]))
  omega
