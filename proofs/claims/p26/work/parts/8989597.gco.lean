/-! BEGIN: the reference, and both -/
theorem hit_no {P g se : Int} {h kn : Nat → Int} {x0 : Int} {n : Nat} {hit : Int → Bool} (hP : 0 ≤ P ∧ P ≤ 10) (hH : HIT P g se h kn x0 n hit) : ∀ (d : Nat) (f m : Int), DRC P 20 kn (gs P (sof x0)) (fre P (sof x0) h) (sty P (sof x0) g) d f m → d ≠ 0 → hit m = true → ((pn (fun k => sty P (sof x0) g k || bt m k) 10 : Nat) : Int) ≤ se := by
  intro d f m hm hd hh
  obtain ⟨⟨d', f', hD⟩, _⟩ := (hH m).mp hh
  obtain ⟨hD2, hs⟩ := (drc_se hP).mp hD
  rcases hs with e | e
  · have p1 := (drc_pn hP gs_fre hm).1
    have p2 := (drc_pn hP gs_fre hD2).1
    omega
  · exact e
theorem rbg_pc {P g se : Int} {h kn : Nat → Int} {x0 : Int} {u : Wd} {H : Nat → Int → Bool} (hP : 0 ≤ P ∧ P ≤ 10) (hg : 1 ≤ g ∧ g ≤ 3) (h0 : WH x0 (sof x0) P) (hH : ∀ n, HIT P g se h kn x0 n (H n)) (hrc : RLC P g se h kn x0 u) (hG : G [] u u) (c0 : u 43 0 = P) (c10 : u 43 10 = g) (c11 : u 43 11 = se) (c45 : ∀ j : Nat, (j : Int) < P → u 45 j = kn j ∧ 0 ≤ kn j ∧ kn j ≤ 1023) : PC (jcall (f_R_all u) fun r4 u5 => jcall (f_R_findLife r4 u5) fun r6 u7 => jgd ((0 : Int) ≤ (0 : Int) ∧ (0 : Int) < 3000) <| if (1 : Int) ≤ (u7 71 (0 : Int).toNat) then jcall (f_R_findNext u7) fun r8 u9 => f_R_begin2_43 FU 0 u9 else some ((-2), u7)) (fun r _ => ∃ L, LWQ P g se h kn x0 L ∧ ((L ≤ 0 ∧ r = -2) ∨ (1 ≤ L ∧ ∀ x, FDB P g se h kn x0 H L = some x → 2 * r = ((pn (bt x) 10 : Nat) : Int)))) := by
  obtain ⟨hr, hcod, hnm⟩ := hrc
  obtain ⟨X, hx⟩ := rli_x hP hr
  have hn1 := hr.1
  have hall := b10_all hP
  have lf := flf_pc (ok := sbg P) hP c0 hr hx hall (fun x => by
    constructor
    · rintro ⟨k, hk, hgk⟩
      refine ⟨k, hk, hgk, decide_eq_true ?_⟩
      unfold gs at hgk
      rw [Bool.and_eq_true] at hgk
      exact inP_t hgk.1
    · rintro ⟨k, hk, hgk, _⟩; exact ⟨k, hk, hgk⟩) (fun x z n y hv hs _ hn hy => by
    obtain ⟨m, _, hw⟩ := hs
    exact sbg_back hP (wh_sof hw hP.2) hn hy) (fun x z hv hgu hs => ls_gs hP hg hv hs hgu)
  unfold f_R_all
  rw [jc_s, c0]
  refine pc_call (pc_and lf (pc_ok (s_R_findLife (g_self hG) hall.1))) (fun r6 u7 q => ?_)
  obtain ⟨⟨q1, q2⟩, _, q3⟩ := q
  have g7 : G [] u7 u7 := g_self q3
  have l0 := lfq_lwq (q2 0 (by omega))
  rw [(xok_0 hP h0 hr hx (by omega)).mpr rfl] at l0
  refine pc_gd (fun _ => ?_)
  refine pc_ite (fun c => ?_) (fun c => ?_)
  rotate_left
  · have c' : ¬ (1 : Int) ≤ u7 71 0 := c
    exact pc_some ⟨u7 71 0, l0, Or.inl ⟨by omega, rfl⟩⟩
  have c' : (1 : Int) ≤ u7 71 0 := c
  have x43 : u7 43 = u 43 := q1 43 (by decide) (by decide) (by decide)
  have x63 : u7 63 = u 63 := q1 63 (by decide) (by decide) (by decide)
  have hr7 : RLI P g se h kn x0 u7 := rli_eq hr (by rw [x43]) x63 (q1 64 (by decide) (by decide) (by decide)) (q1 65 (by decide) (by decide) (by decide))
  refine pc_call (pc_and (fnx_pc h0 hr7) (pc_ok (s_R_findNext (g_self g7)))) (fun r8 u9 z => ?_)
  obtain ⟨⟨z1, z2⟩, _, z3⟩ := z
  have g9 : G [] u9 u9 := g_self z3
  have y43 : u9 43 = u7 43 := z1 43 (by decide)
  have y71 : u9 71 = u7 71 := z1 71 (by decide)
  refine b43_pc (b := u9) (fun t ht => ?_) (fun v hv gv hfl => ?_) FU (by decide) g9 (fun _ _ => rfl) (fun t ht => by omega)
  · rw [y43] at ht
    rcases z2 t ht with ⟨a, _⟩ | ⟨a, _⟩
    · exact Or.inr a
    · exact Or.inl a
  · -- all that stands in v
    have fr : ∀ c, c ≠ 71 → c ≠ 72 → c ≠ 73 → c ≠ 74 → c ≠ 76 → v c = u c := fun c a1 a2 a3 a4 a5 => (hv c a4).trans ((z1 c a5).trans (q1 c a1 a2 a3))
    have v43 : v 43 = u 43 := fr 43 (by decide) (by decide) (by decide) (by decide) (by decide)
    have v45 : v 45 = u 45 := fr 45 (by decide) (by decide) (by decide) (by decide) (by decide)
    have v63 : v 63 = u 63 := fr 63 (by decide) (by decide) (by decide) (by decide) (by decide)
    have v67 : v 67 = u 67 := fr 67 (by decide) (by decide) (by decide) (by decide) (by decide)
    unfold f_R_tellFirst
    have hld := load_pc (P := P) (s := sof x0) (w := v) (t := 0) hP (by rw [v43]; exact c0) h0.2.2 (by rw [v63]; exact hr.2.2.2.2.1)
    change PC (f_R_load 0 v) _ at hld
    refine pc_call (pc_and hld (pc_ok (s_R_load (g_self gv) (by decide)))) (fun r1 u2 y => ?_)
    obtain ⟨⟨y1, y2⟩, _, y3⟩ := y
    have g2 : G [] u2 u2 := g_self y3
    refine pc_lw (fun u3 e3 => ?_)
    have g3 : G [4352] u2 u3 := g_st (g_self g2) e3 rfl rfl (show (0 : Int) ≤ 0 ∧ (0 : Int) ≤ 10 by decide)
    have ro : ∀ c, c ≠ 43 → c ≠ 68 → u3 c = v c := fun c a b => by rw [e3, st_row a]; exact y2 c b
    have rk : ∀ k, k ≠ 52 → u3 43 k = u 43 k := fun k hk => by rw [e3, st_k hk, y2 43 (by decide), v43]
    have t63 : u3 63 = u 63 := (ro 63 (by decide) (by decide)).trans v63
    have t67 : u3 67 = u 67 := (ro 67 (by decide) (by decide)).trans v67
    have t74 : u3 74 = v 74 := ro 74 (by decide) (by decide)
    -- where what follows stands
    have at_ : ∀ m, MVS P g se h kn (sof x0) m → ∃ (t : Nat) (y : Int), (t : Int) < u 43 40 ∧ Fnd u3 (cdf (nis P (sof x0) g (bt m)) P.toNat) t ∧ WH y (nis P (sof x0) g (bt m)) P ∧ SUX P g se h kn x0 y ∧ X t = y ∧ u 63 t = cdx P y := fun m hm => by
      obtain ⟨y, _, hy⟩ := after_e (v := m) h0 hP hg (b10_self (mvs_who hP hm).1) (mvs_ok hP hm) u
      have hsx : SUX P g se h kn x0 y := ⟨m, hm, hy⟩
      obtain ⟨t, ht, et⟩ := hx.2 y ⟨rx_wh hP h0 (t := 1) (x := y) ⟨x0, rfl, hsx⟩, 1, x0, rfl, hsx⟩
      have e63 := (hx.1 t ht).2
      rw [et] at e63
      have hf := hcod.1 t ht
      rw [e63, cdx_wh hP hy] at hf
      exact ⟨t, y, ht, (fnd_w t63 t67).mpr hf, hy, hsx, et, e63⟩
    have hHL := hH (u7 71 0 - 1).toNat
    refine pc_call (rtp_pc (P := P) (g := g) (se := se) (s := sof x0) (h := h) (kn := kn) (b := u3) (hit := H (u7 71 0 - 1).toNat) hP hg.2 (by rw [rk 0 (by decide)]; exact c0) (by rw [rk 10 (by decide)]; exact c10) (by rw [rk 11 (by decide)]; exact c11) (fun j hj => by rw [ro 45 (by decide) (by decide), v45]; exact c45 j hj) (by rw [rk 44 (by decide)]; exact hnm) (fun k hk => by rw [e3, st_c (by decide)]; exact y1 k hk) h0.2.2 (fun m hm => ?_) (fun m hm t hft => ?_) (fun d f m hm hd hs => ?_) 16 (d := 0) (f := 0) (v2 := 0) (v3 := 0) (m := 0) (u := u3) 12 ⟨g_self g3, fun _ _ _ _ => rfl, fun _ _ _ => rfl⟩ ⟨rfl, rfl⟩ (by decide) (by decide) (by decide) ⟨fun _ => rfl, fun _ => rfl⟩ (fun _ _ _ => rfl) (by omega) (by rw [e3, st_eq]; rfl)) (fun r4 u5 q => pc_some ⟨u7 71 0, l0, Or.inr ⟨c', fun x ex => ?_⟩⟩)
    · obtain ⟨t, y, a1, a2, _⟩ := at_ m hm
      exact ⟨t, by rw [rk 40 (by decide)]; exact a1, a2⟩
    · obtain ⟨t', y, a1, a2, a3, a4, a5, a6⟩ := at_ m hm
      have et : t = t' := fnd_one hft a2
      rw [et, t74]
      have ht9 : (t' : Int) < u9 43 40 := by rw [y43, x43]; exact a1
      have b71 : (-1 : Int) ≤ u7 71 0 ∧ u7 71 0 ≤ 2147483647 := g7.1 71 0
      rw [hfl t' ht9, y71, w32_id (show -2147483648 ≤ u7 71 0 - 1 ∧ u7 71 0 - 1 ≤ 2147483647 by omega)]
      have lt := lfq_lwq (q2 t' a1)
      rw [a5] at lt
      have on := lwq_on hP h0 l0 c' a4 lt
      have e76 : u9 76 t' = 1 := by
        rcases z2 t' (by rw [x43]; exact a1) with ⟨b, _⟩ | ⟨_, b⟩
        · exact b
        · exact absurd (by rw [x63]; exact a6) (b y a4)
      rw [hHL m]
      constructor
      · rintro ⟨_, z', hz, hh⟩
        rw [wh_inj hz a3 (fun _ _ => rfl)] at hh
        exact ⟨on.mpr hh, e76⟩
      · rintro ⟨b, _⟩
        exact ⟨hm, y, a3, on.mp b⟩
    · cases e : H (u7 71 0 - 1).toNat m with
      | false => rfl
      | true => exact absurd (hit_no hP hHL d f m hm hd e) hs
    · have fs := fdf_se (P := P) (se := se) (kn := kn) hP (hit_no hP hHL) 12 (d := 0) (f := 0) (m := 0) ⟨rfl, rfl⟩
      rw [if_pos (Or.inl rfl)] at fs
      unfold FDB at ex
      rw [ex] at fs
      rcases q with ⟨b, _⟩ | ⟨x', b1, _, b3⟩
      · rw [fs] at b; cases b
      · rw [fs] at b1
        have e : x = x' := by injection b1
        rw [e]; exact b3
theorem two_runc {a w : Wd} {P g se : Int} {h kn : Nat → Int} {x0 n : Int} {K KR : Wd → Option (Int × Wd)} {A B : Int → Prop} (hp : PRM a w P g se h kn x0) (hG : G [] a a) (hs : SCR n w) (hn : n ≤ 2600) (hk : w 28 9 ≠ 0 → KPT P g se h kn x0 w)
    (hE : ∀ u, RUN P g se h kn x0 w u → SRC P g se h kn x0 u → CLI P g se h kn x0 u → PC (K u) (fun r _ => A r))
    (hR : ∀ y u, y = st a 43 16 0 → FRY y u → G [] u u → RLC P g se h kn x0 u → PC (KR u) (fun r _ => B r)) (hAB : ∀ r r', A r → B r' → r = r') :
    PC (jcall (f_S_run w) fun r1 u2 => if r1 = 0 then some ((-3), u2) else K u2) (fun r _ => ∀ y, y = st a 43 16 0 → PC (jcall (f_R_findStates 0 y) fun r2 u3 => if r2 = 0 then some ((-3), u3) else KR u3) (fun r' _ => r = r')) := by
  obtain ⟨hP, hg, h0, hw, ⟨c0, c10, c11⟩, c47, c45, c46, _⟩ := id hp
  have hrf : ∀ y, y = st a 43 16 0 → PC (f_R_findStates 0 y) (fun r u => FRY y u ∧ G [] u u ∧ ((r = 0 ∧ MNY P g se h kn x0) ∨ (r = 1 ∧ RLC P g se h kn x0 u))) := fun y ey => by
    have gy : G [4316] a y := g_st (g_self hG) ey rfl rfl (show (0 : Int) ≤ 0 ∧ (0 : Int) ≤ 1 by decide)
    have yr : ∀ c, c ≠ 43 → y c = a c := fun c hc => by rw [ey, st_row hc]
    have yk : ∀ k, k ≠ 16 → y 43 k = a 43 k := fun k hk => by rw [ey, st_k hk]
    refine fstc_pc (h := h) hP hg h0 (g_self gy) (by rw [yk 0 (by decide)]; exact c0) (by rw [yk 10 (by decide)]; exact c10) (by rw [yk 11 (by decide)]; exact c11) (fun k hk => by rw [yr 47 (by decide)]; exact c47 k hk) (fun j hj => by rw [yr 45 (by decide)]; exact c45 j hj) (by decide) (fun k hk => ?_)
    rw [bt_0, Bool.or_false, yr 46 (by decide)]; exact c46 k hk
  refine pc_call (crun hp hs hn hk) (fun r1 u q => ?_)
  obtain ⟨q1, q2⟩ := q
  rcases q2 with ⟨e, s⟩ | ⟨e, m⟩
  · refine pc_ite (fun c => by omega) (fun _ => ?_)
    have cl := src_cli hP h0 s
    refine pc_w (hE u q1 s cl) (fun r _ hA y ey => ?_)
    refine pc_call (hrf y ey) (fun r2 u3 z => ?_)
    obtain ⟨z1, z2, z3⟩ := z
    rcases z3 with ⟨_, m⟩ | ⟨e3, l⟩
    · exact absurd m (cli_mny hP h0 cl)
    · refine pc_ite (fun c => by omega) (fun _ => ?_)
      exact pc_w (hR y u3 ey z1 z2 l) (fun r' _ hB => hAB r r' hA hB)
  · refine pc_ite (fun _ => pc_some (fun y ey => ?_)) (fun c => absurd e c)
    refine pc_call (hrf y ey) (fun r2 u3 z => ?_)
    obtain ⟨z1, z2, z3⟩ := z
    rcases z3 with ⟨e3, _⟩ | ⟨e3, l⟩
    · exact pc_ite (fun _ => pc_some rfl) (fun c => absurd e3 c)
    · exact absurd m (rli_mny hP h0 l.1)
theorem er_begin {a w : Wd} {P g se : Int} {h kn : Nat → Int} {x0 n : Int} (hp : PRM a w P g se h kn x0) (hG : G [] a a) (hs : SCR n w) (hn : n ≤ 2600) (hk : w 28 9 ≠ 0 → KPT P g se h kn x0 w) : PC (f_E_begin w) (fun r _ => PC (f_R_begin2 a) (fun r' _ => r = r')) := by
  obtain ⟨hP, hg, h0, hw, ⟨c0, c10, c11⟩, c47, c45, _⟩ := id hp
  obtain ⟨H, hH⟩ := hit_ex P g se h kn x0
  unfold f_E_begin f_R_begin2
  refine pc_w (two_runc (A := fun r => ∃ L, LWQ P g se h kn x0 L ∧ ((L ≤ 0 ∧ r = -2) ∨ (1 ≤ L ∧ ∃ x, FDB P g se h kn x0 H L = some x ∧ 2 * r = ((pn (bt x) 10 : Nat) : Int)))) (B := fun r => ∃ L, LWQ P g se h kn x0 L ∧ ((L ≤ 0 ∧ r = -2) ∨ (1 ≤ L ∧ ∀ x, FDB P g se h kn x0 H L = some x → 2 * r = ((pn (bt x) 10 : Nat) : Int)))) hp hG hs hn hk (fun u hu hS hc => ?_) (fun y u ey hf hg' hr => ?_) (fun r r' hA hB => ?_)) (fun r _ q => pc_lw (fun y ey => q y ey))
  · obtain ⟨u5, _, u7⟩ := run_5 hu
    have hwu : CW P g se h kn x0 u := by unfold CW at hw ⊢; rw [u5, u7]; exact hw
    exact cbg_pc hP hg h0 hH hS hc hwu hu.2.1.1 (by have := hu.2.1.2; have := hs.1.2; omega)
  · have u0 : ∀ k, k ≠ 16 → k ≠ 40 → k ≠ 41 → k ≠ 44 → u 43 k = a 43 k := fun k a1 a2 a3 a4 => by rw [hf.2 k a2 a3 a4, ey, st_k a1]
    refine rbg_pc hP hg h0 hH hr hg' (by rw [u0 0 (by decide) (by decide) (by decide) (by decide)]; exact c0) (by rw [u0 10 (by decide) (by decide) (by decide) (by decide)]; exact c10) (by rw [u0 11 (by decide) (by decide) (by decide) (by decide)]; exact c11) (fun j hj => ?_)
    rw [hf.1 45 (by decide) (by decide) (by decide) (by decide) (by decide) (by decide) (by decide), ey, st_row (by decide)]
    exact c45 j hj
  · obtain ⟨L, l1, l2⟩ := hA
    obtain ⟨L', l1', l2'⟩ := hB
    have e := lwq_one hP h0 l1 l1'
    rw [← e] at l2'
    rcases l2 with ⟨b1, b2⟩ | ⟨b1, x, b2, b3⟩
    · rcases l2' with ⟨_, d⟩ | ⟨d, _⟩
      · omega
      · omega
    · rcases l2' with ⟨d, _⟩ | ⟨_, d⟩
      · omega
      · have := d x b2
        omega
