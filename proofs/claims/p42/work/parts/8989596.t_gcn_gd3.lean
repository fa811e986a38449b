/-! BEGIN: the class tells the first WEEK -/
theorem tfw_pc {P g se : Int} {h kn : Nat → Int} {x0 L : Int} {u : Wd} {hit : Int → Bool} (hP : 0 ≤ P ∧ P ≤ 10) (hg : 1 ≤ g ∧ g ≤ 3) (h0 : WH x0 (sof x0) P) (hw : CW P g se h kn x0 u) (hT : TC u) (hcl : ∀ y, SUX P g se h kn x0 y → ∃ j : Nat, (j : Int) < u 28 7 ∧ u 30 j = y) (hr : ROK u) (hlt : u 24 4 < 2147483647) (hL : 1 ≤ L ∧ L ≤ 61) (hh : ∀ m, MVS P g se h kn (sof x0) m → ∀ y, WH y (nis P (sof x0) g (bt m)) P → ∀ j : Nat, (j : Int) < u 28 7 → u 30 j = y → (b6 (u 32 j) (L - 1).toNat = true ↔ hit m = true)) (hex : ∃ m, MVS P g se h kn (sof x0) m ∧ hit m = true) : PC (f_E_tellFirstWeek L u) (fun _ v => ∃ x, fdf P se kn (gs P (sof x0)) (fre P (sof x0) h) (sty P (sof x0) g) hit 12 0 0 = some x ∧ 2 * v 3 1 = ((pn (bt x) 10 : Nat) : Int)) := by
  unfold f_E_tellFirstWeek
  obtain ⟨w3, w5, w7, w8, w4, wk⟩ := hw
  rw [w8, w4]
  refine pc_call (pc_and (gat_pc (kn := kn) hP h0 w3 w5 hg w7 wk hr hlt) (gao_pc (kn := kn) (hit := hit) hP h0 w3 w5 hg w7 wk hr hlt)) (fun r1 u2 z => ?_)
  obtain ⟨⟨z1, ⟨z2, z3⟩, z4, z5, z6⟩, zs⟩ := z
  have y28 : u2 28 = u 28 := z1 28 (by decide) (by decide) (by decide) (by decide)
  have y29 : u2 29 = u 29 := z1 29 (by decide) (by decide) (by decide) (by decide)
  have y30 : u2 30 = u 30 := z1 30 (by decide) (by decide) (by decide) (by decide)
  have y32 : u2 32 = u 32 := z1 32 (by decide) (by decide) (by decide) (by decide)
  have y5 : u2 5 = u 5 := z1 5 (by decide) (by decide) (by decide) (by decide)
  have hT2 : TC u2 := tc_eq hT y29 y30 (by rw [y28])
  have h252 : u2 24 3 ≤ 256 := by
    have hz := z5.1
    have := mov_few hP (gs_fre (P := P) (s := sof x0) (h := h)) (n := (u2 24 3).toNat) (F := u2 25) (fun j hj => (z5.2.1 j (by omega)).2) (fun i j hi hj e => z5.2.2.1 i j (by omega) (by omega) e)
    omega
  have hfx : ∃ x, fdf P se kn (gs P (sof x0)) (fre P (sof x0) h) (sty P (sof x0) g) hit 12 0 0 = some x ∧ FHx hit u2 x := by
    rcases zs with ⟨_, hn⟩ | hx
    · obtain ⟨m, hm, hhm⟩ := hex
      obtain ⟨k, hk, ek⟩ := z6 m hm
      have := hn k hk
      rw [ek, hhm] at this
      cases this
    · exact hx
  obtain ⟨x, ex, hxh, k0, hk0, ek0, hlo⟩ := hfx
  have lp : ∀ (n : Nat) {v2 : Int}, 0 ≤ v2 → v2 ≤ (k0 : Int) → PC (f_E_firstThatLeads_2 n L v2 u2) (fun r v => v = u2 ∧ r = (k0 : Int)) := by
    intro n
    induction n with
    | zero => intros; exact pc_none
    | succ n ih =>
      intro v2 i2 i2'
      rw [f_E_firstThatLeads_2]
      refine pc_ite (fun c => by omega) (fun c => ?_)
      refine pc_call (mo_pc (k := v2) (u := u2) (by omega)) (fun r3 u3 q => ?_)
      rw [q.1, q.2, y5, w4, w7]
      have hm : MVS P g se h kn (sof x0) (u2 25 v2.toNat) := (z5.2.1 v2.toNat (by omega)).2
      obtain ⟨y, ey, hy⟩ := after_e (v := u2 25 v2.toNat) h0 hP hg (b10_self (mvs_who hP hm).1) (mvs_ok hP hm) u2
      rw [ey, jc_s, w32_id (by omega)]
      have hsx : SUX P g se h kn x0 y := ⟨_, hm, hy⟩
      have ld : PC (f_S_leads y (L - 1) u2) (fun r v => v = u2 ∧ (r ≠ 0 ↔ hit (u2 25 v2.toNat) = true)) := by
        unfold f_S_leads
        refine pc_call (lof_pc (z := y) hT2) (fun r9 u10 q9 => ?_)
        rw [q9.1]
        obtain ⟨j, j1, j2, j3⟩ := q9.2 (by rw [y28, y30]; exact hcl y hsx)
        rw [y28] at j1
        rw [y30] at j2
        rw [y32] at j3
        have hb := hh _ hm y hy j j1 j2
        rw [← j3] at hb
        rw [b6_ask (by omega)]
        cases cb : b6 r9 (L - 1).toNat with
        | true =>
          refine pc_ite (fun e => absurd e (by decide)) (fun _ => pc_some ⟨rfl, fun _ => hb.mp cb, fun _ => by decide⟩)
        | false =>
          refine pc_ite (fun _ => pc_some ⟨rfl, fun e => absurd rfl e, fun e => ?_⟩) (fun e => absurd rfl e)
          have := hb.mpr e
          rw [cb] at this
          cases this
      refine pc_call ld (fun r5 u6 q5 => ?_)
      rw [q5.1]
      by_cases ck : v2 = (k0 : Int)
      · have hhit : hit (u2 25 v2.toNat) = true := by rw [show v2.toNat = k0 by omega, ek0]; exact hxh
        exact pc_ite (fun e => absurd e (q5.2.mpr hhit)) (fun _ => pc_some ⟨rfl, ck⟩)
      · have hhit : hit (u2 25 v2.toNat) = false := hlo v2.toNat (by omega)
        refine pc_ite (fun _ => pc_let (fun x7 e7 => ?_)) (fun e => ?_)
        · rw [w32_id (by omega)] at e7
          rw [e7]
          exact ih (by omega) (by omega)
        · have := q5.2.mp e
          rw [hhit] at this
          cases this
  unfold f_E_firstThatLeads
  refine pc_call (lp FU (by decide) (by omega)) (fun r3 u4 q => ?_)
  rw [q.1, q.2]
  refine pc_ite (fun c => by omega) (fun _ => ?_)
  refine pc_call (tp_pc z5 h252 (k := (k0 : Int)) ⟨by omega, hk0⟩) (fun r5 u6 t => pc_some ⟨x, ex, ?_⟩)
  rw [t.1, show ((k0 : Nat) : Int).toNat = k0 by omega, ek0]
/-- what the first WEEK leads to: so many WEEKS on somebody can still be a GUEST -/
def HIT (P g se : Int) (h kn : Nat → Int) (x0 : Int) (n : Nat) (hit : Int → Bool) : Prop := ∀ m, hit m = true ↔ MVS P g se h kn (sof x0) m ∧ ∃ z, WH z (nis P (sof x0) g (bt m)) P ∧ ∃ y, RCX P g se h kn z n y ∧ sbg P y
theorem hit_ex (P g se : Int) (h kn : Nat → Int) (x0 : Int) : ∃ H : Nat → Int → Bool, ∀ n, HIT P g se h kn x0 n (H n) := ⟨fun n m => @decide (MVS P g se h kn (sof x0) m ∧ ∃ z, WH z (nis P (sof x0) g (bt m)) P ∧ ∃ y, RCX P g se h kn z n y ∧ sbg P y) (Classical.propDecidable _), fun n m => @decide_eq_true_iff _ (Classical.propDecidable _)⟩
def FDB (P g se : Int) (h kn : Nat → Int) (x0 : Int) (H : Nat → Int → Bool) (L : Int) : Option Int := fdf P se kn (gs P (sof x0)) (fre P (sof x0) h) (sty P (sof x0) g) (H (L - 1).toNat) 12 0 0
theorem cbg_pc {P g se : Int} {h kn : Nat → Int} {x0 : Int} {u : Wd} {H : Nat → Int → Bool} (hP : 0 ≤ P ∧ P ≤ 10) (hg : 1 ≤ g ∧ g ≤ 3) (h0 : WH x0 (sof x0) P) (hH : ∀ n, HIT P g se h kn x0 n (H n)) (hS : SRC P g se h kn x0 u) (hc : CLI P g se h kn x0 u) (hw : CW P g se h kn x0 u) (hr : ROK u) (hlt : u 24 4 ≤ 2147470000) : PC (jcall (f_S_lastWeek 0 0 u) fun r3 u4 => if (0 : Int) < r3 then jcall (f_S_lookBack 0 (-1) u4) fun r5 u6 => jcall (f_E_tellFirstWeek r3 u6) fun r7 u8 => some (u8 3 1, u8) else some ((-2), u4)) (fun r _ => ∃ L, LWQ P g se h kn x0 L ∧ ((L ≤ 0 ∧ r = -2) ∨ (1 ≤ L ∧ ∃ x, FDB P g se h kn x0 H L = some x ∧ 2 * r = ((pn (bt x) 10 : Nat) : Int)))) := by
  refine pc_call (clw_pc hc hP h0 b10_0 b10_0) (fun r3 u4 z => ?_)
  rw [z.1]
  have hl := lst_lwq hP hg h0 wkt_all z.2
  refine pc_ite (fun c => ?_) (fun c => pc_some ⟨r3, hl, Or.inl ⟨by omega, rfl⟩⟩)
  have e60 : r3 ≤ 60 := by
    rcases z.2 with ⟨e', _⟩ | ⟨e', _⟩
    · omega
    · exact e'.2
  refine pc_call (lkb_pc hP hg h0 hS hw hr hlt) (fun r5 u6 q => ?_)
  obtain ⟨q1, ⟨q2, q3⟩, q4⟩ := q
  have y28 : u6 28 = u 28 := q1 28 (by decide) (by decide) (by decide) (by decide) (by decide)
  have y29 : u6 29 = u 29 := q1 29 (by decide) (by decide) (by decide) (by decide) (by decide)
  have y30 : u6 30 = u 30 := q1 30 (by decide) (by decide) (by decide) (by decide) (by decide)
  have y5 : u6 5 = u 5 := q1 5 (by decide) (by decide) (by decide) (by decide) (by decide)
  have y7 : u6 7 = u 7 := q1 7 (by decide) (by decide) (by decide) (by decide) (by decide)
  have hw6 : CW P g se h kn x0 u6 := by unfold CW at hw ⊢; rw [y5, y7]; exact hw
  have hT6 : TC u6 := tc_eq hS.1.1 y29 y30 (by rw [y28])
  refine pc_call (tfw_pc (hit := H (r3 - 1).toNat) hP hg h0 hw6 hT6 (fun y hy => ?_) q2 (by omega) ⟨by omega, by omega⟩ (fun m hm y hy j hj ej => ?_) ?_) (fun r7 u8 q => pc_some ⟨r3, hl, Or.inr ⟨by omega, q⟩⟩)
  · obtain ⟨k, hk, ek⟩ := hc.2.2.2.1 y ⟨rx_wh hP h0 (t := 1) (x := y) ⟨x0, rfl, hy⟩, 1, x0, rfl, hy⟩
    exact ⟨k, by rw [y28]; exact hk, by rw [y30]; exact ek⟩
  · rw [y28] at hj
    rw [y30] at ej
    have ok := q4 j hj
    rw [ej] at ok
    rw [ok (r3 - 1).toNat (by omega), hH (r3 - 1).toNat m]
    constructor
    · intro hh; exact ⟨hm, y, hy, hh⟩
    · rintro ⟨_, z', hz, hh⟩
      rw [wh_inj hz hy (fun _ _ => rfl)] at hh
      exact hh
  · rcases hl with ⟨e, _⟩ | ⟨_, ⟨y, y1, y2⟩, _⟩
    · omega
    · rw [show r3.toNat = (r3 - 1).toNat + 1 by omega] at y1
      obtain ⟨z', ⟨m, hm, hz⟩, z2⟩ := rcx_first.mp y1
      exact ⟨m, hm, (hH _ m).mpr ⟨hm, z', hz, y, z2, y2⟩⟩
/-! BEGIN: the reference, and both -/
theorem hit_no {P g se : Int} {h kn : Nat → Int} {x0 : Int} {n : Nat} {hit : Int → Bool} (hP : 0 ≤ P ∧ P ≤ 10) (hH : HIT P g se h kn x0 n hit) : ∀ (d : Nat) (f m : Int), DRC P 20 kn (gs P (sof x0)) (fre P (sof x0) h) (sty P (sof x0) g) d f m → d ≠ 0 → hit m = true → ((pn (fun k => sty P (sof x0) g k || bt m k) 10 : Nat) : Int) ≤ se := by
  intro d f m hm hd hh
  obtain ⟨⟨d', f', hD⟩, _⟩ := (hH m).mp hh
  obtain ⟨hD2, hs⟩ := (drc_se hP).mp hD
  rcases hs with e | e
  · have p1 := (drc_pn hP gs_fre hm).1
    have p2 := (drc_pn hP gs_fre hD2).1
    omega
  · exact e
theorem rbg_pc {P g se : Int} {h kn : Nat → Int} {x0 : Int} {u : Wd} {H : Nat → Int → Bool} (hP : 0 ≤ P ∧ P ≤ 10) (hg : 1 ≤ g ∧ g ≤ 3) (h0 : WH x0 (sof x0) P) (hH : ∀ n, HIT P g se h kn x0 n (H n)) (hrc : RLC P g se h kn x0 u) (hG : G [] u u) (c0 : u 43 0 = P) (c10 : u 43 10 = g) (c11 : u 43 11 = se) (c45 : ∀ j : Nat, (j : Int) < P → u 45 j = kn j ∧ 0 ≤ kn j ∧ kn j ≤ 1023) : PC (jcall (f_R_all u) fun r4 u5 => jcall (f_R_findLife r4 u5) fun r6 u7 => jgd ((0 : Int) ≤ (0 : Int) ∧ (0 : Int) < 3000) <| if (1 : Int) ≤ (u7 71 (0 : Int).toNat) then jcall (f_R_findNext u7) fun r8 u9 => f_R_begin2_43 FU 0 u9 else some ((-2), u7)) (fun r _ => ∃ L, LWQ P g se h kn x0 L ∧ ((L ≤ 0 ∧ r = -2) ∨ (1 ≤ L ∧ ∀ x, FDB P g se h kn x0 H L = some x → 2 * r = ((pn (bt x) 10 : Nat) : Int)))) := by
  obtain ⟨hr, hcod, hnm⟩ := hrc
  obtain ⟨X, hx⟩ := rli_x hP hr
  have hn1 := hr.1
  have hall := b10_all hP
  have lf := flf_pc (ok := sbg P) hP c0 hr hx hall (fun x => by
    constructor
    · rintro ⟨k, hk, hgk⟩
      refine ⟨k, hk, hgk, decide_eq_true ?_⟩
      unfold gs at hgk
      rw [Bool.and_eq_true] at hgk
      exact inP_t hgk.1
    · rintro ⟨k, hk, hgk, _⟩; exact ⟨k, hk, hgk⟩) (fun x z n y hv hs _ hn hy => by
    obtain ⟨m, _, hw⟩ := hs
    exact sbg_back hP (wh_sof hw hP.2) hn hy) (fun x z hv hgu hs => ls_gs hP hg hv hs hgu)
  unfold f_R_all
  rw [jc_s, c0]
  refine pc_call (pc_and lf (pc_ok (s_R_findLife (g_self hG) hall.1))) (fun r6 u7 q => ?_)
  obtain ⟨⟨q1, q2⟩, _, q3⟩ := q
  have g7 : G [] u7 u7 := g_self q3
  have l0 := lfq_lwq (q2 0 (by omega))
  rw [(xok_0 hP h0 hr hx (by omega)).mpr rfl] at l0
  refine pc_gd (fun _ => ?_)
  refine pc_ite (fun c => ?_) (fun c => ?_)
  rotate_left
  · have c' : ¬ (1 : Int) ≤ u7 71 0 := c
    exact pc_some ⟨u7 71 0, l0, Or.inl ⟨by omega, rfl⟩⟩
  have c' : (1 : Int) ≤ u7 71 0 := c
  have x43 : u7 43 = u 43 := q1 43 (by decide) (by decide) (by decide)
  have x63 : u7 63 = u 63 := q1 63 (by decide) (by decide) (by decide)
  have hr7 : RLI P g se h kn x0 u7 := rli_eq hr (by rw [x43]) x63 (q1 64 (by decide) (by decide) (by decide)) (q1 65 (by decide) (by decide) (by decide))
  refine pc_call (pc_and (fnx_pc h0 hr7) (pc_ok (s_R_findNext (g_self g7)))) (fun r8 u9 z => ?_)
  obtain ⟨⟨z1, z2⟩, _, z3⟩ := z
  have g9 : G [] u9 u9 := g_self z3
  have y43 : u9 43 = u7 43 := z1 43 (by decide)
  have y71 : u9 71 = u7 71 := z1 71 (by decide)
  refine b43_pc (b := u9) (fun t ht => ?_) (fun v hv gv hfl => ?_) FU (by decide) g9 (fun _ _ => rfl) (fun t ht => by omega)
  · rw [y43] at ht
    rcases z2 t ht with ⟨a, _⟩ | ⟨a, _⟩
    · exact Or.inr a
    · exact Or.inl a
  · -- all that stands in v
    have fr : ∀ c, c ≠ 71 → c ≠ 72 → c ≠ 73 → c ≠ 74 → c ≠ 76 → v c = u c := fun c a1 a2 a3 a4 a5 => (hv c a4).trans ((z1 c a5).trans (q1 c a1 a2 a3))
    have v43 : v 43 = u 43 := fr 43 (by decide) (by decide) (by decide) (by decide) (by decide)
    have v45 : v 45 = u 45 := fr 45 (by decide) (by decide) (by decide) (by decide) (by decide)
    have v63 : v 63 = u 63 := fr 63 (by decide) (by decide) (by decide) (by decide) (by decide)
    have v67 : v 67 = u 67 := fr 67 (by decide) (by decide) (by decide) (by decide) (by decide)
    unfold f_R_tellFirst
    have hld := load_pc (P := P) (s := sof x0) (w := v) (t := 0) hP (by rw [v43]; exact c0) h0.2.2 (by rw [v63]; exact hr.2.2.2.2.1)
    change PC (f_R_load 0 v) _ at hld
    refine pc_call (pc_and hld (pc_ok (s_R_load (g_self gv) (by decide)))) (fun r1 u2 y => ?_)
    obtain ⟨⟨y1, y2⟩, _, y3⟩ := y
    have g2 : G [] u2 u2 := g_self y3
    refine pc_lw (fun u3 e3 => ?_)
    have g3 : G [4352] u2 u3 := g_st (g_self g2) e3 rfl rfl (show (0 : Int) ≤ 0 ∧ (0 : Int) ≤ 10 by decide)
    have ro : ∀ c, c ≠ 43 → c ≠ 68 → u3 c = v c := fun c a b => by rw [e3, st_row a]; exact y2 c b
    have rk : ∀ k, k ≠ 52 → u3 43 k = u 43 k := fun k hk => by rw [e3, st_k hk, y2 43 (by decide), v43]
    have t63 : u3 63 = u 63 := (ro 63 (by decide) (by decide)).trans v63
    have t67 : u3 67 = u 67 := (ro 67 (by decide) (by decide)).trans v67
    have t74 : u3 74 = v 74 := ro 74 (by decide) (by decide)
    -- where what follows stands
    have at_ : ∀ m, MVS P g se h kn (sof x0) m → ∃ (t : Nat) (y : Int), (t : Int) < u 43 40 ∧ Fnd u3 (cdf (nis P (sof x0) g (bt m)) P.toNat) t ∧ WH y (nis P (sof x0) g (bt m)) P ∧ SUX P g se h kn x0 y ∧ X t = y ∧ u 63 t = cdx P y := fun m hm => by
      obtain ⟨y, _, hy⟩ := after_e (v := m) h0 hP hg (b10_self (mvs_who hP hm).1) (mvs_ok hP hm) u
      have hsx : SUX P g se h kn x0 y := ⟨m, hm, hy⟩
      obtain ⟨t, ht, et⟩ := hx.2 y ⟨rx_wh hP h0 (t := 1) (x := y) ⟨x0, rfl, hsx⟩, 1, x0, rfl, hsx⟩
      have e63 := (hx.1 t ht).2
      rw [et] at e63
      have hf := hcod.1 t ht
      rw [e63, cdx_wh hP hy] at hf
      exact ⟨t, y, ht, (fnd_w t63 t67).mpr hf, hy, hsx, et, e63⟩
    have hHL := hH (u7 71 0 - 1).toNat
    refine pc_call (rtp_pc (P := P) (g := g) (se := se) (s := sof x0) (h := h) (kn := kn) (b := u3) (hit := H (u7 71 0 - 1).toNat) hP hg.2 (by rw [rk 0 (by decide)]; exact c0) (by rw [rk 10 (by decide)]; exact c10) (by rw [rk 11 (by decide)]; exact c11) (fun j hj => by rw [ro 45 (by decide) (by decide), v45]; exact c45 j hj) (by rw [rk 44 (by decide)]; exact hnm) (fun k hk => by rw [e3, st_c (by decide)]; exact y1 k hk) h0.2.2 (fun m hm => ?_) (fun m hm t hft => ?_) (fun d f m hm hd hs => ?_) 16 (d := 0) (f := 0) (v2 := 0) (v3 := 0) (m := 0) (u := u3) 12 ⟨g_self g3, fun _ _ _ _ => rfl, fun _ _ _ => rfl⟩ ⟨rfl, rfl⟩ (by decide) (by decide) (by decide) ⟨fun _ => rfl, fun _ => rfl⟩ (fun _ _ _ => rfl) (by omega) (by rw [e3, st_eq]; rfl)) (fun r4 u5 q => pc_some ⟨u7 71 0, l0, Or.inr ⟨c', fun x ex => ?_⟩⟩)
    · obtain ⟨t, y, a1, a2, _⟩ := at_ m hm
      exact ⟨t, by rw [rk 40 (by decide)]; exact a1, a2⟩
    · obtain ⟨t', y, a1, a2, a3, a4, a5, a6⟩ := at_ m hm
      have et : t = t' := fnd_one hft a2
      rw [et, t74]
      have ht9 : (t' : Int) < u9 43 40 := by rw [y43, x43]; exact a1
      have b71 : (-1 : Int) ≤ u7 71 0 ∧ u7 71 0 ≤ 2147483647 := g7.1 71 0
      rw [hfl t' ht9, y71, w32_id (show -2147483648 ≤ u7 71 0 - 1 ∧ u7 71 0 - 1 ≤ 2147483647 by omega)]
      have lt := lfq_lwq (q2 t' a1)
      rw [a5] at lt
      have on := lwq_on hP h0 l0 c' a4 lt
      have e76 : u9 76 t' = 1 := by
        rcases z2 t' (by rw [x43]; exact a1) with ⟨b, _⟩ | ⟨_, b⟩
        · exact b
        · exact absurd (by rw [x63]; exact a6) (b y a4)
      rw [hHL m]
      constructor
      · rintro ⟨_, z', hz, hh⟩
        rw [wh_inj hz a3 (fun _ _ => rfl)] at hh
        exact ⟨on.mpr hh, e76⟩
      · rintro ⟨b, _⟩
        exact ⟨hm, y, a3, on.mp b⟩
    · cases e : H (u7 71 0 - 1).toNat m with
      | false => rfl
      | true => exact absurd (hit_no hP hHL d f m hm hd e) hs
    · have fs := fdf_se (P := P) (se := se) (kn := kn) hP (hit_no hP hHL) 12 (d := 0) (f := 0) (m := 0) ⟨rfl, rfl⟩
      rw [if_pos (Or.inl rfl)] at fs
      unfold FDB at ex
      rw [ex] at fs
      rcases q with ⟨b, _⟩ | ⟨x', b1, _, b3⟩
      · rw [fs] at b; cases b
      · rw [fs] at b1
        have e : x = x' := by injection b1
        rw [e]; exact b3
theorem two_runc {a w : Wd} {P g se : Int} {h kn : Nat → Int} {x0 n : Int} {K KR : Wd → Option (Int × Wd)} {A B : Int → Prop} (hp : PRM a w P g se h kn x0) (hG : G [] a a) (hs : SCR n w) (hn : n ≤ 2600) (hk : w 28 9 ≠ 0 → KPT P g se h kn x0 w)
    (hE : ∀ u, RUN P g se h kn x0 w u → SRC P g se h kn x0 u → CLI P g se h kn x0 u → PC (K u) (fun r _ => A r))
    (hR : ∀ y u, y = st a 43 16 0 → FRY y u → G [] u u → RLC P g se h kn x0 u → PC (KR u) (fun r _ => B r)) (hAB : ∀ r r', A r → B r' → r = r') :
    PC (jcall (f_S_run w) fun r1 u2 => if r1 = 0 then some ((-3), u2) else K u2) (fun r _ => ∀ y, y = st a 43 16 0 → PC (jcall (f_R_findStates 0 y) fun r2 u3 => if r2 = 0 then some ((-3), u3) else KR u3) (fun r' _ => r = r')) := by
  obtain ⟨hP, hg, h0, hw, ⟨c0, c10, c11⟩, c47, c45, c46, _⟩ := id hp
  have hrf : ∀ y, y = st a 43 16 0 → PC (f_R_findStates 0 y) (fun r u => FRY y u ∧ G [] u u ∧ ((r = 0 ∧ MNY P g se h kn x0) ∨ (r = 1 ∧ RLC P g se h kn x0 u))) := fun y ey => by
    have gy : G [4316] a y := g_st (g_self hG) ey rfl rfl (show (0 : Int) ≤ 0 ∧ (0 : Int) ≤ 1 by decide)
    have yr : ∀ c, c ≠ 43 → y c = a c := fun c hc => by rw [ey, st_row hc]
    have yk : ∀ k, k ≠ 16 → y 43 k = a 43 k := fun k hk => by rw [ey, st_k hk]
    refine fstc_pc (h := h) hP hg h0 (g_self gy) (by rw [yk 0 (by decide)]; exact c0) (by rw [yk 10 (by decide)]; exact c10) (by rw [yk 11 (by decide)]; exact c11) (fun k hk => by rw [yr 47 (by decide)]; exact c47 k hk) (fun j hj => by rw [yr 45 (by decide)]; exact c45 j hj) (by decide) (fun k hk => ?_)
    rw [bt_0, Bool.or_false, yr 46 (by decide)]; exact c46 k hk
  refine pc_call (crun hp hs hn hk) (fun r1 u q => ?_)
  obtain ⟨q1, q2⟩ := q
  rcases q2 with ⟨e, s⟩ | ⟨e, m⟩
  · refine pc_ite (fun c => by omega) (fun _ => ?_)
    have cl := src_cli hP h0 s
    refine pc_w (hE u q1 s cl) (fun r _ hA y ey => ?_)
    refine pc_call (hrf y ey) (fun r2 u3 z => ?_)
    obtain ⟨z1, z2, z3⟩ := z
    rcases z3 with ⟨_, m⟩ | ⟨e3, l⟩
    · exact absurd m (cli_mny hP h0 cl)
    · refine pc_ite (fun c => by omega) (fun _ => ?_)
      exact pc_w (hR y u3 ey z1 z2 l) (fun r' _ hB => hAB r r' hA hB)
  · refine pc_ite (fun _ => pc_some (fun y ey => ?_)) (fun c => absurd e c)
    refine pc_call (hrf y ey) (fun r2 u3 z => ?_)
    obtain ⟨z1, z2, z3⟩ := z
    rcases z3 with ⟨e3, _⟩ | ⟨e3, l⟩
    · exact pc_ite (fun _ => pc_some rfl) (fun c => absurd e3 c)
    · exact absurd m (rli_mny hP h0 l.1)
theorem er_begin {a w : Wd} {P g se : Int} {h kn : Nat → Int} {x0 n : Int} (hp : PRM a w P g se h kn x0) (hG : G [] a a) (hs : SCR n w) (hn : n ≤ 2600) (hk : w 28 9 ≠ 0 → KPT P g se h kn x0 w) : PC (f_E_begin w) (fun r _ => PC (f_R_begin2 a) (fun r' _ => r = r')) := by
  obtain ⟨hP, hg, h0, hw, ⟨c0, c10, c11⟩, c47, c45, _⟩ := id hp
  obtain ⟨H, hH⟩ := hit_ex P g se h kn x0
  unfold f_E_begin f_R_begin2
  refine pc_w (two_runc (A := fun r => ∃ L, LWQ P g se h kn x0 L ∧ ((L ≤ 0 ∧ r = -2) ∨ (1 ≤ L ∧ ∃ x, FDB P g se h kn x0 H L = some x ∧ 2 * r = ((pn (bt x) 10 : Nat) : Int)))) (B := fun r => ∃ L, LWQ P g se h kn x0 L ∧ ((L ≤ 0 ∧ r = -2) ∨ (1 ≤ L ∧ ∀ x, FDB P g se h kn x0 H L = some x → 2 * r = ((pn (bt x) 10 : Nat) : Int)))) hp hG hs hn hk (fun u hu hS hc => ?_) (fun y u ey hf hg' hr => ?_) (fun r r' hA hB => ?_)) (fun r _ q => pc_lw (fun y ey => q y ey))
  · obtain ⟨u5, _, u7⟩ := run_5 hu
    have hwu : CW P g se h kn x0 u := by unfold CW at hw ⊢; rw [u5, u7]; exact hw
    exact cbg_pc hP hg h0 hH hS hc hwu hu.2.1.1 (by have := hu.2.1.2; have := hs.1.2; omega)
  · have u0 : ∀ k, k ≠ 16 → k ≠ 40 → k ≠ 41 → k ≠ 44 → u 43 k = a 43 k := fun k a1 a2 a3 a4 => by rw [hf.2 k a2 a3 a4, ey, st_k a1]
    refine rbg_pc hP hg h0 hH hr hg' (by rw [u0 0 (by decide) (by decide) (by decide) (by decide)]; exact c0) (by rw [u0 10 (by decide) (by decide) (by decide) (by decide)]; exact c10) (by rw [u0 11 (by decide) (by decide) (by decide) (by decide)]; exact c11) (fun j hj => ?_)
    rw [hf.1 45 (by decide) (by decide) (by decide) (by decide) (by decide) (by decide) (by decide), ey, st_row (by decide)]
    exact c45 j hj
  · obtain ⟨L, l1, l2⟩ := hA
    obtain ⟨L', l1', l2'⟩ := hB
    have e := lwq_one hP h0 l1 l1'
    rw [← e] at l2'
    rcases l2 with ⟨b1, b2⟩ | ⟨b1, x, b2, b3⟩
    · rcases l2' with ⟨_, d⟩ | ⟨d, _⟩
      · omega
      · omega
    · rcases l2' with ⟨d, _⟩ | ⟨_, d⟩
      · omega
      · have := d x b2
        omega
/-! WHAT IS KEPT OF A SEARCH: it stays through all reading -/
def SJ (L : Int) (b w : Wd) : Prop := (w 5 = b 5 ∧ w 7 = b 7 ∧ w 28 = b 28 ∧ w 29 = b 29 ∧ w 30 = b 30 ∧ w 31 = b 31 ∧ w 35 = b 35) ∧ ROK w ∧ w 24 4 ≤ L
theorem sj_mono {L M : Int} {b w : Wd} (h : SJ L b w) (hM : L ≤ M) : SJ M b w := ⟨h.1, h.2.1, Int.le_trans h.2.2 hM⟩
theorem sj_st {L : Int} {b w u : Wd} {c k : Nat} {z : Int} (h : SJ L b w) (e : u = st w c k z) (hc : [5, 7, 24, 27, 28, 29, 30, 31, 35].contains c = false) : SJ L b u := by
  have f : ∀ c', [5, 7, 24, 27, 28, 29, 30, 31, 35].contains c' = true → u c' = w c' := fun c' hc' => by
    rw [e]; exact st_row (fun hh => by rw [hh, hc] at hc'; cases hc')
  unfold SJ ROK
  rw [f 5 rfl, f 7 rfl, f 24 rfl, f 27 rfl, f 28 rfl, f 29 rfl, f 30 rfl, f 31 rfl, f 35 rfl]
  exact h
theorem sj_s24 {L : Int} {b w u : Wd} {k : Nat} {z : Int} (h : SJ L b w) (e : u = st w 24 k z) (hk : (k == 4) = false) : SJ L b u := by
  have f : ∀ c', c' ≠ 24 → u c' = w c' := fun c' hc' => by rw [e]; exact st_row hc'
  have f4 : u 24 4 = w 24 4 := by rw [e]; exact st_k (fun hh => by rw [← hh] at hk; cases hk)
  unfold SJ ROK
  rw [f 5 (by decide), f 7 (by decide), f4, f 27 (by decide), f 28 (by decide), f 29 (by decide), f 30 (by decide), f 31 (by decide), f 35 (by decide)]
  exact h
theorem sj_fm {L : Int} {b w u : Wd} (h : SJ L b w) (f : FM w u) : SJ L b u := by
  have g := f.1
  have f4 : u 24 4 = w 24 4 := f.2.1 4 (by decide)
  obtain ⟨h1, h2, h3⟩ := h
  refine ⟨?_, ⟨by rw [f4]; exact h2.1, fun k hk => ?_⟩, by rw [f4]; exact h3⟩
  · rw [g 5 (by decide) (by decide) (by decide) (by decide), g 7 (by decide) (by decide) (by decide) (by decide), g 28 (by decide) (by decide) (by decide) (by decide), g 29 (by decide) (by decide) (by decide) (by decide), g 30 (by decide) (by decide) (by decide) (by decide), g 31 (by decide) (by decide) (by decide) (by decide), g 35 (by decide) (by decide) (by decide) (by decide)]
    exact h1
  · rw [f4]
    rcases f.2.2 k with e | e
    · rw [e]; exact h2.2 k hk
    · rw [e]; exact Int.le_refl _
theorem zq_E_isWeek {b : Wd} {v0 : Int} {w : Wd} (h : w = b) : PC (f_E_isWeek v0 w) (fun _ u => u = b) := by
  unfold f_E_isWeek
  refine pc_ite (fun _ => ?_) (fun _ => ?_)
  · exact pc_some h
  · refine pc_ite (fun _ => ?_) (fun _ => ?_)
    · exact pc_some h
    · exact pc_some h
theorem zq_F_isThere {b : Wd} {v1 : Int} {w : Wd} (h : w = b) : PC (f_F_isThere v1 w) (fun _ u => u = b) := by
  unfold f_F_isThere
  refine pc_ite (fun _ => ?_) (fun _ => ?_)
  · exact pc_some h
  · refine pc_ite (fun _ => ?_) (fun _ => ?_)
    · exact pc_some h
    · exact pc_some h
theorem zq_E_areTwo {b : Wd} {v1 v2 : Int} {w : Wd} (h : w = b) : PC (f_E_areTwo v1 v2 w) (fun _ u => u = b) := by
  unfold f_E_areTwo
  refine pc_ite (fun _ => ?_) (fun _ => ?_)
  · exact pc_some h
  · refine pc_call (zq_F_isThere h) (fun r1 u2 h => ?_)
    refine pc_ite (fun _ => ?_) (fun _ => ?_)
    · exact pc_some h
    · refine pc_call (zq_F_isThere h) (fun r3 u4 h => ?_)
      refine pc_ite (fun _ => ?_) (fun _ => ?_)
      · exact pc_some h
      · exact pc_some h
theorem zq_F_everybody {b : Wd} {w : Wd} (h : w = b) : PC (f_F_everybody  w) (fun _ u => u = b) := by
  unfold f_F_everybody
  exact pc_some h
theorem zq_O_known {b : Wd} {v0 : Int} {w : Wd} (h : w = b) : PC (f_O_known v0 w) (fun _ u => u = b) := by
  unfold f_O_known
  exact pc_some h
theorem zq_F_strangers {b : Wd} {w : Wd} (h : w = b) : PC (f_F_strangers  w) (fun _ u => u = b) := by
  unfold f_F_strangers
  refine pc_call (zq_F_everybody h) (fun r1 u2 h => ?_)
  refine pc_call (zq_O_known h) (fun r3 u4 h => ?_)
  exact pc_some h
theorem zq_F_free {b : Wd} {w : Wd} (h : w = b) : PC (f_F_free  w) (fun _ u => u = b) := by
  unfold f_F_free
  refine pc_call (zq_F_strangers h) (fun r1 u2 h => ?_)
  exact pc_some h
theorem zq_E_has {b : Wd} {v0 v1 : Int} {w : Wd} (h : w = b) : PC (f_E_has v0 v1 w) (fun _ u => u = b) := by
  unfold f_E_has
  refine pc_ite (fun _ => ?_) (fun _ => ?_)
  · exact pc_some h
  · refine pc_ite (fun _ => ?_) (fun _ => ?_)
    · exact pc_some h
    · refine pc_ite (fun _ => ?_) (fun _ => ?_)
      · exact pc_some h
      · exact pc_some h
theorem zs_O_lateOne {L : Int} {b : Wd} {v0 v1 : Int} {w : Wd} (h : SJ L b w) : PC (f_O_lateOne v0 v1 w) (fun _ u => SJ L b u) := by
  unfold f_O_lateOne
  refine pc_ite (fun _ => ?_) (fun _ => ?_)
  · exact pc_some h
  · exact pc_some h
theorem zs_O_lateTwo {L : Int} {b : Wd} {v0 v1 : Int} {w : Wd} (h : SJ L b w) : PC (f_O_lateTwo v0 v1 w) (fun _ u => SJ L b u) := by
  unfold f_O_lateTwo
  refine pc_ite (fun _ => ?_) (fun _ => ?_)
  · exact pc_some h
  · exact pc_some h
theorem zs_O_stay {L : Int} {b : Wd} {v0 v1 : Int} {w : Wd} (h : SJ L b w) : PC (f_O_stay v0 v1 w) (fun _ u => SJ L b u) := by
  unfold f_O_stay
  refine pc_call (zs_O_lateOne h) (fun r1 u2 h => ?_)
  refine pc_call (zs_O_lateTwo h) (fun r3 u4 h => ?_)
  exact pc_some h
theorem zs_F_everybody {L : Int} {b : Wd} {w : Wd} (h : SJ L b w) : PC (f_F_everybody  w) (fun _ u => SJ L b u) := by
  unfold f_F_everybody
  exact pc_some h
theorem zs_O_known {L : Int} {b : Wd} {v0 : Int} {w : Wd} (h : SJ L b w) : PC (f_O_known v0 w) (fun _ u => SJ L b u) := by
  unfold f_O_known
  exact pc_some h
theorem zs_M_prepare {L : Int} {b : Wd} {v2 v3 v4 : Int} {w : Wd} (h : SJ L b w) (hL : L + 1 ≤ 2147480000) : PC (f_M_prepare v2 v3 v4 w) (fun _ u => SJ (L + 1) b u) := by
  unfold f_M_prepare
  refine pc_lw (fun u1 e => ?_)
  replace h := sj_s24 h e rfl
  refine pc_lw (fun u2 e => ?_)
  replace h := sj_s24 h e rfl
  refine pc_call (zs_F_everybody h) (fun r3 u4 h => ?_)
  refine pc_call (zs_O_known h) (fun r5 u6 h => ?_)
  refine pc_lw (fun u7 e => ?_)
  replace h := sj_s24 h e rfl
  refine pc_call (zs_O_stay h) (fun r8 u9 h => ?_)
  refine pc_lw (fun u10 e => ?_)
  replace h := sj_s24 h e rfl
  refine pc_lw (fun u11 e => ?_)
  replace h := sj_s24 h e rfl
  refine pc_lw (fun u12 e => ?_)
  replace h := sj_s24 h e rfl
  refine pc_lw (fun u13 e => ?_)
  obtain ⟨h1, ⟨h2, h3⟩, h4⟩ := h
  have z := w32_sp (u12 24 4 + 1)
  have f : ∀ c', c' ≠ 24 → u13 c' = u12 c' := fun c' hc' => by rw [e]; exact st_row hc'
  have f4 : u13 24 4 = u12 24 4 + 1 := by rw [e, st_eq]; omega
  refine pc_some ⟨?_, ⟨by omega, fun k hk => ?_⟩, by omega⟩
  · rw [f 5 (by decide), f 7 (by decide), f 28 (by decide), f 29 (by decide), f 30 (by decide), f 31 (by decide), f 35 (by decide)]
    exact h1
  · rw [f4, f 27 (by decide)]
    have := h3 k hk
    omega
theorem zs_M_spread {L : Int} {b : Wd} {D : Nat} {f m x : Int} {w : Wd} (h : SJ L b w) : PC (f_M_spread D f m x w) (fun _ u => SJ L b u) := pc_w (spf_pc D) (fun _ _ q => sj_fm h q)
theorem zs_O_guests {L : Int} {b : Wd} {v0 : Int} {w : Wd} (h : SJ L b w) : PC (f_O_guests v0 w) (fun _ u => SJ L b u) := by
  unfold f_O_guests
  exact pc_some h
theorem zs_M_gather {L : Int} {b : Wd} {v2 v3 : Int} {w : Wd} (h : SJ L b w) (hL : L + 1 ≤ 2147480000) : PC (f_M_gather v2 v3 w) (fun _ u => SJ (L + 1) b u) := by
  unfold f_M_gather
  refine pc_call (zs_O_guests h) (fun r1 u2 h => ?_)
  refine pc_call (zs_M_prepare h (by omega)) (fun r3 u4 h => ?_)
  refine pc_call (zs_M_spread h) (fun r5 u6 h => ?_)
  exact pc_some (sj_mono h (by omega))
theorem zs_M_gatherBehind_34 {L : Int} {b : Wd} {v3 : Int} {w : Wd} (h : SJ L b w) : PC (f_M_gatherBehind_34 v3 w) (fun _ u => SJ L b u) := by
  unfold f_M_gatherBehind_34
  refine pc_call (zs_M_spread h) (fun r3 u4 h => ?_)
  exact pc_some h
theorem zs_JI_bitCount {L : Int} {b : Wd} {v0 : Int} {w : Wd} (h : SJ L b w) : PC (f_JI_bitCount v0 w) (fun _ u => SJ L b u) := by
  unfold f_JI_bitCount
  refine pc_let (fun x1 _ => ?_)
  refine pc_let (fun x2 _ => ?_)
  refine pc_let (fun x3 _ => ?_)
  refine pc_let (fun x4 _ => ?_)
  refine pc_let (fun x5 _ => ?_)
  exact pc_some h
theorem zs_M_gatherBehind {L : Int} {b : Wd} {v2 v3 : Int} {w : Wd} (h : SJ L b w) (hL : L + 1 ≤ 2147480000) : PC (f_M_gatherBehind v2 v3 w) (fun _ u => SJ (L + 1) b u) := by
  unfold f_M_gatherBehind
  refine pc_call (zs_M_prepare h (by omega)) (fun r1 u2 h => ?_)
  refine pc_ite (fun _ => ?_) (fun _ => ?_)
  · exact pc_w (zs_M_gatherBehind_34 h) (fun _ _ h => sj_mono h (by omega))
  · refine pc_call (zs_JI_bitCount h) (fun r5 u6 h => ?_)
    refine pc_ite (fun _ => ?_) (fun _ => ?_)
    · exact pc_some (sj_mono h (by omega))
    · exact pc_w (zs_M_gatherBehind_34 h) (fun _ _ h => sj_mono h (by omega))
theorem zs_F_strangers {L : Int} {b : Wd} {w : Wd} (h : SJ L b w) : PC (f_F_strangers  w) (fun _ u => SJ L b u) := by
  unfold f_F_strangers
  refine pc_call (zs_F_everybody h) (fun r1 u2 h => ?_)
  refine pc_call (zs_O_known h) (fun r3 u4 h => ?_)
  exact pc_some h
theorem zs_N_clear {L : Int} {b : Wd} {w : Wd} (h : SJ L b w) : PC (f_N_clear  w) (fun _ u => SJ L b u) := by
  unfold f_N_clear
  refine pc_lw (fun u1 e => ?_)
  replace h := sj_st h e (by decide)
  exact pc_some h
theorem zs_N_put {L : Int} {b : Wd} {v1 : Int} {w : Wd} (h : SJ L b w) : PC (f_N_put v1 w) (fun _ u => SJ L b u) := by
  unfold f_N_put
  refine pc_ite (fun _ => ?_) (fun _ => ?_)
  · exact pc_some h
  · refine pc_gd (fun _ => ?_)
    refine pc_lw (fun u1 e => ?_)
    replace h := sj_st h e (by decide)
    refine pc_lw (fun u2 e => ?_)
    replace h := sj_st h e (by decide)
    exact pc_some h
theorem zs_N_tell1 {L : Int} {b : Wd} {v1 : Int} {w : Wd} (h : SJ L b w) : PC (f_N_tell1 v1 w) (fun _ u => SJ L b u) := by
  unfold f_N_tell1
  refine pc_call (zs_N_clear h) (fun r1 u2 h => ?_)
  refine pc_call (zs_N_put h) (fun r3 u4 h => ?_)
  exact pc_some h
theorem zs_F_guests {L : Int} {b : Wd} {w : Wd} (h : SJ L b w) : PC (f_F_guests  w) (fun _ u => SJ L b u) := by
  unfold f_F_guests
  refine pc_call (zs_O_guests h) (fun r1 u2 h => ?_)
  exact pc_some h
theorem zs_M_moversOf {L : Int} {b : Wd} {v1 : Int} {w : Wd} (h : SJ L b w) : PC (f_M_moversOf v1 w) (fun _ u => SJ L b u) := by
  unfold f_M_moversOf
  refine pc_ite (fun _ => ?_) (fun _ => ?_)
  · exact pc_some h
  · refine pc_ite (fun _ => ?_) (fun _ => ?_)
    · exact pc_some h
    · refine pc_gd (fun _ => ?_)
      exact pc_some h
theorem zs_E_can_29 {L : Int} {b : Wd} : ∀ (n : Nat) {v1 v2 : Int} {w : Wd}, SJ L b w → PC (f_E_can_29 n v1 v2 w) (fun _ u => SJ L b u) := by
  intro n
  induction n with
  | zero => intros; exact pc_none
  | succ n ih =>
    intro v1 v2 w h
    rw [f_E_can_29]
    refine pc_ite (fun _ => ?_) (fun _ => ?_)
    · refine pc_call (zs_F_strangers h) (fun r3 u4 h => ?_)
      refine pc_call (zs_N_tell1 h) (fun r5 u6 h => ?_)
      refine pc_call (zs_F_guests h) (fun r7 u8 h => ?_)
      exact pc_some h
    · refine pc_call (zs_M_moversOf h) (fun r9 u10 h => ?_)
      refine pc_let (fun x11 _ => ?_)
      refine pc_let (fun x12 _ => ?_)
      exact ih h
theorem zs_E_can {L : Int} {b : Wd} {w : Wd} (h : SJ L b w) (hL : L + 1 ≤ 2147480000) : PC (f_E_can  w) (fun _ u => SJ (L + 1) b u) := by
  unfold f_E_can
  refine pc_call (zs_M_gather h (by omega)) (fun r1 u2 h => ?_)
  exact pc_w (zs_E_can_29 _ h) (fun _ _ h => sj_mono h (by omega))
theorem zs_E_largestWeek_62 {L : Int} {b : Wd} {k24 : Int → Int → Wd → Option (Int × Wd)} {v1 v2 : Int} {w : Wd} (h : SJ L b w) (hk : ∀ {a0 a1 : Int} {w : Wd}, SJ L b w → PC (k24 a0 a1 w) (fun _ u => SJ L b u)) : PC (f_E_largestWeek_62 k24 v1 v2 w) (fun _ u => SJ L b u) := by
  unfold f_E_largestWeek_62
  refine pc_let (fun x11 _ => ?_)
  exact hk h
theorem zs_E_largestWeek_24 {L : Int} {b : Wd} : ∀ (n : Nat) {v1 v2 : Int} {w : Wd}, SJ L b w → PC (f_E_largestWeek_24 n v1 v2 w) (fun _ u => SJ L b u) := by
  intro n
  induction n with
  | zero => intros; exact pc_none
  | succ n ih =>
    intro v1 v2 w h
    rw [f_E_largestWeek_24]
    refine pc_ite (fun _ => ?_) (fun _ => ?_)
    · exact pc_some h
    · refine pc_call (zs_M_moversOf h) (fun r3 u4 h => ?_)
      refine pc_call (zs_JI_bitCount h) (fun r5 u6 h => ?_)
      refine pc_call (zs_M_moversOf h) (fun r7 u8 h => ?_)
      refine pc_call (zs_JI_bitCount h) (fun r9 u10 h => ?_)
      refine pc_ite (fun _ => ?_) (fun _ => ?_)
      · exact (zs_E_largestWeek_62 h (fun h => ih h))
      · exact (zs_E_largestWeek_62 h (fun h => ih h))
theorem zs_E_largestWeek {L : Int} {b : Wd} {w : Wd} (h : SJ L b w) (hL : L + 1 ≤ 2147480000) : PC (f_E_largestWeek  w) (fun _ u => SJ (L + 1) b u) := by
  unfold f_E_largestWeek
  refine pc_call (zs_M_gather h (by omega)) (fun r1 u2 h => ?_)
  exact pc_w (zs_E_largestWeek_24 _ h) (fun _ _ h => sj_mono h (by omega))
theorem zs_E_lowest {L : Int} {b : Wd} {v0 : Int} {w : Wd} (h : SJ L b w) : PC (f_E_lowest v0 w) (fun _ u => SJ L b u) := by
  unfold f_E_lowest
  refine pc_ite (fun _ => ?_) (fun _ => ?_)
  · exact pc_some h
  · refine pc_call (zs_JI_bitCount h) (fun r1 u2 h => ?_)
    exact pc_some h
theorem zs_N_putFirst_12 {L : Int} {b : Wd} : ∀ (n : Nat) {v1 v2 : Int} {w : Wd}, SJ L b w → PC (f_N_putFirst_12 n v1 v2 w) (fun _ u => SJ L b u) := by
  intro n
  induction n with
  | zero => intros; exact pc_none
  | succ n ih =>
    intro v1 v2 w h
    rw [f_N_putFirst_12]
    refine pc_ite (fun _ => ?_) (fun _ => ?_)
    · exact pc_some h
    · refine pc_gd (fun _ => ?_)
      refine pc_gd (fun _ => ?_)
      refine pc_lw (fun u4 e => ?_)
      replace h := sj_st h e (by decide)
      refine pc_gd (fun _ => ?_)
      refine pc_lw (fun u5 e => ?_)
      replace h := sj_st h e (by decide)
      refine pc_let (fun x6 _ => ?_)
      exact ih h
theorem zs_N_putFirst {L : Int} {b : Wd} {v1 : Int} {w : Wd} (h : SJ L b w) : PC (f_N_putFirst v1 w) (fun _ u => SJ L b u) := by
  unfold f_N_putFirst
  refine pc_call (zs_N_put h) (fun r1 u2 h => ?_)
  refine pc_let (fun x3 _ => ?_)
  exact (zs_N_putFirst_12 _ h)
theorem zs_M_tellPairs_9 {L : Int} {b : Wd} : ∀ (n : Nat) {v3 v4 : Int} {w : Wd}, SJ L b w → PC (f_M_tellPairs_9 n v3 v4 w) (fun _ u => SJ L b u) := by
  intro n
  induction n with
  | zero => intros; exact pc_none
  | succ n ih =>
    intro v3 v4 w h
    rw [f_M_tellPairs_9]
    refine pc_ite (fun _ => ?_) (fun _ => ?_)
    · exact pc_some h
    · refine pc_ite (fun _ => ?_) (fun _ => ?_)
      · exact pc_some h
      · refine pc_ite (fun _ => ?_) (fun _ => ?_)
        · exact pc_some h
        · refine pc_gd (fun _ => ?_)
          refine pc_gd (fun _ => ?_)
          refine pc_call (zs_M_moversOf h) (fun r3 u4 h => ?_)
          refine pc_let (fun x5 _ => ?_)
          refine pc_call (zs_E_lowest h) (fun r6 u7 h => ?_)
          refine pc_call (zs_E_lowest h) (fun r8 u9 h => ?_)
          refine pc_call (zs_N_putFirst h) (fun r10 u11 h => ?_)
          refine pc_gd (fun _ => ?_)
          refine pc_let (fun x12 _ => ?_)
          refine pc_let (fun x13 _ => ?_)
          exact ih h
theorem zs_M_tellPairs {L : Int} {b : Wd} {v1 : Int} {w : Wd} (h : SJ L b w) : PC (f_M_tellPairs v1 w) (fun _ u => SJ L b u) := by
  unfold f_M_tellPairs
  refine pc_call (zs_N_clear h) (fun r1 u2 h => ?_)
  exact (zs_M_tellPairs_9 _ h)
theorem zs_E_pairs {L : Int} {b : Wd} {w : Wd} (h : SJ L b w) (hL : L + 1 ≤ 2147480000) : PC (f_E_pairs  w) (fun _ u => SJ (L + 1) b u) := by
  unfold f_E_pairs
  refine pc_call (zs_E_largestWeek h (by omega)) (fun r1 u2 h => ?_)
  refine pc_call (zs_M_tellPairs h) (fun r3 u4 h => ?_)
  exact pc_some (sj_mono h (by omega))
theorem zs_E_has {L : Int} {b : Wd} {v0 v1 : Int} {w : Wd} (h : SJ L b w) : PC (f_E_has v0 v1 w) (fun _ u => SJ L b u) := by
  unfold f_E_has
  refine pc_ite (fun _ => ?_) (fun _ => ?_)
  · exact pc_some h
  · refine pc_ite (fun _ => ?_) (fun _ => ?_)
    · exact pc_some h
    · refine pc_ite (fun _ => ?_) (fun _ => ?_)
      · exact pc_some h
      · exact pc_some h
theorem zs_F_knownBy_31 {L : Int} {b : Wd} {k4 : Int → Int → Int → Wd → Option (Int × Wd)} {v1 v3 s0 s1 : Int} {w : Wd} (h : SJ L b w) (hk : ∀ {a0 a1 a2 : Int} {w : Wd}, SJ L b w → PC (k4 a0 a1 a2 w) (fun _ u => SJ L b u)) : PC (f_F_knownBy_31 k4 v1 v3 s0 s1 w) (fun _ u => SJ L b u) := by
  unfold f_F_knownBy_31
  refine pc_let (fun x3 _ => ?_)
  refine pc_let (fun x4 _ => ?_)
  exact hk h
theorem zs_F_knownBy_4 {L : Int} {b : Wd} : ∀ (n : Nat) {v1 v2 v3 : Int} {w : Wd}, SJ L b w → PC (f_F_knownBy_4 n v1 v2 v3 w) (fun _ u => SJ L b u) := by
  intro n
  induction n with
  | zero => intros; exact pc_none
  | succ n ih =>
    intro v1 v2 v3 w h
    rw [f_F_knownBy_4]
    refine pc_ite (fun _ => ?_) (fun _ => ?_)
    · exact pc_some h
    · refine pc_call (zs_E_has h) (fun r1 u2 h => ?_)
      refine pc_ite (fun _ => ?_) (fun _ => ?_)
      · exact (zs_F_knownBy_31 h (fun h => ih h))
      · refine pc_gd (fun _ => ?_)
        exact (zs_F_knownBy_31 h (fun h => ih h))
theorem zs_F_knownBy {L : Int} {b : Wd} {v1 : Int} {w : Wd} (h : SJ L b w) : PC (f_F_knownBy v1 w) (fun _ u => SJ L b u) := by
  unfold f_F_knownBy
  exact (zs_F_knownBy_4 _ h)
theorem zs_F_free {L : Int} {b : Wd} {w : Wd} (h : SJ L b w) : PC (f_F_free  w) (fun _ u => SJ L b u) := by
  unfold f_F_free
  refine pc_call (zs_F_strangers h) (fun r1 u2 h => ?_)
  exact pc_some h
theorem zs_N_tell2 {L : Int} {b : Wd} {v1 v2 : Int} {w : Wd} (h : SJ L b w) : PC (f_N_tell2 v1 v2 w) (fun _ u => SJ L b u) := by
  unfold f_N_tell2
  refine pc_call (zs_N_tell1 h) (fun r1 u2 h => ?_)
  refine pc_call (zs_N_put h) (fun r3 u4 h => ?_)
  exact pc_some h
theorem zs_E_bars_89 {L : Int} {b : Wd} {k32 : Int → Int → Int → Wd → Option (Int × Wd)} {v1 v2 v3 : Int} {w : Wd} (h : SJ L b w) (hk : ∀ {a0 a1 a2 : Int} {w : Wd}, SJ L b w → PC (k32 a0 a1 a2 w) (fun _ u => SJ L b u)) : PC (f_E_bars_89 k32 v1 v2 v3 w) (fun _ u => SJ L b u) := by
  unfold f_E_bars_89
  refine pc_let (fun x17 _ => ?_)
  exact hk h
theorem zs_E_bars_32 {L : Int} {b : Wd} : ∀ (n : Nat) {v1 v2 v3 : Int} {w : Wd}, SJ L b w → PC (f_E_bars_32 n v1 v2 v3 w) (fun _ u => SJ L b u) := by
  intro n
  induction n with
  | zero => intros; exact pc_none
  | succ n ih =>
    intro v1 v2 v3 w h
    rw [f_E_bars_32]
    refine pc_ite (fun _ => ?_) (fun _ => ?_)
    · exact pc_some h
    · refine pc_call (zs_F_knownBy h) (fun r12 u13 h => ?_)
      refine pc_call (zs_F_free h) (fun r14 u15 h => ?_)
      refine pc_let (fun x16 _ => ?_)
      refine pc_ite (fun _ => ?_) (fun _ => ?_)
      · refine pc_call (zs_JI_bitCount h) (fun r18 u19 h => ?_)
        refine pc_call (zs_JI_bitCount h) (fun r20 u21 h => ?_)
        refine pc_ite (fun _ => ?_) (fun _ => ?_)
        · refine pc_call (zs_N_tell2 h) (fun r22 u23 h => ?_)
          exact pc_some h
        · exact (zs_E_bars_89 h (fun h => ih h))
      · exact (zs_E_bars_89 h (fun h => ih h))
theorem zs_E_bars {L : Int} {b : Wd} {w : Wd} (h : SJ L b w) (hL : L + 1 ≤ 2147480000) : PC (f_E_bars  w) (fun _ u => SJ (L + 1) b u) := by
  unfold f_E_bars
  refine pc_call (zs_F_guests h) (fun r1 u2 h => ?_)
  refine pc_call (zs_JI_bitCount h) (fun r3 u4 h => ?_)
  refine pc_call (zs_E_largestWeek h (by omega)) (fun r5 u6 h => ?_)
  refine pc_call (zs_M_moversOf h) (fun r7 u8 h => ?_)
  refine pc_call (zs_JI_bitCount h) (fun r9 u10 h => ?_)
  refine pc_ite (fun _ => pc_none) (fun _ => ?_)
  refine pc_let (fun x11 _ => ?_)
  exact pc_w (zs_E_bars_32 _ h) (fun _ _ h => sj_mono h (by omega))
theorem zs_S_guests {L : Int} {b : Wd} {v1 : Int} {w : Wd} (h : SJ L b w) : PC (f_S_guests v1 w) (fun _ u => SJ L b u) := by
  unfold f_S_guests
  refine pc_ite (fun _ => ?_) (fun _ => ?_)
  · exact pc_some h
  · refine pc_ite (fun _ => ?_) (fun _ => ?_)
    · exact pc_some h
    · refine pc_gd (fun _ => ?_)
      refine pc_call (zs_O_guests h) (fun r1 u2 h => ?_)
      exact pc_some h
theorem zs_O_out {L : Int} {b : Wd} {v0 : Int} {w : Wd} (h : SJ L b w) : PC (f_O_out v0 w) (fun _ u => SJ L b u) := by
  unfold f_O_out
  exact pc_some h
theorem zs_O_after {L : Int} {b : Wd} {v0 v1 v2 : Int} {w : Wd} (h : SJ L b w) : PC (f_O_after v0 v1 v2 w) (fun _ u => SJ L b u) := by
  unfold f_O_after
  refine pc_call (zs_O_lateOne h) (fun r1 u2 h => ?_)
  refine pc_let (fun x3 _ => ?_)
  refine pc_call (zs_O_lateTwo h) (fun r4 u5 h => ?_)
  refine pc_let (fun x6 _ => ?_)
  refine pc_call (zs_O_out h) (fun r7 u8 h => ?_)
  refine pc_call (zs_O_guests h) (fun r9 u10 h => ?_)
  refine pc_let (fun x11 _ => ?_)
  exact pc_some h
theorem zs_S_slotOf_14 {L : Int} {b : Wd} : ∀ (n : Nat) {v1 v2 v3 : Int} {w : Wd}, SJ L b w → PC (f_S_slotOf_14 n v1 v2 v3 w) (fun _ u => SJ L b u) := by
  intro n
  induction n with
  | zero => intros; exact pc_none
  | succ n ih =>
    intro v1 v2 v3 w h
    rw [f_S_slotOf_14]
    refine pc_ite (fun _ => ?_) (fun _ => ?_)
    · exact pc_some h
    · refine pc_gd (fun _ => ?_)
      refine pc_ite (fun _ => ?_) (fun _ => ?_)
      · exact pc_some h
      · refine pc_gd (fun _ => ?_)
        refine pc_gd (fun _ => ?_)
        refine pc_ite (fun _ => ?_) (fun _ => ?_)
        · exact pc_some h
        · refine pc_ite (fun _ => pc_none) (fun _ => ?_)
          refine pc_let (fun x2 _ => ?_)
          refine pc_let (fun x3 _ => ?_)
          exact ih h
theorem zs_S_slotOf {L : Int} {b : Wd} {v1 : Int} {w : Wd} (h : SJ L b w) : PC (f_S_slotOf v1 w) (fun _ u => SJ L b u) := by
  unfold f_S_slotOf
  refine pc_ite (fun _ => pc_none) (fun _ => ?_)
  refine pc_let (fun x1 _ => ?_)
  exact (zs_S_slotOf_14 _ h)
theorem zs_S_leftOf {L : Int} {b : Wd} {v1 : Int} {w : Wd} (h : SJ L b w) : PC (f_S_leftOf v1 w) (fun _ u => SJ L b u) := by
  unfold f_S_leftOf
  refine pc_call (zs_S_slotOf h) (fun r1 u2 h => ?_)
  refine pc_gd (fun _ => ?_)
  refine pc_let (fun x3 _ => ?_)
  refine pc_ite (fun _ => ?_) (fun _ => ?_)
  · exact pc_some h
  · refine pc_ite (fun _ => ?_) (fun _ => ?_)
    · exact pc_some h
    · refine pc_gd (fun _ => ?_)
      exact pc_some h
theorem zs_S_leftBehind_29 {L : Int} {b : Wd} : ∀ (n : Nat) {v1 v4 v6 : Int} {w : Wd}, SJ L b w → PC (f_S_leftBehind_29 n v1 v4 v6 w) (fun _ u => SJ L b u) := by
  intro n
  induction n with
  | zero => intros; exact pc_none
  | succ n ih =>
    intro v1 v4 v6 w h
    rw [f_S_leftBehind_29]
    refine pc_ite (fun _ => ?_) (fun _ => ?_)
    · exact pc_some h
    · refine pc_gd (fun _ => ?_)
      refine pc_call (zs_M_moversOf h) (fun r5 u6 h => ?_)
      refine pc_call (zs_O_after h) (fun r7 u8 h => ?_)
      refine pc_call (zs_S_leftOf h) (fun r9 u10 h => ?_)
      refine pc_let (fun x11 _ => ?_)
      refine pc_let (fun x12 _ => ?_)
      exact ih h
theorem zs_S_leftBehind {L : Int} {b : Wd} {v1 : Int} {w : Wd} (h : SJ L b w) (hL : L + 1 ≤ 2147480000) : PC (f_S_leftBehind v1 w) (fun _ u => SJ (L + 1) b u) := by
  unfold f_S_leftBehind
  refine pc_call (zs_S_guests h) (fun r1 u2 h => ?_)
  refine pc_ite (fun _ => ?_) (fun _ => ?_)
  · exact pc_some (sj_mono h (by omega))
  · refine pc_gd (fun _ => ?_)
    refine pc_call (zs_M_gather h (by omega)) (fun r3 u4 h => ?_)
    exact pc_w (zs_S_leftBehind_29 _ h) (fun _ _ h => sj_mono h (by omega))
theorem zs_F_pricesOf_31 {L : Int} {b : Wd} {k4 : Int → Int → Int → Wd → Option (Int × Wd)} {v1 v3 s0 s1 : Int} {w : Wd} (h : SJ L b w) (hk : ∀ {a0 a1 a2 : Int} {w : Wd}, SJ L b w → PC (k4 a0 a1 a2 w) (fun _ u => SJ L b u)) : PC (f_F_pricesOf_31 k4 v1 v3 s0 s1 w) (fun _ u => SJ L b u) := by
  unfold f_F_pricesOf_31
  refine pc_let (fun x3 _ => ?_)
  refine pc_let (fun x4 _ => ?_)
  exact hk h
theorem zs_F_pricesOf_4 {L : Int} {b : Wd} : ∀ (n : Nat) {v1 v2 v3 : Int} {w : Wd}, SJ L b w → PC (f_F_pricesOf_4 n v1 v2 v3 w) (fun _ u => SJ L b u) := by
  intro n
  induction n with
  | zero => intros; exact pc_none
  | succ n ih =>
    intro v1 v2 v3 w h
    rw [f_F_pricesOf_4]
    refine pc_ite (fun _ => ?_) (fun _ => ?_)
    · exact pc_some h
    · refine pc_call (zs_E_has h) (fun r1 u2 h => ?_)
      refine pc_ite (fun _ => ?_) (fun _ => ?_)
      · exact (zs_F_pricesOf_31 h (fun h => ih h))
      · refine pc_gd (fun _ => ?_)
        exact (zs_F_pricesOf_31 h (fun h => ih h))
theorem zs_F_pricesOf {L : Int} {b : Wd} {v1 : Int} {w : Wd} (h : SJ L b w) : PC (f_F_pricesOf v1 w) (fun _ u => SJ L b u) := by
  unfold f_F_pricesOf
  exact (zs_F_pricesOf_4 _ h)
theorem zs_S_paidFor {L : Int} {b : Wd} {v1 : Int} {w : Wd} (h : SJ L b w) : PC (f_S_paidFor v1 w) (fun _ u => SJ L b u) := by
  unfold f_S_paidFor
  refine pc_ite (fun _ => ?_) (fun _ => ?_)
  · exact pc_some h
  · refine pc_ite (fun _ => ?_) (fun _ => ?_)
    · exact pc_some h
    · refine pc_call (zs_F_strangers h) (fun r1 u2 h => ?_)
      refine pc_gd (fun _ => ?_)
      refine pc_call (zs_O_known h) (fun r3 u4 h => ?_)
      refine pc_call (zs_F_pricesOf h) (fun r5 u6 h => ?_)
      exact pc_some h
theorem zs_S_leads {L : Int} {b : Wd} {v1 v2 : Int} {w : Wd} (h : SJ L b w) : PC (f_S_leads v1 v2 w) (fun _ u => SJ L b u) := by
  unfold f_S_leads
  refine pc_call (zs_S_leftOf h) (fun r1 u2 h => ?_)
  refine pc_ite (fun _ => ?_) (fun _ => ?_)
  · exact pc_some h
  · exact pc_some h
theorem zs_E_firstThatLeads_2 {L : Int} {b : Wd} : ∀ (n : Nat) {v1 v2 : Int} {w : Wd}, SJ L b w → PC (f_E_firstThatLeads_2 n v1 v2 w) (fun _ u => SJ L b u) := by
  intro n
  induction n with
  | zero => intros; exact pc_none
  | succ n ih =>
    intro v1 v2 w h
    rw [f_E_firstThatLeads_2]
    refine pc_ite (fun _ => ?_) (fun _ => ?_)
    · exact pc_some h
    · refine pc_call (zs_M_moversOf h) (fun r1 u2 h => ?_)
      refine pc_call (zs_O_after h) (fun r3 u4 h => ?_)
      refine pc_call (zs_S_leads h) (fun r5 u6 h => ?_)
      refine pc_ite (fun _ => ?_) (fun _ => ?_)
      · refine pc_let (fun x7 _ => ?_)
        exact ih h
      · exact pc_some h
theorem zs_E_firstThatLeads {L : Int} {b : Wd} {v1 : Int} {w : Wd} (h : SJ L b w) : PC (f_E_firstThatLeads v1 w) (fun _ u => SJ L b u) := by
  unfold f_E_firstThatLeads
  exact (zs_E_firstThatLeads_2 _ h)
theorem zs_E_tellFirstWeek {L : Int} {b : Wd} {v1 : Int} {w : Wd} (h : SJ L b w) (hL : L + 1 ≤ 2147480000) : PC (f_E_tellFirstWeek v1 w) (fun _ u => SJ (L + 1) b u) := by
  unfold f_E_tellFirstWeek
  refine pc_call (zs_M_gather h (by omega)) (fun r1 u2 h => ?_)
  refine pc_call (zs_E_firstThatLeads h) (fun r3 u4 h => ?_)
  refine pc_ite (fun _ => ?_) (fun _ => ?_)
  · exact pc_some (sj_mono h (by omega))
  · refine pc_call (zs_M_tellPairs h) (fun r5 u6 h => ?_)
    exact pc_some (sj_mono h (by omega))
theorem zs_S_mostGuests_4 {L : Int} {b : Wd} : ∀ (n : Nat) {v1 v2 : Int} {w : Wd}, SJ L b w → PC (f_S_mostGuests_4 n v1 v2 w) (fun _ u => SJ L b u) := by
  intro n
  induction n with
  | zero => intros; exact pc_none
  | succ n ih =>
    intro v1 v2 w h
    rw [f_S_mostGuests_4]
    refine pc_ite (fun _ => ?_) (fun _ => ?_)
    · exact pc_some h
    · refine pc_call (zs_S_guests h) (fun r1 u2 h => ?_)
      refine pc_call (zs_JI_bitCount h) (fun r3 u4 h => ?_)
      refine pc_let (fun x5 _ => ?_)
      refine pc_let (fun x6 _ => ?_)
      exact ih h
theorem zs_S_mostGuests {L : Int} {b : Wd} {w : Wd} (h : SJ L b w) : PC (f_S_mostGuests  w) (fun _ u => SJ L b u) := by
  unfold f_S_mostGuests
  exact (zs_S_mostGuests_4 _ h)
theorem zs_E_states_53 {L : Int} {b : Wd} {k25 : Int → Int → Wd → Option (Int × Wd)} {v2 s0 s1 : Int} {w : Wd} (h : SJ L b w) (hk : ∀ {a0 a1 : Int} {w : Wd}, SJ L b w → PC (k25 a0 a1 w) (fun _ u => SJ L b u)) : PC (f_E_states_53 k25 v2 s0 s1 w) (fun _ u => SJ L b u) := by
  unfold f_E_states_53
  refine pc_let (fun x9 _ => ?_)
  refine pc_let (fun x10 _ => ?_)
  exact hk h
theorem zs_E_states_25 {L : Int} {b : Wd} : ∀ (n : Nat) {v1 v2 : Int} {w : Wd}, SJ L b w → PC (f_E_states_25 n v1 v2 w) (fun _ u => SJ L b u) := by
  intro n
  induction n with
  | zero => intros; exact pc_none
  | succ n ih =>
    intro v1 v2 w h
    rw [f_E_states_25]
    refine pc_ite (fun _ => ?_) (fun _ => ?_)
    · refine pc_call (zs_S_mostGuests h) (fun r3 u4 h => ?_)
      refine pc_call (zs_N_tell2 h) (fun r5 u6 h => ?_)
      exact pc_some h
    · refine pc_call (zs_S_guests h) (fun r7 u8 h => ?_)
      refine pc_ite (fun _ => ?_) (fun _ => ?_)
      · exact (zs_E_states_53 h (fun h => ih h))
      · exact (zs_E_states_53 h (fun h => ih h))
theorem zs_E_isWeek {L : Int} {b : Wd} {v0 : Int} {w : Wd} (h : SJ L b w) : PC (f_E_isWeek v0 w) (fun _ u => SJ L b u) := by
  unfold f_E_isWeek
  refine pc_ite (fun _ => ?_) (fun _ => ?_)
  · exact pc_some h
  · refine pc_ite (fun _ => ?_) (fun _ => ?_)
    · exact pc_some h
    · exact pc_some h
theorem zs_S_weeksOf {L : Int} {b : Wd} {v1 : Int} {w : Wd} (h : SJ L b w) : PC (f_S_weeksOf v1 w) (fun _ u => SJ L b u) := by
  unfold f_S_weeksOf
  refine pc_ite (fun _ => ?_) (fun _ => ?_)
  · exact pc_some h
  · refine pc_ite (fun _ => ?_) (fun _ => ?_)
    · exact pc_some h
    · refine pc_gd (fun _ => ?_)
      exact pc_some h
theorem zs_S_canBe {L : Int} {b : Wd} {v1 v2 : Int} {w : Wd} (h : SJ L b w) : PC (f_S_canBe v1 v2 w) (fun _ u => SJ L b u) := by
  unfold f_S_canBe
  refine pc_call (zs_S_weeksOf h) (fun r1 u2 h => ?_)
  refine pc_ite (fun _ => ?_) (fun _ => ?_)
  · exact pc_some h
  · exact pc_some h
theorem zs_E_most_82 {L : Int} {b : Wd} {k37 : Int → Int → Int → Int → Wd → Option (Int × Wd)} {v1 v2 v3 v4 : Int} {w : Wd} (h : SJ L b w) (hk : ∀ {a0 a1 a2 a3 : Int} {w : Wd}, SJ L b w → PC (k37 a0 a1 a2 a3 w) (fun _ u => SJ L b u)) : PC (f_E_most_82 k37 v1 v2 v3 v4 w) (fun _ u => SJ L b u) := by
  unfold f_E_most_82
  refine pc_let (fun x9 _ => ?_)
  exact hk h
theorem zs_E_most_37 {L : Int} {b : Wd} : ∀ (n : Nat) {v1 v2 v3 v4 : Int} {w : Wd}, SJ L b w → PC (f_E_most_37 n v1 v2 v3 v4 w) (fun _ u => SJ L b u) := by
  intro n
  induction n with
  | zero => intros; exact pc_none
  | succ n ih =>
    intro v1 v2 v3 v4 w h
    rw [f_E_most_37]
    refine pc_ite (fun _ => ?_) (fun _ => ?_)
    · refine pc_call (zs_N_tell1 h) (fun r5 u6 h => ?_)
      exact pc_some h
    · refine pc_call (zs_S_canBe h) (fun r7 u8 h => ?_)
      refine pc_ite (fun _ => ?_) (fun _ => ?_)
      · exact (zs_E_most_82 h (fun h => ih h))
      · refine pc_call (zs_S_guests h) (fun r10 u11 h => ?_)
        refine pc_call (zs_JI_bitCount h) (fun r12 u13 h => ?_)
        refine pc_let (fun x14 _ => ?_)
        refine pc_let (fun x15 _ => ?_)
        exact (zs_E_most_82 h (fun h => ih h))
theorem zs_E_reach_100 {L : Int} {b : Wd} {k39 : Int → Int → Int → Int → Wd → Option (Int × Wd)} {v1 v2 v3 v4 : Int} {w : Wd} (h : SJ L b w) (hk : ∀ {a0 a1 a2 a3 : Int} {w : Wd}, SJ L b w → PC (k39 a0 a1 a2 a3 w) (fun _ u => SJ L b u)) : PC (f_E_reach_100 k39 v1 v2 v3 v4 w) (fun _ u => SJ L b u) := by
  unfold f_E_reach_100
  refine pc_let (fun x9 _ => ?_)
  exact hk h
theorem zs_E_reach_39 {L : Int} {b : Wd} : ∀ (n : Nat) {v1 v2 v3 v4 : Int} {w : Wd}, SJ L b w → PC (f_E_reach_39 n v1 v2 v3 v4 w) (fun _ u => SJ L b u) := by
  intro n
  induction n with
  | zero => intros; exact pc_none
  | succ n ih =>
    intro v1 v2 v3 v4 w h
    rw [f_E_reach_39]
    refine pc_ite (fun _ => ?_) (fun _ => ?_)
    · refine pc_call (zs_N_tell1 h) (fun r5 u6 h => ?_)
      exact pc_some h
    · refine pc_call (zs_S_canBe h) (fun r7 u8 h => ?_)
      refine pc_ite (fun _ => ?_) (fun _ => ?_)
      · exact (zs_E_reach_100 h (fun h => ih h))
      · refine pc_call (zs_S_guests h) (fun r10 u11 h => ?_)
        refine pc_ite (fun _ => ?_) (fun _ => ?_)
        · exact (zs_E_reach_100 h (fun h => ih h))
        · refine pc_call (zs_S_guests h) (fun r12 u13 h => ?_)
          refine pc_let (fun x14 _ => ?_)
          refine pc_call (zs_S_guests h) (fun r15 u16 h => ?_)
          refine pc_let (fun x17 _ => ?_)
          exact (zs_E_reach_100 h (fun h => ih h))
theorem zs_S_fewestGuests_42 {L : Int} {b : Wd} {k4 : Int → Int → Int → Wd → Option (Int × Wd)} {v1 v2 v3 : Int} {w : Wd} (h : SJ L b w) (hk : ∀ {a0 a1 a2 : Int} {w : Wd}, SJ L b w → PC (k4 a0 a1 a2 w) (fun _ u => SJ L b u)) : PC (f_S_fewestGuests_42 k4 v1 v2 v3 w) (fun _ u => SJ L b u) := by
  unfold f_S_fewestGuests_42
  refine pc_let (fun x3 _ => ?_)
  exact hk h
theorem zs_E_less_10 {L : Int} {b : Wd} {v1 : Int} {w : Wd} (h : SJ L b w) : PC (f_E_less_10 v1 w) (fun _ u => SJ L b u) := by
  unfold f_E_less_10
  exact pc_some h
theorem zs_E_less {L : Int} {b : Wd} {v0 v1 : Int} {w : Wd} (h : SJ L b w) : PC (f_E_less v0 v1 w) (fun _ u => SJ L b u) := by
  unfold f_E_less
  refine pc_ite (fun _ => ?_) (fun _ => ?_)
  · exact (zs_E_less_10 h)
  · refine pc_ite (fun _ => ?_) (fun _ => ?_)
    · exact pc_some h
    · exact (zs_E_less_10 h)
theorem zs_S_fewestGuests_4 {L : Int} {b : Wd} : ∀ (n : Nat) {v1 v2 v3 : Int} {w : Wd}, SJ L b w → PC (f_S_fewestGuests_4 n v1 v2 v3 w) (fun _ u => SJ L b u) := by
  intro n
  induction n with
  | zero => intros; exact pc_none
  | succ n ih =>
    intro v1 v2 v3 w h
    rw [f_S_fewestGuests_4]
    refine pc_ite (fun _ => ?_) (fun _ => ?_)
    · exact pc_some h
    · refine pc_call (zs_S_canBe h) (fun r1 u2 h => ?_)
      refine pc_ite (fun _ => ?_) (fun _ => ?_)
      · exact (zs_S_fewestGuests_42 h (fun h => ih h))
      · refine pc_call (zs_S_guests h) (fun r4 u5 h => ?_)
        refine pc_ite (fun _ => ?_) (fun _ => ?_)
        · exact (zs_S_fewestGuests_42 h (fun h => ih h))
        · refine pc_call (zs_S_guests h) (fun r6 u7 h => ?_)
          refine pc_call (zs_JI_bitCount h) (fun r8 u9 h => ?_)
          refine pc_call (zs_E_less h) (fun r10 u11 h => ?_)
          exact (zs_S_fewestGuests_42 h (fun h => ih h))
theorem zs_S_fewestGuests {L : Int} {b : Wd} {v1 : Int} {w : Wd} (h : SJ L b w) : PC (f_S_fewestGuests v1 w) (fun _ u => SJ L b u) := by
  unfold f_S_fewestGuests
  exact (zs_S_fewestGuests_4 _ h)
theorem zs_E_firstWeek_2 {L : Int} {b : Wd} : ∀ (n : Nat) {v0 v2 : Int} {w : Wd}, SJ L b w → PC (f_E_firstWeek_2 n v0 v2 w) (fun _ u => SJ L b u) := by
  intro n
  induction n with
  | zero => intros; exact pc_none
  | succ n ih =>
    intro v0 v2 w h
    rw [f_E_firstWeek_2]
    refine pc_ite (fun _ => ?_) (fun _ => ?_)
    · exact pc_some h
    · refine pc_ite (fun _ => ?_) (fun _ => ?_)
      · refine pc_let (fun x1 _ => ?_)
        exact ih h
      · exact pc_some h
theorem zs_E_firstWeek {L : Int} {b : Wd} {v0 : Int} {w : Wd} (h : SJ L b w) : PC (f_E_firstWeek v0 w) (fun _ u => SJ L b u) := by
  unfold f_E_firstWeek
  exact (zs_E_firstWeek_2 _ h)
theorem zs_E_crowd_154 {L : Int} {b : Wd} {k92 : Int → Int → Int → Int → Wd → Option (Int × Wd)} {v1 v4 v5 v6 : Int} {w : Wd} (h : SJ L b w) (hk : ∀ {a0 a1 a2 a3 : Int} {w : Wd}, SJ L b w → PC (k92 a0 a1 a2 a3 w) (fun _ u => SJ L b u)) : PC (f_E_crowd_154 k92 v1 v4 v5 v6 w) (fun _ u => SJ L b u) := by
  unfold f_E_crowd_154
  refine pc_let (fun x13 _ => ?_)
  exact hk h
theorem zs_E_crowd_92 {L : Int} {b : Wd} : ∀ (n : Nat) {v1 v4 v5 v6 : Int} {w : Wd}, SJ L b w → PC (f_E_crowd_92 n v1 v4 v5 v6 w) (fun _ u => SJ L b u) := by
  intro n
  induction n with
  | zero => intros; exact pc_none
  | succ n ih =>
    intro v1 v4 v5 v6 w h
    rw [f_E_crowd_92]
    refine pc_ite (fun _ => ?_) (fun _ => ?_)
    · refine pc_call (zs_N_tell2 h) (fun r7 u8 h => ?_)
      exact pc_some h
    · refine pc_call (zs_S_guests h) (fun r9 u10 h => ?_)
      refine pc_call (zs_JI_bitCount h) (fun r11 u12 h => ?_)
      refine pc_ite (fun _ => ?_) (fun _ => ?_)
      · refine pc_call (zs_S_canBe h) (fun r14 u15 h => ?_)
        refine pc_ite (fun _ => ?_) (fun _ => ?_)
        · exact (zs_E_crowd_154 h (fun h => ih h))
        · refine pc_call (zs_S_paidFor h) (fun r16 u17 h => ?_)
          refine pc_call (zs_E_less h) (fun r18 u19 h => ?_)
          exact (zs_E_crowd_154 h (fun h => ih h))
      · exact (zs_E_crowd_154 h (fun h => ih h))
theorem zs_E_crowd_74 {L : Int} {b : Wd} {k34 : Int → Int → Int → Wd → Option (Int × Wd)} {v1 v2 v4 : Int} {w : Wd} (h : SJ L b w) (hk : ∀ {a0 a1 a2 : Int} {w : Wd}, SJ L b w → PC (k34 a0 a1 a2 w) (fun _ u => SJ L b u)) : PC (f_E_crowd_74 k34 v1 v2 v4 w) (fun _ u => SJ L b u) := by
  unfold f_E_crowd_74
  refine pc_let (fun x24 _ => ?_)
  exact hk h
theorem zs_E_crowd_34 {L : Int} {b : Wd} : ∀ (n : Nat) {v1 v2 v4 : Int} {w : Wd}, SJ L b w → PC (f_E_crowd_34 n v1 v2 v4 w) (fun _ u => SJ L b u) := by
  intro n
  induction n with
  | zero => intros; exact pc_none
  | succ n ih =>
    intro v1 v2 v4 w h
    rw [f_E_crowd_34]
    refine pc_ite (fun _ => ?_) (fun _ => ?_)
    · refine pc_call (zs_E_firstWeek h) (fun r5 u6 h => ?_)
      exact (zs_E_crowd_92 _ h)
    · refine pc_call (zs_S_guests h) (fun r20 u21 h => ?_)
      refine pc_call (zs_JI_bitCount h) (fun r22 u23 h => ?_)
      refine pc_ite (fun _ => ?_) (fun _ => ?_)
      · refine pc_call (zs_S_weeksOf h) (fun r25 u26 h => ?_)
        refine pc_let (fun x27 _ => ?_)
        exact (zs_E_crowd_74 h (fun h => ih h))
      · exact (zs_E_crowd_74 h (fun h => ih h))
theorem zs_F_isThere {L : Int} {b : Wd} {v1 : Int} {w : Wd} (h : SJ L b w) : PC (f_F_isThere v1 w) (fun _ u => SJ L b u) := by
  unfold f_F_isThere
  refine pc_ite (fun _ => ?_) (fun _ => ?_)
  · exact pc_some h
  · refine pc_ite (fun _ => ?_) (fun _ => ?_)
    · exact pc_some h
    · exact pc_some h
theorem zs_E_areTwo {L : Int} {b : Wd} {v1 v2 : Int} {w : Wd} (h : SJ L b w) : PC (f_E_areTwo v1 v2 w) (fun _ u => SJ L b u) := by
  unfold f_E_areTwo
  refine pc_ite (fun _ => ?_) (fun _ => ?_)
  · exact pc_some h
  · refine pc_call (zs_F_isThere h) (fun r1 u2 h => ?_)
    refine pc_ite (fun _ => ?_) (fun _ => ?_)
    · exact pc_some h
    · refine pc_call (zs_F_isThere h) (fun r3 u4 h => ?_)
      refine pc_ite (fun _ => ?_) (fun _ => ?_)
      · exact pc_some h
      · exact pc_some h
theorem zs_S_leastPaid_61 {L : Int} {b : Wd} {k6 : Int → Int → Int → Int → Wd → Option (Int × Wd)} {v1 v2 v4 v5 : Int} {w : Wd} (h : SJ L b w) (hk : ∀ {a0 a1 a2 a3 : Int} {w : Wd}, SJ L b w → PC (k6 a0 a1 a2 a3 w) (fun _ u => SJ L b u)) : PC (f_S_leastPaid_61 k6 v1 v2 v4 v5 w) (fun _ u => SJ L b u) := by
  unfold f_S_leastPaid_61
  refine pc_let (fun x3 _ => ?_)
  exact hk h
theorem zs_S_leastPaid_6 {L : Int} {b : Wd} : ∀ (n : Nat) {v1 v2 v4 v5 : Int} {w : Wd}, SJ L b w → PC (f_S_leastPaid_6 n v1 v2 v4 v5 w) (fun _ u => SJ L b u) := by
  intro n
  induction n with
  | zero => intros; exact pc_none
  | succ n ih =>
    intro v1 v2 v4 v5 w h
    rw [f_S_leastPaid_6]
    refine pc_ite (fun _ => ?_) (fun _ => ?_)
    · exact pc_some h
    · refine pc_call (zs_S_canBe h) (fun r1 u2 h => ?_)
      refine pc_ite (fun _ => ?_) (fun _ => ?_)
      · exact (zs_S_leastPaid_61 h (fun h => ih h))
      · refine pc_call (zs_S_guests h) (fun r4 u5 h => ?_)
        refine pc_ite (fun _ => ?_) (fun _ => ?_)
        · exact (zs_S_leastPaid_61 h (fun h => ih h))
        · refine pc_call (zs_S_guests h) (fun r6 u7 h => ?_)
          refine pc_ite (fun _ => ?_) (fun _ => ?_)
          · refine pc_call (zs_S_paidFor h) (fun r8 u9 h => ?_)
            refine pc_call (zs_E_less h) (fun r10 u11 h => ?_)
            exact (zs_S_leastPaid_61 h (fun h => ih h))
          · exact (zs_S_leastPaid_61 h (fun h => ih h))
theorem zs_S_leastPaid {L : Int} {b : Wd} {v1 v2 : Int} {w : Wd} (h : SJ L b w) : PC (f_S_leastPaid v1 v2 w) (fun _ u => SJ L b u) := by
  unfold f_S_leastPaid
  exact (zs_S_leastPaid_6 _ h)
theorem zs_S_weeksWith_61 {L : Int} {b : Wd} {k5 : Int → Int → Int → Int → Wd → Option (Int × Wd)} {v1 v2 v3 v5 : Int} {w : Wd} (h : SJ L b w) (hk : ∀ {a0 a1 a2 a3 : Int} {w : Wd}, SJ L b w → PC (k5 a0 a1 a2 a3 w) (fun _ u => SJ L b u)) : PC (f_S_weeksWith_61 k5 v1 v2 v3 v5 w) (fun _ u => SJ L b u) := by
  unfold f_S_weeksWith_61
  refine pc_let (fun x3 _ => ?_)
  exact hk h
theorem zs_S_weeksWith_5 {L : Int} {b : Wd} : ∀ (n : Nat) {v1 v2 v3 v5 : Int} {w : Wd}, SJ L b w → PC (f_S_weeksWith_5 n v1 v2 v3 v5 w) (fun _ u => SJ L b u) := by
  intro n
  induction n with
  | zero => intros; exact pc_none
  | succ n ih =>
    intro v1 v2 v3 v5 w h
    rw [f_S_weeksWith_5]
    refine pc_ite (fun _ => ?_) (fun _ => ?_)
    · exact pc_some h
    · refine pc_call (zs_S_guests h) (fun r1 u2 h => ?_)
      refine pc_ite (fun _ => ?_) (fun _ => ?_)
      · exact (zs_S_weeksWith_61 h (fun h => ih h))
      · refine pc_call (zs_S_guests h) (fun r4 u5 h => ?_)
        refine pc_ite (fun _ => ?_) (fun _ => ?_)
        · refine pc_gd (fun _ => ?_)
          refine pc_call (zs_O_known h) (fun r6 u7 h => ?_)
          refine pc_ite (fun _ => ?_) (fun _ => ?_)
          · refine pc_gd (fun _ => ?_)
            refine pc_let (fun x8 _ => ?_)
            exact (zs_S_weeksWith_61 h (fun h => ih h))
          · exact (zs_S_weeksWith_61 h (fun h => ih h))
        · exact (zs_S_weeksWith_61 h (fun h => ih h))
theorem zs_S_weeksWith {L : Int} {b : Wd} {v1 v2 : Int} {w : Wd} (h : SJ L b w) : PC (f_S_weeksWith v1 v2 w) (fun _ u => SJ L b u) := by
  unfold f_S_weeksWith
  exact (zs_S_weeksWith_5 _ h)
theorem zs_S_lastWeek_11 {L : Int} {b : Wd} : ∀ (n : Nat) {v3 v5 : Int} {w : Wd}, SJ L b w → PC (f_S_lastWeek_11 n v3 v5 w) (fun _ u => SJ L b u) := by
  intro n
  induction n with
  | zero => intros; exact pc_none
  | succ n ih =>
    intro v3 v5 w h
    rw [f_S_lastWeek_11]
    refine pc_ite (fun _ => ?_) (fun _ => ?_)
    · exact pc_some h
    · refine pc_ite (fun _ => ?_) (fun _ => ?_)
      · refine pc_let (fun x3 _ => ?_)
        exact ih h
      · exact pc_some h
theorem zs_S_lastWeek {L : Int} {b : Wd} {v1 v2 : Int} {w : Wd} (h : SJ L b w) : PC (f_S_lastWeek v1 v2 w) (fun _ u => SJ L b u) := by
  unfold f_S_lastWeek
  refine pc_call (zs_S_weeksWith h) (fun r1 u2 h => ?_)
  exact (zs_S_lastWeek_11 _ h)
theorem zs_E_stays_95 {L : Int} {b : Wd} {v2 v3 : Int} {w : Wd} (h : SJ L b w) : PC (f_E_stays_95 v2 v3 w) (fun _ u => SJ L b u) := by
  unfold f_E_stays_95
  refine pc_call (zs_N_tell1 h) (fun r11 u12 h => ?_)
  exact pc_some h
theorem zs_E_needed_89 {L : Int} {b : Wd} {k43 : Int → Int → Int → Wd → Option (Int × Wd)} {v1 v2 v3 : Int} {w : Wd} (h : SJ L b w) (hk : ∀ {a0 a1 a2 : Int} {w : Wd}, SJ L b w → PC (k43 a0 a1 a2 w) (fun _ u => SJ L b u)) : PC (f_E_needed_89 k43 v1 v2 v3 w) (fun _ u => SJ L b u) := by
  unfold f_E_needed_89
  refine pc_let (fun x9 _ => ?_)
  exact hk h
theorem zs_E_needed_43 {L : Int} {b : Wd} : ∀ (n : Nat) {v1 v2 v3 : Int} {w : Wd}, SJ L b w → PC (f_E_needed_43 n v1 v2 v3 w) (fun _ u => SJ L b u) := by
  intro n
  induction n with
  | zero => intros; exact pc_none
  | succ n ih =>
    intro v1 v2 v3 w h
    rw [f_E_needed_43]
    refine pc_ite (fun _ => ?_) (fun _ => ?_)
    · exact pc_some h
    · refine pc_call (zs_F_free h) (fun r5 u6 h => ?_)
      refine pc_call (zs_E_has h) (fun r7 u8 h => ?_)
      refine pc_ite (fun _ => ?_) (fun _ => ?_)
      · exact (zs_E_needed_89 h (fun h => ih h))
      · refine pc_call (zs_S_lastWeek h) (fun r10 u11 h => ?_)
        refine pc_ite (fun _ => ?_) (fun _ => ?_)
        · exact (zs_E_needed_89 h (fun h => ih h))
        · refine pc_let (fun x12 _ => ?_)
          exact (zs_E_needed_89 h (fun h => ih h))
theorem zs_E_never_25 {L : Int} {b : Wd} : ∀ (n : Nat) {v1 v2 : Int} {w : Wd}, SJ L b w → PC (f_E_never_25 n v1 v2 w) (fun _ u => SJ L b u) := by
  intro n
  induction n with
  | zero => intros; exact pc_none
  | succ n ih =>
    intro v1 v2 w h
    rw [f_E_never_25]
    refine pc_ite (fun _ => ?_) (fun _ => ?_)
    · refine pc_call (zs_F_strangers h) (fun r3 u4 h => ?_)
      exact pc_some h
    · refine pc_call (zs_S_guests h) (fun r5 u6 h => ?_)
      refine pc_let (fun x7 _ => ?_)
      refine pc_let (fun x8 _ => ?_)
      exact ih h
theorem zs_S_lookBack_79 {L T : Int} {b : Wd} {k8 : Int → Int → Int → Wd → Option (Int × Wd)} {v3 v4 v5 v6 s0 : Int} {w : Wd} (h : SJ L b w) (hL : L + 1 ≤ 2147480000) (hk : ∀ {w : Wd}, SJ (L + 1) b w → PC (k8 v3 v4 (w32 (v5 + (-1))) w) (fun _ u => SJ T b u)) : PC (f_S_lookBack_79 k8 v3 v4 v5 v6 s0 w) (fun _ u => SJ T b u) := by
  unfold f_S_lookBack_79
  refine pc_call (zs_S_leftBehind h hL) (fun r5 u6 h => ?_)
  refine pc_gd (fun _ => pc_lw (fun u7 e => pc_let (fun x8 e8 => ?_)))
  rw [e8]
  exact hk (sj_st h e (by decide))
theorem zs_S_lookBack_49 {L T : Int} {b : Wd} {k8 : Int → Int → Int → Wd → Option (Int × Wd)} {v3 v4 v5 v6 s0 : Int} {w : Wd} (h : SJ L b w) (hL : L + 1 ≤ 2147480000) (hk : ∀ {w : Wd}, SJ (L + 1) b w → PC (k8 v3 v4 (w32 (v5 + (-1))) w) (fun _ u => SJ T b u)) : PC (f_S_lookBack_49 k8 v3 v4 v5 v6 s0 w) (fun _ u => SJ T b u) := by
  unfold f_S_lookBack_49 f_S_lookBack_78 f_S_lookBack_74
  refine pc_ite (fun _ => zs_S_lookBack_79 h hL hk) (fun _ => pc_ite (fun _ => zs_S_lookBack_79 h hL hk) (fun _ => pc_call (zs_S_paidFor h) (fun r9 u10 h => pc_ite (fun _ => zs_S_lookBack_79 h hL hk) (fun _ => zs_S_lookBack_79 h hL hk))))
theorem zs_S_lookBack_8 {T : Int} {b : Wd} (hT : T ≤ 2147480000) : ∀ (n : Nat) {v3 v4 v5 L : Int} {w : Wd}, SJ L b w → L ≤ T → (v5 < 3000 → L + (v5 + 1) ≤ T) → PC (f_S_lookBack_8 n v3 v4 v5 w) (fun _ u => SJ T b u) := by
  intro n
  induction n with
  | zero => intros; exact pc_none
  | succ n ih =>
    intro v3 v4 v5 L w h h1 h2
    rw [f_S_lookBack_8]
    refine pc_ite (fun _ => pc_some (sj_mono h h1)) (fun c => pc_gd (fun g => pc_let (fun x2 _ => ?_)))
    have z := w32_sp (v5 + (-1))
    have hk : ∀ {w : Wd}, SJ (L + 1) b w → PC (f_S_lookBack_8 n v3 v4 (w32 (v5 + (-1))) w) (fun _ u => SJ T b u) := fun h => ih h (by omega) (by omega)
    refine pc_call (zs_S_guests h) (fun r3 u4 h => ?_)
    unfold f_S_lookBack_48
    refine pc_ite (fun _ => zs_S_lookBack_49 h (by omega) hk) (fun _ => pc_call (zs_S_guests h) (fun r11 u12 h => pc_ite (fun _ => zs_S_lookBack_49 h (by omega) hk) (fun _ => zs_S_lookBack_49 h (by omega) hk)))
theorem zs_S_lookBack {L : Int} {b : Wd} {v3 v4 : Int} {w : Wd} (h : SJ L b w) (hL : L + 3000 ≤ 2147480000) : PC (f_S_lookBack v3 v4 w) (fun _ u => SJ (L + 3000) b u) := by
  unfold f_S_lookBack
  exact pc_let (fun x1 _ => zs_S_lookBack_8 hL FU h (by omega) (fun _ => by omega))
theorem zs_E_firstToBring_41 {T : Int} {b : Wd} (hT : T ≤ 2147480000) (h53 : b 5 3 ≤ 10) : ∀ (n : Nat) {v1 v2 v3 v4 L : Int} {w : Wd}, SJ L b w → L ≤ T → 0 ≤ v4 → v4 ≤ 10 → L + (10 - v4) ≤ T → PC (f_E_firstToBring_41 n v1 v2 v3 v4 w) (fun _ u => SJ T b u) := by
  intro n
  induction n with
  | zero => intros; exact pc_none
  | succ n ih =>
    intro v1 v2 v3 v4 L w h h1 h0 h10 h2
    rw [f_E_firstToBring_41]
    refine pc_ite (fun _ => pc_some (sj_mono h h1)) (fun c => ?_)
    rw [h.1.1] at c
    have z := w32_sp (v4 + 1)
    refine pc_call (zs_F_knownBy h) (fun r8 u9 h => pc_call (zs_F_free h) (fun r10 u11 h => pc_call (zs_E_has h) (fun r12 u13 h => ?_)))
    unfold f_E_firstToBring_111
    refine pc_ite (fun _ => pc_let (fun x14 e => ?_)) (fun _ => ?_)
    · exact ih h h1 (by omega) (by omega) (by omega)
    · refine pc_call (zs_M_gatherBehind h (by omega)) (fun r15 u16 h => pc_call (zs_E_firstThatLeads h) (fun r17 u18 h => ?_))
      refine pc_ite (fun _ => pc_let (fun x14 e => ?_)) (fun _ => pc_some (sj_mono h (by omega)))
      exact ih h (by omega) (by omega) (by omega) (by omega)
theorem zs_E_firstToBring {L : Int} {b : Wd} {v1 v2 : Int} {w : Wd} (h : SJ L b w) (hL : L + 11 ≤ 2147480000) (h53 : b 5 3 ≤ 10) : PC (f_E_firstToBring v1 v2 w) (fun _ u => SJ (L + 11) b u) := by
  unfold f_E_firstToBring
  refine pc_call (zs_F_guests h) (fun r1 u2 h => pc_let (fun x3 _ => ?_))
  refine pc_call (zs_M_gatherBehind h (by omega)) (fun r4 u5 h => pc_call (zs_E_firstThatLeads h) (fun r6 u7 h => ?_))
  exact pc_ite (fun _ => zs_E_firstToBring_41 hL h53 FU h (by omega) (by omega) (by omega) (by omega)) (fun _ => pc_some (sj_mono h (by omega)))
/-! WHAT IS KEPT OF A SEARCH: every method of the class -/
theorem sj_scr {n m L : Int} {w u : Wd} (hs : SCR n w) (h : SJ L w u) (hL : L ≤ 2000 * m) : SCR m u := by
  obtain ⟨⟨z5, z7, z28, z29, z30, z31, z35⟩, zr, zl⟩ := h
  refine ⟨⟨zr, by omega⟩, fun hf => ?_⟩
  rw [z28] at hf
  rw [z5, z7]
  exact kpt_eq (hs.2 hf) (fun k _ => by rw [z28]) z29 z30 z31 z35
theorem sj_0 {n : Int} {w : Wd} (hs : SCR n w) : SJ (w 24 4) w w := ⟨⟨rfl, rfl, rfl, rfl, rfl, rfl, rfl⟩, hs.1.1, Int.le_refl _⟩
theorem zrun {n : Int} {a w : Wd} {K : Int → Wd → Option (Int × Wd)} (he : ER a w) (hs : SCR n w) (hn : n ≤ 2600) (hK : ∀ r u, SJ (w 24 4 + 3000) u u → u 5 3 ≤ 10 → PC (K r u) (fun _ v => SJ (w 24 4 + 7000) u v)) : PC (jcall (f_S_run w) K) (fun _ v => SCR (n + 5) v) := by
  have hp := er_prm he
  refine pc_call (crun hp hs hn hs.2) (fun r u q => ?_)
  have hr := q.1
  have s := run_scr hs hr
  have h5 : u 5 = w 5 := hr.1 5 (by decide) (by decide) (by decide) (by decide) (by decide) (by decide) (by decide) (by decide) (by decide) (by decide) (by decide)
  refine pc_w (hK r u ⟨⟨rfl, rfl, rfl, rfl, rfl, rfl, rfl⟩, hr.2.1⟩ (by rw [h5]; exact hp.1.2)) (fun _ v z => sj_scr s z (by have := hs.1.2; omega))
theorem g_out {S : List Nat} {b u : Wd} (h : G S b u) (cs : List Nat) (hS : S.all (fun x => !cs.contains (x / 100)) = true) : ∀ c, cs.contains c = true → u c = b c := by
  intro c hc
  funext k
  refine h.2.1 c k (mS_ar ?_ k)
  rw [List.all_eq_true]
  intro x hx
  have h1 := List.all_eq_true.mp hS x hx
  rw [Bool.or_eq_true, Nat.blt_eq, Nat.blt_eq]
  by_cases e : x / 100 = c
  · rw [e, hc] at h1; cases h1
  · omega
/-- the method touches nothing of it -/
theorem scr_g {n : Int} {S : List Nat} {w u : Wd} (hs : SCR n w) (hG : G S w u) (hS : S.all (fun x => !([5, 7, 24, 27, 28, 29, 30, 31, 35] : List Nat).contains (x / 100)) = true) : SCR n u := by
  have f := g_out hG _ hS
  exact scr_fr hs (f 5 rfl) (f 7 rfl) (f 24 rfl) (f 27 rfl) (f 28 rfl) (f 29 rfl) (f 30 rfl) (f 31 rfl) (f 35 rfl)
/-- forgotten, or nothing touched -/
def FGT (b w : Wd) : Prop := w 28 9 = 0 ∨ (w 5 = b 5 ∧ w 7 = b 7 ∧ w 28 = b 28)
theorem fgt_self (w : Wd) : FGT w w := Or.inr ⟨rfl, rfl, rfl⟩
theorem fgt_g {S : List Nat} {b w u : Wd} (h : FGT b w) (hG : G S w u) (hS : S.all (fun x => !([5, 7, 28] : List Nat).contains (x / 100)) = true) : FGT b u := by
  have f := g_out hG _ hS
  unfold FGT
  rw [f 5 rfl, f 7 rfl, f 28 rfl]
  exact h
theorem fgt_scr {n : Int} {S : List Nat} {w u : Wd} (hs : SCR n w) (h : FGT w u) (hG : G S w u) (hS : S.all (fun x => !([24, 27, 29, 30, 31, 35] : List Nat).contains (x / 100)) = true) : SCR n u := by
  have f := g_out hG _ hS
  rcases h with e | ⟨e5, e7, e28⟩
  · exact scr_no hs (f 24 rfl) (f 27 rfl) e
  · exact scr_fr hs e5 e7 (f 24 rfl) (f 27 rfl) e28 (f 29 rfl) (f 30 rfl) (f 31 rfl) (f 35 rfl)
theorem fgn (w : Wd) : PC (f_S_forget w) (fun _ u => u 28 9 = 0) := pc_lw (fun y e => pc_some (by rw [e, st_eq]))
theorem pcN (o : Option (Int × Wd)) : PC o (fun _ _ => True) := fun _ _ _ => trivial
theorem fgn_pc {b w : Wd} {r : Wd → Int} : PC (jcall (f_S_forget w) fun _ u => some (r u, u)) (fun _ u => FGT b u) := pc_call (fgn w) (fun _ _ h => pc_some (Or.inl h))
theorem pcm_no (w : Wd) : PC (f_E_peopleCame w) (fun _ u => u 28 9 = 0) := by
  unfold f_E_peopleCame
  exact pc_call (pcN _) (fun _ _ _ => pc_call (pcN _) (fun _ _ _ => pc_lw (fun _ _ => pc_call (fgn _) (fun _ _ h => pc_some h))))
theorem ps15_no : ∀ (n : Nat) {v1 v2 : Int} {w : Wd}, PC (f_E_pass_15 n v1 v2 w) (fun _ u => u 28 9 = 0) := by
  intro n
  induction n with
  | zero => intros; exact pc_none
  | succ n ih =>
    intro v1 v2 w
    rw [f_E_pass_15]
    refine pc_ite (fun _ => pc_lw (fun _ _ => pc_call (pcN _) (fun _ _ _ => pc_lw (fun _ _ => pc_lw (fun _ _ => pc_call (pcN _) (fun _ _ _ => pc_call (pcN _) (fun _ _ _ => pc_call (fgn _) (fun _ _ h => pc_some h)))))))) (fun _ => pc_call (pcN _) (fun _ _ _ => pc_call (pcN _) (fun _ _ _ => pc_call (pcN _) (fun _ _ _ => pc_let (fun _ _ => pc_let (fun _ _ => ih))))))
theorem ps_no (w : Wd) : PC (f_E_pass w) (fun _ u => u 28 9 = 0) := by
  unfold f_E_pass
  exact pc_call (pcN _) (fun _ _ _ => ps15_no FU)
theorem fg_land {w : Wd} (hG : G [] w w) : PC (f_E_land w) (fun _ u => FGT w u) := by
  unfold f_E_land
  have r5 : 0 ≤ w 5 3 ∧ w 5 3 ≤ 10 := hG.1 5 3
  refine pc_call (pc_ok (s_L_read (g_self hG) r5)) (fun r1 u2 q => ?_)
  refine pc_call (pc_ok (s_T_clear (g_self q.2))) (fun r3 u4 q2 => ?_)
  refine pc_ite (fun _ => pc_some (fgt_g (fgt_g (fgt_self w) q.2 rfl) q2.2.1 rfl)) (fun _ => pc_call (pcN _) (fun _ _ _ => pc_call (pcm_no _) (fun _ _ h => pc_some (Or.inl h))))
theorem fg_law {w : Wd} {v1 v2 : Int} : PC (f_E_law v1 v2 w) (fun _ u => FGT w u) := by
  unfold f_E_law f_E_law_25 f_E_law_51 f_E_law_75
  refine pc_ite (fun _ => pc_some (fgt_self w)) (fun _ => pc_ite (fun _ => pc_some (fgt_self w)) (fun _ => pc_ite (fun _ => pc_some (fgt_self w)) (fun _ => pc_ite (fun _ => ?_) (fun _ => ?_)))) <;> refine pc_ite (fun _ => pc_ite (fun _ => ?_) (fun _ => ?_)) (fun _ => pc_some (fgt_self w)) <;> exact pc_ite (fun _ => pc_lw (fun _ _ => fgn_pc)) (fun _ => pc_lw (fun _ _ => fgn_pc))
theorem fg_meet {w : Wd} {v1 v2 v3 : Int} : PC (f_E_meet v1 v2 v3 w) (fun _ u => FGT w u) := by
  unfold f_E_meet
  refine pc_call (zq_E_areTwo rfl) (fun r1 u2 e => ?_)
  refine pc_ite (fun _ => pc_some (by rw [e]; exact fgt_self w)) (fun _ => pc_gd (fun _ => pc_call (pcN _) (fun _ _ _ => pc_gd (fun _ => pc_lw (fun _ _ => pc_gd (fun _ => pc_call (pcN _) (fun _ _ _ => pc_gd (fun _ => pc_lw (fun _ _ => fgn_pc)))))))))
theorem fg_hide {w : Wd} {v1 v2 : Int} : PC (f_E_hide v1 v2 w) (fun _ u => FGT w u) := by
  unfold f_E_hide
  refine pc_call (zq_F_isThere rfl) (fun r1 u2 e => ?_)
  refine pc_ite (fun _ => pc_some (by rw [e]; exact fgt_self w)) (fun _ => pc_call (pcN _) (fun _ _ _ => pc_lw (fun _ _ => fgn_pc)))
theorem fg_baby {w : Wd} {v1 : Int} : PC (f_E_baby v1 w) (fun _ u => FGT w u) := by
  unfold f_E_baby
  refine pc_ite (fun _ => pc_some (fgt_self w)) (fun _ => ?_)
  refine pc_call (zq_F_everybody rfl) (fun r1 u2 e => ?_)
  refine pc_ite (fun _ => pc_call (pcN _) (fun _ _ _ => pc_call (pcm_no _) (fun _ _ h => pc_some (Or.inl h)))) (fun _ => pc_some (by rw [e]; exact fgt_self w))
theorem fg_week {w : Wd} (hG : G [] w w) : PC (f_E_week w) (fun _ u => FGT w u) := by
  unfold f_E_week f_E_week_100
  refine pc_call (pc_ok (s_P_read (g_self hG))) (fun r1 u2 q => ?_)
  refine pc_call (pc_ok (s_T_clear (g_self q.2))) (fun r3 u4 q2 => ?_)
  have f4 := fgt_g (fgt_g (fgt_self w) q.2 rfl) q2.2.1 rfl
  refine pc_ite (fun _ => pc_ite (fun _ => ?_) (fun _ => pc_some f4)) (fun _ => pc_some f4)
  refine pc_call (pc_ok (s_P_firstWrongPair (g_self q2.2.1))) (fun r5 u6 q3 => ?_)
  have f6 := fgt_g f4 q3.2 rfl
  refine pc_ite (fun _ => pc_ite (fun _ => pc_call (ps_no _) (fun _ _ h => pc_some (Or.inl h))) (fun _ => ?_)) (fun _ => pc_some f6)
  refine pc_call (pc_ok (s_F_guestsAfter (g_self q3.2) (show -2147483648 ≤ u6 12 3 ∧ u6 12 3 ≤ 2147483647 from q3.2.1 12 3))) (fun r9 u10 q4 => ?_)
  exact pc_ite (fun _ => pc_call (ps_no _) (fun _ _ h => pc_some (Or.inl h))) (fun _ => pc_some (fgt_g f6 q4.2 rfl))
theorem fg_g75 {b w : Wd} {v2 v3 : Int} (hG : G [] w w) (h : FGT b w) (iv : -2147483648 ≤ v3 ∧ v3 ≤ 2147483647) : PC (f_E_goes_75 v2 v3 w) (fun _ u => FGT b u) := by
  unfold f_E_goes_75
  refine pc_call (pc_ok (s_F_guests (g_self hG))) (fun r u q => ?_)
  refine pc_call (pc_ok (s_N_tell2 (g_self q.2) (by have := q.1; omega) iv)) (fun r u q2 => pc_some ?_)
  exact fgt_g (fgt_g h q.2 rfl) q2.2 rfl
theorem fg_g13 {b : Wd} {v1 : Int} : ∀ (n : Nat) {v2 v3 : Int} {w : Wd}, G [] w w → FGT b w → (-2147483648 ≤ v3 ∧ v3 ≤ 2147483647) → PC (f_E_goes_13 n v1 v2 v3 w) (fun _ u => FGT b u) := by
  intro n
  induction n with
  | zero => intros; exact pc_none
  | succ n ih =>
    intro v2 v3 w hG h iv
    rw [f_E_goes_13]
    refine pc_ite (fun _ => fg_g75 hG h iv) (fun _ => pc_ite (fun _ => fg_g75 hG h iv) (fun c => ?_))
    have r15 : 0 ≤ w 15 3 ∧ w 15 3 ≤ 60 := hG.1 15 3
    refine pc_call (pc_ok (s_F_guests (g_self hG))) (fun r7 u8 q => ?_)
    have e8 : u8 15 = w 15 := g_out q.2 [15] rfl 15 rfl
    refine pc_ite (fun _ => fg_g75 (g_self q.2) (fgt_g h q.2 rfl) iv) (fun _ => ?_)
    refine pc_call (pc_ok (s_P_follow (g_self q.2) (by rw [e8]; omega))) (fun r9 u10 q2 => ?_)
    have e10 : u10 15 = u8 15 := g_out q2.2 [15] rfl 15 rfl
    refine pc_call (fun r u e => And.intro (pc_ok (s_E_pass (g_self q2.2) (by rw [e10, e8]; omega)) r u e) (ps_no _ r u e)) (fun r11 u12 q3 => ?_)
    refine pc_let (fun x13 e13 => pc_let (fun x14 _ => ?_))
    have z := w32_sp (v3 + r11)
    exact ih (g_self q3.1.2) (Or.inl q3.2) (by omega)
theorem fg_goes {w : Wd} {v1 : Int} (hG : G [] w w) : PC (f_E_goes v1 w) (fun _ u => FGT w u) := by
  unfold f_E_goes
  refine pc_call (zq_E_isWeek rfl) (fun r1 u2 e => ?_)
  rw [e]
  exact pc_ite (fun _ => pc_some (fgt_self w)) (fun _ => fg_g13 FU hG (fgt_self w) (by decide))
theorem fg_undo {w : Wd} (hG : G [] w w) : PC (f_E_undo w) (fun _ u => FGT w u) := by
  unfold f_E_undo f_D_goBack
  have r70 : ∀ (n : Nat) {v2 : Int} {w : Wd}, PC (f_D_goBack_70 n v2 w) (fun r _ => r = 1) := by
    intro n
    induction n with
    | zero => intros; exact pc_none
    | succ n ih =>
      intro v2 w
      rw [f_D_goBack_70]
      unfold f_D_goBack_96
      exact pc_ite (fun _ => pc_some rfl) (fun _ => pc_call (pcN _) (fun _ _ _ => pc_call (pcN _) (fun _ _ _ => pc_ite (fun _ => pc_let (fun _ _ => ih)) (fun _ => pc_gd (fun _ => pc_lw (fun _ _ => pc_let (fun _ _ => ih)))))))
  have g : PC (if (w 15 4) = 0 then some ((0 : Int), w) else jcall (f_D_isOne (w32 ((w 15 3) - 1)) w) fun r1 u2 => if r1 = 0 then some (0, u2) else jlw (st u2 15 4 (w32 ((u2 15 4) - 1))) fun u3 => jlw (st u3 15 3 (w32 ((u3 15 3) - 1))) fun u4 => jgd ((0 : Int) ≤ (u4 15 3) ∧ (u4 15 3) < 61) <| jlw (st u4 5 4 (u4 17 (u4 15 3).toNat)) fun u5 => jgd ((0 : Int) ≤ (u5 15 3) ∧ (u5 15 3) < 61) <| jlw (st u5 5 6 (u5 18 (u5 15 3).toNat)) fun u6 => f_D_goBack_70 FU 0 u6) (fun r u => (r = 0 → u = w)) := by
    refine pc_ite (fun _ => pc_some (fun _ => rfl)) (fun _ => pc_call (P := fun _ u => u = w) ?_ (fun r1 u2 e => pc_ite (fun _ => pc_some (fun _ => e)) (fun _ => pc_lw (fun _ _ => pc_lw (fun _ _ => pc_gd (fun _ => pc_lw (fun _ _ => pc_gd (fun _ => pc_lw (fun _ _ => pc_w (r70 FU) (fun r u e h0 => absurd (e.symm.trans h0) (by decide)))))))))))
    unfold f_D_isOne
    exact pc_ite (fun _ => pc_some rfl) (fun _ => pc_ite (fun _ => pc_some rfl) (fun _ => pc_ite (fun _ => pc_some rfl) (fun _ => pc_some rfl)))
  refine pc_call g (fun r1 u2 q => ?_)
  exact pc_ite (fun e => pc_some (by rw [q e]; exact fgt_self w)) (fun _ => fgn_pc)
theorem fg_again {w : Wd} {v1 : Int} (hG : G [] w w) : PC (f_E_again v1 w) (fun _ u => FGT w u) := by
  unfold f_E_again
  refine pc_ite (fun _ => pc_some (fgt_self w)) (fun _ => pc_ite (fun _ => pc_some (fgt_self w)) (fun _ => pc_ite (fun _ => ?_) (fun _ => pc_ite (fun _ => ?_) (fun _ => pc_none))))
  · refine pc_call (pc_ok (s_K_fits (g_self hG))) (fun r1 u2 q => pc_ite (fun _ => pc_some (fgt_g (fgt_self w) q.2 rfl)) (fun _ => ?_))
    exact pc_ite (fun _ => pc_call (pcN _) (fun _ _ _ => fgn_pc)) (fun _ => pc_ite (fun _ => pc_call (pcN _) (fun _ _ _ => fgn_pc)) (fun _ => pc_none))
  · refine pc_call (pc_ok (s_K_fits_40_5 (g_self hG))) (fun r1 u2 q => pc_ite (fun _ => pc_some (fgt_g (fgt_self w) q.2 rfl)) (fun _ => ?_))
    exact pc_ite (fun _ => pc_call (pcN _) (fun _ _ _ => fgn_pc)) (fun _ => pc_ite (fun _ => pc_call (pcN _) (fun _ _ _ => fgn_pc)) (fun _ => pc_none))
theorem sc_states {n : Int} {w : Wd} (h : LU w) (hs : SCR n w) (hn : n ≤ 2600) : PC (f_E_states  w) (fun _ u => SCR (n + 5) u) := by
  have he := lu_er h (fun _ _ => rfl)
  have hb : w 24 4 ≤ 5200000 := by have := hs.1.2; omega
  unfold f_E_states
  refine zrun he hs hn (fun r1 u2 h h53 => ?_)
  refine pc_ite (fun _ => ?_) (fun _ => ?_)
  · exact pc_some (sj_mono h (by omega))
  · exact pc_w (zs_E_states_25 _ h) (fun _ _ h => sj_mono h (by omega))
theorem sc_most {n : Int} {w : Wd} {v1 : Int} (h : LU w) (hs : SCR n w) (hn : n ≤ 2600) : PC (f_E_most v1 w) (fun _ u => SCR (n + 5) u) := by
  have he := lu_er h (fun _ _ => rfl)
  have hb : w 24 4 ≤ 5200000 := by have := hs.1.2; omega
  unfold f_E_most
  refine pc_call (zq_E_isWeek rfl) (fun r1 u2 e => ?_)
  subst e
  refine pc_ite (fun _ => ?_) (fun _ => ?_)
  · exact pc_some (scr_mono hs (by omega))
  · refine zrun he hs hn (fun r3 u4 h h53 => ?_)
    refine pc_ite (fun _ => ?_) (fun _ => ?_)
    · exact pc_some (sj_mono h (by omega))
    · exact pc_w (zs_E_most_37 _ h) (fun _ _ h => sj_mono h (by omega))
theorem sc_reach {n : Int} {w : Wd} {v1 : Int} (h : LU w) (hs : SCR n w) (hn : n ≤ 2600) : PC (f_E_reach v1 w) (fun _ u => SCR (n + 5) u) := by
  have he := lu_er h (fun _ _ => rfl)
  have hb : w 24 4 ≤ 5200000 := by have := hs.1.2; omega
  unfold f_E_reach
  refine pc_call (zq_E_isWeek rfl) (fun r1 u2 e => ?_)
  subst e
  refine pc_ite (fun _ => ?_) (fun _ => ?_)
  · exact pc_some (scr_mono hs (by omega))
  · refine zrun he hs hn (fun r3 u4 h h53 => ?_)
    refine pc_ite (fun _ => ?_) (fun _ => ?_)
    · exact pc_some (sj_mono h (by omega))
    · exact pc_w (zs_E_reach_39 _ h) (fun _ _ h => sj_mono h (by omega))
theorem sc_fewest {n : Int} {w : Wd} {v1 : Int} (h : LU w) (hs : SCR n w) (hn : n ≤ 2600) : PC (f_E_fewest v1 w) (fun _ u => SCR (n + 5) u) := by
  have he := lu_er h (fun _ _ => rfl)
  have hb : w 24 4 ≤ 5200000 := by have := hs.1.2; omega
  unfold f_E_fewest
  refine pc_call (zq_E_isWeek rfl) (fun r1 u2 e => ?_)
  subst e
  refine pc_ite (fun _ => ?_) (fun _ => ?_)
  · exact pc_some (scr_mono hs (by omega))
  · refine zrun he hs hn (fun r3 u4 h h53 => ?_)
    refine pc_ite (fun _ => ?_) (fun _ => ?_)
    · exact pc_some (sj_mono h (by omega))
    · refine pc_call (zs_S_fewestGuests h) (fun r5 u6 h => ?_)
      refine pc_ite (fun _ => ?_) (fun _ => ?_)
      · exact pc_some (sj_mono h (by omega))
      · exact pc_some (sj_mono h (by omega))
theorem sc_crowd {n : Int} {w : Wd} (h : LU w) (hs : SCR n w) (hn : n ≤ 2600) : PC (f_E_crowd  w) (fun _ u => SCR (n + 5) u) := by
  have he := lu_er h (fun _ _ => rfl)
  have hb : w 24 4 ≤ 5200000 := by have := hs.1.2; omega
  unfold f_E_crowd
  refine zrun he hs hn (fun r1 u2 h h53 => ?_)
  refine pc_ite (fun _ => ?_) (fun _ => ?_)
  · exact pc_some (sj_mono h (by omega))
  · refine pc_call (zs_S_mostGuests h) (fun r3 u4 h => ?_)
    exact pc_w (zs_E_crowd_34 _ h) (fun _ _ h => sj_mono h (by omega))
theorem sc_both {n : Int} {w : Wd} {v1 v2 v3 : Int} (h : LU w) (hs : SCR n w) (hn : n ≤ 2600) : PC (f_E_both v1 v2 v3 w) (fun _ u => SCR (n + 5) u) := by
  have he := lu_er h (fun _ _ => rfl)
  have hb : w 24 4 ≤ 5200000 := by have := hs.1.2; omega
  unfold f_E_both
  refine pc_call (zq_E_areTwo rfl) (fun r1 u2 e => ?_)
  subst e
  refine pc_ite (fun _ => ?_) (fun _ => ?_)
  · exact pc_some (scr_mono hs (by omega))
  · refine pc_call (zq_E_isWeek rfl) (fun r3 u4 e => ?_)
    subst e
    refine pc_ite (fun _ => ?_) (fun _ => ?_)
    · exact pc_some (scr_mono hs (by omega))
    · refine zrun he hs hn (fun r5 u6 h h53 => ?_)
      refine pc_ite (fun _ => ?_) (fun _ => ?_)
      · exact pc_some (sj_mono h (by omega))
      · refine pc_call (zs_S_leastPaid h) (fun r7 u8 h => ?_)
        refine pc_ite (fun _ => ?_) (fun _ => ?_)
        · exact pc_some (sj_mono h (by omega))
        · exact pc_some (sj_mono h (by omega))
theorem sc_last {n : Int} {w : Wd} (h : LU w) (hs : SCR n w) (hn : n ≤ 2600) : PC (f_E_last  w) (fun _ u => SCR (n + 5) u) := by
  have he := lu_er h (fun _ _ => rfl)
  have hb : w 24 4 ≤ 5200000 := by have := hs.1.2; omega
  unfold f_E_last
  refine zrun he hs hn (fun r1 u2 h h53 => ?_)
  refine pc_ite (fun _ => ?_) (fun _ => ?_)
  · exact pc_some (sj_mono h (by omega))
  · refine pc_call (zs_S_lastWeek h) (fun r3 u4 h => ?_)
    refine pc_ite (fun _ => ?_) (fun _ => ?_)
    · exact pc_some (sj_mono h (by omega))
    · refine pc_call (zs_S_fewestGuests h) (fun r5 u6 h => ?_)
      refine pc_call (zs_N_tell1 h) (fun r7 u8 h => ?_)
      exact pc_some (sj_mono h (by omega))
theorem sc_begin {n : Int} {w : Wd} (h : LU w) (hs : SCR n w) (hn : n ≤ 2600) : PC (f_E_begin  w) (fun _ u => SCR (n + 5) u) := by
  have he := lu_er h (fun _ _ => rfl)
  have hb : w 24 4 ≤ 5200000 := by have := hs.1.2; omega
  unfold f_E_begin
  refine zrun he hs hn (fun r1 u2 h h53 => ?_)
  refine pc_ite (fun _ => ?_) (fun _ => ?_)
  · exact pc_some (sj_mono h (by omega))
  · refine pc_call (zs_S_lastWeek h) (fun r3 u4 h => ?_)
    refine pc_ite (fun _ => ?_) (fun _ => ?_)
    · refine pc_call (zs_S_lookBack h (by omega)) (fun r5 u6 h => ?_)
      refine pc_call (zs_E_tellFirstWeek h (by omega)) (fun r7 u8 h => ?_)
      exact pc_some (sj_mono h (by omega))
    · exact pc_some (sj_mono h (by omega))
theorem sc_cheap {n : Int} {w : Wd} {v1 : Int} (h : LU w) (hs : SCR n w) (hn : n ≤ 2600) : PC (f_E_cheap v1 w) (fun _ u => SCR (n + 5) u) := by
  have he := lu_er h (fun _ _ => rfl)
  have hb : w 24 4 ≤ 5200000 := by have := hs.1.2; omega
  unfold f_E_cheap
  refine pc_call (zq_E_isWeek rfl) (fun r1 u2 e => ?_)
  subst e
  refine pc_ite (fun _ => ?_) (fun _ => ?_)
  · exact pc_some (scr_mono hs (by omega))
  · refine zrun he hs hn (fun r3 u4 h h53 => ?_)
    refine pc_ite (fun _ => ?_) (fun _ => ?_)
    · exact pc_some (sj_mono h (by omega))
    · refine pc_call (zs_S_leastPaid h) (fun r5 u6 h => ?_)
      refine pc_ite (fun _ => ?_) (fun _ => ?_)
      · exact pc_some (sj_mono h (by omega))
      · refine pc_ite (fun _ => ?_) (fun _ => ?_)
        · refine pc_call (zs_N_clear h) (fun r11 u12 h => ?_)
          exact pc_some (sj_mono h (by omega))
        · refine pc_call (zs_S_lookBack h (by omega)) (fun r7 u8 h => ?_)
          refine pc_call (zs_E_tellFirstWeek h (by omega)) (fun r9 u10 h => ?_)
          exact pc_some (sj_mono h (by omega))
theorem sc_stays {n : Int} {w : Wd} {v1 : Int} (h : LU w) (hs : SCR n w) (hn : n ≤ 2600) : PC (f_E_stays v1 w) (fun _ u => SCR (n + 5) u) := by
  have he := lu_er h (fun _ _ => rfl)
  have hb : w 24 4 ≤ 5200000 := by have := hs.1.2; omega
  unfold f_E_stays
  refine pc_call (zq_F_isThere rfl) (fun r1 u2 e => ?_)
  subst e
  refine pc_ite (fun _ => ?_) (fun _ => ?_)
  · exact pc_some (scr_mono hs (by omega))
  · refine zrun he hs hn (fun r3 u4 h h53 => ?_)
    refine pc_ite (fun _ => ?_) (fun _ => ?_)
    · exact pc_some (sj_mono h (by omega))
    · refine pc_call (zs_F_guests h) (fun r5 u6 h => ?_)
      refine pc_call (zs_E_has h) (fun r7 u8 h => ?_)
      refine pc_ite (fun _ => ?_) (fun _ => ?_)
      · exact pc_some (sj_mono h (by omega))
      · refine pc_call (zs_S_lastWeek h) (fun r9 u10 h => ?_)
        refine pc_ite (fun _ => ?_) (fun _ => ?_)
        · exact pc_w (zs_E_stays_95 h) (fun _ _ h => sj_mono h (by omega))
        · refine pc_call (zs_S_lookBack h (by omega)) (fun r13 u14 h => ?_)
          refine pc_call (zs_E_firstToBring h (by omega) h53) (fun r15 u16 h => ?_)
          exact pc_w (zs_E_stays_95 h) (fun _ _ h => sj_mono h (by omega))
theorem sc_soonest {n : Int} {w : Wd} {v1 : Int} (h : LU w) (hs : SCR n w) (hn : n ≤ 2600) : PC (f_E_soonest v1 w) (fun _ u => SCR (n + 5) u) := by
  have he := lu_er h (fun _ _ => rfl)
  have hb : w 24 4 ≤ 5200000 := by have := hs.1.2; omega
  unfold f_E_soonest
  refine pc_call (zq_F_isThere rfl) (fun r1 u2 e => ?_)
  subst e
  refine pc_ite (fun _ => ?_) (fun _ => ?_)
  · exact pc_some (scr_mono hs (by omega))
  · refine zrun he hs hn (fun r3 u4 h h53 => ?_)
    refine pc_ite (fun _ => ?_) (fun _ => ?_)
    · exact pc_some (sj_mono h (by omega))
    · refine pc_call (zs_S_weeksWith h) (fun r5 u6 h => ?_)
      refine pc_call (zs_E_firstWeek h) (fun r7 u8 h => ?_)
      refine pc_ite (fun _ => ?_) (fun _ => ?_)
      · exact pc_some (sj_mono h (by omega))
      · exact pc_some (sj_mono h (by omega))
theorem sc_worth {n : Int} {w : Wd} {v1 : Int} (h : LU w) (hs : SCR n w) (hn : n ≤ 2600) : PC (f_E_worth v1 w) (fun _ u => SCR (n + 5) u) := by
  have he := lu_er h (fun _ _ => rfl)
  have hb : w 24 4 ≤ 5200000 := by have := hs.1.2; omega
  unfold f_E_worth
  refine pc_call (zq_F_free rfl) (fun r1 u2 e => ?_)
  subst e
  refine pc_call (zq_E_has rfl) (fun r3 u4 e => ?_)
  subst e
  refine pc_ite (fun _ => ?_) (fun _ => ?_)
  · exact pc_some (scr_mono hs (by omega))
  · refine zrun he hs hn (fun r5 u6 h h53 => ?_)
    refine pc_ite (fun _ => ?_) (fun _ => ?_)
    · exact pc_some (sj_mono h (by omega))
    · refine pc_call (zs_S_lastWeek h) (fun r7 u8 h => ?_)
      refine pc_ite (fun _ => ?_) (fun _ => ?_)
      · exact pc_some (sj_mono h (by omega))
      · refine pc_call (zs_S_lastWeek h) (fun r9 u10 h => ?_)
        exact pc_some (sj_mono h (by omega))
theorem sc_needed {n : Int} {w : Wd} (h : LU w) (hs : SCR n w) (hn : n ≤ 2600) : PC (f_E_needed  w) (fun _ u => SCR (n + 5) u) := by
  have he := lu_er h (fun _ _ => rfl)
  have hb : w 24 4 ≤ 5200000 := by have := hs.1.2; omega
  unfold f_E_needed
  refine zrun he hs hn (fun r1 u2 h h53 => ?_)
  refine pc_ite (fun _ => ?_) (fun _ => ?_)
  · exact pc_some (sj_mono h (by omega))
  · refine pc_call (zs_S_lastWeek h) (fun r3 u4 h => ?_)
    refine pc_ite (fun _ => ?_) (fun _ => ?_)
    · exact pc_some (sj_mono h (by omega))
    · exact pc_w (zs_E_needed_43 _ h) (fun _ _ h => sj_mono h (by omega))
theorem sc_never {n : Int} {w : Wd} (h : LU w) (hs : SCR n w) (hn : n ≤ 2600) : PC (f_E_never  w) (fun _ u => SCR (n + 5) u) := by
  have he := lu_er h (fun _ _ => rfl)
  have hb : w 24 4 ≤ 5200000 := by have := hs.1.2; omega
  unfold f_E_never
  refine zrun he hs hn (fun r1 u2 h h53 => ?_)
  refine pc_ite (fun _ => ?_) (fun _ => ?_)
  · exact pc_some (sj_mono h (by omega))
  · exact pc_w (zs_E_never_25 _ h) (fun _ _ h => sj_mono h (by omega))
theorem sc_can {n : Int} {w : Wd} (hs : SCR n w) (hn : n ≤ 2600) : PC (f_E_can w) (fun _ u => SCR (n + 5) u) := by
  have hb := hs.1.2
  exact pc_w (zs_E_can (sj_0 hs) (by omega)) (fun _ _ h => sj_scr hs h (by omega))
theorem sc_pairs {n : Int} {w : Wd} (hs : SCR n w) (hn : n ≤ 2600) : PC (f_E_pairs w) (fun _ u => SCR (n + 5) u) := by
  have hb := hs.1.2
  exact pc_w (zs_E_pairs (sj_0 hs) (by omega)) (fun _ _ h => sj_scr hs h (by omega))
theorem sc_bars {n : Int} {w : Wd} (hs : SCR n w) (hn : n ≤ 2600) : PC (f_E_bars w) (fun _ u => SCR (n + 5) u) := by
  have hb := hs.1.2
  exact pc_w (zs_E_bars (sj_0 hs) (by omega)) (fun _ _ h => sj_scr hs h (by omega))
/-! EVERY METHOD KEEPS ALL THAT BOTH HAVE IN COMMON, AND WHAT IS KEPT OF A SEARCH -/
def LV (n : Int) (w : Wd) : Prop := LU w ∧ SCR n w
theorem lv_mono {n m : Int} {w : Wd} (h : LV n w) (hn : n ≤ m) : LV m w := ⟨h.1, scr_mono h.2 hn⟩
theorem w0_LV : LV 0 w0 := by
  have e : w0 24 4 = 0 ∧ w0 28 9 = 0 := by decide +kernel
  have e27 : ∀ k : Nat, k < 1024 → w0 27 k = 0 := by decide +kernel
  exact ⟨w0_LU, ⟨⟨by rw [e.1]; decide, fun k hk => by rw [e.1, e27 k hk]; decide⟩, by rw [e.1]; decide⟩, fun f => absurd e.2 f⟩
theorem dv {xE : Option (Int × Wd)} {xR : Wd → Option (Int × Wd)} {m : Int} {X : Int → Int → Prop} (hd : OK xE (fun r1 u1 => OK (xR u1) (fun r2 u2 => LU u2 ∧ X r1 r2))) (hS : PC xE (fun _ u => SCR m u)) (hR : PC xE (fun _ u => PC (xR u) (fun _ u2 => ∀ c, c < 43 → u2 c = u c))) : OK xE (fun r1 u1 => OK (xR u1) (fun r2 u2 => LV m u2 ∧ X r1 r2)) := by
  obtain ⟨r1, u1, e1, r2, u2, e2, q1, q2⟩ := hd
  have f := hR r1 u1 e1 r2 u2 e2
  exact ⟨r1, u1, e1, r2, u2, e2, ⟨q1, scr_fr (hS r1 u1 e1) (f 5 (by decide)) (f 7 (by decide)) (f 24 (by decide)) (f 27 (by decide)) (f 28 (by decide)) (f 29 (by decide)) (f 30 (by decide)) (f 31 (by decide)) (f 35 (by decide))⟩, q2⟩
theorem dv2 {xE : Option (Int × Wd)} {xR : Wd → Option (Int × Wd)} {m : Int} {X : Int → Int → Wd → Prop} (hd : OK xE (fun r1 u1 => OK (xR u1) (fun r2 u2 => LU u2 ∧ X r1 r2 u2))) (hS : PC xE (fun _ u => SCR m u)) (hR : PC xE (fun _ u => PC (xR u) (fun _ u2 => ∀ c, c < 43 → u2 c = u c))) : OK xE (fun r1 u1 => OK (xR u1) (fun r2 u2 => LV m u2 ∧ X r1 r2 u2)) := by
  obtain ⟨r1, u1, e1, r2, u2, e2, q1, q2⟩ := hd
  have f := hR r1 u1 e1 r2 u2 e2
  exact ⟨r1, u1, e1, r2, u2, e2, ⟨q1, scr_fr (hS r1 u1 e1) (f 5 (by decide)) (f 7 (by decide)) (f 24 (by decide)) (f 27 (by decide)) (f 28 (by decide)) (f 29 (by decide)) (f 30 (by decide)) (f 31 (by decide)) (f 35 (by decide))⟩, q2⟩
theorem d_er2 {xE : Option (Int × Wd)} {xR : Wd → Option (Int × Wd)} {w : Wd} (h : LU w) (hd : OK xE (fun _ u1 => OK (xR u1) (fun _ u2 => LU u2 ∧ True))) (hG : PC xE (fun _ u => RS u ∧ ∀ c, 43 ≤ c → u c = w c)) (q : ∀ a, RS a → ER a w → PC xE (fun r _ => PC (xR a) (fun r' _ => r = r'))) : OK xE (fun r1 u1 => OK (xR u1) (fun r2 u2 => LU u2 ∧ r1 = r2)) := by
  obtain ⟨r1, u1, e1, h1⟩ := hd
  refine ⟨r1, u1, e1, ?_⟩
  obtain ⟨r2, u2, e2, h2, _⟩ := h1
  obtain ⟨g, hR⟩ := hG r1 u1 e1
  exact ⟨r2, u2, e2, h2, q u1 g (lu_er h hR) r1 u1 e1 r2 u2 e2⟩
theorem v_sign {n : Int} {w : Wd} {v1 : Int} (h : LV n w) (hn : n ≤ 2600) (i_v1 : ((-2147483648 : Int) ≤ v1 ∧ v1 ≤ 2147483647)) : OK (f_E_sign v1 w) (fun r1 u1 => OK (f_R_sign v1 u1) (fun r2 u2 => LV (n + 5) u2 ∧ r1 = r2)) := dv (xR := fun u => f_R_sign v1 u) (X := fun r1 r2 => r1 = r2) (d_sign h.1 i_v1) (pc_w (pc_ok (e_E_sign h.1.1.1 i_v1)) (fun _ _ q => scr_mono (scr_g h.2 q.1 rfl) (by omega))) (pc_w (pc_ok (e_E_sign h.1.1.1 i_v1)) (fun _ _ q => pc_w (pc_ok (e_R_sign q.2.1 i_v1)) (fun _ _ q2 => g_lo q2.1 rfl)))
theorem v_end {n : Int} {w : Wd} {v1 : Int} (h : LV n w) (hn : n ≤ 2600) (i_v1 : ((-2147483648 : Int) ≤ v1 ∧ v1 ≤ 2147483647)) : OK (f_E_end v1 w) (fun r1 u1 => OK (f_R_end v1 u1) (fun r2 u2 => LV (n + 5) u2 ∧ r1 = r2)) := dv (xR := fun u => f_R_end v1 u) (X := fun r1 r2 => r1 = r2) (d_end h.1 i_v1) (pc_w (pc_ok (e_E_end h.1.1.1 i_v1)) (fun _ _ q => scr_mono (scr_g h.2 q.1 rfl) (by omega))) (pc_w (pc_ok (e_E_end h.1.1.1 i_v1)) (fun _ _ q => pc_w (pc_ok (e_R_end q.2.1 i_v1)) (fun _ _ q2 => g_lo q2.1 rfl)))
theorem v_land {n : Int} {w : Wd} (h : LV n w) (hn : n ≤ 2600) : OK (f_E_land w) (fun r1 u1 => OK (f_R_land u1) (fun r2 u2 => LV (n + 5) u2 ∧ r1 = r2)) := dv (xR := fun u => f_R_land u) (X := fun r1 r2 => r1 = r2) (d_land h.1) (pc_w (pc_and (fg_land h.1.1.1.1) (pc_ok (e_E_land h.1.1.1))) (fun _ _ q => scr_mono (fgt_scr h.2 q.1 q.2.1 rfl) (by omega))) (pc_w (pc_ok (e_E_land h.1.1.1)) (fun _ _ q => pc_w (pc_ok (e_R_land q.2.1)) (fun _ _ q2 => g_lo q2.1 rfl)))
theorem v_rule {n : Int} {w : Wd} (h : LV n w) (hn : n ≤ 2600) : OK (f_E_rule w) (fun r1 u1 => OK (f_R_rule u1) (fun r2 u2 => LV (n + 5) u2 ∧ r1 = r2)) := dv (xR := fun u => f_R_rule u) (X := fun r1 r2 => r1 = r2) (d_rule h.1) (pc_w (pc_ok (e_E_rule h.1.1.1)) (fun _ _ q => scr_mono (scr_g h.2 q.1 rfl) (by omega))) (pc_w (pc_ok (e_E_rule h.1.1.1)) (fun _ _ q => pc_w (pc_ok (e_R_rule q.2.1)) (fun _ _ q2 => g_lo q2.1 rfl)))
theorem vq_of {n : Int} {w : Wd} {v1 v2 : Int} (h : LV n w) (hn : n ≤ 2600) (i_v1 : ((-2147483648 : Int) ≤ v1 ∧ v1 ≤ 2147483647)) (i_v2 : ((-2147483648 : Int) ≤ v2 ∧ v2 ≤ 2147483647)) : OK (f_A_of v1 v2 w) (fun r1 u1 => OK (f_R_of v1 v2 u1) (fun r2 u2 => LV (n + 5) u2 ∧ u2 43 16 = r1 ∧ (r1 = 0 ∨ r1 = 1) ∧ (r1 = 0 → u2 82 0 = r2))) := dv2 (xR := fun u => f_R_of v1 v2 u) (X := fun r1 r2 u2 => u2 43 16 = r1 ∧ (r1 = 0 ∨ r1 = 1) ∧ (r1 = 0 → u2 82 0 = r2)) (dq_of h.1 i_v1 i_v2) (pc_w (pc_ok (e_A_of h.1.1.1 i_v1 i_v2)) (fun _ _ q => scr_mono (scr_fr h.2 (q.2 5 (by decide)) (q.2 7 (by decide)) (q.2 24 (by decide)) (q.2 27 (by decide)) (q.2 28 (by decide)) (q.2 29 (by decide)) (q.2 30 (by decide)) (q.2 31 (by decide)) (q.2 35 (by decide))) (by omega))) (pc_w (pc_ok (e_A_of h.1.1.1 i_v1 i_v2)) (fun _ _ q => pc_w (pc_ok (e_R_of q.1 i_v1 i_v2)) (fun _ _ q2 => g_lo q2.1 rfl)))
theorem v_of {n : Int} {w : Wd} {v1 v2 : Int} (h : LV n w) (hn : n ≤ 2600) (i_v1 : ((-2147483648 : Int) ≤ v1 ∧ v1 ≤ 2147483647)) (i_v2 : ((-2147483648 : Int) ≤ v2 ∧ v2 ≤ 2147483647)) : OK (f_A_of v1 v2 w) (fun r1 u1 => OK (f_R_of v1 v2 u1) (fun r2 u2 => LV (n + 5) u2 ∧ True)) := dv (xR := fun u => f_R_of v1 v2 u) (X := fun r1 r2 => True) (d_of h.1 i_v1 i_v2) (pc_w (pc_ok (e_A_of h.1.1.1 i_v1 i_v2)) (fun _ _ q => scr_mono (scr_fr h.2 (q.2 5 (by decide)) (q.2 7 (by decide)) (q.2 24 (by decide)) (q.2 27 (by decide)) (q.2 28 (by decide)) (q.2 29 (by decide)) (q.2 30 (by decide)) (q.2 31 (by decide)) (q.2 35 (by decide))) (by omega))) (pc_w (pc_ok (e_A_of h.1.1.1 i_v1 i_v2)) (fun _ _ q => pc_w (pc_ok (e_R_of q.1 i_v1 i_v2)) (fun _ _ q2 => g_lo q2.1 rfl)))
theorem v_law {n : Int} {w : Wd} {v1 v2 : Int} (h : LV n w) (hn : n ≤ 2600) (i_v1 : ((-2147483648 : Int) ≤ v1 ∧ v1 ≤ 2147483647)) (i_v2 : ((-2147483648 : Int) ≤ v2 ∧ v2 ≤ 2147483647)) : OK (f_E_law v1 v2 w) (fun r1 u1 => OK (f_R_law v1 v2 u1) (fun r2 u2 => LV (n + 5) u2 ∧ r1 = r2)) := dv (xR := fun u => f_R_law v1 v2 u) (X := fun r1 r2 => r1 = r2) (d_law h.1 i_v1 i_v2) (pc_w (pc_and (fg_law) (pc_ok (e_E_law h.1.1.1 i_v1 i_v2))) (fun _ _ q => scr_mono (fgt_scr h.2 q.1 q.2.1 rfl) (by omega))) (pc_w (pc_ok (e_E_law h.1.1.1 i_v1 i_v2)) (fun _ _ q => pc_w (pc_ok (e_R_law q.2 i_v1 i_v2)) (fun _ _ q2 => g_lo q2.1 rfl)))
theorem v_meet {n : Int} {w : Wd} {v1 v2 v3 : Int} (h : LV n w) (hn : n ≤ 2600) (i_v1 : ((-2147483648 : Int) ≤ v1 ∧ v1 ≤ 2147483647)) (i_v2 : ((-2147483648 : Int) ≤ v2 ∧ v2 ≤ 2147483647)) (i_v3 : ((0 : Int) ≤ v3 ∧ v3 ≤ 1)) : OK (f_E_meet v1 v2 v3 w) (fun r1 u1 => OK (f_R_meet v1 v2 v3 u1) (fun r2 u2 => LV (n + 5) u2 ∧ r1 = r2)) := dv (xR := fun u => f_R_meet v1 v2 v3 u) (X := fun r1 r2 => r1 = r2) (d_meet h.1 i_v1 i_v2 i_v3) (pc_w (pc_and (fg_meet) (pc_ok (e_E_meet h.1.1.1 i_v1 i_v2 i_v3))) (fun _ _ q => scr_mono (fgt_scr h.2 q.1 q.2.1 rfl) (by omega))) (pc_w (pc_ok (e_E_meet h.1.1.1 i_v1 i_v2 i_v3)) (fun _ _ q => pc_w (pc_ok (e_R_meet q.2 i_v1 i_v2 i_v3)) (fun _ _ q2 => g_lo q2.1 rfl)))
theorem v_hide {n : Int} {w : Wd} {v1 v2 : Int} (h : LV n w) (hn : n ≤ 2600) (i_v1 : ((-2147483648 : Int) ≤ v1 ∧ v1 ≤ 2147483647)) (i_v2 : ((0 : Int) ≤ v2 ∧ v2 ≤ 1)) : OK (f_E_hide v1 v2 w) (fun r1 u1 => OK (f_R_hide v1 v2 u1) (fun r2 u2 => LV (n + 5) u2 ∧ r1 = r2)) := dv (xR := fun u => f_R_hide v1 v2 u) (X := fun r1 r2 => r1 = r2) (d_hide h.1 i_v1 i_v2) (pc_w (pc_and (fg_hide) (pc_ok (e_E_hide h.1.1.1 i_v1 i_v2))) (fun _ _ q => scr_mono (fgt_scr h.2 q.1 q.2.1 rfl) (by omega))) (pc_w (pc_ok (e_E_hide h.1.1.1 i_v1 i_v2)) (fun _ _ q => pc_w (pc_ok (e_R_hide q.2 i_v1 i_v2)) (fun _ _ q2 => g_lo q2.1 rfl)))
theorem v_baby {n : Int} {w : Wd} {v1 : Int} (h : LV n w) (hn : n ≤ 2600) (i_v1 : ((-2147483648 : Int) ≤ v1 ∧ v1 ≤ 2147483647)) : OK (f_E_baby v1 w) (fun r1 u1 => OK (f_R_baby v1 u1) (fun r2 u2 => LV (n + 5) u2 ∧ r1 = r2)) := dv (xR := fun u => f_R_baby v1 u) (X := fun r1 r2 => r1 = r2) (d_baby h.1 i_v1) (pc_w (pc_and (fg_baby) (pc_ok (e_E_baby h.1.1.1 i_v1))) (fun _ _ q => scr_mono (fgt_scr h.2 q.1 q.2.1 rfl) (by omega))) (pc_w (pc_ok (e_E_baby h.1.1.1 i_v1)) (fun _ _ q => pc_w (pc_ok (e_R_baby q.2 i_v1)) (fun _ _ q2 => g_lo q2.1 rfl)))
theorem v_sheet {n : Int} {w : Wd} {v1 v2 v3 v4 : Int} (h : LV n w) (hn : n ≤ 2600) (i_v1 : ((-2147483648 : Int) ≤ v1 ∧ v1 ≤ 2147483647)) (i_v2 : ((-2147483648 : Int) ≤ v2 ∧ v2 ≤ 2147483647)) (i_v3 : ((-2147483648 : Int) ≤ v3 ∧ v3 ≤ 2147483647)) (i_v4 : ((-2147483648 : Int) ≤ v4 ∧ v4 ≤ 2147483647)) : OK (f_E_sheet v1 v2 v3 v4 w) (fun r1 u1 => OK (f_R_sheet v1 v2 v3 v4 u1) (fun r2 u2 => LV (n + 5) u2 ∧ r1 = r2)) := dv (xR := fun u => f_R_sheet v1 v2 v3 v4 u) (X := fun r1 r2 => r1 = r2) (d_sheet h.1 i_v1 i_v2 i_v3 i_v4) (pc_w (pc_ok (e_E_sheet h.1.1.1 i_v1 i_v2 i_v3 i_v4)) (fun _ _ q => scr_mono (scr_g h.2 q.1 rfl) (by omega))) (pc_w (pc_ok (e_E_sheet h.1.1.1 i_v1 i_v2 i_v3 i_v4)) (fun _ _ q => pc_w (pc_ok (e_R_sheet q.2 i_v1 i_v2 i_v3 i_v4)) (fun _ _ q2 => g_lo q2.1 rfl)))
theorem v_week {n : Int} {w : Wd} (h : LV n w) (hn : n ≤ 2600) : OK (f_E_week w) (fun r1 u1 => OK (f_R_week u1) (fun r2 u2 => LV (n + 5) u2 ∧ r1 = r2)) := dv (xR := fun u => f_R_week u) (X := fun r1 r2 => r1 = r2) (d_week h.1) (pc_w (pc_and (fg_week h.1.1.1.1) (pc_ok (e_E_week h.1.1.1))) (fun _ _ q => scr_mono (fgt_scr h.2 q.1 q.2.1 rfl) (by omega))) (pc_w (pc_ok (e_E_week h.1.1.1)) (fun _ _ q => pc_w (pc_ok (e_R_week q.2.1)) (fun _ _ q2 => g_lo q2.1 rfl)))
theorem v_goes {n : Int} {w : Wd} {v1 : Int} (h : LV n w) (hn : n ≤ 2600) (i_v1 : ((-2147483648 : Int) ≤ v1 ∧ v1 ≤ 2147483647)) : OK (f_E_goes v1 w) (fun r1 u1 => OK (f_R_goes v1 u1) (fun r2 u2 => LV (n + 5) u2 ∧ r1 = r2)) := dv (xR := fun u => f_R_goes v1 u) (X := fun r1 r2 => r1 = r2) (d_goes h.1 i_v1) (pc_w (pc_and (fg_goes h.1.1.1.1) (pc_ok (e_E_goes h.1.1.1 i_v1))) (fun _ _ q => scr_mono (fgt_scr h.2 q.1 q.2.1 rfl) (by omega))) (pc_w (pc_ok (e_E_goes h.1.1.1 i_v1)) (fun _ _ q => pc_w (pc_ok (e_R_goes q.2 i_v1)) (fun _ _ q2 => g_lo q2.1 rfl)))
theorem v_undo {n : Int} {w : Wd} (h : LV n w) (hn : n ≤ 2600) : OK (f_E_undo w) (fun r1 u1 => OK (f_R_undo u1) (fun r2 u2 => LV (n + 5) u2 ∧ r1 = r2)) := dv (xR := fun u => f_R_undo u) (X := fun r1 r2 => r1 = r2) (d_undo h.1) (pc_w (pc_and (fg_undo h.1.1.1.1) (pc_ok (e_E_undo h.1.1.1))) (fun _ _ q => scr_mono (fgt_scr h.2 q.1 q.2.1 rfl) (by omega))) (pc_w (pc_ok (e_E_undo h.1.1.1)) (fun _ _ q => pc_w (pc_ok (e_R_undo q.2)) (fun _ _ q2 => g_lo q2.1 rfl)))
theorem v_can {n : Int} {w : Wd} (h : LV n w) (hn : n ≤ 2600) : OK (f_E_can w) (fun r1 u1 => OK (f_R_can u1) (fun r2 u2 => LV (n + 5) u2 ∧ True)) := dv (xR := fun u => f_R_can u) (X := fun r1 r2 => True) (d_can h.1) (sc_can h.2 hn) (pc_w (pc_ok (e_E_can h.1.1.1)) (fun _ _ q => pc_w (pc_ok (e_R_can q.2)) (fun _ _ q2 => g_lo q2.1 rfl)))
theorem v_picks {n : Int} {w : Wd} {v1 : Int} (h : LV n w) (hn : n ≤ 2600) (i_v1 : ((-2147483648 : Int) ≤ v1 ∧ v1 ≤ 2147483647)) : OK (f_E_picks v1 w) (fun r1 u1 => OK (f_R_picks v1 u1) (fun r2 u2 => LV (n + 5) u2 ∧ r1 = r2)) := dv (xR := fun u => f_R_picks v1 u) (X := fun r1 r2 => r1 = r2) (d_picks h.1 i_v1) (pc_w (pc_ok (e_E_picks h.1.1.1 i_v1)) (fun _ _ q => scr_mono (scr_g h.2 q.1 rfl) (by omega))) (pc_w (pc_ok (e_E_picks h.1.1.1 i_v1)) (fun _ _ q => pc_w (pc_ok (e_R_picks q.2 i_v1)) (fun _ _ q2 => g_lo q2.1 rfl)))
theorem v_pairs {n : Int} {w : Wd} (h : LV n w) (hn : n ≤ 2600) : OK (f_E_pairs w) (fun r1 u1 => OK (f_R_pairs u1) (fun r2 u2 => LV (n + 5) u2 ∧ r1 = r2)) := dv (xR := fun u => f_R_pairs u) (X := fun r1 r2 => r1 = r2) (d_er2 (xR := fun u => f_R_pairs u) h.1 (d_pairs h.1) (pc_w (pc_ok (e_E_pairs h.1.1.1)) (fun _ _ q => ⟨q.2, g_hi q.1 (by decide)⟩)) (fun a ga ha => er_pairs ha h.2.1.1 (by have := h.2.1.2; omega))) (sc_pairs h.2 hn) (pc_w (pc_ok (e_E_pairs h.1.1.1)) (fun _ _ q => pc_w (pc_ok (e_R_pairs q.2)) (fun _ _ q2 => g_lo q2.1 rfl)))
theorem v_bars {n : Int} {w : Wd} (h : LV n w) (hn : n ≤ 2600) : OK (f_E_bars w) (fun r1 u1 => OK (f_R_bars u1) (fun r2 u2 => LV (n + 5) u2 ∧ r1 = r2)) := dv (xR := fun u => f_R_bars u) (X := fun r1 r2 => r1 = r2) (d_er2 (xR := fun u => f_R_bars u) h.1 (d_bars h.1) (pc_w (pc_ok (e_E_bars h.1.1.1)) (fun _ _ q => ⟨q.2, g_hi q.1 (by decide)⟩)) (fun a ga ha => er_bars ha h.2.1.1 (by have := h.2.1.2; omega))) (sc_bars h.2 hn) (pc_w (pc_ok (e_E_bars h.1.1.1)) (fun _ _ q => pc_w (pc_ok (e_R_bars q.2)) (fun _ _ q2 => g_lo q2.1 rfl)))
theorem v_states {n : Int} {w : Wd} (h : LV n w) (hn : n ≤ 2600) : OK (f_E_states w) (fun r1 u1 => OK (f_R_states u1) (fun r2 u2 => LV (n + 5) u2 ∧ r1 = r2)) := dv (xR := fun u => f_R_states u) (X := fun r1 r2 => r1 = r2) (d_er2 (xR := fun u => f_R_states u) h.1 (d_states h.1) (pc_w (pc_ok (e_E_states h.1.1.1)) (fun _ _ q => ⟨q.2, g_hi q.1 (by decide)⟩)) (fun a ga ha => er_states (er_prm ha) ga.1 h.2 hn h.2.2)) (sc_states h.1 h.2 hn) (pc_w (pc_ok (e_E_states h.1.1.1)) (fun _ _ q => pc_w (pc_ok (e_R_states q.2)) (fun _ _ q2 => g_lo q2.1 rfl)))
theorem v_most {n : Int} {w : Wd} {v1 : Int} (h : LV n w) (hn : n ≤ 2600) (i_v1 : ((-2147483648 : Int) ≤ v1 ∧ v1 ≤ 2147483647)) : OK (f_E_most v1 w) (fun r1 u1 => OK (f_R_most v1 u1) (fun r2 u2 => LV (n + 5) u2 ∧ r1 = r2)) := dv (xR := fun u => f_R_most v1 u) (X := fun r1 r2 => r1 = r2) (d_er2 (xR := fun u => f_R_most v1 u) h.1 (d_most h.1 i_v1) (pc_w (pc_ok (e_E_most h.1.1.1 i_v1)) (fun _ _ q => ⟨q.2, g_hi q.1 (by decide)⟩)) (fun a ga ha => er_most (er_prm ha) ga.1 h.2 hn h.2.2)) (sc_most h.1 h.2 hn) (pc_w (pc_ok (e_E_most h.1.1.1 i_v1)) (fun _ _ q => pc_w (pc_ok (e_R_most q.2 i_v1)) (fun _ _ q2 => g_lo q2.1 rfl)))
theorem v_reach {n : Int} {w : Wd} {v1 : Int} (h : LV n w) (hn : n ≤ 2600) (i_v1 : ((-2147483648 : Int) ≤ v1 ∧ v1 ≤ 2147483647)) : OK (f_E_reach v1 w) (fun r1 u1 => OK (f_R_reach v1 u1) (fun r2 u2 => LV (n + 5) u2 ∧ r1 = r2)) := dv (xR := fun u => f_R_reach v1 u) (X := fun r1 r2 => r1 = r2) (d_er2 (xR := fun u => f_R_reach v1 u) h.1 (d_reach h.1 i_v1) (pc_w (pc_ok (e_E_reach h.1.1.1 i_v1)) (fun _ _ q => ⟨q.2, g_hi q.1 (by decide)⟩)) (fun a ga ha => er_reach (er_prm ha) ga.1 h.2 hn h.2.2)) (sc_reach h.1 h.2 hn) (pc_w (pc_ok (e_E_reach h.1.1.1 i_v1)) (fun _ _ q => pc_w (pc_ok (e_R_reach q.2 i_v1)) (fun _ _ q2 => g_lo q2.1 rfl)))
theorem v_fewest {n : Int} {w : Wd} {v1 : Int} (h : LV n w) (hn : n ≤ 2600) (i_v1 : ((-2147483648 : Int) ≤ v1 ∧ v1 ≤ 2147483647)) : OK (f_E_fewest v1 w) (fun r1 u1 => OK (f_R_fewest v1 u1) (fun r2 u2 => LV (n + 5) u2 ∧ r1 = r2)) := dv (xR := fun u => f_R_fewest v1 u) (X := fun r1 r2 => r1 = r2) (d_er2 (xR := fun u => f_R_fewest v1 u) h.1 (d_fewest h.1 i_v1) (pc_w (pc_ok (e_E_fewest h.1.1.1 i_v1)) (fun _ _ q => ⟨q.2, g_hi q.1 (by decide)⟩)) (fun a ga ha => er_fewest (er_prm ha) ga.1 h.2 hn h.2.2)) (sc_fewest h.1 h.2 hn) (pc_w (pc_ok (e_E_fewest h.1.1.1 i_v1)) (fun _ _ q => pc_w (pc_ok (e_R_fewest q.2 i_v1)) (fun _ _ q2 => g_lo q2.1 rfl)))
theorem v_crowd {n : Int} {w : Wd} (h : LV n w) (hn : n ≤ 2600) : OK (f_E_crowd w) (fun r1 u1 => OK (f_R_crowd u1) (fun r2 u2 => LV (n + 5) u2 ∧ r1 = r2)) := dv (xR := fun u => f_R_crowd u) (X := fun r1 r2 => r1 = r2) (d_er2 (xR := fun u => f_R_crowd u) h.1 (d_crowd h.1) (pc_w (pc_ok (e_E_crowd h.1.1.1)) (fun _ _ q => ⟨q.2, g_hi q.1 (by decide)⟩)) (fun a ga ha => er_crowd (er_prm ha) ga.1 h.2 hn h.2.2)) (sc_crowd h.1 h.2 hn) (pc_w (pc_ok (e_E_crowd h.1.1.1)) (fun _ _ q => pc_w (pc_ok (e_R_crowd q.2)) (fun _ _ q2 => g_lo q2.1 rfl)))
theorem v_both {n : Int} {w : Wd} {v1 v2 v3 : Int} (h : LV n w) (hn : n ≤ 2600) (i_v1 : ((-2147483648 : Int) ≤ v1 ∧ v1 ≤ 2147483647)) (i_v2 : ((-2147483648 : Int) ≤ v2 ∧ v2 ≤ 2147483647)) (i_v3 : ((-2147483648 : Int) ≤ v3 ∧ v3 ≤ 2147483647)) : OK (f_E_both v1 v2 v3 w) (fun r1 u1 => OK (f_R_both v1 v2 v3 u1) (fun r2 u2 => LV (n + 5) u2 ∧ r1 = r2)) := dv (xR := fun u => f_R_both v1 v2 v3 u) (X := fun r1 r2 => r1 = r2) (d_er2 (xR := fun u => f_R_both v1 v2 v3 u) h.1 (d_both h.1 i_v1 i_v2 i_v3) (pc_w (pc_ok (e_E_both h.1.1.1 i_v1 i_v2 i_v3)) (fun _ _ q => ⟨q.2, g_hi q.1 (by decide)⟩)) (fun a ga ha => er_both (er_prm ha) ga.1 h.2 hn h.2.2)) (sc_both h.1 h.2 hn) (pc_w (pc_ok (e_E_both h.1.1.1 i_v1 i_v2 i_v3)) (fun _ _ q => pc_w (pc_ok (e_R_both q.2 i_v1 i_v2 i_v3)) (fun _ _ q2 => g_lo q2.1 rfl)))
theorem v_last {n : Int} {w : Wd} (h : LV n w) (hn : n ≤ 2600) : OK (f_E_last w) (fun r1 u1 => OK (f_R_last u1) (fun r2 u2 => LV (n + 5) u2 ∧ r1 = r2)) := dv (xR := fun u => f_R_last u) (X := fun r1 r2 => r1 = r2) (d_er2 (xR := fun u => f_R_last u) h.1 (d_last h.1) (pc_w (pc_ok (e_E_last h.1.1.1)) (fun _ _ q => ⟨q.2, g_hi q.1 (by decide)⟩)) (fun a ga ha => er_last (er_prm ha) ga.1 h.2 hn h.2.2)) (sc_last h.1 h.2 hn) (pc_w (pc_ok (e_E_last h.1.1.1)) (fun _ _ q => pc_w (pc_ok (e_R_last q.2)) (fun _ _ q2 => g_lo q2.1 rfl)))
theorem v_begin {n : Int} {w : Wd} (h : LV n w) (hn : n ≤ 2600) : OK (f_E_begin w) (fun r1 u1 => OK (f_R_begin2 u1) (fun r2 u2 => LV (n + 5) u2 ∧ r1 = r2)) := dv (xR := fun u => f_R_begin2 u) (X := fun r1 r2 => r1 = r2) (d_er2 (xR := fun u => f_R_begin2 u) h.1 (d_begin h.1) (pc_w (pc_ok (e_E_begin h.1.1.1)) (fun _ _ q => ⟨q.2, g_hi q.1 (by decide)⟩)) (fun a ga ha => er_begin (er_prm ha) ga.1 h.2 hn h.2.2)) (sc_begin h.1 h.2 hn) (pc_w (pc_ok (e_E_begin h.1.1.1)) (fun _ _ q => pc_w (pc_ok (e_R_begin2 q.2)) (fun _ _ q2 => g_lo q2.1 rfl)))
theorem v_cheap {n : Int} {w : Wd} {v1 : Int} (h : LV n w) (hn : n ≤ 2600) (i_v1 : ((-2147483648 : Int) ≤ v1 ∧ v1 ≤ 2147483647)) : OK (f_E_cheap v1 w) (fun r1 u1 => OK (f_R_cheap v1 u1) (fun r2 u2 => LV (n + 5) u2 ∧ r1 = r2)) := dv (xR := fun u => f_R_cheap v1 u) (X := fun r1 r2 => r1 = r2) (d_er2 (xR := fun u => f_R_cheap v1 u) h.1 (d_cheap h.1 i_v1) (pc_w (pc_ok (e_E_cheap h.1.1.1 i_v1)) (fun _ _ q => ⟨q.2, g_hi q.1 (by decide)⟩)) (fun a ga ha => er_cheap (er_prm ha) ga.1 h.2 hn h.2.2)) (sc_cheap h.1 h.2 hn) (pc_w (pc_ok (e_E_cheap h.1.1.1 i_v1)) (fun _ _ q => pc_w (pc_ok (e_R_cheap q.2 i_v1)) (fun _ _ q2 => g_lo q2.1 rfl)))
theorem v_stays {n : Int} {w : Wd} {v1 : Int} (h : LV n w) (hn : n ≤ 2600) (i_v1 : ((-2147483648 : Int) ≤ v1 ∧ v1 ≤ 2147483647)) : OK (f_E_stays v1 w) (fun r1 u1 => OK (f_R_stays v1 u1) (fun r2 u2 => LV (n + 5) u2 ∧ r1 = r2)) := dv (xR := fun u => f_R_stays v1 u) (X := fun r1 r2 => r1 = r2) (d_er2 (xR := fun u => f_R_stays v1 u) h.1 (d_stays h.1 i_v1) (pc_w (pc_ok (e_E_stays h.1.1.1 i_v1)) (fun _ _ q => ⟨q.2, g_hi q.1 (by decide)⟩)) (fun a ga ha => er_stays (er_prm ha) ga.1 h.2 hn h.2.2)) (sc_stays h.1 h.2 hn) (pc_w (pc_ok (e_E_stays h.1.1.1 i_v1)) (fun _ _ q => pc_w (pc_ok (e_R_stays q.2 i_v1)) (fun _ _ q2 => g_lo q2.1 rfl)))
theorem v_soonest {n : Int} {w : Wd} {v1 : Int} (h : LV n w) (hn : n ≤ 2600) (i_v1 : ((-2147483648 : Int) ≤ v1 ∧ v1 ≤ 2147483647)) : OK (f_E_soonest v1 w) (fun r1 u1 => OK (f_R_soonest v1 u1) (fun r2 u2 => LV (n + 5) u2 ∧ r1 = r2)) := dv (xR := fun u => f_R_soonest v1 u) (X := fun r1 r2 => r1 = r2) (d_er2 (xR := fun u => f_R_soonest v1 u) h.1 (d_soonest h.1 i_v1) (pc_w (pc_ok (e_E_soonest h.1.1.1 i_v1)) (fun _ _ q => ⟨q.2, g_hi q.1 (by decide)⟩)) (fun a ga ha => er_soonest (er_prm ha) ga.1 h.2 hn h.2.2)) (sc_soonest h.1 h.2 hn) (pc_w (pc_ok (e_E_soonest h.1.1.1 i_v1)) (fun _ _ q => pc_w (pc_ok (e_R_soonest q.2 i_v1)) (fun _ _ q2 => g_lo q2.1 rfl)))
theorem v_worth {n : Int} {w : Wd} {v1 : Int} (h : LV n w) (hn : n ≤ 2600) (i_v1 : ((-2147483648 : Int) ≤ v1 ∧ v1 ≤ 2147483647)) : OK (f_E_worth v1 w) (fun r1 u1 => OK (f_R_worth v1 u1) (fun r2 u2 => LV (n + 5) u2 ∧ r1 = r2)) := dv (xR := fun u => f_R_worth v1 u) (X := fun r1 r2 => r1 = r2) (d_er2 (xR := fun u => f_R_worth v1 u) h.1 (d_worth h.1 i_v1) (pc_w (pc_ok (e_E_worth h.1.1.1 i_v1)) (fun _ _ q => ⟨q.2, g_hi q.1 (by decide)⟩)) (fun a ga ha => er_worth (er_prm ha) ga.1 h.2 hn h.2.2)) (sc_worth h.1 h.2 hn) (pc_w (pc_ok (e_E_worth h.1.1.1 i_v1)) (fun _ _ q => pc_w (pc_ok (e_R_worth q.2 i_v1)) (fun _ _ q2 => g_lo q2.1 rfl)))
theorem v_needed {n : Int} {w : Wd} (h : LV n w) (hn : n ≤ 2600) : OK (f_E_needed w) (fun r1 u1 => OK (f_R_needed u1) (fun r2 u2 => LV (n + 5) u2 ∧ r1 = r2)) := dv (xR := fun u => f_R_needed u) (X := fun r1 r2 => r1 = r2) (d_er2 (xR := fun u => f_R_needed u) h.1 (d_needed h.1) (pc_w (pc_ok (e_E_needed h.1.1.1)) (fun _ _ q => ⟨q.2, g_hi q.1 (by decide)⟩)) (fun a ga ha => er_needed (er_prm ha) ga.1 h.2 hn h.2.2)) (sc_needed h.1 h.2 hn) (pc_w (pc_ok (e_E_needed h.1.1.1)) (fun _ _ q => pc_w (pc_ok (e_R_needed q.2)) (fun _ _ q2 => g_lo q2.1 rfl)))
theorem v_never {n : Int} {w : Wd} (h : LV n w) (hn : n ≤ 2600) : OK (f_E_never w) (fun r1 u1 => OK (f_R_never u1) (fun r2 u2 => LV (n + 5) u2 ∧ r1 = r2)) := dv (xR := fun u => f_R_never u) (X := fun r1 r2 => r1 = r2) (d_er2 (xR := fun u => f_R_never u) h.1 (d_never h.1) (pc_w (pc_ok (e_E_never h.1.1.1)) (fun _ _ q => ⟨q.2, g_hi q.1 (by decide)⟩)) (fun a ga ha => er_never (er_prm ha) ga.1 h.2 hn h.2.2)) (sc_never h.1 h.2 hn) (pc_w (pc_ok (e_E_never h.1.1.1)) (fun _ _ q => pc_w (pc_ok (e_R_never q.2)) (fun _ _ q2 => g_lo q2.1 rfl)))
theorem v_bound {n : Int} {w : Wd} (h : LV n w) (hn : n ≤ 2600) : OK (f_E_bound w) (fun r1 u1 => OK (f_R_bound u1) (fun r2 u2 => LV (n + 5) u2 ∧ r1 = r2)) := dv (xR := fun u => f_R_bound u) (X := fun r1 r2 => r1 = r2) (dq_bound h.1) (pc_w (pc_ok (e_E_bound h.1.1.1)) (fun _ _ q => scr_mono (scr_g h.2 q.1 rfl) (by omega))) (pc_w (pc_ok (e_E_bound h.1.1.1)) (fun _ _ q => pc_w (pc_ok (e_R_bound q.2)) (fun _ _ q2 => g_lo q2.1 rfl)))
theorem v_far {n : Int} {w : Wd} {v1 : Int} (h : LV n w) (hn : n ≤ 2600) (i_v1 : ((-2147483648 : Int) ≤ v1 ∧ v1 ≤ 2147483647)) : OK (f_E_far v1 w) (fun r1 u1 => OK (f_R_far v1 u1) (fun r2 u2 => LV (n + 5) u2 ∧ r1 = r2)) := dv (xR := fun u => f_R_far v1 u) (X := fun r1 r2 => r1 = r2) (d_er2 (xR := fun u => f_R_far v1 u) h.1 (d_far h.1 i_v1) (pc_w (pc_ok (e_E_far h.1.1.1 i_v1)) (fun _ _ q => ⟨q.2, g_hi q.1 (by decide)⟩)) (fun a ga ha => er_far ha (ks_kb ga.2.2))) (pc_w (pc_ok (e_E_far h.1.1.1 i_v1)) (fun _ _ q => scr_mono (scr_g h.2 q.1 rfl) (by omega))) (pc_w (pc_ok (e_E_far h.1.1.1 i_v1)) (fun _ _ q => pc_w (pc_ok (e_R_far q.2 i_v1)) (fun _ _ q2 => g_lo q2.1 rfl)))
theorem v_line {n : Int} {w : Wd} {v1 : Int} (h : LV n w) (hn : n ≤ 2600) (i_v1 : ((-2147483648 : Int) ≤ v1 ∧ v1 ≤ 2147483647)) : OK (f_E_line v1 w) (fun r1 u1 => OK (f_R_line v1 u1) (fun r2 u2 => LV (n + 5) u2 ∧ r1 = r2)) := dv (xR := fun u => f_R_line v1 u) (X := fun r1 r2 => r1 = r2) (dq_line h.1 i_v1) (pc_w (pc_ok (e_E_line h.1.1.1 i_v1)) (fun _ _ q => scr_mono (scr_g h.2 q.1 rfl) (by omega))) (pc_w (pc_ok (e_E_line h.1.1.1 i_v1)) (fun _ _ q => pc_w (pc_ok (e_R_line q.2 i_v1)) (fun _ _ q2 => g_lo q2.1 rfl)))
theorem v_led {n : Int} {w : Wd} {v1 : Int} (h : LV n w) (hn : n ≤ 2600) (i_v1 : ((-2147483648 : Int) ≤ v1 ∧ v1 ≤ 2147483647)) : OK (f_E_led v1 w) (fun r1 u1 => OK (f_R_led v1 u1) (fun r2 u2 => LV (n + 5) u2 ∧ r1 = r2)) := dv (xR := fun u => f_R_led v1 u) (X := fun r1 r2 => r1 = r2) (dq_led h.1 i_v1) (pc_w (pc_ok (e_E_led h.1.1.1 i_v1)) (fun _ _ q => scr_mono (scr_g h.2 q.1 rfl) (by omega))) (pc_w (pc_ok (e_E_led h.1.1.1 i_v1)) (fun _ _ q => pc_w (pc_ok (e_R_led q.2 i_v1)) (fun _ _ q2 => g_lo q2.1 rfl)))
theorem v_was {n : Int} {w : Wd} {v1 : Int} (h : LV n w) (hn : n ≤ 2600) (i_v1 : ((-2147483648 : Int) ≤ v1 ∧ v1 ≤ 2147483647)) : OK (f_E_was v1 w) (fun r1 u1 => OK (f_R_was v1 u1) (fun r2 u2 => LV (n + 5) u2 ∧ r1 = r2)) := dv (xR := fun u => f_R_was v1 u) (X := fun r1 r2 => r1 = r2) (dq_was h.1 i_v1) (pc_w (pc_ok (e_E_was h.1.1.1 i_v1)) (fun _ _ q => scr_mono (scr_g h.2 q.1 rfl) (by omega))) (pc_w (pc_ok (e_E_was h.1.1.1 i_v1)) (fun _ _ q => pc_w (pc_ok (e_R_was q.2 i_v1)) (fun _ _ q2 => g_lo q2.1 rfl)))
theorem v_common {n : Int} {w : Wd} {v1 v2 : Int} (h : LV n w) (hn : n ≤ 2600) (i_v1 : ((-2147483648 : Int) ≤ v1 ∧ v1 ≤ 2147483647)) (i_v2 : ((-2147483648 : Int) ≤ v2 ∧ v2 ≤ 2147483647)) : OK (f_E_common v1 v2 w) (fun r1 u1 => OK (f_R_common v1 v2 u1) (fun r2 u2 => LV (n + 5) u2 ∧ r1 = r2)) := dv (xR := fun u => f_R_common v1 v2 u) (X := fun r1 r2 => r1 = r2) (dq_common h.1 i_v1 i_v2) (pc_w (pc_ok (e_E_common h.1.1.1 i_v1 i_v2)) (fun _ _ q => scr_mono (scr_g h.2 q.1 rfl) (by omega))) (pc_w (pc_ok (e_E_common h.1.1.1 i_v1 i_v2)) (fun _ _ q => pc_w (pc_ok (e_R_common q.2 i_v1 i_v2)) (fun _ _ q2 => g_lo q2.1 rfl)))
theorem v_father {n : Int} {w : Wd} (h : LV n w) (hn : n ≤ 2600) : OK (f_E_father w) (fun r1 u1 => OK (f_R_father u1) (fun r2 u2 => LV (n + 5) u2 ∧ r1 = r2)) := dv (xR := fun u => f_R_father u) (X := fun r1 r2 => r1 = r2) (dq_father h.1) (pc_w (pc_ok (e_E_father h.1.1.1)) (fun _ _ q => scr_mono (scr_g h.2 q.1 rfl) (by omega))) (pc_w (pc_ok (e_E_father h.1.1.1)) (fun _ _ q => pc_w (pc_ok (e_R_father q.2)) (fun _ _ q2 => g_lo q2.1 rfl)))
theorem v_keep {n : Int} {w : Wd} {v1 : Int} (h : LV n w) (hn : n ≤ 2600) (i_v1 : ((-2147483648 : Int) ≤ v1 ∧ v1 ≤ 2147483647)) : OK (f_E_keep v1 w) (fun r1 u1 => OK (f_R_keep v1 u1) (fun r2 u2 => LV (n + 5) u2 ∧ r1 = r2)) := dv (xR := fun u => f_R_keep v1 u) (X := fun r1 r2 => r1 = r2) (d_keep h.1 i_v1) (pc_w (pc_ok (e_E_keep h.1.1.1 i_v1)) (fun _ _ q => scr_mono (scr_g h.2 q.1 rfl) (by omega))) (pc_w (pc_ok (e_E_keep h.1.1.1 i_v1)) (fun _ _ q => pc_w (pc_ok (e_R_keep q.2 i_v1)) (fun _ _ q2 => g_lo q2.1 rfl)))
theorem v_again {n : Int} {w : Wd} {v1 : Int} (h : LV n w) (hn : n ≤ 2600) (i_v1 : ((-2147483648 : Int) ≤ v1 ∧ v1 ≤ 2147483647)) : OK (f_E_again v1 w) (fun r1 u1 => OK (f_R_again v1 u1) (fun r2 u2 => LV (n + 5) u2 ∧ r1 = r2)) := dv (xR := fun u => f_R_again v1 u) (X := fun r1 r2 => r1 = r2) (d_again h.1 i_v1) (pc_w (pc_and (fg_again h.1.1.1.1) (pc_ok (e_E_again h.1.1.1 i_v1))) (fun _ _ q => scr_mono (fgt_scr h.2 q.1 q.2.1 rfl) (by omega))) (pc_w (pc_ok (e_E_again h.1.1.1 i_v1)) (fun _ _ q => pc_w (pc_ok (e_R_again q.2 i_v1)) (fun _ _ q2 => g_lo q2.1 rfl)))
theorem v_count {n : Int} {w : Wd} {v1 : Int} (h : LV n w) (hn : n ≤ 2600) (i_v1 : ((-2147483648 : Int) ≤ v1 ∧ v1 ≤ 2147483647)) : OK (f_E_count v1 w) (fun r1 u1 => OK (f_R_count v1 u1) (fun r2 u2 => LV (n + 5) u2 ∧ True)) := dv (xR := fun u => f_R_count v1 u) (X := fun r1 r2 => True) (d_count h.1 i_v1) (pc_w (pc_ok (e_E_count h.1.1.1 i_v1)) (fun _ _ q => scr_mono (scr_g h.2 q.1 rfl) (by omega))) (pc_w (pc_ok (e_E_count h.1.1.1 i_v1)) (fun _ _ q => pc_w (pc_ok (e_R_count q.2 i_v1)) (fun _ _ q2 => g_lo q2.1 rfl)))
theorem v_row {n : Int} {w : Wd} {v1 : Int} (h : LV n w) (hn : n ≤ 2600) (i_v1 : ((-2147483648 : Int) ≤ v1 ∧ v1 ≤ 2147483647)) : OK (f_A_row v1 w) (fun r1 u1 => OK (f_R_row v1 u1) (fun r2 u2 => LV (n + 5) u2 ∧ True)) := dv (xR := fun u => f_R_row v1 u) (X := fun r1 r2 => True) (d_row h.1 i_v1) (pc_w (pc_ok (e_A_row h.1.1.1 i_v1)) (fun _ _ q => scr_mono (scr_fr h.2 (q.2 5 (by decide)) (q.2 7 (by decide)) (q.2 24 (by decide)) (q.2 27 (by decide)) (q.2 28 (by decide)) (q.2 29 (by decide)) (q.2 30 (by decide)) (q.2 31 (by decide)) (q.2 35 (by decide))) (by omega))) (pc_w (pc_ok (e_A_row h.1.1.1 i_v1)) (fun _ _ q => pc_w (pc_ok (e_R_row q.1 i_v1)) (fun _ _ q2 => g_lo q2.1 rfl)))
