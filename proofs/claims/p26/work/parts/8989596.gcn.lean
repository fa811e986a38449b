/-! BEGIN: the class tells the first WEEK -/
theorem tfw_pc {P g se : Int} {h kn : Nat → Int} {x0 L : Int} {u : Wd} {hit : Int → Bool} (hP : 0 ≤ P ∧ P ≤ 10) (hg : 1 ≤ g ∧ g ≤ 3) (h0 : WH x0 (sof x0) P) (hw : CW P g se h kn x0 u) (hT : TC u) (hcl : ∀ y, SUX P g se h kn x0 y → ∃ j : Nat, (j : Int) < u 28 7 ∧ u 30 j = y) (hr : ROK u) (hlt : u 24 4 < 2147483647) (hL : 1 ≤ L ∧ L ≤ 61) (hh : ∀ m, MVS P g se h kn (sof x0) m → ∀ y, WH y (nis P (sof x0) g (bt m)) P → ∀ j : Nat, (j : Int) < u 28 7 → u 30 j = y → (b6 (u 32 j) (L - 1).toNat = true ↔ hit m = true)) (hex : ∃ m, MVS P g se h kn (sof x0) m ∧ hit m = true) : PC (f_E_tellFirstWeek L u) (fun _ v => ∃ x, fdf P se kn (gs P (sof x0)) (fre P (sof x0) h) (sty P (sof x0) g) hit 12 0 0 = some x ∧ 2 * v 3 1 = ((pn (bt x) 10 : Nat) : Int)) := by
  unfold f_E_tellFirstWeek
  obtain ⟨w3, w5, w7, w8, w4, wk⟩ := hw
  rw [w8, w4]
  refine pc_call (pc_and (gat_pc (kn := kn) hP h0 w3 w5 hg w7 wk hr hlt) (gao_pc (kn := kn) (hit := hit) hP h0 w3 w5 hg w7 wk hr hlt)) (fun r1 u2 z => ?_)
  obtain ⟨⟨z1, ⟨z2, z3⟩, z4, z5, z6⟩, zs⟩ := z
  have y28 : u2 28 = u 28 := z1 28 (by decide) (by decide) (by decide) (by decide)
  have y29 : u2 29 = u 29 := z1 29 (by decide) (by decide) (by decide) (by decide)
  have y30 : u2 30 = u 30 := z1 30 (by decide) (by decide) (by decide) (by decide)
  have y32 : u2 32 = u 32 := z1 32 (by decide) (by decide) (by decide) (by decide)
  have y5 : u2 5 = u 5 := z1 5 (by decide) (by decide) (by decide) (by decide)
  have hT2 : TC u2 := tc_eq hT y29 y30 (by rw [y28])
  have h252 : u2 24 3 ≤ 256 := by
    have hz := z5.1
    have := mov_few hP (gs_fre (P := P) (s := sof x0) (h := h)) (n := (u2 24 3).toNat) (F := u2 25) (fun j hj => (z5.2.1 j (by omega)).2) (fun i j hi hj e => z5.2.2.1 i j (by omega) (by omega) e)
    omega
  have hfx : ∃ x, fdf P se kn (gs P (sof x0)) (fre P (sof x0) h) (sty P (sof x0) g) hit 12 0 0 = some x ∧ FHx hit u2 x := by
    rcases zs with ⟨_, hn⟩ | hx
    · obtain ⟨m, hm, hhm⟩ := hex
      obtain ⟨k, hk, ek⟩ := z6 m hm
      have := hn k hk
      rw [ek, hhm] at this
      cases this
    · exact hx
  obtain ⟨x, ex, hxh, k0, hk0, ek0, hlo⟩ := hfx
  have lp : ∀ (n : Nat) {v2 : Int}, 0 ≤ v2 → v2 ≤ (k0 : Int) → PC (f_E_firstThatLeads_2 n L v2 u2) (fun r v => v = u2 ∧ r = (k0 : Int)) := by
    intro n
    induction n with
    | zero => intros; exact pc_none
    | succ n ih =>
      intro v2 i2 i2'
      rw [f_E_firstThatLeads_2]
      refine pc_ite (fun c => by omega) (fun c => ?_)
      refine pc_call (mo_pc (k := v2) (u := u2) (by omega)) (fun r3 u3 q => ?_)
      rw [q.1, q.2, y5, w4, w7]
      have hm : MVS P g se h kn (sof x0) (u2 25 v2.toNat) := (z5.2.1 v2.toNat (by omega)).2
      obtain ⟨y, ey, hy⟩ := after_e (v := u2 25 v2.toNat) h0 hP hg (b10_self (mvs_who hP hm).1) (mvs_ok hP hm) u2
      rw [ey, jc_s, w32_id (by omega)]
      have hsx : SUX P g se h kn x0 y := ⟨_, hm, hy⟩
      have ld : PC (f_S_leads y (L - 1) u2) (fun r v => v = u2 ∧ (r ≠ 0 ↔ hit (u2 25 v2.toNat) = true)) := by
        unfold f_S_leads
        refine pc_call (lof_pc (z := y) hT2) (fun r9 u10 q9 => ?_)
        rw [q9.1]
        obtain ⟨j, j1, j2, j3⟩ := q9.2 (by rw [y28, y30]; exact hcl y hsx)
        rw [y28] at j1
        rw [y30] at j2
        rw [y32] at j3
        have hb := hh _ hm y hy j j1 j2
        rw [← j3] at hb
        rw [b6_ask (by omega)]
        cases cb : b6 r9 (L - 1).toNat with
        | true =>
          refine pc_ite (fun e => absurd e (by decide)) (fun _ => pc_some ⟨rfl, fun _ => hb.mp cb, fun _ => by decide⟩)
        | false =>
          refine pc_ite (fun _ => pc_some ⟨rfl, fun e => absurd rfl e, fun e => ?_⟩) (fun e => absurd rfl e)
          have := hb.mpr e
          rw [cb] at this
          cases this
      refine pc_call ld (fun r5 u6 q5 => ?_)
      rw [q5.1]
      by_cases ck : v2 = (k0 : Int)
      · have hhit : hit (u2 25 v2.toNat) = true := by rw [show v2.toNat = k0 by omega, ek0]; exact hxh
        exact pc_ite (fun e => absurd e (q5.2.mpr hhit)) (fun _ => pc_some ⟨rfl, ck⟩)
      · have hhit : hit (u2 25 v2.toNat) = false := hlo v2.toNat (by omega)
        refine pc_ite (fun _ => pc_let (fun x7 e7 => ?_)) (fun e => ?_)
        · rw [w32_id (by omega)] at e7
          rw [e7]
          exact ih (by omega) (by omega)
        · have := q5.2.mp e
          rw [hhit] at this
          cases this
  unfold f_E_firstThatLeads
  refine pc_call (lp FU (by decide) (by omega)) (fun r3 u4 q => ?_)
  rw [q.1, q.2]
  refine pc_ite (fun c => by omega) (fun _ => ?_)
  refine pc_call (tp_pc z5 h252 (k := (k0 : Int)) ⟨by omega, hk0⟩) (fun r5 u6 t => pc_some ⟨x, ex, ?_⟩)
  rw [t.1, show ((k0 : Nat) : Int).toNat = k0 by omega, ek0]
/-- what the first WEEK leads to: so many WEEKS on somebody can still be a GUEST -/
def HIT (P g se : Int) (h kn : Nat → Int) (x0 : Int) (n : Nat) (hit : Int → Bool) : Prop := ∀ m, hit m = true ↔ MVS P g se h kn (sof x0) m ∧ ∃ z, WH z (nis P (sof x0) g (bt m)) P ∧ ∃ y, RCX P g se h kn z n y ∧ sbg P y
theorem hit_ex (P g se : Int) (h kn : Nat → Int) (x0 : Int) : ∃ H : Nat → Int → Bool, ∀ n, HIT P g se h kn x0 n (H n) := ⟨fun n m => @decide (MVS P g se h kn (sof x0) m ∧ ∃ z, WH z (nis P (sof x0) g (bt m)) P ∧ ∃ y, RCX P g se h kn z n y ∧ sbg P y) (Classical.propDecidable _), fun n m => @decide_eq_true_iff _ (Classical.propDecidable _)⟩
def FDB (P g se : Int) (h kn : Nat → Int) (x0 : Int) (H : Nat → Int → Bool) (L : Int) : Option Int := fdf P se kn (gs P (sof x0)) (fre P (sof x0) h) (sty P (sof x0) g) (H (L - 1).toNat) 12 0 0
theorem cbg_pc {P g se : Int} {h kn : Nat → Int} {x0 : Int} {u : Wd} {H : Nat → Int → Bool} (hP : 0 ≤ P ∧ P ≤ 10) (hg : 1 ≤ g ∧ g ≤ 3) (h0 : WH x0 (sof x0) P) (hH : ∀ n, HIT P g se h kn x0 n (H n)) (hS : SRC P g se h kn x0 u) (hc : CLI P g se h kn x0 u) (hw : CW P g se h kn x0 u) (hr : ROK u) (hlt : u 24 4 ≤ 2147470000) : PC (jcall (f_S_lastWeek 0 0 u) fun r3 u4 => if (0 : Int) < r3 then jcall (f_S_lookBack 0 (-1) u4) fun r5 u6 => jcall (f_E_tellFirstWeek r3 u6) fun r7 u8 => some (u8 3 1, u8) else some ((-2), u4)) (fun r _ => ∃ L, LWQ P g se h kn x0 L ∧ ((L ≤ 0 ∧ r = -2) ∨ (1 ≤ L ∧ ∃ x, FDB P g se h kn x0 H L = some x ∧ 2 * r = ((pn (bt x) 10 : Nat) : Int)))) := by
  refine pc_call (clw_pc hc hP h0 b10_0 b10_0) (fun r3 u4 z => ?_)
  rw [z.1]
  have hl := lst_lwq hP hg h0 wkt_all z.2
  refine pc_ite (fun c => ?_) (fun c => pc_some ⟨r3, hl, Or.inl ⟨by omega, rfl⟩⟩)
  have e60 : r3 ≤ 60 := by
    rcases z.2 with ⟨e', _⟩ | ⟨e', _⟩
    · omega
    · exact e'.2
  refine pc_call (lkb_pc hP hg h0 hS hw hr hlt) (fun r5 u6 q => ?_)
  obtain ⟨q1, ⟨q2, q3⟩, q4⟩ := q
  have y28 : u6 28 = u 28 := q1 28 (by decide) (by decide) (by decide) (by decide) (by decide)
  have y29 : u6 29 = u 29 := q1 29 (by decide) (by decide) (by decide) (by decide) (by decide)
  have y30 : u6 30 = u 30 := q1 30 (by decide) (by decide) (by decide) (by decide) (by decide)
  have y5 : u6 5 = u 5 := q1 5 (by decide) (by decide) (by decide) (by decide) (by decide)
  have y7 : u6 7 = u 7 := q1 7 (by decide) (by decide) (by decide) (by decide) (by decide)
  have hw6 : CW P g se h kn x0 u6 := by unfold CW at hw ⊢; rw [y5, y7]; exact hw
  have hT6 : TC u6 := tc_eq hS.1.1 y29 y30 (by rw [y28])
  refine pc_call (tfw_pc (hit := H (r3 - 1).toNat) hP hg h0 hw6 hT6 (fun y hy => ?_) q2 (by omega) ⟨by omega, by omega⟩ (fun m hm y hy j hj ej => ?_) ?_) (fun r7 u8 q => pc_some ⟨r3, hl, Or.inr ⟨by omega, q⟩⟩)
  · obtain ⟨k, hk, ek⟩ := hc.2.2.2.1 y ⟨rx_wh hP h0 (t := 1) (x := y) ⟨x0, rfl, hy⟩, 1, x0, rfl, hy⟩
    exact ⟨k, by rw [y28]; exact hk, by rw [y30]; exact ek⟩
  · rw [y28] at hj
    rw [y30] at ej
    have ok := q4 j hj
    rw [ej] at ok
    rw [ok (r3 - 1).toNat (by omega), hH (r3 - 1).toNat m]
    constructor
    · intro hh; exact ⟨hm, y, hy, hh⟩
    · rintro ⟨_, z', hz, hh⟩
      rw [wh_inj hz hy (fun _ _ => rfl)] at hh
      exact hh
  · rcases hl with ⟨e, _⟩ | ⟨_, ⟨y, y1, y2⟩, _⟩
    · omega
    · rw [show r3.toNat = (r3 - 1).toNat + 1 by omega] at y1
      obtain ⟨z', ⟨m, hm, hz⟩, z2⟩ := rcx_first.mp y1
      exact ⟨m, hm, (hH _ m).mpr ⟨hm, z', hz, y, z2, y2⟩⟩
