/-! ONE HIDDEN: what each is worth, and who is needed -/
def hidn (h : Nat → Int) (i k : Nat) : Int := if k = i then 1 else h k
theorem hB_hid {P : Int} {h : Nat → Int} {i : Nat} (hi : (i : Int) < P) (k : Nat) : hB P (hidn h i) k = (hB P h k || decide (k = i)) := by
  unfold hB hidn
  by_cases c : k = i
  · subst c; rw [show inP P k = true from decide_eq_true hi]; simp
  · rw [if_neg c]; simp [c]
theorem fre_hid {P : Int} {s h : Nat → Int} {i : Nat} (hi : (i : Int) < P) (k : Nat) : fre P s (hidn h i) k = (fre P s h k && !decide (k = i)) := by
  unfold fre
  rw [hB_hid hi]
  by_cases c : k = i <;> simp [c]
theorem drc_w {P se : Int} {kn : Nat → Int} {br fr fr' sy : Nat → Bool} (hP : 0 ≤ P ∧ P ≤ 10) : ∀ {d : Nat} {f m : Int}, (∀ k, k < 10 → bt m k = true → fr k = true → fr' k = true) → DRC P se kn br fr sy d f m → DRC P se kn br fr' sy d f m := by
  intro d
  induction d with
  | zero => intro f m _ h; exact h
  | succ d ih =>
    intro f m hf h
    obtain ⟨f0, m0, h0, i, o, h1, h2, h3, h4, h5, h6, h7, h8, h9, h10⟩ := h
    have r := drc_rg hP h0
    have bm : ∀ k, k < 10 → bt m k = (bt m0 k || decide (k = i) || decide (k = o)) := fun k hk => by rw [h8, sq_t r.1 (by omega) h3 hk]
    exact ⟨f0, m0, ih (fun k hk hb => hf k hk (by rw [bm k hk, hb]; simp)) h0, i, o, h1, h2, h3, h4, hf o h3 (by rw [bm o h3]; simp) h5, h6, h7, h8, h9, h10⟩
theorem mvs_dn {P g se : Int} {h kn s : Nat → Int} {i : Nat} {m : Int} (hP : 0 ≤ P ∧ P ≤ 10) (hi : (i : Int) < P) (hs : s i = 0) (hm : MVS P g se (hidn h i) kn s m) : MVS P g se h kn s m ∧ bt m i = false := by
  have hw := mvs_who hP hm
  obtain ⟨d, f, h1⟩ := hm
  refine ⟨⟨d, f, drc_w hP (fun k _ _ hf => ?_) h1⟩, ?_⟩
  · rw [fre_hid hi, Bool.and_eq_true] at hf; exact hf.1
  · cases hb : bt m i with
    | false => rfl
    | true =>
      rcases hw.2 i (by omega) hb with e | e
      · unfold gs at e; rw [hs] at e; simp [gst] at e
      · rw [fre_hid hi] at e; simp at e
theorem mvs_up {P g se : Int} {h kn s : Nat → Int} {i : Nat} {m : Int} (hP : 0 ≤ P ∧ P ≤ 10) (hi : (i : Int) < P) (hb : bt m i = false) (hm : MVS P g se h kn s m) : MVS P g se (hidn h i) kn s m := by
  obtain ⟨d, f, h1⟩ := hm
  refine ⟨d, f, drc_w hP (fun k _ hk hf => ?_) h1⟩
  rw [fre_hid hi, hf]
  have c : k ≠ i := fun e => by rw [e, hb] at hk; cases hk
  simp [c]
theorem rcx_hid {P g se : Int} {h kn : Nat → Int} {x0 : Int} {i : Nat} (hP : 0 ≤ P ∧ P ≤ 10) (hi : (i : Int) < P) (h0 : sof x0 i = 0) : ∀ {t : Nat} {x : Int}, RCX P g se (hidn h i) kn x0 t x ↔ RCX P g se h kn x0 t x ∧ sof x i = 0 := by
  intro t
  induction t with
  | zero =>
    intro x
    constructor
    · intro e; exact ⟨e, by rw [show x = x0 from e]; exact h0⟩
    · intro e; exact e.1
  | succ t ih =>
    intro x
    constructor
    · rintro ⟨y, hy, m, hm, hw⟩
      have q := ih.mp hy
      have d := mvs_dn hP hi q.2 hm
      refine ⟨⟨y, q.1, m, d.1, hw⟩, ?_⟩
      rw [sof_e hw hP.2 hi]
      unfold nis
      rw [if_neg (by rw [d.2]; decide), q.2, if_neg (by decide)]
    · rintro ⟨⟨y, hy, m, hm, hw⟩, ex⟩
      have hsr : sr P (sof x) i = true := by
        unfold sr; rw [ex, show inP P i = true from decide_eq_true hi]; rfl
      have sy := sr_step (h := h) (kn := kn) (se := se) hP ⟨m, hm, hw⟩ hsr
      have ey : sof y i = 0 := by
        unfold sr at sy; rw [Bool.and_eq_true, beq_iff_eq] at sy; exact sy.2
      have hb : bt m i = false := by
        cases hb : bt m i with
        | false => rfl
        | true =>
          rw [sof_e hw hP.2 hi] at ex
          unfold nis at ex
          rw [if_pos hb] at ex
          cases ex
      exact ⟨y, ih.mpr ⟨hy, ey⟩, m, mvs_up hP hi hb hm, hw⟩
theorem wkt_hid {P g se : Int} {h kn : Nat → Int} {x0 : Int} {i : Nat} (hP : 0 ≤ P ∧ P ≤ 10) (hi : (i : Int) < P) (h0 : sof x0 i = 0) (t : Nat) : WKT P g se h kn x0 (fun _ => false) (fun k => decide (k = i)) t ↔ ∃ y, RCX P g se (hidn h i) kn x0 t y ∧ sbg P y := by
  have hk : ∀ x, kno P (sof x) i = false ↔ sof x i = 0 := fun x => by
    unfold kno
    rw [show inP P i = true from decide_eq_true hi]
    simp
  constructor
  · rintro ⟨x, a, ⟨b, _⟩, c⟩
    exact ⟨x, (rcx_hid hP hi h0).mpr ⟨a, (hk x).mp (c i (by omega) (decide_eq_true rfl))⟩, b⟩
  · rintro ⟨x, a, b⟩
    have q := (rcx_hid hP hi h0).mp a
    refine ⟨x, q.1, ⟨b, fun q _ hF => by cases hF⟩, fun j _ hF => ?_⟩
    rw [of_decide_eq_true hF]
    exact (hk x).mpr q.2
theorem mny_hid {P g se : Int} {h kn : Nat → Int} {x0 : Int} {i : Nat} (hP : 0 ≤ P ∧ P ≤ 10) (hi : (i : Int) < P) (h0 : sof x0 i = 0) (hm : MNY P g se (hidn h i) kn x0) : MNY P g se h kn x0 := by
  obtain ⟨F, h1, h2⟩ := hm
  refine ⟨F, fun j hj => ?_, h2⟩
  obtain ⟨t, ht⟩ := h1 j hj
  exact ⟨t, ((rcx_hid hP hi h0).mp ht).1⟩
theorem fre_0 {P : Int} {s h : Nat → Int} {k : Nat} (hf : fre P s h k = true) : (k : Int) < P ∧ s k = 0 ∧ hB P h k = false := by
  unfold fre sr at hf
  rw [Bool.and_eq_true, Bool.and_eq_true, beq_iff_eq] at hf
  refine ⟨inP_t hf.1.1, hf.1.2, ?_⟩
  have := hf.2
  cases e : hB P h k with
  | false => rfl
  | true => rw [e] at this; cases this
/-- the reference, before and behind each search -/
def RFI (P g se : Int) (h kn : Nat → Int) (x0 : Int) (u : Wd) : Prop := G [] u u ∧ (u 43 0 = P ∧ u 43 10 = g ∧ u 43 11 = se) ∧ (∀ k : Nat, (k : Int) < P → u 47 k = sof x0 k) ∧ (∀ j : Nat, (j : Int) < P → u 45 j = kn j ∧ 0 ≤ kn j ∧ kn j ≤ 1023) ∧ ∀ k : Nat, (k : Int) < P → hB P (u 46) k = hB P h k
theorem lw_pc {P g se : Int} {h h' kn : Nat → Int} {x0 v1 : Int} {w : Wd} (hP : 0 ≤ P ∧ P ≤ 10) (hg : 1 ≤ g ∧ g ≤ 3) (h0 : WH x0 (sof x0) P) (hr : RFI P g se h kn x0 w) (hv : 0 ≤ v1 ∧ v1 ≤ 512) (hh : ∀ k : Nat, (k : Int) < P → (hB P h k || bt v1 k) = hB P h' k) : PC (f_R_lastWith v1 w) (fun r u => RFI P g se h kn x0 u ∧ ((MNY P g se h' kn x0 ∧ r = -3) ∨ (¬ MNY P g se h' kn x0 ∧ ∃ m, LWQ P g se h' kn x0 m ∧ r = if m = -1 then -2 else m))) := by
  obtain ⟨gw, ⟨c0, c10, c11⟩, c47, c45, c46⟩ := hr
  refine pc_w (pc_and (pc_ok (s_R_lastWith (g_self gw) hv)) (Q := fun r _ => (MNY P g se h' kn x0 ∧ r = -3) ∨ (¬ MNY P g se h' kn x0 ∧ ∃ m, LWQ P g se h' kn x0 m ∧ r = if m = -1 then -2 else m)) ?_) (fun r u q => ⟨?_, q.2⟩)
  · unfold f_R_lastWith
    refine pc_call (fst_pc (h := h') hP hg h0 gw c0 c10 c11 c47 c45 (by omega) (fun k hk => by rw [c46 k hk]; exact hh k hk)) (fun r1 u2 z => ?_)
    obtain ⟨z1, z2, z3⟩ := z
    rcases z3 with ⟨e, m⟩ | ⟨e, l⟩
    · exact pc_ite (fun _ => pc_some (Or.inl ⟨m, rfl⟩)) (fun c => absurd e c)
    · refine pc_ite (fun c => by omega) (fun _ => ?_)
      have u0 : u2 43 0 = P := by rw [z1.2 0 (by decide) (by decide) (by decide)]; exact c0
      have nm := rli_mny hP h0 l
      have fl := flall_pc hP hg h0 u0 l
      unfold f_R_all at fl ⊢
      rw [jc_s] at fl ⊢
      refine pc_call fl (fun r6 u7 q => pc_gd (fun _ => ?_))
      have hq : LWQ P g se h' kn x0 (u7 71 (0 : Int).toNat) := q.2
      refine pc_ite (fun c => pc_gd (fun _ => pc_some (Or.inr ⟨nm, _, hq, ?_⟩))) (fun c => pc_some (Or.inr ⟨nm, -1, ?_, rfl⟩))
      · rw [if_neg (by omega)]
      · have : u7 71 (0 : Int).toNat = -1 := by
          rcases hq with ⟨e, _⟩ | ⟨e, _⟩
          · exact e
          · exact absurd e c
        rw [this] at hq
        exact hq
  · have G1 := q.1.2
    have f := g_fr G1 [43, 63, 64, 65, 66, 67, 68, 71, 72, 73] rfl
    have k := g_43 G1 [40, 41, 44] rfl
    refine ⟨g_self G1, ⟨by rw [k 0 rfl]; exact c0, by rw [k 10 rfl]; exact c10, by rw [k 11 rfl]; exact c11⟩, ?_, ?_, ?_⟩
    · rw [f 47 rfl]; exact c47
    · rw [f 45 rfl]; exact c45
    · rw [f 46 rfl]; exact c46
theorem shl_512 : ∀ i : Nat, i < 10 → 0 ≤ ishl 1 (i : Int) ∧ ishl 1 (i : Int) ≤ 512 := by decide +kernel
theorem hh_hid {P : Int} {h : Nat → Int} {i : Nat} (hP : 0 ≤ P ∧ P ≤ 10) (hi : (i : Int) < P) (k : Nat) (hk : (k : Int) < P) : (hB P h k || bt (ishl 1 (i : Int)) k) = hB P (hidn h i) k := by
  rw [hB_hid hi]
  have a := (b10_1 (i := (i : Int)) (by omega)).2 k (by omega)
  have ei : ((i : Nat) : Int).toNat = i := by omega
  rw [ei] at a
  have a2 : bt (ishl 1 (i : Int)) k = decide (k = i) := a
  rw [a2]
theorem b10_i {P : Int} {i : Nat} (hP : 0 ≤ P ∧ P ≤ 10) (hi : (i : Int) < P) : B10 (ishl 1 (i : Int)) (fun k => decide (k = i)) := by
  have a := b10_1 (i := (i : Int)) (by omega)
  have ei : ((i : Nat) : Int).toNat = i := by omega
  rw [ei] at a
  exact a
/-- the class's answer, one hidden -/
theorem clh_pc {P g se : Int} {h kn : Nat → Int} {x0 : Int} {u : Wd} {i : Nat} (hc : CLI P g se h kn x0 u) (hP : 0 ≤ P ∧ P ≤ 10) (hg : 1 ≤ g ∧ g ≤ 3) (h0 : WH x0 (sof x0) P) (hi : (i : Int) < P) (hz : sof x0 i = 0) : PC (f_S_lastWeek 0 (ishl 1 (i : Int)) u) (fun r v => v = u ∧ LWQ P g se (hidn h i) kn x0 r) :=
  pc_w (clw_pc hc hP h0 b10_0 (b10_i hP hi)) (fun _ _ q => ⟨q.1, lst_lwq hP hg h0 (wkt_hid hP hi hz) q.2⟩)
theorem prm_rfi {a w : Wd} {P g se : Int} {h kn : Nat → Int} {x0 : Int} (hp : PRM a w P g se h kn x0) (hG : G [] a a) {y : Wd} (ey : y = st a 43 16 0) : RFI P g se h kn x0 y := by
  obtain ⟨hP, hg, h0, hw, ⟨c0, c10, c11⟩, c47, c45, c46, _⟩ := hp
  have gy : G [4316] a y := g_st (g_self hG) ey rfl rfl (show (0 : Int) ≤ 0 ∧ (0 : Int) ≤ 1 by decide)
  have yr : ∀ c, c ≠ 43 → y c = a c := fun c hc => by rw [ey, st_row hc]
  have yk : ∀ k, k ≠ 16 → y 43 k = a 43 k := fun k hk => by rw [ey, st_k hk]
  exact ⟨g_self gy, ⟨by rw [yk 0 (by decide)]; exact c0, by rw [yk 10 (by decide)]; exact c10, by rw [yk 11 (by decide)]; exact c11⟩, by rw [yr 47 (by decide)]; exact c47, by rw [yr 45 (by decide)]; exact c45, by rw [yr 46 (by decide)]; exact c46⟩
def WOR (P g se : Int) (h kn : Nat → Int) (x0 : Int) (i : Nat) (r : Int) : Prop := (MNY P g se h kn x0 ∧ r = -3) ∨ (¬ MNY P g se h kn x0 ∧ ((LWQ P g se h kn x0 (-1) ∧ r = -2) ∨ ∃ m m', m ≠ -1 ∧ LWQ P g se h kn x0 m ∧ LWQ P g se (hidn h i) kn x0 m' ∧ r = w32 (m - m')))
theorem wor_one {P g se : Int} {h kn : Nat → Int} {x0 : Int} {i : Nat} {r r' : Int} (hP : 0 ≤ P ∧ P ≤ 10) (h0 : WH x0 (sof x0) P) (a : WOR P g se h kn x0 i r) (b : WOR P g se h kn x0 i r') : r = r' := by
  rcases a with ⟨a1, a2⟩ | ⟨a1, a2⟩
  · rcases b with ⟨_, b2⟩ | ⟨b1, _⟩
    · rw [a2, b2]
    · exact absurd a1 b1
  · rcases b with ⟨b1, _⟩ | ⟨_, b2⟩
    · exact absurd b1 a1
    · rcases a2 with ⟨a3, a4⟩ | ⟨m, m', a3, a4, a5, a6⟩
      · rcases b2 with ⟨_, b4⟩ | ⟨n, n', b3, b4, _, _⟩
        · rw [a4, b4]
        · exact absurd (lwq_one hP h0 b4 a3) b3
      · rcases b2 with ⟨b3, _⟩ | ⟨n, n', _, b4, b5, b6⟩
        · exact absurd (lwq_one hP h0 a4 b3) a3
        · rw [a6, b6, lwq_one hP h0 a4 b4, lwq_one hP h0 a5 b5]
theorem lwq_ne {P g se : Int} {h h' kn : Nat → Int} {x0 m m' : Int} (hP : 0 ≤ P ∧ P ≤ 10) (h0 : WH x0 (sof x0) P) (hm : m ≠ -1) (a : LWQ P g se h kn x0 m) (b : LWQ P g se h' kn x0 m') : m' ≠ -1 := by
  intro e
  rcases a with ⟨a1, _⟩ | ⟨_, ⟨y, a2, a3⟩, _⟩
  · exact hm a1
  · rcases b with ⟨_, b2⟩ | ⟨b1, _⟩
    · exact b2 (sbg_back hP h0 a2 a3)
    · omega
theorem lwq_0 {P g se : Int} {h kn : Nat → Int} {x0 m : Int} (hm : m ≠ -1) (a : LWQ P g se h kn x0 m) : 0 ≤ m := by
  rcases a with ⟨a1, _⟩ | ⟨a1, _⟩
  · exact absurd a1 hm
  · exact a1
theorem er_worth {a w : Wd} {P g se : Int} {h kn : Nat → Int} {x0 n v1 : Int} (hp : PRM a w P g se h kn x0) (hG : G [] a a) (hs : SCR n w) (hn : n ≤ 2600) (hk : w 28 9 ≠ 0 → KPT P g se h kn x0 w) : PC (f_E_worth v1 w) (fun r _ => PC (f_R_worth v1 a) (fun r' _ => r = r')) := by
  obtain ⟨hP, hg, h0, hw, ⟨c0, _⟩, c47, _, c46, _⟩ := id hp
  unfold f_E_worth f_R_worth
  refine pc_call (ef_e (by rw [hw.2.2.2.2.1]; exact h0) hP hw.1 hw.2.1) (fun r1 u2 q => ?_)
  rw [q.1]
  have yy : ∀ y, y = st a 43 16 0 → y 43 0 = P := fun y ey => by rw [ey, st_k (by decide)]; exact c0
  -- the reference's own test
  have href : ∀ y, y = st a 43 16 0 → ∀ {K : Wd → Option (Int × Wd)} {B : Int → Prop}, (¬ (0 ≤ v1 ∧ v1 < P ∧ fre P (sof x0) h v1.toNat = true) → B (-1)) → ((0 ≤ v1 ∧ v1 < P ∧ fre P (sof x0) h v1.toNat = true) → PC (K y) (fun r _ => B r)) → PC (jcall (f_R_isOne v1 y) fun r2 u3 => if r2 = 0 then some ((-1), u3) else jgd ((0 : Int) ≤ v1 ∧ v1 < 10) <| if (u3 47 v1.toNat) = 0 then jgd ((0 : Int) ≤ v1 ∧ v1 < 10) <| if (u3 46 v1.toNat) = 0 then K u3 else some ((-1), u3) else some ((-1), u3)) (fun r _ => B r) := fun y ey K B hno hyes => by
    refine pc_call (io_pc v1 y (by rw [yy y ey]; exact hP)) (fun r2 u3 z => ?_)
    rw [z.1, z.2, yy y ey]
    have e47 : y 47 = a 47 := by rw [ey, st_row (by decide)]
    have e46 : y 46 = a 46 := by rw [ey, st_row (by decide)]
    refine pc_ite (fun e => pc_some (hno (fun hh => hd_0 e ⟨hh.1, hh.2.1⟩))) (fun e => pc_gd (fun _ => ?_))
    have hv := hd_1 e
    have ev : ((v1.toNat : Nat) : Int) < P := by omega
    rw [e47, e46, c47 _ ev]
    refine pc_ite (fun e0 => pc_gd (fun _ => pc_ite (fun e1 => ?_) (fun e1 => ?_))) (fun e0 => pc_some (hno (fun hh => e0 (fre_0 hh.2.2).2.1)))
    · refine hyes ⟨hv.1, hv.2, ?_⟩
      unfold fre sr
      rw [← c46 _ ev, e0]
      unfold hB
      rw [show inP P v1.toNat = true from decide_eq_true ev, e1]
      rfl
    · refine pc_some (hno (fun hh => ?_))
      have := (fre_0 hh.2.2).2.2
      rw [← c46 _ ev] at this
      unfold hB at this
      rw [show inP P v1.toNat = true from decide_eq_true ev] at this
      have t2 : (a 46 v1.toNat == 0) = true := by
        cases e : (a 46 v1.toNat == 0) with
        | true => rfl
        | false => rw [e] at this; cases this
      exact e1 (beq_iff_eq.mp t2)
  by_cases ct : 0 ≤ v1 ∧ v1 < P ∧ fre P (sof x0) h v1.toNat = true
  · have hv10 : 0 ≤ v1 ∧ v1 < 10 := by omega
    rw [has_10 w q.2 hv10, if_pos ct.2.2, jc_s, if_neg (by decide)]
    have fz := fre_0 ct.2.2
    have evv : ((v1.toNat : Nat) : Int) = v1 := by omega
    -- the reference
    have hR : ∀ y, y = st a 43 16 0 → PC (jcall (f_R_lastWith 0 y) fun r4 u5 => if (0 : Int) ≤ r4 then jcall (f_R_lastWith (ishl 1 v1) u5) fun r6 u7 => some (w32 (r4 - r6), u7) else some (r4, u5)) (fun r _ => WOR P g se h kn x0 v1.toNat r) := fun y ey => by
      refine pc_call (lw_pc (h' := h) hP hg h0 (prm_rfi hp hG ey) (by decide) (fun k _ => by rw [bt_0, Bool.or_false])) (fun r4 u5 z => ?_)
      obtain ⟨z1, z2⟩ := z
      rcases z2 with ⟨m1, m2⟩ | ⟨m1, m, m2, m3⟩
      · exact pc_ite (fun c => by omega) (fun _ => pc_some (Or.inl ⟨m1, m2⟩))
      · refine pc_ite (fun c => ?_) (fun c => ?_)
        · have mn : m ≠ -1 := fun e => by rw [if_pos e] at m3; omega
          rw [if_neg mn] at m3
          have hh := fun (k : Nat) (hk : (k : Int) < P) => hh_hid (h := h) hP fz.1 k hk
          rw [evv] at hh
          have s5 := shl_512 v1.toNat (by omega)
          rw [evv] at s5
          refine pc_call (lw_pc (h' := hidn h v1.toNat) hP hg h0 z1 s5 hh) (fun r6 u7 zz => pc_some ?_)
          rcases zz.2 with ⟨k1, _⟩ | ⟨_, m', k2, k3⟩
          · exact absurd (mny_hid hP fz.1 fz.2.1 k1) m1
          · rw [if_neg (lwq_ne hP h0 mn m2 k2)] at k3
            exact Or.inr ⟨m1, Or.inr ⟨m, m', mn, m2, k2, by rw [m3, k3]⟩⟩
        · by_cases e : m = -1
          · rw [if_pos e] at m3
            rw [e] at m2
            exact pc_some (Or.inr ⟨m1, Or.inl ⟨m2, m3⟩⟩)
          · rw [if_neg e] at m3
            have := lwq_0 e m2
            omega
    have hRR : ∀ {r : Int}, WOR P g se h kn x0 v1.toNat r → ∀ {K : Option (Int × Wd)}, True → PC (jlw (st a 43 16 0) fun u1 => jcall (f_R_isOne v1 u1) fun r2 u3 => if r2 = 0 then some ((-1), u3) else jgd ((0 : Int) ≤ v1 ∧ v1 < 10) <| if (u3 47 v1.toNat) = 0 then jgd ((0 : Int) ≤ v1 ∧ v1 < 10) <| if (u3 46 v1.toNat) = 0 then jcall (f_R_lastWith 0 u3) fun r4 u5 => if (0 : Int) ≤ r4 then jcall (f_R_lastWith (ishl 1 v1) u5) fun r6 u7 => some (w32 (r4 - r6), u7) else some (r4, u5) else some ((-1), u3) else some ((-1), u3)) (fun r' _ => r = r') := fun {r} hA _ _ => by
      refine pc_lw (fun y ey => ?_)
      exact pc_w (href y ey (K := fun u3 => jcall (f_R_lastWith 0 u3) fun r4 u5 => if (0 : Int) ≤ r4 then jcall (f_R_lastWith (ishl 1 v1) u5) fun r6 u7 => some (w32 (r4 - r6), u7) else some (r4, u5)) (B := fun r => WOR P g se h kn x0 v1.toNat r) (fun hh => absurd ct hh) (fun _ => hR y ey)) (fun r' _ hB => wor_one hP h0 hA hB)
    refine pc_call (crun hp hs hn hk) (fun r5 u6 z => ?_)
    rcases z.2 with ⟨e, s⟩ | ⟨e, m⟩
    · refine pc_ite (fun c => by omega) (fun _ => ?_)
      have cl := src_cli hP h0 s
      have nm := cli_mny hP h0 cl
      refine pc_call (clw_pc cl hP h0 b10_0 b10_0) (fun r7 u8 z7 => ?_)
      rw [z7.1]
      have hl := lst_lwq hP hg h0 wkt_all z7.2
      refine pc_ite (fun e => ?_) (fun e => ?_)
      · rw [e] at hl
        exact pc_some (hRR (Or.inr ⟨nm, Or.inl ⟨hl, rfl⟩⟩) (K := none) trivial)
      · have cp := clh_pc cl hP hg h0 fz.1 fz.2.1
        rw [evv] at cp
        exact pc_call cp (fun r9 u10 z9 => pc_some (hRR (Or.inr ⟨nm, Or.inr ⟨r7, r9, e, hl, z9.2, rfl⟩⟩) (K := none) trivial))
    · exact pc_ite (fun _ => pc_some (hRR (Or.inl ⟨m, rfl⟩) (K := none) trivial)) (fun c => absurd e c)
  · have hz : f_E_has r1 v1 w = some (0, w) := by
      by_cases c : 0 ≤ v1 ∧ v1 < 10
      · rw [has_10 w q.2 c]
        by_cases f : fre P (sof x0) h v1.toNat = true
        · exact absurd ⟨c.1, by have := (fre_0 f).1; omega, f⟩ ct
        · rw [if_neg f]
      · exact has_o w c
    rw [hz, jc_s, if_pos rfl]
    refine pc_some (pc_lw (fun y ey => ?_))
    exact pc_w (href y ey (K := fun u3 => jcall (f_R_lastWith 0 u3) fun r4 u5 => if (0 : Int) ≤ r4 then jcall (f_R_lastWith (ishl 1 v1) u5) fun r6 u7 => some (w32 (r4 - r6), u7) else some (r4, u5)) (B := fun r => r = -1) (fun _ => rfl) (fun hh => absurd hh ct)) (fun r' _ hB => hB.symm)
