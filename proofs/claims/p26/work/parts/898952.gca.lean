/-! WHO IS NEEDED -/
def NDR (D : Nat → Prop) : Nat → Int → Prop
  | 0, r => r = 0
  | n + 1, r => ∃ r0, NDR D n r0 ∧ ((D n ∧ r = ior r0 (ishl 1 (n : Int))) ∨ (¬ D n ∧ r = r0))
theorem ndr_one {D : Nat → Prop} : ∀ {n : Nat} {r r' : Int}, NDR D n r → NDR D n r' → r = r' := by
  intro n
  induction n with
  | zero => intro r r' a b; rw [show r = 0 from a, show r' = 0 from b]
  | succ n ih =>
    rintro r r' ⟨s, a1, a2⟩ ⟨s', b1, b2⟩
    have e := ih a1 b1
    rcases a2 with ⟨a3, a4⟩ | ⟨a3, a4⟩
    · rcases b2 with ⟨_, b4⟩ | ⟨b3, _⟩
      · rw [a4, b4, e]
      · exact absurd a3 b3
    · rcases b2 with ⟨b3, _⟩ | ⟨_, b4⟩
      · exact absurd b3 a3
      · rw [a4, b4, e]
def NED (P g se : Int) (h kn : Nat → Int) (x0 m : Int) (k : Nat) : Prop := fre P (sof x0) h k = true ∧ ∃ m', LWQ P g se (hidn h k) kn x0 m' ∧ m' < m
theorem ndr_y {D : Nat → Prop} {v3 v2 : Int} (h0 : 0 ≤ v3) (h : NDR D v3.toNat v2) (hd : D v3.toNat) : NDR D (v3 + 1).toNat (ior v2 (ishl 1 v3)) := by
  rw [show (v3 + 1).toNat = v3.toNat + 1 by omega]
  refine ⟨v2, h, Or.inl ⟨hd, ?_⟩⟩
  rw [show ((v3.toNat : Nat) : Int) = v3 by omega]
theorem ndr_n {D : Nat → Prop} {v3 v2 : Int} (h0 : 0 ≤ v3) (h : NDR D v3.toNat v2) (hd : ¬ D v3.toNat) : NDR D (v3 + 1).toNat v2 := by
  rw [show (v3 + 1).toNat = v3.toNat + 1 by omega]
  exact ⟨v2, h, Or.inr ⟨hd, rfl⟩⟩
theorem en43 {P g se : Int} {h kn : Nat → Int} {x0 m : Int} {u : Wd} (hc : CLI P g se h kn x0 u) (hP : 0 ≤ P ∧ P ≤ 10) (hg : 1 ≤ g ∧ g ≤ 3) (h0 : WH x0 (sof x0) P) (h3 : u 5 3 = P) (h4 : u 5 4 = x0) (h5 : B10 (u 5 5) (hB P h)) : ∀ (n : Nat) {v2 v3 : Int}, 0 ≤ v3 → v3 ≤ P → NDR (NED P g se h kn x0 m) v3.toNat v2 → PC (f_E_needed_43 n m v2 v3 u) (fun r _ => NDR (NED P g se h kn x0 m) P.toNat r) := by
  intro n
  induction n with
  | zero => intros; exact pc_none
  | succ n ih =>
    intro v2 v3 i1 i2 hN
    rw [f_E_needed_43, h3]
    have z := w32_sp (v3 + 1)
    unfold f_E_needed_89
    refine pc_ite (fun c => ?_) (fun c => ?_)
    · have e : v3 = P := by omega
      rw [e] at hN
      exact pc_some hN
    refine pc_call (ef_e (by rw [h4]; exact h0) hP h3 h5) (fun r5 u6 q => ?_)
    rw [q.1, has_10 u q.2 (by omega), jc_s]
    by_cases f : fre P (sof x0) h v3.toNat = true
    · rw [if_pos f, if_neg (by decide)]
      have fz := fre_0 f
      have cp := clh_pc hc hP hg h0 fz.1 fz.2.1
      rw [show ((v3.toNat : Nat) : Int) = v3 by omega] at cp
      refine pc_call cp (fun r10 u11 q2 => ?_)
      rw [q2.1]
      refine pc_ite (fun c2 => pc_let (fun x9 e9 => ?_)) (fun c2 => pc_let (fun x12 e12 => pc_let (fun x9 e9 => ?_)))
      · have e : x9 = v3 + 1 := by omega
        rw [e]
        refine ih (by omega) (by omega) (ndr_n i1 hN (fun hd => ?_))
        obtain ⟨_, m', a1, a2⟩ := hd
        have := lwq_one hP h0 a1 q2.2
        omega
      · have e : x9 = v3 + 1 := by omega
        rw [e, e12]
        exact ih (by omega) (by omega) (ndr_y i1 hN ⟨f, r10, q2.2, by omega⟩)
    · rw [if_neg f, if_pos rfl]
      refine pc_let (fun x9 e9 => ?_)
      have e : x9 = v3 + 1 := by omega
      rw [e]
      exact ih (by omega) (by omega) (ndr_n i1 hN (fun hd => f hd.1))
theorem rfi_free {P g se : Int} {h kn : Nat → Int} {x0 : Int} {u : Wd} (hP : 0 ≤ P ∧ P ≤ 10) (hr : RFI P g se h kn x0 u) : PC (f_R_free u) (fun r v => v = u ∧ B10 r (fre P (sof x0) h)) := by
  obtain ⟨gw, ⟨c0, _, _⟩, c47, _, c46⟩ := hr
  refine pc_w (rfree_e (w := u) (by rw [c0]; exact hP)) (fun r v q => ⟨q.1, ?_⟩)
  have q2 := q.2
  rw [c0] at q2
  refine b10_w q2 (fun k hk => ?_)
  unfold fre sr
  by_cases c : (k : Int) < P
  · rw [c46 k c, c47 k c]
  · rw [show inP P k = false from decide_eq_false c]; rfl
theorem en21 {P g se : Int} {h kn : Nat → Int} {x0 m : Int} (hP : 0 ≤ P ∧ P ≤ 10) (hg : 1 ≤ g ∧ g ≤ 3) (h0 : WH x0 (sof x0) P) (hm : ¬ MNY P g se h kn x0) (hm1 : m ≠ -1) (hl : LWQ P g se h kn x0 m) : ∀ (n : Nat) {v2 v3 : Int} {u : Wd}, RFI P g se h kn x0 u → 0 ≤ v3 → v3 ≤ P → NDR (NED P g se h kn x0 m) v3.toNat v2 → PC (f_R_needed_21 n m v2 v3 u) (fun r _ => NDR (NED P g se h kn x0 m) P.toNat r) := by
  intro n
  induction n with
  | zero => intros; exact pc_none
  | succ n ih =>
    intro v2 v3 u hr i1 i2 hN
    have c0 := hr.2.1.1
    rw [f_R_needed_21, c0]
    have z := w32_sp (v3 + 1)
    unfold f_R_needed_57
    refine pc_ite (fun c => ?_) (fun c => ?_)
    · have e : v3 = P := by omega
      rw [e] at hN
      exact pc_some hN
    refine pc_call (rfi_free hP hr) (fun r5 u6 q => ?_)
    rw [q.1, hasR_10 u q.2 (by omega), jc_s]
    by_cases f : fre P (sof x0) h v3.toNat = true
    · rw [if_pos f, if_neg (by decide)]
      have fz := fre_0 f
      have s5 := shl_512 v3.toNat (by omega)
      have hh := fun (k : Nat) (hk : (k : Int) < P) => hh_hid (h := h) hP fz.1 k hk
      rw [show ((v3.toNat : Nat) : Int) = v3 by omega] at s5 hh
      refine pc_call (lw_pc (h' := hidn h v3.toNat) hP hg h0 hr s5 hh) (fun r10 u11 q2 => ?_)
      obtain ⟨hr2, q3⟩ := q2
      rcases q3 with ⟨k1, _⟩ | ⟨_, m', k2, k3⟩
      · exact absurd (mny_hid hP fz.1 fz.2.1 k1) hm
      · rw [if_neg (lwq_ne hP h0 hm1 hl k2)] at k3
        refine pc_ite (fun c2 => pc_let (fun x9 e9 => ?_)) (fun c2 => pc_let (fun x12 e12 => pc_let (fun x9 e9 => ?_)))
        · have e : x9 = v3 + 1 := by omega
          rw [e]
          refine ih hr2 (by omega) (by omega) (ndr_n i1 hN (fun hd => ?_))
          obtain ⟨_, m2, a1, a2⟩ := hd
          have := lwq_one hP h0 a1 k2
          omega
        · have e : x9 = v3 + 1 := by omega
          rw [e, e12]
          exact ih hr2 (by omega) (by omega) (ndr_y i1 hN ⟨f, m', k2, by omega⟩)
    · rw [if_neg f, if_pos rfl]
      refine pc_let (fun x9 e9 => ?_)
      have e : x9 = v3 + 1 := by omega
      rw [e]
      exact ih hr (by omega) (by omega) (ndr_n i1 hN (fun hd => f hd.1))
theorem er_needed {a w : Wd} {P g se : Int} {h kn : Nat → Int} {x0 n : Int} (hp : PRM a w P g se h kn x0) (hG : G [] a a) (hs : SCR n w) (hn : n ≤ 2600) (hk : w 28 9 ≠ 0 → KPT P g se h kn x0 w) : PC (f_E_needed w) (fun r _ => PC (f_R_needed a) (fun r' _ => r = r')) := by
  obtain ⟨hP, hg, h0, hw, _⟩ := id hp
  unfold f_E_needed f_R_needed
  refine pc_call (crun hp hs hn hk) (fun r1 u z => ?_)
  have hlw : ∀ y, y = st a 43 16 0 → PC (f_R_lastWith 0 y) (fun r u => RFI P g se h kn x0 u ∧ ((MNY P g se h kn x0 ∧ r = -3) ∨ (¬ MNY P g se h kn x0 ∧ ∃ m, LWQ P g se h kn x0 m ∧ r = if m = -1 then -2 else m))) := fun y ey => lw_pc (h' := h) hP hg h0 (prm_rfi hp hG ey) (by decide) (fun k _ => by rw [bt_0, Bool.or_false])
  rcases z.2 with ⟨e, s⟩ | ⟨e, m⟩
  · refine pc_ite (fun c => by omega) (fun _ => ?_)
    have cl := src_cli hP h0 s
    have nm := cli_mny hP h0 cl
    refine pc_call (clw_pc cl hP h0 b10_0 b10_0) (fun r3 u4 z3 => ?_)
    rw [z3.1]
    have hl := lst_lwq hP hg h0 wkt_all z3.2
    refine pc_ite (fun e => pc_some (pc_lw (fun y ey => pc_call (hlw y ey) (fun r2 u3 q => ?_)))) (fun e => ?_)
    · rcases q.2 with ⟨k1, _⟩ | ⟨_, m', k2, k3⟩
      · exact absurd k1 nm
      · have := lwq_one hP h0 hl k2
        rw [if_pos (by omega)] at k3
        exact pc_ite (fun c => by omega) (fun _ => pc_some k3.symm)
    · have u5 := (run_5 z.1).1
      have hwu : u 5 3 = P ∧ u 5 4 = x0 ∧ B10 (u 5 5) (hB P h) := by
        rw [u5]; exact ⟨hw.1, hw.2.2.2.2.1, hw.2.1⟩
      refine pc_w (en43 cl hP hg h0 hwu.1 hwu.2.1 hwu.2.2 FU (by decide) hP.1 rfl) (fun r _ hA => pc_lw (fun y ey => pc_call (hlw y ey) (fun r2 u3 q => ?_)))
      rcases q.2 with ⟨k1, _⟩ | ⟨_, m', k2, k3⟩
      · exact absurd k1 nm
      · have e2 := lwq_one hP h0 hl k2
        rw [if_neg (by omega)] at k3
        have e3 : r2 = r3 := by omega
        rw [e3]
        have := lwq_0 e hl
        refine pc_ite (fun _ => ?_) (fun c => by omega)
        exact pc_w (en21 hP hg h0 nm e hl FU q.1 (by decide) hP.1 rfl) (fun r' _ hB => ndr_one hA hB)
  · refine pc_ite (fun _ => pc_some (pc_lw (fun y ey => pc_call (hlw y ey) (fun r2 u3 q => ?_)))) (fun c => absurd e c)
    rcases q.2 with ⟨_, k2⟩ | ⟨k1, _⟩
    · exact pc_ite (fun c => by omega) (fun _ => pc_some k2.symm)
    · exact absurd m k1
