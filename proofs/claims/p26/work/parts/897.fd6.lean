/-! all that one led: the reference -/
def tS (b : Nat → Int) (y v3 : Int) (k : Nat) : Bool := !(b k == -1) && (b k == y || bt v3 (b k).toNat)
theorem lr14 {P y v3 : Int} {b : Nat → Int} {k4 : Int → Int → Int → Wd → Option (Int × Wd)} {w : Wd} {Q : Int → Wd → Prop} (hP : 0 ≤ P ∧ P ≤ 10) (h0 : w 43 0 = P) (h48 : ∀ j : Nat, (j : Int) < P → w 48 j = b j) (hb : ∀ j : Nat, (j : Int) < P → b j = -1 ∨ (0 ≤ b j ∧ b j < P)) (h3 : 0 ≤ v3 ∧ v3 ≤ 1023) (hk : ∀ v2', B10 v2' (fun k => bt v3 k || (inP P k && tS b y v3 k)) → PC (k4 y v2' v3 w) Q) : ∀ (n : Nat) {v2 v4 : Int}, 0 ≤ v4 → v4 ≤ P → B10 v2 (fun k => bt v3 k || (decide ((k : Int) < v4) && tS b y v3 k)) → PC (f_R_ledBy_14 k4 n y v2 v3 v4 w) Q := by
  intro n
  induction n with
  | zero => intros; exact pc_none
  | succ n ih =>
    intro v2 v4 i0 i1 hB
    rw [f_R_ledBy_14, h0]
    refine pc_ite (fun z => ?_) (fun z => ?_)
    · have e : v4 = P := by omega
      subst e
      exact hk v2 hB
    · refine pc_gd (fun _ => ?_)
      rw [h48 v4.toNat (by omega)]
      have hv := hb v4.toNat (by omega)
      have no : tS b y v3 v4.toNat = false → PC (f_R_ledBy_66 k4 (f_R_ledBy_14 k4 n) y v2 v3 v4 w) Q := fun ht => by
        unfold f_R_ledBy_66
        refine pc_let (fun x1 e1 => ?_)
        rw [wsucc (P := P) (by omega) (by omega)] at e1
        rw [e1]
        refine ih (by omega) (by omega) (b10_w hB (fun k _ => ?_))
        by_cases c : k = v4.toNat
        · rw [c, ht, Bool.and_false, Bool.and_false]
        · rw [show decide ((k : Int) < v4 + 1) = decide ((k : Int) < v4) from by
            by_cases c2 : (k : Int) < v4
            · rw [decide_eq_true c2, decide_eq_true (by omega)]
            · rw [decide_eq_false c2, decide_eq_false (by omega)]]
      have yes : tS b y v3 v4.toNat = true → PC (f_R_ledBy_59 k4 (f_R_ledBy_14 k4 n) y v2 v3 v4 w) Q := fun ht => by
        unfold f_R_ledBy_59 f_R_ledBy_66
        refine pc_let (fun x2 e2 => pc_let (fun x1 e1 => ?_))
        rw [wsucc (P := P) (by omega) (by omega)] at e1
        rw [e1, e2]
        refine ih (by omega) (by omega) (b10_w (b10_or hB (b10_1 (i := v4) (by omega))) (fun k _ => ?_))
        by_cases c : k = v4.toNat
        · rw [c, ht, decide_eq_true (show ((v4.toNat : Nat) : Int) < v4 + 1 by omega), decide_eq_true rfl, Bool.or_true]
          simp
        · rw [decide_eq_false c, Bool.or_false, show decide ((k : Int) < v4 + 1) = decide ((k : Int) < v4) from by
            by_cases c2 : (k : Int) < v4
            · rw [decide_eq_true c2, decide_eq_true (by omega)]
            · rw [decide_eq_false c2, decide_eq_false (by omega)]]
      refine pc_ite (fun c => no ?_) (fun c => ?_)
      · unfold tS; rw [c]; rfl
      have hr := hv.resolve_left c
      have e1 : (b v4.toNat == -1) = false := beq_eq_false_iff_ne.mpr c
      refine pc_gd (fun _ => ?_)
      refine pc_ite (fun c2 => yes ?_) (fun c2 => ?_)
      · unfold tS
        rw [e1, beq_iff_eq.mpr c2]; rfl
      · refine pc_gd (fun _ => ?_)
        rw [hasR_10 w (b10_self h3) (by omega), jc_s]
        have et : tS b y v3 v4.toNat = bt v3 (b v4.toNat).toNat := by
          unfold tS
          rw [e1, beq_eq_false_iff_ne.mpr c2]; simp
        cases hbt : bt v3 (b v4.toNat).toNat with
        | false => exact pc_ite (fun _ => no (et.trans hbt)) (fun e => absurd rfl e)
        | true => exact pc_ite (fun e => absurd e (by decide)) (fun _ => yes (et.trans hbt))
theorem lr4 {P y : Int} {b : Nat → Int} {d : Nat → Nat} {w : Wd} (hP : 0 ≤ P ∧ P ≤ 10) (h : RK P b d) (hy : 0 ≤ y ∧ y < P) (h0 : w 43 0 = P) (h48 : ∀ j : Nat, (j : Int) < P → w 48 j = b j) : ∀ (n : Nat) {v2 v3 : Int}, (0 ≤ v2 ∧ v2 ≤ 1023) → (∀ k, k < 10 → bt v2 k = true → (k : Int) < P ∧ des b y k = true) → (v3 = -1 ∨ ((0 ≤ v3 ∧ v3 ≤ 1023) ∧ B10 v2 (fun k => bt v3 k || (inP P k && tS b y v3 k)))) → PC (f_R_ledBy_4 n y v2 v3 w) (fun r u => u = w ∧ B10 r (fun k => inP P k && des b y k)) := by
  have hb : ∀ j : Nat, (j : Int) < P → b j = -1 ∨ (0 ≤ b j ∧ b j < P) := fun j hj => by
    rcases (h j hj).2 with e | e
    · exact Or.inl e
    · exact Or.inr e.1
  intro n
  induction n with
  | zero => intros; exact pc_none
  | succ n ih =>
    intro v2 v3 hr hs hc
    rw [f_R_ledBy_4]
    refine pc_ite (fun e => ?_) (fun e => ?_)
    · rcases hc with c | ⟨c1, c2⟩
      · omega
      · have cl : ∀ q : Nat, (q : Int) < P → tS b y v2 q = true → bt v2 q = true := fun q hq ht => by
          rw [c2.2 q (by omega)]
          show (bt v3 q || (inP P q && tS b y v3 q)) = true
          rw [← e, ht, show inP P q = true from decide_eq_true hq]; simp
        have all : ∀ (k : Nat) (q : Nat), d q < k → (q : Int) < P → des b y q = true → bt v2 q = true := by
          intro k
          induction k with
          | zero => intro q hk; omega
          | succ k ihk =>
            intro q hk hq hd
            refine cl q hq ?_
            have hb2 := (h q hq).2
            rcases (des_s hP.2 h hy hq).mp hd with e1 | ⟨e1, e2⟩
            · unfold tS
              rw [e1, beq_eq_false_iff_ne.mpr (show ¬ y = -1 by omega), beq_iff_eq.mpr (show y = y from rfl)]; rfl
            · have hb3 := hb2.resolve_left e1
              unfold tS
              rw [beq_eq_false_iff_ne.mpr e1, ihk (b q).toNat (by omega) (by omega) e2, Bool.or_true]; rfl
        refine pc_some ⟨rfl, hr, fun k hk => ?_⟩
        show bt v2 k = (inP P k && des b y k)
        cases hbt : bt v2 k with
        | true =>
          obtain ⟨a1, a2⟩ := hs k hk hbt
          rw [a2, show inP P k = true from decide_eq_true a1]; rfl
        | false =>
          cases hp : inP P k with
          | false => rfl
          | true =>
            cases hd : des b y k with
            | false => rfl
            | true =>
              rw [all (d k + 1) k (by omega) (inP_t hp) hd] at hbt
              cases hbt
    · refine lr14 (v3 := v2) hP h0 h48 hb hr (fun v2' hB => ?_) FU (v2 := v2) (v4 := 0) (by decide) hP.1 (b10_w (b10_self hr) (fun k _ => ?_))
      · refine ih hB.1 (fun k hk hbt => ?_) (Or.inr ⟨hr, hB⟩)
        rw [hB.2 k hk, Bool.or_eq_true, Bool.and_eq_true] at hbt
        rcases hbt with e1 | ⟨e1, e2⟩
        · exact hs k hk e1
        · have hkP := inP_t e1
          refine ⟨hkP, (des_s hP.2 h hy hkP).mpr ?_⟩
          unfold tS at e2
          rw [Bool.and_eq_true, Bool.not_eq_true', Bool.or_eq_true] at e2
          rcases e2.2 with e3 | e3
          · exact Or.inl (beq_iff_eq.mp e3)
          · have hn := beq_eq_false_iff_ne.mp e2.1
            have := (hb k hkP).resolve_left hn
            exact Or.inr ⟨hn, (hs (b k).toNat (by omega) e3).2⟩
      · rw [decide_eq_false (show ¬ (k : Int) < 0 by omega)]; simp
theorem ledR_pc {P y : Int} {b : Nat → Int} {d : Nat → Nat} {w : Wd} (hP : 0 ≤ P ∧ P ≤ 10) (h : RK P b d) (hy : 0 ≤ y ∧ y < P) (h0 : w 43 0 = P) (h48 : ∀ j : Nat, (j : Int) < P → w 48 j = b j) : PC (f_R_ledBy y w) (fun r u => u = w ∧ B10 r (fun k => inP P k && des b y k)) := by
  unfold f_R_ledBy
  exact lr4 hP h hy h0 h48 FU (by decide) (fun k _ hb => by rw [bt_0] at hb; cases hb) (Or.inl rfl)
theorem ledE_pc {P y : Int} {b : Nat → Int} {d : Nat → Nat} {w : Wd} (hP : 0 ≤ P ∧ P ≤ 10) (h : RK P b d) (h3 : w 5 3 = P) (h8 : ∀ j : Nat, (j : Int) < P → w 8 j = b j) : PC (f_F_ledBy y w) (fun r u => u = w ∧ B10 r (fun k => inP P k && des b y k)) := by
  unfold f_F_ledBy
  refine lb_pc hP h h3 h8 FU (by decide) hP.1 (b10_w b10_0 (fun k _ => ?_))
  rw [decide_eq_false (show ¬ (k : Int) < 0 by omega)]; rfl
/-! FATHER -/
def fth (c : Nat → Int) : Nat → Int × Int
  | 0 => (-1, 0)
  | n + 1 => if (fth c n).2 < c n then ((n : Int), c n) else fth c n
def cnd (P : Int) (b : Nat → Int) (q : Nat) : Int := ((pn (fun k => inP P k && des b (q : Int) k) 10 : Nat) : Int)
theorem er_father {a w : Wd} (h : ER a w) (hS : Sn (a 43 0) (a 47) (a 48) (a 49) (a 43 8)) : PC (f_E_father w) (fun r _ => PC (f_R_father a) (fun r' _ => r = r')) := by
  have x0 : 0 ≤ a 43 0 ∧ a 43 0 ≤ 10 := h.2.2.1
  have x3 : w 5 3 = a 43 0 := h.1.1.2.1
  have xp : ∀ j : Nat, (j : Int) < a 43 0 → w 6 j = a 44 j ∧ w 7 j = a 45 j ∧ w 8 j = a 48 j := h.1.2.1
  obtain ⟨d, hd⟩ := rk_sn x0 hS
  have nt1 : ∀ (x : Int) (u : Wd), PC (f_N_tell1 x u) (fun _ _ => True) := fun _ _ _ _ _ => trivial
  have pE : ∀ (n : Nat) {v1 v2 v3 : Int}, 0 ≤ v3 → v3 ≤ a 43 0 → v1 = (fth (cnd (a 43 0) (a 48)) v3.toNat).1 → v2 = (fth (cnd (a 43 0) (a 48)) v3.toNat).2 → PC (f_E_father_6 n v1 v2 v3 w) (fun r _ => r = if (fth (cnd (a 43 0) (a 48)) (a 43 0).toNat).1 = -1 then -2 else (fth (cnd (a 43 0) (a 48)) (a 43 0).toNat).1) := by
    intro n
    induction n with
    | zero => intros; exact pc_none
    | succ n ih =>
      intro v1 v2 v3 i0 i1 e1 e2
      rw [f_E_father_6, x3]
      refine pc_ite (fun z => ?_) (fun z => ?_)
      · have e : v3 = a 43 0 := by omega
        rw [e] at e1
        rw [← e1]
        refine pc_ite (fun c => ?_) (fun c => ?_)
        · rw [if_pos c]; exact pc_some rfl
        · rw [if_neg c]
          exact pc_call (nt1 v2 w) (fun _ _ _ => pc_some rfl)
      · refine pc_call (ledE_pc (y := v3) x0 hd x3 (fun j hj => (xp j hj).2.2)) (fun r3 u4 q => ?_)
        rw [q.1, bcs_e q.2, jc_s]
        have ec : ((pn (fun k => inP (a 43 0) k && des (a 48) v3 k) 10 : Nat) : Int) = cnd (a 43 0) (a 48) v3.toNat := by
          unfold cnd
          rw [show ((v3.toNat : Nat) : Int) = v3 by omega]
        rw [ec]
        have ef : fth (cnd (a 43 0) (a 48)) (v3.toNat + 1) = if (fth (cnd (a 43 0) (a 48)) v3.toNat).2 < cnd (a 43 0) (a 48) v3.toNat then (((v3.toNat : Nat) : Int), cnd (a 43 0) (a 48) v3.toNat) else fth (cnd (a 43 0) (a 48)) v3.toNat := rfl
        have e3 : (v3 + 1).toNat = v3.toNat + 1 := by omega
        unfold f_E_father_41
        refine pc_ite (fun c => ?_) (fun c => ?_)
        · refine pc_let (fun x7 e7 => ?_)
          rw [wsucc (P := a 43 0) (by omega) (by omega)] at e7
          rw [if_neg (by omega)] at ef
          rw [e7]
          exact ih (by omega) (by omega) (by rw [e3, ef]; exact e1) (by rw [e3, ef]; exact e2)
        · refine pc_let (fun x7 e7 => ?_)
          rw [wsucc (P := a 43 0) (by omega) (by omega)] at e7
          rw [if_pos (by omega)] at ef
          rw [e7]
          exact ih (by omega) (by omega) (by rw [e3, ef]; show v3 = ((v3.toNat : Nat) : Int); omega) (by rw [e3, ef])
  have pR : ∀ {y : Wd}, y 43 0 = a 43 0 → y 48 = a 48 → ∀ (n : Nat) {v1 v2 v3 : Int}, 0 ≤ v3 → v3 ≤ a 43 0 → v1 = (fth (cnd (a 43 0) (a 48)) v3.toNat).1 → v2 = (fth (cnd (a 43 0) (a 48)) v3.toNat).2 → PC (f_R_father_11 n v1 v2 v3 y) (fun r _ => r = if (fth (cnd (a 43 0) (a 48)) (a 43 0).toNat).1 = -1 then -2 else (fth (cnd (a 43 0) (a 48)) (a 43 0).toNat).1) := by
    intro y y0 y48 n
    induction n with
    | zero => intros; exact pc_none
    | succ n ih =>
      intro v1 v2 v3 i0 i1 e1 e2
      rw [f_R_father_11, y0]
      refine pc_ite (fun z => ?_) (fun z => ?_)
      · have e : v3 = a 43 0 := by omega
        rw [e] at e1
        rw [← e1]
        refine pc_ite (fun c => ?_) (fun c => ?_)
        · rw [if_pos c]; exact pc_some rfl
        · rw [if_neg c]
          refine pc_lw (fun u2 _ => pc_call (rt1 v2 u2) (fun _ _ _ => pc_some rfl))
      · refine pc_call (ledR_pc (y := v3) (b := a 48) x0 hd (by omega) y0 (fun j _ => by rw [y48])) (fun r3 u4 q => ?_)
        rw [q.1, bcs_e q.2, jc_s]
        have ec : ((pn (fun k => inP (a 43 0) k && des (a 48) v3 k) 10 : Nat) : Int) = cnd (a 43 0) (a 48) v3.toNat := by
          unfold cnd
          rw [show ((v3.toNat : Nat) : Int) = v3 by omega]
        rw [ec]
        have ef : fth (cnd (a 43 0) (a 48)) (v3.toNat + 1) = if (fth (cnd (a 43 0) (a 48)) v3.toNat).2 < cnd (a 43 0) (a 48) v3.toNat then (((v3.toNat : Nat) : Int), cnd (a 43 0) (a 48) v3.toNat) else fth (cnd (a 43 0) (a 48)) v3.toNat := rfl
        have e3 : (v3 + 1).toNat = v3.toNat + 1 := by omega
        unfold f_R_father_43
        refine pc_ite (fun c => ?_) (fun c => ?_)
        · refine pc_let (fun x7 e7 => ?_)
          rw [wsucc (P := a 43 0) (by omega) (by omega)] at e7
          rw [if_pos (by omega)] at ef
          rw [e7]
          exact ih (by omega) (by omega) (by rw [e3, ef]; show v3 = ((v3.toNat : Nat) : Int); omega) (by rw [e3, ef])
        · refine pc_let (fun x7 e7 => ?_)
          rw [wsucc (P := a 43 0) (by omega) (by omega)] at e7
          rw [if_neg (by omega)] at ef
          rw [e7]
          exact ih (by omega) (by omega) (by rw [e3, ef]; exact e1) (by rw [e3, ef]; exact e2)
  unfold f_E_father
  refine pc_w (pE FU (v3 := 0) (by decide) x0.1 rfl rfl) (fun r _ q => ?_)
  unfold f_R_father
  refine pc_lw (fun y ey => ?_)
  refine pc_w (pR (y := y) (by rw [ey, st_k (by decide)]) (by rw [ey, st_row (by decide)]) FU (v3 := 0) (by decide) x0.1 rfl rfl) (fun r' _ q' => ?_)
  rw [q, q']
theorem dq_father {w : Wd} (h : LU w) : OK (f_E_father w) (fun r1 u1 => OK (f_R_father u1) (fun r2 u2 => LU u2 ∧ r1 = r2)) :=
  d_er (xR := fun u => f_R_father u) h (d_father h) (pc_w (pc_ok (e_E_father h.1.1)) (fun _ _ q => g_hi q.1 (by decide))) (fun _ ha hs => er_father ha hs)
/-! COMMON -/
theorem er_common {a w : Wd} {v1 v2 : Int} (h : ER a w) (hS : Sn (a 43 0) (a 47) (a 48) (a 49) (a 43 8)) : PC (f_E_common v1 v2 w) (fun r _ => PC (f_R_common v1 v2 a) (fun r' _ => r = r')) := by
  have x0 : 0 ≤ a 43 0 ∧ a 43 0 ≤ 10 := h.2.2.1
  have x3 : w 5 3 = a 43 0 := h.1.1.2.1
  have xp : ∀ j : Nat, (j : Int) < a 43 0 → w 6 j = a 44 j ∧ w 7 j = a 45 j ∧ w 8 j = a 48 j := h.1.2.1
  obtain ⟨d, hrk⟩ := rk_sn x0 hS
  unfold f_E_common f_R_common
  have pE : PC (f_E_areTwo v1 v2 w) (fun r u => u = w ∧ r = if (0 ≤ v1 ∧ v1 < a 43 0) ∧ (0 ≤ v2 ∧ v2 < a 43 0) ∧ v1 ≠ v2 then 1 else 0) := by
    unfold f_E_areTwo
    refine pc_ite (fun c => pc_some ⟨rfl, ?_⟩) (fun c => ?_)
    · rw [if_neg (fun hh => hh.2.2 c)]
    refine pc_call (it_pc v1 w) (fun r1 u2 q => ?_)
    rw [q.1, q.2, x3]
    unfold hd
    by_cases c1 : 0 ≤ v1 ∧ v1 < a 43 0
    · rw [if_pos c1]
      refine pc_ite (fun e => absurd e (by decide)) (fun _ => ?_)
      refine pc_call (it_pc v2 w) (fun r3 u4 q3 => ?_)
      rw [q3.1, q3.2, x3]
      unfold hd
      by_cases c2 : 0 ≤ v2 ∧ v2 < a 43 0
      · rw [if_pos c2]
        refine pc_ite (fun e => absurd e (by decide)) (fun _ => pc_some ⟨rfl, ?_⟩)
        rw [if_pos ⟨c1, c2, c⟩]
      · rw [if_neg c2]
        refine pc_ite (fun _ => pc_some ⟨rfl, ?_⟩) (fun e => absurd rfl e)
        rw [if_neg (fun hh => c2 hh.2.1)]
    · rw [if_neg c1]
      refine pc_ite (fun _ => pc_some ⟨rfl, ?_⟩) (fun e => absurd rfl e)
      rw [if_neg (fun hh => c1 hh.1)]
  have pR : ∀ y : Wd, y 43 0 = a 43 0 → PC (f_R_areTwo v1 v2 y) (fun r u => u = y ∧ r = if (0 ≤ v1 ∧ v1 < a 43 0) ∧ (0 ≤ v2 ∧ v2 < a 43 0) ∧ v1 ≠ v2 then 1 else 0) := fun y y0 => by
    unfold f_R_areTwo
    refine pc_call (io_pc v1 y (by omega)) (fun r1 u2 q => ?_)
    rw [q.1, q.2, y0]
    unfold hd
    by_cases c1 : 0 ≤ v1 ∧ v1 < a 43 0
    · rw [if_pos c1]
      refine pc_ite (fun e => absurd e (by decide)) (fun _ => ?_)
      refine pc_call (io_pc v2 y (by omega)) (fun r3 u4 q3 => ?_)
      rw [q3.1, q3.2, y0]
      unfold hd
      by_cases c2 : 0 ≤ v2 ∧ v2 < a 43 0
      · rw [if_pos c2]
        refine pc_ite (fun e => absurd e (by decide)) (fun _ => ?_)
        refine pc_ite (fun c => pc_some ⟨rfl, ?_⟩) (fun c => pc_some ⟨rfl, ?_⟩)
        · rw [if_neg (fun hh => hh.2.2 c)]
        · rw [if_pos ⟨c1, c2, c⟩]
      · rw [if_neg c2]
        refine pc_ite (fun _ => pc_some ⟨rfl, ?_⟩) (fun e => absurd rfl e)
        rw [if_neg (fun hh => c2 hh.2.1)]
    · rw [if_neg c1]
      refine pc_ite (fun _ => pc_some ⟨rfl, ?_⟩) (fun e => absurd rfl e)
      rw [if_neg (fun hh => c1 hh.1)]
  refine pc_call pE (fun r1 u2 q1 => ?_)
  rw [q1.1, q1.2]
  by_cases cc : (0 ≤ v1 ∧ v1 < a 43 0) ∧ (0 ≤ v2 ∧ v2 < a 43 0) ∧ v1 ≠ v2
  · rw [if_pos cc]
    refine pc_ite (fun e => absurd e (by decide)) (fun _ => ?_)
    have two : ∀ (n m : Nat) {x v4 : Int} {y : Wd}, y 43 0 = a 43 0 → y 48 = a 48 → 0 ≤ v4 → (x = -1 ∨ ((0 ≤ x ∧ x < a 43 0) ∧ v4 + d x.toNat < a 43 0)) → PC (f_E_common_16 n v2 x v4 w) (fun r _ => PC (f_R_common_18 m v2 x y) (fun r' _ => r = r')) := by
      intro n
      induction n with
      | zero => intros; exact pc_none
      | succ n ih =>
        intro m x v4 y y0 y48 i0 hx
        cases m with
        | zero => exact fun _ _ _ => pc_none
        | succ m =>
        rw [f_E_common_16, x3, f_R_common_18]
        refine pc_ite (fun c => pc_some ?_) (fun c => ?_)
        · have e : x = -1 := by
            rcases hx with e | e
            · exact e
            · omega
          rw [if_pos e]; exact pc_some rfl
        refine pc_ite (fun e => pc_some ?_) (fun c1 => ?_)
        · rw [if_pos e]; exact pc_some rfl
        have hx2 := hx.resolve_left c1
        rw [if_neg c1]
        refine pc_call (steps_pc (x := v2) (y := x) x0.2 hrk x3 (fun j hj => (xp j hj).2.2) cc.2.1) (fun r3 u4 q => ?_)
        rw [q.1, q.2]
        have hL := ledR_pc (y := x) (b := a 48) (w := y) x0 hrk hx2.1 y0 (fun j _ => by rw [y48])
        have edes : des (a 48) x v2.toNat = decide (0 < stu (a 48) 11 v2 x) := by
          unfold des
          rw [show ((v2.toNat : Nat) : Int) = v2 by omega]
        have s0 : (v2 = x) → stu (a 48) 11 v2 x = 0 := fun e => by rw [stu, if_neg (show ¬ v2 = -1 by omega), if_pos e]
        have s1 : v2 ≠ x → ¬ stu (a 48) 11 v2 x < 0 → 0 < stu (a 48) 11 v2 x := fun e e2 => by
          rw [stu, if_neg (show ¬ v2 = -1 by omega), if_neg e] at e2 ⊢
          by_cases c5 : stu (a 48) 10 (a 48 v2.toNat) x < 0
          · rw [if_pos c5] at e2; omega
          · rw [if_neg c5]; omega
        have ip2 : inP (a 43 0) v2.toNat = true := decide_eq_true (by omega)
        refine pc_ite (fun c2 => ?_) (fun c2 => ?_)
        · have nx : x ≠ v2 := fun e => by rw [s0 e.symm] at c2; omega
          refine pc_call (bb_pc (v1 := x) (w := w) (by omega)) (fun r5 u6 q5 => ?_)
          rw [q5.1, q5.2, (xp x.toNat (by omega)).2.2]
          refine pc_let (fun x7 e7 => ?_)
          rw [wsucc (P := a 43 0) (by omega) (by omega)] at e7
          rw [e7]
          have hb := (hrk x.toNat (by omega)).2
          refine pc_w (ih m (x := a 48 x.toNat) (v4 := v4 + 1) y0 y48 (by omega) (by
            rcases hb with e | e
            · exact Or.inl e
            · exact Or.inr ⟨e.1, by omega⟩)) (fun r _ q6 => ?_)
          rw [if_neg nx]
          refine pc_call hL (fun r4 u5 q7 => ?_)
          rw [q7.1, hasR_10 y q7.2 (by omega), jc_s, ip2, edes, decide_eq_false (by omega)]
          refine pc_ite (fun _ => ?_) (fun e => absurd rfl e)
          refine pc_gd (fun _ => pc_let (fun x8 e8 => ?_))
          rw [e8, y48]
          exact q6
        · refine pc_some ?_
          by_cases nx : x = v2
          · rw [if_pos nx]; exact pc_some rfl
          · rw [if_neg nx]
            refine pc_call hL (fun r4 u5 q7 => ?_)
            rw [q7.1, hasR_10 y q7.2 (by omega), jc_s, ip2, edes, decide_eq_true (s1 (fun e => nx e.symm) c2)]
            exact pc_ite (fun e => absurd e (by decide)) (fun _ => pc_some rfl)
    intro r u eL
    refine pc_lw (fun y ey => ?_)
    have y0 : y 43 0 = a 43 0 := by rw [ey, st_k (by decide)]
    refine pc_call (pR y y0) (fun r2 u3 q3 => ?_)
    rw [q3.1, q3.2, if_pos cc]
    refine pc_ite (fun e => absurd e (by decide)) (fun _ => ?_)
    have dr := (hrk v1.toNat (by omega)).1
    exact two FU FU y0 (by rw [ey, st_row (by decide)]) (by decide) (Or.inr ⟨cc.1, by omega⟩) r u eL
  · rw [if_neg cc]
    refine pc_ite (fun _ => pc_some (pc_lw (fun y ey => ?_))) (fun e => absurd rfl e)
    refine pc_call (pR y (by rw [ey, st_k (by decide)])) (fun r2 u3 q3 => ?_)
    rw [q3.2, if_neg cc]
    exact pc_ite (fun _ => pc_some rfl) (fun e => absurd rfl e)
theorem dq_common {w : Wd} {v1 v2 : Int} (h : LU w) (i_v1 : ((-2147483648 : Int) ≤ v1 ∧ v1 ≤ 2147483647)) (i_v2 : ((-2147483648 : Int) ≤ v2 ∧ v2 ≤ 2147483647)) : OK (f_E_common v1 v2 w) (fun r1 u1 => OK (f_R_common v1 v2 u1) (fun r2 u2 => LU u2 ∧ r1 = r2)) :=
  d_er (xR := fun u => f_R_common v1 v2 u) h (d_common h i_v1 i_v2) (pc_w (pc_ok (e_E_common h.1.1 i_v1 i_v2)) (fun _ _ q => g_hi q.1 (by decide))) (fun _ ha hs => er_common ha hs)
