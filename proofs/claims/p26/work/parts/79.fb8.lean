/-! A WEEK: who brings whom -/
def brn (bg : Nat → Int) : Nat → Nat → Bool
  | 0, _ => false
  | n + 1, q => brn bg n q || (bg n == (q : Int))
def byo (bg : Nat → Int) : Nat → Nat → Int
  | 0, _ => -1
  | n + 1, q => if bg n = (q : Int) then (n : Int) else byo bg n q
theorem brn_t {bg : Nat → Int} {q : Nat} : ∀ {n : Nat}, brn bg n q = true ↔ ∃ i, i < n ∧ bg i = q := by
  intro n
  induction n with
  | zero => exact ⟨(fun h => by cases h), (fun h => by obtain ⟨i, hi, _⟩ := h; omega)⟩
  | succ n ih =>
    rw [brn, Bool.or_eq_true, ih, beq_iff_eq]
    constructor
    · rintro (⟨i, hi, e⟩ | e)
      · exact ⟨i, by omega, e⟩
      · exact ⟨n, by omega, e⟩
    · rintro ⟨i, hi, e⟩
      by_cases c : i = n
      · rw [c] at e; exact Or.inr e
      · exact Or.inl ⟨i, by omega, e⟩
theorem brn_f {bg : Nat → Int} {q n : Nat} (h : ∀ i, i < n → bg i ≠ q) : brn bg n q = false := by
  cases hb : brn bg n q with
  | false => rfl
  | true =>
    obtain ⟨i, hi, e⟩ := brn_t.mp hb
    exact absurd e (h i hi)
theorem brn_eq {bg bg2 : Nat → Int} {q : Nat} : ∀ {n : Nat}, (∀ i, i < n → bg i = bg2 i) → brn bg n q = brn bg2 n q := by
  intro n
  induction n with
  | zero => intro _; rfl
  | succ n ih => intro h; rw [brn, brn, ih (fun i hi => h i (by omega)), h n (by omega)]
/-- nobody is brought by two -/
def INJ (n : Nat) (bg : Nat → Int) : Prop := ∀ i j, i < n → j < n → bg i = bg j → bg i ≠ -1 → i = j
theorem byo_e {bg : Nat → Int} {q : Nat} : ∀ {n i : Nat}, INJ n bg → i < n → bg i = q → byo bg n q = i := by
  intro n
  induction n with
  | zero => intro i _ h; omega
  | succ n ih =>
    intro i hI hi e
    rw [byo]
    by_cases c : bg n = (q : Int)
    · rw [if_pos c]
      have := hI i n hi (by omega) (e.trans c.symm) (by rw [e]; omega)
      omega
    · rw [if_neg c]
      refine ih (fun a b ha hb => hI a b (by omega) (by omega)) ?_ e
      by_cases c2 : i = n
      · rw [c2] at e; exact absurd e c
      · omega
theorem pn_1 {f : Nat → Bool} {c : Nat} : ∀ {n : Nat}, c < n → f c = false → pn (fun q => f q || ((c : Int) == (q : Int))) n = pn f n + 1 := by
  intro n
  induction n with
  | zero => intro h; omega
  | succ n ih =>
    intro hc hf
    rw [pn, pn]
    by_cases e : n = c
    · subst e
      have h0 : pn (fun q => f q || ((n : Int) == (q : Int))) n = pn f n := pn_eq (fun k hk => by
        rw [beq_eq_false_iff_ne.mpr (show ¬ (n : Int) = (k : Int) by omega), Bool.or_false])
      rw [h0, hf]
      simp
    · rw [ih (by omega) hf]
      have h1 : (f n || ((c : Int) == (n : Int))) = f n := by
        rw [beq_eq_false_iff_ne.mpr (show ¬ (c : Int) = (n : Int) by omega), Bool.or_false]
      rw [h1]; omega
/-- as many are brought as bring -/
theorem pn_brn {bg : Nat → Int} : ∀ {n : Nat}, INJ n bg → (∀ i, i < n → bg i = -1 ∨ (0 ≤ bg i ∧ bg i ≤ 9)) → pn (brn bg n) 10 = pn (fun i => !(bg i == -1)) n := by
  intro n
  induction n with
  | zero => intro _ _; exact pn_0 (fun k _ => rfl)
  | succ n ih =>
    intro hI hr
    have ih2 := ih (fun a b ha hb => hI a b (by omega) (by omega)) (fun i hi => hr i (by omega))
    rw [show pn (fun i => !(bg i == -1)) (n + 1) = pn (fun i => !(bg i == -1)) n + (if (!(bg n == -1)) = true then 1 else 0) from rfl]
    rcases hr n (by omega) with e | e
    · rw [show (!(bg n == -1)) = false from by rw [e]; rfl, if_neg (by decide), Nat.add_zero, ← ih2]
      refine pn_eq (f := brn bg (n + 1)) (g := brn bg n) (n := 10) (fun k hk => ?_)
      rw [brn, e, beq_eq_false_iff_ne.mpr (show ¬ (-1 : Int) = (k : Int) by omega), Bool.or_false]
    · have en : bg n = (((bg n).toNat : Nat) : Int) := by omega
      have hf : brn bg n (bg n).toNat = false := brn_f (fun i hi e2 => by
        have := hI i n (by omega) (by omega) (e2.trans en.symm) (by omega)
        omega)
      have h1 := pn_1 (f := brn bg n) (c := (bg n).toNat) (n := 10) (by omega) hf
      have hb : (!(bg n == -1)) = true := by rw [beq_eq_false_iff_ne.mpr (show ¬ bg n = -1 by omega)]; rfl
      rw [hb, if_pos rfl, ← ih2, ← h1]
      refine pn_eq (f := brn bg (n + 1)) (g := fun q => brn bg n q || (((bg n).toNat : Int) == (q : Int))) (n := 10) (fun k hk => ?_)
      rw [brn, ← en]
theorem bnow_pc {P : Int} {w : Wd} (hP : 0 ≤ P ∧ P ≤ 10) (h0 : w 43 0 = P) (hb : ∀ i : Nat, (i : Int) < P → w 58 i = -1 ∨ (0 ≤ w 58 i ∧ w 58 i ≤ 9)) : ∀ (n : Nat) {v1 v2 : Int}, 0 ≤ v2 → v2 ≤ P → B10 v1 (brn (w 58) v2.toNat) → PC (f_R_broughtNow_4 n v1 v2 w) (fun r u => u = w ∧ B10 r (brn (w 58) P.toNat)) := by
  intro n
  induction n with
  | zero => intros; exact pc_none
  | succ n ih =>
    intro v1 v2 i0 i1 hB1
    rw [f_R_broughtNow_4, h0]
    refine pc_ite (fun c => ?_) (fun c => ?_)
    · have e : v2 = P := by omega
      subst e
      exact pc_some ⟨rfl, hB1⟩
    · refine pc_gd (fun _ => ?_)
      have hv := hb v2.toNat (by omega)
      have nx : ∀ s : Int, B10 s (fun q => w 58 v2.toNat == (q : Int)) → PC (f_R_broughtNow_35 (f_R_broughtNow_4 n) v2 v1 s w) (fun r u => u = w ∧ B10 r (brn (w 58) P.toNat)) := by
        intro s e
        unfold f_R_broughtNow_35
        refine pc_let (fun x3 e3 => ?_)
        refine pc_let (fun x4 e4 => ?_)
        rw [wsucc (P := P) (by omega) (by omega)] at e4
        refine ih (by omega) (by omega) ?_
        rw [e3, e4, show (v2 + 1).toNat = v2.toNat + 1 by omega]
        exact b10_or hB1 e
      refine pc_ite (fun c2 => nx 0 ?_) (fun c2 => ?_)
      · refine b10_w b10_0 (fun k _ => ?_)
        rw [c2, beq_eq_false_iff_ne.mpr (show ¬ (-1 : Int) = (k : Int) by omega)]
      · refine pc_gd (fun _ => nx _ ?_)
        refine b10_w (b10_1 (i := w 58 v2.toNat) (by omega)) (fun k _ => ?_)
        by_cases ck : k = (w 58 v2.toNat).toNat
        · rw [decide_eq_true ck]
          exact (beq_iff_eq.mpr (by omega)).symm
        · rw [decide_eq_false ck]
          exact (beq_eq_false_iff_ne.mpr (by omega)).symm
theorem bn_pc {w : Wd} (hP : 0 ≤ w 43 0 ∧ w 43 0 ≤ 10) (hb : ∀ i : Nat, (i : Int) < w 43 0 → w 58 i = -1 ∨ (0 ≤ w 58 i ∧ w 58 i ≤ 9)) : PC (f_R_broughtNow w) (fun r u => u = w ∧ B10 r (brn (w 58) (w 43 0).toNat)) := by
  unfold f_R_broughtNow
  exact bnow_pc hP rfl hb FU (by decide) hP.1 b10_0
/-- brings -/
def bng (P : Int) (bg : Nat → Int) (q : Nat) : Bool := inP P q && !(bg q == -1)
def mvs (P : Int) (bg : Nat → Int) (q : Nat) : Bool := bng P bg q || brn bg P.toNat q
/-- a WEEK that may be, but for SEATS -/
def GWK (P : Int) (s h kn bg : Nat → Int) : Prop := INJ P.toNat bg ∧ ∀ i : Nat, (i : Int) < P → bg i = -1 ∨ ((0 ≤ bg i ∧ bg i < P) ∧ gst (s i) = true ∧ fre P s h (bg i).toNat = true ∧ bt (kn i) (bg i).toNat = true)
theorem fre_sr {P : Int} {s h : Nat → Int} {q : Nat} (hf : fre P s h q = true) : (q : Int) < P ∧ s q = 0 ∧ hB P h q = false := by
  unfold fre sr at hf
  rw [Bool.and_eq_true, Bool.and_eq_true, Bool.not_eq_true'] at hf
  exact ⟨inP_t hf.1.1, beq_iff_eq.mp hf.1.2, hf.2⟩
theorem gwk_r {P : Int} {s h kn bg : Nat → Int} (hg : GWK P s h kn bg) (hP : P ≤ 10) (i : Nat) (hi : (i : Int) < P) : bg i = -1 ∨ (0 ≤ bg i ∧ bg i ≤ 9) := by
  rcases hg.2 i hi with e | e
  · exact Or.inl e
  · exact Or.inr (by omega)
theorem brn_sr {P : Int} {s h kn bg : Nat → Int} (hg : GWK P s h kn bg) {q : Nat} (hb : brn bg P.toNat q = true) : (q : Int) < P ∧ s q = 0 ∧ fre P s h q = true := by
  obtain ⟨i, hi, e⟩ := brn_t.mp hb
  rcases hg.2 i (by omega) with e2 | ⟨_, _, e3, _⟩
  · omega
  · have e4 : (bg i).toNat = q := by omega
    rw [e4] at e3
    have := fre_sr e3
    exact ⟨this.1, this.2.1, e3⟩
theorem gwk_gs {P : Int} {s h kn bg : Nat → Int} (hg : GWK P s h kn bg) {q : Nat} (hb : bng P bg q = true) : gst (s q) = true := by
  unfold bng at hb
  rw [Bool.and_eq_true, Bool.not_eq_true', beq_eq_false_iff_ne] at hb
  rcases hg.2 q (inP_t hb.1) with e | e
  · exact absurd e hb.2
  · exact e.2.1
/-- how many are GUESTS then -/
def gth (P : Int) (s bg : Nat → Int) (g : Int) : Nat → Int
  | 0 => 0
  | n + 1 => gth P s bg g n + (if gst (s n) = true then (if bg n = -1 then (if g ≤ s n then 0 else 1) else 2) else 0)
theorem gth_e {P g : Int} {s h kn bg : Nat → Int} (hP : P ≤ 10) (hg : GWK P s h kn bg) : ∀ n : Nat, (n : Int) ≤ P → gth P s bg g n = ((2 * pn (fun i => !(bg i == -1)) n + pn (fun i => sty P s g i && (bg i == -1)) n : Nat) : Int) := by
  intro n
  induction n with
  | zero => intro _; rfl
  | succ n ih =>
    intro hn
    rw [gth, pn, pn, ih (by omega)]
    have hp : inP P n = true := decide_eq_true (by omega)
    have hsty : sty P s g n = (gst (s n) && decide (s n < g)) := by unfold sty gs; rw [hp]; rfl
    rcases hg.2 n (by omega) with e | ⟨e1, e2, _⟩
    · rw [e, hsty]
      cases hgs : gst (s n) with
      | false => simp
      | true =>
        by_cases c : g ≤ s n
        · rw [if_pos rfl, if_pos rfl, if_pos c, decide_eq_false (show ¬ s n < g by omega)]; simp
        · rw [if_pos rfl, if_pos rfl, if_neg c, decide_eq_true (show s n < g by omega)]
          simp
          omega
    · have ne : ¬ bg n = -1 := by omega
      rw [e2, if_pos rfl, if_neg ne, beq_eq_false_iff_ne.mpr ne]
      simp
      omega
theorem pn_cut {f : Nat → Bool} {n : Nat} : ∀ {m : Nat}, n ≤ m → (∀ k, n ≤ k → k < m → f k = false) → pn f m = pn f n := by
  intro m
  induction m with
  | zero => intro h _; rw [show n = 0 by omega]
  | succ m ih =>
    intro h hf
    by_cases c : n = m + 1
    · rw [c]
    · rw [pn, ih (by omega) (fun k h1 h2 => hf k h1 (by omega)), hf m (by omega) (by omega)]; rfl
/-- the class counts the same -/
theorem gth_pn {P g : Int} {s h kn bg : Nat → Int} (hP : 0 ≤ P ∧ P ≤ 10) (hg : GWK P s h kn bg) : ((pn (fun k => sty P s g k || mvs P bg k) 10 : Nat) : Int) = gth P s bg g P.toNat := by
  rw [gth_e hP.2 hg P.toNat (by omega), ← pn_brn hg.1 (fun i hi => gwk_r hg hP.2 i (by omega))]
  have e1 : pn (fun i => !(bg i == -1)) P.toNat = pn (bng P bg) 10 := by
    rw [pn_cut (f := bng P bg) (n := P.toNat) (m := 10) (by omega) (fun k h1 h2 => by
      unfold bng
      rw [show inP P k = false from decide_eq_false (by omega)]; rfl)]
    refine pn_eq (fun k hk => ?_)
    unfold bng
    rw [show inP P k = true from decide_eq_true (by omega)]; rfl
  have e2 : pn (fun i => sty P s g i && (bg i == -1)) P.toNat = pn (fun i => sty P s g i && !bng P bg i) 10 := by
    rw [pn_cut (f := fun i => sty P s g i && !bng P bg i) (n := P.toNat) (m := 10) (by omega) (fun k h1 h2 => by
      unfold sty gs
      rw [show inP P k = false from decide_eq_false (by omega)]; rfl)]
    refine pn_eq (fun k hk => ?_)
    unfold bng
    rw [show inP P k = true from decide_eq_true (by omega)]
    cases (bg k == -1) <;> simp
  have e3 : pn (fun k => sty P s g k || mvs P bg k) 10 = pn (fun k => (sty P s g k && !bng P bg k) || (bng P bg k || brn bg P.toNat k)) 10 := pn_eq (fun k _ => by
    unfold mvs
    cases sty P s g k <;> cases bng P bg k <;> cases brn bg P.toNat k <;> rfl)
  have d1 : ∀ k, k < 10 → (bng P bg k && brn bg P.toNat k) = false := fun k _ => by
    cases hb : bng P bg k with
    | false => rfl
    | true =>
      cases hr : brn bg P.toNat k with
      | false => rfl
      | true =>
        have h1 := gwk_gs hg hb
        rw [(brn_sr hg hr).2.1] at h1
        cases h1
  have d2 : ∀ k, k < 10 → ((sty P s g k && !bng P bg k) && (bng P bg k || brn bg P.toNat k)) = false := fun k _ => by
    cases hb : bng P bg k with
    | true => simp
    | false =>
      cases hr : brn bg P.toNat k with
      | false => simp
      | true =>
        have : sty P s g k = false := by
          unfold sty gs
          rw [(brn_sr hg hr).2.1]
          cases inP P k <;> rfl
        rw [this]; rfl
  have e4 : pn (fun k => (sty P s g k && !bng P bg k) || (bng P bg k || brn bg P.toNat k)) 10 = pn (fun k => sty P s g k && !bng P bg k) 10 + pn (fun k => bng P bg k || brn bg P.toNat k) 10 := pn_or d2
  have e5 : pn (fun k => bng P bg k || brn bg P.toNat k) 10 = pn (bng P bg) 10 + pn (brn bg P.toNat) 10 := pn_or d1
  have e6 := pn_brn hg.1 (fun i hi => gwk_r hg hP.2 i (by omega))
  rw [e3, e4, e5, e2]
  omega
theorem gt_pc {P g : Int} {w : Wd} (hP : 0 ≤ P ∧ P ≤ 10) (h0 : w 43 0 = P) (hgr : w 43 10 = g) (hs : ∀ i : Nat, (i : Int) < P → 0 ≤ w 47 i ∧ w 47 i ≤ 4) : ∀ (n : Nat) {v1 v2 : Int}, 0 ≤ v2 → v2 ≤ P → v1 = gth P (w 47) (w 58) g v2.toNat → (0 ≤ v1 ∧ v1 ≤ 2 * v2) → PC (f_R_guestsThen_4 n v1 v2 w) (fun r u => u = w ∧ r = gth P (w 47) (w 58) g P.toNat) := by
  intro n
  induction n with
  | zero => intros; exact pc_none
  | succ n ih =>
    intro v1 v2 i0 i1 h1 hr
    rw [f_R_guestsThen_4, h0]
    refine pc_ite (fun c => ?_) (fun c => ?_)
    · have e : v2 = P := by omega
      subst e
      exact pc_some ⟨rfl, h1⟩
    · refine pc_gd (fun _ => ?_)
      rw [isG_e, jc_s]
      have es := wsucc (v := v2) (P := P) (by omega) (by omega)
      have hgs : gth P (w 47) (w 58) g (v2.toNat + 1) = gth P (w 47) (w 58) g v2.toNat + (if gst (w 47 v2.toNat) = true then (if w 58 v2.toNat = -1 then (if g ≤ w 47 v2.toNat then 0 else 1) else 2) else 0) := rfl
      have fin : ∀ x : Int, x = gth P (w 47) (w 58) g (v2.toNat + 1) → (0 ≤ x ∧ x ≤ 2 * v2 + 2) → PC (f_R_guestsThen_66 (f_R_guestsThen_4 n) x v2 w) (fun r u => u = w ∧ r = gth P (w 47) (w 58) g P.toNat) := by
        intro x e hx
        unfold f_R_guestsThen_66
        refine pc_let (fun x4 e4 => ?_)
        rw [es] at e4
        rw [e4]
        exact ih (by omega) (by omega) (by rw [show (v2 + 1).toNat = v2.toNat + 1 by omega]; exact e) (by omega)
      have f64 : ∀ s : Int, (0 ≤ s ∧ s ≤ 2) → s = (if gst (w 47 v2.toNat) = true then (if w 58 v2.toNat = -1 then (if g ≤ w 47 v2.toNat then 0 else 1) else 2) else 0) → PC (f_R_guestsThen_64 (f_R_guestsThen_4 n) v2 v1 s w) (fun r u => u = w ∧ r = gth P (w 47) (w 58) g P.toNat) := by
        intro s s2 e
        unfold f_R_guestsThen_64
        have w1 := w32_sp (v1 + s)
        refine pc_let (fun x3 e3 => ?_)
        exact fin x3 (by rw [hgs, ← h1, ← e]; omega) (by omega)
      have sr := hs v2.toNat (by omega)
      cases hb : gst (w 47 v2.toNat) with
      | false =>
        refine pc_ite (fun _ => fin v1 ?_ (by omega)) (fun e => absurd rfl e)
        rw [hgs, hb, ← h1]; simp
      | true =>
        rw [hb] at f64
        refine pc_ite (fun e => absurd e (by decide)) (fun _ => ?_)
        refine pc_gd (fun _ => ?_)
        refine pc_ite (fun c1 => ?_) (fun c1 => ?_)
        · refine pc_gd (fun _ => ?_)
          have w1 := w32_sp (w 47 v2.toNat - 1)
          have w2 := w32_sp (w32 (w 47 v2.toNat - 1) + 1)
          rw [show w32 (w32 (w 47 v2.toNat - 1) + 1) = w 47 v2.toNat by omega, hgr]
          refine pc_ite (fun c2 => f64 0 (by decide) ?_) (fun c2 => f64 1 (by decide) ?_)
          · rw [if_pos rfl, if_pos c1, if_pos c2]
          · rw [if_pos rfl, if_pos c1, if_neg c2]
        · refine f64 2 (by decide) ?_
          rw [if_pos rfl, if_neg c1]
theorem gthen_pc {w : Wd} (hP : 0 ≤ w 43 0 ∧ w 43 0 ≤ 10) (hs : ∀ i : Nat, (i : Int) < w 43 0 → 0 ≤ w 47 i ∧ w 47 i ≤ 4) : PC (f_R_guestsThen w) (fun r u => u = w ∧ r = gth (w 43 0) (w 47) (w 58) (w 43 10) (w 43 0).toNat) := by
  unfold f_R_guestsThen
  exact gt_pc hP rfl rfl hs FU (by decide) hP.1 rfl (by decide)
