/-! SETS THAT THE REFERENCE COUNTS OUT -/
theorem wsucc {v P : Int} (h : 0 ≤ v ∧ v < P) (hP : P ≤ 10000) : w32 (v + 1) = v + 1 := w32_id (by omega)
theorem b10_step {x v : Int} {f : Nat → Bool} (hv : 0 ≤ v ∧ v ≤ 9) (hx : B10 x (fun k => decide ((k : Int) < v) && f k)) : B10 (ior x (if f v.toNat = true then ishl 1 v else 0)) (fun k => decide ((k : Int) < v + 1) && f k) := by
  have key : ∀ k : Nat, k < 10 → ((decide ((k : Int) < v) && f k) || (decide (k = v.toNat) && f v.toNat)) = (decide ((k : Int) < v + 1) && f k) := by
    intro k hk
    by_cases c : k = v.toNat
    · rw [c, decide_eq_false (show ¬ ((v.toNat : Nat) : Int) < v by omega), decide_eq_true (show ((v.toNat : Nat) : Int) < v + 1 by omega), decide_eq_true rfl]
      rfl
    · rw [decide_eq_false c]
      by_cases c2 : (k : Int) < v
      · rw [decide_eq_true c2, decide_eq_true (show (k : Int) < v + 1 by omega)]; simp
      · rw [decide_eq_false c2, decide_eq_false (show ¬ (k : Int) < v + 1 by omega)]; rfl
  cases hf : f v.toNat with
  | true =>
    rw [if_pos rfl]
    refine b10_w (b10_or hx (b10_1 hv)) (fun k hk => ?_)
    rw [← key k hk, hf, Bool.and_true]
  | false =>
    rw [if_neg (by decide)]
    refine b10_w (b10_or hx b10_0) (fun k hk => ?_)
    rw [← key k hk, hf, Bool.and_false]
theorem th_e {lo hi P : Int} {w : Wd} (hP : 0 ≤ P ∧ P ≤ 10) (h0 : w 43 0 = P) : ∀ (n : Nat) {v3 v4 : Int}, 0 ≤ v4 → v4 ≤ P → B10 v3 (fun k => decide ((k : Int) < v4) && decide (lo ≤ w 47 k ∧ w 47 k ≤ hi)) → PC (f_R_those_5 n lo hi v3 v4 w) (fun r u => u = w ∧ B10 r (fun k => inP P k && decide (lo ≤ w 47 k ∧ w 47 k ≤ hi))) := by
  intro n
  induction n with
  | zero => intros; exact pc_none
  | succ n ih =>
    intro v3 v4 i4 i5 hB
    rw [f_R_those_5, h0]
    refine pc_ite (fun c => ?_) (fun c => ?_)
    · have e : v4 = P := by omega
      subst e
      exact pc_some ⟨rfl, hB⟩
    · refine pc_gd (fun _ => ?_)
      rw [in_e, jc_s]
      have hs := b10_step (by omega) hB
      have nx : ∀ s : Int, s = (if decide (lo ≤ w 47 v4.toNat ∧ w 47 v4.toNat ≤ hi) = true then ishl 1 v4 else 0) → PC (f_R_those_38 (f_R_those_5 n) lo hi v4 v3 s w) (fun r u => u = w ∧ B10 r (fun k => inP P k && decide (lo ≤ w 47 k ∧ w 47 k ≤ hi))) := by
        intro s e
        unfold f_R_those_38
        refine pc_let (fun x3 e3 => ?_)
        refine pc_let (fun x4 e4 => ?_)
        rw [wsucc (P := P) (by omega) (by omega)] at e4
        refine ih (by omega) (by omega) ?_
        rw [e3, e4, e]; exact hs
      by_cases c2 : lo ≤ w 47 v4.toNat ∧ w 47 v4.toNat ≤ hi
      · rw [if_pos c2]
        refine pc_ite (fun h => absurd h (by decide)) (fun _ => nx _ ?_)
        rw [if_pos (decide_eq_true c2)]
      · rw [if_neg c2]
        refine pc_ite (fun _ => nx _ ?_) (fun h => absurd rfl h)
        rw [decide_eq_false c2]; rfl
theorem those_e {lo hi : Int} {w : Wd} (hP : 0 ≤ w 43 0 ∧ w 43 0 ≤ 10) : PC (f_R_those lo hi w) (fun r u => u = w ∧ B10 r (fun k => inP (w 43 0) k && decide (lo ≤ w 47 k ∧ w 47 k ≤ hi))) := by
  unfold f_R_those
  refine th_e hP rfl FU (by decide) hP.1 (b10_w b10_0 (fun k _ => ?_))
  rw [decide_eq_false (show ¬ (k : Int) < 0 by omega)]; rfl
theorem rg_e {w : Wd} (hP : 0 ≤ w 43 0 ∧ w 43 0 ≤ 10) : PC (f_R_guests w) (fun r u => u = w ∧ B10 r (gs (w 43 0) (w 47))) := by
  unfold f_R_guests
  refine pc_call (those_e hP) (fun r u q => pc_some ⟨q.1, b10_w q.2 (fun k _ => ?_)⟩)
  unfold gs gst
  by_cases c : 1 ≤ w 47 k ∧ w 47 k ≤ 3
  · rw [decide_eq_true c, decide_eq_true (show 1 ≤ w 47 k ∧ w 47 k < 4 by omega)]
  · rw [decide_eq_false c, decide_eq_false (show ¬ (1 ≤ w 47 k ∧ w 47 k < 4) by omega)]
theorem rs0_e {w : Wd} (hP : 0 ≤ w 43 0 ∧ w 43 0 ≤ 10) : PC (f_R_those 0 0 w) (fun r u => u = w ∧ B10 r (sr (w 43 0) (w 47))) := by
  refine pc_w (those_e hP) (fun r u q => ⟨q.1, b10_w q.2 (fun k _ => ?_)⟩)
  unfold sr
  by_cases c : w 47 k = 0
  · rw [decide_eq_true (show 0 ≤ w 47 k ∧ w 47 k ≤ 0 by omega), c]; rfl
  · rw [decide_eq_false (show ¬ (0 ≤ w 47 k ∧ w 47 k ≤ 0) by omega), beq_eq_false_iff_ne.mpr c]
theorem rou_e {w : Wd} (hP : 0 ≤ w 43 0 ∧ w 43 0 ≤ 10) : PC (f_R_those 4 4 w) (fun r u => u = w ∧ B10 r (ou (w 43 0) (w 47))) := by
  refine pc_w (those_e hP) (fun r u q => ⟨q.1, b10_w q.2 (fun k _ => ?_)⟩)
  unfold ou
  by_cases c : w 47 k = 4
  · rw [decide_eq_true (show 4 ≤ w 47 k ∧ w 47 k ≤ 4 by omega), c]; rfl
  · rw [decide_eq_false (show ¬ (4 ≤ w 47 k ∧ w 47 k ≤ 4) by omega), beq_eq_false_iff_ne.mpr c]
def hB (P : Int) (h : Nat → Int) (k : Nat) : Bool := inP P k && !(h k == 0)
theorem hid_e {P : Int} {w : Wd} (hP : 0 ≤ P ∧ P ≤ 10) (h0 : w 43 0 = P) : ∀ (n : Nat) {v1 v2 : Int}, 0 ≤ v2 → v2 ≤ P → B10 v1 (fun k => decide ((k : Int) < v2) && !(w 46 k == 0)) → PC (f_R_hidden_4 n v1 v2 w) (fun r u => u = w ∧ B10 r (hB P (w 46))) := by
  intro n
  induction n with
  | zero => intros; exact pc_none
  | succ n ih =>
    intro v1 v2 i4 i5 hB1
    rw [f_R_hidden_4, h0]
    refine pc_ite (fun c => ?_) (fun c => ?_)
    · have e : v2 = P := by omega
      subst e
      exact pc_some ⟨rfl, hB1⟩
    · refine pc_gd (fun _ => ?_)
      have hs := b10_step (f := fun k => !(w 46 k == 0)) (by omega) hB1
      have nx : ∀ s : Int, s = (if (!(w 46 v2.toNat == 0)) = true then ishl 1 v2 else 0) → PC (f_R_hidden_29 (f_R_hidden_4 n) v2 v1 s w) (fun r u => u = w ∧ B10 r (hB P (w 46))) := by
        intro s e
        unfold f_R_hidden_29
        refine pc_let (fun x3 e3 => ?_)
        refine pc_let (fun x4 e4 => ?_)
        rw [wsucc (P := P) (by omega) (by omega)] at e4
        refine ih (by omega) (by omega) ?_
        rw [e3, e4, e]; exact hs
      by_cases c2 : w 46 v2.toNat = 0
      · refine pc_ite (fun _ => nx _ ?_) (fun h => absurd c2 h)
        rw [c2]; rfl
      · refine pc_ite (fun h => absurd h c2) (fun _ => nx _ ?_)
        rw [beq_eq_false_iff_ne.mpr c2]; rfl
theorem hidden_e {w : Wd} (hP : 0 ≤ w 43 0 ∧ w 43 0 ≤ 10) : PC (f_R_hidden w) (fun r u => u = w ∧ B10 r (hB (w 43 0) (w 46))) := by
  unfold f_R_hidden
  refine hid_e hP rfl FU (by decide) hP.1 (b10_w b10_0 (fun k _ => ?_))
  rw [decide_eq_false (show ¬ (k : Int) < 0 by omega)]; rfl
def fre (P : Int) (s h : Nat → Int) (k : Nat) : Bool := sr P s k && !hB P h k
theorem rfree_e {w : Wd} (hP : 0 ≤ w 43 0 ∧ w 43 0 ≤ 10) : PC (f_R_free w) (fun r u => u = w ∧ B10 r (fre (w 43 0) (w 47) (w 46))) := by
  unfold f_R_free
  refine pc_call (rs0_e hP) (fun r1 u2 q => ?_)
  rw [q.1]
  refine pc_call (hidden_e hP) (fun r3 u4 p => pc_some ⟨p.1, b10_andn q.2 p.2.2⟩)
/-! SETS THAT THE CLASS HAS -/
theorem eall_e {w : Wd} (hP : 0 ≤ w 5 3 ∧ w 5 3 ≤ 10) : ∃ r, f_F_everybody w = some (r, w) ∧ B10 r (inP (w 5 3)) := ⟨_, rfl, b10_all hP⟩
theorem eg_e {w : Wd} {P : Int} {s : Nat → Int} (h : WH (w 5 4) s P) : PC (f_F_guests w) (fun r u => u = w ∧ B10 r (gs P s)) := by
  unfold f_F_guests
  obtain ⟨r, e, b⟩ := og_e h w
  rw [e, jc_s]
  exact pc_some ⟨rfl, b⟩
theorem es_e {w : Wd} {P : Int} {s : Nat → Int} (h : WH (w 5 4) s P) (hP : 0 ≤ P ∧ P ≤ 10) (h3 : w 5 3 = P) : PC (f_F_strangers w) (fun r u => u = w ∧ B10 r (sr P s)) := by
  unfold f_F_strangers
  obtain ⟨r, e, b⟩ := eall_e (w := w) (by omega)
  rw [e, jc_s]
  unfold f_O_known
  rw [jc_s]
  refine pc_some ⟨rfl, b10_w (b10_andn b (wh_kn h).2) (fun k _ => ?_)⟩
  rw [h3]
  unfold sr
  cases inP P k with
  | false => rfl
  | true => cases (s k == 0) <;> rfl
theorem ef_e {w : Wd} {P : Int} {s h : Nat → Int} (hw : WH (w 5 4) s P) (hP : 0 ≤ P ∧ P ≤ 10) (h3 : w 5 3 = P) (h5 : B10 (w 5 5) (hB P h)) : PC (f_F_free w) (fun r u => u = w ∧ B10 r (fre P s h)) := by
  unfold f_F_free
  refine pc_call (es_e hw hP h3) (fun r1 u2 q => ?_)
  rw [q.1]
  exact pc_some ⟨rfl, b10_andn q.2 h5.2⟩
theorem ega_e {w : Wd} {P v : Int} {s : Nat → Int} {mv : Nat → Bool} (hw : WH (w 5 4) s P) (hg : w 5 7 ≤ 3) (hv : B10 v mv) : PC (f_F_guestsAfter v w) (fun r u => u = w ∧ r = ((pn (fun k => sty P s (w 5 7) k || mv k) 10 : Nat) : Int)) := by
  unfold f_F_guestsAfter
  obtain ⟨r, e, b⟩ := stay_e hw hg w
  rw [e, jc_s, bcs_e (b10_or b hv) w, jc_s]
  exact pc_some ⟨rfl, rfl⟩
/-- whom some know together -/
def kbn (kn : Nat → Int) (f : Nat → Bool) : Nat → Nat → Bool
  | 0, _ => false
  | n + 1, q => kbn kn f n q || (f n && bt (kn n) q)
theorem kbn_eq {kn kn2 : Nat → Int} {f g : Nat → Bool} {q : Nat} : ∀ {n : Nat}, (∀ k, k < n → f k = g k ∧ kn k = kn2 k) → kbn kn f n q = kbn kn2 g n q := by
  intro n
  induction n with
  | zero => intro _; rfl
  | succ n ih => intro h; rw [kbn, kbn, ih (fun k hk => h k (by omega)), (h n (by omega)).1, (h n (by omega)).2]
theorem kbn_0 {kn : Nat → Int} {f : Nat → Bool} {q : Nat} : ∀ {n : Nat}, (∀ k, k < n → f k = false) → kbn kn f n q = false := by
  intro n
  induction n with
  | zero => intro _; rfl
  | succ n ih => intro h; rw [kbn, ih (fun k hk => h k (by omega)), h n (by omega)]; rfl
theorem kbn_1 {kn : Nat → Int} {i q : Nat} : ∀ {n : Nat}, i < n → kbn kn (fun k => decide (k = i)) n q = bt (kn i) q := by
  intro n
  induction n with
  | zero => intro h; omega
  | succ n ih =>
    intro h
    rw [kbn]
    by_cases c : n = i
    · rw [kbn_0 (fun k hk => decide_eq_false (show ¬ k = i by omega)), decide_eq_true c, c]; rfl
    · rw [ih (by omega), decide_eq_false c]; simp
theorem kb_e {x P : Int} {f : Nat → Bool} {w : Wd} (hP : 0 ≤ P ∧ P ≤ 10) (h3 : w 5 3 = P) (hx : ∀ k, k < 10 → bt x k = f k) (h7 : ∀ j : Nat, (j : Int) < P → (0 : Int) ≤ w 7 j ∧ w 7 j ≤ 1023) : ∀ (n : Nat) {v2 v3 : Int}, 0 ≤ v3 → v3 ≤ P → B10 v2 (kbn (w 7) f v3.toNat) → PC (f_F_knownBy_4 n x v2 v3 w) (fun r u => u = w ∧ B10 r (kbn (w 7) f P.toNat)) := by
  intro n
  induction n with
  | zero => intros; exact pc_none
  | succ n ih =>
    intro v2 v3 i3 i4 hB1
    rw [f_F_knownBy_4, h3]
    refine pc_ite (fun c => ?_) (fun c => ?_)
    · have e : v3 = P := by omega
      subst e
      exact pc_some ⟨rfl, hB1⟩
    · rw [hasE_e w (by omega), jc_s, hx _ (by omega)]
      have nx : ∀ s : Int, B10 s (fun q => f v3.toNat && bt (w 7 v3.toNat) q) → PC (f_F_knownBy_31 (f_F_knownBy_4 n) x v3 v2 s w) (fun r u => u = w ∧ B10 r (kbn (w 7) f P.toNat)) := by
        intro s e
        unfold f_F_knownBy_31
        refine pc_let (fun x3 e3 => ?_)
        refine pc_let (fun x4 e4 => ?_)
        rw [wsucc (P := P) (by omega) (by omega)] at e4
        refine ih (by omega) (by omega) ?_
        rw [e3, e4, show (v3 + 1).toNat = v3.toNat + 1 by omega]
        exact b10_or hB1 e
      cases hf : f v3.toNat with
      | true =>
        refine pc_ite (fun h => absurd h (by decide)) (fun _ => ?_)
        refine pc_gd (fun _ => nx _ ?_)
        rw [hf]
        exact b10_w (b10_self (h7 v3.toNat (by omega))) (fun k _ => by rw [Bool.true_and])
      | false =>
        refine pc_ite (fun _ => nx 0 ?_) (fun h => absurd rfl h)
        rw [hf]
        exact b10_w b10_0 (fun k _ => by rw [Bool.false_and])
theorem knb_e {x : Int} {f : Nat → Bool} {w : Wd} (hP : 0 ≤ w 5 3 ∧ w 5 3 ≤ 10) (hx : ∀ k, k < 10 → bt x k = f k) (h7 : ∀ j : Nat, (j : Int) < w 5 3 → (0 : Int) ≤ w 7 j ∧ w 7 j ≤ 1023) : PC (f_F_knownBy x w) (fun r u => u = w ∧ B10 r (kbn (w 7) f (w 5 3).toNat)) := by
  unfold f_F_knownBy
  exact kb_e hP rfl hx h7 FU (by decide) hP.1 b10_0
/-- of one -/
theorem kn1_e {i : Int} {w : Wd} (hP : 0 ≤ w 5 3 ∧ w 5 3 ≤ 10) (hi : 0 ≤ i ∧ i < w 5 3) (h7 : ∀ j : Nat, (j : Int) < w 5 3 → (0 : Int) ≤ w 7 j ∧ w 7 j ≤ 1023) : PC (f_F_knownBy (ishl 1 i) w) (fun r u => u = w ∧ r = w 7 i.toNat) := by
  refine pc_w (knb_e hP (b10_1 (i := i) (by omega)).2 h7) (fun r u q => ⟨q.1, ?_⟩)
  refine b10_eq q.2 (b10_self (h7 i.toNat (by omega))) (fun k _ => ?_)
  exact kbn_1 (by omega)
/-! THE WEEK BEHIND WHICH ONE WAS A GUEST FIRST -/
def fw (f : Nat → Int) (j : Nat) : Nat → Int
  | 0 => -1
  | n + 1 => if fw f j n = -1 then (if bt (f n) j = true then (n : Int) else -1) else fw f j n
theorem fw_rg (f : Nat → Int) (j : Nat) : ∀ n : Nat, -1 ≤ fw f j n ∧ fw f j n < n := by
  intro n
  induction n with
  | zero => rw [fw]; exact ⟨Int.le_refl _, by decide⟩
  | succ n ih =>
    rw [fw]
    split
    · split <;> omega
    · omega
theorem fw_eq {f g : Nat → Int} {j : Nat} : ∀ {n : Nat}, (∀ t, t < n → f t = g t) → fw f j n = fw g j n := by
  intro n
  induction n with
  | zero => intro _; rfl
  | succ n ih => intro h; rw [fw, fw, ih (fun k hk => h k (by omega)), h n (by omega)]
theorem fw_no {f : Nat → Int} {j : Nat} : ∀ {n : Nat}, (∀ t, t < n → bt (f t) j = false) → fw f j n = -1 := by
  intro n
  induction n with
  | zero => intro _; rfl
  | succ n ih => intro h; rw [fw, if_pos (ih (fun k hk => h k (by omega))), h n (by omega)]; rfl
theorem fw_s {f : Nat → Int} {j n : Nat} (h : bt (f n) j = true) : fw f j (n + 1) = if fw f j n = -1 then (n : Int) else fw f j n := by
  rw [fw, if_pos h]
theorem fw_sf {f : Nat → Int} {j n : Nat} (h : bt (f n) j = false) : fw f j (n + 1) = fw f j n := by
  rw [fw, h]
  by_cases c : fw f j n = -1
  · rw [if_pos c, c]; rfl
  · rw [if_neg c]
/-- found: the first of all -/
theorem fw_at {f : Nat → Int} {j n : Nat} (h : bt (f n) j = true) (h2 : ∀ t, t < n → bt (f t) j = false) : ∀ {m : Nat}, n < m → fw f j m = n := by
  intro m
  induction m with
  | zero => intro h; omega
  | succ m ih =>
    intro hm
    by_cases c : m = n
    · subst c; rw [fw_s h, if_pos (fw_no h2)]
    · have e := ih (by omega)
      rw [fw, if_neg (by omega)]; exact e
/-! WHAT BOTH HAVE IN COMMON: all of who is what, weeks, what is kept -/
def SN (P : Int) (s b f wr : Nat → Int) (wk : Int) : Prop :=
  (∀ j : Nat, (j : Int) < P → s j = 0 → b j = -1 ∧ ∀ t : Nat, (t : Int) ≤ wk → bt (wr t) j = false) ∧ (∀ j : Nat, (j : Int) < P → f j = fw wr j (wk + 1).toNat) ∧ B10 (wr wk.toNat) (gs P s) ∧ ∀ t : Nat, (t : Int) ≤ wk → (0 ≤ wr t ∧ wr t ≤ 1023) ∧ ∀ j : Nat, j < 10 → bt (wr t) j = true → (j : Int) < P
def wki (w : Wd) (t : Nat) : Int := w 43 8 - w 43 32 + t
def UB (w : Wd) : Prop := ∀ t : Nat, (t : Int) < w 43 32 → WH (w 17 (wki w t).toNat) (fun j => w 59 (31 * t + 3 * j)) (w 43 0) ∧ w 18 (wki w t).toNat = w 59 (31 * t + 30) ∧ SN (w 43 0) (fun j => w 59 (31 * t + 3 * j)) (fun j => w 59 (31 * t + 3 * j + 1)) (fun j => w 59 (31 * t + 3 * j + 2)) (w 50) (wki w t) ∧ (∀ j : Nat, (j : Int) < w 43 0 → w 59 (31 * t + 3 * j) ≠ 0 → w 59 (31 * t + 3 * j + 1) = w 48 j ∧ w 47 j ≠ 0) ∧ ∀ t2 : Nat, t ≤ t2 → (t2 : Int) < w 43 32 → ∀ j : Nat, (j : Int) < w 43 0 → w 59 (31 * t + 3 * j) ≠ 0 → w 59 (31 * t2 + 3 * j) ≠ 0
def KBf (w : Wd) (c d g m : Nat) : Prop := w c 2 ≠ 0 → w c 3 = w 5 3 → WH (w c 4) (fun j => w 79 (105 * m + 3 * j)) (w 43 0) ∧ B10 (w c 5) (hB (w 43 0) (fun j => w 79 (105 * m + 31 + j))) ∧ (∀ j : Nat, (j : Int) < w 43 0 → w 79 (105 * m + 31 + j) = 0 ∨ w 79 (105 * m + 31 + j) = 1) ∧ w c 6 = w 79 (105 * m + 30) ∧ (w c 9 = w 79 (105 * m + 43) ∧ 0 ≤ w c 9 ∧ w c 9 ≤ 60) ∧ (∀ j : Nat, (j : Int) < w 43 0 → w d j = w 79 (105 * m + 3 * j + 1)) ∧ (∀ t : Nat, t < 61 → (t : Int) ≤ w c 9 → w g t = w 79 (105 * m + 44 + t)) ∧ SN (w 43 0) (fun j => w 79 (105 * m + 3 * j)) (fun j => w 79 (105 * m + 3 * j + 1)) (fun j => w 79 (105 * m + 3 * j + 2)) (fun t => w 79 (105 * m + 44 + t)) (w c 9) ∧ (1 ≤ w c 7 ∧ w c 7 ≤ 3) ∧ 1 ≤ w c 8 ∧ w c 8 ≤ 10
def PPL (w : Wd) : Prop := ∀ j : Nat, (j : Int) < w 43 0 → w 6 j = w 44 j ∧ w 7 j = w 45 j ∧ w 8 j = w 48 j
def FC (w : Wd) : Prop := CO w ∧ PPL w ∧ B10 (w 5 5) (hB (w 43 0) (w 46)) ∧ WH (w 5 4) (w 47) (w 43 0) ∧ (w 5 6 = w 43 7 ∧ w 15 3 = w 43 8 ∧ w 15 4 = w 43 32) ∧ (∀ t : Nat, (t : Int) ≤ w 43 8 → w 16 t = w 50 t) ∧ SN (w 43 0) (w 47) (w 48) (w 49) (w 50) (w 43 8) ∧ UB w ∧ KBf w 37 38 39 0 ∧ KBf w 40 41 42 1 ∧ (1 ≤ w 43 10 ∧ w 43 10 ≤ 3) ∧ 1 ≤ w 43 11 ∧ w 43 11 ≤ 10
def fcP : List (Nat × Nat) := [(1, 1), (43, 13), (5, 3), (5, 4), (5, 5), (5, 6), (5, 7), (5, 8), (15, 3), (15, 4), (37, 2), (37, 3), (37, 4), (37, 5), (37, 6), (37, 7), (37, 8), (37, 9), (40, 2), (40, 3), (40, 4), (40, 5), (40, 6), (40, 7), (40, 8), (40, 9), (43, 0), (43, 7), (43, 8), (43, 10), (43, 11), (43, 32), (43, 56)]
def fcA : List Nat := [2, 6, 7, 8, 16, 17, 18, 38, 39, 41, 42, 44, 45, 46, 47, 48, 49, 50, 51, 59, 79, 80, 81]
theorem fc_fr {w u : Wd} (h : FC w) (f : FR fcP fcA w u) : FC u := by
  have c0 := co_fr h.1 (fr_sub f (by decide) (by decide))
  have p := f.1
  have p1_1 := p (1, 1) (by decide)
  have p43_13 := p (43, 13) (by decide)
  have p5_3 := p (5, 3) (by decide)
  have p5_4 := p (5, 4) (by decide)
  have p5_5 := p (5, 5) (by decide)
  have p5_6 := p (5, 6) (by decide)
  have p5_7 := p (5, 7) (by decide)
  have p5_8 := p (5, 8) (by decide)
  have p15_3 := p (15, 3) (by decide)
  have p15_4 := p (15, 4) (by decide)
  have p37_2 := p (37, 2) (by decide)
  have p37_3 := p (37, 3) (by decide)
  have p37_4 := p (37, 4) (by decide)
  have p37_5 := p (37, 5) (by decide)
  have p37_6 := p (37, 6) (by decide)
  have p37_7 := p (37, 7) (by decide)
  have p37_8 := p (37, 8) (by decide)
  have p37_9 := p (37, 9) (by decide)
  have p40_2 := p (40, 2) (by decide)
  have p40_3 := p (40, 3) (by decide)
  have p40_4 := p (40, 4) (by decide)
  have p40_5 := p (40, 5) (by decide)
  have p40_6 := p (40, 6) (by decide)
  have p40_7 := p (40, 7) (by decide)
  have p40_8 := p (40, 8) (by decide)
  have p40_9 := p (40, 9) (by decide)
  have p43_0 := p (43, 0) (by decide)
  have p43_7 := p (43, 7) (by decide)
  have p43_8 := p (43, 8) (by decide)
  have p43_10 := p (43, 10) (by decide)
  have p43_11 := p (43, 11) (by decide)
  have p43_32 := p (43, 32) (by decide)
  have p43_56 := p (43, 56) (by decide)
  have a2 := f.2 2 (by decide)
  have a6 := f.2 6 (by decide)
  have a7 := f.2 7 (by decide)
  have a8 := f.2 8 (by decide)
  have a16 := f.2 16 (by decide)
  have a17 := f.2 17 (by decide)
  have a18 := f.2 18 (by decide)
  have a38 := f.2 38 (by decide)
  have a39 := f.2 39 (by decide)
  have a41 := f.2 41 (by decide)
  have a42 := f.2 42 (by decide)
  have a44 := f.2 44 (by decide)
  have a45 := f.2 45 (by decide)
  have a46 := f.2 46 (by decide)
  have a47 := f.2 47 (by decide)
  have a48 := f.2 48 (by decide)
  have a49 := f.2 49 (by decide)
  have a50 := f.2 50 (by decide)
  have a51 := f.2 51 (by decide)
  have a59 := f.2 59 (by decide)
  have a79 := f.2 79 (by decide)
  have a80 := f.2 80 (by decide)
  have a81 := f.2 81 (by decide)

  refine ⟨c0, ?_⟩
  unfold PPL UB KBf wki
  rw [p5_3, p5_4, p5_5, p5_6, p15_3, p15_4, p37_2, p37_3, p37_4, p37_5, p37_6, p37_7, p37_8, p37_9, p40_2, p40_3, p40_4, p40_5, p40_6, p40_7, p40_8, p40_9, p43_0, p43_7, p43_8, p43_10, p43_11, p43_32, a6, a7, a8, a16, a17, a18, a38, a39, a41, a42, a44, a45, a46, a47, a48, a49, a50, a59, a79]
  exact h.2
