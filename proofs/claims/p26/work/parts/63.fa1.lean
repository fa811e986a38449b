/-! SETS OF PEOPLE: ten bits -/
def B10 (x : Int) (f : Nat → Bool) : Prop := (0 ≤ x ∧ x ≤ 1023) ∧ ∀ k, k < 10 → bt x k = f k
theorem bt_hi {x : Int} (h : 0 ≤ x ∧ x ≤ 1023) {k : Nat} (hk : 10 ≤ k) : bt x k = false := by
  cases hb : bt x k with
  | false => rfl
  | true =>
    have e : ((2 ^ 10 : Nat) : Int) = 1024 := by decide
    have := bt_lt (x := x) (n := 10) (by decide) ⟨h.1, by omega⟩ hb
    omega
theorem b10_self {x : Int} (h : 0 ≤ x ∧ x ≤ 1023) : B10 x (bt x) := ⟨h, fun _ _ => rfl⟩
theorem b10_eq {x y : Int} {f g : Nat → Bool} (hx : B10 x f) (hy : B10 y g) (h : ∀ k, k < 10 → f k = g k) : x = y :=
  bt_ext hx.1 hy.1 (fun k hk => by rw [hx.2 k hk, hy.2 k hk]; exact h k hk)
theorem b10_w {x : Int} {f g : Nat → Bool} (hx : B10 x f) (h : ∀ k, k < 10 → f k = g k) : B10 x g := ⟨hx.1, fun k hk => (hx.2 k hk).trans (h k hk)⟩
theorem b10_0 : B10 0 (fun _ => false) := ⟨by decide, fun k _ => bt_0 k⟩
theorem b10_and {x y : Int} {f g : Nat → Bool} (hx : B10 x f) (hy : ∀ k, k < 10 → bt y k = g k) : B10 (iand x y) (fun k => f k && g k) := by
  have h1 := hx.1
  have h := iand_l (x := x) (y := y) (by omega)
  exact ⟨by omega, fun k hk => by rw [bt_and, hx.2 k hk, hy k hk]⟩
theorem b10_andn {x y : Int} {f g : Nat → Bool} (hx : B10 x f) (hy : ∀ k, k < 10 → bt y k = g k) : B10 (iand x (ixor y (-1))) (fun k => f k && !g k) :=
  b10_and hx (fun k hk => by rw [bt_not _ (by omega), hy k hk])
theorem b10_or {x y : Int} {f g : Nat → Bool} (hx : B10 x f) (hy : B10 y g) : B10 (ior x y) (fun k => f k || g k) := by
  have h := ior_n 10 (x := x) (y := y) (m := 1023) (by decide) (by decide) hx.1 hy.1
  exact ⟨h, fun k hk => by rw [bt_or, hx.2 k hk, hy.2 k hk]⟩
theorem b10_1 {i : Int} (h : 0 ≤ i ∧ i ≤ 9) : B10 (ishl 1 i) (fun k => decide (k = i.toNat)) := by
  have h1 := ishl1_n 9 (i := i) (j := 9) (m := 512) (by decide) (by decide) (by decide) h
  exact ⟨by omega, fun k hk => bt_shl (by omega) (by omega)⟩
theorem b10_all {P : Int} (h : 0 ≤ P ∧ P ≤ 10) : B10 (w32 (ishl 1 P - 1)) (fun k => decide ((k : Int) < P)) := by
  have hA := all_e h
  refine ⟨hA.2, fun k hk => ?_⟩
  rw [hA.1, bt_all (by omega) (by omega)]
  show _ = decide ((k : Int) < P)
  by_cases c : (k : Int) < P
  · rw [decide_eq_true c, decide_eq_true (by omega)]
  · rw [decide_eq_false c, decide_eq_false (by omega)]
theorem bt_1023 {k : Nat} (hk : k < 32) : bt 1023 k = decide (k < 10) := by
  have h := bt_all (P := 10) (by decide) hk
  exact h
theorem bt_shr {x i : Int} {k : Nat} (hi : 0 ≤ i) (hk : i.toNat + k < 32) : bt (ishr x i) k = bt x (i.toNat + k) := by
  have hh : (List.range 32).all (fun k => decide (((Int32.ofInt (k : Int) &&& 31).toBitVec.smod 32).toNat = k)) = true := by decide +kernel
  have h2 := of_decide_eq_true (List.all_eq_true.mp hh i.toNat (List.mem_range.mpr (by omega)))
  rw [Int.toNat_of_nonneg hi] at h2
  unfold bt ishr
  rw [Int32.ofInt_toInt, Int32.toBitVec_shiftRight, BitVec.sshiftRight', h2, BitVec.getLsbD_sshiftRight]
  rw [if_pos hk]
  simp
  omega
theorem bt_shr10 {x : Int} {k : Nat} (hk : k < 22) : bt (ishr x 10) k = bt x (10 + k) := bt_shr (i := 10) (by decide) (show 10 + k < 32 by omega)
theorem bt_shr20 {x : Int} {k : Nat} (hk : k < 12) : bt (ishr x 20) k = bt x (20 + k) := bt_shr (i := 20) (by decide) (show 20 + k < 32 by omega)
theorem b10_m {y : Int} {f : Nat → Bool} (hy : ∀ k, k < 10 → bt y k = f k) : B10 (iand y 1023) f := by
  have h := iand_r (x := y) (y := 1023) (by decide)
  exact ⟨h, fun k hk => by rw [bt_and, bt_1023 (by omega), decide_eq_true hk, Bool.and_true]; exact hy k hk⟩
theorem bit_i {x k : Int} (hk : 0 ≤ k ∧ k < 32) : iand (ishr x k) 1 = if bt x k.toNat then 1 else 0 := by
  have h := has_bt (x := x) hk
  have h2 := iand_r (x := ishr x k) (y := 1) (by decide)
  cases hb : bt x k.toNat with
  | true => rw [h.mpr hb]; rfl
  | false =>
    have h3 : ¬ iand (ishr x k) 1 = 1 := fun e => by rw [h.mp e] at hb; cases hb
    show _ = (0 : Int)
    omega
/-! how many -/
def pn (f : Nat → Bool) : Nat → Nat
  | 0 => 0
  | k + 1 => pn f k + (if f k then 1 else 0)
theorem pn_le (f : Nat → Bool) : ∀ n, pn f n ≤ n := by
  intro n
  induction n with
  | zero => exact Nat.le_refl 0
  | succ n ih => rw [pn]; split <;> omega
theorem pn_eq {f g : Nat → Bool} : ∀ {n : Nat}, (∀ k, k < n → f k = g k) → pn f n = pn g n := by
  intro n
  induction n with
  | zero => intro _; rfl
  | succ n ih => intro h; rw [pn, pn, ih (fun k hk => h k (by omega)), h n (by omega)]
theorem pn_0 {f : Nat → Bool} : ∀ {n : Nat}, (∀ k, k < n → f k = false) → pn f n = 0 := by
  intro n
  induction n with
  | zero => intro _; rfl
  | succ n ih => intro h; rw [pn, ih (fun k hk => h k (by omega)), h n (by omega)]; rfl
theorem pn_or {f g : Nat → Bool} : ∀ {n : Nat}, (∀ k, k < n → (f k && g k) = false) → pn (fun k => f k || g k) n = pn f n + pn g n := by
  intro n
  induction n with
  | zero => intro _; rfl
  | succ n ih =>
    intro h
    have h1 := h n (by omega)
    rw [pn, pn, pn, ih (fun k hk => h k (by omega))]
    cases hf : f n <;> cases hg : g n
    · simp
    · simp; omega
    · simp; omega
    · rw [hf, hg] at h1; cases h1
def bcI (v0 : Int) : Int :=
  let x1 := w32 (v0 - (iand (iush v0 1) 1431655765))
  let x2 := w32 ((iand x1 858993459) + (iand (iush x1 2) 858993459))
  let x3 := iand (w32 (x2 + (iush x2 4))) 252645135
  let x4 := w32 (x3 + (iush x3 8))
  let x5 := w32 (x4 + (iush x4 16))
  iand x5 63
theorem bcI_e : (List.range 1024).all (fun n => bcI (n : Int) == (pn (bt (n : Int)) 10 : Int)) = true := by decide +kernel
theorem bc_self {x : Int} (h : 0 ≤ x ∧ x ≤ 1023) (w : Wd) : f_JI_bitCount x w = some (((pn (bt x) 10 : Nat) : Int), w) := by
  have h1 := eq_of_beq (List.all_eq_true.mp bcI_e x.toNat (List.mem_range.mpr (by omega)))
  rw [Int.toNat_of_nonneg h.1] at h1
  show some (bcI x, w) = _
  rw [h1]
theorem bcs_e {x : Int} {f : Nat → Bool} (h : B10 x f) (w : Wd) : f_JI_bitCount x w = some (((pn f 10 : Nat) : Int), w) := by
  rw [bc_self h.1, pn_eq h.2]
theorem has_10 {x k : Int} {f : Nat → Bool} (w : Wd) (h : B10 x f) (hk : 0 ≤ k ∧ k < 10) : f_E_has x k w = some (if f k.toNat then 1 else 0, w) := by
  rw [hasE_e w hk, h.2 k.toNat (by omega)]
theorem has_o {x k : Int} (w : Wd) (hk : ¬ (0 ≤ k ∧ k < 10)) : f_E_has x k w = some (0, w) := by
  unfold f_E_has
  by_cases h : k < 0
  · rw [if_pos h]
  · rw [if_neg h, if_pos (by omega)]
/-! A STATE AS THE CLASS HAS IT: three bits of each, and as the reference has it: a number of each -/
def inP (P : Int) (k : Nat) : Bool := decide ((k : Int) < P)
def WH (x : Int) (s : Nat → Int) (P : Int) : Prop := (0 ≤ x ∧ x < 1073741824) ∧ (∀ k : Nat, k < 10 → bt x k = (inP P k && (s k == 1 || s k == 3)) ∧ bt x (10 + k) = (inP P k && (s k == 2 || s k == 3)) ∧ bt x (20 + k) = (inP P k && s k == 4)) ∧ ∀ k : Nat, (k : Int) < P → 0 ≤ s k ∧ s k ≤ 4
theorem v5 {v : Int} (h : 0 ≤ v ∧ v ≤ 4) : v = 0 ∨ v = 1 ∨ v = 2 ∨ v = 3 ∨ v = 4 := by omega
theorem inP_t {P : Int} {k : Nat} (h : inP P k = true) : (k : Int) < P := of_decide_eq_true h
def gs (P : Int) (s : Nat → Int) (k : Nat) : Bool := inP P k && gst (s k)
def sr (P : Int) (s : Nat → Int) (k : Nat) : Bool := inP P k && s k == 0
def ou (P : Int) (s : Nat → Int) (k : Nat) : Bool := inP P k && s k == 4
theorem wh_gs {x P : Int} {s : Nat → Int} (h : WH x s P) : B10 (iand (ior x (ishr x 10)) 1023) (gs P s) := by
  refine b10_m (fun k hk => ?_)
  have h1 := h.2.1 k hk
  rw [bt_or, bt_shr10 (by omega), h1.1, h1.2.1]
  unfold gs
  cases hp : inP P k with
  | false => rfl
  | true =>
    have h2 := h.2.2 k (inP_t hp)
    rcases v5 h2 with e | e | e | e | e <;> rw [e] <;> decide
theorem wh_ou {x P : Int} {s : Nat → Int} (h : WH x s P) : B10 (iand (ishr x 20) 1023) (ou P s) := by
  refine b10_m (fun k hk => ?_)
  have h1 := h.2.1 k hk
  rw [bt_shr20 (by omega), h1.2.2]
  rfl
theorem wh_kn {x P : Int} {s : Nat → Int} (h : WH x s P) : B10 (iand (ior (ior x (ishr x 10)) (ishr x 20)) 1023) (fun k => inP P k && !(s k == 0)) := by
  refine b10_m (fun k hk => ?_)
  have h1 := h.2.1 k hk
  rw [bt_or, bt_or, bt_shr10 (by omega), bt_shr20 (by omega), h1.1, h1.2.1, h1.2.2]
  cases hp : inP P k with
  | false => rfl
  | true =>
    have h2 := h.2.2 k (inP_t hp)
    rcases v5 h2 with e | e | e | e | e <;> rw [e] <;> decide
theorem og_e {x P : Int} {s : Nat → Int} (h : WH x s P) (w : Wd) : ∃ r, f_O_guests x w = some (r, w) ∧ B10 r (gs P s) := ⟨_, rfl, wh_gs h⟩
theorem oo_e {x P : Int} {s : Nat → Int} (h : WH x s P) (w : Wd) : ∃ r, f_O_out x w = some (r, w) ∧ B10 r (ou P s) := ⟨_, rfl, wh_ou h⟩
theorem late_e {x P : Int} {s : Nat → Int} (h : WH x s P) {v : Int} (w : Wd) : f_O_late x v w = some (if 0 ≤ v ∧ v < 10 ∧ gs P s v.toNat = true then s v.toNat - 1 else -1, w) := by
  unfold f_O_late f_O_guests
  rw [jc_s]
  by_cases hv : 0 ≤ v ∧ v < 10
  · rw [has_10 w (wh_gs h) hv, jc_s]
    have h1 := h.2.1 v.toNat (by omega)
    have e1 := bit_i (x := x) (k := v) (by omega)
    have w1 := w32_sp (10 + v)
    have e2 := bit_i (x := x) (k := w32 (10 + v)) (by omega)
    rw [show (w32 (10 + v)).toNat = 10 + v.toNat by omega] at e2
    rw [e1, e2, h1.1, h1.2.1]
    by_cases hg : gs P s v.toNat = true
    · rw [if_pos hg, if_neg (show ¬ (1 : Int) = 0 by decide), if_pos (show 0 ≤ v ∧ v < 10 ∧ gs P s v.toNat = true from ⟨hv.1, hv.2, hg⟩)]
      unfold gs at hg
      rw [Bool.and_eq_true] at hg
      rw [hg.1]
      have h3 : 1 ≤ s v.toNat ∧ s v.toNat < 4 := of_decide_eq_true hg.2
      have h4 : s v.toNat = 1 ∨ s v.toNat = 2 ∨ s v.toNat = 3 := by omega
      rcases h4 with e | e | e <;> rw [e] <;> rfl
    · rw [if_neg hg, if_pos rfl, if_neg (fun c => hg c.2.2)]
  · rw [has_o w hv, jc_s, if_pos rfl, if_neg (fun c => hv ⟨c.1, c.2.1⟩)]
/-- who stays a GUEST without bringing anybody -/
def sy1 (P : Int) (s : Nat → Int) (g : Int) (k : Nat) : Bool := inP P k && (s k == 1 && decide (1 < g))
def sy2 (P : Int) (s : Nat → Int) (g : Int) (k : Nat) : Bool := inP P k && (s k == 2 && decide (2 < g))
theorem wh_10 {x P : Int} {s : Nat → Int} (h : WH x s P) {k : Nat} (hk : k < 10) : bt (ishr x 10) k = (inP P k && (s k == 2 || s k == 3)) := by
  rw [bt_shr10 (by omega)]
  exact (h.2.1 k hk).2.1
theorem l1_e {x P g : Int} {s : Nat → Int} (h : WH x s P) (w : Wd) : ∃ r, f_O_lateOne x g w = some (r, w) ∧ B10 r (sy1 P s g) := by
  unfold f_O_lateOne
  by_cases hg : g ≤ 1
  · rw [if_pos hg]
    refine ⟨0, rfl, b10_w b10_0 (fun k hk => ?_)⟩
    unfold sy1
    rw [decide_eq_false (show ¬ 1 < g by omega), Bool.and_false, Bool.and_false]
  · rw [if_neg hg]
    refine ⟨_, rfl, b10_m (fun k hk => ?_)⟩
    rw [bt_and, bt_not _ (by omega), wh_10 h hk, (h.2.1 k hk).1]
    unfold sy1
    rw [decide_eq_true (show 1 < g by omega), Bool.and_true]
    cases hp : inP P k with
    | false => rfl
    | true =>
      have h2 := h.2.2 k (inP_t hp)
      rcases v5 h2 with e | e | e | e | e <;> rw [e] <;> decide
theorem l2_e {x P g : Int} {s : Nat → Int} (h : WH x s P) (w : Wd) : ∃ r, f_O_lateTwo x g w = some (r, w) ∧ B10 r (sy2 P s g) := by
  unfold f_O_lateTwo
  by_cases hg : g ≤ 2
  · rw [if_pos hg]
    refine ⟨0, rfl, b10_w b10_0 (fun k hk => ?_)⟩
    unfold sy2
    rw [decide_eq_false (show ¬ 2 < g by omega), Bool.and_false, Bool.and_false]
  · rw [if_neg hg]
    refine ⟨_, rfl, b10_m (fun k hk => ?_)⟩
    rw [bt_and, bt_not _ (by omega), wh_10 h hk, (h.2.1 k hk).1]
    unfold sy2
    rw [decide_eq_true (show 2 < g by omega), Bool.and_true]
    cases hp : inP P k with
    | false => rfl
    | true =>
      have h2 := h.2.2 k (inP_t hp)
      rcases v5 h2 with e | e | e | e | e <;> rw [e] <;> decide
def sty (P : Int) (s : Nat → Int) (g : Int) (k : Nat) : Bool := gs P s k && decide (s k < g)
theorem sty_e {P g : Int} {s : Nat → Int} (hg : g ≤ 3) (k : Nat) : (sy1 P s g k || sy2 P s g k) = sty P s g k := by
  unfold sy1 sy2 sty gs
  cases inP P k with
  | false => rfl
  | true =>
    by_cases e1 : s k = 1
    · rw [e1]; by_cases c : 1 < g
      · rw [decide_eq_true c]; rfl
      · rw [decide_eq_false c]; rfl
    · by_cases e2 : s k = 2
      · rw [e2]; by_cases c : 2 < g
        · rw [decide_eq_true c]; rfl
        · rw [decide_eq_false c]; rfl
      · have b1 : (s k == 1) = false := beq_eq_false_iff_ne.mpr e1
        have b2 : (s k == 2) = false := beq_eq_false_iff_ne.mpr e2
        rw [b1, b2]
        by_cases e3 : 1 ≤ s k ∧ s k < 4
        · rw [decide_eq_false (show ¬ s k < g by omega), Bool.and_false]; rfl
        · have : gst (s k) = false := decide_eq_false e3
          rw [this]; rfl
theorem stay_e {x P g : Int} {s : Nat → Int} (h : WH x s P) (hg : g ≤ 3) (w : Wd) : ∃ r, f_O_stay x g w = some (r, w) ∧ B10 r (sty P s g) := by
  obtain ⟨r1, e1, b1⟩ := l1_e (g := g) h w
  obtain ⟨r2, e2, b2⟩ := l2_e (g := g) h w
  refine ⟨ior r1 r2, ?_, b10_w (b10_or b1 b2) (fun k _ => sty_e hg k)⟩
  unfold f_O_stay
  rw [e1, jc_s, e2, jc_s]
/-- of each behind a WEEK in which some bring or are brought -/
def nis (P : Int) (s : Nat → Int) (g : Int) (mv : Nat → Bool) (k : Nat) : Int := if mv k then 1 else if gst (s k) then (if s k < g then s k + 1 else 4) else s k
theorem nis_rg {P g : Int} {s : Nat → Int} {mv : Nat → Bool} {k : Nat} (hg : g ≤ 3) (h : 0 ≤ s k ∧ s k ≤ 4) : 0 ≤ nis P s g mv k ∧ nis P s g mv k ≤ 4 := by
  unfold nis
  split
  · decide
  · split
    · split <;> omega
    · exact h
theorem bt_shl_k {x : Int} {i : Nat} (hi : i ≤ 20) (hx : 0 ≤ x ∧ x ≤ 1023) {k : Nat} (hk : k < 32) : bt (ishl x (i : Int)) k = (decide (i ≤ k) && bt x (k - i)) := by
  have hh : (List.range 32).all (fun k => decide (((Int32.ofInt (k : Int) &&& 31).toBitVec.smod 32).toNat = k)) = true := by decide +kernel
  have h2 := of_decide_eq_true (List.all_eq_true.mp hh i (List.mem_range.mpr (by omega)))
  unfold bt ishl
  rw [Int32.ofInt_toInt, Int32.toBitVec_shiftLeft, BitVec.shiftLeft_eq', h2, BitVec.getLsbD_shiftLeft, decide_eq_true hk, Bool.true_and]
  by_cases c : k < i
  · rw [decide_eq_true c, decide_eq_false (show ¬ i ≤ k by omega)]; rfl
  · rw [decide_eq_false c, decide_eq_true (show i ≤ k by omega)]; rfl
theorem jl_e {α : Type} {x : Int} {f : Int → α} : jlet x f = f x := rfl
theorem ish10 {y : Int} (h : 0 ≤ y ∧ y ≤ 1023) : ishl y 10 = y * 1024 := ishl_k 10 (by rfl) (by decide) (by decide) h.1 (by omega) (by omega)
theorem ish20 {y : Int} (h : 0 ≤ y ∧ y ≤ 1023) : ishl y 20 = y * 1048576 := ishl_k 20 (by rfl) (by decide) (by decide) h.1 (by omega) (by omega)
theorem mix_rg {a b c : Int} (ha : 0 ≤ a ∧ a ≤ 1023) (hb : 0 ≤ b ∧ b ≤ 1023) (hc : 0 ≤ c ∧ c ≤ 1023) : 0 ≤ ior (ior a (ishl b 10)) (ishl c 20) ∧ ior (ior a (ishl b 10)) (ishl c 20) < 1073741824 := by
  have m1 := ish10 hb
  have m2 := ish20 hc
  have n1 := ior_n 20 (x := a) (y := ishl b 10) (m := 1048575) (by decide) (by decide) (by omega) (by omega)
  have n2 := ior_n 30 (x := ior a (ishl b 10)) (y := ishl c 20) (m := 1073741823) (by decide) (by decide) (by omega) (by omega)
  omega
theorem after_e {x P g v : Int} {s : Nat → Int} {mv : Nat → Bool} (h : WH x s P) (hP : 0 ≤ P ∧ P ≤ 10) (hg : 1 ≤ g ∧ g ≤ 3) (hm : B10 v mv) (ho : ∀ k, k < 10 → mv k = true → (k : Int) < P ∧ s k ≠ 4) (w : Wd) : ∃ r, f_O_after x v g w = some (r, w) ∧ WH r (nis P s g mv) P := by
  obtain ⟨r1, e1, b1⟩ := l1_e (g := g) h w
  obtain ⟨r2, e2, b2⟩ := l2_e (g := g) h w
  obtain ⟨r3, e3, b3⟩ := oo_e h w
  obtain ⟨r4, e4, b4⟩ := og_e h w
  have x3 := b10_andn b1 hm.2
  have x6 := b10_andn b2 hm.2
  have x36 := b10_or x3 x6
  have xo := b10_or b3 (b10_andn b4 (b10_or (b10_or hm x3) x6).2)
  have lo := b10_or hm x6
  have eq : f_O_after x v g w = some (ior (ior (ior v (iand r2 (ixor v (-1)))) (ishl (ior (iand r1 (ixor v (-1))) (iand r2 (ixor v (-1)))) 10)) (ishl (ior r3 (iand r4 (ixor (ior (ior v (iand r1 (ixor v (-1)))) (iand r2 (ixor v (-1)))) (-1)))) 20), w) := by
    unfold f_O_after
    rw [e1, jc_s, jl_e, e2, jc_s, jl_e, e3, jc_s, e4, jc_s, jl_e]
  refine ⟨_, eq, ?_⟩
  clear eq
  generalize iand r1 (ixor v (-1)) = y3 at x3 x6 x36 xo lo ⊢
  generalize iand r2 (ixor v (-1)) = y6 at x3 x6 x36 xo lo ⊢
  generalize ior r3 (iand r4 (ixor (ior (ior v y3) y6) (-1))) = yo at xo ⊢
  generalize ior v y6 = yl at lo ⊢
  generalize ior y3 y6 = yh at x36 ⊢
  refine ⟨mix_rg lo.1 x36.1 xo.1, fun k hk => ?_, fun k hk => nis_rg hg.2 (h.2.2 k hk)⟩
  have c1 : ∀ j, j < 30 → bt (ior (ior yl (ishl yh 10)) (ishl yo 20)) j = (bt yl j || (decide (10 ≤ j) && bt yh (j - 10)) || (decide (20 ≤ j) && bt yo (j - 20))) := fun j hj => by
    rw [bt_or, bt_or]
    have a1 := bt_shl_k (i := 10) (by decide) x36.1 (k := j) (by omega)
    have a2 := bt_shl_k (i := 20) (by decide) xo.1 (k := j) (by omega)
    rw [show ((10 : Nat) : Int) = 10 from rfl] at a1
    rw [show ((20 : Nat) : Int) = 20 from rfl] at a2
    rw [a1, a2]
  have hs : inP P k = true → 0 ≤ s k ∧ s k ≤ 4 := fun hp => h.2.2 k (inP_t hp)
  have hp0 : inP P k = false → mv k = false := fun hp => by
    cases hm2 : mv k with
    | false => rfl
    | true => have := (ho k hk hm2).1; rw [show inP P k = true from decide_eq_true this] at hp; cases hp
  have hg3 : g = 1 ∨ g = 2 ∨ g = 3 := by omega
  refine ⟨?_, ?_, ?_⟩
  · rw [c1 k (by omega), decide_eq_false (show ¬ 10 ≤ k by omega), decide_eq_false (show ¬ 20 ≤ k by omega), lo.2 k hk, Bool.false_and, Bool.false_and, Bool.or_false, Bool.or_false]
    unfold nis sy2
    dsimp only
    cases hp : inP P k with
    | false => rw [hp0 hp]; rfl
    | true =>
      cases hm2 : mv k with
      | true => rfl
      | false =>
        rcases v5 (hs hp) with e | e | e | e | e <;> rcases hg3 with e2 | e2 | e2 <;> rw [e, e2] <;> decide
  · rw [c1 (10 + k) (by omega), bt_hi lo.1 (by omega), decide_eq_true (show 10 ≤ 10 + k by omega), decide_eq_false (show ¬ 20 ≤ 10 + k by omega), show 10 + k - 10 = k by omega, x36.2 k hk, Bool.false_and, Bool.or_false, Bool.false_or, Bool.true_and]
    unfold nis sy1 sy2
    dsimp only
    cases hp : inP P k with
    | false => rfl
    | true =>
      cases hm2 : mv k with
      | true => simp
      | false =>
        rcases v5 (hs hp) with e | e | e | e | e <;> rcases hg3 with e2 | e2 | e2 <;> rw [e, e2] <;> decide
  · rw [c1 (20 + k) (by omega), bt_hi lo.1 (by omega), decide_eq_true (show 20 ≤ 20 + k by omega), show 20 + k - 20 = k by omega, bt_hi x36.1 (by omega), xo.2 k hk, Bool.and_false, Bool.false_or, Bool.false_or, Bool.true_and]
    unfold nis sy1 sy2 ou gs
    dsimp only
    cases hp : inP P k with
    | false => rfl
    | true =>
      cases hm2 : mv k with
      | true =>
        have := (ho k hk hm2).2
        rw [show (s k == 4) = false from beq_eq_false_iff_ne.mpr this]
        simp
      | false =>
        rcases v5 (hs hp) with e | e | e | e | e <;> rcases hg3 with e2 | e2 | e2 <;> rw [e, e2] <;> decide
