/-! STATES THAT CAN COME -/
theorem bt_ext30 {x y : Int} (hx : 0 ≤ x ∧ x < 1073741824) (hy : 0 ≤ y ∧ y < 1073741824) (h : ∀ k, k < 30 → bt x k = bt y k) : x = y := by
  have ex := ofInt_toInt (z := x) (by omega) (by omega)
  have ey := ofInt_toInt (z := y) (by omega) (by omega)
  have hx' : (Int32.ofInt x).toBitVec.toInt = x := ex
  have hy' : (Int32.ofInt y).toBitVec.toInt = y := ey
  have bx := bv_nn (x := (Int32.ofInt x).toBitVec) (by omega)
  have bY := bv_nn (x := (Int32.ofInt y).toBitVec) (by omega)
  have e : (Int32.ofInt x).toBitVec = (Int32.ofInt y).toBitVec := by
    apply BitVec.eq_of_getLsbD_eq
    intro i hi
    by_cases h30 : i < 30
    · exact h i h30
    · have p30 : (2 : Nat) ^ 30 = 1073741824 := by decide
      have h1 : (Int32.ofInt x).toBitVec.getLsbD i = false := by
        rw [BitVec.getLsbD]
        refine Nat.testBit_lt_two_pow ?_
        have : 2 ^ 30 ≤ 2 ^ i := Nat.pow_le_pow_right (by decide) (by omega)
        omega
      have h2 : (Int32.ofInt y).toBitVec.getLsbD i = false := by
        rw [BitVec.getLsbD]
        refine Nat.testBit_lt_two_pow ?_
        have : 2 ^ 30 ≤ 2 ^ i := Nat.pow_le_pow_right (by decide) (by omega)
        omega
      rw [h1, h2]
  rw [← hx', ← hy', e]
theorem wh_inj {x y P : Int} {s t : Nat → Int} (hx : WH x s P) (hy : WH y t P) (h : ∀ k : Nat, (k : Int) < P → s k = t k) : x = y := by
  refine bt_ext30 hx.1 hy.1 (fun k hk => ?_)
  have key : ∀ j, j < 10 → bt x j = bt y j ∧ bt x (10 + j) = bt y (10 + j) ∧ bt x (20 + j) = bt y (20 + j) := fun j hj => by
    have a := hx.2.1 j hj
    have b := hy.2.1 j hj
    rw [a.1, a.2.1, a.2.2, b.1, b.2.1, b.2.2]
    cases hp : inP P j with
    | false => exact ⟨rfl, rfl, rfl⟩
    | true => rw [h j (inP_t hp)]; exact ⟨rfl, rfl, rfl⟩
  by_cases c1 : k < 10
  · exact (key k c1).1
  · by_cases c2 : k < 20
    · have := (key (k - 10) (by omega)).2.1
      rw [show 10 + (k - 10) = k by omega] at this
      exact this
    · have := (key (k - 20) (by omega)).2.2
      rw [show 20 + (k - 20) = k by omega] at this
      exact this
def sof (x : Int) (k : Nat) : Int := if bt x (20 + k) = true then 4 else (if bt x k = true then 1 else 0) + (if bt x (10 + k) = true then 2 else 0)
theorem sof_e {x P : Int} {s : Nat → Int} (h : WH x s P) (hP : P ≤ 10) {k : Nat} (hk : (k : Int) < P) : sof x k = s k := by
  have a := h.2.1 k (by omega)
  have r := h.2.2 k hk
  unfold sof
  rw [a.1, a.2.1, a.2.2, show inP P k = true from decide_eq_true hk]
  rcases v5 r with e | e | e | e | e <;> rw [e] <;> rfl
theorem wh_w {x P : Int} {s t : Nat → Int} (h : WH x s P) (he : ∀ k : Nat, (k : Int) < P → s k = t k) : WH x t P := by
  refine ⟨h.1, fun k hk => ?_, fun k hk => by rw [← he k hk]; exact h.2.2 k hk⟩
  have a := h.2.1 k hk
  rw [a.1, a.2.1, a.2.2]
  cases hp : inP P k with
  | false => exact ⟨rfl, rfl, rfl⟩
  | true => rw [he k (inP_t hp)]; exact ⟨rfl, rfl, rfl⟩
theorem wh_sof {x P : Int} {s : Nat → Int} (h : WH x s P) (hP : P ≤ 10) : WH x (sof x) P := wh_w h (fun _ hk => (sof_e h hP hk).symm)
theorem gs_w {P : Int} {s t : Nat → Int} (he : ∀ k : Nat, (k : Int) < P → s k = t k) (k : Nat) : gs P s k = gs P t k := by
  unfold gs
  cases hp : inP P k with
  | false => rfl
  | true => rw [he k (inP_t hp)]
theorem fre_w {P : Int} {s t h : Nat → Int} (he : ∀ k : Nat, (k : Int) < P → s k = t k) (k : Nat) : fre P s h k = fre P t h k := by
  unfold fre sr
  cases hp : inP P k with
  | false => rfl
  | true => rw [he k (inP_t hp)]
theorem sty_w {P g : Int} {s t : Nat → Int} (he : ∀ k : Nat, (k : Int) < P → s k = t k) (k : Nat) : sty P s g k = sty P t g k := by
  unfold sty
  rw [gs_w he k]
  by_cases hp : (k : Int) < P
  · rw [he k hp]
  · unfold gs
    rw [show inP P k = false from decide_eq_false hp]; rfl
/-- who moves in a WEEK that may be, from a STATE -/
def MVS (P g se : Int) (h kn s : Nat → Int) (m : Int) : Prop := MOV P se kn (gs P s) (fre P s h) (sty P s g) m
theorem mvs_w {P g se : Int} {h kn s t : Nat → Int} (hP : 0 ≤ P ∧ P ≤ 10) (he : ∀ k : Nat, (k : Int) < P → s k = t k) {m : Int} (hm : MVS P g se h kn s m) : MVS P g se h kn t m := by
  obtain ⟨d, f, h1⟩ := hm
  exact ⟨d, f, drc_eq hP (fun _ _ => rfl) (fun k _ => gs_w he k) (fun k _ => fre_w he k) (fun k _ => sty_w he k) h1⟩
/-- one STATE behind another -/
def SUX (P g se : Int) (h kn : Nat → Int) (x y : Int) : Prop := ∃ m, MVS P g se h kn (sof x) m ∧ WH y (nis P (sof x) g (bt m)) P
def RCX (P g se : Int) (h kn : Nat → Int) (x0 : Int) : Nat → Int → Prop
  | 0, x => x = x0
  | t + 1, x => ∃ y, RCX P g se h kn x0 t y ∧ SUX P g se h kn y x
theorem mvs_0 (P g se : Int) (h kn s : Nat → Int) : MVS P g se h kn s 0 := ⟨0, 0, rfl, rfl⟩
/-- who moves was a GUEST, or a STRANGER not HIDDEN -/
theorem mvs_who {P g se : Int} {h kn s : Nat → Int} (hP : 0 ≤ P ∧ P ≤ 10) {m : Int} (hm : MVS P g se h kn s m) : (0 ≤ m ∧ m ≤ 1023) ∧ ∀ k, k < 10 → bt m k = true → gs P s k = true ∨ fre P s h k = true := by
  obtain ⟨d, f, h1⟩ := hm
  refine ⟨(drc_rg hP h1).1, fun k hk hb => ?_⟩
  rcases (drc_fr hP gs_fre h1).2.2 k hk hb with ⟨_, e⟩ | e
  · exact Or.inl e
  · exact Or.inr e
theorem mvs_ok {P g se : Int} {h kn s : Nat → Int} (hP : 0 ≤ P ∧ P ≤ 10) {m : Int} (hm : MVS P g se h kn s m) : ∀ k, k < 10 → bt m k = true → (k : Int) < P ∧ s k ≠ 4 := by
  intro k hk hb
  rcases (mvs_who hP hm).2 k hk hb with e | e
  · unfold gs at e
    rw [Bool.and_eq_true] at e
    have e2 : 1 ≤ s k ∧ s k < 4 := of_decide_eq_true e.2
    exact ⟨inP_t e.1, by omega⟩
  · have := fre_sr e
    exact ⟨this.1, by omega⟩
/-- nobody moves, or some STRANGER does -/
theorem mvs_some {P g se : Int} {h kn s : Nat → Int} (hP : 0 ≤ P ∧ P ≤ 10) {m : Int} (hm : MVS P g se h kn s m) : m = 0 ∨ ((∃ o, o < 10 ∧ bt m o = true ∧ fre P s h o = true) ∧ ∃ i, i < 10 ∧ gs P s i = true) := by
  obtain ⟨d, f, h1⟩ := hm
  cases d with
  | zero => exact Or.inl h1.2
  | succ d =>
    obtain ⟨f0, m0, h0, i, o, a1, a2, a3, a4, a5, a6, a7, a8, a9, a10⟩ := h1
    have r := drc_rg hP h0
    refine Or.inr ⟨⟨o, a3, ?_, a5⟩, i, by omega, a4⟩
    rw [a8, sq_t r.1 (by omega) a3 a3, decide_eq_true rfl, Bool.or_true]
theorem rx_wh {P g se : Int} {h kn : Nat → Int} {x0 : Int} (hP : 0 ≤ P ∧ P ≤ 10) (h0 : WH x0 (sof x0) P) : ∀ {t : Nat} {x : Int}, RCX P g se h kn x0 t x → WH x (sof x) P := by
  intro t
  cases t with
  | zero => intro x e; rw [show x = x0 from e]; exact h0
  | succ t =>
    rintro x ⟨y, _, m, _, hw⟩
    exact wh_sof hw hP.2
/-- where nobody is a GUEST all stays as it is -/
theorem sx_no {P g se : Int} {h kn : Nat → Int} {x y : Int} (hP : 0 ≤ P ∧ P ≤ 10) (hx : WH x (sof x) P) (hn : ∀ k, k < 10 → gs P (sof x) k = false) : SUX P g se h kn x y ↔ y = x := by
  have same : ∀ k : Nat, (k : Int) < P → nis P (sof x) g (bt 0) k = sof x k := fun k hk => by
    have hg := hn k (by omega)
    unfold gs at hg
    rw [show inP P k = true from decide_eq_true hk, Bool.true_and] at hg
    unfold nis
    rw [bt_0, hg]; rfl
  constructor
  · rintro ⟨m, hm, hw⟩
    rcases mvs_some hP hm with e | ⟨_, i, hi, e⟩
    · rw [e] at hw
      exact wh_inj hw hx same
    · rw [hn i hi] at e; cases e
  · intro e
    rw [e]
    exact ⟨0, mvs_0 _ _ _ _ _ _, wh_w hx (fun k hk => (same k hk).symm)⟩
/-! RANKS -/
def lo1 (P : Int) (s : Nat → Int) (k : Nat) : Bool := inP P k && (s k == 1 || s k == 3)
def mi1 (P : Int) (s : Nat → Int) (k : Nat) : Bool := inP P k && (s k == 2 || s k == 3)
def kno (P : Int) (s : Nat → Int) (k : Nat) : Bool := inP P k && !(s k == 0)
def smv (P : Int) (s : Nat → Int) : Nat → Int
  | 0 => 0
  | n + 1 => smv P s n + (if inP P n = true then s n else 0)
def rkf (P : Int) (s : Nat → Int) : Int := 41 * ((pn (kno P s) 10 : Nat) : Int) + smv P s 10
theorem smv_e {P : Int} {s : Nat → Int} (h : ∀ k : Nat, (k : Int) < P → 0 ≤ s k ∧ s k ≤ 4) : ∀ n : Nat, smv P s n = ((pn (lo1 P s) n : Nat) : Int) + 2 * ((pn (mi1 P s) n : Nat) : Int) + 4 * ((pn (ou P s) n : Nat) : Int) := by
  intro n
  induction n with
  | zero => rfl
  | succ n ih =>
    rw [smv, pn, pn, pn, ih]
    unfold lo1 mi1 ou
    cases hp : inP P n with
    | false => simp
    | true =>
      rcases v5 (h n (inP_t hp)) with e | e | e | e | e <;> rw [e] <;> simp <;> omega
theorem smv_rg {P : Int} {s : Nat → Int} (h : ∀ k : Nat, (k : Int) < P → 0 ≤ s k ∧ s k ≤ 4) : ∀ n : Nat, 0 ≤ smv P s n ∧ smv P s n ≤ 4 * n := by
  intro n
  induction n with
  | zero => exact ⟨Int.le_refl _, Int.le_refl _⟩
  | succ n ih =>
    rw [smv]
    by_cases hp : inP P n = true
    · have := h n (inP_t hp)
      rw [if_pos hp]; omega
    · rw [if_neg hp]; omega
theorem smv_le {P : Int} {s t : Nat → Int} : ∀ {n : Nat}, (∀ k : Nat, k < n → (k : Int) < P → s k ≤ t k) → smv P s n ≤ smv P t n := by
  intro n
  induction n with
  | zero => intro _; exact Int.le_refl _
  | succ n ih =>
    intro h
    rw [smv, smv]
    have h1 := ih (fun k hk => h k (by omega))
    by_cases hp : inP P n = true
    · have := h n (by omega) (inP_t hp)
      rw [if_pos hp, if_pos hp]; omega
    · rw [if_neg hp, if_neg hp]; omega
theorem smv_lt {P : Int} {s t : Nat → Int} : ∀ {n : Nat}, (∀ k : Nat, k < n → (k : Int) < P → s k ≤ t k) → (∃ k : Nat, k < n ∧ (k : Int) < P ∧ s k < t k) → smv P s n < smv P t n := by
  intro n
  induction n with
  | zero => intro _ h; obtain ⟨k, hk, _⟩ := h; omega
  | succ n ih =>
    intro h he
    obtain ⟨k, hk, h1, h2⟩ := he
    rw [smv, smv]
    by_cases c : k = n
    · have h3 := smv_le (P := P) (s := s) (t := t) (n := n) (fun k hk => h k (by omega))
      have hp : inP P n = true := decide_eq_true (by omega)
      rw [c] at h2
      rw [if_pos hp, if_pos hp]; omega
    · have h3 := ih (fun k hk => h k (by omega)) ⟨k, by omega, h1, h2⟩
      by_cases hp : inP P n = true
      · have := h n (by omega) (inP_t hp)
        rw [if_pos hp, if_pos hp]; omega
      · rw [if_neg hp, if_neg hp]; omega
theorem orank_e {x P : Int} {s : Nat → Int} (h : WH x s P) (w : Wd) : f_O_rank x w = some (rkf P s, w) := by
  unfold f_O_rank
  have b1 : B10 (iand x 1023) (lo1 P s) := b10_m (fun k hk => (h.2.1 k hk).1)
  have b2 : B10 (iand (ishr x 10) 1023) (mi1 P s) := b10_m (fun k hk => wh_10 h hk)
  rw [bcs_e b1, jc_s, bcs_e b2, jc_s]
  obtain ⟨r, e, b⟩ := oo_e h w
  rw [e, jc_s, bcs_e b, jc_s, jl_e]
  unfold f_O_known
  rw [jc_s, bcs_e (wh_kn h), jc_s]
  have l1 := pn_le (lo1 P s) 10
  have l2 := pn_le (mi1 P s) 10
  have l3 := pn_le (ou P s) 10
  have l4 := pn_le (fun k => inP P k && !(s k == 0)) 10
  have es := smv_e h.2.2 10
  have ek : pn (kno P s) 10 = pn (fun k => inP P k && !(s k == 0)) 10 := rfl
  unfold rkf
  rw [es, ek]
  generalize pn (fun k => inP P k && !(s k == 0)) 10 = a at *
  generalize pn (lo1 P s) 10 = b1' at *
  generalize pn (mi1 P s) 10 = b2' at *
  generalize pn (ou P s) 10 = b3' at *
  have z1 : w32 (2 * (b2' : Int)) = 2 * (b2' : Int) := w32_id (by omega)
  have z2 : w32 ((b1' : Int) + 2 * (b2' : Int)) = (b1' : Int) + 2 * (b2' : Int) := w32_id (by omega)
  have z3 : w32 (4 * (b3' : Int)) = 4 * (b3' : Int) := w32_id (by omega)
  have z4 : w32 ((b1' : Int) + 2 * (b2' : Int) + 4 * (b3' : Int)) = (b1' : Int) + 2 * (b2' : Int) + 4 * (b3' : Int) := w32_id (by omega)
  have z5 : w32 ((a : Int) * 41) = (a : Int) * 41 := w32_id (by omega)
  have z6 : w32 ((a : Int) * 41 + ((b1' : Int) + 2 * (b2' : Int) + 4 * (b3' : Int))) = 41 * (a : Int) + ((b1' : Int) + 2 * (b2' : Int) + 4 * (b3' : Int)) := (w32_id (by omega)).trans (by omega)
  rw [z1, z2, z3, z4, z5, z6]
theorem rkf_rg {P : Int} {s : Nat → Int} (h : ∀ k : Nat, (k : Int) < P → 0 ≤ s k ∧ s k ≤ 4) : 0 ≤ rkf P s ∧ rkf P s ≤ 450 := by
  have l4 := pn_le (kno P s) 10
  have := smv_rg h 10
  unfold rkf
  omega
theorem rkf_w {P : Int} {s t : Nat → Int} (he : ∀ k : Nat, (k : Int) < P → s k = t k) : rkf P s = rkf P t := by
  have e1 : pn (kno P s) 10 = pn (kno P t) 10 := pn_eq (fun k _ => by
    unfold kno
    cases hp : inP P k with
    | false => rfl
    | true => rw [he k (inP_t hp)])
  have a := smv_le (P := P) (s := s) (t := t) (n := 10) (fun k _ hk => by rw [he k hk]; exact Int.le_refl _)
  have b := smv_le (P := P) (s := t) (t := s) (n := 10) (fun k _ hk => by rw [he k hk]; exact Int.le_refl _)
  unfold rkf
  rw [e1]; omega
/-- a rank grows while somebody is a GUEST -/
theorem sx_rank {P g se : Int} {h kn : Nat → Int} {x y : Int} (hP : 0 ≤ P ∧ P ≤ 10) (hg : 1 ≤ g ∧ g ≤ 3) (hx : WH x (sof x) P) (hs : SUX P g se h kn x y) (hgu : ∃ k, k < 10 ∧ gs P (sof x) k = true) : rkf P (sof x) < rkf P (sof y) := by
  obtain ⟨m, hm, hw⟩ := hs
  have ey : rkf P (sof y) = rkf P (nis P (sof x) g (bt m)) := rkf_w (fun k hk => sof_e hw hP.2 hk)
  rw [ey]
  have r1 := smv_rg hx.2.2 10
  have r2 := smv_rg hw.2.2 10
  have ok := mvs_ok hP hm
  have up : ∀ k : Nat, (k : Int) < P → kno P (sof x) k = true → kno P (nis P (sof x) g (bt m)) k = true := fun k hk hb => by
    unfold kno at *
    rw [Bool.and_eq_true, Bool.not_eq_true', beq_eq_false_iff_ne] at hb ⊢
    refine ⟨hb.1, ?_⟩
    unfold nis
    have := hx.2.2 k hk
    split
    · decide
    · split
      · split <;> omega
      · exact hb.2
  have kin : ∀ k, kno P (sof x) k = true → (k : Int) < P := fun k e => by unfold kno at e; rw [Bool.and_eq_true] at e; exact inP_t e.1
  rcases mvs_some hP hm with e | ⟨⟨o, ho, hb, hf⟩, _⟩
  · rw [e]
    rw [e] at up
    have gr : ∀ k : Nat, (k : Int) < P → gst (sof x k) = true → sof x k < nis P (sof x) g (bt 0) k := fun k hk hgk => by
      have h2 : 1 ≤ sof x k ∧ sof x k < 4 := of_decide_eq_true hgk
      unfold nis
      rw [bt_0, hgk]
      simp only [Bool.false_eq_true, if_false, if_true]
      split <;> omega
    have le : ∀ k : Nat, (k : Int) < P → sof x k ≤ nis P (sof x) g (bt 0) k := fun k hk => by
      cases hgk : gst (sof x k) with
      | true => have := gr k hk hgk; omega
      | false =>
        unfold nis
        rw [bt_0, hgk]
        simp
    obtain ⟨k, hk, hgk⟩ := hgu
    unfold gs at hgk
    rw [Bool.and_eq_true] at hgk
    have h1 := smv_lt (P := P) (s := sof x) (t := nis P (sof x) g (bt 0)) (n := 10) (fun k _ hk => le k hk) ⟨k, hk, inP_t hgk.1, gr k (inP_t hgk.1) hgk.2⟩
    have h2 := pn_mono (f := kno P (sof x)) (g := kno P (nis P (sof x) g (bt 0))) (n := 10) (fun k _ e => up k (kin k e) e)
    unfold rkf
    omega
  · have hfo := fre_sr hf
    have h2 := pn_lt (f := kno P (sof x)) (g := kno P (nis P (sof x) g (bt m))) (n := 10) (fun k _ e => up k (kin k e) e) ⟨o, ho, by unfold kno; rw [hfo.2.1]; simp, by
      unfold kno nis
      rw [hb, show inP P o = true from decide_eq_true hfo.1]; rfl⟩
    unfold rkf
    omega
/-! BITS OF A LONG -/
def b6 (x : Int) (k : Nat) : Bool := (Int64.ofInt x).toBitVec.getLsbD k
theorem b6_or (x y : Int) (k : Nat) : b6 (lor x y) k = (b6 x k || b6 y k) := by
  unfold b6 lor
  rw [Int64.ofInt_toInt, Int64.toBitVec_or, BitVec.getLsbD_or]
theorem b6_and (x y : Int) (k : Nat) : b6 (land x y) k = (b6 x k && b6 y k) := by
  unfold b6 land
  rw [Int64.ofInt_toInt, Int64.toBitVec_and, BitVec.getLsbD_and]
theorem b6_0 (k : Nat) : b6 0 k = false := by
  unfold b6
  rw [show (Int64.ofInt 0).toBitVec = 0#64 from by decide]
  exact BitVec.getLsbD_zero
theorem b6_1 {k : Nat} (hk : k < 64) : b6 1 k = decide (k = 0) := by
  have h1 : (List.range 64).all (fun k => b6 1 k == decide (k = 0)) = true := by decide +kernel
  exact eq_of_beq (List.all_eq_true.mp h1 k (List.mem_range.mpr hk))
theorem b6_all {k : Nat} (hk : k < 64) : b6 2305843009213693951 k = decide (k < 61) := by
  have h1 : (List.range 64).all (fun k => b6 2305843009213693951 k == decide (k < 61)) = true := by decide +kernel
  exact eq_of_beq (List.all_eq_true.mp h1 k (List.mem_range.mpr hk))
theorem b6_shl {x : Int} {k : Nat} (hk : k < 64) : b6 (lshl x 1) k = (decide (1 ≤ k) && b6 x (k - 1)) := by
  have h2 : (((Int32.ofInt 1).toInt64 &&& 63).toBitVec.smod 64) = 1#64 := by decide +kernel
  unfold b6 lshl
  rw [Int64.ofInt_toInt, Int64.toBitVec_shiftLeft, h2, BitVec.shiftLeft_eq', show (1#64).toNat = 1 from by decide, BitVec.getLsbD_shiftLeft, decide_eq_true hk, Bool.true_and]
  by_cases c : k < 1
  · rw [decide_eq_true c, decide_eq_false (show ¬ 1 ≤ k by omega)]; rfl
  · rw [decide_eq_false c, decide_eq_true (show 1 ≤ k by omega)]; rfl
theorem and1L (y : Int64) : (y &&& 1).toInt = if y.toBitVec.getLsbD 0 then 1 else 0 := by
  have e : (y &&& 1).toBitVec = BitVec.setWidth 64 (BitVec.ofBool (y.toBitVec.getLsbD 0)) := by
    rw [Int64.toBitVec_and]
    exact BitVec.and_one_eq_setWidth_ofBool_getLsbD
  have e2 : (y &&& 1).toInt = (y &&& 1).toBitVec.toInt := rfl
  rw [e2, e]
  cases y.toBitVec.getLsbD 0 <;> decide
/-- a bit asked for -/
theorem b6_ask {x t : Int} (ht : 0 ≤ t ∧ t < 64) : lcmp (land (lshr x t) 1) 0 = if b6 x t.toNat = true then 1 else 0 := by
  have hh : (List.range 64).all (fun k => decide ((((Int32.ofInt (k : Int)).toInt64 &&& 63).toBitVec.smod 64).toNat = k)) = true := by decide +kernel
  have h2 := of_decide_eq_true (List.all_eq_true.mp hh t.toNat (List.mem_range.mpr (by omega)))
  rw [Int.toNat_of_nonneg ht.1] at h2
  have h1 : land (lshr x t) 1 = if b6 x t.toNat then 1 else 0 := by
    unfold land lshr
    rw [Int64.ofInt_toInt, show Int64.ofInt 1 = 1 from by decide, and1L]
    have e : (Int64.ofInt x >>> ((Int32.ofInt t).toInt64 &&& 63)).toBitVec.getLsbD 0 = b6 x t.toNat := by
      rw [Int64.toBitVec_shiftRight, BitVec.sshiftRight', h2, BitVec.getLsbD_sshiftRight]
      unfold b6
      simp
      omega
    rw [e]
  rw [h1]
  unfold lcmp
  cases b6 x t.toNat <;> rfl
theorem b6_neg (x : Int) {k : Nat} (hk : k < 64) : b6 (w64 (-x)) k = (b6 x k ^^ decide (∃ j, j < k ∧ b6 x j = true)) := by
  unfold b6
  rw [i64_bmod, Int64.ofInt_neg, Int64.toBitVec_neg, BitVec.getLsbD_neg, decide_eq_true hk, Bool.true_and]
/-- from the lowest bit on -/
theorem b6_up (x : Int) {k : Nat} (hk : k < 61) : b6 (land (w64 (-(land x (w64 (-x))))) 2305843009213693951) k = decide (∃ j, j ≤ k ∧ b6 x j = true) := by
  rw [b6_and, b6_all (by omega), decide_eq_true hk, Bool.and_true, b6_neg _ (by omega)]
  have low : ∀ i, i < 64 → b6 (land x (w64 (-x))) i = (b6 x i && !decide (∃ j, j < i ∧ b6 x j = true)) := fun i hi => by
    rw [b6_and, b6_neg x hi]
    cases b6 x i <;> cases decide (∃ j, j < i ∧ b6 x j = true) <;> rfl
  -- the least of all, if there is one
  have least : ∀ n i, i ≤ n → b6 x i = true → ∃ j, j ≤ i ∧ b6 x j = true ∧ ∀ q, q < j → b6 x q = false := by
    intro n
    induction n with
    | zero => intro i hi hb; exact ⟨i, Nat.le_refl _, hb, fun q hq => by omega⟩
    | succ n ih =>
      intro i hi hb
      by_cases c : ∃ q, q < i ∧ b6 x q = true
      · obtain ⟨q, hq, e⟩ := c
        obtain ⟨j, hj, e2, e3⟩ := ih q (by omega) e
        exact ⟨j, by omega, e2, e3⟩
      · exact ⟨i, Nat.le_refl _, hb, fun q hq => by
          cases e : b6 x q with
          | false => rfl
          | true => exact absurd ⟨q, hq, e⟩ c⟩
  by_cases c : ∃ j, j ≤ k ∧ b6 x j = true
  · rw [decide_eq_true c]
    obtain ⟨i, hi, e⟩ := c
    obtain ⟨j, hj, e2, e3⟩ := least i i (Nat.le_refl _) e
    have nj : ¬ ∃ q, q < j ∧ b6 x q = true := fun ⟨q, hq, e4⟩ => by rw [e3 q hq] at e4; cases e4
    have lj : b6 (land x (w64 (-x))) j = true := by rw [low j (by omega), e2, decide_eq_false nj]; rfl
    by_cases cj : j = k
    · have : ¬ ∃ q, q < k ∧ b6 (land x (w64 (-x))) q = true := fun ⟨q, hq, e4⟩ => by
        rw [low q (by omega), e3 q (by omega)] at e4; cases e4
      rw [← cj] at this
      rw [← cj, lj, decide_eq_false this]; rfl
    · have : ∃ q, q < k ∧ b6 (land x (w64 (-x))) q = true := ⟨j, by omega, lj⟩
      rw [decide_eq_true this, low k (by omega), decide_eq_true (show ∃ q, q < k ∧ b6 x q = true from ⟨j, by omega, e2⟩)]
      simp
  · rw [decide_eq_false c]
    have f : ∀ i, i ≤ k → b6 x i = false := fun i hi => by
      cases e : b6 x i with
      | false => rfl
      | true => exact absurd ⟨i, hi, e⟩ c
    have : ¬ ∃ q, q < k ∧ b6 (land x (w64 (-x))) q = true := fun ⟨q, hq, e4⟩ => by
      rw [low q (by omega), f q (by omega)] at e4; cases e4
    rw [decide_eq_false this, low k (by omega), f k (Nat.le_refl _)]; rfl
