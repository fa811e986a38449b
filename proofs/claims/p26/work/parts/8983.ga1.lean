/-! A WEEK THAT MAY BE: who moves in it; found by adding PAIRS by who brings -/
def sq (m : Int) (i o : Nat) : Int := ior (ior m (ishl 1 (i : Int))) (ishl 1 (o : Int))
theorem sq_b {m : Int} {f : Nat → Bool} {i o : Nat} (h : B10 m f) (hi : i < 10) (ho : o < 10) : B10 (sq m i o) (fun k => f k || decide (k = i) || decide (k = o)) := by
  have a := b10_1 (i := (i : Int)) (by omega)
  have b := b10_1 (i := (o : Int)) (by omega)
  have ei : ((i : Nat) : Int).toNat = i := by omega
  have eo : ((o : Nat) : Int).toNat = o := by omega
  rw [ei] at a
  rw [eo] at b
  exact b10_or (b10_or h a) b
theorem sq_t {m : Int} {i o k : Nat} (h : 0 ≤ m ∧ m ≤ 1023) (hi : i < 10) (ho : o < 10) (hk : k < 10) : bt (sq m i o) k = (bt m k || decide (k = i) || decide (k = o)) := (sq_b (b10_self h) hi ho).2 k hk
theorem sq_rg {m : Int} {i o : Nat} (h : 0 ≤ m ∧ m ≤ 1023) (hi : i < 10) (ho : o < 10) : 0 ≤ sq m i o ∧ sq m i o ≤ 1023 := (sq_b (b10_self h) hi ho).1
theorem pn_up {f f' : Nat → Bool} {i : Nat} : ∀ {n : Nat}, i < n → (∀ k, k < n → k ≠ i → f' k = f k) → f i = false → f' i = true → pn f' n = pn f n + 1 := by
  intro n
  induction n with
  | zero => intro h; omega
  | succ n ih =>
    intro hi h h0 h1
    rw [pn, pn]
    by_cases c : i = n
    · subst c
      have e : pn f' i = pn f i := pn_eq (fun k hk => h k (by omega) (by omega))
      rw [e, h0, h1]; simp
    · rw [ih (by omega) (fun k hk => h k (by omega)) h0 h1, h n (by omega) (by omega)]; omega
def CHD (P se : Int) (kn : Nat → Int) (br fr sy : Nat → Bool) (f m f' m' : Int) : Prop :=
  ∃ i o : Nat, f ≤ (i : Int) ∧ (i : Int) < P ∧ o < 10 ∧ br i = true ∧ fr o = true ∧ bt (kn i) o = true ∧ bt m o = false ∧ m' = sq m i o ∧ ((pn (fun k => sy k || bt m' k) 10 : Nat) : Int) ≤ se ∧ f' = (i : Int) + 1
def DRC (P se : Int) (kn : Nat → Int) (br fr sy : Nat → Bool) : Nat → Int → Int → Prop
  | 0, f, m => f = 0 ∧ m = 0
  | d + 1, f, m => ∃ f0 m0, DRC P se kn br fr sy d f0 m0 ∧ CHD P se kn br fr sy f0 m0 f m
theorem drc_rg {P se : Int} {kn : Nat → Int} {br fr sy : Nat → Bool} (hP : 0 ≤ P ∧ P ≤ 10) : ∀ {d : Nat} {f m : Int}, DRC P se kn br fr sy d f m → (0 ≤ m ∧ m ≤ 1023) ∧ 0 ≤ f ∧ f ≤ P := by
  intro d
  induction d with
  | zero => intro f m h; obtain ⟨h1, h2⟩ := h; omega
  | succ d ih =>
    intro f m h
    obtain ⟨f0, m0, h0, i, o, h1, h2, h3, h4, h5, h6, h7, h8, h9, h10⟩ := h
    obtain ⟨r1, r2, r3⟩ := ih h0
    rw [h8]
    exact ⟨sq_rg r1 (by omega) h3, by omega, by omega⟩
theorem drc_fr {P se : Int} {kn : Nat → Int} {br fr sy : Nat → Bool} (hP : 0 ≤ P ∧ P ≤ 10) (hd : ∀ k, k < 10 → br k = true → fr k = false) : ∀ {d : Nat} {f m : Int}, DRC P se kn br fr sy d f m → (∀ k : Nat, k < 10 → bt m k = true → br k = true → (k : Int) < f) ∧ ((f = 0 ∧ m = 0) ∨ ∃ k : Nat, (k : Int) + 1 = f ∧ k < 10 ∧ bt m k = true ∧ br k = true) ∧ ∀ k : Nat, k < 10 → bt m k = true → ((k : Int) < P ∧ br k = true) ∨ fr k = true := by
  intro d
  induction d with
  | zero =>
    intro f m h
    obtain ⟨h1, h2⟩ := h
    refine ⟨fun k _ hb => ?_, Or.inl ⟨h1, h2⟩, fun k _ hb => ?_⟩ <;> rw [h2, bt_0] at hb <;> cases hb
  | succ d ih =>
    intro f m h
    obtain ⟨f0, m0, h0, i, o, h1, h2, h3, h4, h5, h6, h7, h8, h9, h10⟩ := h
    have r := drc_rg hP h0
    obtain ⟨q1, q2, q3⟩ := ih h0
    refine ⟨fun k hk hb hbr => ?_, Or.inr ⟨i, by omega, by omega, ?_, h4⟩, fun k hk hb => ?_⟩
    · rw [h8, sq_t r.1 (by omega) h3 hk, Bool.or_eq_true, Bool.or_eq_true, decide_eq_true_iff, decide_eq_true_iff] at hb
      rcases hb with (e | e) | e
      · have := q1 k hk e hbr; omega
      · omega
      · rw [e] at hbr; rw [hd o h3 hbr] at h5; cases h5
    · rw [h8, sq_t r.1 (by omega) h3 (by omega)]; simp
    · rw [h8, sq_t r.1 (by omega) h3 hk, Bool.or_eq_true, Bool.or_eq_true, decide_eq_true_iff, decide_eq_true_iff] at hb
      rcases hb with (e | e) | e
      · exact q3 k hk e
      · rw [e]; exact Or.inl ⟨h2, h4⟩
      · rw [e]; exact Or.inr h5
theorem drc_one {P se : Int} {kn : Nat → Int} {br fr sy : Nat → Bool} (hP : 0 ≤ P ∧ P ≤ 10) (hd : ∀ k, k < 10 → br k = true → fr k = false) {d d' : Nat} {f f' m : Int} (h : DRC P se kn br fr sy d f m) (h' : DRC P se kn br fr sy d' f' m) : f = f' := by
  obtain ⟨a1, a2, _⟩ := drc_fr hP hd h
  obtain ⟨b1, b2, _⟩ := drc_fr hP hd h'
  have le : ∀ {f f' : Int}, ((f = 0 ∧ m = 0) ∨ ∃ k : Nat, (k : Int) + 1 = f ∧ k < 10 ∧ bt m k = true ∧ br k = true) → (∀ k : Nat, k < 10 → bt m k = true → br k = true → (k : Int) < f') → 0 ≤ f' → f ≤ f' := by
    intro f f' h1 h2 h0
    rcases h1 with ⟨e, _⟩ | ⟨k, e, hk, e1, e2⟩
    · omega
    · have := h2 k hk e1 e2; omega
  have := le a2 b1 (drc_rg hP h').2.1
  have := le b2 a1 (drc_rg hP h).2.1
  omega
/-- one more PAIR: who brings and who is brought are new -/
theorem chd_new {P se : Int} {kn : Nat → Int} {br fr sy : Nat → Bool} (hP : 0 ≤ P ∧ P ≤ 10) (hd : ∀ k, k < 10 → br k = true → fr k = false) {d : Nat} {f m : Int} {i o : Nat} (h : DRC P se kn br fr sy d f m) (h1 : f ≤ (i : Int)) (hi : i < 10) (ho : o < 10) (hbr : br i = true) (hfr : fr o = true) : bt m i = false ∧ i ≠ o := by
  refine ⟨?_, fun e => ?_⟩
  · cases hb : bt m i with
    | false => rfl
    | true => have := (drc_fr hP hd h).1 i hi hb hbr; omega
  · rw [← e, hd i hi hbr] at hfr; cases hfr
theorem drc_pn {P se : Int} {kn : Nat → Int} {br fr sy : Nat → Bool} (hP : 0 ≤ P ∧ P ≤ 10) (hd : ∀ k, k < 10 → br k = true → fr k = false) : ∀ {d : Nat} {f m : Int}, DRC P se kn br fr sy d f m → pn (bt m) 10 = 2 * d ∧ cn (fun q => xor (bt m q) (br q)) = cn br := by
  intro d
  induction d with
  | zero =>
    intro f m h
    obtain ⟨h1, h2⟩ := h
    rw [h2]
    refine ⟨pn_0 (fun k _ => bt_0 k), ?_⟩
    congr 1
    funext q
    rw [bt_0]; simp
  | succ d ih =>
    intro f m h
    obtain ⟨f0, m0, h0, i, o, h1, h2, h3, h4, h5, h6, h7, h8, h9, h10⟩ := h
    have r := drc_rg hP h0
    obtain ⟨q1, q2⟩ := ih h0
    have hi : i < 10 := by omega
    obtain ⟨n1, n2⟩ := chd_new hP hd h0 h1 hi h3 h4 h5
    have hbo : br o = false := by
      cases hb : br o with
      | false => rfl
      | true => rw [hd o h3 hb] at h5; cases h5
    have st : ∀ k, k < 10 → bt m k = (bt m0 k || decide (k = i) || decide (k = o)) := fun k hk => by rw [h8]; exact sq_t r.1 hi h3 hk
    constructor
    · have e1 := pn_up (f := bt m0) (f' := fun k => bt m0 k || decide (k = i)) (i := i) (n := 10) hi (fun k _ hn => by rw [decide_eq_false hn, Bool.or_false]) n1 (by rw [decide_eq_true rfl, Bool.or_true])
      have e2 := pn_up (f := fun k => bt m0 k || decide (k = i)) (f' := bt m) (i := o) (n := 10) h3 (fun k hk hn => by rw [st k hk, decide_eq_false hn, Bool.or_false]) (by rw [h7, decide_eq_false (fun e => n2 e.symm)]; rfl) (by rw [st o h3, decide_eq_true rfl, Bool.or_true])
      omega
    · have e1 := cn_up (f := fun k => xor (bt m0 k) (br k) && !decide (k = i)) (f' := fun k => xor (bt m0 k) (br k)) (i := i) hi (fun k _ hn => by rw [decide_eq_false hn]; simp) (by simp) (by rw [n1, h4]; rfl)
      have e2 := cn_up (f := fun k => xor (bt m0 k) (br k) && !decide (k = i)) (f' := fun k => xor (bt m k) (br k)) (i := o) h3 (fun k hk hn => by
        rw [st k hk, decide_eq_false hn, Bool.or_false]
        by_cases c : k = i
        · rw [c, decide_eq_true rfl, n1, h4]; rfl
        · rw [decide_eq_false c]; simp) (by rw [h7, hbo]; rfl) (by rw [st o h3, decide_eq_true rfl, hbo]; simp)
      omega
/-- SEATS at each step are SEATS at the end -/
theorem drc_se {P se : Int} {kn : Nat → Int} {br fr sy : Nat → Bool} (hP : 0 ≤ P ∧ P ≤ 10) : ∀ {d : Nat} {f m : Int}, DRC P se kn br fr sy d f m ↔ DRC P 20 kn br fr sy d f m ∧ (d = 0 ∨ ((pn (fun k => sy k || bt m k) 10 : Nat) : Int) ≤ se) := by
  have up : ∀ m : Int, ((pn (fun k => sy k || bt m k) 10 : Nat) : Int) ≤ 20 := fun m => by have := pn_le (fun k => sy k || bt m k) 10; omega
  intro d
  induction d with
  | zero => intro f m; exact ⟨fun h => ⟨h, Or.inl rfl⟩, fun h => h.1⟩
  | succ d ih =>
    intro f m
    constructor
    · rintro ⟨f0, m0, h0, i, o, h1, h2, h3, h4, h5, h6, h7, h8, h9, h10⟩
      exact ⟨⟨f0, m0, (ih.mp h0).1, i, o, h1, h2, h3, h4, h5, h6, h7, h8, up m, h10⟩, Or.inr h9⟩
    · rintro ⟨⟨f0, m0, h0, i, o, h1, h2, h3, h4, h5, h6, h7, h8, h9, h10⟩, hs⟩
      have hs2 := hs.resolve_left (by omega)
      have r := drc_rg hP h0
      refine ⟨f0, m0, ih.mpr ⟨h0, Or.inr ?_⟩, i, o, h1, h2, h3, h4, h5, h6, h7, h8, hs2, h10⟩
      have := pn_mono (f := fun k => sy k || bt m0 k) (g := fun k => sy k || bt m k) (n := 10) (fun k hk e => by
        rw [Bool.or_eq_true] at e ⊢
        rcases e with e | e
        · exact Or.inl e
        · right; rw [h8, sq_t r.1 (by omega) h3 hk, e]; rfl)
      omega
/-- by the sets alone -/
theorem drc_eq {P se : Int} {kn kn' : Nat → Int} {br br' fr fr' sy sy' : Nat → Bool} (hP : 0 ≤ P ∧ P ≤ 10) (hk : ∀ k : Nat, (k : Int) < P → kn k = kn' k) (hb : ∀ k, k < 10 → br k = br' k) (hf : ∀ k, k < 10 → fr k = fr' k) (hs : ∀ k, k < 10 → sy k = sy' k) : ∀ {d : Nat} {f m : Int}, DRC P se kn br fr sy d f m → DRC P se kn' br' fr' sy' d f m := by
  intro d
  induction d with
  | zero => intro f m h; exact h
  | succ d ih =>
    rintro f m ⟨f0, m0, h0, i, o, h1, h2, h3, h4, h5, h6, h7, h8, h9, h10⟩
    refine ⟨f0, m0, ih h0, i, o, h1, h2, h3, by rw [← hb i (by omega)]; exact h4, by rw [← hf o h3]; exact h5, by rw [← hk i h2]; exact h6, h7, h8, ?_, h10⟩
    rw [← pn_eq (f := fun k => sy k || bt m k) (g := fun k => sy' k || bt m k) (n := 10) (fun k hk => by rw [hs k hk])]
    exact h9
/-- who moves in some WEEK that may be -/
def MOV (P se : Int) (kn : Nat → Int) (br fr sy : Nat → Bool) (m : Int) : Prop := ∃ (d : Nat) (f : Int), DRC P se kn br fr sy d f m
/-- 252 at most -/
theorem mov_few {P se : Int} {kn : Nat → Int} {br fr sy : Nat → Bool} (hP : 0 ≤ P ∧ P ≤ 10) (hd : ∀ k, k < 10 → br k = true → fr k = false) {n : Nat} {F : Nat → Int} (h : ∀ j, j < n → MOV P se kn br fr sy (F j)) (hi : ∀ i j, i < n → j < n → F i = F j → i = j) : n ≤ 252 := by
  refine few (cn_le br) (fun j q => xor (bt (F j) q) (br q)) (fun j hj => ?_) (fun i j hi1 hj e => ?_)
  · obtain ⟨d, f, h1⟩ := h j hj
    exact (drc_pn hP hd h1).2
  · obtain ⟨d, f, h1⟩ := h i hi1
    obtain ⟨d', f', h2⟩ := h j hj
    refine hi i j hi1 hj (bt_ext (drc_rg hP h1).1 (drc_rg hP h2).1 (fun q hq => ?_))
    have h := e q hq
    cases h3 : bt (F i) q <;> cases h4 : bt (F j) q <;> cases h5 : br q <;> simp [h3, h4, h5] at h ⊢
/-- the lowest of some -/
def lwb (x : Int) : Nat → Nat
  | 0 => 0
  | n + 1 => if bt x (9 - n) = true then 9 - n else lwb x n
theorem lwb_e : (List.range 1024).all (fun n => n == 0 || ((Nat.blt (lwb (n : Int) 10) 10 && (bt (n : Int) (lwb (n : Int) 10) && (iand (n : Int) (w32 (-(n : Int))) == ishl 1 ((lwb (n : Int) 10 : Nat) : Int)))) && (List.range 10).all fun k => (Nat.ble (lwb (n : Int) 10) k || !bt (n : Int) k) && (bt (iand (n : Int) (w32 ((n : Int) - 1))) k == (bt (n : Int) k && !(k == lwb (n : Int) 10))))) = true := by decide +kernel
theorem lw_sp {x : Int} (h : 0 ≤ x ∧ x ≤ 1023) (h0 : x ≠ 0) : ∃ o : Nat, o < 10 ∧ bt x o = true ∧ (∀ k, k < o → bt x k = false) ∧ iand x (w32 (-x)) = ishl 1 (o : Int) ∧ B10 (iand x (w32 (x - 1))) (fun k => bt x k && !decide (k = o)) := by
  have h1 := List.all_eq_true.mp lwb_e x.toNat (List.mem_range.mpr (by omega))
  have ex : ((x.toNat : Nat) : Int) = x := by omega
  rw [ex, Bool.or_eq_true, beq_iff_eq, Bool.and_eq_true, Bool.and_eq_true, Bool.and_eq_true, Nat.blt_eq, beq_iff_eq] at h1
  have h2 := h1.resolve_left (by omega)
  obtain ⟨⟨a1, a2, a3⟩, a4⟩ := h2
  have hk : ∀ k, k < 10 → (lwb x 10 ≤ k ∨ bt x k = false) ∧ bt (iand x (w32 (x - 1))) k = (bt x k && !(k == lwb x 10)) := fun k hk => by
    have := List.all_eq_true.mp a4 k (List.mem_range.mpr hk)
    rw [Bool.and_eq_true, Bool.or_eq_true, Nat.ble_eq, Bool.not_eq_true', beq_iff_eq] at this
    exact this
  refine ⟨lwb x 10, a1, a2, fun k hlt => ?_, a3, ?_⟩
  · rcases (hk k (by omega)).1 with e | e
    · omega
    · exact e
  · have r := iand_l (x := x) (y := w32 (x - 1)) (by omega)
    refine ⟨by omega, fun k hk10 => ?_⟩
    show bt (iand x (w32 (x - 1))) k = (bt x k && !decide (k = lwb x 10))
    rw [(hk k hk10).2]
    by_cases c : k = lwb x 10
    · rw [beq_iff_eq.mpr c, decide_eq_true c]
    · rw [beq_eq_false_iff_ne.mpr c, decide_eq_false c]
theorem hi0_e : (List.range 1024).all (fun n => iand (n : Int) (-1024) == 0) = true := by decide +kernel
theorem hiz {x : Int} (h : 0 ≤ x ∧ x ≤ 1023) : iand x (-1024) = 0 := by
  have h1 := eq_of_beq (List.all_eq_true.mp hi0_e x.toNat (List.mem_range.mpr (by omega)))
  rw [show ((x.toNat : Nat) : Int) = x by omega] at h1
  exact h1
