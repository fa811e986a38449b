/-! BITS, once more -/
theorem ext32 {x y : Int} (hx : -2147483648 ≤ x ∧ x ≤ 2147483647) (hy : -2147483648 ≤ y ∧ y ≤ 2147483647) (h : ∀ k, k < 32 → bt x k = bt y k) : x = y := by
  have e : (Int32.ofInt x).toBitVec = (Int32.ofInt y).toBitVec := BitVec.eq_of_getLsbD_eq (fun i hi => h i hi)
  have ex : (Int32.ofInt x).toBitVec.toInt = x := ofInt_toInt hx.1 hx.2
  have ey : (Int32.ofInt y).toBitVec.toInt = y := ofInt_toInt hy.1 hy.2
  rw [← ex, ← ey, e]
theorem bt_all {P k : Nat} (hP : P ≤ 10) (hk : k < 32) : bt (((2 ^ P : Nat) : Int) - 1) k = decide (k < P) := by
  have h1 : (List.range 11).all (fun p => (List.range 32).all fun k => bt (((2 ^ p : Nat) : Int) - 1) k == decide (k < p)) = true := by decide +kernel
  exact eq_of_beq (List.all_eq_true.mp (List.all_eq_true.mp h1 P (List.mem_range.mpr (by omega))) k (List.mem_range.mpr hk))
theorem p2_le {P : Nat} (hP : P ≤ 10) : 1 ≤ 2 ^ P ∧ 2 ^ P ≤ 1024 := by
  have h1 : (List.range 11).all (fun p => Nat.ble 1 (2 ^ p) && Nat.ble (2 ^ p) 1024) = true := by decide +kernel
  have h2 := List.all_eq_true.mp h1 P (List.mem_range.mpr (by omega))
  rw [Bool.and_eq_true, Nat.ble_eq, Nat.ble_eq] at h2
  exact h2
theorem all_e {P : Int} (h : 0 ≤ P ∧ P ≤ 10) : w32 (ishl 1 P - 1) = ((2 ^ P.toNat : Nat) : Int) - 1 ∧ 0 ≤ w32 (ishl 1 P - 1) ∧ w32 (ishl 1 P - 1) ≤ 1023 := by
  have e := ishl1 (i := P) (by omega)
  have h1 := p2_le (P := P.toNat) (by omega)
  have w := w32_sp (ishl 1 P - 1)
  rw [e] at w ⊢
  generalize 2 ^ P.toNat = N at h1 w ⊢
  omega
theorem baby_c {P v : Int} (hP : 0 ≤ P ∧ P ≤ 10) (hv : -2147483648 ≤ v ∧ v ≤ 2147483647) : iand v (ixor (w32 (ishl 1 P - 1)) (-1)) = 0 ↔ (0 ≤ v ∧ v ≤ w32 (ishl 1 P - 1)) := by
  have hA := all_e hP
  have hb : ∀ k, k < 32 → bt (w32 (ishl 1 P - 1)) k = decide (k < P.toNat) := fun k hk => by rw [hA.1]; exact bt_all (by omega) hk
  constructor
  · intro h
    have e : v = iand v (w32 (ishl 1 P - 1)) := by
      refine ext32 hv (iand_rg _ _) (fun k hk => ?_)
      have h1 : bt (iand v (ixor (w32 (ishl 1 P - 1)) (-1))) k = false := by rw [h]; exact bt_0 k
      rw [bt_and, bt_not _ hk] at h1
      rw [bt_and]
      cases hv : bt v k with
      | false => rfl
      | true => rw [hv] at h1; cases h2 : bt (w32 (ishl 1 P - 1)) k with
        | true => rfl
        | false => rw [h2] at h1; cases h1
    have h2 := iand_r (x := v) (y := w32 (ishl 1 P - 1)) (by omega)
    omega
  · intro h
    refine ext32 (iand_rg _ _) (by decide) (fun k hk => ?_)
    rw [bt_and, bt_not _ hk, bt_0, hb k hk]
    cases hv : bt v k with
    | false => rfl
    | true =>
      have h3 : k < P.toNat := bt_lt (x := v) (n := P.toNat) (by omega) (by omega) hv
      rw [decide_eq_true h3]; rfl
/-! WHAT STAYS: points and rows of a world -/
def FR (P : List (Nat × Nat)) (A : List Nat) (w u : Wd) : Prop := (∀ p ∈ P, u p.1 p.2 = w p.1 p.2) ∧ ∀ c ∈ A, u c = w c
def fck (P : List (Nat × Nat)) (A : List Nat) (S : List Nat) : Bool := P.all (fun p => !mS S p.1 p.2) && A.all (fun c => S.all fun x => Nat.blt x (c * 100) || Nat.blt (c * 100 + 99) x)
theorem fr_g {P : List (Nat × Nat)} {A S : List Nat} {w u : Wd} (h : G S w u) (hc : fck P A S = true) : FR P A w u := by
  unfold fck at hc
  rw [Bool.and_eq_true] at hc
  refine ⟨fun p hp => h.2.1 p.1 p.2 ?_, fun c hA => funext fun k => h.2.1 c k (mS_ar (List.all_eq_true.mp hc.2 c hA) k)⟩
  have := List.all_eq_true.mp hc.1 p hp
  rw [Bool.not_eq_true'] at this
  exact this
/-! THE FIRST COUPLING: texts, how many people, THE LAW, what is kept of it -/
def KM (w : Wd) (c m : Nat) : Prop := w c 2 = w 80 m ∧ (w c 2 ≠ 0 → w c 7 = w 79 (105 * m + 41) ∧ w c 8 = w 79 (105 * m + 42) ∧ ((w c 3 = w 5 3 ∧ w 81 m = w 43 56) ∨ (w c 3 < w 5 3 ∧ w 81 m < w 43 56)))
def CO (w : Wd) : Prop := TX w ∧ w 5 3 = w 43 0 ∧ (w 5 7 = w 43 10 ∧ w 5 8 = w 43 11) ∧ KM w 37 0 ∧ KM w 40 1
theorem tx_eq {w u : Wd} (h : TX w) (e1 : u 1 1 = w 1 1) (e2 : u 43 13 = w 43 13) (e3 : u 2 = w 2) (e4 : u 51 = w 51) : TX u := by
  unfold TX
  rw [e1, e2, e3, e4]
  exact h
theorem tx_0 {w : Wd} (e1 : w 1 1 = 0) (e2 : w 43 13 = 0) : TX w := ⟨by omega, fun k hk => by omega⟩
theorem km_eq {w u : Wd} {c m : Nat} (h : KM w c m) (e2 : u c 2 = w c 2) (e3 : u c 3 = w c 3) (e7 : u c 7 = w c 7) (e8 : u c 8 = w c 8) (e80 : u 80 = w 80) (e79 : u 79 = w 79) (e81 : u 81 = w 81) (hs : (u 5 3 = w 5 3 ∧ u 43 56 = w 43 56) ∨ (w 5 3 < u 5 3 ∧ w 43 56 < u 43 56)) : KM u c m := by
  unfold KM
  rw [e2, e3, e7, e8, e80, e79, e81]
  refine ⟨h.1, fun hn => ?_⟩
  obtain ⟨h1, h2, h3⟩ := h.2 hn
  exact ⟨h1, h2, by omega⟩
def coP : List (Nat × Nat) := [(1, 1), (43, 13), (5, 3), (43, 0), (5, 7), (43, 10), (5, 8), (43, 11), (37, 2), (37, 3), (37, 7), (37, 8), (40, 2), (40, 3), (40, 7), (40, 8), (43, 56)]
def coA : List Nat := [2, 51, 79, 80, 81]
/-- what the texts don't touch -/
def ctP : List (Nat × Nat) := [(5, 3), (43, 0), (5, 7), (43, 10), (5, 8), (43, 11), (37, 2), (37, 3), (37, 7), (37, 8), (40, 2), (40, 3), (40, 7), (40, 8), (43, 56)]
def ctA : List Nat := [79, 80, 81]
def clP : List (Nat × Nat) := [(1, 1), (43, 13), (5, 3), (43, 0), (37, 2), (37, 3), (37, 7), (37, 8), (40, 2), (40, 3), (40, 7), (40, 8), (43, 56)]
def ckP : List (Nat × Nat) := [(5, 7), (43, 10), (5, 8), (43, 11), (37, 2), (37, 3), (37, 7), (37, 8), (40, 2), (40, 3), (40, 7), (40, 8)]
theorem ct_fr {w u : Wd} (h : CO w) (f : FR ctP ctA w u) (t : TX u) : CO u := by
  obtain ⟨h1, h2, h3, h4, h5⟩ := h
  have p := f.1
  have a79 := f.2 79 (by decide)
  have a80 := f.2 80 (by decide)
  have a81 := f.2 81 (by decide)
  have q53 := p (5, 3) (by decide)
  have q56 := p (43, 56) (by decide)
  refine ⟨t, ?_, ⟨?_, ?_⟩, ?_, ?_⟩
  · rw [q53, p (43, 0) (by decide)]; exact h2
  · rw [p (5, 7) (by decide), p (43, 10) (by decide)]; exact h3.1
  · rw [p (5, 8) (by decide), p (43, 11) (by decide)]; exact h3.2
  · exact km_eq h4 (p (37, 2) (by decide)) (p (37, 3) (by decide)) (p (37, 7) (by decide)) (p (37, 8) (by decide)) a80 a79 a81 (Or.inl ⟨q53, q56⟩)
  · exact km_eq h5 (p (40, 2) (by decide)) (p (40, 3) (by decide)) (p (40, 7) (by decide)) (p (40, 8) (by decide)) a80 a79 a81 (Or.inl ⟨q53, q56⟩)
theorem fr_sub {P P2 : List (Nat × Nat)} {A A2 : List Nat} {w u : Wd} (h : FR P A w u) (hP : P2.all (fun p => P.contains p) = true) (hA : A2.all (fun c => A.contains c) = true) : FR P2 A2 w u :=
  ⟨fun p hp => h.1 p (List.contains_iff_mem.mp (List.all_eq_true.mp hP p hp)), fun c hc => h.2 c (List.contains_iff_mem.mp (List.all_eq_true.mp hA c hc))⟩
theorem fr_tr {P : List (Nat × Nat)} {A : List Nat} {w u v : Wd} (h : FR P A w u) (h2 : FR P A u v) : FR P A w v :=
  ⟨fun p hp => (h2.1 p hp).trans (h.1 p hp), fun c hc => (h2.2 c hc).trans (h.2 c hc)⟩
theorem co_fr {w u : Wd} (h : CO w) (f : FR coP coA w u) : CO u :=
  ct_fr h (fr_sub f (by decide) (by decide)) (tx_eq h.1 (f.1 (1, 1) (by decide)) (f.1 (43, 13) (by decide)) (f.2 2 (by decide)) (f.2 51 (by decide)))
def LI (w : Wd) : Prop := RS w ∧ CO w
def Q1 : Int → Wd → Prop := fun r _ => r = 1
