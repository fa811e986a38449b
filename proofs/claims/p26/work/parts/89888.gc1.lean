/-! THE MOST, THE LEAST, ALL OF SOME -/
def MaxI (X : Nat → Int) (N : Int) (S : Int → Prop) (f : Int → Int) (r : Int) : Prop := 0 ≤ r ∧ (∀ k : Nat, (k : Int) < N → S (X k) → f (X k) ≤ r) ∧ (r = 0 ∨ ∃ k : Nat, (k : Int) < N ∧ S (X k) ∧ f (X k) = r)
def MaxQ (S : Int → Prop) (f : Int → Int) (r : Int) : Prop := 0 ≤ r ∧ (∀ x, S x → f x ≤ r) ∧ (r = 0 ∨ ∃ x, S x ∧ f x = r)
theorem maxi_0 {X : Nat → Int} {S : Int → Prop} {f : Int → Int} : MaxI X 0 S f 0 := ⟨Int.le_refl _, fun k hk => by omega, Or.inl rfl⟩
theorem maxi_y {X : Nat → Int} {v : Int} {S : Int → Prop} {f : Int → Int} {r : Int} (h : MaxI X v S f r) (hv : 0 ≤ v) (hs : S (X v.toNat)) : MaxI X (v + 1) S f (imax r (f (X v.toNat))) := by
  obtain ⟨h1, h2, h3⟩ := h
  have m := imax_sp r (f (X v.toNat))
  refine ⟨by omega, fun k hk hS => ?_, ?_⟩
  · by_cases c : (k : Int) < v
    · have := h2 k c hS; omega
    · rw [show k = v.toNat by omega]; omega
  · rcases m with ⟨_, e⟩ | ⟨_, e⟩
    · exact Or.inr ⟨v.toNat, by omega, hs, e.symm⟩
    · rw [e]
      rcases h3 with h3 | ⟨k, hk, a, b⟩
      · exact Or.inl h3
      · exact Or.inr ⟨k, by omega, a, b⟩
theorem maxi_n {X : Nat → Int} {v : Int} {S : Int → Prop} {f : Int → Int} {r : Int} (h : MaxI X v S f r) (hv : 0 ≤ v) (hs : ¬ S (X v.toNat)) : MaxI X (v + 1) S f r := by
  obtain ⟨h1, h2, h3⟩ := h
  refine ⟨h1, fun k hk hS => ?_, ?_⟩
  · by_cases c : (k : Int) < v
    · exact h2 k c hS
    · rw [show k = v.toNat by omega] at hS; exact absurd hS hs
  · rcases h3 with h3 | ⟨k, hk, a, b⟩
    · exact Or.inl h3
    · exact Or.inr ⟨k, by omega, a, b⟩
theorem maxi_q {X : Nat → Int} {N : Int} {S V : Int → Prop} {f : Int → Int} {r : Int} (h : MaxI X N S f r) (hV : ∀ k : Nat, (k : Int) < N → V (X k)) (hA : ∀ x, V x → ∃ k : Nat, (k : Int) < N ∧ X k = x) : MaxQ (fun x => V x ∧ S x) f r := by
  obtain ⟨h1, h2, h3⟩ := h
  refine ⟨h1, fun x hx => ?_, ?_⟩
  · obtain ⟨k, hk, e⟩ := hA x hx.1
    rw [← e]
    exact h2 k hk (by rw [e]; exact hx.2)
  · rcases h3 with h3 | ⟨k, hk, a, b⟩
    · exact Or.inl h3
    · exact Or.inr ⟨X k, ⟨hV k hk, a⟩, b⟩
theorem maxq_one {S T : Int → Prop} {f : Int → Int} {r r' : Int} (h : MaxQ S f r) (h' : MaxQ T f r') (hST : ∀ x, S x ↔ T x) : r = r' := by
  obtain ⟨a1, a2, a3⟩ := h
  obtain ⟨b1, b2, b3⟩ := h'
  have le1 : r ≤ r' := by
    rcases a3 with e | ⟨x, hx, e⟩
    · omega
    · have := b2 x ((hST x).mp hx); omega
  have le2 : r' ≤ r := by
    rcases b3 with e | ⟨x, hx, e⟩
    · omega
    · have := a2 x ((hST x).mpr hx); omega
  omega
def MinI (X : Nat → Int) (N : Int) (S : Int → Prop) (f : Int → Int) (d r : Int) : Prop := (r = d ∧ ∀ k : Nat, (k : Int) < N → ¬ S (X k)) ∨ ((∃ k : Nat, (k : Int) < N ∧ S (X k) ∧ f (X k) = r) ∧ ∀ k : Nat, (k : Int) < N → S (X k) → r ≤ f (X k))
def MinQ (S : Int → Prop) (f : Int → Int) (d r : Int) : Prop := (r = d ∧ ∀ x, ¬ S x) ∨ ((∃ x, S x ∧ f x = r) ∧ ∀ x, S x → r ≤ f x)
theorem mini_0 {X : Nat → Int} {S : Int → Prop} {f : Int → Int} {d : Int} : MinI X 0 S f d d := Or.inl ⟨rfl, fun k hk => by omega⟩
theorem mini_n {X : Nat → Int} {v : Int} {S : Int → Prop} {f : Int → Int} {d r : Int} (h : MinI X v S f d r) (hv : 0 ≤ v) (hs : ¬ S (X v.toNat)) : MinI X (v + 1) S f d r := by
  have lt : ∀ k : Nat, (k : Int) < v + 1 → S (X k) → (k : Int) < v := fun k hk hS => by
    refine Classical.byContradiction fun c => ?_
    rw [show k = v.toNat by omega] at hS
    exact hs hS
  rcases h with ⟨h1, h2⟩ | ⟨⟨k, hk, a, b⟩, h2⟩
  · exact Or.inl ⟨h1, fun k hk hS => h2 k (lt k hk hS) hS⟩
  · exact Or.inr ⟨⟨k, by omega, a, b⟩, fun k hk hS => h2 k (lt k hk hS) hS⟩
/-- one more: what the least is then -/
theorem mini_y {X : Nat → Int} {v : Int} {S : Int → Prop} {f : Int → Int} {d r r' : Int} (h : MinI X v S f d r) (hv : 0 ≤ v) (hs : S (X v.toNat)) (hd : ∀ k : Nat, (k : Int) < v → S (X k) → f (X k) ≠ d) (hr : (r = d → r' = f (X v.toNat)) ∧ (r ≠ d → r' = imin r (f (X v.toNat)))) : MinI X (v + 1) S f d r' := by
  have m := imin_sp r (f (X v.toNat))
  rcases h with ⟨h1, h2⟩ | ⟨⟨k, hk, a, b⟩, h2⟩
  · have e := hr.1 h1
    refine Or.inr ⟨⟨v.toNat, by omega, hs, e.symm⟩, fun k hk hS => ?_⟩
    by_cases c : (k : Int) < v
    · exact absurd hS (h2 k c)
    · rw [show k = v.toNat by omega]; omega
  · have nd : r ≠ d := fun e => hd k hk a (by omega)
    have e := hr.2 nd
    refine Or.inr ⟨?_, fun k hk hS => ?_⟩
    · rcases m with ⟨_, e2⟩ | ⟨_, e2⟩
      · exact ⟨v.toNat, by omega, hs, by omega⟩
      · exact ⟨k, by omega, a, by omega⟩
    · by_cases c : (k : Int) < v
      · have := h2 k c hS; omega
      · rw [show k = v.toNat by omega]; omega
theorem mini_q {X : Nat → Int} {N : Int} {S V : Int → Prop} {f : Int → Int} {d r : Int} (h : MinI X N S f d r) (hV : ∀ k : Nat, (k : Int) < N → V (X k)) (hA : ∀ x, V x → ∃ k : Nat, (k : Int) < N ∧ X k = x) : MinQ (fun x => V x ∧ S x) f d r := by
  rcases h with ⟨h1, h2⟩ | ⟨⟨k, hk, a, b⟩, h2⟩
  · refine Or.inl ⟨h1, fun x hx => ?_⟩
    obtain ⟨k, hk, e⟩ := hA x hx.1
    exact h2 k hk (by rw [e]; exact hx.2)
  · refine Or.inr ⟨⟨X k, ⟨hV k hk, a⟩, b⟩, fun x hx => ?_⟩
    obtain ⟨k, hk, e⟩ := hA x hx.1
    rw [← e]
    exact h2 k hk (by rw [e]; exact hx.2)
theorem minq_one {S T : Int → Prop} {f : Int → Int} {d d' r r' : Int} (h : MinQ S f d r) (h' : MinQ T f d' r') (hST : ∀ x, S x ↔ T x) : (r = d ∧ r' = d' ∧ ∀ x, ¬ S x) ∨ (r = r' ∧ ∃ x, S x ∧ f x = r) := by
  rcases h with ⟨h1, h2⟩ | ⟨⟨x, hx, e⟩, h2⟩
  · rcases h' with ⟨h3, h4⟩ | ⟨⟨y, hy, e⟩, h4⟩
    · exact Or.inl ⟨h1, h3, h2⟩
    · exact absurd ((hST y).mpr hy) (h2 y)
  · rcases h' with ⟨h3, h4⟩ | ⟨⟨y, hy, e2⟩, h4⟩
    · exact absurd ((hST x).mp hx) (h4 x)
    · have a := h2 y ((hST y).mpr hy)
      have b := h4 x ((hST x).mp hx)
      exact Or.inr ⟨by omega, x, hx, e⟩
def OrI (X : Nat → Int) (N : Int) (S : Int → Prop) (F : Int → Nat → Bool) (r : Int) : Prop := (0 ≤ r ∧ r ≤ 1023) ∧ ∀ q, q < 10 → (bt r q = true ↔ ∃ k : Nat, (k : Int) < N ∧ S (X k) ∧ F (X k) q = true)
theorem ori_0 {X : Nat → Int} {S : Int → Prop} {F : Int → Nat → Bool} : OrI X 0 S F 0 := ⟨by decide, fun q _ => by rw [bt_0]; exact ⟨(fun h => by cases h), (fun h => by obtain ⟨k, hk, _⟩ := h; omega)⟩⟩
theorem ori_n {X : Nat → Int} {v : Int} {S : Int → Prop} {F : Int → Nat → Bool} {r : Int} (h : OrI X v S F r) (hv : 0 ≤ v) (hs : ¬ S (X v.toNat)) : OrI X (v + 1) S F r := by
  refine ⟨h.1, fun q hq => ?_⟩
  rw [h.2 q hq]
  constructor
  · rintro ⟨k, hk, a, b⟩; exact ⟨k, by omega, a, b⟩
  · rintro ⟨k, hk, a, b⟩
    by_cases c : (k : Int) < v
    · exact ⟨k, c, a, b⟩
    · rw [show k = v.toNat by omega] at a; exact absurd a hs
theorem ori_y {X : Nat → Int} {v : Int} {S : Int → Prop} {F : Int → Nat → Bool} {r z : Int} (h : OrI X v S F r) (hv : 0 ≤ v) (hs : S (X v.toNat)) (hz : B10 z (F (X v.toNat))) : OrI X (v + 1) S F (ior r z) := by
  have hb := b10_or (b10_self h.1) hz
  refine ⟨hb.1, fun q hq => ?_⟩
  have e : bt (ior r z) q = (bt r q || F (X v.toNat) q) := hb.2 q hq
  rw [e, Bool.or_eq_true, h.2 q hq]
  constructor
  · rintro (⟨k, hk, a, b⟩ | b)
    · exact ⟨k, by omega, a, b⟩
    · exact ⟨v.toNat, by omega, hs, b⟩
  · rintro ⟨k, hk, a, b⟩
    by_cases c : (k : Int) < v
    · exact Or.inl ⟨k, c, a, b⟩
    · rw [show k = v.toNat by omega] at b; exact Or.inr b
theorem ori_one {X X' : Nat → Int} {N N' : Int} {S S' V : Int → Prop} {F : Int → Nat → Bool} {r r' : Int} (h : OrI X N S F r) (h' : OrI X' N' S' F r') (hV : ∀ k : Nat, (k : Int) < N → V (X k)) (hA : ∀ x, V x → ∃ k : Nat, (k : Int) < N ∧ X k = x) (hV' : ∀ k : Nat, (k : Int) < N' → V (X' k)) (hA' : ∀ x, V x → ∃ k : Nat, (k : Int) < N' ∧ X' k = x) (hSS : ∀ x, V x → (S x ↔ S' x)) : r = r' := by
  refine bt_ext h.1 h'.1 (fun q hq => ?_)
  have : (bt r q = true ↔ bt r' q = true) := by
    rw [h.2 q hq, h'.2 q hq]
    constructor
    · rintro ⟨k, hk, a, b⟩
      obtain ⟨j, hj, e⟩ := hA' (X k) (hV k hk)
      exact ⟨j, hj, by rw [e]; exact (hSS _ (hV k hk)).mp a, by rw [e]; exact b⟩
    · rintro ⟨k, hk, a, b⟩
      obtain ⟨j, hj, e⟩ := hA (X' k) (hV' k hk)
      exact ⟨j, hj, by rw [e]; exact (hSS _ (hV' k hk)).mpr a, by rw [e]; exact b⟩
  cases h1 : bt r q <;> cases h2 : bt r' q <;> simp [h1, h2] at this ⊢
/-! WHAT THE CLASS FOUND: a list of all STATES -/
def CLI (P g se : Int) (h kn : Nat → Int) (x0 : Int) (w : Wd) : Prop := (0 ≤ w 28 7 ∧ w 28 7 ≤ 3000) ∧ (∀ i j : Nat, (i : Int) < w 28 7 → (j : Int) < w 28 7 → w 30 i = w 30 j → i = j) ∧ (∀ k : Nat, (k : Int) < w 28 7 → VLS P g se h kn x0 (w 30 k)) ∧ (∀ x, VLS P g se h kn x0 x → ∃ k : Nat, (k : Int) < w 28 7 ∧ w 30 k = x) ∧ ∀ k : Nat, (k : Int) < w 28 7 → ∀ t, t < 61 → (b6 (w 31 k) t = true ↔ RCX P g se h kn x0 t (w 30 k))
theorem src_cli {P g se : Int} {h kn : Nat → Int} {x0 : Int} {w : Wd} (hP : 0 ≤ P ∧ P ≤ 10) (h0 : WH x0 (sof x0) P) (hs : SRC P g se h kn x0 w) : CLI P g se h kn x0 w := by
  obtain ⟨⟨hT, hS⟩, hX, hC, _, _, _⟩ := hs
  have all : ∀ (t : Nat) (x : Int), RCX P g se h kn x0 t x → ∃ k : Nat, (k : Int) < w 28 7 ∧ w 30 k = x ∧ (t < 61 → b6 (w 31 k) t = true) := by
    intro t
    induction t with
    | zero =>
      intro x e
      obtain ⟨k, hk, e2, hb⟩ := hX
      exact ⟨k, hk, by rw [e2]; exact (show x = x0 from e).symm, fun _ => hb⟩
    | succ t ih =>
      rintro x ⟨y, hy, hsx⟩
      obtain ⟨k, hk, e, hb⟩ := ih y hy
      rw [← e] at hsx
      obtain ⟨j, hj, ej, ht⟩ := hC k hk x hsx
      exact ⟨j, hj, ej, fun h61 => ht t h61 (hb (by omega))⟩
  refine ⟨hT.2.2.1, fun i j hi hj e => tc_one hT hi hj e, fun k hk => ?_, fun x hx => ?_, fun k hk t ht => ⟨fun hb => (hS k hk).2 t ht hb, fun hr => ?_⟩⟩
  · obtain ⟨t, hr⟩ := (hS k hk).1
    exact ⟨rx_wh hP h0 hr, t, hr⟩
  · obtain ⟨t, hr⟩ := hx.2
    obtain ⟨k, hk, e, _⟩ := all t x hr
    exact ⟨k, hk, e⟩
  · obtain ⟨j, hj, e, hb⟩ := all t (w 30 k) hr
    rw [tc_one hT hk hj e.symm]
    exact hb ht
/-- too many for one is too many for both -/
theorem cli_mny {P g se : Int} {h kn : Nat → Int} {x0 : Int} {w : Wd} (hP : 0 ≤ P ∧ P ≤ 10) (h0 : WH x0 (sof x0) P) (hc : CLI P g se h kn x0 w) : ¬ MNY P g se h kn x0 := by
  rintro ⟨F, hF, hI⟩
  obtain ⟨h1, h2, h3, h4, _⟩ := hc
  have ch : ∀ i : Nat, ∃ k : Nat, i < 3001 → (k : Int) < w 28 7 ∧ w 30 k = F i := fun i => by
    by_cases c : i < 3001
    · obtain ⟨t, ht⟩ := hF i c
      obtain ⟨k, hk, e⟩ := h4 (F i) ⟨rx_wh hP h0 ht, t, ht⟩
      exact ⟨k, fun _ => ⟨hk, e⟩⟩
    · exact ⟨0, fun hh => absurd hh c⟩
  have := php (w 28 7).toNat 3001 (fun i => Classical.choose (ch i)) (fun i hi => by
    have := (Classical.choose_spec (ch i) hi).1
    show Classical.choose (ch i) < (w 28 7).toNat
    omega) (fun i j hi hj e => by
    have a := (Classical.choose_spec (ch i) hi).2
    have b := (Classical.choose_spec (ch j) hj).2
    have e2 : Classical.choose (ch i) = Classical.choose (ch j) := e
    rw [e2] at a
    exact hI i j hi hj (a.symm.trans b))
  omega
/-- what the reference found, as STATES -/
theorem rli_x {P g se : Int} {h kn : Nat → Int} {x0 : Int} {w : Wd} (hP : 0 ≤ P ∧ P ≤ 10) (hr : RLI P g se h kn x0 w) : ∃ X : Nat → Int, (∀ t : Nat, (t : Int) < w 43 40 → VLS P g se h kn x0 (X t) ∧ w 63 t = cdx P (X t)) ∧ ∀ x, VLS P g se h kn x0 x → ∃ t : Nat, (t : Int) < w 43 40 ∧ X t = x := by
  obtain ⟨h1, h2, h3, h4, _⟩ := hr
  have ch : ∀ t : Nat, ∃ x, (t : Int) < w 43 40 → VLS P g se h kn x0 x ∧ w 63 t = cdx P x := fun t => by
    by_cases c : (t : Int) < w 43 40
    · obtain ⟨x, hx⟩ := h3 t c
      exact ⟨x, fun _ => hx⟩
    · exact ⟨0, fun hh => absurd hh c⟩
  refine ⟨fun t => Classical.choose (ch t), fun t ht => Classical.choose_spec (ch t) ht, fun x hx => ?_⟩
  obtain ⟨t, ht, e⟩ := h4 x hx
  obtain ⟨a, b⟩ := Classical.choose_spec (ch t) ht
  exact ⟨t, ht, cdx_inj hP a.1 hx.1 (by rw [← b, e])⟩
theorem rli_mny {P g se : Int} {h kn : Nat → Int} {x0 : Int} {w : Wd} (hP : 0 ≤ P ∧ P ≤ 10) (h0 : WH x0 (sof x0) P) (hr : RLI P g se h kn x0 w) : ¬ MNY P g se h kn x0 := by
  rintro ⟨F, hF, hI⟩
  obtain ⟨h1, h2, h3, h4, _⟩ := hr
  have ch : ∀ i : Nat, ∃ k : Nat, i < 3001 → (k : Int) < w 43 40 ∧ w 63 k = cdx P (F i) ∧ WH (F i) (sof (F i)) P := fun i => by
    by_cases c : i < 3001
    · obtain ⟨t, ht⟩ := hF i c
      have hw := rx_wh hP h0 ht
      obtain ⟨k, hk, e⟩ := h4 (F i) ⟨hw, t, ht⟩
      exact ⟨k, fun _ => ⟨hk, e, hw⟩⟩
    · exact ⟨0, fun hh => absurd hh c⟩
  have := php (w 43 40).toNat 3001 (fun i => Classical.choose (ch i)) (fun i hi => by
    have := (Classical.choose_spec (ch i) hi).1
    show Classical.choose (ch i) < (w 43 40).toNat
    omega) (fun i j hi hj e => by
    obtain ⟨_, a, a2⟩ := Classical.choose_spec (ch i) hi
    obtain ⟨_, b, b2⟩ := Classical.choose_spec (ch j) hj
    have e2 : Classical.choose (ch i) = Classical.choose (ch j) := e
    rw [e2] at a
    exact hI i j hi hj (cdx_inj hP a2 b2 (a.symm.trans b)))
  omega
/-! the class reads its list -/
theorem cg_pc {P g se : Int} {h kn : Nat → Int} {x0 : Int} {w u : Wd} (hc : CLI P g se h kn x0 w) (h7 : u 28 7 = w 28 7) (h30 : u 30 = w 30) {k : Int} (hk : 0 ≤ k ∧ k < w 28 7) : PC (f_S_guests k u) (fun r v => v = u ∧ B10 r (gs P (sof (w 30 k.toNat)))) := by
  have hx := (hc.2.2.1 k.toNat (by omega)).1
  refine pc_w (sgu_pc (P := P) (w := u) (s := k) (by omega) (by rw [h30]; exact hx)) (fun r v q => ⟨q.1, ?_⟩)
  rw [← h30]; exact q.2
theorem cwk_pc {P g se : Int} {h kn : Nat → Int} {x0 : Int} {w u : Wd} (hc : CLI P g se h kn x0 w) (h7 : u 28 7 = w 28 7) (h31 : u 31 = w 31) {k : Int} (hk : 0 ≤ k ∧ k < w 28 7) : PC (f_S_weeksOf k u) (fun r v => v = u ∧ r = w 31 k.toNat) := by
  unfold f_S_weeksOf
  rw [if_neg (by omega), if_neg (by omega), h31]
  exact pc_gd (fun _ => pc_some ⟨rfl, rfl⟩)
theorem cbe_pc {P g se : Int} {h kn : Nat → Int} {x0 : Int} {w u : Wd} (hc : CLI P g se h kn x0 w) (h7 : u 28 7 = w 28 7) (h31 : u 31 = w 31) {k t : Int} (hk : 0 ≤ k ∧ k < w 28 7) (ht : 0 ≤ t ∧ t ≤ 60) : PC (f_S_canBe k t u) (fun r v => v = u ∧ ((r = 1 ∧ RCX P g se h kn x0 t.toNat (w 30 k.toNat)) ∨ (r = 0 ∧ ¬ RCX P g se h kn x0 t.toNat (w 30 k.toNat)))) := by
  unfold f_S_canBe
  refine pc_call (cwk_pc hc h7 h31 hk) (fun r1 v q => ?_)
  rw [q.1, q.2, b6_ask (by omega)]
  have hb := hc.2.2.2.2 k.toNat (by omega) t.toNat (by omega)
  cases e : b6 (w 31 k.toNat) t.toNat with
  | true =>
    refine pc_ite (fun c => absurd c (by decide)) (fun _ => pc_some ⟨rfl, Or.inl ⟨rfl, hb.mp e⟩⟩)
  | false =>
    refine pc_ite (fun _ => pc_some ⟨rfl, Or.inr ⟨rfl, fun hr => ?_⟩⟩) (fun c => absurd rfl c)
    rw [hb.mpr hr] at e; cases e
def gn (P x : Int) : Int := ((pn (gs P (sof x)) 10 : Nat) : Int)
theorem gn_rg (P x : Int) : 0 ≤ gn P x ∧ gn P x ≤ 10 := by have := pn_le (gs P (sof x)) 10; unfold gn; omega
/-- somebody is a GUEST -/
def sbg (P x : Int) : Prop := ∃ k, k < 10 ∧ gs P (sof x) k = true
theorem cmg_pc {P g se : Int} {h kn : Nat → Int} {x0 : Int} {w u : Wd} (hc : CLI P g se h kn x0 w) (h7 : u 28 7 = w 28 7) (h30 : u 30 = w 30) : PC (f_S_mostGuests u) (fun r v => v = u ∧ MaxQ (VLS P g se h kn x0) (gn P) r) := by
  have l4 : ∀ (n : Nat) {v1 v2 : Int}, 0 ≤ v2 → v2 ≤ w 28 7 → MaxI (w 30) v2 (fun _ => True) (gn P) v1 → PC (f_S_mostGuests_4 n v1 v2 u) (fun r v => v = u ∧ MaxQ (VLS P g se h kn x0) (gn P) r) := by
    intro n
    induction n with
    | zero => intros; exact pc_none
    | succ n ih =>
      intro v1 v2 i2 i2' hM
      rw [f_S_mostGuests_4, h7]
      have h3000 := hc.1
      refine pc_ite (fun c => pc_some ⟨rfl, ?_⟩) (fun c => ?_)
      · rw [show v2 = w 28 7 by omega] at hM
        have := maxi_q hM hc.2.2.1 hc.2.2.2.1
        refine ⟨this.1, fun x hx => this.2.1 x ⟨hx, trivial⟩, ?_⟩
        rcases this.2.2 with e | ⟨x, hx, e⟩
        · exact Or.inl e
        · exact Or.inr ⟨x, hx.1, e⟩
      · refine pc_call (cg_pc hc h7 h30 ⟨i2, by omega⟩) (fun r1 v q => ?_)
        rw [q.1, bcs_e q.2, jc_s]
        refine pc_let (fun x5 e5 => pc_let (fun x6 e6 => ?_))
        rw [w32_id (by omega)] at e6
        rw [e5, e6]
        exact ih (by omega) (by omega) (maxi_y hM i2 trivial)
  unfold f_S_mostGuests
  exact l4 FU (by decide) hc.1.1 maxi_0
