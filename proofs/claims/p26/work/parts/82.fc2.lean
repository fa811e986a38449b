/-! WHO CHOOSES WHOM -/
def put (bg : Nat → Int) (i : Nat) (v : Int) (j : Nat) : Int := if j = i then v else bg j
theorem put_i (bg : Nat → Int) (i : Nat) (v : Int) : put bg i v i = v := if_pos rfl
theorem put_n {bg : Nat → Int} {i j : Nat} {v : Int} (h : j ≠ i) : put bg i v j = bg j := if_neg h
theorem put_id {bg : Nat → Int} {i : Nat} {v : Int} (h : bg i = v) : put bg i v = bg := by
  funext j
  by_cases c : j = i
  · rw [c, put_i, h]
  · rw [put_n c]
theorem brn_put {bg : Nat → Int} {i q : Nat} {v : Int} (hb : bg i = -1) : ∀ {n : Nat}, i < n → brn (put bg i v) n q = (brn bg n q || (v == (q : Int))) := by
  intro n
  induction n with
  | zero => intro h; omega
  | succ n ih =>
    intro h
    rw [brn, brn]
    by_cases c : n = i
    · subst c
      rw [put_i, hb, beq_eq_false_iff_ne.mpr (show ¬ (-1 : Int) = (q : Int) by omega), Bool.or_false, brn_eq (fun k hk => put_n (by omega))]
    · rw [ih (by omega), put_n c, Bool.or_assoc, Bool.or_assoc, Bool.or_comm (v == (q : Int))]
theorem bng_put {P : Int} {bg : Nat → Int} {i : Nat} {v : Int} (hi : (i : Int) < P) (hv : 0 ≤ v) (k : Nat) : bng P (put bg i v) k = (bng P bg k || decide (k = i)) := by
  unfold bng
  by_cases c : k = i
  · subst c
    rw [put_i, decide_eq_true rfl, Bool.or_true, beq_eq_false_iff_ne.mpr (show ¬ v = -1 by omega), show inP P k = true from decide_eq_true hi]; rfl
  · rw [put_n c, decide_eq_false c, Bool.or_false]
theorem mvs_put {P : Int} {bg : Nat → Int} {i : Nat} {v : Int} (hi : (i : Int) < P) (hv : 0 ≤ v) (hb : bg i = -1) (k : Nat) : mvs P (put bg i v) k = (mvs P bg k || (decide (k = i) || decide (k = v.toNat))) := by
  unfold mvs
  rw [bng_put hi hv, brn_put hb (show i < P.toNat by omega)]
  have : (v == (k : Int)) = decide (k = v.toNat) := by
    by_cases c : k = v.toNat
    · rw [decide_eq_true c]; exact beq_iff_eq.mpr (by omega)
    · rw [decide_eq_false c]; exact beq_eq_false_iff_ne.mpr (by omega)
  rw [this]
  cases bng P bg k <;> cases brn bg P.toNat k <;> cases decide (k = i) <;> cases decide (k = v.toNat) <;> rfl
theorem gth_eq {P g : Int} {s b1 b2 : Nat → Int} : ∀ {n : Nat}, (∀ k, k < n → b1 k = b2 k) → gth P s b1 g n = gth P s b2 g n := by
  intro n
  induction n with
  | zero => intro _; rfl
  | succ n ih => intro h; rw [gth, gth, ih (fun k hk => h k (by omega)), h n (by omega)]
/-- whom one may bring -/
def okc (P : Int) (s h kn bg : Nat → Int) (i q : Nat) : Bool := (fre P s h q && bt (kn i) q) && !brn bg P.toNat q
def chs (P g seats : Int) (s h pr kn : Nat → Int) (wk : Int) (c : List Int) (bg : Nat → Int) (i : Nat) : Int :=
  if (fvt (okc P s h kn bg i) (vlu P s pr kn wk c (i : Int)) P.toNat).1 = -1 then -1
  else if gth P s (put bg i (fvt (okc P s h kn bg i) (vlu P s pr kn wk c (i : Int)) P.toNat).1) g P.toNat ≤ seats then (fvt (okc P s h kn bg i) (vlu P s pr kn wk c (i : Int)) P.toNat).1 else -1
theorem chs_eq {P g seats : Int} {s h pr kn : Nat → Int} {wk : Int} {c : List Int} {b1 b2 : Nat → Int} {i : Nat} (e : ∀ k : Nat, (k : Int) < P → b1 k = b2 k) : chs P g seats s h pr kn wk c b1 i = chs P g seats s h pr kn wk c b2 i := by
  have e1 : okc P s h kn b1 i = okc P s h kn b2 i := by
    funext q
    unfold okc
    rw [brn_eq (fun k hk => e k (by omega))]
  have e2 : ∀ v : Int, gth P s (put b1 i v) g P.toNat = gth P s (put b2 i v) g P.toNat := fun v => gth_eq (fun k hk => by
    by_cases ck : k = i
    · rw [ck, put_i, put_i]
    · rw [put_n ck, put_n ck, e k (by omega)])
  unfold chs
  rw [e1, e2]
/-- all of them in their order -/
def plf (P g seats : Int) (s h pr kn : Nat → Int) (wk : Int) (c : List Int) : Nat → Nat → Int
  | 0 => fun _ => -1
  | n + 1 => if gst (s n) = true then put (plf P g seats s h pr kn wk c n) n (chs P g seats s h pr kn wk c (plf P g seats s h pr kn wk c n) n) else plf P g seats s h pr kn wk c n
theorem plf_m {P g seats : Int} {s h pr kn : Nat → Int} {wk : Int} {c : List Int} : ∀ (n : Nat) {j : Nat}, n ≤ j → plf P g seats s h pr kn wk c n j = -1 := by
  intro n
  induction n with
  | zero => intro j _; rfl
  | succ n ih =>
    intro j hj
    rw [plf]
    by_cases c1 : gst (s n) = true
    · rw [if_pos c1, put_n (by omega)]; exact ih (by omega)
    · rw [if_neg c1]; exact ih (by omega)
theorem gwk_0 {P : Int} {s h kn bg : Nat → Int} (hb : ∀ i : Nat, (i : Int) < P → bg i = -1) : GWK P s h kn bg :=
  ⟨fun i j hi _ _ hn => absurd (hb i (by omega)) hn, fun i hi => Or.inl (hb i hi)⟩
theorem gwk_put {P : Int} {s h kn bg : Nat → Int} {i : Nat} {v : Int} (hg : GWK P s h kn bg) (hi : (i : Int) < P) (hb : bg i = -1) (hs : gst (s i) = true) (hv : 0 ≤ v ∧ v < P) (ho : okc P s h kn bg i v.toNat = true) : GWK P s h kn (put bg i v) := by
  unfold okc at ho
  rw [Bool.and_eq_true, Bool.and_eq_true, Bool.not_eq_true'] at ho
  have nb : ∀ j : Nat, j < P.toNat → bg j ≠ v := fun j hj e => by
    have : brn bg P.toNat v.toNat = true := brn_t.mpr ⟨j, hj, by omega⟩
    rw [ho.2] at this; cases this
  refine ⟨fun a b ha hb2 e hn => ?_, fun a ha => ?_⟩
  · by_cases c1 : a = i
    · by_cases c2 : b = i
      · omega
      · rw [c1, put_i, put_n c2] at e
        exact absurd e.symm (nb b hb2)
    · by_cases c2 : b = i
      · rw [c2, put_i, put_n c1] at e
        exact absurd e (nb a ha)
      · rw [put_n c1, put_n c2] at e
        rw [put_n c1] at hn
        exact hg.1 a b ha hb2 e hn
  · by_cases c1 : a = i
    · rw [c1, put_i]; exact Or.inr ⟨hv, hs, ho.1.1, ho.1.2⟩
    · rw [put_n c1]; exact hg.2 a ha
theorem chs_rg {P g seats : Int} {s h pr kn : Nat → Int} {wk : Int} {c : List Int} {bg : Nat → Int} {i : Nat} (hP : 0 ≤ P) : chs P g seats s h pr kn wk c bg i = -1 ∨ ((0 ≤ chs P g seats s h pr kn wk c bg i ∧ chs P g seats s h pr kn wk c bg i < P) ∧ okc P s h kn bg i (chs P g seats s h pr kn wk c bg i).toNat = true) := by
  have hr := fvt_rg (okc P s h kn bg i) (vlu P s pr kn wk c (i : Int)) P.toNat
  unfold chs
  by_cases c1 : (fvt (okc P s h kn bg i) (vlu P s pr kn wk c (i : Int)) P.toNat).1 = -1
  · rw [if_pos c1]; exact Or.inl rfl
  · rw [if_neg c1]
    rcases hr with e | e
    · exact absurd e.1 c1
    · by_cases c2 : gth P s (put bg i (fvt (okc P s h kn bg i) (vlu P s pr kn wk c (i : Int)) P.toNat).1) g P.toNat ≤ seats
      · rw [if_pos c2]; exact Or.inr ⟨by omega, e.2.2⟩
      · rw [if_neg c2]; exact Or.inl rfl
theorem plf_gwk {P g seats : Int} {s h pr kn : Nat → Int} {wk : Int} {c : List Int} (hP : 0 ≤ P) : ∀ n : Nat, (n : Int) ≤ P → GWK P s h kn (plf P g seats s h pr kn wk c n) := by
  intro n
  induction n with
  | zero => intro _; exact gwk_0 (fun _ _ => rfl)
  | succ n ih =>
    intro hn
    have hi := ih (by omega)
    have hm := plf_m (P := P) (g := g) (seats := seats) (s := s) (h := h) (pr := pr) (kn := kn) (wk := wk) (c := c) n (Nat.le_refl n)
    rw [plf]
    by_cases c1 : gst (s n) = true
    · rw [if_pos c1]
      rcases chs_rg (P := P) (g := g) (seats := seats) (s := s) (h := h) (pr := pr) (kn := kn) (wk := wk) (c := c) (bg := plf P g seats s h pr kn wk c n) (i := n) hP with e | e
      · rw [e, put_id hm]; exact hi
      · exact gwk_put hi (by omega) hm c1 e.1 e.2
    · rw [if_neg c1]; exact hi
/-! THE REFERENCE CHOOSES -/
theorem hasR_10 {x k : Int} {f : Nat → Bool} (w : Wd) (h : B10 x f) (hk : 0 ≤ k ∧ k < 10) : f_R_has x k w = some (if f k.toNat then 1 else 0, w) := by
  unfold f_R_has
  rw [bit_i (by omega), h.2 k.toNat (by omega)]
  cases f k.toNat <;> rfl
theorem cho_pc {P v2 one g seats : Int} {ok : Nat → Bool} {val : Nat → Int} (x : Wd) (hP : 0 ≤ P ∧ P ≤ 10) (h0 : x 43 0 = P) (h10 : x 43 10 = g) (h11 : x 43 11 = seats) (hs : ∀ j : Nat, (j : Int) < P → 0 ≤ x 47 j ∧ x 47 j ≤ 4) (h58 : x 58 one.toNat = -1) (hB : B10 v2 ok) (hV : ∀ (q : Nat) (y : Wd), (q : Int) < P → ok q = true → RXq x y → PC (f_R_ruleFor (q : Int) one y) (fun r u => RXq y u ∧ r = val q)) : ∀ (n : Nat) {w : Wd} {v3 v4 v5 : Int}, 0 ≤ v5 → v5 ≤ P → RXq x w → v3 = (fvt ok val v5.toNat).1 → (v3 = -1 ∨ v4 = (fvt ok val v5.toNat).2) → PC (f_R_choice_27 n one v2 v3 v4 v5 w) (fun r u => RXq x u ∧ r = if (fvt ok val P.toNat).1 = -1 then -1 else if gth P (x 47) (put (x 58) one.toNat (fvt ok val P.toNat).1) g P.toNat ≤ seats then (fvt ok val P.toNat).1 else -1) := by
  intro n
  induction n with
  | zero => intros; exact pc_none
  | succ n ih =>
    intro w v3 v4 v5 i0 i1 hx h3 h4
    rw [f_R_choice_27, hx 43 0 (by decide), h0]
    refine pc_ite (fun z => ?_) (fun z => ?_)
    · have e : v5 = P := by omega
      rw [e] at h3
      rw [← h3]
      refine pc_ite (fun c => ?_) (fun c => ?_)
      · rw [if_pos c]; exact pc_some ⟨hx, rfl⟩
      · rw [if_neg c]
        refine pc_gd (fun _ => ?_)
        refine pc_lw (fun u6 e6 => ?_)
        have o6 : ∀ c k, c ≠ 58 → u6 c k = w c k := fun c k hc => by rw [e6, st_c hc]
        have r47 : u6 47 = x 47 := funext fun k => (o6 47 k (by decide)).trans (hx 47 k (by omega))
        have r58 : u6 58 = put (x 58) one.toNat v3 := funext fun k => by
          by_cases ck : k = one.toNat
          · rw [ck, put_i, e6, st_eq]
          · rw [put_n ck, e6, st_k ck]; exact hx 58 k (by omega)
        have q0 : u6 43 0 = P := (o6 43 0 (by decide)).trans ((hx 43 0 (by decide)).trans h0)
        have q10 : u6 43 10 = g := (o6 43 10 (by decide)).trans ((hx 43 10 (by decide)).trans h10)
        have hgt := gthen_pc (w := u6) (by omega) (fun i hi => by rw [r47]; exact hs i (by omega))
        rw [q0, q10, r47, r58] at hgt
        refine pc_call hgt (fun r7 u8 y => ?_)
        refine pc_gd (fun _ => ?_)
        refine pc_lw (fun u9 e9 => ?_)
        have hx9 : RXq x u9 := fun c k hc => by
          rw [e9, y.1]
          by_cases c1 : c = 58
          · subst c1
            by_cases ck : k = one.toNat
            · rw [ck, st_eq]; exact h58.symm
            · rw [st_k ck, e6, st_k ck]; exact hx 58 k (by omega)
          · rw [st_c c1, o6 c k c1]; exact hx c k hc
        rw [hx9 43 11 (by decide), h11, y.2]
        refine pc_ite (fun c2 => ?_) (fun c2 => ?_)
        · rw [if_pos c2]; exact pc_some ⟨hx9, rfl⟩
        · rw [if_neg c2]; exact pc_some ⟨hx9, rfl⟩
    · rw [hasR_10 w hB (by omega), jc_s]
      have w1 := wsucc (v := v5) (P := P) (by omega) (by omega)
      have nx : ∀ {u : Wd} {a b : Int}, RXq x u → a = (fvt ok val (v5.toNat + 1)).1 → (a = -1 ∨ b = (fvt ok val (v5.toNat + 1)).2) → PC (f_R_choice_84 (f_R_choice_27 n) one v2 a b v5 u) (fun r u => RXq x u ∧ r = if (fvt ok val P.toNat).1 = -1 then -1 else if gth P (x 47) (put (x 58) one.toNat (fvt ok val P.toNat).1) g P.toNat ≤ seats then (fvt ok val P.toNat).1 else -1) := by
        intro u a b hu ha hb
        unfold f_R_choice_84
        refine pc_let (fun x3 e3 => ?_)
        rw [w1] at e3
        rw [e3]
        have e4 : (v5 + 1).toNat = v5.toNat + 1 := by omega
        exact ih (by omega) (by omega) hu (by rw [e4]; exact ha) (by rw [e4]; exact hb)
      have ef : fvt ok val (v5.toNat + 1) = if ok v5.toNat = true ∧ (fvt ok val v5.toNat).2 < val v5.toNat then (((v5.toNat : Nat) : Int), val v5.toNat) else fvt ok val v5.toNat := rfl
      have hrg := fvt_rg ok val v5.toNat
      cases hb : ok v5.toNat with
      | false =>
        refine pc_ite (fun _ => ?_) (fun c => absurd rfl c)
        rw [hb, if_neg (fun c => by cases c.1)] at ef
        exact nx hx (by rw [ef]; exact h3) (by rw [ef]; exact h4)
      | true =>
        refine pc_ite (fun c => absurd c (by decide)) (fun _ => ?_)
        have hv := hV v5.toNat w (by omega) hb hx
        rw [show ((v5.toNat : Nat) : Int) = v5 by omega] at hv
        refine pc_call hv (fun r4 u5 y => ?_)
        have hu : RXq x u5 := fun c k hc => (y.1 c k hc).trans (hx c k hc)
        rw [hb] at ef
        have keep : ¬ (fvt ok val v5.toNat).2 < val v5.toNat → PC (f_R_choice_84 (f_R_choice_27 n) one v2 v3 v4 v5 u5) (fun r u => RXq x u ∧ r = if (fvt ok val P.toNat).1 = -1 then -1 else if gth P (x 47) (put (x 58) one.toNat (fvt ok val P.toNat).1) g P.toNat ≤ seats then (fvt ok val P.toNat).1 else -1) := fun c2 => by
          rw [if_neg (fun c3 => c2 c3.2)] at ef
          exact nx hu (by rw [ef]; exact h3) (by rw [ef]; exact h4)
        have take : (fvt ok val v5.toNat).2 < val v5.toNat → PC (f_R_choice_77 (f_R_choice_27 n) one v2 v5 r4 u5) (fun r u => RXq x u ∧ r = if (fvt ok val P.toNat).1 = -1 then -1 else if gth P (x 47) (put (x 58) one.toNat (fvt ok val P.toNat).1) g P.toNat ≤ seats then (fvt ok val P.toNat).1 else -1) := fun c2 => by
          rw [if_pos ⟨rfl, c2⟩] at ef
          unfold f_R_choice_77
          exact nx hu (by rw [ef]; show v5 = ((v5.toNat : Nat) : Int); omega) (Or.inr (by rw [ef]; exact y.2))
        refine pc_ite (fun c => keep (by omega)) (fun c => ?_)
        refine pc_ite (fun c2 => take (by omega)) (fun c2 => ?_)
        have h4' : v4 = (fvt ok val v5.toNat).2 := h4.resolve_left c2
        refine pc_ite (fun c3 => take (by omega)) (fun c3 => keep (by omega))
theorem choice_pc {P one g seats wk : Int} {s h pr kn : Nat → Int} {c : List Int} {w : Wd} (hR : RUC c (w 43 27) (w 57)) (hP : 0 ≤ P ∧ P ≤ 10) (h0 : w 43 0 = P) (h10 : w 43 10 = g) (h11 : w 43 11 = seats) (h8 : w 43 8 = wk) (es : w 47 = s) (eh : w 46 = h) (e44 : w 44 = pr) (e45 : w 45 = kn) (hs : ∀ j : Nat, (j : Int) < P → 0 ≤ s j ∧ s j ≤ 4) (hk : ∀ j : Nat, (j : Int) < P → 0 ≤ kn j ∧ kn j ≤ 1023) (h1 : 0 ≤ one ∧ one < P) (h58 : w 58 one.toNat = -1) (hb : ∀ i : Nat, (i : Int) < P → w 58 i = -1 ∨ (0 ≤ w 58 i ∧ w 58 i ≤ 9)) : PC (f_R_choice one w) (fun r u => RXq w u ∧ r = chs P g seats s h pr kn wk c (w 58) one.toNat) := by
  have eo : ((one.toNat : Nat) : Int) = one := by omega
  unfold f_R_choice
  refine pc_call (rfree_e (w := w) (by omega)) (fun r1 u2 q => ?_)
  rw [q.1]
  refine pc_gd (fun _ => ?_)
  refine pc_call (bn_pc (w := w) (by omega) (fun i hi => hb i (by omega))) (fun r3 u4 q2 => ?_)
  rw [q2.1]
  refine pc_let (fun x5 e5 => ?_)
  have b5 : B10 x5 (okc P s h kn (w 58) one.toNat) := by
    have q1 := q.2
    have q3 := q2.2
    rw [h0, es, eh] at q1
    rw [h0] at q3
    rw [e5, e45]
    exact b10_andn (b10_and q1 (fun k _ => rfl)) q3.2
  have hc := cho_pc (val := vlu P s pr kn wk c one) w hP h0 h10 h11 (fun j hj => by rw [es]; exact hs j hj) h58 b5 (fun q y hq _ hy => by
    have r57 : y 57 = w 57 := funext fun k => hy 57 k (by omega)
    have := rfor_pc (w := y) (P := P) (s := s) (pr := pr) (kn := kn) (wk := wk) (one := one) (other := (q : Int)) (c := c) (by rw [r57, hy 43 27 (by decide)]; exact hR) hP (by rw [hy 43 0 (by decide)]; exact h0) (fun j _ => by rw [hy 47 j (by omega), es]) (fun j _ => by rw [hy 44 j (by omega), e44]) (fun j _ => by rw [hy 45 j (by omega), e45]) (by rw [hy 43 8 (by decide)]; exact h8) hk h1 (hs one.toNat (by omega)) (by omega)
    exact this) FU (w := w) (v3 := -1) (v4 := 0) (v5 := 0) (by decide) hP.1 (rx_self w) rfl (Or.inl rfl)
  refine pc_w hc (fun r u y => ⟨y.1, ?_⟩)
  rw [y.2, es]
  unfold chs
  rw [eo]
theorem nob_pc (x : Wd) : ∀ (n : Nat) {w : Wd} {v1 : Int}, 0 ≤ v1 → v1 ≤ 10 → (∀ c k, c ≠ 58 → w c k = x c k) → (∀ k : Nat, (k : Int) < v1 → w 58 k = -1) → PC (f_R_nobody_2 n v1 w) (fun _ u => (∀ c k, c ≠ 58 → u c k = x c k) ∧ ∀ k : Nat, (k : Int) < 10 → u 58 k = -1) := by
  intro n
  induction n with
  | zero => intros; exact pc_none
  | succ n ih =>
    intro w v1 i0 i1 hx hd
    rw [f_R_nobody_2]
    refine pc_ite (fun c => pc_some ⟨hx, fun k hk => hd k (by omega)⟩) (fun c => ?_)
    refine pc_gd (fun _ => ?_)
    refine pc_lw (fun u1 e1 => ?_)
    refine pc_let (fun x2 e2 => ?_)
    rw [wsucc (P := 10) (by omega) (by omega)] at e2
    rw [e2]
    refine ih (by omega) (by omega) (fun c k hc => by rw [e1, st_c hc]; exact hx c k hc) (fun k hk => ?_)
    rw [e1]
    by_cases ck : k = v1.toNat
    · rw [ck, st_eq]
    · rw [st_k ck]; exact hd k (by omega)
/-- what choosing may change -/
def RXp (x u : Wd) : Prop := ∀ c k, c ≠ 58 → ¬ (c = 43 ∧ ((17 ≤ k ∧ k ≤ 21) ∨ k = 28 ∨ k = 29)) → u c k = x c k
theorem fch_pc {P g seats wk : Int} {s h pr kn : Nat → Int} {c : List Int} (x : Wd) (hR : RUC c (x 43 27) (x 57)) (hP : 0 ≤ P ∧ P ≤ 10) (h0 : x 43 0 = P) (h10 : x 43 10 = g) (h11 : x 43 11 = seats) (h8 : x 43 8 = wk) (es : x 47 = s) (eh : x 46 = h) (e44 : x 44 = pr) (e45 : x 45 = kn) (hs : ∀ j : Nat, (j : Int) < P → 0 ≤ s j ∧ s j ≤ 4) (hk : ∀ j : Nat, (j : Int) < P → 0 ≤ kn j ∧ kn j ≤ 1023) : ∀ (n : Nat) {w : Wd} {v1 : Int}, 0 ≤ v1 → v1 ≤ P → RXp x w → (∀ k : Nat, (k : Int) < P → w 58 k = plf P g seats s h pr kn wk c v1.toNat k) → PC (f_R_findChoices_6 n v1 w) (fun _ u => RXp x u ∧ ∀ k : Nat, (k : Int) < P → u 58 k = plf P g seats s h pr kn wk c P.toNat k) := by
  intro n
  induction n with
  | zero => intros; exact pc_none
  | succ n ih =>
    intro w v1 i0 i1 hx hd
    have r57 : w 57 = x 57 := funext fun k => hx 57 k (by decide) (by omega)
    have r47 : w 47 = s := (funext fun k => hx 47 k (by decide) (by omega)).trans es
    have r46 : w 46 = h := (funext fun k => hx 46 k (by decide) (by omega)).trans eh
    have r44 : w 44 = pr := (funext fun k => hx 44 k (by decide) (by omega)).trans e44
    have r45 : w 45 = kn := (funext fun k => hx 45 k (by decide) (by omega)).trans e45
    rw [f_R_findChoices_6, hx 43 0 (by decide) (by decide), h0]
    refine pc_ite (fun z => ?_) (fun z => ?_)
    · have e : v1 = P := by omega
      rw [e] at hd
      exact pc_some ⟨hx, hd⟩
    · refine pc_gd (fun _ => ?_)
      rw [isG_e, jc_s, r47]
      have nx : ∀ {u : Wd}, RXp x u → (∀ k : Nat, (k : Int) < P → u 58 k = plf P g seats s h pr kn wk c (v1.toNat + 1) k) → PC (f_R_findChoices_37 (f_R_findChoices_6 n) v1 u) (fun _ u => RXp x u ∧ ∀ k : Nat, (k : Int) < P → u 58 k = plf P g seats s h pr kn wk c P.toNat k) := by
        intro u hu hd2
        unfold f_R_findChoices_37
        refine pc_let (fun x5 e5 => ?_)
        rw [wsucc (P := P) (by omega) (by omega)] at e5
        rw [e5]
        exact ih (by omega) (by omega) hu (by rw [show (v1 + 1).toNat = v1.toNat + 1 by omega]; exact hd2)
      have ep : plf P g seats s h pr kn wk c (v1.toNat + 1) = if gst (s v1.toNat) = true then put (plf P g seats s h pr kn wk c v1.toNat) v1.toNat (chs P g seats s h pr kn wk c (plf P g seats s h pr kn wk c v1.toNat) v1.toNat) else plf P g seats s h pr kn wk c v1.toNat := rfl
      cases hb : gst (s v1.toNat) with
      | false =>
        refine pc_ite (fun _ => ?_) (fun c => absurd rfl c)
        rw [hb, if_neg (by decide)] at ep
        exact nx hx (by rw [ep]; exact hd)
      | true =>
        refine pc_ite (fun c => absurd c (by decide)) (fun _ => ?_)
        rw [hb, if_pos rfl] at ep
        have hg := plf_gwk (P := P) (g := g) (seats := seats) (s := s) (h := h) (pr := pr) (kn := kn) (wk := wk) (c := c) hP.1 v1.toNat (by omega)
        have hch := choice_pc (w := w) (one := v1) (c := c) (P := P) (g := g) (seats := seats) (wk := wk) (s := s) (h := h) (pr := pr) (kn := kn) (by rw [r57, hx 43 27 (by decide) (by decide)]; exact hR) hP (by rw [hx 43 0 (by decide) (by decide)]; exact h0) (by rw [hx 43 10 (by decide) (by decide)]; exact h10) (by rw [hx 43 11 (by decide) (by decide)]; exact h11) (by rw [hx 43 8 (by decide) (by decide)]; exact h8) r47 r46 r44 r45 hs hk (by omega) (by rw [hd v1.toNat (by omega)]; exact plf_m _ (Nat.le_refl _)) (fun i hi => by rw [hd i hi]; exact gwk_r hg hP.2 i hi)
        refine pc_call hch (fun r6 u7 y => ?_)
        refine pc_gd (fun _ => ?_)
        refine pc_lw (fun u8 e8 => ?_)
        refine nx (fun c k h58 hc => by rw [e8, st_c h58, y.1 c k hc]; exact hx c k h58 hc) (fun k hk2 => ?_)
        rw [ep, e8]
        by_cases ck : k = v1.toNat
        · rw [ck, st_eq, put_i, y.2]
          exact chs_eq hd
        · rw [st_k ck, put_n ck, y.1 58 k (by omega)]
          exact hd k hk2
theorem choices_pc {P g seats wk : Int} {s h pr kn : Nat → Int} {c : List Int} {x : Wd} (hR : RUC c (x 43 27) (x 57)) (hP : 0 ≤ P ∧ P ≤ 10) (h0 : x 43 0 = P) (h10 : x 43 10 = g) (h11 : x 43 11 = seats) (h8 : x 43 8 = wk) (es : x 47 = s) (eh : x 46 = h) (e44 : x 44 = pr) (e45 : x 45 = kn) (hs : ∀ j : Nat, (j : Int) < P → 0 ≤ s j ∧ s j ≤ 4) (hk : ∀ j : Nat, (j : Int) < P → 0 ≤ kn j ∧ kn j ≤ 1023) : PC (f_R_findChoices x) (fun _ u => RXp x u ∧ ∀ k : Nat, (k : Int) < P → u 58 k = plf P g seats s h pr kn wk c P.toNat k) := by
  unfold f_R_findChoices f_R_nobody
  refine pc_call (nob_pc x FU (v1 := 0) (by decide) (by decide) (fun _ _ _ => rfl) (fun k hk => by omega)) (fun r1 u2 q => ?_)
  refine fch_pc x hR hP h0 h10 h11 h8 es eh e44 e45 hs hk FU (by decide) hP.1 (fun c k h58 _ => q.1 c k h58) (fun k hk2 => ?_)
  exact q.2 k (by omega)
