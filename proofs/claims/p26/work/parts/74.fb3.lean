/-! THE RULE'S TEXT: what is read, as a list of what is to be done (the latest first) -/
def stg (x : Int) : Int := if x = 42 then 3 else if x = 43 then 2 else if x = 45 then 2 else if x = 47 then 3 else if x = 60 then 1 else if x = 61 then 1 else if x = 62 then 1 else if x = 256 then 4 else 0
def dig (c : Int) : Prop := 48 ≤ c ∧ c ≤ 57
def ltr (c : Int) : Prop := c = 105 ∨ c = 112 ∨ c = 107 ∨ c = 115 ∨ c = 103 ∨ c = 108 ∨ c = 110 ∨ c = 119
theorem dig_d (c : Int) : dig c ∨ ¬ dig c := Decidable.em (48 ≤ c ∧ c ≤ 57)
/-- as the reference goes down -/
abbrev Par : Type := Option (Bool × Int × List Int)
def plp (h : Int → Int) (a b : Int) (r : Int → Par) : Nat → Int → List Int → Par
  | 0, _, _ => none
  | n + 1, p, c => if h p = a ∨ h p = b then (match r (p + 1) with
      | none => none
      | some (false, q, _) => some (false, q, [])
      | some (true, q, c2) => plp h a b r n q (-(h p) :: (c2 ++ c))) else some (true, p, c)
def pst (h : Int → Int) (a b : Int) (r : Int → Par) (p : Int) : Par := match r p with
  | none => none
  | some (false, q, _) => some (false, q, [])
  | some (true, q, c) => plp h a b r 50 q c
def phd (h : Int → Int) (r : Int → Par) (p : Int) : Par := match r p with
  | none => none
  | some (false, q, _) => some (false, q, [])
  | some (true, q, c) => if h q = 60 ∨ h q = 62 ∨ h q = 61 then (match r (q + 1) with
      | none => none
      | some (false, q2, _) => some (false, q2, [])
      | some (true, q2, c2) => some (true, q2, -(h q) :: (c2 ++ c))) else some (true, q, c)
def pnm (h : Int → Int) (p : Int) : Int × Int := if 48 ≤ h (p + 1) ∧ h (p + 1) ≤ 57 then (if 48 ≤ h (p + 2) ∧ h (p + 2) ≤ 57 then (p + 3, 10 * (10 * (h p - 48) + (h (p + 1) - 48)) + (h (p + 2) - 48)) else (p + 2, 10 * (h p - 48) + (h (p + 1) - 48))) else (p + 1, h p - 48)
def pth (h : Int → Int) (rT : Int → Par) (rH : Int → Par) (v p : Int) : Par :=
  if h p = 45 then (match rT (p + 1) with
    | none => none
    | some (false, q, _) => some (false, q, [])
    | some (true, q, c) => some (true, q, -256 :: c))
  else if h p = 40 ∧ v < 4 then (match rH (p + 1) with
    | none => none
    | some (false, q, _) => some (false, q, [])
    | some (true, q, c) => if h q = 41 then some (true, q + 1, c) else some (false, q, []))
  else if 48 ≤ h p ∧ h p ≤ 57 then some (true, (pnm h p).1, [(pnm h p).2])
  else if h p = 105 ∨ h p = 112 ∨ h p = 107 ∨ h p = 115 ∨ h p = 103 ∨ h p = 108 ∨ h p = 110 ∨ h p = 119 then some (true, p + 1, [-(h p)])
  else some (false, p, [])
def pg (h : Int → Int) : Nat → Nat → Int → Int → Par
  | 0, _, _, _ => none
  | d + 1, 0, v, p => phd h (pg h d 1 v) p
  | d + 1, 1, v, p => pst h 43 45 (pg h d 2 v) p
  | d + 1, 2, v, p => pst h 42 47 (pg h d 3 v) p
  | d + 1, _, v, p => pth h (pg h d 3 v) (pg h d 0 (v + 1)) v p
/-- as the class goes on, sign by sign -/
def rel (v : Int) (D : List Int) : List Int → List Int × List Int
  | [] => (D, [])
  | x :: W => if v ≤ stg x then rel v (-x :: D) W else (D, x :: W)
def rlw (D : List Int) : List Int → List Int
  | [] => D
  | x :: w => rlw (-x :: D) w
def stc (c : Int) (D W : List Int) (d g K : Int) (wt : Bool) : Option (List Int × List Int × Int × Int × Int × Bool) :=
  if wt = true then
    if c = 45 then some (D, 256 :: W, d, g, K, true)
    else if c = 40 ∧ d < 4 then some (D, 40 :: W, d + 1, g, iand K (ixor (ishl 1 (d + 1)) (-1)), true)
    else if 48 ≤ c ∧ c ≤ 57 then some ((c - 48) :: D, W, d, 1, K, false)
    else if c = 105 ∨ c = 112 ∨ c = 107 ∨ c = 115 ∨ c = 103 ∨ c = 108 ∨ c = 110 ∨ c = 119 then some (-c :: D, W, d, 0, K, false)
    else none
  else
    if 48 ≤ c ∧ c ≤ 57 then (if g = 0 ∨ g = 3 then none else match D with
      | [] => none
      | x :: D' => some ((x * 10 + (c - 48)) :: D', W, d, g + 1, K, false))
    else if c = 41 ∧ 0 < d then some ((rel 1 D W).1, (rel 1 D W).2.tail, d - 1, 0, K, false)
    else if stg c = 0 ∨ (stg c = 1 ∧ bt K d.toNat = true) then none
    else some ((rel (stg c) D W).1, c :: (rel (stg c) D W).2, d, 0, (if stg c = 1 then ior K (ishl 1 d) else K), true)
def cgo (s : Int → Int) (n : Int) : Nat → List Int → List Int → Int → Int → Int → Bool → Bool × Int × List Int
  | 0, D, W, d, _, _, wt => if wt = true ∨ 0 < d then (false, n, []) else (true, n, (rel 1 D W).1)
  | m + 1, D, W, d, g, K, wt => match stc (s (n - ((m : Int) + 1))) D W d g K wt with
    | none => (false, n - ((m : Int) + 1), [])
    | some (D', W', d', g', K', wt') => cgo s n m D' W' d' g' K' wt'
/-- from place p on -/
def cat (s : Int → Int) (n p : Int) : List Int → List Int → Int → Int → Int → Bool → Bool × Int × List Int := cgo s n (n - p).toNat
theorem cat_s {s : Int → Int} {n p : Int} (h : p < n) (D W : List Int) (d g K : Int) (wt : Bool) : cat s n p D W d g K wt = (match stc (s p) D W d g K wt with
    | none => (false, p, [])
    | some (D', W', d', g', K', wt') => cat s n (p + 1) D' W' d' g' K' wt') := by
  unfold cat
  have e : (n - p).toNat = (n - (p + 1)).toNat + 1 := by omega
  rw [e, cgo]
  have e2 : n - (((n - (p + 1)).toNat : Int) + 1) = p := by omega
  rw [e2]
theorem cat_n {s : Int → Int} {n : Int} (D W : List Int) (d g K : Int) (wt : Bool) : cat s n n D W d g K wt = if wt = true ∨ 0 < d then (false, n, []) else (true, n, (rel 1 D W).1) := by
  unfold cat
  rw [show (n - n).toNat = 0 by omega, cgo]
/-- the two ways to look at a sign -/
def SH (s h : Int → Int) (n : Int) : Prop := ∀ p, 0 ≤ p → (h p < 0 ∨ (0 ≤ h p ∧ p < n ∧ p < 40)) ∧ (∀ c, 0 ≤ c → c ≤ 127 → (s p = c ↔ h p = c)) ∧ s p ≤ 255 ∧ (0 ≤ h p → h p ≤ 127)
theorem sh_e {s h : Int → Int} {n p : Int} (hs : SH s h n) (hp : 0 ≤ p) (h0 : 0 ≤ h p) : s p = h p ∧ p < n ∧ p < 40 := by
  obtain ⟨a, b, _, d⟩ := hs p hp
  refine ⟨(b (h p) h0 (d h0)).mpr rfl, ?_⟩
  omega
theorem rlw_app (D : List Int) : ∀ (w : List Int) (x : Int), rlw D (w ++ [x]) = -x :: rlw D w := by
  intro w
  induction w generalizing D with
  | nil => intro x; rfl
  | cons y w ih => intro x; exact ih (-y :: D) x
theorem rel_all {v : Int} {W : List Int} (hW : ∀ x t, W = x :: t → stg x < v) : ∀ (w D : List Int), (∀ x ∈ w, v ≤ stg x) → rel v D (w ++ W) = (rlw D w, W) := by
  intro w
  induction w with
  | nil =>
    intro D _
    cases W with
    | nil => rfl
    | cons x t =>
      show rel v D (x :: t) = (D, x :: t)
      rw [rel, if_neg (by have := hW x t rfl; omega)]
  | cons y w ih =>
    intro D h
    show rel v D (y :: (w ++ W)) = (rlw (-y :: D) w, W)
    rw [rel, if_pos (h y List.mem_cons_self)]
    exact ih _ (fun x hx => h x (List.mem_cons_of_mem _ hx))
/-- ends at a place, with so much written and so much waiting -/
def EN (s h : Int → Int) (n : Int) (l : Int) (k : Nat) (v p p2 : Int) (c D W : List Int) (g K : Int) : Prop := (p < p2 ∧ p2 ≤ n) ∧ ((c.length : Int) ≤ p2 - p) ∧ ∃ (D2 w : List Int) (g2 K2 : Int), cat s n p D W v g K true = cat s n p2 D2 (w ++ W) v g2 K2 false ∧ rlw D2 w = c ++ D ∧ (∀ x ∈ w, l ≤ stg x) ∧ ((g2 = 0 ∨ g2 = 3 ∨ ¬ dig (h p2)) ∧ (∀ i : Nat, (i : Int) < v → bt K2 i = bt K i)) ∧ (1 ≤ k → bt K2 v.toNat = bt K v.toNat) ∧ (k = 0 → bt K2 v.toNat = false → ¬ (h p2 = 60 ∨ h p2 = 62 ∨ h p2 = 61)) ∧ (k ≤ 2 → ¬ (h p2 = 42 ∨ h p2 = 47)) ∧ (k ≤ 1 → ¬ (h p2 = 43 ∨ h p2 = 45))
def RS1 (s h : Int → Int) (n : Int) (l : Int) (k : Nat) (v p : Int) (D W : List Int) (g K : Int) : Bool × Int × List Int → Prop
  | (true, p2, c) => EN s h n l k v p p2 c D W g K
  | (false, p2, _) => (p ≤ p2) ∧ cat s n p D W v g K true = (false, p2, [])
def low (v : Int) (W : List Int) : Prop := ∀ x t, W = x :: t → stg x < v
theorem low_w {a b : Int} {W : List Int} (h : low a W) (hab : a ≤ b) : low b W := fun x t e => by have := h x t e; omega
theorem low_c {x v : Int} {W : List Int} (h : stg x < v) : low v (x :: W) := fun y t e => by
  have e1 : x = y := (List.cons.inj e).1
  rw [← e1]; exact h
/-- nothing that can stand there -/
theorem no_thing {s h : Int → Int} {n p : Int} (hs : SH s h n) (hp : 0 ≤ p ∧ p ≤ n) (D W : List Int) {v g K : Int} (h1 : ¬ h p = 45) (h2 : ¬ (h p = 40 ∧ v < 4)) (h3 : ¬ (48 ≤ h p ∧ h p ≤ 57)) (h4 : ¬ (h p = 105 ∨ h p = 112 ∨ h p = 107 ∨ h p = 115 ∨ h p = 103 ∨ h p = 108 ∨ h p = 110 ∨ h p = 119)) : cat s n p D W v g K true = (false, p, []) := by
  by_cases c : p = n
  · subst c
    rw [cat_n, if_pos (Or.inl rfl)]
  · rw [cat_s (by omega)]
    have e := (hs p hp.1).2.1
    have q : ∀ c, 0 ≤ c → c ≤ 127 → ¬ h p = c → ¬ s p = c := fun c c0 c1 n e2 => n ((e c c0 c1).mp e2)
    have n3 : ¬ (48 ≤ s p ∧ s p ≤ 57) := fun h => h3 (by have := (e (s p) (by omega) (by omega)).mp rfl; omega)
    have n4 : ¬ (s p = 105 ∨ s p = 112 ∨ s p = 107 ∨ s p = 115 ∨ s p = 103 ∨ s p = 108 ∨ s p = 110 ∨ s p = 119) := fun h => h4 (by have := (e (s p) (by omega) (by omega)).mp rfl; omega)
    have n2 : ¬ (s p = 40 ∧ v < 4) := fun h => h2 ⟨(e 40 (by decide) (by decide)).mp h.1, h.2⟩
    unfold stc
    rw [if_pos rfl, if_neg (q 45 (by decide) (by decide) h1), if_neg n2, if_neg n3, if_neg n4]
theorem thing_num {s h : Int → Int} {n p : Int} (hs : SH s h n) (hp : 0 ≤ p) (D W : List Int) {v g K : Int} (h3 : 48 ≤ h p ∧ h p ≤ 57) : EN s h n 4 3 v p (pnm h p).1 [(pnm h p).2] D W g K := by
  obtain ⟨e0, n0, m0⟩ := sh_e hs hp (by omega)
  have st1 : cat s n p D W v g K true = cat s n (p + 1) ((h p - 48) :: D) W v 1 K false := by
    rw [cat_s n0, e0]
    unfold stc
    rw [if_pos rfl, if_neg (by omega), if_neg (by omega), if_pos h3]
  unfold pnm
  by_cases c1 : 48 ≤ h (p + 1) ∧ h (p + 1) ≤ 57
  · rw [if_pos c1]
    obtain ⟨e1, n1, m1⟩ := sh_e hs (p := p + 1) (by omega) (by omega)
    have st2 : cat s n (p + 1) ((h p - 48) :: D) W v 1 K false = cat s n (p + 2) (((h p - 48) * 10 + (h (p + 1) - 48)) :: D) W v 2 K false := by
      rw [cat_s n1, e1]
      unfold stc
      rw [if_neg (by decide), if_pos c1, if_neg (by decide)]
      rw [show p + 1 + 1 = p + 2 by omega]
      rfl
    by_cases c2 : 48 ≤ h (p + 2) ∧ h (p + 2) ≤ 57
    · rw [if_pos c2]
      obtain ⟨e2, n2, m2⟩ := sh_e hs (p := p + 2) (by omega) (by omega)
      have st3 : cat s n (p + 2) (((h p - 48) * 10 + (h (p + 1) - 48)) :: D) W v 2 K false = cat s n (p + 3) ((((h p - 48) * 10 + (h (p + 1) - 48)) * 10 + (h (p + 2) - 48)) :: D) W v 3 K false := by
        rw [cat_s n2, e2]
        unfold stc
        rw [if_neg (by decide), if_pos c2, if_neg (by decide)]
        rw [show p + 2 + 1 = p + 3 by omega]
        rfl
      refine ⟨⟨by show p < p + 3; omega, by show p + 3 ≤ n; omega⟩, by show ((1 : Nat) : Int) ≤ p + 3 - p; omega, _, [], 3, K, st1.trans (st2.trans st3), ?_, (fun x hx => by cases hx), ⟨Or.inr (Or.inl rfl), fun _ _ => rfl⟩, fun _ => rfl, (fun h => by cases h), fun h => by omega, fun h => by omega⟩
      show _ :: D = _ :: D
      congr 1
      show ((h p - 48) * 10 + (h (p + 1) - 48)) * 10 + (h (p + 2) - 48) = 10 * (10 * (h p - 48) + (h (p + 1) - 48)) + (h (p + 2) - 48)
      omega
    · rw [if_neg c2]
      refine ⟨⟨by show p < p + 2; omega, by show p + 2 ≤ n; omega⟩, by show ((1 : Nat) : Int) ≤ p + 2 - p; omega, _, [], 2, K, st1.trans st2, ?_, (fun x hx => by cases hx), ⟨Or.inr (Or.inr c2), fun _ _ => rfl⟩, fun _ => rfl, (fun h => by cases h), fun h => by omega, fun h => by omega⟩
      show _ :: D = _ :: D
      congr 1
      show (h p - 48) * 10 + (h (p + 1) - 48) = 10 * (h p - 48) + (h (p + 1) - 48)
      omega
  · rw [if_neg c1]
    exact ⟨⟨by show p < p + 1; omega, by show p + 1 ≤ n; omega⟩, by show ((1 : Nat) : Int) ≤ p + 1 - p; omega, _, [], 1, K, st1, rfl, (fun x hx => by cases hx), ⟨Or.inr (Or.inr c1), fun _ _ => rfl⟩, fun _ => rfl, (fun h => by cases h), fun h => by omega, fun h => by omega⟩
/-- behind a thing comes an operator: what waits and binds as strongly is written, it waits -/
theorem op_step {s h : Int → Int} {n p a v g K : Int} (hs : SH s h n) (hp : 0 ≤ p) (ha : h p = a) (h0 : 0 ≤ a) (hst : 1 ≤ stg a) (hnd : ¬ (48 ≤ a ∧ a ≤ 57)) (hn41 : ¬ a = 41) (hcmp : stg a = 1 → bt K v.toNat = false) {D W w : List Int} (hw : ∀ x ∈ w, stg a ≤ stg x) (hW : low (stg a) W) : cat s n p D (w ++ W) v g K false = cat s n (p + 1) (rlw D w) (a :: W) v 0 (if stg a = 1 then ior K (ishl 1 v) else K) true := by
  obtain ⟨e0, n0, m0⟩ := sh_e hs hp (by omega)
  rw [cat_s n0, e0, ha]
  unfold stc
  rw [if_neg (by decide), if_neg hnd, if_neg (fun h => hn41 h.1), if_neg (fun h => h.elim (fun h => by omega) (fun h => by rw [hcmp h.1] at h; cases h.2)), rel_all hW w D hw]
theorem rlw_snd {D w : List Int} {a : Int} : rlw D (w ++ [a]) = -a :: rlw D w := rlw_app D w a
theorem app3 (w : List Int) (a : Int) (W : List Int) : w ++ (a :: W) = (w ++ [a]) ++ W := by simp
/-- a row of things of one strength -/
theorem lp_en {s h : Int → Int} {n v : Int} (hs : SH s h n) (hv : 0 ≤ v ∧ v ≤ 4) {a b l : Int} {k : Nat} (hk : (k = 2 ∧ a = 42 ∧ b = 47 ∧ l = 3) ∨ (k = 1 ∧ a = 43 ∧ b = 45 ∧ l = 2)) {r : Int → Par} (hr : ∀ p res, r p = some res → 0 ≤ p → p ≤ n → ∀ (D W : List Int) (g K : Int), low (l + 1) W → RS1 s h n (l + 1) (k + 1) v p D W g K res) {p0 : Int} {D0 W : List Int} {g0 K0 : Int} (hW : low l W) (hp0 : 0 ≤ p0) : ∀ (f : Nat) (p : Int) (c : List Int) (res : Bool × Int × List Int), plp h a b r f p c = some res → (p0 < p ∧ p ≤ n) → ((c.length : Int) ≤ p - p0) → (∃ (D2 w : List Int) (g2 K2 : Int), cat s n p0 D0 W v g0 K0 true = cat s n p D2 (w ++ W) v g2 K2 false ∧ rlw D2 w = c ++ D0 ∧ (∀ x ∈ w, l ≤ stg x) ∧ ((g2 = 0 ∨ g2 = 3 ∨ ¬ dig (h p)) ∧ (∀ i : Nat, (i : Int) < v → bt K2 i = bt K0 i)) ∧ bt K2 v.toNat = bt K0 v.toNat ∧ (k ≤ 1 → ¬ (h p = 42 ∨ h p = 47))) → RS1 s h n l k v p0 D0 W g0 K0 res := by
  intro f
  induction f with
  | zero => intro p c res e; cases e
  | succ f ih =>
    intro p c res e hp hc hst
    rw [plp] at e
    by_cases c1 : h p = a ∨ h p = b
    · rw [if_pos c1] at e
      obtain ⟨D2, w, g2, K2, q1, q2, q3, ⟨q4, q5⟩, q6, q7⟩ := hst
      have sa : stg (h p) = l ∧ 0 ≤ h p ∧ ¬ (48 ≤ h p ∧ h p ≤ 57) ∧ ¬ h p = 41 ∧ ¬ stg (h p) = 1 := by
        rcases hk with ⟨_, ea, eb, el⟩ | ⟨_, ea, eb, el⟩ <;> rcases c1 with c1 | c1 <;> rw [c1] <;> subst ea <;> subst eb <;> subst el <;> decide
      have hop := op_step hs (a := h p) (v := v) (g := g2) (K := K2) (D := D2) (W := W) (w := w) (by omega) rfl sa.2.1 (by have := sa.1; rcases hk with ⟨_, _, _, el⟩ | ⟨_, _, _, el⟩ <;> omega) sa.2.2.1 sa.2.2.2.1 (fun h1 => absurd h1 sa.2.2.2.2) (by rw [sa.1]; exact q3) (by rw [sa.1]; exact hW)
      rw [if_neg sa.2.2.2.2, q2] at hop
      have hpn : p < n := (sh_e hs (by omega) sa.2.1).2.1
      cases hrr : r (p + 1) with
      | none => rw [hrr] at e; cases e
      | some r2 =>
        rw [hrr] at e
        have hh := hr (p + 1) r2 hrr (by omega) (by omega) (c ++ D0) (h p :: W) 0 K2 (low_c (by rw [sa.1]; omega))
        obtain ⟨ok, q, c2⟩ := r2
        cases ok with
        | false =>
          cases e
          obtain ⟨y1, y2⟩ := hh
          exact ⟨by omega, q1.trans (hop.trans y2)⟩
        | true =>
          obtain ⟨⟨z1, z2⟩, zl, D3, w3, g3, K3, z3, z4, z5, ⟨z6, z7⟩, z8, _, z10, _⟩ := hh
          refine ih q _ res e ⟨by omega, by omega⟩ ?_ ⟨D3, w3 ++ [h p], g3, K3, ?_, ?_, ?_, ⟨z6, fun i hi => (z7 i hi).trans (q5 i hi)⟩, (z8 (by omega)).trans q6, ?_⟩
          · simp only [List.length_cons, List.length_append]
            omega
          · rw [q1, hop, z3, app3]
          · rw [rlw_snd, z4]
            simp
          · intro x hx
            rw [List.mem_append] at hx
            rcases hx with hx | hx
            · have := z5 x hx; omega
            · have e2 : x = h p := by simpa using hx
              rw [e2, sa.1]; exact Int.le_refl l
          · intro hk1
            exact z10 (by omega)
    · rw [if_neg c1] at e
      cases e
      obtain ⟨D2, w, g2, K2, q1, q2, q3, q4, q6, q7⟩ := hst
      refine ⟨hp, hc, D2, w, g2, K2, q1, q2, q3, q4, fun _ => q6, fun h => ?_, fun h => ?_, fun h => ?_⟩
      · rcases hk with ⟨ek, _⟩ | ⟨ek, _⟩ <;> omega
      · rcases hk with ⟨ek, ea, eb, _⟩ | ⟨ek, _⟩
        · rw [ea, eb] at c1; exact c1
        · exact q7 (by omega)
      · rcases hk with ⟨ek, _⟩ | ⟨ek, ea, eb, _⟩
        · omega
        · rw [ea, eb] at c1; exact c1
theorem st_en {s h : Int → Int} {n v : Int} (hs : SH s h n) (hv : 0 ≤ v ∧ v ≤ 4) {a b l : Int} {k : Nat} (hk : (k = 2 ∧ a = 42 ∧ b = 47 ∧ l = 3) ∨ (k = 1 ∧ a = 43 ∧ b = 45 ∧ l = 2)) {r : Int → Par} (hr : ∀ p res, r p = some res → 0 ≤ p → p ≤ n → ∀ (D W : List Int) (g K : Int), low (l + 1) W → RS1 s h n (l + 1) (k + 1) v p D W g K res) {p : Int} {res : Bool × Int × List Int} (e : pst h a b r p = some res) (hp : 0 ≤ p ∧ p ≤ n) (D W : List Int) (g K : Int) (hW : low l W) : RS1 s h n l k v p D W g K res := by
  unfold pst at e
  cases hrr : r p with
  | none => rw [hrr] at e; cases e
  | some r2 =>
    rw [hrr] at e
    have hh := hr p r2 hrr hp.1 hp.2 D W g K (low_w hW (by omega))
    obtain ⟨ok, q, c2⟩ := r2
    cases ok with
    | false => cases e; exact hh
    | true =>
      obtain ⟨z1, zl, D3, w3, g3, K3, z3, z4, z5, z6, z8, _, z10, _⟩ := hh
      refine lp_en hs hv hk hr hW hp.1 50 q c2 res e z1 zl ⟨D3, w3, g3, K3, z3, z4, fun x hx => by have := z5 x hx; omega, z6, z8 (by omega), fun hk1 => z10 (by omega)⟩
theorem hd_en {s h : Int → Int} {n v : Int} (hs : SH s h n) (hv : 0 ≤ v ∧ v ≤ 4) {r : Int → Par} (hr : ∀ p res, r p = some res → 0 ≤ p → p ≤ n → ∀ (D W : List Int) (g K : Int), low 2 W → RS1 s h n 2 1 v p D W g K res) {p : Int} {res : Bool × Int × List Int} (e : phd h r p = some res) (hp : 0 ≤ p ∧ p ≤ n) (D W : List Int) (g K : Int) (hW : low 1 W) (hK : bt K v.toNat = false) : RS1 s h n 1 0 v p D W g K res := by
  unfold phd at e
  cases hrr : r p with
  | none => rw [hrr] at e; cases e
  | some r2 =>
    rw [hrr] at e
    have hh := hr p r2 hrr hp.1 hp.2 D W g K (low_w hW (by omega))
    obtain ⟨ok, q, c2⟩ := r2
    cases ok with
    | false => cases e; exact hh
    | true =>
      obtain ⟨z1, zl, D3, w3, g3, K3, z3, z4, z5, ⟨z6, z7⟩, z8, _, z10, z11⟩ := hh
      have zK := z8 (by omega)
      dsimp only at e
      by_cases c1 : h q = 60 ∨ h q = 62 ∨ h q = 61
      · rw [if_pos c1] at e
        have sa : stg (h q) = 1 ∧ 0 ≤ h q ∧ ¬ (48 ≤ h q ∧ h q ≤ 57) ∧ ¬ h q = 41 := by
          rcases c1 with c1 | c1 | c1 <;> rw [c1] <;> decide
        have hop := op_step hs (a := h q) (v := v) (g := g3) (K := K3) (D := D3) (W := W) (w := w3) (by omega) rfl sa.2.1 (by omega) sa.2.2.1 sa.2.2.2 (fun _ => zK.trans hK) (by rw [sa.1]; exact fun x hx => by have := z5 x hx; omega) (by rw [sa.1]; exact hW)
        rw [if_pos sa.1, z4] at hop
        have hqn : q < n := (sh_e hs (by omega) sa.2.1).2.1
        cases hr2 : r (q + 1) with
        | none => rw [hr2] at e; cases e
        | some r3 =>
          rw [hr2] at e
          have hh2 := hr (q + 1) r3 hr2 (by omega) (by omega) (c2 ++ D) (h q :: W) 0 (ior K3 (ishl 1 v)) (low_c (by rw [sa.1]; decide))
          obtain ⟨ok2, q2, c3⟩ := r3
          cases ok2 with
          | false =>
            cases e
            obtain ⟨y1, y2⟩ := hh2
            exact ⟨by omega, z3.trans (hop.trans y2)⟩
          | true =>
            cases e
            obtain ⟨y1, yl, D4, w4, g4, K4, y3, y4, y5, ⟨y6, y7⟩, y8, _, y10, y11⟩ := hh2
            refine ⟨⟨by omega, y1.2⟩, ?_, D4, w4 ++ [h q], g4, K4, ?_, ?_, fun x hx => ?_, ⟨y6, fun i hi => ?_⟩, fun h => by omega, fun _ hb => ?_, fun _ => y10 (by omega), fun _ => y11 (by omega)⟩
            · simp only [List.length_cons, List.length_append]
              omega
            · rw [z3, hop, y3, app3]
            · rw [rlw_snd, y4]
              simp
            · rw [List.mem_append] at hx
              rcases hx with hx | hx
              · have := y5 x hx; omega
              · have e2 : x = h q := by simpa using hx
                rw [e2, sa.1]; exact Int.le_refl 1
            · rw [y7 i hi, bt_or, z7 i hi, bt_shl (by omega) (by omega), decide_eq_false (show ¬ i = v.toNat by omega), Bool.or_false]
            · rw [y8 (by omega), bt_or, bt_shl (by omega) (by omega), decide_eq_true rfl, Bool.or_true] at hb
              cases hb
      · rw [if_neg c1] at e
        cases e
        exact ⟨z1, zl, D3, w3, g3, K3, z3, z4, fun x hx => by have := z5 x hx; omega, ⟨z6, z7⟩, fun h => by omega, fun _ _ => c1, fun _ => z10 (by omega), fun _ => z11 (by omega)⟩
theorem th_en {s h : Int → Int} {n v : Int} (hs : SH s h n) (hv : 0 ≤ v ∧ v ≤ 4) {rT rH : Int → Par} (hT : ∀ p res, rT p = some res → 0 ≤ p → p ≤ n → ∀ (D W : List Int) (g K : Int), RS1 s h n 4 3 v p D W g K res) (hH : v < 4 → ∀ p res, rH p = some res → 0 ≤ p → p ≤ n → ∀ (D W : List Int) (g K : Int), low 1 W → bt K (v + 1).toNat = false → RS1 s h n 1 0 (v + 1) p D W g K res) {p : Int} {res : Bool × Int × List Int} (e : pth h rT rH v p = some res) (hp : 0 ≤ p ∧ p ≤ n) (D W : List Int) (g K : Int) : RS1 s h n 4 3 v p D W g K res := by
  unfold pth at e
  by_cases c1 : h p = 45
  · rw [if_pos c1] at e
    obtain ⟨e0, n0, _⟩ := sh_e hs hp.1 (by omega)
    have st1 : cat s n p D W v g K true = cat s n (p + 1) D (256 :: W) v g K true := by
      rw [cat_s n0, e0]
      unfold stc
      rw [if_pos rfl, if_pos c1]
    cases hrr : rT (p + 1) with
    | none => rw [hrr] at e; cases e
    | some r2 =>
      rw [hrr] at e
      have hh := hT (p + 1) r2 hrr (by omega) (by omega) D (256 :: W) g K
      obtain ⟨ok, q, c2⟩ := r2
      cases ok with
      | false =>
        cases e
        obtain ⟨y1, y2⟩ := hh
        exact ⟨by omega, st1.trans y2⟩
      | true =>
        cases e
        obtain ⟨z1, zl, D3, w3, g3, K3, z3, z4, z5, z6, z8, _, _, _⟩ := hh
        refine ⟨⟨by omega, z1.2⟩, ?_, D3, w3 ++ [256], g3, K3, ?_, ?_, fun x hx => ?_, z6, z8, fun h => by omega, fun h => by omega, fun h => by omega⟩
        · simp only [List.length_cons]
          omega
        · rw [st1, z3, app3]
        · rw [rlw_snd, z4]; rfl
        · rw [List.mem_append] at hx
          rcases hx with hx | hx
          · exact z5 x hx
          · have e2 : x = 256 := by simpa using hx
            rw [e2]; decide
  · rw [if_neg c1] at e
    by_cases c2 : h p = 40 ∧ v < 4
    · rw [if_pos c2] at e
      obtain ⟨e0, n0, _⟩ := sh_e hs hp.1 (by omega)
      have st1 : cat s n p D W v g K true = cat s n (p + 1) D (40 :: W) (v + 1) g (iand K (ixor (ishl 1 (v + 1)) (-1))) true := by
        rw [cat_s n0, e0]
        unfold stc
        rw [if_pos rfl, if_neg c1, if_pos c2]
      have bk : ∀ i : Nat, (i : Int) ≤ 5 → bt (iand K (ixor (ishl 1 (v + 1)) (-1))) i = (bt K i && !decide (i = (v + 1).toNat)) := fun i hi => by
        rw [bt_and, bt_not _ (by omega), bt_shl (by omega) (by omega)]
      cases hrr : rH (p + 1) with
      | none => rw [hrr] at e; cases e
      | some r2 =>
        rw [hrr] at e
        have hh := hH c2.2 (p + 1) r2 hrr (by omega) (by omega) D (40 :: W) g (iand K (ixor (ishl 1 (v + 1)) (-1))) (low_c (by decide)) (by rw [bk _ (by omega), decide_eq_true rfl]; simp)
        obtain ⟨ok, q, c3⟩ := r2
        cases ok with
        | false =>
          cases e
          obtain ⟨y1, y2⟩ := hh
          exact ⟨by omega, st1.trans y2⟩
        | true =>
          dsimp only at e
          obtain ⟨z1, zl, D3, w3, g3, K3, z3, z4, z5, ⟨z6, z7⟩, _, z9, z10, z11⟩ := hh
          by_cases c4 : h q = 41
          · rw [if_pos c4] at e
            cases e
            obtain ⟨e1, n1, _⟩ := sh_e hs (p := q) (by omega) (by omega)
            have st2 : cat s n q D3 (w3 ++ (40 :: W)) (v + 1) g3 K3 false = cat s n (q + 1) (rlw D3 w3) W v 0 K3 false := by
              rw [cat_s n1, e1]
              unfold stc
              rw [if_neg (by decide), if_neg (by omega), if_pos ⟨c4, by omega⟩, rel_all (W := 40 :: W) (low_c (by decide)) w3 D3 z5]
              rw [show v + 1 - 1 = v by omega]
              rfl
            refine ⟨⟨by omega, by omega⟩, by omega, rlw D3 w3, [], 0, K3, ?_, ?_, (fun x hx => by cases hx), ⟨Or.inl rfl, fun i hi => ?_⟩, fun _ => ?_, fun h => by omega, fun h => by omega, fun h => by omega⟩
            · rw [st1, z3, st2]; rfl
            · exact z4
            · rw [z7 i (by omega), bk i (by omega), decide_eq_false (show ¬ i = (v + 1).toNat by omega)]; simp
            · rw [z7 v.toNat (by omega), bk v.toNat (by omega), decide_eq_false (show ¬ v.toNat = (v + 1).toNat by omega)]; simp
          · rw [if_neg c4] at e
            cases e
            refine ⟨by omega, st1.trans (z3.trans ?_)⟩
            by_cases cn : q = n
            · subst cn
              rw [cat_n, if_pos (Or.inr (by omega))]
            · rw [cat_s (by omega)]
              have en := (hs q (by omega)).2.1
              have s255 := (hs q (by omega)).2.2.1
              have nd : 48 ≤ s q ∧ s q ≤ 57 → g3 = 0 ∨ g3 = 3 := fun hd => by
                have := (en (s q) (by omega) (by omega)).mp rfl
                rcases z6 with z6 | z6 | z6
                · exact Or.inl z6
                · exact Or.inr z6
                · exact absurd (show dig (h q) from by unfold dig; omega) z6
              have n41 : ¬ (s q = 41 ∧ 0 < v + 1) := fun h => c4 ((en 41 (by decide) (by decide)).mp h.1)
              have nop : ¬ (48 ≤ s q ∧ s q ≤ 57) → stg (s q) = 0 ∨ (stg (s q) = 1 ∧ bt K3 (v + 1).toNat = true) := fun _ => by
                by_cases b42 : s q = 42
                · exact absurd (Or.inl ((en 42 (by decide) (by decide)).mp b42)) (z10 (by omega))
                · by_cases b47 : s q = 47
                  · exact absurd (Or.inr ((en 47 (by decide) (by decide)).mp b47)) (z10 (by omega))
                  · by_cases b43 : s q = 43
                    · exact absurd (Or.inl ((en 43 (by decide) (by decide)).mp b43)) (z11 (by omega))
                    · by_cases b45 : s q = 45
                      · exact absurd (Or.inr ((en 45 (by decide) (by decide)).mp b45)) (z11 (by omega))
                      · by_cases b60 : s q = 60 ∨ s q = 61 ∨ s q = 62
                        · have hb : bt K3 (v + 1).toNat = true := by
                            cases hbb : bt K3 (v + 1).toNat with
                            | true => rfl
                            | false =>
                              refine absurd ?_ (z9 rfl hbb)
                              rcases b60 with b | b | b
                              · exact Or.inl ((en 60 (by decide) (by decide)).mp b)
                              · exact Or.inr (Or.inr ((en 61 (by decide) (by decide)).mp b))
                              · exact Or.inr (Or.inl ((en 62 (by decide) (by decide)).mp b))
                          refine Or.inr ⟨?_, hb⟩
                          rcases b60 with b | b | b <;> rw [b] <;> decide
                        · refine Or.inl ?_
                          unfold stg
                          rw [if_neg b42, if_neg b43, if_neg b45, if_neg b47, if_neg (fun h => b60 (Or.inl h)), if_neg (fun h => b60 (Or.inr (Or.inl h))), if_neg (fun h => b60 (Or.inr (Or.inr h))), if_neg (by omega)]
              unfold stc
              rw [if_neg (by decide)]
              by_cases cd : 48 ≤ s q ∧ s q ≤ 57
              · rw [if_pos cd, if_pos (nd cd)]
              · rw [if_neg cd, if_neg n41, if_pos (nop cd)]
    · rw [if_neg c2] at e
      by_cases c3 : 48 ≤ h p ∧ h p ≤ 57
      · rw [if_pos c3] at e
        cases e
        exact thing_num hs hp.1 D W c3
      · rw [if_neg c3] at e
        by_cases c4 : h p = 105 ∨ h p = 112 ∨ h p = 107 ∨ h p = 115 ∨ h p = 103 ∨ h p = 108 ∨ h p = 110 ∨ h p = 119
        · rw [if_pos c4] at e
          cases e
          obtain ⟨e0, n0, _⟩ := sh_e hs hp.1 (by omega)
          refine ⟨⟨by omega, by omega⟩, by show ((1 : Nat) : Int) ≤ p + 1 - p; omega, -(h p) :: D, [], 0, K, ?_, rfl, (fun x hx => by cases hx), ⟨Or.inl rfl, fun _ _ => rfl⟩, fun _ => rfl, fun h => by omega, fun h => by omega, fun h => by omega⟩
          rw [cat_s n0, e0]
          unfold stc
          rw [if_pos rfl, if_neg c1, if_neg c2, if_neg c3, if_pos c4]
          rfl
        · rw [if_neg c4] at e
          cases e
          exact ⟨Int.le_refl _, no_thing hs hp D W c1 c2 c3 c4⟩
def lev (k : Nat) : Int := if k = 0 then 1 else if k = 1 then 2 else if k = 2 then 3 else 4
theorem pg_en {s h : Int → Int} {n : Int} (hs : SH s h n) : ∀ (d : Nat) (k : Nat) (v p : Int) (res : Bool × Int × List Int), k ≤ 3 → (0 ≤ v ∧ v ≤ 4) → pg h d k v p = some res → (0 ≤ p ∧ p ≤ n) → ∀ (D W : List Int) (g K : Int), (k ≤ 2 → low (lev k) W) → (k = 0 → bt K v.toNat = false) → RS1 s h n (lev k) k v p D W g K res := by
  intro d
  induction d with
  | zero => intro k v p res _ _ e; cases e
  | succ d ih =>
    intro k v p res hk hv e hp D W g K hW hK
    match k, hk with
    | 0, _ =>
      exact hd_en hs hv (r := pg h d 1 v) (fun p res e h0 h1 D W g K hl => ih 1 v p res (by omega) hv e ⟨h0, h1⟩ D W g K (fun _ => hl) (fun h => by omega)) e hp D W g K (hW (by omega)) (hK rfl)
    | 1, _ =>
      exact st_en hs hv (k := 1) (l := 2) (a := 43) (b := 45) (Or.inr ⟨rfl, rfl, rfl, rfl⟩) (r := pg h d 2 v) (fun p res e h0 h1 D W g K hl => ih 2 v p res (by omega) hv e ⟨h0, h1⟩ D W g K (fun _ => hl) (fun h => by omega)) e hp D W g K (hW (by omega))
    | 2, _ =>
      exact st_en hs hv (k := 2) (l := 3) (a := 42) (b := 47) (Or.inl ⟨rfl, rfl, rfl, rfl⟩) (r := pg h d 3 v) (fun p res e h0 h1 D W g K hl => ih 3 v p res (by omega) hv e ⟨h0, h1⟩ D W g K (fun h => by omega) (fun h => by omega)) e hp D W g K (hW (by omega))
    | 3, _ =>
      exact th_en hs hv (rT := pg h d 3 v) (rH := pg h d 0 (v + 1)) (fun p res e h0 h1 D W g K => ih 3 v p res (by omega) hv e ⟨h0, h1⟩ D W g K (fun h => by omega) (fun h => by omega)) (fun h4 p res e h0 h1 D W g K hl hb => ih 0 (v + 1) p res (by omega) (by omega) e ⟨h0, h1⟩ D W g K (fun _ => hl) (fun _ => hb)) e hp D W g K
/-- the whole text: both say the same, and what is to be done is the same -/
theorem pg_top {s h : Int → Int} {n : Int} (hs : SH s h n) (hn : 1 ≤ n) {ok : Bool} {q : Int} {c : List Int} (e : pg h 100 0 0 0 = some (ok, q, c)) : (ok = true ∧ q = n ∧ (c.length : Int) ≤ n ∧ cat s n 0 [] [] 0 0 0 true = (true, n, c)) ∨ (¬ (ok = true ∧ n ≤ q) ∧ q ≤ n ∧ 0 ≤ q ∧ cat s n 0 [] [] 0 0 0 true = (false, q, [])) := by
  have hh := pg_en hs 100 0 0 0 (ok, q, c) (by decide) (by decide) e ⟨by decide, by omega⟩ [] [] 0 0 (fun _ => fun x t e => by cases e) (fun _ => by decide)
  cases ok with
  | false =>
    obtain ⟨y1, y2⟩ := hh
    refine Or.inr ⟨(fun h => by cases h.1), ?_, y1, y2⟩
    -- the place of a fault is within the text
    have gen : ∀ (m : Nat) (D W : List Int) (d g K : Int) (wt : Bool) (q : Int) (x : List Int), cgo s n m D W d g K wt = (false, q, x) → q ≤ n := by
      intro m
      induction m with
      | zero =>
        intro D W d g K wt q x e
        rw [cgo] at e
        split at e
        · cases e; exact Int.le_refl _
        · cases e
      | succ m ih =>
        intro D W d g K wt q x e
        rw [cgo] at e
        split at e
        · cases e; omega
        · exact ih _ _ _ _ _ _ _ _ e
    exact gen _ _ _ _ _ _ _ _ _ y2
  | true =>
    obtain ⟨z1, zl, D3, w3, g3, K3, z3, z4, z5, ⟨z6, z7⟩, _, z9, z10, z11⟩ := hh
    rw [List.append_nil] at z3 z4
    by_cases cn : q = n
    · subst cn
      refine Or.inl ⟨rfl, rfl, by omega, ?_⟩
      rw [z3, cat_n, if_neg (fun h => h.elim (fun h => by cases h) (fun h => by omega))]
      have := rel_all (v := 1) (W := []) (fun x t e => by cases e) w3 D3 z5
      rw [List.append_nil] at this
      rw [this, z4]
    · refine Or.inr ⟨fun h => by omega, by omega, by omega, ?_⟩
      rw [z3, cat_s (by omega)]
      have en := (hs q (by omega)).2.1
      have s255 := (hs q (by omega)).2.2.1
      have nd : 48 ≤ s q ∧ s q ≤ 57 → g3 = 0 ∨ g3 = 3 := fun hd => by
        have := (en (s q) (by omega) (by omega)).mp rfl
        rcases z6 with z6 | z6 | z6
        · exact Or.inl z6
        · exact Or.inr z6
        · exact absurd (show dig (h q) from by unfold dig; omega) z6
      have n41 : ¬ (s q = 41 ∧ (0 : Int) < 0) := fun h => by omega
      have nop : ¬ (48 ≤ s q ∧ s q ≤ 57) → stg (s q) = 0 ∨ (stg (s q) = 1 ∧ bt K3 (0 : Int).toNat = true) := fun _ => by
        by_cases b42 : s q = 42
        · exact absurd (Or.inl ((en 42 (by decide) (by decide)).mp b42)) (z10 (by omega))
        · by_cases b47 : s q = 47
          · exact absurd (Or.inr ((en 47 (by decide) (by decide)).mp b47)) (z10 (by omega))
          · by_cases b43 : s q = 43
            · exact absurd (Or.inl ((en 43 (by decide) (by decide)).mp b43)) (z11 (by omega))
            · by_cases b45 : s q = 45
              · exact absurd (Or.inr ((en 45 (by decide) (by decide)).mp b45)) (z11 (by omega))
              · by_cases b60 : s q = 60 ∨ s q = 61 ∨ s q = 62
                · have hb : bt K3 (0 : Int).toNat = true := by
                    cases hbb : bt K3 (0 : Int).toNat with
                    | true => rfl
                    | false =>
                      refine absurd ?_ (z9 rfl hbb)
                      rcases b60 with b | b | b
                      · exact Or.inl ((en 60 (by decide) (by decide)).mp b)
                      · exact Or.inr (Or.inr ((en 61 (by decide) (by decide)).mp b))
                      · exact Or.inr (Or.inl ((en 62 (by decide) (by decide)).mp b))
                  refine Or.inr ⟨?_, hb⟩
                  rcases b60 with b | b | b <;> rw [b] <;> decide
                · refine Or.inl ?_
                  unfold stg
                  rw [if_neg b42, if_neg b43, if_neg b45, if_neg b47, if_neg (fun h => b60 (Or.inl h)), if_neg (fun h => b60 (Or.inr (Or.inl h))), if_neg (fun h => b60 (Or.inr (Or.inr h))), if_neg (by omega)]
      unfold stc
      rw [if_neg (by decide)]
      by_cases cd : 48 ≤ s q ∧ s q ≤ 57
      · rw [if_pos cd, if_pos (nd cd)]
      · rw [if_neg cd, if_neg n41, if_pos (nop cd)]
