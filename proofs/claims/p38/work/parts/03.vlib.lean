/-! THE WORLD AS NUMBERS: a cell and a place in it to an Int; and rows that walk the code beside a plain function of it -/
abbrev jv : Type := Nat × Int
abbrev Wd : Type := Nat → Nat → Int
def rfz (ad : Nat → Nat) (z : Int) : Option Nat := if z ≤ 0 then none else some (ad (z - 1).toNat)
/-- kinds: 0 an int, 1 a long, 2 a reference into the world (0: null, k + 1: the cell k), 3 any address -/
def jc (ad : Nat → Nat) (v : jv) : Value := match v.1 with
  | 0 => .int (Int32.ofInt v.2)
  | 1 => .long (Int64.ofInt v.2)
  | 2 => va_rf (rfz ad v.2)
  | _ => .ref v.2.toNat
def jo (v : jv) : Prop := match v.1 with
  | 0 => -2147483648 ≤ v.2 ∧ v.2 < 2147483648
  | 1 => -9223372036854775808 ≤ v.2 ∧ v.2 < 9223372036854775808
  | _ => 0 ≤ v.2
def jk (fk : Nat) : Nat := match fk with
  | 1 => 1
  | 2 => 2
  | 3 => 2
  | _ => 0
def sh (c : Nat) : Option ((Nat × List (Nat × Nat)) ⊕ (Nat × Nat × List Nat)) := shL[c]?
/-- the kind of a place -/
def jkA (c k : Nat) : Nat := match sh c with
  | some (.inl (_, fs)) => jk (fs.getD k (0, 0)).1
  | some (.inr (1, _, _)) => 1
  | some (.inr (2, _, _)) => 2
  | _ => 0
/-- what a place holds for good, behind the constructors -/
def jpt (c k : Nat) : Option Nat := match sh c with
  | some (.inl (_, fs)) => match fs[k]? with
    | some (3, z) => some z
    | _ => none
  | some (.inr (2, _, ps)) => ps[k]?
  | _ => none
def wok (w : Wd) : Prop := ∀ c k, jo (jkA c k, w c k)
def wpt (w : Wd) : Prop := ∀ c k z, jpt c k = some z → w c k = (z : Int)
def st (w : Wd) (c k : Nat) (z : Int) : Wd := fun c' k' => if c' = c ∧ k' = k then z else w c' k'
theorem st_eq (w : Wd) (c k : Nat) (z : Int) : st w c k z c k = z := by simp [st]
theorem st_c {w : Wd} {c k c' k' : Nat} {z : Int} (h : c' ≠ c) : st w c k z c' k' = w c' k' := by simp [st, h]
theorem st_k {w : Wd} {c k c' k' : Nat} {z : Int} (h : k' ≠ k) : st w c k z c' k' = w c' k' := by simp [st, h]
def jfs (ad : Nat → Nat) (w : Wd) (c : Nat) (fs : List (Nat × Nat)) : List Value := (List.range fs.length).map fun k => jc ad (jk (fs.getD k (0, 0)).1, w c k)
def jar (ad : Nat → Nat) (w : Wd) (c : Nat) (ak n : Nat) : vp_A := (n, match ak with
  | 1 => .inr (.inl fun k => Int64.ofInt (w c k))
  | 2 => .inr (.inr (.inr (.inr fun k => rfz ad (w c k))))
  | _ => .inl fun k => Int32.ofInt (w c k))
def jcell (ad : Nat → Nat) (cA : Nat → ClassId) (w : Wd) (c : Nat) : va_E := match sh c with
  | some (.inl (ci, fs)) => .inr (ci, jfs ad w c fs)
  | some (.inr (ak, n, _)) => .inl (cA ak, jar ad w c ak n)
  | none => .inr (0, [])
def wl (ad : Nat → Nat) (cA : Nat → ClassId) (w : Wd) (N : Nat) : va_W := (List.range N).map fun c => (ad c, jcell ad cA w c)
def jft (ak : Nat) : FieldType := match ak with
  | 0 => .int
  | 1 => .long
  | 2 => .object "EachBringsAnother$Kept"
  | 3 => .byte
  | 4 => .boolean
  | _ => .char
def jtys (cA : Nat → ClassId) : List (ClassId × FieldType) := (List.range 6).map fun k => (cA k, jft k)
theorem wl_at {ad : Nat → Nat} {cA : Nat → ClassId} {w : Wd} {N c : Nat} (h : c < N) : (wl ad cA w N)[c]? = some (ad c, jcell ad cA w c) := by
  simp [wl, h]
theorem jtys_at {cA : Nat → ClassId} {k : Nat} (h : k < 6) : (jtys cA)[k]? = some (cA k, jft k) := by
  simp [jtys, h]
theorem jfs_at {ad : Nat → Nat} {w : Wd} {c k : Nat} {fs : List (Nat × Nat)} {kd z : Nat} (h : fs[k]? = some (kd, z)) : (jfs ad w c fs)[k]? = some (jc ad (jk kd, w c k)) := by
  have hk : k < fs.length := (List.getElem?_eq_some_iff.mp h).1
  have e : fs[k] = (kd, z) := (List.getElem?_eq_some_iff.mp h).2
  simp [jfs, hk, List.getD_eq_getElem?_getD, e]
theorem jfs_len {ad : Nat → Nat} {w : Wd} {c : Nat} {fs : List (Nat × Nat)} : (jfs ad w c fs).length = fs.length := by simp [jfs]
theorem wl_set {ad : Nat → Nat} {cA : Nat → ClassId} {w w' : Wd} {N c : Nat} (h : c < N) (ho : ∀ c', c' ≠ c → w' c' = w c') {e : va_E} (he : e = jcell ad cA w' c) : (wl ad cA w N).set c (ad c, e) = wl ad cA w' N := by
  have hj : ∀ c', c' ≠ c → jcell ad cA w' c' = jcell ad cA w c' := by
    intro c' hc
    unfold jcell
    cases hsh : sh c' with
    | none => rfl
    | some q =>
      cases q with
      | inl q => obtain ⟨ci, fs⟩ := q; simp only [jfs, ho c' hc]
      | inr q => obtain ⟨ak, n, ps⟩ := q; simp only [jar, ho c' hc]
  apply List.ext_getElem?
  intro i
  by_cases hi : i = c
  · subst hi
    rw [List.getElem?_set_self (by simp [wl, h]), wl_at h, he]
  · rw [List.getElem?_set_ne (Ne.symm hi)]
    by_cases hl : i < N
    · rw [wl_at hl, wl_at hl, hj i hi]
    · simp [wl, hl]
def w32 (z : Int) : Int := z.bmod 4294967296
def w64 (z : Int) : Int := z.bmod 18446744073709551616
theorem i32_bmod (z : Int) : Int32.ofInt (w32 z) = Int32.ofInt z := by
  apply Int32.toInt_inj.mp
  rw [Int32.toInt_ofInt, Int32.toInt_ofInt]
  unfold w32
  exact Int.bmod_bmod
theorem i64_bmod (z : Int) : Int64.ofInt (w64 z) = Int64.ofInt z := by
  apply Int64.toInt_inj.mp
  rw [Int64.toInt_ofInt, Int64.toInt_ofInt]
  unfold w64
  exact Int.bmod_bmod
theorem w32_jo (z : Int) : jo (0, w32 z) := by
  show -2147483648 ≤ w32 z ∧ w32 z < 2147483648
  unfold w32
  have h1 := Int.le_bmod (x := z) (m := 4294967296) (by decide)
  have h2 := Int.bmod_lt (x := z) (m := 4294967296) (by decide)
  omega
theorem w64_jo (z : Int) : jo (1, w64 z) := by
  show -9223372036854775808 ≤ w64 z ∧ w64 z < 9223372036854775808
  unfold w64
  have h1 := Int.le_bmod (x := z) (m := 18446744073709551616) (by decide)
  have h2 := Int.bmod_lt (x := z) (m := 18446744073709551616) (by decide)
  omega
theorem i32_toInt {z : Int} (h : jo (0, z)) : (Int32.ofInt z).toInt = z := by
  have h' : -2147483648 ≤ z ∧ z < 2147483648 := h
  rw [Int32.toInt_ofInt]
  exact Int.bmod_eq_of_le (by simp [Int32.size]; omega) (by simp [Int32.size]; omega)
theorem i64_toInt {z : Int} (h : jo (1, z)) : (Int64.ofInt z).toInt = z := by
  have h' : -9223372036854775808 ≤ z ∧ z < 9223372036854775808 := h
  rw [Int64.toInt_ofInt]
  exact Int.bmod_eq_of_le (by simp [Int64.size]; omega) (by simp [Int64.size]; omega)
theorem jo_i (x : Int32) : jo (0, x.toInt) := by
  show -2147483648 ≤ x.toInt ∧ x.toInt < 2147483648
  have h1 := x.le_toInt
  have h2 := x.toInt_lt
  omega
theorem jo_l (x : Int64) : jo (1, x.toInt) := by
  show -9223372036854775808 ≤ x.toInt ∧ x.toInt < 9223372036854775808
  have h1 := x.le_toInt
  have h2 := x.toInt_lt
  omega
theorem i32_lt {x y : Int} (hx : jo (0, x)) (hy : jo (0, y)) : Int32.ofInt x < Int32.ofInt y ↔ x < y := by
  rw [Int32.lt_iff_toInt_lt, i32_toInt hx, i32_toInt hy]
theorem i32_le {x y : Int} (hx : jo (0, x)) (hy : jo (0, y)) : Int32.ofInt x ≤ Int32.ofInt y ↔ x ≤ y := by
  rw [Int32.le_iff_toInt_le, i32_toInt hx, i32_toInt hy]
theorem i32_eq {x y : Int} (hx : jo (0, x)) (hy : jo (0, y)) : Int32.ofInt x = Int32.ofInt y ↔ x = y := by
  rw [← Int32.toInt_inj, i32_toInt hx, i32_toInt hy]
theorem i64_lt {x y : Int} (hx : jo (1, x)) (hy : jo (1, y)) : Int64.ofInt x < Int64.ofInt y ↔ x < y := by
  rw [Int64.lt_iff_toInt_lt, i64_toInt hx, i64_toInt hy]
theorem i64_eq {x y : Int} (hx : jo (1, x)) (hy : jo (1, y)) : Int64.ofInt x = Int64.ofInt y ↔ x = y := by
  rw [← Int64.toInt_inj, i64_toInt hx, i64_toInt hy]

-- the numbers' operations
def iand (x y : Int) : Int := (Int32.ofInt x &&& Int32.ofInt y).toInt
def ior (x y : Int) : Int := (Int32.ofInt x ||| Int32.ofInt y).toInt
def ixor (x y : Int) : Int := (Int32.ofInt x ^^^ Int32.ofInt y).toInt
def ishl (x y : Int) : Int := (Int32.ofInt x <<< (Int32.ofInt y &&& 31)).toInt
def ishr (x y : Int) : Int := (Int32.ofInt x >>> (Int32.ofInt y &&& 31)).toInt
def iush (x y : Int) : Int := ((Int32.ofInt x).toUInt32 >>> ((Int32.ofInt y).toUInt32 &&& Int32.toUInt32 31)).toInt32.toInt
def idiv (x y : Int) : Int := (Int32.ofInt x / Int32.ofInt y).toInt
def irem (x y : Int) : Int := (Int32.ofInt x - Int32.ofInt x / Int32.ofInt y * Int32.ofInt y).toInt
def i2b (x : Int) : Int := (Int32.ofInt x).toInt8.toInt32.toInt
def i2s (x : Int) : Int := (Int32.ofInt x).toInt16.toInt32.toInt
def i2c (x : Int) : Int := ((Int32.ofInt x).toUInt32 % 65536).toInt32.toInt
def land (x y : Int) : Int := (Int64.ofInt x &&& Int64.ofInt y).toInt
def lor (x y : Int) : Int := (Int64.ofInt x ||| Int64.ofInt y).toInt
def lshl (x y : Int) : Int := (Int64.ofInt x <<< ((Int32.ofInt y).toInt64 &&& 63)).toInt
def lshr (x y : Int) : Int := (Int64.ofInt x >>> ((Int32.ofInt y).toInt64 &&& 63)).toInt
def lcmp (x y : Int) : Int := if y < x then 1 else if x = y then 0 else -1
def nb (x : Int) : Int := (vp_nar .byte (Int32.ofInt x)).toInt
def nc (x : Int) : Int := (vp_nar .char (Int32.ofInt x)).toInt
def nz (x : Int) : Int := (vp_nar .boolean (Int32.ofInt x)).toInt
theorem jz {z : Int} (h : (decide (-2147483648 ≤ z) && decide (z < 2147483648)) = true) : jo (0, z) := by
  simp only [Bool.and_eq_true, decide_eq_true_eq] at h
  exact h
theorem jz1 {z : Int} (h : (decide (-9223372036854775808 ≤ z) && decide (z < 9223372036854775808)) = true) : jo (1, z) := by
  simp only [Bool.and_eq_true, decide_eq_true_eq] at h
  exact h
theorem jo00 : jo (0, 0) := jz rfl
-- the walk's context
abbrev jX : Type := Program × Launch × Env × Room × State × MethodId × Array Value × List Frame × Method × Code × va_G × (Nat → ClassId) × (Nat → Prop) × Nat
def xp (X : jX) : Program := X.1
def xl (X : jX) : Launch := X.2.1
def xe (X : jX) : Env := X.2.2.1
def xR (X : jX) : Room := X.2.2.2.1
def xs (X : jX) : State := X.2.2.2.2.1
def xm (X : jX) : MethodId := X.2.2.2.2.2.1
def xa (X : jX) : Array Value := X.2.2.2.2.2.2.1
def xb (X : jX) : List Frame := X.2.2.2.2.2.2.2.1
def xM (X : jX) : Method := X.2.2.2.2.2.2.2.2.1
def xc (X : jX) : Code := X.2.2.2.2.2.2.2.2.2.1
def xD (X : jX) : va_G := X.2.2.2.2.2.2.2.2.2.2.1
def xC (X : jX) : Nat → ClassId := X.2.2.2.2.2.2.2.2.2.2.2.1
def xA (X : jX) : Nat → Prop := X.2.2.2.2.2.2.2.2.2.2.2.2.1
def xn (X : jX) : Nat := X.2.2.2.2.2.2.2.2.2.2.2.2.2
def jinj (ad : Nat → Nat) (N : Nat) (A : Nat → Prop) : Prop := (∀ i j, i < N → j < N → ad i = ad j → i = j) ∧ ∀ i, i < N → A (ad i)
def NW (U : State) : Prop := ∀ w ∈ nw_tbl, va_Nw w U
theorem NW.warm {s U : State} (hW : s.WarmedH U.vm) (h : NW s) : NW U := fun w hw => by
  have h1 := h w hw
  have h2 := (List.mem_filter.mp hw).2
  cases w <;> first | exact (Bool.false_ne_true h2).elim | exact va_Nw.warmF hW h1 | exact va_Nw.warmM hW h1 | exact va_Nw.warmC hW h1 | exact va_Nw.warmD hW h1 | cases h2
theorem NW.same {s U : State} (e : s.vm = U.vm) (h : NW s) : NW U := fun w hw => by
  have h1 := h w hw
  have h2 := (List.mem_filter.mp hw).2
  have h3 : w.onTables = true := by cases w <;> first | rfl | cases h2
  exact va_Nw.same h3 e h1
def Cx (X : jX) (cc : ByteArray) (own : String) : Prop :=
  (xp X).tables.exec = Jvm.exec ∧ (xc X).code = cc ∧ (xs X).vm.findClass own = some (xm X).cls ∧ (∀ w ∈ gw_tbl, w.before (xa X) (xs X) = true) ∧ va_K (xD X) cl (jtys (xC X)) (xs X) ∧ (xc X).maxLocals = xn X ∧ NW (xs X)
def jL (ad : Nat → Nat) (L : List (Nat × jv)) : List (Nat × Value) := L.map fun q => (q.1, jc ad q.2)
/-- from here (the world w, the locals L, the stack S) the machine does what the function g says -/
def VF (X : jX) (Qf : Int × Wd → State → Prop) (ad : Nat → Nat) (N k n : Nat) (w : Wd) (pc : Nat) (L : List (Nat × jv)) (S : List jv) (g : Option (Int × Wd)) : Prop :=
  ∀ o, g = some o → wok w → (N = NF → wpt w) → (∀ q ∈ L, jo q.2) → (∀ v ∈ S, jo v) → ∀ (H : Heap) (locs : List Loc) (ls : Array Slot),
    va_P (xD X) cl (wl ad (xC X) w N) H → va_S (xA X) (xs X).heap H locs → lv_has ls (xn X) (jL ad L) → jinj ad N (xA X) →
    W (xp X) (xl X) (xe X) (xR X) (xs X) (xm X) (xa X) (xb X) (xM X) (xc X) H locs k n (Qf o) (F0 (xm X) pc ls (S.map (jc ad)))
theorem al_c {α : Type} {P : α → Prop} {a : α} {l : List α} (h : P a) (t : ∀ x ∈ l, P x) : ∀ x ∈ a :: l, P x := fun x hx => by
  rcases List.mem_cons.mp hx with rfl | hx
  · exact h
  · exact t x hx
theorem al_t {α : Type} {P : α → Prop} {a : α} {l : List α} (t : ∀ x ∈ a :: l, P x) : ∀ x ∈ l, P x := fun x hx => t x (List.mem_cons_of_mem _ hx)
theorem al_h {α : Type} {P : α → Prop} {a : α} {l : List α} (t : ∀ x ∈ a :: l, P x) : P a := t a List.mem_cons_self
theorem jL_at {ad : Nat → Nat} {L : List (Nat × jv)} {i k : Nat} {v : jv} (h : L[i]? = some (k, v)) : (jL ad L)[i]? = some (k, jc ad v) := by
  simp [jL, h]
theorem jc_rf {ad : Nat → Nat} {c : Nat} : jc ad (2, ((c + 1 : Nat) : Int)) = .ref (ad c) := by
  have h : ¬ ((c + 1 : Nat) : Int) ≤ 0 := by omega
  have h2 : (((c + 1 : Nat) : Int) - 1).toNat = c := by omega
  show va_rf (rfz ad ((c + 1 : Nat) : Int)) = _
  unfold rfz
  rw [if_neg h, h2]
  rfl
theorem jc_cat (ad : Nat → Nat) (v : jv) : (jc ad v).category = if v.1 = 1 then 2 else 1 := by
  obtain ⟨k, z⟩ := v
  match k with
  | 0 => rfl
  | 1 => rfl
  | 2 => simp only [jc]; cases rfz ad z <;> rfl
  | k + 3 => rfl
