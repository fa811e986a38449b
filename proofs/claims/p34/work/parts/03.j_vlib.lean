section
/-! THE WORLD AS NUMBERS: a cell and a place in it to an Int; and rows that walk the code beside a plain function of it -/
abbrev jv : Type := Nat × Int
abbrev Wd : Type := Nat → Nat → Int
def rfz (ad : Nat → Nat) (z : Int) : Option Nat := if z ≤ 0 then none else some (ad (z - 1).toNat)
/-- kinds: 0 an int, 1 a long, 2 a reference into the world (0: null, k + 1: the cell k), 3 any address -/
def jc (ad : Nat → Nat) (v : jv) : Value := match v.1 with
  | 0 => .int (Int32.ofInt v.2)
  | 1 => .long (Int64.ofInt v.2)
  | 2 => va_rf (rfz ad v.2)
  | _ => .ref v.2.toNat
def jo (v : jv) : Prop := match v.1 with
  | 0 => -2147483648 ≤ v.2 ∧ v.2 < 2147483648
  | 1 => -9223372036854775808 ≤ v.2 ∧ v.2 < 9223372036854775808
  | _ => 0 ≤ v.2
def jk (fk : Nat) : Nat := match fk with
  | 1 => 1
  | 2 => 2
  | 3 => 2
  | _ => 0
def sh (c : Nat) : Option ((Nat × List (Nat × Nat)) ⊕ (Nat × Nat × List Nat)) := shL[c]?
/-- the kind of a place -/
def jkA (c k : Nat) : Nat := match sh c with
  | some (.inl (_, fs)) => jk (fs.getD k (0, 0)).1
  | some (.inr (1, _, _)) => 1
  | some (.inr (2, _, _)) => 2
  | _ => 0
/-- what a place holds for good, behind the constructors -/
def jpt (c k : Nat) : Option Nat := match sh c with
  | some (.inl (_, fs)) => match fs[k]? with
    | some (3, z) => some z
    | _ => none
  | some (.inr (2, _, ps)) => ps[k]?
  | _ => none
def wok (w : Wd) : Prop := ∀ c k, jo (jkA c k, w c k)
def wpt (w : Wd) : Prop := ∀ c k z, jpt c k = some z → w c k = (z : Int)
def st (w : Wd) (c k : Nat) (z : Int) : Wd := fun c' k' => if c' = c ∧ k' = k then z else w c' k'
theorem st_eq (w : Wd) (c k : Nat) (z : Int) : st w c k z c k = z := by simp [st]
theorem st_c {w : Wd} {c k c' k' : Nat} {z : Int} (h : c' ≠ c) : st w c k z c' k' = w c' k' := by simp [st, h]
theorem st_k {w : Wd} {c k c' k' : Nat} {z : Int} (h : k' ≠ k) : st w c k z c' k' = w c' k' := by simp [st, h]
def jfs (ad : Nat → Nat) (w : Wd) (c : Nat) (fs : List (Nat × Nat)) : List Value := (List.range fs.length).map fun k => jc ad (jk (fs.getD k (0, 0)).1, w c k)
def jar (ad : Nat → Nat) (w : Wd) (c : Nat) (ak n : Nat) : vp_A := (n, match ak with
  | 1 => .inr (.inl fun k => Int64.ofInt (w c k))
  | 2 => .inr (.inr (.inr (.inr fun k => rfz ad (w c k))))
  | _ => .inl fun k => Int32.ofInt (w c k))
def jcell (ad : Nat → Nat) (cA : Nat → ClassId) (w : Wd) (c : Nat) : va_E := match sh c with
  | some (.inl (ci, fs)) => .inr (ci, jfs ad w c fs)
  | some (.inr (ak, n, _)) => .inl (cA ak, jar ad w c ak n)
  | none => .inr (0, [])
def wl (ad : Nat → Nat) (cA : Nat → ClassId) (w : Wd) (N : Nat) : va_W := (List.range N).map fun c => (ad c, jcell ad cA w c)
def jft (ak : Nat) : FieldType := match ak with
  | 0 => .int
  | 1 => .long
  | 2 => .object "EachBringsAnother$Kept"
  | 3 => .byte
  | 4 => .boolean
  | _ => .char
def jtys (cA : Nat → ClassId) : List (ClassId × FieldType) := (List.range 6).map fun k => (cA k, jft k)
theorem wl_at {ad : Nat → Nat} {cA : Nat → ClassId} {w : Wd} {N c : Nat} (h : c < N) : (wl ad cA w N)[c]? = some (ad c, jcell ad cA w c) := by
  simp [wl, h]
theorem jtys_at {cA : Nat → ClassId} {k : Nat} (h : k < 6) : (jtys cA)[k]? = some (cA k, jft k) := by
  simp [jtys, h]
theorem jfs_at {ad : Nat → Nat} {w : Wd} {c k : Nat} {fs : List (Nat × Nat)} {kd z : Nat} (h : fs[k]? = some (kd, z)) : (jfs ad w c fs)[k]? = some (jc ad (jk kd, w c k)) := by
  have hk : k < fs.length := (List.getElem?_eq_some_iff.mp h).1
  have e : fs[k] = (kd, z) := (List.getElem?_eq_some_iff.mp h).2
  simp [jfs, hk, List.getD_eq_getElem?_getD, e]
theorem jfs_len {ad : Nat → Nat} {w : Wd} {c : Nat} {fs : List (Nat × Nat)} : (jfs ad w c fs).length = fs.length := by simp [jfs]
theorem wl_set {ad : Nat → Nat} {cA : Nat → ClassId} {w w' : Wd} {N c : Nat} (h : c < N) (ho : ∀ c', c' ≠ c → w' c' = w c') {e : va_E} (he : e = jcell ad cA w' c) : (wl ad cA w N).set c (ad c, e) = wl ad cA w' N := by
  have hj : ∀ c', c' ≠ c → jcell ad cA w' c' = jcell ad cA w c' := by
    intro c' hc
    unfold jcell
    cases hsh : sh c' with
    | none => rfl
    | some q =>
      cases q with
      | inl q => obtain ⟨ci, fs⟩ := q; simp only [jfs, ho c' hc]
      | inr q => obtain ⟨ak, n, ps⟩ := q; simp only [jar, ho c' hc]
  apply List.ext_getElem?
  intro i
  by_cases hi : i = c
  · subst hi
    rw [List.getElem?_set_self (by simp [wl, h]), wl_at h, he]
  · rw [List.getElem?_set_ne (Ne.symm hi)]
    by_cases hl : i < N
    · rw [wl_at hl, wl_at hl, hj i hi]
    · simp [wl, hl]
def w32 (z : Int) : Int := z.bmod 4294967296
def w64 (z : Int) : Int := z.bmod 18446744073709551616
theorem i32_bmod (z : Int) : Int32.ofInt (w32 z) = Int32.ofInt z := by
  apply Int32.toInt_inj.mp
  rw [Int32.toInt_ofInt, Int32.toInt_ofInt]
  unfold w32
  exact Int.bmod_bmod
theorem i64_bmod (z : Int) : Int64.ofInt (w64 z) = Int64.ofInt z := by
  apply Int64.toInt_inj.mp
  rw [Int64.toInt_ofInt, Int64.toInt_ofInt]
  unfold w64
  exact Int.bmod_bmod
theorem w32_jo (z : Int) : jo (0, w32 z) := by
  show -2147483648 ≤ w32 z ∧ w32 z < 2147483648
  unfold w32
  have h1 := Int.le_bmod (x := z) (m := 4294967296) (by decide)
  have h2 := Int.bmod_lt (x := z) (m := 4294967296) (by decide)
  omega
theorem w64_jo (z : Int) : jo (1, w64 z) := by
  show -9223372036854775808 ≤ w64 z ∧ w64 z < 9223372036854775808
  unfold w64
  have h1 := Int.le_bmod (x := z) (m := 18446744073709551616) (by decide)
  have h2 := Int.bmod_lt (x := z) (m := 18446744073709551616) (by decide)
  omega
theorem i32_toInt {z : Int} (h : jo (0, z)) : (Int32.ofInt z).toInt = z := by
  have h' : -2147483648 ≤ z ∧ z < 2147483648 := h
  rw [Int32.toInt_ofInt]
  exact Int.bmod_eq_of_le (by simp [Int32.size]; omega) (by simp [Int32.size]; omega)
theorem i64_toInt {z : Int} (h : jo (1, z)) : (Int64.ofInt z).toInt = z := by
  have h' : -9223372036854775808 ≤ z ∧ z < 9223372036854775808 := h
  rw [Int64.toInt_ofInt]
  exact Int.bmod_eq_of_le (by simp [Int64.size]; omega) (by simp [Int64.size]; omega)
theorem jo_i (x : Int32) : jo (0, x.toInt) := by
  show -2147483648 ≤ x.toInt ∧ x.toInt < 2147483648
  have h1 := x.le_toInt
  have h2 := x.toInt_lt
  omega
theorem jo_l (x : Int64) : jo (1, x.toInt) := by
  show -9223372036854775808 ≤ x.toInt ∧ x.toInt < 9223372036854775808
  have h1 := x.le_toInt
  have h2 := x.toInt_lt
  omega
theorem i32_lt {x y : Int} (hx : jo (0, x)) (hy : jo (0, y)) : Int32.ofInt x < Int32.ofInt y ↔ x < y := by
  rw [Int32.lt_iff_toInt_lt, i32_toInt hx, i32_toInt hy]
theorem i32_le {x y : Int} (hx : jo (0, x)) (hy : jo (0, y)) : Int32.ofInt x ≤ Int32.ofInt y ↔ x ≤ y := by
  rw [Int32.le_iff_toInt_le, i32_toInt hx, i32_toInt hy]
theorem i32_eq {x y : Int} (hx : jo (0, x)) (hy : jo (0, y)) : Int32.ofInt x = Int32.ofInt y ↔ x = y := by
  rw [← Int32.toInt_inj, i32_toInt hx, i32_toInt hy]
theorem i64_lt {x y : Int} (hx : jo (1, x)) (hy : jo (1, y)) : Int64.ofInt x < Int64.ofInt y ↔ x < y := by
  rw [Int64.lt_iff_toInt_lt, i64_toInt hx, i64_toInt hy]
theorem i64_eq {x y : Int} (hx : jo (1, x)) (hy : jo (1, y)) : Int64.ofInt x = Int64.ofInt y ↔ x = y := by
  rw [← Int64.toInt_inj, i64_toInt hx, i64_toInt hy]

-- the numbers' operations
def iand (x y : Int) : Int := (Int32.ofInt x &&& Int32.ofInt y).toInt
def ior (x y : Int) : Int := (Int32.ofInt x ||| Int32.ofInt y).toInt
def ixor (x y : Int) : Int := (Int32.ofInt x ^^^ Int32.ofInt y).toInt
def ishl (x y : Int) : Int := (Int32.ofInt x <<< (Int32.ofInt y &&& 31)).toInt
def ishr (x y : Int) : Int := (Int32.ofInt x >>> (Int32.ofInt y &&& 31)).toInt
def iush (x y : Int) : Int := ((Int32.ofInt x).toUInt32 >>> ((Int32.ofInt y).toUInt32 &&& Int32.toUInt32 31)).toInt32.toInt
def idiv (x y : Int) : Int := (Int32.ofInt x / Int32.ofInt y).toInt
def irem (x y : Int) : Int := (Int32.ofInt x - Int32.ofInt x / Int32.ofInt y * Int32.ofInt y).toInt
def i2b (x : Int) : Int := (Int32.ofInt x).toInt8.toInt32.toInt
def i2s (x : Int) : Int := (Int32.ofInt x).toInt16.toInt32.toInt
def i2c (x : Int) : Int := ((Int32.ofInt x).toUInt32 % 65536).toInt32.toInt
def land (x y : Int) : Int := (Int64.ofInt x &&& Int64.ofInt y).toInt
def lor (x y : Int) : Int := (Int64.ofInt x ||| Int64.ofInt y).toInt
def lshl (x y : Int) : Int := (Int64.ofInt x <<< ((Int32.ofInt y).toInt64 &&& 63)).toInt
def lshr (x y : Int) : Int := (Int64.ofInt x >>> ((Int32.ofInt y).toInt64 &&& 63)).toInt
def lcmp (x y : Int) : Int := if y < x then 1 else if x = y then 0 else -1
def nb (x : Int) : Int := (vp_nar .byte (Int32.ofInt x)).toInt
def nc (x : Int) : Int := (vp_nar .char (Int32.ofInt x)).toInt
def nz (x : Int) : Int := (vp_nar .boolean (Int32.ofInt x)).toInt
theorem jz {z : Int} (h : (decide (-2147483648 ≤ z) && decide (z < 2147483648)) = true) : jo (0, z) := by
  simp only [Bool.and_eq_true, decide_eq_true_eq] at h
  exact h
theorem jz1 {z : Int} (h : (decide (-9223372036854775808 ≤ z) && decide (z < 9223372036854775808)) = true) : jo (1, z) := by
  simp only [Bool.and_eq_true, decide_eq_true_eq] at h
  exact h
theorem jo00 : jo (0, 0) := jz rfl
-- the walk's context
abbrev jX : Type := Program × Launch × Env × Room × State × MethodId × Array Value × List Frame × Method × Code × va_G × (Nat → ClassId) × (Nat → Prop) × Nat
def xp (X : jX) : Program := X.1
def xl (X : jX) : Launch := X.2.1
def xe (X : jX) : Env := X.2.2.1
def xR (X : jX) : Room := X.2.2.2.1
def xs (X : jX) : State := X.2.2.2.2.1
def xm (X : jX) : MethodId := X.2.2.2.2.2.1
def xa (X : jX) : Array Value := X.2.2.2.2.2.2.1
def xb (X : jX) : List Frame := X.2.2.2.2.2.2.2.1
def xM (X : jX) : Method := X.2.2.2.2.2.2.2.2.1
def xc (X : jX) : Code := X.2.2.2.2.2.2.2.2.2.1
def xD (X : jX) : va_G := X.2.2.2.2.2.2.2.2.2.2.1
def xC (X : jX) : Nat → ClassId := X.2.2.2.2.2.2.2.2.2.2.2.1
def xA (X : jX) : Nat → Prop := X.2.2.2.2.2.2.2.2.2.2.2.2.1
def xn (X : jX) : Nat := X.2.2.2.2.2.2.2.2.2.2.2.2.2
def jinj (ad : Nat → Nat) (N : Nat) (A : Nat → Prop) : Prop := (∀ i j, i < N → j < N → ad i = ad j → i = j) ∧ ∀ i, i < N → A (ad i)
def NW (U : State) : Prop := ∀ w ∈ nw_tbl, va_Nw w U
theorem NW.warm {s U : State} (hW : s.WarmedH U.vm) (h : NW s) : NW U := fun w hw => by
  have h1 := h w hw
  have h2 := (List.mem_filter.mp hw).2
  cases w <;> first | exact (Bool.false_ne_true h2).elim | exact va_Nw.warmF hW h1 | exact va_Nw.warmM hW h1 | exact va_Nw.warmC hW h1 | exact va_Nw.warmD hW h1 | cases h2
theorem NW.same {s U : State} (e : s.vm = U.vm) (h : NW s) : NW U := fun w hw => by
  have h1 := h w hw
  have h2 := (List.mem_filter.mp hw).2
  have h3 : w.onTables = true := by cases w <;> first | rfl | cases h2
  exact va_Nw.same h3 e h1
def Cx (X : jX) (cc : ByteArray) (own : String) : Prop :=
  (xp X).tables.exec = Jvm.exec ∧ (xc X).code = cc ∧ (xs X).vm.findClass own = some (xm X).cls ∧ (∀ w ∈ gw_tbl, w.before (xa X) (xs X) = true) ∧ va_K (xD X) cl (jtys (xC X)) (xs X) ∧ (xc X).maxLocals = xn X ∧ NW (xs X)
def jL (ad : Nat → Nat) (L : List (Nat × jv)) : List (Nat × Value) := L.map fun q => (q.1, jc ad q.2)
/-- from here (the world w, the locals L, the stack S) the machine does what the function g says -/
def VF (X : jX) (Qf : Int × Wd → State → Prop) (ad : Nat → Nat) (N k n : Nat) (w : Wd) (pc : Nat) (L : List (Nat × jv)) (S : List jv) (g : Option (Int × Wd)) : Prop :=
  ∀ o, g = some o → wok w → (N = NF → wpt w) → (∀ q ∈ L, jo q.2) → (∀ v ∈ S, jo v) → ∀ (H : Heap) (locs : List Loc) (ls : Array Slot),
    va_P (xD X) cl (wl ad (xC X) w N) H → va_S (xA X) (xs X).heap H locs → lv_has ls (xn X) (jL ad L) → jinj ad N (xA X) →
    W (xp X) (xl X) (xe X) (xR X) (xs X) (xm X) (xa X) (xb X) (xM X) (xc X) H locs k n (Qf o) (F0 (xm X) pc ls (S.map (jc ad)))
theorem al_c {α : Type} {P : α → Prop} {a : α} {l : List α} (h : P a) (t : ∀ x ∈ l, P x) : ∀ x ∈ a :: l, P x := fun x hx => by
  rcases List.mem_cons.mp hx with rfl | hx
  · exact h
  · exact t x hx
theorem al_t {α : Type} {P : α → Prop} {a : α} {l : List α} (t : ∀ x ∈ a :: l, P x) : ∀ x ∈ l, P x := fun x hx => t x (List.mem_cons_of_mem _ hx)
theorem al_h {α : Type} {P : α → Prop} {a : α} {l : List α} (t : ∀ x ∈ a :: l, P x) : P a := t a List.mem_cons_self
theorem jL_at {ad : Nat → Nat} {L : List (Nat × jv)} {i k : Nat} {v : jv} (h : L[i]? = some (k, v)) : (jL ad L)[i]? = some (k, jc ad v) := by
  simp [jL, h]
theorem jc_rf {ad : Nat → Nat} {c : Nat} : jc ad (2, ((c + 1 : Nat) : Int)) = .ref (ad c) := by
  have h : ¬ ((c + 1 : Nat) : Int) ≤ 0 := by omega
  have h2 : (((c + 1 : Nat) : Int) - 1).toNat = c := by omega
  show va_rf (rfz ad ((c + 1 : Nat) : Int)) = _
  unfold rfz
  rw [if_neg h, h2]
  rfl
theorem jc_cat (ad : Nat → Nat) (v : jv) : (jc ad v).category = if v.1 = 1 then 2 else 1 := by
  obtain ⟨k, z⟩ := v
  match k with
  | 0 => rfl
  | 1 => rfl
  | 2 => simp only [jc]; cases rfz ad z <;> rfl
  | k + 3 => rfl
end
section
section
variable {X : jX} {cc : ByteArray} {own : String} {Qf : Int × Wd → State → Prop} {ad : Nat → Nat} {N k n pc : Nat} {w : Wd} {L : List (Nat × jv)} {S : List jv} {g : Option (Int × Wd)}
theorem vf_iconst (C : Cx X cc own) {z : Int} (d : decode cc pc = .ok (.iconst z, 1)) (hz : jo (0, z)) (kk : VF X Qf ad N k n w (pc + 1) L ((0, z) :: S) g) : VF X Qf ad N k n w pc L S g := by
  intro o ho hw hp hL hS H locs ls hP hV hl hI
  exact lv_iconst C.1 C.2.1 d rfl (kk o ho hw hp hL (al_c hz hS) H locs ls hP hV hl hI)
theorem vf_bipush (C : Cx X cc own) {z : Int} (d : decode cc pc = .ok (.bipush z, 2)) (hv : (Int8.ofInt z).toInt32 = Int32.ofInt z) (hz : jo (0, z)) (kk : VF X Qf ad N k n w (pc + 2) L ((0, z) :: S) g) : VF X Qf ad N k n w pc L S g := by
  intro o ho hw hp hL hS H locs ls hP hV hl hI
  exact lv_bipush C.1 C.2.1 d hv (kk o ho hw hp hL (al_c hz hS) H locs ls hP hV hl hI)
theorem vf_sipush (C : Cx X cc own) {z : Int} (d : decode cc pc = .ok (.sipush z, 3)) (hv : (Int16.ofInt z).toInt32 = Int32.ofInt z) (hz : jo (0, z)) (kk : VF X Qf ad N k n w (pc + 3) L ((0, z) :: S) g) : VF X Qf ad N k n w pc L S g := by
  intro o ho hw hp hL hS H locs ls hP hV hl hI
  exact lv_sipush C.1 C.2.1 d hv (kk o ho hw hp hL (al_c hz hS) H locs ls hP hV hl hI)
theorem vf_lconst (C : Cx X cc own) {z : Int} {f : Fin 2} (d : decode cc pc = .ok (.lconst f, 1)) (hv : Int64.ofNat (f : Nat) = Int64.ofInt z) (hz : jo (1, z)) (kk : VF X Qf ad N k n w (pc + 1) L ((1, z) :: S) g) : VF X Qf ad N k n w pc L S g := by
  intro o ho hw hp hL hS H locs ls hP hV hl hI
  exact lv_lconst C.1 C.2.1 d hv (kk o ho hw hp hL (al_c hz hS) H locs ls hP hV hl hI)
theorem vf_ldc (C : Cx X cc own) {z : Int} {i : Nat} (d : decode cc pc = .ok (.ldc i, 2)) {v : Int32} (hm : Cond.constant own i v ∈ gw_tbl) (hv : v = Int32.ofInt z) (hz : jo (0, z)) (kk : VF X Qf ad N k n w (pc + 2) L ((0, z) :: S) g) : VF X Qf ad N k n w pc L S g := by
  subst hv
  intro o ho hw hp hL hS H locs ls hP hV hl hI
  exact lv_ldc C.1 C.2.1 C.2.2.1 (C.2.2.2.1 _ hm) d (kk o ho hw hp hL (al_c hz hS) H locs ls hP hV hl hI)
theorem vf_ldcw (C : Cx X cc own) {z : Int} {i : Nat} (d : decode cc pc = .ok (.ldc_w i, 3)) {v : Int32} (hm : Cond.constant own i v ∈ gw_tbl) (hv : v = Int32.ofInt z) (hz : jo (0, z)) (kk : VF X Qf ad N k n w (pc + 3) L ((0, z) :: S) g) : VF X Qf ad N k n w pc L S g := by
  subst hv
  intro o ho hw hp hL hS H locs ls hP hV hl hI
  exact lv_ldcw C.1 C.2.1 C.2.2.1 (C.2.2.2.1 _ hm) d (kk o ho hw hp hL (al_c hz hS) H locs ls hP hV hl hI)
theorem vf_ldc2 (C : Cx X cc own) {z : Int} {i : Nat} (d : decode cc pc = .ok (.ldc2_w i, 3)) {v : Int64} (hm : Cond.constantLong own i v ∈ gw_tbl) (hv : v = Int64.ofInt z) (hz : jo (1, z)) (kk : VF X Qf ad N k n w (pc + 3) L ((1, z) :: S) g) : VF X Qf ad N k n w pc L S g := by
  subst hv
  intro o ho hw hp hL hS H locs ls hP hV hl hI
  exact lv_ldc2 C.1 C.2.1 C.2.2.1 (C.2.2.2.1 _ hm) d (kk o ho hw hp hL (al_c hz hS) H locs ls hP hV hl hI)
theorem vf_null (C : Cx X cc own) (d : decode cc pc = .ok (.aconst_null, 1)) (kk : VF X Qf ad N k n w (pc + 1) L ((2, 0) :: S) g) : VF X Qf ad N k n w pc L S g := by
  intro o ho hw hp hL hS H locs ls hP hV hl hI
  exact lv_null C.1 C.2.1 d (kk o ho hw hp hL (al_c (Int.le_refl 0) hS) H locs ls hP hV hl hI)
theorem vf_iload_n (C : Cx X cc own) {f : Fin 4} {i : Nat} {x : Int} (d : decode cc pc = .ok (.iload_n f, 1)) (j : Nat) (h : L[j]? = some (i, (0, x))) (hf : (f : Nat) = i) (kk : VF X Qf ad N k n w (pc + 1) L ((0, x) :: S) g) : VF X Qf ad N k n w pc L S g := by
  intro o ho hw hp hL hS H locs ls hP hV hl hI
  exact lv_iload_n C.1 C.2.1 d hf (lv_at hl j (jL_at h)) (kk o ho hw hp hL (al_c (hL _ (List.mem_of_getElem? h)) hS) H locs ls hP hV hl hI)
theorem vf_iload (C : Cx X cc own) {i : Nat} {x : Int} (d : decode cc pc = .ok (.iload i, 2)) (j : Nat) (h : L[j]? = some (i, (0, x))) (kk : VF X Qf ad N k n w (pc + 2) L ((0, x) :: S) g) : VF X Qf ad N k n w pc L S g := by
  intro o ho hw hp hL hS H locs ls hP hV hl hI
  exact lv_iload C.1 C.2.1 d (lv_at hl j (jL_at h)) (kk o ho hw hp hL (al_c (hL _ (List.mem_of_getElem? h)) hS) H locs ls hP hV hl hI)
theorem vf_lload_n (C : Cx X cc own) {f : Fin 4} {i : Nat} {x : Int} (d : decode cc pc = .ok (.lload_n f, 1)) (j : Nat) (h : L[j]? = some (i, (1, x))) (hf : (f : Nat) = i) (kk : VF X Qf ad N k n w (pc + 1) L ((1, x) :: S) g) : VF X Qf ad N k n w pc L S g := by
  intro o ho hw hp hL hS H locs ls hP hV hl hI
  exact lv_lload_n C.1 C.2.1 d hf (lv_at hl j (jL_at h)) (kk o ho hw hp hL (al_c (hL _ (List.mem_of_getElem? h)) hS) H locs ls hP hV hl hI)
theorem vf_lload (C : Cx X cc own) {i : Nat} {x : Int} (d : decode cc pc = .ok (.lload i, 2)) (j : Nat) (h : L[j]? = some (i, (1, x))) (kk : VF X Qf ad N k n w (pc + 2) L ((1, x) :: S) g) : VF X Qf ad N k n w pc L S g := by
  intro o ho hw hp hL hS H locs ls hP hV hl hI
  exact lv_lload C.1 C.2.1 d (lv_at hl j (jL_at h)) (kk o ho hw hp hL (al_c (hL _ (List.mem_of_getElem? h)) hS) H locs ls hP hV hl hI)
theorem vf_aload_n (C : Cx X cc own) {f : Fin 4} {i : Nat} {x : Int} (d : decode cc pc = .ok (.aload_n f, 1)) (j : Nat) (h : L[j]? = some (i, (2, x))) (hf : (f : Nat) = i) (kk : VF X Qf ad N k n w (pc + 1) L ((2, x) :: S) g) : VF X Qf ad N k n w pc L S g := by
  intro o ho hw hp hL hS H locs ls hP hV hl hI
  have hk := kk o ho hw hp hL (al_c (hL _ (List.mem_of_getElem? h)) hS) H locs ls hP hV hl hI
  have ha := lv_at hl j (jL_at h)
  simp only [List.map_cons, jc] at hk ha
  cases hr : rfz ad x with
  | none => rw [hr] at hk ha; exact lv_aload_nN C.1 C.2.1 d hf ha hk
  | some a => rw [hr] at hk ha; exact lv_aload_n C.1 C.2.1 d hf ha hk
theorem vf_aload (C : Cx X cc own) {i : Nat} {x : Int} (d : decode cc pc = .ok (.aload i, 2)) (j : Nat) (h : L[j]? = some (i, (2, x))) (kk : VF X Qf ad N k n w (pc + 2) L ((2, x) :: S) g) : VF X Qf ad N k n w pc L S g := by
  intro o ho hw hp hL hS H locs ls hP hV hl hI
  have hk := kk o ho hw hp hL (al_c (hL _ (List.mem_of_getElem? h)) hS) H locs ls hP hV hl hI
  have ha := lv_at hl j (jL_at h)
  simp only [List.map_cons, jc] at hk ha
  cases hr : rfz ad x with
  | none => rw [hr] at hk ha; exact lv_aloadN C.1 C.2.1 d ha hk
  | some a => rw [hr] at hk ha; exact lv_aload C.1 C.2.1 d ha hk
theorem vf_aload3_n (C : Cx X cc own) {f : Fin 4} {i : Nat} {x : Int} (d : decode cc pc = .ok (.aload_n f, 1)) (j : Nat) (h : L[j]? = some (i, (3, x))) (hf : (f : Nat) = i) (kk : VF X Qf ad N k n w (pc + 1) L ((3, x) :: S) g) : VF X Qf ad N k n w pc L S g := by
  intro o ho hw hp hL hS H locs ls hP hV hl hI
  exact lv_aload_n C.1 C.2.1 d hf (lv_at hl j (jL_at h)) (kk o ho hw hp hL (al_c (hL _ (List.mem_of_getElem? h)) hS) H locs ls hP hV hl hI)
def jrest (L : List (Nat × jv)) (i kd : Nat) (ps : List Nat) (L' : List (Nat × jv)) : Prop := L' = ps.filterMap (fun j => L[j]?) ∧ L'.all (fun q => !(q.1 == i) && !(q.1 + 1 == i && q.2.1 == 1) && !(kd == 1 && q.1 == i + 1)) = true
theorem jrest_lv {ad : Nat → Nat} {nL i : Nat} {L L' : List (Nat × jv)} {v : jv} {ps : List Nat} (h : jrest L i v.1 ps L') : jL ad ((i, v) :: L') = lv_pick ((i, jc ad v) :: (jL ad L).filter (fun q => if v.1 = 1 then !(q.1 == i) && (!(q.1 == i + 1) && !(q.1 + 1 == i && q.2.category == 2)) else !(q.1 == i) && !(q.1 + 1 == i && q.2.category == 2))) [] ++ jL ad ((i, v) :: L') := by
  simp [lv_pick]
theorem jrest_in {ad : Nat → Nat} {i : Nat} {L L' : List (Nat × jv)} {v : jv} {ps : List Nat} {F : List (Nat × Value)} (h : jrest L i v.1 ps L') (hF : F = (jL ad L).filter (fun q => if v.1 = 1 then !(q.1 == i) && (!(q.1 == i + 1) && !(q.1 + 1 == i && q.2.category == 2)) else !(q.1 == i) && !(q.1 + 1 == i && q.2.category == 2))) : ∀ q ∈ jL ad ((i, v) :: L'), q ∈ (i, jc ad v) :: F := by
  intro q hq
  rcases List.mem_map.mp hq with ⟨r, hr, rfl⟩
  rcases List.mem_cons.mp hr with rfl | hr
  · exact List.mem_cons_self
  · refine List.mem_cons_of_mem _ ?_
    rw [hF]
    have h2 := List.all_eq_true.mp h.2 r hr
    rw [h.1] at hr
    obtain ⟨j, -, hj⟩ := List.mem_filterMap.mp hr
    refine List.mem_filter.mpr ⟨List.mem_map.mpr ⟨r, List.mem_of_getElem? hj, rfl⟩, ?_⟩
    have hc : (jc ad r.2).category = if r.2.1 = 1 then 2 else 1 := jc_cat ad r.2
    simp only [Bool.and_eq_true, Bool.not_eq_true', Bool.and_eq_false_iff, beq_eq_false_iff_ne] at h2
    by_cases hv : v.1 = 1
    · by_cases hr1 : r.2.1 = 1 <;> simp_all
    · by_cases hr1 : r.2.1 = 1 <;> simp_all
theorem lv_sup {ls : Array Slot} {nL : Nat} {l l' : List (Nat × Value)} (h : lv_has ls nL l) (hl : ∀ q ∈ l', q ∈ l) : lv_has ls nL l' := ⟨h.1, h.2.1, fun q hq => h.2.2 q (hl q hq)⟩
theorem jrest_ok {L L' : List (Nat × jv)} {i kd : Nat} {ps : List Nat} (h : jrest L i kd ps L') (hL : ∀ q ∈ L, jo q.2) : ∀ q ∈ L', jo q.2 := fun q hq => by
  rw [h.1] at hq
  obtain ⟨j, -, hj⟩ := List.mem_filterMap.mp hq
  exact hL q (List.mem_of_getElem? hj)
theorem vf_istore_n (C : Cx X cc own) {f : Fin 4} {i nL : Nat} {x : Int} {L' : List (Nat × jv)} (d : decode cc pc = .ok (.istore_n f, 1)) (ps : List Nat) (h : jrest L i 0 ps L') (hn : xn X = nL) (hb : i < nL) (hf : (f : Nat) = i) (kk : VF X Qf ad N k n w (pc + 1) ((i, (0, x)) :: L') S g) : VF X Qf ad N k n w pc L ((0, x) :: S) g := by
  subst hn
  intro o ho hw hp hL hS H locs ls hP hV hl hI
  exact lv_istore_n C.1 C.2.1 d hf hl hb rfl fun ls' hl' => kk o ho hw hp (al_c (P := fun q : Nat × jv => jo q.2) (al_h hS) (jrest_ok h hL)) (al_t hS) H locs ls' hP hV (lv_sup hl' (jrest_in (v := (0, x)) h rfl)) hI
theorem vf_istore (C : Cx X cc own) {i nL : Nat} {x : Int} {L' : List (Nat × jv)} (d : decode cc pc = .ok (.istore i, 2)) (ps : List Nat) (h : jrest L i 0 ps L') (hn : xn X = nL) (hb : i < nL) (kk : VF X Qf ad N k n w (pc + 2) ((i, (0, x)) :: L') S g) : VF X Qf ad N k n w pc L ((0, x) :: S) g := by
  subst hn
  intro o ho hw hp hL hS H locs ls hP hV hl hI
  exact lv_istore C.1 C.2.1 d hl hb rfl fun ls' hl' => kk o ho hw hp (al_c (P := fun q : Nat × jv => jo q.2) (al_h hS) (jrest_ok h hL)) (al_t hS) H locs ls' hP hV (lv_sup hl' (jrest_in (v := (0, x)) h rfl)) hI
theorem vf_lstore_n (C : Cx X cc own) {f : Fin 4} {i nL : Nat} {x : Int} {L' : List (Nat × jv)} (d : decode cc pc = .ok (.lstore_n f, 1)) (ps : List Nat) (h : jrest L i 1 ps L') (hn : xn X = nL) (hb : i + 1 < nL) (hf : (f : Nat) = i) (kk : VF X Qf ad N k n w (pc + 1) ((i, (1, x)) :: L') S g) : VF X Qf ad N k n w pc L ((1, x) :: S) g := by
  subst hn
  intro o ho hw hp hL hS H locs ls hP hV hl hI
  exact lv_lstore_n C.1 C.2.1 d hf hl hb rfl fun ls' hl' => kk o ho hw hp (al_c (P := fun q : Nat × jv => jo q.2) (al_h hS) (jrest_ok h hL)) (al_t hS) H locs ls' hP hV (lv_sup hl' (jrest_in (v := (1, x)) h rfl)) hI
theorem vf_lstore (C : Cx X cc own) {i nL : Nat} {x : Int} {L' : List (Nat × jv)} (d : decode cc pc = .ok (.lstore i, 2)) (ps : List Nat) (h : jrest L i 1 ps L') (hn : xn X = nL) (hb : i + 1 < nL) (kk : VF X Qf ad N k n w (pc + 2) ((i, (1, x)) :: L') S g) : VF X Qf ad N k n w pc L ((1, x) :: S) g := by
  subst hn
  intro o ho hw hp hL hS H locs ls hP hV hl hI
  exact lv_lstore C.1 C.2.1 d hl hb rfl fun ls' hl' => kk o ho hw hp (al_c (P := fun q : Nat × jv => jo q.2) (al_h hS) (jrest_ok h hL)) (al_t hS) H locs ls' hP hV (lv_sup hl' (jrest_in (v := (1, x)) h rfl)) hI
theorem vf_astore (C : Cx X cc own) {i nL : Nat} {x : Int} {L' : List (Nat × jv)} (d : decode cc pc = .ok (.astore i, 2)) (ps : List Nat) (h : jrest L i 2 ps L') (hn : xn X = nL) (hb : i < nL) (kk : VF X Qf ad N k n w (pc + 2) ((i, (2, x)) :: L') S g) : VF X Qf ad N k n w pc L ((2, x) :: S) g := by
  subst hn
  intro o ho hw hp hL hS H locs ls hP hV hl hI
  have key : ∀ r, rfz ad x = r → W (xp X) (xl X) (xe X) (xR X) (xs X) (xm X) (xa X) (xb X) (xM X) (xc X) H locs k n (Qf o) (F0 (xm X) pc ls (va_rf r :: S.map (jc ad))) := by
    intro r hr
    cases r with
    | none => exact lv_astoreN C.1 C.2.1 d hl hb rfl fun ls' hl' => kk o ho hw hp (al_c (P := fun q : Nat × jv => jo q.2) (al_h hS) (jrest_ok h hL)) (al_t hS) H locs ls' hP hV (lv_sup hl' (fun q hq => by have := jrest_in (ad := ad) (v := (2, x)) h rfl q hq; simpa [jc, hr, va_rf] using this)) hI
    | some a => exact lv_astore C.1 C.2.1 d hl hb rfl fun ls' hl' => kk o ho hw hp (al_c (P := fun q : Nat × jv => jo q.2) (al_h hS) (jrest_ok h hL)) (al_t hS) H locs ls' hP hV (lv_sup hl' (fun q hq => by have := jrest_in (ad := ad) (v := (2, x)) h rfl q hq; simpa [jc, hr, va_rf] using this)) hI
  exact key _ rfl
theorem vf_iinc (C : Cx X cc own) {i nL : Nat} {z x : Int} {L' : List (Nat × jv)} (d : decode cc pc = .ok (.iinc i z, 3)) (j : Nat) (hj : L[j]? = some (i, (0, x))) (ps : List Nat) (h : jrest L i 0 ps L') (hn : xn X = nL) (hb : i < nL) (kk : VF X Qf ad N k n w (pc + 3) ((i, (0, w32 (x + z))) :: L') S g) : VF X Qf ad N k n w pc L S g := by
  subst hn
  intro o ho hw hp hL hS H locs ls hP hV hl hI
  exact lv_iinc (v := Int32.ofInt (w32 (x + z))) C.1 C.2.1 d hl (jL_at hj) (by rw [i32_bmod, Int32.ofInt_add]) hb rfl fun ls' hl' => kk o ho hw hp (al_c (P := fun q : Nat × jv => jo q.2) (w32_jo _) (jrest_ok h hL)) hS H locs ls' hP hV (lv_sup hl' (jrest_in (v := (0, w32 (x + z))) h rfl)) hI
theorem vf_iadd (C : Cx X cc own) {x y : Int} (d : decode cc pc = .ok (.iadd, 1)) (kk : VF X Qf ad N k n w (pc + 1) L ((0, w32 (x + y)) :: S) g) : VF X Qf ad N k n w pc L ((0, y) :: (0, x) :: S) g := by
  intro o ho hw hp hL hS H locs ls hP hV hl hI
  have e : Int32.ofInt x + Int32.ofInt y = Int32.ofInt (w32 (x + y)) := by rw [i32_bmod, Int32.ofInt_add]
  have hk := kk o ho hw hp hL (al_c (w32_jo _) (al_t (al_t hS))) H locs ls hP hV hl hI
  simp only [List.map_cons, jc] at hk ⊢
  rw [← e] at hk
  exact lv_iadd C.1 C.2.1 d hk
theorem vf_isub (C : Cx X cc own) {x y : Int} (d : decode cc pc = .ok (.isub, 1)) (kk : VF X Qf ad N k n w (pc + 1) L ((0, w32 (x - y)) :: S) g) : VF X Qf ad N k n w pc L ((0, y) :: (0, x) :: S) g := by
  intro o ho hw hp hL hS H locs ls hP hV hl hI
  have e : Int32.ofInt x - Int32.ofInt y = Int32.ofInt (w32 (x - y)) := by rw [i32_bmod, Int32.ofInt_sub]
  have hk := kk o ho hw hp hL (al_c (w32_jo _) (al_t (al_t hS))) H locs ls hP hV hl hI
  simp only [List.map_cons, jc] at hk ⊢
  rw [← e] at hk
  exact lv_isub C.1 C.2.1 d hk
theorem vf_imul (C : Cx X cc own) {x y : Int} (d : decode cc pc = .ok (.imul, 1)) (kk : VF X Qf ad N k n w (pc + 1) L ((0, w32 (x * y)) :: S) g) : VF X Qf ad N k n w pc L ((0, y) :: (0, x) :: S) g := by
  intro o ho hw hp hL hS H locs ls hP hV hl hI
  have e : Int32.ofInt x * Int32.ofInt y = Int32.ofInt (w32 (x * y)) := by rw [i32_bmod, Int32.ofInt_mul]
  have hk := kk o ho hw hp hL (al_c (w32_jo _) (al_t (al_t hS))) H locs ls hP hV hl hI
  simp only [List.map_cons, jc] at hk ⊢
  rw [← e] at hk
  exact lv_imul C.1 C.2.1 d hk
theorem vf_ladd (C : Cx X cc own) {x y : Int} (d : decode cc pc = .ok (.ladd, 1)) (kk : VF X Qf ad N k n w (pc + 1) L ((1, w64 (x + y)) :: S) g) : VF X Qf ad N k n w pc L ((1, y) :: (1, x) :: S) g := by
  intro o ho hw hp hL hS H locs ls hP hV hl hI
  have e : Int64.ofInt x + Int64.ofInt y = Int64.ofInt (w64 (x + y)) := by rw [i64_bmod, Int64.ofInt_add]
  have hk := kk o ho hw hp hL (al_c (w64_jo _) (al_t (al_t hS))) H locs ls hP hV hl hI
  simp only [List.map_cons, jc] at hk ⊢
  rw [← e] at hk
  exact lv_ladd C.1 C.2.1 d hk
theorem vf_lsub (C : Cx X cc own) {x y : Int} (d : decode cc pc = .ok (.lsub, 1)) (kk : VF X Qf ad N k n w (pc + 1) L ((1, w64 (x - y)) :: S) g) : VF X Qf ad N k n w pc L ((1, y) :: (1, x) :: S) g := by
  intro o ho hw hp hL hS H locs ls hP hV hl hI
  have e : Int64.ofInt x - Int64.ofInt y = Int64.ofInt (w64 (x - y)) := by rw [i64_bmod, Int64.ofInt_sub]
  have hk := kk o ho hw hp hL (al_c (w64_jo _) (al_t (al_t hS))) H locs ls hP hV hl hI
  simp only [List.map_cons, jc] at hk ⊢
  rw [← e] at hk
  exact lv_lsub C.1 C.2.1 d hk
theorem vf_lmul (C : Cx X cc own) {x y : Int} (d : decode cc pc = .ok (.lmul, 1)) (kk : VF X Qf ad N k n w (pc + 1) L ((1, w64 (x * y)) :: S) g) : VF X Qf ad N k n w pc L ((1, y) :: (1, x) :: S) g := by
  intro o ho hw hp hL hS H locs ls hP hV hl hI
  have e : Int64.ofInt x * Int64.ofInt y = Int64.ofInt (w64 (x * y)) := by rw [i64_bmod, Int64.ofInt_mul]
  have hk := kk o ho hw hp hL (al_c (w64_jo _) (al_t (al_t hS))) H locs ls hP hV hl hI
  simp only [List.map_cons, jc] at hk ⊢
  rw [← e] at hk
  exact lv_lmul C.1 C.2.1 d hk
theorem vf_iand (C : Cx X cc own) {x y : Int} (d : decode cc pc = .ok (.iand, 1)) (kk : VF X Qf ad N k n w (pc + 1) L ((0, iand x y) :: S) g) : VF X Qf ad N k n w pc L ((0, y) :: (0, x) :: S) g := by
  intro o ho hw hp hL hS H locs ls hP hV hl hI
  have e : Int32.ofInt x &&& Int32.ofInt y = Int32.ofInt (iand x y) := by rw [iand, Int32.ofInt_toInt]
  have hk := kk o ho hw hp hL (al_c (jo_i _) (al_t (al_t hS))) H locs ls hP hV hl hI
  simp only [List.map_cons, jc] at hk ⊢
  rw [← e] at hk
  exact lv_iand C.1 C.2.1 d hk
theorem vf_ior (C : Cx X cc own) {x y : Int} (d : decode cc pc = .ok (.ior, 1)) (kk : VF X Qf ad N k n w (pc + 1) L ((0, ior x y) :: S) g) : VF X Qf ad N k n w pc L ((0, y) :: (0, x) :: S) g := by
  intro o ho hw hp hL hS H locs ls hP hV hl hI
  have e : Int32.ofInt x ||| Int32.ofInt y = Int32.ofInt (ior x y) := by rw [ior, Int32.ofInt_toInt]
  have hk := kk o ho hw hp hL (al_c (jo_i _) (al_t (al_t hS))) H locs ls hP hV hl hI
  simp only [List.map_cons, jc] at hk ⊢
  rw [← e] at hk
  exact lv_ior C.1 C.2.1 d hk
theorem vf_ixor (C : Cx X cc own) {x y : Int} (d : decode cc pc = .ok (.ixor, 1)) (kk : VF X Qf ad N k n w (pc + 1) L ((0, ixor x y) :: S) g) : VF X Qf ad N k n w pc L ((0, y) :: (0, x) :: S) g := by
  intro o ho hw hp hL hS H locs ls hP hV hl hI
  have e : Int32.ofInt x ^^^ Int32.ofInt y = Int32.ofInt (ixor x y) := by rw [ixor, Int32.ofInt_toInt]
  have hk := kk o ho hw hp hL (al_c (jo_i _) (al_t (al_t hS))) H locs ls hP hV hl hI
  simp only [List.map_cons, jc] at hk ⊢
  rw [← e] at hk
  exact lv_ixor C.1 C.2.1 d hk
theorem vf_land (C : Cx X cc own) {x y : Int} (d : decode cc pc = .ok (.land, 1)) (kk : VF X Qf ad N k n w (pc + 1) L ((1, land x y) :: S) g) : VF X Qf ad N k n w pc L ((1, y) :: (1, x) :: S) g := by
  intro o ho hw hp hL hS H locs ls hP hV hl hI
  have e : Int64.ofInt x &&& Int64.ofInt y = Int64.ofInt (land x y) := by rw [land, Int64.ofInt_toInt]
  have hk := kk o ho hw hp hL (al_c (jo_l _) (al_t (al_t hS))) H locs ls hP hV hl hI
  simp only [List.map_cons, jc] at hk ⊢
  rw [← e] at hk
  exact lv_land C.1 C.2.1 d hk
theorem vf_lor (C : Cx X cc own) {x y : Int} (d : decode cc pc = .ok (.lor, 1)) (kk : VF X Qf ad N k n w (pc + 1) L ((1, lor x y) :: S) g) : VF X Qf ad N k n w pc L ((1, y) :: (1, x) :: S) g := by
  intro o ho hw hp hL hS H locs ls hP hV hl hI
  have e : Int64.ofInt x ||| Int64.ofInt y = Int64.ofInt (lor x y) := by rw [lor, Int64.ofInt_toInt]
  have hk := kk o ho hw hp hL (al_c (jo_l _) (al_t (al_t hS))) H locs ls hP hV hl hI
  simp only [List.map_cons, jc] at hk ⊢
  rw [← e] at hk
  exact lv_lor C.1 C.2.1 d hk
theorem vf_ishl (C : Cx X cc own) {x y : Int} (d : decode cc pc = .ok (.ishl, 1)) (kk : VF X Qf ad N k n w (pc + 1) L ((0, ishl x y) :: S) g) : VF X Qf ad N k n w pc L ((0, y) :: (0, x) :: S) g := by
  intro o ho hw hp hL hS H locs ls hP hV hl hI
  have e : Int32.ofInt x <<< (Int32.ofInt y &&& 31) = Int32.ofInt (ishl x y) := by rw [ishl, Int32.ofInt_toInt]
  have hk := kk o ho hw hp hL (al_c (jo_i _) (al_t (al_t hS))) H locs ls hP hV hl hI
  simp only [List.map_cons, jc] at hk ⊢
  rw [← e] at hk
  exact lv_ishl C.1 C.2.1 d hk
theorem vf_ishr (C : Cx X cc own) {x y : Int} (d : decode cc pc = .ok (.ishr, 1)) (kk : VF X Qf ad N k n w (pc + 1) L ((0, ishr x y) :: S) g) : VF X Qf ad N k n w pc L ((0, y) :: (0, x) :: S) g := by
  intro o ho hw hp hL hS H locs ls hP hV hl hI
  have e : Int32.ofInt x >>> (Int32.ofInt y &&& 31) = Int32.ofInt (ishr x y) := by rw [ishr, Int32.ofInt_toInt]
  have hk := kk o ho hw hp hL (al_c (jo_i _) (al_t (al_t hS))) H locs ls hP hV hl hI
  simp only [List.map_cons, jc] at hk ⊢
  rw [← e] at hk
  exact lv_ishr C.1 C.2.1 d hk
theorem vf_iushr (C : Cx X cc own) {x y : Int} (d : decode cc pc = .ok (.iushr, 1)) (kk : VF X Qf ad N k n w (pc + 1) L ((0, iush x y) :: S) g) : VF X Qf ad N k n w pc L ((0, y) :: (0, x) :: S) g := by
  intro o ho hw hp hL hS H locs ls hP hV hl hI
  have e : ((Int32.ofInt x).toUInt32 >>> ((Int32.ofInt y).toUInt32 &&& Int32.toUInt32 31)).toInt32 = Int32.ofInt (iush x y) := by rw [iush, Int32.ofInt_toInt]
  have hk := kk o ho hw hp hL (al_c (jo_i _) (al_t (al_t hS))) H locs ls hP hV hl hI
  simp only [List.map_cons, jc] at hk ⊢
  rw [← e] at hk
  exact lv_iushr C.1 C.2.1 d rfl hk
theorem vf_lshl (C : Cx X cc own) {x y : Int} (d : decode cc pc = .ok (.lshl, 1)) (kk : VF X Qf ad N k n w (pc + 1) L ((1, lshl x y) :: S) g) : VF X Qf ad N k n w pc L ((0, y) :: (1, x) :: S) g := by
  intro o ho hw hp hL hS H locs ls hP hV hl hI
  have e : Int64.ofInt x <<< ((Int32.ofInt y).toInt64 &&& 63) = Int64.ofInt (lshl x y) := by rw [lshl, Int64.ofInt_toInt]
  have hk := kk o ho hw hp hL (al_c (jo_l _) (al_t (al_t hS))) H locs ls hP hV hl hI
  simp only [List.map_cons, jc] at hk ⊢
  rw [← e] at hk
  exact lv_lshl C.1 C.2.1 d rfl hk
theorem vf_lshr (C : Cx X cc own) {x y : Int} (d : decode cc pc = .ok (.lshr, 1)) (kk : VF X Qf ad N k n w (pc + 1) L ((1, lshr x y) :: S) g) : VF X Qf ad N k n w pc L ((0, y) :: (1, x) :: S) g := by
  intro o ho hw hp hL hS H locs ls hP hV hl hI
  have e : Int64.ofInt x >>> ((Int32.ofInt y).toInt64 &&& 63) = Int64.ofInt (lshr x y) := by rw [lshr, Int64.ofInt_toInt]
  have hk := kk o ho hw hp hL (al_c (jo_l _) (al_t (al_t hS))) H locs ls hP hV hl hI
  simp only [List.map_cons, jc] at hk ⊢
  rw [← e] at hk
  exact lv_lshr C.1 C.2.1 d rfl hk
theorem vf_idiv (C : Cx X cc own) {x y : Int} {g1 : Option (Int × Wd)} (d : decode cc pc = .ok (.idiv, 1)) (kk : VF X Qf ad N k n w (pc + 1) L ((0, idiv x y) :: S) g1) : VF X Qf ad N k n w pc L ((0, y) :: (0, x) :: S) (if y = 0 then none else g1) := by
  intro o ho hw hp hL hS H locs ls hP hV hl hI
  by_cases hy : y = 0
  · rw [if_pos hy] at ho; cases ho
  rw [if_neg hy] at ho
  have hy0 : ¬ Int32.ofInt y = 0 := fun q => hy ((i32_eq (al_h hS) jo00).mp q)
  have e : Int32.ofInt x / Int32.ofInt y = Int32.ofInt (idiv x y) := by rw [idiv, Int32.ofInt_toInt]
  have hk := kk o ho hw hp hL (al_c (jo_i _) (al_t (al_t hS))) H locs ls hP hV hl hI
  simp only [List.map_cons, jc] at hk ⊢
  rw [← e] at hk
  exact lv_idiv C.1 C.2.1 d hy0 hk
theorem vf_irem (C : Cx X cc own) {x y : Int} {g1 : Option (Int × Wd)} (d : decode cc pc = .ok (.irem, 1)) (kk : VF X Qf ad N k n w (pc + 1) L ((0, irem x y) :: S) g1) : VF X Qf ad N k n w pc L ((0, y) :: (0, x) :: S) (if y = 0 then none else g1) := by
  intro o ho hw hp hL hS H locs ls hP hV hl hI
  by_cases hy : y = 0
  · rw [if_pos hy] at ho; cases ho
  rw [if_neg hy] at ho
  have hy0 : ¬ Int32.ofInt y = 0 := fun q => hy ((i32_eq (al_h hS) jo00).mp q)
  have e : Int32.ofInt x - Int32.ofInt x / Int32.ofInt y * Int32.ofInt y = Int32.ofInt (irem x y) := by rw [irem, Int32.ofInt_toInt]
  have hk := kk o ho hw hp hL (al_c (jo_i _) (al_t (al_t hS))) H locs ls hP hV hl hI
  simp only [List.map_cons, jc] at hk ⊢
  rw [← e] at hk
  exact lv_irem C.1 C.2.1 d hy0 hk
theorem vf_ineg (C : Cx X cc own) {x : Int} (d : decode cc pc = .ok (.ineg, 1)) (kk : VF X Qf ad N k n w (pc + 1) L ((0, w32 (-x)) :: S) g) : VF X Qf ad N k n w pc L ((0, x) :: S) g := by
  intro o ho hw hp hL hS H locs ls hP hV hl hI
  have e : -Int32.ofInt x = Int32.ofInt (w32 (-x)) := by rw [i32_bmod, Int32.ofInt_neg]
  have hk := kk o ho hw hp hL (al_c (w32_jo _) (al_t hS)) H locs ls hP hV hl hI
  simp only [List.map_cons, jc] at hk ⊢
  rw [← e] at hk
  exact lv_ineg C.1 C.2.1 d hk
theorem vf_lneg (C : Cx X cc own) {x : Int} (d : decode cc pc = .ok (.lneg, 1)) (kk : VF X Qf ad N k n w (pc + 1) L ((1, w64 (-x)) :: S) g) : VF X Qf ad N k n w pc L ((1, x) :: S) g := by
  intro o ho hw hp hL hS H locs ls hP hV hl hI
  have e : -Int64.ofInt x = Int64.ofInt (w64 (-x)) := by rw [i64_bmod, Int64.ofInt_neg]
  have hk := kk o ho hw hp hL (al_c (w64_jo _) (al_t hS)) H locs ls hP hV hl hI
  simp only [List.map_cons, jc] at hk ⊢
  rw [← e] at hk
  exact lv_lneg C.1 C.2.1 d hk
theorem vf_i2b (C : Cx X cc own) {x : Int} (d : decode cc pc = .ok (.i2b, 1)) (kk : VF X Qf ad N k n w (pc + 1) L ((0, i2b x) :: S) g) : VF X Qf ad N k n w pc L ((0, x) :: S) g := by
  intro o ho hw hp hL hS H locs ls hP hV hl hI
  have e : (Int32.ofInt x).toInt8.toInt32 = Int32.ofInt (i2b x) := by rw [i2b, Int32.ofInt_toInt]
  have hk := kk o ho hw hp hL (al_c (jo_i _) (al_t hS)) H locs ls hP hV hl hI
  simp only [List.map_cons, jc] at hk ⊢
  rw [← e] at hk
  exact lv_i2b C.1 C.2.1 d rfl hk
theorem vf_i2s (C : Cx X cc own) {x : Int} (d : decode cc pc = .ok (.i2s, 1)) (kk : VF X Qf ad N k n w (pc + 1) L ((0, i2s x) :: S) g) : VF X Qf ad N k n w pc L ((0, x) :: S) g := by
  intro o ho hw hp hL hS H locs ls hP hV hl hI
  have e : (Int32.ofInt x).toInt16.toInt32 = Int32.ofInt (i2s x) := by rw [i2s, Int32.ofInt_toInt]
  have hk := kk o ho hw hp hL (al_c (jo_i _) (al_t hS)) H locs ls hP hV hl hI
  simp only [List.map_cons, jc] at hk ⊢
  rw [← e] at hk
  exact lv_i2s C.1 C.2.1 d rfl hk
theorem vf_i2c (C : Cx X cc own) {x : Int} (d : decode cc pc = .ok (.i2c, 1)) (kk : VF X Qf ad N k n w (pc + 1) L ((0, i2c x) :: S) g) : VF X Qf ad N k n w pc L ((0, x) :: S) g := by
  intro o ho hw hp hL hS H locs ls hP hV hl hI
  have e : ((Int32.ofInt x).toUInt32 % 65536).toInt32 = Int32.ofInt (i2c x) := by rw [i2c, Int32.ofInt_toInt]
  have hk := kk o ho hw hp hL (al_c (jo_i _) (al_t hS)) H locs ls hP hV hl hI
  simp only [List.map_cons, jc] at hk ⊢
  rw [← e] at hk
  exact lv_i2c C.1 C.2.1 d rfl hk
theorem i2l_eq {x : Int} (h : jo (0, x)) : (Int32.ofInt x).toInt64 = Int64.ofInt x := by
  have h' : -2147483648 ≤ x ∧ x < 2147483648 := h
  apply Int64.toInt_inj.mp
  have h2 : jo (1, x) := ⟨by omega, by omega⟩
  rw [Int32.toInt_toInt64, i32_toInt h, i64_toInt h2]
theorem vf_i2l (C : Cx X cc own) {x : Int} (d : decode cc pc = .ok (.i2l, 1)) (kk : VF X Qf ad N k n w (pc + 1) L ((1, x) :: S) g) : VF X Qf ad N k n w pc L ((0, x) :: S) g := by
  intro o ho hw hp hL hS H locs ls hP hV hl hI
  have h0 : jo (0, x) := al_h hS
  have h' : -2147483648 ≤ x ∧ x < 2147483648 := h0
  have h2 : jo (1, x) := ⟨by omega, by omega⟩
  exact lv_i2l C.1 C.2.1 d (i2l_eq h0) (kk o ho hw hp hL (al_c h2 (al_t hS)) H locs ls hP hV hl hI)
theorem vf_lcmp (C : Cx X cc own) {x y : Int} (d : decode cc pc = .ok (.lcmp, 1)) (kk : VF X Qf ad N k n w (pc + 1) L ((0, lcmp x y) :: S) g) : VF X Qf ad N k n w pc L ((1, y) :: (1, x) :: S) g := by
  intro o ho hw hp hL hS H locs ls hP hV hl hI
  have hy : jo (1, y) := al_h hS
  have hx : jo (1, x) := al_h (al_t hS)
  have e : lg_cmp (Int64.ofInt x) (Int64.ofInt y) = Int32.ofInt (lcmp x y) := by
    unfold lg_cmp lcmp
    by_cases h1 : y < x
    · rw [if_pos ((i64_lt hy hx).mpr h1), if_pos h1]; rfl
    · rw [if_neg (fun q => h1 ((i64_lt hy hx).mp q)), if_neg h1]
      by_cases h2 : x = y
      · rw [if_pos ((i64_eq hx hy).mpr h2), if_pos h2]; rfl
      · rw [if_neg (fun q => h2 ((i64_eq hx hy).mp q)), if_neg h2]; rfl
  have hj : jo (0, lcmp x y) := by
    show -2147483648 ≤ lcmp x y ∧ lcmp x y < 2147483648
    unfold lcmp
    repeat' split
    all_goals omega
  have hk := kk o ho hw hp hL (al_c hj (al_t (al_t hS))) H locs ls hP hV hl hI
  simp only [List.map_cons, jc] at hk ⊢
  rw [← e] at hk
  exact W.lcmp C.1 C.2.1 d hk
theorem jc_cat1 {ad : Nat → Nat} {v : jv} (h : v.1 ≠ 1) : (jc ad v).category = 1 := by rw [jc_cat, if_neg h]
theorem vf_dup (C : Cx X cc own) {v : jv} (d : decode cc pc = .ok (.dup, 1)) (hv : v.1 ≠ 1) (kk : VF X Qf ad N k n w (pc + 1) L (v :: v :: S) g) : VF X Qf ad N k n w pc L (v :: S) g := by
  intro o ho hw hp hL hS H locs ls hP hV hl hI
  exact lv_dup C.1 C.2.1 d (jc_cat1 hv) (kk o ho hw hp hL (al_c (al_h hS) hS) H locs ls hP hV hl hI)
theorem vf_pop (C : Cx X cc own) {v : jv} (d : decode cc pc = .ok (.pop, 1)) (hv : v.1 ≠ 1) (kk : VF X Qf ad N k n w (pc + 1) L S g) : VF X Qf ad N k n w pc L (v :: S) g := by
  intro o ho hw hp hL hS H locs ls hP hV hl hI
  exact lv_pop C.1 C.2.1 d (jc_cat1 hv) (kk o ho hw hp hL (al_t hS) H locs ls hP hV hl hI)
theorem vf_dup2 (C : Cx X cc own) {v u : jv} (d : decode cc pc = .ok (.dup2, 1)) (hv : v.1 ≠ 1) (hu : u.1 ≠ 1) (kk : VF X Qf ad N k n w (pc + 1) L (v :: u :: v :: u :: S) g) : VF X Qf ad N k n w pc L (v :: u :: S) g := by
  intro o ho hw hp hL hS H locs ls hP hV hl hI
  exact lv_dup2_11 C.1 C.2.1 d (jc_cat1 hv) (jc_cat1 hu) (kk o ho hw hp hL (al_c (al_h hS) (al_c (al_h (al_t hS)) hS)) H locs ls hP hV hl hI)
theorem vf_dup_x1 (C : Cx X cc own) {v u : jv} (d : decode cc pc = .ok (.dup_x1, 1)) (hv : v.1 ≠ 1) (hu : u.1 ≠ 1) (kk : VF X Qf ad N k n w (pc + 1) L (v :: u :: v :: S) g) : VF X Qf ad N k n w pc L (v :: u :: S) g := by
  intro o ho hw hp hL hS H locs ls hP hV hl hI
  exact lv_dup_x1 C.1 C.2.1 d (jc_cat1 hv) (jc_cat1 hu) (kk o ho hw hp hL (al_c (al_h hS) (al_c (al_h (al_t hS)) (al_c (al_h hS) (al_t (al_t hS))))) H locs ls hP hV hl hI)
theorem vf_icmp_eq (C : Cx X cc own) {x y : Int} {off : Int} {tgt : Nat} {g1 g2 : Option (Int × Wd)} (d : decode cc pc = .ok (.if_icmp .eq off, 3)) (ht : (pc : Int) + off = (tgt : Int)) (kt : VF X Qf ad N k n w tgt L S g1) (kf : VF X Qf ad N k n w (pc + 3) L S g2) : VF X Qf ad N k n w pc L ((0, y) :: (0, x) :: S) (if x = y then g1 else g2) := by
  intro o ho hw hp hL hS H locs ls hP hV hl hI
  have hy : jo (0, y) := al_h hS
  have hx : jo (0, x) := al_h (al_t hS)
  have he : (Int32.ofInt x = Int32.ofInt y ↔ x = y) := i32_eq hx hy
  refine lv_icmp_eq C.1 C.2.1 d ht (fun h => ?_) (fun h => ?_)
  · have h2 : x = y := he.mp h
    rw [if_pos h2] at ho
    exact kt o ho hw hp hL (al_t (al_t hS)) H locs ls hP hV hl hI
  · have h2 : ¬ (x = y) := fun q => h (he.mpr q)
    rw [if_neg h2] at ho
    exact kf o ho hw hp hL (al_t (al_t hS)) H locs ls hP hV hl hI
theorem vf_if_eq (C : Cx X cc own) {x : Int} {off : Int} {tgt : Nat} {g1 g2 : Option (Int × Wd)} (d : decode cc pc = .ok (.ifCond .eq off, 3)) (ht : (pc : Int) + off = (tgt : Int)) (kt : VF X Qf ad N k n w tgt L S g1) (kf : VF X Qf ad N k n w (pc + 3) L S g2) : VF X Qf ad N k n w pc L ((0, x) :: S) (if x = 0 then g1 else g2) := by
  intro o ho hw hp hL hS H locs ls hP hV hl hI
  have hx : jo (0, x) := al_h hS
  have hy : jo (0, (0 : Int)) := jo00
  have he : (Int32.ofInt x = Int32.ofInt 0 ↔ x = 0) := i32_eq hx hy
  refine lv_if_eq C.1 C.2.1 d ht (fun h => ?_) (fun h => ?_)
  · have h2 : x = 0 := he.mp h
    rw [if_pos h2] at ho
    exact kt o ho hw hp hL (al_t hS) H locs ls hP hV hl hI
  · have h2 : ¬ (x = 0) := fun q => h (he.mpr q)
    rw [if_neg h2] at ho
    exact kf o ho hw hp hL (al_t hS) H locs ls hP hV hl hI
theorem vf_icmp_ne (C : Cx X cc own) {x y : Int} {off : Int} {tgt : Nat} {g1 g2 : Option (Int × Wd)} (d : decode cc pc = .ok (.if_icmp .ne off, 3)) (ht : (pc : Int) + off = (tgt : Int)) (kt : VF X Qf ad N k n w tgt L S g1) (kf : VF X Qf ad N k n w (pc + 3) L S g2) : VF X Qf ad N k n w pc L ((0, y) :: (0, x) :: S) (if x = y then g2 else g1) := by
  intro o ho hw hp hL hS H locs ls hP hV hl hI
  have hy : jo (0, y) := al_h hS
  have hx : jo (0, x) := al_h (al_t hS)
  have he : (Int32.ofInt x = Int32.ofInt y ↔ x = y) := i32_eq hx hy
  refine lv_icmp_ne C.1 C.2.1 d ht (fun h => ?_) (fun h => ?_)
  · have h2 : ¬ (x = y) := fun q => h (he.mpr q)
    rw [if_neg h2] at ho
    exact kt o ho hw hp hL (al_t (al_t hS)) H locs ls hP hV hl hI
  · have h2 : x = y := he.mp h
    rw [if_pos h2] at ho
    exact kf o ho hw hp hL (al_t (al_t hS)) H locs ls hP hV hl hI
theorem vf_if_ne (C : Cx X cc own) {x : Int} {off : Int} {tgt : Nat} {g1 g2 : Option (Int × Wd)} (d : decode cc pc = .ok (.ifCond .ne off, 3)) (ht : (pc : Int) + off = (tgt : Int)) (kt : VF X Qf ad N k n w tgt L S g1) (kf : VF X Qf ad N k n w (pc + 3) L S g2) : VF X Qf ad N k n w pc L ((0, x) :: S) (if x = 0 then g2 else g1) := by
  intro o ho hw hp hL hS H locs ls hP hV hl hI
  have hx : jo (0, x) := al_h hS
  have hy : jo (0, (0 : Int)) := jo00
  have he : (Int32.ofInt x = Int32.ofInt 0 ↔ x = 0) := i32_eq hx hy
  refine lv_if_ne C.1 C.2.1 d ht (fun h => ?_) (fun h => ?_)
  · have h2 : ¬ (x = 0) := fun q => h (he.mpr q)
    rw [if_neg h2] at ho
    exact kt o ho hw hp hL (al_t hS) H locs ls hP hV hl hI
  · have h2 : x = 0 := he.mp h
    rw [if_pos h2] at ho
    exact kf o ho hw hp hL (al_t hS) H locs ls hP hV hl hI
theorem vf_icmp_lt (C : Cx X cc own) {x y : Int} {off : Int} {tgt : Nat} {g1 g2 : Option (Int × Wd)} (d : decode cc pc = .ok (.if_icmp .lt off, 3)) (ht : (pc : Int) + off = (tgt : Int)) (kt : VF X Qf ad N k n w tgt L S g1) (kf : VF X Qf ad N k n w (pc + 3) L S g2) : VF X Qf ad N k n w pc L ((0, y) :: (0, x) :: S) (if x < y then g1 else g2) := by
  intro o ho hw hp hL hS H locs ls hP hV hl hI
  have hy : jo (0, y) := al_h hS
  have hx : jo (0, x) := al_h (al_t hS)
  have he : (Int32.ofInt x < Int32.ofInt y ↔ x < y) := i32_lt hx hy
  refine lv_icmp_lt C.1 C.2.1 d ht (fun h => ?_) (fun h => ?_)
  · have h2 : x < y := he.mp h
    rw [if_pos h2] at ho
    exact kt o ho hw hp hL (al_t (al_t hS)) H locs ls hP hV hl hI
  · have h2 : ¬ (x < y) := fun q => h (he.mpr q)
    rw [if_neg h2] at ho
    exact kf o ho hw hp hL (al_t (al_t hS)) H locs ls hP hV hl hI
theorem vf_if_lt (C : Cx X cc own) {x : Int} {off : Int} {tgt : Nat} {g1 g2 : Option (Int × Wd)} (d : decode cc pc = .ok (.ifCond .lt off, 3)) (ht : (pc : Int) + off = (tgt : Int)) (kt : VF X Qf ad N k n w tgt L S g1) (kf : VF X Qf ad N k n w (pc + 3) L S g2) : VF X Qf ad N k n w pc L ((0, x) :: S) (if x < 0 then g1 else g2) := by
  intro o ho hw hp hL hS H locs ls hP hV hl hI
  have hx : jo (0, x) := al_h hS
  have hy : jo (0, (0 : Int)) := jo00
  have he : (Int32.ofInt x < Int32.ofInt 0 ↔ x < 0) := i32_lt hx hy
  refine lv_if_lt C.1 C.2.1 d ht (fun h => ?_) (fun h => ?_)
  · have h2 : x < 0 := he.mp h
    rw [if_pos h2] at ho
    exact kt o ho hw hp hL (al_t hS) H locs ls hP hV hl hI
  · have h2 : ¬ (x < 0) := fun q => h (he.mpr q)
    rw [if_neg h2] at ho
    exact kf o ho hw hp hL (al_t hS) H locs ls hP hV hl hI
theorem vf_icmp_ge (C : Cx X cc own) {x y : Int} {off : Int} {tgt : Nat} {g1 g2 : Option (Int × Wd)} (d : decode cc pc = .ok (.if_icmp .ge off, 3)) (ht : (pc : Int) + off = (tgt : Int)) (kt : VF X Qf ad N k n w tgt L S g1) (kf : VF X Qf ad N k n w (pc + 3) L S g2) : VF X Qf ad N k n w pc L ((0, y) :: (0, x) :: S) (if y ≤ x then g1 else g2) := by
  intro o ho hw hp hL hS H locs ls hP hV hl hI
  have hy : jo (0, y) := al_h hS
  have hx : jo (0, x) := al_h (al_t hS)
  have he : (Int32.ofInt y ≤ Int32.ofInt x ↔ y ≤ x) := i32_le hy hx
  refine lv_icmp_ge C.1 C.2.1 d ht (fun h => ?_) (fun h => ?_)
  · have h2 : y ≤ x := he.mp h
    rw [if_pos h2] at ho
    exact kt o ho hw hp hL (al_t (al_t hS)) H locs ls hP hV hl hI
  · have h2 : ¬ (y ≤ x) := fun q => h (he.mpr q)
    rw [if_neg h2] at ho
    exact kf o ho hw hp hL (al_t (al_t hS)) H locs ls hP hV hl hI
theorem vf_if_ge (C : Cx X cc own) {x : Int} {off : Int} {tgt : Nat} {g1 g2 : Option (Int × Wd)} (d : decode cc pc = .ok (.ifCond .ge off, 3)) (ht : (pc : Int) + off = (tgt : Int)) (kt : VF X Qf ad N k n w tgt L S g1) (kf : VF X Qf ad N k n w (pc + 3) L S g2) : VF X Qf ad N k n w pc L ((0, x) :: S) (if 0 ≤ x then g1 else g2) := by
  intro o ho hw hp hL hS H locs ls hP hV hl hI
  have hx : jo (0, x) := al_h hS
  have hy : jo (0, (0 : Int)) := jo00
  have he : (Int32.ofInt 0 ≤ Int32.ofInt x ↔ 0 ≤ x) := i32_le hy hx
  refine lv_if_ge C.1 C.2.1 d ht (fun h => ?_) (fun h => ?_)
  · have h2 : 0 ≤ x := he.mp h
    rw [if_pos h2] at ho
    exact kt o ho hw hp hL (al_t hS) H locs ls hP hV hl hI
  · have h2 : ¬ (0 ≤ x) := fun q => h (he.mpr q)
    rw [if_neg h2] at ho
    exact kf o ho hw hp hL (al_t hS) H locs ls hP hV hl hI
theorem vf_icmp_gt (C : Cx X cc own) {x y : Int} {off : Int} {tgt : Nat} {g1 g2 : Option (Int × Wd)} (d : decode cc pc = .ok (.if_icmp .gt off, 3)) (ht : (pc : Int) + off = (tgt : Int)) (kt : VF X Qf ad N k n w tgt L S g1) (kf : VF X Qf ad N k n w (pc + 3) L S g2) : VF X Qf ad N k n w pc L ((0, y) :: (0, x) :: S) (if y < x then g1 else g2) := by
  intro o ho hw hp hL hS H locs ls hP hV hl hI
  have hy : jo (0, y) := al_h hS
  have hx : jo (0, x) := al_h (al_t hS)
  have he : (Int32.ofInt y < Int32.ofInt x ↔ y < x) := i32_lt hy hx
  refine lv_icmp_gt C.1 C.2.1 d ht (fun h => ?_) (fun h => ?_)
  · have h2 : y < x := he.mp h
    rw [if_pos h2] at ho
    exact kt o ho hw hp hL (al_t (al_t hS)) H locs ls hP hV hl hI
  · have h2 : ¬ (y < x) := fun q => h (he.mpr q)
    rw [if_neg h2] at ho
    exact kf o ho hw hp hL (al_t (al_t hS)) H locs ls hP hV hl hI
theorem vf_if_gt (C : Cx X cc own) {x : Int} {off : Int} {tgt : Nat} {g1 g2 : Option (Int × Wd)} (d : decode cc pc = .ok (.ifCond .gt off, 3)) (ht : (pc : Int) + off = (tgt : Int)) (kt : VF X Qf ad N k n w tgt L S g1) (kf : VF X Qf ad N k n w (pc + 3) L S g2) : VF X Qf ad N k n w pc L ((0, x) :: S) (if 0 < x then g1 else g2) := by
  intro o ho hw hp hL hS H locs ls hP hV hl hI
  have hx : jo (0, x) := al_h hS
  have hy : jo (0, (0 : Int)) := jo00
  have he : (Int32.ofInt 0 < Int32.ofInt x ↔ 0 < x) := i32_lt hy hx
  refine lv_if_gt C.1 C.2.1 d ht (fun h => ?_) (fun h => ?_)
  · have h2 : 0 < x := he.mp h
    rw [if_pos h2] at ho
    exact kt o ho hw hp hL (al_t hS) H locs ls hP hV hl hI
  · have h2 : ¬ (0 < x) := fun q => h (he.mpr q)
    rw [if_neg h2] at ho
    exact kf o ho hw hp hL (al_t hS) H locs ls hP hV hl hI
theorem vf_icmp_le (C : Cx X cc own) {x y : Int} {off : Int} {tgt : Nat} {g1 g2 : Option (Int × Wd)} (d : decode cc pc = .ok (.if_icmp .le off, 3)) (ht : (pc : Int) + off = (tgt : Int)) (kt : VF X Qf ad N k n w tgt L S g1) (kf : VF X Qf ad N k n w (pc + 3) L S g2) : VF X Qf ad N k n w pc L ((0, y) :: (0, x) :: S) (if x ≤ y then g1 else g2) := by
  intro o ho hw hp hL hS H locs ls hP hV hl hI
  have hy : jo (0, y) := al_h hS
  have hx : jo (0, x) := al_h (al_t hS)
  have he : (Int32.ofInt x ≤ Int32.ofInt y ↔ x ≤ y) := i32_le hx hy
  refine lv_icmp_le C.1 C.2.1 d ht (fun h => ?_) (fun h => ?_)
  · have h2 : x ≤ y := he.mp h
    rw [if_pos h2] at ho
    exact kt o ho hw hp hL (al_t (al_t hS)) H locs ls hP hV hl hI
  · have h2 : ¬ (x ≤ y) := fun q => h (he.mpr q)
    rw [if_neg h2] at ho
    exact kf o ho hw hp hL (al_t (al_t hS)) H locs ls hP hV hl hI
theorem vf_if_le (C : Cx X cc own) {x : Int} {off : Int} {tgt : Nat} {g1 g2 : Option (Int × Wd)} (d : decode cc pc = .ok (.ifCond .le off, 3)) (ht : (pc : Int) + off = (tgt : Int)) (kt : VF X Qf ad N k n w tgt L S g1) (kf : VF X Qf ad N k n w (pc + 3) L S g2) : VF X Qf ad N k n w pc L ((0, x) :: S) (if x ≤ 0 then g1 else g2) := by
  intro o ho hw hp hL hS H locs ls hP hV hl hI
  have hx : jo (0, x) := al_h hS
  have hy : jo (0, (0 : Int)) := jo00
  have he : (Int32.ofInt x ≤ Int32.ofInt 0 ↔ x ≤ 0) := i32_le hx hy
  refine lv_if_le C.1 C.2.1 d ht (fun h => ?_) (fun h => ?_)
  · have h2 : x ≤ 0 := he.mp h
    rw [if_pos h2] at ho
    exact kt o ho hw hp hL (al_t hS) H locs ls hP hV hl hI
  · have h2 : ¬ (x ≤ 0) := fun q => h (he.mpr q)
    rw [if_neg h2] at ho
    exact kf o ho hw hp hL (al_t hS) H locs ls hP hV hl hI
theorem vf_goto (C : Cx X cc own) {off : Int} {tgt : Nat} (d : decode cc pc = .ok (.goto off, 3)) (ht : (pc : Int) + off = (tgt : Int)) (kk : VF X Qf ad N k n w tgt L S g) : VF X Qf ad N k n w pc L S g := by
  intro o ho hw hp hL hS H locs ls hP hV hl hI
  exact lv_goto C.1 C.2.1 d ht (kk o ho hw hp hL hS H locs ls hP hV hl hI)
end
end
section
section
variable {X : jX} {cc : ByteArray} {own : String} {Qf : Int × Wd → State → Prop} {ad : Nat → Nat} {N k n pc : Nat} {w : Wd} {L : List (Nat × jv)} {S : List jv} {g : Option (Int × Wd)}
/-- a field's link: the entry idx of own's pool names field k of the class number ci -/
def FL (own : String) (idx ci k : Nat) : Prop := ∃ q : vw_C, cl[ci]? = some q ∧ k < q.2.2 ∧ (Cond.fieldLink own idx (q.2.1 k).1 (q.2.1 k).2.1 (q.2.1 k).2.2.1 ∈ gw_tbl ∨ ∃ host, Cond.fieldLinkNest own idx (q.2.1 k).1 (q.2.1 k).2.1 (q.2.1 k).2.2.1 host ∈ nw_tbl)
theorem vf_getq (C : Cx X cc own) {idx c ci fk z : Nat} {fs : List (Nat × Nat)} {i : Nat} (hf : FL own idx ci i) (hs : sh c = some (.inl (ci, fs))) (hk : fs[i]? = some (fk, z)) (hc : c < N) (d : decode cc pc = .ok (.getfield idx, 3)) (kk : VF X Qf ad N k n w (pc + 3) L ((jk fk, w c i) :: S) g) : VF X Qf ad N k n w pc L ((2, ((c + 1 : Nat) : Int)) :: S) g := by
  intro o ho hw hp hL hS H locs ls hP hV hl hI
  obtain ⟨q, h1, h2, h3⟩ := hf
  have hj : jo (jk fk, w c i) := by
    have := hw c i
    simp only [jkA, hs] at this
    rwa [show (fs.getD i (0, 0)) = (fk, z) by simp [List.getD_eq_getElem?_getD, hk]] at this
  have hk2 := kk o ho hw hp hL (al_c hj (al_t hS)) H locs ls hP hV hl hI
  have he : (wl ad (xC X) w N)[c]? = some (ad c, .inr (ci, jfs ad w c fs)) := by rw [wl_at hc]; simp only [jcell, hs]
  have e0 : jc ad (2, ((c + 1 : Nat) : Int)) = .ref (ad c) := jc_rf
  simp only [List.map_cons] at hk2 ⊢
  rw [e0]
  rcases h3 with h3 | ⟨host, h3⟩
  · exact va_get C.1 C.2.1 C.2.2.2.1 (cl_ok ci q h1).1 C.2.2.1 C.2.2.2.2.1 hP c he h1 i h2 (C.2.2.2.1 _ h3) (fun _ h => h) (jfs_at hk) d hk2
  · exact va_getN C.1 C.2.1 C.2.2.2.1 (cl_ok ci q h1).1 C.2.2.1 C.2.2.2.2.1 hP c he h1 i h2 (va_Nw.use rfl (C.2.2.2.2.2.2 _ h3)) (fun _ h => h) (jfs_at hk) d hk2
/-- an int, a long, a boolean -/
theorem vf_get (C : Cx X cc own) {idx c ci fk z kd : Nat} {fs : List (Nat × Nat)} {i : Nat} {r : Int} (hf : FL own idx ci i) (hs : sh c = some (.inl (ci, fs))) (hk : fs[i]? = some (fk, z)) (hc : c < N) (hr : r = ((c + 1 : Nat) : Int)) (hkd : jk fk = kd) (d : decode cc pc = .ok (.getfield idx, 3)) (kk : VF X Qf ad N k n w (pc + 3) L ((kd, w c i) :: S) g) : VF X Qf ad N k n w pc L ((2, r) :: S) g := by
  subst hr
  subst hkd
  exact vf_getq C hf hs hk hc d kk
/-- a final reference, behind the constructors -/
theorem vf_getp (C : Cx X cc own) {idx c ci z : Nat} {fs : List (Nat × Nat)} {i : Nat} {r x : Int} (hf : FL own idx ci i) (hs : sh c = some (.inl (ci, fs))) (hk : fs[i]? = some (3, z)) (hc : c < NF) (hr : r = ((c + 1 : Nat) : Int)) (hx : x = (z : Int)) (d : decode cc pc = .ok (.getfield idx, 3)) (kk : VF X Qf ad NF k n w (pc + 3) L ((2, x) :: S) g) : VF X Qf ad NF k n w pc L ((2, r) :: S) g := by
  subst hr
  subst hx
  intro o ho hw hp
  have e : w c i = (z : Int) := by
    apply hp rfl
    simp only [jpt, hs, hk]
  have kk2 : VF X Qf ad NF k n w (pc + 3) L ((jk 3, w c i) :: S) g := by
    rw [e]; exact kk
  exact vf_getq C hf hs hk hc d kk2 o ho hw hp
theorem st_wok {w : Wd} {c i : Nat} {z : Int} (hw : wok w) (hz : jo (jkA c i, z)) : wok (st w c i z) := by
  intro c' k'
  by_cases h : c' = c ∧ k' = i
  · obtain ⟨rfl, rfl⟩ := h
    rw [st_eq]; exact hz
  · have : st w c i z c' k' = w c' k' := by simp [st, h]
    rw [this]; exact hw c' k'
theorem st_wpt {w : Wd} {c i : Nat} {z : Int} (hw : wpt w) (hz : jpt c i = none) : wpt (st w c i z) := by
  intro c' k' v hv
  by_cases h : c' = c ∧ k' = i
  · obtain ⟨rfl, rfl⟩ := h
    rw [hz] at hv; cases hv
  · have : st w c i z c' k' = w c' k' := by simp [st, h]
    rw [this]; exact hw c' k' v hv
theorem jfs_set {ad : Nat → Nat} {w : Wd} {c i fk z0 : Nat} {z : Int} {fs : List (Nat × Nat)} (hk : fs[i]? = some (fk, z0)) : (jfs ad w c fs).set i (jc ad (jk fk, z)) = jfs ad (st w c i z) c fs := by
  apply List.ext_getElem?
  intro j
  have hi : i < fs.length := (List.getElem?_eq_some_iff.mp hk).1
  by_cases hj : j = i
  · subst hj
    rw [List.getElem?_set_self (by rw [jfs_len]; exact hi), jfs_at hk, st_eq]
  · rw [List.getElem?_set_ne (Ne.symm hj)]
    by_cases hl : j < fs.length
    · have e : fs[j]? = some (fs[j].1, fs[j].2) := by simp [hl]
      rw [jfs_at e, jfs_at e, st_k hj]
    · simp [jfs, hl]
/-- what a field of a kind takes -/
def jfit (fk : Nat) (z : Int) : Prop := fk = 0 ∨ fk = 1 ∨ (fk = 2) ∨ (fk = 4 ∧ (z = 0 ∨ z = 1))
/-- the class ci's field i has a type of kind fk, and isn't final -/
def FK (ci i fk : Nat) : Prop := ∃ q ty, cl[ci]? = some q ∧ parseFieldDescriptor (q.2.1 i).2.2.1 = some ty ∧ (q.2.1 i).2.2.2 = false ∧ ((fk = 0 ∧ ty = .int) ∨ (fk = 1 ∧ ty = .long) ∨ (fk = 4 ∧ ty = .boolean) ∨ (fk = 2 ∧ ((∃ C, ty = .object C) ∨ ∃ t, ty = .array t)))
theorem fit_ok {ad : Nat → Nat} {fk : Nat} {z : Int} {ty : FieldType} (h : (fk = 0 ∧ ty = .int) ∨ (fk = 1 ∧ ty = .long) ∨ (fk = 4 ∧ ty = .boolean) ∨ (fk = 2 ∧ ((∃ C, ty = .object C) ∨ ∃ t, ty = .array t))) (hz : fk = 4 → z = 0 ∨ z = 1) : narrow ty (jc ad (jk fk, z)) = jc ad (jk fk, z) ∧ fits ty (jc ad (jk fk, z)) = true := by
  rcases h with ⟨rfl, rfl⟩ | ⟨rfl, rfl⟩ | ⟨rfl, rfl⟩ | ⟨rfl, h⟩
  · exact ⟨rfl, rfl⟩
  · exact ⟨rfl, rfl⟩
  · rcases hz rfl with rfl | rfl
    · exact ⟨(by decide +kernel : narrow .boolean (.int (Int32.ofInt 0)) = .int (Int32.ofInt 0)), (by decide +kernel : fits .boolean (.int (Int32.ofInt 0)) = true)⟩
    · exact ⟨(by decide +kernel : narrow .boolean (.int (Int32.ofInt 1)) = .int (Int32.ofInt 1)), (by decide +kernel : fits .boolean (.int (Int32.ofInt 1)) = true)⟩
  · have : ∀ r, narrow ty (va_rf r) = va_rf r ∧ fits ty (va_rf r) = true := by
      intro r
      rcases h with ⟨C, rfl⟩ | ⟨t, rfl⟩ <;> cases r <;> exact ⟨rfl, rfl⟩
    exact this _
theorem vf_putq (C : Cx X cc own) {idx c ci fk z0 : Nat} {fs : List (Nat × Nat)} {i : Nat} {z : Int} (hf : FL own idx ci i) (hfk : FK ci i fk) (hs : sh c = some (.inl (ci, fs))) (hk : fs[i]? = some (fk, z0)) (hc : c < N) (h3 : fk ≠ 3) (hz : fk = 4 → z = 0 ∨ z = 1) (d : decode cc pc = .ok (.putfield idx, 3)) (kk : VF X Qf ad N k n (st w c i z) (pc + 3) L S g) : VF X Qf ad N k n w pc L ((jk fk, z) :: (2, ((c + 1 : Nat) : Int)) :: S) g := by
  intro o ho hw hp hL hS H locs ls hP hV hl hI
  obtain ⟨q, h1, h2, hln⟩ := hf
  obtain ⟨q', ty, h1', hty, hfin, hkd⟩ := hfk
  rw [h1] at h1'; cases h1'
  have hgd : fs.getD i (0, 0) = (fk, z0) := by simp [List.getD_eq_getElem?_getD, hk]
  have hjA : jkA c i = jk fk := by simp only [jkA, hs, hgd]
  have hpt : jpt c i = none := by
    simp only [jpt, hs, hk]
    split
    · rename_i heq; cases heq; exact absurd rfl h3
    · rfl
  have hw' : wok (st w c i z) := st_wok hw (by rw [hjA]; exact al_h hS)
  have hk2 := fun H1 locs1 P V => kk o ho hw' (fun e => st_wpt (hp e) hpt) hL (al_t (al_t hS)) H1 locs1 ls P V hl hI
  have he : (wl ad (xC X) w N)[c]? = some (ad c, .inr (ci, jfs ad w c fs)) := by rw [wl_at hc]; simp only [jcell, hs]
  have e0 : jc ad (2, ((c + 1 : Nat) : Int)) = .ref (ad c) := jc_rf
  obtain ⟨hn, hft⟩ := fit_ok (ad := ad) hkd hz
  obtain ⟨hws, ⟨ty0, -, hty0⟩, hnm⟩ := cl_ok ci q h1
  have hD : va_D (xA X) (wl ad (xC X) w N) := by
    refine ⟨fun a b p r ha hb e => ?_, fun a p ha => ?_⟩
    · have la : a < N := by have := (List.getElem?_eq_some_iff.mp ha).1; simpa [wl] using this
      have lb : b < N := by have := (List.getElem?_eq_some_iff.mp hb).1; simpa [wl] using this
      rw [wl_at la] at ha; rw [wl_at lb] at hb; cases ha; cases hb
      exact hI.1 a b la lb e
    · have la : a < N := by have := (List.getElem?_eq_some_iff.mp ha).1; simpa [wl] using this
      rw [wl_at la] at ha; cases ha
      exact hI.2 a la
  have hset : (wl ad (xC X) w N).set c (ad c, .inr (ci, (jfs ad w c fs).set i (jc ad (jk fk, z)))) = wl ad (xC X) (st w c i z) N :=
    wl_set hc (fun c' h => by funext k'; exact st_c h) (by simp only [jcell, hs]; rw [jfs_set hk])
  simp only [List.map_cons] at hk2 ⊢
  rw [e0]
  have hlen : i < (jfs ad w c fs).length := by rw [jfs_len]; exact (List.getElem?_eq_some_iff.mp hk).1
  rcases hln with h3 | ⟨host, h3⟩
  · exact va_put C.1 C.2.1 C.2.2.2.1 hws ty0 hty0 hnm C.2.2.1 C.2.2.2.2.1 hP hD hV c he h1 i h2 (C.2.2.2.1 _ h3) (fun _ h => h) hfin hty hn hft hlen d fun H1 locs1 P1 _ V1 => hk2 H1 locs1 (by rw [← hset]; exact P1) V1
  · exact va_putN C.1 C.2.1 C.2.2.2.1 hws ty0 hty0 hnm C.2.2.1 C.2.2.2.2.1 hP hD hV c he h1 i h2 (va_Nw.use rfl (C.2.2.2.2.2.2 _ h3)) (fun _ h => h) hfin hty hn hft hlen d fun H1 locs1 P1 _ V1 => hk2 H1 locs1 (by rw [← hset]; exact P1) V1
theorem vf_put (C : Cx X cc own) {idx c ci fk z0 kd : Nat} {fs : List (Nat × Nat)} {i : Nat} {z r : Int} (hf : FL own idx ci i) (hfk : FK ci i fk) (hs : sh c = some (.inl (ci, fs))) (hk : fs[i]? = some (fk, z0)) (hc : c < N) (hr : r = ((c + 1 : Nat) : Int)) (hkd : jk fk = kd) (h3 : fk ≠ 3 ∧ fk ≠ 4) (d : decode cc pc = .ok (.putfield idx, 3)) (kk : VF X Qf ad N k n (st w c i z) (pc + 3) L S g) : VF X Qf ad N k n w pc L ((kd, z) :: (2, r) :: S) g := by
  subst hr
  subst hkd
  exact vf_putq C hf hfk hs hk hc h3.1 (fun e => absurd e h3.2) d kk
/-- a boolean -/
theorem vf_putz (C : Cx X cc own) {idx c ci z0 : Nat} {fs : List (Nat × Nat)} {i : Nat} {z r : Int} (hf : FL own idx ci i) (hfk : FK ci i 4) (hs : sh c = some (.inl (ci, fs))) (hk : fs[i]? = some (4, z0)) (hc : c < N) (hr : r = ((c + 1 : Nat) : Int)) (d : decode cc pc = .ok (.putfield idx, 3)) (kk : VF X Qf ad N k n (st w c i z) (pc + 3) L S g) : VF X Qf ad N k n w pc L ((0, z) :: (2, r) :: S) (if z = 0 ∨ z = 1 then g else none) := by
  subst hr
  intro o ho
  by_cases hz : z = 0 ∨ z = 1
  · rw [if_pos hz] at ho
    exact vf_putq C hf hfk hs hk hc (by decide) (fun _ => hz) d kk o ho
  · rw [if_neg hz] at ho; cases ho
theorem wl_D {X : jX} {ad : Nat → Nat} {w : Wd} {N : Nat} (hI : jinj ad N (xA X)) : va_D (xA X) (wl ad (xC X) w N) := by
  refine ⟨fun a b p r ha hb e => ?_, fun a p ha => ?_⟩
  · have la : a < N := by have := (List.getElem?_eq_some_iff.mp ha).1; simpa [wl] using this
    have lb : b < N := by have := (List.getElem?_eq_some_iff.mp hb).1; simpa [wl] using this
    rw [wl_at la] at ha; rw [wl_at lb] at hb; cases ha; cases hb
    exact hI.1 a b la lb e
  · have la : a < N := by have := (List.getElem?_eq_some_iff.mp ha).1; simpa [wl] using this
    rw [wl_at la] at ha; cases ha
    exact hI.2 a la
theorem ix_in {i : Int} {m : Nat} (hi : jo (0, i)) (h : 0 ≤ i ∧ i < (m : Int)) : vp_in (Int32.ofInt i) m := vp_in_iff.mpr (by rw [i32_toInt hi]; exact h)
theorem ix_nat {i : Int} (hi : jo (0, i)) (h : 0 ≤ i) : (Int32.ofInt i).toNatClampNeg = i.toNat := by
  rw [← Int32.toNat_toInt, i32_toInt hi]
theorem vf_iald (C : Cx X cc own) {c m : Nat} {ps : List Nat} {i r mz : Int} (hs : sh c = some (.inr (0, m, ps))) (hc : c < N) (hr : r = ((c + 1 : Nat) : Int)) (hmz : mz = (m : Int)) (d : decode cc pc = .ok (.iaload, 1)) (kk : VF X Qf ad N k n w (pc + 1) L ((0, w c i.toNat) :: S) g) : VF X Qf ad N k n w pc L ((0, i) :: (2, r) :: S) (if 0 ≤ i ∧ i < mz then g else none) := by
  subst hr
  subst hmz
  intro o ho hw hp hL hS H locs ls hP hV hl hI
  by_cases hin : 0 ≤ i ∧ i < (m : Int)
  · rw [if_pos hin] at ho
    have hi : jo (0, i) := al_h hS
    have hj : jo (0, w c i.toNat) := by
      have := hw c i.toNat
      simpa only [jkA, hs] using this
    have hk2 := kk o ho hw hp hL (al_c hj (al_t (al_t hS))) H locs ls hP hV hl hI
    have he : (wl ad (xC X) w N)[c]? = some (ad c, .inl (xC X 0, jar ad w c 0 m)) := by rw [wl_at hc]; simp only [jcell, hs]
    have e0 : jc ad (2, ((c + 1 : Nat) : Int)) = .ref (ad c) := jc_rf
    simp only [List.map_cons] at hk2 ⊢
    rw [e0]
    rw [← ix_nat hi hin.1] at hk2
    exact va_iald C.1 C.2.1 C.2.2.2.2.1 hP c 0 he (jtys_at (by decide)) (ix_in hi hin) d hk2
  · rw [if_neg hin] at ho; cases ho
theorem vf_lald (C : Cx X cc own) {c m : Nat} {ps : List Nat} {i r mz : Int} (hs : sh c = some (.inr (1, m, ps))) (hc : c < N) (hr : r = ((c + 1 : Nat) : Int)) (hmz : mz = (m : Int)) (d : decode cc pc = .ok (.laload, 1)) (kk : VF X Qf ad N k n w (pc + 1) L ((1, w c i.toNat) :: S) g) : VF X Qf ad N k n w pc L ((0, i) :: (2, r) :: S) (if 0 ≤ i ∧ i < mz then g else none) := by
  subst hr
  subst hmz
  intro o ho hw hp hL hS H locs ls hP hV hl hI
  by_cases hin : 0 ≤ i ∧ i < (m : Int)
  · rw [if_pos hin] at ho
    have hi : jo (0, i) := al_h hS
    have hj : jo (1, w c i.toNat) := by
      have := hw c i.toNat
      simpa only [jkA, hs] using this
    have hk2 := kk o ho hw hp hL (al_c hj (al_t (al_t hS))) H locs ls hP hV hl hI
    have he : (wl ad (xC X) w N)[c]? = some (ad c, .inl (xC X 1, jar ad w c 1 m)) := by rw [wl_at hc]; simp only [jcell, hs]
    have e0 : jc ad (2, ((c + 1 : Nat) : Int)) = .ref (ad c) := jc_rf
    simp only [List.map_cons] at hk2 ⊢
    rw [e0]
    rw [← ix_nat hi hin.1] at hk2
    exact va_lald C.1 C.2.1 C.2.2.2.2.1 hP c 1 he (jtys_at (by decide)) (ix_in hi hin) d hk2
  · rw [if_neg hin] at ho; cases ho
theorem vf_bald (C : Cx X cc own) {c m : Nat} {ps : List Nat} {i r mz : Int} (hs : sh c = some (.inr (3, m, ps))) (hc : c < N) (hr : r = ((c + 1 : Nat) : Int)) (hmz : mz = (m : Int)) (d : decode cc pc = .ok (.baload, 1)) (kk : VF X Qf ad N k n w (pc + 1) L ((0, w c i.toNat) :: S) g) : VF X Qf ad N k n w pc L ((0, i) :: (2, r) :: S) (if 0 ≤ i ∧ i < mz then g else none) := by
  subst hr
  subst hmz
  intro o ho hw hp hL hS H locs ls hP hV hl hI
  by_cases hin : 0 ≤ i ∧ i < (m : Int)
  · rw [if_pos hin] at ho
    have hi : jo (0, i) := al_h hS
    have hj : jo (0, w c i.toNat) := by
      have := hw c i.toNat
      simpa only [jkA, hs] using this
    have hk2 := kk o ho hw hp hL (al_c hj (al_t (al_t hS))) H locs ls hP hV hl hI
    have he : (wl ad (xC X) w N)[c]? = some (ad c, .inl (xC X 3, jar ad w c 3 m)) := by rw [wl_at hc]; simp only [jcell, hs]
    have e0 : jc ad (2, ((c + 1 : Nat) : Int)) = .ref (ad c) := jc_rf
    simp only [List.map_cons] at hk2 ⊢
    rw [e0]
    rw [← ix_nat hi hin.1] at hk2
    exact va_bald C.1 C.2.1 C.2.2.2.2.1 hP c 3 he (jtys_at (by decide)) (ix_in hi hin) d hk2
  · rw [if_neg hin] at ho; cases ho
theorem vf_zald (C : Cx X cc own) {c m : Nat} {ps : List Nat} {i r mz : Int} (hs : sh c = some (.inr (4, m, ps))) (hc : c < N) (hr : r = ((c + 1 : Nat) : Int)) (hmz : mz = (m : Int)) (d : decode cc pc = .ok (.baload, 1)) (kk : VF X Qf ad N k n w (pc + 1) L ((0, w c i.toNat) :: S) g) : VF X Qf ad N k n w pc L ((0, i) :: (2, r) :: S) (if 0 ≤ i ∧ i < mz then g else none) := by
  subst hr
  subst hmz
  intro o ho hw hp hL hS H locs ls hP hV hl hI
  by_cases hin : 0 ≤ i ∧ i < (m : Int)
  · rw [if_pos hin] at ho
    have hi : jo (0, i) := al_h hS
    have hj : jo (0, w c i.toNat) := by
      have := hw c i.toNat
      simpa only [jkA, hs] using this
    have hk2 := kk o ho hw hp hL (al_c hj (al_t (al_t hS))) H locs ls hP hV hl hI
    have he : (wl ad (xC X) w N)[c]? = some (ad c, .inl (xC X 4, jar ad w c 4 m)) := by rw [wl_at hc]; simp only [jcell, hs]
    have e0 : jc ad (2, ((c + 1 : Nat) : Int)) = .ref (ad c) := jc_rf
    simp only [List.map_cons] at hk2 ⊢
    rw [e0]
    rw [← ix_nat hi hin.1] at hk2
    exact va_zald C.1 C.2.1 C.2.2.2.2.1 hP c 4 he (jtys_at (by decide)) (ix_in hi hin) d hk2
  · rw [if_neg hin] at ho; cases ho
theorem vf_cald (C : Cx X cc own) {c m : Nat} {ps : List Nat} {i r mz : Int} (hs : sh c = some (.inr (5, m, ps))) (hc : c < N) (hr : r = ((c + 1 : Nat) : Int)) (hmz : mz = (m : Int)) (d : decode cc pc = .ok (.caload, 1)) (kk : VF X Qf ad N k n w (pc + 1) L ((0, w c i.toNat) :: S) g) : VF X Qf ad N k n w pc L ((0, i) :: (2, r) :: S) (if 0 ≤ i ∧ i < mz then g else none) := by
  subst hr
  subst hmz
  intro o ho hw hp hL hS H locs ls hP hV hl hI
  by_cases hin : 0 ≤ i ∧ i < (m : Int)
  · rw [if_pos hin] at ho
    have hi : jo (0, i) := al_h hS
    have hj : jo (0, w c i.toNat) := by
      have := hw c i.toNat
      simpa only [jkA, hs] using this
    have hk2 := kk o ho hw hp hL (al_c hj (al_t (al_t hS))) H locs ls hP hV hl hI
    have he : (wl ad (xC X) w N)[c]? = some (ad c, .inl (xC X 5, jar ad w c 5 m)) := by rw [wl_at hc]; simp only [jcell, hs]
    have e0 : jc ad (2, ((c + 1 : Nat) : Int)) = .ref (ad c) := jc_rf
    simp only [List.map_cons] at hk2 ⊢
    rw [e0]
    rw [← ix_nat hi hin.1] at hk2
    exact va_cald C.1 C.2.1 C.2.2.2.2.1 hP c 5 he (jtys_at (by decide)) (ix_in hi hin) d hk2
  · rw [if_neg hin] at ho; cases ho
theorem vf_aald (C : Cx X cc own) {c m z : Nat} {ps : List Nat} {i r x : Int} (hs : sh c = some (.inr (2, m, ps))) (hc : c < NF) (hr : r = ((c + 1 : Nat) : Int)) (hi : 0 ≤ i ∧ i < (m : Int)) (hz : ps[i.toNat]? = some z) (hx : x = (z : Int)) (d : decode cc pc = .ok (.aaload, 1)) (kk : VF X Qf ad NF k n w (pc + 1) L ((2, x) :: S) g) : VF X Qf ad NF k n w pc L ((0, i) :: (2, r) :: S) g := by
  subst hr
  subst hx
  intro o ho hw hp hL hS H locs ls hP hV hl hI
  have hi0 : jo (0, i) := al_h hS
  have e : w c i.toNat = (z : Int) := by
    apply hp rfl
    simp only [jpt, hs, hz]
  have hk2 := kk o ho hw hp hL (al_c (show jo (2, (z : Int)) from Int.natCast_nonneg z) (al_t (al_t hS))) H locs ls hP hV hl hI
  have he : (wl ad (xC X) w NF)[c]? = some (ad c, .inl (xC X 2, jar ad w c 2 m)) := by rw [wl_at hc]; simp only [jcell, hs]
  have e0 : jc ad (2, ((c + 1 : Nat) : Int)) = .ref (ad c) := jc_rf
  simp only [List.map_cons] at hk2 ⊢
  rw [e0]
  rw [← e, ← ix_nat hi0 hi.1] at hk2
  exact va_aldq (C := "EachBringsAnother$Kept") C.1 C.2.1 C.2.2.2.2.1 hP c 2 he (jtys_at (by decide)) (ix_in hi0 hi) d hk2
theorem vf_iast (C : Cx X cc own) {c m : Nat} {ps : List Nat} {i v r mz : Int} (hs : sh c = some (.inr (0, m, ps))) (hc : c < N) (hr : r = ((c + 1 : Nat) : Int)) (hmz : mz = (m : Int)) (d : decode cc pc = .ok (.iastore, 1)) (kk : VF X Qf ad N k n (st w c i.toNat v) (pc + 1) L S g) : VF X Qf ad N k n w pc L ((0, v) :: (0, i) :: (2, r) :: S) (if 0 ≤ i ∧ i < mz then g else none) := by
  subst hr
  subst hmz
  intro o ho hw hp hL hS H locs ls hP hV hl hI
  by_cases hin : 0 ≤ i ∧ i < (m : Int)
  · rw [if_pos hin] at ho
    have hi : jo (0, i) := al_h (al_t hS)
    have hv : jo (0, v) := al_h hS
    have hw' : wok (st w c i.toNat v) := st_wok hw (by simp only [jkA, hs]; exact hv)
    have hpt : jpt c i.toNat = none := by simp only [jpt, hs]
    have hk2 := fun H1 locs1 P V => kk o ho hw' (fun e => st_wpt (hp e) hpt) hL (al_t (al_t (al_t hS))) H1 locs1 ls P V hl hI
    have he : (wl ad (xC X) w N)[c]? = some (ad c, .inl (xC X 0, jar ad w c 0 m)) := by rw [wl_at hc]; simp only [jcell, hs]
    have e0 : jc ad (2, ((c + 1 : Nat) : Int)) = .ref (ad c) := jc_rf
    simp only [List.map_cons] at hk2 ⊢
    rw [e0]
    refine va_iast C.1 C.2.1 C.2.2.2.2.1 hP (wl_D hI) hV c 0 he (jtys_at (by decide)) (ix_in hi hin) d fun H1 locs1 P1 _ V1 => hk2 H1 locs1 ?_ V1
    rw [← wl_set hc (fun c' h => by funext k'; exact st_c h) ?_]
    · exact P1
    · simp only [jcell, hs, jar]
      congr 1; congr 1; congr 1; congr 1
      funext q
      rw [ix_nat hi hin.1]
      by_cases hq : q = i.toNat
      · subst hq
        simp [upd, st_eq]
      · simp [upd, hq, st_k hq]
  · rw [if_neg hin] at ho; cases ho
theorem vf_last (C : Cx X cc own) {c m : Nat} {ps : List Nat} {i v r mz : Int} (hs : sh c = some (.inr (1, m, ps))) (hc : c < N) (hr : r = ((c + 1 : Nat) : Int)) (hmz : mz = (m : Int)) (d : decode cc pc = .ok (.lastore, 1)) (kk : VF X Qf ad N k n (st w c i.toNat v) (pc + 1) L S g) : VF X Qf ad N k n w pc L ((1, v) :: (0, i) :: (2, r) :: S) (if 0 ≤ i ∧ i < mz then g else none) := by
  subst hr
  subst hmz
  intro o ho hw hp hL hS H locs ls hP hV hl hI
  by_cases hin : 0 ≤ i ∧ i < (m : Int)
  · rw [if_pos hin] at ho
    have hi : jo (0, i) := al_h (al_t hS)
    have hv : jo (1, v) := al_h hS
    have hw' : wok (st w c i.toNat v) := st_wok hw (by simp only [jkA, hs]; exact hv)
    have hpt : jpt c i.toNat = none := by simp only [jpt, hs]
    have hk2 := fun H1 locs1 P V => kk o ho hw' (fun e => st_wpt (hp e) hpt) hL (al_t (al_t (al_t hS))) H1 locs1 ls P V hl hI
    have he : (wl ad (xC X) w N)[c]? = some (ad c, .inl (xC X 1, jar ad w c 1 m)) := by rw [wl_at hc]; simp only [jcell, hs]
    have e0 : jc ad (2, ((c + 1 : Nat) : Int)) = .ref (ad c) := jc_rf
    simp only [List.map_cons] at hk2 ⊢
    rw [e0]
    refine va_last C.1 C.2.1 C.2.2.2.2.1 hP (wl_D hI) hV c 1 he (jtys_at (by decide)) (ix_in hi hin) d fun H1 locs1 P1 _ V1 => hk2 H1 locs1 ?_ V1
    rw [← wl_set hc (fun c' h => by funext k'; exact st_c h) ?_]
    · exact P1
    · simp only [jcell, hs, jar]
      congr 1; congr 1; congr 1; congr 1; congr 1
      funext q
      rw [ix_nat hi hin.1]
      by_cases hq : q = i.toNat
      · subst hq
        simp [vp_updL, st_eq]
      · simp [vp_updL, hq, st_k hq]
  · rw [if_neg hin] at ho; cases ho
theorem vf_bast (C : Cx X cc own) {c m : Nat} {ps : List Nat} {i v r mz : Int} (hs : sh c = some (.inr (3, m, ps))) (hc : c < N) (hr : r = ((c + 1 : Nat) : Int)) (hmz : mz = (m : Int)) (d : decode cc pc = .ok (.bastore, 1)) (kk : VF X Qf ad N k n (st w c i.toNat (nb v)) (pc + 1) L S g) : VF X Qf ad N k n w pc L ((0, v) :: (0, i) :: (2, r) :: S) (if 0 ≤ i ∧ i < mz then g else none) := by
  subst hr
  subst hmz
  intro o ho hw hp hL hS H locs ls hP hV hl hI
  by_cases hin : 0 ≤ i ∧ i < (m : Int)
  · rw [if_pos hin] at ho
    have hi : jo (0, i) := al_h (al_t hS)
    have hv : jo (0, v) := al_h hS
    have hw' : wok (st w c i.toNat (nb v)) := st_wok hw (by simp only [jkA, hs]; exact jo_i _)
    have hpt : jpt c i.toNat = none := by simp only [jpt, hs]
    have hk2 := fun H1 locs1 P V => kk o ho hw' (fun e => st_wpt (hp e) hpt) hL (al_t (al_t (al_t hS))) H1 locs1 ls P V hl hI
    have he : (wl ad (xC X) w N)[c]? = some (ad c, .inl (xC X 3, jar ad w c 3 m)) := by rw [wl_at hc]; simp only [jcell, hs]
    have e0 : jc ad (2, ((c + 1 : Nat) : Int)) = .ref (ad c) := jc_rf
    simp only [List.map_cons] at hk2 ⊢
    rw [e0]
    refine va_bast C.1 C.2.1 C.2.2.2.2.1 hP (wl_D hI) hV c 3 he (jtys_at (by decide)) (ix_in hi hin) d fun H1 locs1 P1 _ V1 => hk2 H1 locs1 ?_ V1
    rw [← wl_set hc (fun c' h => by funext k'; exact st_c h) ?_]
    · exact P1
    · simp only [jcell, hs, jar]
      congr 1; congr 1; congr 1; congr 1
      funext q
      rw [ix_nat hi hin.1]
      by_cases hq : q = i.toNat
      · subst hq
        simp [upd, st_eq, nb, Int32.ofInt_toInt]
      · simp [upd, hq, st_k hq]
  · rw [if_neg hin] at ho; cases ho
theorem vf_zast (C : Cx X cc own) {c m : Nat} {ps : List Nat} {i v r mz : Int} (hs : sh c = some (.inr (4, m, ps))) (hc : c < N) (hr : r = ((c + 1 : Nat) : Int)) (hmz : mz = (m : Int)) (d : decode cc pc = .ok (.bastore, 1)) (kk : VF X Qf ad N k n (st w c i.toNat (nz v)) (pc + 1) L S g) : VF X Qf ad N k n w pc L ((0, v) :: (0, i) :: (2, r) :: S) (if 0 ≤ i ∧ i < mz then g else none) := by
  subst hr
  subst hmz
  intro o ho hw hp hL hS H locs ls hP hV hl hI
  by_cases hin : 0 ≤ i ∧ i < (m : Int)
  · rw [if_pos hin] at ho
    have hi : jo (0, i) := al_h (al_t hS)
    have hv : jo (0, v) := al_h hS
    have hw' : wok (st w c i.toNat (nz v)) := st_wok hw (by simp only [jkA, hs]; exact jo_i _)
    have hpt : jpt c i.toNat = none := by simp only [jpt, hs]
    have hk2 := fun H1 locs1 P V => kk o ho hw' (fun e => st_wpt (hp e) hpt) hL (al_t (al_t (al_t hS))) H1 locs1 ls P V hl hI
    have he : (wl ad (xC X) w N)[c]? = some (ad c, .inl (xC X 4, jar ad w c 4 m)) := by rw [wl_at hc]; simp only [jcell, hs]
    have e0 : jc ad (2, ((c + 1 : Nat) : Int)) = .ref (ad c) := jc_rf
    simp only [List.map_cons] at hk2 ⊢
    rw [e0]
    refine va_zast C.1 C.2.1 C.2.2.2.2.1 hP (wl_D hI) hV c 4 he (jtys_at (by decide)) (ix_in hi hin) d fun H1 locs1 P1 _ V1 => hk2 H1 locs1 ?_ V1
    rw [← wl_set hc (fun c' h => by funext k'; exact st_c h) ?_]
    · exact P1
    · simp only [jcell, hs, jar]
      congr 1; congr 1; congr 1; congr 1
      funext q
      rw [ix_nat hi hin.1]
      by_cases hq : q = i.toNat
      · subst hq
        simp [upd, st_eq, nz, Int32.ofInt_toInt]
      · simp [upd, hq, st_k hq]
  · rw [if_neg hin] at ho; cases ho
theorem vf_cast (C : Cx X cc own) {c m : Nat} {ps : List Nat} {i v r mz : Int} (hs : sh c = some (.inr (5, m, ps))) (hc : c < N) (hr : r = ((c + 1 : Nat) : Int)) (hmz : mz = (m : Int)) (d : decode cc pc = .ok (.castore, 1)) (kk : VF X Qf ad N k n (st w c i.toNat (nc v)) (pc + 1) L S g) : VF X Qf ad N k n w pc L ((0, v) :: (0, i) :: (2, r) :: S) (if 0 ≤ i ∧ i < mz then g else none) := by
  subst hr
  subst hmz
  intro o ho hw hp hL hS H locs ls hP hV hl hI
  by_cases hin : 0 ≤ i ∧ i < (m : Int)
  · rw [if_pos hin] at ho
    have hi : jo (0, i) := al_h (al_t hS)
    have hv : jo (0, v) := al_h hS
    have hw' : wok (st w c i.toNat (nc v)) := st_wok hw (by simp only [jkA, hs]; exact jo_i _)
    have hpt : jpt c i.toNat = none := by simp only [jpt, hs]
    have hk2 := fun H1 locs1 P V => kk o ho hw' (fun e => st_wpt (hp e) hpt) hL (al_t (al_t (al_t hS))) H1 locs1 ls P V hl hI
    have he : (wl ad (xC X) w N)[c]? = some (ad c, .inl (xC X 5, jar ad w c 5 m)) := by rw [wl_at hc]; simp only [jcell, hs]
    have e0 : jc ad (2, ((c + 1 : Nat) : Int)) = .ref (ad c) := jc_rf
    simp only [List.map_cons] at hk2 ⊢
    rw [e0]
    refine va_cast C.1 C.2.1 C.2.2.2.2.1 hP (wl_D hI) hV c 5 he (jtys_at (by decide)) (ix_in hi hin) d fun H1 locs1 P1 _ V1 => hk2 H1 locs1 ?_ V1
    rw [← wl_set hc (fun c' h => by funext k'; exact st_c h) ?_]
    · exact P1
    · simp only [jcell, hs, jar]
      congr 1; congr 1; congr 1; congr 1
      funext q
      rw [ix_nat hi hin.1]
      by_cases hq : q = i.toNat
      · subst hq
        simp [upd, st_eq, nc, Int32.ofInt_toInt]
      · simp [upd, hq, st_k hq]
  · rw [if_neg hin] at ho; cases ho
theorem vf_alen (C : Cx X cc own) {c m ak : Nat} {ps : List Nat} {r x : Int} (hs : sh c = some (.inr (ak, m, ps))) (hak : ak < 6) (hc : c < N) (hr : r = ((c + 1 : Nat) : Int)) (hx : x = (m : Int)) (hm : jo (0, x)) (d : decode cc pc = .ok (.arraylength, 1)) (kk : VF X Qf ad N k n w (pc + 1) L ((0, x) :: S) g) : VF X Qf ad N k n w pc L ((2, r) :: S) g := by
  subst hr
  subst hx
  intro o ho hw hp hL hS H locs ls hP hV hl hI
  have hk2 := kk o ho hw hp hL (al_c hm (al_t hS)) H locs ls hP hV hl hI
  have he : (wl ad (xC X) w N)[c]? = some (ad c, .inl (xC X ak, jar ad w c ak m)) := by rw [wl_at hc]; simp only [jcell, hs]
  have e0 : jc ad (2, ((c + 1 : Nat) : Int)) = .ref (ad c) := jc_rf
  simp only [List.map_cons] at hk2 ⊢
  rw [e0]
  exact va_alen C.1 C.2.1 C.2.2.2.2.1 hP c ak he (jtys_at hak) (v := Int32.ofInt (m : Int)) (by rw [Int32.ofInt_eq_ofNat]; rfl) d hk2
-- naming, guards, switches
def jlet {α : Type} (x : Int) (f : Int → α) : α := f x
def jlw {α : Type} (w : Wd) (f : Wd → α) : α := f w
def jcall (x : Option (Int × Wd)) (f : Int → Wd → Option (Int × Wd)) : Option (Int × Wd) := match x with
  | none => none
  | some (r, w) => f r w
theorem vf_no {S : List jv} : VF X Qf ad N k n w pc L S none := fun o ho => by cases ho
theorem vf_perm {L' : List (Nat × jv)} (ps : List Nat) (h : L' = ps.filterMap (fun j => L[j]?)) (kk : VF X Qf ad N k n w pc L' S g) : VF X Qf ad N k n w pc L S g := by
  intro o ho hw hp hL hS H locs ls hP hV hl hI
  have hm : ∀ q ∈ L', q ∈ L := fun q hq => by
    rw [h] at hq
    obtain ⟨j, -, hj⟩ := List.mem_filterMap.mp hq
    exact List.mem_of_getElem? hj
  exact kk o ho hw hp (fun q hq => hL q (hm q hq)) hS H locs ls hP hV (lv_sup hl (fun q hq => by
    obtain ⟨r, hr, rfl⟩ := List.mem_map.mp hq
    exact List.mem_map.mpr ⟨r, hm r hr, rfl⟩)) hI
theorem vf_if {c : Prop} (dc : Decidable c) {g1 g2 : Option (Int × Wd)} (h1 : c → VF X Qf ad N k n w pc L S g1) (h2 : ¬ c → VF X Qf ad N k n w pc L S g2) : VF X Qf ad N k n w pc L S (@ite _ c dc g1 g2) := by
  by_cases h : c
  · rw [if_pos h]; exact h1 h
  · rw [if_neg h]; exact h2 h
theorem vf_sw (C : Cx X cc own) {dflt lo hi : Int} {offs : Array Int} {len : Nat} {x : Int} {off : Int} {tgt : Nat} (d : decode cc pc = .ok (.tableswitch dflt lo hi offs, len)) (h1 : ¬ x < lo) (h2 : ¬ hi < x) (ho1 : offs[(x - lo).toNat]? = some off) (ht : (pc : Int) + off = (tgt : Int)) (kk : VF X Qf ad N k n w tgt L S g) : VF X Qf ad N k n w pc L ((0, x) :: S) g := by
  intro o ho hw hp hL hS H locs ls hP hV hl hI
  have hx : (Int32.ofInt x).toInt = x := i32_toInt (al_h hS)
  exact lv_tableIn C.1 C.2.1 d (by rw [hx]; exact h1) (by rw [hx]; exact h2) (by rw [hx]; exact ho1) ht (kk o ho hw hp hL (al_t hS) H locs ls hP hV hl hI)
theorem vf_swd (C : Cx X cc own) {dflt lo hi : Int} {offs : Array Int} {len : Nat} {x : Int} {tgt : Nat} (d : decode cc pc = .ok (.tableswitch dflt lo hi offs, len)) (h : x < lo ∨ hi < x) (ht : (pc : Int) + dflt = (tgt : Int)) (kk : VF X Qf ad N k n w tgt L S g) : VF X Qf ad N k n w pc L ((0, x) :: S) g := by
  intro o ho hw hp hL hS H locs ls hP hV hl hI
  have hx : (Int32.ofInt x).toInt = x := i32_toInt (al_h hS)
  exact lv_tableOut C.1 C.2.1 d (by rw [hx]; exact h) ht (kk o ho hw hp hL (al_t hS) H locs ls hP hV hl hI)
theorem vf_lsw (C : Cx X cc own) {dflt : Int} {ps : Array (Int × Int)} {len : Nat} {x : Int} {off : Int} {tgt : Nat} (d : decode cc pc = .ok (.lookupswitch dflt ps, len)) (hp1 : (ps.toList.zip (ps.toList.drop 1)).all (fun (a, next) => a.1 < next.1) = true) (ho1 : Op.lookupswitch.offset ps.toList dflt x = off) (ht : (pc : Int) + off = (tgt : Int)) (kk : VF X Qf ad N k n w tgt L S g) : VF X Qf ad N k n w pc L ((0, x) :: S) g := by
  intro o ho hw hp hL hS H locs ls hP hV hl hI
  have hx : (Int32.ofInt x).toInt = x := i32_toInt (al_h hS)
  exact lv_lookup C.1 C.2.1 d hp1 (by rw [hx]; exact ho1) ht (kk o ho hw hp hL (al_t hS) H locs ls hP hV hl hI)
end
end
section
/-! CONTRACTS: a method does what a function of its arguments and the world says -/
def rmD (d : Nat) : Room := { frames := d, cells := 0, slots := 0, locals := 60 * d }
abbrev wsy (y : MethodName) (cc : ByteArray) (mL : Nat) (rt : Option FieldType) : List Cond := .code y cc mL rt :: gw_tbl
def outc (ad : Nat → Nat) (rk : Nat) (r : Int) : Option Value := match rk with
  | 9 => none
  | k => some (jc ad (jk k, r))
def outj (rk : Nat) (r : Int) : Prop := match rk with
  | 9 => True
  | k => jo (jk k, r)
def PB (D : va_G) (cA : Nat → ClassId) (ad : Nat → Nat) (w : Wd) : State → Prop := fun U => va_P D cl (wl ad cA w NF) U.heap ∧ va_K D cl (jtys cA) U ∧ NW U
def AF (ad : Nat → Nat) : Nat → Prop := fun q => ∃ c, c < NF ∧ q = ad c
def QB (D : va_G) (cA : Nat → ClassId) (ad : Nat → Nat) (rk : Nat) (o : Int × Wd) : Array Value → State → Outcome → State → Prop := fun _ st oc t =>
  (oc = .returned (outc ad rk o.1) ∧ outj rk o.1 ∧ wok o.2 ∧ wpt o.2 ∧ va_P D cl (wl ad cA o.2 NF) t.heap) ∧ va_F (AF ad) st t
def jadd (ad : Nat → Nat) : Prop := ∀ i j, i < NF → j < NF → ad i = ad j → i = j
/-- the contract: where g says an answer, the method gives it, and leaves the world that g says -/
def Ct (y : MethodName) (cc : ByteArray) (mL : Nat) (rt : Option FieldType) (dep rk : Nat) (avs : List jv) (w : Wd) (g : Option (Int × Wd)) : Prop :=
  ∀ (l : Launch) (D : va_G) (cA : Nat → ClassId) (ad : Nat → Nat) (o : Int × Wd), g = some o → wok w → wpt w → (∀ v ∈ avs, jo v) → jadd ad →
    Met l y (wsy y cc mL rt) (rmD dep) (va_Pc (avs.map (jc ad)) (PB D cA ad w)) (QB D cA ad rk o) 0 0 (AF ad)
def jargs : Nat → List jv → List (Nat × jv)
  | _, [] => []
  | i, v :: vs => (i, v) :: jargs (if v.1 = 1 then i + 2 else i + 1) vs
theorem jargs_eq (ad : Nat → Nat) : ∀ (vs : List jv) (i : Nat), jL ad (jargs i vs) = lv_args i (vs.map (jc ad))
  | [], _ => rfl
  | v :: vs, i => by
    have h := jc_cat ad v
    have ih := jargs_eq ad vs (if v.1 = 1 then i + 2 else i + 1)
    simp only [jargs, jL, List.map_cons, lv_args] at ih ⊢
    rw [ih, h]
    by_cases hv : v.1 = 1 <;> simp [hv]
theorem jargs_jo : ∀ (vs : List jv) (i : Nat), (∀ v ∈ vs, jo v) → ∀ q ∈ jargs i vs, jo q.2
  | [], _, _, q, hq => by simp [jargs] at hq
  | v :: vs, i, h, q, hq => by
    rcases List.mem_cons.mp hq with rfl | hq
    · exact h v List.mem_cons_self
    · exact jargs_jo vs _ (fun u hu => h u (List.mem_cons_of_mem _ hu)) q hq
def jwords (vs : List jv) : Nat := (vs.map fun v => if v.1 = 1 then 2 else 1).sum
theorem jwords_eq (ad : Nat → Nat) (vs : List jv) : (lg_sl (vs.map (jc ad))).length = jwords vs := by
  induction vs with
  | nil => rfl
  | cons v vs ih =>
    have h := jc_cat ad v
    simp only [lg_sl, jwords, List.map_cons, List.flatMap_cons, List.length_append, List.sum_cons] at ih ⊢
    rw [ih, h]
    by_cases hv : v.1 = 1 <;> simp [hv]
def retI (rk : Nat) : Instr := match rk with
  | 9 => .return_
  | 1 => .lreturn
  | _ => .ireturn
def retS (rk : Nat) (r : Int) : List jv := match rk with
  | 9 => []
  | k => [(jk k, r)]
/-- the method's own end -/
def Rt (X : jX) (Qf : Int × Wd → State → Prop) (ad : Nat → Nat) (cc : ByteArray) (rk : Nat) : Prop :=
  ∀ (pc : Nat) (w : Wd) (L : List (Nat × jv)) (r : Int), (rk = 4 → r = 0 ∨ r = 1) → decode cc pc = .ok (retI rk, 1) → VF X Qf ad NF 0 0 w pc L (retS rk r) (some (r, w))
/-- a walk of the body -/
def By (cc : ByteArray) (mL dep rk : Nat) (own : String) (avs : List jv) (w : Wd) (g : Option (Int × Wd)) : Prop :=
  ∀ (X : jX) (Qf : Int × Wd → State → Prop) (ad : Nat → Nat), Cx X cc own → xn X = mL → xR X = rmD dep → Rt X Qf ad cc rk → VF X Qf ad NF 0 0 w 0 (jargs 0 avs) [] g
def rkok (rt : Option FieldType) (rk : Nat) : Prop := (rk = 0 ∧ rt = some .int) ∨ (rk = 1 ∧ rt = some .long) ∨ (rk = 4 ∧ rt = some .boolean) ∨ (rk = 9 ∧ rt = none)
theorem ct_of {y : MethodName} {cc : ByteArray} {mL : Nat} {rt : Option FieldType} {dep rk : Nat} {avs : List jv} {w : Wd} {g : Option (Int × Wd)} (hy : plainName y.cls = true) (hrk : rkok rt rk) (hlen : jwords avs ≤ mL) (hb : By cc mL dep rk y.cls avs w g) : Ct y cc mL rt dep rk avs w g := by
  intro l D cA ad o ho hw hp ha hinj
  refine Met.ofW (cc := cc) (maxL := mL) (ret := rt) hy rfl ?_
  intro p e s m args below meth c s₁ B hml hv
  obtain ⟨rfl, hP, hK, hNW⟩ := hv
  have hts := atoms_spec (ws := wsy y cc mL rt) B.pre
  have hr := B.returns
  have hlocks := B.notSynchronized
  let X : jX := (p, l, e, rmD dep, s, m, (avs.map (jc ad)).toArray, below, meth, c, D, cA, AF ad, mL)
  have C : Cx X cc y.cls := ⟨B.exec, B.bytes, findClass_of_methodNamed B.named, fun w hw => hts w (List.mem_cons_of_mem _ hw), hK, hml, hNW⟩
  have hS : va_S (AF ad) s.heap s.heap [] := va_S.rf
  have hIn : jinj ad NF (xA X) := ⟨hinj, fun i hi => ⟨i, hi, rfl⟩⟩
  have hl := lv_entry (avs.map (jc ad)) (n := mL) (by rw [jwords_eq]; exact hlen)
  rw [← jargs_eq ad avs 0] at hl
  rw [lg_entry_eq]
  refine hb X (fun o => MQ below (QB D cA ad rk o) (avs.map (jc ad)).toArray s 0 0 (AF ad)) ad C rfl rfl ?_ o ho hw (fun _ => hp) (jargs_jo avs 0 ha) (fun _ h => by cases h) s.heap [] _ hP hS hl hIn
  intro pc w' L r hz hd o' ho' hw' hp' hL' hS' H locs ls hP' hV' hl' hI'
  cases ho'
  have hq : ∀ (v : Option Value) (t : State), t.heap = H → s.WarmedH t.vm → v = outc ad rk r → outj rk r → QB D cA ad rk (r, w') (avs.map (jc ad)).toArray s (.returned v) t := by
    intro v t ht hW hv hj
    subst hv
    exact ⟨⟨rfl, hj, hw', hp' rfl, by rw [ht]; exact hP'⟩, hV'.F ht⟩
  have hfree : ∀ q ∈ locs, AF ad q.base := fun q h => hV'.2.2 q h
  have hjo : ∀ kd, retS rk r = [(kd, r)] → jo (kd, r) := fun kd e => hS' (kd, r) (by rw [e]; exact List.mem_singleton.mpr rfl)
  rcases hrk with ⟨rfl, rfl⟩ | ⟨rfl, rfl⟩ | ⟨rfl, rfl⟩ | ⟨rfl, rfl⟩
  · exact W.iret B.exec B.bytes hr (fun t ht hW => hq _ t ht hW rfl (hjo 0 rfl)) hfree hd hlocks
  · exact W.lret B.exec B.bytes hr (fun t ht hW => hq _ t ht hW rfl (hjo 1 rfl)) hfree hd hlocks
  · refine W.zret B.exec B.bytes hr ?_ (fun t ht hW => hq _ t ht hW rfl (hjo 0 rfl)) hfree hd hlocks
    rcases hz rfl with rfl | rfl
    · exact (by decide +kernel : narrow .boolean (.int (Int32.ofInt 0)) = .int (Int32.ofInt 0))
    · exact (by decide +kernel : narrow .boolean (.int (Int32.ofInt 1)) = .int (Int32.ofInt 1))
  · exact W.vret B.exec B.bytes hr (fun t ht hW => hq _ t ht hW rfl trivial) hfree hd hlocks
/-- behind a call -/
theorem vr_go {X : jX} {H : Heap} {locs : List Loc} {k n pc rk : Nat} {ls : Array Slot} {st0 rest : List Value} {a : Array Value} {ad : Nat → Nat} {o : Int × Wd} {Q : State → Prop}
    (hr : va_Run (xp X) (xl X) (xe X) (xR X) (xs X) (xm X) (xa X) (xb X) (xM X) (xc X) H locs k n 0 0 (F0 (xm X) pc ls st0) rest (QB (xD X) (xC X) ad rk o a) (AF ad)) (hS : va_S (xA X) (xs X).heap H locs) (hI : jinj ad NF (xA X))
    (kk : ∀ (H1 : Heap) (locs1 : List Loc), outj rk o.1 → wok o.2 → wpt o.2 → va_P (xD X) cl (wl ad (xC X) o.2 NF) H1 → va_S (xA X) (xs X).heap H1 locs1 → W (xp X) (xl X) (xe X) (xR X) (xs X) (xm X) (xa X) (xb X) (xM X) (xc X) H1 locs1 k n Q (F0 (xm X) (pc + 3) ls ((outc ad rk o.1).toList ++ rest))) :
    W (xp X) (xl X) (xe X) (xR X) (xs X) (xm X) (xa X) (xb X) (xM X) (xc X) H locs k n Q (F0 (xm X) pc ls st0) := by
  have hf : ∀ q, AF ad q → xA X q := fun q ⟨c, hc, e⟩ => by rw [e]; exact hI.2 c hc
  intro T hT XX
  obtain ⟨v, st₀, t, T', L, h0, X', hL, e1, e2, ⟨⟨hv, hj, hw, hp, hP⟩, hz, hk⟩, st⟩ := hr T hT XX
  cases hv
  rw [h0] at hz hk
  obtain ⟨t2, a1, b1⟩ := kk T'.heap (locs ++ L) hj hw hp (by rw [e1]; exact hP)
    ⟨Nat.le_trans hS.1 (by rw [e1]; exact hz), fun q h1 h2 => by rw [e1, hk q (Nat.lt_of_lt_of_le h1 hS.1) (fun z => h2 (hf q z))]; exact hS.2.1 q h1 h2, fun q hq => by
      rcases List.mem_append.mp hq with h | h
      · exact hS.2.2 q h
      · exact hf _ (hL q h)⟩ T' rfl X'
  exact ⟨t2, st t2 a1, b1⟩
/-- a callee by its words; static or not -/
def CY (y : MethodName) (cc : ByteArray) (mL : Nat) (rt : Option FieldType) (n : Nat) (stat : Bool) : Prop :=
  (y.cls ≠ "java/lang/invoke/MethodHandle" ∧ y.cls ≠ "java/lang/invoke/VarHandle" ∧ (parseMethodDescriptor y.desc).map (fun d => d.parameters.length) = some n) ∧
  Cond.initialized y.cls ∈ gw_tbl ∧ Cond.code y cc mL rt ∈ gw_tbl ∧ (if stat = true then Cond.static y ∈ gw_tbl else Cond.instanceMethod y ∈ gw_tbl ∧ Cond.selects y.cls y y ∈ gw_tbl)
def ML (own : String) (idx : Nat) (y : MethodName) : Prop := Cond.methodLink own idx y ∈ gw_tbl ∨ ∃ host, Cond.methodLinkNest own idx y host ∈ nw_tbl
def jrm (X : jX) (dep mL k n : Nat) : Prop := dep + 1 ≤ (xR X).frames ∧ 19 + mL + 60 * dep ≤ (xR X).locals ∧ k ≤ (xR X).cells ∧ n ≤ (xR X).slots
theorem jrm_of {X : jX} {d dep mL : Nat} (h : xR X = rmD d) (hd : (decide (dep + 1 ≤ d) && decide (mL ≤ 41)) = true) : jrm X dep mL 0 0 := by
  simp only [Bool.and_eq_true, decide_eq_true_eq] at hd
  unfold jrm
  rw [h]
  simp only [rmD]
  omega
theorem gw_in {y : MethodName} {cc : ByteArray} {mL : Nat} {rt : Option FieldType} (h : Cond.code y cc mL rt ∈ gw_tbl) : GoodIn gw_tbl (wsy y cc mL rt) := fun w hw => by
  rcases List.mem_cons.mp hw with rfl | hw
  · exact ⟨h, (gw_good _ h).2⟩
  · exact ⟨hw, (gw_good _ hw).2⟩
section
variable {X : jX} {cc cy : ByteArray} {own : String} {Qf : Int × Wd → State → Prop} {ad : Nat → Nat} {k n pc idx mL dep rk na : Nat} {w : Wd} {L : List (Nat × jv)} {S S0 avs : List jv} {y : MethodName} {rt : Option FieldType}
theorem PB_blind {avs : List Value} {D : va_G} {cA : Nat → ClassId} {ad : Nat → Nat} {w : Wd} : FrameBlind (va_Pc avs (PB D cA ad w)) := fun a U g mk h => ⟨h.1, h.2.1, va_K.moved (u := U) (U := U.calling g mk a) (Vm.Alike.refl U.vm) h.2.2.1, NW.same (s := U) (U := U.calling g mk a) rfl h.2.2.2⟩
theorem jwords_room {S : List jv} (ad : Nat → Nat) (h : jwords S ≤ 8) : ((S.map (jc ad)).map fun v => v.category).sum ≤ 8 := by
  have e : ((S.map (jc ad)).map fun v => v.category) = S.map fun v => if v.1 = 1 then 2 else 1 := by
    rw [List.map_map]
    apply List.map_congr_left
    intro v _
    exact jc_cat ad v
  rw [e]; exact h
theorem vf_callS (C : Cx X cc own) (hy : CY y cy mL rt na true) (hl : ML own idx y) {g : Option (Int × Wd)} {F : Int → Wd → Option (Int × Wd)} (hct : Ct y cy mL rt dep rk avs w g) (hR : jrm X dep mL k n) (hn : avs.length = na) (hst : S0 = avs.reverse ++ S) (hS8 : jwords S ≤ 8) (d : decode cc pc = .ok (.invokestatic idx, 3))
    (kk : ∀ r w', VF X Qf ad NF k n w' (pc + 3) L (retS rk r ++ S) (F r w')) : VF X Qf ad NF k n w pc L S0 (jcall g F) := by
  intro o ho hw hp hL hS H locs ls hP hV hl hI
  subst hst
  cases hg : g with
  | none => rw [hg] at ho; cases ho
  | some q =>
    rw [hg] at ho
    have ha : ∀ v ∈ avs, jo v := fun v hv => hS v (List.mem_append_left _ (List.mem_reverse.mpr hv))
    have hM := hct (xl X) (xD X) (xC X) ad q hg hw (hp rfl) ha hI.1
    obtain ⟨hd, hini, hcode, hst⟩ := hy
    have hst' : Cond.static y ∈ gw_tbl := by simpa using hst
    have ht := C.2.2.2.1
    have hrun : va_Run (xp X) (xl X) (xe X) (xR X) (xs X) (xm X) (xa X) (xb X) (xM X) (xc X) H locs k n 0 0 (F0 (xm X) pc ls ((avs.reverse ++ S).map (jc ad))) (S.map (jc ad)) (QB (xD X) (xC X) ad rk q (avs.map (jc ad)).toArray) (AF ad) := by
      have hpre : PreS (xs X) H (va_Pc (avs.map (jc ad)) (PB (xD X) (xC X) ad w)) (avs.map (jc ad)) := ⟨PB_blind, fun U hU hW => ⟨rfl, by rw [hU]; exact hP, va_K.moved hW.alike C.2.2.2.2.1, NW.warm hW C.2.2.2.2.2.2⟩⟩
      have hsk : (F0 (xm X) pc ls ((avs.reverse ++ S).map (jc ad))).stack = (avs.map (jc ad)).reverse ++ S.map (jc ad) := by simp
      rcases hl0 : (by assumption : ML own idx y) with hlk | ⟨host, hlk⟩
      · exact va_runS ⟨C.1, C.2.1, C.2.2.2.2.2.1, C.2.2.1, ht⟩ hM ⟨callB_of na ht (gw_in hcode) rfl rfl rfl (ht _ hini) (ht _ hlk) hd ⟨hR.1, by have := hR.2.1; show 8 + (mL + 11) + 60 * dep ≤ _; omega⟩, ht _ hst'⟩ hpre rfl (by simpa using hn) hl.1 hsk (lv_room (jwords_room ad hS8)) d ⟨hR.2.2.1, hR.2.2.2⟩
      · exact va_runSN ⟨C.1, C.2.1, C.2.2.2.2.2.1, C.2.2.1, ht⟩ hM ⟨va_cnB (host := host) na ht (gw_in hcode) rfl rfl rfl (C.2.2.2.2.2.2 _ hlk) (ht _ hini) hd ⟨hR.1, by have := hR.2.1; show 8 + (mL + 11) + 60 * dep ≤ _; omega⟩, ht _ hst', trivial⟩ hpre rfl (by simpa using hn) hl.1 hsk (lv_room (jwords_room ad hS8)) d ⟨hR.2.2.1, hR.2.2.2⟩
    refine vr_go hrun hV hI fun H1 locs1 hj hw1 hp1 P1 V1 => ?_
    have hk2 := kk q.1 q.2 o ho hw1 (fun _ => hp1) hL (fun v hv => by
      rcases List.mem_append.mp hv with h | h
      · revert h hj
        unfold retS outj
        split
        · intro _ h; cases h
        · intro hj h; rw [List.mem_singleton.mp h]; exact hj
      · exact hS v (List.mem_append_right _ h)) H1 locs1 ls P1 V1 hl hI
    have e : (retS rk q.1 ++ S).map (jc ad) = (outc ad rk q.1).toList ++ S.map (jc ad) := by
      rw [List.map_append]
      congr 1
      unfold retS outc
      split <;> rfl
    rw [e] at hk2
    exact hk2
theorem vf_callV (C : Cx X cc own) (hy : CY y cy mL rt na false) (hl : ML own idx y) {g : Option (Int × Wd)} {F : Int → Wd → Option (Int × Wd)} {c ci : Nat} {r0 : Int} {fs : List (Nat × Nat)} {T : u_T} {fn : Nat} (hr : r0 = ((c + 1 : Nat) : Int)) (hct : Ct y cy mL rt dep rk ((2, r0) :: avs) w g) (hs : sh c = some (.inl (ci, fs))) (hc : c < NF) (hcl : cl[ci]? = some (y.cls, T, fn)) (hR : jrm X dep mL k n) (hn : avs.length = na) (hst : S0 = avs.reverse ++ (2, r0) :: S) (hS8 : jwords S ≤ 8) (d : decode cc pc = .ok (.invokevirtual idx, 3))
    (kk : ∀ r w', VF X Qf ad NF k n w' (pc + 3) L (retS rk r ++ S) (F r w')) : VF X Qf ad NF k n w pc L S0 (jcall g F) := by
  intro o ho hw hp hL hS H locs ls hP hV hl hI
  subst hst
  subst hr
  cases hg : g with
  | none => rw [hg] at ho; cases ho
  | some q =>
    rw [hg] at ho
    have ha : ∀ v ∈ ((2, ((c + 1 : Nat) : Int)) :: avs : List jv), jo v := fun v hv => by
      rcases List.mem_cons.mp hv with rfl | hv
      · exact hS _ (List.mem_append_right _ List.mem_cons_self)
      · exact hS v (List.mem_append_left _ (List.mem_reverse.mpr hv))
    have hM := hct (xl X) (xD X) (xC X) ad q hg hw (hp rfl) ha hI.1
    obtain ⟨hd, hini, hcode, hst⟩ := hy
    have hst' : Cond.instanceMethod y ∈ gw_tbl ∧ Cond.selects y.cls y y ∈ gw_tbl := by simpa using hst
    have ht := C.2.2.2.1
    have he : (wl ad (xC X) w NF)[c]? = some (ad c, .inr (ci, jfs ad w c fs)) := by rw [wl_at hc]; simp only [jcell, hs]
    have e0 : jc ad (2, ((c + 1 : Nat) : Int)) = .ref (ad c) := jc_rf
    have hrun : va_Run (xp X) (xl X) (xe X) (xR X) (xs X) (xm X) (xa X) (xb X) (xM X) (xc X) H locs k n 0 0 (F0 (xm X) pc ls ((avs.reverse ++ (2, ((c + 1 : Nat) : Int)) :: S).map (jc ad))) (S.map (jc ad)) (QB (xD X) (xC X) ad rk q (Value.ref (ad c) :: avs.map (jc ad)).toArray) (AF ad) := by
      have hpre : PreV (xs X) H y.cls (ad c) (va_Pc (((2, ((c + 1 : Nat) : Int)) :: avs).map (jc ad)) (PB (xD X) (xC X) ad w)) (avs.map (jc ad)) := ⟨PB_blind, va_recv C.2.2.2.2.1 hP hcl he, fun U hU hW => ⟨by simp only [List.map_cons]; rw [e0], by rw [hU]; exact hP, va_K.moved hW.alike C.2.2.2.2.1, NW.warm hW C.2.2.2.2.2.2⟩⟩
      have hsk : (F0 (xm X) pc ls ((avs.reverse ++ (2, ((c + 1 : Nat) : Int)) :: S).map (jc ad))).stack = (avs.map (jc ad)).reverse ++ .ref (ad c) :: S.map (jc ad) := by
        simp only [List.map_append, List.map_cons, List.map_reverse]; rw [e0]
      rcases hl0 : (by assumption : ML own idx y) with hlk | ⟨host, hlk⟩
      · exact va_runV ⟨C.1, C.2.1, C.2.2.2.2.2.1, C.2.2.1, ht⟩ hM ⟨callB_of na ht (gw_in hcode) rfl rfl rfl (ht _ hini) (ht _ hlk) hd ⟨hR.1, by have := hR.2.1; show 8 + (mL + 11) + 60 * dep ≤ _; omega⟩, ht _ hst'.1, ht _ hst'.2⟩ hpre rfl (by simpa using hn) hl.1 hsk (lv_room (jwords_room ad hS8)) d ⟨hR.2.2.1, hR.2.2.2⟩
      · exact va_runVN ⟨C.1, C.2.1, C.2.2.2.2.2.1, C.2.2.1, ht⟩ hM ⟨va_cnB (host := host) na ht (gw_in hcode) rfl rfl rfl (C.2.2.2.2.2.2 _ hlk) (ht _ hini) hd ⟨hR.1, by have := hR.2.1; show 8 + (mL + 11) + 60 * dep ≤ _; omega⟩, ht _ hst'.1, ht _ hst'.2⟩ hpre rfl (by simpa using hn) hl.1 hsk (lv_room (jwords_room ad hS8)) d ⟨hR.2.2.1, hR.2.2.2⟩
    refine vr_go hrun hV hI fun H1 locs1 hj hw1 hp1 P1 V1 => ?_
    have hk2 := kk q.1 q.2 o ho hw1 (fun _ => hp1) hL (fun v hv => by
      rcases List.mem_append.mp hv with h | h
      · revert h hj
        unfold retS outj
        split
        · intro _ h; cases h
        · intro hj h; rw [List.mem_singleton.mp h]; exact hj
      · exact hS v (List.mem_append_right _ (List.mem_cons_of_mem _ h))) H1 locs1 ls P1 V1 hl hI
    have e : (retS rk q.1 ++ S).map (jc ad) = (outc ad rk q.1).toList ++ S.map (jc ad) := by
      rw [List.map_append]
      congr 1
      unfold retS outc
      split <;> rfl
    rw [e] at hk2
    exact hk2
end
end
section
theorem mth_ini : Cond.initialized "java/lang/Math" ∈ gw_tbl := mem_g 104 (by decide +kernel) (by decide +kernel)
theorem mmn_st : Cond.static Lib.Math.min.name ∈ gw_tbl := mem_g 638 (by decide +kernel) (by decide +kernel)
theorem mmn_co : Cond.code Lib.Math.min.name Lib.Math.min.code 2 (some .int) ∈ gw_tbl := mem_g 639 (by decide +kernel) (by decide +kernel)
theorem mmx_st : Cond.static Lib.Math.max.name ∈ gw_tbl := mem_g 641 (by decide +kernel) (by decide +kernel)
theorem mmx_co : Cond.code Lib.Math.max.name Lib.Math.max.code 2 (some .int) ∈ gw_tbl := mem_g 642 (by decide +kernel) (by decide +kernel)
theorem acp_nat : Cond.native arraycopyName ∈ gw_tbl := mem_g 596 (by decide +kernel) (by decide +kernel)
theorem acp_st : Cond.static arraycopyName ∈ gw_tbl := mem_g 595 (by decide +kernel) (by decide +kernel)
theorem acp_ini : Cond.initialized "java/lang/System" ∈ gw_tbl := mem_g 97 (by decide +kernel) (by decide +kernel)
section
variable {X : jX} {cc cy : ByteArray} {own : String} {Qf : Int × Wd → State → Prop} {ad : Nat → Nat} {N k n pc idx mL dep na : Nat} {w : Wd} {L : List (Nat × jv)} {S S0 avs : List jv} {y : MethodName} {rt : Option FieldType} {g : Option (Int × Wd)}
abbrev jgd {α : Type} (c : Prop) [Decidable c] (x : Option α) : Option α := if c then x else none
theorem jrI {L : List (Nat × jv)} {i kd : Nat} {ps : List Nat} {L' : List (Nat × jv)} (h1 : L' = ps.filterMap (fun j => L[j]?)) (h2 : L'.all (fun q => !(q.1 == i) && !(q.1 + 1 == i && q.2.1 == 1) && !(kd == 1 && q.1 == i + 1)) = true) : jrest L i kd ps L' := ⟨h1, h2⟩
theorem jrm_o {X : jX} {d dep mL : Nat} (h : xR X = rmD d) (hd : dep + 1 ≤ d) (hm : mL ≤ 41) : jrm X dep mL 0 0 := by
  unfold jrm
  rw [h]
  simp only [rmD]
  omega
theorem vf_ul {x : Int} {f : Int → Option (Int × Wd)} (h : VF X Qf ad N k n w pc L S (f x)) : VF X Qf ad N k n w pc L S (jlet x f) := h
theorem vf_uw {x : Wd} {f : Wd → Option (Int × Wd)} (h : VF X Qf ad N k n w pc L S (f x)) : VF X Qf ad N k n w pc L S (jlw x f) := h
theorem vf_gd {c : Prop} (dc : Decidable c) (h1 : c → VF X Qf ad N k n w pc L S g) : VF X Qf ad N k n w pc L S (@ite _ c dc g none) := vf_if dc h1 (fun _ => vf_no)
theorem vf_putzl (C : Cx X cc own) {idx c ci z0 : Nat} {fs : List (Nat × Nat)} {i : Nat} {z r : Int} (hf : FL own idx ci i) (hfk : FK ci i 4) (hs : sh c = some (.inl (ci, fs))) (hk : fs[i]? = some (4, z0)) (hc : c < N) (hr : r = ((c + 1 : Nat) : Int)) (hz : z = 0 ∨ z = 1) (d : decode cc pc = .ok (.putfield idx, 3)) (kk : VF X Qf ad N k n (st w c i z) (pc + 3) L S g) : VF X Qf ad N k n w pc L ((0, z) :: (2, r) :: S) g := by
  subst hr
  exact vf_putq C hf hfk hs hk hc (by decide) (fun _ => hz) d kk
theorem vf_swx (C : Cx X cc own) {dflt lo hi z : Int} {offs : Array Int} {len : Nat} {x : Int} {off : Int} {tgt : Nat} (d : decode cc pc = .ok (.tableswitch dflt lo hi offs, len)) (hx : x = z) (h1 : ¬ z < lo) (h2 : ¬ hi < z) (ho1 : offs[(z - lo).toNat]? = some off) (ht : (pc : Int) + off = (tgt : Int)) (kk : VF X Qf ad N k n w tgt L S g) : VF X Qf ad N k n w pc L ((0, x) :: S) g := by
  subst hx
  exact vf_sw C d h1 h2 ho1 ht kk
theorem vf_callSi (C : Cx X cc own) (hy : CY y cy mL rt na true) (hl : ML own idx y) {F : Int → Wd → Option (Int × Wd)} (hct : Ct y cy mL rt dep 0 avs w g) (hR : jrm X dep mL k n) (hn : avs.length = na) (hst : S0 = avs.reverse ++ S) (hS8 : jwords S ≤ 8) (d : decode cc pc = .ok (.invokestatic idx, 3))
    (kk : ∀ r w', VF X Qf ad NF k n w' (pc + 3) L ((0, r) :: S) (F r w')) : VF X Qf ad NF k n w pc L S0 (jcall g F) := vf_callS C hy hl hct hR hn hst hS8 d kk
theorem vf_callVi (C : Cx X cc own) (hy : CY y cy mL rt na false) (hl : ML own idx y) {F : Int → Wd → Option (Int × Wd)} {c ci : Nat} {r0 : Int} {fs : List (Nat × Nat)} {T : u_T} {fn : Nat} (hr : r0 = ((c + 1 : Nat) : Int)) (hct : Ct y cy mL rt dep 0 ((2, r0) :: avs) w g) (hs : sh c = some (.inl (ci, fs))) (hc : c < NF) (hcl : cl[ci]? = some (y.cls, T, fn)) (hR : jrm X dep mL k n) (hn : avs.length = na) (hst : S0 = avs.reverse ++ (2, r0) :: S) (hS8 : jwords S ≤ 8) (d : decode cc pc = .ok (.invokevirtual idx, 3))
    (kk : ∀ r w', VF X Qf ad NF k n w' (pc + 3) L ((0, r) :: S) (F r w')) : VF X Qf ad NF k n w pc L S0 (jcall g F) := vf_callV C hy hl hr hct hs hc hcl hR hn hst hS8 d kk
theorem vf_callSz (C : Cx X cc own) (hy : CY y cy mL rt na true) (hl : ML own idx y) {F : Int → Wd → Option (Int × Wd)} (hct : Ct y cy mL rt dep 4 avs w g) (hR : jrm X dep mL k n) (hn : avs.length = na) (hst : S0 = avs.reverse ++ S) (hS8 : jwords S ≤ 8) (d : decode cc pc = .ok (.invokestatic idx, 3))
    (kk : ∀ r w', VF X Qf ad NF k n w' (pc + 3) L ((0, r) :: S) (F r w')) : VF X Qf ad NF k n w pc L S0 (jcall g F) := vf_callS C hy hl hct hR hn hst hS8 d kk
theorem vf_callVz (C : Cx X cc own) (hy : CY y cy mL rt na false) (hl : ML own idx y) {F : Int → Wd → Option (Int × Wd)} {c ci : Nat} {r0 : Int} {fs : List (Nat × Nat)} {T : u_T} {fn : Nat} (hr : r0 = ((c + 1 : Nat) : Int)) (hct : Ct y cy mL rt dep 4 ((2, r0) :: avs) w g) (hs : sh c = some (.inl (ci, fs))) (hc : c < NF) (hcl : cl[ci]? = some (y.cls, T, fn)) (hR : jrm X dep mL k n) (hn : avs.length = na) (hst : S0 = avs.reverse ++ (2, r0) :: S) (hS8 : jwords S ≤ 8) (d : decode cc pc = .ok (.invokevirtual idx, 3))
    (kk : ∀ r w', VF X Qf ad NF k n w' (pc + 3) L ((0, r) :: S) (F r w')) : VF X Qf ad NF k n w pc L S0 (jcall g F) := vf_callV C hy hl hr hct hs hc hcl hR hn hst hS8 d kk
theorem vf_callSl (C : Cx X cc own) (hy : CY y cy mL rt na true) (hl : ML own idx y) {F : Int → Wd → Option (Int × Wd)} (hct : Ct y cy mL rt dep 1 avs w g) (hR : jrm X dep mL k n) (hn : avs.length = na) (hst : S0 = avs.reverse ++ S) (hS8 : jwords S ≤ 8) (d : decode cc pc = .ok (.invokestatic idx, 3))
    (kk : ∀ r w', VF X Qf ad NF k n w' (pc + 3) L ((1, r) :: S) (F r w')) : VF X Qf ad NF k n w pc L S0 (jcall g F) := vf_callS C hy hl hct hR hn hst hS8 d kk
theorem vf_callVl (C : Cx X cc own) (hy : CY y cy mL rt na false) (hl : ML own idx y) {F : Int → Wd → Option (Int × Wd)} {c ci : Nat} {r0 : Int} {fs : List (Nat × Nat)} {T : u_T} {fn : Nat} (hr : r0 = ((c + 1 : Nat) : Int)) (hct : Ct y cy mL rt dep 1 ((2, r0) :: avs) w g) (hs : sh c = some (.inl (ci, fs))) (hc : c < NF) (hcl : cl[ci]? = some (y.cls, T, fn)) (hR : jrm X dep mL k n) (hn : avs.length = na) (hst : S0 = avs.reverse ++ (2, r0) :: S) (hS8 : jwords S ≤ 8) (d : decode cc pc = .ok (.invokevirtual idx, 3))
    (kk : ∀ r w', VF X Qf ad NF k n w' (pc + 3) L ((1, r) :: S) (F r w')) : VF X Qf ad NF k n w pc L S0 (jcall g F) := vf_callV C hy hl hr hct hs hc hcl hR hn hst hS8 d kk
theorem vf_callSv (C : Cx X cc own) (hy : CY y cy mL rt na true) (hl : ML own idx y) {F : Int → Wd → Option (Int × Wd)} (hct : Ct y cy mL rt dep 9 avs w g) (hR : jrm X dep mL k n) (hn : avs.length = na) (hst : S0 = avs.reverse ++ S) (hS8 : jwords S ≤ 8) (d : decode cc pc = .ok (.invokestatic idx, 3))
    (kk : ∀ r w', VF X Qf ad NF k n w' (pc + 3) L S (F r w')) : VF X Qf ad NF k n w pc L S0 (jcall g F) := vf_callS C hy hl hct hR hn hst hS8 d kk
theorem vf_callVv (C : Cx X cc own) (hy : CY y cy mL rt na false) (hl : ML own idx y) {F : Int → Wd → Option (Int × Wd)} {c ci : Nat} {r0 : Int} {fs : List (Nat × Nat)} {T : u_T} {fn : Nat} (hr : r0 = ((c + 1 : Nat) : Int)) (hct : Ct y cy mL rt dep 9 ((2, r0) :: avs) w g) (hs : sh c = some (.inl (ci, fs))) (hc : c < NF) (hcl : cl[ci]? = some (y.cls, T, fn)) (hR : jrm X dep mL k n) (hn : avs.length = na) (hst : S0 = avs.reverse ++ (2, r0) :: S) (hS8 : jwords S ≤ 8) (d : decode cc pc = .ok (.invokevirtual idx, 3))
    (kk : ∀ r w', VF X Qf ad NF k n w' (pc + 3) L S (F r w')) : VF X Qf ad NF k n w pc L S0 (jcall g F) := vf_callV C hy hl hr hct hs hc hcl hR hn hst hS8 d kk
def cpy (w : Wd) (src dst : Nat) (sp dp n : Int) : Wd := fun c k => if c = dst ∧ dp.toNat ≤ k ∧ k < dp.toNat + n.toNat then w src (sp.toNat + (k - dp.toNat)) else w c k
theorem jrm_n {X : jX} {d : Nat} (h : xR X = rmD d) (hd : 1 ≤ d) : 1 ≤ (xR X).frames ∧ 60 ≤ (xR X).locals := by
  rw [h]; simp only [rmD]; omega
theorem vf_copy (C : Cx X cc own) {c0 c1 m0 m1 : Nat} {ps0 ps1 : List Nat} {sp dp cn r0 r1 z0 z1 : Int} (hm : Cond.methodLink own idx arraycopyName ∈ gw_tbl) (hs0 : sh c0 = some (.inr (0, m0, ps0))) (hs1 : sh c1 = some (.inr (0, m1, ps1))) (h0 : c0 < N) (h1 : c1 < N) (hne : c0 ≠ c1) (hr0 : r0 = ((c0 + 1 : Nat) : Int)) (hr1 : r1 = ((c1 + 1 : Nat) : Int)) (hz0 : z0 = (m0 : Int)) (hz1 : z1 = (m1 : Int)) (hR : 1 ≤ (xR X).frames ∧ 60 ≤ (xR X).locals) (hS8 : jwords S ≤ 8) (d : decode cc pc = .ok (.invokestatic idx, 3))
    (kk : VF X Qf ad N k n (cpy w c0 c1 sp dp cn) (pc + 3) L S g) : VF X Qf ad N k n w pc L ((0, cn) :: (0, dp) :: (2, r1) :: (0, sp) :: (2, r0) :: S) (if 0 ≤ sp ∧ 0 ≤ dp ∧ 0 ≤ cn ∧ sp + cn ≤ z0 ∧ dp + cn ≤ z1 then g else none) := by
  subst hr0; subst hr1; subst hz0; subst hz1
  intro o ho hw hp hL hS H locs ls hP hV hl hI
  by_cases hin : 0 ≤ sp ∧ 0 ≤ dp ∧ 0 ≤ cn ∧ sp + cn ≤ (m0 : Int) ∧ dp + cn ≤ (m1 : Int)
  · rw [if_pos hin] at ho
    have jn : jo (0, cn) := al_h hS
    have jd : jo (0, dp) := al_h (al_t hS)
    have js : jo (0, sp) := al_h (al_t (al_t (al_t hS)))
    have en := ix_nat jn hin.2.2.1
    have ed := ix_nat jd hin.2.1
    have es := ix_nat js hin.1
    have hw' : wok (cpy w c0 c1 sp dp cn) := by
      intro c' k'
      unfold cpy
      by_cases h : c' = c1 ∧ dp.toNat ≤ k' ∧ k' < dp.toNat + cn.toNat
      · rw [if_pos h]
        have h2 := hw c0 (sp.toNat + (k' - dp.toNat))
        obtain ⟨rfl, -⟩ := h
        simp only [jkA, hs0] at h2
        simp only [jkA, hs1]
        exact h2
      · rw [if_neg h]; exact hw c' k'
    have hp' : wpt w → wpt (cpy w c0 c1 sp dp cn) := by
      intro hq c' k' z hz
      unfold cpy
      by_cases h : c' = c1 ∧ dp.toNat ≤ k' ∧ k' < dp.toNat + cn.toNat
      · obtain ⟨rfl, -⟩ := h
        simp only [jpt, hs1] at hz
        cases hz
      · rw [if_neg h]; exact hq c' k' z hz
    have hk2 := fun H1 locs1 P V => kk o ho hw' (fun e => hp' (hp e)) hL (al_t (al_t (al_t (al_t (al_t hS))))) H1 locs1 ls P V hl hI
    have he0 : (wl ad (xC X) w N)[c0]? = some (ad c0, .inl (xC X 0, jar ad w c0 0 m0)) := by rw [wl_at h0]; simp only [jcell, hs0]
    have he1 : (wl ad (xC X) w N)[c1]? = some (ad c1, .inl (xC X 0, jar ad w c1 0 m1)) := by rw [wl_at h1]; simp only [jcell, hs1]
    have e0 : jc ad (2, ((c0 + 1 : Nat) : Int)) = .ref (ad c0) := jc_rf
    have e1 : jc ad (2, ((c1 + 1 : Nat) : Int)) = .ref (ad c1) := jc_rf
    have ht := C.2.2.2.1
    have nn : ∀ z : Int, jo (0, z) → 0 ≤ z → ¬ Int32.ofInt z < 0 := fun z hz h0 q => by
      have := (i32_lt hz jo00).mp q
      omega
    simp only [List.map_cons] at hk2 ⊢
    rw [e0, e1]
    have hwr := jwords_room ad hS8
    have h60 : nativeFrameWords "java/lang/System" "arraycopy" 5 + 11 ≤ 50 := by decide +kernel
    have hroom : ((S.map (jc ad)).map fun v => v.category).sum + (nativeFrameWords "java/lang/System" "arraycopy" 5 + 11) ≤ (xR X).locals := by
      have := hR.2
      omega
    refine va_copyi C.1 C.2.1 (by rw [C.2.2.2.2.2.1]; exact hl.1.symm) C.2.2.1 (ht _ hm) (ht _ acp_nat) (ht _ acp_st) (ht _ acp_ini) C.2.2.2.2.1 hP (wl_D hI) hV c0 c1 0 0 he0 he1 (jtys_at (by decide)) (jtys_at (by decide)) rfl (nn _ js hin.1) (nn _ jd hin.2.1) (nn _ jn hin.2.2.1) (by rw [es, en]; omega) (by rw [ed, en]; omega) (fun i _ => rfl) hR.1 hroom d fun H1 locs1 P1 _ V1 => hk2 H1 locs1 ?_ V1
    rw [← wl_set h1 (w' := cpy w c0 c1 sp dp cn) (fun c' h => by funext k'; unfold cpy; rw [if_neg (fun q => h q.1)]) ?_]
    · exact P1
    · simp only [jcell, hs1, jar]
      congr 1; congr 1; congr 1; congr 1
      funext q
      rw [es, ed, en]
      unfold va_cpy cpy
      by_cases hq : dp.toNat ≤ q ∧ q < dp.toNat + cn.toNat
      · rw [if_pos hq, if_pos ⟨rfl, hq⟩]
      · rw [if_neg hq, if_neg (fun h => hq h.2)]
  · rw [if_neg hin] at ho; cases ho
def imax (x y : Int) : Int := if x < y then y else x
def imin (x y : Int) : Int := if y < x then y else x
theorem vf_mmax (C : Cx X cc own) {x y : Int} (hm : Cond.methodLink own idx Lib.Math.max.name ∈ gw_tbl) (hR : 1 ≤ (xR X).frames ∧ 60 ≤ (xR X).locals) (hk : k ≤ (xR X).cells ∧ n ≤ (xR X).slots) (hS8 : jwords S ≤ 8) (d : decode cc pc = .ok (.invokestatic idx, 3)) (kk : VF X Qf ad N k n w (pc + 3) L ((0, imax x y) :: S) g) : VF X Qf ad N k n w pc L ((0, y) :: (0, x) :: S) g := by
  intro o ho hw hp hL hS H locs ls hP hV hl hI
  have hy : jo (0, y) := al_h hS
  have hx : jo (0, x) := al_h (al_t hS)
  have e : (if Int32.ofInt x < Int32.ofInt y then Int32.ofInt y else Int32.ofInt x) = Int32.ofInt (imax x y) := by
    unfold imax
    by_cases h : x < y
    · rw [if_pos ((i32_lt hx hy).mpr h), if_pos h]
    · rw [if_neg (fun q => h ((i32_lt hx hy).mp q)), if_neg h]
  have hj : jo (0, imax x y) := by unfold imax; split <;> assumption
  have hk2 := kk o ho hw hp hL (al_c hj (al_t (al_t hS))) H locs ls hP hV hl hI
  have ht := C.2.2.2.1
  have hwr := jwords_room ad hS8
  simp only [List.map_cons, jc] at hk2 ⊢
  rw [← e] at hk2
  exact va_mmax C.1 C.2.1 (by rw [C.2.2.2.2.2.1]; exact hl.1.symm) C.2.2.1 (ht _ hm) (ht _ mmx_st) (ht _ mth_ini) (ht _ mmx_co) hR.1 (by have := hR.2; omega) hk.1 hk.2 d hk2
theorem vf_mmin (C : Cx X cc own) {x y : Int} (hm : Cond.methodLink own idx Lib.Math.min.name ∈ gw_tbl) (hR : 1 ≤ (xR X).frames ∧ 60 ≤ (xR X).locals) (hk : k ≤ (xR X).cells ∧ n ≤ (xR X).slots) (hS8 : jwords S ≤ 8) (d : decode cc pc = .ok (.invokestatic idx, 3)) (kk : VF X Qf ad N k n w (pc + 3) L ((0, imin x y) :: S) g) : VF X Qf ad N k n w pc L ((0, y) :: (0, x) :: S) g := by
  intro o ho hw hp hL hS H locs ls hP hV hl hI
  have hy : jo (0, y) := al_h hS
  have hx : jo (0, x) := al_h (al_t hS)
  have e : (if Int32.ofInt y < Int32.ofInt x then Int32.ofInt y else Int32.ofInt x) = Int32.ofInt (imin x y) := by
    unfold imin
    by_cases h : y < x
    · rw [if_pos ((i32_lt hy hx).mpr h), if_pos h]
    · rw [if_neg (fun q => h ((i32_lt hy hx).mp q)), if_neg h]
  have hj : jo (0, imin x y) := by unfold imin; split <;> assumption
  have hk2 := kk o ho hw hp hL (al_c hj (al_t (al_t hS))) H locs ls hP hV hl hI
  have ht := C.2.2.2.1
  have hwr := jwords_room ad hS8
  simp only [List.map_cons, jc] at hk2 ⊢
  rw [← e] at hk2
  exact va_mmin C.1 C.2.1 (by rw [C.2.2.2.2.2.1]; exact hl.1.symm) C.2.2.1 (ht _ hm) (ht _ mmn_st) (ht _ mth_ini) (ht _ mmn_co) hR.1 (by have := hR.2; omega) hk.1 hk.2 d hk2
end
end
