section
/-! BOUNDS OF WHAT IS RECKONED -/
theorem w32_sp (z : Int) : -2147483648 ≤ w32 z ∧ w32 z ≤ 2147483647 ∧ (z < -2147483648 ∨ 2147483647 < z ∨ w32 z = z) := by
  unfold w32 Int.bmod
  simp only
  split <;> omega
theorem i32_rg (x : Int32) : -2147483648 ≤ x.toInt ∧ x.toInt ≤ 2147483647 := ⟨x.le_toInt, by have := x.toInt_lt; omega⟩
theorem ofInt_toInt {z : Int} (h1 : -2147483648 ≤ z) (h2 : z ≤ 2147483647) : (Int32.ofInt z).toInt = z := Int32.toInt_ofInt_of_le h1 (by omega)
theorem bv_nn {x : BitVec 32} (h : 0 ≤ x.toInt) : x.toInt = (x.toNat : Int) ∧ x.toNat < 2147483648 := by
  have := BitVec.toInt_eq_toNat_cond x
  split at this
  · constructor
    · exact this
    · omega
  · omega
theorem bv_lt {x : BitVec 32} (h : x.toNat < 2147483648) : x.toInt = (x.toNat : Int) := by
  have := BitVec.toInt_eq_toNat_cond x
  split at this
  · exact this
  · omega
theorem and_l {x y : Int32} (h : 0 ≤ x.toInt) : 0 ≤ (x &&& y).toInt ∧ (x &&& y).toInt ≤ x.toInt := by
  have h' : 0 ≤ x.toBitVec.toInt := h
  obtain ⟨e, l⟩ := bv_nn h'
  have hl : (x &&& y).toBitVec.toNat ≤ x.toBitVec.toNat := by
    rw [Int32.toBitVec_and, BitVec.toNat_and]
    exact Nat.and_le_left
  have e2 : (x &&& y).toInt = (((x &&& y).toBitVec.toNat : Nat) : Int) := bv_lt (by omega)
  have e3 : x.toInt = ((x.toBitVec.toNat : Nat) : Int) := e
  omega
theorem and_r {x y : Int32} (h : 0 ≤ y.toInt) : 0 ≤ (x &&& y).toInt ∧ (x &&& y).toInt ≤ y.toInt := by
  rw [Int32.and_comm]
  exact and_l h
theorem iand_rg (x y : Int) : -2147483648 ≤ iand x y ∧ iand x y ≤ 2147483647 := i32_rg _
theorem ior_rg (x y : Int) : -2147483648 ≤ ior x y ∧ ior x y ≤ 2147483647 := i32_rg _
theorem ixor_rg (x y : Int) : -2147483648 ≤ ixor x y ∧ ixor x y ≤ 2147483647 := i32_rg _
theorem ishl_rg (x y : Int) : -2147483648 ≤ ishl x y ∧ ishl x y ≤ 2147483647 := i32_rg _
theorem ishr_rg (x y : Int) : -2147483648 ≤ ishr x y ∧ ishr x y ≤ 2147483647 := i32_rg _
theorem iush_rg (x y : Int) : -2147483648 ≤ iush x y ∧ iush x y ≤ 2147483647 := i32_rg _
theorem idiv_rg (x y : Int) : -2147483648 ≤ idiv x y ∧ idiv x y ≤ 2147483647 := i32_rg _
theorem irem_rg (x y : Int) : -2147483648 ≤ irem x y ∧ irem x y ≤ 2147483647 := i32_rg _
theorem iand_l {x y : Int} (h : 0 ≤ x ∧ x ≤ 2147483647) : 0 ≤ iand x y ∧ iand x y ≤ x := by
  have e := ofInt_toInt (z := x) (by omega) h.2
  have h1 := and_l (x := Int32.ofInt x) (y := Int32.ofInt y) (by omega)
  unfold iand
  omega
theorem iand_r {x y : Int} (h : 0 ≤ y ∧ y ≤ 2147483647) : 0 ≤ iand x y ∧ iand x y ≤ y := by
  have e := ofInt_toInt (z := y) (by omega) h.2
  have h1 := and_r (x := Int32.ofInt x) (y := Int32.ofInt y) (by omega)
  unfold iand
  omega
theorem or_n {x y : Int32} {n : Nat} (hn : n ≤ 31) (hx : 0 ≤ x.toInt ∧ x.toInt < ((2 ^ n : Nat) : Int)) (hy : 0 ≤ y.toInt ∧ y.toInt < ((2 ^ n : Nat) : Int)) : 0 ≤ (x ||| y).toInt ∧ (x ||| y).toInt < ((2 ^ n : Nat) : Int) := by
  have hx' : 0 ≤ x.toBitVec.toInt := hx.1
  have hy' : 0 ≤ y.toBitVec.toInt := hy.1
  obtain ⟨ex, lx⟩ := bv_nn hx'
  obtain ⟨ey, ly⟩ := bv_nn hy'
  have ex' : x.toInt = ((x.toBitVec.toNat : Nat) : Int) := ex
  have ey' : y.toInt = ((y.toBitVec.toNat : Nat) : Int) := ey
  have hl : (x ||| y).toBitVec.toNat < 2 ^ n := by
    rw [Int32.toBitVec_or, BitVec.toNat_or]
    exact Nat.or_lt_two_pow (by omega) (by omega)
  have h31 : 2 ^ n ≤ 2 ^ 31 := Nat.pow_le_pow_right (by decide) hn
  have e2 : (x ||| y).toInt = (((x ||| y).toBitVec.toNat : Nat) : Int) := bv_lt (by omega)
  omega
theorem ior_n (n : Nat) {x y m : Int} (hn : n ≤ 31) (hm : m + 1 = ((2 ^ n : Nat) : Int)) (hx : 0 ≤ x ∧ x ≤ m) (hy : 0 ≤ y ∧ y ≤ m) : 0 ≤ ior x y ∧ ior x y ≤ m := by
  have h31 : 2 ^ n ≤ 2 ^ 31 := Nat.pow_le_pow_right (by decide) hn
  have h31' : ((2 ^ n : Nat) : Int) ≤ 2147483648 := by
    have : ((2 ^ 31 : Nat) : Int) = 2147483648 := by decide
    omega
  have ex := ofInt_toInt (z := x) (by omega) (by omega)
  have ey := ofInt_toInt (z := y) (by omega) (by omega)
  have h := or_n (x := Int32.ofInt x) (y := Int32.ofInt y) hn (by omega) (by omega)
  unfold ior
  omega
theorem not_i32 (x : Int32) : x ^^^ (-1) = ~~~ x := by
  apply Int32.toBitVec_inj.mp
  rw [Int32.toBitVec_xor, Int32.toBitVec_not]
  show x.toBitVec ^^^ (BitVec.allOnes 32) = _
  rw [BitVec.xor_allOnes]
theorem ixor_m1 {x : Int} (h : -2147483648 ≤ x ∧ x ≤ 2147483647) : ixor x (-1) = -1 - x := by
  have ex := ofInt_toInt (z := x) h.1 h.2
  unfold ixor
  rw [show Int32.ofInt (-1) = -1 from by decide, not_i32]
  rw [show (~~~ Int32.ofInt x).toInt = (~~~ (Int32.ofInt x).toBitVec).toInt from by rw [← Int32.toBitVec_not]; rfl, BitVec.toInt_not]
  have ex' : (Int32.ofInt x).toBitVec.toInt = x := ex
  have e2 := BitVec.toInt_eq_toNat_bmod (Int32.ofInt x).toBitVec
  rw [ex'] at e2
  generalize (Int32.ofInt x).toBitVec.toNat = t at *
  unfold Int.bmod at *
  simp only at *
  split at e2 <;> split <;> omega
theorem ishl1 {i : Int} (h : 0 ≤ i ∧ i ≤ 30) : ishl 1 i = ((2 ^ i.toNat : Nat) : Int) := by
  have h1 : (List.range 31).all (fun n => decide (ishl 1 (n : Int) = ((2 ^ n : Nat) : Int))) = true := by decide +kernel
  have h2 := List.all_eq_true.mp h1 i.toNat (List.mem_range.mpr (by omega))
  have h3 := of_decide_eq_true h2
  rw [Int.toNat_of_nonneg h.1] at h3
  exact h3
theorem ishl1_n (n : Nat) {i j m : Int} (hn : n ≤ 30) (hj : j = (n : Int)) (hm : m = ((2 ^ n : Nat) : Int)) (h : 0 ≤ i ∧ i ≤ j) : 1 ≤ ishl 1 i ∧ ishl 1 i ≤ m := by
  rw [ishl1 (by omega)]
  have h1 : 2 ^ i.toNat ≤ 2 ^ n := Nat.pow_le_pow_right (by decide) (by omega)
  have h2 : 1 ≤ 2 ^ i.toNat := Nat.one_le_two_pow
  omega
theorem toNat_shl {x : Int32} {k : Nat} (hk : k < 32) (hx : 0 ≤ x.toInt) (hs : x.toInt * ((2 ^ k : Nat) : Int) ≤ 2147483647) : (x <<< (Int32.ofInt (k : Int) &&& 31)).toInt = x.toInt * ((2 ^ k : Nat) : Int) := by
  have hx' : 0 ≤ x.toBitVec.toInt := hx
  obtain ⟨ex, lx⟩ := bv_nn hx'
  have ex' : x.toInt = ((x.toBitVec.toNat : Nat) : Int) := ex
  have hh : (List.range 32).all (fun k => decide ((Int32.ofInt (k : Int) &&& 31).toBitVec.smod 32 = BitVec.ofNat 32 k)) = true := by decide +kernel
  have h2 := of_decide_eq_true (List.all_eq_true.mp hh k (List.mem_range.mpr hk))
  have e : (x <<< (Int32.ofInt (k : Int) &&& 31)).toBitVec = x.toBitVec <<< k := by
    rw [Int32.toBitVec_shiftLeft, h2]
    rw [BitVec.shiftLeft_eq']
    rw [BitVec.toNat_ofNat, Nat.mod_eq_of_lt (by omega)]
  have hm : x.toBitVec.toNat * 2 ^ k < 2147483648 := by
    have : ((x.toBitVec.toNat * 2 ^ k : Nat) : Int) ≤ 2147483647 := by
      rw [Int.natCast_mul, ← ex']; exact hs
    omega
  have e2 : (x <<< (Int32.ofInt (k : Int) &&& 31)).toBitVec.toNat = x.toBitVec.toNat * 2 ^ k := by
    rw [e, BitVec.toNat_shiftLeft, Nat.shiftLeft_eq, Nat.mod_eq_of_lt (by omega)]
  have e3 : (x <<< (Int32.ofInt (k : Int) &&& 31)).toInt = (((x <<< (Int32.ofInt (k : Int) &&& 31)).toBitVec.toNat : Nat) : Int) := bv_lt (by omega)
  rw [e3, e2, ex', Int.natCast_mul]
theorem ishl_k (k : Nat) {x y m : Int} (hy : y = (k : Int)) (hk : k < 32) (hm : m = ((2 ^ k : Nat) : Int)) (hx : 0 ≤ x) (hs : x * m ≤ 2147483647) (hx2 : x ≤ 2147483647) : ishl x y = x * m := by
  subst hy; subst hm
  have ex := ofInt_toInt (z := x) (by omega) hx2
  unfold ishl
  rw [toNat_shl hk (by omega) (by rw [ex]; exact hs), ex]
theorem ishr_nn {x y : Int} (h : 0 ≤ x ∧ x ≤ 2147483647) : 0 ≤ ishr x y ∧ ishr x y ≤ x := by
  have ex := ofInt_toInt (z := x) (by omega) h.2
  have ex' : (Int32.ofInt x).toBitVec.toInt = x := ex
  unfold ishr
  have e : (Int32.ofInt x >>> (Int32.ofInt y &&& 31)).toInt = ((Int32.ofInt x >>> (Int32.ofInt y &&& 31)).toBitVec).toInt := rfl
  rw [e, Int32.toBitVec_shiftRight]
  rw [BitVec.sshiftRight', BitVec.toInt_sshiftRight, ex', Int.shiftRight_eq_div_pow]
  generalize ((Int32.ofInt y &&& 31).toBitVec.smod 32).toNat = k
  have h2 : (0 : Int) < ((2 ^ k : Nat) : Int) := by
    have : 0 < 2 ^ k := Nat.two_pow_pos k
    omega
  constructor
  · exact Int.ediv_nonneg h.1 (Int.le_of_lt h2)
  · exact Int.ediv_le_self _ h.1
theorem iush_k (k : Nat) {x y m : Int} (hy : y = (k : Int)) (h0 : 0 < k) (hk : k < 32) (hm : m + 1 = ((2 ^ (32 - k) : Nat) : Int)) : 0 ≤ iush x y ∧ iush x y ≤ m := by
  subst hy
  have hh : (List.range 32).all (fun k => decide (((Int32.ofInt (k : Int)).toUInt32 &&& Int32.toUInt32 31).toNat % 32 = k)) = true := by decide +kernel
  have h2 := of_decide_eq_true (List.all_eq_true.mp hh k (List.mem_range.mpr hk))
  unfold iush
  generalize (Int32.ofInt x).toUInt32 = u at *
  generalize (Int32.ofInt (k : Int)).toUInt32 &&& Int32.toUInt32 31 = s at *
  have e : (u >>> s).toNat = u.toNat / 2 ^ k := by
    rw [UInt32.toNat_shiftRight, h2, Nat.shiftRight_eq_div_pow]
  have hu : u.toNat < 2 ^ 32 := u.toNat_lt
  have hd : u.toNat / 2 ^ k < 2 ^ (32 - k) := by
    apply Nat.div_lt_of_lt_mul
    rw [← Nat.pow_add]
    have : k + (32 - k) = 32 := by omega
    rw [this]; exact hu
  have h31 : 2 ^ (32 - k) ≤ 2 ^ 31 := Nat.pow_le_pow_right (by decide) (by omega)
  have e2 : (u >>> s).toInt32.toInt = (((u >>> s).toNat : Nat) : Int) := by
    have : (u >>> s).toInt32.toBitVec.toNat = (u >>> s).toNat := rfl
    have h3 : (u >>> s).toInt32.toBitVec.toInt = (((u >>> s).toInt32.toBitVec.toNat : Nat) : Int) := bv_lt (by omega)
    exact h3
  omega
theorem idiv_k {x c : Int} (hc : 0 < c ∧ c ≤ 2147483647) (h : 0 ≤ x ∧ x ≤ 2147483647) : idiv x c = x / c := by
  have ex := ofInt_toInt (z := x) (by omega) h.2
  have ec := ofInt_toInt (z := c) (by omega) hc.2
  unfold idiv
  rw [Int32.toInt_div, ex, ec]
  rw [Int.tdiv_eq_ediv_of_nonneg h.1]
  have h1 : 0 ≤ x / c := Int.ediv_nonneg h.1 (by omega)
  have h2 : x / c ≤ x := Int.ediv_le_self _ h.1
  generalize x / c = q at *
  unfold Int.bmod
  simp only
  split <;> omega
theorem bm_id {z : Int} (h1 : -2147483648 ≤ z) (h2 : z ≤ 2147483647) : z.bmod (2 ^ 32) = z := by
  unfold Int.bmod
  simp only
  split <;> omega
theorem irem_k {x c : Int} (hc : 0 < c ∧ c ≤ 2147483647) (h : 0 ≤ x ∧ x ≤ 2147483647) : irem x c = x % c := by
  have ex := ofInt_toInt (z := x) (by omega) h.2
  have ec := ofInt_toInt (z := c) (by omega) hc.2
  unfold irem
  rw [Int32.toInt_sub, Int32.toInt_mul, Int32.toInt_div, ex, ec]
  rw [Int.tdiv_eq_ediv_of_nonneg h.1]
  have h1 : 0 ≤ x / c := Int.ediv_nonneg h.1 (by omega)
  have h2 : x / c ≤ x := Int.ediv_le_self _ h.1
  have h3 : x / c * c ≤ x := Int.ediv_mul_le x (by omega)
  have h4 : 0 ≤ x / c * c := Int.mul_nonneg h1 (by omega)
  rw [bm_id (z := x / c) (by omega) (by omega), bm_id (z := x / c * c) (by omega) (by omega)]
  have h5 : x % c = x - x / c * c := by
    have := Int.ediv_mul_add_emod x c
    omega
  rw [h5]
  exact bm_id (by omega) (by omega)
theorem irem_rg2 {x c : Int} (hc : 0 < c ∧ c ≤ 2147483647) (h : 0 ≤ x ∧ x ≤ 2147483647) : 0 ≤ irem x c ∧ irem x c ≤ c - 1 := by
  rw [irem_k hc h]
  have h1 := Int.emod_nonneg x (show c ≠ 0 by omega)
  have h2 := Int.emod_lt_of_pos x (show 0 < c by omega)
  omega
theorem i64_rg (x : Int64) : -9223372036854775808 ≤ x.toInt ∧ x.toInt ≤ 9223372036854775807 := ⟨x.le_toInt, by have := x.toInt_lt; omega⟩
theorem land_rg (x y : Int) : -9223372036854775808 ≤ land x y ∧ land x y ≤ 9223372036854775807 := i64_rg _
theorem lor_rg (x y : Int) : -9223372036854775808 ≤ lor x y ∧ lor x y ≤ 9223372036854775807 := i64_rg _
theorem lshl_rg (x y : Int) : -9223372036854775808 ≤ lshl x y ∧ lshl x y ≤ 9223372036854775807 := i64_rg _
theorem lshr_rg (x y : Int) : -9223372036854775808 ≤ lshr x y ∧ lshr x y ≤ 9223372036854775807 := i64_rg _
theorem w64_rg (z : Int) : -9223372036854775808 ≤ w64 z ∧ w64 z ≤ 9223372036854775807 := by
  unfold w64 Int.bmod
  simp only
  split <;> omega
theorem i8_rg (x : Int8) : -128 ≤ x.toInt ∧ x.toInt ≤ 127 := ⟨x.le_toInt, by have := x.toInt_lt; omega⟩
theorem i2b_rg (x : Int) : -128 ≤ i2b x ∧ i2b x ≤ 127 := by
  unfold i2b
  rw [Int8.toInt_toInt32]
  exact i8_rg _
theorem i2s_rg (x : Int) : -32768 ≤ i2s x ∧ i2s x ≤ 32767 := by
  unfold i2s
  rw [Int16.toInt_toInt32]
  exact ⟨Int16.le_toInt _, by have := Int16.toInt_lt ((Int32.ofInt x).toInt16); omega⟩
theorem i2c_rg (x : Int) : 0 ≤ i2c x ∧ i2c x ≤ 65535 := by
  unfold i2c
  generalize (Int32.ofInt x).toUInt32 = u
  have h : (u % 65536).toNat < 65536 := by
    rw [UInt32.toNat_mod]
    exact Nat.mod_lt _ (by decide)
  have e2 : (u % 65536).toInt32.toInt = (((u % 65536).toNat : Nat) : Int) := by
    have : (u % 65536).toInt32.toBitVec.toNat = (u % 65536).toNat := rfl
    have h3 : (u % 65536).toInt32.toBitVec.toInt = (((u % 65536).toInt32.toBitVec.toNat : Nat) : Int) := bv_lt (by omega)
    exact h3
  omega
theorem lcmp_rg (x y : Int) : -1 ≤ lcmp x y ∧ lcmp x y ≤ 1 := by
  unfold lcmp
  split
  · decide
  · split <;> decide
theorem imax_sp (x y : Int) : (x < y ∧ imax x y = y) ∨ (y ≤ x ∧ imax x y = x) := by
  unfold imax; split <;> omega
theorem imin_sp (x y : Int) : (y < x ∧ imin x y = y) ∨ (x ≤ y ∧ imin x y = x) := by
  unfold imin; split <;> omega
theorem irem_any {x c : Int} (hc : 0 < c ∧ c ≤ 2147483647) (h : -2147483648 ≤ x ∧ x ≤ 2147483647) : -(c - 1) ≤ irem x c ∧ irem x c ≤ c - 1 := by
  by_cases h0 : 0 ≤ x
  · have := irem_rg2 hc ⟨h0, h.2⟩
    omega
  · have ex := ofInt_toInt (z := x) (by omega) h.2
    have ec := ofInt_toInt (z := c) (by omega) hc.2
    unfold irem
    rw [Int32.toInt_sub, Int32.toInt_mul, Int32.toInt_div, ex, ec]
    have e : x.tdiv c = -((-x) / c) := by
      have h1 : x = -(-x) := by omega
      rw [h1, Int.neg_tdiv, Int.tdiv_eq_ediv_of_nonneg (by omega), Int.neg_neg]
    rw [e]
    have h1 : 0 ≤ (-x) / c := Int.ediv_nonneg (by omega) (by omega)
    have h3 : (-x) / c * c ≤ -x := Int.ediv_mul_le (-x) (by omega)
    have h4 : 0 ≤ (-x) / c * c := Int.mul_nonneg h1 (by omega)
    have h5 : -x < ((-x) / c + 1) * c := Int.lt_ediv_add_one_mul_self (-x) (by omega)
    rw [Int.add_mul, Int.one_mul] at h5
    have h6 : (-x) / c ≤ -x := Int.ediv_le_self _ (by omega)
    rw [bm_id (z := -((-x) / c)) (by omega) (by omega), Int.neg_mul, bm_id (z := -((-x) / c * c)) (by omega) (by omega)]
    generalize (-x) / c * c = t at *
    rw [bm_id (by omega) (by omega)]
    omega
theorem or_ge {x y : Int32} (hx : 0 ≤ x.toInt) (hy : 0 ≤ y.toInt) : x.toInt ≤ (x ||| y).toInt := by
  have hx' : 0 ≤ x.toBitVec.toInt := hx
  have hy' : 0 ≤ y.toBitVec.toInt := hy
  obtain ⟨ex, lx⟩ := bv_nn hx'
  obtain ⟨ey, ly⟩ := bv_nn hy'
  have ex' : x.toInt = ((x.toBitVec.toNat : Nat) : Int) := ex
  have hl : (x ||| y).toBitVec.toNat < 2 ^ 31 := by
    rw [Int32.toBitVec_or, BitVec.toNat_or]
    exact Nat.or_lt_two_pow (by omega) (by omega)
  have hg : x.toBitVec.toNat ≤ (x ||| y).toBitVec.toNat := by
    rw [Int32.toBitVec_or, BitVec.toNat_or]
    exact Nat.left_le_or
  have e2 : (x ||| y).toInt = (((x ||| y).toBitVec.toNat : Nat) : Int) := bv_lt (by omega)
  omega
theorem ior_ge {x y : Int} (hx : 0 ≤ x ∧ x ≤ 2147483647) (hy : 0 ≤ y ∧ y ≤ 2147483647) : x ≤ ior x y := by
  have ex := ofInt_toInt (z := x) (by omega) (by omega)
  have ey := ofInt_toInt (z := y) (by omega) (by omega)
  have h := or_ge (x := Int32.ofInt x) (y := Int32.ofInt y) (by omega) (by omega)
  unfold ior
  omega
theorem nb_rg (x : Int) : -128 ≤ nb x ∧ nb x ≤ 127 := by
  show -128 ≤ ((Int32.ofInt x).toInt8.toInt32).toInt ∧ ((Int32.ofInt x).toInt8.toInt32).toInt ≤ 127
  rw [Int8.toInt_toInt32]
  exact i8_rg _
theorem nz_rg (x : Int) : 0 ≤ nz x ∧ nz x ≤ 1 := and_r (x := Int32.ofInt x) (y := 1) (by decide)
theorem nc_rg (x : Int) : 0 ≤ nc x ∧ nc x ≤ 65535 := by
  show 0 ≤ ((Int32.ofInt x).toUInt32.toUInt16.toUInt32.toInt32).toInt ∧ ((Int32.ofInt x).toUInt32.toUInt16.toUInt32.toInt32).toInt ≤ 65535
  generalize (Int32.ofInt x).toUInt32.toUInt16 = u
  have h : u.toUInt32.toNat < 65536 := by
    rw [UInt16.toNat_toUInt32]
    exact u.toNat_lt
  have e2 : u.toUInt32.toInt32.toInt = ((u.toUInt32.toNat : Nat) : Int) := by
    have : u.toUInt32.toInt32.toBitVec.toNat = u.toUInt32.toNat := rfl
    have h3 : u.toUInt32.toInt32.toBitVec.toInt = ((u.toUInt32.toInt32.toBitVec.toNat : Nat) : Int) := bv_lt (by omega)
    exact h3
  omega
end
section
/-- the bounds of each place -/
def rgT : List ((List (Int × Int)) ⊕ (Int × Int)) := [.inl [(2, 2), (4, 4), (6, 6), (10, 10), (13, 13), (16, 16), (20, 20), (25, 25), (29, 29), (37, 37)], .inl [(3, 3), (0, 80)], .inr (0, 65535), .inl [(5, 5), (0, 20)], .inr (-2147483648, 2147483647), .inl [(7, 7), (8, 8), (9, 9), (0, 10), (-2147483648, 2147483647), (-2147483648, 2147483647), (-2147483648, 2147483647), (0, 2147483647), (0, 2147483647)], .inr (0, 9), .inr (-2147483648, 2147483647), .inr (-1, 9), .inl [(11, 11), (12, 12), (0, 1023), (0, 1023), (0, 10), (0, 80)], .inr (0, 9), .inr (0, 511), .inl [(14, 14), (15, 15), (0, 10), (-2147483648, 2147483647)], .inr (-99, 65438), .inr (-99, 65438), .inl [(17, 17), (18, 18), (19, 19), (0, 60), (-2147483648, 2147483647)], .inr (0, 1023), .inr (-2147483648, 2147483647), .inr (-2147483648, 2147483647), .inl [(21, 21), (22, 22), (23, 23), (24, 24), (0, 40), (0, 40), (0, 40), (0, 4), (0, 3), (0, 31), (0, 1)], .inr (-2147483648, 2147483647), .inr (-2147483648, 2147483647), .inr (-2, 65535), .inr (-2147483648, 2147483647), .inl [(26, 26), (27, 27), (28, 28), (0, 256), (-2147483648, 2147483647), (0, 6), (0, 1023), (0, 1023), (0, 1023), (0, 2147483647)], .inr (0, 1023), .inr (-1, 255), .inr (-2147483648, 2147483647), .inl [(30, 30), (31, 31), (32, 32), (33, 33), (34, 34), (35, 35), (36, 36), (0, 3000), (0, 3000), (0, 1), (0, 1)], .inr (0, 3000), .inr (-2147483648, 2147483647), .inr (-9223372036854775808, 9223372036854775807), .inr (-9223372036854775808, 9223372036854775807), .inr (-1, 2999), .inr (-1, 2999), .inr (0, 2999), .inr (0, 83), .inl [(39, 39), (40, 40), (0, 1), (0, 10), (-2147483648, 2147483647), (-2147483648, 2147483647), (-2147483648, 2147483647), (0, 2147483647), (0, 2147483647), (0, 60)], .inr (-1, 9), .inr (0, 1023), .inl [(42, 42), (43, 43), (0, 1), (0, 10), (-2147483648, 2147483647), (-2147483648, 2147483647), (-2147483648, 2147483647), (0, 2147483647), (0, 2147483647), (0, 60)], .inr (-1, 9), .inr (0, 1023), .inl [(0, 10), (45, 45), (46, 46), (47, 47), (48, 48), (49, 49), (50, 50), (-2147483648, 2147483647), (0, 60), (51, 51), (-2147483648, 2147483647), (-2147483648, 2147483647), (52, 52), (0, 80), (53, 53), (0, 16), (0, 1), (0, 58), (0, 80), (0, 76), (0, 80), (-1, 80), (54, 54), (55, 55), (56, 56), (57, 57), (58, 58), (0, 40), (-1, 9), (0, 9), (59, 59), (60, 60), (0, 60), (61, 61), (62, 62), (63, 63), (64, 64), (65, 65), (66, 66), (67, 67), (0, 3000), (0, 756000), (68, 68), (69, 69), (0, 1023), (70, 70), (71, 71), (72, 72), (73, 73), (74, 74), (75, 75), (76, 76), (0, 10), (77, 77), (78, 78), (79, 79), (-2147483648, 2147483647), (80, 80), (81, 81), (82, 82)], .inr (0, 9), .inr (0, 1023), .inr (0, 1), .inr (-2147483648, 2147483647), .inr (-1, 9), .inr (-2147483648, 2147483647), .inr (-2147483648, 2147483647), .inr (-128, 127), .inr (-2147483648, 2147483647), .inr (0, 9), .inr (0, 511), .inr (0, 1), .inr (0, 1), .inr (-128, 127), .inr (-1, 9), .inr (-2147483648, 2147483647), .inr (-225, 30), .inr (-225, 30), .inr (0, 2147483647), .inr (-2147483648, 2147483647), .inr (0, 756000), .inr (0, 2999), .inr (-1, 2999), .inr (0, 3000), .inr (-4, 4), .inr (0, 1000000), .inr (0, 1000000), .inr (-1, 2147483647), .inr (0, 2999), .inr (0, 1000), .inr (0, 1), .inr (0, 100), .inr (0, 1), .inr (0, 1000000), .inr (0, 1000000), .inr (-2147483648, 2147483647), .inr (0, 1), .inr (-2147483648, 2147483647), .inr (-9223372036854775808, 9223372036854775807)]
def rg (c k : Nat) : Int × Int := if c = 59 then (if k % 31 % 3 = 1 then (-1, 9) else (-2147483648, 2147483647)) else if c = 79 then (if k % 105 < 31 ∧ k % 105 % 3 = 1 then (-1, 9) else if k % 105 = 43 then (0, 60) else (-2147483648, 2147483647)) else match rgT[c]? with
  | some (.inl fs) => fs.getD k (-9223372036854775808, 9223372036854775807)
  | some (.inr p) => p
  | none => (-9223372036854775808, 9223372036854775807)
/-! ENDS WELL: a plain function gives something, of which Q holds -/
def OK (o : Option (Int × Wd)) (Q : Int → Wd → Prop) : Prop := ∃ r u, o = some (r, u) ∧ Q r u
theorem ok_some {r : Int} {u : Wd} {Q : Int → Wd → Prop} (h : Q r u) : OK (some (r, u)) Q := ⟨r, u, rfl, h⟩
theorem ok_w {o : Option (Int × Wd)} {P Q : Int → Wd → Prop} (h : OK o P) (hq : ∀ r u, P r u → Q r u) : OK o Q := by
  obtain ⟨r, u, e, h⟩ := h
  exact ⟨r, u, e, hq r u h⟩
theorem ok_call {x : Option (Int × Wd)} {f : Int → Wd → Option (Int × Wd)} {P Q : Int → Wd → Prop} (h : OK x P) (hf : ∀ r u, P r u → OK (f r u) Q) : OK (jcall x f) Q := by
  obtain ⟨r, u, e, h⟩ := h
  subst e
  exact hf r u h
theorem ok_ite {c : Prop} [d : Decidable c] {a b : Option (Int × Wd)} {Q : Int → Wd → Prop} (h1 : c → OK a Q) (h2 : ¬ c → OK b Q) : OK (@ite _ c d a b) Q := by
  by_cases h : c
  · rw [if_pos h]; exact h1 h
  · rw [if_neg h]; exact h2 h
theorem ok_it {c : Prop} [d : Decidable c] {a b : Option (Int × Wd)} {Q : Int → Wd → Prop} (h : c) (h1 : OK a Q) : OK (@ite _ c d a b) Q := by
  rw [if_pos h]; exact h1
theorem ok_if {c : Prop} [d : Decidable c] {a b : Option (Int × Wd)} {Q : Int → Wd → Prop} (h : ¬ c) (h1 : OK b Q) : OK (@ite _ c d a b) Q := by
  rw [if_neg h]; exact h1
theorem ok_gd {c : Prop} [d : Decidable c] {a : Option (Int × Wd)} {Q : Int → Wd → Prop} (h : c) (h1 : OK a Q) : OK (@jgd _ c d a) Q := by
  rw [jgd, if_pos h]; exact h1
theorem ok_let {x : Int} {f : Int → Option (Int × Wd)} {Q : Int → Wd → Prop} (h : ∀ y, y = x → OK (f y) Q) : OK (jlet x f) Q := h x rfl
theorem ok_lw {x : Wd} {f : Wd → Option (Int × Wd)} {Q : Int → Wd → Prop} (h : ∀ y, y = x → OK (f y) Q) : OK (jlw x f) Q := h x rfl
-- with a rest behind
theorem ok_jsome {r : Int} {u : Wd} {f : Int → Wd → Option (Int × Wd)} {Q : Int → Wd → Prop} (h : OK (f r u) Q) : OK (jcall (some (r, u)) f) Q := h
theorem ok_jite {c : Prop} [d : Decidable c] {a b : Option (Int × Wd)} {f : Int → Wd → Option (Int × Wd)} {Q : Int → Wd → Prop} (h1 : c → OK (jcall a f) Q) (h2 : ¬ c → OK (jcall b f) Q) : OK (jcall (@ite _ c d a b) f) Q := by
  by_cases h : c
  · rw [if_pos h]; exact h1 h
  · rw [if_neg h]; exact h2 h
theorem ok_jit {c : Prop} [d : Decidable c] {a b : Option (Int × Wd)} {f : Int → Wd → Option (Int × Wd)} {Q : Int → Wd → Prop} (h : c) (h1 : OK (jcall a f) Q) : OK (jcall (@ite _ c d a b) f) Q := by
  rw [if_pos h]; exact h1
theorem ok_jif {c : Prop} [d : Decidable c] {a b : Option (Int × Wd)} {f : Int → Wd → Option (Int × Wd)} {Q : Int → Wd → Prop} (h : ¬ c) (h1 : OK (jcall b f) Q) : OK (jcall (@ite _ c d a b) f) Q := by
  rw [if_neg h]; exact h1
theorem ok_jgd {c : Prop} [d : Decidable c] {a : Option (Int × Wd)} {f : Int → Wd → Option (Int × Wd)} {Q : Int → Wd → Prop} (h : c) (h1 : OK (jcall a f) Q) : OK (jcall (@jgd _ c d a) f) Q := by
  rw [jgd, if_pos h]; exact h1
theorem ok_jlet {x : Int} {g : Int → Option (Int × Wd)} {f : Int → Wd → Option (Int × Wd)} {Q : Int → Wd → Prop} (h : ∀ y, y = x → OK (jcall (g y) f) Q) : OK (jcall (jlet x g) f) Q := h x rfl
theorem ok_jlw {x : Wd} {g : Wd → Option (Int × Wd)} {f : Int → Wd → Option (Int × Wd)} {Q : Int → Wd → Prop} (h : ∀ y, y = x → OK (jcall (g y) f) Q) : OK (jcall (jlw x g) f) Q := h x rfl
theorem ok_jj {x : Option (Int × Wd)} {g f : Int → Wd → Option (Int × Wd)} {Q : Int → Wd → Prop} (h : OK (jcall x fun r u => jcall (g r u) f) Q) : OK (jcall (jcall x g) f) Q := by
  cases x with
  | none => exact h
  | some q => exact h
theorem jc_s {r : Int} {u : Wd} {f : Int → Wd → Option (Int × Wd)} : jcall (some (r, u)) f = f r u := rfl
theorem eqFU : ((FU : Nat) : Int) = 4000000000 := rfl
theorem eTHR : THR = 4294967296 := rfl
/-! THE WORLD'S BOUNDS, the table of the reference's search, and what a method leaves as it was -/
def mS (S : List Nat) (c k : Nat) : Bool := S.contains (c * 100 + 99) || (Nat.blt k 99 && S.contains (c * 100 + k))
theorem mS_ar {S : List Nat} {c : Nat} (h : (S.all fun x => Nat.blt x (c * 100) || Nat.blt (c * 100 + 99) x) = true) (k : Nat) : mS S c k = false := by
  have h1 : ∀ x, c * 100 ≤ x → x ≤ c * 100 + 99 → S.contains x = false := by
    intro x h1 h2
    cases hc : S.contains x with
    | false => rfl
    | true =>
      have h3 := List.all_eq_true.mp h x (List.contains_iff_mem.mp hc)
      rw [Bool.or_eq_true, Nat.blt_eq, Nat.blt_eq] at h3
      omega
  unfold mS
  rw [h1 _ (by omega) (by omega)]
  cases hk : Nat.blt k 99 with
  | false => rfl
  | true => rw [Nat.blt_eq] at hk; rw [h1 _ (by omega) (by omega)]; rfl
/-- places of the table hold different numbers, none above the number of states -/
def TB (w : Wd) : Prop := (∀ p q, p < 8192 → q < 8192 → w 67 p = w 67 q → w 67 p ≠ 0 → p = q) ∧ ∀ p, p < 8192 → w 67 p ≤ w 43 40
theorem tb_eq {w u : Wd} (h : TB w) (h1 : ∀ p, u 67 p = w 67 p) (h2 : u 43 40 = w 43 40) : TB u := by
  constructor
  · intro p q hp hq e hn
    rw [h1, h1] at e
    rw [h1] at hn
    exact h.1 p q hp hq e hn
  · intro p hp
    rw [h1, h2]
    exact h.2 p hp
def tbf (c k : Nat) : Bool := !(c == 67 || (c == 43 && k == 40))
theorem tbf_67 {c k : Nat} (h : tbf c k = true) : 67 ≠ c := by
  intro e
  subst e
  simp [tbf] at h
theorem tbf_43 {c k : Nat} (h : tbf c k = true) : ¬ (43 = c ∧ 40 = k) := by
  rintro ⟨e1, e2⟩
  subst e1; subst e2
  simp [tbf] at h
def G (S : List Nat) (b w : Wd) : Prop := (∀ c k, (rg c k).1 ≤ w c k ∧ w c k ≤ (rg c k).2) ∧ (∀ c k, mS S c k = false → w c k = b c k) ∧ TB w
theorem g_self {S T : List Nat} {b w : Wd} (h : G S b w) : G T w w := ⟨h.1, fun _ _ _ => rfl, h.2.2⟩
theorem g_st0 {S : List Nat} {b w u : Wd} {c k : Nat} {z : Int} (h : G S b w) (hu : u = st w c k z) (hm : mS S c k = true) (ht : TB u) (hz : (rg c k).1 ≤ z ∧ z ≤ (rg c k).2) : G S b u := by
  refine ⟨?_, ?_, ht⟩
  · intro c' k'
    rw [hu]
    unfold st
    by_cases e : c' = c ∧ k' = k
    · obtain ⟨e1, e2⟩ := e
      subst e1; subst e2
      rw [if_pos ⟨rfl, rfl⟩]
      exact hz
    · rw [if_neg e]; exact h.1 c' k'
  · intro c' k' hm'
    rw [hu]
    unfold st
    by_cases e : c' = c ∧ k' = k
    · obtain ⟨e1, e2⟩ := e
      subst e1; subst e2
      rw [hm] at hm'; cases hm'
    · rw [if_neg e]; exact h.2.1 c' k' hm'
theorem g_st {S : List Nat} {b w u : Wd} {c k : Nat} {z : Int} (h : G S b w) (hu : u = st w c k z) (hm : mS S c k = true) (ht : tbf c k = true) (hz : (rg c k).1 ≤ z ∧ z ≤ (rg c k).2) : G S b u := by
  refine g_st0 h hu hm (tb_eq h.2.2 (fun p => ?_) ?_) hz
  · rw [hu]; exact st_c (tbf_67 ht)
  · rw [hu]; unfold st; rw [if_neg (tbf_43 ht)]
def sbS (T S : List Nat) : Bool := T.all fun x => S.contains x
theorem mS_sub {T S : List Nat} (h : sbS T S = true) {c k : Nat} (hm : mS S c k = false) : mS T c k = false := by
  unfold mS at *
  rw [Bool.or_eq_false_iff, Bool.and_eq_false_iff] at *
  have h1 : ∀ x, S.contains x = false → T.contains x = false := by
    intro x hx
    cases hT : T.contains x with
    | false => rfl
    | true =>
      have hT' : x ∈ T := List.contains_iff_mem.mp hT
      have h2 := List.all_eq_true.mp h x hT'
      rw [hx] at h2; cases h2
  exact ⟨h1 _ hm.1, hm.2.imp id (h1 _)⟩
theorem g_tr {S T : List Nat} {b w u : Wd} (h : G S b w) (h2 : G T w u) (hs : sbS T S = true) : G S b u :=
  ⟨h2.1, fun c k hm => (h2.2.1 c k (mS_sub hs hm)).trans (h.2.1 c k hm), h2.2.2⟩
theorem g_cpy {S : List Nat} {b w u : Wd} {s d : Nat} {sp dp n : Int} (h : G S b w) (hu : u = cpy w s d sp dp n) (hm : mS S d 99 = true) (ht : (d == 67 || d == 43) = false) (hz : ∀ j k, (rg d k).1 ≤ (rg s j).1 ∧ (rg s j).2 ≤ (rg d k).2) : G S b u := by
  have hm2 : ∀ k, mS S d k = true := by
    intro k
    unfold mS at *
    rw [Bool.or_eq_true] at *
    exact Or.inl (hm.elim id (fun h => by simp at h))
  have hn : d ≠ 67 ∧ d ≠ 43 := by
    rw [Bool.or_eq_false_iff] at ht
    exact ⟨by simpa using ht.1, by simpa using ht.2⟩
  refine ⟨?_, ?_, tb_eq h.2.2 (fun p => ?_) ?_⟩
  · intro c k
    rw [hu]
    unfold cpy
    split
    · rename_i e
      have h1 := h.1 s (sp.toNat + (k - dp.toNat))
      have h2 := hz (sp.toNat + (k - dp.toNat)) k
      rw [e.1]
      omega
    · exact h.1 c k
  · intro c k hm'
    rw [hu]
    unfold cpy
    split
    · rename_i e
      rw [e.1, hm2 k] at hm'; cases hm'
    · exact h.2.1 c k hm'
  · rw [hu]; unfold cpy; rw [if_neg (fun e => hn.1 e.1.symm)]
  · rw [hu]; unfold cpy; rw [if_neg (fun e => hn.2 e.1.symm)]
theorem r59_1 {k : Nat} (h : k % 31 % 3 = 1) : rg 59 k = (-1, 9) := by
  show (if k % 31 % 3 = 1 then _ else _) = _
  rw [if_pos h]
theorem r59_0 {k : Nat} (h : ¬ k % 31 % 3 = 1) : rg 59 k = (-2147483648, 2147483647) := by
  show (if k % 31 % 3 = 1 then _ else _) = _
  rw [if_neg h]
theorem r79_1 {k : Nat} (h : k % 105 < 31) (h1 : k % 105 % 3 = 1) : rg 79 k = (-1, 9) := by
  show (if k % 105 < 31 ∧ k % 105 % 3 = 1 then _ else _) = _
  rw [if_pos ⟨h, h1⟩]
theorem r79_w {k : Nat} (h : k % 105 = 43) : rg 79 k = (0, 60) := by
  show (if k % 105 < 31 ∧ k % 105 % 3 = 1 then _ else if k % 105 = 43 then _ else _) = _
  rw [if_neg (by omega), if_pos h]
theorem r79_0 {k : Nat} (h : ¬ (k % 105 < 31 ∧ k % 105 % 3 = 1)) (h1 : ¬ k % 105 = 43) : rg 79 k = (-2147483648, 2147483647) := by
  show (if k % 105 < 31 ∧ k % 105 % 3 = 1 then _ else if k % 105 = 43 then _ else _) = _
  rw [if_neg h, if_neg h1]
def md_T_append : List Nat := [101, 299]
def md_E_sign : List Nat := [101, 299]
def md_T_cut : List Nat := [101]
def md_E_end : List Nat := [101]
def md_T_signAt : List Nat := []
def md_L_take : List Nat := [905]
def md_L_readLine : List Nat := [902, 903, 904, 905, 1099, 1199]
def md_L_read : List Nat := [902, 903, 904, 905, 1099, 1199]
def md_T_clear : List Nat := [101]
def md_E_with : List Nat := []
def md_F_add : List Nat := [503, 699, 799, 899]
def md_L_settle : List Nat := [503, 504, 505, 699, 799, 899]
def md_O_guests : List Nat := []
def md_F_guests : List Nat := []
def md_D_noteGuests : List Nat := [1699]
def md_S_forget : List Nat := [2809]
def md_E_peopleCame : List Nat := [1504, 1699, 2809]
def md_E_land : List Nat := [101, 503, 504, 505, 699, 799, 899, 902, 903, 904, 905, 1099, 1199, 1504, 1699, 2809]
def md_W_strength : List Nat := []
def md_W_write : List Nat := [1905, 2199]
def md_W_release : List Nat := [1905, 1906, 2199]
def md_W_await : List Nat := [1906, 2299]
def md_W_takeDigit : List Nat := [1908, 2199]
def md_W_takeBehindThing : List Nat := [1905, 1906, 1907, 1908, 1909, 1910, 2199, 2299]
def md_W_isLetter : List Nat := []
def md_W_takeThing : List Nat := [1905, 1906, 1907, 1908, 1909, 1910, 2199, 2299]
def md_W_read : List Nat := [1904, 1905, 1906, 1907, 1908, 1909, 1910, 2099, 2199, 2299]
def md_E_rule : List Nat := [101, 1904, 1905, 1906, 1907, 1908, 1909, 1910, 2099, 2199, 2299]
def md_F_everybody : List Nat := []
def md_O_known : List Nat := []
def md_F_strangers : List Nat := []
def md_O_late : List Nat := []
def md_D_guestsBehind : List Nat := []
def md_D_firstWeekOf : List Nat := []
def md_E_law : List Nat := [507, 508, 2809]
def md_E_meet : List Nat := [799, 2809]
def md_E_hide : List Nat := [505, 2809]
def md_E_baby : List Nat := [503, 699, 799, 899, 1504, 1699, 2809]
def md_F_pricesOf : List Nat := []
def md_E_entry : List Nat := []
def md_JA_fill_6 : List Nat := [699]
def md_E_sheet : List Nat := [699]
def md_P_clear : List Nat := [1202, 1203]
def md_P_add : List Nat := [1202, 1203, 1399, 1499]
def md_P_read : List Nat := [1202, 1203, 1399, 1499]
def md_F_free : List Nat := []
def md_F_knownBy : List Nat := []
def md_P_firstWrongPair : List Nat := []
def md_D_noteAhead : List Nat := [1504, 1799, 1899]
def md_O_lateOne : List Nat := []
def md_O_lateTwo : List Nat := []
def md_O_out : List Nat := []
def md_O_after : List Nat := []
def md_P_bringer : List Nat := []
def md_P_whomOf : List Nat := []
def md_F_bring : List Nat := [899]
def md_E_pass : List Nat := [504, 506, 899, 1503, 1504, 1699, 1799, 1899, 2809]
def md_O_stay : List Nat := []
def md_JI_bitCount : List Nat := []
def md_F_guestsAfter : List Nat := []
def md_E_week : List Nat := [101, 504, 506, 899, 1202, 1203, 1399, 1499, 1503, 1504, 1699, 1799, 1899, 2809]
def md_N_clear : List Nat := [301]
def md_N_put : List Nat := [301, 499]
def md_N_tell1 : List Nat := [301, 499]
def md_N_tell2 : List Nat := [301, 499]
def md_W_thing : List Nat := []
def md_W_operate : List Nat := []
def md_W_value : List Nat := [2399]
def md_W_favourite : List Nat := [2399]
def md_P_follow : List Nat := [1202, 1203, 1399, 1499, 2399]
def md_E_goes : List Nat := [301, 499, 504, 506, 899, 1202, 1203, 1399, 1499, 1503, 1504, 1699, 1799, 1899, 2399, 2809]
def md_D_goBack : List Nat := [504, 506, 899, 1503, 1504]
def md_E_undo : List Nat := [504, 506, 899, 1503, 1504, 2809]
def md_M_prepare : List Nat := [2403, 2404, 2405, 2406, 2407, 2408, 2409]
def md_M_spread : List Nat := [2403, 2599, 2699, 2799]
def md_M_gather : List Nat := [2403, 2404, 2405, 2406, 2407, 2408, 2409, 2599, 2699, 2799]
def md_M_moversOf : List Nat := []
def md_E_can : List Nat := [301, 499, 2403, 2404, 2405, 2406, 2407, 2408, 2409, 2599, 2699, 2799]
def md_P_whom : List Nat := []
def md_E_picks : List Nat := [1202, 1203, 1399, 1499, 2399]
def md_E_largestWeek : List Nat := [2403, 2404, 2405, 2406, 2407, 2408, 2409, 2599, 2699, 2799]
def md_E_lowest : List Nat := []
def md_N_putFirst : List Nat := [301, 499]
def md_M_tellPairs : List Nat := [301, 499]
def md_E_pairs : List Nat := [301, 499, 2403, 2404, 2405, 2406, 2407, 2408, 2409, 2599, 2699, 2799]
def md_E_bars : List Nat := [301, 499, 2403, 2404, 2405, 2406, 2407, 2408, 2409, 2599, 2699, 2799]
def md_JA_fill_29 : List Nat := [2999]
def md_JA_fill_34 : List Nat := [3499]
def md_S_clear : List Nat := [2807, 2808, 2809, 2810, 2999, 3499]
def md_S_slotOf : List Nat := []
def md_O_rank : List Nat := []
def md_S_place : List Nat := [2807, 2810, 2999, 3099, 3199, 3399, 3499]
def md_S_guests : List Nat := []
def md_S_goOn : List Nat := [2403, 2404, 2405, 2406, 2407, 2408, 2409, 2599, 2699, 2799, 2807, 2810, 2999, 3099, 3199, 3399, 3499]
def md_S_run : List Nat := [2403, 2404, 2405, 2406, 2407, 2408, 2409, 2599, 2699, 2799, 2807, 2808, 2809, 2810, 2999, 3099, 3199, 3399, 3499, 3599]
def md_S_mostGuests : List Nat := []
def md_E_states : List Nat := [301, 499, 2403, 2404, 2405, 2406, 2407, 2408, 2409, 2599, 2699, 2799, 2807, 2808, 2809, 2810, 2999, 3099, 3199, 3399, 3499, 3599]
def md_S_weeksOf : List Nat := []
def md_S_canBe : List Nat := []
def md_E_most : List Nat := [301, 499, 2403, 2404, 2405, 2406, 2407, 2408, 2409, 2599, 2699, 2799, 2807, 2808, 2809, 2810, 2999, 3099, 3199, 3399, 3499, 3599]
def md_E_reach : List Nat := [301, 499, 2403, 2404, 2405, 2406, 2407, 2408, 2409, 2599, 2699, 2799, 2807, 2808, 2809, 2810, 2999, 3099, 3199, 3399, 3499, 3599]
def md_E_less : List Nat := []
def md_S_fewestGuests : List Nat := []
def md_E_fewest : List Nat := [2403, 2404, 2405, 2406, 2407, 2408, 2409, 2599, 2699, 2799, 2807, 2808, 2809, 2810, 2999, 3099, 3199, 3399, 3499, 3599]
def md_E_firstWeek : List Nat := []
def md_S_paidFor : List Nat := []
def md_E_crowd : List Nat := [301, 499, 2403, 2404, 2405, 2406, 2407, 2408, 2409, 2599, 2699, 2799, 2807, 2808, 2809, 2810, 2999, 3099, 3199, 3399, 3499, 3599]
def md_S_leastPaid : List Nat := []
def md_E_both : List Nat := [2403, 2404, 2405, 2406, 2407, 2408, 2409, 2599, 2699, 2799, 2807, 2808, 2809, 2810, 2999, 3099, 3199, 3399, 3499, 3599]
def md_S_weeksWith : List Nat := []
def md_S_lastWeek : List Nat := []
def md_E_last : List Nat := [301, 499, 2403, 2404, 2405, 2406, 2407, 2408, 2409, 2599, 2699, 2799, 2807, 2808, 2809, 2810, 2999, 3099, 3199, 3399, 3499, 3599]
def md_S_leftOf : List Nat := []
def md_S_leftBehind : List Nat := [2403, 2404, 2405, 2406, 2407, 2408, 2409, 2599, 2699, 2799]
def md_S_lookBack : List Nat := [2403, 2404, 2405, 2406, 2407, 2408, 2409, 2599, 2699, 2799, 3299]
def md_S_leads : List Nat := []
def md_E_firstThatLeads : List Nat := []
def md_E_tellFirstWeek : List Nat := [301, 499, 2403, 2404, 2405, 2406, 2407, 2408, 2409, 2599, 2699, 2799]
def md_E_begin : List Nat := [301, 499, 2403, 2404, 2405, 2406, 2407, 2408, 2409, 2599, 2699, 2799, 2807, 2808, 2809, 2810, 2999, 3099, 3199, 3299, 3399, 3499, 3599]
def md_E_cheap : List Nat := [301, 499, 2403, 2404, 2405, 2406, 2407, 2408, 2409, 2599, 2699, 2799, 2807, 2808, 2809, 2810, 2999, 3099, 3199, 3299, 3399, 3499, 3599]
def md_M_gatherBehind : List Nat := [2403, 2404, 2405, 2406, 2407, 2408, 2409, 2599, 2699, 2799]
def md_E_firstToBring : List Nat := [2403, 2404, 2405, 2406, 2407, 2408, 2409, 2599, 2699, 2799]
def md_E_stays : List Nat := [301, 499, 2403, 2404, 2405, 2406, 2407, 2408, 2409, 2599, 2699, 2799, 2807, 2808, 2809, 2810, 2999, 3099, 3199, 3299, 3399, 3499, 3599]
def md_E_soonest : List Nat := [2403, 2404, 2405, 2406, 2407, 2408, 2409, 2599, 2699, 2799, 2807, 2808, 2809, 2810, 2999, 3099, 3199, 3399, 3499, 3599]
def md_E_worth : List Nat := [2403, 2404, 2405, 2406, 2407, 2408, 2409, 2599, 2699, 2799, 2807, 2808, 2809, 2810, 2999, 3099, 3199, 3399, 3499, 3599]
def md_E_needed : List Nat := [2403, 2404, 2405, 2406, 2407, 2408, 2409, 2599, 2699, 2799, 2807, 2808, 2809, 2810, 2999, 3099, 3199, 3399, 3499, 3599]
def md_E_never : List Nat := [2403, 2404, 2405, 2406, 2407, 2408, 2409, 2599, 2699, 2799, 2807, 2808, 2809, 2810, 2999, 3099, 3199, 3399, 3499, 3599]
def md_E_bound : List Nat := []
def md_F_within : List Nat := []
def md_E_tellWay : List Nat := [301, 499]
def md_E_far : List Nat := [301, 499]
def md_F_broughtBy : List Nat := []
def md_E_line : List Nat := [301, 499]
def md_F_stepsUp : List Nat := []
def md_F_ledBy : List Nat := []
def md_E_led : List Nat := [301, 499]
def md_E_was : List Nat := []
def md_E_common : List Nat := []
def md_E_father : List Nat := [301, 499]
def md_K_take : List Nat := [3702, 3703, 3704, 3705, 3706, 3707, 3708, 3709, 3899, 3999]
def md_K_take_40_5_15 : List Nat := [4002, 4003, 4004, 4005, 4006, 4007, 4008, 4009, 4199, 4299]
def md_E_keep : List Nat := [3702, 3703, 3704, 3705, 3706, 3707, 3708, 3709, 3899, 3999, 4002, 4003, 4004, 4005, 4006, 4007, 4008, 4009, 4199, 4299]
def md_K_fits : List Nat := []
def md_K_giveBack : List Nat := [504, 505, 506, 507, 508, 899, 1503, 1504, 1699]
def md_K_giveBack_40_5_15 : List Nat := [504, 505, 506, 507, 508, 899, 1503, 1504, 1699]
def md_K_fits_40_5 : List Nat := []
def md_E_again : List Nat := [504, 505, 506, 507, 508, 899, 1503, 1504, 1699, 2809]
def md_E_count : List Nat := []
def md_N_number : List Nat := []
def md_R_thrown : List Nat := []
def md_R_has : List Nat := []
def md_R_lost : List Nat := [4316]
def md_R_those : List Nat := []
def md_R_guests : List Nat := []
def md_R_hidden : List Nat := []
def md_R_free : List Nat := []
def md_R_sign : List Nat := [4313, 4316, 5199]
def md_R_end : List Nat := [4313, 4316]
def md_R_here : List Nat := []
def md_R_fault : List Nat := [4321]
def md_R_passes : List Nat := [4320]
def md_R_begin1_43_51 : List Nat := [4317, 4318, 4319, 4320, 4321]
def md_R_told : List Nat := [4332, 4356, 5099]
def md_R_add : List Nat := [4499, 4599, 4699, 4799, 4899, 4999]
def md_R_readOne : List Nat := [4320, 4321, 5399, 5499, 5599, 5699]
def md_R_land : List Nat := [4300, 4313, 4316, 4317, 4318, 4319, 4320, 4321, 4332, 4356, 4499, 4599, 4699, 4799, 4899, 4999, 5099, 5399, 5499, 5599, 5699]
def md_R_letter : List Nat := []
def md_R_grp : List Nat := [4320, 4321]
def md_R_rule : List Nat := [4313, 4316, 4317, 4318, 4319, 4320, 4321, 4327, 4328, 5799]
def md_R_begin1_43_57 : List Nat := [4317, 4318, 4319, 4320, 4321]
def md_R_ruleFor : List Nat := [4317, 4318, 4319, 4320, 4321, 4328, 4329]
def md_R_of : List Nat := [4316]
def md_R_law : List Nat := [4310, 4311, 4316]
def md_R_meet : List Nat := [4316, 4599]
def md_R_hide : List Nat := [4316, 4699]
def md_R_baby : List Nat := [4300, 4316, 4332, 4356, 4499, 4599, 4699, 4799, 4899, 4999, 5099]
def md_R_sheet : List Nat := [4316, 4499]
def md_R_nobody : List Nat := [5899]
def md_R_broughtNow : List Nat := []
def md_R_guestsThen : List Nat := []
def md_R_lay_43_59 : List Nat := [5999]
def md_R_goWeek : List Nat := [4307, 4308, 4332, 4799, 4899, 4999, 5099, 5999]
def md_R_readLetter : List Nat := [4320, 4321]
def md_R_week : List Nat := [4307, 4308, 4313, 4316, 4317, 4318, 4319, 4320, 4321, 4332, 4799, 4899, 4999, 5099, 5899, 5999, 6099, 6199]
def md_R_choice : List Nat := [4317, 4318, 4319, 4320, 4321, 4328, 4329, 5899]
def md_R_findChoices : List Nat := [4317, 4318, 4319, 4320, 4321, 4328, 4329, 5899]
def md_R_goes : List Nat := [4307, 4308, 4315, 4316, 4317, 4318, 4319, 4320, 4321, 4328, 4329, 4332, 4799, 4899, 4999, 5099, 5299, 5899, 5999]
def md_R_bring_43_59 : List Nat := [4307, 4799, 4899, 4999]
def md_R_undo : List Nat := [4307, 4308, 4316, 4332, 4799, 4899, 4999]
def md_R_can : List Nat := [4315, 4316, 5299]
def md_R_picks : List Nat := [4316, 4317, 4318, 4319, 4320, 4321, 4328, 4329, 5899]
def md_R_findPairs : List Nat := [6299]
def md_R_pairs : List Nat := [4315, 4316, 5299, 6299]
def md_R_bars : List Nat := [4315, 4316, 5299]
def md_R_load : List Nat := [6899]
def md_R_stateOf : List Nat := [4340, 6399, 6699, 6799]
def md_R_behind : List Nat := [4340, 6399, 6699, 6799]
def md_R_goPairs : List Nat := [4340, 4341, 6399, 6599, 6699, 6799]
def md_R_codeNow : List Nat := []
def md_R_findStates : List Nat := [4340, 4341, 4344, 6399, 6499, 6599, 6699, 6799, 6899]
def md_R_guestsIn : List Nat := []
def md_R_strangersIn : List Nat := []
def md_R_costOf : List Nat := []
def md_R_states : List Nat := [4315, 4316, 4340, 4341, 4344, 5299, 6399, 6499, 6599, 6699, 6799, 6899]
def md_R_beginWeeks : List Nat := [6999]
def md_R_goOneWeek : List Nat := [6999, 7099]
def md_R_findWeek : List Nat := [4340, 4341, 4344, 6399, 6499, 6599, 6699, 6799, 6899, 6999, 7099]
def md_R_most : List Nat := [4315, 4316, 4340, 4341, 4344, 5299, 6399, 6499, 6599, 6699, 6799, 6899, 6999, 7099]
def md_R_reach : List Nat := [4315, 4316, 4340, 4341, 4344, 5299, 6399, 6499, 6599, 6699, 6799, 6899, 6999, 7099]
def md_R_fewest : List Nat := [4316, 4340, 4341, 4344, 6399, 6499, 6599, 6699, 6799, 6899, 6999, 7099]
def md_R_leastPaid : List Nat := []
def md_R_crowd : List Nat := [4315, 4316, 4340, 4341, 4344, 5299, 6399, 6499, 6599, 6699, 6799, 6899, 6999, 7099]
def md_R_both : List Nat := [4316, 4340, 4341, 4344, 6399, 6499, 6599, 6699, 6799, 6899, 6999, 7099]
def md_R_findOrder : List Nat := [7299, 7399]
def md_R_findLife : List Nat := [7199, 7299, 7399]
def md_R_all : List Nat := []
def md_R_last : List Nat := [4315, 4316, 4340, 4341, 4344, 5299, 6399, 6499, 6599, 6699, 6799, 6899, 6999, 7099, 7199, 7299, 7399]
def md_R_tellPairs : List Nat := [4315, 4340, 4352, 5299, 6399, 6699, 6799, 7599]
def md_R_tellFirst : List Nat := [4315, 4340, 4352, 5299, 6399, 6699, 6799, 6899, 7599]
def md_R_findNext : List Nat := [7699]
def md_R_isNext : List Nat := []
def md_R_begin2 : List Nat := [4315, 4316, 4340, 4341, 4344, 4352, 5299, 6399, 6499, 6599, 6699, 6799, 6899, 7199, 7299, 7399, 7499, 7599, 7699]
def md_R_cheap : List Nat := [4315, 4316, 4340, 4341, 4344, 4352, 5299, 6399, 6499, 6599, 6699, 6799, 6899, 7299, 7399, 7499, 7599, 7699, 7799]
def md_R_canWant : List Nat := [4340, 6399, 6699, 6799]
def md_R_stays : List Nat := [4315, 4316, 4340, 4341, 4344, 5299, 6399, 6499, 6599, 6699, 6799, 6899, 7199, 7299, 7399, 7499, 7699]
def md_R_isThere : List Nat := []
def md_R_soonest : List Nat := [4316, 4340, 4341, 4344, 6399, 6499, 6599, 6699, 6799, 6899, 6999, 7099]
def md_R_lastWith : List Nat := [4340, 4341, 4344, 6399, 6499, 6599, 6699, 6799, 6899, 7199, 7299, 7399]
def md_R_worth : List Nat := [4316, 4340, 4341, 4344, 6399, 6499, 6599, 6699, 6799, 6899, 7199, 7299, 7399]
def md_R_needed : List Nat := [4316, 4340, 4341, 4344, 6399, 6499, 6599, 6699, 6799, 6899, 7199, 7299, 7399]
def md_R_never : List Nat := [4316, 4340, 4341, 4344, 6399, 6499, 6599, 6699, 6799, 6899]
def md_R_bound : List Nat := [4316]
def md_R_far : List Nat := [4315, 4316, 5299, 7899]
def md_R_ledBy : List Nat := []
def md_R_line : List Nat := [4315, 4316, 5299]
def md_R_depthUnder : List Nat := []
def md_R_led : List Nat := [4315, 4316, 5299]
def md_R_was : List Nat := [4316]
def md_R_common : List Nat := [4316]
def md_R_father : List Nat := [4315, 4316, 5299]
def md_R_lay_43_79 : List Nat := [7999]
def md_R_keep : List Nat := [4316, 7999, 8099, 8199]
def md_R_bring_43_79 : List Nat := [4307, 4799, 4899, 4999]
def md_R_again : List Nat := [4307, 4308, 4310, 4311, 4316, 4332, 4699, 4799, 4899, 4999, 5099]
def md_R_count : List Nat := [4316]
def md_R_row : List Nat := [4316]
def md_E_of : List Nat := []
def md_E_row : List Nat := []
end
