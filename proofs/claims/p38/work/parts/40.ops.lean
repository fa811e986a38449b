/-! BOUNDS OF WHAT IS RECKONED -/
theorem w32_sp (z : Int) : -2147483648 ≤ w32 z ∧ w32 z ≤ 2147483647 ∧ (z < -2147483648 ∨ 2147483647 < z ∨ w32 z = z) := by
  unfold w32 Int.bmod
  simp only
  split <;> omega
theorem i32_rg (x : Int32) : -2147483648 ≤ x.toInt ∧ x.toInt ≤ 2147483647 := ⟨x.le_toInt, by have := x.toInt_lt; omega⟩
theorem ofInt_toInt {z : Int} (h1 : -2147483648 ≤ z) (h2 : z ≤ 2147483647) : (Int32.ofInt z).toInt = z := Int32.toInt_ofInt_of_le h1 (by omega)
theorem bv_nn {x : BitVec 32} (h : 0 ≤ x.toInt) : x.toInt = (x.toNat : Int) ∧ x.toNat < 2147483648 := by
  have := BitVec.toInt_eq_toNat_cond x
  split at this
  · constructor
    · exact this
    · omega
  · omega
theorem bv_lt {x : BitVec 32} (h : x.toNat < 2147483648) : x.toInt = (x.toNat : Int) := by
  have := BitVec.toInt_eq_toNat_cond x
  split at this
  · exact this
  · omega
theorem and_l {x y : Int32} (h : 0 ≤ x.toInt) : 0 ≤ (x &&& y).toInt ∧ (x &&& y).toInt ≤ x.toInt := by
  have h' : 0 ≤ x.toBitVec.toInt := h
  obtain ⟨e, l⟩ := bv_nn h'
  have hl : (x &&& y).toBitVec.toNat ≤ x.toBitVec.toNat := by
    rw [Int32.toBitVec_and, BitVec.toNat_and]
    exact Nat.and_le_left
  have e2 : (x &&& y).toInt = (((x &&& y).toBitVec.toNat : Nat) : Int) := bv_lt (by omega)
  have e3 : x.toInt = ((x.toBitVec.toNat : Nat) : Int) := e
  omega
theorem and_r {x y : Int32} (h : 0 ≤ y.toInt) : 0 ≤ (x &&& y).toInt ∧ (x &&& y).toInt ≤ y.toInt := by
  rw [Int32.and_comm]
  exact and_l h
theorem iand_rg (x y : Int) : -2147483648 ≤ iand x y ∧ iand x y ≤ 2147483647 := i32_rg _
theorem ior_rg (x y : Int) : -2147483648 ≤ ior x y ∧ ior x y ≤ 2147483647 := i32_rg _
theorem ixor_rg (x y : Int) : -2147483648 ≤ ixor x y ∧ ixor x y ≤ 2147483647 := i32_rg _
theorem ishl_rg (x y : Int) : -2147483648 ≤ ishl x y ∧ ishl x y ≤ 2147483647 := i32_rg _
theorem ishr_rg (x y : Int) : -2147483648 ≤ ishr x y ∧ ishr x y ≤ 2147483647 := i32_rg _
theorem iush_rg (x y : Int) : -2147483648 ≤ iush x y ∧ iush x y ≤ 2147483647 := i32_rg _
theorem idiv_rg (x y : Int) : -2147483648 ≤ idiv x y ∧ idiv x y ≤ 2147483647 := i32_rg _
theorem irem_rg (x y : Int) : -2147483648 ≤ irem x y ∧ irem x y ≤ 2147483647 := i32_rg _
theorem iand_l {x y : Int} (h : 0 ≤ x ∧ x ≤ 2147483647) : 0 ≤ iand x y ∧ iand x y ≤ x := by
  have e := ofInt_toInt (z := x) (by omega) h.2
  have h1 := and_l (x := Int32.ofInt x) (y := Int32.ofInt y) (by omega)
  unfold iand
  omega
theorem iand_r {x y : Int} (h : 0 ≤ y ∧ y ≤ 2147483647) : 0 ≤ iand x y ∧ iand x y ≤ y := by
  have e := ofInt_toInt (z := y) (by omega) h.2
  have h1 := and_r (x := Int32.ofInt x) (y := Int32.ofInt y) (by omega)
  unfold iand
  omega
theorem or_n {x y : Int32} {n : Nat} (hn : n ≤ 31) (hx : 0 ≤ x.toInt ∧ x.toInt < ((2 ^ n : Nat) : Int)) (hy : 0 ≤ y.toInt ∧ y.toInt < ((2 ^ n : Nat) : Int)) : 0 ≤ (x ||| y).toInt ∧ (x ||| y).toInt < ((2 ^ n : Nat) : Int) := by
  have hx' : 0 ≤ x.toBitVec.toInt := hx.1
  have hy' : 0 ≤ y.toBitVec.toInt := hy.1
  obtain ⟨ex, lx⟩ := bv_nn hx'
  obtain ⟨ey, ly⟩ := bv_nn hy'
  have ex' : x.toInt = ((x.toBitVec.toNat : Nat) : Int) := ex
  have ey' : y.toInt = ((y.toBitVec.toNat : Nat) : Int) := ey
  have hl : (x ||| y).toBitVec.toNat < 2 ^ n := by
    rw [Int32.toBitVec_or, BitVec.toNat_or]
    exact Nat.or_lt_two_pow (by omega) (by omega)
  have h31 : 2 ^ n ≤ 2 ^ 31 := Nat.pow_le_pow_right (by decide) hn
  have e2 : (x ||| y).toInt = (((x ||| y).toBitVec.toNat : Nat) : Int) := bv_lt (by omega)
  omega
theorem ior_n (n : Nat) {x y m : Int} (hn : n ≤ 31) (hm : m + 1 = ((2 ^ n : Nat) : Int)) (hx : 0 ≤ x ∧ x ≤ m) (hy : 0 ≤ y ∧ y ≤ m) : 0 ≤ ior x y ∧ ior x y ≤ m := by
  have h31 : 2 ^ n ≤ 2 ^ 31 := Nat.pow_le_pow_right (by decide) hn
  have h31' : ((2 ^ n : Nat) : Int) ≤ 2147483648 := by
    have : ((2 ^ 31 : Nat) : Int) = 2147483648 := by decide
    omega
  have ex := ofInt_toInt (z := x) (by omega) (by omega)
  have ey := ofInt_toInt (z := y) (by omega) (by omega)
  have h := or_n (x := Int32.ofInt x) (y := Int32.ofInt y) hn (by omega) (by omega)
  unfold ior
  omega
theorem not_i32 (x : Int32) : x ^^^ (-1) = ~~~ x := by
  apply Int32.toBitVec_inj.mp
  rw [Int32.toBitVec_xor, Int32.toBitVec_not]
  show x.toBitVec ^^^ (BitVec.allOnes 32) = _
  rw [BitVec.xor_allOnes]
theorem ixor_m1 {x : Int} (h : -2147483648 ≤ x ∧ x ≤ 2147483647) : ixor x (-1) = -1 - x := by
  have ex := ofInt_toInt (z := x) h.1 h.2
  unfold ixor
  rw [show Int32.ofInt (-1) = -1 from by decide, not_i32]
  rw [show (~~~ Int32.ofInt x).toInt = (~~~ (Int32.ofInt x).toBitVec).toInt from by rw [← Int32.toBitVec_not]; rfl, BitVec.toInt_not]
  have ex' : (Int32.ofInt x).toBitVec.toInt = x := ex
  have e2 := BitVec.toInt_eq_toNat_bmod (Int32.ofInt x).toBitVec
  rw [ex'] at e2
  generalize (Int32.ofInt x).toBitVec.toNat = t at *
  unfold Int.bmod at *
  simp only at *
  split at e2 <;> split <;> omega
theorem ishl1 {i : Int} (h : 0 ≤ i ∧ i ≤ 30) : ishl 1 i = ((2 ^ i.toNat : Nat) : Int) := by
  have h1 : (List.range 31).all (fun n => decide (ishl 1 (n : Int) = ((2 ^ n : Nat) : Int))) = true := by decide +kernel
  have h2 := List.all_eq_true.mp h1 i.toNat (List.mem_range.mpr (by omega))
  have h3 := of_decide_eq_true h2
  rw [Int.toNat_of_nonneg h.1] at h3
  exact h3
theorem ishl1_n (n : Nat) {i j m : Int} (hn : n ≤ 30) (hj : j = (n : Int)) (hm : m = ((2 ^ n : Nat) : Int)) (h : 0 ≤ i ∧ i ≤ j) : 1 ≤ ishl 1 i ∧ ishl 1 i ≤ m := by
  rw [ishl1 (by omega)]
  have h1 : 2 ^ i.toNat ≤ 2 ^ n := Nat.pow_le_pow_right (by decide) (by omega)
  have h2 : 1 ≤ 2 ^ i.toNat := Nat.one_le_two_pow
  omega
theorem toNat_shl {x : Int32} {k : Nat} (hk : k < 32) (hx : 0 ≤ x.toInt) (hs : x.toInt * ((2 ^ k : Nat) : Int) ≤ 2147483647) : (x <<< (Int32.ofInt (k : Int) &&& 31)).toInt = x.toInt * ((2 ^ k : Nat) : Int) := by
  have hx' : 0 ≤ x.toBitVec.toInt := hx
  obtain ⟨ex, lx⟩ := bv_nn hx'
  have ex' : x.toInt = ((x.toBitVec.toNat : Nat) : Int) := ex
  have hh : (List.range 32).all (fun k => decide ((Int32.ofInt (k : Int) &&& 31).toBitVec.smod 32 = BitVec.ofNat 32 k)) = true := by decide +kernel
  have h2 := of_decide_eq_true (List.all_eq_true.mp hh k (List.mem_range.mpr hk))
  have e : (x <<< (Int32.ofInt (k : Int) &&& 31)).toBitVec = x.toBitVec <<< k := by
    rw [Int32.toBitVec_shiftLeft, h2]
    rw [BitVec.shiftLeft_eq']
    rw [BitVec.toNat_ofNat, Nat.mod_eq_of_lt (by omega)]
  have hm : x.toBitVec.toNat * 2 ^ k < 2147483648 := by
    have : ((x.toBitVec.toNat * 2 ^ k : Nat) : Int) ≤ 2147483647 := by
      rw [Int.natCast_mul, ← ex']; exact hs
    omega
  have e2 : (x <<< (Int32.ofInt (k : Int) &&& 31)).toBitVec.toNat = x.toBitVec.toNat * 2 ^ k := by
    rw [e, BitVec.toNat_shiftLeft, Nat.shiftLeft_eq, Nat.mod_eq_of_lt (by omega)]
  have e3 : (x <<< (Int32.ofInt (k : Int) &&& 31)).toInt = (((x <<< (Int32.ofInt (k : Int) &&& 31)).toBitVec.toNat : Nat) : Int) := bv_lt (by omega)
  rw [e3, e2, ex', Int.natCast_mul]
theorem ishl_k (k : Nat) {x y m : Int} (hy : y = (k : Int)) (hk : k < 32) (hm : m = ((2 ^ k : Nat) : Int)) (hx : 0 ≤ x) (hs : x * m ≤ 2147483647) (hx2 : x ≤ 2147483647) : ishl x y = x * m := by
  subst hy; subst hm
  have ex := ofInt_toInt (z := x) (by omega) hx2
  unfold ishl
  rw [toNat_shl hk (by omega) (by rw [ex]; exact hs), ex]
theorem ishr_nn {x y : Int} (h : 0 ≤ x ∧ x ≤ 2147483647) : 0 ≤ ishr x y ∧ ishr x y ≤ x := by
  have ex := ofInt_toInt (z := x) (by omega) h.2
  have ex' : (Int32.ofInt x).toBitVec.toInt = x := ex
  unfold ishr
  have e : (Int32.ofInt x >>> (Int32.ofInt y &&& 31)).toInt = ((Int32.ofInt x >>> (Int32.ofInt y &&& 31)).toBitVec).toInt := rfl
  rw [e, Int32.toBitVec_shiftRight]
  rw [BitVec.sshiftRight', BitVec.toInt_sshiftRight, ex', Int.shiftRight_eq_div_pow]
  generalize ((Int32.ofInt y &&& 31).toBitVec.smod 32).toNat = k
  have h2 : (0 : Int) < ((2 ^ k : Nat) : Int) := by
    have : 0 < 2 ^ k := Nat.two_pow_pos k
    omega
  constructor
  · exact Int.ediv_nonneg h.1 (Int.le_of_lt h2)
  · exact Int.ediv_le_self _ h.1
theorem iush_k (k : Nat) {x y m : Int} (hy : y = (k : Int)) (h0 : 0 < k) (hk : k < 32) (hm : m + 1 = ((2 ^ (32 - k) : Nat) : Int)) : 0 ≤ iush x y ∧ iush x y ≤ m := by
  subst hy
  have hh : (List.range 32).all (fun k => decide (((Int32.ofInt (k : Int)).toUInt32 &&& Int32.toUInt32 31).toNat % 32 = k)) = true := by decide +kernel
  have h2 := of_decide_eq_true (List.all_eq_true.mp hh k (List.mem_range.mpr hk))
  unfold iush
  generalize (Int32.ofInt x).toUInt32 = u at *
  generalize (Int32.ofInt (k : Int)).toUInt32 &&& Int32.toUInt32 31 = s at *
  have e : (u >>> s).toNat = u.toNat / 2 ^ k := by
    rw [UInt32.toNat_shiftRight, h2, Nat.shiftRight_eq_div_pow]
  have hu : u.toNat < 2 ^ 32 := u.toNat_lt
  have hd : u.toNat / 2 ^ k < 2 ^ (32 - k) := by
    apply Nat.div_lt_of_lt_mul
    rw [← Nat.pow_add]
    have : k + (32 - k) = 32 := by omega
    rw [this]; exact hu
  have h31 : 2 ^ (32 - k) ≤ 2 ^ 31 := Nat.pow_le_pow_right (by decide) (by omega)
  have e2 : (u >>> s).toInt32.toInt = (((u >>> s).toNat : Nat) : Int) := by
    have : (u >>> s).toInt32.toBitVec.toNat = (u >>> s).toNat := rfl
    have h3 : (u >>> s).toInt32.toBitVec.toInt = (((u >>> s).toInt32.toBitVec.toNat : Nat) : Int) := bv_lt (by omega)
    exact h3
  omega
theorem idiv_k {x c : Int} (hc : 0 < c ∧ c ≤ 2147483647) (h : 0 ≤ x ∧ x ≤ 2147483647) : idiv x c = x / c := by
  have ex := ofInt_toInt (z := x) (by omega) h.2
  have ec := ofInt_toInt (z := c) (by omega) hc.2
  unfold idiv
  rw [Int32.toInt_div, ex, ec]
  rw [Int.tdiv_eq_ediv_of_nonneg h.1]
  have h1 : 0 ≤ x / c := Int.ediv_nonneg h.1 (by omega)
  have h2 : x / c ≤ x := Int.ediv_le_self _ h.1
  generalize x / c = q at *
  unfold Int.bmod
  simp only
  split <;> omega
theorem bm_id {z : Int} (h1 : -2147483648 ≤ z) (h2 : z ≤ 2147483647) : z.bmod (2 ^ 32) = z := by
  unfold Int.bmod
  simp only
  split <;> omega
theorem irem_k {x c : Int} (hc : 0 < c ∧ c ≤ 2147483647) (h : 0 ≤ x ∧ x ≤ 2147483647) : irem x c = x % c := by
  have ex := ofInt_toInt (z := x) (by omega) h.2
  have ec := ofInt_toInt (z := c) (by omega) hc.2
  unfold irem
  rw [Int32.toInt_sub, Int32.toInt_mul, Int32.toInt_div, ex, ec]
  rw [Int.tdiv_eq_ediv_of_nonneg h.1]
  have h1 : 0 ≤ x / c := Int.ediv_nonneg h.1 (by omega)
  have h2 : x / c ≤ x := Int.ediv_le_self _ h.1
  have h3 : x / c * c ≤ x := Int.ediv_mul_le x (by omega)
  have h4 : 0 ≤ x / c * c := Int.mul_nonneg h1 (by omega)
  rw [bm_id (z := x / c) (by omega) (by omega), bm_id (z := x / c * c) (by omega) (by omega)]
  have h5 : x % c = x - x / c * c := by
    have := Int.ediv_mul_add_emod x c
    omega
  rw [h5]
  exact bm_id (by omega) (by omega)
theorem irem_rg2 {x c : Int} (hc : 0 < c ∧ c ≤ 2147483647) (h : 0 ≤ x ∧ x ≤ 2147483647) : 0 ≤ irem x c ∧ irem x c ≤ c - 1 := by
  rw [irem_k hc h]
  have h1 := Int.emod_nonneg x (show c ≠ 0 by omega)
  have h2 := Int.emod_lt_of_pos x (show 0 < c by omega)
  omega
theorem i64_rg (x : Int64) : -9223372036854775808 ≤ x.toInt ∧ x.toInt ≤ 9223372036854775807 := ⟨x.le_toInt, by have := x.toInt_lt; omega⟩
theorem land_rg (x y : Int) : -9223372036854775808 ≤ land x y ∧ land x y ≤ 9223372036854775807 := i64_rg _
theorem lor_rg (x y : Int) : -9223372036854775808 ≤ lor x y ∧ lor x y ≤ 9223372036854775807 := i64_rg _
theorem lshl_rg (x y : Int) : -9223372036854775808 ≤ lshl x y ∧ lshl x y ≤ 9223372036854775807 := i64_rg _
theorem lshr_rg (x y : Int) : -9223372036854775808 ≤ lshr x y ∧ lshr x y ≤ 9223372036854775807 := i64_rg _
theorem w64_rg (z : Int) : -9223372036854775808 ≤ w64 z ∧ w64 z ≤ 9223372036854775807 := by
  unfold w64 Int.bmod
  simp only
  split <;> omega
theorem i8_rg (x : Int8) : -128 ≤ x.toInt ∧ x.toInt ≤ 127 := ⟨x.le_toInt, by have := x.toInt_lt; omega⟩
theorem i2b_rg (x : Int) : -128 ≤ i2b x ∧ i2b x ≤ 127 := by
  unfold i2b
  rw [Int8.toInt_toInt32]
  exact i8_rg _
theorem i2s_rg (x : Int) : -32768 ≤ i2s x ∧ i2s x ≤ 32767 := by
  unfold i2s
  rw [Int16.toInt_toInt32]
  exact ⟨Int16.le_toInt _, by have := Int16.toInt_lt ((Int32.ofInt x).toInt16); omega⟩
theorem i2c_rg (x : Int) : 0 ≤ i2c x ∧ i2c x ≤ 65535 := by
  unfold i2c
  generalize (Int32.ofInt x).toUInt32 = u
  have h : (u % 65536).toNat < 65536 := by
    rw [UInt32.toNat_mod]
    exact Nat.mod_lt _ (by decide)
  have e2 : (u % 65536).toInt32.toInt = (((u % 65536).toNat : Nat) : Int) := by
    have : (u % 65536).toInt32.toBitVec.toNat = (u % 65536).toNat := rfl
    have h3 : (u % 65536).toInt32.toBitVec.toInt = (((u % 65536).toInt32.toBitVec.toNat : Nat) : Int) := bv_lt (by omega)
    exact h3
  omega
theorem lcmp_rg (x y : Int) : -1 ≤ lcmp x y ∧ lcmp x y ≤ 1 := by
  unfold lcmp
  split
  · decide
  · split <;> decide
theorem imax_sp (x y : Int) : (x < y ∧ imax x y = y) ∨ (y ≤ x ∧ imax x y = x) := by
  unfold imax; split <;> omega
theorem imin_sp (x y : Int) : (y < x ∧ imin x y = y) ∨ (x ≤ y ∧ imin x y = x) := by
  unfold imin; split <;> omega
theorem irem_any {x c : Int} (hc : 0 < c ∧ c ≤ 2147483647) (h : -2147483648 ≤ x ∧ x ≤ 2147483647) : -(c - 1) ≤ irem x c ∧ irem x c ≤ c - 1 := by
  by_cases h0 : 0 ≤ x
  · have := irem_rg2 hc ⟨h0, h.2⟩
    omega
  · have ex := ofInt_toInt (z := x) (by omega) h.2
    have ec := ofInt_toInt (z := c) (by omega) hc.2
    unfold irem
    rw [Int32.toInt_sub, Int32.toInt_mul, Int32.toInt_div, ex, ec]
    have e : x.tdiv c = -((-x) / c) := by
      have h1 : x = -(-x) := by omega
      rw [h1, Int.neg_tdiv, Int.tdiv_eq_ediv_of_nonneg (by omega), Int.neg_neg]
    rw [e]
    have h1 : 0 ≤ (-x) / c := Int.ediv_nonneg (by omega) (by omega)
    have h3 : (-x) / c * c ≤ -x := Int.ediv_mul_le (-x) (by omega)
    have h4 : 0 ≤ (-x) / c * c := Int.mul_nonneg h1 (by omega)
    have h5 : -x < ((-x) / c + 1) * c := Int.lt_ediv_add_one_mul_self (-x) (by omega)
    rw [Int.add_mul, Int.one_mul] at h5
    have h6 : (-x) / c ≤ -x := Int.ediv_le_self _ (by omega)
    rw [bm_id (z := -((-x) / c)) (by omega) (by omega), Int.neg_mul, bm_id (z := -((-x) / c * c)) (by omega) (by omega)]
    generalize (-x) / c * c = t at *
    rw [bm_id (by omega) (by omega)]
    omega
theorem or_ge {x y : Int32} (hx : 0 ≤ x.toInt) (hy : 0 ≤ y.toInt) : x.toInt ≤ (x ||| y).toInt := by
  have hx' : 0 ≤ x.toBitVec.toInt := hx
  have hy' : 0 ≤ y.toBitVec.toInt := hy
  obtain ⟨ex, lx⟩ := bv_nn hx'
  obtain ⟨ey, ly⟩ := bv_nn hy'
  have ex' : x.toInt = ((x.toBitVec.toNat : Nat) : Int) := ex
  have hl : (x ||| y).toBitVec.toNat < 2 ^ 31 := by
    rw [Int32.toBitVec_or, BitVec.toNat_or]
    exact Nat.or_lt_two_pow (by omega) (by omega)
  have hg : x.toBitVec.toNat ≤ (x ||| y).toBitVec.toNat := by
    rw [Int32.toBitVec_or, BitVec.toNat_or]
    exact Nat.left_le_or
  have e2 : (x ||| y).toInt = (((x ||| y).toBitVec.toNat : Nat) : Int) := bv_lt (by omega)
  omega
theorem ior_ge {x y : Int} (hx : 0 ≤ x ∧ x ≤ 2147483647) (hy : 0 ≤ y ∧ y ≤ 2147483647) : x ≤ ior x y := by
  have ex := ofInt_toInt (z := x) (by omega) (by omega)
  have ey := ofInt_toInt (z := y) (by omega) (by omega)
  have h := or_ge (x := Int32.ofInt x) (y := Int32.ofInt y) (by omega) (by omega)
  unfold ior
  omega
theorem nb_rg (x : Int) : -128 ≤ nb x ∧ nb x ≤ 127 := by
  show -128 ≤ ((Int32.ofInt x).toInt8.toInt32).toInt ∧ ((Int32.ofInt x).toInt8.toInt32).toInt ≤ 127
  rw [Int8.toInt_toInt32]
  exact i8_rg _
theorem nz_rg (x : Int) : 0 ≤ nz x ∧ nz x ≤ 1 := and_r (x := Int32.ofInt x) (y := 1) (by decide)
theorem nc_rg (x : Int) : 0 ≤ nc x ∧ nc x ≤ 65535 := by
  show 0 ≤ ((Int32.ofInt x).toUInt32.toUInt16.toUInt32.toInt32).toInt ∧ ((Int32.ofInt x).toUInt32.toUInt16.toUInt32.toInt32).toInt ≤ 65535
  generalize (Int32.ofInt x).toUInt32.toUInt16 = u
  have h : u.toUInt32.toNat < 65536 := by
    rw [UInt16.toNat_toUInt32]
    exact u.toNat_lt
  have e2 : u.toUInt32.toInt32.toInt = ((u.toUInt32.toNat : Nat) : Int) := by
    have : u.toUInt32.toInt32.toBitVec.toNat = u.toUInt32.toNat := rfl
    have h3 : u.toUInt32.toInt32.toBitVec.toInt = ((u.toUInt32.toInt32.toBitVec.toNat : Nat) : Int) := bv_lt (by omega)
    exact h3
  omega
