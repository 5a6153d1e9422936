/-! numbers: the machine's operations as those of the integers; reads of what was written -/
section ZNUM
variable {x y : Int} {a b k : Nat}
theorem zsub_bm : zsub x y = (x - y).bmod 4294967296 := by
  unfold zsub
  rw [Int32.toInt_sub, Int32.toInt_ofInt, Int32.toInt_ofInt]
  show ((x.bmod 4294967296) - (y.bmod 4294967296)).bmod 4294967296 = _
  rw [Int.bmod_sub_bmod, Int.sub_bmod_bmod]
theorem zmul_bm : zmul x y = (x * y).bmod 4294967296 := by
  unfold zmul
  rw [Int32.toInt_mul, Int32.toInt_ofInt, Int32.toInt_ofInt]
  show ((x.bmod 4294967296) * (y.bmod 4294967296)).bmod 4294967296 = _
  rw [Int.bmod_mul_bmod, Int.mul_bmod_bmod]
theorem zsub_ok (h0 : -2147483648 ≤ x - y) (h1 : x - y < 2147483648) : zsub x y = x - y := by rw [zsub_bm, zbm h0 h1]
theorem zmul_ok (h0 : -2147483648 ≤ x * y) (h1 : x * y < 2147483648) : zmul x y = x * y := by rw [zmul_bm, zbm h0 h1]
theorem z32 (h0 : -2147483648 ≤ x) (h1 : x < 2147483648) : (Int32.ofInt x).toInt = x := by
  rw [Int32.toInt_ofInt]
  exact zbm h0 h1
theorem zdivT (h0 : -2147483648 ≤ x) (h1 : x < 2147483648) (h2 : 0 < y) (h3 : y < 2147483648) : (Int32.ofInt x / Int32.ofInt y).toInt = (x.tdiv y).bmod 4294967296 := by
  rw [Int32.toInt_div, z32 h0 h1, z32 (by omega) h3]
theorem zdiv_ok (h0 : 0 ≤ x) (h1 : x < 2147483648) (h2 : 0 < y) (h3 : y < 2147483648) : zdiv x y = x / y := by
  unfold zdiv
  rw [zdivT (by omega) h1 h2 h3, Int.tdiv_eq_ediv_of_nonneg h0]
  have a1 := Int.ediv_nonneg h0 (Int.le_of_lt h2)
  have a2 := Int.ediv_le_self y h0
  exact zbm (by omega) (by omega)
theorem zdiv_np (h0 : -2147483648 ≤ x) (h1 : x ≤ 0) (h2 : 0 < y) (h3 : y < 2147483648) : zdiv x y ≤ 0 := by
  unfold zdiv
  rw [zdivT h0 (by omega) h2 h3]
  obtain ⟨u, rfl⟩ : ∃ u, x = -u := ⟨-x, by omega⟩
  rw [Int.neg_tdiv, Int.tdiv_eq_ediv_of_nonneg (by omega)]
  have a1 := Int.ediv_nonneg (show 0 ≤ u by omega) (Int.le_of_lt h2)
  have a2 := Int.ediv_le_self y (show 0 ≤ u by omega)
  rw [zbm (by omega) (by omega)]
  omega
theorem zrem_ok (h0 : 0 ≤ x) (h1 : x < 2147483648) (h2 : 0 < y) (h3 : y < 2147483648) : zrem x y = x % y := by
  unfold zrem
  have e : (Int32.ofInt x / Int32.ofInt y).toInt = x / y := zdiv_ok h0 h1 h2 h3
  have a1 := Int.ediv_nonneg h0 (Int.le_of_lt h2)
  have a3 : x / y * y + x % y = x := Int.ediv_mul_add_emod x y
  have a4 := Int.emod_nonneg x (show y ≠ 0 by omega)
  have a5 := Int.emod_lt_of_pos x h2
  have a6 : 0 ≤ x / y * y := Int.mul_nonneg a1 (Int.le_of_lt h2)
  have e2 : (Int32.ofInt x / Int32.ofInt y * Int32.ofInt y).toInt = x / y * y := by
    rw [Int32.toInt_mul, e, z32 (by omega) h3]
    exact zbm (by omega) (by omega)
  rw [Int32.toInt_sub, e2, z32 (by omega) h1]
  show (x - x / y * y).bmod 4294967296 = _
  rw [zbm (by omega) (by omega)]
  omega
theorem zbW {v : BitVec 32} (h : v.toNat < 2147483648) : v.toInt = v.toNat := by
  rw [BitVec.toInt_eq_toNat_of_lt (by omega)]
theorem zof (h : a < 2147483648) : (Int32.ofInt (a : Int)).toBitVec.toNat = a := by
  show (BitVec.ofInt 32 (a : Int)).toNat = a
  rw [BitVec.toNat_ofInt]
  omega
theorem zand_n (ha : a < 2147483648) (hb : b < 2147483648) : zand a b = ((a &&& b : Nat) : Int) := by
  unfold zand
  show ((Int32.ofInt (a : Int) &&& Int32.ofInt (b : Int)).toBitVec).toInt = _
  have e : ((Int32.ofInt (a : Int) &&& Int32.ofInt (b : Int)).toBitVec).toNat = a &&& b := by rw [Int32.toBitVec_and, BitVec.toNat_and, zof ha, zof hb]
  have h2 : a &&& b ≤ a := Nat.and_le_left
  rw [zbW (by rw [e]; omega), e]
theorem zor_n (ha : a < 2147483648) (hb : b < 2147483648) : zor a b = ((a ||| b : Nat) : Int) := by
  unfold zor
  show ((Int32.ofInt (a : Int) ||| Int32.ofInt (b : Int)).toBitVec).toInt = _
  have e : ((Int32.ofInt (a : Int) ||| Int32.ofInt (b : Int)).toBitVec).toNat = a ||| b := by rw [Int32.toBitVec_or, BitVec.toNat_or, zof ha, zof hb]
  have h2 : a ||| b < 2 ^ 31 := Nat.or_lt_two_pow ha hb
  rw [zbW (by rw [e]; omega), e]
theorem zs32 : ∀ n : Nat, n < 32 → ((Int32.ofInt (n : Int) &&& 31).toBitVec.smod 32).toNat = n := by decide +kernel
theorem zshl_n (hk : k < 32) (h : a * 2 ^ k < 2147483648) : zshl a k = ((a * 2 ^ k : Nat) : Int) := by
  have ha : a < 2147483648 := Nat.lt_of_le_of_lt (Nat.le_mul_of_pos_right a (Nat.two_pow_pos k)) h
  unfold zshl
  show ((Int32.ofInt (a : Int) <<< (Int32.ofInt (k : Int) &&& 31)).toBitVec).toInt = _
  have e : ((Int32.ofInt (a : Int) <<< (Int32.ofInt (k : Int) &&& 31)).toBitVec).toNat = a * 2 ^ k := by
    rw [Int32.toBitVec_shiftLeft]
    show ((Int32.ofInt (a : Int)).toBitVec <<< ((Int32.ofInt (k : Int) &&& 31).toBitVec.smod 32).toNat).toNat = _
    rw [zs32 k hk, BitVec.toNat_shiftLeft, zof ha, Nat.shiftLeft_eq, Nat.mod_eq_of_lt (by omega)]
  rw [zbW (by rw [e]; omega), e]
theorem zshr_n (hk : k < 32) (h0 : -2147483648 ≤ x) (h1 : x < 2147483648) : zshr x k = x / ((2 ^ k : Nat) : Int) := by
  unfold zshr
  have e : (Int32.ofInt x >>> (Int32.ofInt (k : Int) &&& 31)).toInt = (Int32.ofInt x).toInt >>> k := by
    have := zs32 k hk
    conv => rhs; rw [← this]
    exact BitVec.toInt_sshiftRight ..
  rw [e, Int.shiftRight_eq_div_pow, z32 h0 h1]
theorem zi2b_n : zi2b x = if zand x 255 < 128 then zand x 255 else zand x 255 - 256 := by
  have h1 : zand x 255 = (((Int32.ofInt x).toBitVec.toNat % 256 : Nat) : Int) := by
    unfold zand
    show ((Int32.ofInt x &&& Int32.ofInt 255).toBitVec).toInt = _
    have e : ((Int32.ofInt x &&& Int32.ofInt 255).toBitVec).toNat = (Int32.ofInt x).toBitVec.toNat % 256 := by
      rw [Int32.toBitVec_and, BitVec.toNat_and, show (Int32.ofInt 255).toBitVec.toNat = 2 ^ 8 - 1 from rfl, Nat.and_two_pow_sub_one_eq_mod]
    rw [zbW (by rw [e]; omega), e]
  have h2 : zi2b x = ((Int32.ofInt x).toBitVec.toInt).bmod 256 := by
    unfold zi2b
    rw [Int8.toInt_toInt32, Int32.toInt_toInt8]
    rfl
  rw [h1, h2, BitVec.toInt_eq_toNat_cond]
  simp only [Int.bmod]
  (repeat' split) <;> omega
theorem zand_255 : 0 ≤ zand x 255 ∧ zand x 255 < 256 := by
  have h1 : zand x 255 = (((Int32.ofInt x).toBitVec.toNat % 256 : Nat) : Int) := by
    unfold zand
    show ((Int32.ofInt x &&& Int32.ofInt 255).toBitVec).toInt = _
    have e : ((Int32.ofInt x &&& Int32.ofInt 255).toBitVec).toNat = (Int32.ofInt x).toBitVec.toNat % 256 := by
      rw [Int32.toBitVec_and, BitVec.toNat_and, show (Int32.ofInt 255).toBitVec.toNat = 2 ^ 8 - 1 from rfl, Nat.and_two_pow_sub_one_eq_mod]
    rw [zbW (by rw [e]; omega), e]
  omega
theorem zand_mod (j : Nat) (hj : j < 31) (ha : a < 2147483648) : zand a ((2 ^ j - 1 : Nat) : Int) = ((a % 2 ^ j : Nat) : Int) := by
  have := Nat.pow_lt_pow_right (show 1 < 2 by decide) hj
  rw [zand_n ha (by omega), Nat.and_two_pow_sub_one_eq_mod]
theorem zand_1 (h0 : 0 ≤ x) (h1 : x < 2147483648) : zand x 1 = x % 2 := by
  obtain ⟨n, rfl⟩ := Int.eq_ofNat_of_zero_le h0
  have := zand_mod (a := n) 1 (by decide) (by omega)
  exact this
theorem zand_63 (h0 : 0 ≤ x) (h1 : x < 2147483648) : zand x 63 = x % 64 := by
  obtain ⟨n, rfl⟩ := Int.eq_ofNat_of_zero_le h0
  have := zand_mod (a := n) 6 (by decide) (by omega)
  exact this
theorem zshr_6 (h0 : 0 ≤ x) (h1 : x < 2147483648) : zshr x 6 = x / 64 := zshr_n (k := 6) (by decide) (by omega) h1
theorem zmin_le (h : x ≤ y) : zmin x y = x := if_neg (by omega)
theorem zmin_ge (h : y ≤ x) : zmin x y = y := by
  unfold zmin
  split <;> omega
theorem zmax_le (h : x ≤ y) : zmax x y = y := by
  unfold zmax
  split <;> omega
theorem zmax_ge (h : y ≤ x) : zmax x y = x := if_neg (by omega)
theorem zmin_d : zmin x y = min x y := by
  unfold zmin
  split <;> omega
theorem zmax_d : zmax x y = max x y := by
  unfold zmax
  split <;> omega
theorem zlcmp_0 : zlcmp x y = 0 ↔ x = y := by
  unfold zlcmp
  (repeat' split) <;> omega
theorem zlcmp_lt : zlcmp x y < 0 ↔ x < y := by
  unfold zlcmp
  (repeat' split) <;> omega
theorem zlcmp_gt : 0 < zlcmp x y ↔ y < x := by
  unfold zlcmp
  (repeat' split) <;> omega
end ZNUM
section ZLONG
variable {x y : Int} {a b k : Nat}
theorem z64 (h0 : -9223372036854775808 ≤ x) (h1 : x < 9223372036854775808) : (Int64.ofInt x).toInt = x := Int64.toInt_ofInt_of_le h0 h1
theorem zof64 (h : a < 9223372036854775808) : (Int64.ofInt (a : Int)).toBitVec.toNat = a := by
  show (BitVec.ofInt 64 (a : Int)).toNat = a
  rw [BitVec.toNat_ofInt]
  omega
theorem zbv64 {v : BitVec 64} (h : v.toNat < 9223372036854775808) : v.toInt = v.toNat := by
  rw [BitVec.toInt_eq_toNat_of_lt (by omega)]
theorem zland_n (ha : a < 9223372036854775808) (hb : b < 9223372036854775808) : zland a b = ((a &&& b : Nat) : Int) := by
  unfold zland
  show ((Int64.ofInt (a : Int) &&& Int64.ofInt (b : Int)).toBitVec).toInt = _
  have e : ((Int64.ofInt (a : Int) &&& Int64.ofInt (b : Int)).toBitVec).toNat = a &&& b := by rw [Int64.toBitVec_and, BitVec.toNat_and, zof64 ha, zof64 hb]
  have h2 : a &&& b ≤ a := Nat.and_le_left
  rw [zbv64 (by rw [e]; omega), e]
theorem zlor_n (ha : a < 9223372036854775808) (hb : b < 9223372036854775808) : zlor a b = ((a ||| b : Nat) : Int) := by
  unfold zlor
  show ((Int64.ofInt (a : Int) ||| Int64.ofInt (b : Int)).toBitVec).toInt = _
  have e : ((Int64.ofInt (a : Int) ||| Int64.ofInt (b : Int)).toBitVec).toNat = a ||| b := by rw [Int64.toBitVec_or, BitVec.toNat_or, zof64 ha, zof64 hb]
  have h2 : a ||| b < 2 ^ 63 := Nat.or_lt_two_pow ha hb
  rw [zbv64 (by rw [e]; omega), e]
theorem zs64 : ∀ n : Nat, n < 64 → (((Int32.ofInt (n : Int)).toInt64 &&& 63).toBitVec.smod 64).toNat = n := by decide +kernel
theorem zlshl_n (hk : k < 64) (h : a * 2 ^ k < 9223372036854775808) : zlshl a k = ((a * 2 ^ k : Nat) : Int) := by
  have ha : a < 9223372036854775808 := Nat.lt_of_le_of_lt (Nat.le_mul_of_pos_right a (Nat.two_pow_pos k)) h
  unfold zlshl
  show ((Int64.ofInt (a : Int) <<< ((Int32.ofInt (k : Int)).toInt64 &&& 63)).toBitVec).toInt = _
  have e : ((Int64.ofInt (a : Int) <<< ((Int32.ofInt (k : Int)).toInt64 &&& 63)).toBitVec).toNat = a * 2 ^ k := by
    rw [Int64.toBitVec_shiftLeft]
    show ((Int64.ofInt (a : Int)).toBitVec <<< (((Int32.ofInt (k : Int)).toInt64 &&& 63).toBitVec.smod 64).toNat).toNat = _
    rw [zs64 k hk, BitVec.toNat_shiftLeft, zof64 ha, Nat.shiftLeft_eq, Nat.mod_eq_of_lt (by omega)]
  rw [zbv64 (by rw [e]; omega), e]
theorem zlshr_n (hk : k < 64) (h0 : -9223372036854775808 ≤ x) (h1 : x < 9223372036854775808) : zlshr x k = x / ((2 ^ k : Nat) : Int) := by
  unfold zlshr
  have e : (Int64.ofInt x >>> ((Int32.ofInt (k : Int)).toInt64 &&& 63)).toInt = (Int64.ofInt x).toInt >>> k := by
    have := zs64 k hk
    conv => rhs; rw [← this]
    exact BitVec.toInt_sshiftRight ..
  rw [e, Int.shiftRight_eq_div_pow, z64 h0 h1]
theorem zl2i_ok (h0 : -2147483648 ≤ x) (h1 : x < 2147483648) : zl2i x = x := by
  unfold zl2i
  rw [Int64.toInt_toInt32, z64 (by omega) (by omega)]
  exact zbm h0 h1
/-- the bit k of a word of 64 -/
def zbit (w : Int) (k : Nat) : Bool := (Int64.ofInt w).toBitVec.getLsbD k
theorem zbit_0 : zbit 0 k = false := by
  unfold zbit
  show (BitVec.ofInt 64 0).getLsbD k = false
  simp
theorem zlshl_1 (hk : k < 64) : (Int64.ofInt 1 <<< ((Int32.ofInt (k : Int)).toInt64 &&& 63)).toBitVec = BitVec.twoPow 64 k := by
  rw [Int64.toBitVec_shiftLeft]
  show (Int64.ofInt 1).toBitVec <<< (((Int32.ofInt (k : Int)).toInt64 &&& 63).toBitVec.smod 64).toNat = _
  rw [zs64 k hk]
  rfl
theorem z64i {v : Int64} : Int64.ofInt v.toInt = v := Int64.ofInt_toInt v
theorem zbit_set {w : Int} (hk : k < 64) {j : Nat} (hj : j < 64) : zbit (zlor w (zlshl 1 k)) j = (zbit w j || decide (j = k)) := by
  unfold zbit zlor zlshl
  rw [z64i, z64i, Int64.toBitVec_or, zlshl_1 hk, BitVec.getLsbD_or, BitVec.getLsbD_twoPow]
  congr 1
  by_cases h : j = k
  · subst h; simp [hj]
  · simp [h]
    intro _ z
    exact h z.symm
theorem zbit_and {w : Int} (hk : k < 64) : zland w (zlshl 1 k) = 0 ↔ zbit w k = false := by
  unfold zbit zland zlshl
  rw [z64i]
  have e : (Int64.ofInt w &&& Int64.ofInt 1 <<< ((Int32.ofInt (k : Int)).toInt64 &&& 63)).toBitVec = (Int64.ofInt w).toBitVec &&& BitVec.twoPow 64 k := by rw [Int64.toBitVec_and, zlshl_1 hk]
  constructor
  · intro h
    have h2 : (Int64.ofInt w &&& Int64.ofInt 1 <<< ((Int32.ofInt (k : Int)).toInt64 &&& 63)) = 0 := Int64.toInt_inj.mp h
    have h3 := congrArg (fun v => v.toBitVec.getLsbD k) h2
    simp only [e] at h3
    simpa [BitVec.getLsbD_twoPow, hk] using h3
  · intro h
    have h2 : (Int64.ofInt w &&& Int64.ofInt 1 <<< ((Int32.ofInt (k : Int)).toInt64 &&& 63)) = 0 := by
      apply Int64.toBitVec_inj.mp
      rw [e]
      apply BitVec.eq_of_getLsbD_eq
      intro i hi
      rw [BitVec.getLsbD_and, BitVec.getLsbD_twoPow]
      by_cases q : k = i
      · subst q; rw [h]; simp
      · simp [q]
    rw [h2]
    rfl
theorem zbit_shr {w : Int} (hk : k < 64) : zland (zlshr w k) 1 = 1 ↔ zbit w k = true := by
  unfold zbit zland zlshr
  rw [z64i]
  have e0 : (Int64.ofInt w >>> ((Int32.ofInt (k : Int)).toInt64 &&& 63)).toBitVec = (Int64.ofInt w).toBitVec.sshiftRight k := by
    rw [Int64.toBitVec_shiftRight]
    show (Int64.ofInt w).toBitVec.sshiftRight (((Int32.ofInt (k : Int)).toInt64 &&& 63).toBitVec.smod 64).toNat = _
    rw [zs64 k hk]
  have e : (Int64.ofInt w >>> ((Int32.ofInt (k : Int)).toInt64 &&& 63) &&& Int64.ofInt 1).toBitVec = (Int64.ofInt w).toBitVec.sshiftRight k &&& 1#64 := by
    rw [Int64.toBitVec_and, e0]
    rfl
  constructor
  · intro h
    have h2 : (Int64.ofInt w >>> ((Int32.ofInt (k : Int)).toInt64 &&& 63) &&& Int64.ofInt 1) = 1 := Int64.toInt_inj.mp h
    have h3 := congrArg (fun v => v.toBitVec.getLsbD 0) h2
    simp only [e] at h3
    rw [BitVec.getLsbD_and, BitVec.getLsbD_sshiftRight] at h3
    simpa [hk] using h3
  · intro h
    have h2 : (Int64.ofInt w >>> ((Int32.ofInt (k : Int)).toInt64 &&& 63) &&& Int64.ofInt 1) = 1 := by
      apply Int64.toBitVec_inj.mp
      rw [e]
      apply BitVec.eq_of_getLsbD_eq
      intro i hi
      rw [BitVec.getLsbD_and, BitVec.getLsbD_sshiftRight]
      cases i with
      | zero =>
        simp [hk]
        rw [← BitVec.getLsbD_eq_getElem hk]
        exact h
      | succ i => simp
    rw [h2]
    rfl
end ZLONG
