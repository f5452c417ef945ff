/-! longs as numbers, and their bytes -/
def kU (x : Int64) : Nat := x.toUInt64.toNat
theorem kU_bv (x : Int64) : kU x = x.toBitVec.toNat := rfl
theorem kU_lt (x : Int64) : kU x < 18446744073709551616 := x.toUInt64.toNat_lt
theorem kU_inj {x y : Int64} (h : kU x = kU y) : x = y := congrArg UInt64.toInt64 (UInt64.toNat_inj.mp h)
theorem kU_lN (n : Nat) : kU (lN n) = n % 18446744073709551616 := rfl
theorem kU_or (x y : Int64) : kU (x ||| y) = kU x ||| kU y := by
  show (x.toUInt64 ||| y.toUInt64).toNat = _
  rw [UInt64.toNat_or]
  rfl
theorem kU_and (x y : Int64) : kU (x &&& y) = kU x &&& kU y := by
  show (x.toUInt64 &&& y.toUInt64).toNat = _
  rw [UInt64.toNat_and]
  rfl
theorem kU_ushr (x : Int64) {k : Nat} (hk : k < 64) : kU (x.toUInt64 >>> ((nI k).toInt64.toUInt64 &&& Int64.toUInt64 63)).toInt64 = kU x / 2 ^ k := by
  have h : ((nI k).toInt64.toUInt64 &&& Int64.toUInt64 63).toNat % 64 = k := by
    rw [nI_l (by omega), UInt64.toNat_and]
    have e : (lN k).toUInt64.toNat = k % 2 ^ 64 := rfl
    have e2 : (Int64.toUInt64 63).toNat = 2 ^ 6 - 1 := by decide
    rw [e, e2, Nat.and_two_pow_sub_one_eq_mod]
    omega
  show (x.toUInt64 >>> ((nI k).toInt64.toUInt64 &&& Int64.toUInt64 63)).toNat = _
  rw [UInt64.toNat_shiftRight, Nat.shiftRight_eq_div_pow, h]
  rfl
theorem kU_sm : ∀ k, k < 64 → (((nI k).toInt64 &&& 63).toBitVec.smod 64).toNat = k := by decide +kernel
theorem kU_shl (x : Int64) {k : Nat} (hk : k < 64) : kU (x <<< ((nI k).toInt64 &&& 63)) = kU x * 2 ^ k % 18446744073709551616 := by
  show (x.toBitVec <<< (((nI k).toInt64 &&& 63).toBitVec.smod 64).toNat).toNat = _
  rw [kU_sm k hk, BitVec.toNat_shiftLeft, Nat.shiftLeft_eq]
  rfl
theorem kU_int32 (y : Int64) : y.toInt32.toBitVec.toNat = kU y % 4294967296 := by
  rw [Int64.toBitVec_toInt32, BitVec.signExtend_eq_setWidth_of_le _ (by decide), BitVec.toNat_setWidth]
  rfl
theorem nI_bv (n : Nat) : (nI n).toBitVec.toNat = n % 4294967296 := rfl
theorem nI_of_bv {x : Int32} {n : Nat} (h : x.toBitVec.toNat = n % 4294967296) : x = nI n := by
  apply Int32.toBitVec_inj.mp
  apply BitVec.eq_of_toNat_eq
  rw [h, nI_bv]
/-- byte k of a long, the highest first -/
def lb (v : Int64) (k : Nat) : Nat := kU v / 2 ^ (56 - 8 * k) % 256
theorem lb_lt (v : Int64) (k : Nat) : lb v k < 256 := Nat.mod_lt _ (by decide)
theorem lb_u (v : Int64) {i : Nat} (hi : i < 8) : ((v.toUInt64 >>> ((nI (56 - 8 * i)).toInt64.toUInt64 &&& Int64.toUInt64 63)).toInt64).toInt32 &&& nI 255 = nI (lb v i) := by
  rw [pk_and _ 8 (by decide), kU_int32, kU_ushr v (by omega)]
  congr 1
  unfold lb
  omega
theorem lb_s (v : Int64) {i : Nat} (hi : i < 8) : ((v >>> ((nI (56 - 8 * i)).toInt64 &&& 63)) &&& lN 255).toInt32 = nI (lb v i) := by
  apply nI_of_bv
  rw [kU_int32, kU_and]
  have e1 : kU (lN 255) = 2 ^ 8 - 1 := by decide
  rw [e1, Nat.and_two_pow_sub_one_eq_mod]
  have e2 : kU (v >>> ((nI (56 - 8 * i)).toInt64 &&& 63)) = (v.toBitVec.sshiftRight (56 - 8 * i)).toNat := by
    show (v.toBitVec.sshiftRight (((nI (56 - 8 * i)).toInt64 &&& 63).toBitVec.smod 64).toNat).toNat = _
    rw [kU_sm _ (by omega)]
  rw [e2]
  have e3 : (v.toBitVec.sshiftRight (56 - 8 * i)).toNat % 2 ^ 8 = kU v / 2 ^ (56 - 8 * i) % 2 ^ 8 := by
    apply Nat.eq_of_testBit_eq
    intro j
    rw [Nat.testBit_mod_two_pow, Nat.testBit_mod_two_pow, Nat.testBit_div_two_pow]
    by_cases hj : j < 8
    · rw [BitVec.testBit_toNat, BitVec.getLsbD_sshiftRight, kU_bv, BitVec.testBit_toNat]
      rw [if_pos (by omega)]
      have h1 : decide (64 ≤ j) = false := decide_eq_false (by omega)
      rw [h1, Nat.add_comm j]
      simp
    · simp [hj]
  rw [e3]
  rfl
theorem kU_i (x : Nat) : kU (nI x).toInt64 % 4294967296 = x % 4294967296 := by
  have h1 : (nI x).toInt64.toInt = (nI x).toInt := Int32.toInt_toInt64 (nI x)
  have h2 : (nI x).toInt64.toInt = (nI x).toInt64.toBitVec.toInt := rfl
  have h3 : (nI x).toInt = (nI x).toBitVec.toInt := rfl
  rw [h2, h3, BitVec.toInt_eq_toNat_cond, BitVec.toInt_eq_toNat_cond, nI_bv] at h1
  have h4 : (nI x).toInt64.toBitVec.toNat = kU (nI x).toInt64 := rfl
  rw [h4] at h1
  have h5 := kU_lt (nI x).toInt64
  have e1 : (2 : Nat) ^ 64 = 18446744073709551616 := by decide
  have e2 : (2 : Nat) ^ 32 = 4294967296 := by decide
  rw [e1, e2] at h1
  split at h1 <;> split at h1 <;> omega
theorem kU_small {x : Nat} (h : x < 2147483648) : kU (nI x).toInt64 = x := by
  rw [nI_l h, kU_lN]
  omega
/-- two words as a long -/
theorem lg_2 {x y : Nat} (hx : x < 4294967296) (hy : y < 4294967296) : ((nI x).toInt64 <<< ((nI 32).toInt64 &&& 63)) ||| ((nI y).toInt64 &&& lN 4294967295) = lN (x * 4294967296 + y) := by
  apply kU_inj
  rw [kU_or, kU_and, kU_shl _ (by decide), kU_lN, kU_lN]
  have e1 : 4294967295 % 18446744073709551616 = 2 ^ 32 - 1 := by decide
  rw [e1, Nat.and_two_pow_sub_one_eq_mod]
  have h1 := kU_i x
  have h2 := kU_i y
  have e2 : kU (nI x).toInt64 * 2 ^ 32 % 18446744073709551616 = 2 ^ 32 * x := by omega
  have e3 : kU (nI y).toInt64 % 2 ^ 32 = y := by omega
  rw [e2, e3, ← Nat.two_pow_add_eq_or_of_lt (i := 32) hy]
  omega
theorem lg_8 {a b : Nat} (ha : a < 72057594037927936) (hb : b < 256) : (lN a <<< ((nI 8).toInt64 &&& 63)) ||| (nI b).toInt64 = lN (a * 256 + b) := by
  apply kU_inj
  rw [kU_or, kU_shl _ (by decide), kU_lN, kU_lN, kU_small (by omega)]
  have e2 : a % 18446744073709551616 * 2 ^ 8 % 18446744073709551616 = 2 ^ 8 * a := by omega
  rw [e2, ← Nat.two_pow_add_eq_or_of_lt (i := 8) hb]
  omega
