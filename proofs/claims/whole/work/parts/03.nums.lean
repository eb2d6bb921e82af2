theorem zI_lt {a b : Int} (ha : -2147483648 ≤ a ∧ a < 2147483648) (hb : -2147483648 ≤ b ∧ b < 2147483648) : (Int32.ofInt a < Int32.ofInt b) ↔ a < b := by
  rw [Int32.lt_iff_toInt_lt, Int32.toInt_ofInt_of_le (by omega) (by omega), Int32.toInt_ofInt_of_le (by omega) (by omega)]
theorem zI_le {a b : Int} (ha : -2147483648 ≤ a ∧ a < 2147483648) (hb : -2147483648 ≤ b ∧ b < 2147483648) : (Int32.ofInt a ≤ Int32.ofInt b) ↔ a ≤ b := by
  rw [Int32.le_iff_toInt_le, Int32.toInt_ofInt_of_le (by omega) (by omega), Int32.toInt_ofInt_of_le (by omega) (by omega)]
theorem zI_eq {a b : Int} (ha : -2147483648 ≤ a ∧ a < 2147483648) (hb : -2147483648 ≤ b ∧ b < 2147483648) : (Int32.ofInt a = Int32.ofInt b) ↔ a = b := by
  rw [← Int32.toInt_inj, Int32.toInt_ofInt_of_le (by omega) (by omega), Int32.toInt_ofInt_of_le (by omega) (by omega)]
theorem zL_lt {a b : Int} (ha : -9223372036854775808 ≤ a ∧ a < 9223372036854775808) (hb : -9223372036854775808 ≤ b ∧ b < 9223372036854775808) : (Int64.ofInt a < Int64.ofInt b) ↔ a < b := by
  rw [Int64.lt_iff_toInt_lt, Int64.toInt_ofInt_of_le (by omega) (by omega), Int64.toInt_ofInt_of_le (by omega) (by omega)]
theorem zL_eq {a b : Int} (ha : -9223372036854775808 ≤ a ∧ a < 9223372036854775808) (hb : -9223372036854775808 ≤ b ∧ b < 9223372036854775808) : (Int64.ofInt a = Int64.ofInt b) ↔ a = b := by
  rw [← Int64.toInt_inj, Int64.toInt_ofInt_of_le (by omega) (by omega), Int64.toInt_ofInt_of_le (by omega) (by omega)]
theorem zI_clamp {a : Int} (ha : -2147483648 ≤ a ∧ a < 2147483648) : (Int32.ofInt a).toNatClampNeg = a.toNat := Int32.toNatClampNeg_ofInt_of_le (by omega) (by omega)
theorem zI_in {a : Int} {n : Nat} (h0 : 0 ≤ a) (h1 : a < n) (ha : a < 2147483648) : ¬ (Int32.ofInt a < 0 ∨ n ≤ (Int32.ofInt a).toNatClampNeg) := by
  rw [zI_clamp (by omega), show (0 : Int32) = Int32.ofInt 0 from rfl, zI_lt (by omega) (by omega)]
  omega
theorem zI_2l {a : Int} (ha : -2147483648 ≤ a ∧ a < 2147483648) : (Int32.ofInt a).toInt64 = Int64.ofInt a := by
  rw [← Int64.toInt_inj, Int32.toInt_toInt64, Int32.toInt_ofInt_of_le (by omega) (by omega), Int64.toInt_ofInt_of_le (by omega) (by omega)]
theorem zI_mod (a b : Int) (h : a % 4294967296 = b % 4294967296) : Int32.ofInt a = Int32.ofInt b := by
  rw [← Int32.toInt_inj, Int32.toInt_ofInt, Int32.toInt_ofInt, ← Int.emod_bmod a, ← Int.emod_bmod b, show ((Int32.size : Nat) : Int) = 4294967296 from rfl, h]
theorem zL_mod (a b : Int) (h : a % 18446744073709551616 = b % 18446744073709551616) : Int64.ofInt a = Int64.ofInt b := by
  rw [← Int64.toInt_inj, Int64.toInt_ofInt, Int64.toInt_ofInt, ← Int.emod_bmod a, ← Int.emod_bmod b, show ((Int64.size : Nat) : Int) = 18446744073709551616 from rfl, h]
theorem zI_2l_bmod (a : Int) : (Int32.ofInt a).toInt64 = Int64.ofInt (Int.bmod a 4294967296) := by
  have h1 : Int32.ofInt a = Int32.ofInt (Int.bmod a 4294967296) := zI_mod _ _ (by rw [show (4294967296 : Int) = ((4294967296 : Nat) : Int) from rfl, Int.bmod_emod])
  rw [h1]
  exact zI_2l ⟨by have := Int.le_bmod (x := a) (m := 4294967296) (by omega); omega, by have := Int.bmod_lt (x := a) (m := 4294967296) (by omega); omega⟩
theorem zB_ofInt_toNat (w : Nat) (a : Int) : (BitVec.ofInt w a).toNat = (a % (2 ^ w : Nat)).toNat := by
  rw [BitVec.toNat_ofInt]
theorem zP_fact (k n : Nat) (hk : k < n) : 0 < 2 ^ k ∧ 2 * 2 ^ k ≤ 2 ^ n ∧ 2 ^ k ∣ 2 ^ n := by
  refine ⟨Nat.pow_pos (by omega), ?_, Nat.pow_dvd_pow 2 (by omega)⟩
  have := Nat.pow_le_pow_right (by omega : 0 < 2) (by omega : k + 1 ≤ n)
  rw [Nat.pow_succ] at this
  omega
theorem zB_and (w : Nat) (a : Int) (k : Nat) (hk : k < w) : BitVec.ofInt w a &&& BitVec.ofInt w (((2 ^ k : Nat) : Int) - 1) = BitVec.ofInt w (a % ((2 ^ k : Nat) : Int)) := by
  obtain ⟨h1, h2, h3⟩ := zP_fact k w hk
  apply BitVec.eq_of_toNat_eq
  rw [BitVec.toNat_and, zB_ofInt_toNat, zB_ofInt_toNat, zB_ofInt_toNat]
  have hD : ((2 ^ k : Nat) : Int) ∣ ((2 ^ w : Nat) : Int) := Int.ofNat_dvd.mpr h3
  have e4 : (a % ((2 ^ w : Nat) : Int)) % ((2 ^ k : Nat) : Int) = a % ((2 ^ k : Nat) : Int) := Int.emod_emod_of_dvd a hD
  have e1 : ((((2 ^ k : Nat) : Int) - 1) % ((2 ^ w : Nat) : Int)).toNat = 2 ^ k - 1 := by
    rw [Int.emod_eq_of_lt (by omega) (by omega)]
    omega
  rw [e1, Nat.and_two_pow_sub_one_eq_mod]
  have h0 : 0 ≤ a % ((2 ^ w : Nat) : Int) := Int.emod_nonneg _ (by omega)
  have h5 : 0 ≤ a % ((2 ^ k : Nat) : Int) := Int.emod_nonneg _ (by omega)
  have h6 : a % ((2 ^ k : Nat) : Int) < ((2 ^ k : Nat) : Int) := Int.emod_lt_of_pos a (by omega)
  have e3 : a % ((2 ^ k : Nat) : Int) % ((2 ^ w : Nat) : Int) = a % ((2 ^ k : Nat) : Int) := Int.emod_eq_of_lt h5 (by omega)
  rw [e3, ← e4]
  generalize a % ((2 ^ w : Nat) : Int) = y at h0
  obtain ⟨z, rfl⟩ := Int.eq_ofNat_of_zero_le h0
  rw [← Int.natCast_emod]
  rfl
theorem zL_and (a M : Int) (k : Nat) (hk : k < 64) (hM : ((2 ^ k : Nat) : Int) = M + 1) : Int64.ofInt a &&& Int64.ofInt M = Int64.ofInt (a % (M + 1)) := by
  apply Int64.toBitVec.inj
  rw [Int64.toBitVec_and, Int64.toBitVec_ofInt, Int64.toBitVec_ofInt, Int64.toBitVec_ofInt, ← hM, ← zB_and 64 a k hk, hM, show M + 1 - 1 = M by omega]
theorem zI_and (a M : Int) (k : Nat) (hk : k < 32) (hM : ((2 ^ k : Nat) : Int) = M + 1) : Int32.ofInt a &&& Int32.ofInt M = Int32.ofInt (a % (M + 1)) := by
  apply Int32.toBitVec.inj
  rw [Int32.toBitVec_and, Int32.toBitVec_ofInt, Int32.toBitVec_ofInt, Int32.toBitVec_ofInt, ← hM, ← zB_and 32 a k hk, hM, show M + 1 - 1 = M by omega]
theorem zJ_amt (k : Nat) (hk : k < 64) : (Int32.ofInt (k : Int)).toInt64 &&& 63 = Int64.ofInt (k : Int) := by
  rw [zI_2l (by omega), show (63 : Int64) = Int64.ofInt 63 from rfl, zL_and _ 63 6 (by omega) (by decide), Int.emod_eq_of_lt (by omega) (by omega)]
theorem zL_shr (a : Int) (k : Nat) (hk : k < 64) (ha : -9223372036854775808 ≤ a ∧ a < 9223372036854775808) : Int64.ofInt a >>> ((Int32.ofInt (k : Int)).toInt64 &&& 63) = Int64.ofInt (a / ((2 ^ k : Nat) : Int)) := by
  rw [zJ_amt k hk]
  apply Int64.toBitVec.inj
  rw [Int64.toBitVec_shiftRight, Int64.toBitVec_ofInt, Int64.toBitVec_ofInt, Int64.toBitVec_ofInt]
  apply BitVec.eq_of_toInt_eq
  have e2 : BitVec.smod (BitVec.ofInt 64 (k : Int)) 64 = BitVec.ofNat 64 k := by
    have : ∀ j : Nat, j < 64 → BitVec.smod (BitVec.ofInt 64 (j : Int)) 64 = BitVec.ofNat 64 j := by decide +kernel
    exact this k hk
  have e5 : (BitVec.ofNat 64 k).toNat = k := by rw [BitVec.toNat_ofNat]; omega
  rw [e2, BitVec.sshiftRight_eq', e5, BitVec.toInt_sshiftRight, BitVec.toInt_ofInt, BitVec.toInt_ofInt]
  rw [show (2 ^ 64 : Nat) = 18446744073709551616 from rfl]
  have e3 : a.bmod 18446744073709551616 = a := Int.bmod_eq_of_le (by omega) (by omega)
  rw [e3, Int.shiftRight_eq_div_pow]
  obtain ⟨h1, h2, h3⟩ := zP_fact k 64 hk
  generalize 2 ^ k = P at h1 h2 h3
  have hp : (0 : Int) < (P : Int) := by omega
  symm
  have h1 : -9223372036854775808 ≤ a / (P : Int) := by
    apply (Int.le_ediv_iff_mul_le hp).mpr
    have : -9223372036854775808 * (P : Int) ≤ -9223372036854775808 * 1 := Int.mul_le_mul_of_nonpos_left (by omega) (by omega)
    omega
  have h2 : a / (P : Int) < 9223372036854775808 := by
    apply (Int.ediv_lt_iff_lt_mul hp).mpr
    have : 9223372036854775808 * 1 ≤ 9223372036854775808 * (P : Int) := Int.mul_le_mul_of_nonneg_left (by omega) (by omega)
    omega
  exact Int.bmod_eq_of_le (by omega) (by omega)
theorem zI_amt (k : Nat) (hk : k < 32) : Int32.ofInt (k : Int) &&& 31 = Int32.ofInt (k : Int) := by
  rw [show (31 : Int32) = Int32.ofInt 31 from rfl, zI_and _ 31 5 (by omega) (by decide), Int.emod_eq_of_lt (by omega) (by omega)]
theorem zDiv_bounds {a : Int} {P : Nat} (hp : 0 < P) (lo hi : Int) (hlo : lo ≤ 0) (hhi : 0 < hi) (h1 : lo ≤ a) (h2 : a < hi) : lo ≤ a / (P : Int) ∧ a / (P : Int) < hi := by
  have hp' : (0 : Int) < (P : Int) := by omega
  constructor
  · apply (Int.le_ediv_iff_mul_le hp').mpr
    have : lo * (P : Int) ≤ lo * 1 := Int.mul_le_mul_of_nonpos_left hlo (by omega)
    omega
  · apply (Int.ediv_lt_iff_lt_mul hp').mpr
    have : hi * 1 ≤ hi * (P : Int) := Int.mul_le_mul_of_nonneg_left (by omega) (by omega)
    omega
theorem zI_shr (a : Int) (k : Nat) (hk : k < 32) (ha : -2147483648 ≤ a ∧ a < 2147483648) : Int32.ofInt a >>> (Int32.ofInt (k : Int) &&& 31) = Int32.ofInt (a / ((2 ^ k : Nat) : Int)) := by
  rw [zI_amt k hk]
  apply Int32.toBitVec.inj
  rw [Int32.toBitVec_shiftRight, Int32.toBitVec_ofInt, Int32.toBitVec_ofInt, Int32.toBitVec_ofInt]
  apply BitVec.eq_of_toInt_eq
  have e2 : BitVec.smod (BitVec.ofInt 32 (k : Int)) 32 = BitVec.ofNat 32 k := by
    have : ∀ j : Nat, j < 32 → BitVec.smod (BitVec.ofInt 32 (j : Int)) 32 = BitVec.ofNat 32 j := by decide +kernel
    exact this k hk
  have e5 : (BitVec.ofNat 32 k).toNat = k := by rw [BitVec.toNat_ofNat]; omega
  rw [e2, BitVec.sshiftRight_eq', e5, BitVec.toInt_sshiftRight, BitVec.toInt_ofInt, BitVec.toInt_ofInt]
  rw [show (2 ^ 32 : Nat) = 4294967296 from rfl]
  have e3 : a.bmod 4294967296 = a := Int.bmod_eq_of_le (by omega) (by omega)
  rw [e3, Int.shiftRight_eq_div_pow]
  obtain ⟨h1, h2, h3⟩ := zP_fact k 32 hk
  have := zDiv_bounds h1 (-2147483648) 2147483648 (by omega) (by omega) ha.1 ha.2
  symm
  exact Int.bmod_eq_of_le (by omega) (by omega)
theorem zL_shl (a : Int) (k : Nat) (hk : k < 64) : Int64.ofInt a <<< ((Int32.ofInt (k : Int)).toInt64 &&& 63) = Int64.ofInt (a * ((2 ^ k : Nat) : Int)) := by
  rw [zJ_amt k hk]
  apply Int64.toBitVec.inj
  rw [Int64.toBitVec_shiftLeft, Int64.toBitVec_ofInt, Int64.toBitVec_ofInt, Int64.toBitVec_ofInt]
  have e2 : BitVec.smod (BitVec.ofInt 64 (k : Int)) 64 = BitVec.ofNat 64 k := by
    have : ∀ j : Nat, j < 64 → BitVec.smod (BitVec.ofInt 64 (j : Int)) 64 = BitVec.ofNat 64 j := by decide +kernel
    exact this k hk
  have e5 : (BitVec.ofNat 64 k).toNat = k := by rw [BitVec.toNat_ofNat]; omega
  rw [e2, BitVec.shiftLeft_eq', e5, BitVec.shiftLeft_eq_mul_twoPow, BitVec.ofInt_mul]
  congr 1
  apply BitVec.eq_of_toNat_eq
  rw [BitVec.toNat_twoPow, zB_ofInt_toNat, ← Int.natCast_emod]
  rfl
theorem zI_shl (a : Int) (k : Nat) (hk : k < 32) : Int32.ofInt a <<< (Int32.ofInt (k : Int) &&& 31) = Int32.ofInt (a * ((2 ^ k : Nat) : Int)) := by
  rw [zI_amt k hk]
  apply Int32.toBitVec.inj
  rw [Int32.toBitVec_shiftLeft, Int32.toBitVec_ofInt, Int32.toBitVec_ofInt, Int32.toBitVec_ofInt]
  have e2 : BitVec.smod (BitVec.ofInt 32 (k : Int)) 32 = BitVec.ofNat 32 k := by
    have : ∀ j : Nat, j < 32 → BitVec.smod (BitVec.ofInt 32 (j : Int)) 32 = BitVec.ofNat 32 j := by decide +kernel
    exact this k hk
  have e5 : (BitVec.ofNat 32 k).toNat = k := by rw [BitVec.toNat_ofNat]; omega
  rw [e2, BitVec.shiftLeft_eq', e5, BitVec.shiftLeft_eq_mul_twoPow, BitVec.ofInt_mul]
  congr 1
  apply BitVec.eq_of_toNat_eq
  rw [BitVec.toNat_twoPow, zB_ofInt_toNat, ← Int.natCast_emod]
  rfl
/-- a logical shift: a number from 0 to 2^64 - 1 -/
theorem zL_ushr (a : Int) (k : Nat) (hk : k < 64) (ha : 0 ≤ a ∧ a < 18446744073709551616) : ((Int64.ofInt a).toUInt64 >>> ((Int32.ofInt (k : Int)).toInt64.toUInt64 &&& Int64.toUInt64 63)).toInt64 = Int64.ofInt (a / ((2 ^ k : Nat) : Int)) := by
  have e0 : (Int32.ofInt (k : Int)).toInt64.toUInt64 &&& Int64.toUInt64 63 = ((Int32.ofInt (k : Int)).toInt64 &&& 63).toUInt64 := rfl
  rw [e0, zJ_amt k hk]
  apply Int64.toBitVec.inj
  show ((Int64.ofInt a).toUInt64 >>> (Int64.ofInt (k : Int)).toUInt64).toBitVec = _
  rw [UInt64.toBitVec_shiftRight]
  show (Int64.ofInt a).toBitVec >>> ((Int64.ofInt (k : Int)).toBitVec % 64#64) = _
  rw [Int64.toBitVec_ofInt, Int64.toBitVec_ofInt, Int64.toBitVec_ofInt]
  have e2 : BitVec.ofInt 64 (k : Int) % 64#64 = BitVec.ofNat 64 k := by
    have : ∀ j : Nat, j < 64 → BitVec.ofInt 64 (j : Int) % 64#64 = BitVec.ofNat 64 j := by decide +kernel
    exact this k hk
  rw [e2]
  apply BitVec.eq_of_toNat_eq
  rw [BitVec.ushiftRight_eq', BitVec.toNat_ushiftRight, zB_ofInt_toNat, zB_ofInt_toNat, BitVec.toNat_ofNat, Nat.shiftRight_eq_div_pow]
  obtain ⟨h1, h2, h3⟩ := zP_fact k 64 hk
  have e6 : k % 2 ^ 64 = k := Nat.mod_eq_of_lt (by omega)
  rw [e6]
  have hb := zDiv_bounds h1 0 18446744073709551616 (by omega) (by omega) ha.1 ha.2
  rw [show ((2 ^ 64 : Nat) : Int) = 18446744073709551616 from rfl, Int.emod_eq_of_lt ha.1 ha.2, Int.emod_eq_of_lt hb.1 hb.2]
  obtain ⟨y, hy⟩ := Int.eq_ofNat_of_zero_le ha.1
  subst hy
  rw [← Int.natCast_ediv]
  rfl
theorem zI_ushr (a : Int) (k : Nat) (hk : k < 32) (ha : 0 ≤ a ∧ a < 4294967296) : ((Int32.ofInt a).toUInt32 >>> ((Int32.ofInt (k : Int)).toUInt32 &&& Int32.toUInt32 31)).toInt32 = Int32.ofInt (a / ((2 ^ k : Nat) : Int)) := by
  have e0 : (Int32.ofInt (k : Int)).toUInt32 &&& Int32.toUInt32 31 = (Int32.ofInt (k : Int) &&& 31).toUInt32 := rfl
  rw [e0, zI_amt k hk]
  apply Int32.toBitVec.inj
  show ((Int32.ofInt a).toUInt32 >>> (Int32.ofInt (k : Int)).toUInt32).toBitVec = _
  rw [UInt32.toBitVec_shiftRight]
  show (Int32.ofInt a).toBitVec >>> ((Int32.ofInt (k : Int)).toBitVec % 32#32) = _
  rw [Int32.toBitVec_ofInt, Int32.toBitVec_ofInt, Int32.toBitVec_ofInt]
  have e2 : BitVec.ofInt 32 (k : Int) % 32#32 = BitVec.ofNat 32 k := by
    have : ∀ j : Nat, j < 32 → BitVec.ofInt 32 (j : Int) % 32#32 = BitVec.ofNat 32 j := by decide +kernel
    exact this k hk
  rw [e2]
  apply BitVec.eq_of_toNat_eq
  rw [BitVec.ushiftRight_eq', BitVec.toNat_ushiftRight, zB_ofInt_toNat, zB_ofInt_toNat, BitVec.toNat_ofNat, Nat.shiftRight_eq_div_pow]
  obtain ⟨h1, h2, h3⟩ := zP_fact k 32 hk
  have e6 : k % 2 ^ 32 = k := Nat.mod_eq_of_lt (by omega)
  rw [e6]
  have hb := zDiv_bounds h1 0 4294967296 (by omega) (by omega) ha.1 ha.2
  rw [show ((2 ^ 32 : Nat) : Int) = 4294967296 from rfl, Int.emod_eq_of_lt ha.1 ha.2, Int.emod_eq_of_lt hb.1 hb.2]
  obtain ⟨y, hy⟩ := Int.eq_ofNat_of_zero_le ha.1
  subst hy
  rw [← Int.natCast_ediv]
  rfl
/-- 'or' of a multiple of 2^k and of something below 2^k -/
theorem zL_or (a b : Int) (k : Nat) (hk : k < 64) (ha : 0 ≤ a ∧ a * ((2 ^ k : Nat) : Int) < 18446744073709551616) (hb : 0 ≤ b ∧ b < ((2 ^ k : Nat) : Int)) : Int64.ofInt (a * ((2 ^ k : Nat) : Int)) ||| Int64.ofInt b = Int64.ofInt (a * ((2 ^ k : Nat) : Int) + b) := by
  obtain ⟨h1, h2, h3⟩ := zP_fact k 64 hk
  obtain ⟨x, hx⟩ := Int.eq_ofNat_of_zero_le ha.1
  obtain ⟨y, hy⟩ := Int.eq_ofNat_of_zero_le hb.1
  subst hx; subst hy
  have hy2 : y < 2 ^ k := by have := hb.2; omega
  have hxx : ((x : Int) * ((2 ^ k : Nat) : Int)) = ((2 ^ k * x : Nat) : Int) := by rw [Nat.mul_comm]; exact (Int.natCast_mul _ _).symm
  have hx3 : 2 ^ k * x < 2 ^ 64 := by have := ha.2; rw [hxx] at this; omega
  have hq : 2 ^ k * x + y = 2 ^ k * x ||| y := Nat.two_pow_add_eq_or_of_lt hy2 x
  have hs : 2 ^ k * x ||| y < 2 ^ 64 := Nat.or_lt_two_pow hx3 (by omega)
  apply Int64.toBitVec.inj
  rw [Int64.toBitVec_or, Int64.toBitVec_ofInt, Int64.toBitVec_ofInt, Int64.toBitVec_ofInt, hxx]
  apply BitVec.eq_of_toNat_eq
  rw [BitVec.toNat_or, zB_ofInt_toNat, zB_ofInt_toNat, zB_ofInt_toNat, ← Int.natCast_add, hq, ← Int.natCast_emod, ← Int.natCast_emod, ← Int.natCast_emod, Int.toNat_natCast, Int.toNat_natCast, Int.toNat_natCast, Nat.mod_eq_of_lt hx3, Nat.mod_eq_of_lt (by omega : y < 2 ^ 64), Nat.mod_eq_of_lt hs]
theorem zI_div (a b : Int) (ha : 0 ≤ a ∧ a < 2147483648) (hb : 0 < b ∧ b < 2147483648) : Int32.ofInt a / Int32.ofInt b = Int32.ofInt (a / b) := by
  have h0 : 0 ≤ a / b := Int.ediv_nonneg ha.1 (by omega)
  have h1 : a / b ≤ a := Int.ediv_le_self _ ha.1
  rw [← Int32.toInt_inj, Int32.toInt_div, Int32.toInt_ofInt_of_le (by omega) (by omega), Int32.toInt_ofInt_of_le (by omega) (by omega), Int32.toInt_ofInt_of_le (by omega) (by omega), Int.tdiv_eq_ediv_of_nonneg ha.1]
  exact Int.bmod_eq_of_le (by omega) (by omega)
theorem zI_rem (a b : Int) (ha : 0 ≤ a ∧ a < 2147483648) (hb : 0 < b ∧ b < 2147483648) : Int32.ofInt a % Int32.ofInt b = Int32.ofInt (a % b) := by
  have h0 : 0 ≤ a % b := Int.emod_nonneg _ (by omega)
  have h1 : a % b < b := Int.emod_lt_of_pos _ (by omega)
  rw [← Int32.toInt_inj, Int32.toInt_mod, Int32.toInt_ofInt_of_le (by omega) (by omega), Int32.toInt_ofInt_of_le (by omega) (by omega), Int32.toInt_ofInt_of_le (by omega) (by omega), Int.tmod_eq_emod_of_nonneg ha.1]
theorem zL_div (a b : Int) (ha : 0 ≤ a ∧ a < 9223372036854775808) (hb : 0 < b ∧ b < 9223372036854775808) : Int64.ofInt a / Int64.ofInt b = Int64.ofInt (a / b) := by
  have h0 : 0 ≤ a / b := Int.ediv_nonneg ha.1 (by omega)
  have h1 : a / b ≤ a := Int.ediv_le_self _ ha.1
  rw [← Int64.toInt_inj, Int64.toInt_div, Int64.toInt_ofInt_of_le (by omega) (by omega), Int64.toInt_ofInt_of_le (by omega) (by omega), Int64.toInt_ofInt_of_le (by omega) (by omega), Int.tdiv_eq_ediv_of_nonneg ha.1]
  exact Int.bmod_eq_of_le (by omega) (by omega)
theorem zL_rem (a b : Int) (ha : 0 ≤ a ∧ a < 9223372036854775808) (hb : 0 < b ∧ b < 9223372036854775808) : Int64.ofInt a % Int64.ofInt b = Int64.ofInt (a % b) := by
  have h0 : 0 ≤ a % b := Int.emod_nonneg _ (by omega)
  have h1 : a % b < b := Int.emod_lt_of_pos _ (by omega)
  rw [← Int64.toInt_inj, Int64.toInt_mod, Int64.toInt_ofInt_of_le (by omega) (by omega), Int64.toInt_ofInt_of_le (by omega) (by omega), Int64.toInt_ofInt_of_le (by omega) (by omega), Int.tmod_eq_emod_of_nonneg ha.1]
/-- lcmp: -1, 0, 1 -/
def zcmp (a b : Int) : Int := if b < a then 1 else if a = b then 0 else -1
theorem zL_cmp (a b : Int) (ha : -9223372036854775808 ≤ a ∧ a < 9223372036854775808) (hb : -9223372036854775808 ≤ b ∧ b < 9223372036854775808) : lg_cmp (Int64.ofInt a) (Int64.ofInt b) = Int32.ofInt (zcmp a b) := by
  unfold lg_cmp zcmp
  simp only [gt_iff_lt, zL_lt hb ha, zL_eq ha hb]
  by_cases h : b < a
  · simp [h]
  · by_cases h2 : a = b <;> simp [h, h2]
