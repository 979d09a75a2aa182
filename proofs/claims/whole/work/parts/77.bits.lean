/-! LONGS and BITS -/
def jJ (x : Int) : Int64 := Int64.ofInt x
theorem jJ_toInt {x : Int} (h1 : -9223372036854775808 ≤ x) (h2 : x < 9223372036854775808) : (jJ x).toInt = x := Int64.toInt_ofInt_of_le h1 h2
theorem jJ_add (x y : Int) : jJ x + jJ y = jJ (x + y) := by unfold jJ; rw [Int64.ofInt_add]
theorem jJ_sub (x y : Int) : jJ x - jJ y = jJ (x - y) := by unfold jJ; rw [Int64.ofInt_sub]
theorem jJ_mul (x y : Int) : jJ x * jJ y = jJ (x * y) := by unfold jJ; rw [Int64.ofInt_mul]
theorem yle {x y : Int} (h1 : -9223372036854775808 ≤ x) (h2 : x < 9223372036854775808) (h3 : -9223372036854775808 ≤ y) (h4 : y < 9223372036854775808) : (jJ x ≤ jJ y) = (x ≤ y) := by rw [Int64.le_iff_toInt_le, jJ_toInt h1 h2, jJ_toInt h3 h4]
theorem ylt {x y : Int} (h1 : -9223372036854775808 ≤ x) (h2 : x < 9223372036854775808) (h3 : -9223372036854775808 ≤ y) (h4 : y < 9223372036854775808) : (jJ x < jJ y) = (x < y) := by rw [Int64.lt_iff_toInt_lt, jJ_toInt h1 h2, jJ_toInt h3 h4]
theorem yeq {x y : Int} (h1 : -9223372036854775808 ≤ x) (h2 : x < 9223372036854775808) (h3 : -9223372036854775808 ≤ y) (h4 : y < 9223372036854775808) : (jJ x = jJ y) = (x = y) := by
  refine propext ⟨fun h => ?_, fun h => by rw [h]⟩
  have := congrArg Int64.toInt h
  rwa [jJ_toInt h1 h2, jJ_toInt h3 h4] at this
theorem xJ {x : Int} (h1 : -2147483648 ≤ x) (h2 : x < 2147483648) : (iI x).toInt64 = jJ x := Int32.toInt64_ofInt h1 (by show x ≤ 2147483647; omega)
theorem yI {x : Int} : (jJ x).toInt32 = iI x := Int64.toInt32_ofInt
theorem jJ_ne0 {y : Int} (h : y ≠ 0) (h1 : -9223372036854775808 ≤ y) (h2 : y < 9223372036854775808) : ¬ jJ y = 0 := fun q => h ((yeq h1 h2 (by omega) (by omega)).mp (show jJ y = jJ 0 from q))
theorem jJ_dv {x y : Int} (h1 : -9223372036854775808 < x) (h2 : x < 9223372036854775808) (h3 : -9223372036854775808 ≤ y) (h4 : y < 9223372036854775808) (hy : y ≠ 0) : jJ x / jJ y = jJ (x.tdiv y) := by
  have hb := Int.natAbs_tdiv_le_natAbs x y
  have e := jJ_toInt (x := x.tdiv y) (by omega) (by omega)
  apply Int64.toInt_inj.mp
  rw [Int64.toInt_div, jJ_toInt (by omega) h2, jJ_toInt h3 h4, e]
  exact Int.bmod_eq_of_le (by omega) (by omega)
theorem jJ_div {x y : Int} (h1 : -9223372036854775808 < x) (h2 : x < 9223372036854775808) (h3 : -9223372036854775808 ≤ y) (h4 : y < 9223372036854775808) (hy : y ≠ 0) : zdivJ (jJ x) (jJ y) = some (jJ (x.tdiv y)) := by
  unfold zdivJ
  rw [if_neg (jJ_ne0 hy h3 h4), jJ_dv h1 h2 h3 h4 hy]
theorem jJ_rem {x y : Int} (h1 : -9223372036854775808 < x) (h2 : x < 9223372036854775808) (h3 : -9223372036854775808 ≤ y) (h4 : y < 9223372036854775808) (hy : y ≠ 0) : zremJ (jJ x) (jJ y) = some (jJ (x.tmod y)) := by
  unfold zremJ
  rw [if_neg (jJ_ne0 hy h3 h4), jJ_dv h1 h2 h3 h4 hy, jJ_mul, jJ_sub]
  congr 2
  have := Int.tmod_add_mul_tdiv x y
  have h2 : x.tdiv y * y = y * x.tdiv y := Int.mul_comm _ _
  omega
theorem jJ_neg (x : Int) : - jJ x = jJ (- x) := by unfold jJ; rw [Int64.ofInt_neg]
theorem jL0 : (0 : Int64) = jJ 0 := by decide
theorem jL1 : (1 : Int64) = jJ 1 := by decide
theorem jL10 : (10 : Int64) = jJ 10 := by decide
theorem jLG : (1000000000 : Int64) = jJ 1000000000 := by decide
/-! bits -/
theorem iI_bv (x : Int) : (iI x).toBitVec = BitVec.ofInt 32 x := Int32.toBitVec_ofInt x
theorem iI_bn (x : Int) : (iI x).toBitVec.toNat = (x % 4294967296).toNat := by rw [iI_bv, BitVec.toNat_ofInt]; rfl
theorem iI_ofb {a : Int32} {x : Int} (h : a.toBitVec.toNat = (x % 4294967296).toNat) : a = iI x := by
  apply Int32.toBitVec_inj.mp
  apply BitVec.eq_of_toNat_eq
  rw [h, iI_bn]
theorem xand {x : Int} (k : Nat) (hk : k ≤ 31) : iI x &&& iI (2 ^ k - 1) = iI (x % 2 ^ k) := by
  apply iI_ofb
  have h31 : (2 : Nat) ^ k ≤ 2 ^ 31 := Nat.pow_le_pow_right (by decide) hk
  have h0 : 1 ≤ (2 : Nat) ^ k := Nat.one_le_two_pow
  have e1 : ((2 : Int) ^ k - 1) = ((2 ^ k - 1 : Nat) : Int) := by
    rw [Int.natCast_sub h0, Int.natCast_pow]; rfl
  have e2 : (((2 ^ k - 1 : Nat) : Int) % 4294967296).toNat = 2 ^ k - 1 := by
    generalize 2 ^ k = c at *
    omega
  rw [Int32.toBitVec_and, BitVec.toNat_and, iI_bn, iI_bn, e1, e2, Nat.and_two_pow_sub_one_eq_mod]
  have e3 : ((2 : Int) ^ k) = ((2 ^ k : Nat) : Int) := by rw [Int.natCast_pow]; rfl
  rw [e3]
  have hd : ((2 ^ k : Nat) : Int) ∣ 4294967296 := by
    have h9 : (2 ^ k : Nat) ∣ 4294967296 := Nat.pow_dvd_pow 2 (show k ≤ 32 by omega)
    exact Int.natCast_dvd_natCast.mpr h9
  have e4 : x % 4294967296 % ((2 ^ k : Nat) : Int) = x % ((2 ^ k : Nat) : Int) := Int.emod_emod_of_dvd x hd
  have hp : (0 : Int) < ((2 ^ k : Nat) : Int) := by exact_mod_cast h0
  have hc1 := Int.emod_nonneg x (by omega : ((2 ^ k : Nat) : Int) ≠ 0)
  have hc2 := Int.emod_lt_of_pos x hp
  have hc3 := Int.emod_nonneg x (by omega : (4294967296 : Int) ≠ 0)
  apply Int.ofNat_inj.mp
  rw [Int.natCast_emod, Int.toNat_of_nonneg hc3, e4]
  have h31' : ((2 ^ k : Nat) : Int) ≤ 2147483648 := Int.ofNat_le.mpr h31
  generalize ((2 ^ k : Nat) : Int) = c at *
  generalize x % c = y at *
  omega
theorem xand1 {x : Int} : iI x &&& iI 1 = iI (x % 2) := xand 1 (by decide)
theorem xand3 {x : Int} : iI x &&& iI 3 = iI (x % 4) := xand 2 (by decide)
theorem xand7 {x : Int} : iI x &&& iI 7 = iI (x % 8) := xand 3 (by decide)
theorem xand15 {x : Int} : iI x &&& iI 15 = iI (x % 16) := xand 4 (by decide)
theorem xand31 {x : Int} : iI x &&& iI 31 = iI (x % 32) := xand 5 (by decide)
theorem xand63 {x : Int} : iI x &&& iI 63 = iI (x % 64) := xand 6 (by decide)
theorem xand255 {x : Int} : iI x &&& iI 255 = iI (x % 256) := xand 8 (by decide)
theorem xsm : ∀ k : Fin 32, ((iI (k.val : Int)).toBitVec.smod 32#32).toNat = k.val := by decide
theorem xshrN {x : Int} (k : Nat) (hk : k < 32) (h1 : -2147483648 ≤ x) (h2 : x < 2147483648) : iI x >>> iI (k : Int) = iI (x / 2 ^ k) := by
  have hb : zR (x / 2 ^ k) := by
    have hp : (0 : Int) < 2 ^ k := Int.pow_pos (by decide)
    have hp1 : (1 : Int) ≤ 2 ^ k := hp
    constructor
    · refine Int.le_ediv_of_mul_le hp ?_
      have : (-2147483648 : Int) * 2 ^ k ≤ -2147483648 * 1 := Int.mul_le_mul_of_nonpos_left (by decide) hp1
      omega
    · refine Int.ediv_lt_of_lt_mul hp ?_
      have : (2147483648 : Int) * 1 ≤ 2147483648 * 2 ^ k := Int.mul_le_mul_of_nonneg_left hp1 (by decide)
      omega
  apply Int32.toInt_inj.mp
  rw [iI_toInt hb]
  show (iI x >>> iI (k : Int)).toBitVec.toInt = _
  rw [Int32.toBitVec_shiftRight, BitVec.sshiftRight', BitVec.toInt_sshiftRight]
  have e : ((iI (k : Int)).toBitVec.smod 32).toNat = k := xsm ⟨k, hk⟩
  have e2 : (iI x).toBitVec.toInt = x := iI_toInt ⟨h1, h2⟩
  rw [e, e2, Int.shiftRight_eq_div_pow]
  norm_cast
theorem xshr {x k : Int} (h0 : 0 ≤ k) (hk : k < 32) (h1 : -2147483648 ≤ x) (h2 : x < 2147483648) : iI x >>> (iI k &&& iI 31) = iI (x / 2 ^ k.toNat) := by
  rw [xand31, show k % 32 = ((k.toNat : Nat) : Int) by omega]
  exact xshrN k.toNat (by omega) h1 h2
theorem xtp : ∀ k : Fin 32, BitVec.twoPow 32 k.val = BitVec.ofInt 32 (2 ^ k.val) := by decide
theorem xshl {x k : Int} (h0 : 0 ≤ k) (hk : k < 32) : iI x <<< (iI k &&& iI 31) = iI (x * 2 ^ k.toNat) := by
  rw [xand31, show k % 32 = ((k.toNat : Nat) : Int) by omega]
  apply Int32.toBitVec_inj.mp
  rw [Int32.toBitVec_shiftLeft, iI_bv (x * 2 ^ k.toNat), BitVec.ofInt_mul, ← xtp ⟨k.toNat, by omega⟩, ← BitVec.shiftLeft_eq_mul_twoPow, iI_bv x]
  have e : ((iI ((k.toNat : Nat) : Int)).toBitVec.smod 32).toNat = k.toNat := xsm ⟨k.toNat, by omega⟩
  rw [BitVec.shiftLeft_eq', e]
theorem xor4 {a b : Int} (h0 : 0 ≤ a) (ha : a < 16) (h1 : 0 ≤ b) (hb : b < 100000000) : iI a ||| iI (b * 16) = iI (a + 16 * b) := by
  apply iI_ofb
  rw [Int32.toBitVec_or, BitVec.toNat_or, iI_bn, iI_bn]
  obtain ⟨p, rfl⟩ := Int.eq_ofNat_of_zero_le h0
  obtain ⟨q, rfl⟩ := Int.eq_ofNat_of_zero_le h1
  have e1 : ((p : Int) % 4294967296).toNat = p := by omega
  have e2 : ((q : Int) * 16 % 4294967296).toNat = q <<< 4 := by rw [Nat.shiftLeft_eq]; omega
  have e3 : (((p : Int) + 16 * q) % 4294967296).toNat = q <<< 4 + p := by rw [Nat.shiftLeft_eq]; omega
  rw [e1, e2, e3, Nat.shiftLeft_add_eq_or_of_lt (by omega), Nat.or_comm]
