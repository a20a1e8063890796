/-! of whole, what this claim takes: 25.num.lean.txt -/
theorem zsh64 : ∀ k : Fin 64, ((iZ (k : Nat)).toInt64 &&& 63).toBitVec.smod 64#64 = BitVec.ofNat 64 k := by decide +kernel
theorem zsh64u : ∀ k : Fin 64, (((iZ (k : Nat)).toInt64.toUInt64 &&& Int64.toUInt64 63)).toNat % 64 = k := by decide +kernel
theorem zsh32 : ∀ k : Fin 32, (iZ (k : Nat) &&& 31).toBitVec.smod 32#32 = BitVec.ofNat 32 k := by decide +kernel
theorem lZ_shl (a : Int) {k : Nat} (h : k < 64) : lZ a <<< ((iZ k).toInt64 &&& 63) = lZ (a * 2 ^ k) := by
  have e := zsh64 ⟨k, h⟩
  show Int64.ofBitVec (BitVec.shiftLeft (lZ a).toBitVec (((iZ k).toInt64 &&& 63).toBitVec.smod 64#64).toNat) = _
  rw [e]
  apply Int64.toBitVec_inj.mp
  show (lZ a).toBitVec <<< (BitVec.ofNat 64 k).toNat = (lZ (a * 2 ^ k)).toBitVec
  rw [BitVec.toNat_ofNat, Nat.mod_eq_of_lt (by omega)]
  show (BitVec.ofInt 64 a) <<< k = BitVec.ofInt 64 (a * 2 ^ k)
  rw [BitVec.shiftLeft_eq_mul_twoPow, BitVec.ofInt_mul]
  congr 1
  apply BitVec.eq_of_toInt_eq
  rw [BitVec.toInt_ofInt, BitVec.toInt_eq_toNat_bmod, BitVec.toNat_twoPow]
  rw [Nat.mod_eq_of_lt (Nat.pow_lt_pow_right (by omega) h)]
  norm_cast
theorem iZ_shl (a : Int) {k : Nat} (h : k < 32) : iZ a <<< (iZ k &&& 31) = iZ (a * 2 ^ k) := by
  have e := zsh32 ⟨k, h⟩
  show Int32.ofBitVec (BitVec.shiftLeft (iZ a).toBitVec ((iZ k &&& 31).toBitVec.smod 32#32).toNat) = _
  rw [e]
  apply Int32.toBitVec_inj.mp
  show (iZ a).toBitVec <<< (BitVec.ofNat 32 k).toNat = (iZ (a * 2 ^ k)).toBitVec
  rw [BitVec.toNat_ofNat, Nat.mod_eq_of_lt (by omega)]
  show (BitVec.ofInt 32 a) <<< k = BitVec.ofInt 32 (a * 2 ^ k)
  rw [BitVec.shiftLeft_eq_mul_twoPow, BitVec.ofInt_mul]
  congr 1
  apply BitVec.eq_of_toInt_eq
  rw [BitVec.toInt_ofInt, BitVec.toInt_eq_toNat_bmod, BitVec.toNat_twoPow]
  rw [Nat.mod_eq_of_lt (Nat.pow_lt_pow_right (by omega) h)]
  norm_cast
theorem lZ_shr {a : Int} (ha : -9223372036854775808 ≤ a ∧ a ≤ 9223372036854775807) {k : Nat} (h : k < 64) : lZ a >>> ((iZ k).toInt64 &&& 63) = lZ (a / 2 ^ k) := by
  have e := zsh64 ⟨k, h⟩
  show Int64.ofBitVec (BitVec.sshiftRight' (lZ a).toBitVec (((iZ k).toInt64 &&& 63).toBitVec.smod 64#64)) = _
  rw [e]
  apply Int64.toInt_inj.mp
  show (BitVec.sshiftRight' (lZ a).toBitVec (BitVec.ofNat 64 k)).toInt = _
  rw [BitVec.toInt_sshiftRight', BitVec.toNat_ofNat, Nat.mod_eq_of_lt (by omega), Int.shiftRight_eq_div_pow]
  show (lZ a).toInt / _ = _
  rw [lZ_to ha]
  have hp : (1 : Int) ≤ 2 ^ k := by exact_mod_cast Nat.one_le_two_pow
  have h1 : -9223372036854775808 ≤ a / 2 ^ k := Int.le_ediv_of_mul_le (by omega) (by have := Int.mul_le_mul_of_nonneg_left hp (show (0 : Int) ≤ 9223372036854775808 by omega); omega)
  have h2 : a / 2 ^ k ≤ 9223372036854775807 := by
    rcases Int.lt_or_le a 0 with q | q
    · have := Int.ediv_neg_of_neg_of_pos q (show (0 : Int) < 2 ^ k by omega); omega
    · have := Int.ediv_le_self (2 ^ k) q; omega
  rw [lZ_to ⟨h1, h2⟩]
  norm_cast
theorem iZ_shr {a : Int} (ha : -2147483648 ≤ a ∧ a ≤ 2147483647) {k : Nat} (h : k < 32) : iZ a >>> (iZ k &&& 31) = iZ (a / 2 ^ k) := by
  have e := zsh32 ⟨k, h⟩
  show Int32.ofBitVec (BitVec.sshiftRight' (iZ a).toBitVec ((iZ k &&& 31).toBitVec.smod 32#32)) = _
  rw [e]
  apply Int32.toInt_inj.mp
  show (BitVec.sshiftRight' (iZ a).toBitVec (BitVec.ofNat 32 k)).toInt = _
  rw [BitVec.toInt_sshiftRight', BitVec.toNat_ofNat, Nat.mod_eq_of_lt (by omega), Int.shiftRight_eq_div_pow]
  show (iZ a).toInt / _ = _
  rw [iZ_to ha]
  have hp : (1 : Int) ≤ 2 ^ k := by exact_mod_cast Nat.one_le_two_pow
  have h1 : -2147483648 ≤ a / 2 ^ k := Int.le_ediv_of_mul_le (by omega) (by have := Int.mul_le_mul_of_nonneg_left hp (show (0 : Int) ≤ 2147483648 by omega); omega)
  have h2 : a / 2 ^ k ≤ 2147483647 := by
    rcases Int.lt_or_le a 0 with q | q
    · have := Int.ediv_neg_of_neg_of_pos q (show (0 : Int) < 2 ^ k by omega); omega
    · have := Int.ediv_le_self (2 ^ k) q; omega
  rw [iZ_to ⟨h1, h2⟩]
  norm_cast
theorem lZ_nat {a : Int} (h : 0 ≤ a ∧ a ≤ 9223372036854775807) : (lZ a).toBitVec.toNat = a.toNat := by
  show (BitVec.ofInt 64 a).toNat = _
  rw [BitVec.toNat_ofInt]
  congr 1
  show a % (2 ^ 64 : Int) = a
  omega
theorem iZ_nat {a : Int} (h : 0 ≤ a ∧ a ≤ 2147483647) : (iZ a).toBitVec.toNat = a.toNat := by
  show (BitVec.ofInt 32 a).toNat = _
  rw [BitVec.toNat_ofInt]
  congr 1
  show a % (2 ^ 32 : Int) = a
  omega
theorem iZ_and255 (a : Int) : iZ a &&& iZ 255 = iZ (a % 256) := by
  apply Int32.toBitVec_inj.mp
  apply BitVec.eq_of_toNat_eq
  rw [Int32.toBitVec_and, BitVec.toNat_and, iZ_nat (a := 255) (by omega), iZ_nat (a := a % 256) (by omega)]
  show (BitVec.ofInt 32 a).toNat &&& (2 ^ 8 - 1) = _
  rw [Nat.and_two_pow_sub_one_eq_mod, BitVec.toNat_ofInt]
  show (a % (2 ^ 32 : Int)).toNat % 2 ^ 8 = _
  omega
theorem iZ_and31 (a : Int) : iZ a &&& iZ 31 = iZ (a % 32) := by
  apply Int32.toBitVec_inj.mp
  apply BitVec.eq_of_toNat_eq
  rw [Int32.toBitVec_and, BitVec.toNat_and, iZ_nat (a := 31) (by omega), iZ_nat (a := a % 32) (by omega)]
  show (BitVec.ofInt 32 a).toNat &&& (2 ^ 5 - 1) = _
  rw [Nat.and_two_pow_sub_one_eq_mod, BitVec.toNat_ofInt]
  show (a % (2 ^ 32 : Int)).toNat % 2 ^ 5 = _
  omega
theorem iZ_and1 (a : Int) : iZ a &&& iZ 1 = iZ (a % 2) := by
  apply Int32.toBitVec_inj.mp
  apply BitVec.eq_of_toNat_eq
  rw [Int32.toBitVec_and, BitVec.toNat_and, iZ_nat (a := 1) (by omega), iZ_nat (a := a % 2) (by omega)]
  show (BitVec.ofInt 32 a).toNat &&& (2 ^ 1 - 1) = _
  rw [Nat.and_two_pow_sub_one_eq_mod, BitVec.toNat_ofInt]
  show (a % (2 ^ 32 : Int)).toNat % 2 ^ 1 = _
  omega
theorem iZ_and3 (a : Int) : iZ a &&& iZ 3 = iZ (a % 4) := by
  apply Int32.toBitVec_inj.mp
  apply BitVec.eq_of_toNat_eq
  rw [Int32.toBitVec_and, BitVec.toNat_and, iZ_nat (a := 3) (by omega), iZ_nat (a := a % 4) (by omega)]
  show (BitVec.ofInt 32 a).toNat &&& (2 ^ 2 - 1) = _
  rw [Nat.and_two_pow_sub_one_eq_mod, BitVec.toNat_ofInt]
  show (a % (2 ^ 32 : Int)).toNat % 2 ^ 2 = _
  omega
theorem lZ_or {m b : Int} {k : Nat} (hm : 0 ≤ m) (hb : 0 ≤ b ∧ b < 2 ^ k) (h : m * 2 ^ k + b ≤ 9223372036854775807) : lZ (m * 2 ^ k) ||| lZ b = lZ (m * 2 ^ k + b) := by
  have hp : (1 : Int) ≤ 2 ^ k := by exact_mod_cast Nat.one_le_two_pow
  have hmk : 0 ≤ m * 2 ^ k := Int.mul_nonneg hm (by omega)
  apply Int64.toBitVec_inj.mp
  apply BitVec.eq_of_toNat_eq
  rw [Int64.toBitVec_or, BitVec.toNat_or, lZ_nat ⟨hmk, by omega⟩, lZ_nat ⟨hb.1, by omega⟩, lZ_nat ⟨by omega, by omega⟩]
  obtain ⟨M, rfl⟩ := Int.eq_ofNat_of_zero_le hm
  obtain ⟨b', rfl⟩ := Int.eq_ofNat_of_zero_le hb.1
  have hb2 : b' < 2 ^ k := by exact_mod_cast hb.2
  have e1 : ((M : Int) * 2 ^ k).toNat = M <<< k := by rw [Nat.shiftLeft_eq]; norm_cast
  have e2 : ((M : Int) * 2 ^ k + (b' : Int)).toNat = M <<< k + b' := by rw [Nat.shiftLeft_eq]; norm_cast
  rw [e1, e2, Nat.shiftLeft_add_eq_or_of_lt hb2]
  rfl
theorem lZ_or' {m b : Int} {k : Nat} (hm : 0 ≤ m) (hb : 0 ≤ b ∧ b < 2 ^ k) (h : m * 2 ^ k + b ≤ 9223372036854775807) : lZ b ||| lZ (m * 2 ^ k) = lZ (m * 2 ^ k + b) := by rw [← lZ_or hm hb h, Int64.or_comm]
def zdt (a : Int) : Nat → Int
  | 0 => a % 32
  | j + 1 => zdt (a / 32) j
theorem zdt_rng (a : Int) : ∀ j, 0 ≤ zdt a j ∧ zdt a j ≤ 31
  | 0 => by unfold zdt; omega
  | j + 1 => by unfold zdt; exact zdt_rng _ j
theorem zdt_pow (a : Int) : ∀ j, zdt a j = a / 2 ^ (5 * j) % 32
  | 0 => by show a % 32 = a / 1 % 32; rw [Int.ediv_one]
  | j + 1 => by
    show zdt (a / 32) j = _
    rw [zdt_pow (a / 32) j, Int.ediv_ediv_of_nonneg (by omega)]
    congr 2
    rw [show 5 * (j + 1) = 5 + 5 * j by omega, Int.pow_add]
    rfl
theorem zushr {a : Int} {k : Nat} (hk : k ≤ 59) : ((lZ a).toUInt64 >>> ((iZ k).toInt64.toUInt64 &&& Int64.toUInt64 63)).toInt64 &&& lZ 31 = lZ (a / 2 ^ k % 32) := by
  have e := zsh64u ⟨k, by omega⟩
  apply Int64.toBitVec_inj.mp
  apply BitVec.eq_of_toNat_eq
  have hp : (0 : Int) < 2 ^ k := by exact_mod_cast Nat.two_pow_pos k
  have hr : 0 ≤ a / 2 ^ k % 32 ∧ a / 2 ^ k % 32 < 32 := ⟨Int.emod_nonneg _ (by omega), Int.emod_lt_of_pos _ (by omega)⟩
  rw [Int64.toBitVec_and, BitVec.toNat_and, lZ_nat (by omega), lZ_nat (by omega)]
  show ((lZ a).toUInt64 >>> ((iZ k).toInt64.toUInt64 &&& Int64.toUInt64 63)).toNat &&& (2 ^ 5 - 1) = _
  rw [Nat.and_two_pow_sub_one_eq_mod, UInt64.toNat_shiftRight]
  rw [show (((iZ (k : Nat)).toInt64.toUInt64 &&& Int64.toUInt64 63)).toNat % 64 = k from e, Nat.shiftRight_eq_div_pow]
  show (BitVec.ofInt 64 a).toNat / 2 ^ k % 2 ^ 5 = _
  rw [BitVec.toNat_ofInt]
  have h1 : a = (2 ^ 64 : Int) * (a / 2 ^ 64) + a % 2 ^ 64 := (Int.mul_ediv_add_emod a _).symm
  have h2 : (2 ^ 64 : Int) = 2 ^ k * (32 * 2 ^ (59 - k)) := by
    rw [show (64 : Nat) = k + (5 + (59 - k)) by omega, Int.pow_add, Int.pow_add]; rfl
  have h3 : a / 2 ^ k = 32 * (2 ^ (59 - k) * (a / 2 ^ 64)) + a % 2 ^ 64 / 2 ^ k := by
    conv => lhs; rw [h1]
    rw [h2, show (2 : Int) ^ k * (32 * 2 ^ (59 - k)) * (a / (2 ^ k * (32 * 2 ^ (59 - k)))) = 2 ^ k * (32 * (2 ^ (59 - k) * (a / (2 ^ k * (32 * 2 ^ (59 - k)))))) by simp only [Int.mul_assoc], Int.mul_add_ediv_left _ _ (by omega)]
  rw [h3, Int.mul_add_emod_self_left]
  have h5 : 0 ≤ a % 2 ^ 64 := Int.emod_nonneg _ (by decide)
  obtain ⟨n, hn⟩ := Int.eq_ofNat_of_zero_le h5
  show (a % (2 ^ 64 : Int)).toNat / 2 ^ k % 2 ^ 5 = (a % 2 ^ 64 / 2 ^ k % 32).toNat
  rw [hn]
  show n / 2 ^ k % 32 = _
  norm_cast

