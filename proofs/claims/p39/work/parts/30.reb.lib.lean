/-! of whole, what this claim takes: 30.reb.lean.txt -/
theorem zenc {d : UInt64} {s : Bool} {c : Nat} {q : Int} (h : FP.Core.val64 d = .fin s c q) : d.toNat = (if s then 9223372036854775808 else 0) + (if c < 2 ^ 52 then c else ((q + 1074).toNat + 1) * 2 ^ 52 + (c - 2 ^ 52)) ∧ (c < 2 ^ 53 ∧ -1074 ≤ q ∧ q ≤ 971 ∧ (q = -1074 ∨ 2 ^ 52 ≤ c)) := by
  have hn : FP.Core.val64 d ≠ .nan := by rw [h]; simp
  have hf := zfits64.mp (h ▸ FP.Core.val64_fits d)
  have e : d = UInt64.ofNat (FP.Core.encode FP.Core.b64 (.fin s c q)) := by rw [← h]; exact (FP.Core.of64_val64 hn).symm
  refine ⟨?_, hf⟩
  have hl := FP.Core.encode_lt FP.Core.good_b64 (.fin s c q) (h ▸ FP.Core.val64_fits d)
  rw [FP.Core.size_b64] at hl
  rw [e, UInt64.toNat_ofNat_of_lt' hl]
  show (if c < 2 ^ 52 then FP.Core.assemble FP.Core.b64 s 0 c else FP.Core.assemble FP.Core.b64 s ((q - FP.Core.b64.qmin).toNat + 1) (c - 2 ^ 52)) = _
  rw [zqmin, show (q - -1074) = q + 1074 by omega]
  unfold FP.Core.assemble
  show (if c < 2 ^ 52 then (s.toNat * 2048 + 0) * 2 ^ 52 + c else (s.toNat * 2048 + ((q + 1074).toNat + 1)) * 2 ^ 52 + (c - 2 ^ 52)) = _
  cases s <;> simp only [Bool.toNat_false, Bool.toNat_true, if_true, if_false, Bool.false_eq_true] <;> split <;> omega
theorem zenc3 {y : UInt32} {s : Bool} {c : Nat} {q : Int} (h : FP.Core.val32 y = .fin s c q) : y.toNat = (if s then 2147483648 else 0) + (if c < 2 ^ 23 then c else ((q + 149).toNat + 1) * 2 ^ 23 + (c - 2 ^ 23)) ∧ (c < 2 ^ 24 ∧ -149 ≤ q ∧ q ≤ 104 ∧ (q = -149 ∨ 2 ^ 23 ≤ c)) := by
  have hn : FP.Core.val32 y ≠ .nan := by rw [h]; simp
  have hf := zfits32.mp (h ▸ FP.Core.val32_fits y)
  have e : y = UInt32.ofNat (FP.Core.encode FP.Core.b32 (.fin s c q)) := by rw [← h]; exact (FP.Core.of32_val32 hn).symm
  refine ⟨?_, hf⟩
  have hl := FP.Core.encode_lt FP.Core.good_b32 (.fin s c q) (h ▸ FP.Core.val32_fits y)
  rw [FP.Core.size_b32] at hl
  rw [e, UInt32.toNat_ofNat_of_lt' hl]
  show (if c < 2 ^ 23 then FP.Core.assemble FP.Core.b32 s 0 c else FP.Core.assemble FP.Core.b32 s ((q - FP.Core.b32.qmin).toNat + 1) (c - 2 ^ 23)) = _
  rw [zqmin3, show (q - -149) = q + 149 by omega]
  unfold FP.Core.assemble
  show (if c < 2 ^ 23 then (s.toNat * 256 + 0) * 2 ^ 23 + c else (s.toNat * 256 + ((q + 149).toNat + 1)) * 2 ^ 23 + (c - 2 ^ 23)) = _
  cases s <;> simp only [Bool.toNat_false, Bool.toNat_true, if_true, if_false, Bool.false_eq_true] <;> split <;> omega
theorem lZ_u64 {d : UInt64} {a : Int} (h : a = d.toNat ∨ a = (d.toNat : Int) - 18446744073709551616) : d.toInt64 = lZ a := by
  apply Int64.toBitVec_inj.mp
  apply BitVec.eq_of_toNat_eq
  show d.toNat = (BitVec.ofInt 64 a).toNat
  rw [BitVec.toNat_ofInt]
  have := d.toNat_lt
  show d.toNat = (a % (2 ^ 64 : Int)).toNat
  omega
theorem lZ_u32 {y : UInt32} {a : Int} (h : (y.toNat < 2147483648 ∧ a = y.toNat) ∨ (2147483648 ≤ y.toNat ∧ a = (y.toNat : Int) - 4294967296)) : y.toInt32.toInt64 = lZ a := by
  have hl := y.toNat_lt
  have e : y.toInt32 = iZ a := by
    apply Int32.toBitVec_inj.mp
    apply BitVec.eq_of_toNat_eq
    show y.toNat = (BitVec.ofInt 32 a).toNat
    rw [BitVec.toNat_ofInt]
    show y.toNat = (a % (2 ^ 32 : Int)).toNat
    omega
  rw [e, iZ_l (by omega)]
theorem lZ_orN {m b k : Nat} (hb : b < 2 ^ k) (h : m * 2 ^ k + b < 2 ^ 64) : lZ ((b : Nat) : Int) ||| lZ ((m * 2 ^ k : Nat) : Int) = lZ ((m * 2 ^ k + b : Nat) : Int) := by
  have e : ∀ n : Nat, n < 2 ^ 64 → (lZ (n : Int)).toBitVec.toNat = n := by
    intro n hn
    show (BitVec.ofInt 64 (n : Int)).toNat = n
    rw [BitVec.toNat_ofInt]
    show ((n : Int) % (2 ^ 64 : Int)).toNat = n
    omega
  apply Int64.toBitVec_inj.mp
  apply BitVec.eq_of_toNat_eq
  rw [Int64.toBitVec_or, BitVec.toNat_or, e _ h, e _ (by omega), e _ (by omega), ← Nat.shiftLeft_eq, Nat.shiftLeft_add_eq_or_of_lt hb, Nat.or_comm]
theorem lZ_or63 {b : Int} (hb : 0 ≤ b ∧ b < 9223372036854775808) : lZ b ||| lZ (-9223372036854775808) = lZ (b - 9223372036854775808) := by
  obtain ⟨n, rfl⟩ := Int.eq_ofNat_of_zero_le hb.1
  have := lZ_orN (m := 1) (b := n) (k := 63) (by omega) (by omega)
  rw [show lZ (-9223372036854775808) = lZ ((1 * 2 ^ 63 : Nat) : Int) by decide, this]
  apply Int64.toBitVec_inj.mp
  apply BitVec.eq_of_toNat_eq
  show (BitVec.ofInt 64 _).toNat = (BitVec.ofInt 64 _).toNat
  rw [BitVec.toNat_ofInt, BitVec.toNat_ofInt]
  show (((1 * 2 ^ 63 + n : Nat) : Int) % (2 ^ 64 : Int)).toNat = (((n : Int) - 9223372036854775808) % (2 ^ 64 : Int)).toNat
  omega
theorem lZ_or31 {b : Int} (hb : 0 ≤ b ∧ b < 2147483648) : lZ b ||| lZ (-2147483648) = lZ (b - 2147483648) := by
  obtain ⟨n, rfl⟩ := Int.eq_ofNat_of_zero_le hb.1
  have := lZ_orN (m := 2 ^ 33 - 1) (b := n) (k := 31) (by omega) (by omega)
  rw [show lZ (-2147483648) = lZ (((2 ^ 33 - 1) * 2 ^ 31 : Nat) : Int) by decide, this]
  apply Int64.toBitVec_inj.mp
  apply BitVec.eq_of_toNat_eq
  show (BitVec.ofInt 64 _).toNat = (BitVec.ofInt 64 _).toNat
  rw [BitVec.toNat_ofInt, BitVec.toNat_ofInt]
  show ((((2 ^ 33 - 1) * 2 ^ 31 + n : Nat) : Int) % (2 ^ 64 : Int)).toNat = (((n : Int) - 2147483648) % (2 ^ 64 : Int)).toNat
  omega
def zdf (d : UInt64) : Prop := ∃ s c q, FP.Core.val64 d = .fin s c q
def zff (y : UInt32) : Prop := ∃ s c q, FP.Core.val32 y = .fin s c q
theorem zbm7 {c : Nat} {q : Int} (h : c < 2 ^ 53 ∧ -1074 ≤ q ∧ q ≤ 971 ∧ (q = -1074 ∨ 2 ^ 52 ≤ c)) : zbm c q 1023 52 = ((if c < 2 ^ 52 then c else ((q + 1074).toNat + 1) * 2 ^ 52 + (c - 2 ^ 52) : Nat) : Int) ∧ 0 ≤ zbm c q 1023 52 ∧ zbm c q 1023 52 < 9223372036854775808 := by
  unfold zbm
  split
  · rw [if_neg (by omega)]; omega
  · rw [if_pos (by omega)]; omega
theorem zbm6 {c : Nat} {q : Int} (h : c < 2 ^ 24 ∧ -149 ≤ q ∧ q ≤ 104 ∧ (q = -149 ∨ 2 ^ 23 ≤ c)) : zbm c q 127 23 = ((if c < 2 ^ 23 then c else ((q + 149).toNat + 1) * 2 ^ 23 + (c - 2 ^ 23) : Nat) : Int) ∧ 0 ≤ zbm c q 127 23 ∧ zbm c q 127 23 < 2147483648 := by
  unfold zbm
  split
  · rw [if_neg (by omega)]; omega
  · rw [if_pos (by omega)]; omega
theorem zero64 {d : UInt64} {s : Bool} {q : Int} (h : FP.Core.val64 d = .fin s 0 q) : d = if s then 9223372036854775808 else 0 := by
  have h1 := (zenc h).1
  rw [if_pos (show (0 : Nat) < 2 ^ 52 by decide), Nat.add_zero] at h1
  cases s
  · exact UInt64.toNat_inj.mp h1
  · exact UInt64.toNat_inj.mp h1
theorem c_toBits7 {σ : zSt} {d : UInt64} (hd : zdf d) {Q : zSt → Option Value → Prop} (k : Q σ (some (.long d.toInt64))) : zCa 49 [.double d, .int (iZ 7)] σ Q := by
  obtain ⟨s, c, q, hv⟩ := hd
  obtain ⟨h1, h2⟩ := zenc hv
  rcases Nat.eq_zero_or_pos c with h0 | h0
  · subst h0
    have e := zero64 hv
    cases s
    · rw [show d = 0 from e] at k ⊢
      exact c_toBits7Z (by rw [show lZ (zbm 0 (1 - (1023 : Int) - 52) 1023 52) = (0 : UInt64).toInt64 by decide +kernel]; exact k)
    · rw [show d = 9223372036854775808 from e] at k ⊢
      exact c_toBits7Y (by rw [show (lZ (zbm 0 (1 - (1023 : Int) - 52) 1023 52) ||| lZ (-9223372036854775808)) = (9223372036854775808 : UInt64).toInt64 by decide +kernel]; exact k)
  · obtain ⟨e1, e2⟩ := zbm7 h2
    have hq : zFq c q 1023 52 := ⟨h2.1, by omega, by omega, by omega⟩
    cases s
    · refine c_toBits7P hv rfl h0 hq ?_
      rw [← lZ_u64 (d := d) (Or.inl (by rw [e1, h1]; simp only [Bool.false_eq_true, if_false, Nat.zero_add]))]
      exact k
    · refine c_toBits7N hv rfl h0 hq ?_
      rw [lZ_or63 e2, ← lZ_u64 (d := d) (Or.inr (by rw [e1, h1]; simp only [if_true]; omega))]
      exact k
theorem zf2d {y : UInt32} {s : Bool} {c : Nat} {q : Int} (h : FP.Core.val32 y = .fin s c q) : ∃ c1 q1, FP.Core.val64 (FP.f2d y) = .fin s c1 q1 ∧ c1 * 2 ^ (q1 + 1074).toNat = c * 2 ^ (q + 1074).toNat := by
  obtain ⟨h1, hc, hq, hq2, hn⟩ := zenc3 h
  have hnan : FP.Core.fIsNaN y = false := by
    show decide (FP.Core.decode FP.Core.b32 y.toNat = .nan) = false
    rw [show FP.Core.decode FP.Core.b32 y.toNat = .fin s c q from h]; rfl
  have e : FP.f2d y = FP.Core.f2d y := FP.f2d_core hnan
  have hlt : c * 2 ^ (q + 1074).toNat < 2 ^ 2098 := Nat.lt_of_lt_of_le (Nat.mul_lt_mul_of_pos_right hc (Nat.two_pow_pos _)) (by rw [← Nat.pow_add]; exact zpw_le.mpr (by omega))
  obtain ⟨c1, q1, hf, hcq⟩ := zfit c (Nat.lt_of_lt_of_le hc (by decide)) (q + 1074).toNat hlt
  obtain ⟨_, a1, _, _⟩ := zfits64.mp (hf s)
  refine ⟨c1, q1, ?_, hcq⟩
  rw [e, FP.Core.val64_f2d, h]
  show FP.Core.roundRatio FP.Core.b64 s c 1 q = _
  refine FP.Core.roundRatio_exact FP.Core.good_b64 (by omega) (hf s) ?_
  have := zexp hcq.symm
  rw [Nat.mul_one, show (q - q1).toNat = (q + 1074).toNat - (q1 + 1074).toNat by omega, show (q1 - q).toNat = (q1 + 1074).toNat - (q + 1074).toNat by omega]
  exact this
theorem c_toBits6 {σ : zSt} {y : UInt32} (hy : zff y) {Q : zSt → Option Value → Prop} (k : Q σ (some (.long y.toInt32.toInt64))) : zCa 49 [.double (FP.f2d y), .int (iZ 6)] σ Q := by
  obtain ⟨s, c, q, hv⟩ := hy
  obtain ⟨h1, h2⟩ := zenc3 hv
  obtain ⟨c1, q1, hw, he⟩ := zf2d hv
  rcases Nat.eq_zero_or_pos c with h0 | h0
  · subst h0
    have e0 : c1 = 0 := by
      rw [Nat.zero_mul] at he
      rcases Nat.mul_eq_zero.mp he with h | h
      · exact h
      · exact absurd h (Nat.ne_of_gt (Nat.two_pow_pos _))
    subst e0
    have e := zero64 hw
    rw [if_pos (show (0 : Nat) < 2 ^ 23 by decide), Nat.add_zero] at h1
    cases s
    · rw [e]
      have ey : y = 0 := UInt32.toNat_inj.mp h1
      rw [ey] at k
      exact c_toBits6Z (by rw [show lZ (zbm 0 (1 - (127 : Int) - 23) 127 23) = (0 : UInt32).toInt32.toInt64 by decide +kernel]; exact k)
    · rw [e]
      have ey : y = 2147483648 := UInt32.toNat_inj.mp h1
      rw [ey] at k
      exact c_toBits6Y (by rw [show (lZ (zbm 0 (1 - (127 : Int) - 23) 127 23) ||| lZ (-2147483648)) = (2147483648 : UInt32).toInt32.toInt64 by decide +kernel]; exact k)
  · obtain ⟨e1, e2⟩ := zbm6 h2
    have hq : zFq c q 127 23 := ⟨h2.1, by omega, by omega, by omega⟩
    cases s
    · refine c_toBits6P hw he h0 hq ?_
      rw [← lZ_u32 (y := y) (Or.inl ⟨by simp only [Bool.false_eq_true, if_false, Nat.zero_add] at h1; omega, by rw [e1, h1]; simp only [Bool.false_eq_true, if_false, Nat.zero_add]⟩)]
      exact k
    · refine c_toBits6N hw he h0 hq ?_
      rw [lZ_or31 e2, ← lZ_u32 (y := y) (Or.inr ⟨by simp only [if_true] at h1; omega, by rw [e1, h1]; simp only [if_true]; omega⟩)]
      exact k
