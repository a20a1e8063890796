/-! HOW MANY BITS -/
theorem zland {d m y m' : Nat} (hd : d < 256) (hm : m < 256) : (d + 256 * y) &&& (m + 256 * m') = (d &&& m) + 256 * (y &&& m') := by
  have hdm : d &&& m < 2 ^ 8 := Nat.and_lt_two_pow _ hm
  rw [Nat.add_comm d, Nat.add_comm m, Nat.add_comm (d &&& m), show (256 : Nat) = 2 ^ 8 from rfl]
  apply Nat.eq_of_testBit_eq
  intro i
  rw [Nat.testBit_and, Nat.testBit_two_pow_mul_add _ hd, Nat.testBit_two_pow_mul_add _ hm, Nat.testBit_two_pow_mul_add _ hdm]
  split
  · rw [Nat.testBit_and]
  · rw [Nat.testBit_and]
theorem iZ_ushr {a : Nat} (ha : a ≤ 2147483647) {k : Nat} (h : k < 32) : ((iZ (a : Int)).toUInt32 >>> ((iZ k).toUInt32 &&& Int32.toUInt32 31)).toInt32 = iZ ((a / 2 ^ k : Nat) : Int) := by
  have e := zsh32u ⟨k, h⟩
  have hq : a / 2 ^ k ≤ a := Nat.div_le_self _ _
  obtain ⟨d, hd⟩ : ∃ d, a / 2 ^ k = d := ⟨_, rfl⟩
  rw [hd] at hq ⊢
  apply Int32.toBitVec_inj.mp
  apply BitVec.eq_of_toNat_eq
  rw [iZ_nat (a := (d : Int)) (by omega)]
  show ((iZ (a : Int)).toUInt32 >>> ((iZ k).toUInt32 &&& Int32.toUInt32 31)).toNat = _
  rw [UInt32.toNat_shiftRight, show (((iZ (k : Nat)).toUInt32 &&& Int32.toUInt32 31)).toNat % 32 = k from e, Nat.shiftRight_eq_div_pow]
  show (iZ (a : Int)).toBitVec.toNat / 2 ^ k = _
  rw [iZ_nat (by omega)]
  exact hd
theorem iZ_land {a b : Nat} (ha : a ≤ 2147483647) (hb : b ≤ 2147483647) : iZ (a : Int) &&& iZ (b : Int) = iZ ((a &&& b : Nat) : Int) := by
  have hq : a &&& b ≤ a := Nat.and_le_left
  apply Int32.toBitVec_inj.mp
  apply BitVec.eq_of_toNat_eq
  rw [Int32.toBitVec_and, BitVec.toNat_and, iZ_nat (by omega), iZ_nat (by omega), iZ_nat (by omega)]
  rfl
/-- bits of a byte -/
def zp8 (a : Nat) : Nat := a % 2 + a / 2 % 2 + a / 4 % 2 + a / 8 % 2 + a / 16 % 2 + a / 32 % 2 + a / 64 % 2 + a / 128 % 2
def zq1 (a : Nat) : Nat := a - (a / 2 &&& 85)
def zq2 (a : Nat) : Nat := (a &&& 51) + (a / 4 &&& 51)
theorem zb1 : ∀ a : Fin 256, ∀ e : Fin 2, (a.val / 2 + 128 * e.val) &&& 85 = a.val / 2 &&& 85 := by decide +kernel
theorem zb1b : ∀ a : Fin 256, (a.val / 2 &&& 85) ≤ a.val := by decide +kernel
theorem zb2 : ∀ a : Fin 256, ∀ e : Fin 4, (a.val / 4 + 64 * e.val) &&& 51 = a.val / 4 &&& 51 := by decide +kernel
theorem zb2b : ∀ a : Fin 256, zq2 (zq1 a.val) ≤ 68 ∧ zq1 a.val ≤ 255 ∧ (zq2 (zq1 a.val) + zq2 (zq1 a.val) / 16) % 16 = zp8 a.val ∧ zp8 a.val ≤ 8 ∧ zq2 (zq1 a.val) % 16 ≤ 4 := by decide +kernel
theorem zbc {a b c : Nat} (ha : a < 256) (hb : b < 256) (hc : c < 256) : ∃ x1 x2 x3 : Nat,
    a + 256 * (b + 256 * c) - ((a + 256 * (b + 256 * c)) / 2 &&& 1431655765) = x1 ∧ ((a + 256 * (b + 256 * c)) / 2 &&& 1431655765) ≤ a + 256 * (b + 256 * c) ∧ x1 < 16777216 ∧ (x1 &&& 858993459) + (x1 / 4 &&& 858993459) = x2 ∧ x2 < 16777216 ∧ (x2 + x2 / 16 &&& 252645135) = x3 ∧ x3 = zp8 a + 256 * (zp8 b + 256 * zp8 c) ∧ zp8 a ≤ 8 ∧ zp8 b ≤ 8 ∧ zp8 c ≤ 8 := by
  have A1 := zb2b ⟨a, ha⟩
  have B1 := zb2b ⟨b, hb⟩
  have C1 := zb2b ⟨c, hc⟩
  have pa := zb1b ⟨a, ha⟩
  have pb := zb1b ⟨b, hb⟩
  have pc := zb1b ⟨c, hc⟩
  simp only at A1 B1 C1 pa pb pc
  have e1 : (a + 256 * (b + 256 * c)) / 2 &&& 1431655765 = (a / 2 &&& 85) + 256 * ((b / 2 &&& 85) + 256 * (c / 2 &&& 85)) := by
    rw [show (a + 256 * (b + 256 * c)) / 2 = (a / 2 + 128 * (b % 2)) + 256 * ((b / 2 + 128 * (c % 2)) + 256 * (c / 2)) by omega, show 1431655765 = 85 + 256 * (85 + 256 * (85 + 256 * 85)) from rfl, zland (by omega) (by omega), zland (by omega) (by omega)]
    have q1 := zb1 ⟨a, ha⟩ ⟨b % 2, by omega⟩
    have q2 := zb1 ⟨b, hb⟩ ⟨c % 2, by omega⟩
    simp only at q1 q2
    rw [q1, q2, show c / 2 &&& (85 + 256 * 85) = c / 2 &&& 85 by
      have := zland (d := c / 2) (m := 85) (y := 0) (m' := 85) (by omega) (by omega)
      rw [Nat.mul_zero, Nat.add_zero, Nat.zero_and, Nat.mul_zero, Nat.add_zero] at this
      exact this]
  have h1 : a + 256 * (b + 256 * c) - ((a + 256 * (b + 256 * c)) / 2 &&& 1431655765) = zq1 a + 256 * (zq1 b + 256 * zq1 c) := by
    rw [e1]; unfold zq1; omega
  have l1 : zq1 a + 256 * (zq1 b + 256 * zq1 c) < 16777216 := by omega
  have h2 : ((zq1 a + 256 * (zq1 b + 256 * zq1 c)) &&& 858993459) + ((zq1 a + 256 * (zq1 b + 256 * zq1 c)) / 4 &&& 858993459) = zq2 (zq1 a) + 256 * (zq2 (zq1 b) + 256 * zq2 (zq1 c)) := by
    have za := A1.2.1
    have zb := B1.2.1
    have zc := C1.2.1
    have f1 : (zq1 a + 256 * (zq1 b + 256 * zq1 c)) &&& 858993459 = (zq1 a &&& 51) + 256 * ((zq1 b &&& 51) + 256 * (zq1 c &&& 51)) := by
      rw [show 858993459 = 51 + 256 * (51 + 256 * (51 + 256 * 51)) from rfl, zland (by omega) (by omega), zland (by omega) (by omega)]
      rw [show zq1 c &&& (51 + 256 * 51) = zq1 c &&& 51 by
        have := zland (d := zq1 c) (m := 51) (y := 0) (m' := 51) (by omega) (by omega)
        rw [Nat.mul_zero, Nat.add_zero, Nat.zero_and, Nat.mul_zero, Nat.add_zero] at this
        exact this]
    have f2 : (zq1 a + 256 * (zq1 b + 256 * zq1 c)) / 4 &&& 858993459 = (zq1 a / 4 &&& 51) + 256 * ((zq1 b / 4 &&& 51) + 256 * (zq1 c / 4 &&& 51)) := by
      rw [show (zq1 a + 256 * (zq1 b + 256 * zq1 c)) / 4 = (zq1 a / 4 + 64 * (zq1 b % 4)) + 256 * ((zq1 b / 4 + 64 * (zq1 c % 4)) + 256 * (zq1 c / 4)) by omega, show 858993459 = 51 + 256 * (51 + 256 * (51 + 256 * 51)) from rfl, zland (by omega) (by omega), zland (by omega) (by omega)]
      have q1 := zb2 ⟨zq1 a, by omega⟩ ⟨zq1 b % 4, by omega⟩
      have q2 := zb2 ⟨zq1 b, by omega⟩ ⟨zq1 c % 4, by omega⟩
      simp only at q1 q2
      rw [q1, q2, show zq1 c / 4 &&& (51 + 256 * 51) = zq1 c / 4 &&& 51 by
        have := zland (d := zq1 c / 4) (m := 51) (y := 0) (m' := 51) (by omega) (by omega)
        rw [Nat.mul_zero, Nat.add_zero, Nat.zero_and, Nat.mul_zero, Nat.add_zero] at this
        exact this]
    rw [f1, f2]; unfold zq2; omega
  refine ⟨_, _, _, h1, by rw [e1]; omega, l1, h2, by omega, rfl, ?_, A1.2.2.2.1, B1.2.2.2.1, C1.2.2.2.1⟩
  rw [show zq2 (zq1 a) + 256 * (zq2 (zq1 b) + 256 * zq2 (zq1 c)) + (zq2 (zq1 a) + 256 * (zq2 (zq1 b) + 256 * zq2 (zq1 c))) / 16 = (zq2 (zq1 a) + zq2 (zq1 a) / 16 + 16 * (zq2 (zq1 b) % 16)) + 256 * ((zq2 (zq1 b) + zq2 (zq1 b) / 16 + 16 * (zq2 (zq1 c) % 16)) + 256 * (zq2 (zq1 c) + zq2 (zq1 c) / 16)) by omega, show 252645135 = 15 + 256 * (15 + 256 * (15 + 256 * 15)) from rfl, zland (by omega) (by omega), zland (by omega) (by omega)]
  rw [show (zq2 (zq1 c) + zq2 (zq1 c) / 16) &&& (15 + 256 * 15) = (zq2 (zq1 c) + zq2 (zq1 c) / 16) &&& 15 by
    have := zland (d := zq2 (zq1 c) + zq2 (zq1 c) / 16) (m := 15) (y := 0) (m' := 15) (by omega) (by omega)
    rw [Nat.mul_zero, Nat.add_zero, Nat.zero_and, Nat.mul_zero, Nat.add_zero] at this
    exact this]
  rw [show (15 : Nat) = 2 ^ 4 - 1 from rfl, Nat.and_two_pow_sub_one_eq_mod, Nat.and_two_pow_sub_one_eq_mod, Nat.and_two_pow_sub_one_eq_mod]
  have := A1.2.2.1
  have := B1.2.2.1
  have := C1.2.2.1
  omega
/-- how many of the first n -/
def zcb (P : Nat → Bool) : Nat → Nat
  | 0 => 0
  | k + 1 => zcb P k + if P k then 1 else 0
theorem zbn_lt (P : Nat → Bool) : ∀ n, zbn P n < 2 ^ n
  | 0 => Nat.one_pos
  | n + 1 => by
    have := zbn_lt P n
    rw [zbn, Nat.pow_succ]
    split <;> omega
theorem zbn_24 (P : Nat → Bool) : ∃ a b c, a < 256 ∧ b < 256 ∧ c < 256 ∧ zbn P 24 = a + 256 * (b + 256 * c) ∧ zp8 a + zp8 b + zp8 c = zcb P 24 := by
  have e : ∀ k, ∃ x : Nat, (if P k = true then 1 else 0) = x ∧ x ≤ 1 := fun k => by by_cases h : P k = true <;> simp [h]
  have e2 : ∀ k v, (if P k = true then v else 0) = v * (if P k = true then 1 else 0) := fun k v => by split <;> simp
  simp only [zbn, zcb, e2 _ (2 ^ _)]
  obtain ⟨x0, h0, l0⟩ := e 0
  obtain ⟨x1, h1, l1⟩ := e 1
  obtain ⟨x2, h2, l2⟩ := e 2
  obtain ⟨x3, h3, l3⟩ := e 3
  obtain ⟨x4, h4, l4⟩ := e 4
  obtain ⟨x5, h5, l5⟩ := e 5
  obtain ⟨x6, h6, l6⟩ := e 6
  obtain ⟨x7, h7, l7⟩ := e 7
  obtain ⟨x8, h8, l8⟩ := e 8
  obtain ⟨x9, h9, l9⟩ := e 9
  obtain ⟨xa, ha, la⟩ := e 10
  obtain ⟨xb, hb, lb⟩ := e 11
  obtain ⟨xc, hc, lc⟩ := e 12
  obtain ⟨xd, hd, ld⟩ := e 13
  obtain ⟨xe, he, le⟩ := e 14
  obtain ⟨xf, hf, lf⟩ := e 15
  obtain ⟨xg, hg, lg⟩ := e 16
  obtain ⟨xh, hh, lh⟩ := e 17
  obtain ⟨xi, hi, li⟩ := e 18
  obtain ⟨xj, hj, lj⟩ := e 19
  obtain ⟨xk, hk, lk⟩ := e 20
  obtain ⟨xl, hl, ll⟩ := e 21
  obtain ⟨xm, hm, lm⟩ := e 22
  obtain ⟨xn, hn, ln⟩ := e 23
  simp only [h0, h1, h2, h3, h4, h5, h6, h7, h8, h9, ha, hb, hc, hd, he, hf, hg, hh, hi, hj, hk, hl, hm, hn]
  refine ⟨x0 + 2 * x1 + 4 * x2 + 8 * x3 + 16 * x4 + 32 * x5 + 64 * x6 + 128 * x7, x8 + 2 * x9 + 4 * xa + 8 * xb + 16 * xc + 32 * xd + 64 * xe + 128 * xf, xg + 2 * xh + 4 * xi + 8 * xj + 16 * xk + 32 * xl + 64 * xm + 128 * xn, by omega, by omega, by omega, by omega, ?_⟩
  have p8 : ∀ a b c d e f g h : Nat, a ≤ 1 → b ≤ 1 → c ≤ 1 → d ≤ 1 → e ≤ 1 → f ≤ 1 → g ≤ 1 → h ≤ 1 → zp8 (a + 2 * b + 4 * c + 8 * d + 16 * e + 32 * f + 64 * g + 128 * h) = a + b + c + d + e + f + g + h := by
    intro a b c d e f g h l1 l2 l3 l4 l5 l6 l7 l8
    unfold zp8
    omega
  rw [p8 _ _ _ _ _ _ _ _ l0 l1 l2 l3 l4 l5 l6 l7, p8 _ _ _ _ _ _ _ _ l8 l9 la lb lc ld le lf, p8 _ _ _ _ _ _ _ _ lg lh li lj lk ll lm ln]
  omega
theorem j_bitCount {σ : zSt} {P : Nat → Bool} {Q : zSt → Option Value → Prop} (k : Q σ (some (.int (iZ (zcb P 24 : Nat))))) : zCa 313 [.int (iZ (zbn P 24 : Nat))] σ Q := by
  refine w_enter (c := zk_J6_bitCount_0f7a4) (ls2 := [(0, .int (iZ (zbn P 24 : Nat)))]) rfl ⟨rfl, trivial⟩ ?_
  obtain ⟨a, b, c, ha, hb, hc, hX, hp⟩ := zbn_24 P
  obtain ⟨x1, x2, x3, h1, h1b, l1, h2, l2, h3, h4, p1, p2, p3⟩ := zbc ha hb hc
  rw [← hX] at h1 h1b
  have lX : zbn P 24 < 16777216 := zbn_lt P 24
  generalize zbn P 24 = X at *
  refine w_iload_n (pc' := 1) ⟨rfl, rfl⟩ rfl ?_
  refine w_iload_n (pc' := 2) ⟨rfl, rfl⟩ rfl ?_
  refine w_ic (pc' := 3) ⟨rfl, rfl⟩ ?_
  refine w_iushr (pc' := 4) ⟨rfl, rfl⟩ ?_
  refine w_topI (iZ_ushr (a := X) (k := 1) (by omega) (by decide)) ?_
  refine w_ldc_w (pc' := 7) (v := .int (iZ (1431655765))) ⟨rfl, rfl⟩ rfl ?_
  refine w_iand (pc' := 8) ⟨rfl, rfl⟩ ?_
  refine w_topI (iZ_land (a := X / 2 ^ 1) (b := 1431655765) (by omega) (by omega)) ?_
  refine w_isubZ (pc' := 9) ⟨rfl, rfl⟩ ?_
  refine w_topI (y := iZ ((x1 : Nat) : Int)) (congrArg iZ (by rw [← h1]; have := h1b; show (X : Int) - ((X / 2 &&& 1431655765 : Nat) : Int) = _; omega)) ?_
  refine w_istore_n (pc' := 10) ⟨rfl, rfl⟩ rfl ?_
  refine w_iload_n (pc' := 11) ⟨rfl, rfl⟩ rfl ?_
  refine w_ldc_w (pc' := 14) (v := .int (iZ (858993459))) ⟨rfl, rfl⟩ rfl ?_
  refine w_iand (pc' := 15) ⟨rfl, rfl⟩ ?_
  refine w_topI (iZ_land (a := x1) (b := 858993459) (by omega) (by omega)) ?_
  refine w_iload_n (pc' := 16) ⟨rfl, rfl⟩ rfl ?_
  refine w_ic (pc' := 17) ⟨rfl, rfl⟩ ?_
  refine w_iushr (pc' := 18) ⟨rfl, rfl⟩ ?_
  refine w_topI (iZ_ushr (a := x1) (k := 2) (by omega) (by decide)) ?_
  refine w_ldc_w (pc' := 21) (v := .int (iZ (858993459))) ⟨rfl, rfl⟩ rfl ?_
  refine w_iand (pc' := 22) ⟨rfl, rfl⟩ ?_
  refine w_topI (iZ_land (a := x1 / 2 ^ 2) (b := 858993459) (by omega) (by omega)) ?_
  refine w_iaddZ (pc' := 23) ⟨rfl, rfl⟩ ?_
  refine w_topI (y := iZ ((x2 : Nat) : Int)) (congrArg iZ (by rw [← h2]; rfl)) ?_
  refine w_istore_n (pc' := 24) ⟨rfl, rfl⟩ rfl ?_
  refine w_iload_n (pc' := 25) ⟨rfl, rfl⟩ rfl ?_
  refine w_iload_n (pc' := 26) ⟨rfl, rfl⟩ rfl ?_
  refine w_ic (pc' := 27) ⟨rfl, rfl⟩ ?_
  refine w_iushr (pc' := 28) ⟨rfl, rfl⟩ ?_
  refine w_topI (iZ_ushr (a := x2) (k := 4) (by omega) (by decide)) ?_
  refine w_iaddZ (pc' := 29) ⟨rfl, rfl⟩ ?_
  refine w_topI (y := iZ ((x2 + x2 / 16 : Nat) : Int)) (congrArg iZ (rfl)) ?_
  refine w_ldc_w (pc' := 32) (v := .int (iZ (252645135))) ⟨rfl, rfl⟩ rfl ?_
  refine w_iand (pc' := 33) ⟨rfl, rfl⟩ ?_
  refine w_topI (iZ_land (a := x2 + x2 / 16) (b := 252645135) (by omega) (by omega)) ?_
  rw [h3]
  refine w_istore_n (pc' := 34) ⟨rfl, rfl⟩ rfl ?_
  refine w_iload_n (pc' := 35) ⟨rfl, rfl⟩ rfl ?_
  refine w_iload_n (pc' := 36) ⟨rfl, rfl⟩ rfl ?_
  refine w_bi (pc' := 38) ⟨rfl, rfl⟩ (by decide) ?_
  refine w_iushr (pc' := 39) ⟨rfl, rfl⟩ ?_
  refine w_topI (iZ_ushr (a := x3) (k := 8) (by omega) (by decide)) ?_
  refine w_iaddZ (pc' := 40) ⟨rfl, rfl⟩ ?_
  refine w_topI (y := iZ ((x3 + x3 / 256 : Nat) : Int)) (congrArg iZ (rfl)) ?_
  refine w_istore_n (pc' := 41) ⟨rfl, rfl⟩ rfl ?_
  refine w_iload_n (pc' := 42) ⟨rfl, rfl⟩ rfl ?_
  refine w_iload_n (pc' := 43) ⟨rfl, rfl⟩ rfl ?_
  refine w_bi (pc' := 45) ⟨rfl, rfl⟩ (by decide) ?_
  refine w_iushr (pc' := 46) ⟨rfl, rfl⟩ ?_
  refine w_topI (iZ_ushr (a := (x3 + x3 / 256)) (k := 16) (by omega) (by decide)) ?_
  refine w_iaddZ (pc' := 47) ⟨rfl, rfl⟩ ?_
  refine w_topI (y := iZ ((x3 + x3 / 256 + (x3 + x3 / 256) / 65536 : Nat) : Int)) (congrArg iZ (rfl)) ?_
  refine w_istore_n (pc' := 48) ⟨rfl, rfl⟩ rfl ?_
  refine w_iload_n (pc' := 49) ⟨rfl, rfl⟩ rfl ?_
  refine w_bi (pc' := 51) ⟨rfl, rfl⟩ (by decide) ?_
  refine w_iand (pc' := 52) ⟨rfl, rfl⟩ ?_
  refine w_topI (y := iZ ((zcb P 24 : Nat) : Int)) ?_ ?_
  · rw [show iZ 63 = iZ ((63 : Nat) : Int) from rfl, iZ_land (by omega) (by omega)]
    refine congrArg iZ (congrArg _ ?_)
    rw [show (63 : Nat) = 2 ^ 6 - 1 from rfl, Nat.and_two_pow_sub_one_eq_mod]
    have d1 : x3 / 256 = zp8 b + 256 * zp8 c := by omega
    have d2 : (x3 + x3 / 256) / 65536 = zp8 c := by omega
    rw [d2, d1, h4]
    clear d1 d2 h1 h1b l1 h2 l2 h3 h4 hX
    omega
  refine w_ireturn (pc' := 53) ⟨rfl, rfl⟩ (Or.inl rfl) ?_
  exact k
