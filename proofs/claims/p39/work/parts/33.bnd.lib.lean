/-! of whole, what this claim takes: 33.bnd.lean.txt -/
def zfb (y : UInt32) : Prop := ∃ s c q, FP.Core.val32 y = .fin s c q ∧ c * 2 ^ (q + 149).toNat ≤ 2 ^ 213
def zdb (d : UInt64) : Prop := ∃ s c q, FP.Core.val64 d = .fin s c q ∧ c * 2 ^ (q + 1074).toNat ≤ 2 ^ 1138
theorem zfb.f {y : UInt32} (h : zfb y) : zff y := by obtain ⟨s, c, q, h, _⟩ := h; exact ⟨s, c, q, h⟩
theorem zdb.f {d : UInt64} (h : zdb d) : zdf d := by obtain ⟨s, c, q, h, _⟩ := h; exact ⟨s, c, q, h⟩
theorem zD_fin {x : UInt64} (h : zdf x) : zD x = some (.double x) := by
  unfold zD
  rw [if_pos ?_]
  have h1 := (FP.Core.fin_bits x).mp h
  rw [UInt64.le_iff_toNat_le, UInt64.toNat_and]
  show x.toNat &&& (2 ^ 63 - 1) ≤ 9218868437227405312
  rw [Nat.and_two_pow_sub_one_eq_mod]
  omega
theorem zF_fin {x : UInt32} (h : zff x) : zF x = some (.float x) := by
  unfold zF
  rw [if_pos ?_]
  obtain ⟨s, c, q, h⟩ := h
  obtain ⟨h1, h2⟩ := zenc3 h
  rw [UInt32.le_iff_toNat_le, UInt32.toNat_and]
  show x.toNat &&& (2 ^ 31 - 1) ≤ 2139095040
  rw [Nat.and_two_pow_sub_one_eq_mod, h1]
  cases s <;> simp only [Bool.false_eq_true, if_false, if_true] <;> split <;> omega
theorem zrr_nn {f : FP.Core.Fmt} {s : Bool} {A B : Nat} {e : Int} : FP.Core.roundRatio f s A B e ≠ .nan := by
  unfold FP.Core.roundRatio FP.Core.roundAt FP.Core.settle FP.Core.bound
  repeat' split
  all_goals simp
theorem zrr32 {s : Bool} {A B : Nat} {e e0 : Int} (hB : 0 < B) (h0 : e0 ≤ -149) (he : e0 ≤ e) (h : A * 2 ^ (e - e0).toNat ≤ 2 ^ 213 * 2 ^ (-149 - e0).toNat * B) : ∃ s1 c q, FP.Core.roundRatio FP.Core.b32 s A B e = .fin s1 c q ∧ c * 2 ^ (q + 149).toNat ≤ 2 ^ 213 := by
  have hV : FP.Core.fits FP.Core.b32 (.fin false (2 ^ 23) 41) := zfits32.mpr (by decide)
  have hz : FP.Core.zmag FP.Core.b32 (.fin false (2 ^ 23) 41) = 2 ^ 213 := by
    show 2 ^ 23 * 2 ^ (41 - FP.Core.b32.qmin).toNat = _
    rw [zqmin3, ← Nat.pow_add]; rfl
  have := FP.Core.zmag_roundRatio_le (s := s) FP.Core.good_b32 hB hV (by simp) (e0 := e0) (by rw [zqmin3]; exact h0) he (by rw [hz, zqmin3]; exact h)
  rw [hz] at this
  have hn := @zrr_nn FP.Core.b32 s A B e
  have hfit := FP.Core.roundRatio_fits FP.Core.good_b32 s A hB e
  cases hr : FP.Core.roundRatio FP.Core.b32 s A B e with
  | nan => exact absurd hr hn
  | inf t =>
    rw [hr] at this
    exact absurd this (Nat.not_le.mpr (by
      show 2 ^ 213 < 2 ^ 23 * 2 ^ 254
      rw [← Nat.pow_add]; exact zpw_lt.mpr (by omega)))
  | fin s1 c q =>
    rw [hr] at this
    refine ⟨s1, c, q, rfl, ?_⟩
    have e : FP.Core.zmag FP.Core.b32 (.fin s1 c q) = c * 2 ^ (q + 149).toNat := by
      show c * 2 ^ (q - FP.Core.b32.qmin).toNat = _
      rw [zqmin3, show (q - -149) = q + 149 by omega]
    rw [← e]; exact this
theorem zinf64 {t : Bool} : FP.Core.zmag FP.Core.b64 (.inf t) = 2 ^ 52 * 2 ^ 2046 := by
  have e : FP.Core.zmag FP.Core.b64 (.inf t) = FP.Core.b64.tails * 2 ^ (FP.Core.b64.exps - 2) := rfl
  rw [e, show FP.Core.b64.tails = 2 ^ 52 by decide +kernel, show FP.Core.b64.exps - 2 = 2046 by decide +kernel]
theorem zrr64 {s : Bool} {A B : Nat} {e e0 : Int} (hB : 0 < B) (h0 : e0 ≤ -1074) (he : e0 ≤ e) (h : A * 2 ^ (e - e0).toNat ≤ 2 ^ 1138 * 2 ^ (-1074 - e0).toNat * B) : ∃ s1 c q, FP.Core.roundRatio FP.Core.b64 s A B e = .fin s1 c q ∧ c * 2 ^ (q + 1074).toNat ≤ 2 ^ 1138 := by
  have hV : FP.Core.fits FP.Core.b64 (.fin false (2 ^ 52) 12) := zfits64.mpr (by decide)
  have hz : FP.Core.zmag FP.Core.b64 (.fin false (2 ^ 52) 12) = 2 ^ 1138 := by
    show 2 ^ 52 * 2 ^ (12 - FP.Core.b64.qmin).toNat = _
    rw [zqmin, ← Nat.pow_add]; rfl
  have := FP.Core.zmag_roundRatio_le (s := s) FP.Core.good_b64 hB hV (by simp) (e0 := e0) (by rw [zqmin]; exact h0) he (by rw [hz, zqmin]; exact h)
  rw [hz] at this
  have hn := @zrr_nn FP.Core.b64 s A B e
  cases hr : FP.Core.roundRatio FP.Core.b64 s A B e with
  | nan => exact absurd hr hn
  | inf t =>
    rw [hr, zinf64] at this
    exact absurd this (Nat.not_le.mpr (by
      rw [← Nat.pow_add]; exact zpw_lt.mpr (by omega)))
  | fin s1 c q =>
    rw [hr] at this
    refine ⟨s1, c, q, rfl, ?_⟩
    have e : FP.Core.zmag FP.Core.b64 (.fin s1 c q) = c * 2 ^ (q + 1074).toNat := by
      show c * 2 ^ (q - FP.Core.b64.qmin).toNat = _
      rw [zqmin, show (q - -1074) = q + 1074 by omega]
    rw [← e]; exact this
theorem zabs64 (x : Int64) : x.toInt.natAbs ≤ 2 ^ 63 := by have := x.le_toInt; have := x.toInt_lt; omega
theorem zl2f (x : Int64) : zfb (FP.l2f x) := by
  have h := FP.Core.val32_l2f x
  have h2 : FP.Core.round FP.Core.b32 (FP.Core.ofInt x.toInt) = FP.Core.roundRatio FP.Core.b32 (decide (x.toInt < 0)) x.toInt.natAbs 1 0 := rfl
  rw [h2] at h
  obtain ⟨s, c, q, e, hb⟩ := zrr32 (s := decide (x.toInt < 0)) (A := x.toInt.natAbs) (B := 1) (e := 0) (e0 := -149) (by omega) (by omega) (by omega) (by
    rw [show (0 - -149 : Int).toNat = 149 from rfl, show (-149 - -149 : Int).toNat = 0 from rfl, Nat.pow_zero, Nat.mul_one, Nat.mul_one]
    refine Nat.le_trans (Nat.mul_le_mul_right _ (zabs64 x)) ?_
    rw [← Nat.pow_add]; exact zpw_le.mpr (by omega))
  exact ⟨s, c, q, h.trans e, hb⟩
theorem zl2d (x : Int64) : zdb (FP.l2d x) := by
  have h := FP.Core.val64_l2d x
  have h2 : FP.Core.round FP.Core.b64 (FP.Core.ofInt x.toInt) = FP.Core.roundRatio FP.Core.b64 (decide (x.toInt < 0)) x.toInt.natAbs 1 0 := rfl
  rw [h2] at h
  obtain ⟨s, c, q, e, hb⟩ := zrr64 (s := decide (x.toInt < 0)) (A := x.toInt.natAbs) (B := 1) (e := 0) (e0 := -1074) (by omega) (by omega) (by omega) (by
    rw [show (0 - -1074 : Int).toNat = 1074 from rfl, show (-1074 - -1074 : Int).toNat = 0 from rfl, Nat.pow_zero, Nat.mul_one, Nat.mul_one]
    refine Nat.le_trans (Nat.mul_le_mul_right _ (zabs64 x)) ?_
    rw [← Nat.pow_add]; exact zpw_le.mpr (by omega))
  exact ⟨s, c, q, h.trans e, hb⟩
theorem zl2f16 (x : Int64) : zfb (FP.fdiv (FP.l2f x) 1098907648) := by
  obtain ⟨s, c, q, e, hb⟩ := zl2f x
  obtain ⟨_, _, hq, _, _⟩ := zenc3 e
  have h := FP.Core.val32_fdiv (FP.l2f x) 1098907648
  rw [e, show FP.Core.val32 1098907648 = .fin false (2 ^ 23) (-19) by decide +kernel] at h
  simp only [FP.Core.quotient] at h
  rw [if_neg (by decide)] at h
  obtain ⟨s1, c1, q1, e1, hb1⟩ := zrr32 (s := (s != false)) (A := c) (B := 2 ^ 23) (e := q - -19) (e0 := -149) (by decide) (by omega) (by omega) (by
    rw [show (q - -19 - -149 : Int).toNat = (q + 149).toNat + 19 by omega, show (-149 - -149 : Int).toNat = 0 from rfl, Nat.pow_zero, Nat.mul_one, Nat.pow_add, ← Nat.mul_assoc]
    exact Nat.mul_le_mul hb (by decide))
  exact ⟨s1, c1, q1, h.trans e1, hb1⟩
theorem zl2d16 (x : Int64) : zdb (FP.ddiv (FP.l2d x) 4625196817309499392) := by
  obtain ⟨s, c, q, e, hb⟩ := zl2d x
  obtain ⟨_, _, hq, _, _⟩ := zenc e
  have h := FP.Core.val64_ddiv (FP.l2d x) 4625196817309499392
  rw [e, show FP.Core.val64 4625196817309499392 = .fin false (2 ^ 52) (-48) by decide +kernel] at h
  simp only [FP.Core.quotient] at h
  rw [if_neg (by decide)] at h
  obtain ⟨s1, c1, q1, e1, hb1⟩ := zrr64 (s := (s != false)) (A := c) (B := 2 ^ 52) (e := q - -48) (e0 := -1074) (by decide) (by omega) (by omega) (by
    rw [show (q - -48 - -1074 : Int).toNat = (q + 1074).toNat + 48 by omega, show (-1074 - -1074 : Int).toNat = 0 from rfl, Nat.pow_zero, Nat.mul_one, Nat.pow_add, ← Nat.mul_assoc]
    exact Nat.mul_le_mul hb (by decide))
  exact ⟨s1, c1, q1, h.trans e1, hb1⟩
theorem zd2f {d : UInt64} (hd : zdb d) : zfb (FP.d2f d) := by
  obtain ⟨s, c, q, e, hb⟩ := hd
  obtain ⟨_, _, hq, _, _⟩ := zenc e
  have hn : FP.Core.dIsNaN d = false := by
    show decide (FP.Core.decode FP.Core.b64 d.toNat = .nan) = false
    rw [show FP.Core.decode FP.Core.b64 d.toNat = .fin s c q from e]; rfl
  have h : FP.Core.val32 (FP.d2f d) = FP.Core.round FP.Core.b32 (FP.Core.val64 d) := by rw [FP.d2f_core hn]; exact FP.Core.val32_d2f d
  rw [e] at h
  obtain ⟨s1, c1, q1, e1, hb1⟩ := zrr32 (s := s) (A := c) (B := 1) (e := q) (e0 := -1074) (by omega) (by omega) (by omega) (by
    rw [show (q - -1074 : Int).toNat = (q + 1074).toNat by omega, Nat.mul_one, show (-149 - -1074 : Int).toNat = 925 from rfl, ← Nat.pow_add]
    exact hb)
  exact ⟨s1, c1, q1, h.trans e1, hb1⟩
theorem zf2db {y : UInt32} (h : zfb y) : zdb (FP.f2d y) := by
  obtain ⟨s, c, q, e, hb⟩ := h
  obtain ⟨_, _, hq, _, _⟩ := zenc3 e
  obtain ⟨c1, q1, h1, h2⟩ := zf2d e
  refine ⟨s, c1, q1, h1, ?_⟩
  rw [h2, show (q + 1074).toNat = (q + 149).toNat + 925 by omega, Nat.pow_add, ← Nat.mul_assoc]
  refine Nat.le_trans (Nat.mul_le_mul_right _ hb) ?_
  rw [← Nat.pow_add]; exact zpw_le.mpr (by omega)
