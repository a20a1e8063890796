/-! of whole, what this claim takes: 32.rfc.lean.txt -/
theorem zuniq {x d : UInt64} {s : Bool} {c : Nat} {q : Int} {M : Nat} (hx : zM0 x M) (hv : FP.Core.val64 d = .fin s c q) (he : c * 2 ^ (q + 1074).toNat = M) : (if s = true then FP.dneg x else x) = d := by
  rcases Nat.eq_zero_or_pos c with h0 | h0
  · subst h0
    have e := zero64 hv
    have ex := hx.2 (by rw [← he, Nat.zero_mul])
    rw [e, ex]
    cases s <;> decide +kernel
  · have hM : 0 < M := he ▸ Nat.mul_pos h0 (Nat.two_pow_pos _)
    obtain ⟨sx, cx, qx, vx, ex, nx, fx⟩ := hx.1
    have hsx : sx = false := by
      cases sx with
      | false => rfl
      | true => rw [nx rfl, Nat.zero_mul] at ex; omega
    subst hsx
    have hn : FP.Core.val64 d ≠ .nan := by rw [hv]; simp
    have hz : ¬ FP.Core.DZero d := by
      rintro ⟨s', q', h⟩
      rw [hv] at h
      injection h with _ h2 _
      omega
    have zd : FP.Core.zval FP.Core.b64 (FP.Core.val64 d) = FP.Core.signed s M := by
      rw [hv]
      show FP.Core.signed s (c * 2 ^ (q - FP.Core.b64.qmin).toNat) = _
      rw [zqmin, show (q - -1074) = q + 1074 by omega, he]
    have zx : FP.Core.zval FP.Core.b64 (FP.Core.val64 x) = (M : Int) := (zM_val hx.1).2.1
    cases s with
    | false =>
      refine FP.Core.eq_bits hz ?_
      show FP.Core.dcmp x d = _
      rw [FP.Core.dcmp_zval (zM_val hx.1).1 hn, zd, zx, FP.Core.compare_ite]
      rw [show FP.Core.signed false M = (M : Int) from rfl, if_neg (by omega), if_pos rfl]
    | true =>
      refine FP.Core.eq_bits hz ?_
      have vn : FP.Core.val64 (FP.dneg x) = .fin true cx qx := by rw [FP.val64_dneg, vx]; rfl
      have zn : FP.Core.zval FP.Core.b64 (FP.Core.val64 (FP.dneg x)) = -(M : Int) := by rw [FP.val64_dneg, FP.Core.zval_negate, zx]
      show FP.Core.dcmp (FP.dneg x) d = _
      rw [FP.Core.dcmp_zval (by rw [vn]; simp) hn, zd, zn, FP.Core.compare_ite]
      rw [show FP.Core.signed true M = -(M : Int) from rfl, if_neg (by omega), if_pos rfl]
theorem c_fB7 {σ : zSt} {d : UInt64} (hd : zdf d) {Q : zSt → Option Value → Prop} (k : Q σ (some (.double d))) : zCa 50 [.long d.toInt64, .int (iZ 7)] σ Q := by
  obtain ⟨s, c, q, hv⟩ := hd
  obtain ⟨h1, h2⟩ := zenc hv
  have hex : ∃ a : Int, d.toInt64 = lZ a ∧ ((s = false ∧ a = ((if c < 2 ^ 52 then c else ((q + 1074).toNat + 1) * 2 ^ 52 + (c - 2 ^ 52) : Nat) : Int)) ∨ (s = true ∧ a = ((if c < 2 ^ 52 then c else ((q + 1074).toNat + 1) * 2 ^ 52 + (c - 2 ^ 52) : Nat) : Int) - 9223372036854775808)) := by
    cases s
    · exact ⟨_, lZ_u64 (Or.inl (by rw [h1]; simp only [Bool.false_eq_true, if_false, Nat.zero_add])), Or.inl ⟨rfl, rfl⟩⟩
    · exact ⟨_, lZ_u64 (a := ((if c < 2 ^ 52 then c else ((q + 1074).toNat + 1) * 2 ^ 52 + (c - 2 ^ 52) : Nat) : Int) - 9223372036854775808) (Or.inr (by rw [h1]; simp only [if_true]; omega)), Or.inr ⟨rfl, rfl⟩⟩
  obtain ⟨a, ea, has⟩ := hex
  rw [ea]
  have hmag : (c < 2 ^ 52 ∧ (if c < 2 ^ 52 then c else ((q + 1074).toNat + 1) * 2 ^ 52 + (c - 2 ^ 52)) = c) ∨ (2 ^ 52 ≤ c ∧ (if c < 2 ^ 52 then c else ((q + 1074).toNat + 1) * 2 ^ 52 + (c - 2 ^ 52)) = ((q + 1074).toNat + 1) * 2 ^ 52 + (c - 2 ^ 52)) := by
    split
    · exact Or.inl ⟨by assumption, rfl⟩
    · exact Or.inr ⟨by omega, rfl⟩
  generalize (if c < 2 ^ 52 then c else ((q + 1074).toNat + 1) * 2 ^ 52 + (c - 2 ^ 52)) = m at has hmag
  have hneg : a < 0 ↔ s = true := by
    rcases has with ⟨e, h⟩ | ⟨e, h⟩
    · rw [e]; constructor
      · intro h; omega
      · intro h; cases h
    · rw [e]; constructor
      · intro _; rfl
      · intro _; omega
  refine c_fromBits7 (c := c) (q := q) (by omega) (by omega) (fun h => by omega) (fun h => by omega) (fun x hx => ?_)
  have := zuniq hx hv rfl
  rw [show (if a < 0 then FP.dneg x else x) = d by rw [← this]; by_cases hh : a < 0 <;> simp [hh, ← hneg]]
  exact k
theorem c_fB6 {σ : zSt} {y : UInt32} (hy : zff y) {Q : zSt → Option Value → Prop} (k : Q σ (some (.double (FP.f2d y)))) : zCa 50 [.long y.toInt32.toInt64, .int (iZ 6)] σ Q := by
  obtain ⟨s, c, q, hv⟩ := hy
  obtain ⟨h1, h2⟩ := zenc3 hv
  obtain ⟨c1, q1, hw, he⟩ := zf2d hv
  have hbz : (if c < 2 ^ 23 then c else ((q + 149).toNat + 1) * 2 ^ 23 + (c - 2 ^ 23)) < 2147483648 := by have := zbm6 h2; omega
  have hex : ∃ a : Int, y.toInt32.toInt64 = lZ a ∧ ((s = false ∧ a = ((if c < 2 ^ 23 then c else ((q + 149).toNat + 1) * 2 ^ 23 + (c - 2 ^ 23) : Nat) : Int)) ∨ (s = true ∧ a = ((if c < 2 ^ 23 then c else ((q + 149).toNat + 1) * 2 ^ 23 + (c - 2 ^ 23) : Nat) : Int) - 2147483648)) := by
    cases s
    · exact ⟨((if c < 2 ^ 23 then c else ((q + 149).toNat + 1) * 2 ^ 23 + (c - 2 ^ 23) : Nat) : Int), lZ_u32 (Or.inl ⟨by simp only [Bool.false_eq_true, if_false, Nat.zero_add] at h1; omega, by rw [h1]; simp only [Bool.false_eq_true, if_false, Nat.zero_add]⟩), Or.inl ⟨rfl, rfl⟩⟩
    · exact ⟨((if c < 2 ^ 23 then c else ((q + 149).toNat + 1) * 2 ^ 23 + (c - 2 ^ 23) : Nat) : Int) - 2147483648, lZ_u32 (Or.inr ⟨by simp only [if_true] at h1; omega, by rw [h1]; simp only [if_true]; omega⟩), Or.inr ⟨rfl, rfl⟩⟩
  obtain ⟨a, ea, has⟩ := hex
  rw [ea]
  have hmag : (c < 2 ^ 23 ∧ (if c < 2 ^ 23 then c else ((q + 149).toNat + 1) * 2 ^ 23 + (c - 2 ^ 23)) = c) ∨ (2 ^ 23 ≤ c ∧ (if c < 2 ^ 23 then c else ((q + 149).toNat + 1) * 2 ^ 23 + (c - 2 ^ 23)) = ((q + 149).toNat + 1) * 2 ^ 23 + (c - 2 ^ 23)) := by
    split
    · exact Or.inl ⟨by assumption, rfl⟩
    · exact Or.inr ⟨by omega, rfl⟩
  generalize (if c < 2 ^ 23 then c else ((q + 149).toNat + 1) * 2 ^ 23 + (c - 2 ^ 23)) = m at has hmag
  have hneg : a < 0 ↔ s = true := by
    rcases has with ⟨e, h⟩ | ⟨e, h⟩
    · rw [e]; constructor
      · intro h; omega
      · intro h; cases h
    · rw [e]; constructor
      · intro _; rfl
      · intro _; omega
  refine c_fromBits6 (c := c) (q := q) (by omega) (by omega) (fun h => by omega) (fun h => by omega) (fun x hx => ?_)
  have := zuniq hx hw he
  rw [show (if a < 0 then FP.dneg x else x) = FP.f2d y by rw [← this]; by_cases hh : a < 0 <;> simp [hh, ← hneg]]
  exact k
