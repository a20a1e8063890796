/-! of whole, what this claim takes: 28.fp.lean.txt -/
theorem zexp {X Y u v : Nat} (h : X * 2 ^ u = Y * 2 ^ v) : X * 2 ^ (u - v) = Y * 2 ^ (v - u) := by
  rcases Nat.le_total v u with q | q
  · rw [Nat.sub_eq_zero_of_le q, Nat.pow_zero, Nat.mul_one]
    rw [show u = (u - v) + v by omega, Nat.pow_add, ← Nat.mul_assoc] at h
    exact Nat.eq_of_mul_eq_mul_right (Nat.two_pow_pos v) h
  · rw [Nat.sub_eq_zero_of_le q, Nat.pow_zero, Nat.mul_one]
    rw [show v = (v - u) + u by omega, Nat.pow_add, ← Nat.mul_assoc] at h
    exact Nat.eq_of_mul_eq_mul_right (Nat.two_pow_pos u) h
theorem zqmin : FP.Core.b64.qmin = -1074 := by decide +kernel
theorem zqmax : FP.Core.b64.qmax = 971 := by decide +kernel
theorem zqmin3 : FP.Core.b32.qmin = -149 := by decide +kernel
theorem zqmax3 : FP.Core.b32.qmax = 104 := by decide +kernel
theorem zfits64 {s : Bool} {c : Nat} {q : Int} : FP.Core.fits FP.Core.b64 (.fin s c q) ↔ c < 2 ^ 53 ∧ -1074 ≤ q ∧ q ≤ 971 ∧ (q = -1074 ∨ 2 ^ 52 ≤ c) := by
  unfold FP.Core.fits
  rw [zqmin, zqmax]
  exact Iff.rfl
theorem zfits32 {s : Bool} {c : Nat} {q : Int} : FP.Core.fits FP.Core.b32 (.fin s c q) ↔ c < 2 ^ 24 ∧ -149 ≤ q ∧ q ≤ 104 ∧ (q = -149 ∨ 2 ^ 23 ≤ c) := by
  unfold FP.Core.fits
  rw [zqmin3, zqmax3]
  exact Iff.rfl
def zM (d : UInt64) (M : Nat) : Prop := ∃ s c q, FP.Core.val64 d = .fin s c q ∧ c * 2 ^ (q + 1074).toNat = M ∧ (s = true → c = 0) ∧ FP.Core.fits FP.Core.b64 (.fin s c q)
theorem zM_of {d : UInt64} {s : Bool} {c : Nat} {q : Int} (h : FP.Core.val64 d = .fin s c q) (hs : s = true → c = 0) : zM d (c * 2 ^ (q + 1074).toNat) := ⟨s, c, q, h, rfl, hs, h ▸ FP.Core.val64_fits d⟩
theorem zfit (m : Nat) (hm : m < 2 ^ 53) : ∀ t : Nat, m * 2 ^ t < 2 ^ 2098 → ∃ (c : Nat) (q : Int), (∀ s, FP.Core.fits FP.Core.b64 (.fin s c q)) ∧ c * 2 ^ (q + 1074).toNat = m * 2 ^ t
  | 0, _ => ⟨m, -1074, fun s => zfits64.mpr ⟨hm, by omega, by omega, Or.inl rfl⟩, rfl⟩
  | t + 1, h => by
    have h2 : m * 2 ^ (t + 1) = 2 * (m * 2 ^ t) := by rw [Nat.pow_succ, ← Nat.mul_assoc, Nat.mul_comm]
    obtain ⟨c, q, hf, e⟩ := zfit m hm t (by omega)
    obtain ⟨hc, hq, hq2, hn⟩ := zfits64.mp (hf false)
    by_cases hb : 2 ^ 52 ≤ c
    · have e2 : c * 2 ^ (q + 1 + 1074).toNat = m * 2 ^ (t + 1) := by
        rw [h2, ← e, show (q + 1 + 1074).toNat = (q + 1074).toNat + 1 by omega, Nat.pow_succ, Nat.mul_left_comm 2, Nat.mul_comm _ 2]
      have h3 : 2 ^ 52 * 2 ^ (q + 1 + 1074).toNat < 2 ^ 2098 := Nat.lt_of_le_of_lt (Nat.mul_le_mul_right _ hb) (e2 ▸ h)
      rw [← Nat.pow_add] at h3
      have h4 := (Nat.pow_lt_pow_iff_right (by omega)).mp h3
      exact ⟨c, q + 1, fun s => zfits64.mpr ⟨hc, by omega, by omega, Or.inr hb⟩, e2⟩
    · have hq3 : q = -1074 := by omega
      refine ⟨2 * c, q, fun s => zfits64.mpr ⟨by omega, by omega, by omega, Or.inl hq3⟩, ?_⟩
      rw [h2, ← e, Nat.mul_assoc]
theorem zM_mul {d e : UInt64} {M k : Nat} (hd : zM d M) (he : zM e (2 ^ (1074 + k))) (hb : ∃ m t, m < 2 ^ 53 ∧ M * 2 ^ k = m * 2 ^ t) (hlt : M * 2 ^ k < 2 ^ 2098) : zM (FP.dmul d e) (M * 2 ^ k) := by
  obtain ⟨s1, c1, q1, v1, e1, n1, f1⟩ := hd
  obtain ⟨s2, c2, q2, v2, e2, n2, f2⟩ := he
  obtain ⟨m, t, hm, hmt⟩ := hb
  obtain ⟨c, q, hf, hcq⟩ := zfit m hm t (hmt ▸ hlt)
  have hs2 : s2 = false := by
    cases s2 with
    | false => rfl
    | true => rw [n2 rfl, Nat.zero_mul] at e2; exact absurd e2.symm (Nat.ne_of_gt (Nat.two_pow_pos _))
  subst hs2
  obtain ⟨_, a1, _, _⟩ := zfits64.mp f1
  obtain ⟨_, a2, _, _⟩ := zfits64.mp f2
  obtain ⟨_, a3, _, _⟩ := zfits64.mp (hf s1)
  have hkey : c1 * c2 * 2 ^ ((q1 + 1074).toNat + (q2 + 1074).toNat) = c * 2 ^ ((q + 1074).toNat + 1074) := by
    rw [Nat.pow_add, Nat.pow_add, ← Nat.mul_assoc c, hcq, ← hmt, ← e1, show c1 * c2 * (2 ^ (q1 + 1074).toNat * 2 ^ (q2 + 1074).toNat) = (c1 * 2 ^ (q1 + 1074).toNat) * (c2 * 2 ^ (q2 + 1074).toNat) by ac_rfl, e2, Nat.pow_add]
    generalize (2 : Nat) ^ 1074 = W
    generalize (2 : Nat) ^ (q1 + 1074).toNat = A
    generalize (2 : Nat) ^ k = B
    ac_rfl
  have hz := zexp hkey
  have hv : FP.Core.val64 (FP.dmul d e) = .fin s1 c q := by
    rw [show FP.dmul d e = FP.Core.dmul d e from rfl, FP.Core.val64_dmul, v1, v2]
    show FP.Core.roundRatio FP.Core.b64 (s1 != false) (c1 * c2) 1 (q1 + q2) = _
    rw [show (s1 != false) = s1 by cases s1 <;> rfl]
    refine FP.Core.roundRatio_exact FP.Core.good_b64 (by omega) (hf s1) ?_
    rw [Nat.mul_one, show (q1 + q2 - q).toNat = (q1 + 1074).toNat + (q2 + 1074).toNat - ((q + 1074).toNat + 1074) by omega, show (q - (q1 + q2)).toNat = (q + 1074).toNat + 1074 - ((q1 + 1074).toNat + (q2 + 1074).toNat) by omega]
    exact hz
  refine ⟨s1, c, q, hv, by rw [hcq, hmt], fun h => ?_, hf s1⟩
  have := n1 h
  rw [this, Nat.zero_mul] at e1
  rw [← hmt, ← e1, Nat.zero_mul] at hcq
  rcases Nat.mul_eq_zero.mp hcq with h0 | h0
  · exact h0
  · exact absurd h0 (Nat.ne_of_gt (Nat.two_pow_pos _))
theorem zM_form {d : UInt64} {M : Nat} (hd : zM d M) : ∃ c t, c < 2 ^ 53 ∧ M = c * 2 ^ t ∧ M < 2 ^ 2098 := by
  obtain ⟨s1, c1, q1, v1, e1, n1, f1⟩ := hd
  obtain ⟨a0, a1, a2, _⟩ := zfits64.mp f1
  refine ⟨c1, _, a0, e1.symm, ?_⟩
  rw [← e1]
  calc c1 * 2 ^ (q1 + 1074).toNat < 2 ^ 53 * 2 ^ (q1 + 1074).toNat := Nat.mul_lt_mul_of_pos_right a0 (Nat.two_pow_pos _)
    _ = 2 ^ (53 + (q1 + 1074).toNat) := (Nat.pow_add _ _ _).symm
    _ ≤ 2 ^ 2098 := Nat.pow_le_pow_right (by omega) (by omega)
theorem zM_two : zM 4611686018427387904 (2 ^ (1074 + 1)) := ⟨false, 2 ^ 52, -51, by decide +kernel, by rw [← Nat.pow_add]; rfl, (fun h => by cases h), zfits64.mpr (by decide)⟩
theorem zM_one : zM 4607182418800017408 (2 ^ (1074 + 0)) := ⟨false, 2 ^ 52, -52, by decide +kernel, by rw [← Nat.pow_add]; rfl, (fun h => by cases h), zfits64.mpr (by decide)⟩
theorem zM_zero : zM 0 0 := ⟨false, 0, -1074, by decide +kernel, by rw [Nat.zero_mul], fun h => rfl, zfits64.mpr (by decide)⟩
theorem zM_dbl {d : UInt64} {M : Nat} (hd : zM d M) (h : M * 2 < 2 ^ 2098) : zM (FP.dmul d 4611686018427387904) (M * 2) := by
  obtain ⟨c, t, hc, e, _⟩ := zM_form hd
  have := zM_mul (k := 1) hd zM_two ⟨c, t + 1, hc, by rw [e, Nat.mul_assoc, ← Nat.pow_add]⟩ (by rw [Nat.pow_one]; exact h)
  rw [Nat.pow_one] at this
  exact this
theorem zM_hlf {d : UInt64} {M : Nat} (hd : zM d (M * 2)) : zM (FP.ddiv d 4611686018427387904) M := by
  obtain ⟨s1, c1, q1, v1, e1, n1, f1⟩ := hd
  obtain ⟨a0, a1, a2, _⟩ := zfits64.mp f1
  have hlt : M < 2 ^ 2098 := by
    obtain ⟨_, _, _, _, h⟩ := zM_form (d := d) ⟨s1, c1, q1, v1, e1, n1, f1⟩
    omega
  have hb : ∃ m t, m < 2 ^ 53 ∧ M = m * 2 ^ t := by
    cases ha : (q1 + 1074).toNat with
    | zero => rw [ha, Nat.pow_zero, Nat.mul_one] at e1; exact ⟨M, 0, by omega, by rw [Nat.pow_zero, Nat.mul_one]⟩
    | succ a =>
      rw [ha, Nat.pow_succ, ← Nat.mul_assoc] at e1
      exact ⟨c1, a, a0, by omega⟩
  obtain ⟨m, t, hm, hmt⟩ := hb
  obtain ⟨c, q, hf, hcq⟩ := zfit m hm t (hmt ▸ hlt)
  obtain ⟨_, a3, _, _⟩ := zfits64.mp (hf s1)
  have hkey : c1 * 2 ^ ((q1 + 1074).toNat + 51) = c * 2 ^ 52 * 2 ^ (q + 1074).toNat := by
    rw [Nat.pow_add, ← Nat.mul_assoc, e1, hmt, ← hcq]
    rw [show (2 : Nat) ^ 52 = 2 * 2 ^ 51 from rfl]
    generalize (2 : Nat) ^ 51 = W
    generalize (2 : Nat) ^ (q + 1074).toNat = A
    ac_rfl
  have hz := zexp hkey
  have hv : FP.Core.val64 (FP.ddiv d 4611686018427387904) = .fin s1 c q := by
    rw [show FP.ddiv d 4611686018427387904 = FP.Core.ddiv d 4611686018427387904 from rfl, FP.Core.val64_ddiv, v1, show FP.Core.val64 4611686018427387904 = .fin false (2 ^ 52) (-51) by decide +kernel]
    simp only [FP.Core.quotient]
    rw [if_neg (by decide), show (s1 != false) = s1 by cases s1 <;> rfl]
    refine FP.Core.roundRatio_exact FP.Core.good_b64 (by decide) (hf s1) ?_
    rw [show (q1 - (-51) - q).toNat = (q1 + 1074).toNat + 51 - (q + 1074).toNat by omega, show (q - (q1 - (-51))).toNat = (q + 1074).toNat - ((q1 + 1074).toNat + 51) by omega]
    exact hz
  refine ⟨s1, c, q, hv, by rw [hcq, hmt], fun h => ?_, hf s1⟩
  have := n1 h
  rw [this, Nat.zero_mul] at e1
  have h0 : M = 0 := by omega
  rw [← hmt, h0] at hcq
  rcases Nat.mul_eq_zero.mp hcq with h0 | h0
  · exact h0
  · exact absurd h0 (Nat.ne_of_gt (Nat.two_pow_pos _))
theorem zM_val {d : UInt64} {M : Nat} (h : zM d M) : FP.Core.val64 d ≠ .nan ∧ FP.Core.zval FP.Core.b64 (FP.Core.val64 d) = (M : Int) ∧ FP.Core.zmag FP.Core.b64 (FP.Core.val64 d) = M ∧ FP.Core.signed (FP.Core.sgn (FP.Core.val64 d)) M = (M : Int) := by
  obtain ⟨s, c, q, v, e, n, f⟩ := h
  rw [v]
  have em : FP.Core.zmag FP.Core.b64 (.fin s c q) = M := by
    show c * 2 ^ (q - FP.Core.b64.qmin).toNat = M
    rw [zqmin, show (q - -1074) = q + 1074 by omega]; exact e
  have es : FP.Core.signed s M = (M : Int) := by
    cases s with
    | false => rfl
    | true => rw [n rfl, Nat.zero_mul] at e; rw [← e]; rfl
  refine ⟨by simp, ?_, em, es⟩
  show FP.Core.signed s (FP.Core.zmag FP.Core.b64 (.fin s c q)) = _
  rw [em]; exact es
theorem zM_cmp {a b : UInt64} {M N : Nat} (ha : zM a M) (hb : zM b N) : FP.dcmp a b = some (compare (M : Int) (N : Int)) := by
  obtain ⟨h1, h2, _⟩ := zM_val ha
  obtain ⟨h3, h4, _⟩ := zM_val hb
  have := FP.Core.dcmp_zval h1 h3
  rw [h2, h4] at this
  exact this
theorem zcv {o : _} (x y : Int) : ∃ z : Int, Op.cmpValue (some (compare x y)) o = iZ z ∧ ((z = -1 ∧ x < y) ∨ (z = 0 ∧ x = y) ∨ (z = 1 ∧ y < x)) := by
  rw [FP.Core.compare_ite]
  split
  · exact ⟨-1, rfl, by omega⟩
  · split
    · exact ⟨0, rfl, by omega⟩
    · exact ⟨1, rfl, by omega⟩
theorem zM_d2l {d : UInt64} {n : Nat} (h : zM d (n * 2 ^ 1074)) (hn : n < 2 ^ 63) : FP.d2l d = lZ n := by
  obtain ⟨h1, h2, h3, h4⟩ := zM_val h
  have e := FP.Core.d2l_val h1
  rw [h3, show FP.Core.one64 = 2 ^ 1074 from rfl, Nat.mul_div_cancel _ (Nat.two_pow_pos _)] at e
  have es : FP.Core.signed (FP.Core.sgn (FP.Core.val64 d)) n = (n : Int) := by
    obtain ⟨s, c, q, v, e, hs, f⟩ := h
    rw [v]
    cases s with
    | false => rfl
    | true =>
      rw [hs rfl, Nat.zero_mul] at e
      rcases Nat.mul_eq_zero.mp e.symm with h0 | h0
      · rw [h0]; rfl
      · exact absurd h0 (Nat.ne_of_gt (Nat.two_pow_pos _))
  rw [es] at e
  apply Int64.toInt_inj.mp
  rw [show FP.d2l d = FP.Core.d2l d from rfl, e, lZ_to (by omega)]
  omega
theorem zM_l2d {n : Nat} (hn : n < 2 ^ 53) : zM (FP.l2d (lZ n)) (n * 2 ^ 1074) := by
  have ht : (lZ n).toInt = n := lZ_to (by omega)
  obtain ⟨c, q, hv⟩ := FP.Core.l2d_shape (lZ n)
  rw [ht, show decide ((n : Int) < 0) = false by simp] at hv
  have hw := FP.Core.l2d_whole (a := lZ n) (by unfold FP.Core.Small53; rw [ht]; omega)
  have hz := FP.Core.whole_zval FP.Core.good_b64 (FP.Core.val64_fits _) hw
  rw [hv, ht] at hz
  refine ⟨false, c, q, hv, ?_, (fun h => by cases h), hv ▸ FP.Core.val64_fits _⟩
  have e1 : FP.Core.zval FP.Core.b64 (.fin false c q) = ((c * 2 ^ (q + 1074).toNat : Nat) : Int) := by
    show ((c * 2 ^ (q - FP.Core.b64.qmin).toNat : Nat) : Int) = _
    rw [zqmin, show (q - -1074) = q + 1074 by omega]
  rw [e1, zqmin] at hz
  rw [show (-(-1074 : Int)).toNat = 1074 from rfl, ← Int.natCast_mul] at hz
  exact Int.ofNat.inj hz

