/-! REALS, to and from their bits -/
/-- how a value c * 2^q lies towards 2 and 1, halved p times -/
theorem zpw_lt {a b : Nat} : (2 : Nat) ^ a < 2 ^ b ↔ a < b := Nat.pow_lt_pow_iff_right (by omega)
theorem zpw_le {a b : Nat} : (2 : Nat) ^ a ≤ 2 ^ b ↔ a ≤ b := Nat.pow_le_pow_iff_right (by omega)
/-- where c has its leading digit at P -/
theorem zlead {c P w : Nat} (h1 : 2 ^ P ≤ c) (h2 : c < 2 ^ (P + 1)) (t : Nat) : 2 ^ t ≤ c * 2 ^ w ↔ t ≤ P + w := by
  constructor
  · intro h
    have h3 : c * 2 ^ w < 2 ^ (P + 1 + w) := by rw [Nat.pow_add 2 (P + 1) w]; exact Nat.mul_lt_mul_of_pos_right h2 (Nat.two_pow_pos _)
    have := zpw_lt.mp (Nat.lt_of_le_of_lt h h3)
    omega
  · intro h
    exact Nat.le_trans (zpw_le.mpr h) (by rw [Nat.pow_add]; exact Nat.mul_le_mul_right _ h1)
theorem zbelow {c P w t : Nat} (h2 : c < 2 ^ P) (h : P + w ≤ t) : c * 2 ^ w < 2 ^ t := Nat.lt_of_lt_of_le (Nat.mul_lt_mul_of_pos_right h2 (Nat.two_pow_pos _)) (by rw [← Nat.pow_add]; exact zpw_le.mpr h)
/-- a value c * 2^q of a format of P places, of bias B -/
def zFq (c : Nat) (q : Int) (B P : Nat) : Prop := c < 2 ^ (P + 1) ∧ 1 - (B : Int) - P ≤ q ∧ q + P ≤ B ∧ (q = 1 - (B : Int) - P ∨ 2 ^ P ≤ c)
def zBP (B P : Nat) : Prop := B + P ≤ 1075 ∧ 1 ≤ B ∧ 1 ≤ P ∧ P ≤ 52
theorem zup {c : Nat} {q p : Int} {B P : Nat} (hb : zBP B P) (h : zFq c q B P) (hp : 0 ≤ p) (hpq : p ≤ q + P ∨ p = 0) : 2 ^ (1074 + 1) ≤ c * 2 ^ (q + 1074 - p).toNat ↔ p < q + P := by
  obtain ⟨b1, b2, b3, b4⟩ := hb
  obtain ⟨h1, h2, h3, h4⟩ := h
  by_cases hc : 2 ^ P ≤ c
  · rw [zlead hc h1]; omega
  · have hq : q = 1 - (B : Int) - P := by omega
    have := zbelow (c := c) (P := P) (w := (q + 1074 - p).toNat) (t := 1074 + 1) (by omega) (by omega)
    constructor
    · intro h; omega
    · intro h; omega
theorem zdn {c : Nat} {q p : Int} {B P : Nat} (hb : zBP B P) (h : zFq c q B P) (hp : q + P ≤ p) (hpb : p ≤ B) (h1b : 1 - (B : Int) ≤ p) : c * 2 ^ (q + 1074 - p).toNat < 2 ^ (1074 + 0) ↔ (q + P < p ∨ c < 2 ^ P) := by
  obtain ⟨b1, b2, b3, b4⟩ := hb
  obtain ⟨h1, h2, h3, h4⟩ := h
  by_cases hc : 2 ^ P ≤ c
  · have := @zlead c P (q + 1074 - p).toNat hc h1 (1074 + 0)
    omega
  · have hq : q = 1 - (B : Int) - P := by omega
    have := zbelow (c := c) (P := P) (w := (q + 1074 - p).toNat) (t := 1074 + 0) (by omega) (by omega)
    constructor
    · intro h; right; omega
    · intro h; exact this
theorem zM_some {x : UInt64} {M : Nat} (h : zM x M) : zD x = some (.double x) := by
  unfold zD
  rw [if_pos ?_]
  obtain ⟨s, c, q, v, _⟩ := h
  have h1 := (FP.Core.fin_bits x).mp ⟨s, c, q, v⟩
  rw [UInt64.le_iff_toNat_le, UInt64.toNat_and]
  show x.toNat &&& (2 ^ 63 - 1) ≤ 9218868437227405312
  rw [Nat.and_two_pow_sub_one_eq_mod]
  omega
theorem l_toB1 {σ : zSt} {d : UInt64} {kd : Int} {c B P : Nat} {q : Int} (hb : zBP B P) (hq : zFq c q B P) {Q : zSt → Option Value → Prop} : ∀ (n : Nat) (p : Int) (x : UInt64), (p + n = max 0 (q + P)) → 0 ≤ p → zM x (c * 2 ^ (q + 1074 - p).toNat) → (∀ x p, (q + P ≤ p ∧ 0 ≤ p ∧ p ≤ B) → (p = 0 ∨ p = q + P) → zM x (c * 2 ^ (q + 1074 - p).toNat) → zP zk_X5_toBits 76 [(0, .double d), (2, .int (iZ kd)), (3, .int (iZ B)), (4, .int (iZ P)), (5, .double x), (7, .int (iZ p))] [] σ Q) → zP zk_X5_toBits 47 [(0, .double d), (2, .int (iZ kd)), (3, .int (iZ B)), (4, .int (iZ P)), (5, .double x), (7, .int (iZ p))] [] σ Q := by
  intro n
  induction n with
  | zero =>
    intro p x hn hp hx k
    have hu := zup hb hq hp (by omega)
    obtain ⟨b1, b2, b3, b4⟩ := hb
    obtain ⟨h1, h2, h3, h4⟩ := hq
    have two := zM_two
    generalize hT : (2 : Nat) ^ (1074 + 1) = T2 at two hu
    generalize hM : c * 2 ^ (q + 1074 - p).toNat = M at hx hu
    refine w_iload (pc' := 49) ⟨rfl, rfl⟩ rfl ?_
    refine w_iload_n (pc' := 50) ⟨rfl, rfl⟩ rfl ?_
    refine w_ic_ge (pc' := 53) (pcT := 76) ⟨rfl, rfl⟩ rfl (by omega) (by omega) (fun h1 => ?_) (fun h1 => ?_)
    · refine w_at ?_ (k x p (by omega) (by omega) (hM ▸ hx))
      exact ⟨rfl, rfl, rfl, rfl, rfl, rfl, trivial⟩
    · refine w_dload (pc' := 55) ⟨rfl, rfl⟩ rfl ?_
      refine w_ldc2_w (pc' := 58) ⟨rfl, rfl⟩ rfl ?_
      refine w_dcmp (pc' := 59) ⟨rfl, rfl⟩ ?_
      obtain ⟨z0, e0, c0⟩ := zcv (o := .l) ((M : Nat) : Int) ((T2 : Nat) : Int)
      refine w_topI ((congrArg (fun x => Op.cmpValue x .l) (zM_cmp hx two)).trans e0) ?_
      refine w_if_lt (pc' := 62) (pcT := 76) ⟨rfl, rfl⟩ rfl (by omega) (fun h2 => ?_) (fun h2 => ?_)
      · refine w_at ?_ (k x p (by omega) (by omega) (hM ▸ hx))
        exact ⟨rfl, rfl, rfl, rfl, rfl, rfl, trivial⟩
      · exfalso; omega
  | succ n ih =>
    intro p x hn hp hx k
    have hu := zup hb hq hp (by omega)
    have hh : c * 2 ^ (q + 1074 - p).toNat = c * 2 ^ (q + 1074 - (p + 1)).toNat * 2 := by rw [show (q + 1074 - p).toNat = (q + 1074 - (p + 1)).toNat + 1 by unfold zFq at hq; unfold zBP at hb; omega, Nat.pow_succ, Nat.mul_assoc]
    have hbb := hb
    have hqq := hq
    obtain ⟨b1, b2, b3, b4⟩ := hb
    obtain ⟨h1, h2, h3, h4⟩ := hq
    have two := zM_two
    generalize hT : (2 : Nat) ^ (1074 + 1) = T2 at two hu
    rw [hh] at hx hu
    generalize hM : c * 2 ^ (q + 1074 - (p + 1)).toNat = M at hx hu
    have hx2 := zM_hlf hx
    refine w_iload (pc' := 49) ⟨rfl, rfl⟩ rfl ?_
    refine w_iload_n (pc' := 50) ⟨rfl, rfl⟩ rfl ?_
    refine w_ic_ge (pc' := 53) (pcT := 76) ⟨rfl, rfl⟩ rfl (by omega) (by omega) (fun h1 => ?_) (fun h1 => ?_)
    · exfalso; omega
    · refine w_dload (pc' := 55) ⟨rfl, rfl⟩ rfl ?_
      refine w_ldc2_w (pc' := 58) ⟨rfl, rfl⟩ rfl ?_
      refine w_dcmp (pc' := 59) ⟨rfl, rfl⟩ ?_
      obtain ⟨z1, e1, c1⟩ := zcv (o := .l) ((M * 2 : Nat) : Int) ((T2 : Nat) : Int)
      refine w_topI ((congrArg (fun x => Op.cmpValue x .l) (zM_cmp hx two)).trans e1) ?_
      refine w_if_lt (pc' := 62) (pcT := 76) ⟨rfl, rfl⟩ rfl (by omega) (fun h2 => ?_) (fun h2 => ?_)
      · exfalso; omega
      · refine w_dload (pc' := 64) ⟨rfl, rfl⟩ rfl ?_
        refine w_ldc2_w (pc' := 67) ⟨rfl, rfl⟩ rfl ?_
        refine w_ddiv (pc' := 68) ⟨rfl, rfl⟩ (zM_some hx2) ?_
        refine w_dstore (pc' := 70) ⟨rfl, rfl⟩ rfl rfl ?_
        refine w_iincZ (pc' := 73) ⟨rfl, rfl⟩ rfl rfl ?_
        refine w_goto (pc' := 76) (pcT := 47) ⟨rfl, rfl⟩ rfl ?_
        refine w_at ?_ (ih (p + 1) _ (by omega) (by omega) (hM ▸ hx2) k)
        exact ⟨rfl, rfl, rfl, rfl, rfl, rfl, trivial⟩
theorem l_toB2 {σ : zSt} {d : UInt64} {kd : Int} {c B P : Nat} {q : Int} (hb : zBP B P) (hq : zFq c q B P) {Q : zSt → Option Value → Prop} : ∀ (n : Nat) (p : Int) (x : UInt64), 0 < c → (q + P + n = p) → (p ≤ 0 ∨ p = q + P) → p ≤ B → zM x (c * 2 ^ (q + 1074 - p).toNat) → (∀ x p, (0 < c → p = q + P) → (-(B : Int) < p ∧ p ≤ B) → zM x (c * 2 ^ (1074 - P)) → zP zk_X5_toBits 112 [(0, .double d), (2, .int (iZ kd)), (3, .int (iZ B)), (4, .int (iZ P)), (5, .double x), (7, .int (iZ p))] [] σ Q) → zP zk_X5_toBits 76 [(0, .double d), (2, .int (iZ kd)), (3, .int (iZ B)), (4, .int (iZ P)), (5, .double x), (7, .int (iZ p))] [] σ Q := by
  intro n
  induction n with
  | zero =>
    intro p x hc hn hp0 hp hx k
    have hu := zdn (p := p) hb hq (by omega) (by omega) (by unfold zFq at hq; omega)
    have hbb := hb
    have hqq := hq
    obtain ⟨b1, b2, b3, b4⟩ := hb
    obtain ⟨h1, h2, h3, h4⟩ := hq
    have one := zM_one
    have nul := zM_zero
    generalize hT : (2 : Nat) ^ (1074 + 0) = T1 at one hu
    have hpos : 0 < c * 2 ^ (q + 1074 - p).toNat ↔ 0 < c := ⟨fun h => Nat.pos_of_mul_pos_right h, fun h => Nat.mul_pos h (Nat.two_pow_pos _)⟩
    generalize hM : c * 2 ^ (q + 1074 - p).toNat = M at hx hu hpos
    refine w_iload (pc' := 78) ⟨rfl, rfl⟩ rfl ?_
    refine w_ic (pc' := 79) ⟨rfl, rfl⟩ ?_
    refine w_iload_n (pc' := 80) ⟨rfl, rfl⟩ rfl ?_
    refine w_isubZ (pc' := 81) ⟨rfl, rfl⟩ ?_
    refine w_ic_le (pc' := 84) (pcT := 112) ⟨rfl, rfl⟩ rfl (by omega) (by omega) (fun h1 => ?_) (fun h1 => ?_)
    · refine w_at ?_ (k x p (fun _ => by omega) (by omega) (by rw [show 1074 - P = (q + 1074 - p).toNat by omega]; exact hM ▸ hx))
      exact ⟨rfl, rfl, rfl, rfl, rfl, rfl, trivial⟩
    · refine w_dload (pc' := 86) ⟨rfl, rfl⟩ rfl ?_
      refine w_dconst0 (pc' := 87) ⟨rfl, rfl⟩ ?_
      refine w_dcmp (pc' := 88) ⟨rfl, rfl⟩ ?_
      obtain ⟨z2, e2, c2⟩ := zcv (o := .l) ((M : Nat) : Int) ((0 : Nat) : Int)
      refine w_topI ((congrArg (fun x => Op.cmpValue x .l) (zM_cmp hx nul)).trans e2) ?_
      refine w_if_le (pc' := 91) (pcT := 112) ⟨rfl, rfl⟩ rfl (by omega) (fun h2 => ?_) (fun h2 => ?_)
      · refine w_at ?_ (k x p (fun _ => by omega) (by omega) (by rw [show 1074 - P = (q + 1074 - p).toNat by omega]; exact hM ▸ hx))
        exact ⟨rfl, rfl, rfl, rfl, rfl, rfl, trivial⟩
      · refine w_dload (pc' := 93) ⟨rfl, rfl⟩ rfl ?_
        refine w_dconst1 (pc' := 94) ⟨rfl, rfl⟩ ?_
        refine w_dcmp (pc' := 95) ⟨rfl, rfl⟩ ?_
        obtain ⟨z3, e3, c3⟩ := zcv (o := .g) ((M : Nat) : Int) ((T1 : Nat) : Int)
        refine w_topI ((congrArg (fun x => Op.cmpValue x .g) (zM_cmp hx one)).trans e3) ?_
        refine w_if_ge (pc' := 98) (pcT := 112) ⟨rfl, rfl⟩ rfl (by omega) (fun h3 => ?_) (fun h3 => ?_)
        · refine w_at ?_ (k x p (fun _ => by omega) (by omega) (by rw [show 1074 - P = (q + 1074 - p).toNat by omega]; exact hM ▸ hx))
          exact ⟨rfl, rfl, rfl, rfl, rfl, rfl, trivial⟩
        · exfalso; omega
  | succ n ih =>
    intro p x hc hn hp0 hp hx k
    have hu := zdn (p := p) hb hq (by omega) (by omega) (by unfold zFq at hq; omega)
    have hbb := hb
    have hqq := hq
    obtain ⟨b1, b2, b3, b4⟩ := hb
    obtain ⟨h1, h2, h3, h4⟩ := hq
    have one := zM_one
    have nul := zM_zero
    generalize hT : (2 : Nat) ^ (1074 + 0) = T1 at one hu
    have hpos : 0 < c * 2 ^ (q + 1074 - p).toNat ↔ 0 < c := ⟨fun h => Nat.pos_of_mul_pos_right h, fun h => Nat.mul_pos h (Nat.two_pow_pos _)⟩
    have hh : c * 2 ^ (q + 1074 - (p - 1)).toNat = c * 2 ^ (q + 1074 - p).toNat * 2 := by rw [show (q + 1074 - (p - 1)).toNat = (q + 1074 - p).toNat + 1 by omega, Nat.pow_succ, Nat.mul_assoc]
    have hlt : T1 * 2 ≤ 2 ^ 2098 := by rw [← hT, ← Nat.pow_succ]; exact zpw_le.mpr (by omega)
    generalize hZ : (2 : Nat) ^ 2098 = TT at hlt
    generalize hM : c * 2 ^ (q + 1074 - p).toNat = M at hx hu hpos hh
    refine w_iload (pc' := 78) ⟨rfl, rfl⟩ rfl ?_
    refine w_ic (pc' := 79) ⟨rfl, rfl⟩ ?_
    refine w_iload_n (pc' := 80) ⟨rfl, rfl⟩ rfl ?_
    refine w_isubZ (pc' := 81) ⟨rfl, rfl⟩ ?_
    refine w_ic_le (pc' := 84) (pcT := 112) ⟨rfl, rfl⟩ rfl (by omega) (by omega) (fun h1 => ?_) (fun h1 => ?_)
    · exfalso; omega
    · refine w_dload (pc' := 86) ⟨rfl, rfl⟩ rfl ?_
      refine w_dconst0 (pc' := 87) ⟨rfl, rfl⟩ ?_
      refine w_dcmp (pc' := 88) ⟨rfl, rfl⟩ ?_
      obtain ⟨z4, e4, c4⟩ := zcv (o := .l) ((M : Nat) : Int) ((0 : Nat) : Int)
      refine w_topI ((congrArg (fun x => Op.cmpValue x .l) (zM_cmp hx nul)).trans e4) ?_
      refine w_if_le (pc' := 91) (pcT := 112) ⟨rfl, rfl⟩ rfl (by omega) (fun h2 => ?_) (fun h2 => ?_)
      · exfalso; omega
      · refine w_dload (pc' := 93) ⟨rfl, rfl⟩ rfl ?_
        refine w_dconst1 (pc' := 94) ⟨rfl, rfl⟩ ?_
        refine w_dcmp (pc' := 95) ⟨rfl, rfl⟩ ?_
        obtain ⟨z5, e5, c5⟩ := zcv (o := .g) ((M : Nat) : Int) ((T1 : Nat) : Int)
        refine w_topI ((congrArg (fun x => Op.cmpValue x .g) (zM_cmp hx one)).trans e5) ?_
        refine w_if_ge (pc' := 98) (pcT := 112) ⟨rfl, rfl⟩ rfl (by omega) (fun h3 => ?_) (fun h3 => ?_)
        · exfalso; omega
        · refine w_dload (pc' := 100) ⟨rfl, rfl⟩ rfl ?_
          refine w_ldc2_w (pc' := 103) ⟨rfl, rfl⟩ rfl ?_
          have hx2 := zM_dbl hx (by rw [hZ]; omega)
          refine w_dmul (pc' := 104) ⟨rfl, rfl⟩ (zM_some hx2) ?_
          refine w_dstore (pc' := 106) ⟨rfl, rfl⟩ rfl rfl ?_
          refine w_iincZ (pc' := 109) ⟨rfl, rfl⟩ rfl rfl ?_
          refine w_goto (pc' := 112) (pcT := 76) ⟨rfl, rfl⟩ rfl ?_
          refine w_at ?_ (ih (p - 1) _ hc (by omega) (by omega) (by omega) (hh ▸ hx2) k)
          exact ⟨rfl, rfl, rfl, rfl, rfl, rfl, trivial⟩
