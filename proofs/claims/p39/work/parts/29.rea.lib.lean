/-! of whole, what this claim takes: 29.rea.lean.txt -/
theorem zpw_lt {a b : Nat} : (2 : Nat) ^ a < 2 ^ b ↔ a < b := Nat.pow_lt_pow_iff_right (by omega)
theorem zpw_le {a b : Nat} : (2 : Nat) ^ a ≤ 2 ^ b ↔ a ≤ b := Nat.pow_le_pow_iff_right (by omega)
theorem zlead {c P w : Nat} (h1 : 2 ^ P ≤ c) (h2 : c < 2 ^ (P + 1)) (t : Nat) : 2 ^ t ≤ c * 2 ^ w ↔ t ≤ P + w := by
  constructor
  · intro h
    have h3 : c * 2 ^ w < 2 ^ (P + 1 + w) := by rw [Nat.pow_add 2 (P + 1) w]; exact Nat.mul_lt_mul_of_pos_right h2 (Nat.two_pow_pos _)
    have := zpw_lt.mp (Nat.lt_of_le_of_lt h h3)
    omega
  · intro h
    exact Nat.le_trans (zpw_le.mpr h) (by rw [Nat.pow_add]; exact Nat.mul_le_mul_right _ h1)
theorem zbelow {c P w t : Nat} (h2 : c < 2 ^ P) (h : P + w ≤ t) : c * 2 ^ w < 2 ^ t := Nat.lt_of_lt_of_le (Nat.mul_lt_mul_of_pos_right h2 (Nat.two_pow_pos _)) (by rw [← Nat.pow_add]; exact zpw_le.mpr h)
def zFq (c : Nat) (q : Int) (B P : Nat) : Prop := c < 2 ^ (P + 1) ∧ 1 - (B : Int) - P ≤ q ∧ q + P ≤ B ∧ (q = 1 - (B : Int) - P ∨ 2 ^ P ≤ c)
def zBP (B P : Nat) : Prop := B + P ≤ 1075 ∧ 1 ≤ B ∧ 1 ≤ P ∧ P ≤ 52
theorem zup {c : Nat} {q p : Int} {B P : Nat} (hb : zBP B P) (h : zFq c q B P) (hp : 0 ≤ p) (hpq : p ≤ q + P ∨ p = 0) : 2 ^ (1074 + 1) ≤ c * 2 ^ (q + 1074 - p).toNat ↔ p < q + P := by
  obtain ⟨b1, b2, b3, b4⟩ := hb
  obtain ⟨h1, h2, h3, h4⟩ := h
  by_cases hc : 2 ^ P ≤ c
  · rw [zlead hc h1]; omega
  · have hq : q = 1 - (B : Int) - P := by omega
    have := zbelow (c := c) (P := P) (w := (q + 1074 - p).toNat) (t := 1074 + 1) (by omega) (by omega)
    constructor
    · intro h; omega
    · intro h; omega
theorem zdn {c : Nat} {q p : Int} {B P : Nat} (hb : zBP B P) (h : zFq c q B P) (hp : q + P ≤ p) (hpb : p ≤ B) (h1b : 1 - (B : Int) ≤ p) : c * 2 ^ (q + 1074 - p).toNat < 2 ^ (1074 + 0) ↔ (q + P < p ∨ c < 2 ^ P) := by
  obtain ⟨b1, b2, b3, b4⟩ := hb
  obtain ⟨h1, h2, h3, h4⟩ := h
  by_cases hc : 2 ^ P ≤ c
  · have := @zlead c P (q + 1074 - p).toNat hc h1 (1074 + 0)
    omega
  · have hq : q = 1 - (B : Int) - P := by omega
    have := zbelow (c := c) (P := P) (w := (q + 1074 - p).toNat) (t := 1074 + 0) (by omega) (by omega)
    constructor
    · intro h; right; omega
    · intro h; exact this
theorem zM_some {x : UInt64} {M : Nat} (h : zM x M) : zD x = some (.double x) := by
  unfold zD
  rw [if_pos ?_]
  obtain ⟨s, c, q, v, _⟩ := h
  have h1 := (FP.Core.fin_bits x).mp ⟨s, c, q, v⟩
  rw [UInt64.le_iff_toNat_le, UInt64.toNat_and]
  show x.toNat &&& (2 ^ 63 - 1) ≤ 9218868437227405312
  rw [Nat.and_two_pow_sub_one_eq_mod]
  omega
theorem l_toB1 {σ : zSt} {d : UInt64} {kd : Int} {c B P : Nat} {q : Int} (hb : zBP B P) (hq : zFq c q B P) {Q : zSt → Option Value → Prop} : ∀ (n : Nat) (p : Int) (x : UInt64), (p + n = max 0 (q + P)) → 0 ≤ p → zM x (c * 2 ^ (q + 1074 - p).toNat) → (∀ x p, (q + P ≤ p ∧ 0 ≤ p ∧ p ≤ B) → (p = 0 ∨ p = q + P) → zM x (c * 2 ^ (q + 1074 - p).toNat) → zP zk_X5_toBits 76 [(0, .double d), (2, .int (iZ kd)), (3, .int (iZ B)), (4, .int (iZ P)), (5, .double x), (7, .int (iZ p))] [] σ Q) → zP zk_X5_toBits 47 [(0, .double d), (2, .int (iZ kd)), (3, .int (iZ B)), (4, .int (iZ P)), (5, .double x), (7, .int (iZ p))] [] σ Q := by
  intro n
  induction n with
  | zero =>
    intro p x hn hp hx k
    have hu := zup hb hq hp (by omega)
    obtain ⟨b1, b2, b3, b4⟩ := hb
    obtain ⟨h1, h2, h3, h4⟩ := hq
    have two := zM_two
    generalize hT : (2 : Nat) ^ (1074 + 1) = T2 at two hu
    generalize hM : c * 2 ^ (q + 1074 - p).toNat = M at hx hu
    refine w_iload (pc' := 49) ⟨rfl, rfl⟩ rfl ?_
    refine w_iload_n (pc' := 50) ⟨rfl, rfl⟩ rfl ?_
    refine w_ic_ge (pc' := 53) (pcT := 76) ⟨rfl, rfl⟩ rfl (by omega) (by omega) (fun h1 => ?_) (fun h1 => ?_)
    · refine w_at ?_ (k x p (by omega) (by omega) (hM ▸ hx))
      exact ⟨rfl, rfl, rfl, rfl, rfl, rfl, trivial⟩
    · refine w_dload (pc' := 55) ⟨rfl, rfl⟩ rfl ?_
      refine w_ldc2_w (pc' := 58) ⟨rfl, rfl⟩ rfl ?_
      refine w_dcmp (pc' := 59) ⟨rfl, rfl⟩ ?_
      obtain ⟨z0, e0, c0⟩ := zcv (o := .l) ((M : Nat) : Int) ((T2 : Nat) : Int)
      refine w_topI ((congrArg (fun x => Op.cmpValue x .l) (zM_cmp hx two)).trans e0) ?_
      refine w_if_lt (pc' := 62) (pcT := 76) ⟨rfl, rfl⟩ rfl (by omega) (fun h2 => ?_) (fun h2 => ?_)
      · refine w_at ?_ (k x p (by omega) (by omega) (hM ▸ hx))
        exact ⟨rfl, rfl, rfl, rfl, rfl, rfl, trivial⟩
      · exfalso; omega
  | succ n ih =>
    intro p x hn hp hx k
    have hu := zup hb hq hp (by omega)
    have hh : c * 2 ^ (q + 1074 - p).toNat = c * 2 ^ (q + 1074 - (p + 1)).toNat * 2 := by rw [show (q + 1074 - p).toNat = (q + 1074 - (p + 1)).toNat + 1 by unfold zFq at hq; unfold zBP at hb; omega, Nat.pow_succ, Nat.mul_assoc]
    have hbb := hb
    have hqq := hq
    obtain ⟨b1, b2, b3, b4⟩ := hb
    obtain ⟨h1, h2, h3, h4⟩ := hq
    have two := zM_two
    generalize hT : (2 : Nat) ^ (1074 + 1) = T2 at two hu
    rw [hh] at hx hu
    generalize hM : c * 2 ^ (q + 1074 - (p + 1)).toNat = M at hx hu
    have hx2 := zM_hlf hx
    refine w_iload (pc' := 49) ⟨rfl, rfl⟩ rfl ?_
    refine w_iload_n (pc' := 50) ⟨rfl, rfl⟩ rfl ?_
    refine w_ic_ge (pc' := 53) (pcT := 76) ⟨rfl, rfl⟩ rfl (by omega) (by omega) (fun h1 => ?_) (fun h1 => ?_)
    · exfalso; omega
    · refine w_dload (pc' := 55) ⟨rfl, rfl⟩ rfl ?_
      refine w_ldc2_w (pc' := 58) ⟨rfl, rfl⟩ rfl ?_
      refine w_dcmp (pc' := 59) ⟨rfl, rfl⟩ ?_
      obtain ⟨z1, e1, c1⟩ := zcv (o := .l) ((M * 2 : Nat) : Int) ((T2 : Nat) : Int)
      refine w_topI ((congrArg (fun x => Op.cmpValue x .l) (zM_cmp hx two)).trans e1) ?_
      refine w_if_lt (pc' := 62) (pcT := 76) ⟨rfl, rfl⟩ rfl (by omega) (fun h2 => ?_) (fun h2 => ?_)
      · exfalso; omega
      · refine w_dload (pc' := 64) ⟨rfl, rfl⟩ rfl ?_
        refine w_ldc2_w (pc' := 67) ⟨rfl, rfl⟩ rfl ?_
        refine w_ddiv (pc' := 68) ⟨rfl, rfl⟩ (zM_some hx2) ?_
        refine w_dstore (pc' := 70) ⟨rfl, rfl⟩ rfl rfl ?_
        refine w_iincZ (pc' := 73) ⟨rfl, rfl⟩ rfl rfl ?_
        refine w_goto (pc' := 76) (pcT := 47) ⟨rfl, rfl⟩ rfl ?_
        refine w_at ?_ (ih (p + 1) _ (by omega) (by omega) (hM ▸ hx2) k)
        exact ⟨rfl, rfl, rfl, rfl, rfl, rfl, trivial⟩
theorem l_toB2 {σ : zSt} {d : UInt64} {kd : Int} {c B P : Nat} {q : Int} (hb : zBP B P) (hq : zFq c q B P) {Q : zSt → Option Value → Prop} : ∀ (n : Nat) (p : Int) (x : UInt64), 0 < c → (q + P + n = p) → (p ≤ 0 ∨ p = q + P) → p ≤ B → zM x (c * 2 ^ (q + 1074 - p).toNat) → (∀ x p, (0 < c → p = q + P) → (-(B : Int) < p ∧ p ≤ B) → zM x (c * 2 ^ (1074 - P)) → zP zk_X5_toBits 112 [(0, .double d), (2, .int (iZ kd)), (3, .int (iZ B)), (4, .int (iZ P)), (5, .double x), (7, .int (iZ p))] [] σ Q) → zP zk_X5_toBits 76 [(0, .double d), (2, .int (iZ kd)), (3, .int (iZ B)), (4, .int (iZ P)), (5, .double x), (7, .int (iZ p))] [] σ Q := by
  intro n
  induction n with
  | zero =>
    intro p x hc hn hp0 hp hx k
    have hu := zdn (p := p) hb hq (by omega) (by omega) (by unfold zFq at hq; omega)
    have hbb := hb
    have hqq := hq
    obtain ⟨b1, b2, b3, b4⟩ := hb
    obtain ⟨h1, h2, h3, h4⟩ := hq
    have one := zM_one
    have nul := zM_zero
    generalize hT : (2 : Nat) ^ (1074 + 0) = T1 at one hu
    have hpos : 0 < c * 2 ^ (q + 1074 - p).toNat ↔ 0 < c := ⟨fun h => Nat.pos_of_mul_pos_right h, fun h => Nat.mul_pos h (Nat.two_pow_pos _)⟩
    generalize hM : c * 2 ^ (q + 1074 - p).toNat = M at hx hu hpos
    refine w_iload (pc' := 78) ⟨rfl, rfl⟩ rfl ?_
    refine w_ic (pc' := 79) ⟨rfl, rfl⟩ ?_
    refine w_iload_n (pc' := 80) ⟨rfl, rfl⟩ rfl ?_
    refine w_isubZ (pc' := 81) ⟨rfl, rfl⟩ ?_
    refine w_ic_le (pc' := 84) (pcT := 112) ⟨rfl, rfl⟩ rfl (by omega) (by omega) (fun h1 => ?_) (fun h1 => ?_)
    · refine w_at ?_ (k x p (fun _ => by omega) (by omega) (by rw [show 1074 - P = (q + 1074 - p).toNat by omega]; exact hM ▸ hx))
      exact ⟨rfl, rfl, rfl, rfl, rfl, rfl, trivial⟩
    · refine w_dload (pc' := 86) ⟨rfl, rfl⟩ rfl ?_
      refine w_dconst0 (pc' := 87) ⟨rfl, rfl⟩ ?_
      refine w_dcmp (pc' := 88) ⟨rfl, rfl⟩ ?_
      obtain ⟨z2, e2, c2⟩ := zcv (o := .l) ((M : Nat) : Int) ((0 : Nat) : Int)
      refine w_topI ((congrArg (fun x => Op.cmpValue x .l) (zM_cmp hx nul)).trans e2) ?_
      refine w_if_le (pc' := 91) (pcT := 112) ⟨rfl, rfl⟩ rfl (by omega) (fun h2 => ?_) (fun h2 => ?_)
      · refine w_at ?_ (k x p (fun _ => by omega) (by omega) (by rw [show 1074 - P = (q + 1074 - p).toNat by omega]; exact hM ▸ hx))
        exact ⟨rfl, rfl, rfl, rfl, rfl, rfl, trivial⟩
      · refine w_dload (pc' := 93) ⟨rfl, rfl⟩ rfl ?_
        refine w_dconst1 (pc' := 94) ⟨rfl, rfl⟩ ?_
        refine w_dcmp (pc' := 95) ⟨rfl, rfl⟩ ?_
        obtain ⟨z3, e3, c3⟩ := zcv (o := .g) ((M : Nat) : Int) ((T1 : Nat) : Int)
        refine w_topI ((congrArg (fun x => Op.cmpValue x .g) (zM_cmp hx one)).trans e3) ?_
        refine w_if_ge (pc' := 98) (pcT := 112) ⟨rfl, rfl⟩ rfl (by omega) (fun h3 => ?_) (fun h3 => ?_)
        · refine w_at ?_ (k x p (fun _ => by omega) (by omega) (by rw [show 1074 - P = (q + 1074 - p).toNat by omega]; exact hM ▸ hx))
          exact ⟨rfl, rfl, rfl, rfl, rfl, rfl, trivial⟩
        · exfalso; omega
  | succ n ih =>
    intro p x hc hn hp0 hp hx k
    have hu := zdn (p := p) hb hq (by omega) (by omega) (by unfold zFq at hq; omega)
    have hbb := hb
    have hqq := hq
    obtain ⟨b1, b2, b3, b4⟩ := hb
    obtain ⟨h1, h2, h3, h4⟩ := hq
    have one := zM_one
    have nul := zM_zero
    generalize hT : (2 : Nat) ^ (1074 + 0) = T1 at one hu
    have hpos : 0 < c * 2 ^ (q + 1074 - p).toNat ↔ 0 < c := ⟨fun h => Nat.pos_of_mul_pos_right h, fun h => Nat.mul_pos h (Nat.two_pow_pos _)⟩
    have hh : c * 2 ^ (q + 1074 - (p - 1)).toNat = c * 2 ^ (q + 1074 - p).toNat * 2 := by rw [show (q + 1074 - (p - 1)).toNat = (q + 1074 - p).toNat + 1 by omega, Nat.pow_succ, Nat.mul_assoc]
    have hlt : T1 * 2 ≤ 2 ^ 2098 := by rw [← hT, ← Nat.pow_succ]; exact zpw_le.mpr (by omega)
    generalize hZ : (2 : Nat) ^ 2098 = TT at hlt
    generalize hM : c * 2 ^ (q + 1074 - p).toNat = M at hx hu hpos hh
    refine w_iload (pc' := 78) ⟨rfl, rfl⟩ rfl ?_
    refine w_ic (pc' := 79) ⟨rfl, rfl⟩ ?_
    refine w_iload_n (pc' := 80) ⟨rfl, rfl⟩ rfl ?_
    refine w_isubZ (pc' := 81) ⟨rfl, rfl⟩ ?_
    refine w_ic_le (pc' := 84) (pcT := 112) ⟨rfl, rfl⟩ rfl (by omega) (by omega) (fun h1 => ?_) (fun h1 => ?_)
    · exfalso; omega
    · refine w_dload (pc' := 86) ⟨rfl, rfl⟩ rfl ?_
      refine w_dconst0 (pc' := 87) ⟨rfl, rfl⟩ ?_
      refine w_dcmp (pc' := 88) ⟨rfl, rfl⟩ ?_
      obtain ⟨z4, e4, c4⟩ := zcv (o := .l) ((M : Nat) : Int) ((0 : Nat) : Int)
      refine w_topI ((congrArg (fun x => Op.cmpValue x .l) (zM_cmp hx nul)).trans e4) ?_
      refine w_if_le (pc' := 91) (pcT := 112) ⟨rfl, rfl⟩ rfl (by omega) (fun h2 => ?_) (fun h2 => ?_)
      · exfalso; omega
      · refine w_dload (pc' := 93) ⟨rfl, rfl⟩ rfl ?_
        refine w_dconst1 (pc' := 94) ⟨rfl, rfl⟩ ?_
        refine w_dcmp (pc' := 95) ⟨rfl, rfl⟩ ?_
        obtain ⟨z5, e5, c5⟩ := zcv (o := .g) ((M : Nat) : Int) ((T1 : Nat) : Int)
        refine w_topI ((congrArg (fun x => Op.cmpValue x .g) (zM_cmp hx one)).trans e5) ?_
        refine w_if_ge (pc' := 98) (pcT := 112) ⟨rfl, rfl⟩ rfl (by omega) (fun h3 => ?_) (fun h3 => ?_)
        · exfalso; omega
        · refine w_dload (pc' := 100) ⟨rfl, rfl⟩ rfl ?_
          refine w_ldc2_w (pc' := 103) ⟨rfl, rfl⟩ rfl ?_
          have hx2 := zM_dbl hx (by rw [hZ]; omega)
          refine w_dmul (pc' := 104) ⟨rfl, rfl⟩ (zM_some hx2) ?_
          refine w_dstore (pc' := 106) ⟨rfl, rfl⟩ rfl rfl ?_
          refine w_iincZ (pc' := 109) ⟨rfl, rfl⟩ rfl rfl ?_
          refine w_goto (pc' := 112) (pcT := 76) ⟨rfl, rfl⟩ rfl ?_
          refine w_at ?_ (ih (p - 1) _ hc (by omega) (by omega) (by omega) (hh ▸ hx2) k)
          exact ⟨rfl, rfl, rfl, rfl, rfl, rfl, trivial⟩
def zbm (c : Nat) (q : Int) (B P : Nat) : Int := if 2 ^ P ≤ c then c + (q + P + B - 1) * ((2 ^ P : Nat) : Int) else c
theorem zone {P : Nat} (h : P < 64) : lZ 1 <<< ((iZ P).toInt64 &&& 63) = lZ ((2 ^ P : Nat) : Int) := by rw [lZ_shl 1 h, Int.one_mul]; norm_cast
theorem l_toB3 {σ : zSt} {d : UInt64} {kd : Int} {c B P : Nat} {q : Int} (hb : zBP B P) (hq : zFq c q B P) {p : Int} {x : UInt64} (hx : zM x (c * 2 ^ (1074 - P))) (hc : 0 < c → p = q + P) (hp : -(B : Int) < p ∧ p ≤ B) {Q : zSt → Option Value → Prop} (k : zP zk_X5_toBits 149 [(0, .double d), (2, .int (iZ kd)), (10, .long (lZ (zbm c q B P)))] [] σ Q) : zP zk_X5_toBits 112 [(0, .double d), (2, .int (iZ kd)), (3, .int (iZ B)), (4, .int (iZ P)), (5, .double x), (7, .int (iZ p))] [] σ Q := by
  obtain ⟨b1, b2, b3, b4⟩ := hb
  obtain ⟨h1, h2, h3, h4⟩ := hq
  have hP53 : 2 ^ P < 2 ^ 53 := zpw_lt.mpr (by omega)
  have hl := zM_l2d (n := 2 ^ P) hP53
  rw [← Nat.pow_add, Nat.add_comm P 1074] at hl
  have he : c * 2 ^ (1074 - P) * 2 ^ P = c * 2 ^ 1074 := by rw [Nat.mul_assoc, ← Nat.pow_add, show 1074 - P + P = 1074 by omega]
  have hc53 : c < 2 ^ 53 := Nat.lt_of_lt_of_le h1 (zpw_le.mpr (by omega))
  have hlt : c * 2 ^ 1074 < 2 ^ 2098 := Nat.lt_of_lt_of_le (Nat.mul_lt_mul_of_pos_right hc53 (Nat.two_pow_pos _)) (by rw [← Nat.pow_add]; exact zpw_le.mpr (by omega))
  have hm := zM_mul hx hl ⟨c, 1074, hc53, he⟩ (by rw [he]; exact hlt)
  have hd := zM_d2l (he ▸ hm) (Nat.lt_of_lt_of_le hc53 (zpw_le.mpr (by omega)))
  have one := zM_one
  have hcmp : 2 ^ (1074 + 0) ≤ c * 2 ^ (1074 - P) ↔ 2 ^ P ≤ c := by
    by_cases hq : 2 ^ P ≤ c
    · rw [zlead hq h1]; omega
    · have := zbelow (c := c) (P := P) (w := 1074 - P) (t := 1074 + 0) (by omega) (by omega)
      omega
  generalize hT : (2 : Nat) ^ (1074 + 0) = T1 at one hcmp
  generalize hM : c * 2 ^ (1074 - P) = M at hx hcmp hm
  refine w_lc (pc' := 113) (z := 1) ⟨rfl, rfl⟩ rfl ?_
  refine w_iload (pc' := 115) ⟨rfl, rfl⟩ rfl ?_
  refine w_lshl (pc' := 116) ⟨rfl, rfl⟩ ?_
  refine w_topL (zone (by omega)) ?_
  refine w_lstore (pc' := 118) ⟨rfl, rfl⟩ rfl rfl ?_
  refine w_dload (pc' := 120) ⟨rfl, rfl⟩ rfl ?_
  refine w_lload (pc' := 122) ⟨rfl, rfl⟩ rfl ?_
  refine w_l2d (pc' := 123) ⟨rfl, rfl⟩ ?_
  refine w_dmul (pc' := 124) ⟨rfl, rfl⟩ (zM_some hm) ?_
  refine w_d2l (pc' := 125) ⟨rfl, rfl⟩ ?_
  refine w_topL hd ?_
  refine w_lstore (pc' := 127) ⟨rfl, rfl⟩ rfl rfl ?_
  refine w_dload (pc' := 129) ⟨rfl, rfl⟩ rfl ?_
  refine w_dconst1 (pc' := 130) ⟨rfl, rfl⟩ ?_
  refine w_dcmp (pc' := 131) ⟨rfl, rfl⟩ ?_
  obtain ⟨z6, e6, c6⟩ := zcv (o := .l) ((M : Nat) : Int) ((T1 : Nat) : Int)
  refine w_topI ((congrArg (fun x => Op.cmpValue x .l) (zM_cmp hx one)).trans e6) ?_
  refine w_if_lt (pc' := 134) (pcT := 149) ⟨rfl, rfl⟩ rfl (by omega) (fun h1 => ?_) (fun h1 => ?_)
  · refine w_at ?_ (show zP zk_X5_toBits 149 [(0, .double d), (2, .int (iZ kd)), (10, .long (lZ (zbm c q B P)))] [] σ Q from k)
    exact ⟨rfl, rfl, by unfold zbm; rw [if_neg (by omega)]; rfl, trivial⟩
  · refine w_lload (pc' := 136) ⟨rfl, rfl⟩ rfl ?_
    refine w_iload (pc' := 138) ⟨rfl, rfl⟩ rfl ?_
    refine w_iload_n (pc' := 139) ⟨rfl, rfl⟩ rfl ?_
    refine w_iaddZ (pc' := 140) ⟨rfl, rfl⟩ ?_
    refine w_ic (pc' := 141) ⟨rfl, rfl⟩ ?_
    refine w_isubZ (pc' := 142) ⟨rfl, rfl⟩ ?_
    refine w_i2lZ (pc' := 143) ⟨rfl, rfl⟩ (by omega) ?_
    refine w_lload (pc' := 145) ⟨rfl, rfl⟩ rfl ?_
    refine w_lmulY (pc' := 146) ⟨rfl, rfl⟩ ?_
    refine w_laddY (pc' := 147) ⟨rfl, rfl⟩ ?_
    refine w_lstore (pc' := 149) ⟨rfl, rfl⟩ rfl rfl ?_
    refine w_at ?_ (show zP zk_X5_toBits 149 [(0, .double d), (2, .int (iZ kd)), (10, .long (lZ (zbm c q B P)))] [] σ Q from k)
    exact ⟨rfl, rfl, by unfold zbm; rw [if_pos (by omega)]; show some (Value.long (lZ ((c : Int) + (p + B - 1) * _))) = _; rw [show p = q + P from hc (by have := Nat.two_pow_pos P; omega)], trivial⟩
theorem zneg_cmp {d : UInt64} {c : Nat} {q : Int} (hv : FP.Core.val64 d = .fin true c q) (hc : 0 < c) {o : _} : Op.cmpValue (FP.dcmp d 0) o = iZ (-1) := by
  have hn : FP.Core.val64 d ≠ .nan := by rw [hv]; simp
  have h0 := zM_val zM_zero
  have h := FP.Core.dcmp_zval hn h0.1
  rw [h0.2.1, hv] at h
  have e : FP.Core.zval FP.Core.b64 (.fin true c q) < ((0 : Nat) : Int) := by
    show -((c * 2 ^ (q - FP.Core.b64.qmin).toNat : Nat) : Int) < _
    have := Nat.mul_pos hc (Nat.two_pow_pos (q - FP.Core.b64.qmin).toNat)
    omega
  rw [show FP.dcmp d 0 = FP.Core.dcmp d 0 from rfl, h, FP.Core.compare_ite, if_pos e]
  rfl
theorem zneg_M {d : UInt64} {c : Nat} {q : Int} (hv : FP.Core.val64 d = .fin true c q) : zM (FP.dneg d) (c * 2 ^ (q + 1074).toNat) := by
  have e : FP.Core.val64 (FP.dneg d) = .fin false c q := by rw [FP.val64_dneg, hv]; rfl
  exact ⟨false, c, q, e, rfl, (fun h => by cases h), e ▸ FP.Core.val64_fits _⟩
theorem c_toBits7P {σ : zSt} {d : UInt64} {c c1 : Nat} {q q1 : Int} (hv : FP.Core.val64 d = .fin false c1 q1) (he : c1 * 2 ^ (q1 + 1074).toNat = c * 2 ^ (q + 1074).toNat) (hc : 0 < c) (hq : zFq c q 1023 52) {Q : zSt → Option Value → Prop} (k : Q σ (some (.long (lZ (zbm c q 1023 52))))) : zCa 49 [.double d, .int (iZ 7)] σ Q := by
  refine w_enter (c := zk_X5_toBits) (ls2 := [(0, .double d), (2, .int (iZ 7))]) rfl ⟨rfl, rfl, trivial⟩ ?_
  have hb : zBP 1023 52 := by unfold zBP; decide
  have hMp : 0 < c * 2 ^ (q + 1074).toNat := Nat.mul_pos hc (Nat.two_pow_pos _)
  have hd : zM d (c * 2 ^ (q + 1074).toNat) := he ▸ zM_of hv (fun h => by cases h)
  refine w_iload_n (pc' := 1) ⟨rfl, rfl⟩ rfl ?_
  refine w_bi (pc' := 3) ⟨rfl, rfl⟩ (by decide) ?_
  refine w_icT_ne (pc' := 6) (pcT := 11) ⟨rfl, rfl⟩ rfl (by decide) ?_
  refine w_si (pc' := 14) ⟨rfl, rfl⟩ (by decide) ?_
  refine w_istore_n (pc' := 15) ⟨rfl, rfl⟩ rfl ?_
  refine w_iload_n (pc' := 16) ⟨rfl, rfl⟩ rfl ?_
  refine w_bi (pc' := 18) ⟨rfl, rfl⟩ (by decide) ?_
  refine w_icT_ne (pc' := 21) (pcT := 26) ⟨rfl, rfl⟩ rfl (by decide) ?_
  refine w_bi (pc' := 28) ⟨rfl, rfl⟩ (by decide) ?_
  refine w_istore (pc' := 30) ⟨rfl, rfl⟩ rfl ?_
  refine w_dload_n (pc' := 31) ⟨rfl, rfl⟩ rfl ?_
  refine w_dconst0 (pc' := 32) ⟨rfl, rfl⟩ ?_
  have nul := zM_zero
  refine w_dcmp (pc' := 33) ⟨rfl, rfl⟩ ?_
  obtain ⟨z7, e7, c7⟩ := zcv (o := .g) ((c * 2 ^ (q + 1074).toNat : Nat) : Int) ((0 : Nat) : Int)
  refine w_topI ((congrArg (fun x => Op.cmpValue x .g) (zM_cmp hd nul)).trans e7) ?_
  refine w_if_ge (pc' := 36) (pcT := 41) ⟨rfl, rfl⟩ rfl (by omega) (fun h1 => ?_) (fun h1 => ?_)
  · refine w_dload_n (pc' := 42) ⟨rfl, rfl⟩ rfl ?_
    refine w_dstore (pc' := 44) ⟨rfl, rfl⟩ rfl rfl ?_
    refine w_ic (pc' := 45) ⟨rfl, rfl⟩ ?_
    refine w_istore (pc' := 47) ⟨rfl, rfl⟩ rfl ?_
    refine w_at (ls2 := [(0, .double d), (2, .int (iZ 7)), (3, .int (iZ ((1023 : Nat) : Int))), (4, .int (iZ ((52 : Nat) : Int))), (5, .double (d)), (7, .int (iZ 0))]) ⟨rfl, rfl, rfl, rfl, rfl, rfl, trivial⟩ (l_toB1 hb hq (max 0 (q + 52)).toNat 0 _ (by omega) (by omega) (by rw [Int.sub_zero]; exact hd) (fun x p hp hp0 hx => ?_))
    refine l_toB2 hb hq (p - (q + 52)).toNat p x hc (by omega) (by omega) (by omega) hx (fun x p hp hpb hx => ?_)
    refine l_toB3 hb hq hx hp hpb ?_
    refine w_dload_n (pc' := 150) ⟨rfl, rfl⟩ rfl ?_
    refine w_dconst0 (pc' := 151) ⟨rfl, rfl⟩ ?_
    refine w_dcmp (pc' := 152) ⟨rfl, rfl⟩ ?_
    obtain ⟨z8, e8, c8⟩ := zcv (o := .g) ((c * 2 ^ (q + 1074).toNat : Nat) : Int) ((0 : Nat) : Int)
    refine w_topI ((congrArg (fun x => Op.cmpValue x .g) (zM_cmp hd zM_zero)).trans e8) ?_
    refine w_if_lt (pc' := 155) (pcT := 169) ⟨rfl, rfl⟩ rfl (by omega) (fun h2 => ?_) (fun h2 => ?_)
    · exfalso; omega
    · refine w_dload_n (pc' := 156) ⟨rfl, rfl⟩ rfl ?_
      refine w_dconst0 (pc' := 157) ⟨rfl, rfl⟩ ?_
      refine w_dcmp (pc' := 158) ⟨rfl, rfl⟩ ?_
      obtain ⟨z9, e9, c9⟩ := zcv (o := .l) ((c * 2 ^ (q + 1074).toNat : Nat) : Int) ((0 : Nat) : Int)
      refine w_topI ((congrArg (fun x => Op.cmpValue x .l) (zM_cmp hd zM_zero)).trans e9) ?_
      refine w_if_ne (pc' := 161) (pcT := 189) ⟨rfl, rfl⟩ rfl (by omega) (fun h3 => ?_) (fun h3 => ?_)
      · refine w_lload (pc' := 191) ⟨rfl, rfl⟩ rfl ?_
        refine w_lreturn (pc' := 192) ⟨rfl, rfl⟩ ?_
        first | exact k | (exfalso; omega)
      · refine w_dconst1 (pc' := 162) ⟨rfl, rfl⟩ ?_
        refine w_dload_n (pc' := 163) ⟨rfl, rfl⟩ rfl ?_
        exfalso; omega
  · exfalso; omega
theorem c_toBits7N {σ : zSt} {d : UInt64} {c c1 : Nat} {q q1 : Int} (hv : FP.Core.val64 d = .fin true c1 q1) (he : c1 * 2 ^ (q1 + 1074).toNat = c * 2 ^ (q + 1074).toNat) (hc : 0 < c) (hq : zFq c q 1023 52) {Q : zSt → Option Value → Prop} (k : Q σ (some (.long ((lZ (zbm c q 1023 52) ||| lZ (-9223372036854775808)))))) : zCa 49 [.double d, .int (iZ 7)] σ Q := by
  refine w_enter (c := zk_X5_toBits) (ls2 := [(0, .double d), (2, .int (iZ 7))]) rfl ⟨rfl, rfl, trivial⟩ ?_
  have hb : zBP 1023 52 := by unfold zBP; decide
  have hMp : 0 < c * 2 ^ (q + 1074).toNat := Nat.mul_pos hc (Nat.two_pow_pos _)
  have hd : zM (FP.dneg d) (c * 2 ^ (q + 1074).toNat) := he ▸ zneg_M hv
  have hc1 : 0 < c1 := Nat.pos_of_ne_zero (fun h => by rw [h, Nat.zero_mul] at he; omega)
  refine w_iload_n (pc' := 1) ⟨rfl, rfl⟩ rfl ?_
  refine w_bi (pc' := 3) ⟨rfl, rfl⟩ (by decide) ?_
  refine w_icT_ne (pc' := 6) (pcT := 11) ⟨rfl, rfl⟩ rfl (by decide) ?_
  refine w_si (pc' := 14) ⟨rfl, rfl⟩ (by decide) ?_
  refine w_istore_n (pc' := 15) ⟨rfl, rfl⟩ rfl ?_
  refine w_iload_n (pc' := 16) ⟨rfl, rfl⟩ rfl ?_
  refine w_bi (pc' := 18) ⟨rfl, rfl⟩ (by decide) ?_
  refine w_icT_ne (pc' := 21) (pcT := 26) ⟨rfl, rfl⟩ rfl (by decide) ?_
  refine w_bi (pc' := 28) ⟨rfl, rfl⟩ (by decide) ?_
  refine w_istore (pc' := 30) ⟨rfl, rfl⟩ rfl ?_
  refine w_dload_n (pc' := 31) ⟨rfl, rfl⟩ rfl ?_
  refine w_dconst0 (pc' := 32) ⟨rfl, rfl⟩ ?_
  refine w_dcmp (pc' := 33) ⟨rfl, rfl⟩ ?_
  refine w_topI (zneg_cmp hv hc1) ?_
  refine w_ifF_ge (pc' := 36) ⟨rfl, rfl⟩ (by decide) ?_
  refine w_dload_n (pc' := 37) ⟨rfl, rfl⟩ rfl ?_
  refine w_dneg (pc' := 38) ⟨rfl, rfl⟩ ?_
  refine w_goto (pc' := 41) (pcT := 42) ⟨rfl, rfl⟩ rfl ?_
  refine w_dstore (pc' := 44) ⟨rfl, rfl⟩ rfl rfl ?_
  refine w_ic (pc' := 45) ⟨rfl, rfl⟩ ?_
  refine w_istore (pc' := 47) ⟨rfl, rfl⟩ rfl ?_
  refine w_at (ls2 := [(0, .double d), (2, .int (iZ 7)), (3, .int (iZ ((1023 : Nat) : Int))), (4, .int (iZ ((52 : Nat) : Int))), (5, .double (FP.dneg d)), (7, .int (iZ 0))]) ⟨rfl, rfl, rfl, rfl, rfl, rfl, trivial⟩ (l_toB1 hb hq (max 0 (q + 52)).toNat 0 _ (by omega) (by omega) (by rw [Int.sub_zero]; exact hd) (fun x p hp hp0 hx => ?_))
  refine l_toB2 hb hq (p - (q + 52)).toNat p x hc (by omega) (by omega) (by omega) hx (fun x p hp hpb hx => ?_)
  refine l_toB3 hb hq hx hp hpb ?_
  refine w_dload_n (pc' := 150) ⟨rfl, rfl⟩ rfl ?_
  refine w_dconst0 (pc' := 151) ⟨rfl, rfl⟩ ?_
  refine w_dcmp (pc' := 152) ⟨rfl, rfl⟩ ?_
  refine w_topI (zneg_cmp hv hc1) ?_
  refine w_ifT_lt (pc' := 155) (pcT := 169) ⟨rfl, rfl⟩ rfl (by decide) ?_
  refine w_lload (pc' := 171) ⟨rfl, rfl⟩ rfl ?_
  refine w_iload_n (pc' := 172) ⟨rfl, rfl⟩ rfl ?_
  refine w_bi (pc' := 174) ⟨rfl, rfl⟩ (by decide) ?_
  refine w_icT_ne (pc' := 177) (pcT := 183) ⟨rfl, rfl⟩ rfl (by decide) ?_
  refine w_ldc2Y (pc' := 186) (z := -9223372036854775808) ⟨rfl, rfl⟩ rfl ?_
  refine w_lor (pc' := 187) ⟨rfl, rfl⟩ ?_
  refine w_lstore (pc' := 189) ⟨rfl, rfl⟩ rfl rfl ?_
  refine w_lload (pc' := 191) ⟨rfl, rfl⟩ rfl ?_
  refine w_lreturn (pc' := 192) ⟨rfl, rfl⟩ ?_
  first | exact k | (exfalso; omega)
theorem c_toBits7Z {σ : zSt} {Q : zSt → Option Value → Prop} (k : Q σ (some (.long (lZ (zbm 0 (1 - (1023 : Int) - 52) 1023 52))))) : zCa 49 [.double 0, .int (iZ 7)] σ Q := by
  refine w_enter (c := zk_X5_toBits) (ls2 := [(0, .double 0), (2, .int (iZ 7))]) rfl ⟨rfl, rfl, trivial⟩ ?_
  have hb : zBP 1023 52 := by unfold zBP; decide
  have hq : zFq 0 (1 - (1023 : Int) - 52) 1023 52 := by unfold zFq; decide
  have hd : zM 0 0 := ⟨false, 0, -1074, by decide +kernel, by rw [Nat.zero_mul], fun h => rfl, zfits64.mpr (by decide)⟩
  have nul := zM_zero
  refine w_iload_n (pc' := 1) ⟨rfl, rfl⟩ rfl ?_
  refine w_bi (pc' := 3) ⟨rfl, rfl⟩ (by decide) ?_
  refine w_icT_ne (pc' := 6) (pcT := 11) ⟨rfl, rfl⟩ rfl (by decide) ?_
  refine w_si (pc' := 14) ⟨rfl, rfl⟩ (by decide) ?_
  refine w_istore_n (pc' := 15) ⟨rfl, rfl⟩ rfl ?_
  refine w_iload_n (pc' := 16) ⟨rfl, rfl⟩ rfl ?_
  refine w_bi (pc' := 18) ⟨rfl, rfl⟩ (by decide) ?_
  refine w_icT_ne (pc' := 21) (pcT := 26) ⟨rfl, rfl⟩ rfl (by decide) ?_
  refine w_bi (pc' := 28) ⟨rfl, rfl⟩ (by decide) ?_
  refine w_istore (pc' := 30) ⟨rfl, rfl⟩ rfl ?_
  refine w_dload_n (pc' := 31) ⟨rfl, rfl⟩ rfl ?_
  refine w_dconst0 (pc' := 32) ⟨rfl, rfl⟩ ?_
  refine w_dcmp (pc' := 33) ⟨rfl, rfl⟩ ?_
  obtain ⟨z10, e10, c10⟩ := zcv (o := .g) ((0 : Nat) : Int) ((0 : Nat) : Int)
  refine w_topI ((congrArg (fun x => Op.cmpValue x .g) (zM_cmp hd nul)).trans e10) ?_
  refine w_if_ge (pc' := 36) (pcT := 41) ⟨rfl, rfl⟩ rfl (by omega) (fun h1 => ?_) (fun h1 => ?_)
  · refine w_dload_n (pc' := 42) ⟨rfl, rfl⟩ rfl ?_
    refine w_dstore (pc' := 44) ⟨rfl, rfl⟩ rfl rfl ?_
    refine w_ic (pc' := 45) ⟨rfl, rfl⟩ ?_
    refine w_istore (pc' := 47) ⟨rfl, rfl⟩ rfl ?_
    refine w_at (ls2 := [(0, .double 0), (2, .int (iZ 7)), (3, .int (iZ ((1023 : Nat) : Int))), (4, .int (iZ ((52 : Nat) : Int))), (5, .double (0)), (7, .int (iZ 0))]) ⟨rfl, rfl, rfl, rfl, rfl, rfl, trivial⟩ (l_toB1 hb hq (max 0 ((1 - (1023 : Int) - 52) + 52)).toNat 0 _ (by omega) (by omega) (by rw [Int.sub_zero]; rw [Nat.zero_mul]; exact hd) (fun x p hp hp0 hx => ?_))
    have hp00 : p = 0 := by omega
    subst hp00
    rw [Nat.zero_mul] at hx
    refine w_iload (pc' := 78) ⟨rfl, rfl⟩ rfl ?_
    refine w_ic (pc' := 79) ⟨rfl, rfl⟩ ?_
    refine w_iload_n (pc' := 80) ⟨rfl, rfl⟩ rfl ?_
    refine w_isubZ (pc' := 81) ⟨rfl, rfl⟩ ?_
    refine w_ic_le (pc' := 84) (pcT := 112) ⟨rfl, rfl⟩ rfl (by omega) (by omega) (fun h2 => ?_) (fun h2 => ?_)
    · exfalso; omega
    · refine w_dload (pc' := 86) ⟨rfl, rfl⟩ rfl ?_
      refine w_dconst0 (pc' := 87) ⟨rfl, rfl⟩ ?_
      refine w_dcmp (pc' := 88) ⟨rfl, rfl⟩ ?_
      obtain ⟨z11, e11, c11⟩ := zcv (o := .l) ((0 : Nat) : Int) ((0 : Nat) : Int)
      refine w_topI ((congrArg (fun x => Op.cmpValue x .l) (zM_cmp hx zM_zero)).trans e11) ?_
      refine w_if_le (pc' := 91) (pcT := 112) ⟨rfl, rfl⟩ rfl (by omega) (fun h3 => ?_) (fun h3 => ?_)
      · refine w_at (ls2 := [(0, .double 0), (2, .int (iZ 7)), (3, .int (iZ ((1023 : Nat) : Int))), (4, .int (iZ ((52 : Nat) : Int))), (5, .double x), (7, .int (iZ 0))]) ⟨rfl, rfl, rfl, rfl, rfl, rfl, trivial⟩ ?_
        refine l_toB3 hb hq (by rw [Nat.zero_mul]; exact hx) (fun h => by omega) (by omega) ?_
        refine w_dload_n (pc' := 150) ⟨rfl, rfl⟩ rfl ?_
        refine w_dconst0 (pc' := 151) ⟨rfl, rfl⟩ ?_
        refine w_dcmp (pc' := 152) ⟨rfl, rfl⟩ ?_
        obtain ⟨z12, e12, c12⟩ := zcv (o := .g) ((0 : Nat) : Int) ((0 : Nat) : Int)
        refine w_topI ((congrArg (fun x => Op.cmpValue x .g) (zM_cmp hd zM_zero)).trans e12) ?_
        refine w_if_lt (pc' := 155) (pcT := 169) ⟨rfl, rfl⟩ rfl (by omega) (fun h4 => ?_) (fun h4 => ?_)
        · refine w_lload (pc' := 171) ⟨rfl, rfl⟩ rfl ?_
          refine w_iload_n (pc' := 172) ⟨rfl, rfl⟩ rfl ?_
          refine w_bi (pc' := 174) ⟨rfl, rfl⟩ (by decide) ?_
          refine w_icT_ne (pc' := 177) (pcT := 183) ⟨rfl, rfl⟩ rfl (by decide) ?_
          refine w_ldc2Y (pc' := 186) (z := -9223372036854775808) ⟨rfl, rfl⟩ rfl ?_
          refine w_lor (pc' := 187) ⟨rfl, rfl⟩ ?_
          refine w_lstore (pc' := 189) ⟨rfl, rfl⟩ rfl rfl ?_
          refine w_lload (pc' := 191) ⟨rfl, rfl⟩ rfl ?_
          refine w_lreturn (pc' := 192) ⟨rfl, rfl⟩ ?_
          first | exact k | (exfalso; omega)
        · refine w_dload_n (pc' := 156) ⟨rfl, rfl⟩ rfl ?_
          refine w_dconst0 (pc' := 157) ⟨rfl, rfl⟩ ?_
          refine w_dcmp (pc' := 158) ⟨rfl, rfl⟩ ?_
          obtain ⟨z13, e13, c13⟩ := zcv (o := .l) ((0 : Nat) : Int) ((0 : Nat) : Int)
          refine w_topI ((congrArg (fun x => Op.cmpValue x .l) (zM_cmp hd zM_zero)).trans e13) ?_
          refine w_if_ne (pc' := 161) (pcT := 189) ⟨rfl, rfl⟩ rfl (by omega) (fun h5 => ?_) (fun h5 => ?_)
          · refine w_lload (pc' := 191) ⟨rfl, rfl⟩ rfl ?_
            refine w_lreturn (pc' := 192) ⟨rfl, rfl⟩ ?_
            first | exact k | (exfalso; omega)
          · refine w_dconst1 (pc' := 162) ⟨rfl, rfl⟩ ?_
            refine w_dload_n (pc' := 163) ⟨rfl, rfl⟩ rfl ?_
            refine w_ddiv (pc' := 164) ⟨rfl, rfl⟩ (v := .double 9218868437227405312) (by decide +kernel) ?_
            refine w_dconst0 (pc' := 165) ⟨rfl, rfl⟩ ?_
            refine w_dcmp (pc' := 166) ⟨rfl, rfl⟩ ?_
            refine w_topI (y := iZ (1)) (by decide +kernel) ?_
            refine w_ifT_ge (pc' := 169) (pcT := 189) ⟨rfl, rfl⟩ rfl (by decide) ?_
            refine w_lload (pc' := 191) ⟨rfl, rfl⟩ rfl ?_
            refine w_lreturn (pc' := 192) ⟨rfl, rfl⟩ ?_
            first | exact k | (exfalso; omega)
      · exfalso; omega
  · exfalso; omega
theorem c_toBits7Y {σ : zSt} {Q : zSt → Option Value → Prop} (k : Q σ (some (.long ((lZ (zbm 0 (1 - (1023 : Int) - 52) 1023 52) ||| lZ (-9223372036854775808)))))) : zCa 49 [.double 9223372036854775808, .int (iZ 7)] σ Q := by
  refine w_enter (c := zk_X5_toBits) (ls2 := [(0, .double 9223372036854775808), (2, .int (iZ 7))]) rfl ⟨rfl, rfl, trivial⟩ ?_
  have hb : zBP 1023 52 := by unfold zBP; decide
  have hq : zFq 0 (1 - (1023 : Int) - 52) 1023 52 := by unfold zFq; decide
  have hd : zM 9223372036854775808 0 := ⟨true, 0, -1074, by decide +kernel, by rw [Nat.zero_mul], fun h => rfl, zfits64.mpr (by decide)⟩
  have nul := zM_zero
  refine w_iload_n (pc' := 1) ⟨rfl, rfl⟩ rfl ?_
  refine w_bi (pc' := 3) ⟨rfl, rfl⟩ (by decide) ?_
  refine w_icT_ne (pc' := 6) (pcT := 11) ⟨rfl, rfl⟩ rfl (by decide) ?_
  refine w_si (pc' := 14) ⟨rfl, rfl⟩ (by decide) ?_
  refine w_istore_n (pc' := 15) ⟨rfl, rfl⟩ rfl ?_
  refine w_iload_n (pc' := 16) ⟨rfl, rfl⟩ rfl ?_
  refine w_bi (pc' := 18) ⟨rfl, rfl⟩ (by decide) ?_
  refine w_icT_ne (pc' := 21) (pcT := 26) ⟨rfl, rfl⟩ rfl (by decide) ?_
  refine w_bi (pc' := 28) ⟨rfl, rfl⟩ (by decide) ?_
  refine w_istore (pc' := 30) ⟨rfl, rfl⟩ rfl ?_
  refine w_dload_n (pc' := 31) ⟨rfl, rfl⟩ rfl ?_
  refine w_dconst0 (pc' := 32) ⟨rfl, rfl⟩ ?_
  refine w_dcmp (pc' := 33) ⟨rfl, rfl⟩ ?_
  obtain ⟨z14, e14, c14⟩ := zcv (o := .g) ((0 : Nat) : Int) ((0 : Nat) : Int)
  refine w_topI ((congrArg (fun x => Op.cmpValue x .g) (zM_cmp hd nul)).trans e14) ?_
  refine w_if_ge (pc' := 36) (pcT := 41) ⟨rfl, rfl⟩ rfl (by omega) (fun h1 => ?_) (fun h1 => ?_)
  · refine w_dload_n (pc' := 42) ⟨rfl, rfl⟩ rfl ?_
    refine w_dstore (pc' := 44) ⟨rfl, rfl⟩ rfl rfl ?_
    refine w_ic (pc' := 45) ⟨rfl, rfl⟩ ?_
    refine w_istore (pc' := 47) ⟨rfl, rfl⟩ rfl ?_
    refine w_at (ls2 := [(0, .double 9223372036854775808), (2, .int (iZ 7)), (3, .int (iZ ((1023 : Nat) : Int))), (4, .int (iZ ((52 : Nat) : Int))), (5, .double (9223372036854775808)), (7, .int (iZ 0))]) ⟨rfl, rfl, rfl, rfl, rfl, rfl, trivial⟩ (l_toB1 hb hq (max 0 ((1 - (1023 : Int) - 52) + 52)).toNat 0 _ (by omega) (by omega) (by rw [Int.sub_zero]; rw [Nat.zero_mul]; exact hd) (fun x p hp hp0 hx => ?_))
    have hp00 : p = 0 := by omega
    subst hp00
    rw [Nat.zero_mul] at hx
    refine w_iload (pc' := 78) ⟨rfl, rfl⟩ rfl ?_
    refine w_ic (pc' := 79) ⟨rfl, rfl⟩ ?_
    refine w_iload_n (pc' := 80) ⟨rfl, rfl⟩ rfl ?_
    refine w_isubZ (pc' := 81) ⟨rfl, rfl⟩ ?_
    refine w_ic_le (pc' := 84) (pcT := 112) ⟨rfl, rfl⟩ rfl (by omega) (by omega) (fun h2 => ?_) (fun h2 => ?_)
    · exfalso; omega
    · refine w_dload (pc' := 86) ⟨rfl, rfl⟩ rfl ?_
      refine w_dconst0 (pc' := 87) ⟨rfl, rfl⟩ ?_
      refine w_dcmp (pc' := 88) ⟨rfl, rfl⟩ ?_
      obtain ⟨z15, e15, c15⟩ := zcv (o := .l) ((0 : Nat) : Int) ((0 : Nat) : Int)
      refine w_topI ((congrArg (fun x => Op.cmpValue x .l) (zM_cmp hx zM_zero)).trans e15) ?_
      refine w_if_le (pc' := 91) (pcT := 112) ⟨rfl, rfl⟩ rfl (by omega) (fun h3 => ?_) (fun h3 => ?_)
      · refine w_at (ls2 := [(0, .double 9223372036854775808), (2, .int (iZ 7)), (3, .int (iZ ((1023 : Nat) : Int))), (4, .int (iZ ((52 : Nat) : Int))), (5, .double x), (7, .int (iZ 0))]) ⟨rfl, rfl, rfl, rfl, rfl, rfl, trivial⟩ ?_
        refine l_toB3 hb hq (by rw [Nat.zero_mul]; exact hx) (fun h => by omega) (by omega) ?_
        refine w_dload_n (pc' := 150) ⟨rfl, rfl⟩ rfl ?_
        refine w_dconst0 (pc' := 151) ⟨rfl, rfl⟩ ?_
        refine w_dcmp (pc' := 152) ⟨rfl, rfl⟩ ?_
        obtain ⟨z16, e16, c16⟩ := zcv (o := .g) ((0 : Nat) : Int) ((0 : Nat) : Int)
        refine w_topI ((congrArg (fun x => Op.cmpValue x .g) (zM_cmp hd zM_zero)).trans e16) ?_
        refine w_if_lt (pc' := 155) (pcT := 169) ⟨rfl, rfl⟩ rfl (by omega) (fun h4 => ?_) (fun h4 => ?_)
        · refine w_lload (pc' := 171) ⟨rfl, rfl⟩ rfl ?_
          refine w_iload_n (pc' := 172) ⟨rfl, rfl⟩ rfl ?_
          refine w_bi (pc' := 174) ⟨rfl, rfl⟩ (by decide) ?_
          refine w_icT_ne (pc' := 177) (pcT := 183) ⟨rfl, rfl⟩ rfl (by decide) ?_
          refine w_ldc2Y (pc' := 186) (z := -9223372036854775808) ⟨rfl, rfl⟩ rfl ?_
          refine w_lor (pc' := 187) ⟨rfl, rfl⟩ ?_
          refine w_lstore (pc' := 189) ⟨rfl, rfl⟩ rfl rfl ?_
          refine w_lload (pc' := 191) ⟨rfl, rfl⟩ rfl ?_
          refine w_lreturn (pc' := 192) ⟨rfl, rfl⟩ ?_
          first | exact k | (exfalso; omega)
        · refine w_dload_n (pc' := 156) ⟨rfl, rfl⟩ rfl ?_
          refine w_dconst0 (pc' := 157) ⟨rfl, rfl⟩ ?_
          refine w_dcmp (pc' := 158) ⟨rfl, rfl⟩ ?_
          obtain ⟨z17, e17, c17⟩ := zcv (o := .l) ((0 : Nat) : Int) ((0 : Nat) : Int)
          refine w_topI ((congrArg (fun x => Op.cmpValue x .l) (zM_cmp hd zM_zero)).trans e17) ?_
          refine w_if_ne (pc' := 161) (pcT := 189) ⟨rfl, rfl⟩ rfl (by omega) (fun h5 => ?_) (fun h5 => ?_)
          · refine w_lload (pc' := 191) ⟨rfl, rfl⟩ rfl ?_
            refine w_lreturn (pc' := 192) ⟨rfl, rfl⟩ ?_
            first | exact k | (exfalso; omega)
          · refine w_dconst1 (pc' := 162) ⟨rfl, rfl⟩ ?_
            refine w_dload_n (pc' := 163) ⟨rfl, rfl⟩ rfl ?_
            refine w_ddiv (pc' := 164) ⟨rfl, rfl⟩ (v := .double 18442240474082181120) (by decide +kernel) ?_
            refine w_dconst0 (pc' := 165) ⟨rfl, rfl⟩ ?_
            refine w_dcmp (pc' := 166) ⟨rfl, rfl⟩ ?_
            refine w_topI (y := iZ (-1)) (by decide +kernel) ?_
            refine w_ifF_ge (pc' := 169) ⟨rfl, rfl⟩ (by decide) ?_
            refine w_lload (pc' := 171) ⟨rfl, rfl⟩ rfl ?_
            refine w_iload_n (pc' := 172) ⟨rfl, rfl⟩ rfl ?_
            refine w_bi (pc' := 174) ⟨rfl, rfl⟩ (by decide) ?_
            refine w_icT_ne (pc' := 177) (pcT := 183) ⟨rfl, rfl⟩ rfl (by decide) ?_
            refine w_ldc2Y (pc' := 186) (z := -9223372036854775808) ⟨rfl, rfl⟩ rfl ?_
            refine w_lor (pc' := 187) ⟨rfl, rfl⟩ ?_
            refine w_lstore (pc' := 189) ⟨rfl, rfl⟩ rfl rfl ?_
            refine w_lload (pc' := 191) ⟨rfl, rfl⟩ rfl ?_
            refine w_lreturn (pc' := 192) ⟨rfl, rfl⟩ ?_
            first | exact k | (exfalso; omega)
      · exfalso; omega
  · exfalso; omega
theorem c_toBits6P {σ : zSt} {d : UInt64} {c c1 : Nat} {q q1 : Int} (hv : FP.Core.val64 d = .fin false c1 q1) (he : c1 * 2 ^ (q1 + 1074).toNat = c * 2 ^ (q + 1074).toNat) (hc : 0 < c) (hq : zFq c q 127 23) {Q : zSt → Option Value → Prop} (k : Q σ (some (.long (lZ (zbm c q 127 23))))) : zCa 49 [.double d, .int (iZ 6)] σ Q := by
  refine w_enter (c := zk_X5_toBits) (ls2 := [(0, .double d), (2, .int (iZ 6))]) rfl ⟨rfl, rfl, trivial⟩ ?_
  have hb : zBP 127 23 := by unfold zBP; decide
  have hMp : 0 < c * 2 ^ (q + 1074).toNat := Nat.mul_pos hc (Nat.two_pow_pos _)
  have hd : zM d (c * 2 ^ (q + 1074).toNat) := he ▸ zM_of hv (fun h => by cases h)
  refine w_iload_n (pc' := 1) ⟨rfl, rfl⟩ rfl ?_
  refine w_bi (pc' := 3) ⟨rfl, rfl⟩ (by decide) ?_
  refine w_icF_ne (pc' := 6) ⟨rfl, rfl⟩ (by decide) ?_
  refine w_bi (pc' := 8) ⟨rfl, rfl⟩ (by decide) ?_
  refine w_goto (pc' := 11) (pcT := 14) ⟨rfl, rfl⟩ rfl ?_
  refine w_istore_n (pc' := 15) ⟨rfl, rfl⟩ rfl ?_
  refine w_iload_n (pc' := 16) ⟨rfl, rfl⟩ rfl ?_
  refine w_bi (pc' := 18) ⟨rfl, rfl⟩ (by decide) ?_
  refine w_icF_ne (pc' := 21) ⟨rfl, rfl⟩ (by decide) ?_
  refine w_bi (pc' := 23) ⟨rfl, rfl⟩ (by decide) ?_
  refine w_goto (pc' := 26) (pcT := 28) ⟨rfl, rfl⟩ rfl ?_
  refine w_istore (pc' := 30) ⟨rfl, rfl⟩ rfl ?_
  refine w_dload_n (pc' := 31) ⟨rfl, rfl⟩ rfl ?_
  refine w_dconst0 (pc' := 32) ⟨rfl, rfl⟩ ?_
  have nul := zM_zero
  refine w_dcmp (pc' := 33) ⟨rfl, rfl⟩ ?_
  obtain ⟨z18, e18, c18⟩ := zcv (o := .g) ((c * 2 ^ (q + 1074).toNat : Nat) : Int) ((0 : Nat) : Int)
  refine w_topI ((congrArg (fun x => Op.cmpValue x .g) (zM_cmp hd nul)).trans e18) ?_
  refine w_if_ge (pc' := 36) (pcT := 41) ⟨rfl, rfl⟩ rfl (by omega) (fun h1 => ?_) (fun h1 => ?_)
  · refine w_dload_n (pc' := 42) ⟨rfl, rfl⟩ rfl ?_
    refine w_dstore (pc' := 44) ⟨rfl, rfl⟩ rfl rfl ?_
    refine w_ic (pc' := 45) ⟨rfl, rfl⟩ ?_
    refine w_istore (pc' := 47) ⟨rfl, rfl⟩ rfl ?_
    refine w_at (ls2 := [(0, .double d), (2, .int (iZ 6)), (3, .int (iZ ((127 : Nat) : Int))), (4, .int (iZ ((23 : Nat) : Int))), (5, .double (d)), (7, .int (iZ 0))]) ⟨rfl, rfl, rfl, rfl, rfl, rfl, trivial⟩ (l_toB1 hb hq (max 0 (q + 23)).toNat 0 _ (by omega) (by omega) (by rw [Int.sub_zero]; exact hd) (fun x p hp hp0 hx => ?_))
    refine l_toB2 hb hq (p - (q + 23)).toNat p x hc (by omega) (by omega) (by omega) hx (fun x p hp hpb hx => ?_)
    refine l_toB3 hb hq hx hp hpb ?_
    refine w_dload_n (pc' := 150) ⟨rfl, rfl⟩ rfl ?_
    refine w_dconst0 (pc' := 151) ⟨rfl, rfl⟩ ?_
    refine w_dcmp (pc' := 152) ⟨rfl, rfl⟩ ?_
    obtain ⟨z19, e19, c19⟩ := zcv (o := .g) ((c * 2 ^ (q + 1074).toNat : Nat) : Int) ((0 : Nat) : Int)
    refine w_topI ((congrArg (fun x => Op.cmpValue x .g) (zM_cmp hd zM_zero)).trans e19) ?_
    refine w_if_lt (pc' := 155) (pcT := 169) ⟨rfl, rfl⟩ rfl (by omega) (fun h2 => ?_) (fun h2 => ?_)
    · exfalso; omega
    · refine w_dload_n (pc' := 156) ⟨rfl, rfl⟩ rfl ?_
      refine w_dconst0 (pc' := 157) ⟨rfl, rfl⟩ ?_
      refine w_dcmp (pc' := 158) ⟨rfl, rfl⟩ ?_
      obtain ⟨z20, e20, c20⟩ := zcv (o := .l) ((c * 2 ^ (q + 1074).toNat : Nat) : Int) ((0 : Nat) : Int)
      refine w_topI ((congrArg (fun x => Op.cmpValue x .l) (zM_cmp hd zM_zero)).trans e20) ?_
      refine w_if_ne (pc' := 161) (pcT := 189) ⟨rfl, rfl⟩ rfl (by omega) (fun h3 => ?_) (fun h3 => ?_)
      · refine w_lload (pc' := 191) ⟨rfl, rfl⟩ rfl ?_
        refine w_lreturn (pc' := 192) ⟨rfl, rfl⟩ ?_
        first | exact k | (exfalso; omega)
      · refine w_dconst1 (pc' := 162) ⟨rfl, rfl⟩ ?_
        refine w_dload_n (pc' := 163) ⟨rfl, rfl⟩ rfl ?_
        exfalso; omega
  · exfalso; omega
theorem c_toBits6N {σ : zSt} {d : UInt64} {c c1 : Nat} {q q1 : Int} (hv : FP.Core.val64 d = .fin true c1 q1) (he : c1 * 2 ^ (q1 + 1074).toNat = c * 2 ^ (q + 1074).toNat) (hc : 0 < c) (hq : zFq c q 127 23) {Q : zSt → Option Value → Prop} (k : Q σ (some (.long ((lZ (zbm c q 127 23) ||| lZ (-2147483648)))))) : zCa 49 [.double d, .int (iZ 6)] σ Q := by
  refine w_enter (c := zk_X5_toBits) (ls2 := [(0, .double d), (2, .int (iZ 6))]) rfl ⟨rfl, rfl, trivial⟩ ?_
  have hb : zBP 127 23 := by unfold zBP; decide
  have hMp : 0 < c * 2 ^ (q + 1074).toNat := Nat.mul_pos hc (Nat.two_pow_pos _)
  have hd : zM (FP.dneg d) (c * 2 ^ (q + 1074).toNat) := he ▸ zneg_M hv
  have hc1 : 0 < c1 := Nat.pos_of_ne_zero (fun h => by rw [h, Nat.zero_mul] at he; omega)
  refine w_iload_n (pc' := 1) ⟨rfl, rfl⟩ rfl ?_
  refine w_bi (pc' := 3) ⟨rfl, rfl⟩ (by decide) ?_
  refine w_icF_ne (pc' := 6) ⟨rfl, rfl⟩ (by decide) ?_
  refine w_bi (pc' := 8) ⟨rfl, rfl⟩ (by decide) ?_
  refine w_goto (pc' := 11) (pcT := 14) ⟨rfl, rfl⟩ rfl ?_
  refine w_istore_n (pc' := 15) ⟨rfl, rfl⟩ rfl ?_
  refine w_iload_n (pc' := 16) ⟨rfl, rfl⟩ rfl ?_
  refine w_bi (pc' := 18) ⟨rfl, rfl⟩ (by decide) ?_
  refine w_icF_ne (pc' := 21) ⟨rfl, rfl⟩ (by decide) ?_
  refine w_bi (pc' := 23) ⟨rfl, rfl⟩ (by decide) ?_
  refine w_goto (pc' := 26) (pcT := 28) ⟨rfl, rfl⟩ rfl ?_
  refine w_istore (pc' := 30) ⟨rfl, rfl⟩ rfl ?_
  refine w_dload_n (pc' := 31) ⟨rfl, rfl⟩ rfl ?_
  refine w_dconst0 (pc' := 32) ⟨rfl, rfl⟩ ?_
  refine w_dcmp (pc' := 33) ⟨rfl, rfl⟩ ?_
  refine w_topI (zneg_cmp hv hc1) ?_
  refine w_ifF_ge (pc' := 36) ⟨rfl, rfl⟩ (by decide) ?_
  refine w_dload_n (pc' := 37) ⟨rfl, rfl⟩ rfl ?_
  refine w_dneg (pc' := 38) ⟨rfl, rfl⟩ ?_
  refine w_goto (pc' := 41) (pcT := 42) ⟨rfl, rfl⟩ rfl ?_
  refine w_dstore (pc' := 44) ⟨rfl, rfl⟩ rfl rfl ?_
  refine w_ic (pc' := 45) ⟨rfl, rfl⟩ ?_
  refine w_istore (pc' := 47) ⟨rfl, rfl⟩ rfl ?_
  refine w_at (ls2 := [(0, .double d), (2, .int (iZ 6)), (3, .int (iZ ((127 : Nat) : Int))), (4, .int (iZ ((23 : Nat) : Int))), (5, .double (FP.dneg d)), (7, .int (iZ 0))]) ⟨rfl, rfl, rfl, rfl, rfl, rfl, trivial⟩ (l_toB1 hb hq (max 0 (q + 23)).toNat 0 _ (by omega) (by omega) (by rw [Int.sub_zero]; exact hd) (fun x p hp hp0 hx => ?_))
  refine l_toB2 hb hq (p - (q + 23)).toNat p x hc (by omega) (by omega) (by omega) hx (fun x p hp hpb hx => ?_)
  refine l_toB3 hb hq hx hp hpb ?_
  refine w_dload_n (pc' := 150) ⟨rfl, rfl⟩ rfl ?_
  refine w_dconst0 (pc' := 151) ⟨rfl, rfl⟩ ?_
  refine w_dcmp (pc' := 152) ⟨rfl, rfl⟩ ?_
  refine w_topI (zneg_cmp hv hc1) ?_
  refine w_ifT_lt (pc' := 155) (pcT := 169) ⟨rfl, rfl⟩ rfl (by decide) ?_
  refine w_lload (pc' := 171) ⟨rfl, rfl⟩ rfl ?_
  refine w_iload_n (pc' := 172) ⟨rfl, rfl⟩ rfl ?_
  refine w_bi (pc' := 174) ⟨rfl, rfl⟩ (by decide) ?_
  refine w_icF_ne (pc' := 177) ⟨rfl, rfl⟩ (by decide) ?_
  refine w_ldc2Y (pc' := 180) (z := -2147483648) ⟨rfl, rfl⟩ rfl ?_
  refine w_goto (pc' := 183) (pcT := 186) ⟨rfl, rfl⟩ rfl ?_
  refine w_lor (pc' := 187) ⟨rfl, rfl⟩ ?_
  refine w_lstore (pc' := 189) ⟨rfl, rfl⟩ rfl rfl ?_
  refine w_lload (pc' := 191) ⟨rfl, rfl⟩ rfl ?_
  refine w_lreturn (pc' := 192) ⟨rfl, rfl⟩ ?_
  first | exact k | (exfalso; omega)
theorem c_toBits6Z {σ : zSt} {Q : zSt → Option Value → Prop} (k : Q σ (some (.long (lZ (zbm 0 (1 - (127 : Int) - 23) 127 23))))) : zCa 49 [.double 0, .int (iZ 6)] σ Q := by
  refine w_enter (c := zk_X5_toBits) (ls2 := [(0, .double 0), (2, .int (iZ 6))]) rfl ⟨rfl, rfl, trivial⟩ ?_
  have hb : zBP 127 23 := by unfold zBP; decide
  have hq : zFq 0 (1 - (127 : Int) - 23) 127 23 := by unfold zFq; decide
  have hd : zM 0 0 := ⟨false, 0, -1074, by decide +kernel, by rw [Nat.zero_mul], fun h => rfl, zfits64.mpr (by decide)⟩
  have nul := zM_zero
  refine w_iload_n (pc' := 1) ⟨rfl, rfl⟩ rfl ?_
  refine w_bi (pc' := 3) ⟨rfl, rfl⟩ (by decide) ?_
  refine w_icF_ne (pc' := 6) ⟨rfl, rfl⟩ (by decide) ?_
  refine w_bi (pc' := 8) ⟨rfl, rfl⟩ (by decide) ?_
  refine w_goto (pc' := 11) (pcT := 14) ⟨rfl, rfl⟩ rfl ?_
  refine w_istore_n (pc' := 15) ⟨rfl, rfl⟩ rfl ?_
  refine w_iload_n (pc' := 16) ⟨rfl, rfl⟩ rfl ?_
  refine w_bi (pc' := 18) ⟨rfl, rfl⟩ (by decide) ?_
  refine w_icF_ne (pc' := 21) ⟨rfl, rfl⟩ (by decide) ?_
  refine w_bi (pc' := 23) ⟨rfl, rfl⟩ (by decide) ?_
  refine w_goto (pc' := 26) (pcT := 28) ⟨rfl, rfl⟩ rfl ?_
  refine w_istore (pc' := 30) ⟨rfl, rfl⟩ rfl ?_
  refine w_dload_n (pc' := 31) ⟨rfl, rfl⟩ rfl ?_
  refine w_dconst0 (pc' := 32) ⟨rfl, rfl⟩ ?_
  refine w_dcmp (pc' := 33) ⟨rfl, rfl⟩ ?_
  obtain ⟨z21, e21, c21⟩ := zcv (o := .g) ((0 : Nat) : Int) ((0 : Nat) : Int)
  refine w_topI ((congrArg (fun x => Op.cmpValue x .g) (zM_cmp hd nul)).trans e21) ?_
  refine w_if_ge (pc' := 36) (pcT := 41) ⟨rfl, rfl⟩ rfl (by omega) (fun h1 => ?_) (fun h1 => ?_)
  · refine w_dload_n (pc' := 42) ⟨rfl, rfl⟩ rfl ?_
    refine w_dstore (pc' := 44) ⟨rfl, rfl⟩ rfl rfl ?_
    refine w_ic (pc' := 45) ⟨rfl, rfl⟩ ?_
    refine w_istore (pc' := 47) ⟨rfl, rfl⟩ rfl ?_
    refine w_at (ls2 := [(0, .double 0), (2, .int (iZ 6)), (3, .int (iZ ((127 : Nat) : Int))), (4, .int (iZ ((23 : Nat) : Int))), (5, .double (0)), (7, .int (iZ 0))]) ⟨rfl, rfl, rfl, rfl, rfl, rfl, trivial⟩ (l_toB1 hb hq (max 0 ((1 - (127 : Int) - 23) + 23)).toNat 0 _ (by omega) (by omega) (by rw [Int.sub_zero]; rw [Nat.zero_mul]; exact hd) (fun x p hp hp0 hx => ?_))
    have hp00 : p = 0 := by omega
    subst hp00
    rw [Nat.zero_mul] at hx
    refine w_iload (pc' := 78) ⟨rfl, rfl⟩ rfl ?_
    refine w_ic (pc' := 79) ⟨rfl, rfl⟩ ?_
    refine w_iload_n (pc' := 80) ⟨rfl, rfl⟩ rfl ?_
    refine w_isubZ (pc' := 81) ⟨rfl, rfl⟩ ?_
    refine w_ic_le (pc' := 84) (pcT := 112) ⟨rfl, rfl⟩ rfl (by omega) (by omega) (fun h2 => ?_) (fun h2 => ?_)
    · exfalso; omega
    · refine w_dload (pc' := 86) ⟨rfl, rfl⟩ rfl ?_
      refine w_dconst0 (pc' := 87) ⟨rfl, rfl⟩ ?_
      refine w_dcmp (pc' := 88) ⟨rfl, rfl⟩ ?_
      obtain ⟨z22, e22, c22⟩ := zcv (o := .l) ((0 : Nat) : Int) ((0 : Nat) : Int)
      refine w_topI ((congrArg (fun x => Op.cmpValue x .l) (zM_cmp hx zM_zero)).trans e22) ?_
      refine w_if_le (pc' := 91) (pcT := 112) ⟨rfl, rfl⟩ rfl (by omega) (fun h3 => ?_) (fun h3 => ?_)
      · refine w_at (ls2 := [(0, .double 0), (2, .int (iZ 6)), (3, .int (iZ ((127 : Nat) : Int))), (4, .int (iZ ((23 : Nat) : Int))), (5, .double x), (7, .int (iZ 0))]) ⟨rfl, rfl, rfl, rfl, rfl, rfl, trivial⟩ ?_
        refine l_toB3 hb hq (by rw [Nat.zero_mul]; exact hx) (fun h => by omega) (by omega) ?_
        refine w_dload_n (pc' := 150) ⟨rfl, rfl⟩ rfl ?_
        refine w_dconst0 (pc' := 151) ⟨rfl, rfl⟩ ?_
        refine w_dcmp (pc' := 152) ⟨rfl, rfl⟩ ?_
        obtain ⟨z23, e23, c23⟩ := zcv (o := .g) ((0 : Nat) : Int) ((0 : Nat) : Int)
        refine w_topI ((congrArg (fun x => Op.cmpValue x .g) (zM_cmp hd zM_zero)).trans e23) ?_
        refine w_if_lt (pc' := 155) (pcT := 169) ⟨rfl, rfl⟩ rfl (by omega) (fun h4 => ?_) (fun h4 => ?_)
        · refine w_lload (pc' := 171) ⟨rfl, rfl⟩ rfl ?_
          refine w_iload_n (pc' := 172) ⟨rfl, rfl⟩ rfl ?_
          refine w_bi (pc' := 174) ⟨rfl, rfl⟩ (by decide) ?_
          refine w_icF_ne (pc' := 177) ⟨rfl, rfl⟩ (by decide) ?_
          refine w_ldc2Y (pc' := 180) (z := -2147483648) ⟨rfl, rfl⟩ rfl ?_
          refine w_goto (pc' := 183) (pcT := 186) ⟨rfl, rfl⟩ rfl ?_
          refine w_lor (pc' := 187) ⟨rfl, rfl⟩ ?_
          refine w_lstore (pc' := 189) ⟨rfl, rfl⟩ rfl rfl ?_
          refine w_lload (pc' := 191) ⟨rfl, rfl⟩ rfl ?_
          refine w_lreturn (pc' := 192) ⟨rfl, rfl⟩ ?_
          first | exact k | (exfalso; omega)
        · refine w_dload_n (pc' := 156) ⟨rfl, rfl⟩ rfl ?_
          refine w_dconst0 (pc' := 157) ⟨rfl, rfl⟩ ?_
          refine w_dcmp (pc' := 158) ⟨rfl, rfl⟩ ?_
          obtain ⟨z24, e24, c24⟩ := zcv (o := .l) ((0 : Nat) : Int) ((0 : Nat) : Int)
          refine w_topI ((congrArg (fun x => Op.cmpValue x .l) (zM_cmp hd zM_zero)).trans e24) ?_
          refine w_if_ne (pc' := 161) (pcT := 189) ⟨rfl, rfl⟩ rfl (by omega) (fun h5 => ?_) (fun h5 => ?_)
          · refine w_lload (pc' := 191) ⟨rfl, rfl⟩ rfl ?_
            refine w_lreturn (pc' := 192) ⟨rfl, rfl⟩ ?_
            first | exact k | (exfalso; omega)
          · refine w_dconst1 (pc' := 162) ⟨rfl, rfl⟩ ?_
            refine w_dload_n (pc' := 163) ⟨rfl, rfl⟩ rfl ?_
            refine w_ddiv (pc' := 164) ⟨rfl, rfl⟩ (v := .double 9218868437227405312) (by decide +kernel) ?_
            refine w_dconst0 (pc' := 165) ⟨rfl, rfl⟩ ?_
            refine w_dcmp (pc' := 166) ⟨rfl, rfl⟩ ?_
            refine w_topI (y := iZ (1)) (by decide +kernel) ?_
            refine w_ifT_ge (pc' := 169) (pcT := 189) ⟨rfl, rfl⟩ rfl (by decide) ?_
            refine w_lload (pc' := 191) ⟨rfl, rfl⟩ rfl ?_
            refine w_lreturn (pc' := 192) ⟨rfl, rfl⟩ ?_
            first | exact k | (exfalso; omega)
      · exfalso; omega
  · exfalso; omega
theorem c_toBits6Y {σ : zSt} {Q : zSt → Option Value → Prop} (k : Q σ (some (.long ((lZ (zbm 0 (1 - (127 : Int) - 23) 127 23) ||| lZ (-2147483648)))))) : zCa 49 [.double 9223372036854775808, .int (iZ 6)] σ Q := by
  refine w_enter (c := zk_X5_toBits) (ls2 := [(0, .double 9223372036854775808), (2, .int (iZ 6))]) rfl ⟨rfl, rfl, trivial⟩ ?_
  have hb : zBP 127 23 := by unfold zBP; decide
  have hq : zFq 0 (1 - (127 : Int) - 23) 127 23 := by unfold zFq; decide
  have hd : zM 9223372036854775808 0 := ⟨true, 0, -1074, by decide +kernel, by rw [Nat.zero_mul], fun h => rfl, zfits64.mpr (by decide)⟩
  have nul := zM_zero
  refine w_iload_n (pc' := 1) ⟨rfl, rfl⟩ rfl ?_
  refine w_bi (pc' := 3) ⟨rfl, rfl⟩ (by decide) ?_
  refine w_icF_ne (pc' := 6) ⟨rfl, rfl⟩ (by decide) ?_
  refine w_bi (pc' := 8) ⟨rfl, rfl⟩ (by decide) ?_
  refine w_goto (pc' := 11) (pcT := 14) ⟨rfl, rfl⟩ rfl ?_
  refine w_istore_n (pc' := 15) ⟨rfl, rfl⟩ rfl ?_
  refine w_iload_n (pc' := 16) ⟨rfl, rfl⟩ rfl ?_
  refine w_bi (pc' := 18) ⟨rfl, rfl⟩ (by decide) ?_
  refine w_icF_ne (pc' := 21) ⟨rfl, rfl⟩ (by decide) ?_
  refine w_bi (pc' := 23) ⟨rfl, rfl⟩ (by decide) ?_
  refine w_goto (pc' := 26) (pcT := 28) ⟨rfl, rfl⟩ rfl ?_
  refine w_istore (pc' := 30) ⟨rfl, rfl⟩ rfl ?_
  refine w_dload_n (pc' := 31) ⟨rfl, rfl⟩ rfl ?_
  refine w_dconst0 (pc' := 32) ⟨rfl, rfl⟩ ?_
  refine w_dcmp (pc' := 33) ⟨rfl, rfl⟩ ?_
  obtain ⟨z25, e25, c25⟩ := zcv (o := .g) ((0 : Nat) : Int) ((0 : Nat) : Int)
  refine w_topI ((congrArg (fun x => Op.cmpValue x .g) (zM_cmp hd nul)).trans e25) ?_
  refine w_if_ge (pc' := 36) (pcT := 41) ⟨rfl, rfl⟩ rfl (by omega) (fun h1 => ?_) (fun h1 => ?_)
  · refine w_dload_n (pc' := 42) ⟨rfl, rfl⟩ rfl ?_
    refine w_dstore (pc' := 44) ⟨rfl, rfl⟩ rfl rfl ?_
    refine w_ic (pc' := 45) ⟨rfl, rfl⟩ ?_
    refine w_istore (pc' := 47) ⟨rfl, rfl⟩ rfl ?_
    refine w_at (ls2 := [(0, .double 9223372036854775808), (2, .int (iZ 6)), (3, .int (iZ ((127 : Nat) : Int))), (4, .int (iZ ((23 : Nat) : Int))), (5, .double (9223372036854775808)), (7, .int (iZ 0))]) ⟨rfl, rfl, rfl, rfl, rfl, rfl, trivial⟩ (l_toB1 hb hq (max 0 ((1 - (127 : Int) - 23) + 23)).toNat 0 _ (by omega) (by omega) (by rw [Int.sub_zero]; rw [Nat.zero_mul]; exact hd) (fun x p hp hp0 hx => ?_))
    have hp00 : p = 0 := by omega
    subst hp00
    rw [Nat.zero_mul] at hx
    refine w_iload (pc' := 78) ⟨rfl, rfl⟩ rfl ?_
    refine w_ic (pc' := 79) ⟨rfl, rfl⟩ ?_
    refine w_iload_n (pc' := 80) ⟨rfl, rfl⟩ rfl ?_
    refine w_isubZ (pc' := 81) ⟨rfl, rfl⟩ ?_
    refine w_ic_le (pc' := 84) (pcT := 112) ⟨rfl, rfl⟩ rfl (by omega) (by omega) (fun h2 => ?_) (fun h2 => ?_)
    · exfalso; omega
    · refine w_dload (pc' := 86) ⟨rfl, rfl⟩ rfl ?_
      refine w_dconst0 (pc' := 87) ⟨rfl, rfl⟩ ?_
      refine w_dcmp (pc' := 88) ⟨rfl, rfl⟩ ?_
      obtain ⟨z26, e26, c26⟩ := zcv (o := .l) ((0 : Nat) : Int) ((0 : Nat) : Int)
      refine w_topI ((congrArg (fun x => Op.cmpValue x .l) (zM_cmp hx zM_zero)).trans e26) ?_
      refine w_if_le (pc' := 91) (pcT := 112) ⟨rfl, rfl⟩ rfl (by omega) (fun h3 => ?_) (fun h3 => ?_)
      · refine w_at (ls2 := [(0, .double 9223372036854775808), (2, .int (iZ 6)), (3, .int (iZ ((127 : Nat) : Int))), (4, .int (iZ ((23 : Nat) : Int))), (5, .double x), (7, .int (iZ 0))]) ⟨rfl, rfl, rfl, rfl, rfl, rfl, trivial⟩ ?_
        refine l_toB3 hb hq (by rw [Nat.zero_mul]; exact hx) (fun h => by omega) (by omega) ?_
        refine w_dload_n (pc' := 150) ⟨rfl, rfl⟩ rfl ?_
        refine w_dconst0 (pc' := 151) ⟨rfl, rfl⟩ ?_
        refine w_dcmp (pc' := 152) ⟨rfl, rfl⟩ ?_
        obtain ⟨z27, e27, c27⟩ := zcv (o := .g) ((0 : Nat) : Int) ((0 : Nat) : Int)
        refine w_topI ((congrArg (fun x => Op.cmpValue x .g) (zM_cmp hd zM_zero)).trans e27) ?_
        refine w_if_lt (pc' := 155) (pcT := 169) ⟨rfl, rfl⟩ rfl (by omega) (fun h4 => ?_) (fun h4 => ?_)
        · refine w_lload (pc' := 171) ⟨rfl, rfl⟩ rfl ?_
          refine w_iload_n (pc' := 172) ⟨rfl, rfl⟩ rfl ?_
          refine w_bi (pc' := 174) ⟨rfl, rfl⟩ (by decide) ?_
          refine w_icF_ne (pc' := 177) ⟨rfl, rfl⟩ (by decide) ?_
          refine w_ldc2Y (pc' := 180) (z := -2147483648) ⟨rfl, rfl⟩ rfl ?_
          refine w_goto (pc' := 183) (pcT := 186) ⟨rfl, rfl⟩ rfl ?_
          refine w_lor (pc' := 187) ⟨rfl, rfl⟩ ?_
          refine w_lstore (pc' := 189) ⟨rfl, rfl⟩ rfl rfl ?_
          refine w_lload (pc' := 191) ⟨rfl, rfl⟩ rfl ?_
          refine w_lreturn (pc' := 192) ⟨rfl, rfl⟩ ?_
          first | exact k | (exfalso; omega)
        · refine w_dload_n (pc' := 156) ⟨rfl, rfl⟩ rfl ?_
          refine w_dconst0 (pc' := 157) ⟨rfl, rfl⟩ ?_
          refine w_dcmp (pc' := 158) ⟨rfl, rfl⟩ ?_
          obtain ⟨z28, e28, c28⟩ := zcv (o := .l) ((0 : Nat) : Int) ((0 : Nat) : Int)
          refine w_topI ((congrArg (fun x => Op.cmpValue x .l) (zM_cmp hd zM_zero)).trans e28) ?_
          refine w_if_ne (pc' := 161) (pcT := 189) ⟨rfl, rfl⟩ rfl (by omega) (fun h5 => ?_) (fun h5 => ?_)
          · refine w_lload (pc' := 191) ⟨rfl, rfl⟩ rfl ?_
            refine w_lreturn (pc' := 192) ⟨rfl, rfl⟩ ?_
            first | exact k | (exfalso; omega)
          · refine w_dconst1 (pc' := 162) ⟨rfl, rfl⟩ ?_
            refine w_dload_n (pc' := 163) ⟨rfl, rfl⟩ rfl ?_
            refine w_ddiv (pc' := 164) ⟨rfl, rfl⟩ (v := .double 18442240474082181120) (by decide +kernel) ?_
            refine w_dconst0 (pc' := 165) ⟨rfl, rfl⟩ ?_
            refine w_dcmp (pc' := 166) ⟨rfl, rfl⟩ ?_
            refine w_topI (y := iZ (-1)) (by decide +kernel) ?_
            refine w_ifF_ge (pc' := 169) ⟨rfl, rfl⟩ (by decide) ?_
            refine w_lload (pc' := 171) ⟨rfl, rfl⟩ rfl ?_
            refine w_iload_n (pc' := 172) ⟨rfl, rfl⟩ rfl ?_
            refine w_bi (pc' := 174) ⟨rfl, rfl⟩ (by decide) ?_
            refine w_icF_ne (pc' := 177) ⟨rfl, rfl⟩ (by decide) ?_
            refine w_ldc2Y (pc' := 180) (z := -2147483648) ⟨rfl, rfl⟩ rfl ?_
            refine w_goto (pc' := 183) (pcT := 186) ⟨rfl, rfl⟩ rfl ?_
            refine w_lor (pc' := 187) ⟨rfl, rfl⟩ ?_
            refine w_lstore (pc' := 189) ⟨rfl, rfl⟩ rfl rfl ?_
            refine w_lload (pc' := 191) ⟨rfl, rfl⟩ rfl ?_
            refine w_lreturn (pc' := 192) ⟨rfl, rfl⟩ ?_
            first | exact k | (exfalso; omega)
      · exfalso; omega
  · exfalso; omega
