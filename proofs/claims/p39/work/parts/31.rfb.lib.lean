/-! of whole, what this claim takes: 31.rfb.lean.txt -/
def zM0 (x : UInt64) (M : Nat) : Prop := zM x M ∧ (M = 0 → x = 0)
theorem zM0_dbl {d : UInt64} {M : Nat} (hd : zM0 d M) (h : M * 2 < 2 ^ 2098) : zM0 (FP.dmul d 4611686018427387904) (M * 2) := ⟨zM_dbl hd.1 h, fun q => by rw [hd.2 (by omega)]; decide +kernel⟩
theorem zM0_hlf {d : UInt64} {M : Nat} (hd : zM0 d (M * 2)) : zM0 (FP.ddiv d 4611686018427387904) M := ⟨zM_hlf hd.1, fun q => by rw [hd.2 (by omega)]; decide +kernel⟩
theorem lZ_andP (a : Int) {P : Nat} (hP : P < 63) : lZ a &&& (lZ ((2 ^ P : Nat) : Int) - lZ 1) = lZ (a % 2 ^ P) := by
  have hp : 0 < (2 : Nat) ^ P := Nat.two_pow_pos P
  have hp2 : (2 : Nat) ^ P < 2 ^ 63 := zpw_lt.mpr hP
  have hc : ((2 ^ P : Nat) : Int) = 2 ^ P := by norm_cast
  have hr : 0 ≤ a % 2 ^ P ∧ a % 2 ^ P < 2 ^ P := ⟨Int.emod_nonneg _ (by omega), Int.emod_lt_of_pos _ (by omega)⟩
  rw [lZ_sub]
  apply Int64.toBitVec_inj.mp
  apply BitVec.eq_of_toNat_eq
  rw [Int64.toBitVec_and, BitVec.toNat_and, lZ_nat (a := ((2 ^ P : Nat) : Int) - 1) (by omega), lZ_nat (a := a % 2 ^ P) (by omega)]
  rw [show (((2 ^ P : Nat) : Int) - 1).toNat = 2 ^ P - 1 by omega, Nat.and_two_pow_sub_one_eq_mod]
  show (BitVec.ofInt 64 a).toNat % 2 ^ P = _
  rw [BitVec.toNat_ofInt]
  have h5 : 0 ≤ a % (2 ^ 64 : Int) := Int.emod_nonneg _ (by decide)
  have h6 : a % (2 ^ 64 : Int) % 2 ^ P = a % 2 ^ P := by
    refine Int.emod_emod_of_dvd _ ⟨2 ^ (64 - P), ?_⟩
    rw [← Int.pow_add]; congr 1; omega
  rw [← h6]
  obtain ⟨n, hn⟩ := Int.eq_ofNat_of_zero_le h5
  show (a % (2 ^ 64 : Int)).toNat % 2 ^ P = _
  rw [hn, ← hc]
  show n % 2 ^ P = ((n : Int) % ((2 ^ P : Nat) : Int)).toNat
  norm_cast
theorem iZ_andB (a : Int) {k : Nat} (hk : k < 31) {m : Int} (hm : m = ((2 ^ k : Nat) : Int) - 1) : iZ a &&& iZ m = iZ (a % ((2 ^ k : Nat) : Int)) := by
  subst hm
  have hp : 0 < (2 : Nat) ^ k := Nat.two_pow_pos k
  have hp2 : (2 : Nat) ^ k < 2 ^ 31 := zpw_lt.mpr hk
  have hr : 0 ≤ a % ((2 ^ k : Nat) : Int) ∧ a % ((2 ^ k : Nat) : Int) < ((2 ^ k : Nat) : Int) := ⟨Int.emod_nonneg _ (by omega), Int.emod_lt_of_pos _ (by omega)⟩
  apply Int32.toBitVec_inj.mp
  apply BitVec.eq_of_toNat_eq
  rw [Int32.toBitVec_and, BitVec.toNat_and, iZ_nat (a := ((2 ^ k : Nat) : Int) - 1) (by omega), iZ_nat (a := a % ((2 ^ k : Nat) : Int)) (by omega)]
  rw [show (((2 ^ k : Nat) : Int) - 1).toNat = 2 ^ k - 1 by omega, Nat.and_two_pow_sub_one_eq_mod]
  show (BitVec.ofInt 32 a).toNat % 2 ^ k = _
  rw [BitVec.toNat_ofInt]
  have h5 : 0 ≤ a % (2 ^ 32 : Int) := Int.emod_nonneg _ (by decide)
  have h6 : a % (2 ^ 32 : Int) % ((2 ^ k : Nat) : Int) = a % ((2 ^ k : Nat) : Int) := by
    refine Int.emod_emod_of_dvd _ ⟨2 ^ (32 - k), ?_⟩
    rw [show ((2 ^ k : Nat) : Int) = 2 ^ k by norm_cast, ← Int.pow_add]; congr 1; omega
  rw [← h6]
  obtain ⟨n, hn⟩ := Int.eq_ofNat_of_zero_le h5
  show (a % (2 ^ 32 : Int)).toNat % 2 ^ k = _
  rw [hn]
  show n % 2 ^ k = ((n : Int) % ((2 ^ k : Nat) : Int)).toNat
  norm_cast
theorem l_fbU {σ : zSt} {a : Int} {kd wp : Int} {c B P : Nat} (hb : zBP B P) (hPB : P < B ∧ B ≤ 1023) (hw : 1 - (B : Int) - P ≤ wp ∧ wp + P ≤ B) (hc : c < 2 ^ (P + 1)) {Q : zSt → Option Value → Prop} : ∀ (n : Nat) (i : Nat) (x : UInt64), ((i : Int) + n = max 0 wp) → zM0 x (c * 2 ^ (1074 + i)) → (∀ x, zM0 x (c * 2 ^ (1074 + (max 0 wp).toNat)) → zP zk_X5_fromBits 125 [(0, .long (lZ a)), (2, .int (iZ kd)), (3, .int (iZ B)), (4, .int (iZ P)), (10, .double x), (12, .int (iZ wp))] [] σ Q) → zP zk_X5_fromBits 96 [(0, .long (lZ a)), (2, .int (iZ kd)), (3, .int (iZ B)), (4, .int (iZ P)), (10, .double x), (12, .int (iZ wp)), (13, .int (iZ i))] [] σ Q := by
  intro n
  induction n with
  | zero =>
    intro i x hn hx k
    have hbb := hb
    obtain ⟨b1, b2, b3, b4⟩ := hbb
    
    refine w_iload (pc' := 98) ⟨rfl, rfl⟩ rfl ?_
    refine w_ic (pc' := 99) ⟨rfl, rfl⟩ ?_
    refine w_iload_n (pc' := 100) ⟨rfl, rfl⟩ rfl ?_
    refine w_imulZ (pc' := 101) ⟨rfl, rfl⟩ ?_
    refine w_ic_ge (pc' := 104) (pcT := 125) ⟨rfl, rfl⟩ rfl (by omega) (by omega) (fun h1 => ?_) (fun h1 => ?_)
    · refine w_at ?_ (k x (by rw [show (max 0 wp).toNat = i by omega]; exact hx))
      exact ⟨rfl, rfl, rfl, rfl, rfl, rfl, trivial⟩
    · refine w_iload (pc' := 106) ⟨rfl, rfl⟩ rfl ?_
      refine w_iload (pc' := 108) ⟨rfl, rfl⟩ rfl ?_
      refine w_ic_ge (pc' := 111) (pcT := 125) ⟨rfl, rfl⟩ rfl (by omega) (by omega) (fun h2 => ?_) (fun h2 => ?_)
      · refine w_at ?_ (k x (by rw [show (max 0 wp).toNat = i by omega]; exact hx))
        exact ⟨rfl, rfl, rfl, rfl, rfl, rfl, trivial⟩
      · exfalso; omega
  | succ n ih =>
    intro i x hn hx k
    have hbb := hb
    obtain ⟨b1, b2, b3, b4⟩ := hbb
    have hlt : c * 2 ^ (1074 + i) * 2 < 2 ^ 2098 := by
      have h1 : c * 2 ^ (1074 + i) < 2 ^ (P + 1) * 2 ^ (1074 + i) := Nat.mul_lt_mul_of_pos_right hc (Nat.two_pow_pos _)
      rw [← Nat.pow_add] at h1
      have h2 : 2 ^ (P + 1 + (1074 + i)) * 2 ≤ 2 ^ 2098 := by rw [← Nat.pow_succ]; exact zpw_le.mpr (by omega)
      generalize (2 : Nat) ^ 2098 = A at h2 ⊢
      generalize (2 : Nat) ^ (P + 1 + (1074 + i)) = C at h1 h2
      omega
    have hx2 := zM0_dbl hx hlt
    refine w_iload (pc' := 98) ⟨rfl, rfl⟩ rfl ?_
    refine w_ic (pc' := 99) ⟨rfl, rfl⟩ ?_
    refine w_iload_n (pc' := 100) ⟨rfl, rfl⟩ rfl ?_
    refine w_imulZ (pc' := 101) ⟨rfl, rfl⟩ ?_
    refine w_ic_ge (pc' := 104) (pcT := 125) ⟨rfl, rfl⟩ rfl (by omega) (by omega) (fun h1 => ?_) (fun h1 => ?_)
    · exfalso; omega
    · refine w_iload (pc' := 106) ⟨rfl, rfl⟩ rfl ?_
      refine w_iload (pc' := 108) ⟨rfl, rfl⟩ rfl ?_
      refine w_ic_ge (pc' := 111) (pcT := 125) ⟨rfl, rfl⟩ rfl (by omega) (by omega) (fun h2 => ?_) (fun h2 => ?_)
      · exfalso; omega
      · refine w_dload (pc' := 113) ⟨rfl, rfl⟩ rfl ?_
        refine w_ldc2_w (pc' := 116) ⟨rfl, rfl⟩ rfl ?_
        refine w_dmul (pc' := 117) ⟨rfl, rfl⟩ (zM_some hx2.1) ?_
        refine w_dstore (pc' := 119) ⟨rfl, rfl⟩ rfl rfl ?_
        refine w_iincZ (pc' := 122) ⟨rfl, rfl⟩ rfl rfl ?_
        refine w_goto (pc' := 125) (pcT := 96) ⟨rfl, rfl⟩ rfl ?_
        refine w_at ?_ (ih (i + 1) _ (by omega) (by rw [show 1074 + (i + 1) = 1074 + i + 1 by omega, Nat.pow_succ, ← Nat.mul_assoc]; exact hx2) k)
        exact ⟨rfl, rfl, rfl, rfl, rfl, rfl, rfl, trivial⟩
theorem l_fbD {σ : zSt} {a : Int} {kd wp : Int} {c B P : Nat} (hb : zBP B P) (hPB : P < B ∧ B ≤ 1023) (hw : 1 - (B : Int) - P ≤ wp ∧ wp + P ≤ B) (hc : c < 2 ^ (P + 1)) {Q : zSt → Option Value → Prop} : ∀ (n : Nat) (i : Nat) (x : UInt64), ((i : Int) + n = max 0 (-wp)) → zM0 x (c * 2 ^ (1074 + max 0 wp - i).toNat) → (∀ x, zM0 x (c * 2 ^ (wp + 1074).toNat) → zP zk_X5_fromBits 158 [(0, .long (lZ a)), (10, .double x)] [] σ Q) → zP zk_X5_fromBits 128 [(0, .long (lZ a)), (2, .int (iZ kd)), (3, .int (iZ B)), (4, .int (iZ P)), (10, .double x), (12, .int (iZ wp)), (13, .int (iZ i))] [] σ Q := by
  intro n
  induction n with
  | zero =>
    intro i x hn hx k
    have hbb := hb
    obtain ⟨b1, b2, b3, b4⟩ := hbb
    
    refine w_iload (pc' := 130) ⟨rfl, rfl⟩ rfl ?_
    refine w_ic (pc' := 131) ⟨rfl, rfl⟩ ?_
    refine w_iload_n (pc' := 132) ⟨rfl, rfl⟩ rfl ?_
    refine w_imulZ (pc' := 133) ⟨rfl, rfl⟩ ?_
    refine w_ic_ge (pc' := 136) (pcT := 158) ⟨rfl, rfl⟩ rfl (by omega) (by omega) (fun h1 => ?_) (fun h1 => ?_)
    · refine w_at ?_ (k x (by rw [show (wp + 1074).toNat = (1074 + max 0 wp - i).toNat by omega]; exact hx))
      exact ⟨rfl, rfl, trivial⟩
    · refine w_iload (pc' := 138) ⟨rfl, rfl⟩ rfl ?_
      refine w_iload (pc' := 140) ⟨rfl, rfl⟩ rfl ?_
      refine w_inegZ (pc' := 141) ⟨rfl, rfl⟩ ?_
      refine w_ic_ge (pc' := 144) (pcT := 158) ⟨rfl, rfl⟩ rfl (by omega) (by omega) (fun h2 => ?_) (fun h2 => ?_)
      · refine w_at ?_ (k x (by rw [show (wp + 1074).toNat = (1074 + max 0 wp - i).toNat by omega]; exact hx))
        exact ⟨rfl, rfl, trivial⟩
      · exfalso; omega
  | succ n ih =>
    intro i x hn hx k
    have hbb := hb
    obtain ⟨b1, b2, b3, b4⟩ := hbb
    have hh : c * 2 ^ (1074 + max 0 wp - i).toNat = c * 2 ^ (1074 + max 0 wp - ((i + 1 : Nat) : Int)).toNat * 2 := by rw [show (1074 + max 0 wp - i).toNat = (1074 + max 0 wp - ((i + 1 : Nat) : Int)).toNat + 1 by omega, Nat.pow_succ, Nat.mul_assoc]
    rw [hh] at hx
    have hx2 := zM0_hlf hx
    refine w_iload (pc' := 130) ⟨rfl, rfl⟩ rfl ?_
    refine w_ic (pc' := 131) ⟨rfl, rfl⟩ ?_
    refine w_iload_n (pc' := 132) ⟨rfl, rfl⟩ rfl ?_
    refine w_imulZ (pc' := 133) ⟨rfl, rfl⟩ ?_
    refine w_ic_ge (pc' := 136) (pcT := 158) ⟨rfl, rfl⟩ rfl (by omega) (by omega) (fun h1 => ?_) (fun h1 => ?_)
    · exfalso; omega
    · refine w_iload (pc' := 138) ⟨rfl, rfl⟩ rfl ?_
      refine w_iload (pc' := 140) ⟨rfl, rfl⟩ rfl ?_
      refine w_inegZ (pc' := 141) ⟨rfl, rfl⟩ ?_
      refine w_ic_ge (pc' := 144) (pcT := 158) ⟨rfl, rfl⟩ rfl (by omega) (by omega) (fun h2 => ?_) (fun h2 => ?_)
      · exfalso; omega
      · refine w_dload (pc' := 146) ⟨rfl, rfl⟩ rfl ?_
        refine w_ldc2_w (pc' := 149) ⟨rfl, rfl⟩ rfl ?_
        refine w_ddiv (pc' := 150) ⟨rfl, rfl⟩ (zM_some hx2.1) ?_
        refine w_dstore (pc' := 152) ⟨rfl, rfl⟩ rfl rfl ?_
        refine w_iincZ (pc' := 155) ⟨rfl, rfl⟩ rfl rfl ?_
        refine w_goto (pc' := 158) (pcT := 128) ⟨rfl, rfl⟩ rfl ?_
        refine w_at ?_ (ih (i + 1) _ (by omega) hx2 k)
        exact ⟨rfl, rfl, rfl, rfl, rfl, rfl, rfl, trivial⟩
theorem c_fromBits7 {σ : zSt} {a : Int} (ha : -9223372036854775808 ≤ a ∧ a ≤ 9223372036854775807) {c : Nat} {q : Int} (hE : a / 2 ^ 52 % 2048 ≠ 2047) (g0 : a / 2 ^ 52 % 2048 = 0 → (c : Int) = a % 2 ^ 52 ∧ q = 1 - 1023 - 52) (g1 : a / 2 ^ 52 % 2048 ≠ 0 → (c : Int) = a % 2 ^ 52 + 2 ^ 52 ∧ q = a / 2 ^ 52 % 2048 - 1023 - 52) {Q : zSt → Option Value → Prop} (k : ∀ x, zM0 x (c * 2 ^ (q + 1074).toNat) → Q σ (some (.double (if a < 0 then FP.dneg x else x)))) : zCa 50 [.long (lZ a), .int (iZ 7)] σ Q := by
  refine w_enter (c := zk_X5_fromBits) (ls2 := [(0, .long (lZ a)), (2, .int (iZ 7))]) rfl ⟨rfl, rfl, trivial⟩ ?_
  have hb : zBP 1023 52 := by unfold zBP; decide
  have hP63 : ((2 ^ 52 : Nat) : Int) = 2 ^ 52 := rfl
  have hR : 0 ≤ a / 2 ^ 52 % 2048 ∧ a / 2 ^ 52 % 2048 < 2048 := by omega
  have hc0 : c < 2 ^ (52 + 1) := by omega
  have hqr : 1 - (1023 : Int) - 52 ≤ q ∧ q + 52 ≤ 1023 := by omega
  refine w_iload_n (pc' := 1) ⟨rfl, rfl⟩ rfl ?_
  refine w_bi (pc' := 3) ⟨rfl, rfl⟩ (by decide) ?_
  refine w_icT_ne (pc' := 6) (pcT := 11) ⟨rfl, rfl⟩ rfl (by decide) ?_
  refine w_si (pc' := 14) ⟨rfl, rfl⟩ (by decide) ?_
  refine w_istore_n (pc' := 15) ⟨rfl, rfl⟩ rfl ?_
  refine w_iload_n (pc' := 16) ⟨rfl, rfl⟩ rfl ?_
  refine w_bi (pc' := 18) ⟨rfl, rfl⟩ (by decide) ?_
  refine w_icT_ne (pc' := 21) (pcT := 26) ⟨rfl, rfl⟩ rfl (by decide) ?_
  refine w_bi (pc' := 28) ⟨rfl, rfl⟩ (by decide) ?_
  refine w_istore (pc' := 30) ⟨rfl, rfl⟩ rfl ?_
  refine w_lc (pc' := 31) (z := 1) ⟨rfl, rfl⟩ rfl ?_
  refine w_iload (pc' := 33) ⟨rfl, rfl⟩ rfl ?_
  refine w_lshl (pc' := 34) ⟨rfl, rfl⟩ ?_
  refine w_topL (zone (P := 52) (by decide)) ?_
  refine w_lstore (pc' := 36) ⟨rfl, rfl⟩ rfl rfl ?_
  refine w_lload_n (pc' := 37) ⟨rfl, rfl⟩ rfl ?_
  refine w_lload (pc' := 39) ⟨rfl, rfl⟩ rfl ?_
  refine w_lc (pc' := 40) (z := 1) ⟨rfl, rfl⟩ rfl ?_
  refine w_lsub (pc' := 41) ⟨rfl, rfl⟩ ?_
  refine w_land (pc' := 42) ⟨rfl, rfl⟩ ?_
  refine w_topL (lZ_andP a (P := 52) (by decide)) ?_
  refine w_lstore (pc' := 44) ⟨rfl, rfl⟩ rfl rfl ?_
  refine w_lload_n (pc' := 45) ⟨rfl, rfl⟩ rfl ?_
  refine w_iload (pc' := 47) ⟨rfl, rfl⟩ rfl ?_
  refine w_lshr (pc' := 48) ⟨rfl, rfl⟩ ?_
  refine w_topL (lZ_shr (k := 52) ha (by decide)) ?_
  refine w_l2iY (pc' := 49) ⟨rfl, rfl⟩ ?_
  refine w_ic (pc' := 50) ⟨rfl, rfl⟩ ?_
  refine w_iload_n (pc' := 51) ⟨rfl, rfl⟩ rfl ?_
  refine w_imulZ (pc' := 52) ⟨rfl, rfl⟩ ?_
  refine w_ic (pc' := 53) ⟨rfl, rfl⟩ ?_
  refine w_iaddZ (pc' := 54) ⟨rfl, rfl⟩ ?_
  refine w_iand (pc' := 55) ⟨rfl, rfl⟩ ?_
  refine w_topI (iZ_andB (a / 2 ^ 52) (k := 11) (by decide) (by decide)) ?_
  rw [show ((2 ^ 11 : Nat) : Int) = 2048 from rfl]
  refine w_istore (pc' := 57) ⟨rfl, rfl⟩ rfl ?_
  refine w_iload (pc' := 59) ⟨rfl, rfl⟩ rfl ?_
  refine w_if_ne (pc' := 62) (pcT := 67) ⟨rfl, rfl⟩ rfl (by omega) (fun h1 => ?_) (fun h1 => ?_)
  · refine w_lload (pc' := 69) ⟨rfl, rfl⟩ rfl ?_
    refine w_lload (pc' := 71) ⟨rfl, rfl⟩ rfl ?_
    refine w_laddY (pc' := 72) ⟨rfl, rfl⟩ ?_
    refine w_l2d (pc' := 73) ⟨rfl, rfl⟩ ?_
    refine w_dstore (pc' := 75) ⟨rfl, rfl⟩ rfl rfl ?_
    refine w_iload (pc' := 77) ⟨rfl, rfl⟩ rfl ?_
    refine w_if_ne (pc' := 80) (pcT := 84) ⟨rfl, rfl⟩ rfl (by omega) (fun h2 => ?_) (fun h2 => ?_)
    · refine w_iload (pc' := 86) ⟨rfl, rfl⟩ rfl ?_
      refine w_iload_n (pc' := 87) ⟨rfl, rfl⟩ rfl ?_
      refine w_isubZ (pc' := 88) ⟨rfl, rfl⟩ ?_
      refine w_iload (pc' := 90) ⟨rfl, rfl⟩ rfl ?_
      refine w_isubZ (pc' := 91) ⟨rfl, rfl⟩ ?_
      refine w_istore (pc' := 93) ⟨rfl, rfl⟩ rfl ?_
      refine w_ic (pc' := 94) ⟨rfl, rfl⟩ ?_
      refine w_istore (pc' := 96) ⟨rfl, rfl⟩ rfl ?_
      obtain ⟨hc1, hq1⟩ := g1 (by omega)
      refine w_at (ls2 := [(0, .long (lZ a)), (2, .int (iZ 7)), (3, .int (iZ ((1023 : Nat) : Int))), (4, .int (iZ ((52 : Nat) : Int))), (10, .double (FP.l2d (lZ (c : Int)))), (12, .int (iZ q)), (13, .int (iZ ((0 : Nat) : Int)))]) ⟨rfl, rfl, rfl, rfl, by first | (rw [hc1]; rfl) | rw [hc1], by first | (rw [hq1]; rfl) | rw [hq1], rfl, trivial⟩ (l_fbU hb (by decide) hqr hc0 (max 0 q).toNat 0 _ (by omega) ⟨zM_l2d (by omega), fun hz => ?_⟩ (fun x hx => ?_))
      · have hz0 : c = 0 := by
          rcases Nat.mul_eq_zero.mp hz with h | h
          · exact h
          · exact absurd h (Nat.ne_of_gt (Nat.two_pow_pos _))
        rw [hz0]; decide +kernel
      refine w_ic (pc' := 126) ⟨rfl, rfl⟩ ?_
      refine w_istore (pc' := 128) ⟨rfl, rfl⟩ rfl ?_
      refine w_at (ls2 := [(0, .long (lZ a)), (2, .int (iZ 7)), (3, .int (iZ ((1023 : Nat) : Int))), (4, .int (iZ ((52 : Nat) : Int))), (10, .double x), (12, .int (iZ q)), (13, .int (iZ ((0 : Nat) : Int)))]) ⟨rfl, rfl, rfl, rfl, rfl, rfl, rfl, trivial⟩ (l_fbD hb (by decide) hqr hc0 (max 0 (-q)).toNat 0 x (by omega) (by rw [show (1074 + max 0 q - ((0 : Nat) : Int)).toNat = 1074 + (max 0 q).toNat by omega]; exact hx) (fun x hx => ?_))
      refine w_lload_n (pc' := 159) ⟨rfl, rfl⟩ rfl ?_
      refine w_lc (pc' := 160) (z := 0) ⟨rfl, rfl⟩ rfl ?_
      refine w_lcmp (pc' := 161) ⟨rfl, rfl⟩ ?_
      refine w_ify_ge (pc' := 164) (pcT := 170) ⟨rfl, rfl⟩ rfl (by omega) (by omega) (fun h3 => ?_) (fun h3 => ?_)
      · refine w_dload (pc' := 172) ⟨rfl, rfl⟩ rfl ?_
        refine w_dreturn (pc' := 173) ⟨rfl, rfl⟩ ?_
        have := k x hx
        first | (rw [if_pos (by omega)] at this; exact this) | (rw [if_neg (by omega)] at this; exact this)
      · refine w_dload (pc' := 166) ⟨rfl, rfl⟩ rfl ?_
        refine w_dneg (pc' := 167) ⟨rfl, rfl⟩ ?_
        refine w_goto (pc' := 170) (pcT := 172) ⟨rfl, rfl⟩ rfl ?_
        refine w_dreturn (pc' := 173) ⟨rfl, rfl⟩ ?_
        have := k x hx
        first | (rw [if_pos (by omega)] at this; exact this) | (rw [if_neg (by omega)] at this; exact this)
    · refine w_ic (pc' := 81) ⟨rfl, rfl⟩ ?_
      refine w_goto (pc' := 84) (pcT := 86) ⟨rfl, rfl⟩ rfl ?_
      refine w_iload_n (pc' := 87) ⟨rfl, rfl⟩ rfl ?_
      refine w_isubZ (pc' := 88) ⟨rfl, rfl⟩ ?_
      refine w_iload (pc' := 90) ⟨rfl, rfl⟩ rfl ?_
      refine w_isubZ (pc' := 91) ⟨rfl, rfl⟩ ?_
      refine w_istore (pc' := 93) ⟨rfl, rfl⟩ rfl ?_
      refine w_ic (pc' := 94) ⟨rfl, rfl⟩ ?_
      refine w_istore (pc' := 96) ⟨rfl, rfl⟩ rfl ?_
      exfalso; omega
  · refine w_lload (pc' := 64) ⟨rfl, rfl⟩ rfl ?_
    refine w_goto (pc' := 67) (pcT := 72) ⟨rfl, rfl⟩ rfl ?_
    refine w_l2d (pc' := 73) ⟨rfl, rfl⟩ ?_
    refine w_dstore (pc' := 75) ⟨rfl, rfl⟩ rfl rfl ?_
    refine w_iload (pc' := 77) ⟨rfl, rfl⟩ rfl ?_
    refine w_if_ne (pc' := 80) (pcT := 84) ⟨rfl, rfl⟩ rfl (by omega) (fun h2 => ?_) (fun h2 => ?_)
    · refine w_iload (pc' := 86) ⟨rfl, rfl⟩ rfl ?_
      refine w_iload_n (pc' := 87) ⟨rfl, rfl⟩ rfl ?_
      refine w_isubZ (pc' := 88) ⟨rfl, rfl⟩ ?_
      refine w_iload (pc' := 90) ⟨rfl, rfl⟩ rfl ?_
      refine w_isubZ (pc' := 91) ⟨rfl, rfl⟩ ?_
      refine w_istore (pc' := 93) ⟨rfl, rfl⟩ rfl ?_
      refine w_ic (pc' := 94) ⟨rfl, rfl⟩ ?_
      refine w_istore (pc' := 96) ⟨rfl, rfl⟩ rfl ?_
      exfalso; omega
    · refine w_ic (pc' := 81) ⟨rfl, rfl⟩ ?_
      refine w_goto (pc' := 84) (pcT := 86) ⟨rfl, rfl⟩ rfl ?_
      refine w_iload_n (pc' := 87) ⟨rfl, rfl⟩ rfl ?_
      refine w_isubZ (pc' := 88) ⟨rfl, rfl⟩ ?_
      refine w_iload (pc' := 90) ⟨rfl, rfl⟩ rfl ?_
      refine w_isubZ (pc' := 91) ⟨rfl, rfl⟩ ?_
      refine w_istore (pc' := 93) ⟨rfl, rfl⟩ rfl ?_
      refine w_ic (pc' := 94) ⟨rfl, rfl⟩ ?_
      refine w_istore (pc' := 96) ⟨rfl, rfl⟩ rfl ?_
      obtain ⟨hc1, hq1⟩ := g0 (by omega)
      refine w_at (ls2 := [(0, .long (lZ a)), (2, .int (iZ 7)), (3, .int (iZ ((1023 : Nat) : Int))), (4, .int (iZ ((52 : Nat) : Int))), (10, .double (FP.l2d (lZ (c : Int)))), (12, .int (iZ q)), (13, .int (iZ ((0 : Nat) : Int)))]) ⟨rfl, rfl, rfl, rfl, by first | (rw [hc1]; rfl) | rw [hc1], by first | (rw [hq1]; rfl) | rw [hq1], rfl, trivial⟩ (l_fbU hb (by decide) hqr hc0 (max 0 q).toNat 0 _ (by omega) ⟨zM_l2d (by omega), fun hz => ?_⟩ (fun x hx => ?_))
      · have hz0 : c = 0 := by
          rcases Nat.mul_eq_zero.mp hz with h | h
          · exact h
          · exact absurd h (Nat.ne_of_gt (Nat.two_pow_pos _))
        rw [hz0]; decide +kernel
      refine w_ic (pc' := 126) ⟨rfl, rfl⟩ ?_
      refine w_istore (pc' := 128) ⟨rfl, rfl⟩ rfl ?_
      refine w_at (ls2 := [(0, .long (lZ a)), (2, .int (iZ 7)), (3, .int (iZ ((1023 : Nat) : Int))), (4, .int (iZ ((52 : Nat) : Int))), (10, .double x), (12, .int (iZ q)), (13, .int (iZ ((0 : Nat) : Int)))]) ⟨rfl, rfl, rfl, rfl, rfl, rfl, rfl, trivial⟩ (l_fbD hb (by decide) hqr hc0 (max 0 (-q)).toNat 0 x (by omega) (by rw [show (1074 + max 0 q - ((0 : Nat) : Int)).toNat = 1074 + (max 0 q).toNat by omega]; exact hx) (fun x hx => ?_))
      refine w_lload_n (pc' := 159) ⟨rfl, rfl⟩ rfl ?_
      refine w_lc (pc' := 160) (z := 0) ⟨rfl, rfl⟩ rfl ?_
      refine w_lcmp (pc' := 161) ⟨rfl, rfl⟩ ?_
      refine w_ify_ge (pc' := 164) (pcT := 170) ⟨rfl, rfl⟩ rfl (by omega) (by omega) (fun h3 => ?_) (fun h3 => ?_)
      · refine w_dload (pc' := 172) ⟨rfl, rfl⟩ rfl ?_
        refine w_dreturn (pc' := 173) ⟨rfl, rfl⟩ ?_
        have := k x hx
        first | (rw [if_pos (by omega)] at this; exact this) | (rw [if_neg (by omega)] at this; exact this)
      · refine w_dload (pc' := 166) ⟨rfl, rfl⟩ rfl ?_
        refine w_dneg (pc' := 167) ⟨rfl, rfl⟩ ?_
        refine w_goto (pc' := 170) (pcT := 172) ⟨rfl, rfl⟩ rfl ?_
        refine w_dreturn (pc' := 173) ⟨rfl, rfl⟩ ?_
        have := k x hx
        first | (rw [if_pos (by omega)] at this; exact this) | (rw [if_neg (by omega)] at this; exact this)
theorem c_fromBits6 {σ : zSt} {a : Int} (ha : -9223372036854775808 ≤ a ∧ a ≤ 9223372036854775807) {c : Nat} {q : Int} (hE : a / 2 ^ 23 % 256 ≠ 255) (g0 : a / 2 ^ 23 % 256 = 0 → (c : Int) = a % 2 ^ 23 ∧ q = 1 - 127 - 23) (g1 : a / 2 ^ 23 % 256 ≠ 0 → (c : Int) = a % 2 ^ 23 + 2 ^ 23 ∧ q = a / 2 ^ 23 % 256 - 127 - 23) {Q : zSt → Option Value → Prop} (k : ∀ x, zM0 x (c * 2 ^ (q + 1074).toNat) → Q σ (some (.double (if a < 0 then FP.dneg x else x)))) : zCa 50 [.long (lZ a), .int (iZ 6)] σ Q := by
  refine w_enter (c := zk_X5_fromBits) (ls2 := [(0, .long (lZ a)), (2, .int (iZ 6))]) rfl ⟨rfl, rfl, trivial⟩ ?_
  have hb : zBP 127 23 := by unfold zBP; decide
  have hP63 : ((2 ^ 23 : Nat) : Int) = 2 ^ 23 := rfl
  have hR : 0 ≤ a / 2 ^ 23 % 256 ∧ a / 2 ^ 23 % 256 < 256 := by omega
  have hc0 : c < 2 ^ (23 + 1) := by omega
  have hqr : 1 - (127 : Int) - 23 ≤ q ∧ q + 23 ≤ 127 := by omega
  refine w_iload_n (pc' := 1) ⟨rfl, rfl⟩ rfl ?_
  refine w_bi (pc' := 3) ⟨rfl, rfl⟩ (by decide) ?_
  refine w_icF_ne (pc' := 6) ⟨rfl, rfl⟩ (by decide) ?_
  refine w_bi (pc' := 8) ⟨rfl, rfl⟩ (by decide) ?_
  refine w_goto (pc' := 11) (pcT := 14) ⟨rfl, rfl⟩ rfl ?_
  refine w_istore_n (pc' := 15) ⟨rfl, rfl⟩ rfl ?_
  refine w_iload_n (pc' := 16) ⟨rfl, rfl⟩ rfl ?_
  refine w_bi (pc' := 18) ⟨rfl, rfl⟩ (by decide) ?_
  refine w_icF_ne (pc' := 21) ⟨rfl, rfl⟩ (by decide) ?_
  refine w_bi (pc' := 23) ⟨rfl, rfl⟩ (by decide) ?_
  refine w_goto (pc' := 26) (pcT := 28) ⟨rfl, rfl⟩ rfl ?_
  refine w_istore (pc' := 30) ⟨rfl, rfl⟩ rfl ?_
  refine w_lc (pc' := 31) (z := 1) ⟨rfl, rfl⟩ rfl ?_
  refine w_iload (pc' := 33) ⟨rfl, rfl⟩ rfl ?_
  refine w_lshl (pc' := 34) ⟨rfl, rfl⟩ ?_
  refine w_topL (zone (P := 23) (by decide)) ?_
  refine w_lstore (pc' := 36) ⟨rfl, rfl⟩ rfl rfl ?_
  refine w_lload_n (pc' := 37) ⟨rfl, rfl⟩ rfl ?_
  refine w_lload (pc' := 39) ⟨rfl, rfl⟩ rfl ?_
  refine w_lc (pc' := 40) (z := 1) ⟨rfl, rfl⟩ rfl ?_
  refine w_lsub (pc' := 41) ⟨rfl, rfl⟩ ?_
  refine w_land (pc' := 42) ⟨rfl, rfl⟩ ?_
  refine w_topL (lZ_andP a (P := 23) (by decide)) ?_
  refine w_lstore (pc' := 44) ⟨rfl, rfl⟩ rfl rfl ?_
  refine w_lload_n (pc' := 45) ⟨rfl, rfl⟩ rfl ?_
  refine w_iload (pc' := 47) ⟨rfl, rfl⟩ rfl ?_
  refine w_lshr (pc' := 48) ⟨rfl, rfl⟩ ?_
  refine w_topL (lZ_shr (k := 23) ha (by decide)) ?_
  refine w_l2iY (pc' := 49) ⟨rfl, rfl⟩ ?_
  refine w_ic (pc' := 50) ⟨rfl, rfl⟩ ?_
  refine w_iload_n (pc' := 51) ⟨rfl, rfl⟩ rfl ?_
  refine w_imulZ (pc' := 52) ⟨rfl, rfl⟩ ?_
  refine w_ic (pc' := 53) ⟨rfl, rfl⟩ ?_
  refine w_iaddZ (pc' := 54) ⟨rfl, rfl⟩ ?_
  refine w_iand (pc' := 55) ⟨rfl, rfl⟩ ?_
  refine w_topI (iZ_andB (a / 2 ^ 23) (k := 8) (by decide) (by decide)) ?_
  rw [show ((2 ^ 8 : Nat) : Int) = 256 from rfl]
  refine w_istore (pc' := 57) ⟨rfl, rfl⟩ rfl ?_
  refine w_iload (pc' := 59) ⟨rfl, rfl⟩ rfl ?_
  refine w_if_ne (pc' := 62) (pcT := 67) ⟨rfl, rfl⟩ rfl (by omega) (fun h1 => ?_) (fun h1 => ?_)
  · refine w_lload (pc' := 69) ⟨rfl, rfl⟩ rfl ?_
    refine w_lload (pc' := 71) ⟨rfl, rfl⟩ rfl ?_
    refine w_laddY (pc' := 72) ⟨rfl, rfl⟩ ?_
    refine w_l2d (pc' := 73) ⟨rfl, rfl⟩ ?_
    refine w_dstore (pc' := 75) ⟨rfl, rfl⟩ rfl rfl ?_
    refine w_iload (pc' := 77) ⟨rfl, rfl⟩ rfl ?_
    refine w_if_ne (pc' := 80) (pcT := 84) ⟨rfl, rfl⟩ rfl (by omega) (fun h2 => ?_) (fun h2 => ?_)
    · refine w_iload (pc' := 86) ⟨rfl, rfl⟩ rfl ?_
      refine w_iload_n (pc' := 87) ⟨rfl, rfl⟩ rfl ?_
      refine w_isubZ (pc' := 88) ⟨rfl, rfl⟩ ?_
      refine w_iload (pc' := 90) ⟨rfl, rfl⟩ rfl ?_
      refine w_isubZ (pc' := 91) ⟨rfl, rfl⟩ ?_
      refine w_istore (pc' := 93) ⟨rfl, rfl⟩ rfl ?_
      refine w_ic (pc' := 94) ⟨rfl, rfl⟩ ?_
      refine w_istore (pc' := 96) ⟨rfl, rfl⟩ rfl ?_
      obtain ⟨hc1, hq1⟩ := g1 (by omega)
      refine w_at (ls2 := [(0, .long (lZ a)), (2, .int (iZ 6)), (3, .int (iZ ((127 : Nat) : Int))), (4, .int (iZ ((23 : Nat) : Int))), (10, .double (FP.l2d (lZ (c : Int)))), (12, .int (iZ q)), (13, .int (iZ ((0 : Nat) : Int)))]) ⟨rfl, rfl, rfl, rfl, by first | (rw [hc1]; rfl) | rw [hc1], by first | (rw [hq1]; rfl) | rw [hq1], rfl, trivial⟩ (l_fbU hb (by decide) hqr hc0 (max 0 q).toNat 0 _ (by omega) ⟨zM_l2d (by omega), fun hz => ?_⟩ (fun x hx => ?_))
      · have hz0 : c = 0 := by
          rcases Nat.mul_eq_zero.mp hz with h | h
          · exact h
          · exact absurd h (Nat.ne_of_gt (Nat.two_pow_pos _))
        rw [hz0]; decide +kernel
      refine w_ic (pc' := 126) ⟨rfl, rfl⟩ ?_
      refine w_istore (pc' := 128) ⟨rfl, rfl⟩ rfl ?_
      refine w_at (ls2 := [(0, .long (lZ a)), (2, .int (iZ 6)), (3, .int (iZ ((127 : Nat) : Int))), (4, .int (iZ ((23 : Nat) : Int))), (10, .double x), (12, .int (iZ q)), (13, .int (iZ ((0 : Nat) : Int)))]) ⟨rfl, rfl, rfl, rfl, rfl, rfl, rfl, trivial⟩ (l_fbD hb (by decide) hqr hc0 (max 0 (-q)).toNat 0 x (by omega) (by rw [show (1074 + max 0 q - ((0 : Nat) : Int)).toNat = 1074 + (max 0 q).toNat by omega]; exact hx) (fun x hx => ?_))
      refine w_lload_n (pc' := 159) ⟨rfl, rfl⟩ rfl ?_
      refine w_lc (pc' := 160) (z := 0) ⟨rfl, rfl⟩ rfl ?_
      refine w_lcmp (pc' := 161) ⟨rfl, rfl⟩ ?_
      refine w_ify_ge (pc' := 164) (pcT := 170) ⟨rfl, rfl⟩ rfl (by omega) (by omega) (fun h3 => ?_) (fun h3 => ?_)
      · refine w_dload (pc' := 172) ⟨rfl, rfl⟩ rfl ?_
        refine w_dreturn (pc' := 173) ⟨rfl, rfl⟩ ?_
        have := k x hx
        first | (rw [if_pos (by omega)] at this; exact this) | (rw [if_neg (by omega)] at this; exact this)
      · refine w_dload (pc' := 166) ⟨rfl, rfl⟩ rfl ?_
        refine w_dneg (pc' := 167) ⟨rfl, rfl⟩ ?_
        refine w_goto (pc' := 170) (pcT := 172) ⟨rfl, rfl⟩ rfl ?_
        refine w_dreturn (pc' := 173) ⟨rfl, rfl⟩ ?_
        have := k x hx
        first | (rw [if_pos (by omega)] at this; exact this) | (rw [if_neg (by omega)] at this; exact this)
    · refine w_ic (pc' := 81) ⟨rfl, rfl⟩ ?_
      refine w_goto (pc' := 84) (pcT := 86) ⟨rfl, rfl⟩ rfl ?_
      refine w_iload_n (pc' := 87) ⟨rfl, rfl⟩ rfl ?_
      refine w_isubZ (pc' := 88) ⟨rfl, rfl⟩ ?_
      refine w_iload (pc' := 90) ⟨rfl, rfl⟩ rfl ?_
      refine w_isubZ (pc' := 91) ⟨rfl, rfl⟩ ?_
      refine w_istore (pc' := 93) ⟨rfl, rfl⟩ rfl ?_
      refine w_ic (pc' := 94) ⟨rfl, rfl⟩ ?_
      refine w_istore (pc' := 96) ⟨rfl, rfl⟩ rfl ?_
      exfalso; omega
  · refine w_lload (pc' := 64) ⟨rfl, rfl⟩ rfl ?_
    refine w_goto (pc' := 67) (pcT := 72) ⟨rfl, rfl⟩ rfl ?_
    refine w_l2d (pc' := 73) ⟨rfl, rfl⟩ ?_
    refine w_dstore (pc' := 75) ⟨rfl, rfl⟩ rfl rfl ?_
    refine w_iload (pc' := 77) ⟨rfl, rfl⟩ rfl ?_
    refine w_if_ne (pc' := 80) (pcT := 84) ⟨rfl, rfl⟩ rfl (by omega) (fun h2 => ?_) (fun h2 => ?_)
    · refine w_iload (pc' := 86) ⟨rfl, rfl⟩ rfl ?_
      refine w_iload_n (pc' := 87) ⟨rfl, rfl⟩ rfl ?_
      refine w_isubZ (pc' := 88) ⟨rfl, rfl⟩ ?_
      refine w_iload (pc' := 90) ⟨rfl, rfl⟩ rfl ?_
      refine w_isubZ (pc' := 91) ⟨rfl, rfl⟩ ?_
      refine w_istore (pc' := 93) ⟨rfl, rfl⟩ rfl ?_
      refine w_ic (pc' := 94) ⟨rfl, rfl⟩ ?_
      refine w_istore (pc' := 96) ⟨rfl, rfl⟩ rfl ?_
      exfalso; omega
    · refine w_ic (pc' := 81) ⟨rfl, rfl⟩ ?_
      refine w_goto (pc' := 84) (pcT := 86) ⟨rfl, rfl⟩ rfl ?_
      refine w_iload_n (pc' := 87) ⟨rfl, rfl⟩ rfl ?_
      refine w_isubZ (pc' := 88) ⟨rfl, rfl⟩ ?_
      refine w_iload (pc' := 90) ⟨rfl, rfl⟩ rfl ?_
      refine w_isubZ (pc' := 91) ⟨rfl, rfl⟩ ?_
      refine w_istore (pc' := 93) ⟨rfl, rfl⟩ rfl ?_
      refine w_ic (pc' := 94) ⟨rfl, rfl⟩ ?_
      refine w_istore (pc' := 96) ⟨rfl, rfl⟩ rfl ?_
      obtain ⟨hc1, hq1⟩ := g0 (by omega)
      refine w_at (ls2 := [(0, .long (lZ a)), (2, .int (iZ 6)), (3, .int (iZ ((127 : Nat) : Int))), (4, .int (iZ ((23 : Nat) : Int))), (10, .double (FP.l2d (lZ (c : Int)))), (12, .int (iZ q)), (13, .int (iZ ((0 : Nat) : Int)))]) ⟨rfl, rfl, rfl, rfl, by first | (rw [hc1]; rfl) | rw [hc1], by first | (rw [hq1]; rfl) | rw [hq1], rfl, trivial⟩ (l_fbU hb (by decide) hqr hc0 (max 0 q).toNat 0 _ (by omega) ⟨zM_l2d (by omega), fun hz => ?_⟩ (fun x hx => ?_))
      · have hz0 : c = 0 := by
          rcases Nat.mul_eq_zero.mp hz with h | h
          · exact h
          · exact absurd h (Nat.ne_of_gt (Nat.two_pow_pos _))
        rw [hz0]; decide +kernel
      refine w_ic (pc' := 126) ⟨rfl, rfl⟩ ?_
      refine w_istore (pc' := 128) ⟨rfl, rfl⟩ rfl ?_
      refine w_at (ls2 := [(0, .long (lZ a)), (2, .int (iZ 6)), (3, .int (iZ ((127 : Nat) : Int))), (4, .int (iZ ((23 : Nat) : Int))), (10, .double x), (12, .int (iZ q)), (13, .int (iZ ((0 : Nat) : Int)))]) ⟨rfl, rfl, rfl, rfl, rfl, rfl, rfl, trivial⟩ (l_fbD hb (by decide) hqr hc0 (max 0 (-q)).toNat 0 x (by omega) (by rw [show (1074 + max 0 q - ((0 : Nat) : Int)).toNat = 1074 + (max 0 q).toNat by omega]; exact hx) (fun x hx => ?_))
      refine w_lload_n (pc' := 159) ⟨rfl, rfl⟩ rfl ?_
      refine w_lc (pc' := 160) (z := 0) ⟨rfl, rfl⟩ rfl ?_
      refine w_lcmp (pc' := 161) ⟨rfl, rfl⟩ ?_
      refine w_ify_ge (pc' := 164) (pcT := 170) ⟨rfl, rfl⟩ rfl (by omega) (by omega) (fun h3 => ?_) (fun h3 => ?_)
      · refine w_dload (pc' := 172) ⟨rfl, rfl⟩ rfl ?_
        refine w_dreturn (pc' := 173) ⟨rfl, rfl⟩ ?_
        have := k x hx
        first | (rw [if_pos (by omega)] at this; exact this) | (rw [if_neg (by omega)] at this; exact this)
      · refine w_dload (pc' := 166) ⟨rfl, rfl⟩ rfl ?_
        refine w_dneg (pc' := 167) ⟨rfl, rfl⟩ ?_
        refine w_goto (pc' := 170) (pcT := 172) ⟨rfl, rfl⟩ rfl ?_
        refine w_dreturn (pc' := 173) ⟨rfl, rfl⟩ ?_
        have := k x hx
        first | (rw [if_pos (by omega)] at this; exact this) | (rw [if_neg (by omega)] at this; exact this)
