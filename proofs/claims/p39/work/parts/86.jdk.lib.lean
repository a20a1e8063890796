/-! of whole, what this claim takes besides -/
theorem lZ_and31 (a : Int) : lZ a &&& lZ 31 = lZ (a % 32) := by
  apply Int64.toBitVec_inj.mp
  apply BitVec.eq_of_toNat_eq
  rw [Int64.toBitVec_and, BitVec.toNat_and, lZ_nat (a := 31) (by omega), lZ_nat (a := a % 32) (by omega)]
  show (BitVec.ofInt 64 a).toNat &&& (2 ^ 5 - 1) = _
  rw [Nat.and_two_pow_sub_one_eq_mod, BitVec.toNat_ofInt]
  show (a % (2 ^ 64 : Int)).toNat % 2 ^ 5 = _
  omega
theorem zshr5 {a : Int} (ha : -9223372036854775808 ≤ a ∧ a ≤ 9223372036854775807) {q : Nat} (hq : q < 8) : lZ a >>> ((iZ (5 * (q : Int))).toInt64 &&& 63) &&& lZ 31 = lZ (zdt a q) := by
  rw [show 5 * (q : Int) = ((5 * q : Nat) : Int) by omega, lZ_shr ha (by omega), lZ_and31, zdt_pow]
theorem zNaN64 {d : UInt64} (h : zdf d) : FP.dcmp d d = some .eq := by
  obtain ⟨s, c, q, h⟩ := h
  exact FP.Core.dcmp_self (by rw [h]; simp)
theorem zNaN32 {y : UInt32} (h : zff y) : FP.fcmp y y = some .eq := by
  obtain ⟨s, c, q, h⟩ := h
  exact FP.Core.fcmp_self (by rw [h]; simp)
theorem zsn64 {d : UInt64} (h : zdf d) : vn_snl2d d.toInt64 = false := by
  have h1 := (FP.Core.fin_bits d).mp h
  unfold vn_snl2d
  rw [show d.toInt64.toUInt64 = d from rfl]
  have : ¬ (d &&& 0x7fffffffffffffff > 0x7ff0000000000000) := by
    rw [gt_iff_lt, UInt64.lt_iff_toNat_lt, UInt64.toNat_and]
    show ¬ 9218868437227405312 < d.toNat &&& (2 ^ 63 - 1)
    rw [Nat.and_two_pow_sub_one_eq_mod]
    omega
  simp [this]
theorem zsn32 {y : UInt32} (h : zff y) : vn_sni2f y.toInt32 = false := by
  obtain ⟨s, c, q, h⟩ := h
  obtain ⟨h1, h2⟩ := zenc3 h
  unfold vn_sni2f
  rw [show y.toInt32.toUInt32 = y from rfl]
  have : ¬ (y &&& 0x7fffffff > 0x7f800000) := by
    rw [gt_iff_lt, UInt32.lt_iff_toNat_lt, UInt32.toNat_and]
    show ¬ 2139095040 < y.toNat &&& (2 ^ 31 - 1)
    rw [Nat.and_two_pow_sub_one_eq_mod, h1]
    cases s <;> simp only [Bool.false_eq_true, if_false, if_true] <;> split <;> omega
  simp [this]
theorem j_isNaN64 {σ : zSt} {d : UInt64} (hd : zdf d) {Q : zSt → Option Value → Prop} (k : Q σ (some (.int (iZ 0)))) : zCa 111 [.double d] σ Q := by
  refine w_enter (c := zk_Jxe99ae_isNaN_b9ae7) (ls2 := [(0, .double d)]) rfl ⟨rfl, trivial⟩ ?_
  refine w_dload_n (pc' := 1) ⟨rfl, rfl⟩ rfl ?_
  refine w_dload_n (pc' := 2) ⟨rfl, rfl⟩ rfl ?_
  refine w_dcmp (pc' := 3) ⟨rfl, rfl⟩ ?_
  refine w_topI (y := iZ 0) (by rw [zNaN64 hd]; rfl) ?_
  refine w_ifT_eq (pc' := 6) (pcT := 10) ⟨rfl, rfl⟩ rfl (by decide) ?_
  refine w_ic (pc' := 11) ⟨rfl, rfl⟩ ?_
  refine w_ireturn (pc' := 12) ⟨rfl, rfl⟩ (by decide) ?_
  exact k
theorem j_isNaN32 {σ : zSt} {y : UInt32} (hy : zff y) {Q : zSt → Option Value → Prop} (k : Q σ (some (.int (iZ 0)))) : zCa 113 [.float y] σ Q := by
  refine w_enter (c := zk_Jxf58ca_isNaN_12338) (ls2 := [(0, .float y)]) rfl ⟨rfl, trivial⟩ ?_
  refine w_fload_n (pc' := 1) ⟨rfl, rfl⟩ rfl ?_
  refine w_fload_n (pc' := 2) ⟨rfl, rfl⟩ rfl ?_
  refine w_fcmp (pc' := 3) ⟨rfl, rfl⟩ ?_
  refine w_topI (y := iZ 0) (by rw [zNaN32 hy]; rfl) ?_
  refine w_ifT_eq (pc' := 6) (pcT := 10) ⟨rfl, rfl⟩ rfl (by decide) ?_
  refine w_ic (pc' := 11) ⟨rfl, rfl⟩ ?_
  refine w_ireturn (pc' := 12) ⟨rfl, rfl⟩ (by decide) ?_
  exact k
theorem j_dbits {σ : zSt} {d : UInt64} (hd : zdf d) {Q : zSt → Option Value → Prop} (k : Q σ (some (.long (zdl d)))) : zCa 112 [.double d] σ Q := by
  refine w_enter (c := zk_Jxe99ae_doubleToLongBits_ccdee) (ls2 := [(0, .double d)]) rfl ⟨rfl, trivial⟩ ?_
  refine w_dload_n (pc' := 1) ⟨rfl, rfl⟩ rfl ?_
  refine w_cs1 (pc' := 4) ⟨rfl, rfl⟩ (by decide) (Nat.le_of_ble_eq_true rfl) (Nat.le_of_ble_eq_true rfl) (j_isNaN64 hd ?_)
  refine w_ifF_ne (pc' := 7) ⟨rfl, rfl⟩ (by decide) ?_
  refine w_dload_n (pc' := 8) ⟨rfl, rfl⟩ rfl ?_
  refine w_natG (pc' := 11) (a := [.double d]) (v1 := some (.long d.toInt64)) ⟨rfl, rfl⟩ rfl rfl (Nat.le_of_ble_eq_true rfl) (by decide) rfl ?_
  refine w_lreturn (pc' := 12) ⟨rfl, rfl⟩ ?_
  exact k
theorem j_fbits {σ : zSt} {y : UInt32} (hy : zff y) {Q : zSt → Option Value → Prop} (k : Q σ (some (.int y.toInt32))) : zCa 114 [.float y] σ Q := by
  refine w_enter (c := zk_Jxf58ca_floatToIntBits_5c35a) (ls2 := [(0, .float y)]) rfl ⟨rfl, trivial⟩ ?_
  refine w_fload_n (pc' := 1) ⟨rfl, rfl⟩ rfl ?_
  refine w_cs1 (pc' := 4) ⟨rfl, rfl⟩ (by decide) (Nat.le_of_ble_eq_true rfl) (Nat.le_of_ble_eq_true rfl) (j_isNaN32 hy ?_)
  refine w_ifF_ne (pc' := 7) ⟨rfl, rfl⟩ (by decide) ?_
  refine w_fload_n (pc' := 8) ⟨rfl, rfl⟩ rfl ?_
  refine w_natG (pc' := 11) (a := [.float y]) (v1 := some (.int y.toInt32)) ⟨rfl, rfl⟩ rfl rfl (Nat.le_of_ble_eq_true rfl) (by decide) rfl ?_
  refine w_ireturn (pc' := 12) ⟨rfl, rfl⟩ (Or.inl rfl) ?_
  exact k
theorem zwf_top : ∀ {n : Nat} {w m : Int}, zwf n w → (1 ≤ m ∧ m ≤ 26) → zwf (n + 1) (m * 2 ^ (5 * n) + w)
  | 0, w, m, h, hm => by
    rw [show w = 0 from h]
    show (1 ≤ (m * 1 + 0) % 32 ∧ (m * 1 + 0) % 32 ≤ 26) ∧ (m * 1 + 0) / 32 = 0
    omega
  | n + 1, w, m, h, hm => by
    have e : m * 2 ^ (5 * (n + 1)) = 32 * (m * 2 ^ (5 * n)) := by
      rw [show 5 * (n + 1) = 5 + 5 * n by omega, Int.pow_add, show (2 : Int) ^ 5 = 32 from rfl, Int.mul_left_comm]
    have ih := zwf_top h.2 hm
    have h1 := h.1
    refine ⟨?_, ?_⟩
    · rw [e]; omega
    · rw [e, show (32 * (m * 2 ^ (5 * n)) + w) / 32 = m * 2 ^ (5 * n) + w / 32 by omega]; exact ih
theorem zwf_zsp : ∀ (f i : Nat) (u w : Int), i + f = 8 → 0 ≤ u → zwf i w → zwf (zsp f i u w).2 (zsp f i u w).1
  | 0, i, u, w, h, hu, hw => hw
  | f + 1, i, u, w, h, hu, hw => by
    rw [zsp]
    split
    · exact zwf_top hw (by omega)
    · exact zwf_zsp f (i + 1) _ _ (by omega) (by omega) (zwf_top hw (by omega))
theorem zwf_zspell (a : Int) : ∃ m, m ≤ 8 ∧ zwf m (zspell a) := by
  have h := zwf_zsp 8 0 (zab a) 0 rfl (zab_nn a) rfl
  have hr := (zsp_rng 8 0 (zab a) 0 rfl (zab_nn a) (by decide)).1
  unfold zspell
  split
  · exact ⟨_, by omega, zwf_top h (by omega)⟩
  · exact ⟨_, hr.2, h⟩
theorem zok_cast (x : Int64) {k : Int} (h0 : k ≠ 0) (h8 : k ≠ 8) : zok k (zcast x k) := by
  by_cases h6 : k = 6
  · subst h6; exact zok_f (zl2f x)
  · by_cases h7 : k = 7
    · subst h7; exact zok_d (zl2d x)
    · exact zok_i ⟨h0, h6, h7, h8⟩
theorem zok_W (x : Int64) (k : Int) : zok k (zoW x k) := by
  by_cases h0 : k = 0
  · subst h0
    refine zok_b ?_
    show (if x = lZ 0 then lZ 0 else lZ 1) = lZ 0 ∨ (if x = lZ 0 then lZ 0 else lZ 1) = lZ 1
    split
    · exact Or.inl rfl
    · exact Or.inr rfl
  · by_cases h8 : k = 8
    · subst h8; obtain ⟨m, h1, h2⟩ := zwf_zspell x.toInt; exact zok_w h1 h2
    · unfold zoW; rw [if_neg h0, if_neg h8]; exact zok_cast x h0 h8
theorem zok_R {d : UInt64} (hd : zdb d) (k : Int) : zok k (zoR d k) := by
  by_cases h0 : k = 0
  · subst h0
    refine zok_b ?_
    show (if znz d then lZ 1 else lZ 0) = lZ 0 ∨ (if znz d then lZ 1 else lZ 0) = lZ 1
    split
    · exact Or.inr rfl
    · exact Or.inl rfl
  · by_cases h8 : k = 8
    · subst h8; obtain ⟨m, h1, h2⟩ := zwf_zspell (FP.d2l d).toInt; exact zok_w h1 h2
    · by_cases h6 : k = 6
      · subst h6; exact zok_f (zd2f hd)
      · by_cases h7 : k = 7
        · subst h7; exact zok_d hd
        · exact zok_i ⟨h0, h6, h7, h8⟩
theorem zok_car {v : Int64} {a b : Int} (hv : zok a v) : zok b (zcar v a b) := by
  unfold zcar
  split
  · rename_i h; rw [← h]; exact hv
  · split
    · rename_i h; rw [h.2]
      split
      · exact zok_w (n := 1) (by omega) ⟨by decide, rfl⟩
      · exact zok_w (n := 1) (by omega) ⟨by decide, rfl⟩
    · split
      · exact zok_R (zrl_b hv) b
      · split
        · split
          · rename_i h; rw [h]; exact zok_W v 0
          · exact zok_W _ b
        · exact zok_W v b
theorem zvl_ok {k : Int} {v : Int64} (h : zok k v) : zvl k v = v := by
  unfold zvl
  split
  · rename_i q
    obtain ⟨hk, hv⟩ := q
    subst hk
    obtain ⟨n, a, _, _, rfl, hr⟩ := zok8 h
    have := (lZ_inj (a := a) (b := -1) (by omega) (by omega)).mp hv
    omega
  · rfl
