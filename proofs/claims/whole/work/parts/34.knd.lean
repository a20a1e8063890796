/-! KINDS MADE OF EACH OTHER -/
/-- a float's, a double's bits as a value; whole numbers as a kind has them -/
def zfl (y : UInt32) : Int64 := y.toInt32.toInt64
def zdl (d : UInt64) : Int64 := d.toInt64
def zcast (x : Int64) (k : Int) : Int64 := if k = 1 then x.toInt32.toInt8.toInt32.toInt64 else if k = 2 then (x.toInt32.toUInt32 % 65536).toInt32.toInt64 else if k = 3 then x.toInt32.toInt16.toInt32.toInt64 else if k = 4 then x.toInt32.toInt64 else if k = 6 then zfl (FP.l2f x) else if k = 7 then zdl (FP.l2d x) else x
def zoW (x : Int64) (k : Int) : Int64 := if k = 0 then (if x = lZ 0 then lZ 0 else lZ 1) else if k = 8 then lZ (zspell x.toInt) else zcast x k
/-- a number from outside told as a kind; as a thing -/
def ztold (x : Int64) (k : Int) : Int64 := if k = 0 then (if x = lZ 0 then lZ 0 else lZ 1) else if k = 6 then zfl (FP.fdiv (FP.l2f x) 1098907648) else if k = 7 then zdl (FP.ddiv (FP.l2d x) 4625196817309499392) else if k = 8 then lZ (zwo x.toInt 8 0) else zcast x k
/-- whether a double is none of both zeros -/
abbrev znz (d : UInt64) : Prop := ¬ Op.cmpValue (FP.dcmp d 0) .l = 0
/-- a double made a kind -/
def zoR (d : UInt64) (k : Int) : Int64 := if k = 0 then (if znz d then lZ 1 else lZ 0) else if k = 8 then lZ (zspell (FP.d2l d).toInt) else if k = 5 then FP.d2l d else if k = 6 then zfl (FP.d2f d) else if k = 7 then zdl d else zcast (FP.d2i d).toInt64 k
theorem zNaN64 {d : UInt64} (h : zdf d) : FP.dcmp d d = some .eq := by
  obtain ⟨s, c, q, h⟩ := h
  exact FP.Core.dcmp_self (by rw [h]; simp)
theorem zNaN32 {y : UInt32} (h : zff y) : FP.fcmp y y = some .eq := by
  obtain ⟨s, c, q, h⟩ := h
  exact FP.Core.fcmp_self (by rw [h]; simp)
theorem zsn64 {d : UInt64} (h : zdf d) : vn_snl2d d.toInt64 = false := by
  have h1 := (FP.Core.fin_bits d).mp h
  unfold vn_snl2d
  rw [show d.toInt64.toUInt64 = d from rfl]
  have : ¬ (d &&& 0x7fffffffffffffff > 0x7ff0000000000000) := by
    rw [gt_iff_lt, UInt64.lt_iff_toNat_lt, UInt64.toNat_and]
    show ¬ 9218868437227405312 < d.toNat &&& (2 ^ 63 - 1)
    rw [Nat.and_two_pow_sub_one_eq_mod]
    omega
  simp [this]
theorem zsn32 {y : UInt32} (h : zff y) : vn_sni2f y.toInt32 = false := by
  obtain ⟨s, c, q, h⟩ := h
  obtain ⟨h1, h2⟩ := zenc3 h
  unfold vn_sni2f
  rw [show y.toInt32.toUInt32 = y from rfl]
  have : ¬ (y &&& 0x7fffffff > 0x7f800000) := by
    rw [gt_iff_lt, UInt32.lt_iff_toNat_lt, UInt32.toNat_and]
    show ¬ 2139095040 < y.toNat &&& (2 ^ 31 - 1)
    rw [Nat.and_two_pow_sub_one_eq_mod, h1]
    cases s <;> simp only [Bool.false_eq_true, if_false, if_true] <;> split <;> omega
  simp [this]
theorem zi32l (x : Int32) : x.toInt64.toInt32 = x := by simp
theorem zql {Q : zSt → Option Value → Prop} {σ : zSt} {a b : Int64} (h : Q σ (some (.long a))) (e : b = a) : Q σ (some (.long b)) := e ▸ h
theorem j_isNaN64 {σ : zSt} {d : UInt64} (hd : zdf d) {Q : zSt → Option Value → Prop} (k : Q σ (some (.int (iZ 0)))) : zCa 309 [.double d] σ Q := by
  refine w_enter (c := zk_Jxe99ae_isNaN_b9ae7) (ls2 := [(0, .double d)]) rfl ⟨rfl, trivial⟩ ?_
  refine w_dload_n (pc' := 1) ⟨rfl, rfl⟩ rfl ?_
  refine w_dload_n (pc' := 2) ⟨rfl, rfl⟩ rfl ?_
  refine w_dcmp (pc' := 3) ⟨rfl, rfl⟩ ?_
  refine w_topI (y := iZ 0) (by rw [zNaN64 hd]; rfl) ?_
  refine w_ifT_eq (pc' := 6) (pcT := 10) ⟨rfl, rfl⟩ rfl (by decide) ?_
  refine w_ic (pc' := 11) ⟨rfl, rfl⟩ ?_
  refine w_ireturn (pc' := 12) ⟨rfl, rfl⟩ (by decide) ?_
  exact k
theorem j_isNaN32 {σ : zSt} {y : UInt32} (hy : zff y) {Q : zSt → Option Value → Prop} (k : Q σ (some (.int (iZ 0)))) : zCa 311 [.float y] σ Q := by
  refine w_enter (c := zk_Jxf58ca_isNaN_12338) (ls2 := [(0, .float y)]) rfl ⟨rfl, trivial⟩ ?_
  refine w_fload_n (pc' := 1) ⟨rfl, rfl⟩ rfl ?_
  refine w_fload_n (pc' := 2) ⟨rfl, rfl⟩ rfl ?_
  refine w_fcmp (pc' := 3) ⟨rfl, rfl⟩ ?_
  refine w_topI (y := iZ 0) (by rw [zNaN32 hy]; rfl) ?_
  refine w_ifT_eq (pc' := 6) (pcT := 10) ⟨rfl, rfl⟩ rfl (by decide) ?_
  refine w_ic (pc' := 11) ⟨rfl, rfl⟩ ?_
  refine w_ireturn (pc' := 12) ⟨rfl, rfl⟩ (by decide) ?_
  exact k
theorem j_dbits {σ : zSt} {d : UInt64} (hd : zdf d) {Q : zSt → Option Value → Prop} (k : Q σ (some (.long (zdl d)))) : zCa 310 [.double d] σ Q := by
  refine w_enter (c := zk_Jxe99ae_doubleToLongBits_ccdee) (ls2 := [(0, .double d)]) rfl ⟨rfl, trivial⟩ ?_
  refine w_dload_n (pc' := 1) ⟨rfl, rfl⟩ rfl ?_
  refine w_cs1 (pc' := 4) ⟨rfl, rfl⟩ (by decide) (Nat.le_of_ble_eq_true rfl) (Nat.le_of_ble_eq_true rfl) (j_isNaN64 hd ?_)
  refine w_ifF_ne (pc' := 7) ⟨rfl, rfl⟩ (by decide) ?_
  refine w_dload_n (pc' := 8) ⟨rfl, rfl⟩ rfl ?_
  refine w_natG (pc' := 11) (a := [.double d]) (v1 := some (.long d.toInt64)) ⟨rfl, rfl⟩ rfl rfl (Nat.le_of_ble_eq_true rfl) (by decide) rfl ?_
  refine w_lreturn (pc' := 12) ⟨rfl, rfl⟩ ?_
  exact k
theorem j_fbits {σ : zSt} {y : UInt32} (hy : zff y) {Q : zSt → Option Value → Prop} (k : Q σ (some (.int y.toInt32))) : zCa 312 [.float y] σ Q := by
  refine w_enter (c := zk_Jxf58ca_floatToIntBits_5c35a) (ls2 := [(0, .float y)]) rfl ⟨rfl, trivial⟩ ?_
  refine w_fload_n (pc' := 1) ⟨rfl, rfl⟩ rfl ?_
  refine w_cs1 (pc' := 4) ⟨rfl, rfl⟩ (by decide) (Nat.le_of_ble_eq_true rfl) (Nat.le_of_ble_eq_true rfl) (j_isNaN32 hy ?_)
  refine w_ifF_ne (pc' := 7) ⟨rfl, rfl⟩ (by decide) ?_
  refine w_fload_n (pc' := 8) ⟨rfl, rfl⟩ rfl ?_
  refine w_natG (pc' := 11) (a := [.float y]) (v1 := some (.int y.toInt32)) ⟨rfl, rfl⟩ rfl rfl (Nat.le_of_ble_eq_true rfl) (by decide) rfl ?_
  refine w_ireturn (pc' := 12) ⟨rfl, rfl⟩ (Or.inl rfl) ?_
  exact k
theorem r_float0 {σ : zSt} {y : UInt32} (hy : zff y) {Q : zSt → Option Value → Prop} (k : Q σ (some (.long (zfl y)))) : zCa 228 [.float y] σ Q := by
  refine w_enter (c := zk_X12_float0) (ls2 := [(0, .float y)]) rfl ⟨rfl, trivial⟩ ?_
  refine w_fload_n (pc' := 1) ⟨rfl, rfl⟩ rfl ?_
  refine w_cs1 (pc' := 4) ⟨rfl, rfl⟩ (by decide) (Nat.le_of_ble_eq_true rfl) (Nat.le_of_ble_eq_true rfl) (j_fbits hy ?_)
  refine w_i2l (pc' := 5) ⟨rfl, rfl⟩ ?_
  refine w_lreturn (pc' := 6) ⟨rfl, rfl⟩ ?_
  exact k
theorem r_double0 {σ : zSt} {d : UInt64} (hd : zdf d) {Q : zSt → Option Value → Prop} (k : Q σ (some (.long (zdl d)))) : zCa 229 [.double d] σ Q := by
  refine w_enter (c := zk_X12_double0) (ls2 := [(0, .double d)]) rfl ⟨rfl, trivial⟩ ?_
  refine w_dload_n (pc' := 1) ⟨rfl, rfl⟩ rfl ?_
  refine w_cs1 (pc' := 4) ⟨rfl, rfl⟩ (by decide) (Nat.le_of_ble_eq_true rfl) (Nat.le_of_ble_eq_true rfl) (j_dbits hd ?_)
  refine w_lreturn (pc' := 5) ⟨rfl, rfl⟩ ?_
  exact k
theorem r_cast {σ : zSt} {x : Int64} {kd : Int} (hk : 0 ≤ kd ∧ kd ≤ 10) {Q : zSt → Option Value → Prop} (k : Q σ (some (.long (zcast x kd)))) : zCa 230 [.long x, .int (iZ kd)] σ Q := by
  refine w_enter (c := zk_X12_cast) (ls2 := [(0, .long x), (2, .int (iZ kd))]) rfl ⟨rfl, rfl, trivial⟩ ?_
  refine w_iload_n (pc' := 1) ⟨rfl, rfl⟩ rfl ?_
  rcases Classical.em (kd < 1 ∨ 7 < kd) with hs | hs
  · refine w_tsOutZ (pc' := 44) (pcT := 75) ⟨rfl, rfl⟩ rfl (by omega) ?_
    refine w_lload_n (pc' := 76) ⟨rfl, rfl⟩ rfl ?_
    refine w_lreturn (pc' := 77) ⟨rfl, rfl⟩ ?_
    first | (subst hj; exact k) | exact zql k (by unfold zcast; rw [if_neg (by omega), if_neg (by omega), if_neg (by omega), if_neg (by omega), if_neg (by omega), if_neg (by omega)])
  · rcases (show kd = 1 ∨ kd = 2 ∨ kd = 3 ∨ kd = 4 ∨ kd = 5 ∨ kd = 6 ∨ kd = 7 by omega) with hj | hj | hj | hj | hj | hj | hj
    · refine w_tsInZ (pc' := 44) (pcT := 44) 0 ⟨rfl, rfl⟩ (by omega) (by decide) rfl rfl ?_
      refine w_lload_n (pc' := 45) ⟨rfl, rfl⟩ rfl ?_
      refine w_l2i (pc' := 46) ⟨rfl, rfl⟩ ?_
      refine w_i2b (pc' := 47) ⟨rfl, rfl⟩ ?_
      refine w_i2l (pc' := 48) ⟨rfl, rfl⟩ ?_
      refine w_lreturn (pc' := 49) ⟨rfl, rfl⟩ ?_
      first | (subst hj; exact k) | exact zql k (by unfold zcast; rw [if_neg (by omega), if_neg (by omega), if_neg (by omega), if_neg (by omega), if_neg (by omega), if_neg (by omega)])
    · refine w_tsInZ (pc' := 44) (pcT := 49) 1 ⟨rfl, rfl⟩ (by omega) (by decide) rfl rfl ?_
      refine w_lload_n (pc' := 50) ⟨rfl, rfl⟩ rfl ?_
      refine w_l2i (pc' := 51) ⟨rfl, rfl⟩ ?_
      refine w_i2c (pc' := 52) ⟨rfl, rfl⟩ ?_
      refine w_i2l (pc' := 53) ⟨rfl, rfl⟩ ?_
      refine w_lreturn (pc' := 54) ⟨rfl, rfl⟩ ?_
      first | (subst hj; exact k) | exact zql k (by unfold zcast; rw [if_neg (by omega), if_neg (by omega), if_neg (by omega), if_neg (by omega), if_neg (by omega), if_neg (by omega)])
    · refine w_tsInZ (pc' := 44) (pcT := 54) 2 ⟨rfl, rfl⟩ (by omega) (by decide) rfl rfl ?_
      refine w_lload_n (pc' := 55) ⟨rfl, rfl⟩ rfl ?_
      refine w_l2i (pc' := 56) ⟨rfl, rfl⟩ ?_
      refine w_i2s (pc' := 57) ⟨rfl, rfl⟩ ?_
      refine w_i2l (pc' := 58) ⟨rfl, rfl⟩ ?_
      refine w_lreturn (pc' := 59) ⟨rfl, rfl⟩ ?_
      first | (subst hj; exact k) | exact zql k (by unfold zcast; rw [if_neg (by omega), if_neg (by omega), if_neg (by omega), if_neg (by omega), if_neg (by omega), if_neg (by omega)])
    · refine w_tsInZ (pc' := 44) (pcT := 59) 3 ⟨rfl, rfl⟩ (by omega) (by decide) rfl rfl ?_
      refine w_lload_n (pc' := 60) ⟨rfl, rfl⟩ rfl ?_
      refine w_l2i (pc' := 61) ⟨rfl, rfl⟩ ?_
      refine w_i2l (pc' := 62) ⟨rfl, rfl⟩ ?_
      refine w_lreturn (pc' := 63) ⟨rfl, rfl⟩ ?_
      first | (subst hj; exact k) | exact zql k (by unfold zcast; rw [if_neg (by omega), if_neg (by omega), if_neg (by omega), if_neg (by omega), if_neg (by omega), if_neg (by omega)])
    · refine w_tsInZ (pc' := 44) (pcT := 75) 4 ⟨rfl, rfl⟩ (by omega) (by decide) rfl rfl ?_
      refine w_lload_n (pc' := 76) ⟨rfl, rfl⟩ rfl ?_
      refine w_lreturn (pc' := 77) ⟨rfl, rfl⟩ ?_
      first | (subst hj; exact k) | exact zql k (by unfold zcast; rw [if_neg (by omega), if_neg (by omega), if_neg (by omega), if_neg (by omega), if_neg (by omega), if_neg (by omega)])
    · refine w_tsInZ (pc' := 44) (pcT := 63) 5 ⟨rfl, rfl⟩ (by omega) (by decide) rfl rfl ?_
      refine w_lload_n (pc' := 64) ⟨rfl, rfl⟩ rfl ?_
      refine w_l2f (pc' := 65) ⟨rfl, rfl⟩ ?_
      refine w_cs1 (pc' := 68) ⟨rfl, rfl⟩ (by decide) (Nat.le_of_ble_eq_true rfl) (Nat.le_of_ble_eq_true rfl) (r_float0 (zl2f x).f ?_)
      refine w_lreturn (pc' := 69) ⟨rfl, rfl⟩ ?_
      first | (subst hj; exact k) | exact zql k (by unfold zcast; rw [if_neg (by omega), if_neg (by omega), if_neg (by omega), if_neg (by omega), if_neg (by omega), if_neg (by omega)])
    · refine w_tsInZ (pc' := 44) (pcT := 69) 6 ⟨rfl, rfl⟩ (by omega) (by decide) rfl rfl ?_
      refine w_lload_n (pc' := 70) ⟨rfl, rfl⟩ rfl ?_
      refine w_l2d (pc' := 71) ⟨rfl, rfl⟩ ?_
      refine w_cs1 (pc' := 74) ⟨rfl, rfl⟩ (by decide) (Nat.le_of_ble_eq_true rfl) (Nat.le_of_ble_eq_true rfl) (r_double0 (zl2d x).f ?_)
      refine w_lreturn (pc' := 75) ⟨rfl, rfl⟩ ?_
      first | (subst hj; exact k) | exact zql k (by unfold zcast; rw [if_neg (by omega), if_neg (by omega), if_neg (by omega), if_neg (by omega), if_neg (by omega), if_neg (by omega)])
theorem iZ64 (x : Int64) : -9223372036854775808 ≤ x.toInt ∧ x.toInt ≤ 9223372036854775807 := ⟨x.le_toInt, by have := x.toInt_lt; omega⟩
theorem c_ofWhole {σ : zSt} {x : Int64} {kd : Int} (hk : 0 ≤ kd ∧ kd ≤ 10) {Q : zSt → Option Value → Prop} (k : Q σ (some (.long (zoW x kd)))) : zCa 43 [.long x, .int (iZ kd)] σ Q := by
  refine w_enter (c := zk_X2_ofWhole) (ls2 := [(0, .long x), (2, .int (iZ kd))]) rfl ⟨rfl, rfl, trivial⟩ ?_
  refine w_iload_n (pc' := 1) ⟨rfl, rfl⟩ rfl ?_
  rcases Classical.em (kd < 0 ∨ 8 < kd) with hs | hs
  · refine w_tsOutZ (pc' := 52) (pcT := 105) ⟨rfl, rfl⟩ rfl (by omega) ?_
    refine w_lload_n (pc' := 106) ⟨rfl, rfl⟩ rfl ?_
    refine w_lreturn (pc' := 107) ⟨rfl, rfl⟩ ?_
    first | (exfalso; omega) | (subst hj; exact k) | (subst hj; rw [show zoW x 0 = lZ 0 from (if_pos rfl).trans (if_pos (by assumption))] at k; exact k) | (subst hj; rw [show zoW x 0 = lZ 1 from (if_pos rfl).trans (if_neg (by assumption))] at k; exact k) | exact zql k (by unfold zoW zcast; rw [if_neg (by omega), if_neg (by omega), if_neg (by omega), if_neg (by omega), if_neg (by omega), if_neg (by omega), if_neg (by omega), if_neg (by omega)])
  · rcases (show kd = 0 ∨ kd = 1 ∨ kd = 2 ∨ kd = 3 ∨ kd = 4 ∨ kd = 5 ∨ kd = 6 ∨ kd = 7 ∨ kd = 8 by omega) with hj | hj | hj | hj | hj | hj | hj | hj | hj
    · refine w_tsInZ (pc' := 52) (pcT := 52) 0 ⟨rfl, rfl⟩ (by omega) (by decide) rfl rfl ?_
      refine w_lload_n (pc' := 53) ⟨rfl, rfl⟩ rfl ?_
      refine w_lc (pc' := 54) (z := 0) ⟨rfl, rfl⟩ rfl ?_
      refine w_lcmp (pc' := 55) ⟨rfl, rfl⟩ ?_
      refine w_ifc_eq (pc' := 58) (pcT := 62) ⟨rfl, rfl⟩ rfl (fun h1 => ?_) (fun h1 => ?_)
      · refine w_lc (pc' := 63) (z := 0) ⟨rfl, rfl⟩ rfl ?_
        refine w_lreturn (pc' := 64) ⟨rfl, rfl⟩ ?_
        first | (exfalso; omega) | (subst hj; exact k) | (subst hj; rw [show zoW x 0 = lZ 0 from (if_pos rfl).trans (if_pos (by assumption))] at k; exact k) | (subst hj; rw [show zoW x 0 = lZ 1 from (if_pos rfl).trans (if_neg (by assumption))] at k; exact k) | exact zql k (by unfold zoW zcast; rw [if_neg (by omega), if_neg (by omega), if_neg (by omega), if_neg (by omega), if_neg (by omega), if_neg (by omega), if_neg (by omega), if_neg (by omega)])
      · refine w_lc (pc' := 59) (z := 1) ⟨rfl, rfl⟩ rfl ?_
        refine w_goto (pc' := 62) (pcT := 63) ⟨rfl, rfl⟩ rfl ?_
        refine w_lreturn (pc' := 64) ⟨rfl, rfl⟩ ?_
        first | (exfalso; omega) | (subst hj; exact k) | (subst hj; rw [show zoW x 0 = lZ 0 from (if_pos rfl).trans (if_pos (by assumption))] at k; exact k) | (subst hj; rw [show zoW x 0 = lZ 1 from (if_pos rfl).trans (if_neg (by assumption))] at k; exact k) | exact zql k (by unfold zoW zcast; rw [if_neg (by omega), if_neg (by omega), if_neg (by omega), if_neg (by omega), if_neg (by omega), if_neg (by omega), if_neg (by omega), if_neg (by omega)])
    · refine w_tsInZ (pc' := 52) (pcT := 64) 1 ⟨rfl, rfl⟩ (by omega) (by decide) rfl rfl ?_
      refine w_lload_n (pc' := 65) ⟨rfl, rfl⟩ rfl ?_
      refine w_l2i (pc' := 66) ⟨rfl, rfl⟩ ?_
      refine w_i2b (pc' := 67) ⟨rfl, rfl⟩ ?_
      refine w_i2l (pc' := 68) ⟨rfl, rfl⟩ ?_
      refine w_lreturn (pc' := 69) ⟨rfl, rfl⟩ ?_
      first | (exfalso; omega) | (subst hj; exact k) | (subst hj; rw [show zoW x 0 = lZ 0 from (if_pos rfl).trans (if_pos (by assumption))] at k; exact k) | (subst hj; rw [show zoW x 0 = lZ 1 from (if_pos rfl).trans (if_neg (by assumption))] at k; exact k) | exact zql k (by unfold zoW zcast; rw [if_neg (by omega), if_neg (by omega), if_neg (by omega), if_neg (by omega), if_neg (by omega), if_neg (by omega), if_neg (by omega), if_neg (by omega)])
    · refine w_tsInZ (pc' := 52) (pcT := 69) 2 ⟨rfl, rfl⟩ (by omega) (by decide) rfl rfl ?_
      refine w_lload_n (pc' := 70) ⟨rfl, rfl⟩ rfl ?_
      refine w_l2i (pc' := 71) ⟨rfl, rfl⟩ ?_
      refine w_i2c (pc' := 72) ⟨rfl, rfl⟩ ?_
      refine w_i2l (pc' := 73) ⟨rfl, rfl⟩ ?_
      refine w_lreturn (pc' := 74) ⟨rfl, rfl⟩ ?_
      first | (exfalso; omega) | (subst hj; exact k) | (subst hj; rw [show zoW x 0 = lZ 0 from (if_pos rfl).trans (if_pos (by assumption))] at k; exact k) | (subst hj; rw [show zoW x 0 = lZ 1 from (if_pos rfl).trans (if_neg (by assumption))] at k; exact k) | exact zql k (by unfold zoW zcast; rw [if_neg (by omega), if_neg (by omega), if_neg (by omega), if_neg (by omega), if_neg (by omega), if_neg (by omega), if_neg (by omega), if_neg (by omega)])
    · refine w_tsInZ (pc' := 52) (pcT := 74) 3 ⟨rfl, rfl⟩ (by omega) (by decide) rfl rfl ?_
      refine w_lload_n (pc' := 75) ⟨rfl, rfl⟩ rfl ?_
      refine w_l2i (pc' := 76) ⟨rfl, rfl⟩ ?_
      refine w_i2s (pc' := 77) ⟨rfl, rfl⟩ ?_
      refine w_i2l (pc' := 78) ⟨rfl, rfl⟩ ?_
      refine w_lreturn (pc' := 79) ⟨rfl, rfl⟩ ?_
      first | (exfalso; omega) | (subst hj; exact k) | (subst hj; rw [show zoW x 0 = lZ 0 from (if_pos rfl).trans (if_pos (by assumption))] at k; exact k) | (subst hj; rw [show zoW x 0 = lZ 1 from (if_pos rfl).trans (if_neg (by assumption))] at k; exact k) | exact zql k (by unfold zoW zcast; rw [if_neg (by omega), if_neg (by omega), if_neg (by omega), if_neg (by omega), if_neg (by omega), if_neg (by omega), if_neg (by omega), if_neg (by omega)])
    · refine w_tsInZ (pc' := 52) (pcT := 79) 4 ⟨rfl, rfl⟩ (by omega) (by decide) rfl rfl ?_
      refine w_lload_n (pc' := 80) ⟨rfl, rfl⟩ rfl ?_
      refine w_l2i (pc' := 81) ⟨rfl, rfl⟩ ?_
      refine w_i2l (pc' := 82) ⟨rfl, rfl⟩ ?_
      refine w_lreturn (pc' := 83) ⟨rfl, rfl⟩ ?_
      first | (exfalso; omega) | (subst hj; exact k) | (subst hj; rw [show zoW x 0 = lZ 0 from (if_pos rfl).trans (if_pos (by assumption))] at k; exact k) | (subst hj; rw [show zoW x 0 = lZ 1 from (if_pos rfl).trans (if_neg (by assumption))] at k; exact k) | exact zql k (by unfold zoW zcast; rw [if_neg (by omega), if_neg (by omega), if_neg (by omega), if_neg (by omega), if_neg (by omega), if_neg (by omega), if_neg (by omega), if_neg (by omega)])
    · refine w_tsInZ (pc' := 52) (pcT := 105) 5 ⟨rfl, rfl⟩ (by omega) (by decide) rfl rfl ?_
      refine w_lload_n (pc' := 106) ⟨rfl, rfl⟩ rfl ?_
      refine w_lreturn (pc' := 107) ⟨rfl, rfl⟩ ?_
      first | (exfalso; omega) | (subst hj; exact k) | (subst hj; rw [show zoW x 0 = lZ 0 from (if_pos rfl).trans (if_pos (by assumption))] at k; exact k) | (subst hj; rw [show zoW x 0 = lZ 1 from (if_pos rfl).trans (if_neg (by assumption))] at k; exact k) | exact zql k (by unfold zoW zcast; rw [if_neg (by omega), if_neg (by omega), if_neg (by omega), if_neg (by omega), if_neg (by omega), if_neg (by omega), if_neg (by omega), if_neg (by omega)])
    · refine w_tsInZ (pc' := 52) (pcT := 83) 6 ⟨rfl, rfl⟩ (by omega) (by decide) rfl rfl ?_
      refine w_lload_n (pc' := 84) ⟨rfl, rfl⟩ rfl ?_
      refine w_l2f (pc' := 85) ⟨rfl, rfl⟩ ?_
      refine w_f2d (pc' := 86) ⟨rfl, rfl⟩ (zD_fin (zf2db (zl2f x)).f) ?_
      refine w_bi (pc' := 88) ⟨rfl, rfl⟩ (by decide) ?_
      refine w_cs2 (pc' := 91) ⟨rfl, rfl⟩ (by decide) (Nat.le_of_ble_eq_true rfl) (Nat.le_of_ble_eq_true rfl) (c_toBits6 (zl2f x).f ?_)
      refine w_lreturn (pc' := 92) ⟨rfl, rfl⟩ ?_
      first | (exfalso; omega) | (subst hj; exact k) | (subst hj; rw [show zoW x 0 = lZ 0 from (if_pos rfl).trans (if_pos (by assumption))] at k; exact k) | (subst hj; rw [show zoW x 0 = lZ 1 from (if_pos rfl).trans (if_neg (by assumption))] at k; exact k) | exact zql k (by unfold zoW zcast; rw [if_neg (by omega), if_neg (by omega), if_neg (by omega), if_neg (by omega), if_neg (by omega), if_neg (by omega), if_neg (by omega), if_neg (by omega)])
    · refine w_tsInZ (pc' := 52) (pcT := 92) 7 ⟨rfl, rfl⟩ (by omega) (by decide) rfl rfl ?_
      refine w_lload_n (pc' := 93) ⟨rfl, rfl⟩ rfl ?_
      refine w_l2d (pc' := 94) ⟨rfl, rfl⟩ ?_
      refine w_bi (pc' := 96) ⟨rfl, rfl⟩ (by decide) ?_
      refine w_cs2 (pc' := 99) ⟨rfl, rfl⟩ (by decide) (Nat.le_of_ble_eq_true rfl) (Nat.le_of_ble_eq_true rfl) (c_toBits7 (zl2d x).f ?_)
      refine w_lreturn (pc' := 100) ⟨rfl, rfl⟩ ?_
      first | (exfalso; omega) | (subst hj; exact k) | (subst hj; rw [show zoW x 0 = lZ 0 from (if_pos rfl).trans (if_pos (by assumption))] at k; exact k) | (subst hj; rw [show zoW x 0 = lZ 1 from (if_pos rfl).trans (if_neg (by assumption))] at k; exact k) | exact zql k (by unfold zoW zcast; rw [if_neg (by omega), if_neg (by omega), if_neg (by omega), if_neg (by omega), if_neg (by omega), if_neg (by omega), if_neg (by omega), if_neg (by omega)])
    · refine w_tsInZ (pc' := 52) (pcT := 100) 8 ⟨rfl, rfl⟩ (by omega) (by decide) rfl rfl ?_
      refine w_lload_n (pc' := 101) ⟨rfl, rfl⟩ rfl ?_
      refine w_topL (lZ_of x) ?_
      refine w_cs1 (pc' := 104) ⟨rfl, rfl⟩ (by decide) (Nat.le_of_ble_eq_true rfl) (Nat.le_of_ble_eq_true rfl) (c_digitsWord (iZ64 _) ?_)
      refine w_lreturn (pc' := 105) ⟨rfl, rfl⟩ ?_
      first | (exfalso; omega) | (subst hj; exact k) | (subst hj; rw [show zoW x 0 = lZ 0 from (if_pos rfl).trans (if_pos (by assumption))] at k; exact k) | (subst hj; rw [show zoW x 0 = lZ 1 from (if_pos rfl).trans (if_neg (by assumption))] at k; exact k) | exact zql k (by unfold zoW zcast; rw [if_neg (by omega), if_neg (by omega), if_neg (by omega), if_neg (by omega), if_neg (by omega), if_neg (by omega), if_neg (by omega), if_neg (by omega)])
theorem c_ofReal {σ : zSt} {d : UInt64} (hd : zdb d) {kd : Int} (hk : 0 ≤ kd ∧ kd ≤ 8) {Q : zSt → Option Value → Prop} (k : Q σ (some (.long (zoR d kd)))) : zCa 44 [.double d, .int (iZ kd)] σ Q := by
  refine w_enter (c := zk_X2_ofReal) (ls2 := [(0, .double d), (2, .int (iZ kd))]) rfl ⟨rfl, rfl, trivial⟩ ?_
  refine w_iload_n (pc' := 1) ⟨rfl, rfl⟩ rfl ?_
  rcases Classical.em (kd < 0 ∨ 8 < kd) with hs | hs
  · refine w_tsOutZ (pc' := 52) (pcT := 105) ⟨rfl, rfl⟩ rfl (by omega) ?_
    refine w_dload_n (pc' := 106) ⟨rfl, rfl⟩ rfl ?_
    refine w_d2l (pc' := 107) ⟨rfl, rfl⟩ ?_
    refine w_lreturn (pc' := 108) ⟨rfl, rfl⟩ ?_
    first | (exfalso; omega) | (subst hj; exact k) | (subst hj; rw [show zoR d 0 = lZ 0 from (if_pos rfl).trans (if_neg (fun q => q (by assumption)))] at k; exact k) | (subst hj; rw [show zoR d 0 = lZ 1 from (if_pos rfl).trans (if_pos (by assumption))] at k; exact k) | (subst hj; exact zql k (by unfold zoR zcast; simp [zi32l]))
  · rcases (show kd = 0 ∨ kd = 1 ∨ kd = 2 ∨ kd = 3 ∨ kd = 4 ∨ kd = 5 ∨ kd = 6 ∨ kd = 7 ∨ kd = 8 by omega) with hj | hj | hj | hj | hj | hj | hj | hj | hj
    · refine w_tsInZ (pc' := 52) (pcT := 52) 0 ⟨rfl, rfl⟩ (by omega) (by decide) rfl rfl ?_
      refine w_dload_n (pc' := 53) ⟨rfl, rfl⟩ rfl ?_
      refine w_dconst0 (pc' := 54) ⟨rfl, rfl⟩ ?_
      refine w_dcmp (pc' := 55) ⟨rfl, rfl⟩ ?_
      refine w_ifI_eq (pc' := 58) (pcT := 62) ⟨rfl, rfl⟩ rfl (fun h1 => ?_) (fun h1 => ?_)
      · refine w_lc (pc' := 63) (z := 0) ⟨rfl, rfl⟩ rfl ?_
        refine w_lreturn (pc' := 64) ⟨rfl, rfl⟩ ?_
        first | (exfalso; omega) | (subst hj; exact k) | (subst hj; rw [show zoR d 0 = lZ 0 from (if_pos rfl).trans (if_neg (fun q => q (by assumption)))] at k; exact k) | (subst hj; rw [show zoR d 0 = lZ 1 from (if_pos rfl).trans (if_pos (by assumption))] at k; exact k) | (subst hj; exact zql k (by unfold zoR zcast; simp [zi32l]))
      · refine w_lc (pc' := 59) (z := 1) ⟨rfl, rfl⟩ rfl ?_
        refine w_goto (pc' := 62) (pcT := 63) ⟨rfl, rfl⟩ rfl ?_
        refine w_lreturn (pc' := 64) ⟨rfl, rfl⟩ ?_
        first | (exfalso; omega) | (subst hj; exact k) | (subst hj; rw [show zoR d 0 = lZ 0 from (if_pos rfl).trans (if_neg (fun q => q (by assumption)))] at k; exact k) | (subst hj; rw [show zoR d 0 = lZ 1 from (if_pos rfl).trans (if_pos (by assumption))] at k; exact k) | (subst hj; exact zql k (by unfold zoR zcast; simp [zi32l]))
    · refine w_tsInZ (pc' := 52) (pcT := 64) 1 ⟨rfl, rfl⟩ (by omega) (by decide) rfl rfl ?_
      refine w_dload_n (pc' := 65) ⟨rfl, rfl⟩ rfl ?_
      refine w_d2i (pc' := 66) ⟨rfl, rfl⟩ ?_
      refine w_i2b (pc' := 67) ⟨rfl, rfl⟩ ?_
      refine w_i2l (pc' := 68) ⟨rfl, rfl⟩ ?_
      refine w_lreturn (pc' := 69) ⟨rfl, rfl⟩ ?_
      first | (exfalso; omega) | (subst hj; exact k) | (subst hj; rw [show zoR d 0 = lZ 0 from (if_pos rfl).trans (if_neg (fun q => q (by assumption)))] at k; exact k) | (subst hj; rw [show zoR d 0 = lZ 1 from (if_pos rfl).trans (if_pos (by assumption))] at k; exact k) | (subst hj; exact zql k (by unfold zoR zcast; simp [zi32l]))
    · refine w_tsInZ (pc' := 52) (pcT := 69) 2 ⟨rfl, rfl⟩ (by omega) (by decide) rfl rfl ?_
      refine w_dload_n (pc' := 70) ⟨rfl, rfl⟩ rfl ?_
      refine w_d2i (pc' := 71) ⟨rfl, rfl⟩ ?_
      refine w_i2c (pc' := 72) ⟨rfl, rfl⟩ ?_
      refine w_i2l (pc' := 73) ⟨rfl, rfl⟩ ?_
      refine w_lreturn (pc' := 74) ⟨rfl, rfl⟩ ?_
      first | (exfalso; omega) | (subst hj; exact k) | (subst hj; rw [show zoR d 0 = lZ 0 from (if_pos rfl).trans (if_neg (fun q => q (by assumption)))] at k; exact k) | (subst hj; rw [show zoR d 0 = lZ 1 from (if_pos rfl).trans (if_pos (by assumption))] at k; exact k) | (subst hj; exact zql k (by unfold zoR zcast; simp [zi32l]))
    · refine w_tsInZ (pc' := 52) (pcT := 74) 3 ⟨rfl, rfl⟩ (by omega) (by decide) rfl rfl ?_
      refine w_dload_n (pc' := 75) ⟨rfl, rfl⟩ rfl ?_
      refine w_d2i (pc' := 76) ⟨rfl, rfl⟩ ?_
      refine w_i2s (pc' := 77) ⟨rfl, rfl⟩ ?_
      refine w_i2l (pc' := 78) ⟨rfl, rfl⟩ ?_
      refine w_lreturn (pc' := 79) ⟨rfl, rfl⟩ ?_
      first | (exfalso; omega) | (subst hj; exact k) | (subst hj; rw [show zoR d 0 = lZ 0 from (if_pos rfl).trans (if_neg (fun q => q (by assumption)))] at k; exact k) | (subst hj; rw [show zoR d 0 = lZ 1 from (if_pos rfl).trans (if_pos (by assumption))] at k; exact k) | (subst hj; exact zql k (by unfold zoR zcast; simp [zi32l]))
    · refine w_tsInZ (pc' := 52) (pcT := 79) 4 ⟨rfl, rfl⟩ (by omega) (by decide) rfl rfl ?_
      refine w_dload_n (pc' := 80) ⟨rfl, rfl⟩ rfl ?_
      refine w_d2i (pc' := 81) ⟨rfl, rfl⟩ ?_
      refine w_i2l (pc' := 82) ⟨rfl, rfl⟩ ?_
      refine w_lreturn (pc' := 83) ⟨rfl, rfl⟩ ?_
      first | (exfalso; omega) | (subst hj; exact k) | (subst hj; rw [show zoR d 0 = lZ 0 from (if_pos rfl).trans (if_neg (fun q => q (by assumption)))] at k; exact k) | (subst hj; rw [show zoR d 0 = lZ 1 from (if_pos rfl).trans (if_pos (by assumption))] at k; exact k) | (subst hj; exact zql k (by unfold zoR zcast; simp [zi32l]))
    · refine w_tsInZ (pc' := 52) (pcT := 105) 5 ⟨rfl, rfl⟩ (by omega) (by decide) rfl rfl ?_
      refine w_dload_n (pc' := 106) ⟨rfl, rfl⟩ rfl ?_
      refine w_d2l (pc' := 107) ⟨rfl, rfl⟩ ?_
      refine w_lreturn (pc' := 108) ⟨rfl, rfl⟩ ?_
      first | (exfalso; omega) | (subst hj; exact k) | (subst hj; rw [show zoR d 0 = lZ 0 from (if_pos rfl).trans (if_neg (fun q => q (by assumption)))] at k; exact k) | (subst hj; rw [show zoR d 0 = lZ 1 from (if_pos rfl).trans (if_pos (by assumption))] at k; exact k) | (subst hj; exact zql k (by unfold zoR zcast; simp [zi32l]))
    · refine w_tsInZ (pc' := 52) (pcT := 83) 6 ⟨rfl, rfl⟩ (by omega) (by decide) rfl rfl ?_
      refine w_dload_n (pc' := 84) ⟨rfl, rfl⟩ rfl ?_
      refine w_d2f (pc' := 85) ⟨rfl, rfl⟩ (zF_fin (zd2f hd).f) ?_
      refine w_f2d (pc' := 86) ⟨rfl, rfl⟩ (zD_fin (zf2db (zd2f hd)).f) ?_
      refine w_bi (pc' := 88) ⟨rfl, rfl⟩ (by decide) ?_
      refine w_cs2 (pc' := 91) ⟨rfl, rfl⟩ (by decide) (Nat.le_of_ble_eq_true rfl) (Nat.le_of_ble_eq_true rfl) (c_toBits6 (zd2f hd).f ?_)
      refine w_lreturn (pc' := 92) ⟨rfl, rfl⟩ ?_
      first | (exfalso; omega) | (subst hj; exact k) | (subst hj; rw [show zoR d 0 = lZ 0 from (if_pos rfl).trans (if_neg (fun q => q (by assumption)))] at k; exact k) | (subst hj; rw [show zoR d 0 = lZ 1 from (if_pos rfl).trans (if_pos (by assumption))] at k; exact k) | (subst hj; exact zql k (by unfold zoR zcast; simp [zi32l]))
    · refine w_tsInZ (pc' := 52) (pcT := 92) 7 ⟨rfl, rfl⟩ (by omega) (by decide) rfl rfl ?_
      refine w_dload_n (pc' := 93) ⟨rfl, rfl⟩ rfl ?_
      refine w_bi (pc' := 95) ⟨rfl, rfl⟩ (by decide) ?_
      refine w_cs2 (pc' := 98) ⟨rfl, rfl⟩ (by decide) (Nat.le_of_ble_eq_true rfl) (Nat.le_of_ble_eq_true rfl) (c_toBits7 hd.f ?_)
      refine w_lreturn (pc' := 99) ⟨rfl, rfl⟩ ?_
      first | (exfalso; omega) | (subst hj; exact k) | (subst hj; rw [show zoR d 0 = lZ 0 from (if_pos rfl).trans (if_neg (fun q => q (by assumption)))] at k; exact k) | (subst hj; rw [show zoR d 0 = lZ 1 from (if_pos rfl).trans (if_pos (by assumption))] at k; exact k) | (subst hj; exact zql k (by unfold zoR zcast; simp [zi32l]))
    · refine w_tsInZ (pc' := 52) (pcT := 99) 8 ⟨rfl, rfl⟩ (by omega) (by decide) rfl rfl ?_
      refine w_dload_n (pc' := 100) ⟨rfl, rfl⟩ rfl ?_
      refine w_d2l (pc' := 101) ⟨rfl, rfl⟩ ?_
      refine w_topL (lZ_of (FP.d2l d)) ?_
      refine w_cs1 (pc' := 104) ⟨rfl, rfl⟩ (by decide) (Nat.le_of_ble_eq_true rfl) (Nat.le_of_ble_eq_true rfl) (c_digitsWord (iZ64 _) ?_)
      refine w_lreturn (pc' := 105) ⟨rfl, rfl⟩ ?_
      first | (exfalso; omega) | (subst hj; exact k) | (subst hj; rw [show zoR d 0 = lZ 0 from (if_pos rfl).trans (if_neg (fun q => q (by assumption)))] at k; exact k) | (subst hj; rw [show zoR d 0 = lZ 1 from (if_pos rfl).trans (if_pos (by assumption))] at k; exact k) | (subst hj; exact zql k (by unfold zoR zcast; simp [zi32l]))
/-- a value that a cell of a kind can have -/
def zok (k : Int) (v : Int64) : Prop := (k = 0 → v = lZ 0 ∨ v = lZ 1) ∧ (k = 6 → ∃ y, zfb y ∧ v = zfl y) ∧ (k = 7 → ∃ d, zdb d ∧ v = zdl d) ∧ (k = 8 → ∃ n a, n ≤ 8 ∧ zwf n a ∧ v = lZ a)
def zrl (v : Int64) (k : Int) : UInt64 := if k = 6 then FP.f2d v.toInt32.toUInt32 else if k = 7 then v.toUInt64 else FP.l2d v
theorem zrl6 (y : UInt32) : zrl (zfl y) 6 = FP.f2d y := by
  show FP.f2d (zfl y).toInt32.toUInt32 = _
  unfold zfl; rw [zi32l]; rfl
theorem zrl7 (d : UInt64) : zrl (zdl d) 7 = d := rfl
theorem zrl_b {v : Int64} {k : Int} (h : zok k v) : zdb (zrl v k) := by
  by_cases h6 : k = 6
  · subst h6; obtain ⟨y, hy, rfl⟩ := h.2.1 rfl; rw [zrl6]; exact zf2db hy
  · by_cases h7 : k = 7
    · subst h7; obtain ⟨d, hd, rfl⟩ := h.2.2.1 rfl; rw [zrl7]; exact hd
    · unfold zrl; rw [if_neg h6, if_neg h7]; exact zl2d v
theorem zwf_lt : ∀ {n : Nat} {a : Int}, zwf n a → a < ((2 ^ (5 * n) : Nat) : Int)
  | 0, a, h => by rw [show a = 0 from h]; decide
  | n + 1, a, h => by
    have := zwf_lt h.2
    have e : ((2 ^ (5 * (n + 1)) : Nat) : Int) = 32 * ((2 ^ (5 * n) : Nat) : Int) := by rw [show 5 * (n + 1) = 5 + 5 * n by omega, Nat.pow_add]; norm_cast
    omega
theorem zwf_rng {n : Nat} {a : Int} (h : zwf n a) (hn : n ≤ 8) : 0 ≤ a ∧ a ≤ 1099511627775 := by
  have h1 := zwf_lt h
  have h2 := zwf_pos h
  have h3 : (2 : Nat) ^ (5 * n) ≤ 2 ^ 40 := zpw_le.mpr (by omega)
  omega
theorem c_fromB {σ : zSt} {v : Int64} {k : Int} (hk : k = 6 ∨ k = 7) (hv : zok k v) {Q : zSt → Option Value → Prop} (kk : Q σ (some (.double (zrl v k)))) : zCa 63 [.long v, .int (iZ k)] σ Q := by
  rcases hk with rfl | rfl
  · obtain ⟨y, hy, rfl⟩ := hv.2.1 rfl
    rw [zrl6] at kk
    exact c_fB6 hy.f kk
  · obtain ⟨d, hd, rfl⟩ := hv.2.2.1 rfl
    rw [zrl7] at kk
    exact c_fB7 hd.f kk
theorem c_realOf {σ : zSt} {v : Int64} {kd : Int} (hk : 0 ≤ kd ∧ kd ≤ 8) (hv : zok kd v) {Q : zSt → Option Value → Prop} (k : Q σ (some (.double (zrl v kd)))) : zCa 40 [.int (iZ kd), .long v] σ Q := by
  refine w_enter (c := zk_X2_realOf) (ls2 := [(0, .int (iZ kd)), (1, .long v)]) rfl ⟨rfl, rfl, trivial⟩ ?_
  refine w_iload_n (pc' := 1) ⟨rfl, rfl⟩ rfl ?_
  refine w_cs1 (pc' := 4) ⟨rfl, rfl⟩ (by decide) (Nat.le_of_ble_eq_true rfl) (Nat.le_of_ble_eq_true rfl) (c_isReal (by omega) (fun h => ?_) (fun h => ?_))
  · refine w_ifF_eq (pc' := 7) ⟨rfl, rfl⟩ (by decide) ?_
    refine w_lload_n (pc' := 8) ⟨rfl, rfl⟩ rfl ?_
    refine w_iload_n (pc' := 9) ⟨rfl, rfl⟩ rfl ?_
    refine w_cs2 (pc' := 12) ⟨rfl, rfl⟩ (by decide) (Nat.le_of_ble_eq_true rfl) (Nat.le_of_ble_eq_true rfl) (c_fromB (by omega) (by assumption) ?_)
    refine w_goto (pc' := 15) (pcT := 17) ⟨rfl, rfl⟩ rfl ?_
    refine w_dreturn (pc' := 18) ⟨rfl, rfl⟩ ?_
    first | exact k | (rw [show zrl v kd = FP.l2d v by unfold zrl; rw [if_neg (by omega), if_neg (by omega)]] at k; exact k)
  · refine w_ifT_eq (pc' := 7) (pcT := 15) ⟨rfl, rfl⟩ rfl (by decide) ?_
    refine w_lload_n (pc' := 16) ⟨rfl, rfl⟩ rfl ?_
    refine w_l2d (pc' := 17) ⟨rfl, rfl⟩ ?_
    refine w_dreturn (pc' := 18) ⟨rfl, rfl⟩ ?_
    first | exact k | (rw [show zrl v kd = FP.l2d v by unfold zrl; rw [if_neg (by omega), if_neg (by omega)]] at k; exact k)
theorem r_real {σ : zSt} {v : Int64} {kd : Int} (hk : 0 ≤ kd ∧ kd ≤ 8) (hv : zok kd v) {Q : zSt → Option Value → Prop} (k : Q σ (some (.double (zrl v kd)))) : zCa 233 [.long v, .int (iZ kd)] σ Q := by
  refine w_enter (c := zk_X12_real) (ls2 := [(0, .long v), (2, .int (iZ kd))]) rfl ⟨rfl, rfl, trivial⟩ ?_
  refine w_iload_n (pc' := 1) ⟨rfl, rfl⟩ rfl ?_
  refine w_bi (pc' := 3) ⟨rfl, rfl⟩ (by decide) ?_
  refine w_ic_ne (pc' := 6) (pcT := 15) ⟨rfl, rfl⟩ rfl (by omega) (by omega) (fun h1 => ?_) (fun h1 => ?_)
  · refine w_iload_n (pc' := 16) ⟨rfl, rfl⟩ rfl ?_
    refine w_bi (pc' := 18) ⟨rfl, rfl⟩ (by decide) ?_
    refine w_ic_ne (pc' := 21) (pcT := 28) ⟨rfl, rfl⟩ rfl (by omega) (by omega) (fun h2 => ?_) (fun h2 => ?_)
    · refine w_lload_n (pc' := 29) ⟨rfl, rfl⟩ rfl ?_
      refine w_l2d (pc' := 30) ⟨rfl, rfl⟩ ?_
      refine w_dreturn (pc' := 31) ⟨rfl, rfl⟩ ?_
      first | exact k | (rw [show zrl v kd = FP.l2d v by unfold zrl; rw [if_neg (by omega), if_neg (by omega)]] at k; exact k)
    · refine w_lload_n (pc' := 22) ⟨rfl, rfl⟩ rfl ?_
      have h7 : kd = 7 := by omega
      subst h7
      obtain ⟨d, hd, rfl⟩ := hv.2.2.1 rfl
      rw [zrl7] at k
      refine w_natG (pc' := 25) (a := [.long d.toInt64]) (v1 := some (.double d)) ⟨rfl, rfl⟩ rfl rfl (Nat.le_of_ble_eq_true rfl) (by decide) (by simp only [znat, zsn64 hd.f, if_true]; rfl) ?_
      refine w_goto (pc' := 28) (pcT := 30) ⟨rfl, rfl⟩ rfl ?_
      refine w_dreturn (pc' := 31) ⟨rfl, rfl⟩ ?_
      first | exact k | (rw [show zrl v kd = FP.l2d v by unfold zrl; rw [if_neg (by omega), if_neg (by omega)]] at k; exact k)
  · refine w_lload_n (pc' := 7) ⟨rfl, rfl⟩ rfl ?_
    refine w_l2i (pc' := 8) ⟨rfl, rfl⟩ ?_
    have h6 : kd = 6 := by omega
    subst h6
    obtain ⟨y, hy, rfl⟩ := hv.2.1 rfl
    rw [zrl6] at k
    refine w_topI (zi32l _) ?_
    refine w_natG (pc' := 11) (a := [.int y.toInt32]) (v1 := some (.float y)) ⟨rfl, rfl⟩ rfl rfl (Nat.le_of_ble_eq_true rfl) (by decide) (by simp only [znat, zsn32 hy.f, if_true]; rfl) ?_
    refine w_f2d (pc' := 12) ⟨rfl, rfl⟩ (zD_fin (zf2db hy).f) ?_
    refine w_goto (pc' := 15) (pcT := 30) ⟨rfl, rfl⟩ rfl ?_
    refine w_dreturn (pc' := 31) ⟨rfl, rfl⟩ ?_
    first | exact k | (rw [show zrl v kd = FP.l2d v by unfold zrl; rw [if_neg (by omega), if_neg (by omega)]] at k; exact k)
