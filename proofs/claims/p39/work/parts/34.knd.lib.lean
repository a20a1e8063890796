/-! of whole, what this claim takes: 34.knd.lean.txt -/
def zfl (y : UInt32) : Int64 := y.toInt32.toInt64
def zdl (d : UInt64) : Int64 := d.toInt64
def zcast (x : Int64) (k : Int) : Int64 := if k = 1 then x.toInt32.toInt8.toInt32.toInt64 else if k = 2 then (x.toInt32.toUInt32 % 65536).toInt32.toInt64 else if k = 3 then x.toInt32.toInt16.toInt32.toInt64 else if k = 4 then x.toInt32.toInt64 else if k = 6 then zfl (FP.l2f x) else if k = 7 then zdl (FP.l2d x) else x
def zoW (x : Int64) (k : Int) : Int64 := if k = 0 then (if x = lZ 0 then lZ 0 else lZ 1) else if k = 8 then lZ (zspell x.toInt) else zcast x k
def ztold (x : Int64) (k : Int) : Int64 := if k = 0 then (if x = lZ 0 then lZ 0 else lZ 1) else if k = 6 then zfl (FP.fdiv (FP.l2f x) 1098907648) else if k = 7 then zdl (FP.ddiv (FP.l2d x) 4625196817309499392) else if k = 8 then lZ (zwo x.toInt 8 0) else zcast x k
abbrev znz (d : UInt64) : Prop := ¬ Op.cmpValue (FP.dcmp d 0) .l = 0
def zoR (d : UInt64) (k : Int) : Int64 := if k = 0 then (if znz d then lZ 1 else lZ 0) else if k = 8 then lZ (zspell (FP.d2l d).toInt) else if k = 5 then FP.d2l d else if k = 6 then zfl (FP.d2f d) else if k = 7 then zdl d else zcast (FP.d2i d).toInt64 k
theorem zi32l (x : Int32) : x.toInt64.toInt32 = x := by simp
theorem zql {Q : zSt → Option Value → Prop} {σ : zSt} {a b : Int64} (h : Q σ (some (.long a))) (e : b = a) : Q σ (some (.long b)) := e ▸ h
theorem iZ64 (x : Int64) : -9223372036854775808 ≤ x.toInt ∧ x.toInt ≤ 9223372036854775807 := ⟨x.le_toInt, by have := x.toInt_lt; omega⟩
theorem c_ofWhole {σ : zSt} {x : Int64} {kd : Int} (hk : 0 ≤ kd ∧ kd ≤ 10) {Q : zSt → Option Value → Prop} (k : Q σ (some (.long (zoW x kd)))) : zCa 35 [.long x, .int (iZ kd)] σ Q := by
  refine w_enter (c := zk_X2_ofWhole) (ls2 := [(0, .long x), (2, .int (iZ kd))]) rfl ⟨rfl, rfl, trivial⟩ ?_
  refine w_iload_n (pc' := 1) ⟨rfl, rfl⟩ rfl ?_
  rcases Classical.em (kd < 0 ∨ 8 < kd) with hs | hs
  · refine w_tsOutZ (pc' := 52) (pcT := 105) ⟨rfl, rfl⟩ rfl (by omega) ?_
    refine w_lload_n (pc' := 106) ⟨rfl, rfl⟩ rfl ?_
    refine w_lreturn (pc' := 107) ⟨rfl, rfl⟩ ?_
    first | (exfalso; omega) | (subst hj; exact k) | (subst hj; rw [show zoW x 0 = lZ 0 from (if_pos rfl).trans (if_pos (by assumption))] at k; exact k) | (subst hj; rw [show zoW x 0 = lZ 1 from (if_pos rfl).trans (if_neg (by assumption))] at k; exact k) | exact zql k (by unfold zoW zcast; rw [if_neg (by omega), if_neg (by omega), if_neg (by omega), if_neg (by omega), if_neg (by omega), if_neg (by omega), if_neg (by omega), if_neg (by omega)])
  · rcases (show kd = 0 ∨ kd = 1 ∨ kd = 2 ∨ kd = 3 ∨ kd = 4 ∨ kd = 5 ∨ kd = 6 ∨ kd = 7 ∨ kd = 8 by omega) with hj | hj | hj | hj | hj | hj | hj | hj | hj
    · refine w_tsInZ (pc' := 52) (pcT := 52) 0 ⟨rfl, rfl⟩ (by omega) (by decide) rfl rfl ?_
      refine w_lload_n (pc' := 53) ⟨rfl, rfl⟩ rfl ?_
      refine w_lc (pc' := 54) (z := 0) ⟨rfl, rfl⟩ rfl ?_
      refine w_lcmp (pc' := 55) ⟨rfl, rfl⟩ ?_
      refine w_ifc_eq (pc' := 58) (pcT := 62) ⟨rfl, rfl⟩ rfl (fun h1 => ?_) (fun h1 => ?_)
      · refine w_lc (pc' := 63) (z := 0) ⟨rfl, rfl⟩ rfl ?_
        refine w_lreturn (pc' := 64) ⟨rfl, rfl⟩ ?_
        first | (exfalso; omega) | (subst hj; exact k) | (subst hj; rw [show zoW x 0 = lZ 0 from (if_pos rfl).trans (if_pos (by assumption))] at k; exact k) | (subst hj; rw [show zoW x 0 = lZ 1 from (if_pos rfl).trans (if_neg (by assumption))] at k; exact k) | exact zql k (by unfold zoW zcast; rw [if_neg (by omega), if_neg (by omega), if_neg (by omega), if_neg (by omega), if_neg (by omega), if_neg (by omega), if_neg (by omega), if_neg (by omega)])
      · refine w_lc (pc' := 59) (z := 1) ⟨rfl, rfl⟩ rfl ?_
        refine w_goto (pc' := 62) (pcT := 63) ⟨rfl, rfl⟩ rfl ?_
        refine w_lreturn (pc' := 64) ⟨rfl, rfl⟩ ?_
        first | (exfalso; omega) | (subst hj; exact k) | (subst hj; rw [show zoW x 0 = lZ 0 from (if_pos rfl).trans (if_pos (by assumption))] at k; exact k) | (subst hj; rw [show zoW x 0 = lZ 1 from (if_pos rfl).trans (if_neg (by assumption))] at k; exact k) | exact zql k (by unfold zoW zcast; rw [if_neg (by omega), if_neg (by omega), if_neg (by omega), if_neg (by omega), if_neg (by omega), if_neg (by omega), if_neg (by omega), if_neg (by omega)])
    · refine w_tsInZ (pc' := 52) (pcT := 64) 1 ⟨rfl, rfl⟩ (by omega) (by decide) rfl rfl ?_
      refine w_lload_n (pc' := 65) ⟨rfl, rfl⟩ rfl ?_
      refine w_l2i (pc' := 66) ⟨rfl, rfl⟩ ?_
      refine w_i2b (pc' := 67) ⟨rfl, rfl⟩ ?_
      refine w_i2l (pc' := 68) ⟨rfl, rfl⟩ ?_
      refine w_lreturn (pc' := 69) ⟨rfl, rfl⟩ ?_
      first | (exfalso; omega) | (subst hj; exact k) | (subst hj; rw [show zoW x 0 = lZ 0 from (if_pos rfl).trans (if_pos (by assumption))] at k; exact k) | (subst hj; rw [show zoW x 0 = lZ 1 from (if_pos rfl).trans (if_neg (by assumption))] at k; exact k) | exact zql k (by unfold zoW zcast; rw [if_neg (by omega), if_neg (by omega), if_neg (by omega), if_neg (by omega), if_neg (by omega), if_neg (by omega), if_neg (by omega), if_neg (by omega)])
    · refine w_tsInZ (pc' := 52) (pcT := 69) 2 ⟨rfl, rfl⟩ (by omega) (by decide) rfl rfl ?_
      refine w_lload_n (pc' := 70) ⟨rfl, rfl⟩ rfl ?_
      refine w_l2i (pc' := 71) ⟨rfl, rfl⟩ ?_
      refine w_i2c (pc' := 72) ⟨rfl, rfl⟩ ?_
      refine w_i2l (pc' := 73) ⟨rfl, rfl⟩ ?_
      refine w_lreturn (pc' := 74) ⟨rfl, rfl⟩ ?_
      first | (exfalso; omega) | (subst hj; exact k) | (subst hj; rw [show zoW x 0 = lZ 0 from (if_pos rfl).trans (if_pos (by assumption))] at k; exact k) | (subst hj; rw [show zoW x 0 = lZ 1 from (if_pos rfl).trans (if_neg (by assumption))] at k; exact k) | exact zql k (by unfold zoW zcast; rw [if_neg (by omega), if_neg (by omega), if_neg (by omega), if_neg (by omega), if_neg (by omega), if_neg (by omega), if_neg (by omega), if_neg (by omega)])
    · refine w_tsInZ (pc' := 52) (pcT := 74) 3 ⟨rfl, rfl⟩ (by omega) (by decide) rfl rfl ?_
      refine w_lload_n (pc' := 75) ⟨rfl, rfl⟩ rfl ?_
      refine w_l2i (pc' := 76) ⟨rfl, rfl⟩ ?_
      refine w_i2s (pc' := 77) ⟨rfl, rfl⟩ ?_
      refine w_i2l (pc' := 78) ⟨rfl, rfl⟩ ?_
      refine w_lreturn (pc' := 79) ⟨rfl, rfl⟩ ?_
      first | (exfalso; omega) | (subst hj; exact k) | (subst hj; rw [show zoW x 0 = lZ 0 from (if_pos rfl).trans (if_pos (by assumption))] at k; exact k) | (subst hj; rw [show zoW x 0 = lZ 1 from (if_pos rfl).trans (if_neg (by assumption))] at k; exact k) | exact zql k (by unfold zoW zcast; rw [if_neg (by omega), if_neg (by omega), if_neg (by omega), if_neg (by omega), if_neg (by omega), if_neg (by omega), if_neg (by omega), if_neg (by omega)])
    · refine w_tsInZ (pc' := 52) (pcT := 79) 4 ⟨rfl, rfl⟩ (by omega) (by decide) rfl rfl ?_
      refine w_lload_n (pc' := 80) ⟨rfl, rfl⟩ rfl ?_
      refine w_l2i (pc' := 81) ⟨rfl, rfl⟩ ?_
      refine w_i2l (pc' := 82) ⟨rfl, rfl⟩ ?_
      refine w_lreturn (pc' := 83) ⟨rfl, rfl⟩ ?_
      first | (exfalso; omega) | (subst hj; exact k) | (subst hj; rw [show zoW x 0 = lZ 0 from (if_pos rfl).trans (if_pos (by assumption))] at k; exact k) | (subst hj; rw [show zoW x 0 = lZ 1 from (if_pos rfl).trans (if_neg (by assumption))] at k; exact k) | exact zql k (by unfold zoW zcast; rw [if_neg (by omega), if_neg (by omega), if_neg (by omega), if_neg (by omega), if_neg (by omega), if_neg (by omega), if_neg (by omega), if_neg (by omega)])
    · refine w_tsInZ (pc' := 52) (pcT := 105) 5 ⟨rfl, rfl⟩ (by omega) (by decide) rfl rfl ?_
      refine w_lload_n (pc' := 106) ⟨rfl, rfl⟩ rfl ?_
      refine w_lreturn (pc' := 107) ⟨rfl, rfl⟩ ?_
      first | (exfalso; omega) | (subst hj; exact k) | (subst hj; rw [show zoW x 0 = lZ 0 from (if_pos rfl).trans (if_pos (by assumption))] at k; exact k) | (subst hj; rw [show zoW x 0 = lZ 1 from (if_pos rfl).trans (if_neg (by assumption))] at k; exact k) | exact zql k (by unfold zoW zcast; rw [if_neg (by omega), if_neg (by omega), if_neg (by omega), if_neg (by omega), if_neg (by omega), if_neg (by omega), if_neg (by omega), if_neg (by omega)])
    · refine w_tsInZ (pc' := 52) (pcT := 83) 6 ⟨rfl, rfl⟩ (by omega) (by decide) rfl rfl ?_
      refine w_lload_n (pc' := 84) ⟨rfl, rfl⟩ rfl ?_
      refine w_l2f (pc' := 85) ⟨rfl, rfl⟩ ?_
      refine w_f2d (pc' := 86) ⟨rfl, rfl⟩ (zD_fin (zf2db (zl2f x)).f) ?_
      refine w_bi (pc' := 88) ⟨rfl, rfl⟩ (by decide) ?_
      refine w_cs2 (pc' := 91) ⟨rfl, rfl⟩ (by decide) (Nat.le_of_ble_eq_true rfl) (Nat.le_of_ble_eq_true rfl) (c_toBits6 (zl2f x).f ?_)
      refine w_lreturn (pc' := 92) ⟨rfl, rfl⟩ ?_
      first | (exfalso; omega) | (subst hj; exact k) | (subst hj; rw [show zoW x 0 = lZ 0 from (if_pos rfl).trans (if_pos (by assumption))] at k; exact k) | (subst hj; rw [show zoW x 0 = lZ 1 from (if_pos rfl).trans (if_neg (by assumption))] at k; exact k) | exact zql k (by unfold zoW zcast; rw [if_neg (by omega), if_neg (by omega), if_neg (by omega), if_neg (by omega), if_neg (by omega), if_neg (by omega), if_neg (by omega), if_neg (by omega)])
    · refine w_tsInZ (pc' := 52) (pcT := 92) 7 ⟨rfl, rfl⟩ (by omega) (by decide) rfl rfl ?_
      refine w_lload_n (pc' := 93) ⟨rfl, rfl⟩ rfl ?_
      refine w_l2d (pc' := 94) ⟨rfl, rfl⟩ ?_
      refine w_bi (pc' := 96) ⟨rfl, rfl⟩ (by decide) ?_
      refine w_cs2 (pc' := 99) ⟨rfl, rfl⟩ (by decide) (Nat.le_of_ble_eq_true rfl) (Nat.le_of_ble_eq_true rfl) (c_toBits7 (zl2d x).f ?_)
      refine w_lreturn (pc' := 100) ⟨rfl, rfl⟩ ?_
      first | (exfalso; omega) | (subst hj; exact k) | (subst hj; rw [show zoW x 0 = lZ 0 from (if_pos rfl).trans (if_pos (by assumption))] at k; exact k) | (subst hj; rw [show zoW x 0 = lZ 1 from (if_pos rfl).trans (if_neg (by assumption))] at k; exact k) | exact zql k (by unfold zoW zcast; rw [if_neg (by omega), if_neg (by omega), if_neg (by omega), if_neg (by omega), if_neg (by omega), if_neg (by omega), if_neg (by omega), if_neg (by omega)])
    · refine w_tsInZ (pc' := 52) (pcT := 100) 8 ⟨rfl, rfl⟩ (by omega) (by decide) rfl rfl ?_
      refine w_lload_n (pc' := 101) ⟨rfl, rfl⟩ rfl ?_
      refine w_topL (lZ_of x) ?_
      refine w_cs1 (pc' := 104) ⟨rfl, rfl⟩ (by decide) (Nat.le_of_ble_eq_true rfl) (Nat.le_of_ble_eq_true rfl) (c_digitsWord (iZ64 _) ?_)
      refine w_lreturn (pc' := 105) ⟨rfl, rfl⟩ ?_
      first | (exfalso; omega) | (subst hj; exact k) | (subst hj; rw [show zoW x 0 = lZ 0 from (if_pos rfl).trans (if_pos (by assumption))] at k; exact k) | (subst hj; rw [show zoW x 0 = lZ 1 from (if_pos rfl).trans (if_neg (by assumption))] at k; exact k) | exact zql k (by unfold zoW zcast; rw [if_neg (by omega), if_neg (by omega), if_neg (by omega), if_neg (by omega), if_neg (by omega), if_neg (by omega), if_neg (by omega), if_neg (by omega)])
theorem c_ofReal {σ : zSt} {d : UInt64} (hd : zdb d) {kd : Int} (hk : 0 ≤ kd ∧ kd ≤ 8) {Q : zSt → Option Value → Prop} (k : Q σ (some (.long (zoR d kd)))) : zCa 36 [.double d, .int (iZ kd)] σ Q := by
  refine w_enter (c := zk_X2_ofReal) (ls2 := [(0, .double d), (2, .int (iZ kd))]) rfl ⟨rfl, rfl, trivial⟩ ?_
  refine w_iload_n (pc' := 1) ⟨rfl, rfl⟩ rfl ?_
  rcases Classical.em (kd < 0 ∨ 8 < kd) with hs | hs
  · refine w_tsOutZ (pc' := 52) (pcT := 105) ⟨rfl, rfl⟩ rfl (by omega) ?_
    refine w_dload_n (pc' := 106) ⟨rfl, rfl⟩ rfl ?_
    refine w_d2l (pc' := 107) ⟨rfl, rfl⟩ ?_
    refine w_lreturn (pc' := 108) ⟨rfl, rfl⟩ ?_
    first | (exfalso; omega) | (subst hj; exact k) | (subst hj; rw [show zoR d 0 = lZ 0 from (if_pos rfl).trans (if_neg (fun q => q (by assumption)))] at k; exact k) | (subst hj; rw [show zoR d 0 = lZ 1 from (if_pos rfl).trans (if_pos (by assumption))] at k; exact k) | (subst hj; exact zql k (by unfold zoR zcast; simp [zi32l]))
  · rcases (show kd = 0 ∨ kd = 1 ∨ kd = 2 ∨ kd = 3 ∨ kd = 4 ∨ kd = 5 ∨ kd = 6 ∨ kd = 7 ∨ kd = 8 by omega) with hj | hj | hj | hj | hj | hj | hj | hj | hj
    · refine w_tsInZ (pc' := 52) (pcT := 52) 0 ⟨rfl, rfl⟩ (by omega) (by decide) rfl rfl ?_
      refine w_dload_n (pc' := 53) ⟨rfl, rfl⟩ rfl ?_
      refine w_dconst0 (pc' := 54) ⟨rfl, rfl⟩ ?_
      refine w_dcmp (pc' := 55) ⟨rfl, rfl⟩ ?_
      refine w_ifI_eq (pc' := 58) (pcT := 62) ⟨rfl, rfl⟩ rfl (fun h1 => ?_) (fun h1 => ?_)
      · refine w_lc (pc' := 63) (z := 0) ⟨rfl, rfl⟩ rfl ?_
        refine w_lreturn (pc' := 64) ⟨rfl, rfl⟩ ?_
        first | (exfalso; omega) | (subst hj; exact k) | (subst hj; rw [show zoR d 0 = lZ 0 from (if_pos rfl).trans (if_neg (fun q => q (by assumption)))] at k; exact k) | (subst hj; rw [show zoR d 0 = lZ 1 from (if_pos rfl).trans (if_pos (by assumption))] at k; exact k) | (subst hj; exact zql k (by unfold zoR zcast; simp [zi32l]))
      · refine w_lc (pc' := 59) (z := 1) ⟨rfl, rfl⟩ rfl ?_
        refine w_goto (pc' := 62) (pcT := 63) ⟨rfl, rfl⟩ rfl ?_
        refine w_lreturn (pc' := 64) ⟨rfl, rfl⟩ ?_
        first | (exfalso; omega) | (subst hj; exact k) | (subst hj; rw [show zoR d 0 = lZ 0 from (if_pos rfl).trans (if_neg (fun q => q (by assumption)))] at k; exact k) | (subst hj; rw [show zoR d 0 = lZ 1 from (if_pos rfl).trans (if_pos (by assumption))] at k; exact k) | (subst hj; exact zql k (by unfold zoR zcast; simp [zi32l]))
    · refine w_tsInZ (pc' := 52) (pcT := 64) 1 ⟨rfl, rfl⟩ (by omega) (by decide) rfl rfl ?_
      refine w_dload_n (pc' := 65) ⟨rfl, rfl⟩ rfl ?_
      refine w_d2i (pc' := 66) ⟨rfl, rfl⟩ ?_
      refine w_i2b (pc' := 67) ⟨rfl, rfl⟩ ?_
      refine w_i2l (pc' := 68) ⟨rfl, rfl⟩ ?_
      refine w_lreturn (pc' := 69) ⟨rfl, rfl⟩ ?_
      first | (exfalso; omega) | (subst hj; exact k) | (subst hj; rw [show zoR d 0 = lZ 0 from (if_pos rfl).trans (if_neg (fun q => q (by assumption)))] at k; exact k) | (subst hj; rw [show zoR d 0 = lZ 1 from (if_pos rfl).trans (if_pos (by assumption))] at k; exact k) | (subst hj; exact zql k (by unfold zoR zcast; simp [zi32l]))
    · refine w_tsInZ (pc' := 52) (pcT := 69) 2 ⟨rfl, rfl⟩ (by omega) (by decide) rfl rfl ?_
      refine w_dload_n (pc' := 70) ⟨rfl, rfl⟩ rfl ?_
      refine w_d2i (pc' := 71) ⟨rfl, rfl⟩ ?_
      refine w_i2c (pc' := 72) ⟨rfl, rfl⟩ ?_
      refine w_i2l (pc' := 73) ⟨rfl, rfl⟩ ?_
      refine w_lreturn (pc' := 74) ⟨rfl, rfl⟩ ?_
      first | (exfalso; omega) | (subst hj; exact k) | (subst hj; rw [show zoR d 0 = lZ 0 from (if_pos rfl).trans (if_neg (fun q => q (by assumption)))] at k; exact k) | (subst hj; rw [show zoR d 0 = lZ 1 from (if_pos rfl).trans (if_pos (by assumption))] at k; exact k) | (subst hj; exact zql k (by unfold zoR zcast; simp [zi32l]))
    · refine w_tsInZ (pc' := 52) (pcT := 74) 3 ⟨rfl, rfl⟩ (by omega) (by decide) rfl rfl ?_
      refine w_dload_n (pc' := 75) ⟨rfl, rfl⟩ rfl ?_
      refine w_d2i (pc' := 76) ⟨rfl, rfl⟩ ?_
      refine w_i2s (pc' := 77) ⟨rfl, rfl⟩ ?_
      refine w_i2l (pc' := 78) ⟨rfl, rfl⟩ ?_
      refine w_lreturn (pc' := 79) ⟨rfl, rfl⟩ ?_
      first | (exfalso; omega) | (subst hj; exact k) | (subst hj; rw [show zoR d 0 = lZ 0 from (if_pos rfl).trans (if_neg (fun q => q (by assumption)))] at k; exact k) | (subst hj; rw [show zoR d 0 = lZ 1 from (if_pos rfl).trans (if_pos (by assumption))] at k; exact k) | (subst hj; exact zql k (by unfold zoR zcast; simp [zi32l]))
    · refine w_tsInZ (pc' := 52) (pcT := 79) 4 ⟨rfl, rfl⟩ (by omega) (by decide) rfl rfl ?_
      refine w_dload_n (pc' := 80) ⟨rfl, rfl⟩ rfl ?_
      refine w_d2i (pc' := 81) ⟨rfl, rfl⟩ ?_
      refine w_i2l (pc' := 82) ⟨rfl, rfl⟩ ?_
      refine w_lreturn (pc' := 83) ⟨rfl, rfl⟩ ?_
      first | (exfalso; omega) | (subst hj; exact k) | (subst hj; rw [show zoR d 0 = lZ 0 from (if_pos rfl).trans (if_neg (fun q => q (by assumption)))] at k; exact k) | (subst hj; rw [show zoR d 0 = lZ 1 from (if_pos rfl).trans (if_pos (by assumption))] at k; exact k) | (subst hj; exact zql k (by unfold zoR zcast; simp [zi32l]))
    · refine w_tsInZ (pc' := 52) (pcT := 105) 5 ⟨rfl, rfl⟩ (by omega) (by decide) rfl rfl ?_
      refine w_dload_n (pc' := 106) ⟨rfl, rfl⟩ rfl ?_
      refine w_d2l (pc' := 107) ⟨rfl, rfl⟩ ?_
      refine w_lreturn (pc' := 108) ⟨rfl, rfl⟩ ?_
      first | (exfalso; omega) | (subst hj; exact k) | (subst hj; rw [show zoR d 0 = lZ 0 from (if_pos rfl).trans (if_neg (fun q => q (by assumption)))] at k; exact k) | (subst hj; rw [show zoR d 0 = lZ 1 from (if_pos rfl).trans (if_pos (by assumption))] at k; exact k) | (subst hj; exact zql k (by unfold zoR zcast; simp [zi32l]))
    · refine w_tsInZ (pc' := 52) (pcT := 83) 6 ⟨rfl, rfl⟩ (by omega) (by decide) rfl rfl ?_
      refine w_dload_n (pc' := 84) ⟨rfl, rfl⟩ rfl ?_
      refine w_d2f (pc' := 85) ⟨rfl, rfl⟩ (zF_fin (zd2f hd).f) ?_
      refine w_f2d (pc' := 86) ⟨rfl, rfl⟩ (zD_fin (zf2db (zd2f hd)).f) ?_
      refine w_bi (pc' := 88) ⟨rfl, rfl⟩ (by decide) ?_
      refine w_cs2 (pc' := 91) ⟨rfl, rfl⟩ (by decide) (Nat.le_of_ble_eq_true rfl) (Nat.le_of_ble_eq_true rfl) (c_toBits6 (zd2f hd).f ?_)
      refine w_lreturn (pc' := 92) ⟨rfl, rfl⟩ ?_
      first | (exfalso; omega) | (subst hj; exact k) | (subst hj; rw [show zoR d 0 = lZ 0 from (if_pos rfl).trans (if_neg (fun q => q (by assumption)))] at k; exact k) | (subst hj; rw [show zoR d 0 = lZ 1 from (if_pos rfl).trans (if_pos (by assumption))] at k; exact k) | (subst hj; exact zql k (by unfold zoR zcast; simp [zi32l]))
    · refine w_tsInZ (pc' := 52) (pcT := 92) 7 ⟨rfl, rfl⟩ (by omega) (by decide) rfl rfl ?_
      refine w_dload_n (pc' := 93) ⟨rfl, rfl⟩ rfl ?_
      refine w_bi (pc' := 95) ⟨rfl, rfl⟩ (by decide) ?_
      refine w_cs2 (pc' := 98) ⟨rfl, rfl⟩ (by decide) (Nat.le_of_ble_eq_true rfl) (Nat.le_of_ble_eq_true rfl) (c_toBits7 hd.f ?_)
      refine w_lreturn (pc' := 99) ⟨rfl, rfl⟩ ?_
      first | (exfalso; omega) | (subst hj; exact k) | (subst hj; rw [show zoR d 0 = lZ 0 from (if_pos rfl).trans (if_neg (fun q => q (by assumption)))] at k; exact k) | (subst hj; rw [show zoR d 0 = lZ 1 from (if_pos rfl).trans (if_pos (by assumption))] at k; exact k) | (subst hj; exact zql k (by unfold zoR zcast; simp [zi32l]))
    · refine w_tsInZ (pc' := 52) (pcT := 99) 8 ⟨rfl, rfl⟩ (by omega) (by decide) rfl rfl ?_
      refine w_dload_n (pc' := 100) ⟨rfl, rfl⟩ rfl ?_
      refine w_d2l (pc' := 101) ⟨rfl, rfl⟩ ?_
      refine w_topL (lZ_of (FP.d2l d)) ?_
      refine w_cs1 (pc' := 104) ⟨rfl, rfl⟩ (by decide) (Nat.le_of_ble_eq_true rfl) (Nat.le_of_ble_eq_true rfl) (c_digitsWord (iZ64 _) ?_)
      refine w_lreturn (pc' := 105) ⟨rfl, rfl⟩ ?_
      first | (exfalso; omega) | (subst hj; exact k) | (subst hj; rw [show zoR d 0 = lZ 0 from (if_pos rfl).trans (if_neg (fun q => q (by assumption)))] at k; exact k) | (subst hj; rw [show zoR d 0 = lZ 1 from (if_pos rfl).trans (if_pos (by assumption))] at k; exact k) | (subst hj; exact zql k (by unfold zoR zcast; simp [zi32l]))
def zok (k : Int) (v : Int64) : Prop := (k = 0 → v = lZ 0 ∨ v = lZ 1) ∧ (k = 6 → ∃ y, zfb y ∧ v = zfl y) ∧ (k = 7 → ∃ d, zdb d ∧ v = zdl d) ∧ (k = 8 → ∃ n a, n ≤ 8 ∧ zwf n a ∧ v = lZ a)
def zrl (v : Int64) (k : Int) : UInt64 := if k = 6 then FP.f2d v.toInt32.toUInt32 else if k = 7 then v.toUInt64 else FP.l2d v
theorem zrl6 (y : UInt32) : zrl (zfl y) 6 = FP.f2d y := by
  show FP.f2d (zfl y).toInt32.toUInt32 = _
  unfold zfl; rw [zi32l]; rfl
theorem zrl7 (d : UInt64) : zrl (zdl d) 7 = d := rfl
theorem zrl_b {v : Int64} {k : Int} (h : zok k v) : zdb (zrl v k) := by
  by_cases h6 : k = 6
  · subst h6; obtain ⟨y, hy, rfl⟩ := h.2.1 rfl; rw [zrl6]; exact zf2db hy
  · by_cases h7 : k = 7
    · subst h7; obtain ⟨d, hd, rfl⟩ := h.2.2.1 rfl; rw [zrl7]; exact hd
    · unfold zrl; rw [if_neg h6, if_neg h7]; exact zl2d v
theorem zwf_lt : ∀ {n : Nat} {a : Int}, zwf n a → a < ((2 ^ (5 * n) : Nat) : Int)
  | 0, a, h => by rw [show a = 0 from h]; decide
  | n + 1, a, h => by
    have := zwf_lt h.2
    have e : ((2 ^ (5 * (n + 1)) : Nat) : Int) = 32 * ((2 ^ (5 * n) : Nat) : Int) := by rw [show 5 * (n + 1) = 5 + 5 * n by omega, Nat.pow_add]; norm_cast
    omega
theorem zwf_rng {n : Nat} {a : Int} (h : zwf n a) (hn : n ≤ 8) : 0 ≤ a ∧ a ≤ 1099511627775 := by
  have h1 := zwf_lt h
  have h2 := zwf_pos h
  have h3 : (2 : Nat) ^ (5 * n) ≤ 2 ^ 40 := zpw_le.mpr (by omega)
  omega
theorem c_fromB {σ : zSt} {v : Int64} {k : Int} (hk : k = 6 ∨ k = 7) (hv : zok k v) {Q : zSt → Option Value → Prop} (kk : Q σ (some (.double (zrl v k)))) : zCa 50 [.long v, .int (iZ k)] σ Q := by
  rcases hk with rfl | rfl
  · obtain ⟨y, hy, rfl⟩ := hv.2.1 rfl
    rw [zrl6] at kk
    exact c_fB6 hy.f kk
  · obtain ⟨d, hd, rfl⟩ := hv.2.2.1 rfl
    rw [zrl7] at kk
    exact c_fB7 hd.f kk
