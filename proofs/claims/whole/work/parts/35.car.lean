/-! VALUES CARRIED -/
/-- a value of kind a made one of kind b -/
def zcar (v : Int64) (a b : Int) : Int64 := if a = b then v else if a = 0 ∧ b = 8 then (if v = lZ 1 then lZ 2 else lZ 1) else if a = 6 ∨ a = 7 then zoR (zrl v a) b else if a = 8 then (if b = 0 then zoW v 0 else zoW (lZ (zread v.toInt)) b) else zoW v b
theorem zok8 {v : Int64} (h : zok 8 v) : ∃ n a, n ≤ 8 ∧ zwf n a ∧ v = lZ a ∧ (0 ≤ a ∧ a ≤ 1099511627775) := by
  obtain ⟨n, a, h1, h2, h3⟩ := h.2.2.2 rfl
  exact ⟨n, a, h1, h2, h3, zwf_rng h2 h1⟩
theorem c_changed {σ : zSt} {v : Int64} {a b : Int} (ha : 0 ≤ a ∧ a ≤ 8) (hb : 0 ≤ b ∧ b ≤ 8) (hv : zok a v) {Q : zSt → Option Value → Prop} (k : Q σ (some (.long (zcar v a b)))) : zCa 39 [.int (iZ a), .long v, .int (iZ b)] σ Q := by
  refine w_enter (c := zk_X2_changed) (ls2 := [(0, .int (iZ a)), (1, .long v), (3, .int (iZ b))]) rfl ⟨rfl, rfl, rfl, trivial⟩ ?_
  refine w_iload_n (pc' := 1) ⟨rfl, rfl⟩ rfl ?_
  refine w_iload_n (pc' := 2) ⟨rfl, rfl⟩ rfl ?_
  refine w_ic_ne (pc' := 5) (pcT := 7) ⟨rfl, rfl⟩ rfl (by omega) (by omega) (fun h1 => ?_) (fun h1 => ?_)
  · refine w_iload_n (pc' := 8) ⟨rfl, rfl⟩ rfl ?_
    refine w_if_ne (pc' := 11) (pcT := 21) ⟨rfl, rfl⟩ rfl (by omega) (fun h2 => ?_) (fun h2 => ?_)
    · refine w_iload_n (pc' := 22) ⟨rfl, rfl⟩ rfl ?_
      refine w_cs1 (pc' := 25) ⟨rfl, rfl⟩ (by decide) (Nat.le_of_ble_eq_true rfl) (Nat.le_of_ble_eq_true rfl) (c_isReal (by omega) (fun h => ?_) (fun h => ?_))
      · refine w_ifF_eq (pc' := 28) ⟨rfl, rfl⟩ (by decide) ?_
        refine w_lload_n (pc' := 29) ⟨rfl, rfl⟩ rfl ?_
        refine w_iload_n (pc' := 30) ⟨rfl, rfl⟩ rfl ?_
        refine w_cs2 (pc' := 33) ⟨rfl, rfl⟩ (by decide) (Nat.le_of_ble_eq_true rfl) (Nat.le_of_ble_eq_true rfl) (c_fromB (by omega) (by assumption) ?_)
        refine w_iload_n (pc' := 34) ⟨rfl, rfl⟩ rfl ?_
        refine w_cs2 (pc' := 37) ⟨rfl, rfl⟩ (by decide) (Nat.le_of_ble_eq_true rfl) (Nat.le_of_ble_eq_true rfl) (c_ofReal (zrl_b hv) (by omega) ?_)
        refine w_lreturn (pc' := 38) ⟨rfl, rfl⟩ ?_
        refine zql k ?_
        unfold zcar
        (try unfold zoR)
        (try unfold zoW)
        repeat' split
        all_goals first | rfl | (exfalso; omega) | simp_all
      · refine w_ifT_eq (pc' := 28) (pcT := 38) ⟨rfl, rfl⟩ rfl (by decide) ?_
        refine w_iload_n (pc' := 39) ⟨rfl, rfl⟩ rfl ?_
        refine w_bi (pc' := 41) ⟨rfl, rfl⟩ (by decide) ?_
        refine w_ic_ne (pc' := 44) (pcT := 65) ⟨rfl, rfl⟩ rfl (by omega) (by omega) (fun h3 => ?_) (fun h3 => ?_)
        · refine w_lload_n (pc' := 66) ⟨rfl, rfl⟩ rfl ?_
          refine w_iload_n (pc' := 67) ⟨rfl, rfl⟩ rfl ?_
          refine w_cs2 (pc' := 70) ⟨rfl, rfl⟩ (by decide) (Nat.le_of_ble_eq_true rfl) (Nat.le_of_ble_eq_true rfl) (c_ofWhole (by omega) ?_)
          refine w_lreturn (pc' := 71) ⟨rfl, rfl⟩ ?_
          refine zql k ?_
          unfold zcar
          (try unfold zoR)
          (try unfold zoW)
          repeat' split
          all_goals first | rfl | (exfalso; omega) | simp_all
        · refine w_iload_n (pc' := 45) ⟨rfl, rfl⟩ rfl ?_
          refine w_if_ne (pc' := 48) (pcT := 56) ⟨rfl, rfl⟩ rfl (by omega) (fun h4 => ?_) (fun h4 => ?_)
          · refine w_lload_n (pc' := 57) ⟨rfl, rfl⟩ rfl ?_
            obtain rfl : a = 8 := by omega
            obtain ⟨n, w, hn, hw, rfl, hwr⟩ := zok8 hv
            have hwt : (lZ w).toInt = w := lZ_to (by omega)
            have hw0 : lZ w = lZ 0 ↔ w = 0 := lZ_inj (by omega) (by omega)
            refine w_cs1 (pc' := 60) ⟨rfl, rfl⟩ (by decide) (Nat.le_of_ble_eq_true rfl) (Nat.le_of_ble_eq_true rfl) (c_wholeOfWord (by omega) ?_)
            refine w_iload_n (pc' := 61) ⟨rfl, rfl⟩ rfl ?_
            refine w_cs2 (pc' := 64) ⟨rfl, rfl⟩ (by decide) (Nat.le_of_ble_eq_true rfl) (Nat.le_of_ble_eq_true rfl) (c_ofWhole (by omega) ?_)
            refine w_lreturn (pc' := 65) ⟨rfl, rfl⟩ ?_
            refine zql k ?_
            unfold zcar
            (try unfold zoR)
            (try unfold zoW)
            repeat' split
            all_goals first | rfl | (exfalso; omega) | simp_all
          · refine w_lload_n (pc' := 49) ⟨rfl, rfl⟩ rfl ?_
            refine w_ic (pc' := 50) ⟨rfl, rfl⟩ ?_
            refine w_cs2 (pc' := 53) ⟨rfl, rfl⟩ (by decide) (Nat.le_of_ble_eq_true rfl) (Nat.le_of_ble_eq_true rfl) (c_ofWhole (by omega) ?_)
            refine w_goto (pc' := 56) (pcT := 64) ⟨rfl, rfl⟩ rfl ?_
            refine w_lreturn (pc' := 65) ⟨rfl, rfl⟩ ?_
            refine zql k ?_
            unfold zcar
            (try unfold zoR)
            (try unfold zoW)
            repeat' split
            all_goals first | rfl | (exfalso; omega) | simp_all
    · refine w_iload_n (pc' := 12) ⟨rfl, rfl⟩ rfl ?_
      refine w_bi (pc' := 14) ⟨rfl, rfl⟩ (by decide) ?_
      refine w_ic_ne (pc' := 17) (pcT := 21) ⟨rfl, rfl⟩ rfl (by omega) (by omega) (fun h3 => ?_) (fun h3 => ?_)
      · refine w_iload_n (pc' := 22) ⟨rfl, rfl⟩ rfl ?_
        refine w_cs1 (pc' := 25) ⟨rfl, rfl⟩ (by decide) (Nat.le_of_ble_eq_true rfl) (Nat.le_of_ble_eq_true rfl) (c_isReal (by omega) (fun h => ?_) (fun h => ?_))
        · refine w_ifF_eq (pc' := 28) ⟨rfl, rfl⟩ (by decide) ?_
          refine w_lload_n (pc' := 29) ⟨rfl, rfl⟩ rfl ?_
          refine w_iload_n (pc' := 30) ⟨rfl, rfl⟩ rfl ?_
          refine w_cs2 (pc' := 33) ⟨rfl, rfl⟩ (by decide) (Nat.le_of_ble_eq_true rfl) (Nat.le_of_ble_eq_true rfl) (c_fromB (by omega) (by assumption) ?_)
          refine w_iload_n (pc' := 34) ⟨rfl, rfl⟩ rfl ?_
          refine w_cs2 (pc' := 37) ⟨rfl, rfl⟩ (by decide) (Nat.le_of_ble_eq_true rfl) (Nat.le_of_ble_eq_true rfl) (c_ofReal (zrl_b hv) (by omega) ?_)
          refine w_lreturn (pc' := 38) ⟨rfl, rfl⟩ ?_
          refine zql k ?_
          unfold zcar
          (try unfold zoR)
          (try unfold zoW)
          repeat' split
          all_goals first | rfl | (exfalso; omega) | simp_all
        · refine w_ifT_eq (pc' := 28) (pcT := 38) ⟨rfl, rfl⟩ rfl (by decide) ?_
          refine w_iload_n (pc' := 39) ⟨rfl, rfl⟩ rfl ?_
          refine w_bi (pc' := 41) ⟨rfl, rfl⟩ (by decide) ?_
          refine w_ic_ne (pc' := 44) (pcT := 65) ⟨rfl, rfl⟩ rfl (by omega) (by omega) (fun h4 => ?_) (fun h4 => ?_)
          · refine w_lload_n (pc' := 66) ⟨rfl, rfl⟩ rfl ?_
            refine w_iload_n (pc' := 67) ⟨rfl, rfl⟩ rfl ?_
            refine w_cs2 (pc' := 70) ⟨rfl, rfl⟩ (by decide) (Nat.le_of_ble_eq_true rfl) (Nat.le_of_ble_eq_true rfl) (c_ofWhole (by omega) ?_)
            refine w_lreturn (pc' := 71) ⟨rfl, rfl⟩ ?_
            refine zql k ?_
            unfold zcar
            (try unfold zoR)
            (try unfold zoW)
            repeat' split
            all_goals first | rfl | (exfalso; omega) | simp_all
          · refine w_iload_n (pc' := 45) ⟨rfl, rfl⟩ rfl ?_
            refine w_if_ne (pc' := 48) (pcT := 56) ⟨rfl, rfl⟩ rfl (by omega) (fun h5 => ?_) (fun h5 => ?_)
            · refine w_lload_n (pc' := 57) ⟨rfl, rfl⟩ rfl ?_
              obtain rfl : a = 8 := by omega
              obtain ⟨n, w, hn, hw, rfl, hwr⟩ := zok8 hv
              have hwt : (lZ w).toInt = w := lZ_to (by omega)
              have hw0 : lZ w = lZ 0 ↔ w = 0 := lZ_inj (by omega) (by omega)
              refine w_cs1 (pc' := 60) ⟨rfl, rfl⟩ (by decide) (Nat.le_of_ble_eq_true rfl) (Nat.le_of_ble_eq_true rfl) (c_wholeOfWord (by omega) ?_)
              refine w_iload_n (pc' := 61) ⟨rfl, rfl⟩ rfl ?_
              refine w_cs2 (pc' := 64) ⟨rfl, rfl⟩ (by decide) (Nat.le_of_ble_eq_true rfl) (Nat.le_of_ble_eq_true rfl) (c_ofWhole (by omega) ?_)
              refine w_lreturn (pc' := 65) ⟨rfl, rfl⟩ ?_
              refine zql k ?_
              unfold zcar
              (try unfold zoR)
              (try unfold zoW)
              repeat' split
              all_goals first | rfl | (exfalso; omega) | simp_all
            · refine w_lload_n (pc' := 49) ⟨rfl, rfl⟩ rfl ?_
              refine w_ic (pc' := 50) ⟨rfl, rfl⟩ ?_
              refine w_cs2 (pc' := 53) ⟨rfl, rfl⟩ (by decide) (Nat.le_of_ble_eq_true rfl) (Nat.le_of_ble_eq_true rfl) (c_ofWhole (by omega) ?_)
              refine w_goto (pc' := 56) (pcT := 64) ⟨rfl, rfl⟩ rfl ?_
              refine w_lreturn (pc' := 65) ⟨rfl, rfl⟩ ?_
              refine zql k ?_
              unfold zcar
              (try unfold zoR)
              (try unfold zoW)
              repeat' split
              all_goals first | rfl | (exfalso; omega) | simp_all
      · refine w_lload_n (pc' := 18) ⟨rfl, rfl⟩ rfl ?_
        refine w_lc (pc' := 19) (z := 1) ⟨rfl, rfl⟩ rfl ?_
        obtain rfl : a = 0 := by omega
        obtain rfl : b = 8 := by omega
        refine w_ladd (pc' := 20) ⟨rfl, rfl⟩ ?_
        refine w_topL (y := zcar v 0 8) (by rcases hv.1 rfl with rfl | rfl <;> decide) ?_
        refine w_lreturn (pc' := 21) ⟨rfl, rfl⟩ ?_
        exact k
  · refine w_lload_n (pc' := 6) ⟨rfl, rfl⟩ rfl ?_
    refine w_lreturn (pc' := 7) ⟨rfl, rfl⟩ ?_
    refine zql k ?_
    unfold zcar
    (try unfold zoR)
    (try unfold zoW)
    repeat' split
    all_goals first | rfl | (exfalso; omega) | simp_all
/-- what is told as a thing of a kind -/
def zthg (x : Int64) (k : Int) : Int64 := if k = 9 then x.toInt32.toInt64 else if k = 10 then lZ 0 else ztold x k
theorem c_told {σ : zSt} {x : Int64} {kd : Int} (hk : 0 ≤ kd ∧ kd ≤ 10) {Q : zSt → Option Value → Prop} (k : Q σ (some (.long (zthg x kd)))) : zCa 37 [.int (iZ kd), .long x] σ Q := by
  refine w_enter (c := zk_X2_told) (ls2 := [(0, .int (iZ kd)), (1, .long x)]) rfl ⟨rfl, rfl, trivial⟩ ?_
  refine w_iload_n (pc' := 1) ⟨rfl, rfl⟩ rfl ?_
  rcases Classical.em (kd < 6 ∨ 10 < kd) with hs | hs
  · refine w_tsOutZ (pc' := 36) (pcT := 71) ⟨rfl, rfl⟩ rfl (by omega) ?_
    refine w_lload_n (pc' := 72) ⟨rfl, rfl⟩ rfl ?_
    refine w_iload_n (pc' := 73) ⟨rfl, rfl⟩ rfl ?_
    refine w_cs2 (pc' := 76) ⟨rfl, rfl⟩ (by decide) (Nat.le_of_ble_eq_true rfl) (Nat.le_of_ble_eq_true rfl) (c_ofWhole (by omega) ?_)
    refine w_lreturn (pc' := 77) ⟨rfl, rfl⟩ ?_
    refine zql k ?_
    (try unfold zthg)
    unfold ztold
    (try unfold zoW)
    repeat' split
    all_goals first | rfl | (exfalso; omega) | simp_all
  · rcases (show kd = 6 ∨ kd = 7 ∨ kd = 8 ∨ kd = 9 ∨ kd = 10 by omega) with hj | hj | hj | hj | hj
    · refine w_tsInZ (pc' := 36) (pcT := 36) 0 ⟨rfl, rfl⟩ (by omega) (by decide) rfl rfl ?_
      refine w_lload_n (pc' := 37) ⟨rfl, rfl⟩ rfl ?_
      refine w_l2f (pc' := 38) ⟨rfl, rfl⟩ ?_
      refine w_ldc (pc' := 40) ⟨rfl, rfl⟩ rfl ?_
      refine w_fdiv (pc' := 41) ⟨rfl, rfl⟩ (zF_fin (zl2f16 x).f) ?_
      refine w_f2d (pc' := 42) ⟨rfl, rfl⟩ (zD_fin (zf2db (zl2f16 x)).f) ?_
      refine w_bi (pc' := 44) ⟨rfl, rfl⟩ (by decide) ?_
      refine w_cs2 (pc' := 47) ⟨rfl, rfl⟩ (by decide) (Nat.le_of_ble_eq_true rfl) (Nat.le_of_ble_eq_true rfl) (c_toBits6 (zl2f16 x).f ?_)
      refine w_lreturn (pc' := 48) ⟨rfl, rfl⟩ ?_
      refine zql k ?_
      (try unfold zthg)
      unfold ztold
      (try unfold zoW)
      repeat' split
      all_goals first | rfl | (exfalso; omega) | simp_all
    · refine w_tsInZ (pc' := 36) (pcT := 48) 1 ⟨rfl, rfl⟩ (by omega) (by decide) rfl rfl ?_
      refine w_lload_n (pc' := 49) ⟨rfl, rfl⟩ rfl ?_
      refine w_l2d (pc' := 50) ⟨rfl, rfl⟩ ?_
      refine w_ldc2_w (pc' := 53) ⟨rfl, rfl⟩ rfl ?_
      refine w_ddiv (pc' := 54) ⟨rfl, rfl⟩ (zD_fin (zl2d16 x).f) ?_
      refine w_bi (pc' := 56) ⟨rfl, rfl⟩ (by decide) ?_
      refine w_cs2 (pc' := 59) ⟨rfl, rfl⟩ (by decide) (Nat.le_of_ble_eq_true rfl) (Nat.le_of_ble_eq_true rfl) (c_toBits7 (zl2d16 x).f ?_)
      refine w_lreturn (pc' := 60) ⟨rfl, rfl⟩ ?_
      refine zql k ?_
      (try unfold zthg)
      unfold ztold
      (try unfold zoW)
      repeat' split
      all_goals first | rfl | (exfalso; omega) | simp_all
    · refine w_tsInZ (pc' := 36) (pcT := 60) 2 ⟨rfl, rfl⟩ (by omega) (by decide) rfl rfl ?_
      refine w_lload_n (pc' := 61) ⟨rfl, rfl⟩ rfl ?_
      refine w_topL (lZ_of x) ?_
      refine w_cs1 (pc' := 64) ⟨rfl, rfl⟩ (by decide) (Nat.le_of_ble_eq_true rfl) (Nat.le_of_ble_eq_true rfl) (c_toldWord (iZ64 _) ?_)
      refine w_lreturn (pc' := 65) ⟨rfl, rfl⟩ ?_
      refine zql k ?_
      (try unfold zthg)
      unfold ztold
      (try unfold zoW)
      repeat' split
      all_goals first | rfl | (exfalso; omega) | simp_all
    · refine w_tsInZ (pc' := 36) (pcT := 65) 3 ⟨rfl, rfl⟩ (by omega) (by decide) rfl rfl ?_
      refine w_lload_n (pc' := 66) ⟨rfl, rfl⟩ rfl ?_
      refine w_l2i (pc' := 67) ⟨rfl, rfl⟩ ?_
      refine w_i2l (pc' := 68) ⟨rfl, rfl⟩ ?_
      refine w_lreturn (pc' := 69) ⟨rfl, rfl⟩ ?_
      refine zql k ?_
      (try unfold zthg)
      unfold ztold
      (try unfold zoW)
      repeat' split
      all_goals first | rfl | (exfalso; omega) | simp_all
    · refine w_tsInZ (pc' := 36) (pcT := 69) 4 ⟨rfl, rfl⟩ (by omega) (by decide) rfl rfl ?_
      refine w_lc (pc' := 70) (z := 0) ⟨rfl, rfl⟩ rfl ?_
      refine w_lreturn (pc' := 71) ⟨rfl, rfl⟩ ?_
      refine zql k ?_
      (try unfold zthg)
      unfold ztold
      (try unfold zoW)
      repeat' split
      all_goals first | rfl | (exfalso; omega) | simp_all
theorem r_toldAs {σ : zSt} {x : Int64} {kd : Int} (hk : 0 ≤ kd ∧ kd ≤ 8) {Q : zSt → Option Value → Prop} (k : Q σ (some (.long (ztold x kd)))) : zCa 231 [.long x, .int (iZ kd)] σ Q := by
  refine w_enter (c := zk_X12_toldAs) (ls2 := [(0, .long x), (2, .int (iZ kd))]) rfl ⟨rfl, rfl, trivial⟩ ?_
  refine w_iload_n (pc' := 1) ⟨rfl, rfl⟩ rfl ?_
  rcases Classical.em (kd < 0 ∨ 8 < kd) with hs | hs
  · refine w_tsOutZ (pc' := 52) (pcT := 93) ⟨rfl, rfl⟩ rfl (by omega) ?_
    refine w_lload_n (pc' := 94) ⟨rfl, rfl⟩ rfl ?_
    refine w_iload_n (pc' := 95) ⟨rfl, rfl⟩ rfl ?_
    refine w_cs2 (pc' := 98) ⟨rfl, rfl⟩ (by decide) (Nat.le_of_ble_eq_true rfl) (Nat.le_of_ble_eq_true rfl) (r_cast (by omega) ?_)
    refine w_lreturn (pc' := 99) ⟨rfl, rfl⟩ ?_
    refine zql k ?_
    (try unfold zthg)
    unfold ztold
    (try unfold zoW)
    repeat' split
    all_goals first | rfl | (exfalso; omega) | simp_all
  · rcases (show kd = 0 ∨ kd = 1 ∨ kd = 2 ∨ kd = 3 ∨ kd = 4 ∨ kd = 5 ∨ kd = 6 ∨ kd = 7 ∨ kd = 8 by omega) with hj | hj | hj | hj | hj | hj | hj | hj | hj
    · refine w_tsInZ (pc' := 52) (pcT := 52) 0 ⟨rfl, rfl⟩ (by omega) (by decide) rfl rfl ?_
      refine w_lload_n (pc' := 53) ⟨rfl, rfl⟩ rfl ?_
      refine w_lc (pc' := 54) (z := 0) ⟨rfl, rfl⟩ rfl ?_
      refine w_lcmp (pc' := 55) ⟨rfl, rfl⟩ ?_
      refine w_ifc_eq (pc' := 58) (pcT := 62) ⟨rfl, rfl⟩ rfl (fun h1 => ?_) (fun h1 => ?_)
      · refine w_ic (pc' := 63) ⟨rfl, rfl⟩ ?_
        refine w_cs1 (pc' := 66) ⟨rfl, rfl⟩ (by decide) (Nat.le_of_ble_eq_true rfl) (Nat.le_of_ble_eq_true rfl) (r_flag (by omega) ?_)
        refine w_i2lZ (pc' := 67) ⟨rfl, rfl⟩ (by omega) ?_
        refine w_lreturn (pc' := 68) ⟨rfl, rfl⟩ ?_
        refine zql k ?_
        (try unfold zthg)
        unfold ztold
        (try unfold zoW)
        repeat' split
        all_goals first | rfl | (exfalso; omega) | simp_all
      · refine w_ic (pc' := 59) ⟨rfl, rfl⟩ ?_
        refine w_goto (pc' := 62) (pcT := 63) ⟨rfl, rfl⟩ rfl ?_
        refine w_cs1 (pc' := 66) ⟨rfl, rfl⟩ (by decide) (Nat.le_of_ble_eq_true rfl) (Nat.le_of_ble_eq_true rfl) (r_flag (by omega) ?_)
        refine w_i2lZ (pc' := 67) ⟨rfl, rfl⟩ (by omega) ?_
        refine w_lreturn (pc' := 68) ⟨rfl, rfl⟩ ?_
        refine zql k ?_
        (try unfold zthg)
        unfold ztold
        (try unfold zoW)
        repeat' split
        all_goals first | rfl | (exfalso; omega) | simp_all
    · refine w_tsInZ (pc' := 52) (pcT := 93) 1 ⟨rfl, rfl⟩ (by omega) (by decide) rfl rfl ?_
      refine w_lload_n (pc' := 94) ⟨rfl, rfl⟩ rfl ?_
      refine w_iload_n (pc' := 95) ⟨rfl, rfl⟩ rfl ?_
      refine w_cs2 (pc' := 98) ⟨rfl, rfl⟩ (by decide) (Nat.le_of_ble_eq_true rfl) (Nat.le_of_ble_eq_true rfl) (r_cast (by omega) ?_)
      refine w_lreturn (pc' := 99) ⟨rfl, rfl⟩ ?_
      refine zql k ?_
      (try unfold zthg)
      unfold ztold
      (try unfold zoW)
      repeat' split
      all_goals first | rfl | (exfalso; omega) | simp_all
    · refine w_tsInZ (pc' := 52) (pcT := 93) 2 ⟨rfl, rfl⟩ (by omega) (by decide) rfl rfl ?_
      refine w_lload_n (pc' := 94) ⟨rfl, rfl⟩ rfl ?_
      refine w_iload_n (pc' := 95) ⟨rfl, rfl⟩ rfl ?_
      refine w_cs2 (pc' := 98) ⟨rfl, rfl⟩ (by decide) (Nat.le_of_ble_eq_true rfl) (Nat.le_of_ble_eq_true rfl) (r_cast (by omega) ?_)
      refine w_lreturn (pc' := 99) ⟨rfl, rfl⟩ ?_
      refine zql k ?_
      (try unfold zthg)
      unfold ztold
      (try unfold zoW)
      repeat' split
      all_goals first | rfl | (exfalso; omega) | simp_all
    · refine w_tsInZ (pc' := 52) (pcT := 93) 3 ⟨rfl, rfl⟩ (by omega) (by decide) rfl rfl ?_
      refine w_lload_n (pc' := 94) ⟨rfl, rfl⟩ rfl ?_
      refine w_iload_n (pc' := 95) ⟨rfl, rfl⟩ rfl ?_
      refine w_cs2 (pc' := 98) ⟨rfl, rfl⟩ (by decide) (Nat.le_of_ble_eq_true rfl) (Nat.le_of_ble_eq_true rfl) (r_cast (by omega) ?_)
      refine w_lreturn (pc' := 99) ⟨rfl, rfl⟩ ?_
      refine zql k ?_
      (try unfold zthg)
      unfold ztold
      (try unfold zoW)
      repeat' split
      all_goals first | rfl | (exfalso; omega) | simp_all
    · refine w_tsInZ (pc' := 52) (pcT := 93) 4 ⟨rfl, rfl⟩ (by omega) (by decide) rfl rfl ?_
      refine w_lload_n (pc' := 94) ⟨rfl, rfl⟩ rfl ?_
      refine w_iload_n (pc' := 95) ⟨rfl, rfl⟩ rfl ?_
      refine w_cs2 (pc' := 98) ⟨rfl, rfl⟩ (by decide) (Nat.le_of_ble_eq_true rfl) (Nat.le_of_ble_eq_true rfl) (r_cast (by omega) ?_)
      refine w_lreturn (pc' := 99) ⟨rfl, rfl⟩ ?_
      refine zql k ?_
      (try unfold zthg)
      unfold ztold
      (try unfold zoW)
      repeat' split
      all_goals first | rfl | (exfalso; omega) | simp_all
    · refine w_tsInZ (pc' := 52) (pcT := 93) 5 ⟨rfl, rfl⟩ (by omega) (by decide) rfl rfl ?_
      refine w_lload_n (pc' := 94) ⟨rfl, rfl⟩ rfl ?_
      refine w_iload_n (pc' := 95) ⟨rfl, rfl⟩ rfl ?_
      refine w_cs2 (pc' := 98) ⟨rfl, rfl⟩ (by decide) (Nat.le_of_ble_eq_true rfl) (Nat.le_of_ble_eq_true rfl) (r_cast (by omega) ?_)
      refine w_lreturn (pc' := 99) ⟨rfl, rfl⟩ ?_
      refine zql k ?_
      (try unfold zthg)
      unfold ztold
      (try unfold zoW)
      repeat' split
      all_goals first | rfl | (exfalso; omega) | simp_all
    · refine w_tsInZ (pc' := 52) (pcT := 68) 6 ⟨rfl, rfl⟩ (by omega) (by decide) rfl rfl ?_
      refine w_lload_n (pc' := 69) ⟨rfl, rfl⟩ rfl ?_
      refine w_l2f (pc' := 70) ⟨rfl, rfl⟩ ?_
      refine w_ldc_w (pc' := 73) ⟨rfl, rfl⟩ rfl ?_
      refine w_fdiv (pc' := 74) ⟨rfl, rfl⟩ (zF_fin (zl2f16 x).f) ?_
      refine w_cs1 (pc' := 77) ⟨rfl, rfl⟩ (by decide) (Nat.le_of_ble_eq_true rfl) (Nat.le_of_ble_eq_true rfl) (r_float0 (zl2f16 x).f ?_)
      refine w_lreturn (pc' := 78) ⟨rfl, rfl⟩ ?_
      refine zql k ?_
      (try unfold zthg)
      unfold ztold
      (try unfold zoW)
      repeat' split
      all_goals first | rfl | (exfalso; omega) | simp_all
    · refine w_tsInZ (pc' := 52) (pcT := 78) 7 ⟨rfl, rfl⟩ (by omega) (by decide) rfl rfl ?_
      refine w_lload_n (pc' := 79) ⟨rfl, rfl⟩ rfl ?_
      refine w_l2d (pc' := 80) ⟨rfl, rfl⟩ ?_
      refine w_ldc2_w (pc' := 83) ⟨rfl, rfl⟩ rfl ?_
      refine w_ddiv (pc' := 84) ⟨rfl, rfl⟩ (zD_fin (zl2d16 x).f) ?_
      refine w_cs1 (pc' := 87) ⟨rfl, rfl⟩ (by decide) (Nat.le_of_ble_eq_true rfl) (Nat.le_of_ble_eq_true rfl) (r_double0 (zl2d16 x).f ?_)
      refine w_lreturn (pc' := 88) ⟨rfl, rfl⟩ ?_
      refine zql k ?_
      (try unfold zthg)
      unfold ztold
      (try unfold zoW)
      repeat' split
      all_goals first | rfl | (exfalso; omega) | simp_all
    · refine w_tsInZ (pc' := 52) (pcT := 88) 8 ⟨rfl, rfl⟩ (by omega) (by decide) rfl rfl ?_
      refine w_lload_n (pc' := 89) ⟨rfl, rfl⟩ rfl ?_
      refine w_topL (lZ_of x) ?_
      refine w_cs1 (pc' := 92) ⟨rfl, rfl⟩ (by decide) (Nat.le_of_ble_eq_true rfl) (Nat.le_of_ble_eq_true rfl) (r_word (iZ64 _) ?_)
      refine w_lreturn (pc' := 93) ⟨rfl, rfl⟩ ?_
      refine zql k ?_
      (try unfold zthg)
      unfold ztold
      (try unfold zoW)
      repeat' split
      all_goals first | rfl | (exfalso; omega) | simp_all
theorem r_castFrom {σ : zSt} {v : Int64} {a b : Int} (ha : 0 ≤ a ∧ a ≤ 8) (hb : 0 ≤ b ∧ b ≤ 8) (hv : zok a v) (hab : a ≠ b) (hb0 : b ≠ 0) (hb8 : b ≠ 8) (ha8 : a ≠ 8) {Q : zSt → Option Value → Prop} (k : Q σ (some (.long (zcar v a b)))) : zCa 234 [.long v, .int (iZ a), .int (iZ b)] σ Q := by
  refine w_enter (c := zk_X12_castFrom) (ls2 := [(0, .long v), (2, .int (iZ a)), (3, .int (iZ b))]) rfl ⟨rfl, rfl, rfl, trivial⟩ ?_
  refine w_iload_n (pc' := 1) ⟨rfl, rfl⟩ rfl ?_
  refine w_ic (pc' := 2) ⟨rfl, rfl⟩ ?_
  refine w_ic_gt (pc' := 5) (pcT := 11) ⟨rfl, rfl⟩ rfl (by omega) (by omega) (fun h1 => ?_) (fun h1 => ?_)
  · refine w_lload_n (pc' := 12) ⟨rfl, rfl⟩ rfl ?_
    refine w_iload_n (pc' := 13) ⟨rfl, rfl⟩ rfl ?_
    refine w_cs2 (pc' := 16) ⟨rfl, rfl⟩ (by decide) (Nat.le_of_ble_eq_true rfl) (Nat.le_of_ble_eq_true rfl) (r_real (by omega) (by assumption) ?_)
    refine w_dstore (pc' := 18) ⟨rfl, rfl⟩ rfl rfl ?_
    refine w_iload_n (pc' := 19) ⟨rfl, rfl⟩ rfl ?_
    refine w_ic (pc' := 20) ⟨rfl, rfl⟩ ?_
    refine w_ic_ne (pc' := 23) (pcT := 27) ⟨rfl, rfl⟩ rfl (by omega) (by omega) (fun h2 => ?_) (fun h2 => ?_)
    · refine w_iload_n (pc' := 28) ⟨rfl, rfl⟩ rfl ?_
      refine w_bi (pc' := 30) ⟨rfl, rfl⟩ (by decide) ?_
      refine w_ic_ne (pc' := 33) (pcT := 50) ⟨rfl, rfl⟩ rfl (by omega) (by omega) (fun h3 => ?_) (fun h3 => ?_)
      · refine w_iload_n (pc' := 51) ⟨rfl, rfl⟩ rfl ?_
        refine w_bi (pc' := 53) ⟨rfl, rfl⟩ (by decide) ?_
        refine w_ic_ne (pc' := 56) (pcT := 72) ⟨rfl, rfl⟩ rfl (by omega) (by omega) (fun h4 => ?_) (fun h4 => ?_)
        · refine w_dload (pc' := 74) ⟨rfl, rfl⟩ rfl ?_
          refine w_d2i (pc' := 75) ⟨rfl, rfl⟩ ?_
          refine w_i2l (pc' := 76) ⟨rfl, rfl⟩ ?_
          refine w_iload_n (pc' := 77) ⟨rfl, rfl⟩ rfl ?_
          refine w_cs2 (pc' := 80) ⟨rfl, rfl⟩ (by decide) (Nat.le_of_ble_eq_true rfl) (Nat.le_of_ble_eq_true rfl) (r_cast (by omega) ?_)
          refine w_lreturn (pc' := 81) ⟨rfl, rfl⟩ ?_
          refine zql k ?_
          unfold zcar
          (try unfold zoR)
          (try unfold zoW)
          repeat' split
          all_goals first | rfl | (exfalso; omega) | simp_all
        · refine w_iload_n (pc' := 57) ⟨rfl, rfl⟩ rfl ?_
          refine w_bi (pc' := 59) ⟨rfl, rfl⟩ (by decide) ?_
          refine w_ic_ne (pc' := 62) (pcT := 66) ⟨rfl, rfl⟩ rfl (by omega) (by omega) (fun h5 => ?_) (fun h5 => ?_)
          · refine w_dload (pc' := 68) ⟨rfl, rfl⟩ rfl ?_
            refine w_cs1 (pc' := 71) ⟨rfl, rfl⟩ (by decide) (Nat.le_of_ble_eq_true rfl) (Nat.le_of_ble_eq_true rfl) (r_double0 (zrl_b hv).f ?_)
            refine w_lreturn (pc' := 72) ⟨rfl, rfl⟩ ?_
            refine zql k ?_
            unfold zcar
            (try unfold zoR)
            (try unfold zoW)
            repeat' split
            all_goals first | rfl | (exfalso; omega) | simp_all
          · refine w_lload_n (pc' := 63) ⟨rfl, rfl⟩ rfl ?_
            refine w_goto (pc' := 66) (pcT := 71) ⟨rfl, rfl⟩ rfl ?_
            refine w_lreturn (pc' := 72) ⟨rfl, rfl⟩ ?_
            refine zql k ?_
            unfold zcar
            (try unfold zoR)
            (try unfold zoW)
            repeat' split
            all_goals first | rfl | (exfalso; omega) | simp_all
      · refine w_iload_n (pc' := 34) ⟨rfl, rfl⟩ rfl ?_
        refine w_bi (pc' := 36) ⟨rfl, rfl⟩ (by decide) ?_
        refine w_ic_ne (pc' := 39) (pcT := 43) ⟨rfl, rfl⟩ rfl (by omega) (by omega) (fun h4 => ?_) (fun h4 => ?_)
        · refine w_dload (pc' := 45) ⟨rfl, rfl⟩ rfl ?_
          refine w_d2f (pc' := 46) ⟨rfl, rfl⟩ (zF_fin (zd2f (zrl_b hv)).f) ?_
          refine w_cs1 (pc' := 49) ⟨rfl, rfl⟩ (by decide) (Nat.le_of_ble_eq_true rfl) (Nat.le_of_ble_eq_true rfl) (r_float0 (zd2f (zrl_b hv)).f ?_)
          refine w_lreturn (pc' := 50) ⟨rfl, rfl⟩ ?_
          refine zql k ?_
          unfold zcar
          (try unfold zoR)
          (try unfold zoW)
          repeat' split
          all_goals first | rfl | (exfalso; omega) | simp_all
        · refine w_lload_n (pc' := 40) ⟨rfl, rfl⟩ rfl ?_
          refine w_goto (pc' := 43) (pcT := 49) ⟨rfl, rfl⟩ rfl ?_
          refine w_lreturn (pc' := 50) ⟨rfl, rfl⟩ ?_
          refine zql k ?_
          unfold zcar
          (try unfold zoR)
          (try unfold zoW)
          repeat' split
          all_goals first | rfl | (exfalso; omega) | simp_all
    · refine w_dload (pc' := 25) ⟨rfl, rfl⟩ rfl ?_
      refine w_d2l (pc' := 26) ⟨rfl, rfl⟩ ?_
      refine w_lreturn (pc' := 27) ⟨rfl, rfl⟩ ?_
      refine zql k ?_
      unfold zcar
      (try unfold zoR)
      (try unfold zoW)
      repeat' split
      all_goals first | rfl | (exfalso; omega) | simp_all
  · refine w_lload_n (pc' := 6) ⟨rfl, rfl⟩ rfl ?_
    refine w_iload_n (pc' := 7) ⟨rfl, rfl⟩ rfl ?_
    refine w_cs2 (pc' := 10) ⟨rfl, rfl⟩ (by decide) (Nat.le_of_ble_eq_true rfl) (Nat.le_of_ble_eq_true rfl) (r_cast (by omega) ?_)
    refine w_lreturn (pc' := 11) ⟨rfl, rfl⟩ ?_
    refine zql k ?_
    unfold zcar
    (try unfold zoR)
    (try unfold zoW)
    repeat' split
    all_goals first | rfl | (exfalso; omega) | simp_all
theorem r_widened {σ : zSt} {v : Int64} {a b : Int} (ha : 0 ≤ a ∧ a ≤ 8) (hb : 0 ≤ b ∧ b ≤ 8) (hv : zok a v) (hg : zgi a b) {Q : zSt → Option Value → Prop} (k : Q σ (some (.long (zcar v a b)))) : zCa 235 [.ref 164, .long v, .int (iZ a), .int (iZ b)] σ Q := by
  refine w_enter (c := zk_X12_widened) (ls2 := [(0, .ref 164), (1, .long v), (3, .int (iZ a)), (4, .int (iZ b))]) rfl ⟨rfl, rfl, rfl, rfl, trivial⟩ ?_
  refine w_iload_n (pc' := 1) ⟨rfl, rfl⟩ rfl ?_
  refine w_iload (pc' := 3) ⟨rfl, rfl⟩ rfl ?_
  refine w_ic_eq (pc' := 6) (pcT := 16) ⟨rfl, rfl⟩ rfl (by omega) (by omega) (fun h1 => ?_) (fun h1 => ?_)
  · refine w_lload_n (pc' := 17) ⟨rfl, rfl⟩ rfl ?_
    refine w_goto (pc' := 20) (pcT := 27) ⟨rfl, rfl⟩ rfl ?_
    refine w_lreturn (pc' := 28) ⟨rfl, rfl⟩ ?_
    first | exact k | (exact zql k (by unfold zcar; rw [if_pos (by omega)]))
  · refine w_iload_n (pc' := 7) ⟨rfl, rfl⟩ rfl ?_
    refine w_if_eq (pc' := 10) (pcT := 16) ⟨rfl, rfl⟩ rfl (by omega) (fun h2 => ?_) (fun h2 => ?_)
    · refine w_lload_n (pc' := 17) ⟨rfl, rfl⟩ rfl ?_
      refine w_goto (pc' := 20) (pcT := 27) ⟨rfl, rfl⟩ rfl ?_
      refine w_lreturn (pc' := 28) ⟨rfl, rfl⟩ ?_
      first | exact k | (exact zql k (by unfold zcar; rw [if_pos (by omega)]))
    · refine w_iload_n (pc' := 11) ⟨rfl, rfl⟩ rfl ?_
      refine w_bi (pc' := 13) ⟨rfl, rfl⟩ (by decide) ?_
      refine w_ic_ne (pc' := 16) (pcT := 20) ⟨rfl, rfl⟩ rfl (by omega) (by omega) (fun h3 => ?_) (fun h3 => ?_)
      · refine w_lload_n (pc' := 21) ⟨rfl, rfl⟩ rfl ?_
        refine w_iload_n (pc' := 22) ⟨rfl, rfl⟩ rfl ?_
        refine w_iload (pc' := 24) ⟨rfl, rfl⟩ rfl ?_
        refine w_cs3 (pc' := 27) ⟨rfl, rfl⟩ (by decide) (Nat.le_of_ble_eq_true rfl) (Nat.le_of_ble_eq_true rfl) (r_castFrom (by omega) (by omega) (by assumption) (by omega) (by omega) (by omega) (by omega) ?_)
        refine w_lreturn (pc' := 28) ⟨rfl, rfl⟩ ?_
        first | exact k | (exact zql k (by unfold zcar; rw [if_pos (by omega)]))
      · refine w_lload_n (pc' := 17) ⟨rfl, rfl⟩ rfl ?_
        refine w_goto (pc' := 20) (pcT := 27) ⟨rfl, rfl⟩ rfl ?_
        refine w_lreturn (pc' := 28) ⟨rfl, rfl⟩ ?_
        first | exact k | (exact zql k (by unfold zcar; rw [if_pos (by omega)]))
theorem r_narrowed {σ : zSt} {v : Int64} {a b : Int} (ha : 0 ≤ a ∧ a ≤ 8) (hb : 0 ≤ b ∧ b ≤ 8) (hv : zok a v) (hg : ¬ zgi a b) {Q : zSt → Option Value → Prop} (k : Q σ (some (.long (zcar v a b)))) : zCa 240 [.ref 164, .long v, .int (iZ a), .int (iZ b)] σ Q := by
  refine w_enter (c := zk_X12_narrowed) (ls2 := [(0, .ref 164), (1, .long v), (3, .int (iZ a)), (4, .int (iZ b))]) rfl ⟨rfl, rfl, rfl, rfl, trivial⟩ ?_
  refine w_iload (pc' := 2) ⟨rfl, rfl⟩ rfl ?_
  refine w_if_ne (pc' := 5) (pcT := 71) ⟨rfl, rfl⟩ rfl (by omega) (fun h1 => ?_) (fun h1 => ?_)
  · refine w_iload (pc' := 73) ⟨rfl, rfl⟩ rfl ?_
    refine w_bi (pc' := 75) ⟨rfl, rfl⟩ (by decide) ?_
    refine w_ic_ne (pc' := 78) (pcT := 117) ⟨rfl, rfl⟩ rfl (by omega) (by omega) (fun h2 => ?_) (fun h2 => ?_)
    · refine w_iload_n (pc' := 118) ⟨rfl, rfl⟩ rfl ?_
      refine w_bi (pc' := 120) ⟨rfl, rfl⟩ (by decide) ?_
      refine w_ic_ne (pc' := 123) (pcT := 136) ⟨rfl, rfl⟩ rfl (by omega) (by omega) (fun h3 => ?_) (fun h3 => ?_)
      · refine w_lload_n (pc' := 137) ⟨rfl, rfl⟩ rfl ?_
        refine w_iload_n (pc' := 138) ⟨rfl, rfl⟩ rfl ?_
        refine w_iload (pc' := 140) ⟨rfl, rfl⟩ rfl ?_
        refine w_cs3 (pc' := 143) ⟨rfl, rfl⟩ (by decide) (Nat.le_of_ble_eq_true rfl) (Nat.le_of_ble_eq_true rfl) (r_castFrom (by omega) (by omega) (by assumption) (by omega) (by omega) (by omega) (by omega) ?_)
        refine w_lreturn (pc' := 144) ⟨rfl, rfl⟩ ?_
        refine zql k ?_
        unfold zcar
        (try unfold zoR)
        (try unfold zoW)
        repeat' split
        all_goals first | rfl | (exfalso; omega) | simp_all
      · refine w_lload_n (pc' := 124) ⟨rfl, rfl⟩ rfl ?_
        obtain rfl : a = 8 := by omega
        obtain ⟨n, w, hn, hw, rfl, hwr⟩ := zok8 hv
        have hwt : (lZ w).toInt = w := lZ_to (by omega)
        have hw0 : lZ w = lZ 0 ↔ w = 0 := lZ_inj (by omega) (by omega)
        refine w_cs1 (pc' := 127) ⟨rfl, rfl⟩ (by decide) (Nat.le_of_ble_eq_true rfl) (Nat.le_of_ble_eq_true rfl) (r_wordOf ?_)
        rw [if_neg (show ¬ lZ w = lZ (-1) from fun q => by have := (lZ_inj (by omega) (by omega)).mp q; omega)]
        refine w_cs1 (pc' := 130) ⟨rfl, rfl⟩ (by decide) (Nat.le_of_ble_eq_true rfl) (Nat.le_of_ble_eq_true rfl) (r_read (by omega) hw hn ?_)
        refine w_iload (pc' := 132) ⟨rfl, rfl⟩ rfl ?_
        refine w_cs2 (pc' := 135) ⟨rfl, rfl⟩ (by decide) (Nat.le_of_ble_eq_true rfl) (Nat.le_of_ble_eq_true rfl) (r_cast (by omega) ?_)
        refine w_lreturn (pc' := 136) ⟨rfl, rfl⟩ ?_
        refine zql k ?_
        unfold zcar
        (try unfold zoR)
        (try unfold zoW)
        repeat' split
        all_goals first | rfl | (exfalso; omega) | simp_all
    · refine w_iload_n (pc' := 79) ⟨rfl, rfl⟩ rfl ?_
      refine w_if_ne (pc' := 82) (pcT := 98) ⟨rfl, rfl⟩ rfl (by omega) (fun h3 => ?_) (fun h3 => ?_)
      · refine w_iload_n (pc' := 99) ⟨rfl, rfl⟩ rfl ?_
        refine w_ic (pc' := 100) ⟨rfl, rfl⟩ ?_
        refine w_ic_gt (pc' := 103) (pcT := 107) ⟨rfl, rfl⟩ rfl (by omega) (by omega) (fun h4 => ?_) (fun h4 => ?_)
        · refine w_lload_n (pc' := 108) ⟨rfl, rfl⟩ rfl ?_
          refine w_iload_n (pc' := 109) ⟨rfl, rfl⟩ rfl ?_
          refine w_cs2 (pc' := 112) ⟨rfl, rfl⟩ (by decide) (Nat.le_of_ble_eq_true rfl) (Nat.le_of_ble_eq_true rfl) (r_real (by omega) (by assumption) ?_)
          refine w_d2l (pc' := 113) ⟨rfl, rfl⟩ ?_
          refine w_topL (lZ_of _) ?_
          refine w_cs1 (pc' := 116) ⟨rfl, rfl⟩ (by decide) (Nat.le_of_ble_eq_true rfl) (Nat.le_of_ble_eq_true rfl) (r_spelled (iZ64 _) ?_)
          refine w_lreturn (pc' := 117) ⟨rfl, rfl⟩ ?_
          refine zql k ?_
          unfold zcar
          (try unfold zoR)
          (try unfold zoW)
          repeat' split
          all_goals first | rfl | (exfalso; omega) | simp_all
        · refine w_lload_n (pc' := 104) ⟨rfl, rfl⟩ rfl ?_
          refine w_goto (pc' := 107) (pcT := 113) ⟨rfl, rfl⟩ rfl ?_
          refine w_topL (lZ_of _) ?_
          refine w_cs1 (pc' := 116) ⟨rfl, rfl⟩ (by decide) (Nat.le_of_ble_eq_true rfl) (Nat.le_of_ble_eq_true rfl) (r_spelled (iZ64 _) ?_)
          refine w_lreturn (pc' := 117) ⟨rfl, rfl⟩ ?_
          refine zql k ?_
          unfold zcar
          (try unfold zoR)
          (try unfold zoW)
          repeat' split
          all_goals first | rfl | (exfalso; omega) | simp_all
      · refine w_lload_n (pc' := 83) ⟨rfl, rfl⟩ rfl ?_
        refine w_lc (pc' := 84) (z := 1) ⟨rfl, rfl⟩ rfl ?_
        refine w_lcmp (pc' := 85) ⟨rfl, rfl⟩ ?_
        refine w_ifc_ne (pc' := 88) (pcT := 94) ⟨rfl, rfl⟩ rfl (fun h4 => ?_) (fun h4 => ?_)
        · refine w_lc (pc' := 95) (z := 1) ⟨rfl, rfl⟩ rfl ?_
          refine w_goto (pc' := 98) (pcT := 116) ⟨rfl, rfl⟩ rfl ?_
          refine w_lreturn (pc' := 117) ⟨rfl, rfl⟩ ?_
          refine zql k ?_
          unfold zcar
          (try unfold zoR)
          (try unfold zoW)
          repeat' split
          all_goals first | rfl | (exfalso; omega) | simp_all
        · refine w_ldc2Y (pc' := 91) (z := 2) ⟨rfl, rfl⟩ rfl ?_
          refine w_goto (pc' := 94) (pcT := 116) ⟨rfl, rfl⟩ rfl ?_
          refine w_lreturn (pc' := 117) ⟨rfl, rfl⟩ ?_
          refine zql k ?_
          unfold zcar
          (try unfold zoR)
          (try unfold zoW)
          repeat' split
          all_goals first | rfl | (exfalso; omega) | simp_all
  · refine w_iload_n (pc' := 6) ⟨rfl, rfl⟩ rfl ?_
    refine w_bi (pc' := 8) ⟨rfl, rfl⟩ (by decide) ?_
    refine w_ic_ne (pc' := 11) (pcT := 32) ⟨rfl, rfl⟩ rfl (by omega) (by omega) (fun h2 => ?_) (fun h2 => ?_)
    · refine w_iload_n (pc' := 33) ⟨rfl, rfl⟩ rfl ?_
      refine w_ic (pc' := 34) ⟨rfl, rfl⟩ ?_
      refine w_ic_gt (pc' := 37) (pcT := 51) ⟨rfl, rfl⟩ rfl (by omega) (by omega) (fun h3 => ?_) (fun h3 => ?_)
      · refine w_lload_n (pc' := 52) ⟨rfl, rfl⟩ rfl ?_
        refine w_iload_n (pc' := 53) ⟨rfl, rfl⟩ rfl ?_
        refine w_cs2 (pc' := 56) ⟨rfl, rfl⟩ (by decide) (Nat.le_of_ble_eq_true rfl) (Nat.le_of_ble_eq_true rfl) (r_real (by omega) (by assumption) ?_)
        refine w_dconst0 (pc' := 57) ⟨rfl, rfl⟩ ?_
        refine w_dcmp (pc' := 58) ⟨rfl, rfl⟩ ?_
        refine w_ifI_eq (pc' := 61) (pcT := 65) ⟨rfl, rfl⟩ rfl (fun h4 => ?_) (fun h4 => ?_)
        · refine w_ic (pc' := 66) ⟨rfl, rfl⟩ ?_
          refine w_cs1 (pc' := 69) ⟨rfl, rfl⟩ (by decide) (Nat.le_of_ble_eq_true rfl) (Nat.le_of_ble_eq_true rfl) (r_flag (by omega) ?_)
          refine w_i2lZ (pc' := 70) ⟨rfl, rfl⟩ (by omega) ?_
          refine w_lreturn (pc' := 71) ⟨rfl, rfl⟩ ?_
          refine zql k ?_
          unfold zcar
          (try unfold zoR)
          (try unfold zoW)
          repeat' split
          all_goals first | rfl | (exfalso; omega) | simp_all
        · refine w_ic (pc' := 62) ⟨rfl, rfl⟩ ?_
          refine w_goto (pc' := 65) (pcT := 66) ⟨rfl, rfl⟩ rfl ?_
          refine w_cs1 (pc' := 69) ⟨rfl, rfl⟩ (by decide) (Nat.le_of_ble_eq_true rfl) (Nat.le_of_ble_eq_true rfl) (r_flag (by omega) ?_)
          refine w_i2lZ (pc' := 70) ⟨rfl, rfl⟩ (by omega) ?_
          refine w_lreturn (pc' := 71) ⟨rfl, rfl⟩ ?_
          refine zql k ?_
          unfold zcar
          (try unfold zoR)
          (try unfold zoW)
          repeat' split
          all_goals first | rfl | (exfalso; omega) | simp_all
      · refine w_lload_n (pc' := 38) ⟨rfl, rfl⟩ rfl ?_
        refine w_lc (pc' := 39) (z := 0) ⟨rfl, rfl⟩ rfl ?_
        refine w_lcmp (pc' := 40) ⟨rfl, rfl⟩ ?_
        refine w_ifc_eq (pc' := 43) (pcT := 47) ⟨rfl, rfl⟩ rfl (fun h4 => ?_) (fun h4 => ?_)
        · refine w_ic (pc' := 48) ⟨rfl, rfl⟩ ?_
          refine w_goto (pc' := 51) (pcT := 66) ⟨rfl, rfl⟩ rfl ?_
          refine w_cs1 (pc' := 69) ⟨rfl, rfl⟩ (by decide) (Nat.le_of_ble_eq_true rfl) (Nat.le_of_ble_eq_true rfl) (r_flag (by omega) ?_)
          refine w_i2lZ (pc' := 70) ⟨rfl, rfl⟩ (by omega) ?_
          refine w_lreturn (pc' := 71) ⟨rfl, rfl⟩ ?_
          refine zql k ?_
          unfold zcar
          (try unfold zoR)
          (try unfold zoW)
          repeat' split
          all_goals first | rfl | (exfalso; omega) | simp_all
        · refine w_ic (pc' := 44) ⟨rfl, rfl⟩ ?_
          refine w_goto (pc' := 47) (pcT := 66) ⟨rfl, rfl⟩ rfl ?_
          refine w_cs1 (pc' := 69) ⟨rfl, rfl⟩ (by decide) (Nat.le_of_ble_eq_true rfl) (Nat.le_of_ble_eq_true rfl) (r_flag (by omega) ?_)
          refine w_i2lZ (pc' := 70) ⟨rfl, rfl⟩ (by omega) ?_
          refine w_lreturn (pc' := 71) ⟨rfl, rfl⟩ ?_
          refine zql k ?_
          unfold zcar
          (try unfold zoR)
          (try unfold zoW)
          repeat' split
          all_goals first | rfl | (exfalso; omega) | simp_all
    · refine w_lload_n (pc' := 12) ⟨rfl, rfl⟩ rfl ?_
      obtain rfl : a = 8 := by omega
      obtain ⟨n, w, hn, hw, rfl, hwr⟩ := zok8 hv
      have hwt : (lZ w).toInt = w := lZ_to (by omega)
      have hw0 : lZ w = lZ 0 ↔ w = 0 := lZ_inj (by omega) (by omega)
      refine w_cs1 (pc' := 15) ⟨rfl, rfl⟩ (by decide) (Nat.le_of_ble_eq_true rfl) (Nat.le_of_ble_eq_true rfl) (r_wordOf ?_)
      rw [if_neg (show ¬ lZ w = lZ (-1) from fun q => by have := (lZ_inj (by omega) (by omega)).mp q; omega)]
      refine w_lc (pc' := 16) (z := 0) ⟨rfl, rfl⟩ rfl ?_
      refine w_lcmp (pc' := 17) ⟨rfl, rfl⟩ ?_
      refine w_ify_eq (pc' := 20) (pcT := 24) ⟨rfl, rfl⟩ rfl (by omega) (by omega) (fun h3 => ?_) (fun h3 => ?_)
      · refine w_ic (pc' := 25) ⟨rfl, rfl⟩ ?_
        refine w_cs1 (pc' := 28) ⟨rfl, rfl⟩ (by decide) (Nat.le_of_ble_eq_true rfl) (Nat.le_of_ble_eq_true rfl) (r_flag (by omega) ?_)
        refine w_i2lZ (pc' := 29) ⟨rfl, rfl⟩ (by omega) ?_
        refine w_goto (pc' := 32) (pcT := 70) ⟨rfl, rfl⟩ rfl ?_
        refine w_lreturn (pc' := 71) ⟨rfl, rfl⟩ ?_
        refine zql k ?_
        unfold zcar
        (try unfold zoR)
        (try unfold zoW)
        repeat' split
        all_goals first | rfl | (exfalso; omega) | simp_all
      · refine w_ic (pc' := 21) ⟨rfl, rfl⟩ ?_
        refine w_goto (pc' := 24) (pcT := 25) ⟨rfl, rfl⟩ rfl ?_
        refine w_cs1 (pc' := 28) ⟨rfl, rfl⟩ (by decide) (Nat.le_of_ble_eq_true rfl) (Nat.le_of_ble_eq_true rfl) (r_flag (by omega) ?_)
        refine w_i2lZ (pc' := 29) ⟨rfl, rfl⟩ (by omega) ?_
        refine w_goto (pc' := 32) (pcT := 70) ⟨rfl, rfl⟩ rfl ?_
        refine w_lreturn (pc' := 71) ⟨rfl, rfl⟩ ?_
        refine zql k ?_
        unfold zcar
        (try unfold zoR)
        (try unfold zoW)
        repeat' split
        all_goals first | rfl | (exfalso; omega) | simp_all
theorem r_carried {σ : zSt} (hF : zFx σ) (hW : zWid σ) {v : Int64} {a b : Nat} (ha : a ≤ 8) (hb : b ≤ 8) (hv : zok a v) {Q : zSt → Option Value → Prop} (k : Q σ (some (.long (zcar v a b)))) : zCa 241 [.ref 164, .long v, .int (iZ a), .int (iZ b)] σ Q := by
  refine w_enter (c := zk_X12_carried) (ls2 := [(0, .ref 164), (1, .long v), (3, .int (iZ a)), (4, .int (iZ b))]) rfl ⟨rfl, rfl, rfl, rfl, trivial⟩ ?_
  refine w_aload_n (pc' := 1) ⟨rfl, rfl⟩ rfl ?_
  refine w_iload_n (pc' := 2) ⟨rfl, rfl⟩ rfl ?_
  refine w_iload (pc' := 4) ⟨rfl, rfl⟩ rfl ?_
  refine w_cv3 (pc' := 7) ⟨rfl, rfl⟩ (by decide) (zOl hF rfl) (Nat.le_of_ble_eq_true rfl) (Nat.le_of_ble_eq_true rfl) (r_doesWiden hF hW (by omega) (by omega) (fun h => ?_) (fun h => ?_))
  · refine w_ifF_eq (pc' := 10) ⟨rfl, rfl⟩ (by decide) ?_
    refine w_aload_n (pc' := 11) ⟨rfl, rfl⟩ rfl ?_
    refine w_iload_n (pc' := 12) ⟨rfl, rfl⟩ rfl ?_
    refine w_bi (pc' := 14) ⟨rfl, rfl⟩ (by decide) ?_
    refine w_ic_ne (pc' := 17) (pcT := 24) ⟨rfl, rfl⟩ rfl (by omega) (by omega) (fun h1 => ?_) (fun h1 => ?_)
    · refine w_lload_n (pc' := 25) ⟨rfl, rfl⟩ rfl ?_
      refine w_iload_n (pc' := 26) ⟨rfl, rfl⟩ rfl ?_
      refine w_iload (pc' := 28) ⟨rfl, rfl⟩ rfl ?_
      refine w_cv4 (pc' := 31) ⟨rfl, rfl⟩ (by decide) (zOl hF rfl) (Nat.le_of_ble_eq_true rfl) (Nat.le_of_ble_eq_true rfl) (r_widened (by omega) (by omega) (by assumption) (by omega) ?_)
      refine w_goto (pc' := 34) (pcT := 42) ⟨rfl, rfl⟩ rfl ?_
      refine w_lreturn (pc' := 43) ⟨rfl, rfl⟩ ?_
      exact k
    · refine w_lload_n (pc' := 18) ⟨rfl, rfl⟩ rfl ?_
      obtain rfl : a = 8 := by omega
      obtain ⟨n, w, hn, hw, rfl, hwr⟩ := zok8 hv
      have hwt : (lZ w).toInt = w := lZ_to (by omega)
      have hw0 : lZ w = lZ 0 ↔ w = 0 := lZ_inj (by omega) (by omega)
      refine w_cs1 (pc' := 21) ⟨rfl, rfl⟩ (by decide) (Nat.le_of_ble_eq_true rfl) (Nat.le_of_ble_eq_true rfl) (r_wordOf ?_)
      rw [if_neg (show ¬ lZ w = lZ (-1) from fun q => by have := (lZ_inj (by omega) (by omega)).mp q; omega)]
      refine w_goto (pc' := 24) (pcT := 25) ⟨rfl, rfl⟩ rfl ?_
      refine w_iload_n (pc' := 26) ⟨rfl, rfl⟩ rfl ?_
      refine w_iload (pc' := 28) ⟨rfl, rfl⟩ rfl ?_
      refine w_cv4 (pc' := 31) ⟨rfl, rfl⟩ (by decide) (zOl hF rfl) (Nat.le_of_ble_eq_true rfl) (Nat.le_of_ble_eq_true rfl) (r_widened (by omega) (by omega) (by assumption) (by omega) ?_)
      refine w_goto (pc' := 34) (pcT := 42) ⟨rfl, rfl⟩ rfl ?_
      refine w_lreturn (pc' := 43) ⟨rfl, rfl⟩ ?_
      exact k
  · refine w_ifT_eq (pc' := 10) (pcT := 34) ⟨rfl, rfl⟩ rfl (by decide) ?_
    refine w_aload_n (pc' := 35) ⟨rfl, rfl⟩ rfl ?_
    refine w_lload_n (pc' := 36) ⟨rfl, rfl⟩ rfl ?_
    refine w_iload_n (pc' := 37) ⟨rfl, rfl⟩ rfl ?_
    refine w_iload (pc' := 39) ⟨rfl, rfl⟩ rfl ?_
    refine w_cv4 (pc' := 42) ⟨rfl, rfl⟩ (by decide) (zOl hF rfl) (Nat.le_of_ble_eq_true rfl) (Nat.le_of_ble_eq_true rfl) (r_narrowed (by omega) (by omega) (by assumption) (by omega) ?_)
    refine w_lreturn (pc' := 43) ⟨rfl, rfl⟩ ?_
    exact k
