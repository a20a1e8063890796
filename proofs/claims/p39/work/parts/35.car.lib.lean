/-! of whole, what this claim takes: 35.car.lean.txt -/
def zcar (v : Int64) (a b : Int) : Int64 := if a = b then v else if a = 0 ∧ b = 8 then (if v = lZ 1 then lZ 2 else lZ 1) else if a = 6 ∨ a = 7 then zoR (zrl v a) b else if a = 8 then (if b = 0 then zoW v 0 else zoW (lZ (zread v.toInt)) b) else zoW v b
theorem zok8 {v : Int64} (h : zok 8 v) : ∃ n a, n ≤ 8 ∧ zwf n a ∧ v = lZ a ∧ (0 ≤ a ∧ a ≤ 1099511627775) := by
  obtain ⟨n, a, h1, h2, h3⟩ := h.2.2.2 rfl
  exact ⟨n, a, h1, h2, h3, zwf_rng h2 h1⟩
theorem c_changed {σ : zSt} {v : Int64} {a b : Int} (ha : 0 ≤ a ∧ a ≤ 8) (hb : 0 ≤ b ∧ b ≤ 8) (hv : zok a v) {Q : zSt → Option Value → Prop} (k : Q σ (some (.long (zcar v a b)))) : zCa 32 [.int (iZ a), .long v, .int (iZ b)] σ Q := by
  refine w_enter (c := zk_X2_changed) (ls2 := [(0, .int (iZ a)), (1, .long v), (3, .int (iZ b))]) rfl ⟨rfl, rfl, rfl, trivial⟩ ?_
  refine w_iload_n (pc' := 1) ⟨rfl, rfl⟩ rfl ?_
  refine w_iload_n (pc' := 2) ⟨rfl, rfl⟩ rfl ?_
  refine w_ic_ne (pc' := 5) (pcT := 7) ⟨rfl, rfl⟩ rfl (by omega) (by omega) (fun h1 => ?_) (fun h1 => ?_)
  · refine w_iload_n (pc' := 8) ⟨rfl, rfl⟩ rfl ?_
    refine w_if_ne (pc' := 11) (pcT := 21) ⟨rfl, rfl⟩ rfl (by omega) (fun h2 => ?_) (fun h2 => ?_)
    · refine w_iload_n (pc' := 22) ⟨rfl, rfl⟩ rfl ?_
      refine w_cs1 (pc' := 25) ⟨rfl, rfl⟩ (by decide) (Nat.le_of_ble_eq_true rfl) (Nat.le_of_ble_eq_true rfl) (c_isReal (by omega) (fun h => ?_) (fun h => ?_))
      · refine w_ifF_eq (pc' := 28) ⟨rfl, rfl⟩ (by decide) ?_
        refine w_lload_n (pc' := 29) ⟨rfl, rfl⟩ rfl ?_
        refine w_iload_n (pc' := 30) ⟨rfl, rfl⟩ rfl ?_
        refine w_cs2 (pc' := 33) ⟨rfl, rfl⟩ (by decide) (Nat.le_of_ble_eq_true rfl) (Nat.le_of_ble_eq_true rfl) (c_fromB (by omega) (by assumption) ?_)
        refine w_iload_n (pc' := 34) ⟨rfl, rfl⟩ rfl ?_
        refine w_cs2 (pc' := 37) ⟨rfl, rfl⟩ (by decide) (Nat.le_of_ble_eq_true rfl) (Nat.le_of_ble_eq_true rfl) (c_ofReal (zrl_b hv) (by omega) ?_)
        refine w_lreturn (pc' := 38) ⟨rfl, rfl⟩ ?_
        refine zql k ?_
        unfold zcar
        (try unfold zoR)
        (try unfold zoW)
        repeat' split
        all_goals first | rfl | (exfalso; omega) | simp_all
      · refine w_ifT_eq (pc' := 28) (pcT := 38) ⟨rfl, rfl⟩ rfl (by decide) ?_
        refine w_iload_n (pc' := 39) ⟨rfl, rfl⟩ rfl ?_
        refine w_bi (pc' := 41) ⟨rfl, rfl⟩ (by decide) ?_
        refine w_ic_ne (pc' := 44) (pcT := 65) ⟨rfl, rfl⟩ rfl (by omega) (by omega) (fun h3 => ?_) (fun h3 => ?_)
        · refine w_lload_n (pc' := 66) ⟨rfl, rfl⟩ rfl ?_
          refine w_iload_n (pc' := 67) ⟨rfl, rfl⟩ rfl ?_
          refine w_cs2 (pc' := 70) ⟨rfl, rfl⟩ (by decide) (Nat.le_of_ble_eq_true rfl) (Nat.le_of_ble_eq_true rfl) (c_ofWhole (by omega) ?_)
          refine w_lreturn (pc' := 71) ⟨rfl, rfl⟩ ?_
          refine zql k ?_
          unfold zcar
          (try unfold zoR)
          (try unfold zoW)
          repeat' split
          all_goals first | rfl | (exfalso; omega) | simp_all
        · refine w_iload_n (pc' := 45) ⟨rfl, rfl⟩ rfl ?_
          refine w_if_ne (pc' := 48) (pcT := 56) ⟨rfl, rfl⟩ rfl (by omega) (fun h4 => ?_) (fun h4 => ?_)
          · refine w_lload_n (pc' := 57) ⟨rfl, rfl⟩ rfl ?_
            obtain rfl : a = 8 := by omega
            obtain ⟨n, w, hn, hw, rfl, hwr⟩ := zok8 hv
            have hwt : (lZ w).toInt = w := lZ_to (by omega)
            have hw0 : lZ w = lZ 0 ↔ w = 0 := lZ_inj (by omega) (by omega)
            refine w_cs1 (pc' := 60) ⟨rfl, rfl⟩ (by decide) (Nat.le_of_ble_eq_true rfl) (Nat.le_of_ble_eq_true rfl) (c_wholeOfWord (by omega) ?_)
            refine w_iload_n (pc' := 61) ⟨rfl, rfl⟩ rfl ?_
            refine w_cs2 (pc' := 64) ⟨rfl, rfl⟩ (by decide) (Nat.le_of_ble_eq_true rfl) (Nat.le_of_ble_eq_true rfl) (c_ofWhole (by omega) ?_)
            refine w_lreturn (pc' := 65) ⟨rfl, rfl⟩ ?_
            refine zql k ?_
            unfold zcar
            (try unfold zoR)
            (try unfold zoW)
            repeat' split
            all_goals first | rfl | (exfalso; omega) | simp_all
          · refine w_lload_n (pc' := 49) ⟨rfl, rfl⟩ rfl ?_
            refine w_ic (pc' := 50) ⟨rfl, rfl⟩ ?_
            refine w_cs2 (pc' := 53) ⟨rfl, rfl⟩ (by decide) (Nat.le_of_ble_eq_true rfl) (Nat.le_of_ble_eq_true rfl) (c_ofWhole (by omega) ?_)
            refine w_goto (pc' := 56) (pcT := 64) ⟨rfl, rfl⟩ rfl ?_
            refine w_lreturn (pc' := 65) ⟨rfl, rfl⟩ ?_
            refine zql k ?_
            unfold zcar
            (try unfold zoR)
            (try unfold zoW)
            repeat' split
            all_goals first | rfl | (exfalso; omega) | simp_all
    · refine w_iload_n (pc' := 12) ⟨rfl, rfl⟩ rfl ?_
      refine w_bi (pc' := 14) ⟨rfl, rfl⟩ (by decide) ?_
      refine w_ic_ne (pc' := 17) (pcT := 21) ⟨rfl, rfl⟩ rfl (by omega) (by omega) (fun h3 => ?_) (fun h3 => ?_)
      · refine w_iload_n (pc' := 22) ⟨rfl, rfl⟩ rfl ?_
        refine w_cs1 (pc' := 25) ⟨rfl, rfl⟩ (by decide) (Nat.le_of_ble_eq_true rfl) (Nat.le_of_ble_eq_true rfl) (c_isReal (by omega) (fun h => ?_) (fun h => ?_))
        · refine w_ifF_eq (pc' := 28) ⟨rfl, rfl⟩ (by decide) ?_
          refine w_lload_n (pc' := 29) ⟨rfl, rfl⟩ rfl ?_
          refine w_iload_n (pc' := 30) ⟨rfl, rfl⟩ rfl ?_
          refine w_cs2 (pc' := 33) ⟨rfl, rfl⟩ (by decide) (Nat.le_of_ble_eq_true rfl) (Nat.le_of_ble_eq_true rfl) (c_fromB (by omega) (by assumption) ?_)
          refine w_iload_n (pc' := 34) ⟨rfl, rfl⟩ rfl ?_
          refine w_cs2 (pc' := 37) ⟨rfl, rfl⟩ (by decide) (Nat.le_of_ble_eq_true rfl) (Nat.le_of_ble_eq_true rfl) (c_ofReal (zrl_b hv) (by omega) ?_)
          refine w_lreturn (pc' := 38) ⟨rfl, rfl⟩ ?_
          refine zql k ?_
          unfold zcar
          (try unfold zoR)
          (try unfold zoW)
          repeat' split
          all_goals first | rfl | (exfalso; omega) | simp_all
        · refine w_ifT_eq (pc' := 28) (pcT := 38) ⟨rfl, rfl⟩ rfl (by decide) ?_
          refine w_iload_n (pc' := 39) ⟨rfl, rfl⟩ rfl ?_
          refine w_bi (pc' := 41) ⟨rfl, rfl⟩ (by decide) ?_
          refine w_ic_ne (pc' := 44) (pcT := 65) ⟨rfl, rfl⟩ rfl (by omega) (by omega) (fun h4 => ?_) (fun h4 => ?_)
          · refine w_lload_n (pc' := 66) ⟨rfl, rfl⟩ rfl ?_
            refine w_iload_n (pc' := 67) ⟨rfl, rfl⟩ rfl ?_
            refine w_cs2 (pc' := 70) ⟨rfl, rfl⟩ (by decide) (Nat.le_of_ble_eq_true rfl) (Nat.le_of_ble_eq_true rfl) (c_ofWhole (by omega) ?_)
            refine w_lreturn (pc' := 71) ⟨rfl, rfl⟩ ?_
            refine zql k ?_
            unfold zcar
            (try unfold zoR)
            (try unfold zoW)
            repeat' split
            all_goals first | rfl | (exfalso; omega) | simp_all
          · refine w_iload_n (pc' := 45) ⟨rfl, rfl⟩ rfl ?_
            refine w_if_ne (pc' := 48) (pcT := 56) ⟨rfl, rfl⟩ rfl (by omega) (fun h5 => ?_) (fun h5 => ?_)
            · refine w_lload_n (pc' := 57) ⟨rfl, rfl⟩ rfl ?_
              obtain rfl : a = 8 := by omega
              obtain ⟨n, w, hn, hw, rfl, hwr⟩ := zok8 hv
              have hwt : (lZ w).toInt = w := lZ_to (by omega)
              have hw0 : lZ w = lZ 0 ↔ w = 0 := lZ_inj (by omega) (by omega)
              refine w_cs1 (pc' := 60) ⟨rfl, rfl⟩ (by decide) (Nat.le_of_ble_eq_true rfl) (Nat.le_of_ble_eq_true rfl) (c_wholeOfWord (by omega) ?_)
              refine w_iload_n (pc' := 61) ⟨rfl, rfl⟩ rfl ?_
              refine w_cs2 (pc' := 64) ⟨rfl, rfl⟩ (by decide) (Nat.le_of_ble_eq_true rfl) (Nat.le_of_ble_eq_true rfl) (c_ofWhole (by omega) ?_)
              refine w_lreturn (pc' := 65) ⟨rfl, rfl⟩ ?_
              refine zql k ?_
              unfold zcar
              (try unfold zoR)
              (try unfold zoW)
              repeat' split
              all_goals first | rfl | (exfalso; omega) | simp_all
            · refine w_lload_n (pc' := 49) ⟨rfl, rfl⟩ rfl ?_
              refine w_ic (pc' := 50) ⟨rfl, rfl⟩ ?_
              refine w_cs2 (pc' := 53) ⟨rfl, rfl⟩ (by decide) (Nat.le_of_ble_eq_true rfl) (Nat.le_of_ble_eq_true rfl) (c_ofWhole (by omega) ?_)
              refine w_goto (pc' := 56) (pcT := 64) ⟨rfl, rfl⟩ rfl ?_
              refine w_lreturn (pc' := 65) ⟨rfl, rfl⟩ ?_
              refine zql k ?_
              unfold zcar
              (try unfold zoR)
              (try unfold zoW)
              repeat' split
              all_goals first | rfl | (exfalso; omega) | simp_all
      · refine w_lload_n (pc' := 18) ⟨rfl, rfl⟩ rfl ?_
        refine w_lc (pc' := 19) (z := 1) ⟨rfl, rfl⟩ rfl ?_
        obtain rfl : a = 0 := by omega
        obtain rfl : b = 8 := by omega
        refine w_ladd (pc' := 20) ⟨rfl, rfl⟩ ?_
        refine w_topL (y := zcar v 0 8) (by rcases hv.1 rfl with rfl | rfl <;> decide) ?_
        refine w_lreturn (pc' := 21) ⟨rfl, rfl⟩ ?_
        exact k
  · refine w_lload_n (pc' := 6) ⟨rfl, rfl⟩ rfl ?_
    refine w_lreturn (pc' := 7) ⟨rfl, rfl⟩ ?_
    refine zql k ?_
    unfold zcar
    (try unfold zoR)
    (try unfold zoW)
    repeat' split
    all_goals first | rfl | (exfalso; omega) | simp_all
def zthg (x : Int64) (k : Int) : Int64 := if k = 9 then x.toInt32.toInt64 else if k = 10 then lZ 0 else ztold x k
theorem c_told {σ : zSt} {x : Int64} {kd : Int} (hk : 0 ≤ kd ∧ kd ≤ 10) {Q : zSt → Option Value → Prop} (k : Q σ (some (.long (zthg x kd)))) : zCa 30 [.int (iZ kd), .long x] σ Q := by
  refine w_enter (c := zk_X2_told) (ls2 := [(0, .int (iZ kd)), (1, .long x)]) rfl ⟨rfl, rfl, trivial⟩ ?_
  refine w_iload_n (pc' := 1) ⟨rfl, rfl⟩ rfl ?_
  rcases Classical.em (kd < 6 ∨ 10 < kd) with hs | hs
  · refine w_tsOutZ (pc' := 36) (pcT := 71) ⟨rfl, rfl⟩ rfl (by omega) ?_
    refine w_lload_n (pc' := 72) ⟨rfl, rfl⟩ rfl ?_
    refine w_iload_n (pc' := 73) ⟨rfl, rfl⟩ rfl ?_
    refine w_cs2 (pc' := 76) ⟨rfl, rfl⟩ (by decide) (Nat.le_of_ble_eq_true rfl) (Nat.le_of_ble_eq_true rfl) (c_ofWhole (by omega) ?_)
    refine w_lreturn (pc' := 77) ⟨rfl, rfl⟩ ?_
    refine zql k ?_
    (try unfold zthg)
    unfold ztold
    (try unfold zoW)
    repeat' split
    all_goals first | rfl | (exfalso; omega) | simp_all
  · rcases (show kd = 6 ∨ kd = 7 ∨ kd = 8 ∨ kd = 9 ∨ kd = 10 by omega) with hj | hj | hj | hj | hj
    · refine w_tsInZ (pc' := 36) (pcT := 36) 0 ⟨rfl, rfl⟩ (by omega) (by decide) rfl rfl ?_
      refine w_lload_n (pc' := 37) ⟨rfl, rfl⟩ rfl ?_
      refine w_l2f (pc' := 38) ⟨rfl, rfl⟩ ?_
      refine w_ldc (pc' := 40) ⟨rfl, rfl⟩ rfl ?_
      refine w_fdiv (pc' := 41) ⟨rfl, rfl⟩ (zF_fin (zl2f16 x).f) ?_
      refine w_f2d (pc' := 42) ⟨rfl, rfl⟩ (zD_fin (zf2db (zl2f16 x)).f) ?_
      refine w_bi (pc' := 44) ⟨rfl, rfl⟩ (by decide) ?_
      refine w_cs2 (pc' := 47) ⟨rfl, rfl⟩ (by decide) (Nat.le_of_ble_eq_true rfl) (Nat.le_of_ble_eq_true rfl) (c_toBits6 (zl2f16 x).f ?_)
      refine w_lreturn (pc' := 48) ⟨rfl, rfl⟩ ?_
      refine zql k ?_
      (try unfold zthg)
      unfold ztold
      (try unfold zoW)
      repeat' split
      all_goals first | rfl | (exfalso; omega) | simp_all
    · refine w_tsInZ (pc' := 36) (pcT := 48) 1 ⟨rfl, rfl⟩ (by omega) (by decide) rfl rfl ?_
      refine w_lload_n (pc' := 49) ⟨rfl, rfl⟩ rfl ?_
      refine w_l2d (pc' := 50) ⟨rfl, rfl⟩ ?_
      refine w_ldc2_w (pc' := 53) ⟨rfl, rfl⟩ rfl ?_
      refine w_ddiv (pc' := 54) ⟨rfl, rfl⟩ (zD_fin (zl2d16 x).f) ?_
      refine w_bi (pc' := 56) ⟨rfl, rfl⟩ (by decide) ?_
      refine w_cs2 (pc' := 59) ⟨rfl, rfl⟩ (by decide) (Nat.le_of_ble_eq_true rfl) (Nat.le_of_ble_eq_true rfl) (c_toBits7 (zl2d16 x).f ?_)
      refine w_lreturn (pc' := 60) ⟨rfl, rfl⟩ ?_
      refine zql k ?_
      (try unfold zthg)
      unfold ztold
      (try unfold zoW)
      repeat' split
      all_goals first | rfl | (exfalso; omega) | simp_all
    · refine w_tsInZ (pc' := 36) (pcT := 60) 2 ⟨rfl, rfl⟩ (by omega) (by decide) rfl rfl ?_
      refine w_lload_n (pc' := 61) ⟨rfl, rfl⟩ rfl ?_
      refine w_topL (lZ_of x) ?_
      refine w_cs1 (pc' := 64) ⟨rfl, rfl⟩ (by decide) (Nat.le_of_ble_eq_true rfl) (Nat.le_of_ble_eq_true rfl) (c_toldWord (iZ64 _) ?_)
      refine w_lreturn (pc' := 65) ⟨rfl, rfl⟩ ?_
      refine zql k ?_
      (try unfold zthg)
      unfold ztold
      (try unfold zoW)
      repeat' split
      all_goals first | rfl | (exfalso; omega) | simp_all
    · refine w_tsInZ (pc' := 36) (pcT := 65) 3 ⟨rfl, rfl⟩ (by omega) (by decide) rfl rfl ?_
      refine w_lload_n (pc' := 66) ⟨rfl, rfl⟩ rfl ?_
      refine w_l2i (pc' := 67) ⟨rfl, rfl⟩ ?_
      refine w_i2l (pc' := 68) ⟨rfl, rfl⟩ ?_
      refine w_lreturn (pc' := 69) ⟨rfl, rfl⟩ ?_
      refine zql k ?_
      (try unfold zthg)
      unfold ztold
      (try unfold zoW)
      repeat' split
      all_goals first | rfl | (exfalso; omega) | simp_all
    · refine w_tsInZ (pc' := 36) (pcT := 69) 4 ⟨rfl, rfl⟩ (by omega) (by decide) rfl rfl ?_
      refine w_lc (pc' := 70) (z := 0) ⟨rfl, rfl⟩ rfl ?_
      refine w_lreturn (pc' := 71) ⟨rfl, rfl⟩ ?_
      refine zql k ?_
      (try unfold zthg)
      unfold ztold
      (try unfold zoW)
      repeat' split
      all_goals first | rfl | (exfalso; omega) | simp_all
