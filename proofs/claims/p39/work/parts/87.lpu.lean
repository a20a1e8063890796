/-! THE LAW: widens, cast, told, as -/
theorem f_widens {σ : zSt} {a b : Int} (ha : 0 ≤ a ∧ a ≤ 8) (hb : 0 ≤ b ∧ b ≤ 8) {Q : zSt → Option Value → Prop} (k1 : zgi a b → Q σ (some (.int (iZ 1)))) (k0 : ¬ zgi a b → Q σ (some (.int (iZ 0)))) : zCa 131 [.int (iZ a), .int (iZ b)] σ Q := by
  refine w_enter (c := zk_L_widens) (ls2 := [(0, .int (iZ a)), (1, .int (iZ b))]) rfl ⟨rfl, rfl, trivial⟩ ?_
  refine w_iload_n (pc' := 1) ⟨rfl, rfl⟩ rfl ?_
  refine w_iload_n (pc' := 2) ⟨rfl, rfl⟩ rfl ?_
  refine w_ic_ne (pc' := 5) (pcT := 7) ⟨rfl, rfl⟩ rfl (by omega) (by omega) (fun h1 => ?_) (fun h1 => ?_)
  · refine w_iload_n (pc' := 8) ⟨rfl, rfl⟩ rfl ?_
    refine w_cs1 (pc' := 11) ⟨rfl, rfl⟩ (by decide) (Nat.le_of_ble_eq_true rfl) (Nat.le_of_ble_eq_true rfl) (f_isNumber (by omega) (fun q8 => ?_) (fun q8 => ?_))
    · refine w_ifF_eq (pc' := 14) ⟨rfl, rfl⟩ (by decide) ?_
      refine w_iload_n (pc' := 15) ⟨rfl, rfl⟩ rfl ?_
      refine w_cs1 (pc' := 18) ⟨rfl, rfl⟩ (by decide) (Nat.le_of_ble_eq_true rfl) (Nat.le_of_ble_eq_true rfl) (f_isNumber (by omega) (fun q15 => ?_) (fun q15 => ?_))
      · refine w_ifF_eq (pc' := 21) ⟨rfl, rfl⟩ (by decide) ?_
        refine w_iload_n (pc' := 22) ⟨rfl, rfl⟩ rfl ?_
        refine w_iload_n (pc' := 23) ⟨rfl, rfl⟩ rfl ?_
        refine w_ic_lt (pc' := 26) (pcT := 31) ⟨rfl, rfl⟩ rfl (by omega) (by omega) (fun h2 => ?_) (fun h2 => ?_)
        · refine w_ic (pc' := 32) ⟨rfl, rfl⟩ ?_
          refine w_ireturn (pc' := 33) ⟨rfl, rfl⟩ (by decide) ?_
          first | exact k1 (by omega) | exact k0 (by omega)
        · refine w_iload_n (pc' := 27) ⟨rfl, rfl⟩ rfl ?_
          refine w_ic (pc' := 28) ⟨rfl, rfl⟩ ?_
          refine w_ic_ne (pc' := 31) (pcT := 33) ⟨rfl, rfl⟩ rfl (by omega) (by omega) (fun h3 => ?_) (fun h3 => ?_)
          · refine w_iload_n (pc' := 34) ⟨rfl, rfl⟩ rfl ?_
            refine w_ic (pc' := 35) ⟨rfl, rfl⟩ ?_
            refine w_ic_ne (pc' := 38) (pcT := 43) ⟨rfl, rfl⟩ rfl (by omega) (by omega) (fun h4 => ?_) (fun h4 => ?_)
            · refine w_ic (pc' := 44) ⟨rfl, rfl⟩ ?_
              refine w_goto (pc' := 47) (pcT := 48) ⟨rfl, rfl⟩ rfl ?_
              refine w_ireturn (pc' := 49) ⟨rfl, rfl⟩ (by decide) ?_
              first | exact k1 (by omega) | exact k0 (by omega)
            · refine w_iload_n (pc' := 39) ⟨rfl, rfl⟩ rfl ?_
              refine w_ic (pc' := 40) ⟨rfl, rfl⟩ ?_
              refine w_ic_le (pc' := 43) (pcT := 47) ⟨rfl, rfl⟩ rfl (by omega) (by omega) (fun h5 => ?_) (fun h5 => ?_)
              · refine w_ic (pc' := 48) ⟨rfl, rfl⟩ ?_
                refine w_ireturn (pc' := 49) ⟨rfl, rfl⟩ (by decide) ?_
                first | exact k1 (by omega) | exact k0 (by omega)
              · refine w_ic (pc' := 44) ⟨rfl, rfl⟩ ?_
                refine w_goto (pc' := 47) (pcT := 48) ⟨rfl, rfl⟩ rfl ?_
                refine w_ireturn (pc' := 49) ⟨rfl, rfl⟩ (by decide) ?_
                first | exact k1 (by omega) | exact k0 (by omega)
          · refine w_ic (pc' := 32) ⟨rfl, rfl⟩ ?_
            refine w_ireturn (pc' := 33) ⟨rfl, rfl⟩ (by decide) ?_
            first | exact k1 (by omega) | exact k0 (by omega)
      · refine w_ifT_eq (pc' := 21) (pcT := 31) ⟨rfl, rfl⟩ rfl (by decide) ?_
        refine w_ic (pc' := 32) ⟨rfl, rfl⟩ ?_
        refine w_ireturn (pc' := 33) ⟨rfl, rfl⟩ (by decide) ?_
        first | exact k1 (by omega) | exact k0 (by omega)
    · refine w_ifT_eq (pc' := 14) (pcT := 31) ⟨rfl, rfl⟩ rfl (by decide) ?_
      refine w_ic (pc' := 32) ⟨rfl, rfl⟩ ?_
      refine w_ireturn (pc' := 33) ⟨rfl, rfl⟩ (by decide) ?_
      first | exact k1 (by omega) | exact k0 (by omega)
  · refine w_ic (pc' := 6) ⟨rfl, rfl⟩ ?_
    refine w_ireturn (pc' := 7) ⟨rfl, rfl⟩ (by decide) ?_
    first | exact k1 (by omega) | exact k0 (by omega)
theorem f_castW {σ : zSt} {x : Int64} {a kd : Int} (ha : 0 ≤ a ∧ a ≤ 5) (hk : 1 ≤ kd ∧ kd ≤ 7) {Q : zSt → Option Value → Prop} (k : Q σ (some (.long (zcast x kd)))) : zCa 132 [.long x, .int (iZ a), .int (iZ kd)] σ Q := by
  refine w_enter (c := zk_L_cast) (ls2 := [(0, .long x), (2, .int (iZ a)), (3, .int (iZ kd))]) rfl ⟨rfl, rfl, rfl, trivial⟩ ?_
  refine w_iload_n (pc' := 1) ⟨rfl, rfl⟩ rfl ?_
  refine w_bi (pc' := 3) ⟨rfl, rfl⟩ (by decide) ?_
  refine w_icF_eq (pc' := 6) ⟨rfl, rfl⟩ (by omega) ?_
  refine w_iload_n (pc' := 7) ⟨rfl, rfl⟩ rfl ?_
  refine w_bi (pc' := 9) ⟨rfl, rfl⟩ (by decide) ?_
  refine w_icT_ne (pc' := 12) (pcT := 113) ⟨rfl, rfl⟩ rfl (by omega) ?_
  refine w_iload_n (pc' := 114) ⟨rfl, rfl⟩ rfl ?_
  rcases Classical.em (kd < 1 ∨ 6 < kd) with hs | hs
  · refine w_tsOutZ (pc' := 152) (pcT := 180) ⟨rfl, rfl⟩ rfl (by omega) ?_
    refine w_lload_n (pc' := 181) ⟨rfl, rfl⟩ rfl ?_
    refine w_l2d (pc' := 182) ⟨rfl, rfl⟩ ?_
    refine w_cs1 (pc' := 185) ⟨rfl, rfl⟩ (by decide) (Nat.le_of_ble_eq_true rfl) (Nat.le_of_ble_eq_true rfl) (j_dbits (zl2d x).f ?_)
    refine w_lreturn (pc' := 186) ⟨rfl, rfl⟩ ?_
    first | (exfalso; omega) | (subst hj; exact k) | (obtain rfl : kd = 7 := (by omega); exact k)
  · rcases (show kd = 1 ∨ kd = 2 ∨ kd = 3 ∨ kd = 4 ∨ kd = 5 ∨ kd = 6 by omega) with hj | hj | hj | hj | hj | hj
    · refine w_tsInZ (pc' := 152) (pcT := 152) 0 ⟨rfl, rfl⟩ (by omega) (by decide) rfl rfl ?_
      refine w_lload_n (pc' := 153) ⟨rfl, rfl⟩ rfl ?_
      refine w_l2i (pc' := 154) ⟨rfl, rfl⟩ ?_
      refine w_i2b (pc' := 155) ⟨rfl, rfl⟩ ?_
      refine w_i2l (pc' := 156) ⟨rfl, rfl⟩ ?_
      refine w_lreturn (pc' := 157) ⟨rfl, rfl⟩ ?_
      first | (exfalso; omega) | (subst hj; exact k) | (obtain rfl : kd = 7 := (by omega); exact k)
    · refine w_tsInZ (pc' := 152) (pcT := 157) 1 ⟨rfl, rfl⟩ (by omega) (by decide) rfl rfl ?_
      refine w_lload_n (pc' := 158) ⟨rfl, rfl⟩ rfl ?_
      refine w_l2i (pc' := 159) ⟨rfl, rfl⟩ ?_
      refine w_i2c (pc' := 160) ⟨rfl, rfl⟩ ?_
      refine w_i2l (pc' := 161) ⟨rfl, rfl⟩ ?_
      refine w_lreturn (pc' := 162) ⟨rfl, rfl⟩ ?_
      first | (exfalso; omega) | (subst hj; exact k) | (obtain rfl : kd = 7 := (by omega); exact k)
    · refine w_tsInZ (pc' := 152) (pcT := 162) 2 ⟨rfl, rfl⟩ (by omega) (by decide) rfl rfl ?_
      refine w_lload_n (pc' := 163) ⟨rfl, rfl⟩ rfl ?_
      refine w_l2i (pc' := 164) ⟨rfl, rfl⟩ ?_
      refine w_i2s (pc' := 165) ⟨rfl, rfl⟩ ?_
      refine w_i2l (pc' := 166) ⟨rfl, rfl⟩ ?_
      refine w_lreturn (pc' := 167) ⟨rfl, rfl⟩ ?_
      first | (exfalso; omega) | (subst hj; exact k) | (obtain rfl : kd = 7 := (by omega); exact k)
    · refine w_tsInZ (pc' := 152) (pcT := 167) 3 ⟨rfl, rfl⟩ (by omega) (by decide) rfl rfl ?_
      refine w_lload_n (pc' := 168) ⟨rfl, rfl⟩ rfl ?_
      refine w_l2i (pc' := 169) ⟨rfl, rfl⟩ ?_
      refine w_i2l (pc' := 170) ⟨rfl, rfl⟩ ?_
      refine w_lreturn (pc' := 171) ⟨rfl, rfl⟩ ?_
      first | (exfalso; omega) | (subst hj; exact k) | (obtain rfl : kd = 7 := (by omega); exact k)
    · refine w_tsInZ (pc' := 152) (pcT := 171) 4 ⟨rfl, rfl⟩ (by omega) (by decide) rfl rfl ?_
      refine w_lload_n (pc' := 172) ⟨rfl, rfl⟩ rfl ?_
      refine w_lreturn (pc' := 173) ⟨rfl, rfl⟩ ?_
      first | (exfalso; omega) | (subst hj; exact k) | (obtain rfl : kd = 7 := (by omega); exact k)
    · refine w_tsInZ (pc' := 152) (pcT := 173) 5 ⟨rfl, rfl⟩ (by omega) (by decide) rfl rfl ?_
      refine w_lload_n (pc' := 174) ⟨rfl, rfl⟩ rfl ?_
      refine w_l2f (pc' := 175) ⟨rfl, rfl⟩ ?_
      refine w_cs1 (pc' := 178) ⟨rfl, rfl⟩ (by decide) (Nat.le_of_ble_eq_true rfl) (Nat.le_of_ble_eq_true rfl) (j_fbits (zl2f x).f ?_)
      refine w_i2l (pc' := 179) ⟨rfl, rfl⟩ ?_
      refine w_lreturn (pc' := 180) ⟨rfl, rfl⟩ ?_
      first | (exfalso; omega) | (subst hj; exact k) | (obtain rfl : kd = 7 := (by omega); exact k)
theorem f_cast67 {σ : zSt} {v : Int64} (hv : zok 6 v) {Q : zSt → Option Value → Prop} (k : Q σ (some (.long (zcar v 6 7)))) : zCa 132 [.long v, .int (iZ 6), .int (iZ 7)] σ Q := by
  refine w_enter (c := zk_L_cast) (ls2 := [(0, .long v), (2, .int (iZ 6)), (3, .int (iZ 7))]) rfl ⟨rfl, rfl, rfl, trivial⟩ ?_
  obtain ⟨y, hy, rfl⟩ := hv.2.1 rfl
  refine w_iload_n (pc' := 1) ⟨rfl, rfl⟩ rfl ?_
  refine w_bi (pc' := 3) ⟨rfl, rfl⟩ (by decide) ?_
  refine w_icT_eq (pc' := 6) (pcT := 12) ⟨rfl, rfl⟩ rfl (by decide) ?_
  refine w_iload_n (pc' := 13) ⟨rfl, rfl⟩ rfl ?_
  refine w_bi (pc' := 15) ⟨rfl, rfl⟩ (by decide) ?_
  refine w_icF_ne (pc' := 18) ⟨rfl, rfl⟩ (by decide) ?_
  refine w_lload_n (pc' := 19) ⟨rfl, rfl⟩ rfl ?_
  refine w_l2i (pc' := 20) ⟨rfl, rfl⟩ ?_
  refine w_topI (zi32l _) ?_
  refine w_natG (pc' := 23) (a := [.int y.toInt32]) (v1 := some (.float y)) ⟨rfl, rfl⟩ rfl rfl (Nat.le_of_ble_eq_true rfl) (by decide) (by simp only [znat, zsn32 hy.f, if_true]; rfl) ?_
  refine w_f2d (pc' := 24) ⟨rfl, rfl⟩ (zD_fin (zf2db hy).f) ?_
  refine w_goto (pc' := 27) (pcT := 31) ⟨rfl, rfl⟩ rfl ?_
  refine w_dstore (pc' := 33) ⟨rfl, rfl⟩ rfl rfl ?_
  refine w_iload_n (pc' := 34) ⟨rfl, rfl⟩ rfl ?_
  refine w_tsOutZ (pc' := 72) (pcT := 107) ⟨rfl, rfl⟩ rfl (by decide) ?_
  refine w_dload (pc' := 109) ⟨rfl, rfl⟩ rfl ?_
  refine w_cs1 (pc' := 112) ⟨rfl, rfl⟩ (by decide) (Nat.le_of_ble_eq_true rfl) (Nat.le_of_ble_eq_true rfl) (j_dbits (zf2db hy).f ?_)
  refine w_lreturn (pc' := 113) ⟨rfl, rfl⟩ ?_
  refine zql k ?_
  unfold zcar zoR
  rw [zrl6]
  repeat' split
  all_goals first | rfl | (exfalso; omega) | simp_all
theorem f_as {σ : zSt} {v : Int64} {a b : Int} (ha : 0 ≤ a ∧ a ≤ 7) (hb : 0 ≤ b ∧ b ≤ 7) (hv : zok a v) (hg : zgi a b) {Q : zSt → Option Value → Prop} (k : Q σ (some (.long (zcar v a b)))) : zCa 134 [.long v, .int (iZ a), .int (iZ b)] σ Q := by
  refine w_enter (c := zk_L_as) (ls2 := [(0, .long v), (2, .int (iZ a)), (3, .int (iZ b))]) rfl ⟨rfl, rfl, rfl, trivial⟩ ?_
  refine w_iload_n (pc' := 1) ⟨rfl, rfl⟩ rfl ?_
  refine w_iload_n (pc' := 2) ⟨rfl, rfl⟩ rfl ?_
  refine w_ic_ne (pc' := 5) (pcT := 9) ⟨rfl, rfl⟩ rfl (by omega) (by omega) (fun h1 => ?_) (fun h1 => ?_)
  · refine w_lload_n (pc' := 10) ⟨rfl, rfl⟩ rfl ?_
    refine w_iload_n (pc' := 11) ⟨rfl, rfl⟩ rfl ?_
    refine w_iload_n (pc' := 12) ⟨rfl, rfl⟩ rfl ?_
    rcases (show (1 ≤ a ∧ a ≤ 5 ∧ 1 ≤ b) ∨ (a = 6 ∧ b = 7) by omega) with hq | ⟨rfl, rfl⟩
    · refine w_cs3 (pc' := 15) ⟨rfl, rfl⟩ (by decide) (Nat.le_of_ble_eq_true rfl) (Nat.le_of_ble_eq_true rfl) (f_castW (by omega) (by omega) ?_)
      refine w_lreturn (pc' := 16) ⟨rfl, rfl⟩ ?_
      exact zql k (by unfold zcar zoW; rw [if_neg (by omega), if_neg (by omega), if_neg (by omega), if_neg (by omega), if_neg (by omega), if_neg (by omega)])
    · refine w_cs3 (pc' := 15) ⟨rfl, rfl⟩ (by decide) (Nat.le_of_ble_eq_true rfl) (Nat.le_of_ble_eq_true rfl) (f_cast67 hv ?_)
      refine w_lreturn (pc' := 16) ⟨rfl, rfl⟩ ?_
      exact k
  · refine w_lload_n (pc' := 6) ⟨rfl, rfl⟩ rfl ?_
    refine w_goto (pc' := 9) (pcT := 15) ⟨rfl, rfl⟩ rfl ?_
    refine w_lreturn (pc' := 16) ⟨rfl, rfl⟩ ?_
    exact zql k (by unfold zcar; rw [if_pos (by omega)])
theorem l_ltold {σ : zSt} {a : Int} (ha : -9223372036854775808 ≤ a ∧ a ≤ 9223372036854775807) {Q : zSt → Option Value → Prop} : ∀ (j : Nat) (z w : Int), j ≤ 8 → z = 5 * j - 5 → (Q σ (some (.long (lZ (zwo a j w))))) → zP zk_L_told 90 [(0, .long (lZ a)), (2, .int (iZ 8)), (3, .long (lZ w)), (5, .int (iZ z))] [] σ Q := by
  intro j
  induction j with
  | zero =>
    intro z w hj hz k
    refine w_iload (pc' := 92) ⟨rfl, rfl⟩ rfl ?_
    refine w_ifT_lt (pc' := 95) (pcT := 136) ⟨rfl, rfl⟩ rfl (by omega) ?_
    refine w_lload_n (pc' := 137) ⟨rfl, rfl⟩ rfl ?_
    refine w_lreturn (pc' := 138) ⟨rfl, rfl⟩ ?_
    exact k
  | succ j ih =>
    intro z w hj hz k
    obtain rfl : z = 5 * (j : Int) := by omega
    refine w_iload (pc' := 92) ⟨rfl, rfl⟩ rfl ?_
    refine w_ifF_lt (pc' := 95) ⟨rfl, rfl⟩ (by omega) ?_
    refine w_lload_n (pc' := 96) ⟨rfl, rfl⟩ rfl ?_
    refine w_iload (pc' := 98) ⟨rfl, rfl⟩ rfl ?_
    refine w_lshr (pc' := 99) ⟨rfl, rfl⟩ ?_
    refine w_ldc2Y (pc' := 102) (z := 31) ⟨rfl, rfl⟩ rfl ?_
    refine w_land (pc' := 103) ⟨rfl, rfl⟩ ?_
    refine w_topL (zshr5 ha (by omega)) ?_
    have hd := zdt_rng a j
    refine w_lstore (pc' := 105) ⟨rfl, rfl⟩ rfl rfl ?_
    refine w_lload (pc' := 107) ⟨rfl, rfl⟩ rfl ?_
    refine w_lc (pc' := 108) (z := 0) ⟨rfl, rfl⟩ rfl ?_
    refine w_lcmp (pc' := 109) ⟨rfl, rfl⟩ ?_
    refine w_ify_le (pc' := 112) (pcT := 130) ⟨rfl, rfl⟩ rfl (by omega) (by omega) (fun h1 => ?_) (fun h1 => ?_)
    · refine w_iincZ (pc' := 133) ⟨rfl, rfl⟩ rfl rfl ?_
      refine w_goto (pc' := 136) (pcT := 90) ⟨rfl, rfl⟩ rfl ?_
      refine w_at ?_ (ih (5 * (j : Int) + -5) _ (by omega) (by omega) (by rw [zwo] at k; first | (rw [if_pos (by omega)] at k; exact k) | (rw [if_neg (by omega)] at k; exact k)))
      exact ⟨rfl, rfl, rfl, rfl, trivial⟩
    · refine w_lload (pc' := 114) ⟨rfl, rfl⟩ rfl ?_
      refine w_ldc2Y (pc' := 117) (z := 27) ⟨rfl, rfl⟩ rfl ?_
      refine w_lcmp (pc' := 118) ⟨rfl, rfl⟩ ?_
      refine w_ify_ge (pc' := 121) (pcT := 130) ⟨rfl, rfl⟩ rfl (by omega) (by omega) (fun h2 => ?_) (fun h2 => ?_)
      · refine w_iincZ (pc' := 133) ⟨rfl, rfl⟩ rfl rfl ?_
        refine w_goto (pc' := 136) (pcT := 90) ⟨rfl, rfl⟩ rfl ?_
        refine w_at ?_ (ih (5 * (j : Int) + -5) _ (by omega) (by omega) (by rw [zwo] at k; first | (rw [if_pos (by omega)] at k; exact k) | (rw [if_neg (by omega)] at k; exact k)))
        exact ⟨rfl, rfl, rfl, rfl, trivial⟩
      · refine w_ldc2Y (pc' := 124) (z := 32) ⟨rfl, rfl⟩ rfl ?_
        refine w_lload_n (pc' := 125) ⟨rfl, rfl⟩ rfl ?_
        refine w_lmulY (pc' := 126) ⟨rfl, rfl⟩ ?_
        refine w_lload (pc' := 128) ⟨rfl, rfl⟩ rfl ?_
        refine w_laddY (pc' := 129) ⟨rfl, rfl⟩ ?_
        refine w_lstore_n (pc' := 130) ⟨rfl, rfl⟩ rfl rfl ?_
        refine w_iincZ (pc' := 133) ⟨rfl, rfl⟩ rfl rfl ?_
        refine w_goto (pc' := 136) (pcT := 90) ⟨rfl, rfl⟩ rfl ?_
        refine w_at ?_ (ih (5 * (j : Int) + -5) _ (by omega) (by omega) (by rw [zwo] at k; first | (rw [if_pos (by omega)] at k; exact k) | (rw [if_neg (by omega)] at k; exact k)))
        exact ⟨rfl, rfl, rfl, rfl, trivial⟩
theorem f_told {σ : zSt} {x : Int64} {kd : Int} (hk : 0 ≤ kd ∧ kd ≤ 8) {Q : zSt → Option Value → Prop} (k : Q σ (some (.long (ztold x kd)))) : zCa 133 [.long x, .int (iZ kd)] σ Q := by
  refine w_enter (c := zk_L_told) (ls2 := [(0, .long x), (2, .int (iZ kd))]) rfl ⟨rfl, rfl, trivial⟩ ?_
  refine w_iload_n (pc' := 1) ⟨rfl, rfl⟩ rfl ?_
  rcases Classical.em (kd < 0 ∨ 8 < kd) with hs | hs
  · refine w_tsOutZ (pc' := 52) (pcT := 138) ⟨rfl, rfl⟩ rfl (by omega) ?_
    refine w_lload_n (pc' := 139) ⟨rfl, rfl⟩ rfl ?_
    refine w_ic (pc' := 140) ⟨rfl, rfl⟩ ?_
    refine w_iload_n (pc' := 141) ⟨rfl, rfl⟩ rfl ?_
    refine w_cs3 (pc' := 144) ⟨rfl, rfl⟩ (by decide) (Nat.le_of_ble_eq_true rfl) (Nat.le_of_ble_eq_true rfl) (f_castW (by omega) (by omega) ?_)
    refine w_lreturn (pc' := 145) ⟨rfl, rfl⟩ ?_
    refine zql k ?_
    unfold ztold
    repeat' split
    all_goals first | rfl | (exfalso; omega) | simp_all
  · rcases (show kd = 0 ∨ kd = 1 ∨ kd = 2 ∨ kd = 3 ∨ kd = 4 ∨ kd = 5 ∨ kd = 6 ∨ kd = 7 ∨ kd = 8 by omega) with hj | hj | hj | hj | hj | hj | hj | hj | hj
    · refine w_tsInZ (pc' := 52) (pcT := 52) 0 ⟨rfl, rfl⟩ (by omega) (by decide) rfl rfl ?_
      refine w_lload_n (pc' := 53) ⟨rfl, rfl⟩ rfl ?_
      refine w_lc (pc' := 54) (z := 0) ⟨rfl, rfl⟩ rfl ?_
      refine w_lcmp (pc' := 55) ⟨rfl, rfl⟩ ?_
      refine w_ifc_eq (pc' := 58) (pcT := 62) ⟨rfl, rfl⟩ rfl (fun h1 => ?_) (fun h1 => ?_)
      · refine w_lc (pc' := 63) (z := 0) ⟨rfl, rfl⟩ rfl ?_
        refine w_lreturn (pc' := 64) ⟨rfl, rfl⟩ ?_
        refine zql k ?_
        unfold ztold
        repeat' split
        all_goals first | rfl | (exfalso; omega) | simp_all
      · refine w_lc (pc' := 59) (z := 1) ⟨rfl, rfl⟩ rfl ?_
        refine w_goto (pc' := 62) (pcT := 63) ⟨rfl, rfl⟩ rfl ?_
        refine w_lreturn (pc' := 64) ⟨rfl, rfl⟩ ?_
        refine zql k ?_
        unfold ztold
        repeat' split
        all_goals first | rfl | (exfalso; omega) | simp_all
    · refine w_tsInZ (pc' := 52) (pcT := 138) 1 ⟨rfl, rfl⟩ (by omega) (by decide) rfl rfl ?_
      refine w_lload_n (pc' := 139) ⟨rfl, rfl⟩ rfl ?_
      refine w_ic (pc' := 140) ⟨rfl, rfl⟩ ?_
      refine w_iload_n (pc' := 141) ⟨rfl, rfl⟩ rfl ?_
      refine w_cs3 (pc' := 144) ⟨rfl, rfl⟩ (by decide) (Nat.le_of_ble_eq_true rfl) (Nat.le_of_ble_eq_true rfl) (f_castW (by omega) (by omega) ?_)
      refine w_lreturn (pc' := 145) ⟨rfl, rfl⟩ ?_
      refine zql k ?_
      unfold ztold
      repeat' split
      all_goals first | rfl | (exfalso; omega) | simp_all
    · refine w_tsInZ (pc' := 52) (pcT := 138) 2 ⟨rfl, rfl⟩ (by omega) (by decide) rfl rfl ?_
      refine w_lload_n (pc' := 139) ⟨rfl, rfl⟩ rfl ?_
      refine w_ic (pc' := 140) ⟨rfl, rfl⟩ ?_
      refine w_iload_n (pc' := 141) ⟨rfl, rfl⟩ rfl ?_
      refine w_cs3 (pc' := 144) ⟨rfl, rfl⟩ (by decide) (Nat.le_of_ble_eq_true rfl) (Nat.le_of_ble_eq_true rfl) (f_castW (by omega) (by omega) ?_)
      refine w_lreturn (pc' := 145) ⟨rfl, rfl⟩ ?_
      refine zql k ?_
      unfold ztold
      repeat' split
      all_goals first | rfl | (exfalso; omega) | simp_all
    · refine w_tsInZ (pc' := 52) (pcT := 138) 3 ⟨rfl, rfl⟩ (by omega) (by decide) rfl rfl ?_
      refine w_lload_n (pc' := 139) ⟨rfl, rfl⟩ rfl ?_
      refine w_ic (pc' := 140) ⟨rfl, rfl⟩ ?_
      refine w_iload_n (pc' := 141) ⟨rfl, rfl⟩ rfl ?_
      refine w_cs3 (pc' := 144) ⟨rfl, rfl⟩ (by decide) (Nat.le_of_ble_eq_true rfl) (Nat.le_of_ble_eq_true rfl) (f_castW (by omega) (by omega) ?_)
      refine w_lreturn (pc' := 145) ⟨rfl, rfl⟩ ?_
      refine zql k ?_
      unfold ztold
      repeat' split
      all_goals first | rfl | (exfalso; omega) | simp_all
    · refine w_tsInZ (pc' := 52) (pcT := 138) 4 ⟨rfl, rfl⟩ (by omega) (by decide) rfl rfl ?_
      refine w_lload_n (pc' := 139) ⟨rfl, rfl⟩ rfl ?_
      refine w_ic (pc' := 140) ⟨rfl, rfl⟩ ?_
      refine w_iload_n (pc' := 141) ⟨rfl, rfl⟩ rfl ?_
      refine w_cs3 (pc' := 144) ⟨rfl, rfl⟩ (by decide) (Nat.le_of_ble_eq_true rfl) (Nat.le_of_ble_eq_true rfl) (f_castW (by omega) (by omega) ?_)
      refine w_lreturn (pc' := 145) ⟨rfl, rfl⟩ ?_
      refine zql k ?_
      unfold ztold
      repeat' split
      all_goals first | rfl | (exfalso; omega) | simp_all
    · refine w_tsInZ (pc' := 52) (pcT := 138) 5 ⟨rfl, rfl⟩ (by omega) (by decide) rfl rfl ?_
      refine w_lload_n (pc' := 139) ⟨rfl, rfl⟩ rfl ?_
      refine w_ic (pc' := 140) ⟨rfl, rfl⟩ ?_
      refine w_iload_n (pc' := 141) ⟨rfl, rfl⟩ rfl ?_
      refine w_cs3 (pc' := 144) ⟨rfl, rfl⟩ (by decide) (Nat.le_of_ble_eq_true rfl) (Nat.le_of_ble_eq_true rfl) (f_castW (by omega) (by omega) ?_)
      refine w_lreturn (pc' := 145) ⟨rfl, rfl⟩ ?_
      refine zql k ?_
      unfold ztold
      repeat' split
      all_goals first | rfl | (exfalso; omega) | simp_all
    · refine w_tsInZ (pc' := 52) (pcT := 64) 6 ⟨rfl, rfl⟩ (by omega) (by decide) rfl rfl ?_
      refine w_lload_n (pc' := 65) ⟨rfl, rfl⟩ rfl ?_
      refine w_l2f (pc' := 66) ⟨rfl, rfl⟩ ?_
      refine w_ldc (pc' := 68) ⟨rfl, rfl⟩ rfl ?_
      refine w_fdiv (pc' := 69) ⟨rfl, rfl⟩ (zF_fin (zl2f16 x).f) ?_
      refine w_cs1 (pc' := 72) ⟨rfl, rfl⟩ (by decide) (Nat.le_of_ble_eq_true rfl) (Nat.le_of_ble_eq_true rfl) (j_fbits (zl2f16 x).f ?_)
      refine w_i2l (pc' := 73) ⟨rfl, rfl⟩ ?_
      refine w_lreturn (pc' := 74) ⟨rfl, rfl⟩ ?_
      refine zql k ?_
      unfold ztold
      repeat' split
      all_goals first | rfl | (exfalso; omega) | simp_all
    · refine w_tsInZ (pc' := 52) (pcT := 74) 7 ⟨rfl, rfl⟩ (by omega) (by decide) rfl rfl ?_
      refine w_lload_n (pc' := 75) ⟨rfl, rfl⟩ rfl ?_
      refine w_l2d (pc' := 76) ⟨rfl, rfl⟩ ?_
      refine w_ldc2_w (pc' := 79) ⟨rfl, rfl⟩ rfl ?_
      refine w_ddiv (pc' := 80) ⟨rfl, rfl⟩ (zD_fin (zl2d16 x).f) ?_
      refine w_cs1 (pc' := 83) ⟨rfl, rfl⟩ (by decide) (Nat.le_of_ble_eq_true rfl) (Nat.le_of_ble_eq_true rfl) (j_dbits (zl2d16 x).f ?_)
      refine w_lreturn (pc' := 84) ⟨rfl, rfl⟩ ?_
      refine zql k ?_
      unfold ztold
      repeat' split
      all_goals first | rfl | (exfalso; omega) | simp_all
    · refine w_tsInZ (pc' := 52) (pcT := 84) 8 ⟨rfl, rfl⟩ (by omega) (by decide) rfl rfl ?_
      obtain ⟨a, hxa, rfl⟩ : ∃ a : Int, (-9223372036854775808 ≤ a ∧ a ≤ 9223372036854775807) ∧ x = lZ a := ⟨x.toInt, iZ64 x, lZ_of x⟩
      subst hj
      refine w_lc (pc' := 85) (z := 0) ⟨rfl, rfl⟩ rfl ?_
      refine w_lstore_n (pc' := 86) ⟨rfl, rfl⟩ rfl rfl ?_
      refine w_bi (pc' := 88) ⟨rfl, rfl⟩ (by decide) ?_
      refine w_istore (pc' := 90) ⟨rfl, rfl⟩ rfl ?_
      refine w_at ?_ (l_ltold hxa 8 35 0 (by omega) (by omega) (zql k ?_))
      · exact ⟨rfl, rfl, rfl, rfl, trivial⟩
      · unfold ztold
        rw [if_neg (by omega), if_neg (by omega), if_neg (by omega), if_pos rfl, lZ_to hxa]
