/-! THE LAW -/
theorem zR_ovS {L : Nat} {xs : Nat → Int32} {σ : zSt} : zR (zov L xs σ) zSCR 0 = some L := by
  show (if zSCR = zSCR then (fun k : Nat => if k = 0 then some L else none) else σ.2.2.1 zSCR) 0 = some L
  rw [if_pos rfl]; rfl
theorem zI_ovS {L : Nat} {xs : Nat → Int32} {σ : zSt} : zI (zov L xs σ) zSCR = xs := by
  funext j
  show (if zSCR = zSCR then xs else σ.1 zSCR) j = xs j
  rw [if_pos rfl]
abbrev zQ1 : zSt → Option Value → Prop := fun σ v => v = some (.int 1) ∧ zN σ ≤ 600000
theorem zaH2 {t : zBk} {y : Int} : zaH t (fun _ => 0) y 2 = 0 := by
  unfold zaH
  rw [if_neg (by omega), if_neg (by omega), if_neg (by omega), if_pos rfl]
  rfl
theorem zaH3 {t : zBk} {c : Nat → Int} {y : Int} : zaH t c y 3 = y := by
  unfold zaH
  rw [if_neg (by omega), if_neg (by omega), if_neg (by omega), if_neg (by omega), if_pos rfl]
theorem zrr_m {t : zBk} : zrr t (-1) 0 0 0 = -4 := by
  have e : zrk t (-1) 0 = -4 := by
    unfold zrk
    rw [if_pos (by omega)]
  have e2 : zkr t (-1) 0 0 0 = -4 := by
    unfold zkr
    rw [if_neg (by omega), e, if_pos (by decide)]
  unfold zrr
  rw [e2, if_pos (by decide)]
theorem zgVc {t : zBk} (h13 : 1 ≤ t 0 ∧ t 0 ≤ 3) {R : zRw0} (z : Nat) (hz : z < 4) : zgV t R 8 (z : Int) 0 = R (3 + z) ∧ zgV t R 8 (z : Int) 1 = R (7 + z) := by
  have e9 : zrk t 0 8 = 9 := by rw [zrk0 h13, if_neg (by omega), if_pos rfl]
  have hg : ∀ w : Int, 0 ≤ w → w ≤ 1 → zgr t 0 8 (z : Int) w = 0 := fun w h0 h1 => by
    unfold zgr
    rw [if_neg (by omega), e9, if_neg (by omega), zlo8, if_neg (by omega)]
  refine ⟨?_, ?_⟩
  · unfold zgV
    rw [if_pos (hg 0 (by decide) (by decide))]
    unfold zgv
    rw [if_pos rfl, if_pos rfl, Int.toNat_natCast]
  · unfold zgV
    rw [if_pos (hg 1 (by decide) (by decide))]
    unfold zgv
    rw [if_pos rfl, if_neg (by decide), Int.toNat_natCast]
theorem zgr84 {t : zBk} (h13 : 1 ≤ t 0 ∧ t 0 ≤ 3) : zgr t 0 8 4 0 = -1 := by
  have e9 : zrk t 0 8 = 9 := by rw [zrk0 h13, if_neg (by omega), if_pos rfl]
  unfold zgr
  rw [if_neg (by omega), e9, if_neg (by omega), zlo8, if_pos (by omega)]
theorem zgV84 {t : zBk} (h13 : 1 ≤ t 0 ∧ t 0 ≤ 3) {R : zRw0} : zgV t R 8 4 0 = lZ (-4611686018427387904) := by
  unfold zgV
  rw [zgr84 h13, if_neg (by decide)]
theorem l_wb {σ : zSt} (hF : zFx σ) {a : Int} (ha : 0 ≤ a ∧ a ≤ 8) {Q : zSt → Option Value → Prop} : ∀ (j : Nat) (b : Int), b + j = 9 → 0 ≤ b → (zP zk_L_law 73 [(0, .ref zSCR), (1, .ref 0), (3, .int (iZ a))] [] σ Q) → zP zk_L_law 34 [(0, .ref zSCR), (1, .ref 0), (3, .int (iZ a)), (4, .int (iZ b))] [] σ Q := by
  intro j
  induction j with
  | zero =>
    intro b hi hb k
    refine w_iload (pc' := 36) ⟨rfl, rfl⟩ rfl ?_
    refine w_bi (pc' := 38) ⟨rfl, rfl⟩ (by decide) ?_
    refine w_icT_ge (pc' := 41) (pcT := 73) ⟨rfl, rfl⟩ rfl (by omega) ?_
    exact w_at (by exact ⟨rfl, rfl, rfl, trivial⟩) k
  | succ j ih =>
    intro b hi hb k
    by_cases hg : zgi a b
    · refine w_iload (pc' := 36) ⟨rfl, rfl⟩ rfl ?_
      refine w_bi (pc' := 38) ⟨rfl, rfl⟩ (by decide) ?_
      refine w_icF_ge (pc' := 41) ⟨rfl, rfl⟩ (by omega) ?_
      refine w_aload_n (pc' := 42) ⟨rfl, rfl⟩ rfl ?_
      refine w_iload_n (pc' := 43) ⟨rfl, rfl⟩ rfl ?_
      refine w_iload (pc' := 45) ⟨rfl, rfl⟩ rfl ?_
      refine w_cv3 (pc' := 48) ⟨rfl, rfl⟩ (by decide) (zOl hF rfl) (Nat.le_of_ble_eq_true rfl) (Nat.le_of_ble_eq_true rfl) (c_widens (by omega) (by omega) ?_)
      rw [show zaW a b = 1 by unfold zaW; rw [if_neg (by omega), if_pos hg]]
      refine w_iload_n (pc' := 49) ⟨rfl, rfl⟩ rfl ?_
      refine w_iload (pc' := 51) ⟨rfl, rfl⟩ rfl ?_
      refine w_cs2 (pc' := 54) ⟨rfl, rfl⟩ (by decide) (Nat.le_of_ble_eq_true rfl) (Nat.le_of_ble_eq_true rfl) (f_widens (by omega) (by omega) (fun g => ?_) (fun g => ?_))
      · refine w_ifF_eq (pc' := 57) ⟨rfl, rfl⟩ (by decide) ?_
        refine w_ic (pc' := 58) ⟨rfl, rfl⟩ ?_
        refine w_goto (pc' := 61) (pcT := 62) ⟨rfl, rfl⟩ rfl ?_
        refine w_icT_eq (pc' := 65) (pcT := 67) ⟨rfl, rfl⟩ rfl (by decide) ?_
        refine w_iincZ (pc' := 70) ⟨rfl, rfl⟩ rfl rfl ?_
        refine w_goto (pc' := 73) (pcT := 34) ⟨rfl, rfl⟩ rfl ?_
        refine w_at (ls2 := [(0, .ref zSCR), (1, .ref 0), (3, .int (iZ a)), (4, .int (iZ (b + 1)))]) ?_ (ih (b + 1) (by omega) (by omega) k)
        exact ⟨rfl, rfl, rfl, rfl, trivial⟩
      · exact absurd hg g
    · refine w_iload (pc' := 36) ⟨rfl, rfl⟩ rfl ?_
      refine w_bi (pc' := 38) ⟨rfl, rfl⟩ (by decide) ?_
      refine w_icF_ge (pc' := 41) ⟨rfl, rfl⟩ (by omega) ?_
      refine w_aload_n (pc' := 42) ⟨rfl, rfl⟩ rfl ?_
      refine w_iload_n (pc' := 43) ⟨rfl, rfl⟩ rfl ?_
      refine w_iload (pc' := 45) ⟨rfl, rfl⟩ rfl ?_
      refine w_cv3 (pc' := 48) ⟨rfl, rfl⟩ (by decide) (zOl hF rfl) (Nat.le_of_ble_eq_true rfl) (Nat.le_of_ble_eq_true rfl) (c_widens (by omega) (by omega) ?_)
      rw [show zaW a b = 0 by unfold zaW; rw [if_neg (by omega), if_neg hg]]
      refine w_iload_n (pc' := 49) ⟨rfl, rfl⟩ rfl ?_
      refine w_iload (pc' := 51) ⟨rfl, rfl⟩ rfl ?_
      refine w_cs2 (pc' := 54) ⟨rfl, rfl⟩ (by decide) (Nat.le_of_ble_eq_true rfl) (Nat.le_of_ble_eq_true rfl) (f_widens (by omega) (by omega) (fun g => ?_) (fun g => ?_))
      · exact absurd g hg
      · refine w_ifT_eq (pc' := 57) (pcT := 61) ⟨rfl, rfl⟩ rfl (by decide) ?_
        refine w_ic (pc' := 62) ⟨rfl, rfl⟩ ?_
        refine w_icT_eq (pc' := 65) (pcT := 67) ⟨rfl, rfl⟩ rfl (by decide) ?_
        refine w_iincZ (pc' := 70) ⟨rfl, rfl⟩ rfl rfl ?_
        refine w_goto (pc' := 73) (pcT := 34) ⟨rfl, rfl⟩ rfl ?_
        refine w_at (ls2 := [(0, .ref zSCR), (1, .ref 0), (3, .int (iZ a)), (4, .int (iZ (b + 1)))]) ?_ (ih (b + 1) (by omega) (by omega) k)
        exact ⟨rfl, rfl, rfl, rfl, trivial⟩
theorem l_wa {σ : zSt} (hF : zFx σ) {Q : zSt → Option Value → Prop} : ∀ (j : Nat) (a : Int), a + j = 9 → 0 ≤ a → (zP zk_L_law 79 [(0, .ref zSCR), (1, .ref 0)] [] σ Q) → zP zk_L_law 25 [(0, .ref zSCR), (1, .ref 0), (3, .int (iZ a))] [] σ Q := by
  intro j
  induction j with
  | zero =>
    intro a hi ha k
    refine w_iload_n (pc' := 26) ⟨rfl, rfl⟩ rfl ?_
    refine w_bi (pc' := 28) ⟨rfl, rfl⟩ (by decide) ?_
    refine w_icT_ge (pc' := 31) (pcT := 79) ⟨rfl, rfl⟩ rfl (by omega) ?_
    exact w_at (by exact ⟨rfl, rfl, trivial⟩) k
  | succ j ih =>
    intro a hi ha k
    refine w_iload_n (pc' := 26) ⟨rfl, rfl⟩ rfl ?_
    refine w_bi (pc' := 28) ⟨rfl, rfl⟩ (by decide) ?_
    refine w_icF_ge (pc' := 31) ⟨rfl, rfl⟩ (by omega) ?_
    refine w_ic (pc' := 32) ⟨rfl, rfl⟩ ?_
    refine w_istore (pc' := 34) ⟨rfl, rfl⟩ rfl ?_
    refine w_at (ls2 := [(0, .ref zSCR), (1, .ref 0), (3, .int (iZ a)), (4, .int (iZ 0))]) ?_ (l_wb hF (a := a) (by omega) 9 0 (by decide) (by decide) ?_)
    · exact ⟨rfl, rfl, rfl, rfl, trivial⟩
    refine w_iincZ (pc' := 76) ⟨rfl, rfl⟩ rfl rfl ?_
    refine w_goto (pc' := 79) (pcT := 25) ⟨rfl, rfl⟩ rfl ?_
    refine w_at (ls2 := [(0, .ref zSCR), (1, .ref 0), (3, .int (iZ (a + 1)))]) ?_ (ih (a + 1) (by omega) (by omega) k)
    exact ⟨rfl, rfl, rfl, trivial⟩
theorem l_len {σ : zSt} {t : zBk} {L : Nat} {x : Nat → Int} {n : Nat} {y : Int} (hV : zLV σ t L x n y) {Q : zSt → Option Value → Prop} : ∀ (j : Nat) (row : Int) (σ1 : zSt), row + j = 10 → -1 ≤ row → zWy σ σ1 → (∀ σ2, zWy σ σ2 → zP zk_L_law 188 [(0, .ref zSCR), (1, .ref 0)] [] σ2 Q) → zP zk_L_law 81 [(0, .ref zSCR), (1, .ref 0), (3, .int (iZ row))] [] σ1 Q := by
  intro j
  induction j with
  | zero =>
    intro row σ1 hi hr w k
    have ht0 := hV.1.2.1.1
    have h13 : 1 ≤ t 0 ∧ t 0 ≤ 3 := ⟨hV.1.2.2.2.2, ht0.2⟩
    have hV1 := w.V hV
    have hF := hV1.1.1
    refine w_iload_n (pc' := 82) ⟨rfl, rfl⟩ rfl ?_
    refine w_bi (pc' := 84) ⟨rfl, rfl⟩ (by decide) ?_
    refine w_icT_ge (pc' := 87) (pcT := 188) ⟨rfl, rfl⟩ rfl (by omega) ?_
    exact w_at (by exact ⟨rfl, rfl, trivial⟩) (k _ w)
  | succ j ih =>
    intro row σ1 hi hr w k
    have ht0 := hV.1.2.1.1
    have h13 : 1 ≤ t 0 ∧ t 0 ≤ 3 := ⟨hV.1.2.2.2.2, ht0.2⟩
    have hV1 := w.V hV
    have hF := hV1.1.1
    have hV0 := (hV.1.2.1.2.2.1 0 (by omega)).1
    have hnf := hV0.1
    rcases (show (row < 0 ∨ 8 < row) ∨ row = 7 ∨ row = 8 ∨ (row = 6 ∨ (0 ≤ row ∧ row < 6 ∧ zNF t 0 ≤ row)) ∨ (0 ≤ row ∧ row < 6 ∧ row < zNF t 0) by omega) with h2 | rfl | rfl | h2 | h2
    · have hk : zrk t 0 row = -4 := by rw [zrk0 h13, if_pos h2]
      refine w_iload_n (pc' := 82) ⟨rfl, rfl⟩ rfl ?_
      refine w_bi (pc' := 84) ⟨rfl, rfl⟩ (by decide) ?_
      refine w_icF_ge (pc' := 87) ⟨rfl, rfl⟩ (by omega) ?_
      refine w_iload_n (pc' := 88) ⟨rfl, rfl⟩ rfl ?_
      refine w_if_lt (pc' := 91) (pcT := 97) ⟨rfl, rfl⟩ rfl (by omega) (fun h1 => ?_) (fun h1 => ?_)
      · refine w_bi (pc' := 99) ⟨rfl, rfl⟩ (by decide) ?_
        refine w_goto (pc' := 102) (pcT := 154) ⟨rfl, rfl⟩ rfl ?_
        refine w_istore (pc' := 156) ⟨rfl, rfl⟩ rfl ?_
        refine w_aload_n (pc' := 157) ⟨rfl, rfl⟩ rfl ?_
        refine w_ic (pc' := 158) ⟨rfl, rfl⟩ ?_
        refine w_iload_n (pc' := 159) ⟨rfl, rfl⟩ rfl ?_
        refine w_cv3 (pc' := 162) ⟨rfl, rfl⟩ (by decide) (zOl hF rfl) (Nat.le_of_ble_eq_true rfl) (Nat.le_of_ble_eq_true rfl) (y_len hV1 (by omega) (fun σ2 w2 e2 => ?_))
        refine w_topI (show _ = iZ (-4) from congrArg iZ (by rw [hk, if_pos (by decide)])) ?_
        have w := w.trans w2
        have hV1 := w.V hV
        have hF := hV1.1.1
        refine w_iload (pc' := 164) ⟨rfl, rfl⟩ rfl ?_
        refine w_icF_ne (pc' := 167) ⟨rfl, rfl⟩ (by omega) ?_
        refine w_aload_n (pc' := 168) ⟨rfl, rfl⟩ rfl ?_
        refine w_cv1 (pc' := 171) ⟨rfl, rfl⟩ (by decide) (zOl hF rfl) (Nat.le_of_ble_eq_true rfl) (Nat.le_of_ble_eq_true rfl) (c_why hF ?_)
        refine w_topI (e2.trans (show _ = iZ (-4) from congrArg iZ (by rw [hk, if_pos (by decide)]))) ?_
        refine w_iload (pc' := 173) ⟨rfl, rfl⟩ rfl ?_
        refine w_ic (pc' := 174) ⟨rfl, rfl⟩ ?_
        refine w_cs2 (pc' := 177) ⟨rfl, rfl⟩ (by decide) (Nat.le_of_ble_eq_true rfl) (Nat.le_of_ble_eq_true rfl) (j_min (by omega) (by omega) ?_)
        refine w_icT_eq (pc' := 180) (pcT := 182) ⟨rfl, rfl⟩ rfl (by omega) ?_
        refine w_iincZ (pc' := 185) ⟨rfl, rfl⟩ rfl rfl ?_
        refine w_goto (pc' := 188) (pcT := 81) ⟨rfl, rfl⟩ rfl ?_
        refine w_at (ls2 := [(0, .ref zSCR), (1, .ref 0), (3, .int (iZ (row + 1)))]) ?_ (ih (row + 1) _ (by omega) (by omega) w k)
        exact ⟨rfl, rfl, rfl, trivial⟩
      · refine w_iload_n (pc' := 92) ⟨rfl, rfl⟩ rfl ?_
        refine w_bi (pc' := 94) ⟨rfl, rfl⟩ (by decide) ?_
        refine w_icF_le (pc' := 97) ⟨rfl, rfl⟩ (by omega) ?_
        refine w_bi (pc' := 99) ⟨rfl, rfl⟩ (by decide) ?_
        refine w_goto (pc' := 102) (pcT := 154) ⟨rfl, rfl⟩ rfl ?_
        refine w_istore (pc' := 156) ⟨rfl, rfl⟩ rfl ?_
        refine w_aload_n (pc' := 157) ⟨rfl, rfl⟩ rfl ?_
        refine w_ic (pc' := 158) ⟨rfl, rfl⟩ ?_
        refine w_iload_n (pc' := 159) ⟨rfl, rfl⟩ rfl ?_
        refine w_cv3 (pc' := 162) ⟨rfl, rfl⟩ (by decide) (zOl hF rfl) (Nat.le_of_ble_eq_true rfl) (Nat.le_of_ble_eq_true rfl) (y_len hV1 (by omega) (fun σ2 w2 e2 => ?_))
        refine w_topI (show _ = iZ (-4) from congrArg iZ (by rw [hk, if_pos (by decide)])) ?_
        have w := w.trans w2
        have hV1 := w.V hV
        have hF := hV1.1.1
        refine w_iload (pc' := 164) ⟨rfl, rfl⟩ rfl ?_
        refine w_icF_ne (pc' := 167) ⟨rfl, rfl⟩ (by omega) ?_
        refine w_aload_n (pc' := 168) ⟨rfl, rfl⟩ rfl ?_
        refine w_cv1 (pc' := 171) ⟨rfl, rfl⟩ (by decide) (zOl hF rfl) (Nat.le_of_ble_eq_true rfl) (Nat.le_of_ble_eq_true rfl) (c_why hF ?_)
        refine w_topI (e2.trans (show _ = iZ (-4) from congrArg iZ (by rw [hk, if_pos (by decide)]))) ?_
        refine w_iload (pc' := 173) ⟨rfl, rfl⟩ rfl ?_
        refine w_ic (pc' := 174) ⟨rfl, rfl⟩ ?_
        refine w_cs2 (pc' := 177) ⟨rfl, rfl⟩ (by decide) (Nat.le_of_ble_eq_true rfl) (Nat.le_of_ble_eq_true rfl) (j_min (by omega) (by omega) ?_)
        refine w_icT_eq (pc' := 180) (pcT := 182) ⟨rfl, rfl⟩ rfl (by omega) ?_
        refine w_iincZ (pc' := 185) ⟨rfl, rfl⟩ rfl rfl ?_
        refine w_goto (pc' := 188) (pcT := 81) ⟨rfl, rfl⟩ rfl ?_
        refine w_at (ls2 := [(0, .ref zSCR), (1, .ref 0), (3, .int (iZ (row + 1)))]) ?_ (ih (row + 1) _ (by omega) (by omega) w k)
        exact ⟨rfl, rfl, rfl, trivial⟩
    · have hk : zrk t 0 7 = -2 := by rw [zrk0 h13, if_neg (by omega), if_neg (by omega), if_pos rfl]
      refine w_iload_n (pc' := 82) ⟨rfl, rfl⟩ rfl ?_
      refine w_bi (pc' := 84) ⟨rfl, rfl⟩ (by decide) ?_
      refine w_icF_ge (pc' := 87) ⟨rfl, rfl⟩ (by omega) ?_
      refine w_iload_n (pc' := 88) ⟨rfl, rfl⟩ rfl ?_
      refine w_ifF_lt (pc' := 91) ⟨rfl, rfl⟩ (by omega) ?_
      refine w_iload_n (pc' := 92) ⟨rfl, rfl⟩ rfl ?_
      refine w_bi (pc' := 94) ⟨rfl, rfl⟩ (by decide) ?_
      refine w_icT_le (pc' := 97) (pcT := 102) ⟨rfl, rfl⟩ rfl (by omega) ?_
      refine w_iload_n (pc' := 103) ⟨rfl, rfl⟩ rfl ?_
      refine w_bi (pc' := 105) ⟨rfl, rfl⟩ (by decide) ?_
      refine w_icF_ne (pc' := 108) ⟨rfl, rfl⟩ (by omega) ?_
      refine w_bi (pc' := 110) ⟨rfl, rfl⟩ (by decide) ?_
      refine w_goto (pc' := 113) (pcT := 154) ⟨rfl, rfl⟩ rfl ?_
      refine w_istore (pc' := 156) ⟨rfl, rfl⟩ rfl ?_
      refine w_aload_n (pc' := 157) ⟨rfl, rfl⟩ rfl ?_
      refine w_ic (pc' := 158) ⟨rfl, rfl⟩ ?_
      refine w_iload_n (pc' := 159) ⟨rfl, rfl⟩ rfl ?_
      refine w_cv3 (pc' := 162) ⟨rfl, rfl⟩ (by decide) (zOl hF rfl) (Nat.le_of_ble_eq_true rfl) (Nat.le_of_ble_eq_true rfl) (y_len hV1 (by omega) (fun σ2 w2 e2 => ?_))
      refine w_topI (show _ = iZ (-2) from congrArg iZ (by rw [hk, if_pos (by decide)])) ?_
      have w := w.trans w2
      have hV1 := w.V hV
      have hF := hV1.1.1
      refine w_iload (pc' := 164) ⟨rfl, rfl⟩ rfl ?_
      refine w_icF_ne (pc' := 167) ⟨rfl, rfl⟩ (by omega) ?_
      refine w_aload_n (pc' := 168) ⟨rfl, rfl⟩ rfl ?_
      refine w_cv1 (pc' := 171) ⟨rfl, rfl⟩ (by decide) (zOl hF rfl) (Nat.le_of_ble_eq_true rfl) (Nat.le_of_ble_eq_true rfl) (c_why hF ?_)
      refine w_topI (e2.trans (show _ = iZ (-2) from congrArg iZ (by rw [hk, if_pos (by decide)]))) ?_
      refine w_iload (pc' := 173) ⟨rfl, rfl⟩ rfl ?_
      refine w_ic (pc' := 174) ⟨rfl, rfl⟩ ?_
      refine w_cs2 (pc' := 177) ⟨rfl, rfl⟩ (by decide) (Nat.le_of_ble_eq_true rfl) (Nat.le_of_ble_eq_true rfl) (j_min (by omega) (by omega) ?_)
      refine w_icT_eq (pc' := 180) (pcT := 182) ⟨rfl, rfl⟩ rfl (by omega) ?_
      refine w_iincZ (pc' := 185) ⟨rfl, rfl⟩ rfl rfl ?_
      refine w_goto (pc' := 188) (pcT := 81) ⟨rfl, rfl⟩ rfl ?_
      refine w_at (ls2 := [(0, .ref zSCR), (1, .ref 0), (3, .int (iZ (7 + 1)))]) ?_ (ih (7 + 1) _ (by omega) (by omega) w k)
      exact ⟨rfl, rfl, rfl, trivial⟩
    · have hk : zrk t 0 8 = 9 := by rw [zrk0 h13, if_neg (by omega), if_pos rfl]
      have hl := zlo8 (t := t)
      refine w_iload_n (pc' := 82) ⟨rfl, rfl⟩ rfl ?_
      refine w_bi (pc' := 84) ⟨rfl, rfl⟩ (by decide) ?_
      refine w_icF_ge (pc' := 87) ⟨rfl, rfl⟩ (by omega) ?_
      refine w_iload_n (pc' := 88) ⟨rfl, rfl⟩ rfl ?_
      refine w_ifF_lt (pc' := 91) ⟨rfl, rfl⟩ (by omega) ?_
      refine w_iload_n (pc' := 92) ⟨rfl, rfl⟩ rfl ?_
      refine w_bi (pc' := 94) ⟨rfl, rfl⟩ (by decide) ?_
      refine w_icT_le (pc' := 97) (pcT := 102) ⟨rfl, rfl⟩ rfl (by omega) ?_
      refine w_iload_n (pc' := 103) ⟨rfl, rfl⟩ rfl ?_
      refine w_bi (pc' := 105) ⟨rfl, rfl⟩ (by decide) ?_
      refine w_icT_ne (pc' := 108) (pcT := 113) ⟨rfl, rfl⟩ rfl (by omega) ?_
      refine w_iload_n (pc' := 114) ⟨rfl, rfl⟩ rfl ?_
      refine w_bi (pc' := 116) ⟨rfl, rfl⟩ (by decide) ?_
      refine w_icF_ne (pc' := 119) ⟨rfl, rfl⟩ (by omega) ?_
      refine w_ic (pc' := 120) ⟨rfl, rfl⟩ ?_
      refine w_goto (pc' := 123) (pcT := 154) ⟨rfl, rfl⟩ rfl ?_
      refine w_istore (pc' := 156) ⟨rfl, rfl⟩ rfl ?_
      refine w_aload_n (pc' := 157) ⟨rfl, rfl⟩ rfl ?_
      refine w_ic (pc' := 158) ⟨rfl, rfl⟩ ?_
      refine w_iload_n (pc' := 159) ⟨rfl, rfl⟩ rfl ?_
      refine w_cv3 (pc' := 162) ⟨rfl, rfl⟩ (by decide) (zOl hF rfl) (Nat.le_of_ble_eq_true rfl) (Nat.le_of_ble_eq_true rfl) (y_len hV1 (by omega) (fun σ2 w2 e2 => ?_))
      refine w_topI (show _ = iZ (4) from congrArg iZ (by rw [hk, if_neg (by omega), hl])) ?_
      have w := w.trans w2
      have hV1 := w.V hV
      have hF := hV1.1.1
      refine w_iload (pc' := 164) ⟨rfl, rfl⟩ rfl ?_
      refine w_icF_ne (pc' := 167) ⟨rfl, rfl⟩ (by omega) ?_
      refine w_aload_n (pc' := 168) ⟨rfl, rfl⟩ rfl ?_
      refine w_cv1 (pc' := 171) ⟨rfl, rfl⟩ (by decide) (zOl hF rfl) (Nat.le_of_ble_eq_true rfl) (Nat.le_of_ble_eq_true rfl) (c_why hF ?_)
      refine w_topI (e2.trans (show _ = iZ (0) from congrArg iZ (by rw [hk, if_neg (by omega)]))) ?_
      refine w_iload (pc' := 173) ⟨rfl, rfl⟩ rfl ?_
      refine w_ic (pc' := 174) ⟨rfl, rfl⟩ ?_
      refine w_cs2 (pc' := 177) ⟨rfl, rfl⟩ (by decide) (Nat.le_of_ble_eq_true rfl) (Nat.le_of_ble_eq_true rfl) (j_min (by omega) (by omega) ?_)
      refine w_icT_eq (pc' := 180) (pcT := 182) ⟨rfl, rfl⟩ rfl (by omega) ?_
      refine w_iincZ (pc' := 185) ⟨rfl, rfl⟩ rfl rfl ?_
      refine w_goto (pc' := 188) (pcT := 81) ⟨rfl, rfl⟩ rfl ?_
      refine w_at (ls2 := [(0, .ref zSCR), (1, .ref 0), (3, .int (iZ (8 + 1)))]) ?_ (ih (8 + 1) _ (by omega) (by omega) w k)
      exact ⟨rfl, rfl, rfl, trivial⟩
    · have hk : zrk t 0 row = -3 := by rw [zrk0 h13, if_neg (by omega), if_neg (by omega), if_neg (by omega), if_neg (by omega)]
      refine w_iload_n (pc' := 82) ⟨rfl, rfl⟩ rfl ?_
      refine w_bi (pc' := 84) ⟨rfl, rfl⟩ (by decide) ?_
      refine w_icF_ge (pc' := 87) ⟨rfl, rfl⟩ (by omega) ?_
      refine w_iload_n (pc' := 88) ⟨rfl, rfl⟩ rfl ?_
      refine w_ifF_lt (pc' := 91) ⟨rfl, rfl⟩ (by omega) ?_
      refine w_iload_n (pc' := 92) ⟨rfl, rfl⟩ rfl ?_
      refine w_bi (pc' := 94) ⟨rfl, rfl⟩ (by decide) ?_
      refine w_icT_le (pc' := 97) (pcT := 102) ⟨rfl, rfl⟩ rfl (by omega) ?_
      refine w_iload_n (pc' := 103) ⟨rfl, rfl⟩ rfl ?_
      refine w_bi (pc' := 105) ⟨rfl, rfl⟩ (by decide) ?_
      refine w_icT_ne (pc' := 108) (pcT := 113) ⟨rfl, rfl⟩ rfl (by omega) ?_
      refine w_iload_n (pc' := 114) ⟨rfl, rfl⟩ rfl ?_
      refine w_bi (pc' := 116) ⟨rfl, rfl⟩ (by decide) ?_
      refine w_icT_ne (pc' := 119) (pcT := 123) ⟨rfl, rfl⟩ rfl (by omega) ?_
      refine w_iload_n (pc' := 124) ⟨rfl, rfl⟩ rfl ?_
      refine w_bi (pc' := 126) ⟨rfl, rfl⟩ (by decide) ?_
      refine w_ic_eq (pc' := 129) (pcT := 139) ⟨rfl, rfl⟩ rfl (by omega) (by omega) (fun h1 => ?_) (fun h1 => ?_)
      · refine w_bi (pc' := 141) ⟨rfl, rfl⟩ (by decide) ?_
        refine w_goto (pc' := 144) (pcT := 154) ⟨rfl, rfl⟩ rfl ?_
        refine w_istore (pc' := 156) ⟨rfl, rfl⟩ rfl ?_
        refine w_aload_n (pc' := 157) ⟨rfl, rfl⟩ rfl ?_
        refine w_ic (pc' := 158) ⟨rfl, rfl⟩ ?_
        refine w_iload_n (pc' := 159) ⟨rfl, rfl⟩ rfl ?_
        refine w_cv3 (pc' := 162) ⟨rfl, rfl⟩ (by decide) (zOl hF rfl) (Nat.le_of_ble_eq_true rfl) (Nat.le_of_ble_eq_true rfl) (y_len hV1 (by omega) (fun σ2 w2 e2 => ?_))
        refine w_topI (show _ = iZ (-3) from congrArg iZ (by rw [hk, if_pos (by decide)])) ?_
        have w := w.trans w2
        have hV1 := w.V hV
        have hF := hV1.1.1
        refine w_iload (pc' := 164) ⟨rfl, rfl⟩ rfl ?_
        refine w_icF_ne (pc' := 167) ⟨rfl, rfl⟩ (by omega) ?_
        refine w_aload_n (pc' := 168) ⟨rfl, rfl⟩ rfl ?_
        refine w_cv1 (pc' := 171) ⟨rfl, rfl⟩ (by decide) (zOl hF rfl) (Nat.le_of_ble_eq_true rfl) (Nat.le_of_ble_eq_true rfl) (c_why hF ?_)
        refine w_topI (e2.trans (show _ = iZ (-3) from congrArg iZ (by rw [hk, if_pos (by decide)]))) ?_
        refine w_iload (pc' := 173) ⟨rfl, rfl⟩ rfl ?_
        refine w_ic (pc' := 174) ⟨rfl, rfl⟩ ?_
        refine w_cs2 (pc' := 177) ⟨rfl, rfl⟩ (by decide) (Nat.le_of_ble_eq_true rfl) (Nat.le_of_ble_eq_true rfl) (j_min (by omega) (by omega) ?_)
        refine w_icT_eq (pc' := 180) (pcT := 182) ⟨rfl, rfl⟩ rfl (by omega) ?_
        refine w_iincZ (pc' := 185) ⟨rfl, rfl⟩ rfl rfl ?_
        refine w_goto (pc' := 188) (pcT := 81) ⟨rfl, rfl⟩ rfl ?_
        refine w_at (ls2 := [(0, .ref zSCR), (1, .ref 0), (3, .int (iZ (row + 1)))]) ?_ (ih (row + 1) _ (by omega) (by omega) w k)
        exact ⟨rfl, rfl, rfl, trivial⟩
      · refine w_iload_n (pc' := 130) ⟨rfl, rfl⟩ rfl ?_
        refine w_aload_n (pc' := 131) ⟨rfl, rfl⟩ rfl ?_
        refine w_bi (pc' := 133) ⟨rfl, rfl⟩ (by decide) ?_
        refine w_cv2 (pc' := 136) ⟨rfl, rfl⟩ (by decide) (zOl hF rfl) (Nat.le_of_ble_eq_true rfl) (Nat.le_of_ble_eq_true rfl) (y_has hV1 (by decide) ?_)
        rw [zaH7 h13]
        refine w_icF_lt (pc' := 139) ⟨rfl, rfl⟩ (by omega) ?_
        refine w_bi (pc' := 141) ⟨rfl, rfl⟩ (by decide) ?_
        refine w_goto (pc' := 144) (pcT := 154) ⟨rfl, rfl⟩ rfl ?_
        refine w_istore (pc' := 156) ⟨rfl, rfl⟩ rfl ?_
        refine w_aload_n (pc' := 157) ⟨rfl, rfl⟩ rfl ?_
        refine w_ic (pc' := 158) ⟨rfl, rfl⟩ ?_
        refine w_iload_n (pc' := 159) ⟨rfl, rfl⟩ rfl ?_
        refine w_cv3 (pc' := 162) ⟨rfl, rfl⟩ (by decide) (zOl hF rfl) (Nat.le_of_ble_eq_true rfl) (Nat.le_of_ble_eq_true rfl) (y_len hV1 (by omega) (fun σ2 w2 e2 => ?_))
        refine w_topI (show _ = iZ (-3) from congrArg iZ (by rw [hk, if_pos (by decide)])) ?_
        have w := w.trans w2
        have hV1 := w.V hV
        have hF := hV1.1.1
        refine w_iload (pc' := 164) ⟨rfl, rfl⟩ rfl ?_
        refine w_icF_ne (pc' := 167) ⟨rfl, rfl⟩ (by omega) ?_
        refine w_aload_n (pc' := 168) ⟨rfl, rfl⟩ rfl ?_
        refine w_cv1 (pc' := 171) ⟨rfl, rfl⟩ (by decide) (zOl hF rfl) (Nat.le_of_ble_eq_true rfl) (Nat.le_of_ble_eq_true rfl) (c_why hF ?_)
        refine w_topI (e2.trans (show _ = iZ (-3) from congrArg iZ (by rw [hk, if_pos (by decide)]))) ?_
        refine w_iload (pc' := 173) ⟨rfl, rfl⟩ rfl ?_
        refine w_ic (pc' := 174) ⟨rfl, rfl⟩ ?_
        refine w_cs2 (pc' := 177) ⟨rfl, rfl⟩ (by decide) (Nat.le_of_ble_eq_true rfl) (Nat.le_of_ble_eq_true rfl) (j_min (by omega) (by omega) ?_)
        refine w_icT_eq (pc' := 180) (pcT := 182) ⟨rfl, rfl⟩ rfl (by omega) ?_
        refine w_iincZ (pc' := 185) ⟨rfl, rfl⟩ rfl rfl ?_
        refine w_goto (pc' := 188) (pcT := 81) ⟨rfl, rfl⟩ rfl ?_
        refine w_at (ls2 := [(0, .ref zSCR), (1, .ref 0), (3, .int (iZ (row + 1)))]) ?_ (ih (row + 1) _ (by omega) (by omega) w k)
        exact ⟨rfl, rfl, rfl, trivial⟩
    · obtain ⟨f, rfl⟩ : ∃ f : Nat, row = f := ⟨row.toNat, by omega⟩
      have hf : (f : Int) < zNF t 0 := h2.2.2
      have hkd := (hV0.2 f hf).1
      have hce := (hV0.2 f hf).2
      have hk : zrk t 0 (f : Int) = zKD t 0 f := by
        rw [zrk0 h13, if_neg (by omega), if_neg (by omega), if_neg (by omega), if_pos hf]
        rfl
      have hl := zlo0 (t := t) (f := f) (by omega)
      refine w_iload_n (pc' := 82) ⟨rfl, rfl⟩ rfl ?_
      refine w_bi (pc' := 84) ⟨rfl, rfl⟩ (by decide) ?_
      refine w_icF_ge (pc' := 87) ⟨rfl, rfl⟩ (by omega) ?_
      refine w_iload_n (pc' := 88) ⟨rfl, rfl⟩ rfl ?_
      refine w_ifF_lt (pc' := 91) ⟨rfl, rfl⟩ (by omega) ?_
      refine w_iload_n (pc' := 92) ⟨rfl, rfl⟩ rfl ?_
      refine w_bi (pc' := 94) ⟨rfl, rfl⟩ (by decide) ?_
      refine w_icT_le (pc' := 97) (pcT := 102) ⟨rfl, rfl⟩ rfl (by omega) ?_
      refine w_iload_n (pc' := 103) ⟨rfl, rfl⟩ rfl ?_
      refine w_bi (pc' := 105) ⟨rfl, rfl⟩ (by decide) ?_
      refine w_icT_ne (pc' := 108) (pcT := 113) ⟨rfl, rfl⟩ rfl (by omega) ?_
      refine w_iload_n (pc' := 114) ⟨rfl, rfl⟩ rfl ?_
      refine w_bi (pc' := 116) ⟨rfl, rfl⟩ (by decide) ?_
      refine w_icT_ne (pc' := 119) (pcT := 123) ⟨rfl, rfl⟩ rfl (by omega) ?_
      refine w_iload_n (pc' := 124) ⟨rfl, rfl⟩ rfl ?_
      refine w_bi (pc' := 126) ⟨rfl, rfl⟩ (by decide) ?_
      refine w_icF_eq (pc' := 129) ⟨rfl, rfl⟩ (by omega) ?_
      refine w_iload_n (pc' := 130) ⟨rfl, rfl⟩ rfl ?_
      refine w_aload_n (pc' := 131) ⟨rfl, rfl⟩ rfl ?_
      refine w_bi (pc' := 133) ⟨rfl, rfl⟩ (by decide) ?_
      refine w_cv2 (pc' := 136) ⟨rfl, rfl⟩ (by decide) (zOl hF rfl) (Nat.le_of_ble_eq_true rfl) (Nat.le_of_ble_eq_true rfl) (y_has hV1 (by decide) ?_)
      rw [zaH7 h13]
      refine w_icT_lt (pc' := 139) (pcT := 144) ⟨rfl, rfl⟩ rfl (by omega) ?_
      refine w_bi (pc' := 146) ⟨rfl, rfl⟩ (by decide) ?_
      refine w_aload_n (pc' := 147) ⟨rfl, rfl⟩ rfl ?_
      refine w_ic (pc' := 148) ⟨rfl, rfl⟩ ?_
      refine w_iload_n (pc' := 149) ⟨rfl, rfl⟩ rfl ?_
      refine w_ic (pc' := 150) ⟨rfl, rfl⟩ ?_
      refine w_cv4 (pc' := 153) ⟨rfl, rfl⟩ (by decide) (zOl hF rfl) (Nat.le_of_ble_eq_true rfl) (Nat.le_of_ble_eq_true rfl) (y_field hV1 (by decide) (by omega) (by decide) ?_)
      rw [zaF1 h13 hf]
      refine w_imulZ (pc' := 154) ⟨rfl, rfl⟩ ?_
      refine w_istore (pc' := 156) ⟨rfl, rfl⟩ rfl ?_
      refine w_aload_n (pc' := 157) ⟨rfl, rfl⟩ rfl ?_
      refine w_ic (pc' := 158) ⟨rfl, rfl⟩ ?_
      refine w_iload_n (pc' := 159) ⟨rfl, rfl⟩ rfl ?_
      refine w_cv3 (pc' := 162) ⟨rfl, rfl⟩ (by decide) (zOl hF rfl) (Nat.le_of_ble_eq_true rfl) (Nat.le_of_ble_eq_true rfl) (y_len hV1 (by omega) (fun σ2 w2 e2 => ?_))
      refine w_topI (show _ = iZ (8 * zCE t 0 f) from congrArg iZ (by rw [hk, if_neg (by omega), hl])) ?_
      have w := w.trans w2
      have hV1 := w.V hV
      have hF := hV1.1.1
      refine w_iload (pc' := 164) ⟨rfl, rfl⟩ rfl ?_
      refine w_icF_ne (pc' := 167) ⟨rfl, rfl⟩ (by omega) ?_
      refine w_aload_n (pc' := 168) ⟨rfl, rfl⟩ rfl ?_
      refine w_cv1 (pc' := 171) ⟨rfl, rfl⟩ (by decide) (zOl hF rfl) (Nat.le_of_ble_eq_true rfl) (Nat.le_of_ble_eq_true rfl) (c_why hF ?_)
      refine w_topI (e2.trans (show _ = iZ (0) from congrArg iZ (by rw [hk, if_neg (by omega)]))) ?_
      refine w_iload (pc' := 173) ⟨rfl, rfl⟩ rfl ?_
      refine w_ic (pc' := 174) ⟨rfl, rfl⟩ ?_
      refine w_cs2 (pc' := 177) ⟨rfl, rfl⟩ (by decide) (Nat.le_of_ble_eq_true rfl) (Nat.le_of_ble_eq_true rfl) (j_min (by omega) (by omega) ?_)
      refine w_icT_eq (pc' := 180) (pcT := 182) ⟨rfl, rfl⟩ rfl (by omega) ?_
      refine w_iincZ (pc' := 185) ⟨rfl, rfl⟩ rfl rfl ?_
      refine w_goto (pc' := 188) (pcT := 81) ⟨rfl, rfl⟩ rfl ?_
      refine w_at (ls2 := [(0, .ref zSCR), (1, .ref 0), (3, .int (iZ ((f : Int) + 1)))]) ?_ (ih ((f : Int) + 1) _ (by omega) (by omega) w k)
      exact ⟨rfl, rfl, rfl, trivial⟩
theorem l_thg {σ : zSt} {t : zBk} {L : Nat} {x : Nat → Int} {n : Nat} {y : Int} (hV : zLV σ t L x n y) {R : zRw0} (hR : zL σ 80 = zclr R) {σ1 : zSt} (w : zWy σ σ1) {Q : zSt → Option Value → Prop} (k : ∀ σ2, zWy σ σ2 → zP zk_L_law 322 [(0, .ref zSCR), (1, .ref 0)] [] σ2 Q) : zP zk_L_law 188 [(0, .ref zSCR), (1, .ref 0)] [] σ1 Q := by
  have ht0 := hV.1.2.1.1
  have h13 : 1 ≤ t 0 ∧ t 0 ≤ 3 := ⟨hV.1.2.2.2.2, ht0.2⟩
  have hV1 := w.V hV
  have hF := hV1.1.1
  refine w_aload_n (pc' := 189) ⟨rfl, rfl⟩ rfl ?_
  refine w_ic (pc' := 190) ⟨rfl, rfl⟩ ?_
  refine w_bi (pc' := 192) ⟨rfl, rfl⟩ (by decide) ?_
  refine w_ic (pc' := 193) ⟨rfl, rfl⟩ ?_
  refine w_ic (pc' := 194) ⟨rfl, rfl⟩ ?_
  refine w_cv5 (pc' := 197) ⟨rfl, rfl⟩ (by decide) (zOl hF rfl) (Nat.le_of_ble_eq_true rfl) (Nat.le_of_ble_eq_true rfl) (y_get hV1 (by decide) (by decide) (by decide) (fun σ2 w2 e2 => ?_))
  refine w_topL (show _ = lZ (4) from (by rw [w.L, hR]; exact (zgVc h13 0 (by decide)).1)) ?_
  have w := w.trans w2
  have hV1 := w.V hV
  have hF := hV1.1.1
  refine w_ldc2Y (pc' := 200) (z := 4) ⟨rfl, rfl⟩ rfl ?_
  refine w_lcmp (pc' := 201) ⟨rfl, rfl⟩ ?_
  refine w_ify_ne (pc' := 204) (pcT := 320) ⟨rfl, rfl⟩ rfl (by omega) (by omega) (fun h1 => ?_) (fun h1 => ?_)
  · first | exact absurd rfl (by assumption) | (exfalso; omega)
  · refine w_aload_n (pc' := 205) ⟨rfl, rfl⟩ rfl ?_
    refine w_ic (pc' := 206) ⟨rfl, rfl⟩ ?_
    refine w_bi (pc' := 208) ⟨rfl, rfl⟩ (by decide) ?_
    refine w_ic (pc' := 209) ⟨rfl, rfl⟩ ?_
    refine w_ic (pc' := 210) ⟨rfl, rfl⟩ ?_
    refine w_cv5 (pc' := 213) ⟨rfl, rfl⟩ (by decide) (zOl hF rfl) (Nat.le_of_ble_eq_true rfl) (Nat.le_of_ble_eq_true rfl) (y_get hV1 (by decide) (by decide) (by decide) (fun σ3 w3 e3 => ?_))
    refine w_topL (show _ = lZ (7) from (by rw [w.L, hR]; exact (zgVc h13 0 (by decide)).2)) ?_
    have w := w.trans w3
    have hV1 := w.V hV
    have hF := hV1.1.1
    refine w_ldc2Y (pc' := 216) (z := 7) ⟨rfl, rfl⟩ rfl ?_
    refine w_lcmp (pc' := 217) ⟨rfl, rfl⟩ ?_
    refine w_ify_ne (pc' := 220) (pcT := 320) ⟨rfl, rfl⟩ rfl (by omega) (by omega) (fun h2 => ?_) (fun h2 => ?_)
    · first | exact absurd rfl (by assumption) | (exfalso; omega)
    · refine w_aload_n (pc' := 221) ⟨rfl, rfl⟩ rfl ?_
      refine w_ic (pc' := 222) ⟨rfl, rfl⟩ ?_
      refine w_bi (pc' := 224) ⟨rfl, rfl⟩ (by decide) ?_
      refine w_ic (pc' := 225) ⟨rfl, rfl⟩ ?_
      refine w_ic (pc' := 226) ⟨rfl, rfl⟩ ?_
      refine w_cv5 (pc' := 229) ⟨rfl, rfl⟩ (by decide) (zOl hF rfl) (Nat.le_of_ble_eq_true rfl) (Nat.le_of_ble_eq_true rfl) (y_get hV1 (by decide) (by decide) (by decide) (fun σ4 w4 e4 => ?_))
      refine w_topL (show _ = lZ (8) from (by rw [w.L, hR]; exact (zgVc h13 1 (by decide)).1)) ?_
      have w := w.trans w4
      have hV1 := w.V hV
      have hF := hV1.1.1
      refine w_ldc2Y (pc' := 232) (z := 8) ⟨rfl, rfl⟩ rfl ?_
      refine w_lcmp (pc' := 233) ⟨rfl, rfl⟩ ?_
      refine w_ify_ne (pc' := 236) (pcT := 320) ⟨rfl, rfl⟩ rfl (by omega) (by omega) (fun h3 => ?_) (fun h3 => ?_)
      · first | exact absurd rfl (by assumption) | (exfalso; omega)
      · refine w_aload_n (pc' := 237) ⟨rfl, rfl⟩ rfl ?_
        refine w_ic (pc' := 238) ⟨rfl, rfl⟩ ?_
        refine w_bi (pc' := 240) ⟨rfl, rfl⟩ (by decide) ?_
        refine w_ic (pc' := 241) ⟨rfl, rfl⟩ ?_
        refine w_ic (pc' := 242) ⟨rfl, rfl⟩ ?_
        refine w_cv5 (pc' := 245) ⟨rfl, rfl⟩ (by decide) (zOl hF rfl) (Nat.le_of_ble_eq_true rfl) (Nat.le_of_ble_eq_true rfl) (y_get hV1 (by decide) (by decide) (by decide) (fun σ5 w5 e5 => ?_))
        refine w_topL (show _ = lZ (34) from (by rw [w.L, hR]; exact (zgVc h13 1 (by decide)).2)) ?_
        have w := w.trans w5
        have hV1 := w.V hV
        have hF := hV1.1.1
        refine w_ldc2Y (pc' := 248) (z := 34) ⟨rfl, rfl⟩ rfl ?_
        refine w_lcmp (pc' := 249) ⟨rfl, rfl⟩ ?_
        refine w_ify_ne (pc' := 252) (pcT := 320) ⟨rfl, rfl⟩ rfl (by omega) (by omega) (fun h4 => ?_) (fun h4 => ?_)
        · first | exact absurd rfl (by assumption) | (exfalso; omega)
        · refine w_aload_n (pc' := 253) ⟨rfl, rfl⟩ rfl ?_
          refine w_ic (pc' := 254) ⟨rfl, rfl⟩ ?_
          refine w_bi (pc' := 256) ⟨rfl, rfl⟩ (by decide) ?_
          refine w_ic (pc' := 257) ⟨rfl, rfl⟩ ?_
          refine w_ic (pc' := 258) ⟨rfl, rfl⟩ ?_
          refine w_cv5 (pc' := 261) ⟨rfl, rfl⟩ (by decide) (zOl hF rfl) (Nat.le_of_ble_eq_true rfl) (Nat.le_of_ble_eq_true rfl) (y_get hV1 (by decide) (by decide) (by decide) (fun σ6 w6 e6 => ?_))
          refine w_topL (show _ = lZ (10) from (by rw [w.L, hR]; exact (zgVc h13 2 (by decide)).1)) ?_
          have w := w.trans w6
          have hV1 := w.V hV
          have hF := hV1.1.1
          refine w_ldc2Y (pc' := 264) (z := 10) ⟨rfl, rfl⟩ rfl ?_
          refine w_lcmp (pc' := 265) ⟨rfl, rfl⟩ ?_
          refine w_ify_ne (pc' := 268) (pcT := 320) ⟨rfl, rfl⟩ rfl (by omega) (by omega) (fun h5 => ?_) (fun h5 => ?_)
          · first | exact absurd rfl (by assumption) | (exfalso; omega)
          · refine w_aload_n (pc' := 269) ⟨rfl, rfl⟩ rfl ?_
            refine w_ic (pc' := 270) ⟨rfl, rfl⟩ ?_
            refine w_bi (pc' := 272) ⟨rfl, rfl⟩ (by decide) ?_
            refine w_ic (pc' := 273) ⟨rfl, rfl⟩ ?_
            refine w_ic (pc' := 274) ⟨rfl, rfl⟩ ?_
            refine w_cv5 (pc' := 277) ⟨rfl, rfl⟩ (by decide) (zOl hF rfl) (Nat.le_of_ble_eq_true rfl) (Nat.le_of_ble_eq_true rfl) (y_get hV1 (by decide) (by decide) (by decide) (fun σ7 w7 e7 => ?_))
            refine w_topL (show _ = lZ (0) from (by rw [w.L, hR]; exact (zgVc h13 3 (by decide)).1)) ?_
            have w := w.trans w7
            have hV1 := w.V hV
            have hF := hV1.1.1
            refine w_lc (pc' := 278) (z := 0) ⟨rfl, rfl⟩ rfl ?_
            refine w_lcmp (pc' := 279) ⟨rfl, rfl⟩ ?_
            refine w_ify_ne (pc' := 282) (pcT := 320) ⟨rfl, rfl⟩ rfl (by omega) (by omega) (fun h6 => ?_) (fun h6 => ?_)
            · first | exact absurd rfl (by assumption) | (exfalso; omega)
            · refine w_aload_n (pc' := 283) ⟨rfl, rfl⟩ rfl ?_
              refine w_ic (pc' := 284) ⟨rfl, rfl⟩ ?_
              refine w_bi (pc' := 286) ⟨rfl, rfl⟩ (by decide) ?_
              refine w_ic (pc' := 287) ⟨rfl, rfl⟩ ?_
              refine w_ic (pc' := 288) ⟨rfl, rfl⟩ ?_
              refine w_cv5 (pc' := 291) ⟨rfl, rfl⟩ (by decide) (zOl hF rfl) (Nat.le_of_ble_eq_true rfl) (Nat.le_of_ble_eq_true rfl) (y_get hV1 (by decide) (by decide) (by decide) (fun σ8 w8 e8 => ?_))
              refine w_topL (show _ = lZ (1) from (by rw [w.L, hR]; exact (zgVc h13 3 (by decide)).2)) ?_
              have w := w.trans w8
              have hV1 := w.V hV
              have hF := hV1.1.1
              refine w_lc (pc' := 292) (z := 1) ⟨rfl, rfl⟩ rfl ?_
              refine w_lcmp (pc' := 293) ⟨rfl, rfl⟩ ?_
              refine w_ify_ne (pc' := 296) (pcT := 320) ⟨rfl, rfl⟩ rfl (by omega) (by omega) (fun h7 => ?_) (fun h7 => ?_)
              · first | exact absurd rfl (by assumption) | (exfalso; omega)
              · refine w_aload_n (pc' := 297) ⟨rfl, rfl⟩ rfl ?_
                refine w_ic (pc' := 298) ⟨rfl, rfl⟩ ?_
                refine w_bi (pc' := 300) ⟨rfl, rfl⟩ (by decide) ?_
                refine w_ic (pc' := 301) ⟨rfl, rfl⟩ ?_
                refine w_ic (pc' := 302) ⟨rfl, rfl⟩ ?_
                refine w_cv5 (pc' := 305) ⟨rfl, rfl⟩ (by decide) (zOl hF rfl) (Nat.le_of_ble_eq_true rfl) (Nat.le_of_ble_eq_true rfl) (y_get hV1 (by decide) (by decide) (by decide) (fun σ9 w9 e9 => ?_))
                refine w_topL (show _ = lZ (-4611686018427387904) from (by rw [w.L]; exact zgV84 h13)) ?_
                have w := w.trans w9
                have hV1 := w.V hV
                have hF := hV1.1.1
                refine w_ldc2Y (pc' := 308) (z := -4611686018427387904) ⟨rfl, rfl⟩ rfl ?_
                refine w_lcmp (pc' := 309) ⟨rfl, rfl⟩ ?_
                refine w_ify_ne (pc' := 312) (pcT := 320) ⟨rfl, rfl⟩ rfl (by omega) (by omega) (fun h8 => ?_) (fun h8 => ?_)
                · first | exact absurd rfl (by assumption) | (exfalso; omega)
                · refine w_aload_n (pc' := 313) ⟨rfl, rfl⟩ rfl ?_
                  refine w_cv1 (pc' := 316) ⟨rfl, rfl⟩ (by decide) (zOl hF rfl) (Nat.le_of_ble_eq_true rfl) (Nat.le_of_ble_eq_true rfl) (c_why hF ?_)
                  refine w_topI (e9.trans (congrArg iZ (zgr84 h13))) ?_
                  refine w_ic (pc' := 317) ⟨rfl, rfl⟩ ?_
                  refine w_icT_eq (pc' := 320) (pcT := 322) ⟨rfl, rfl⟩ rfl (by decide) ?_
                  exact w_at (by exact ⟨rfl, rfl, trivial⟩) (k _ w)
set_option maxRecDepth 20000 in
theorem l_fin {σ : zSt} {t : zBk} {L : Nat} {x : Nat → Int} {n : Nat} {y : Int} (hV : zLV σ t L x n y) : zP zk_L_law 477 [(0, .ref zSCR), (1, .ref 0)] [] σ zQ1 := by
  have hV1 := hV
  have hF := hV1.1.1
  refine w_aload_n (pc' := 478) ⟨rfl, rfl⟩ rfl ?_
  refine w_ic (pc' := 479) ⟨rfl, rfl⟩ ?_
  refine w_ic (pc' := 480) ⟨rfl, rfl⟩ ?_
  refine w_ic (pc' := 481) ⟨rfl, rfl⟩ ?_
  refine w_ic (pc' := 482) ⟨rfl, rfl⟩ ?_
  refine w_cv5 (pc' := 485) ⟨rfl, rfl⟩ (by decide) (zOl hF rfl) (Nat.le_of_ble_eq_true rfl) (Nat.le_of_ble_eq_true rfl) (y_read hV1 (by decide) (by decide) (by decide) (by decide) (fun h0 σ2 w2 e2 => ?_) (fun h0 σ2 w2 e2 => ?_))
  · have hV1 := w2.V hV
    have hF := hV1.1.1
    refine w_ldc2Y (pc' := 488) (z := -4611686018427387904) ⟨rfl, rfl⟩ rfl ?_
    refine w_lcmp (pc' := 489) ⟨rfl, rfl⟩ ?_
    refine w_ify_ne (pc' := 492) (pcT := 513) ⟨rfl, rfl⟩ rfl (by omega) (by omega) (fun h1 => ?_) (fun h1 => ?_)
    · first | exact absurd rfl (by assumption) | (exfalso; omega)
    · refine w_aload_n (pc' := 493) ⟨rfl, rfl⟩ rfl ?_
      refine w_cv1 (pc' := 496) ⟨rfl, rfl⟩ (by decide) (zOl hF rfl) (Nat.le_of_ble_eq_true rfl) (Nat.le_of_ble_eq_true rfl) (c_why hF ?_)
      refine w_topI (e2.trans (congrArg iZ zrr_m)) ?_
      refine w_bi (pc' := 498) ⟨rfl, rfl⟩ (by decide) ?_
      refine w_icF_ne (pc' := 501) ⟨rfl, rfl⟩ (by decide) ?_
      refine w_aload_n (pc' := 502) ⟨rfl, rfl⟩ rfl ?_
      refine w_ic (pc' := 503) ⟨rfl, rfl⟩ ?_
      refine w_cv2 (pc' := 506) ⟨rfl, rfl⟩ (by decide) (zOl hF rfl) (Nat.le_of_ble_eq_true rfl) (Nat.le_of_ble_eq_true rfl) (y_has hV1 (by decide) ?_)
      rw [zaH2]
      refine w_ifF_ne (pc' := 509) ⟨rfl, rfl⟩ (by decide) ?_
      refine w_ic (pc' := 510) ⟨rfl, rfl⟩ ?_
      refine w_goto (pc' := 513) (pcT := 514) ⟨rfl, rfl⟩ rfl ?_
      refine w_ireturn (pc' := 515) ⟨rfl, rfl⟩ (by decide) ?_
      exact ⟨rfl, by rw [hV1.2.2.2.1]; decide⟩
  · rw [zrr_m] at h0; exact absurd h0 (by decide)
set_option maxRecDepth 20000 in
theorem l_turn {L : Nat} {x : Nat → Int} (hL : L ≤ 260) (hx : ∀ j, -2147483648 ≤ x j ∧ x j ≤ 2147483647) {t : zBk}  : ∀ (j : Nat) (m : Nat) (σ1 : zSt) (n : Nat) (y : Int), m + j = 24 → zLV σ1 t L x n y → zP zk_L_law 324 [(0, .ref zSCR), (1, .ref 0), (3, .int (iZ (m : Int)))] [] σ1 zQ1 := by
  intro j
  induction j with
  | zero =>
    intro m σ1 n y hi hV
    refine w_iload_n (pc' := 325) ⟨rfl, rfl⟩ rfl ?_
    refine w_bi (pc' := 327) ⟨rfl, rfl⟩ (by decide) ?_
    refine w_icT_ge (pc' := 330) (pcT := 477) ⟨rfl, rfl⟩ rfl (by omega) ?_
    exact w_at (by exact ⟨rfl, rfl, trivial⟩) (l_fin hV)
  | succ j ih =>
    intro m σ1 n y hi hV
    have ht0 := hV.1.2.1.1
    have h13 : 1 ≤ t 0 ∧ t 0 ≤ 3 := ⟨hV.1.2.2.2.2, ht0.2⟩
    have hV1 := hV
    have hF := hV1.1.1
    have hX := hV.2.2.2.2
    have hy0 := hV.2.1.2.2.2
    have hxr := zpc_rng (L := L) hx (8 + m)
    refine w_iload_n (pc' := 325) ⟨rfl, rfl⟩ rfl ?_
    refine w_bi (pc' := 327) ⟨rfl, rfl⟩ (by decide) ?_
    refine w_icF_ge (pc' := 330) ⟨rfl, rfl⟩ (by omega) ?_
    refine w_aload_n (pc' := 331) ⟨rfl, rfl⟩ rfl ?_
    refine w_ic (pc' := 332) ⟨rfl, rfl⟩ ?_
    refine w_cv2 (pc' := 335) ⟨rfl, rfl⟩ (by decide) (zOl hF rfl) (Nat.le_of_ble_eq_true rfl) (Nat.le_of_ble_eq_true rfl) (y_has hV1 (by decide) ?_)
    rw [zaH3]
    refine w_istore (pc' := 337) ⟨rfl, rfl⟩ rfl ?_
    refine w_aload_n (pc' := 338) ⟨rfl, rfl⟩ rfl ?_
    refine w_bi (pc' := 340) ⟨rfl, rfl⟩ (by decide) ?_
    refine w_iload_n (pc' := 341) ⟨rfl, rfl⟩ rfl ?_
    refine w_iaddZ (pc' := 342) ⟨rfl, rfl⟩ ?_
    refine w_topI (congrArg iZ (show _ = ((8 + m : Nat) : Int) by omega)) ?_
    refine w_cs2 (pc' := 345) ⟨rfl, rfl⟩ (by decide) (Nat.le_of_ble_eq_true rfl) (Nat.le_of_ble_eq_true rfl) (f_pick hX hL (j := 8 + m) (by omega) ?_)
    generalize hXe : zpc L x (8 + m) = X at hxr ⊢
    have hr : 0 ≤ X % 16 % 10 ∧ X % 16 % 10 ≤ 9 := by omega
    have hp : -1 ≤ X / 2 ^ 4 % 64 % 34 - 1 ∧ X / 2 ^ 4 % 64 % 34 - 1 ≤ 33 := by omega
    refine w_istore (pc' := 347) ⟨rfl, rfl⟩ rfl ?_
    refine w_iload (pc' := 349) ⟨rfl, rfl⟩ rfl ?_
    refine w_bi (pc' := 351) ⟨rfl, rfl⟩ (by decide) ?_
    refine w_iand (pc' := 352) ⟨rfl, rfl⟩ ?_
    refine w_topI (iZ_and15 _) ?_
    refine w_bi (pc' := 354) ⟨rfl, rfl⟩ (by decide) ?_
    refine w_iremZ (pc' := 355) ⟨rfl, rfl⟩ (by omega) ?_
    refine w_istore (pc' := 357) ⟨rfl, rfl⟩ rfl ?_
    refine w_iload (pc' := 359) ⟨rfl, rfl⟩ rfl ?_
    refine w_ic (pc' := 360) ⟨rfl, rfl⟩ ?_
    refine w_ishr (pc' := 361) ⟨rfl, rfl⟩ ?_
    refine w_topI (iZ_shr (k := 4) (by omega) (by decide)) ?_
    refine w_bi (pc' := 363) ⟨rfl, rfl⟩ (by decide) ?_
    refine w_iand (pc' := 364) ⟨rfl, rfl⟩ ?_
    refine w_topI (iZ_and63 _) ?_
    refine w_bi (pc' := 366) ⟨rfl, rfl⟩ (by decide) ?_
    refine w_iremZ (pc' := 367) ⟨rfl, rfl⟩ (by omega) ?_
    refine w_ic (pc' := 368) ⟨rfl, rfl⟩ ?_
    refine w_isubZ (pc' := 369) ⟨rfl, rfl⟩ ?_
    refine w_istore (pc' := 371) ⟨rfl, rfl⟩ rfl ?_
    refine w_aload_n (pc' := 372) ⟨rfl, rfl⟩ rfl ?_
    refine w_ic (pc' := 373) ⟨rfl, rfl⟩ ?_
    refine w_iload (pc' := 375) ⟨rfl, rfl⟩ rfl ?_
    refine w_iload (pc' := 377) ⟨rfl, rfl⟩ rfl ?_
    refine w_ic (pc' := 378) ⟨rfl, rfl⟩ ?_
    refine w_cv5 (pc' := 381) ⟨rfl, rfl⟩ (by decide) (zOl hF rfl) (Nat.le_of_ble_eq_true rfl) (Nat.le_of_ble_eq_true rfl) (y_get hV1 (by omega) (by omega) (by decide) (fun σ2 w2 e2 => ?_))
    have w := w2
    have hV1 := w.V hV
    have hF := hV1.1.1
    have hX := hV1.2.2.2.2
    refine w_lstore (pc' := 383) ⟨rfl, rfl⟩ rfl rfl ?_
    refine w_aload_n (pc' := 384) ⟨rfl, rfl⟩ rfl ?_
    refine w_ic (pc' := 385) ⟨rfl, rfl⟩ ?_
    refine w_iload (pc' := 387) ⟨rfl, rfl⟩ rfl ?_
    refine w_iload (pc' := 389) ⟨rfl, rfl⟩ rfl ?_
    refine w_ic (pc' := 390) ⟨rfl, rfl⟩ ?_
    refine w_cv5 (pc' := 393) ⟨rfl, rfl⟩ (by decide) (zOl hF rfl) (Nat.le_of_ble_eq_true rfl) (Nat.le_of_ble_eq_true rfl) (y_get hV1 (by omega) (by omega) (by decide) (fun σ3 w3 e3 => ?_))
    rw [w.L]
    have w := w.trans w3
    have hV1 := w.V hV
    have hF := hV1.1.1
    have hX := hV1.2.2.2.2
    refine w_lstore (pc' := 395) ⟨rfl, rfl⟩ rfl rfl ?_
    refine w_aload_n (pc' := 396) ⟨rfl, rfl⟩ rfl ?_
    refine w_iload (pc' := 398) ⟨rfl, rfl⟩ rfl ?_
    refine w_aload_n (pc' := 399) ⟨rfl, rfl⟩ rfl ?_
    refine w_bi (pc' := 401) ⟨rfl, rfl⟩ (by decide) ?_
    refine w_iload_n (pc' := 402) ⟨rfl, rfl⟩ rfl ?_
    refine w_iaddZ (pc' := 403) ⟨rfl, rfl⟩ ?_
    refine w_topI (congrArg iZ (show _ = ((32 + m : Nat) : Int) by omega)) ?_
    refine w_cs2 (pc' := 406) ⟨rfl, rfl⟩ (by decide) (Nat.le_of_ble_eq_true rfl) (Nat.le_of_ble_eq_true rfl) (f_pick hX hL (j := 32 + m) (by omega) ?_)
    have hwL : zL σ3 80 = zL σ1 80 := by rw [w.L]
    refine w_cs3 (pc' := 409) ⟨rfl, rfl⟩ (by decide) (Nat.le_of_ble_eq_true rfl) (Nat.le_of_ble_eq_true rfl) (f_goes hV1 hxr (fun σ4 w4 => ?_) (fun R4 σ4 hR4 w4 => ?_))
    · have hV1 := w4.V hV1
      have hF := hV1.1.1
      refine w_ifT_ne (pc' := 412) (pcT := 414) ⟨rfl, rfl⟩ rfl (by decide) ?_
      refine w_aload_n (pc' := 415) ⟨rfl, rfl⟩ rfl ?_
      refine w_ic (pc' := 416) ⟨rfl, rfl⟩ ?_
      refine w_cv2 (pc' := 419) ⟨rfl, rfl⟩ (by decide) (zOl hF rfl) (Nat.le_of_ble_eq_true rfl) (Nat.le_of_ble_eq_true rfl) (y_has hV1 (by decide) ?_)
      rw [zaH3]
      refine w_iload (pc' := 421) ⟨rfl, rfl⟩ rfl ?_
      refine w_icT_le (pc' := 424) (pcT := 471) ⟨rfl, rfl⟩ rfl (by omega) ?_
      refine w_iincZ (pc' := 474) ⟨rfl, rfl⟩ rfl rfl ?_
      refine w_goto (pc' := 477) (pcT := 324) ⟨rfl, rfl⟩ rfl ?_
      refine w_at (ls2 := [(0, .ref zSCR), (1, .ref 0), (3, .int (iZ ((m + 1 : Nat) : Int)))]) ?_ (ih (m + 1) _ _ _ (by omega) (by first | exact w.V hV1 | exact hV1))
      exact ⟨rfl, rfl, rfl, trivial⟩
    · have hV4 := hV1
      have hV1 := w4.V (zAct.V hV1 hR4)
      have hF := hV1.1.1
      refine w_ifT_ne (pc' := 412) (pcT := 414) ⟨rfl, rfl⟩ rfl (by decide) ?_
      refine w_aload_n (pc' := 415) ⟨rfl, rfl⟩ rfl ?_
      refine w_ic (pc' := 416) ⟨rfl, rfl⟩ ?_
      refine w_cv2 (pc' := 419) ⟨rfl, rfl⟩ (by decide) (zOl hF rfl) (Nat.le_of_ble_eq_true rfl) (Nat.le_of_ble_eq_true rfl) (y_has hV1 (by decide) ?_)
      rw [zaH3]
      refine w_iload (pc' := 421) ⟨rfl, rfl⟩ rfl ?_
      refine w_ic_le (pc' := 424) (pcT := 471) ⟨rfl, rfl⟩ rfl (by omega) (by omega) (fun h1 => ?_) (fun h1 => ?_)
      · refine w_iincZ (pc' := 474) ⟨rfl, rfl⟩ rfl rfl ?_
        refine w_goto (pc' := 477) (pcT := 324) ⟨rfl, rfl⟩ rfl ?_
        refine w_at (ls2 := [(0, .ref zSCR), (1, .ref 0), (3, .int (iZ ((m + 1 : Nat) : Int)))]) ?_ (ih (m + 1) _ _ _ (by omega) (by first | exact w.V hV1 | exact hV1))
        exact ⟨rfl, rfl, rfl, trivial⟩
      · refine w_iload_n (pc' := 425) ⟨rfl, rfl⟩ rfl ?_
        refine w_ic (pc' := 426) ⟨rfl, rfl⟩ ?_
        refine w_iand (pc' := 427) ⟨rfl, rfl⟩ ?_
        refine w_topI (iZ_and1 _) ?_
        refine w_if_ne (pc' := 430) (pcT := 471) ⟨rfl, rfl⟩ rfl (by omega) (fun h2 => ?_) (fun h2 => ?_)
        · refine w_iincZ (pc' := 474) ⟨rfl, rfl⟩ rfl rfl ?_
          refine w_goto (pc' := 477) (pcT := 324) ⟨rfl, rfl⟩ rfl ?_
          refine w_at (ls2 := [(0, .ref zSCR), (1, .ref 0), (3, .int (iZ ((m + 1 : Nat) : Int)))]) ?_ (ih (m + 1) _ _ _ (by omega) (by first | exact w.V hV1 | exact hV1))
          exact ⟨rfl, rfl, rfl, trivial⟩
        · refine w_aload_n (pc' := 431) ⟨rfl, rfl⟩ rfl ?_
          refine w_cv1 (pc' := 434) ⟨rfl, rfl⟩ (by decide) (zOl hF rfl) (Nat.le_of_ble_eq_true rfl) (Nat.le_of_ble_eq_true rfl) (y_undo hV4 hR4 (by omega) w4 (fun σ5 hV1 h5 => ?_))
          have hF := hV1.1.1
          have w : zWy σ5 σ5 := zWy.refl
          refine w_ifF_eq (pc' := 437) ⟨rfl, rfl⟩ (by decide) ?_
          refine w_aload_n (pc' := 438) ⟨rfl, rfl⟩ rfl ?_
          refine w_ic (pc' := 439) ⟨rfl, rfl⟩ ?_
          refine w_iload (pc' := 441) ⟨rfl, rfl⟩ rfl ?_
          refine w_iload (pc' := 443) ⟨rfl, rfl⟩ rfl ?_
          refine w_ic (pc' := 444) ⟨rfl, rfl⟩ ?_
          refine w_cv5 (pc' := 447) ⟨rfl, rfl⟩ (by decide) (zOl hF rfl) (Nat.le_of_ble_eq_true rfl) (Nat.le_of_ble_eq_true rfl) (y_get (w.V hV1) (by omega) (by omega) (by decide) (fun σ6 w6 e6 => ?_))
          refine w_topL (show _ = zgV t (zL σ1 80) (X % 16 % 10) (X / 2 ^ 4 % 64 % 34 - 1) 0 from (by rw [w.L]; exact zgV_cg hV.1.2.1 h13.1 (fun j hj => (h5 j hj).trans (by rw [hwL])) _ _ _)) ?_
          have w := w.trans w6
          have hF := (w.V hV1).1.1
          refine w_lload (pc' := 449) ⟨rfl, rfl⟩ rfl ?_
          refine w_lcmp (pc' := 450) ⟨rfl, rfl⟩ ?_
          refine w_ifc_ne (pc' := 453) (pcT := 469) ⟨rfl, rfl⟩ rfl (fun h3 => ?_) (fun h3 => ?_)
          · first | exact absurd rfl (by assumption) | (exfalso; omega)
          · refine w_aload_n (pc' := 454) ⟨rfl, rfl⟩ rfl ?_
            refine w_ic (pc' := 455) ⟨rfl, rfl⟩ ?_
            refine w_iload (pc' := 457) ⟨rfl, rfl⟩ rfl ?_
            refine w_iload (pc' := 459) ⟨rfl, rfl⟩ rfl ?_
            refine w_ic (pc' := 460) ⟨rfl, rfl⟩ ?_
            refine w_cv5 (pc' := 463) ⟨rfl, rfl⟩ (by decide) (zOl hF rfl) (Nat.le_of_ble_eq_true rfl) (Nat.le_of_ble_eq_true rfl) (y_get (w.V hV1) (by omega) (by omega) (by decide) (fun σ7 w7 e7 => ?_))
            refine w_topL (show _ = zgV t (zL σ1 80) (X % 16 % 10) (X / 2 ^ 4 % 64 % 34 - 1) 1 from (by rw [w.L]; exact zgV_cg hV.1.2.1 h13.1 (fun j hj => (h5 j hj).trans (by rw [hwL])) _ _ _)) ?_
            have w := w.trans w7
            have hF := (w.V hV1).1.1
            refine w_lload (pc' := 465) ⟨rfl, rfl⟩ rfl ?_
            refine w_lcmp (pc' := 466) ⟨rfl, rfl⟩ ?_
            refine w_ifc_eq (pc' := 469) (pcT := 471) ⟨rfl, rfl⟩ rfl (fun h4 => ?_) (fun h4 => ?_)
            · refine w_iincZ (pc' := 474) ⟨rfl, rfl⟩ rfl rfl ?_
              refine w_goto (pc' := 477) (pcT := 324) ⟨rfl, rfl⟩ rfl ?_
              refine w_at (ls2 := [(0, .ref zSCR), (1, .ref 0), (3, .int (iZ ((m + 1 : Nat) : Int)))]) ?_ (ih (m + 1) _ _ _ (by omega) (by first | exact w.V hV1 | exact hV1))
              exact ⟨rfl, rfl, rfl, trivial⟩
            · first | exact absurd rfl (by assumption) | (exfalso; omega)
set_option maxRecDepth 20000 in
theorem law_boot {L : Nat} {xs : Nat → Int32} {Q : zSt → Option Value → Prop} (k : zP zk_L_law 8 [(0, .ref zSCR), (1, .ref 0)] [] (zov L xs zS1) Q) : zP zk_L_law 0 [(0, .ref zSCR)] [] (zov L xs zst1) Q := by
  have ex : zrunS 4000 (zcode 91) 0 (lv_args 0 [.ref 0]) [] (znew zst1) = some (zS1, none) := zbX_eq
  refine w_new (pc' := 3) ⟨rfl, rfl⟩ ⟨rfl, by decide⟩ ?_
  rw [zov_new (show zN zst1 ≠ zSCR by decide)]
  refine w_dupR (pc' := 4) ⟨rfl, rfl⟩ ?_
  refine w_callS (pc' := 7) (y := 91) (a := [.ref 0]) (r := [.ref 0]) ⟨rfl, rfl⟩ rfl rfl (by decide +kernel) (by decide) ex ?_
  refine w_astore_n (pc' := 8) ⟨rfl, rfl⟩ rfl ?_
  refine w_at (ls2 := [(0, .ref zSCR), (1, .ref 0)]) ?_ k
  exact ⟨rfl, rfl, trivial⟩
theorem law_go {σ : zSt} {L : Nat} {x : Nat → Int} (hN : zNew σ) (hn0 : zN σ = 164) (hX : zLx σ L x) (hL : L ≤ 260) (hx : ∀ j, -2147483648 ≤ x j ∧ x j ≤ 2147483647) : zP zk_L_law 8 [(0, .ref zSCR), (1, .ref 0)] [] σ zQ1 := by
  refine w_ic (pc' := 9) ⟨rfl, rfl⟩ ?_
  refine w_newa (pc' := 11) ⟨rfl, rfl⟩ ⟨by decide, by rw [hn0]; rfl⟩ ⟨by decide, rfl⟩ ?_
  rw [hn0]
  refine w_gN (fun σ1 n1 => ?_)
  have hN := hN.fn n1
  have hX := hX.fn n1 (by omega)
  have hn1 : zN σ1 = 165 := by rw [n1.1, hn0]
  refine w_astore_n (pc' := 12) ⟨rfl, rfl⟩ rfl ?_
  refine w_aload_n (pc' := 13) ⟨rfl, rfl⟩ rfl ?_
  refine w_aload_n (pc' := 14) ⟨rfl, rfl⟩ rfl ?_
  refine w_aload_n (pc' := 15) ⟨rfl, rfl⟩ rfl ?_
  refine w_cs3 (pc' := 18) ⟨rfl, rfl⟩ (by decide) (Nat.le_of_ble_eq_true rfl) (Nat.le_of_ble_eq_true rfl) (f_book hN hn1 hX hL hx (fun σ2 t hV hR => ?_))
  obtain ⟨R, hR⟩ := hR
  have hF := hV.1.1
  refine w_ifT_ne (pc' := 21) (pcT := 23) ⟨rfl, rfl⟩ rfl (by decide) ?_
  refine w_ic (pc' := 24) ⟨rfl, rfl⟩ ?_
  refine w_istore_n (pc' := 25) ⟨rfl, rfl⟩ rfl ?_
  refine w_at (ls2 := [(0, .ref zSCR), (1, .ref 0), (3, .int (iZ 0))]) ?_ (l_wa hF 9 0 (by decide) (by decide) ?_)
  · exact ⟨rfl, rfl, rfl, trivial⟩
  refine w_ic (pc' := 80) ⟨rfl, rfl⟩ ?_
  refine w_istore_n (pc' := 81) ⟨rfl, rfl⟩ rfl ?_
  refine w_at (ls2 := [(0, .ref zSCR), (1, .ref 0), (3, .int (iZ (-1)))]) ?_ (l_len hV 11 (-1) _ (by decide) (by decide) zWy.refl (fun σ3 w3 => l_thg hV hR w3 (fun σ4 w4 => ?_)))
  · exact ⟨rfl, rfl, rfl, trivial⟩
  refine w_ic (pc' := 323) ⟨rfl, rfl⟩ ?_
  refine w_istore_n (pc' := 324) ⟨rfl, rfl⟩ rfl ?_
  refine w_at (ls2 := [(0, .ref zSCR), (1, .ref 0), (3, .int (iZ ((0 : Nat) : Int)))]) ?_ (l_turn hL hx 24 0 _ _ _ (by decide) (w4.V hV))
  exact ⟨rfl, rfl, rfl, trivial⟩
theorem zlaw : zLawP := fun L xs hL => by
  have hP : zP zk_L_law 0 [(0, .ref zSCR)] [] (zst0 L xs) zQ1 := by
    rw [zov_1]
    refine law_boot ?_
    exact law_go (x := fun j => (xs j).toInt) zfresh.1 zfresh.2 ⟨zR_ovS, fun j => (congrFun zI_ovS j).trans (iZ_of _)⟩ hL (fun j => ⟨by have := (xs j).le_toInt; omega, by have := (xs j).toInt_lt; omega⟩)
  obtain ⟨f, σ', r, h1, h2, h3⟩ := hP _ zref.rfl'
  subst h2
  exact ⟨f, σ', h1, h3⟩
