/-! GET, PUT, UNDO of the class -/
/-- what get() tells of a place -/
def zgv (t : zBk) (R : zRw0) (s row pl w : Int) : Int64 := if row = 8 then (if w = 0 then R (3 + pl.toNat) else R (7 + pl.toNat)) else if w = 0 then (if zrk t s row = 8 ∧ R (zjq t s row pl) = lZ (-1) then lZ 10 else lZ (zrk t s row)) else zvl (zrk t s row) (R (zjq t s row pl))
theorem c_get {σ : zSt} {p : Nat} {t : zBk} (hF : zFx σ) (hVt : zVt t) (hPp : zR σ 0 10 = some p) (hP : zIsB p) (hPl : zPl σ p t) (hTk : ∀ z : Nat, z < 4 → ∃ x : Int, zL σ 80 (3 + z) = lZ x ∧ 0 ≤ x ∧ x ≤ 10) {s row pl w : Int} (hs : -2147483648 ≤ s ∧ s ≤ 2147483647) (hr0 : -2147483648 ≤ row ∧ row ≤ 2147483647) (hpl0 : -2147483648 ≤ pl ∧ pl ≤ 2147483647) (hw0 : -2147483648 ≤ w ∧ w ≤ 2147483647) {Q : zSt → Option Value → Prop} (k0 : zgr t s row pl w ≠ 0 → Q (zwI σ 0 12 (iZ (zgr t s row pl w))) (some (.long (lZ (-4611686018427387904))))) (k1 : zgr t s row pl w = 0 → Q (zwI σ 0 12 (iZ 0)) (some (.long (zgv t (zL σ 80) s row pl w)))) : zCa 101 [.ref 0, .int (iZ s), .int (iZ row), .int (iZ pl), .int (iZ w)] σ Q := by
  refine w_enter (c := zk_X11_get) (ls2 := [(0, .ref 0), (1, .int (iZ s)), (2, .int (iZ row)), (3, .int (iZ pl)), (4, .int (iZ w))]) rfl ⟨rfl, rfl, rfl, rfl, rfl, trivial⟩ ?_
  have hPl1 : ∀ v, zPl (zwI σ 0 12 v) p t := fun v => hPl.eb hP hVt (zEb.refl.wI (by unfold zbO; decide))
  have ht0 := hVt.1
  rcases Classical.em (w < 0 ∨ 1 < w) with hw1 | hw1
  · refine w_aload_n (pc' := 1) ⟨rfl, rfl⟩ rfl ?_
    refine w_iload_n (pc' := 2) ⟨rfl, rfl⟩ rfl ?_
    refine w_iload_n (pc' := 3) ⟨rfl, rfl⟩ rfl ?_
    refine w_cv3 (pc' := 6) ⟨rfl, rfl⟩ (by decide) (zOl hF rfl) (Nat.le_of_ble_eq_true rfl) (Nat.le_of_ble_eq_true rfl) (c_rowSort hF hVt hPp hP hPl hs hr0 ?_)
    refine w_istore (pc' := 8) ⟨rfl, rfl⟩ rfl ?_
    refine w_iload (pc' := 10) ⟨rfl, rfl⟩ rfl ?_
    refine w_if_lt (pc' := 13) (pcT := 19) ⟨rfl, rfl⟩ rfl (by omega) (fun h1 => ?_) (fun h1 => ?_)
    · refine w_aload_n (pc' := 20) ⟨rfl, rfl⟩ rfl ?_
      refine w_bi (pc' := 22) ⟨rfl, rfl⟩ (by decide) ?_
      refine w_putI (pc' := 25) (cl := 9) (q := 12) ⟨rfl, rfl⟩ ⟨rfl, by decide⟩ (zOl hF rfl) ?_
      refine w_goto (pc' := 28) (pcT := 67) ⟨rfl, rfl⟩ rfl ?_
      refine w_aload_n (pc' := 68) ⟨rfl, rfl⟩ rfl ?_
      refine w_getR (pc' := 71) (cl := 9) (q := 10) ⟨rfl, rfl⟩ ⟨rfl, by decide⟩ (zOl hF rfl) hPp ?_
      refine w_iload_n (pc' := 72) ⟨rfl, rfl⟩ rfl ?_
      refine w_cv2 (pc' := 75) ⟨rfl, rfl⟩ (by decide) (hP.o hF).1 (Nat.le_of_ble_eq_true rfl) (Nat.le_of_ble_eq_true rfl) (c_shape (σ := zwI σ 0 12 (iZ (-4))) hF hP (hPl1 _).1 hVt.1 hs (fun hsh => ?_) (fun hsh => ?_))
      · refine w_astore (pc' := 77) ⟨rfl, rfl⟩ rfl ?_
        refine w_aload_n (pc' := 78) ⟨rfl, rfl⟩ rfl ?_
        refine w_getI (pc' := 81) (cl := 9) (q := 12) ⟨rfl, rfl⟩ ⟨rfl, by decide⟩ (zOl hF rfl) zI_wI_s ?_
        refine w_ifT_ne (pc' := 84) (pcT := 89) ⟨rfl, rfl⟩ rfl (by decide) ?_
        refine w_ldc2Y (pc' := 92) (z := -4611686018427387904) ⟨rfl, rfl⟩ rfl ?_
        refine w_lreturn (pc' := 93) ⟨rfl, rfl⟩ ?_
        have e : zgr t s row pl w = (-4) := by unfold zgr; rw [if_pos hw1]
        rw [e] at k0
        exact k0 (by omega)
      · refine w_astoreN (pc' := 77) ⟨rfl, rfl⟩ rfl ?_
        refine w_aload_n (pc' := 78) ⟨rfl, rfl⟩ rfl ?_
        refine w_getI (pc' := 81) (cl := 9) (q := 12) ⟨rfl, rfl⟩ ⟨rfl, by decide⟩ (zOl hF rfl) zI_wI_s ?_
        refine w_ifT_ne (pc' := 84) (pcT := 89) ⟨rfl, rfl⟩ rfl (by decide) ?_
        refine w_ldc2Y (pc' := 92) (z := -4611686018427387904) ⟨rfl, rfl⟩ rfl ?_
        refine w_lreturn (pc' := 93) ⟨rfl, rfl⟩ ?_
        have e : zgr t s row pl w = (-4) := by unfold zgr; rw [if_pos hw1]
        rw [e] at k0
        exact k0 (by omega)
    · refine w_iload (pc' := 15) ⟨rfl, rfl⟩ rfl ?_
      refine w_ic (pc' := 16) ⟨rfl, rfl⟩ ?_
      refine w_icF_le (pc' := 19) ⟨rfl, rfl⟩ (by omega) ?_
      refine w_aload_n (pc' := 20) ⟨rfl, rfl⟩ rfl ?_
      refine w_bi (pc' := 22) ⟨rfl, rfl⟩ (by decide) ?_
      refine w_putI (pc' := 25) (cl := 9) (q := 12) ⟨rfl, rfl⟩ ⟨rfl, by decide⟩ (zOl hF rfl) ?_
      refine w_goto (pc' := 28) (pcT := 67) ⟨rfl, rfl⟩ rfl ?_
      refine w_aload_n (pc' := 68) ⟨rfl, rfl⟩ rfl ?_
      refine w_getR (pc' := 71) (cl := 9) (q := 10) ⟨rfl, rfl⟩ ⟨rfl, by decide⟩ (zOl hF rfl) hPp ?_
      refine w_iload_n (pc' := 72) ⟨rfl, rfl⟩ rfl ?_
      refine w_cv2 (pc' := 75) ⟨rfl, rfl⟩ (by decide) (hP.o hF).1 (Nat.le_of_ble_eq_true rfl) (Nat.le_of_ble_eq_true rfl) (c_shape (σ := zwI σ 0 12 (iZ (-4))) hF hP (hPl1 _).1 hVt.1 hs (fun hsh => ?_) (fun hsh => ?_))
      · refine w_astore (pc' := 77) ⟨rfl, rfl⟩ rfl ?_
        refine w_aload_n (pc' := 78) ⟨rfl, rfl⟩ rfl ?_
        refine w_getI (pc' := 81) (cl := 9) (q := 12) ⟨rfl, rfl⟩ ⟨rfl, by decide⟩ (zOl hF rfl) zI_wI_s ?_
        refine w_ifT_ne (pc' := 84) (pcT := 89) ⟨rfl, rfl⟩ rfl (by decide) ?_
        refine w_ldc2Y (pc' := 92) (z := -4611686018427387904) ⟨rfl, rfl⟩ rfl ?_
        refine w_lreturn (pc' := 93) ⟨rfl, rfl⟩ ?_
        have e : zgr t s row pl w = (-4) := by unfold zgr; rw [if_pos hw1]
        rw [e] at k0
        exact k0 (by omega)
      · refine w_astoreN (pc' := 77) ⟨rfl, rfl⟩ rfl ?_
        refine w_aload_n (pc' := 78) ⟨rfl, rfl⟩ rfl ?_
        refine w_getI (pc' := 81) (cl := 9) (q := 12) ⟨rfl, rfl⟩ ⟨rfl, by decide⟩ (zOl hF rfl) zI_wI_s ?_
        refine w_ifT_ne (pc' := 84) (pcT := 89) ⟨rfl, rfl⟩ rfl (by decide) ?_
        refine w_ldc2Y (pc' := 92) (z := -4611686018427387904) ⟨rfl, rfl⟩ rfl ?_
        refine w_lreturn (pc' := 93) ⟨rfl, rfl⟩ ?_
        have e : zgr t s row pl w = (-4) := by unfold zgr; rw [if_pos hw1]
        rw [e] at k0
        exact k0 (by omega)
  · rcases zrk_cases hVt s row with hk | ⟨u, rfl, hu, rfl, hk⟩ | ⟨u, f, rfl, rfl, hu, hf, hk⟩
    · refine w_aload_n (pc' := 1) ⟨rfl, rfl⟩ rfl ?_
      refine w_iload_n (pc' := 2) ⟨rfl, rfl⟩ rfl ?_
      refine w_iload_n (pc' := 3) ⟨rfl, rfl⟩ rfl ?_
      refine w_cv3 (pc' := 6) ⟨rfl, rfl⟩ (by decide) (zOl hF rfl) (Nat.le_of_ble_eq_true rfl) (Nat.le_of_ble_eq_true rfl) (c_rowSort hF hVt hPp hP hPl hs hr0 ?_)
      refine w_istore (pc' := 8) ⟨rfl, rfl⟩ rfl ?_
      refine w_iload (pc' := 10) ⟨rfl, rfl⟩ rfl ?_
      refine w_ifF_lt (pc' := 13) ⟨rfl, rfl⟩ (by omega) ?_
      refine w_iload (pc' := 15) ⟨rfl, rfl⟩ rfl ?_
      refine w_ic (pc' := 16) ⟨rfl, rfl⟩ ?_
      refine w_icT_le (pc' := 19) (pcT := 28) ⟨rfl, rfl⟩ rfl (by omega) ?_
      refine w_iload (pc' := 30) ⟨rfl, rfl⟩ rfl ?_
      refine w_ifF_ge (pc' := 33) ⟨rfl, rfl⟩ (by omega) ?_
      refine w_aload_n (pc' := 34) ⟨rfl, rfl⟩ rfl ?_
      refine w_iload (pc' := 36) ⟨rfl, rfl⟩ rfl ?_
      refine w_putI (pc' := 39) (cl := 9) (q := 12) ⟨rfl, rfl⟩ ⟨rfl, by decide⟩ (zOl hF rfl) ?_
      refine w_goto (pc' := 42) (pcT := 67) ⟨rfl, rfl⟩ rfl ?_
      refine w_aload_n (pc' := 68) ⟨rfl, rfl⟩ rfl ?_
      refine w_getR (pc' := 71) (cl := 9) (q := 10) ⟨rfl, rfl⟩ ⟨rfl, by decide⟩ (zOl hF rfl) hPp ?_
      refine w_iload_n (pc' := 72) ⟨rfl, rfl⟩ rfl ?_
      refine w_cv2 (pc' := 75) ⟨rfl, rfl⟩ (by decide) (hP.o hF).1 (Nat.le_of_ble_eq_true rfl) (Nat.le_of_ble_eq_true rfl) (c_shape (σ := zwI σ 0 12 (iZ (zrk t s row))) hF hP (hPl1 _).1 hVt.1 hs (fun hsh => ?_) (fun hsh => ?_))
      · refine w_astore (pc' := 77) ⟨rfl, rfl⟩ rfl ?_
        refine w_aload_n (pc' := 78) ⟨rfl, rfl⟩ rfl ?_
        refine w_getI (pc' := 81) (cl := 9) (q := 12) ⟨rfl, rfl⟩ ⟨rfl, by decide⟩ (zOl hF rfl) zI_wI_s ?_
        refine w_ifT_ne (pc' := 84) (pcT := 89) ⟨rfl, rfl⟩ rfl (by omega) ?_
        refine w_ldc2Y (pc' := 92) (z := -4611686018427387904) ⟨rfl, rfl⟩ rfl ?_
        refine w_lreturn (pc' := 93) ⟨rfl, rfl⟩ ?_
        have e : zgr t s row pl w = (zrk t s row) := by unfold zgr; rw [if_neg hw1, if_pos hk.1]
        rw [e] at k0
        exact k0 (by omega)
      · refine w_astoreN (pc' := 77) ⟨rfl, rfl⟩ rfl ?_
        refine w_aload_n (pc' := 78) ⟨rfl, rfl⟩ rfl ?_
        refine w_getI (pc' := 81) (cl := 9) (q := 12) ⟨rfl, rfl⟩ ⟨rfl, by decide⟩ (zOl hF rfl) zI_wI_s ?_
        refine w_ifT_ne (pc' := 84) (pcT := 89) ⟨rfl, rfl⟩ rfl (by omega) ?_
        refine w_ldc2Y (pc' := 92) (z := -4611686018427387904) ⟨rfl, rfl⟩ rfl ?_
        refine w_lreturn (pc' := 93) ⟨rfl, rfl⟩ ?_
        have e : zgr t s row pl w = (zrk t s row) := by unfold zgr; rw [if_neg hw1, if_pos hk.1]
        rw [e] at k0
        exact k0 (by omega)
    · rcases Classical.em (pl < 0 ∨ 4 ≤ pl) with hp1 | hp1
      · refine w_aload_n (pc' := 1) ⟨rfl, rfl⟩ rfl ?_
        refine w_iload_n (pc' := 2) ⟨rfl, rfl⟩ rfl ?_
        refine w_iload_n (pc' := 3) ⟨rfl, rfl⟩ rfl ?_
        refine w_cv3 (pc' := 6) ⟨rfl, rfl⟩ (by decide) (zOl hF rfl) (Nat.le_of_ble_eq_true rfl) (Nat.le_of_ble_eq_true rfl) (c_rowSort hF hVt hPp hP hPl hs hr0 ?_)
        rw [hk]
        refine w_istore (pc' := 8) ⟨rfl, rfl⟩ rfl ?_
        refine w_iload (pc' := 10) ⟨rfl, rfl⟩ rfl ?_
        refine w_ifF_lt (pc' := 13) ⟨rfl, rfl⟩ (by omega) ?_
        refine w_iload (pc' := 15) ⟨rfl, rfl⟩ rfl ?_
        refine w_ic (pc' := 16) ⟨rfl, rfl⟩ ?_
        refine w_icT_le (pc' := 19) (pcT := 28) ⟨rfl, rfl⟩ rfl (by omega) ?_
        refine w_iload (pc' := 30) ⟨rfl, rfl⟩ rfl ?_
        refine w_ifT_ge (pc' := 33) (pcT := 42) ⟨rfl, rfl⟩ rfl (by omega) ?_
        refine w_aload_n (pc' := 43) ⟨rfl, rfl⟩ rfl ?_
        refine w_iload_n (pc' := 44) ⟨rfl, rfl⟩ rfl ?_
        refine w_if_lt (pc' := 47) (pcT := 59) ⟨rfl, rfl⟩ rfl (by omega) (fun h1 => ?_) (fun h1 => ?_)
        · refine w_ic (pc' := 60) ⟨rfl, rfl⟩ ?_
          refine w_goto (pc' := 63) (pcT := 64) ⟨rfl, rfl⟩ rfl ?_
          refine w_putI (pc' := 67) (cl := 9) (q := 12) ⟨rfl, rfl⟩ ⟨rfl, by decide⟩ (zOl hF rfl) ?_
          refine w_aload_n (pc' := 68) ⟨rfl, rfl⟩ rfl ?_
          refine w_getR (pc' := 71) (cl := 9) (q := 10) ⟨rfl, rfl⟩ ⟨rfl, by decide⟩ (zOl hF rfl) hPp ?_
          refine w_iload_n (pc' := 72) ⟨rfl, rfl⟩ rfl ?_
          refine w_cv2 (pc' := 75) ⟨rfl, rfl⟩ (by decide) (hP.o hF).1 (Nat.le_of_ble_eq_true rfl) (Nat.le_of_ble_eq_true rfl) (c_shape (σ := zwI σ 0 12 (iZ (-1))) hF hP (hPl1 _).1 hVt.1 hs (fun hsh => ?_) (fun hsh => ?_))
          · refine w_astore (pc' := 77) ⟨rfl, rfl⟩ rfl ?_
            refine w_aload_n (pc' := 78) ⟨rfl, rfl⟩ rfl ?_
            refine w_getI (pc' := 81) (cl := 9) (q := 12) ⟨rfl, rfl⟩ ⟨rfl, by decide⟩ (zOl hF rfl) zI_wI_s ?_
            refine w_ifT_ne (pc' := 84) (pcT := 89) ⟨rfl, rfl⟩ rfl (by decide) ?_
            refine w_ldc2Y (pc' := 92) (z := -4611686018427387904) ⟨rfl, rfl⟩ rfl ?_
            refine w_lreturn (pc' := 93) ⟨rfl, rfl⟩ ?_
            have e : zgr t (u : Int) 8 pl w = (-1) := by unfold zgr; rw [if_neg hw1, hk, if_neg (by omega), show zlo t (u : Int) 8 = 4 by unfold zlo; rw [if_pos rfl], if_pos hp1]
            rw [e] at k0
            exact k0 (by omega)
          · refine w_astoreN (pc' := 77) ⟨rfl, rfl⟩ rfl ?_
            refine w_aload_n (pc' := 78) ⟨rfl, rfl⟩ rfl ?_
            refine w_getI (pc' := 81) (cl := 9) (q := 12) ⟨rfl, rfl⟩ ⟨rfl, by decide⟩ (zOl hF rfl) zI_wI_s ?_
            refine w_ifT_ne (pc' := 84) (pcT := 89) ⟨rfl, rfl⟩ rfl (by decide) ?_
            refine w_ldc2Y (pc' := 92) (z := -4611686018427387904) ⟨rfl, rfl⟩ rfl ?_
            refine w_lreturn (pc' := 93) ⟨rfl, rfl⟩ ?_
            have e : zgr t (u : Int) 8 pl w = (-1) := by unfold zgr; rw [if_neg hw1, hk, if_neg (by omega), show zlo t (u : Int) 8 = 4 by unfold zlo; rw [if_pos rfl], if_pos hp1]
            rw [e] at k0
            exact k0 (by omega)
        · refine w_iload_n (pc' := 48) ⟨rfl, rfl⟩ rfl ?_
          refine w_aload_n (pc' := 49) ⟨rfl, rfl⟩ rfl ?_
          refine w_iload_n (pc' := 50) ⟨rfl, rfl⟩ rfl ?_
          refine w_iload_n (pc' := 51) ⟨rfl, rfl⟩ rfl ?_
          refine w_iload (pc' := 53) ⟨rfl, rfl⟩ rfl ?_
          refine w_cv4 (pc' := 56) ⟨rfl, rfl⟩ (by decide) (zOl hF rfl) (Nat.le_of_ble_eq_true rfl) (Nat.le_of_ble_eq_true rfl) (c_placesT hF hVt hPp hP hPl rfl ?_)
          refine w_icF_lt (pc' := 59) ⟨rfl, rfl⟩ (by omega) ?_
          refine w_ic (pc' := 60) ⟨rfl, rfl⟩ ?_
          refine w_goto (pc' := 63) (pcT := 64) ⟨rfl, rfl⟩ rfl ?_
          refine w_putI (pc' := 67) (cl := 9) (q := 12) ⟨rfl, rfl⟩ ⟨rfl, by decide⟩ (zOl hF rfl) ?_
          refine w_aload_n (pc' := 68) ⟨rfl, rfl⟩ rfl ?_
          refine w_getR (pc' := 71) (cl := 9) (q := 10) ⟨rfl, rfl⟩ ⟨rfl, by decide⟩ (zOl hF rfl) hPp ?_
          refine w_iload_n (pc' := 72) ⟨rfl, rfl⟩ rfl ?_
          refine w_cv2 (pc' := 75) ⟨rfl, rfl⟩ (by decide) (hP.o hF).1 (Nat.le_of_ble_eq_true rfl) (Nat.le_of_ble_eq_true rfl) (c_shape (σ := zwI σ 0 12 (iZ (-1))) hF hP (hPl1 _).1 hVt.1 hs (fun hsh => ?_) (fun hsh => ?_))
          · refine w_astore (pc' := 77) ⟨rfl, rfl⟩ rfl ?_
            refine w_aload_n (pc' := 78) ⟨rfl, rfl⟩ rfl ?_
            refine w_getI (pc' := 81) (cl := 9) (q := 12) ⟨rfl, rfl⟩ ⟨rfl, by decide⟩ (zOl hF rfl) zI_wI_s ?_
            refine w_ifT_ne (pc' := 84) (pcT := 89) ⟨rfl, rfl⟩ rfl (by decide) ?_
            refine w_ldc2Y (pc' := 92) (z := -4611686018427387904) ⟨rfl, rfl⟩ rfl ?_
            refine w_lreturn (pc' := 93) ⟨rfl, rfl⟩ ?_
            have e : zgr t (u : Int) 8 pl w = (-1) := by unfold zgr; rw [if_neg hw1, hk, if_neg (by omega), show zlo t (u : Int) 8 = 4 by unfold zlo; rw [if_pos rfl], if_pos hp1]
            rw [e] at k0
            exact k0 (by omega)
          · refine w_astoreN (pc' := 77) ⟨rfl, rfl⟩ rfl ?_
            refine w_aload_n (pc' := 78) ⟨rfl, rfl⟩ rfl ?_
            refine w_getI (pc' := 81) (cl := 9) (q := 12) ⟨rfl, rfl⟩ ⟨rfl, by decide⟩ (zOl hF rfl) zI_wI_s ?_
            refine w_ifT_ne (pc' := 84) (pcT := 89) ⟨rfl, rfl⟩ rfl (by decide) ?_
            refine w_ldc2Y (pc' := 92) (z := -4611686018427387904) ⟨rfl, rfl⟩ rfl ?_
            refine w_lreturn (pc' := 93) ⟨rfl, rfl⟩ ?_
            have e : zgr t (u : Int) 8 pl w = (-1) := by unfold zgr; rw [if_neg hw1, hk, if_neg (by omega), show zlo t (u : Int) 8 = 4 by unfold zlo; rw [if_pos rfl], if_pos hp1]
            rw [e] at k0
            exact k0 (by omega)
      · have e : zgr t u 8 pl w = 0 := by unfold zgr; rw [if_neg hw1, hk, if_neg (by omega), show zlo t (u : Int) 8 = 4 by unfold zlo; rw [if_pos rfl], if_neg hp1]
        obtain ⟨z, rfl⟩ : ∃ z : Nat, pl = z := ⟨pl.toNat, by omega⟩
        obtain ⟨x, hx, hxr⟩ := hTk z (by omega)
        have k1 := k1 e
        unfold zgv at k1
        rw [if_pos rfl] at k1
        refine w_aload_n (pc' := 1) ⟨rfl, rfl⟩ rfl ?_
        refine w_iload_n (pc' := 2) ⟨rfl, rfl⟩ rfl ?_
        refine w_iload_n (pc' := 3) ⟨rfl, rfl⟩ rfl ?_
        refine w_cv3 (pc' := 6) ⟨rfl, rfl⟩ (by decide) (zOl hF rfl) (Nat.le_of_ble_eq_true rfl) (Nat.le_of_ble_eq_true rfl) (c_rowSort hF hVt hPp hP hPl hs hr0 ?_)
        rw [hk]
        refine w_istore (pc' := 8) ⟨rfl, rfl⟩ rfl ?_
        refine w_iload (pc' := 10) ⟨rfl, rfl⟩ rfl ?_
        refine w_ifF_lt (pc' := 13) ⟨rfl, rfl⟩ (by omega) ?_
        refine w_iload (pc' := 15) ⟨rfl, rfl⟩ rfl ?_
        refine w_ic (pc' := 16) ⟨rfl, rfl⟩ ?_
        refine w_icT_le (pc' := 19) (pcT := 28) ⟨rfl, rfl⟩ rfl (by omega) ?_
        refine w_iload (pc' := 30) ⟨rfl, rfl⟩ rfl ?_
        refine w_ifT_ge (pc' := 33) (pcT := 42) ⟨rfl, rfl⟩ rfl (by omega) ?_
        refine w_aload_n (pc' := 43) ⟨rfl, rfl⟩ rfl ?_
        refine w_iload_n (pc' := 44) ⟨rfl, rfl⟩ rfl ?_
        refine w_ifF_lt (pc' := 47) ⟨rfl, rfl⟩ (by omega) ?_
        refine w_iload_n (pc' := 48) ⟨rfl, rfl⟩ rfl ?_
        refine w_aload_n (pc' := 49) ⟨rfl, rfl⟩ rfl ?_
        refine w_iload_n (pc' := 50) ⟨rfl, rfl⟩ rfl ?_
        refine w_iload_n (pc' := 51) ⟨rfl, rfl⟩ rfl ?_
        refine w_iload (pc' := 53) ⟨rfl, rfl⟩ rfl ?_
        refine w_cv4 (pc' := 56) ⟨rfl, rfl⟩ (by decide) (zOl hF rfl) (Nat.le_of_ble_eq_true rfl) (Nat.le_of_ble_eq_true rfl) (c_placesT hF hVt hPp hP hPl rfl ?_)
        refine w_icT_lt (pc' := 59) (pcT := 63) ⟨rfl, rfl⟩ rfl (by omega) ?_
        refine w_ic (pc' := 64) ⟨rfl, rfl⟩ ?_
        refine w_putI (pc' := 67) (cl := 9) (q := 12) ⟨rfl, rfl⟩ ⟨rfl, by decide⟩ (zOl hF rfl) ?_
        refine w_aload_n (pc' := 68) ⟨rfl, rfl⟩ rfl ?_
        refine w_getR (pc' := 71) (cl := 9) (q := 10) ⟨rfl, rfl⟩ ⟨rfl, by decide⟩ (zOl hF rfl) hPp ?_
        refine w_iload_n (pc' := 72) ⟨rfl, rfl⟩ rfl ?_
        refine w_cv2 (pc' := 75) ⟨rfl, rfl⟩ (by decide) (hP.o hF).1 (Nat.le_of_ble_eq_true rfl) (Nat.le_of_ble_eq_true rfl) (c_shapeI (σ := zwI σ 0 12 (iZ 0)) hF hP (hPl1 _).1 hVt.1 hu ?_)
        refine w_astore (pc' := 77) ⟨rfl, rfl⟩ rfl ?_
        refine w_aload_n (pc' := 78) ⟨rfl, rfl⟩ rfl ?_
        refine w_getI (pc' := 81) (cl := 9) (q := 12) ⟨rfl, rfl⟩ ⟨rfl, by decide⟩ (zOl hF rfl) zI_wI_s ?_
        refine w_ifF_ne (pc' := 84) ⟨rfl, rfl⟩ (by decide) ?_
        refine w_aload (pc' := 86) ⟨rfl, rfl⟩ rfl ?_
        refine w_ifnonnullR (pc' := 89) (pcT := 93) ⟨rfl, rfl⟩ rfl  ?_
        refine w_iload (pc' := 95) ⟨rfl, rfl⟩ rfl ?_
        refine w_bi (pc' := 97) ⟨rfl, rfl⟩ (by decide) ?_
        refine w_icF_ne (pc' := 100) ⟨rfl, rfl⟩ (by decide) ?_
        refine w_iload (pc' := 102) ⟨rfl, rfl⟩ rfl ?_
        refine w_if_ne (pc' := 105) (pcT := 117) ⟨rfl, rfl⟩ rfl (by omega) (fun h1 => ?_) (fun h1 => ?_)
        · refine w_aload_n (pc' := 118) ⟨rfl, rfl⟩ rfl ?_
          refine w_getR (pc' := 121) (cl := 9) (q := 2) ⟨rfl, rfl⟩ ⟨rfl, by decide⟩ (zOl hF rfl) (hF.2 0 2 79 rfl) ?_
          refine w_iload_n (pc' := 122) ⟨rfl, rfl⟩ rfl ?_
          refine w_cv2 (pc' := 125) ⟨rfl, rfl⟩ (by decide) (zOl hF rfl) (Nat.le_of_ble_eq_true rfl) (Nat.le_of_ble_eq_true rfl) (c_thingValue (σ := zwI σ 0 12 (iZ 0)) hF (by omega) ?_)
          refine w_lreturn (pc' := 126) ⟨rfl, rfl⟩ ?_
          first
          | (rw [if_pos (by omega)] at k1; exact zql k1 hx.symm)
          | (rw [if_neg (by omega)] at k1; exact k1)
        · refine w_aload_n (pc' := 106) ⟨rfl, rfl⟩ rfl ?_
          refine w_getR (pc' := 109) (cl := 9) (q := 2) ⟨rfl, rfl⟩ ⟨rfl, by decide⟩ (zOl hF rfl) (hF.2 0 2 79 rfl) ?_
          refine w_iload_n (pc' := 110) ⟨rfl, rfl⟩ rfl ?_
          refine w_cv2 (pc' := 113) ⟨rfl, rfl⟩ (by decide) (zOl hF rfl) (Nat.le_of_ble_eq_true rfl) (Nat.le_of_ble_eq_true rfl) (c_thingKind (σ := zwI σ 0 12 (iZ 0)) hF (by omega) hx ?_)
          refine w_i2lZ (pc' := 114) ⟨rfl, rfl⟩ (by omega) ?_
          refine w_goto (pc' := 117) (pcT := 125) ⟨rfl, rfl⟩ rfl ?_
          refine w_lreturn (pc' := 126) ⟨rfl, rfl⟩ ?_
          first
          | (rw [if_pos (by omega)] at k1; exact zql k1 hx.symm)
          | (rw [if_neg (by omega)] at k1; exact k1)
    · have hq7 := ((hVt.2.2.1 u hu).1.2 f hf).1
      have hce := ((hVt.2.2.1 u hu).1.2 f hf).2
      have h6 := zf6 (hVt.2.2.1 u hu).1 hf
      rcases Classical.em (pl < 0 ∨ 8 * zCE t u f ≤ pl) with hp1 | hp1
      · refine w_aload_n (pc' := 1) ⟨rfl, rfl⟩ rfl ?_
        refine w_iload_n (pc' := 2) ⟨rfl, rfl⟩ rfl ?_
        refine w_iload_n (pc' := 3) ⟨rfl, rfl⟩ rfl ?_
        refine w_cv3 (pc' := 6) ⟨rfl, rfl⟩ (by decide) (zOl hF rfl) (Nat.le_of_ble_eq_true rfl) (Nat.le_of_ble_eq_true rfl) (c_rowSort hF hVt hPp hP hPl hs hr0 ?_)
        rw [hk]
        refine w_istore (pc' := 8) ⟨rfl, rfl⟩ rfl ?_
        refine w_iload (pc' := 10) ⟨rfl, rfl⟩ rfl ?_
        refine w_ifF_lt (pc' := 13) ⟨rfl, rfl⟩ (by omega) ?_
        refine w_iload (pc' := 15) ⟨rfl, rfl⟩ rfl ?_
        refine w_ic (pc' := 16) ⟨rfl, rfl⟩ ?_
        refine w_icT_le (pc' := 19) (pcT := 28) ⟨rfl, rfl⟩ rfl (by omega) ?_
        refine w_iload (pc' := 30) ⟨rfl, rfl⟩ rfl ?_
        refine w_ifT_ge (pc' := 33) (pcT := 42) ⟨rfl, rfl⟩ rfl (by omega) ?_
        refine w_aload_n (pc' := 43) ⟨rfl, rfl⟩ rfl ?_
        refine w_iload_n (pc' := 44) ⟨rfl, rfl⟩ rfl ?_
        refine w_if_lt (pc' := 47) (pcT := 59) ⟨rfl, rfl⟩ rfl (by omega) (fun h1 => ?_) (fun h1 => ?_)
        · refine w_ic (pc' := 60) ⟨rfl, rfl⟩ ?_
          refine w_goto (pc' := 63) (pcT := 64) ⟨rfl, rfl⟩ rfl ?_
          refine w_putI (pc' := 67) (cl := 9) (q := 12) ⟨rfl, rfl⟩ ⟨rfl, by decide⟩ (zOl hF rfl) ?_
          refine w_aload_n (pc' := 68) ⟨rfl, rfl⟩ rfl ?_
          refine w_getR (pc' := 71) (cl := 9) (q := 10) ⟨rfl, rfl⟩ ⟨rfl, by decide⟩ (zOl hF rfl) hPp ?_
          refine w_iload_n (pc' := 72) ⟨rfl, rfl⟩ rfl ?_
          refine w_cv2 (pc' := 75) ⟨rfl, rfl⟩ (by decide) (hP.o hF).1 (Nat.le_of_ble_eq_true rfl) (Nat.le_of_ble_eq_true rfl) (c_shape (σ := zwI σ 0 12 (iZ (-1))) hF hP (hPl1 _).1 hVt.1 hs (fun hsh => ?_) (fun hsh => ?_))
          · refine w_astore (pc' := 77) ⟨rfl, rfl⟩ rfl ?_
            refine w_aload_n (pc' := 78) ⟨rfl, rfl⟩ rfl ?_
            refine w_getI (pc' := 81) (cl := 9) (q := 12) ⟨rfl, rfl⟩ ⟨rfl, by decide⟩ (zOl hF rfl) zI_wI_s ?_
            refine w_ifT_ne (pc' := 84) (pcT := 89) ⟨rfl, rfl⟩ rfl (by decide) ?_
            refine w_ldc2Y (pc' := 92) (z := -4611686018427387904) ⟨rfl, rfl⟩ rfl ?_
            refine w_lreturn (pc' := 93) ⟨rfl, rfl⟩ ?_
            have e : zgr t (u : Int) (f : Int) pl w = (-1) := by unfold zgr; rw [if_neg hw1, hk, if_neg (by omega), zlo_f hVt hu hf, if_pos hp1]
            rw [e] at k0
            exact k0 (by omega)
          · refine w_astoreN (pc' := 77) ⟨rfl, rfl⟩ rfl ?_
            refine w_aload_n (pc' := 78) ⟨rfl, rfl⟩ rfl ?_
            refine w_getI (pc' := 81) (cl := 9) (q := 12) ⟨rfl, rfl⟩ ⟨rfl, by decide⟩ (zOl hF rfl) zI_wI_s ?_
            refine w_ifT_ne (pc' := 84) (pcT := 89) ⟨rfl, rfl⟩ rfl (by decide) ?_
            refine w_ldc2Y (pc' := 92) (z := -4611686018427387904) ⟨rfl, rfl⟩ rfl ?_
            refine w_lreturn (pc' := 93) ⟨rfl, rfl⟩ ?_
            have e : zgr t (u : Int) (f : Int) pl w = (-1) := by unfold zgr; rw [if_neg hw1, hk, if_neg (by omega), zlo_f hVt hu hf, if_pos hp1]
            rw [e] at k0
            exact k0 (by omega)
        · refine w_iload_n (pc' := 48) ⟨rfl, rfl⟩ rfl ?_
          refine w_aload_n (pc' := 49) ⟨rfl, rfl⟩ rfl ?_
          refine w_iload_n (pc' := 50) ⟨rfl, rfl⟩ rfl ?_
          refine w_iload_n (pc' := 51) ⟨rfl, rfl⟩ rfl ?_
          refine w_iload (pc' := 53) ⟨rfl, rfl⟩ rfl ?_
          refine w_cv4 (pc' := 56) ⟨rfl, rfl⟩ (by decide) (zOl hF rfl) (Nat.le_of_ble_eq_true rfl) (Nat.le_of_ble_eq_true rfl) (c_placesF hF hVt hPp hP hPl hu hf (by omega) ?_)
          refine w_icF_lt (pc' := 59) ⟨rfl, rfl⟩ (by omega) ?_
          refine w_ic (pc' := 60) ⟨rfl, rfl⟩ ?_
          refine w_goto (pc' := 63) (pcT := 64) ⟨rfl, rfl⟩ rfl ?_
          refine w_putI (pc' := 67) (cl := 9) (q := 12) ⟨rfl, rfl⟩ ⟨rfl, by decide⟩ (zOl hF rfl) ?_
          refine w_aload_n (pc' := 68) ⟨rfl, rfl⟩ rfl ?_
          refine w_getR (pc' := 71) (cl := 9) (q := 10) ⟨rfl, rfl⟩ ⟨rfl, by decide⟩ (zOl hF rfl) hPp ?_
          refine w_iload_n (pc' := 72) ⟨rfl, rfl⟩ rfl ?_
          refine w_cv2 (pc' := 75) ⟨rfl, rfl⟩ (by decide) (hP.o hF).1 (Nat.le_of_ble_eq_true rfl) (Nat.le_of_ble_eq_true rfl) (c_shape (σ := zwI σ 0 12 (iZ (-1))) hF hP (hPl1 _).1 hVt.1 hs (fun hsh => ?_) (fun hsh => ?_))
          · refine w_astore (pc' := 77) ⟨rfl, rfl⟩ rfl ?_
            refine w_aload_n (pc' := 78) ⟨rfl, rfl⟩ rfl ?_
            refine w_getI (pc' := 81) (cl := 9) (q := 12) ⟨rfl, rfl⟩ ⟨rfl, by decide⟩ (zOl hF rfl) zI_wI_s ?_
            refine w_ifT_ne (pc' := 84) (pcT := 89) ⟨rfl, rfl⟩ rfl (by decide) ?_
            refine w_ldc2Y (pc' := 92) (z := -4611686018427387904) ⟨rfl, rfl⟩ rfl ?_
            refine w_lreturn (pc' := 93) ⟨rfl, rfl⟩ ?_
            have e : zgr t (u : Int) (f : Int) pl w = (-1) := by unfold zgr; rw [if_neg hw1, hk, if_neg (by omega), zlo_f hVt hu hf, if_pos hp1]
            rw [e] at k0
            exact k0 (by omega)
          · refine w_astoreN (pc' := 77) ⟨rfl, rfl⟩ rfl ?_
            refine w_aload_n (pc' := 78) ⟨rfl, rfl⟩ rfl ?_
            refine w_getI (pc' := 81) (cl := 9) (q := 12) ⟨rfl, rfl⟩ ⟨rfl, by decide⟩ (zOl hF rfl) zI_wI_s ?_
            refine w_ifT_ne (pc' := 84) (pcT := 89) ⟨rfl, rfl⟩ rfl (by decide) ?_
            refine w_ldc2Y (pc' := 92) (z := -4611686018427387904) ⟨rfl, rfl⟩ rfl ?_
            refine w_lreturn (pc' := 93) ⟨rfl, rfl⟩ ?_
            have e : zgr t (u : Int) (f : Int) pl w = (-1) := by unfold zgr; rw [if_neg hw1, hk, if_neg (by omega), zlo_f hVt hu hf, if_pos hp1]
            rw [e] at k0
            exact k0 (by omega)
      · have e : zgr t u f pl w = 0 := by unfold zgr; rw [if_neg hw1, hk, if_neg (by omega), zlo_f hVt hu hf, if_neg hp1]
        obtain ⟨r, i, hr, hi, hpl, hq1, hq2, -, -⟩ := zpl_in hVt hu hf (show 0 ≤ pl ∧ pl < 8 * zCE t u f by omega)
        have hO := (hP.s hF (zu3 hVt hu)).2
        have hS := (hPl1 (iZ 0)).2.2.1 u hu
        have hV := (hVt.2.2.1 u hu).1
        have k1 := k1 e
        unfold zgv at k1
        rw [if_neg (by omega), zjq_e hq1 hq2, hk] at k1
        refine w_aload_n (pc' := 1) ⟨rfl, rfl⟩ rfl ?_
        refine w_iload_n (pc' := 2) ⟨rfl, rfl⟩ rfl ?_
        refine w_iload_n (pc' := 3) ⟨rfl, rfl⟩ rfl ?_
        refine w_cv3 (pc' := 6) ⟨rfl, rfl⟩ (by decide) (zOl hF rfl) (Nat.le_of_ble_eq_true rfl) (Nat.le_of_ble_eq_true rfl) (c_rowSort hF hVt hPp hP hPl hs hr0 ?_)
        rw [hk]
        refine w_istore (pc' := 8) ⟨rfl, rfl⟩ rfl ?_
        refine w_iload (pc' := 10) ⟨rfl, rfl⟩ rfl ?_
        refine w_ifF_lt (pc' := 13) ⟨rfl, rfl⟩ (by omega) ?_
        refine w_iload (pc' := 15) ⟨rfl, rfl⟩ rfl ?_
        refine w_ic (pc' := 16) ⟨rfl, rfl⟩ ?_
        refine w_icT_le (pc' := 19) (pcT := 28) ⟨rfl, rfl⟩ rfl (by omega) ?_
        refine w_iload (pc' := 30) ⟨rfl, rfl⟩ rfl ?_
        refine w_ifT_ge (pc' := 33) (pcT := 42) ⟨rfl, rfl⟩ rfl (by omega) ?_
        refine w_aload_n (pc' := 43) ⟨rfl, rfl⟩ rfl ?_
        refine w_iload_n (pc' := 44) ⟨rfl, rfl⟩ rfl ?_
        refine w_ifF_lt (pc' := 47) ⟨rfl, rfl⟩ (by omega) ?_
        refine w_iload_n (pc' := 48) ⟨rfl, rfl⟩ rfl ?_
        refine w_aload_n (pc' := 49) ⟨rfl, rfl⟩ rfl ?_
        refine w_iload_n (pc' := 50) ⟨rfl, rfl⟩ rfl ?_
        refine w_iload_n (pc' := 51) ⟨rfl, rfl⟩ rfl ?_
        refine w_iload (pc' := 53) ⟨rfl, rfl⟩ rfl ?_
        refine w_cv4 (pc' := 56) ⟨rfl, rfl⟩ (by decide) (zOl hF rfl) (Nat.le_of_ble_eq_true rfl) (Nat.le_of_ble_eq_true rfl) (c_placesF hF hVt hPp hP hPl hu hf (by omega) ?_)
        refine w_icT_lt (pc' := 59) (pcT := 63) ⟨rfl, rfl⟩ rfl (by omega) ?_
        refine w_ic (pc' := 64) ⟨rfl, rfl⟩ ?_
        refine w_putI (pc' := 67) (cl := 9) (q := 12) ⟨rfl, rfl⟩ ⟨rfl, by decide⟩ (zOl hF rfl) ?_
        refine w_aload_n (pc' := 68) ⟨rfl, rfl⟩ rfl ?_
        refine w_getR (pc' := 71) (cl := 9) (q := 10) ⟨rfl, rfl⟩ ⟨rfl, by decide⟩ (zOl hF rfl) hPp ?_
        refine w_iload_n (pc' := 72) ⟨rfl, rfl⟩ rfl ?_
        refine w_cv2 (pc' := 75) ⟨rfl, rfl⟩ (by decide) (hP.o hF).1 (Nat.le_of_ble_eq_true rfl) (Nat.le_of_ble_eq_true rfl) (c_shapeI (σ := zwI σ 0 12 (iZ 0)) hF hP (hPl1 _).1 hVt.1 hu ?_)
        refine w_astore (pc' := 77) ⟨rfl, rfl⟩ rfl ?_
        refine w_aload_n (pc' := 78) ⟨rfl, rfl⟩ rfl ?_
        refine w_getI (pc' := 81) (cl := 9) (q := 12) ⟨rfl, rfl⟩ ⟨rfl, by decide⟩ (zOl hF rfl) zI_wI_s ?_
        refine w_ifF_ne (pc' := 84) ⟨rfl, rfl⟩ (by decide) ?_
        refine w_aload (pc' := 86) ⟨rfl, rfl⟩ rfl ?_
        refine w_ifnonnullR (pc' := 89) (pcT := 93) ⟨rfl, rfl⟩ rfl  ?_
        refine w_iload (pc' := 95) ⟨rfl, rfl⟩ rfl ?_
        refine w_bi (pc' := 97) ⟨rfl, rfl⟩ (by decide) ?_
        refine w_icT_ne (pc' := 100) (pcT := 126) ⟨rfl, rfl⟩ rfl (by omega) ?_
        refine w_aload_n (pc' := 127) ⟨rfl, rfl⟩ rfl ?_
        refine w_getR (pc' := 130) (cl := 9) (q := 2) ⟨rfl, rfl⟩ ⟨rfl, by decide⟩ (zOl hF rfl) (hF.2 0 2 79 rfl) ?_
        refine w_iload_n (pc' := 131) ⟨rfl, rfl⟩ rfl ?_
        refine w_aload (pc' := 133) ⟨rfl, rfl⟩ rfl ?_
        refine w_iload_n (pc' := 134) ⟨rfl, rfl⟩ rfl ?_
        refine w_iload_n (pc' := 135) ⟨rfl, rfl⟩ rfl ?_
        refine w_cv5 (pc' := 138) ⟨rfl, rfl⟩ (by decide) (zOl hF rfl) (Nat.le_of_ble_eq_true rfl) (Nat.le_of_ble_eq_true rfl) (c_isEmptyAt (σ := zwI σ 0 12 (iZ 0)) hF hO hS hV (zu3 hVt hu) hf hr hi hpl (fun hem => ?_) (fun hem => ?_))
        · refine w_istore (pc' := 140) ⟨rfl, rfl⟩ rfl ?_
          refine w_iload (pc' := 142) ⟨rfl, rfl⟩ rfl ?_
          refine w_if_ne (pc' := 145) (pcT := 160) ⟨rfl, rfl⟩ rfl (by omega) (fun h1 => ?_) (fun h1 => ?_)
          · refine w_aload_n (pc' := 161) ⟨rfl, rfl⟩ rfl ?_
            refine w_getR (pc' := 164) (cl := 9) (q := 2) ⟨rfl, rfl⟩ ⟨rfl, by decide⟩ (zOl hF rfl) (hF.2 0 2 79 rfl) ?_
            refine w_iload_n (pc' := 165) ⟨rfl, rfl⟩ rfl ?_
            refine w_aload (pc' := 167) ⟨rfl, rfl⟩ rfl ?_
            refine w_iload_n (pc' := 168) ⟨rfl, rfl⟩ rfl ?_
            refine w_iload_n (pc' := 169) ⟨rfl, rfl⟩ rfl ?_
            refine w_cv5 (pc' := 172) ⟨rfl, rfl⟩ (by decide) (zOl hF rfl) (Nat.le_of_ble_eq_true rfl) (Nat.le_of_ble_eq_true rfl) (c_valueAt (σ := zwI σ 0 12 (iZ 0)) hF hO hS hV (zu3 hVt hu) hf hr hi hpl ?_)
            refine w_lreturn (pc' := 173) ⟨rfl, rfl⟩ ?_
            first
            | (rw [if_neg (by omega)] at k1; exact k1)
            | (rw [if_pos (by omega), if_pos (show zKD t u f = 8 ∧ zL σ 80 (zpq t u f r i) = lZ (-1) from hem)] at k1; exact k1)
            | (rw [if_pos (by omega), if_neg (show ¬ (zKD t u f = 8 ∧ zL σ 80 (zpq t u f r i) = lZ (-1)) from hem)] at k1; exact k1)
          · refine w_iload (pc' := 147) ⟨rfl, rfl⟩ rfl ?_
            refine w_ifF_eq (pc' := 150) ⟨rfl, rfl⟩ (by decide) ?_
            refine w_ldc2Y (pc' := 153) (z := 10) ⟨rfl, rfl⟩ rfl ?_
            refine w_goto (pc' := 156) (pcT := 159) ⟨rfl, rfl⟩ rfl ?_
            refine w_lreturn (pc' := 160) ⟨rfl, rfl⟩ ?_
            first
            | (rw [if_neg (by omega)] at k1; exact k1)
            | (rw [if_pos (by omega), if_pos (show zKD t u f = 8 ∧ zL σ 80 (zpq t u f r i) = lZ (-1) from hem)] at k1; exact k1)
            | (rw [if_pos (by omega), if_neg (show ¬ (zKD t u f = 8 ∧ zL σ 80 (zpq t u f r i) = lZ (-1)) from hem)] at k1; exact k1)
        · refine w_istore (pc' := 140) ⟨rfl, rfl⟩ rfl ?_
          refine w_iload (pc' := 142) ⟨rfl, rfl⟩ rfl ?_
          refine w_if_ne (pc' := 145) (pcT := 160) ⟨rfl, rfl⟩ rfl (by omega) (fun h1 => ?_) (fun h1 => ?_)
          · refine w_aload_n (pc' := 161) ⟨rfl, rfl⟩ rfl ?_
            refine w_getR (pc' := 164) (cl := 9) (q := 2) ⟨rfl, rfl⟩ ⟨rfl, by decide⟩ (zOl hF rfl) (hF.2 0 2 79 rfl) ?_
            refine w_iload_n (pc' := 165) ⟨rfl, rfl⟩ rfl ?_
            refine w_aload (pc' := 167) ⟨rfl, rfl⟩ rfl ?_
            refine w_iload_n (pc' := 168) ⟨rfl, rfl⟩ rfl ?_
            refine w_iload_n (pc' := 169) ⟨rfl, rfl⟩ rfl ?_
            refine w_cv5 (pc' := 172) ⟨rfl, rfl⟩ (by decide) (zOl hF rfl) (Nat.le_of_ble_eq_true rfl) (Nat.le_of_ble_eq_true rfl) (c_valueAt (σ := zwI σ 0 12 (iZ 0)) hF hO hS hV (zu3 hVt hu) hf hr hi hpl ?_)
            refine w_lreturn (pc' := 173) ⟨rfl, rfl⟩ ?_
            first
            | (rw [if_neg (by omega)] at k1; exact k1)
            | (rw [if_pos (by omega), if_pos (show zKD t u f = 8 ∧ zL σ 80 (zpq t u f r i) = lZ (-1) from hem)] at k1; exact k1)
            | (rw [if_pos (by omega), if_neg (show ¬ (zKD t u f = 8 ∧ zL σ 80 (zpq t u f r i) = lZ (-1)) from hem)] at k1; exact k1)
          · refine w_iload (pc' := 147) ⟨rfl, rfl⟩ rfl ?_
            refine w_ifT_eq (pc' := 150) (pcT := 156) ⟨rfl, rfl⟩ rfl (by decide) ?_
            refine w_iload (pc' := 158) ⟨rfl, rfl⟩ rfl ?_
            refine w_i2lZ (pc' := 159) ⟨rfl, rfl⟩ (by omega) ?_
            refine w_lreturn (pc' := 160) ⟨rfl, rfl⟩ ?_
            first
            | (rw [if_neg (by omega)] at k1; exact k1)
            | (rw [if_pos (by omega), if_pos (show zKD t u f = 8 ∧ zL σ 80 (zpq t u f r i) = lZ (-1) from hem)] at k1; exact k1)
            | (rw [if_pos (by omega), if_neg (show ¬ (zKD t u f = 8 ∧ zL σ 80 (zpq t u f r i) = lZ (-1)) from hem)] at k1; exact k1)
theorem c_put {σ : zSt} {p : Nat} {t : zBk} (hF : zFx σ) (hVt : zVt t) (hPp : zR σ 0 10 = some p) (hP : zIsB p) (hPl : zPl σ p t) {x : Nat} {y : Int} (hx : zI σ 79 2 = iZ x) (hx2 : x < 20) (hy : zI σ 79 3 = iZ y) (hy2 : 0 ≤ y ∧ y ≤ 20) {s row pl kd : Int} (hs : -2147483648 ≤ s ∧ s ≤ 2147483647) (hr0 : -2147483648 ≤ row ∧ row ≤ 2147483647) (hpl0 : -2147483648 ≤ pl ∧ pl ≤ 2147483647) (hkd0 : -2147483648 ≤ kd ∧ kd ≤ 2147483647) {v : Int64} {Q : zSt → Option Value → Prop} (k0 : ztr t s row pl kd ≠ 0 → Q (zwI σ 0 12 (iZ (ztr t s row pl kd))) (some (.int (iZ 0)))) (k1 : ∀ z : Nat, ztr t s row pl kd = 0 → row = 8 → pl = z → z < 4 → Q (zwL (zwL (zkC (zwI σ 0 12 (iZ 0)) x y) 80 (3 + z) (lZ kd)) 80 (7 + z) (zthg v kd)) (some (.int (iZ 1)))) (k2 : ztr t s row pl kd = 0 → row ≠ 8 → kd = 10 → Q (zwL (zkC (zwI σ 0 12 (iZ 0)) x y) 80 (zjq t s row pl) (lZ (-1))) (some (.int (iZ 1)))) (k3 : ztr t s row pl kd = 0 → row ≠ 8 → kd ≤ 8 → Q (zwL (zkC (zwI σ 0 12 (iZ 0)) x y) 80 (zjq t s row pl) (zcar (ztold v kd) kd (zrk t s row))) (some (.int (iZ 1)))) : zCa 103 [.ref 0, .int (iZ s), .int (iZ row), .int (iZ pl), .int (iZ kd), .long v] σ Q := by
  refine w_enter (c := zk_X11_put) (ls2 := [(0, .ref 0), (1, .int (iZ s)), (2, .int (iZ row)), (3, .int (iZ pl)), (4, .int (iZ kd)), (5, .long v)]) rfl ⟨rfl, rfl, rfl, rfl, rfl, rfl, trivial⟩ ?_
  have hPl1 : ∀ v, zPl (zwI σ 0 12 v) p t := fun v => hPl.eb hP hVt (zEb.refl.wI (by unfold zbO; decide))
  have ht0 := hVt.1
  rcases Classical.em (ztr t s row pl kd = 0) with h0 | h0
  · rcases ztr_0 hVt h0 with ⟨hkd, ⟨u, z, rfl, hu, rfl, hk, rfl, hz⟩ | ⟨u, f, rfl, rfl, hu, hf, hk, hpi, hcs⟩⟩
    · refine w_aload_n (pc' := 1) ⟨rfl, rfl⟩ rfl ?_
      refine w_iload_n (pc' := 2) ⟨rfl, rfl⟩ rfl ?_
      refine w_iload_n (pc' := 3) ⟨rfl, rfl⟩ rfl ?_
      refine w_cv3 (pc' := 6) ⟨rfl, rfl⟩ (by decide) (zOl hF rfl) (Nat.le_of_ble_eq_true rfl) (Nat.le_of_ble_eq_true rfl) (c_rowSort hF hVt hPp hP hPl hs hr0 ?_)
      rw [hk]
      refine w_istore (pc' := 8) ⟨rfl, rfl⟩ rfl ?_
      refine w_aload_n (pc' := 9) ⟨rfl, rfl⟩ rfl ?_
      refine w_aload_n (pc' := 10) ⟨rfl, rfl⟩ rfl ?_
      refine w_iload_n (pc' := 11) ⟨rfl, rfl⟩ rfl ?_
      refine w_iload_n (pc' := 12) ⟨rfl, rfl⟩ rfl ?_
      refine w_iload_n (pc' := 13) ⟨rfl, rfl⟩ rfl ?_
      refine w_iload (pc' := 15) ⟨rfl, rfl⟩ rfl ?_
      refine w_cv5 (pc' := 18) ⟨rfl, rfl⟩ (by decide) (zOl hF rfl) (Nat.le_of_ble_eq_true rfl) (Nat.le_of_ble_eq_true rfl) (c_thingRefusal hF hVt hPp hP hPl hs hr0 hpl0 hkd0 ?_)
      rw [h0]
      refine w_putI (pc' := 21) (cl := 9) (q := 12) ⟨rfl, rfl⟩ ⟨rfl, by decide⟩ (zOl hF rfl) ?_
      refine w_aload_n (pc' := 22) ⟨rfl, rfl⟩ rfl ?_
      refine w_getR (pc' := 25) (cl := 9) (q := 10) ⟨rfl, rfl⟩ ⟨rfl, by decide⟩ (zOl hF rfl) hPp ?_
      refine w_iload_n (pc' := 26) ⟨rfl, rfl⟩ rfl ?_
      refine w_cv2 (pc' := 29) ⟨rfl, rfl⟩ (by decide) (hP.o hF).1 (Nat.le_of_ble_eq_true rfl) (Nat.le_of_ble_eq_true rfl) (c_shapeI (σ := zwI σ 0 12 (iZ 0)) hF hP (hPl1 _).1 hVt.1 hu ?_)
      refine w_astore (pc' := 31) ⟨rfl, rfl⟩ rfl ?_
      refine w_aload_n (pc' := 32) ⟨rfl, rfl⟩ rfl ?_
      refine w_getI (pc' := 35) (cl := 9) (q := 12) ⟨rfl, rfl⟩ ⟨rfl, by decide⟩ (zOl hF rfl) zI_wI_s ?_
      refine w_ifF_ne (pc' := 38) ⟨rfl, rfl⟩ (by decide) ?_
      refine w_aload (pc' := 40) ⟨rfl, rfl⟩ rfl ?_
      refine w_ifnonnullR (pc' := 43) (pcT := 45) ⟨rfl, rfl⟩ rfl  ?_
      refine w_aload_n (pc' := 46) ⟨rfl, rfl⟩ rfl ?_
      refine w_getR (pc' := 49) (cl := 9) (q := 2) ⟨rfl, rfl⟩ ⟨rfl, by decide⟩ (zOl hF rfl) (hF.2 0 2 79 rfl) ?_
      refine w_cv1 (pc' := 52) ⟨rfl, rfl⟩ (by decide) (zOl hF rfl) (Nat.le_of_ble_eq_true rfl) (Nat.le_of_ble_eq_true rfl) (c_keepPast (σ := (zwI σ 0 12 (iZ 0))) hF ((zI_wI_n (Or.inl (by decide))).trans hx) hx2 ((zI_wI_n (Or.inl (by decide))).trans hy) hy2 ?_)
      refine w_iload (pc' := 54) ⟨rfl, rfl⟩ rfl ?_
      refine w_bi (pc' := 56) ⟨rfl, rfl⟩ (by decide) ?_
      refine w_icF_ne (pc' := 59) ⟨rfl, rfl⟩ (by decide) ?_
      refine w_aload_n (pc' := 60) ⟨rfl, rfl⟩ rfl ?_
      refine w_getR (pc' := 63) (cl := 9) (q := 2) ⟨rfl, rfl⟩ ⟨rfl, by decide⟩ (zOl hF rfl) (hF.2 0 2 79 rfl) ?_
      refine w_iload_n (pc' := 64) ⟨rfl, rfl⟩ rfl ?_
      refine w_iload (pc' := 66) ⟨rfl, rfl⟩ rfl ?_
      refine w_iload (pc' := 68) ⟨rfl, rfl⟩ rfl ?_
      refine w_lload (pc' := 70) ⟨rfl, rfl⟩ rfl ?_
      refine w_cs2 (pc' := 73) ⟨rfl, rfl⟩ (by decide) (Nat.le_of_ble_eq_true rfl) (Nat.le_of_ble_eq_true rfl) (c_told (by omega) ?_)
      refine w_cv4 (pc' := 76) ⟨rfl, rfl⟩ (by decide) (zOl hF rfl) (Nat.le_of_ble_eq_true rfl) (Nat.le_of_ble_eq_true rfl) (c_setThing (σ := (zkC (zwI σ 0 12 (iZ 0)) x y)) hF hz (by omega) ?_)
      refine w_goto (pc' := 79) (pcT := 130) ⟨rfl, rfl⟩ rfl ?_
      refine w_ic (pc' := 131) ⟨rfl, rfl⟩ ?_
      refine w_ireturn (pc' := 132) ⟨rfl, rfl⟩ (by decide) ?_
      exact k1 z h0 rfl rfl hz
    · have hq7 := ((hVt.2.2.1 u hu).1.2 f hf).1
      have h6 := zf6 (hVt.2.2.1 u hu).1 hf
      obtain ⟨r, i, hr, hi, hpl, hq1, hq2, -, -⟩ := zpl_in hVt hu hf hpi
      have hPl2 : zPl (zkC (zwI σ 0 12 (iZ 0)) x y) p t := hPl.eb hP hVt (zEb.refl.wI (by unfold zbO; decide)).kC
      have hO := (hP.s hF (zu3 hVt hu)).2
      have hS := hPl2.2.2.1 u hu
      have hV := (hVt.2.2.1 u hu).1
      rw [zjq_e hq1 hq2] at k2 k3
      rw [hk] at k3
      rcases hcs with ⟨rfl, hk8⟩ | ⟨hk8, hgi⟩
      · refine w_aload_n (pc' := 1) ⟨rfl, rfl⟩ rfl ?_
        refine w_iload_n (pc' := 2) ⟨rfl, rfl⟩ rfl ?_
        refine w_iload_n (pc' := 3) ⟨rfl, rfl⟩ rfl ?_
        refine w_cv3 (pc' := 6) ⟨rfl, rfl⟩ (by decide) (zOl hF rfl) (Nat.le_of_ble_eq_true rfl) (Nat.le_of_ble_eq_true rfl) (c_rowSort hF hVt hPp hP hPl hs hr0 ?_)
        rw [hk]
        refine w_istore (pc' := 8) ⟨rfl, rfl⟩ rfl ?_
        refine w_aload_n (pc' := 9) ⟨rfl, rfl⟩ rfl ?_
        refine w_aload_n (pc' := 10) ⟨rfl, rfl⟩ rfl ?_
        refine w_iload_n (pc' := 11) ⟨rfl, rfl⟩ rfl ?_
        refine w_iload_n (pc' := 12) ⟨rfl, rfl⟩ rfl ?_
        refine w_iload_n (pc' := 13) ⟨rfl, rfl⟩ rfl ?_
        refine w_iload (pc' := 15) ⟨rfl, rfl⟩ rfl ?_
        refine w_cv5 (pc' := 18) ⟨rfl, rfl⟩ (by decide) (zOl hF rfl) (Nat.le_of_ble_eq_true rfl) (Nat.le_of_ble_eq_true rfl) (c_thingRefusal hF hVt hPp hP hPl hs hr0 hpl0 hkd0 ?_)
        rw [h0]
        refine w_putI (pc' := 21) (cl := 9) (q := 12) ⟨rfl, rfl⟩ ⟨rfl, by decide⟩ (zOl hF rfl) ?_
        refine w_aload_n (pc' := 22) ⟨rfl, rfl⟩ rfl ?_
        refine w_getR (pc' := 25) (cl := 9) (q := 10) ⟨rfl, rfl⟩ ⟨rfl, by decide⟩ (zOl hF rfl) hPp ?_
        refine w_iload_n (pc' := 26) ⟨rfl, rfl⟩ rfl ?_
        refine w_cv2 (pc' := 29) ⟨rfl, rfl⟩ (by decide) (hP.o hF).1 (Nat.le_of_ble_eq_true rfl) (Nat.le_of_ble_eq_true rfl) (c_shapeI (σ := zwI σ 0 12 (iZ 0)) hF hP (hPl1 _).1 hVt.1 hu ?_)
        refine w_astore (pc' := 31) ⟨rfl, rfl⟩ rfl ?_
        refine w_aload_n (pc' := 32) ⟨rfl, rfl⟩ rfl ?_
        refine w_getI (pc' := 35) (cl := 9) (q := 12) ⟨rfl, rfl⟩ ⟨rfl, by decide⟩ (zOl hF rfl) zI_wI_s ?_
        refine w_ifF_ne (pc' := 38) ⟨rfl, rfl⟩ (by decide) ?_
        refine w_aload (pc' := 40) ⟨rfl, rfl⟩ rfl ?_
        refine w_ifnonnullR (pc' := 43) (pcT := 45) ⟨rfl, rfl⟩ rfl  ?_
        refine w_aload_n (pc' := 46) ⟨rfl, rfl⟩ rfl ?_
        refine w_getR (pc' := 49) (cl := 9) (q := 2) ⟨rfl, rfl⟩ ⟨rfl, by decide⟩ (zOl hF rfl) (hF.2 0 2 79 rfl) ?_
        refine w_cv1 (pc' := 52) ⟨rfl, rfl⟩ (by decide) (zOl hF rfl) (Nat.le_of_ble_eq_true rfl) (Nat.le_of_ble_eq_true rfl) (c_keepPast (σ := (zwI σ 0 12 (iZ 0))) hF ((zI_wI_n (Or.inl (by decide))).trans hx) hx2 ((zI_wI_n (Or.inl (by decide))).trans hy) hy2 ?_)
        refine w_iload (pc' := 54) ⟨rfl, rfl⟩ rfl ?_
        refine w_bi (pc' := 56) ⟨rfl, rfl⟩ (by decide) ?_
        refine w_icT_ne (pc' := 59) (pcT := 79) ⟨rfl, rfl⟩ rfl (by omega) ?_
        refine w_iload (pc' := 81) ⟨rfl, rfl⟩ rfl ?_
        refine w_bi (pc' := 83) ⟨rfl, rfl⟩ (by decide) ?_
        refine w_icF_ne (pc' := 86) ⟨rfl, rfl⟩ (by omega) ?_
        refine w_aload_n (pc' := 87) ⟨rfl, rfl⟩ rfl ?_
        refine w_getR (pc' := 90) (cl := 9) (q := 2) ⟨rfl, rfl⟩ ⟨rfl, by decide⟩ (zOl hF rfl) (hF.2 0 2 79 rfl) ?_
        refine w_iload_n (pc' := 91) ⟨rfl, rfl⟩ rfl ?_
        refine w_aload (pc' := 93) ⟨rfl, rfl⟩ rfl ?_
        refine w_iload_n (pc' := 94) ⟨rfl, rfl⟩ rfl ?_
        refine w_iload_n (pc' := 95) ⟨rfl, rfl⟩ rfl ?_
        refine w_ldc2Y (pc' := 98) (z := -1) ⟨rfl, rfl⟩ rfl ?_
        refine w_cv6 (pc' := 101) ⟨rfl, rfl⟩ (by decide) (zOl hF rfl) (Nat.le_of_ble_eq_true rfl) (Nat.le_of_ble_eq_true rfl) (c_setAt (σ := (zkC (zwI σ 0 12 (iZ 0)) x y)) hF hO hS hV (zu3 hVt hu) hf hr hi hpl ?_)
        refine w_goto (pc' := 104) (pcT := 130) ⟨rfl, rfl⟩ rfl ?_
        refine w_ic (pc' := 131) ⟨rfl, rfl⟩ ?_
        refine w_ireturn (pc' := 132) ⟨rfl, rfl⟩ (by decide) ?_
        exact k2 h0 (by omega) rfl
      · refine w_aload_n (pc' := 1) ⟨rfl, rfl⟩ rfl ?_
        refine w_iload_n (pc' := 2) ⟨rfl, rfl⟩ rfl ?_
        refine w_iload_n (pc' := 3) ⟨rfl, rfl⟩ rfl ?_
        refine w_cv3 (pc' := 6) ⟨rfl, rfl⟩ (by decide) (zOl hF rfl) (Nat.le_of_ble_eq_true rfl) (Nat.le_of_ble_eq_true rfl) (c_rowSort hF hVt hPp hP hPl hs hr0 ?_)
        rw [hk]
        refine w_istore (pc' := 8) ⟨rfl, rfl⟩ rfl ?_
        refine w_aload_n (pc' := 9) ⟨rfl, rfl⟩ rfl ?_
        refine w_aload_n (pc' := 10) ⟨rfl, rfl⟩ rfl ?_
        refine w_iload_n (pc' := 11) ⟨rfl, rfl⟩ rfl ?_
        refine w_iload_n (pc' := 12) ⟨rfl, rfl⟩ rfl ?_
        refine w_iload_n (pc' := 13) ⟨rfl, rfl⟩ rfl ?_
        refine w_iload (pc' := 15) ⟨rfl, rfl⟩ rfl ?_
        refine w_cv5 (pc' := 18) ⟨rfl, rfl⟩ (by decide) (zOl hF rfl) (Nat.le_of_ble_eq_true rfl) (Nat.le_of_ble_eq_true rfl) (c_thingRefusal hF hVt hPp hP hPl hs hr0 hpl0 hkd0 ?_)
        rw [h0]
        refine w_putI (pc' := 21) (cl := 9) (q := 12) ⟨rfl, rfl⟩ ⟨rfl, by decide⟩ (zOl hF rfl) ?_
        refine w_aload_n (pc' := 22) ⟨rfl, rfl⟩ rfl ?_
        refine w_getR (pc' := 25) (cl := 9) (q := 10) ⟨rfl, rfl⟩ ⟨rfl, by decide⟩ (zOl hF rfl) hPp ?_
        refine w_iload_n (pc' := 26) ⟨rfl, rfl⟩ rfl ?_
        refine w_cv2 (pc' := 29) ⟨rfl, rfl⟩ (by decide) (hP.o hF).1 (Nat.le_of_ble_eq_true rfl) (Nat.le_of_ble_eq_true rfl) (c_shapeI (σ := zwI σ 0 12 (iZ 0)) hF hP (hPl1 _).1 hVt.1 hu ?_)
        refine w_astore (pc' := 31) ⟨rfl, rfl⟩ rfl ?_
        refine w_aload_n (pc' := 32) ⟨rfl, rfl⟩ rfl ?_
        refine w_getI (pc' := 35) (cl := 9) (q := 12) ⟨rfl, rfl⟩ ⟨rfl, by decide⟩ (zOl hF rfl) zI_wI_s ?_
        refine w_ifF_ne (pc' := 38) ⟨rfl, rfl⟩ (by decide) ?_
        refine w_aload (pc' := 40) ⟨rfl, rfl⟩ rfl ?_
        refine w_ifnonnullR (pc' := 43) (pcT := 45) ⟨rfl, rfl⟩ rfl  ?_
        refine w_aload_n (pc' := 46) ⟨rfl, rfl⟩ rfl ?_
        refine w_getR (pc' := 49) (cl := 9) (q := 2) ⟨rfl, rfl⟩ ⟨rfl, by decide⟩ (zOl hF rfl) (hF.2 0 2 79 rfl) ?_
        refine w_cv1 (pc' := 52) ⟨rfl, rfl⟩ (by decide) (zOl hF rfl) (Nat.le_of_ble_eq_true rfl) (Nat.le_of_ble_eq_true rfl) (c_keepPast (σ := (zwI σ 0 12 (iZ 0))) hF ((zI_wI_n (Or.inl (by decide))).trans hx) hx2 ((zI_wI_n (Or.inl (by decide))).trans hy) hy2 ?_)
        refine w_iload (pc' := 54) ⟨rfl, rfl⟩ rfl ?_
        refine w_bi (pc' := 56) ⟨rfl, rfl⟩ (by decide) ?_
        refine w_icT_ne (pc' := 59) (pcT := 79) ⟨rfl, rfl⟩ rfl (by omega) ?_
        refine w_iload (pc' := 81) ⟨rfl, rfl⟩ rfl ?_
        refine w_bi (pc' := 83) ⟨rfl, rfl⟩ (by decide) ?_
        refine w_icT_ne (pc' := 86) (pcT := 104) ⟨rfl, rfl⟩ rfl (by omega) ?_
        refine w_aload_n (pc' := 105) ⟨rfl, rfl⟩ rfl ?_
        refine w_getR (pc' := 108) (cl := 9) (q := 2) ⟨rfl, rfl⟩ ⟨rfl, by decide⟩ (zOl hF rfl) (hF.2 0 2 79 rfl) ?_
        refine w_iload_n (pc' := 109) ⟨rfl, rfl⟩ rfl ?_
        refine w_aload (pc' := 111) ⟨rfl, rfl⟩ rfl ?_
        refine w_iload_n (pc' := 112) ⟨rfl, rfl⟩ rfl ?_
        refine w_iload_n (pc' := 113) ⟨rfl, rfl⟩ rfl ?_
        refine w_iload (pc' := 115) ⟨rfl, rfl⟩ rfl ?_
        refine w_iload (pc' := 117) ⟨rfl, rfl⟩ rfl ?_
        refine w_lload (pc' := 119) ⟨rfl, rfl⟩ rfl ?_
        refine w_cs2 (pc' := 122) ⟨rfl, rfl⟩ (by decide) (Nat.le_of_ble_eq_true rfl) (Nat.le_of_ble_eq_true rfl) (c_told (by omega) ?_)
        rw [zthg_n (by omega)]
        refine w_iload (pc' := 124) ⟨rfl, rfl⟩ rfl ?_
        refine w_cs3 (pc' := 127) ⟨rfl, rfl⟩ (by decide) (Nat.le_of_ble_eq_true rfl) (Nat.le_of_ble_eq_true rfl) (c_changed (by omega) (by omega) (zok_told _ _) ?_)
        refine w_cv6 (pc' := 130) ⟨rfl, rfl⟩ (by decide) (zOl hF rfl) (Nat.le_of_ble_eq_true rfl) (Nat.le_of_ble_eq_true rfl) (c_setAt (σ := (zkC (zwI σ 0 12 (iZ 0)) x y)) hF hO hS hV (zu3 hVt hu) hf hr hi hpl ?_)
        refine w_ic (pc' := 131) ⟨rfl, rfl⟩ ?_
        refine w_ireturn (pc' := 132) ⟨rfl, rfl⟩ (by decide) ?_
        exact k3 h0 (by omega) hk8
  · have hrg := ztr_rng hVt s row pl kd
    refine w_aload_n (pc' := 1) ⟨rfl, rfl⟩ rfl ?_
    refine w_iload_n (pc' := 2) ⟨rfl, rfl⟩ rfl ?_
    refine w_iload_n (pc' := 3) ⟨rfl, rfl⟩ rfl ?_
    refine w_cv3 (pc' := 6) ⟨rfl, rfl⟩ (by decide) (zOl hF rfl) (Nat.le_of_ble_eq_true rfl) (Nat.le_of_ble_eq_true rfl) (c_rowSort hF hVt hPp hP hPl hs hr0 ?_)
    refine w_istore (pc' := 8) ⟨rfl, rfl⟩ rfl ?_
    refine w_aload_n (pc' := 9) ⟨rfl, rfl⟩ rfl ?_
    refine w_aload_n (pc' := 10) ⟨rfl, rfl⟩ rfl ?_
    refine w_iload_n (pc' := 11) ⟨rfl, rfl⟩ rfl ?_
    refine w_iload_n (pc' := 12) ⟨rfl, rfl⟩ rfl ?_
    refine w_iload_n (pc' := 13) ⟨rfl, rfl⟩ rfl ?_
    refine w_iload (pc' := 15) ⟨rfl, rfl⟩ rfl ?_
    refine w_cv5 (pc' := 18) ⟨rfl, rfl⟩ (by decide) (zOl hF rfl) (Nat.le_of_ble_eq_true rfl) (Nat.le_of_ble_eq_true rfl) (c_thingRefusal hF hVt hPp hP hPl hs hr0 hpl0 hkd0 ?_)
    refine w_putI (pc' := 21) (cl := 9) (q := 12) ⟨rfl, rfl⟩ ⟨rfl, by decide⟩ (zOl hF rfl) ?_
    refine w_aload_n (pc' := 22) ⟨rfl, rfl⟩ rfl ?_
    refine w_getR (pc' := 25) (cl := 9) (q := 10) ⟨rfl, rfl⟩ ⟨rfl, by decide⟩ (zOl hF rfl) hPp ?_
    refine w_iload_n (pc' := 26) ⟨rfl, rfl⟩ rfl ?_
    refine w_cv2 (pc' := 29) ⟨rfl, rfl⟩ (by decide) (hP.o hF).1 (Nat.le_of_ble_eq_true rfl) (Nat.le_of_ble_eq_true rfl) (c_shape (σ := zwI σ 0 12 (iZ (ztr t s row pl kd))) hF hP (hPl1 _).1 hVt.1 hs (fun hsh => ?_) (fun hsh => ?_))
    · refine w_astore (pc' := 31) ⟨rfl, rfl⟩ rfl ?_
      refine w_aload_n (pc' := 32) ⟨rfl, rfl⟩ rfl ?_
      refine w_getI (pc' := 35) (cl := 9) (q := 12) ⟨rfl, rfl⟩ ⟨rfl, by decide⟩ (zOl hF rfl) zI_wI_s ?_
      refine w_ifT_ne (pc' := 38) (pcT := 43) ⟨rfl, rfl⟩ rfl (by omega) ?_
      refine w_ic (pc' := 44) ⟨rfl, rfl⟩ ?_
      refine w_ireturn (pc' := 45) ⟨rfl, rfl⟩ (by decide) ?_
      exact k0 h0
    · refine w_astoreN (pc' := 31) ⟨rfl, rfl⟩ rfl ?_
      refine w_aload_n (pc' := 32) ⟨rfl, rfl⟩ rfl ?_
      refine w_getI (pc' := 35) (cl := 9) (q := 12) ⟨rfl, rfl⟩ ⟨rfl, by decide⟩ (zOl hF rfl) zI_wI_s ?_
      refine w_ifT_ne (pc' := 38) (pcT := 43) ⟨rfl, rfl⟩ rfl (by omega) ?_
      refine w_ic (pc' := 44) ⟨rfl, rfl⟩ ?_
      refine w_ireturn (pc' := 45) ⟨rfl, rfl⟩ (by decide) ?_
      exact k0 h0
theorem c_undo {σ : zSt} (hF : zFx σ) {x : Nat} {y : Int} (hx : zI σ 79 2 = iZ x) (hx2 : x < 20) (hy : zI σ 79 3 = iZ y) (hy2 : 0 < y ∧ y ≤ 20) {Q : zSt → Option Value → Prop} (k : ∀ z : Nat, (z : Int) = ((x : Int) - 1) % 20 → Q (zrL (zwI (zwI σ 79 3 (iZ (y - 1))) 79 2 (iZ z)) 80 (va_cpy (zL σ (82 + z)) (zL σ 80) 0 0 587)) (some (.int (iZ 1)))) : zCa 110 [.ref 0] σ Q := by
  refine w_enter (c := zk_X11_undo) (ls2 := [(0, .ref 0)]) rfl ⟨rfl, trivial⟩ ?_
  refine w_aload_n (pc' := 1) ⟨rfl, rfl⟩ rfl ?_
  refine w_getR (pc' := 4) (cl := 9) (q := 2) ⟨rfl, rfl⟩ ⟨rfl, by decide⟩ (zOl hF rfl) (hF.2 0 2 79 rfl) ?_
  refine w_cv1 (pc' := 7) ⟨rfl, rfl⟩ (by decide) (zOl hF rfl) (Nat.le_of_ble_eq_true rfl) (Nat.le_of_ble_eq_true rfl) (c_goBack hF hx hx2 hy hy2 (fun z hz => ?_))
  refine w_ifT_ne (pc' := 10) (pcT := 22) ⟨rfl, rfl⟩ rfl (by decide) ?_
  refine w_ic (pc' := 23) ⟨rfl, rfl⟩ ?_
  refine w_ireturn (pc' := 24) ⟨rfl, rfl⟩ (by decide) ?_
  exact k z hz
