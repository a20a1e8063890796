/-! of whole, what this claim takes: 58.aps.lean.txt -/
def zgC (t : zBk) (R : zRw0) : Nat → Nat → Nat → Nat → Int64 := fun s f r i => zvl (zKD t s f) (R (zpq t s f r i))
theorem c_hasOfScheme {σ : zSt} {p : Nat} {t : zBk} (hF : zFx σ) (hVt : zVt t) (hPp : zR σ 0 10 = some p) (hP : zIsB p) (hPl : zPl σ p t) {c : Nat → Int} (hC : zCn σ c) {w : Int} (hw : (-2147483648 ≤ w ∧ w ≤ 2147483647)) (hw3 : w < 0 ∨ 3 < w) {y : Int} {Q : zSt → Option Value → Prop} (k : Q σ (some (.int (iZ (zaH t c y w))))) : zCa 96 [.ref 0, .int (iZ w)] σ Q := by
  refine w_enter (c := zk_X11_hasOfScheme) (ls2 := [(0, .ref 0), (1, .int (iZ w))]) rfl ⟨rfl, rfl, trivial⟩ ?_
  have ht0 := hVt.1
  refine w_iload_n (pc' := 1) ⟨rfl, rfl⟩ rfl ?_
  refine w_ic (pc' := 2) ⟨rfl, rfl⟩ ?_
  refine w_ic_lt (pc' := 5) (pcT := 11) ⟨rfl, rfl⟩ rfl (by omega) (by omega) (fun h1 => ?_) (fun h1 => ?_)
  · refine w_ic (pc' := 12) ⟨rfl, rfl⟩ ?_
    refine w_ireturn (pc' := 13) ⟨rfl, rfl⟩ (Or.inl rfl) ?_
    exact zQi k (by unfold zaH; (try simp only [Int.toNat_natCast]); first | (rw [if_pos (by omega)]; done) | ((repeat' split) <;> first | omega | exact absurd trivial (by assumption) | rfl))
  · refine w_iload_n (pc' := 6) ⟨rfl, rfl⟩ rfl ?_
    refine w_bi (pc' := 8) ⟨rfl, rfl⟩ (by decide) ?_
    refine w_ic_le (pc' := 11) (pcT := 13) ⟨rfl, rfl⟩ rfl (by omega) (by omega) (fun h2 => ?_) (fun h2 => ?_)
    · refine w_iload_n (pc' := 14) ⟨rfl, rfl⟩ rfl ?_
      refine w_bi (pc' := 16) ⟨rfl, rfl⟩ (by decide) ?_
      refine w_ic_ge (pc' := 19) (pcT := 25) ⟨rfl, rfl⟩ rfl (by omega) (by omega) (fun h3 => ?_) (fun h3 => ?_)
      · refine w_iload_n (pc' := 26) ⟨rfl, rfl⟩ rfl ?_
        refine w_bi (pc' := 28) ⟨rfl, rfl⟩ (by decide) ?_
        refine w_isubZ (pc' := 29) ⟨rfl, rfl⟩ ?_
        refine w_istore_n (pc' := 30) ⟨rfl, rfl⟩ rfl ?_
        refine w_aload_n (pc' := 31) ⟨rfl, rfl⟩ rfl ?_
        refine w_getR (pc' := 34) (cl := 9) (q := 10) ⟨rfl, rfl⟩ ⟨rfl, by decide⟩ (zOl hF rfl) hPp ?_
        refine w_iload_n (pc' := 35) ⟨rfl, rfl⟩ rfl ?_
        refine w_cv2 (pc' := 38) ⟨rfl, rfl⟩ (by decide) (hP.o hF).1 (Nat.le_of_ble_eq_true rfl) (Nat.le_of_ble_eq_true rfl) (c_shape hF hP hPl.1 hVt.1 (by omega) (fun h => ?_) (fun h => ?_))
        · have hO := (hP.s hF (show (w - 7).toNat < 3 by omega)).2
          have hS := hPl.2.2.1 (w - 7).toNat (by omega)
          refine w_astore_n (pc' := 39) ⟨rfl, rfl⟩ rfl ?_
          refine w_aload_n (pc' := 40) ⟨rfl, rfl⟩ rfl ?_
          refine w_ifnonnullR (pc' := 43) (pcT := 45) ⟨rfl, rfl⟩ rfl  ?_
          refine w_iload_n (pc' := 46) ⟨rfl, rfl⟩ rfl ?_
          refine w_bi (pc' := 48) ⟨rfl, rfl⟩ (by decide) ?_
          refine w_ic_ge (pc' := 51) (pcT := 62) ⟨rfl, rfl⟩ rfl (by omega) (by omega) (fun h4 => ?_) (fun h4 => ?_)
          · refine w_aload_n (pc' := 63) ⟨rfl, rfl⟩ rfl ?_
            refine w_getI (pc' := 66) (cl := 6) (q := 5) ⟨rfl, rfl⟩ ⟨rfl, by decide⟩ (hO.o hF) hS.1 ?_
            refine w_ireturn (pc' := 67) ⟨rfl, rfl⟩ (Or.inl rfl) ?_
            exact zQi k (by unfold zaH; (try simp only [Int.toNat_natCast]); first | (rw [if_pos (by omega)]; done) | ((repeat' split) <;> first | omega | exact absurd trivial (by assumption) | rfl))
          · refine w_aload_n (pc' := 52) ⟨rfl, rfl⟩ rfl ?_
            refine w_getR (pc' := 55) (cl := 9) (q := 2) ⟨rfl, rfl⟩ ⟨rfl, by decide⟩ (zOl hF rfl) (hF.2 0 2 79 rfl) ?_
            refine w_iload_n (pc' := 56) ⟨rfl, rfl⟩ rfl ?_
            refine w_cv2 (pc' := 59) ⟨rfl, rfl⟩ (by decide) (zOl hF rfl) (Nat.le_of_ble_eq_true rfl) (Nat.le_of_ble_eq_true rfl) (c_countOf hF hC (by omega) (fun h => ?_) (fun h => ?_))
            · refine w_goto (pc' := 62) (pcT := 66) ⟨rfl, rfl⟩ rfl ?_
              refine w_ireturn (pc' := 67) ⟨rfl, rfl⟩ (Or.inl rfl) ?_
              exact zQi k (by unfold zaH; (try simp only [Int.toNat_natCast]); first | (rw [if_pos (by omega)]; done) | ((repeat' split) <;> first | omega | exact absurd trivial (by assumption) | rfl))
            · exfalso; omega
        · refine w_astore_nN (pc' := 39) ⟨rfl, rfl⟩ rfl ?_
          refine w_aload_nN (pc' := 40) ⟨rfl, rfl⟩ rfl ?_
          refine w_ifnonnullN (pc' := 43) (pcT := 45) ⟨rfl, rfl⟩ rfl  ?_
          refine w_ic (pc' := 44) ⟨rfl, rfl⟩ ?_
          refine w_ireturn (pc' := 45) ⟨rfl, rfl⟩ (Or.inl rfl) ?_
          exact zQi k (by unfold zaH; (try simp only [Int.toNat_natCast]); first | (rw [if_pos (by omega)]; done) | ((repeat' split) <;> first | omega | exact absurd trivial (by assumption) | rfl))
      · refine w_iload_n (pc' := 20) ⟨rfl, rfl⟩ rfl ?_
        refine w_ic (pc' := 21) ⟨rfl, rfl⟩ ?_
        refine w_isubZ (pc' := 22) ⟨rfl, rfl⟩ ?_
        refine w_goto (pc' := 25) (pcT := 29) ⟨rfl, rfl⟩ rfl ?_
        refine w_istore_n (pc' := 30) ⟨rfl, rfl⟩ rfl ?_
        refine w_aload_n (pc' := 31) ⟨rfl, rfl⟩ rfl ?_
        refine w_getR (pc' := 34) (cl := 9) (q := 10) ⟨rfl, rfl⟩ ⟨rfl, by decide⟩ (zOl hF rfl) hPp ?_
        refine w_iload_n (pc' := 35) ⟨rfl, rfl⟩ rfl ?_
        refine w_cv2 (pc' := 38) ⟨rfl, rfl⟩ (by decide) (hP.o hF).1 (Nat.le_of_ble_eq_true rfl) (Nat.le_of_ble_eq_true rfl) (c_shape hF hP hPl.1 hVt.1 (by omega) (fun h => ?_) (fun h => ?_))
        · have hO := (hP.s hF (show (w - 4).toNat < 3 by omega)).2
          have hS := hPl.2.2.1 (w - 4).toNat (by omega)
          refine w_astore_n (pc' := 39) ⟨rfl, rfl⟩ rfl ?_
          refine w_aload_n (pc' := 40) ⟨rfl, rfl⟩ rfl ?_
          refine w_ifnonnullR (pc' := 43) (pcT := 45) ⟨rfl, rfl⟩ rfl  ?_
          refine w_iload_n (pc' := 46) ⟨rfl, rfl⟩ rfl ?_
          refine w_bi (pc' := 48) ⟨rfl, rfl⟩ (by decide) ?_
          refine w_ic_ge (pc' := 51) (pcT := 62) ⟨rfl, rfl⟩ rfl (by omega) (by omega) (fun h4 => ?_) (fun h4 => ?_)
          · refine w_aload_n (pc' := 63) ⟨rfl, rfl⟩ rfl ?_
            refine w_getI (pc' := 66) (cl := 6) (q := 5) ⟨rfl, rfl⟩ ⟨rfl, by decide⟩ (hO.o hF) hS.1 ?_
            refine w_ireturn (pc' := 67) ⟨rfl, rfl⟩ (Or.inl rfl) ?_
            exact zQi k (by unfold zaH; (try simp only [Int.toNat_natCast]); first | (rw [if_pos (by omega)]; done) | ((repeat' split) <;> first | omega | exact absurd trivial (by assumption) | rfl))
          · refine w_aload_n (pc' := 52) ⟨rfl, rfl⟩ rfl ?_
            refine w_getR (pc' := 55) (cl := 9) (q := 2) ⟨rfl, rfl⟩ ⟨rfl, by decide⟩ (zOl hF rfl) (hF.2 0 2 79 rfl) ?_
            refine w_iload_n (pc' := 56) ⟨rfl, rfl⟩ rfl ?_
            refine w_cv2 (pc' := 59) ⟨rfl, rfl⟩ (by decide) (zOl hF rfl) (Nat.le_of_ble_eq_true rfl) (Nat.le_of_ble_eq_true rfl) (c_countOf hF hC (by omega) (fun h => ?_) (fun h => ?_))
            · refine w_goto (pc' := 62) (pcT := 66) ⟨rfl, rfl⟩ rfl ?_
              refine w_ireturn (pc' := 67) ⟨rfl, rfl⟩ (Or.inl rfl) ?_
              exact zQi k (by unfold zaH; (try simp only [Int.toNat_natCast]); first | (rw [if_pos (by omega)]; done) | ((repeat' split) <;> first | omega | exact absurd trivial (by assumption) | rfl))
            · exfalso; omega
        · refine w_astore_nN (pc' := 39) ⟨rfl, rfl⟩ rfl ?_
          refine w_aload_nN (pc' := 40) ⟨rfl, rfl⟩ rfl ?_
          refine w_ifnonnullN (pc' := 43) (pcT := 45) ⟨rfl, rfl⟩ rfl  ?_
          refine w_ic (pc' := 44) ⟨rfl, rfl⟩ ?_
          refine w_ireturn (pc' := 45) ⟨rfl, rfl⟩ (Or.inl rfl) ?_
          exact zQi k (by unfold zaH; (try simp only [Int.toNat_natCast]); first | (rw [if_pos (by omega)]; done) | ((repeat' split) <;> first | omega | exact absurd trivial (by assumption) | rfl))
    · refine w_ic (pc' := 12) ⟨rfl, rfl⟩ ?_
      refine w_ireturn (pc' := 13) ⟨rfl, rfl⟩ (Or.inl rfl) ?_
      exact zQi k (by unfold zaH; (try simp only [Int.toNat_natCast]); first | (rw [if_pos (by omega)]; done) | ((repeat' split) <;> first | omega | exact absurd trivial (by assumption) | rfl))
theorem c_has {σ : zSt} {p : Nat} {t : zBk} (hF : zFx σ) (hVt : zVt t) (hPp : zR σ 0 10 = some p) (hP : zIsB p) (hPl : zPl σ p t) {c : Nat → Int} (hC : zCn σ c) {y : Int} (hy : zI σ 79 3 = iZ y) {w : Int} (hw : (-2147483648 ≤ w ∧ w ≤ 2147483647)) {Q : zSt → Option Value → Prop} (k : Q σ (some (.int (iZ (zaH t c y w))))) : zCa 95 [.ref 0, .int (iZ w)] σ Q := by
  refine w_enter (c := zk_X11_has) (ls2 := [(0, .ref 0), (1, .int (iZ w))]) rfl ⟨rfl, rfl, trivial⟩ ?_
  refine w_iload_n (pc' := 1) ⟨rfl, rfl⟩ rfl ?_
  rcases Classical.em (w < 0 ∨ 3 < w) with hs | hs
  · refine w_tsOutZ (pc' := 32) (pcT := 83) ⟨rfl, rfl⟩ rfl (by omega) ?_
    refine w_aload_n (pc' := 84) ⟨rfl, rfl⟩ rfl ?_
    refine w_iload_n (pc' := 85) ⟨rfl, rfl⟩ rfl ?_
    refine w_cv2 (pc' := 88) ⟨rfl, rfl⟩ (by decide) (zOl hF rfl) (Nat.le_of_ble_eq_true rfl) (Nat.le_of_ble_eq_true rfl) (c_hasOfScheme (y := y) hF hVt hPp hP hPl hC (by omega) (by omega) ?_)
    refine w_ireturn (pc' := 89) ⟨rfl, rfl⟩ (Or.inl rfl) ?_
    exact k
  · rcases (show w = 0 ∨ w = 1 ∨ w = 2 ∨ w = 3 by omega) with hj | hj | hj | hj
    · refine w_tsInZ (pc' := 32) (pcT := 32) 0 ⟨rfl, rfl⟩ (by omega) (by decide) rfl rfl ?_
      refine w_aload_n (pc' := 33) ⟨rfl, rfl⟩ rfl ?_
      refine w_getR (pc' := 36) (cl := 9) (q := 10) ⟨rfl, rfl⟩ ⟨rfl, by decide⟩ (zOl hF rfl) hPp ?_
      refine w_getI (pc' := 39) (cl := 3) (q := 2) ⟨rfl, rfl⟩ ⟨rfl, by decide⟩ (hP.o hF).1 hPl.1 ?_
      refine w_ireturn (pc' := 40) ⟨rfl, rfl⟩ (Or.inl rfl) ?_
      exact zQi k (by unfold zaH; (try simp only [Int.toNat_natCast]); first | (rw [if_pos (by omega)]; done) | ((repeat' split) <;> first | omega | exact absurd trivial (by assumption) | rfl))
    · refine w_tsInZ (pc' := 32) (pcT := 40) 1 ⟨rfl, rfl⟩ (by omega) (by decide) rfl rfl ?_
      refine w_aload_n (pc' := 41) ⟨rfl, rfl⟩ rfl ?_
      refine w_getR (pc' := 44) (cl := 9) (q := 10) ⟨rfl, rfl⟩ ⟨rfl, by decide⟩ (zOl hF rfl) hPp ?_
      refine w_getI (pc' := 47) (cl := 3) (q := 3) ⟨rfl, rfl⟩ ⟨rfl, by decide⟩ (hP.o hF).1 hPl.2.1 ?_
      refine w_ireturn (pc' := 48) ⟨rfl, rfl⟩ (Or.inl rfl) ?_
      exact zQi k (by unfold zaH; (try simp only [Int.toNat_natCast]); first | (rw [if_pos (by omega)]; done) | ((repeat' split) <;> first | omega | exact absurd trivial (by assumption) | rfl))
    · refine w_tsInZ (pc' := 32) (pcT := 48) 2 ⟨rfl, rfl⟩ (by omega) (by decide) rfl rfl ?_
      refine w_aload_n (pc' := 49) ⟨rfl, rfl⟩ rfl ?_
      refine w_getR (pc' := 52) (cl := 9) (q := 2) ⟨rfl, rfl⟩ ⟨rfl, by decide⟩ (zOl hF rfl) (hF.2 0 2 79 rfl) ?_
      refine w_ic (pc' := 53) ⟨rfl, rfl⟩ ?_
      refine w_cv2 (pc' := 56) ⟨rfl, rfl⟩ (by decide) (zOl hF rfl) (Nat.le_of_ble_eq_true rfl) (Nat.le_of_ble_eq_true rfl) (c_countOf hF hC (by omega) (fun h => ?_) (fun h => ?_))
      · refine w_aload_n (pc' := 57) ⟨rfl, rfl⟩ rfl ?_
        refine w_getR (pc' := 60) (cl := 9) (q := 2) ⟨rfl, rfl⟩ ⟨rfl, by decide⟩ (zOl hF rfl) (hF.2 0 2 79 rfl) ?_
        refine w_ic (pc' := 61) ⟨rfl, rfl⟩ ?_
        refine w_cv2 (pc' := 64) ⟨rfl, rfl⟩ (by decide) (zOl hF rfl) (Nat.le_of_ble_eq_true rfl) (Nat.le_of_ble_eq_true rfl) (c_countOf hF hC (by omega) (fun h => ?_) (fun h => ?_))
        · refine w_iaddZ (pc' := 65) ⟨rfl, rfl⟩ ?_
          refine w_aload_n (pc' := 66) ⟨rfl, rfl⟩ rfl ?_
          refine w_getR (pc' := 69) (cl := 9) (q := 2) ⟨rfl, rfl⟩ ⟨rfl, by decide⟩ (zOl hF rfl) (hF.2 0 2 79 rfl) ?_
          refine w_ic (pc' := 70) ⟨rfl, rfl⟩ ?_
          refine w_cv2 (pc' := 73) ⟨rfl, rfl⟩ (by decide) (zOl hF rfl) (Nat.le_of_ble_eq_true rfl) (Nat.le_of_ble_eq_true rfl) (c_countOf hF hC (by omega) (fun h => ?_) (fun h => ?_))
          · refine w_iaddZ (pc' := 74) ⟨rfl, rfl⟩ ?_
            refine w_ireturn (pc' := 75) ⟨rfl, rfl⟩ (Or.inl rfl) ?_
            exact zQi k (by unfold zaH; (try simp only [Int.toNat_natCast]); first | (rw [if_pos (by omega)]; done) | ((repeat' split) <;> first | omega | exact absurd trivial (by assumption) | rfl))
          · exfalso; omega
        · exfalso; omega
      · exfalso; omega
    · refine w_tsInZ (pc' := 32) (pcT := 75) 3 ⟨rfl, rfl⟩ (by omega) (by decide) rfl rfl ?_
      refine w_aload_n (pc' := 76) ⟨rfl, rfl⟩ rfl ?_
      refine w_getR (pc' := 79) (cl := 9) (q := 2) ⟨rfl, rfl⟩ ⟨rfl, by decide⟩ (zOl hF rfl) (hF.2 0 2 79 rfl) ?_
      refine w_getI (pc' := 82) (cl := 4) (q := 3) ⟨rfl, rfl⟩ ⟨rfl, by decide⟩ (zOl hF rfl) hy ?_
      refine w_ireturn (pc' := 83) ⟨rfl, rfl⟩ (Or.inl rfl) ?_
      exact zQi k (by unfold zaH; (try simp only [Int.toNat_natCast]); first | (rw [if_pos (by omega)]; done) | ((repeat' split) <;> first | omega | exact absurd trivial (by assumption) | rfl))
theorem c_why {σ : zSt} (hF : zFx σ) {Q : zSt → Option Value → Prop} (k : Q σ (some (.int (zI σ 0 12)))) : zCa 104 [.ref 0] σ Q := by
  refine w_enter (c := zk_X11_why) (ls2 := [(0, .ref 0)]) rfl ⟨rfl, trivial⟩ ?_
  refine w_aload_n (pc' := 1) ⟨rfl, rfl⟩ rfl ?_
  refine w_getI (pc' := 4) (cl := 9) (q := 12) ⟨rfl, rfl⟩ ⟨rfl, by decide⟩ (zOl hF rfl) rfl ?_
  refine w_ireturn (pc' := 5) ⟨rfl, rfl⟩ (Or.inl rfl) ?_
  exact k
