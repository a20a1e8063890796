/-! THE LAW: reason -/
theorem zaH7 {t : zBk} {c : Nat → Int} {y : Int} (h : 1 ≤ t 0 ∧ t 0 ≤ 3) : zaH t c y 7 = zNF t 0 := by
  unfold zaH
  rw [if_neg (by omega), if_neg (by omega), if_neg (by omega), if_neg (by omega), if_neg (by omega), if_neg (by omega), if_neg (by omega)]
  rfl
theorem zaF0 {t : zBk} {f : Nat} (h : 1 ≤ t 0 ∧ t 0 ≤ 3) (hf : (f : Int) < zNF t 0) : zaF t 0 (f : Int) 0 = zKD t 0 f := by
  unfold zaF
  rw [if_neg (show ¬ ((0 : Int) < 0 ∨ t 0 ≤ 0 ∨ (f : Int) < 0 ∨ zNF t (0 : Int).toNat ≤ (f : Int)) from fun q => by rcases q with q | q | q | q <;> first | omega | (have q2 : zNF t 0 ≤ (f : Int) := q; omega)), if_pos rfl]
  rfl
theorem zaF1 {t : zBk} {f : Nat} (h : 1 ≤ t 0 ∧ t 0 ≤ 3) (hf : (f : Int) < zNF t 0) : zaF t 0 (f : Int) 1 = zCE t 0 f := by
  unfold zaF
  rw [if_neg (show ¬ ((0 : Int) < 0 ∨ t 0 ≤ 0 ∨ (f : Int) < 0 ∨ zNF t (0 : Int).toNat ≤ (f : Int)) from fun q => by rcases q with q | q | q | q <;> first | omega | (have q2 : zNF t 0 ≤ (f : Int) := q; omega)), if_neg (by omega), if_pos rfl]
  rfl
/-- a row of the first scheme -/
theorem zrk0 {t : zBk} (h : 1 ≤ t 0 ∧ t 0 ≤ 3) (row : Int) : zrk t 0 row = if row < 0 ∨ 8 < row then -4 else if row = 8 then 9 else if row = 7 then -2 else if row < zNF t 0 then zKD t 0 row.toNat else -3 := by
  have e : zNF t (0 : Int).toNat = zNF t 0 := rfl
  have e2 : zKD t (0 : Int).toNat row.toNat = zKD t 0 row.toNat := rfl
  unfold zrk
  rw [e, e2]
  by_cases h1 : row < 0 ∨ 8 < row
  · rw [if_pos h1, if_pos (by omega)]
  · rw [if_neg h1, if_neg (by omega)]
theorem zlo0 {t : zBk} {f : Nat} (h : f < 6) : zlo t 0 (f : Int) = 8 * zCE t 0 f := by
  unfold zlo
  rw [if_neg (by omega)]
  rfl
theorem zlo8 {t : zBk} : zlo t 0 8 = 4 := by
  unfold zlo
  rw [if_pos rfl]
theorem f_reason0 {σ : zSt} {p : Nat} {t : zBk} (hF : zFx σ) (hVt : zVt t) (hPp : zR σ 0 10 = some p) (hP : zIsB p) (hPl : zPl σ p t) (ht1 : 1 ≤ t 0) {c : Nat → Int} (hC : zCn σ c) {y : Int} (hy : zI σ 79 3 = iZ y) {row pl kd : Int} (hr0 : -2147483648 ≤ row ∧ row ≤ 2147483647) (hpl0 : -2147483648 ≤ pl ∧ pl ≤ 2147483647) (hkd0 : -2147483648 ≤ kd ∧ kd ≤ 2147483647) {Q : zSt → Option Value → Prop} (k : Q σ (some (.int (iZ (zrr t 0 row pl kd))))) : zCa 135 [.ref 0, .int (iZ row), .int (iZ pl), .int (iZ kd), .int (iZ 0)] σ Q := by
  refine w_enter (c := zk_L_reason) (ls2 := [(0, .ref 0), (1, .int (iZ row)), (2, .int (iZ pl)), (3, .int (iZ kd)), (4, .int (iZ 0))]) rfl ⟨rfl, rfl, rfl, rfl, rfl, trivial⟩ ?_
  have ht0 := hVt.1
  have h13 : 1 ≤ t 0 ∧ t 0 ≤ 3 := by omega
  have hV := (hVt.2.2.1 0 (by omega)).1
  have hnf := hV.1
  rcases Classical.em (row < 0 ∨ 8 < row ∨ kd < 0 ∨ 7 < kd) with h1 | h1
  · have hk := zrk0 h13 row
    refine w_iload_n (pc' := 1) ⟨rfl, rfl⟩ rfl ?_
    refine w_if_lt (pc' := 4) (pcT := 31) ⟨rfl, rfl⟩ rfl (by omega) (fun h1 => ?_) (fun h1 => ?_)
    · refine w_bi (pc' := 33) ⟨rfl, rfl⟩ (by decide) ?_
      refine w_ireturn (pc' := 34) ⟨rfl, rfl⟩ (Or.inl rfl) ?_
      exact zQi k (by
        unfold zrr zkr
        simp only [hk]
        (repeat' split) <;> first | omega | rfl | exact absurd trivial (by assumption))
    · refine w_iload_n (pc' := 5) ⟨rfl, rfl⟩ rfl ?_
      refine w_bi (pc' := 7) ⟨rfl, rfl⟩ (by decide) ?_
      refine w_ic_gt (pc' := 10) (pcT := 31) ⟨rfl, rfl⟩ rfl (by omega) (by omega) (fun h2 => ?_) (fun h2 => ?_)
      · refine w_bi (pc' := 33) ⟨rfl, rfl⟩ (by decide) ?_
        refine w_ireturn (pc' := 34) ⟨rfl, rfl⟩ (Or.inl rfl) ?_
        exact zQi k (by
          unfold zrr zkr
          simp only [hk]
          (repeat' split) <;> first | omega | rfl | exact absurd trivial (by assumption))
      · refine w_iload_n (pc' := 11) ⟨rfl, rfl⟩ rfl ?_
        refine w_if_lt (pc' := 14) (pcT := 31) ⟨rfl, rfl⟩ rfl (by omega) (fun h3 => ?_) (fun h3 => ?_)
        · refine w_bi (pc' := 33) ⟨rfl, rfl⟩ (by decide) ?_
          refine w_ireturn (pc' := 34) ⟨rfl, rfl⟩ (Or.inl rfl) ?_
          exact zQi k (by
            unfold zrr zkr
            simp only [hk]
            (repeat' split) <;> first | omega | rfl | exact absurd trivial (by assumption))
        · refine w_iload_n (pc' := 15) ⟨rfl, rfl⟩ rfl ?_
          refine w_iload (pc' := 17) ⟨rfl, rfl⟩ rfl ?_
          refine w_ic (pc' := 18) ⟨rfl, rfl⟩ ?_
          refine w_icT_ne (pc' := 21) (pcT := 26) ⟨rfl, rfl⟩ rfl (by decide) ?_
          refine w_bi (pc' := 28) ⟨rfl, rfl⟩ (by decide) ?_
          refine w_ic_le (pc' := 31) (pcT := 34) ⟨rfl, rfl⟩ rfl (by omega) (by omega) (fun h4 => ?_) (fun h4 => ?_)
          · exfalso; omega
          · refine w_bi (pc' := 33) ⟨rfl, rfl⟩ (by decide) ?_
            refine w_ireturn (pc' := 34) ⟨rfl, rfl⟩ (Or.inl rfl) ?_
            exact zQi k (by
              unfold zrr zkr
              simp only [hk]
              (repeat' split) <;> first | omega | rfl | exact absurd trivial (by assumption))
  · rcases (show (row = 6 ∨ (row < 6 ∧ zNF t 0 ≤ row)) ∨ row = 7 ∨ row = 8 ∨ (row < 6 ∧ row < zNF t 0) by omega) with h2 | rfl | rfl | h2
    · have hk : zrk t 0 row = -3 := by rw [zrk0 h13, if_neg (by omega), if_neg (by omega), if_neg (by omega), if_neg (by omega)]
      refine w_iload_n (pc' := 1) ⟨rfl, rfl⟩ rfl ?_
      refine w_ifF_lt (pc' := 4) ⟨rfl, rfl⟩ (by omega) ?_
      refine w_iload_n (pc' := 5) ⟨rfl, rfl⟩ rfl ?_
      refine w_bi (pc' := 7) ⟨rfl, rfl⟩ (by decide) ?_
      refine w_icF_gt (pc' := 10) ⟨rfl, rfl⟩ (by omega) ?_
      refine w_iload_n (pc' := 11) ⟨rfl, rfl⟩ rfl ?_
      refine w_ifF_lt (pc' := 14) ⟨rfl, rfl⟩ (by omega) ?_
      refine w_iload_n (pc' := 15) ⟨rfl, rfl⟩ rfl ?_
      refine w_iload (pc' := 17) ⟨rfl, rfl⟩ rfl ?_
      refine w_ic (pc' := 18) ⟨rfl, rfl⟩ ?_
      refine w_icT_ne (pc' := 21) (pcT := 26) ⟨rfl, rfl⟩ rfl (by decide) ?_
      refine w_bi (pc' := 28) ⟨rfl, rfl⟩ (by decide) ?_
      refine w_icT_le (pc' := 31) (pcT := 34) ⟨rfl, rfl⟩ rfl (by omega) ?_
      refine w_aload_n (pc' := 35) ⟨rfl, rfl⟩ rfl ?_
      refine w_bi (pc' := 37) ⟨rfl, rfl⟩ (by decide) ?_
      refine w_cv2 (pc' := 40) ⟨rfl, rfl⟩ (by decide) (zOl hF rfl) (Nat.le_of_ble_eq_true rfl) (Nat.le_of_ble_eq_true rfl) (c_has hF hVt hPp hP hPl hC hy (by omega) ?_)
      rw [zaH7 h13]
      refine w_istore (pc' := 42) ⟨rfl, rfl⟩ rfl ?_
      refine w_iload_n (pc' := 43) ⟨rfl, rfl⟩ rfl ?_
      refine w_bi (pc' := 45) ⟨rfl, rfl⟩ (by decide) ?_
      refine w_ic_eq (pc' := 48) (pcT := 60) ⟨rfl, rfl⟩ rfl (by omega) (by omega) (fun h1 => ?_) (fun h1 => ?_)
      · refine w_bi (pc' := 62) ⟨rfl, rfl⟩ (by decide) ?_
        refine w_ireturn (pc' := 63) ⟨rfl, rfl⟩ (Or.inl rfl) ?_
        exact zQi k (by
          unfold zrr zkr
          simp only [hk]
          (repeat' split) <;> first | omega | rfl | exact absurd trivial (by assumption))
      · refine w_iload_n (pc' := 49) ⟨rfl, rfl⟩ rfl ?_
        refine w_bi (pc' := 51) ⟨rfl, rfl⟩ (by decide) ?_
        refine w_icF_ge (pc' := 54) ⟨rfl, rfl⟩ (by omega) ?_
        refine w_iload_n (pc' := 55) ⟨rfl, rfl⟩ rfl ?_
        refine w_iload (pc' := 57) ⟨rfl, rfl⟩ rfl ?_
        refine w_icF_lt (pc' := 60) ⟨rfl, rfl⟩ (by omega) ?_
        refine w_bi (pc' := 62) ⟨rfl, rfl⟩ (by decide) ?_
        refine w_ireturn (pc' := 63) ⟨rfl, rfl⟩ (Or.inl rfl) ?_
        exact zQi k (by
          unfold zrr zkr
          simp only [hk]
          (repeat' split) <;> first | omega | rfl | exact absurd trivial (by assumption))
    · have hk : zrk t 0 7 = -2 := by rw [zrk0 h13, if_neg (by omega), if_neg (by omega), if_pos rfl]
      refine w_iload_n (pc' := 1) ⟨rfl, rfl⟩ rfl ?_
      refine w_ifF_lt (pc' := 4) ⟨rfl, rfl⟩ (by omega) ?_
      refine w_iload_n (pc' := 5) ⟨rfl, rfl⟩ rfl ?_
      refine w_bi (pc' := 7) ⟨rfl, rfl⟩ (by decide) ?_
      refine w_icF_gt (pc' := 10) ⟨rfl, rfl⟩ (by omega) ?_
      refine w_iload_n (pc' := 11) ⟨rfl, rfl⟩ rfl ?_
      refine w_ifF_lt (pc' := 14) ⟨rfl, rfl⟩ (by omega) ?_
      refine w_iload_n (pc' := 15) ⟨rfl, rfl⟩ rfl ?_
      refine w_iload (pc' := 17) ⟨rfl, rfl⟩ rfl ?_
      refine w_ic (pc' := 18) ⟨rfl, rfl⟩ ?_
      refine w_icT_ne (pc' := 21) (pcT := 26) ⟨rfl, rfl⟩ rfl (by decide) ?_
      refine w_bi (pc' := 28) ⟨rfl, rfl⟩ (by decide) ?_
      refine w_icT_le (pc' := 31) (pcT := 34) ⟨rfl, rfl⟩ rfl (by omega) ?_
      refine w_aload_n (pc' := 35) ⟨rfl, rfl⟩ rfl ?_
      refine w_bi (pc' := 37) ⟨rfl, rfl⟩ (by decide) ?_
      refine w_cv2 (pc' := 40) ⟨rfl, rfl⟩ (by decide) (zOl hF rfl) (Nat.le_of_ble_eq_true rfl) (Nat.le_of_ble_eq_true rfl) (c_has hF hVt hPp hP hPl hC hy (by omega) ?_)
      rw [zaH7 h13]
      refine w_istore (pc' := 42) ⟨rfl, rfl⟩ rfl ?_
      refine w_iload_n (pc' := 43) ⟨rfl, rfl⟩ rfl ?_
      refine w_bi (pc' := 45) ⟨rfl, rfl⟩ (by decide) ?_
      refine w_icF_eq (pc' := 48) ⟨rfl, rfl⟩ (by omega) ?_
      refine w_iload_n (pc' := 49) ⟨rfl, rfl⟩ rfl ?_
      refine w_bi (pc' := 51) ⟨rfl, rfl⟩ (by decide) ?_
      refine w_icT_ge (pc' := 54) (pcT := 63) ⟨rfl, rfl⟩ rfl (by omega) ?_
      refine w_iload_n (pc' := 64) ⟨rfl, rfl⟩ rfl ?_
      refine w_bi (pc' := 66) ⟨rfl, rfl⟩ (by decide) ?_
      refine w_icF_ne (pc' := 69) ⟨rfl, rfl⟩ (by omega) ?_
      refine w_bi (pc' := 71) ⟨rfl, rfl⟩ (by decide) ?_
      refine w_ireturn (pc' := 72) ⟨rfl, rfl⟩ (Or.inl rfl) ?_
      exact zQi k (by
        unfold zrr zkr
        simp only [hk]
        (repeat' split) <;> first | omega | rfl | exact absurd trivial (by assumption))
    · have hk : zrk t 0 8 = 9 := by rw [zrk0 h13, if_neg (by omega), if_pos rfl]
      have hl := zlo8 (t := t)
      refine w_iload_n (pc' := 1) ⟨rfl, rfl⟩ rfl ?_
      refine w_ifF_lt (pc' := 4) ⟨rfl, rfl⟩ (by omega) ?_
      refine w_iload_n (pc' := 5) ⟨rfl, rfl⟩ rfl ?_
      refine w_bi (pc' := 7) ⟨rfl, rfl⟩ (by decide) ?_
      refine w_icF_gt (pc' := 10) ⟨rfl, rfl⟩ (by omega) ?_
      refine w_iload_n (pc' := 11) ⟨rfl, rfl⟩ rfl ?_
      refine w_ifF_lt (pc' := 14) ⟨rfl, rfl⟩ (by omega) ?_
      refine w_iload_n (pc' := 15) ⟨rfl, rfl⟩ rfl ?_
      refine w_iload (pc' := 17) ⟨rfl, rfl⟩ rfl ?_
      refine w_ic (pc' := 18) ⟨rfl, rfl⟩ ?_
      refine w_icT_ne (pc' := 21) (pcT := 26) ⟨rfl, rfl⟩ rfl (by decide) ?_
      refine w_bi (pc' := 28) ⟨rfl, rfl⟩ (by decide) ?_
      refine w_icT_le (pc' := 31) (pcT := 34) ⟨rfl, rfl⟩ rfl (by omega) ?_
      refine w_aload_n (pc' := 35) ⟨rfl, rfl⟩ rfl ?_
      refine w_bi (pc' := 37) ⟨rfl, rfl⟩ (by decide) ?_
      refine w_cv2 (pc' := 40) ⟨rfl, rfl⟩ (by decide) (zOl hF rfl) (Nat.le_of_ble_eq_true rfl) (Nat.le_of_ble_eq_true rfl) (c_has hF hVt hPp hP hPl hC hy (by omega) ?_)
      rw [zaH7 h13]
      refine w_istore (pc' := 42) ⟨rfl, rfl⟩ rfl ?_
      refine w_iload_n (pc' := 43) ⟨rfl, rfl⟩ rfl ?_
      refine w_bi (pc' := 45) ⟨rfl, rfl⟩ (by decide) ?_
      refine w_icF_eq (pc' := 48) ⟨rfl, rfl⟩ (by omega) ?_
      refine w_iload_n (pc' := 49) ⟨rfl, rfl⟩ rfl ?_
      refine w_bi (pc' := 51) ⟨rfl, rfl⟩ (by decide) ?_
      refine w_icT_ge (pc' := 54) (pcT := 63) ⟨rfl, rfl⟩ rfl (by omega) ?_
      refine w_iload_n (pc' := 64) ⟨rfl, rfl⟩ rfl ?_
      refine w_bi (pc' := 66) ⟨rfl, rfl⟩ (by decide) ?_
      refine w_icT_ne (pc' := 69) (pcT := 72) ⟨rfl, rfl⟩ rfl (by omega) ?_
      refine w_iload_n (pc' := 73) ⟨rfl, rfl⟩ rfl ?_
      refine w_bi (pc' := 75) ⟨rfl, rfl⟩ (by decide) ?_
      refine w_icF_ne (pc' := 78) ⟨rfl, rfl⟩ (by omega) ?_
      refine w_bi (pc' := 80) ⟨rfl, rfl⟩ (by decide) ?_
      refine w_goto (pc' := 83) (pcT := 90) ⟨rfl, rfl⟩ rfl ?_
      refine w_istore (pc' := 92) ⟨rfl, rfl⟩ rfl ?_
      refine w_iload_n (pc' := 93) ⟨rfl, rfl⟩ rfl ?_
      refine w_bi (pc' := 95) ⟨rfl, rfl⟩ (by decide) ?_
      refine w_icF_ne (pc' := 98) ⟨rfl, rfl⟩ (by omega) ?_
      refine w_ic (pc' := 99) ⟨rfl, rfl⟩ ?_
      refine w_goto (pc' := 102) (pcT := 112) ⟨rfl, rfl⟩ rfl ?_
      refine w_istore (pc' := 114) ⟨rfl, rfl⟩ rfl ?_
      refine w_iload (pc' := 116) ⟨rfl, rfl⟩ rfl ?_
      refine w_ic (pc' := 117) ⟨rfl, rfl⟩ ?_
      refine w_icF_ge (pc' := 120) ⟨rfl, rfl⟩ (by decide) ?_
      refine w_iload (pc' := 122) ⟨rfl, rfl⟩ rfl ?_
      refine w_bi (pc' := 124) ⟨rfl, rfl⟩ (by decide) ?_
      refine w_icT_gt (pc' := 127) (pcT := 146) ⟨rfl, rfl⟩ rfl (by decide) ?_
      refine w_bi (pc' := 148) ⟨rfl, rfl⟩ (by decide) ?_
      refine w_ireturn (pc' := 149) ⟨rfl, rfl⟩ (Or.inl rfl) ?_
      exact zQi k (by
        unfold zrr zkr
        simp only [hk, hl]
        (repeat' split) <;> first | omega | rfl | exact absurd trivial (by assumption))
    · obtain ⟨f, rfl⟩ : ∃ f : Nat, row = f := ⟨row.toNat, by omega⟩
      have hf : (f : Int) < zNF t 0 := h2.2
      have hkd := (hV.2 f hf).1
      have hce := (hV.2 f hf).2
      have hk : zrk t 0 (f : Int) = zKD t 0 f := by
        rw [zrk0 h13, if_neg (by omega), if_neg (by omega), if_neg (by omega), if_pos hf]
        rfl
      have hl := zlo0 (t := t) (f := f) (by omega)
      refine w_iload_n (pc' := 1) ⟨rfl, rfl⟩ rfl ?_
      refine w_ifF_lt (pc' := 4) ⟨rfl, rfl⟩ (by omega) ?_
      refine w_iload_n (pc' := 5) ⟨rfl, rfl⟩ rfl ?_
      refine w_bi (pc' := 7) ⟨rfl, rfl⟩ (by decide) ?_
      refine w_icF_gt (pc' := 10) ⟨rfl, rfl⟩ (by omega) ?_
      refine w_iload_n (pc' := 11) ⟨rfl, rfl⟩ rfl ?_
      refine w_ifF_lt (pc' := 14) ⟨rfl, rfl⟩ (by omega) ?_
      refine w_iload_n (pc' := 15) ⟨rfl, rfl⟩ rfl ?_
      refine w_iload (pc' := 17) ⟨rfl, rfl⟩ rfl ?_
      refine w_ic (pc' := 18) ⟨rfl, rfl⟩ ?_
      refine w_icT_ne (pc' := 21) (pcT := 26) ⟨rfl, rfl⟩ rfl (by decide) ?_
      refine w_bi (pc' := 28) ⟨rfl, rfl⟩ (by decide) ?_
      refine w_icT_le (pc' := 31) (pcT := 34) ⟨rfl, rfl⟩ rfl (by omega) ?_
      refine w_aload_n (pc' := 35) ⟨rfl, rfl⟩ rfl ?_
      refine w_bi (pc' := 37) ⟨rfl, rfl⟩ (by decide) ?_
      refine w_cv2 (pc' := 40) ⟨rfl, rfl⟩ (by decide) (zOl hF rfl) (Nat.le_of_ble_eq_true rfl) (Nat.le_of_ble_eq_true rfl) (c_has hF hVt hPp hP hPl hC hy (by omega) ?_)
      rw [zaH7 h13]
      refine w_istore (pc' := 42) ⟨rfl, rfl⟩ rfl ?_
      refine w_iload_n (pc' := 43) ⟨rfl, rfl⟩ rfl ?_
      refine w_bi (pc' := 45) ⟨rfl, rfl⟩ (by decide) ?_
      refine w_icF_eq (pc' := 48) ⟨rfl, rfl⟩ (by omega) ?_
      refine w_iload_n (pc' := 49) ⟨rfl, rfl⟩ rfl ?_
      refine w_bi (pc' := 51) ⟨rfl, rfl⟩ (by decide) ?_
      refine w_icF_ge (pc' := 54) ⟨rfl, rfl⟩ (by omega) ?_
      refine w_iload_n (pc' := 55) ⟨rfl, rfl⟩ rfl ?_
      refine w_iload (pc' := 57) ⟨rfl, rfl⟩ rfl ?_
      refine w_icT_lt (pc' := 60) (pcT := 63) ⟨rfl, rfl⟩ rfl (by omega) ?_
      refine w_iload_n (pc' := 64) ⟨rfl, rfl⟩ rfl ?_
      refine w_bi (pc' := 66) ⟨rfl, rfl⟩ (by decide) ?_
      refine w_icT_ne (pc' := 69) (pcT := 72) ⟨rfl, rfl⟩ rfl (by omega) ?_
      refine w_iload_n (pc' := 73) ⟨rfl, rfl⟩ rfl ?_
      refine w_bi (pc' := 75) ⟨rfl, rfl⟩ (by decide) ?_
      refine w_icT_ne (pc' := 78) (pcT := 83) ⟨rfl, rfl⟩ rfl (by omega) ?_
      refine w_aload_n (pc' := 84) ⟨rfl, rfl⟩ rfl ?_
      refine w_ic (pc' := 85) ⟨rfl, rfl⟩ ?_
      refine w_iload_n (pc' := 86) ⟨rfl, rfl⟩ rfl ?_
      refine w_ic (pc' := 87) ⟨rfl, rfl⟩ ?_
      refine w_cv4 (pc' := 90) ⟨rfl, rfl⟩ (by decide) (zOl hF rfl) (Nat.le_of_ble_eq_true rfl) (Nat.le_of_ble_eq_true rfl) (c_field hF hVt hPp hP hPl (by omega) (by omega) (by omega) ?_)
      rw [zaF0 h13 hf]
      refine w_istore (pc' := 92) ⟨rfl, rfl⟩ rfl ?_
      refine w_iload_n (pc' := 93) ⟨rfl, rfl⟩ rfl ?_
      refine w_bi (pc' := 95) ⟨rfl, rfl⟩ (by decide) ?_
      refine w_icT_ne (pc' := 98) (pcT := 102) ⟨rfl, rfl⟩ rfl (by omega) ?_
      refine w_bi (pc' := 104) ⟨rfl, rfl⟩ (by decide) ?_
      refine w_aload_n (pc' := 105) ⟨rfl, rfl⟩ rfl ?_
      refine w_ic (pc' := 106) ⟨rfl, rfl⟩ ?_
      refine w_iload_n (pc' := 107) ⟨rfl, rfl⟩ rfl ?_
      refine w_ic (pc' := 108) ⟨rfl, rfl⟩ ?_
      refine w_cv4 (pc' := 111) ⟨rfl, rfl⟩ (by decide) (zOl hF rfl) (Nat.le_of_ble_eq_true rfl) (Nat.le_of_ble_eq_true rfl) (c_field hF hVt hPp hP hPl (by omega) (by omega) (by omega) ?_)
      rw [zaF1 h13 hf]
      refine w_imulZ (pc' := 112) ⟨rfl, rfl⟩ ?_
      refine w_istore (pc' := 114) ⟨rfl, rfl⟩ rfl ?_
      refine w_iload (pc' := 116) ⟨rfl, rfl⟩ rfl ?_
      refine w_ic (pc' := 117) ⟨rfl, rfl⟩ ?_
      refine w_icF_ge (pc' := 120) ⟨rfl, rfl⟩ (by decide) ?_
      refine w_iload (pc' := 122) ⟨rfl, rfl⟩ rfl ?_
      refine w_bi (pc' := 124) ⟨rfl, rfl⟩ (by decide) ?_
      refine w_ic_gt (pc' := 127) (pcT := 146) ⟨rfl, rfl⟩ rfl (by omega) (by omega) (fun h1 => ?_) (fun h1 => ?_)
      · refine w_bi (pc' := 148) ⟨rfl, rfl⟩ (by decide) ?_
        refine w_ireturn (pc' := 149) ⟨rfl, rfl⟩ (Or.inl rfl) ?_
        exact zQi k (by
          unfold zrr zkr
          simp only [hk, hl]
          (repeat' split) <;> first | omega | rfl | exact absurd trivial (by assumption))
      · refine w_iload (pc' := 129) ⟨rfl, rfl⟩ rfl ?_
        refine w_ic (pc' := 130) ⟨rfl, rfl⟩ ?_
        refine w_icT_ne (pc' := 133) (pcT := 149) ⟨rfl, rfl⟩ rfl (by decide) ?_
        refine w_iload_n (pc' := 150) ⟨rfl, rfl⟩ rfl ?_
        refine w_if_lt (pc' := 153) (pcT := 159) ⟨rfl, rfl⟩ rfl (by omega) (fun h2 => ?_) (fun h2 => ?_)
        · refine w_ic (pc' := 160) ⟨rfl, rfl⟩ ?_
          refine w_ireturn (pc' := 161) ⟨rfl, rfl⟩ (Or.inl rfl) ?_
          exact zQi k (by
            unfold zrr zkr
            simp only [hk, hl]
            (repeat' split) <;> first | omega | rfl | exact absurd trivial (by assumption))
        · refine w_iload_n (pc' := 154) ⟨rfl, rfl⟩ rfl ?_
          refine w_iload (pc' := 156) ⟨rfl, rfl⟩ rfl ?_
          refine w_ic_lt (pc' := 159) (pcT := 161) ⟨rfl, rfl⟩ rfl (by omega) (by omega) (fun h3 => ?_) (fun h3 => ?_)
          · refine w_iload (pc' := 163) ⟨rfl, rfl⟩ rfl ?_
            refine w_ifF_ne (pc' := 166) ⟨rfl, rfl⟩ (by decide) ?_
            refine w_iload (pc' := 168) ⟨rfl, rfl⟩ rfl ?_
            refine w_iload_n (pc' := 169) ⟨rfl, rfl⟩ rfl ?_
            refine w_cs2 (pc' := 172) ⟨rfl, rfl⟩ (by decide) (Nat.le_of_ble_eq_true rfl) (Nat.le_of_ble_eq_true rfl) (f_widens (by omega) (by omega) (fun hg => ?_) (fun hg => ?_))
            · refine w_ifF_eq (pc' := 175) ⟨rfl, rfl⟩ (by decide) ?_
              refine w_ic (pc' := 176) ⟨rfl, rfl⟩ ?_
              refine w_goto (pc' := 179) (pcT := 181) ⟨rfl, rfl⟩ rfl ?_
              refine w_ireturn (pc' := 182) ⟨rfl, rfl⟩ (Or.inl rfl) ?_
              exact zQi k (by
                unfold zrr zkr
                simp only [hk, hl]
                (repeat' split) <;> first | omega | rfl | exact absurd trivial (by assumption))
            · refine w_ifT_eq (pc' := 175) (pcT := 179) ⟨rfl, rfl⟩ rfl (by decide) ?_
              refine w_bi (pc' := 181) ⟨rfl, rfl⟩ (by decide) ?_
              refine w_ireturn (pc' := 182) ⟨rfl, rfl⟩ (Or.inl rfl) ?_
              exact zQi k (by
                unfold zrr zkr
                simp only [hk, hl]
                (repeat' split) <;> first | omega | rfl | exact absurd trivial (by assumption))
          · refine w_ic (pc' := 160) ⟨rfl, rfl⟩ ?_
            refine w_ireturn (pc' := 161) ⟨rfl, rfl⟩ (Or.inl rfl) ?_
            exact zQi k (by
              unfold zrr zkr
              simp only [hk, hl]
              (repeat' split) <;> first | omega | rfl | exact absurd trivial (by assumption))
theorem f_reason1 {σ : zSt} {p : Nat} {t : zBk} (hF : zFx σ) (hVt : zVt t) (hPp : zR σ 0 10 = some p) (hP : zIsB p) (hPl : zPl σ p t) (ht1 : 1 ≤ t 0) {c : Nat → Int} (hC : zCn σ c) {y : Int} (hy : zI σ 79 3 = iZ y) {row pl kd : Int} (hr0 : -2147483648 ≤ row ∧ row ≤ 2147483647) (hpl0 : -2147483648 ≤ pl ∧ pl ≤ 2147483647) (hkd0 : -2147483648 ≤ kd ∧ kd ≤ 2147483647) {Q : zSt → Option Value → Prop} (k : Q σ (some (.int (iZ (zwr t 0 row pl kd))))) : zCa 135 [.ref 0, .int (iZ row), .int (iZ pl), .int (iZ kd), .int (iZ 1)] σ Q := by
  refine w_enter (c := zk_L_reason) (ls2 := [(0, .ref 0), (1, .int (iZ row)), (2, .int (iZ pl)), (3, .int (iZ kd)), (4, .int (iZ 1))]) rfl ⟨rfl, rfl, rfl, rfl, rfl, trivial⟩ ?_
  have ht0 := hVt.1
  have h13 : 1 ≤ t 0 ∧ t 0 ≤ 3 := by omega
  have hV := (hVt.2.2.1 0 (by omega)).1
  have hnf := hV.1
  rcases Classical.em (row < 0 ∨ 8 < row ∨ kd < 0 ∨ 7 < kd) with h1 | h1
  · have hk := zrk0 h13 row
    refine w_iload_n (pc' := 1) ⟨rfl, rfl⟩ rfl ?_
    refine w_if_lt (pc' := 4) (pcT := 31) ⟨rfl, rfl⟩ rfl (by omega) (fun h1 => ?_) (fun h1 => ?_)
    · refine w_bi (pc' := 33) ⟨rfl, rfl⟩ (by decide) ?_
      refine w_ireturn (pc' := 34) ⟨rfl, rfl⟩ (Or.inl rfl) ?_
      exact zQi k (by
        unfold zwr zkr
        simp only [hk]
        (repeat' split) <;> first | omega | rfl | exact absurd trivial (by assumption))
    · refine w_iload_n (pc' := 5) ⟨rfl, rfl⟩ rfl ?_
      refine w_bi (pc' := 7) ⟨rfl, rfl⟩ (by decide) ?_
      refine w_ic_gt (pc' := 10) (pcT := 31) ⟨rfl, rfl⟩ rfl (by omega) (by omega) (fun h2 => ?_) (fun h2 => ?_)
      · refine w_bi (pc' := 33) ⟨rfl, rfl⟩ (by decide) ?_
        refine w_ireturn (pc' := 34) ⟨rfl, rfl⟩ (Or.inl rfl) ?_
        exact zQi k (by
          unfold zwr zkr
          simp only [hk]
          (repeat' split) <;> first | omega | rfl | exact absurd trivial (by assumption))
      · refine w_iload_n (pc' := 11) ⟨rfl, rfl⟩ rfl ?_
        refine w_if_lt (pc' := 14) (pcT := 31) ⟨rfl, rfl⟩ rfl (by omega) (fun h3 => ?_) (fun h3 => ?_)
        · refine w_bi (pc' := 33) ⟨rfl, rfl⟩ (by decide) ?_
          refine w_ireturn (pc' := 34) ⟨rfl, rfl⟩ (Or.inl rfl) ?_
          exact zQi k (by
            unfold zwr zkr
            simp only [hk]
            (repeat' split) <;> first | omega | rfl | exact absurd trivial (by assumption))
        · refine w_iload_n (pc' := 15) ⟨rfl, rfl⟩ rfl ?_
          refine w_iload (pc' := 17) ⟨rfl, rfl⟩ rfl ?_
          refine w_ic (pc' := 18) ⟨rfl, rfl⟩ ?_
          refine w_icT_ne (pc' := 21) (pcT := 26) ⟨rfl, rfl⟩ rfl (by decide) ?_
          refine w_bi (pc' := 28) ⟨rfl, rfl⟩ (by decide) ?_
          refine w_ic_le (pc' := 31) (pcT := 34) ⟨rfl, rfl⟩ rfl (by omega) (by omega) (fun h4 => ?_) (fun h4 => ?_)
          · exfalso; omega
          · refine w_bi (pc' := 33) ⟨rfl, rfl⟩ (by decide) ?_
            refine w_ireturn (pc' := 34) ⟨rfl, rfl⟩ (Or.inl rfl) ?_
            exact zQi k (by
              unfold zwr zkr
              simp only [hk]
              (repeat' split) <;> first | omega | rfl | exact absurd trivial (by assumption))
  · rcases (show (row = 6 ∨ (row < 6 ∧ zNF t 0 ≤ row)) ∨ row = 7 ∨ row = 8 ∨ (row < 6 ∧ row < zNF t 0) by omega) with h2 | rfl | rfl | h2
    · have hk : zrk t 0 row = -3 := by rw [zrk0 h13, if_neg (by omega), if_neg (by omega), if_neg (by omega), if_neg (by omega)]
      refine w_iload_n (pc' := 1) ⟨rfl, rfl⟩ rfl ?_
      refine w_ifF_lt (pc' := 4) ⟨rfl, rfl⟩ (by omega) ?_
      refine w_iload_n (pc' := 5) ⟨rfl, rfl⟩ rfl ?_
      refine w_bi (pc' := 7) ⟨rfl, rfl⟩ (by decide) ?_
      refine w_icF_gt (pc' := 10) ⟨rfl, rfl⟩ (by omega) ?_
      refine w_iload_n (pc' := 11) ⟨rfl, rfl⟩ rfl ?_
      refine w_ifF_lt (pc' := 14) ⟨rfl, rfl⟩ (by omega) ?_
      refine w_iload_n (pc' := 15) ⟨rfl, rfl⟩ rfl ?_
      refine w_iload (pc' := 17) ⟨rfl, rfl⟩ rfl ?_
      refine w_ic (pc' := 18) ⟨rfl, rfl⟩ ?_
      refine w_icT_ne (pc' := 21) (pcT := 26) ⟨rfl, rfl⟩ rfl (by decide) ?_
      refine w_bi (pc' := 28) ⟨rfl, rfl⟩ (by decide) ?_
      refine w_icT_le (pc' := 31) (pcT := 34) ⟨rfl, rfl⟩ rfl (by omega) ?_
      refine w_aload_n (pc' := 35) ⟨rfl, rfl⟩ rfl ?_
      refine w_bi (pc' := 37) ⟨rfl, rfl⟩ (by decide) ?_
      refine w_cv2 (pc' := 40) ⟨rfl, rfl⟩ (by decide) (zOl hF rfl) (Nat.le_of_ble_eq_true rfl) (Nat.le_of_ble_eq_true rfl) (c_has hF hVt hPp hP hPl hC hy (by omega) ?_)
      rw [zaH7 h13]
      refine w_istore (pc' := 42) ⟨rfl, rfl⟩ rfl ?_
      refine w_iload_n (pc' := 43) ⟨rfl, rfl⟩ rfl ?_
      refine w_bi (pc' := 45) ⟨rfl, rfl⟩ (by decide) ?_
      refine w_ic_eq (pc' := 48) (pcT := 60) ⟨rfl, rfl⟩ rfl (by omega) (by omega) (fun h1 => ?_) (fun h1 => ?_)
      · refine w_bi (pc' := 62) ⟨rfl, rfl⟩ (by decide) ?_
        refine w_ireturn (pc' := 63) ⟨rfl, rfl⟩ (Or.inl rfl) ?_
        exact zQi k (by
          unfold zwr zkr
          simp only [hk]
          (repeat' split) <;> first | omega | rfl | exact absurd trivial (by assumption))
      · refine w_iload_n (pc' := 49) ⟨rfl, rfl⟩ rfl ?_
        refine w_bi (pc' := 51) ⟨rfl, rfl⟩ (by decide) ?_
        refine w_icF_ge (pc' := 54) ⟨rfl, rfl⟩ (by omega) ?_
        refine w_iload_n (pc' := 55) ⟨rfl, rfl⟩ rfl ?_
        refine w_iload (pc' := 57) ⟨rfl, rfl⟩ rfl ?_
        refine w_icF_lt (pc' := 60) ⟨rfl, rfl⟩ (by omega) ?_
        refine w_bi (pc' := 62) ⟨rfl, rfl⟩ (by decide) ?_
        refine w_ireturn (pc' := 63) ⟨rfl, rfl⟩ (Or.inl rfl) ?_
        exact zQi k (by
          unfold zwr zkr
          simp only [hk]
          (repeat' split) <;> first | omega | rfl | exact absurd trivial (by assumption))
    · have hk : zrk t 0 7 = -2 := by rw [zrk0 h13, if_neg (by omega), if_neg (by omega), if_pos rfl]
      refine w_iload_n (pc' := 1) ⟨rfl, rfl⟩ rfl ?_
      refine w_ifF_lt (pc' := 4) ⟨rfl, rfl⟩ (by omega) ?_
      refine w_iload_n (pc' := 5) ⟨rfl, rfl⟩ rfl ?_
      refine w_bi (pc' := 7) ⟨rfl, rfl⟩ (by decide) ?_
      refine w_icF_gt (pc' := 10) ⟨rfl, rfl⟩ (by omega) ?_
      refine w_iload_n (pc' := 11) ⟨rfl, rfl⟩ rfl ?_
      refine w_ifF_lt (pc' := 14) ⟨rfl, rfl⟩ (by omega) ?_
      refine w_iload_n (pc' := 15) ⟨rfl, rfl⟩ rfl ?_
      refine w_iload (pc' := 17) ⟨rfl, rfl⟩ rfl ?_
      refine w_ic (pc' := 18) ⟨rfl, rfl⟩ ?_
      refine w_icT_ne (pc' := 21) (pcT := 26) ⟨rfl, rfl⟩ rfl (by decide) ?_
      refine w_bi (pc' := 28) ⟨rfl, rfl⟩ (by decide) ?_
      refine w_icT_le (pc' := 31) (pcT := 34) ⟨rfl, rfl⟩ rfl (by omega) ?_
      refine w_aload_n (pc' := 35) ⟨rfl, rfl⟩ rfl ?_
      refine w_bi (pc' := 37) ⟨rfl, rfl⟩ (by decide) ?_
      refine w_cv2 (pc' := 40) ⟨rfl, rfl⟩ (by decide) (zOl hF rfl) (Nat.le_of_ble_eq_true rfl) (Nat.le_of_ble_eq_true rfl) (c_has hF hVt hPp hP hPl hC hy (by omega) ?_)
      rw [zaH7 h13]
      refine w_istore (pc' := 42) ⟨rfl, rfl⟩ rfl ?_
      refine w_iload_n (pc' := 43) ⟨rfl, rfl⟩ rfl ?_
      refine w_bi (pc' := 45) ⟨rfl, rfl⟩ (by decide) ?_
      refine w_icF_eq (pc' := 48) ⟨rfl, rfl⟩ (by omega) ?_
      refine w_iload_n (pc' := 49) ⟨rfl, rfl⟩ rfl ?_
      refine w_bi (pc' := 51) ⟨rfl, rfl⟩ (by decide) ?_
      refine w_icT_ge (pc' := 54) (pcT := 63) ⟨rfl, rfl⟩ rfl (by omega) ?_
      refine w_iload_n (pc' := 64) ⟨rfl, rfl⟩ rfl ?_
      refine w_bi (pc' := 66) ⟨rfl, rfl⟩ (by decide) ?_
      refine w_icF_ne (pc' := 69) ⟨rfl, rfl⟩ (by omega) ?_
      refine w_bi (pc' := 71) ⟨rfl, rfl⟩ (by decide) ?_
      refine w_ireturn (pc' := 72) ⟨rfl, rfl⟩ (Or.inl rfl) ?_
      exact zQi k (by
        unfold zwr zkr
        simp only [hk]
        (repeat' split) <;> first | omega | rfl | exact absurd trivial (by assumption))
    · have hk : zrk t 0 8 = 9 := by rw [zrk0 h13, if_neg (by omega), if_pos rfl]
      have hl := zlo8 (t := t)
      refine w_iload_n (pc' := 1) ⟨rfl, rfl⟩ rfl ?_
      refine w_ifF_lt (pc' := 4) ⟨rfl, rfl⟩ (by omega) ?_
      refine w_iload_n (pc' := 5) ⟨rfl, rfl⟩ rfl ?_
      refine w_bi (pc' := 7) ⟨rfl, rfl⟩ (by decide) ?_
      refine w_icF_gt (pc' := 10) ⟨rfl, rfl⟩ (by omega) ?_
      refine w_iload_n (pc' := 11) ⟨rfl, rfl⟩ rfl ?_
      refine w_ifF_lt (pc' := 14) ⟨rfl, rfl⟩ (by omega) ?_
      refine w_iload_n (pc' := 15) ⟨rfl, rfl⟩ rfl ?_
      refine w_iload (pc' := 17) ⟨rfl, rfl⟩ rfl ?_
      refine w_ic (pc' := 18) ⟨rfl, rfl⟩ ?_
      refine w_icT_ne (pc' := 21) (pcT := 26) ⟨rfl, rfl⟩ rfl (by decide) ?_
      refine w_bi (pc' := 28) ⟨rfl, rfl⟩ (by decide) ?_
      refine w_icT_le (pc' := 31) (pcT := 34) ⟨rfl, rfl⟩ rfl (by omega) ?_
      refine w_aload_n (pc' := 35) ⟨rfl, rfl⟩ rfl ?_
      refine w_bi (pc' := 37) ⟨rfl, rfl⟩ (by decide) ?_
      refine w_cv2 (pc' := 40) ⟨rfl, rfl⟩ (by decide) (zOl hF rfl) (Nat.le_of_ble_eq_true rfl) (Nat.le_of_ble_eq_true rfl) (c_has hF hVt hPp hP hPl hC hy (by omega) ?_)
      rw [zaH7 h13]
      refine w_istore (pc' := 42) ⟨rfl, rfl⟩ rfl ?_
      refine w_iload_n (pc' := 43) ⟨rfl, rfl⟩ rfl ?_
      refine w_bi (pc' := 45) ⟨rfl, rfl⟩ (by decide) ?_
      refine w_icF_eq (pc' := 48) ⟨rfl, rfl⟩ (by omega) ?_
      refine w_iload_n (pc' := 49) ⟨rfl, rfl⟩ rfl ?_
      refine w_bi (pc' := 51) ⟨rfl, rfl⟩ (by decide) ?_
      refine w_icT_ge (pc' := 54) (pcT := 63) ⟨rfl, rfl⟩ rfl (by omega) ?_
      refine w_iload_n (pc' := 64) ⟨rfl, rfl⟩ rfl ?_
      refine w_bi (pc' := 66) ⟨rfl, rfl⟩ (by decide) ?_
      refine w_icT_ne (pc' := 69) (pcT := 72) ⟨rfl, rfl⟩ rfl (by omega) ?_
      refine w_iload_n (pc' := 73) ⟨rfl, rfl⟩ rfl ?_
      refine w_bi (pc' := 75) ⟨rfl, rfl⟩ (by decide) ?_
      refine w_icF_ne (pc' := 78) ⟨rfl, rfl⟩ (by omega) ?_
      refine w_bi (pc' := 80) ⟨rfl, rfl⟩ (by decide) ?_
      refine w_goto (pc' := 83) (pcT := 90) ⟨rfl, rfl⟩ rfl ?_
      refine w_istore (pc' := 92) ⟨rfl, rfl⟩ rfl ?_
      refine w_iload_n (pc' := 93) ⟨rfl, rfl⟩ rfl ?_
      refine w_bi (pc' := 95) ⟨rfl, rfl⟩ (by decide) ?_
      refine w_icF_ne (pc' := 98) ⟨rfl, rfl⟩ (by omega) ?_
      refine w_ic (pc' := 99) ⟨rfl, rfl⟩ ?_
      refine w_goto (pc' := 102) (pcT := 112) ⟨rfl, rfl⟩ rfl ?_
      refine w_istore (pc' := 114) ⟨rfl, rfl⟩ rfl ?_
      refine w_iload (pc' := 116) ⟨rfl, rfl⟩ rfl ?_
      refine w_ic (pc' := 117) ⟨rfl, rfl⟩ ?_
      refine w_icF_ge (pc' := 120) ⟨rfl, rfl⟩ (by decide) ?_
      refine w_iload (pc' := 122) ⟨rfl, rfl⟩ rfl ?_
      refine w_bi (pc' := 124) ⟨rfl, rfl⟩ (by decide) ?_
      refine w_icT_gt (pc' := 127) (pcT := 146) ⟨rfl, rfl⟩ rfl (by decide) ?_
      refine w_bi (pc' := 148) ⟨rfl, rfl⟩ (by decide) ?_
      refine w_ireturn (pc' := 149) ⟨rfl, rfl⟩ (Or.inl rfl) ?_
      exact zQi k (by
        unfold zwr zkr
        simp only [hk, hl]
        (repeat' split) <;> first | omega | rfl | exact absurd trivial (by assumption))
    · obtain ⟨f, rfl⟩ : ∃ f : Nat, row = f := ⟨row.toNat, by omega⟩
      have hf : (f : Int) < zNF t 0 := h2.2
      have hkd := (hV.2 f hf).1
      have hce := (hV.2 f hf).2
      have hk : zrk t 0 (f : Int) = zKD t 0 f := by
        rw [zrk0 h13, if_neg (by omega), if_neg (by omega), if_neg (by omega), if_pos hf]
        rfl
      have hl := zlo0 (t := t) (f := f) (by omega)
      refine w_iload_n (pc' := 1) ⟨rfl, rfl⟩ rfl ?_
      refine w_ifF_lt (pc' := 4) ⟨rfl, rfl⟩ (by omega) ?_
      refine w_iload_n (pc' := 5) ⟨rfl, rfl⟩ rfl ?_
      refine w_bi (pc' := 7) ⟨rfl, rfl⟩ (by decide) ?_
      refine w_icF_gt (pc' := 10) ⟨rfl, rfl⟩ (by omega) ?_
      refine w_iload_n (pc' := 11) ⟨rfl, rfl⟩ rfl ?_
      refine w_ifF_lt (pc' := 14) ⟨rfl, rfl⟩ (by omega) ?_
      refine w_iload_n (pc' := 15) ⟨rfl, rfl⟩ rfl ?_
      refine w_iload (pc' := 17) ⟨rfl, rfl⟩ rfl ?_
      refine w_ic (pc' := 18) ⟨rfl, rfl⟩ ?_
      refine w_icT_ne (pc' := 21) (pcT := 26) ⟨rfl, rfl⟩ rfl (by decide) ?_
      refine w_bi (pc' := 28) ⟨rfl, rfl⟩ (by decide) ?_
      refine w_icT_le (pc' := 31) (pcT := 34) ⟨rfl, rfl⟩ rfl (by omega) ?_
      refine w_aload_n (pc' := 35) ⟨rfl, rfl⟩ rfl ?_
      refine w_bi (pc' := 37) ⟨rfl, rfl⟩ (by decide) ?_
      refine w_cv2 (pc' := 40) ⟨rfl, rfl⟩ (by decide) (zOl hF rfl) (Nat.le_of_ble_eq_true rfl) (Nat.le_of_ble_eq_true rfl) (c_has hF hVt hPp hP hPl hC hy (by omega) ?_)
      rw [zaH7 h13]
      refine w_istore (pc' := 42) ⟨rfl, rfl⟩ rfl ?_
      refine w_iload_n (pc' := 43) ⟨rfl, rfl⟩ rfl ?_
      refine w_bi (pc' := 45) ⟨rfl, rfl⟩ (by decide) ?_
      refine w_icF_eq (pc' := 48) ⟨rfl, rfl⟩ (by omega) ?_
      refine w_iload_n (pc' := 49) ⟨rfl, rfl⟩ rfl ?_
      refine w_bi (pc' := 51) ⟨rfl, rfl⟩ (by decide) ?_
      refine w_icF_ge (pc' := 54) ⟨rfl, rfl⟩ (by omega) ?_
      refine w_iload_n (pc' := 55) ⟨rfl, rfl⟩ rfl ?_
      refine w_iload (pc' := 57) ⟨rfl, rfl⟩ rfl ?_
      refine w_icT_lt (pc' := 60) (pcT := 63) ⟨rfl, rfl⟩ rfl (by omega) ?_
      refine w_iload_n (pc' := 64) ⟨rfl, rfl⟩ rfl ?_
      refine w_bi (pc' := 66) ⟨rfl, rfl⟩ (by decide) ?_
      refine w_icT_ne (pc' := 69) (pcT := 72) ⟨rfl, rfl⟩ rfl (by omega) ?_
      refine w_iload_n (pc' := 73) ⟨rfl, rfl⟩ rfl ?_
      refine w_bi (pc' := 75) ⟨rfl, rfl⟩ (by decide) ?_
      refine w_icT_ne (pc' := 78) (pcT := 83) ⟨rfl, rfl⟩ rfl (by omega) ?_
      refine w_aload_n (pc' := 84) ⟨rfl, rfl⟩ rfl ?_
      refine w_ic (pc' := 85) ⟨rfl, rfl⟩ ?_
      refine w_iload_n (pc' := 86) ⟨rfl, rfl⟩ rfl ?_
      refine w_ic (pc' := 87) ⟨rfl, rfl⟩ ?_
      refine w_cv4 (pc' := 90) ⟨rfl, rfl⟩ (by decide) (zOl hF rfl) (Nat.le_of_ble_eq_true rfl) (Nat.le_of_ble_eq_true rfl) (c_field hF hVt hPp hP hPl (by omega) (by omega) (by omega) ?_)
      rw [zaF0 h13 hf]
      refine w_istore (pc' := 92) ⟨rfl, rfl⟩ rfl ?_
      refine w_iload_n (pc' := 93) ⟨rfl, rfl⟩ rfl ?_
      refine w_bi (pc' := 95) ⟨rfl, rfl⟩ (by decide) ?_
      refine w_icT_ne (pc' := 98) (pcT := 102) ⟨rfl, rfl⟩ rfl (by omega) ?_
      refine w_bi (pc' := 104) ⟨rfl, rfl⟩ (by decide) ?_
      refine w_aload_n (pc' := 105) ⟨rfl, rfl⟩ rfl ?_
      refine w_ic (pc' := 106) ⟨rfl, rfl⟩ ?_
      refine w_iload_n (pc' := 107) ⟨rfl, rfl⟩ rfl ?_
      refine w_ic (pc' := 108) ⟨rfl, rfl⟩ ?_
      refine w_cv4 (pc' := 111) ⟨rfl, rfl⟩ (by decide) (zOl hF rfl) (Nat.le_of_ble_eq_true rfl) (Nat.le_of_ble_eq_true rfl) (c_field hF hVt hPp hP hPl (by omega) (by omega) (by omega) ?_)
      rw [zaF1 h13 hf]
      refine w_imulZ (pc' := 112) ⟨rfl, rfl⟩ ?_
      refine w_istore (pc' := 114) ⟨rfl, rfl⟩ rfl ?_
      refine w_iload (pc' := 116) ⟨rfl, rfl⟩ rfl ?_
      refine w_ic (pc' := 117) ⟨rfl, rfl⟩ ?_
      refine w_icF_ge (pc' := 120) ⟨rfl, rfl⟩ (by decide) ?_
      refine w_iload (pc' := 122) ⟨rfl, rfl⟩ rfl ?_
      refine w_bi (pc' := 124) ⟨rfl, rfl⟩ (by decide) ?_
      refine w_ic_gt (pc' := 127) (pcT := 146) ⟨rfl, rfl⟩ rfl (by omega) (by omega) (fun h1 => ?_) (fun h1 => ?_)
      · refine w_bi (pc' := 148) ⟨rfl, rfl⟩ (by decide) ?_
        refine w_ireturn (pc' := 149) ⟨rfl, rfl⟩ (Or.inl rfl) ?_
        exact zQi k (by
          unfold zwr zkr
          simp only [hk, hl]
          (repeat' split) <;> first | omega | rfl | exact absurd trivial (by assumption))
      · refine w_iload (pc' := 129) ⟨rfl, rfl⟩ rfl ?_
        refine w_ic (pc' := 130) ⟨rfl, rfl⟩ ?_
        refine w_icT_ne (pc' := 133) (pcT := 149) ⟨rfl, rfl⟩ rfl (by decide) ?_
        refine w_iload_n (pc' := 150) ⟨rfl, rfl⟩ rfl ?_
        refine w_if_lt (pc' := 153) (pcT := 159) ⟨rfl, rfl⟩ rfl (by omega) (fun h2 => ?_) (fun h2 => ?_)
        · refine w_ic (pc' := 160) ⟨rfl, rfl⟩ ?_
          refine w_ireturn (pc' := 161) ⟨rfl, rfl⟩ (Or.inl rfl) ?_
          exact zQi k (by
            unfold zwr zkr
            simp only [hk, hl]
            (repeat' split) <;> first | omega | rfl | exact absurd trivial (by assumption))
        · refine w_iload_n (pc' := 154) ⟨rfl, rfl⟩ rfl ?_
          refine w_iload (pc' := 156) ⟨rfl, rfl⟩ rfl ?_
          refine w_ic_lt (pc' := 159) (pcT := 161) ⟨rfl, rfl⟩ rfl (by omega) (by omega) (fun h3 => ?_) (fun h3 => ?_)
          · refine w_iload (pc' := 163) ⟨rfl, rfl⟩ rfl ?_
            refine w_ifT_ne (pc' := 166) (pcT := 182) ⟨rfl, rfl⟩ rfl (by decide) ?_
            refine w_iload (pc' := 184) ⟨rfl, rfl⟩ rfl ?_
            refine w_ic (pc' := 185) ⟨rfl, rfl⟩ ?_
            refine w_icF_ne (pc' := 188) ⟨rfl, rfl⟩ (by decide) ?_
            refine w_iload_n (pc' := 189) ⟨rfl, rfl⟩ rfl ?_
            refine w_iload (pc' := 191) ⟨rfl, rfl⟩ rfl ?_
            refine w_cs2 (pc' := 194) ⟨rfl, rfl⟩ (by decide) (Nat.le_of_ble_eq_true rfl) (Nat.le_of_ble_eq_true rfl) (f_widens (by omega) (by omega) (fun hg => ?_) (fun hg => ?_))
            · refine w_ifF_eq (pc' := 197) ⟨rfl, rfl⟩ (by decide) ?_
              refine w_ic (pc' := 198) ⟨rfl, rfl⟩ ?_
              refine w_goto (pc' := 201) (pcT := 203) ⟨rfl, rfl⟩ rfl ?_
              refine w_ireturn (pc' := 204) ⟨rfl, rfl⟩ (Or.inl rfl) ?_
              exact zQi k (by
                unfold zwr zkr
                simp only [hk, hl]
                (repeat' split) <;> first | omega | rfl | exact absurd trivial (by assumption))
            · refine w_ifT_eq (pc' := 197) (pcT := 201) ⟨rfl, rfl⟩ rfl (by decide) ?_
              refine w_bi (pc' := 203) ⟨rfl, rfl⟩ (by decide) ?_
              refine w_ireturn (pc' := 204) ⟨rfl, rfl⟩ (Or.inl rfl) ?_
              exact zQi k (by
                unfold zwr zkr
                simp only [hk, hl]
                (repeat' split) <;> first | omega | rfl | exact absurd trivial (by assumption))
          · refine w_ic (pc' := 160) ⟨rfl, rfl⟩ ?_
            refine w_ireturn (pc' := 161) ⟨rfl, rfl⟩ (Or.inl rfl) ?_
            exact zQi k (by
              unfold zwr zkr
              simp only [hk, hl]
              (repeat' split) <;> first | omega | rfl | exact absurd trivial (by assumption))
theorem f_reason2 {σ : zSt} {p : Nat} {t : zBk} (hF : zFx σ) (hVt : zVt t) (hPp : zR σ 0 10 = some p) (hP : zIsB p) (hPl : zPl σ p t) (ht1 : 1 ≤ t 0) {c : Nat → Int} (hC : zCn σ c) {y : Int} (hy : zI σ 79 3 = iZ y) {row pl kd : Int} (hr0 : -2147483648 ≤ row ∧ row ≤ 2147483647) (hpl0 : -2147483648 ≤ pl ∧ pl ≤ 2147483647) (hkd0 : -2147483648 ≤ kd ∧ kd ≤ 2147483647) {Q : zSt → Option Value → Prop} (k : Q σ (some (.int (iZ (ztr t 0 row pl kd))))) : zCa 135 [.ref 0, .int (iZ row), .int (iZ pl), .int (iZ kd), .int (iZ 2)] σ Q := by
  refine w_enter (c := zk_L_reason) (ls2 := [(0, .ref 0), (1, .int (iZ row)), (2, .int (iZ pl)), (3, .int (iZ kd)), (4, .int (iZ 2))]) rfl ⟨rfl, rfl, rfl, rfl, rfl, trivial⟩ ?_
  have ht0 := hVt.1
  have h13 : 1 ≤ t 0 ∧ t 0 ≤ 3 := by omega
  have hV := (hVt.2.2.1 0 (by omega)).1
  have hnf := hV.1
  rcases Classical.em (row < 0 ∨ 8 < row ∨ kd < 0 ∨ 10 < kd) with h1 | h1
  · have hk := zrk0 h13 row
    refine w_iload_n (pc' := 1) ⟨rfl, rfl⟩ rfl ?_
    refine w_if_lt (pc' := 4) (pcT := 31) ⟨rfl, rfl⟩ rfl (by omega) (fun h1 => ?_) (fun h1 => ?_)
    · refine w_bi (pc' := 33) ⟨rfl, rfl⟩ (by decide) ?_
      refine w_ireturn (pc' := 34) ⟨rfl, rfl⟩ (Or.inl rfl) ?_
      exact zQi k (by
        unfold ztr
        simp only [hk]
        (repeat' split) <;> first | omega | rfl | exact absurd trivial (by assumption))
    · refine w_iload_n (pc' := 5) ⟨rfl, rfl⟩ rfl ?_
      refine w_bi (pc' := 7) ⟨rfl, rfl⟩ (by decide) ?_
      refine w_ic_gt (pc' := 10) (pcT := 31) ⟨rfl, rfl⟩ rfl (by omega) (by omega) (fun h2 => ?_) (fun h2 => ?_)
      · refine w_bi (pc' := 33) ⟨rfl, rfl⟩ (by decide) ?_
        refine w_ireturn (pc' := 34) ⟨rfl, rfl⟩ (Or.inl rfl) ?_
        exact zQi k (by
          unfold ztr
          simp only [hk]
          (repeat' split) <;> first | omega | rfl | exact absurd trivial (by assumption))
      · refine w_iload_n (pc' := 11) ⟨rfl, rfl⟩ rfl ?_
        refine w_if_lt (pc' := 14) (pcT := 31) ⟨rfl, rfl⟩ rfl (by omega) (fun h3 => ?_) (fun h3 => ?_)
        · refine w_bi (pc' := 33) ⟨rfl, rfl⟩ (by decide) ?_
          refine w_ireturn (pc' := 34) ⟨rfl, rfl⟩ (Or.inl rfl) ?_
          exact zQi k (by
            unfold ztr
            simp only [hk]
            (repeat' split) <;> first | omega | rfl | exact absurd trivial (by assumption))
        · refine w_iload_n (pc' := 15) ⟨rfl, rfl⟩ rfl ?_
          refine w_iload (pc' := 17) ⟨rfl, rfl⟩ rfl ?_
          refine w_ic (pc' := 18) ⟨rfl, rfl⟩ ?_
          refine w_icF_ne (pc' := 21) ⟨rfl, rfl⟩ (by decide) ?_
          refine w_bi (pc' := 23) ⟨rfl, rfl⟩ (by decide) ?_
          refine w_goto (pc' := 26) (pcT := 28) ⟨rfl, rfl⟩ rfl ?_
          refine w_ic_le (pc' := 31) (pcT := 34) ⟨rfl, rfl⟩ rfl (by omega) (by omega) (fun h4 => ?_) (fun h4 => ?_)
          · exfalso; omega
          · refine w_bi (pc' := 33) ⟨rfl, rfl⟩ (by decide) ?_
            refine w_ireturn (pc' := 34) ⟨rfl, rfl⟩ (Or.inl rfl) ?_
            exact zQi k (by
              unfold ztr
              simp only [hk]
              (repeat' split) <;> first | omega | rfl | exact absurd trivial (by assumption))
  · rcases (show (row = 6 ∨ (row < 6 ∧ zNF t 0 ≤ row)) ∨ row = 7 ∨ row = 8 ∨ (row < 6 ∧ row < zNF t 0) by omega) with h2 | rfl | rfl | h2
    · have hk : zrk t 0 row = -3 := by rw [zrk0 h13, if_neg (by omega), if_neg (by omega), if_neg (by omega), if_neg (by omega)]
      refine w_iload_n (pc' := 1) ⟨rfl, rfl⟩ rfl ?_
      refine w_ifF_lt (pc' := 4) ⟨rfl, rfl⟩ (by omega) ?_
      refine w_iload_n (pc' := 5) ⟨rfl, rfl⟩ rfl ?_
      refine w_bi (pc' := 7) ⟨rfl, rfl⟩ (by decide) ?_
      refine w_icF_gt (pc' := 10) ⟨rfl, rfl⟩ (by omega) ?_
      refine w_iload_n (pc' := 11) ⟨rfl, rfl⟩ rfl ?_
      refine w_ifF_lt (pc' := 14) ⟨rfl, rfl⟩ (by omega) ?_
      refine w_iload_n (pc' := 15) ⟨rfl, rfl⟩ rfl ?_
      refine w_iload (pc' := 17) ⟨rfl, rfl⟩ rfl ?_
      refine w_ic (pc' := 18) ⟨rfl, rfl⟩ ?_
      refine w_icF_ne (pc' := 21) ⟨rfl, rfl⟩ (by decide) ?_
      refine w_bi (pc' := 23) ⟨rfl, rfl⟩ (by decide) ?_
      refine w_goto (pc' := 26) (pcT := 28) ⟨rfl, rfl⟩ rfl ?_
      refine w_icT_le (pc' := 31) (pcT := 34) ⟨rfl, rfl⟩ rfl (by omega) ?_
      refine w_aload_n (pc' := 35) ⟨rfl, rfl⟩ rfl ?_
      refine w_bi (pc' := 37) ⟨rfl, rfl⟩ (by decide) ?_
      refine w_cv2 (pc' := 40) ⟨rfl, rfl⟩ (by decide) (zOl hF rfl) (Nat.le_of_ble_eq_true rfl) (Nat.le_of_ble_eq_true rfl) (c_has hF hVt hPp hP hPl hC hy (by omega) ?_)
      rw [zaH7 h13]
      refine w_istore (pc' := 42) ⟨rfl, rfl⟩ rfl ?_
      refine w_iload_n (pc' := 43) ⟨rfl, rfl⟩ rfl ?_
      refine w_bi (pc' := 45) ⟨rfl, rfl⟩ (by decide) ?_
      refine w_ic_eq (pc' := 48) (pcT := 60) ⟨rfl, rfl⟩ rfl (by omega) (by omega) (fun h1 => ?_) (fun h1 => ?_)
      · refine w_bi (pc' := 62) ⟨rfl, rfl⟩ (by decide) ?_
        refine w_ireturn (pc' := 63) ⟨rfl, rfl⟩ (Or.inl rfl) ?_
        exact zQi k (by
          unfold ztr
          simp only [hk]
          (repeat' split) <;> first | omega | rfl | exact absurd trivial (by assumption))
      · refine w_iload_n (pc' := 49) ⟨rfl, rfl⟩ rfl ?_
        refine w_bi (pc' := 51) ⟨rfl, rfl⟩ (by decide) ?_
        refine w_icF_ge (pc' := 54) ⟨rfl, rfl⟩ (by omega) ?_
        refine w_iload_n (pc' := 55) ⟨rfl, rfl⟩ rfl ?_
        refine w_iload (pc' := 57) ⟨rfl, rfl⟩ rfl ?_
        refine w_icF_lt (pc' := 60) ⟨rfl, rfl⟩ (by omega) ?_
        refine w_bi (pc' := 62) ⟨rfl, rfl⟩ (by decide) ?_
        refine w_ireturn (pc' := 63) ⟨rfl, rfl⟩ (Or.inl rfl) ?_
        exact zQi k (by
          unfold ztr
          simp only [hk]
          (repeat' split) <;> first | omega | rfl | exact absurd trivial (by assumption))
    · have hk : zrk t 0 7 = -2 := by rw [zrk0 h13, if_neg (by omega), if_neg (by omega), if_pos rfl]
      refine w_iload_n (pc' := 1) ⟨rfl, rfl⟩ rfl ?_
      refine w_ifF_lt (pc' := 4) ⟨rfl, rfl⟩ (by omega) ?_
      refine w_iload_n (pc' := 5) ⟨rfl, rfl⟩ rfl ?_
      refine w_bi (pc' := 7) ⟨rfl, rfl⟩ (by decide) ?_
      refine w_icF_gt (pc' := 10) ⟨rfl, rfl⟩ (by omega) ?_
      refine w_iload_n (pc' := 11) ⟨rfl, rfl⟩ rfl ?_
      refine w_ifF_lt (pc' := 14) ⟨rfl, rfl⟩ (by omega) ?_
      refine w_iload_n (pc' := 15) ⟨rfl, rfl⟩ rfl ?_
      refine w_iload (pc' := 17) ⟨rfl, rfl⟩ rfl ?_
      refine w_ic (pc' := 18) ⟨rfl, rfl⟩ ?_
      refine w_icF_ne (pc' := 21) ⟨rfl, rfl⟩ (by decide) ?_
      refine w_bi (pc' := 23) ⟨rfl, rfl⟩ (by decide) ?_
      refine w_goto (pc' := 26) (pcT := 28) ⟨rfl, rfl⟩ rfl ?_
      refine w_icT_le (pc' := 31) (pcT := 34) ⟨rfl, rfl⟩ rfl (by omega) ?_
      refine w_aload_n (pc' := 35) ⟨rfl, rfl⟩ rfl ?_
      refine w_bi (pc' := 37) ⟨rfl, rfl⟩ (by decide) ?_
      refine w_cv2 (pc' := 40) ⟨rfl, rfl⟩ (by decide) (zOl hF rfl) (Nat.le_of_ble_eq_true rfl) (Nat.le_of_ble_eq_true rfl) (c_has hF hVt hPp hP hPl hC hy (by omega) ?_)
      rw [zaH7 h13]
      refine w_istore (pc' := 42) ⟨rfl, rfl⟩ rfl ?_
      refine w_iload_n (pc' := 43) ⟨rfl, rfl⟩ rfl ?_
      refine w_bi (pc' := 45) ⟨rfl, rfl⟩ (by decide) ?_
      refine w_icF_eq (pc' := 48) ⟨rfl, rfl⟩ (by omega) ?_
      refine w_iload_n (pc' := 49) ⟨rfl, rfl⟩ rfl ?_
      refine w_bi (pc' := 51) ⟨rfl, rfl⟩ (by decide) ?_
      refine w_icT_ge (pc' := 54) (pcT := 63) ⟨rfl, rfl⟩ rfl (by omega) ?_
      refine w_iload_n (pc' := 64) ⟨rfl, rfl⟩ rfl ?_
      refine w_bi (pc' := 66) ⟨rfl, rfl⟩ (by decide) ?_
      refine w_icF_ne (pc' := 69) ⟨rfl, rfl⟩ (by omega) ?_
      refine w_bi (pc' := 71) ⟨rfl, rfl⟩ (by decide) ?_
      refine w_ireturn (pc' := 72) ⟨rfl, rfl⟩ (Or.inl rfl) ?_
      exact zQi k (by
        unfold ztr
        simp only [hk]
        (repeat' split) <;> first | omega | rfl | exact absurd trivial (by assumption))
    · have hk : zrk t 0 8 = 9 := by rw [zrk0 h13, if_neg (by omega), if_pos rfl]
      have hl := zlo8 (t := t)
      refine w_iload_n (pc' := 1) ⟨rfl, rfl⟩ rfl ?_
      refine w_ifF_lt (pc' := 4) ⟨rfl, rfl⟩ (by omega) ?_
      refine w_iload_n (pc' := 5) ⟨rfl, rfl⟩ rfl ?_
      refine w_bi (pc' := 7) ⟨rfl, rfl⟩ (by decide) ?_
      refine w_icF_gt (pc' := 10) ⟨rfl, rfl⟩ (by omega) ?_
      refine w_iload_n (pc' := 11) ⟨rfl, rfl⟩ rfl ?_
      refine w_ifF_lt (pc' := 14) ⟨rfl, rfl⟩ (by omega) ?_
      refine w_iload_n (pc' := 15) ⟨rfl, rfl⟩ rfl ?_
      refine w_iload (pc' := 17) ⟨rfl, rfl⟩ rfl ?_
      refine w_ic (pc' := 18) ⟨rfl, rfl⟩ ?_
      refine w_icF_ne (pc' := 21) ⟨rfl, rfl⟩ (by decide) ?_
      refine w_bi (pc' := 23) ⟨rfl, rfl⟩ (by decide) ?_
      refine w_goto (pc' := 26) (pcT := 28) ⟨rfl, rfl⟩ rfl ?_
      refine w_icT_le (pc' := 31) (pcT := 34) ⟨rfl, rfl⟩ rfl (by omega) ?_
      refine w_aload_n (pc' := 35) ⟨rfl, rfl⟩ rfl ?_
      refine w_bi (pc' := 37) ⟨rfl, rfl⟩ (by decide) ?_
      refine w_cv2 (pc' := 40) ⟨rfl, rfl⟩ (by decide) (zOl hF rfl) (Nat.le_of_ble_eq_true rfl) (Nat.le_of_ble_eq_true rfl) (c_has hF hVt hPp hP hPl hC hy (by omega) ?_)
      rw [zaH7 h13]
      refine w_istore (pc' := 42) ⟨rfl, rfl⟩ rfl ?_
      refine w_iload_n (pc' := 43) ⟨rfl, rfl⟩ rfl ?_
      refine w_bi (pc' := 45) ⟨rfl, rfl⟩ (by decide) ?_
      refine w_icF_eq (pc' := 48) ⟨rfl, rfl⟩ (by omega) ?_
      refine w_iload_n (pc' := 49) ⟨rfl, rfl⟩ rfl ?_
      refine w_bi (pc' := 51) ⟨rfl, rfl⟩ (by decide) ?_
      refine w_icT_ge (pc' := 54) (pcT := 63) ⟨rfl, rfl⟩ rfl (by omega) ?_
      refine w_iload_n (pc' := 64) ⟨rfl, rfl⟩ rfl ?_
      refine w_bi (pc' := 66) ⟨rfl, rfl⟩ (by decide) ?_
      refine w_icT_ne (pc' := 69) (pcT := 72) ⟨rfl, rfl⟩ rfl (by omega) ?_
      refine w_iload_n (pc' := 73) ⟨rfl, rfl⟩ rfl ?_
      refine w_bi (pc' := 75) ⟨rfl, rfl⟩ (by decide) ?_
      refine w_icF_ne (pc' := 78) ⟨rfl, rfl⟩ (by omega) ?_
      refine w_bi (pc' := 80) ⟨rfl, rfl⟩ (by decide) ?_
      refine w_goto (pc' := 83) (pcT := 90) ⟨rfl, rfl⟩ rfl ?_
      refine w_istore (pc' := 92) ⟨rfl, rfl⟩ rfl ?_
      refine w_iload_n (pc' := 93) ⟨rfl, rfl⟩ rfl ?_
      refine w_bi (pc' := 95) ⟨rfl, rfl⟩ (by decide) ?_
      refine w_icF_ne (pc' := 98) ⟨rfl, rfl⟩ (by omega) ?_
      refine w_ic (pc' := 99) ⟨rfl, rfl⟩ ?_
      refine w_goto (pc' := 102) (pcT := 112) ⟨rfl, rfl⟩ rfl ?_
      refine w_istore (pc' := 114) ⟨rfl, rfl⟩ rfl ?_
      refine w_iload (pc' := 116) ⟨rfl, rfl⟩ rfl ?_
      refine w_ic (pc' := 117) ⟨rfl, rfl⟩ ?_
      refine w_icT_ge (pc' := 120) (pcT := 127) ⟨rfl, rfl⟩ rfl (by decide) ?_
      refine w_iload (pc' := 129) ⟨rfl, rfl⟩ rfl ?_
      refine w_ic (pc' := 130) ⟨rfl, rfl⟩ ?_
      refine w_icF_ne (pc' := 133) ⟨rfl, rfl⟩ (by decide) ?_
      refine w_iload (pc' := 135) ⟨rfl, rfl⟩ rfl ?_
      refine w_bi (pc' := 137) ⟨rfl, rfl⟩ (by decide) ?_
      refine w_icT_ge (pc' := 140) (pcT := 149) ⟨rfl, rfl⟩ rfl (by decide) ?_
      refine w_iload_n (pc' := 150) ⟨rfl, rfl⟩ rfl ?_
      refine w_if_lt (pc' := 153) (pcT := 159) ⟨rfl, rfl⟩ rfl (by omega) (fun h1 => ?_) (fun h1 => ?_)
      · refine w_ic (pc' := 160) ⟨rfl, rfl⟩ ?_
        refine w_ireturn (pc' := 161) ⟨rfl, rfl⟩ (Or.inl rfl) ?_
        exact zQi k (by
          unfold ztr
          simp only [hk, hl]
          (repeat' split) <;> first | omega | rfl | exact absurd trivial (by assumption))
      · refine w_iload_n (pc' := 154) ⟨rfl, rfl⟩ rfl ?_
        refine w_iload (pc' := 156) ⟨rfl, rfl⟩ rfl ?_
        refine w_ic_lt (pc' := 159) (pcT := 161) ⟨rfl, rfl⟩ rfl (by omega) (by omega) (fun h2 => ?_) (fun h2 => ?_)
        · refine w_iload (pc' := 163) ⟨rfl, rfl⟩ rfl ?_
          refine w_ifT_ne (pc' := 166) (pcT := 182) ⟨rfl, rfl⟩ rfl (by decide) ?_
          refine w_iload (pc' := 184) ⟨rfl, rfl⟩ rfl ?_
          refine w_ic (pc' := 185) ⟨rfl, rfl⟩ ?_
          refine w_icT_ne (pc' := 188) (pcT := 204) ⟨rfl, rfl⟩ rfl (by decide) ?_
          refine w_iload (pc' := 206) ⟨rfl, rfl⟩ rfl ?_
          refine w_bi (pc' := 208) ⟨rfl, rfl⟩ (by decide) ?_
          refine w_icF_ne (pc' := 211) ⟨rfl, rfl⟩ (by decide) ?_
          refine w_ic (pc' := 212) ⟨rfl, rfl⟩ ?_
          refine w_ireturn (pc' := 213) ⟨rfl, rfl⟩ (Or.inl rfl) ?_
          exact zQi k (by
            unfold ztr
            simp only [hk, hl]
            (repeat' split) <;> first | omega | rfl | exact absurd trivial (by assumption))
        · refine w_ic (pc' := 160) ⟨rfl, rfl⟩ ?_
          refine w_ireturn (pc' := 161) ⟨rfl, rfl⟩ (Or.inl rfl) ?_
          exact zQi k (by
            unfold ztr
            simp only [hk, hl]
            (repeat' split) <;> first | omega | rfl | exact absurd trivial (by assumption))
    · obtain ⟨f, rfl⟩ : ∃ f : Nat, row = f := ⟨row.toNat, by omega⟩
      have hf : (f : Int) < zNF t 0 := h2.2
      have hkd := (hV.2 f hf).1
      have hce := (hV.2 f hf).2
      have hk : zrk t 0 (f : Int) = zKD t 0 f := by
        rw [zrk0 h13, if_neg (by omega), if_neg (by omega), if_neg (by omega), if_pos hf]
        rfl
      have hl := zlo0 (t := t) (f := f) (by omega)
      refine w_iload_n (pc' := 1) ⟨rfl, rfl⟩ rfl ?_
      refine w_ifF_lt (pc' := 4) ⟨rfl, rfl⟩ (by omega) ?_
      refine w_iload_n (pc' := 5) ⟨rfl, rfl⟩ rfl ?_
      refine w_bi (pc' := 7) ⟨rfl, rfl⟩ (by decide) ?_
      refine w_icF_gt (pc' := 10) ⟨rfl, rfl⟩ (by omega) ?_
      refine w_iload_n (pc' := 11) ⟨rfl, rfl⟩ rfl ?_
      refine w_ifF_lt (pc' := 14) ⟨rfl, rfl⟩ (by omega) ?_
      refine w_iload_n (pc' := 15) ⟨rfl, rfl⟩ rfl ?_
      refine w_iload (pc' := 17) ⟨rfl, rfl⟩ rfl ?_
      refine w_ic (pc' := 18) ⟨rfl, rfl⟩ ?_
      refine w_icF_ne (pc' := 21) ⟨rfl, rfl⟩ (by decide) ?_
      refine w_bi (pc' := 23) ⟨rfl, rfl⟩ (by decide) ?_
      refine w_goto (pc' := 26) (pcT := 28) ⟨rfl, rfl⟩ rfl ?_
      refine w_icT_le (pc' := 31) (pcT := 34) ⟨rfl, rfl⟩ rfl (by omega) ?_
      refine w_aload_n (pc' := 35) ⟨rfl, rfl⟩ rfl ?_
      refine w_bi (pc' := 37) ⟨rfl, rfl⟩ (by decide) ?_
      refine w_cv2 (pc' := 40) ⟨rfl, rfl⟩ (by decide) (zOl hF rfl) (Nat.le_of_ble_eq_true rfl) (Nat.le_of_ble_eq_true rfl) (c_has hF hVt hPp hP hPl hC hy (by omega) ?_)
      rw [zaH7 h13]
      refine w_istore (pc' := 42) ⟨rfl, rfl⟩ rfl ?_
      refine w_iload_n (pc' := 43) ⟨rfl, rfl⟩ rfl ?_
      refine w_bi (pc' := 45) ⟨rfl, rfl⟩ (by decide) ?_
      refine w_icF_eq (pc' := 48) ⟨rfl, rfl⟩ (by omega) ?_
      refine w_iload_n (pc' := 49) ⟨rfl, rfl⟩ rfl ?_
      refine w_bi (pc' := 51) ⟨rfl, rfl⟩ (by decide) ?_
      refine w_icF_ge (pc' := 54) ⟨rfl, rfl⟩ (by omega) ?_
      refine w_iload_n (pc' := 55) ⟨rfl, rfl⟩ rfl ?_
      refine w_iload (pc' := 57) ⟨rfl, rfl⟩ rfl ?_
      refine w_icT_lt (pc' := 60) (pcT := 63) ⟨rfl, rfl⟩ rfl (by omega) ?_
      refine w_iload_n (pc' := 64) ⟨rfl, rfl⟩ rfl ?_
      refine w_bi (pc' := 66) ⟨rfl, rfl⟩ (by decide) ?_
      refine w_icT_ne (pc' := 69) (pcT := 72) ⟨rfl, rfl⟩ rfl (by omega) ?_
      refine w_iload_n (pc' := 73) ⟨rfl, rfl⟩ rfl ?_
      refine w_bi (pc' := 75) ⟨rfl, rfl⟩ (by decide) ?_
      refine w_icT_ne (pc' := 78) (pcT := 83) ⟨rfl, rfl⟩ rfl (by omega) ?_
      refine w_aload_n (pc' := 84) ⟨rfl, rfl⟩ rfl ?_
      refine w_ic (pc' := 85) ⟨rfl, rfl⟩ ?_
      refine w_iload_n (pc' := 86) ⟨rfl, rfl⟩ rfl ?_
      refine w_ic (pc' := 87) ⟨rfl, rfl⟩ ?_
      refine w_cv4 (pc' := 90) ⟨rfl, rfl⟩ (by decide) (zOl hF rfl) (Nat.le_of_ble_eq_true rfl) (Nat.le_of_ble_eq_true rfl) (c_field hF hVt hPp hP hPl (by omega) (by omega) (by omega) ?_)
      rw [zaF0 h13 hf]
      refine w_istore (pc' := 92) ⟨rfl, rfl⟩ rfl ?_
      refine w_iload_n (pc' := 93) ⟨rfl, rfl⟩ rfl ?_
      refine w_bi (pc' := 95) ⟨rfl, rfl⟩ (by decide) ?_
      refine w_icT_ne (pc' := 98) (pcT := 102) ⟨rfl, rfl⟩ rfl (by omega) ?_
      refine w_bi (pc' := 104) ⟨rfl, rfl⟩ (by decide) ?_
      refine w_aload_n (pc' := 105) ⟨rfl, rfl⟩ rfl ?_
      refine w_ic (pc' := 106) ⟨rfl, rfl⟩ ?_
      refine w_iload_n (pc' := 107) ⟨rfl, rfl⟩ rfl ?_
      refine w_ic (pc' := 108) ⟨rfl, rfl⟩ ?_
      refine w_cv4 (pc' := 111) ⟨rfl, rfl⟩ (by decide) (zOl hF rfl) (Nat.le_of_ble_eq_true rfl) (Nat.le_of_ble_eq_true rfl) (c_field hF hVt hPp hP hPl (by omega) (by omega) (by omega) ?_)
      rw [zaF1 h13 hf]
      refine w_imulZ (pc' := 112) ⟨rfl, rfl⟩ ?_
      refine w_istore (pc' := 114) ⟨rfl, rfl⟩ rfl ?_
      refine w_iload (pc' := 116) ⟨rfl, rfl⟩ rfl ?_
      refine w_ic (pc' := 117) ⟨rfl, rfl⟩ ?_
      refine w_icT_ge (pc' := 120) (pcT := 127) ⟨rfl, rfl⟩ rfl (by decide) ?_
      refine w_iload (pc' := 129) ⟨rfl, rfl⟩ rfl ?_
      refine w_ic (pc' := 130) ⟨rfl, rfl⟩ ?_
      refine w_icF_ne (pc' := 133) ⟨rfl, rfl⟩ (by decide) ?_
      refine w_iload (pc' := 135) ⟨rfl, rfl⟩ rfl ?_
      refine w_bi (pc' := 137) ⟨rfl, rfl⟩ (by decide) ?_
      refine w_ic_ge (pc' := 140) (pcT := 149) ⟨rfl, rfl⟩ rfl (by omega) (by omega) (fun h1 => ?_) (fun h1 => ?_)
      · refine w_iload_n (pc' := 150) ⟨rfl, rfl⟩ rfl ?_
        refine w_if_lt (pc' := 153) (pcT := 159) ⟨rfl, rfl⟩ rfl (by omega) (fun h2 => ?_) (fun h2 => ?_)
        · refine w_ic (pc' := 160) ⟨rfl, rfl⟩ ?_
          refine w_ireturn (pc' := 161) ⟨rfl, rfl⟩ (Or.inl rfl) ?_
          exact zQi k (by
            unfold ztr
            simp only [hk, hl]
            (repeat' split) <;> first | omega | rfl | exact absurd trivial (by assumption))
        · refine w_iload_n (pc' := 154) ⟨rfl, rfl⟩ rfl ?_
          refine w_iload (pc' := 156) ⟨rfl, rfl⟩ rfl ?_
          refine w_ic_lt (pc' := 159) (pcT := 161) ⟨rfl, rfl⟩ rfl (by omega) (by omega) (fun h3 => ?_) (fun h3 => ?_)
          · refine w_iload (pc' := 163) ⟨rfl, rfl⟩ rfl ?_
            refine w_ifT_ne (pc' := 166) (pcT := 182) ⟨rfl, rfl⟩ rfl (by decide) ?_
            refine w_iload (pc' := 184) ⟨rfl, rfl⟩ rfl ?_
            refine w_ic (pc' := 185) ⟨rfl, rfl⟩ ?_
            refine w_icT_ne (pc' := 188) (pcT := 204) ⟨rfl, rfl⟩ rfl (by decide) ?_
            refine w_iload (pc' := 206) ⟨rfl, rfl⟩ rfl ?_
            refine w_bi (pc' := 208) ⟨rfl, rfl⟩ (by decide) ?_
            refine w_icT_ne (pc' := 211) (pcT := 213) ⟨rfl, rfl⟩ rfl (by omega) ?_
            refine w_iload (pc' := 215) ⟨rfl, rfl⟩ rfl ?_
            refine w_bi (pc' := 217) ⟨rfl, rfl⟩ (by decide) ?_
            refine w_ic_ne (pc' := 220) (pcT := 241) ⟨rfl, rfl⟩ rfl (by omega) (by omega) (fun h4 => ?_) (fun h4 => ?_)
            · refine w_iload_n (pc' := 242) ⟨rfl, rfl⟩ rfl ?_
              refine w_bi (pc' := 244) ⟨rfl, rfl⟩ (by decide) ?_
              refine w_ic_ge (pc' := 247) (pcT := 260) ⟨rfl, rfl⟩ rfl (by omega) (by omega) (fun h5 => ?_) (fun h5 => ?_)
              · refine w_bi (pc' := 262) ⟨rfl, rfl⟩ (by decide) ?_
                refine w_ireturn (pc' := 263) ⟨rfl, rfl⟩ (Or.inl rfl) ?_
                exact zQi k (by
                  unfold ztr
                  simp only [hk, hl]
                  (repeat' split) <;> first | omega | rfl | exact absurd trivial (by assumption))
              · refine w_iload_n (pc' := 248) ⟨rfl, rfl⟩ rfl ?_
                refine w_iload (pc' := 250) ⟨rfl, rfl⟩ rfl ?_
                refine w_cs2 (pc' := 253) ⟨rfl, rfl⟩ (by decide) (Nat.le_of_ble_eq_true rfl) (Nat.le_of_ble_eq_true rfl) (f_widens (by omega) (by omega) (fun hg => ?_) (fun hg => ?_))
                · refine w_ifF_eq (pc' := 256) ⟨rfl, rfl⟩ (by decide) ?_
                  refine w_ic (pc' := 257) ⟨rfl, rfl⟩ ?_
                  refine w_goto (pc' := 260) (pcT := 262) ⟨rfl, rfl⟩ rfl ?_
                  refine w_ireturn (pc' := 263) ⟨rfl, rfl⟩ (Or.inl rfl) ?_
                  exact zQi k (by
                    unfold ztr
                    simp only [hk, hl]
                    (repeat' split) <;> first | omega | rfl | exact absurd trivial (by assumption))
                · refine w_ifT_eq (pc' := 256) (pcT := 260) ⟨rfl, rfl⟩ rfl (by decide) ?_
                  refine w_bi (pc' := 262) ⟨rfl, rfl⟩ (by decide) ?_
                  refine w_ireturn (pc' := 263) ⟨rfl, rfl⟩ (Or.inl rfl) ?_
                  exact zQi k (by
                    unfold ztr
                    simp only [hk, hl]
                    (repeat' split) <;> first | omega | rfl | exact absurd trivial (by assumption))
            · refine w_iload_n (pc' := 221) ⟨rfl, rfl⟩ rfl ?_
              refine w_bi (pc' := 223) ⟨rfl, rfl⟩ (by decide) ?_
              refine w_ic_eq (pc' := 226) (pcT := 232) ⟨rfl, rfl⟩ rfl (by omega) (by omega) (fun h5 => ?_) (fun h5 => ?_)
              · refine w_ic (pc' := 233) ⟨rfl, rfl⟩ ?_
                refine w_goto (pc' := 236) (pcT := 262) ⟨rfl, rfl⟩ rfl ?_
                refine w_ireturn (pc' := 263) ⟨rfl, rfl⟩ (Or.inl rfl) ?_
                exact zQi k (by
                  unfold ztr
                  simp only [hk, hl]
                  (repeat' split) <;> first | omega | rfl | exact absurd trivial (by assumption))
              · refine w_iload_n (pc' := 227) ⟨rfl, rfl⟩ rfl ?_
                refine w_bi (pc' := 229) ⟨rfl, rfl⟩ (by decide) ?_
                refine w_ic_ne (pc' := 232) (pcT := 236) ⟨rfl, rfl⟩ rfl (by omega) (by omega) (fun h6 => ?_) (fun h6 => ?_)
                · refine w_bi (pc' := 238) ⟨rfl, rfl⟩ (by decide) ?_
                  refine w_goto (pc' := 241) (pcT := 262) ⟨rfl, rfl⟩ rfl ?_
                  refine w_ireturn (pc' := 263) ⟨rfl, rfl⟩ (Or.inl rfl) ?_
                  exact zQi k (by
                    unfold ztr
                    simp only [hk, hl]
                    (repeat' split) <;> first | omega | rfl | exact absurd trivial (by assumption))
                · refine w_ic (pc' := 233) ⟨rfl, rfl⟩ ?_
                  refine w_goto (pc' := 236) (pcT := 262) ⟨rfl, rfl⟩ rfl ?_
                  refine w_ireturn (pc' := 263) ⟨rfl, rfl⟩ (Or.inl rfl) ?_
                  exact zQi k (by
                    unfold ztr
                    simp only [hk, hl]
                    (repeat' split) <;> first | omega | rfl | exact absurd trivial (by assumption))
          · refine w_ic (pc' := 160) ⟨rfl, rfl⟩ ?_
            refine w_ireturn (pc' := 161) ⟨rfl, rfl⟩ (Or.inl rfl) ?_
            exact zQi k (by
              unfold ztr
              simp only [hk, hl]
              (repeat' split) <;> first | omega | rfl | exact absurd trivial (by assumption))
      · refine w_iload_n (pc' := 141) ⟨rfl, rfl⟩ rfl ?_
        refine w_bi (pc' := 143) ⟨rfl, rfl⟩ (by decide) ?_
        refine w_ic_ne (pc' := 146) (pcT := 149) ⟨rfl, rfl⟩ rfl (by omega) (by omega) (fun h2 => ?_) (fun h2 => ?_)
        · refine w_iload_n (pc' := 150) ⟨rfl, rfl⟩ rfl ?_
          refine w_if_lt (pc' := 153) (pcT := 159) ⟨rfl, rfl⟩ rfl (by omega) (fun h3 => ?_) (fun h3 => ?_)
          · refine w_ic (pc' := 160) ⟨rfl, rfl⟩ ?_
            refine w_ireturn (pc' := 161) ⟨rfl, rfl⟩ (Or.inl rfl) ?_
            exact zQi k (by
              unfold ztr
              simp only [hk, hl]
              (repeat' split) <;> first | omega | rfl | exact absurd trivial (by assumption))
          · refine w_iload_n (pc' := 154) ⟨rfl, rfl⟩ rfl ?_
            refine w_iload (pc' := 156) ⟨rfl, rfl⟩ rfl ?_
            refine w_ic_lt (pc' := 159) (pcT := 161) ⟨rfl, rfl⟩ rfl (by omega) (by omega) (fun h4 => ?_) (fun h4 => ?_)
            · refine w_iload (pc' := 163) ⟨rfl, rfl⟩ rfl ?_
              refine w_ifT_ne (pc' := 166) (pcT := 182) ⟨rfl, rfl⟩ rfl (by decide) ?_
              refine w_iload (pc' := 184) ⟨rfl, rfl⟩ rfl ?_
              refine w_ic (pc' := 185) ⟨rfl, rfl⟩ ?_
              refine w_icT_ne (pc' := 188) (pcT := 204) ⟨rfl, rfl⟩ rfl (by decide) ?_
              refine w_iload (pc' := 206) ⟨rfl, rfl⟩ rfl ?_
              refine w_bi (pc' := 208) ⟨rfl, rfl⟩ (by decide) ?_
              refine w_icT_ne (pc' := 211) (pcT := 213) ⟨rfl, rfl⟩ rfl (by omega) ?_
              refine w_iload (pc' := 215) ⟨rfl, rfl⟩ rfl ?_
              refine w_bi (pc' := 217) ⟨rfl, rfl⟩ (by decide) ?_
              refine w_ic_ne (pc' := 220) (pcT := 241) ⟨rfl, rfl⟩ rfl (by omega) (by omega) (fun h5 => ?_) (fun h5 => ?_)
              · refine w_iload_n (pc' := 242) ⟨rfl, rfl⟩ rfl ?_
                refine w_bi (pc' := 244) ⟨rfl, rfl⟩ (by decide) ?_
                refine w_ic_ge (pc' := 247) (pcT := 260) ⟨rfl, rfl⟩ rfl (by omega) (by omega) (fun h6 => ?_) (fun h6 => ?_)
                · refine w_bi (pc' := 262) ⟨rfl, rfl⟩ (by decide) ?_
                  refine w_ireturn (pc' := 263) ⟨rfl, rfl⟩ (Or.inl rfl) ?_
                  exact zQi k (by
                    unfold ztr
                    simp only [hk, hl]
                    (repeat' split) <;> first | omega | rfl | exact absurd trivial (by assumption))
                · refine w_iload_n (pc' := 248) ⟨rfl, rfl⟩ rfl ?_
                  refine w_iload (pc' := 250) ⟨rfl, rfl⟩ rfl ?_
                  refine w_cs2 (pc' := 253) ⟨rfl, rfl⟩ (by decide) (Nat.le_of_ble_eq_true rfl) (Nat.le_of_ble_eq_true rfl) (f_widens (by omega) (by omega) (fun hg => ?_) (fun hg => ?_))
                  · refine w_ifF_eq (pc' := 256) ⟨rfl, rfl⟩ (by decide) ?_
                    refine w_ic (pc' := 257) ⟨rfl, rfl⟩ ?_
                    refine w_goto (pc' := 260) (pcT := 262) ⟨rfl, rfl⟩ rfl ?_
                    refine w_ireturn (pc' := 263) ⟨rfl, rfl⟩ (Or.inl rfl) ?_
                    exact zQi k (by
                      unfold ztr
                      simp only [hk, hl]
                      (repeat' split) <;> first | omega | rfl | exact absurd trivial (by assumption))
                  · refine w_ifT_eq (pc' := 256) (pcT := 260) ⟨rfl, rfl⟩ rfl (by decide) ?_
                    refine w_bi (pc' := 262) ⟨rfl, rfl⟩ (by decide) ?_
                    refine w_ireturn (pc' := 263) ⟨rfl, rfl⟩ (Or.inl rfl) ?_
                    exact zQi k (by
                      unfold ztr
                      simp only [hk, hl]
                      (repeat' split) <;> first | omega | rfl | exact absurd trivial (by assumption))
              · refine w_iload_n (pc' := 221) ⟨rfl, rfl⟩ rfl ?_
                refine w_bi (pc' := 223) ⟨rfl, rfl⟩ (by decide) ?_
                refine w_ic_eq (pc' := 226) (pcT := 232) ⟨rfl, rfl⟩ rfl (by omega) (by omega) (fun h6 => ?_) (fun h6 => ?_)
                · refine w_ic (pc' := 233) ⟨rfl, rfl⟩ ?_
                  refine w_goto (pc' := 236) (pcT := 262) ⟨rfl, rfl⟩ rfl ?_
                  refine w_ireturn (pc' := 263) ⟨rfl, rfl⟩ (Or.inl rfl) ?_
                  exact zQi k (by
                    unfold ztr
                    simp only [hk, hl]
                    (repeat' split) <;> first | omega | rfl | exact absurd trivial (by assumption))
                · refine w_iload_n (pc' := 227) ⟨rfl, rfl⟩ rfl ?_
                  refine w_bi (pc' := 229) ⟨rfl, rfl⟩ (by decide) ?_
                  refine w_ic_ne (pc' := 232) (pcT := 236) ⟨rfl, rfl⟩ rfl (by omega) (by omega) (fun h7 => ?_) (fun h7 => ?_)
                  · refine w_bi (pc' := 238) ⟨rfl, rfl⟩ (by decide) ?_
                    refine w_goto (pc' := 241) (pcT := 262) ⟨rfl, rfl⟩ rfl ?_
                    refine w_ireturn (pc' := 263) ⟨rfl, rfl⟩ (Or.inl rfl) ?_
                    exact zQi k (by
                      unfold ztr
                      simp only [hk, hl]
                      (repeat' split) <;> first | omega | rfl | exact absurd trivial (by assumption))
                  · refine w_ic (pc' := 233) ⟨rfl, rfl⟩ ?_
                    refine w_goto (pc' := 236) (pcT := 262) ⟨rfl, rfl⟩ rfl ?_
                    refine w_ireturn (pc' := 263) ⟨rfl, rfl⟩ (Or.inl rfl) ?_
                    exact zQi k (by
                      unfold ztr
                      simp only [hk, hl]
                      (repeat' split) <;> first | omega | rfl | exact absurd trivial (by assumption))
            · refine w_ic (pc' := 160) ⟨rfl, rfl⟩ ?_
              refine w_ireturn (pc' := 161) ⟨rfl, rfl⟩ (Or.inl rfl) ?_
              exact zQi k (by
                unfold ztr
                simp only [hk, hl]
                (repeat' split) <;> first | omega | rfl | exact absurd trivial (by assumption))
        · refine w_bi (pc' := 148) ⟨rfl, rfl⟩ (by decide) ?_
          refine w_ireturn (pc' := 149) ⟨rfl, rfl⟩ (Or.inl rfl) ?_
          exact zQi k (by
            unfold ztr
            simp only [hk, hl]
            (repeat' split) <;> first | omega | rfl | exact absurd trivial (by assumption))
