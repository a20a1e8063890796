/-! A CALL OF EACH KIND ON FRESH OBJECTS: the reference -/
/-- the reference's part of what stands in the fresh objects -/
def zfo2 (o k : Nat) : Bool := Nat.ble 164 o && zfo o k
def zFr2 (σ : zSt) : Prop := ∀ o k, zfo2 o k = true → zI σ o k = iZ (zfi o k)
theorem f_X12_end {σ : zSt} (hF : zFx σ) (hI : zFr2 σ) (hT : zTr σ zt0) {n : Int} (hn : (-2147483648 ≤ n ∧ n ≤ 2147483647)) {Q : zSt → Option Value → Prop} (k : ∀ σ1, zFm (List.range 181) σ σ1 → Q σ1 (some (.int (iZ (zaE n))))) : zCa 178 [.ref 164, .int (iZ n)] σ Q := by
  refine w_enter (c := zk_X12_end) (ls2 := [(0, .ref 164), (1, .int (iZ n))]) rfl ⟨rfl, rfl, trivial⟩ ?_
  refine w_iload_n (pc' := 1) ⟨rfl, rfl⟩ rfl ?_
  refine w_if_lt (pc' := 4) (pcT := 12) ⟨rfl, rfl⟩ rfl (by omega) (fun h1 => ?_) (fun h1 => ?_)
  · refine w_aload_n (pc' := 13) ⟨rfl, rfl⟩ rfl ?_
    refine w_ic (pc' := 14) ⟨rfl, rfl⟩ ?_
    refine w_cv2 (pc' := 17) ⟨rfl, rfl⟩ (by decide) (zOl hF rfl) (Nat.le_of_ble_eq_true rfl) (Nat.le_of_ble_eq_true rfl) (r_isRefused (w := 0) hF (by decide) ?_)
    refine w_ireturn (pc' := 18) ⟨rfl, rfl⟩ (by decide) ?_
    exact zQi (k _ (zFm.wI (List.mem_range.mpr (by decide)))) (by unfold zaE; (repeat' split) <;> omega)
  · refine w_iload_n (pc' := 5) ⟨rfl, rfl⟩ rfl ?_
    refine w_aload_n (pc' := 6) ⟨rfl, rfl⟩ rfl ?_
    refine w_getI (pc' := 9) (cl := 10) (q := 1) ⟨rfl, rfl⟩ ⟨rfl, by decide⟩ (zOl hF rfl) (show zI _ 164 1 = iZ (0) from hI 164 1 rfl) ?_
    refine w_ic_le (pc' := 12) (pcT := 18) ⟨rfl, rfl⟩ rfl (by omega) (by omega) (fun h2 => ?_) (fun h2 => ?_)
    · refine w_aload_n (pc' := 19) ⟨rfl, rfl⟩ rfl ?_
      refine w_iload_n (pc' := 20) ⟨rfl, rfl⟩ rfl ?_
      refine w_putI (pc' := 23) (cl := 10) (q := 1) ⟨rfl, rfl⟩ ⟨rfl, by decide⟩ (zOl hF rfl) ?_
      refine w_ic (pc' := 24) ⟨rfl, rfl⟩ ?_
      refine w_ireturn (pc' := 25) ⟨rfl, rfl⟩ (by decide) ?_
      exact zQi (k _ (zFm.wI (List.mem_range.mpr (by decide)))) (by unfold zaE; (repeat' split) <;> omega)
    · refine w_aload_n (pc' := 13) ⟨rfl, rfl⟩ rfl ?_
      refine w_ic (pc' := 14) ⟨rfl, rfl⟩ ?_
      refine w_cv2 (pc' := 17) ⟨rfl, rfl⟩ (by decide) (zOl hF rfl) (Nat.le_of_ble_eq_true rfl) (Nat.le_of_ble_eq_true rfl) (r_isRefused (w := 0) hF (by decide) ?_)
      refine w_ireturn (pc' := 18) ⟨rfl, rfl⟩ (by decide) ?_
      exact zQi (k _ (zFm.wI (List.mem_range.mpr (by decide)))) (by unfold zaE; (repeat' split) <;> omega)
theorem f_X12_fault {σ : zSt} (hF : zFx σ) (hI : zFr2 σ) (hT : zTr σ zt0) {w : Int} (hw : (-2147483648 ≤ w ∧ w ≤ 2147483647)) {Q : zSt → Option Value → Prop} (k : ∀ σ1, zFm (List.range 181) σ σ1 → Q σ1 (some (.int (iZ (zaF w))))) : zCa 180 [.ref 164, .int (iZ w)] σ Q := by
  refine w_enter (c := zk_X12_fault) (ls2 := [(0, .ref 164), (1, .int (iZ w))]) rfl ⟨rfl, rfl, trivial⟩ ?_
  refine w_iload_n (pc' := 1) ⟨rfl, rfl⟩ rfl ?_
  refine w_if_ne (pc' := 4) (pcT := 11) ⟨rfl, rfl⟩ rfl (by omega) (fun h1 => ?_) (fun h1 => ?_)
  · refine w_iload_n (pc' := 12) ⟨rfl, rfl⟩ rfl ?_
    refine w_ic (pc' := 13) ⟨rfl, rfl⟩ ?_
    refine w_ic_ne (pc' := 16) (pcT := 23) ⟨rfl, rfl⟩ rfl (by omega) (by omega) (fun h2 => ?_) (fun h2 => ?_)
    · refine w_ic (pc' := 24) ⟨rfl, rfl⟩ ?_
      refine w_ireturn (pc' := 25) ⟨rfl, rfl⟩ (Or.inl rfl) ?_
      exact zQi (k _ zFm.refl) (by unfold zaF; (repeat' split) <;> omega)
    · refine w_aload_n (pc' := 17) ⟨rfl, rfl⟩ rfl ?_
      refine w_getI (pc' := 20) (cl := 10) (q := 8) ⟨rfl, rfl⟩ ⟨rfl, by decide⟩ (zOl hF rfl) (show zI _ 164 8 = iZ (-1) from hI 164 8 rfl) ?_
      refine w_goto (pc' := 23) (pcT := 24) ⟨rfl, rfl⟩ rfl ?_
      refine w_ireturn (pc' := 25) ⟨rfl, rfl⟩ (Or.inl rfl) ?_
      exact zQi (k _ zFm.refl) (by unfold zaF; (repeat' split) <;> omega)
  · refine w_aload_n (pc' := 5) ⟨rfl, rfl⟩ rfl ?_
    refine w_getI (pc' := 8) (cl := 10) (q := 7) ⟨rfl, rfl⟩ ⟨rfl, by decide⟩ (zOl hF rfl) (show zI _ 164 7 = iZ (0) from hI 164 7 rfl) ?_
    refine w_goto (pc' := 11) (pcT := 24) ⟨rfl, rfl⟩ rfl ?_
    refine w_ireturn (pc' := 25) ⟨rfl, rfl⟩ (Or.inl rfl) ?_
    exact zQi (k _ zFm.refl) (by unfold zaF; (repeat' split) <;> omega)
theorem f_X12_isField {σ : zSt} (hF : zFx σ) (hI : zFr2 σ) (hT : zTr σ zt0) {s : Int} (hs : (-2147483648 ≤ s ∧ s ≤ 2147483647)) {f : Int} (hf : (-2147483648 ≤ f ∧ f ≤ 2147483647)) {Q : zSt → Option Value → Prop} (k : Q σ (some (.int (iZ 0)))) : zCa 215 [.ref 164, .int (iZ s), .int (iZ f)] σ Q := by
  refine w_enter (c := zk_X12_isField) (ls2 := [(0, .ref 164), (1, .int (iZ s)), (2, .int (iZ f))]) rfl ⟨rfl, rfl, rfl, trivial⟩ ?_
  refine w_aload_n (pc' := 1) ⟨rfl, rfl⟩ rfl ?_
  refine w_iload_n (pc' := 2) ⟨rfl, rfl⟩ rfl ?_
  refine w_cv2 (pc' := 5) ⟨rfl, rfl⟩ (by decide) (zOl hF rfl) (Nat.le_of_ble_eq_true rfl) (Nat.le_of_ble_eq_true rfl) (f_isScheme hF hT (by omega) ?_)
  refine w_ifT_eq (pc' := 8) (pcT := 29) ⟨rfl, rfl⟩ rfl (by decide) ?_
  refine w_ic (pc' := 30) ⟨rfl, rfl⟩ ?_
  refine w_ireturn (pc' := 31) ⟨rfl, rfl⟩ (by decide) ?_
  exact k
theorem f_X12_isRecord {σ : zSt} (hF : zFx σ) (hI : zFr2 σ) (hT : zTr σ zt0) {s : Int} (hs : (-2147483648 ≤ s ∧ s ≤ 2147483647)) {r : Int} (hr : (-2147483648 ≤ r ∧ r ≤ 2147483647)) {Q : zSt → Option Value → Prop} (k : Q σ (some (.int (iZ 0)))) : zCa 225 [.ref 164, .int (iZ s), .int (iZ r)] σ Q := by
  refine w_enter (c := zk_X12_isRecord) (ls2 := [(0, .ref 164), (1, .int (iZ s)), (2, .int (iZ r))]) rfl ⟨rfl, rfl, rfl, trivial⟩ ?_
  refine w_aload_n (pc' := 1) ⟨rfl, rfl⟩ rfl ?_
  refine w_iload_n (pc' := 2) ⟨rfl, rfl⟩ rfl ?_
  refine w_cv2 (pc' := 5) ⟨rfl, rfl⟩ (by decide) (zOl hF rfl) (Nat.le_of_ble_eq_true rfl) (Nat.le_of_ble_eq_true rfl) (f_isScheme hF hT (by omega) ?_)
  refine w_ifT_eq (pc' := 8) (pcT := 29) ⟨rfl, rfl⟩ rfl (by decide) ?_
  refine w_ic (pc' := 30) ⟨rfl, rfl⟩ ?_
  refine w_ireturn (pc' := 31) ⟨rfl, rfl⟩ (by decide) ?_
  exact k
theorem f_X12_canCross {σ : zSt} (hF : zFx σ) (hI : zFr2 σ) (hT : zTr σ zt0) {c : Int} (hc : (-2147483648 ≤ c ∧ c ≤ 2147483647)) {r : Int} (hr : (-2147483648 ≤ r ∧ r ≤ 2147483647)) {Q : zSt → Option Value → Prop} (k : Q σ (some (.int (iZ 0)))) : zCa 288 [.ref 164, .int (iZ c), .int (iZ r)] σ Q := by
  refine w_enter (c := zk_X12_canCross) (ls2 := [(0, .ref 164), (1, .int (iZ c)), (2, .int (iZ r))]) rfl ⟨rfl, rfl, rfl, trivial⟩ ?_
  refine w_aload_n (pc' := 1) ⟨rfl, rfl⟩ rfl ?_
  refine w_iload_n (pc' := 2) ⟨rfl, rfl⟩ rfl ?_
  refine w_cv2 (pc' := 5) ⟨rfl, rfl⟩ (by decide) (zOl hF rfl) (Nat.le_of_ble_eq_true rfl) (Nat.le_of_ble_eq_true rfl) (f_isCrossing hF hT (by omega) ?_)
  refine w_ifT_eq (pc' := 8) (pcT := 25) ⟨rfl, rfl⟩ rfl (by decide) ?_
  refine w_ic (pc' := 26) ⟨rfl, rfl⟩ ?_
  refine w_ireturn (pc' := 27) ⟨rfl, rfl⟩ (by decide) ?_
  exact k
theorem f_X12_doesLeadBack {σ : zSt} (hF : zFx σ) (hI : zFr2 σ) (hT : zTr σ zt0) {c : Int} (hc : (-2147483648 ≤ c ∧ c ≤ 2147483647)) {d : Int} (hd : (-2147483648 ≤ d ∧ d ≤ 2147483647)) {Q : zSt → Option Value → Prop} (k : Q σ (some (.int (iZ 0)))) : zCa 290 [.ref 164, .int (iZ c), .int (iZ d)] σ Q := by
  refine w_enter (c := zk_X12_doesLeadBack) (ls2 := [(0, .ref 164), (1, .int (iZ c)), (2, .int (iZ d))]) rfl ⟨rfl, rfl, rfl, trivial⟩ ?_
  refine w_aload_n (pc' := 1) ⟨rfl, rfl⟩ rfl ?_
  refine w_iload_n (pc' := 2) ⟨rfl, rfl⟩ rfl ?_
  refine w_cv2 (pc' := 5) ⟨rfl, rfl⟩ (by decide) (zOl hF rfl) (Nat.le_of_ble_eq_true rfl) (Nat.le_of_ble_eq_true rfl) (f_isCrossing hF hT (by omega) ?_)
  refine w_ifT_eq (pc' := 8) (pcT := 46) ⟨rfl, rfl⟩ rfl (by decide) ?_
  refine w_ic (pc' := 47) ⟨rfl, rfl⟩ ?_
  refine w_ireturn (pc' := 48) ⟨rfl, rfl⟩ (by decide) ?_
  exact k
theorem f_X12_has {σ : zSt} (hF : zFx σ) (hI : zFr2 σ) (hT : zTr σ zt0) {w : Int} (hw : (-2147483648 ≤ w ∧ w ≤ 2147483647)) {Q : zSt → Option Value → Prop} (k : ∀ σ1, zFm (List.range 181) σ σ1 → Q σ1 (some (.int (iZ (zaH w))))) : zCa 242 [.ref 164, .int (iZ w)] σ Q := by
  refine w_enter (c := zk_X12_has) (ls2 := [(0, .ref 164), (1, .int (iZ w))]) rfl ⟨rfl, rfl, trivial⟩ ?_
  refine w_iload_n (pc' := 1) ⟨rfl, rfl⟩ rfl ?_
  refine w_i2lZ (pc' := 2) ⟨rfl, rfl⟩ (by omega) ?_
  refine w_lc (pc' := 3) (z := 0) ⟨rfl, rfl⟩ rfl ?_
  refine w_ldc2Y (pc' := 6) (z := 9) ⟨rfl, rfl⟩ rfl ?_
  refine w_cs3 (pc' := 9) ⟨rfl, rfl⟩ (by decide) (Nat.le_of_ble_eq_true rfl) (Nat.le_of_ble_eq_true rfl) (r_isIn (by omega) (by omega) (by omega) (fun h => ?_) (fun h => ?_))
  · refine w_ifF_eq (pc' := 12) ⟨rfl, rfl⟩ (by decide) ?_
    refine w_iload_n (pc' := 13) ⟨rfl, rfl⟩ rfl ?_
    refine w_ic (pc' := 14) ⟨rfl, rfl⟩ ?_
    refine w_ic_le (pc' := 17) (pcT := 38) ⟨rfl, rfl⟩ rfl (by omega) (by omega) (fun h1 => ?_) (fun h1 => ?_)
    · refine w_aload_n (pc' := 39) ⟨rfl, rfl⟩ rfl ?_
      refine w_getZ (pc' := 42) (cl := 10) (q := 14) ⟨rfl, rfl⟩ ⟨rfl, by decide⟩ (zOl hF rfl) (show zI _ 164 14 = iZ (0) from hI 164 14 rfl) ?_
      refine w_ifF_ne (pc' := 45) ⟨rfl, rfl⟩ (by decide) ?_
      refine w_iload_n (pc' := 46) ⟨rfl, rfl⟩ rfl ?_
      refine w_ic (pc' := 47) ⟨rfl, rfl⟩ ?_
      refine w_ic_le (pc' := 50) (pcT := 54) ⟨rfl, rfl⟩ rfl (by omega) (by omega) (fun h2 => ?_) (fun h2 => ?_)
      · refine w_ic (pc' := 55) ⟨rfl, rfl⟩ ?_
        refine w_ireturn (pc' := 56) ⟨rfl, rfl⟩ (Or.inl rfl) ?_
        exact zQi (k _ zFm.refl) (by unfold zaH; (repeat' split) <;> omega)
      · refine w_ic (pc' := 51) ⟨rfl, rfl⟩ ?_
        refine w_goto (pc' := 54) (pcT := 55) ⟨rfl, rfl⟩ rfl ?_
        refine w_ireturn (pc' := 56) ⟨rfl, rfl⟩ (Or.inl rfl) ?_
        exact zQi (k _ zFm.refl) (by unfold zaH; (repeat' split) <;> omega)
    · refine w_aload_n (pc' := 18) ⟨rfl, rfl⟩ rfl ?_
      refine w_getZ (pc' := 21) (cl := 10) (q := 14) ⟨rfl, rfl⟩ ⟨rfl, by decide⟩ (zOl hF rfl) (show zI _ 164 14 = iZ (0) from hI 164 14 rfl) ?_
      refine w_ifT_eq (pc' := 24) (pcT := 38) ⟨rfl, rfl⟩ rfl (by decide) ?_
      refine w_aload_n (pc' := 39) ⟨rfl, rfl⟩ rfl ?_
      refine w_getZ (pc' := 42) (cl := 10) (q := 14) ⟨rfl, rfl⟩ ⟨rfl, by decide⟩ (zOl hF rfl) (show zI _ 164 14 = iZ (0) from hI 164 14 rfl) ?_
      refine w_ifF_ne (pc' := 45) ⟨rfl, rfl⟩ (by decide) ?_
      refine w_iload_n (pc' := 46) ⟨rfl, rfl⟩ rfl ?_
      refine w_ic (pc' := 47) ⟨rfl, rfl⟩ ?_
      refine w_ic_le (pc' := 50) (pcT := 54) ⟨rfl, rfl⟩ rfl (by omega) (by omega) (fun h2 => ?_) (fun h2 => ?_)
      · refine w_ic (pc' := 55) ⟨rfl, rfl⟩ ?_
        refine w_ireturn (pc' := 56) ⟨rfl, rfl⟩ (Or.inl rfl) ?_
        exact zQi (k _ zFm.refl) (by unfold zaH; (repeat' split) <;> omega)
      · refine w_ic (pc' := 51) ⟨rfl, rfl⟩ ?_
        refine w_goto (pc' := 54) (pcT := 55) ⟨rfl, rfl⟩ rfl ?_
        refine w_ireturn (pc' := 56) ⟨rfl, rfl⟩ (Or.inl rfl) ?_
        exact zQi (k _ zFm.refl) (by unfold zaH; (repeat' split) <;> omega)
  · refine w_ifT_eq (pc' := 12) (pcT := 36) ⟨rfl, rfl⟩ rfl (by decide) ?_
    refine w_ic (pc' := 37) ⟨rfl, rfl⟩ ?_
    refine w_ireturn (pc' := 38) ⟨rfl, rfl⟩ (Or.inl rfl) ?_
    exact zQi (k _ zFm.refl) (by unfold zaH; (repeat' split) <;> omega)
theorem f_X12_letter {σ : zSt} (hF : zFx σ) (hI : zFr2 σ) (hT : zTr σ zt0) {s : Int} (hs : (-2147483648 ≤ s ∧ s ≤ 2147483647)) {f : Int} (hf : (-2147483648 ≤ f ∧ f ≤ 2147483647)) {l : Int} (hl : (-2147483648 ≤ l ∧ l ≤ 2147483647)) {Q : zSt → Option Value → Prop} (k : ∀ σ1, zFm (List.range 181) σ σ1 → Q σ1 (some (.int (iZ (-1))))) : zCa 243 [.ref 164, .int (iZ s), .int (iZ f), .int (iZ l)] σ Q := by
  refine w_enter (c := zk_X12_letter) (ls2 := [(0, .ref 164), (1, .int (iZ s)), (2, .int (iZ f)), (3, .int (iZ l))]) rfl ⟨rfl, rfl, rfl, rfl, trivial⟩ ?_
  refine w_iload_n (pc' := 1) ⟨rfl, rfl⟩ rfl ?_
  refine w_i2lZ (pc' := 2) ⟨rfl, rfl⟩ (by omega) ?_
  refine w_lc (pc' := 3) (z := 0) ⟨rfl, rfl⟩ rfl ?_
  refine w_ldc2Y (pc' := 6) (z := 5) ⟨rfl, rfl⟩ rfl ?_
  refine w_cs3 (pc' := 9) ⟨rfl, rfl⟩ (by decide) (Nat.le_of_ble_eq_true rfl) (Nat.le_of_ble_eq_true rfl) (r_isIn (by omega) (by omega) (by omega) (fun h => ?_) (fun h => ?_))
  · refine w_ifF_eq (pc' := 12) ⟨rfl, rfl⟩ (by decide) ?_
    refine w_iload_n (pc' := 13) ⟨rfl, rfl⟩ rfl ?_
    refine w_ic (pc' := 14) ⟨rfl, rfl⟩ ?_
    refine w_ic_ne (pc' := 17) (pcT := 28) ⟨rfl, rfl⟩ rfl (by omega) (by omega) (fun h1 => ?_) (fun h1 => ?_)
    · refine w_aload_n (pc' := 29) ⟨rfl, rfl⟩ rfl ?_
      refine w_iload_n (pc' := 30) ⟨rfl, rfl⟩ rfl ?_
      refine w_iload_n (pc' := 31) ⟨rfl, rfl⟩ rfl ?_
      refine w_cv3 (pc' := 34) ⟨rfl, rfl⟩ (by decide) (zOl hF rfl) (Nat.le_of_ble_eq_true rfl) (Nat.le_of_ble_eq_true rfl) (f_X12_isField hF hI hT (by omega) (by omega) ?_)
      refine w_ifF_ne (pc' := 37) ⟨rfl, rfl⟩ (by decide) ?_
      refine w_ic (pc' := 38) ⟨rfl, rfl⟩ ?_
      refine w_ireturn (pc' := 39) ⟨rfl, rfl⟩ (Or.inl rfl) ?_
      exact k _ zFm.refl
    · refine w_aload_n (pc' := 18) ⟨rfl, rfl⟩ rfl ?_
      refine w_iload_n (pc' := 19) ⟨rfl, rfl⟩ rfl ?_
      refine w_cv2 (pc' := 22) ⟨rfl, rfl⟩ (by decide) (zOl hF rfl) (Nat.le_of_ble_eq_true rfl) (Nat.le_of_ble_eq_true rfl) (f_isScheme hF hT (by omega) ?_)
      refine w_ifT_eq (pc' := 25) (pcT := 37) ⟨rfl, rfl⟩ rfl (by decide) ?_
      refine w_ic (pc' := 38) ⟨rfl, rfl⟩ ?_
      refine w_ireturn (pc' := 39) ⟨rfl, rfl⟩ (Or.inl rfl) ?_
      exact k _ zFm.refl
  · refine w_ifT_eq (pc' := 12) (pcT := 37) ⟨rfl, rfl⟩ rfl (by decide) ?_
    refine w_ic (pc' := 38) ⟨rfl, rfl⟩ ?_
    refine w_ireturn (pc' := 39) ⟨rfl, rfl⟩ (Or.inl rfl) ?_
    exact k _ zFm.refl
theorem f_X12_field {σ : zSt} (hF : zFx σ) (hI : zFr2 σ) (hT : zTr σ zt0) {s : Int} (hs : (-2147483648 ≤ s ∧ s ≤ 2147483647)) {f : Int} (hf : (-2147483648 ≤ f ∧ f ≤ 2147483647)) {w : Int} (hw : (-2147483648 ≤ w ∧ w ≤ 2147483647)) {Q : zSt → Option Value → Prop} (k : ∀ σ1, zFm (List.range 181) σ σ1 → Q σ1 (some (.int (iZ (-1))))) : zCa 245 [.ref 164, .int (iZ s), .int (iZ f), .int (iZ w)] σ Q := by
  refine w_enter (c := zk_X12_field) (ls2 := [(0, .ref 164), (1, .int (iZ s)), (2, .int (iZ f)), (3, .int (iZ w))]) rfl ⟨rfl, rfl, rfl, rfl, trivial⟩ ?_
  refine w_aload_n (pc' := 1) ⟨rfl, rfl⟩ rfl ?_
  refine w_iload_n (pc' := 2) ⟨rfl, rfl⟩ rfl ?_
  refine w_iload_n (pc' := 3) ⟨rfl, rfl⟩ rfl ?_
  refine w_cv3 (pc' := 6) ⟨rfl, rfl⟩ (by decide) (zOl hF rfl) (Nat.le_of_ble_eq_true rfl) (Nat.le_of_ble_eq_true rfl) (f_X12_isField hF hI hT (by omega) (by omega) ?_)
  refine w_ifF_ne (pc' := 9) ⟨rfl, rfl⟩ (by decide) ?_
  refine w_ic (pc' := 10) ⟨rfl, rfl⟩ ?_
  refine w_ireturn (pc' := 11) ⟨rfl, rfl⟩ (Or.inl rfl) ?_
  exact k _ zFm.refl
theorem f_X12_crossing {σ : zSt} (hF : zFx σ) (hI : zFr2 σ) (hT : zTr σ zt0) {c : Int} (hc : (-2147483648 ≤ c ∧ c ≤ 2147483647)) {w : Int} (hw : (-2147483648 ≤ w ∧ w ≤ 2147483647)) {Q : zSt → Option Value → Prop} (k : ∀ σ1, zFm (List.range 181) σ σ1 → Q σ1 (some (.int (iZ (-1))))) : zCa 248 [.ref 164, .int (iZ c), .int (iZ w)] σ Q := by
  refine w_enter (c := zk_X12_crossing) (ls2 := [(0, .ref 164), (1, .int (iZ c)), (2, .int (iZ w))]) rfl ⟨rfl, rfl, rfl, trivial⟩ ?_
  refine w_aload_n (pc' := 1) ⟨rfl, rfl⟩ rfl ?_
  refine w_iload_n (pc' := 2) ⟨rfl, rfl⟩ rfl ?_
  refine w_cv2 (pc' := 5) ⟨rfl, rfl⟩ (by decide) (zOl hF rfl) (Nat.le_of_ble_eq_true rfl) (Nat.le_of_ble_eq_true rfl) (f_isCrossing hF hT (by omega) ?_)
  refine w_ifF_ne (pc' := 8) ⟨rfl, rfl⟩ (by decide) ?_
  refine w_ic (pc' := 9) ⟨rfl, rfl⟩ ?_
  refine w_ireturn (pc' := 10) ⟨rfl, rfl⟩ (Or.inl rfl) ?_
  exact k _ zFm.refl
theorem f_X12_rule_ {σ : zSt} (hF : zFx σ) (hI : zFr2 σ) (hT : zTr σ zt0) {c : Int} (hc : (-2147483648 ≤ c ∧ c ≤ 2147483647)) {r : Int} (hr : (-2147483648 ≤ r ∧ r ≤ 2147483647)) {w : Int} (hw : (-2147483648 ≤ w ∧ w ≤ 2147483647)) {Q : zSt → Option Value → Prop} (k : ∀ σ1, zFm (List.range 181) σ σ1 → Q σ1 (some (.int (iZ (-1))))) : zCa 251 [.ref 164, .int (iZ c), .int (iZ r), .int (iZ w)] σ Q := by
  refine w_enter (c := zk_X12_rule_) (ls2 := [(0, .ref 164), (1, .int (iZ c)), (2, .int (iZ r)), (3, .int (iZ w))]) rfl ⟨rfl, rfl, rfl, rfl, trivial⟩ ?_
  refine w_aload_n (pc' := 1) ⟨rfl, rfl⟩ rfl ?_
  refine w_iload_n (pc' := 2) ⟨rfl, rfl⟩ rfl ?_
  refine w_cv2 (pc' := 5) ⟨rfl, rfl⟩ (by decide) (zOl hF rfl) (Nat.le_of_ble_eq_true rfl) (Nat.le_of_ble_eq_true rfl) (f_isCrossing hF hT (by omega) ?_)
  refine w_ifT_eq (pc' := 8) (pcT := 37) ⟨rfl, rfl⟩ rfl (by decide) ?_
  refine w_ic (pc' := 38) ⟨rfl, rfl⟩ ?_
  refine w_ireturn (pc' := 39) ⟨rfl, rfl⟩ (Or.inl rfl) ?_
  exact k _ zFm.refl
theorem f_X12_rowKind {σ : zSt} (hF : zFx σ) (hI : zFr2 σ) (hT : zTr σ zt0) {s : Int} (hs : (-2147483648 ≤ s ∧ s ≤ 2147483647)) {r : Int} (hr : (-2147483648 ≤ r ∧ r ≤ 2147483647)) {Q : zSt → Option Value → Prop} (k : Q σ (some (.int (iZ (-4))))) : zCa 253 [.ref 164, .int (iZ s), .int (iZ r)] σ Q := by
  refine w_enter (c := zk_X12_rowKind) (ls2 := [(0, .ref 164), (1, .int (iZ s)), (2, .int (iZ r))]) rfl ⟨rfl, rfl, rfl, trivial⟩ ?_
  refine w_aload_n (pc' := 1) ⟨rfl, rfl⟩ rfl ?_
  refine w_iload_n (pc' := 2) ⟨rfl, rfl⟩ rfl ?_
  refine w_cv2 (pc' := 5) ⟨rfl, rfl⟩ (by decide) (zOl hF rfl) (Nat.le_of_ble_eq_true rfl) (Nat.le_of_ble_eq_true rfl) (f_isScheme hF hT (by omega) ?_)
  refine w_ifT_eq (pc' := 8) (pcT := 20) ⟨rfl, rfl⟩ rfl (by decide) ?_
  refine w_bi (pc' := 22) ⟨rfl, rfl⟩ (by decide) ?_
  refine w_ireturn (pc' := 23) ⟨rfl, rfl⟩ (Or.inl rfl) ?_
  exact k
theorem f_reasonOf0 {σ : zSt} (hF : zFx σ) (hI : zFr2 σ) (hT : zTr σ zt0) {s : Int} (hs : (-2147483648 ≤ s ∧ s ≤ 2147483647)) {r : Int} (hr : (-2147483648 ≤ r ∧ r ≤ 2147483647)) {p : Int} (hp : (-2147483648 ≤ p ∧ p ≤ 2147483647)) {q : Int} (hq : (-2147483648 ≤ q ∧ q ≤ 2147483647)) {Q : zSt → Option Value → Prop} (k : Q σ (some (.int (iZ (-4))))) : zCa 257 [.ref 164, .int (iZ s), .int (iZ r), .int (iZ p), .int (iZ q), .int (iZ 0)] σ Q := by
  refine w_enter (c := zk_X12_reasonOf) (ls2 := [(0, .ref 164), (1, .int (iZ s)), (2, .int (iZ r)), (3, .int (iZ p)), (4, .int (iZ q)), (5, .int (iZ 0))]) rfl ⟨rfl, rfl, rfl, rfl, rfl, rfl, trivial⟩ ?_
  refine w_aload_n (pc' := 1) ⟨rfl, rfl⟩ rfl ?_
  refine w_iload_n (pc' := 2) ⟨rfl, rfl⟩ rfl ?_
  refine w_iload_n (pc' := 3) ⟨rfl, rfl⟩ rfl ?_
  refine w_cv3 (pc' := 6) ⟨rfl, rfl⟩ (by decide) (zOl hF rfl) (Nat.le_of_ble_eq_true rfl) (Nat.le_of_ble_eq_true rfl) (f_X12_rowKind hF hI hT (by omega) (by omega) ?_)
  refine w_istore (pc' := 8) ⟨rfl, rfl⟩ rfl ?_
  refine w_iload (pc' := 10) ⟨rfl, rfl⟩ rfl ?_
  refine w_bi (pc' := 12) ⟨rfl, rfl⟩ (by decide) ?_
  refine w_icT_eq (pc' := 15) (pcT := 28) ⟨rfl, rfl⟩ rfl (by decide) ?_
  refine w_bi (pc' := 30) ⟨rfl, rfl⟩ (by decide) ?_
  refine w_ireturn (pc' := 31) ⟨rfl, rfl⟩ (Or.inl rfl) ?_
  exact k
theorem f_reasonOf1 {σ : zSt} (hF : zFx σ) (hI : zFr2 σ) (hT : zTr σ zt0) {s : Int} (hs : (-2147483648 ≤ s ∧ s ≤ 2147483647)) {r : Int} (hr : (-2147483648 ≤ r ∧ r ≤ 2147483647)) {p : Int} (hp : (-2147483648 ≤ p ∧ p ≤ 2147483647)) {q : Int} (hq : (-2147483648 ≤ q ∧ q ≤ 2147483647)) {Q : zSt → Option Value → Prop} (k : Q σ (some (.int (iZ (-4))))) : zCa 257 [.ref 164, .int (iZ s), .int (iZ r), .int (iZ p), .int (iZ q), .int (iZ 1)] σ Q := by
  refine w_enter (c := zk_X12_reasonOf) (ls2 := [(0, .ref 164), (1, .int (iZ s)), (2, .int (iZ r)), (3, .int (iZ p)), (4, .int (iZ q)), (5, .int (iZ 1))]) rfl ⟨rfl, rfl, rfl, rfl, rfl, rfl, trivial⟩ ?_
  refine w_aload_n (pc' := 1) ⟨rfl, rfl⟩ rfl ?_
  refine w_iload_n (pc' := 2) ⟨rfl, rfl⟩ rfl ?_
  refine w_iload_n (pc' := 3) ⟨rfl, rfl⟩ rfl ?_
  refine w_cv3 (pc' := 6) ⟨rfl, rfl⟩ (by decide) (zOl hF rfl) (Nat.le_of_ble_eq_true rfl) (Nat.le_of_ble_eq_true rfl) (f_X12_rowKind hF hI hT (by omega) (by omega) ?_)
  refine w_istore (pc' := 8) ⟨rfl, rfl⟩ rfl ?_
  refine w_iload (pc' := 10) ⟨rfl, rfl⟩ rfl ?_
  refine w_bi (pc' := 12) ⟨rfl, rfl⟩ (by decide) ?_
  refine w_icT_eq (pc' := 15) (pcT := 28) ⟨rfl, rfl⟩ rfl (by decide) ?_
  refine w_bi (pc' := 30) ⟨rfl, rfl⟩ (by decide) ?_
  refine w_ireturn (pc' := 31) ⟨rfl, rfl⟩ (Or.inl rfl) ?_
  exact k
theorem f_X12_reasonPut {σ : zSt} (hF : zFx σ) (hI : zFr2 σ) (hT : zTr σ zt0) {s : Int} (hs : (-2147483648 ≤ s ∧ s ≤ 2147483647)) {r : Int} (hr : (-2147483648 ≤ r ∧ r ≤ 2147483647)) {p : Int} (hp : (-2147483648 ≤ p ∧ p ≤ 2147483647)) {q : Int} (hq : (-2147483648 ≤ q ∧ q ≤ 2147483647)) {Q : zSt → Option Value → Prop} (k : Q σ (some (.int (iZ (-4))))) : zCa 261 [.ref 164, .int (iZ s), .int (iZ r), .int (iZ p), .int (iZ q)] σ Q := by
  refine w_enter (c := zk_X12_reasonPut) (ls2 := [(0, .ref 164), (1, .int (iZ s)), (2, .int (iZ r)), (3, .int (iZ p)), (4, .int (iZ q))]) rfl ⟨rfl, rfl, rfl, rfl, rfl, trivial⟩ ?_
  refine w_aload_n (pc' := 1) ⟨rfl, rfl⟩ rfl ?_
  refine w_iload_n (pc' := 2) ⟨rfl, rfl⟩ rfl ?_
  refine w_iload_n (pc' := 3) ⟨rfl, rfl⟩ rfl ?_
  refine w_cv3 (pc' := 6) ⟨rfl, rfl⟩ (by decide) (zOl hF rfl) (Nat.le_of_ble_eq_true rfl) (Nat.le_of_ble_eq_true rfl) (f_X12_rowKind hF hI hT (by omega) (by omega) ?_)
  refine w_istore (pc' := 8) ⟨rfl, rfl⟩ rfl ?_
  refine w_iload (pc' := 10) ⟨rfl, rfl⟩ rfl ?_
  refine w_bi (pc' := 12) ⟨rfl, rfl⟩ (by decide) ?_
  refine w_icT_eq (pc' := 15) (pcT := 28) ⟨rfl, rfl⟩ rfl (by decide) ?_
  refine w_bi (pc' := 30) ⟨rfl, rfl⟩ (by decide) ?_
  refine w_ireturn (pc' := 31) ⟨rfl, rfl⟩ (Or.inl rfl) ?_
  exact k
theorem f_X12_length {σ : zSt} (hF : zFx σ) (hI : zFr2 σ) (hT : zTr σ zt0) {s : Int} (hs : (-2147483648 ≤ s ∧ s ≤ 2147483647)) {r : Int} (hr : (-2147483648 ≤ r ∧ r ≤ 2147483647)) {Q : zSt → Option Value → Prop} (k : ∀ σ1, zFm (List.range 181) σ σ1 → Q σ1 (some (.int (iZ (-4))))) : zCa 255 [.ref 164, .int (iZ s), .int (iZ r)] σ Q := by
  refine w_enter (c := zk_X12_length) (ls2 := [(0, .ref 164), (1, .int (iZ s)), (2, .int (iZ r))]) rfl ⟨rfl, rfl, rfl, trivial⟩ ?_
  refine w_aload_n (pc' := 1) ⟨rfl, rfl⟩ rfl ?_
  refine w_iload_n (pc' := 2) ⟨rfl, rfl⟩ rfl ?_
  refine w_iload_n (pc' := 3) ⟨rfl, rfl⟩ rfl ?_
  refine w_cv3 (pc' := 6) ⟨rfl, rfl⟩ (by decide) (zOl hF rfl) (Nat.le_of_ble_eq_true rfl) (Nat.le_of_ble_eq_true rfl) (f_X12_rowKind hF hI hT (by omega) (by omega) ?_)
  refine w_istore_n (pc' := 7) ⟨rfl, rfl⟩ rfl ?_
  refine w_aload_n (pc' := 8) ⟨rfl, rfl⟩ rfl ?_
  refine w_iload_n (pc' := 9) ⟨rfl, rfl⟩ rfl ?_
  refine w_ifF_ge (pc' := 12) ⟨rfl, rfl⟩ (by decide) ?_
  refine w_iload_n (pc' := 13) ⟨rfl, rfl⟩ rfl ?_
  refine w_goto (pc' := 16) (pcT := 17) ⟨rfl, rfl⟩ rfl ?_
  refine w_putI (pc' := 20) (cl := 10) (q := 18) ⟨rfl, rfl⟩ ⟨rfl, by decide⟩ (zOl hF rfl) ?_
  refine w_iload_n (pc' := 21) ⟨rfl, rfl⟩ rfl ?_
  refine w_ifF_ge (pc' := 24) ⟨rfl, rfl⟩ (by decide) ?_
  refine w_iload_n (pc' := 25) ⟨rfl, rfl⟩ rfl ?_
  refine w_goto (pc' := 28) (pcT := 34) ⟨rfl, rfl⟩ rfl ?_
  refine w_ireturn (pc' := 35) ⟨rfl, rfl⟩ (Or.inl rfl) ?_
  exact k _ (zFm.wI (List.mem_range.mpr (by decide)))
theorem f_X12_read_ {σ : zSt} (hF : zFx σ) (hI : zFr2 σ) (hT : zTr σ zt0) {s : Int} (hs : (-2147483648 ≤ s ∧ s ≤ 2147483647)) {r : Int} (hr : (-2147483648 ≤ r ∧ r ≤ 2147483647)) {p : Int} (hp : (-2147483648 ≤ p ∧ p ≤ 2147483647)) {q : Int} (hq : (-2147483648 ≤ q ∧ q ≤ 2147483647)) {Q : zSt → Option Value → Prop} (k : ∀ σ1, zFm (List.range 181) σ σ1 → Q σ1 (some (.long (lZ (-4611686018427387904))))) : zCa 258 [.ref 164, .int (iZ s), .int (iZ r), .int (iZ p), .int (iZ q)] σ Q := by
  refine w_enter (c := zk_X12_read_) (ls2 := [(0, .ref 164), (1, .int (iZ s)), (2, .int (iZ r)), (3, .int (iZ p)), (4, .int (iZ q))]) rfl ⟨rfl, rfl, rfl, rfl, rfl, trivial⟩ ?_
  refine w_aload_n (pc' := 1) ⟨rfl, rfl⟩ rfl ?_
  refine w_aload_n (pc' := 2) ⟨rfl, rfl⟩ rfl ?_
  refine w_iload_n (pc' := 3) ⟨rfl, rfl⟩ rfl ?_
  refine w_iload_n (pc' := 4) ⟨rfl, rfl⟩ rfl ?_
  refine w_iload_n (pc' := 5) ⟨rfl, rfl⟩ rfl ?_
  refine w_iload (pc' := 7) ⟨rfl, rfl⟩ rfl ?_
  refine w_ic (pc' := 8) ⟨rfl, rfl⟩ ?_
  refine w_cv6 (pc' := 11) ⟨rfl, rfl⟩ (by decide) (zOl hF rfl) (Nat.le_of_ble_eq_true rfl) (Nat.le_of_ble_eq_true rfl) (f_reasonOf1 hF hI hT (by omega) (by omega) (by omega) (by omega) ?_)
  refine w_cv2 (pc' := 14) ⟨rfl, rfl⟩ (by decide) (zOl hF rfl) (Nat.le_of_ble_eq_true rfl) (Nat.le_of_ble_eq_true rfl) (r_isRefusedBy hF (by omega) (fun h => ?_) (fun h => ?_))
  · refine w_ifF_eq (pc' := 17) ⟨rfl, rfl⟩ (by decide) ?_
    refine w_ldc2Y (pc' := 20) (z := -4611686018427387904) ⟨rfl, rfl⟩ rfl ?_
    refine w_lreturn (pc' := 21) ⟨rfl, rfl⟩ ?_
    exact k _ (zFm.wI (List.mem_range.mpr (by decide)))
  · exact absurd h (by decide)
theorem f_X12_get {σ : zSt} (hF : zFx σ) (hI : zFr2 σ) (hT : zTr σ zt0) {s : Int} (hs : (-2147483648 ≤ s ∧ s ≤ 2147483647)) {r : Int} (hr : (-2147483648 ≤ r ∧ r ≤ 2147483647)) {p : Int} (hp : (-2147483648 ≤ p ∧ p ≤ 2147483647)) {q : Int} (hq : (-2147483648 ≤ q ∧ q ≤ 2147483647)) {Q : zSt → Option Value → Prop} (k : ∀ σ1, zFm (List.range 181) σ σ1 → Q σ1 (some (.long (lZ (-4611686018427387904))))) : zCa 259 [.ref 164, .int (iZ s), .int (iZ r), .int (iZ p), .int (iZ q)] σ Q := by
  refine w_enter (c := zk_X12_get) (ls2 := [(0, .ref 164), (1, .int (iZ s)), (2, .int (iZ r)), (3, .int (iZ p)), (4, .int (iZ q))]) rfl ⟨rfl, rfl, rfl, rfl, rfl, trivial⟩ ?_
  refine w_aload_n (pc' := 1) ⟨rfl, rfl⟩ rfl ?_
  refine w_iload_n (pc' := 2) ⟨rfl, rfl⟩ rfl ?_
  refine w_iload_n (pc' := 3) ⟨rfl, rfl⟩ rfl ?_
  refine w_cv3 (pc' := 6) ⟨rfl, rfl⟩ (by decide) (zOl hF rfl) (Nat.le_of_ble_eq_true rfl) (Nat.le_of_ble_eq_true rfl) (f_X12_rowKind hF hI hT (by omega) (by omega) ?_)
  refine w_istore (pc' := 8) ⟨rfl, rfl⟩ rfl ?_
  refine w_iload (pc' := 10) ⟨rfl, rfl⟩ rfl ?_
  refine w_bi (pc' := 12) ⟨rfl, rfl⟩ (by decide) ?_
  refine w_icT_eq (pc' := 15) (pcT := 26) ⟨rfl, rfl⟩ rfl (by decide) ?_
  refine w_bi (pc' := 28) ⟨rfl, rfl⟩ (by decide) ?_
  refine w_goto (pc' := 31) (pcT := 64) ⟨rfl, rfl⟩ rfl ?_
  refine w_istore (pc' := 66) ⟨rfl, rfl⟩ rfl ?_
  refine w_aload_n (pc' := 67) ⟨rfl, rfl⟩ rfl ?_
  refine w_iload (pc' := 69) ⟨rfl, rfl⟩ rfl ?_
  refine w_cv2 (pc' := 72) ⟨rfl, rfl⟩ (by decide) (zOl hF rfl) (Nat.le_of_ble_eq_true rfl) (Nat.le_of_ble_eq_true rfl) (r_isRefusedBy hF (by omega) (fun h => ?_) (fun h => ?_))
  · refine w_ifF_eq (pc' := 75) ⟨rfl, rfl⟩ (by decide) ?_
    refine w_ldc2Y (pc' := 78) (z := -4611686018427387904) ⟨rfl, rfl⟩ rfl ?_
    refine w_lreturn (pc' := 79) ⟨rfl, rfl⟩ ?_
    exact k _ (zFm.wI (List.mem_range.mpr (by decide)))
  · exact absurd h (by decide)
theorem f_X12_write {σ : zSt} (hF : zFx σ) (hI : zFr2 σ) (hT : zTr σ zt0) {s : Int} (hs : (-2147483648 ≤ s ∧ s ≤ 2147483647)) {r : Int} (hr : (-2147483648 ≤ r ∧ r ≤ 2147483647)) {p : Int} (hp : (-2147483648 ≤ p ∧ p ≤ 2147483647)) {q : Int} (hq : (-2147483648 ≤ q ∧ q ≤ 2147483647)) {v : Int64} {Q : zSt → Option Value → Prop} (k : ∀ σ1, zFm (List.range 181) σ σ1 → Q σ1 (some (.int (iZ 0)))) : zCa 260 [.ref 164, .int (iZ s), .int (iZ r), .int (iZ p), .int (iZ q), .long v] σ Q := by
  refine w_enter (c := zk_X12_write) (ls2 := [(0, .ref 164), (1, .int (iZ s)), (2, .int (iZ r)), (3, .int (iZ p)), (4, .int (iZ q)), (5, .long v)]) rfl ⟨rfl, rfl, rfl, rfl, rfl, rfl, trivial⟩ ?_
  refine w_aload_n (pc' := 1) ⟨rfl, rfl⟩ rfl ?_
  refine w_aload_n (pc' := 2) ⟨rfl, rfl⟩ rfl ?_
  refine w_iload_n (pc' := 3) ⟨rfl, rfl⟩ rfl ?_
  refine w_iload_n (pc' := 4) ⟨rfl, rfl⟩ rfl ?_
  refine w_iload_n (pc' := 5) ⟨rfl, rfl⟩ rfl ?_
  refine w_iload (pc' := 7) ⟨rfl, rfl⟩ rfl ?_
  refine w_ic (pc' := 8) ⟨rfl, rfl⟩ ?_
  refine w_cv6 (pc' := 11) ⟨rfl, rfl⟩ (by decide) (zOl hF rfl) (Nat.le_of_ble_eq_true rfl) (Nat.le_of_ble_eq_true rfl) (f_reasonOf0 hF hI hT (by omega) (by omega) (by omega) (by omega) ?_)
  refine w_cv2 (pc' := 14) ⟨rfl, rfl⟩ (by decide) (zOl hF rfl) (Nat.le_of_ble_eq_true rfl) (Nat.le_of_ble_eq_true rfl) (r_isRefusedBy hF (by omega) (fun h => ?_) (fun h => ?_))
  · refine w_ifF_eq (pc' := 17) ⟨rfl, rfl⟩ (by decide) ?_
    refine w_ic (pc' := 18) ⟨rfl, rfl⟩ ?_
    refine w_ireturn (pc' := 19) ⟨rfl, rfl⟩ (by decide) ?_
    exact k _ (zFm.wI (List.mem_range.mpr (by decide)))
  · exact absurd h (by decide)
theorem f_X12_put {σ : zSt} (hF : zFx σ) (hI : zFr2 σ) (hT : zTr σ zt0) {s : Int} (hs : (-2147483648 ≤ s ∧ s ≤ 2147483647)) {r : Int} (hr : (-2147483648 ≤ r ∧ r ≤ 2147483647)) {p : Int} (hp : (-2147483648 ≤ p ∧ p ≤ 2147483647)) {q : Int} (hq : (-2147483648 ≤ q ∧ q ≤ 2147483647)) {v : Int64} {Q : zSt → Option Value → Prop} (k : ∀ σ1, zFm (List.range 181) σ σ1 → Q σ1 (some (.int (iZ 0)))) : zCa 262 [.ref 164, .int (iZ s), .int (iZ r), .int (iZ p), .int (iZ q), .long v] σ Q := by
  refine w_enter (c := zk_X12_put) (ls2 := [(0, .ref 164), (1, .int (iZ s)), (2, .int (iZ r)), (3, .int (iZ p)), (4, .int (iZ q)), (5, .long v)]) rfl ⟨rfl, rfl, rfl, rfl, rfl, rfl, trivial⟩ ?_
  refine w_aload_n (pc' := 1) ⟨rfl, rfl⟩ rfl ?_
  refine w_aload_n (pc' := 2) ⟨rfl, rfl⟩ rfl ?_
  refine w_iload_n (pc' := 3) ⟨rfl, rfl⟩ rfl ?_
  refine w_iload_n (pc' := 4) ⟨rfl, rfl⟩ rfl ?_
  refine w_iload_n (pc' := 5) ⟨rfl, rfl⟩ rfl ?_
  refine w_iload (pc' := 7) ⟨rfl, rfl⟩ rfl ?_
  refine w_cv5 (pc' := 10) ⟨rfl, rfl⟩ (by decide) (zOl hF rfl) (Nat.le_of_ble_eq_true rfl) (Nat.le_of_ble_eq_true rfl) (f_X12_reasonPut hF hI hT (by omega) (by omega) (by omega) (by omega) ?_)
  refine w_cv2 (pc' := 13) ⟨rfl, rfl⟩ (by decide) (zOl hF rfl) (Nat.le_of_ble_eq_true rfl) (Nat.le_of_ble_eq_true rfl) (r_isRefusedBy hF (by omega) (fun h => ?_) (fun h => ?_))
  · refine w_ifF_eq (pc' := 16) ⟨rfl, rfl⟩ (by decide) ?_
    refine w_ic (pc' := 17) ⟨rfl, rfl⟩ ?_
    refine w_ireturn (pc' := 18) ⟨rfl, rfl⟩ (by decide) ?_
    exact k _ (zFm.wI (List.mem_range.mpr (by decide)))
  · exact absurd h (by decide)
theorem f_X12_why {σ : zSt} (hF : zFx σ) (hI : zFr2 σ) (hT : zTr σ zt0) {Q : zSt → Option Value → Prop} (k : ∀ σ1, zFm (List.range 181) σ σ1 → Q σ1 (some (.int (iZ 0)))) : zCa 263 [.ref 164] σ Q := by
  refine w_enter (c := zk_X12_why) (ls2 := [(0, .ref 164)]) rfl ⟨rfl, trivial⟩ ?_
  refine w_aload_n (pc' := 1) ⟨rfl, rfl⟩ rfl ?_
  refine w_getI (pc' := 4) (cl := 10) (q := 18) ⟨rfl, rfl⟩ ⟨rfl, by decide⟩ (zOl hF rfl) (show zI _ 164 18 = iZ (0) from hI 164 18 rfl) ?_
  refine w_ireturn (pc' := 5) ⟨rfl, rfl⟩ (Or.inl rfl) ?_
  exact k _ zFm.refl
theorem f_X12_cell {σ : zSt} (hF : zFx σ) (hI : zFr2 σ) (hT : zTr σ zt0) {s : Int} (hs : (-2147483648 ≤ s ∧ s ≤ 2147483647)) {f : Int} (hf : (-2147483648 ≤ f ∧ f ≤ 2147483647)) {r : Int} (hr : (-2147483648 ≤ r ∧ r ≤ 2147483647)) {q : Int} (hq : (-2147483648 ≤ q ∧ q ≤ 2147483647)) {Q : zSt → Option Value → Prop} (k : ∀ σ1, zFm (List.range 181) σ σ1 → Q σ1 (some (.long (lZ (-4611686018427387904))))) : zCa 266 [.ref 164, .int (iZ s), .int (iZ f), .int (iZ r), .int (iZ q)] σ Q := by
  refine w_enter (c := zk_X12_cell) (ls2 := [(0, .ref 164), (1, .int (iZ s)), (2, .int (iZ f)), (3, .int (iZ r)), (4, .int (iZ q))]) rfl ⟨rfl, rfl, rfl, rfl, rfl, trivial⟩ ?_
  refine w_aload_n (pc' := 1) ⟨rfl, rfl⟩ rfl ?_
  refine w_iload_n (pc' := 2) ⟨rfl, rfl⟩ rfl ?_
  refine w_iload_n (pc' := 3) ⟨rfl, rfl⟩ rfl ?_
  refine w_cv3 (pc' := 6) ⟨rfl, rfl⟩ (by decide) (zOl hF rfl) (Nat.le_of_ble_eq_true rfl) (Nat.le_of_ble_eq_true rfl) (f_X12_isField hF hI hT (by omega) (by omega) ?_)
  refine w_ifT_eq (pc' := 9) (pcT := 49) ⟨rfl, rfl⟩ rfl (by decide) ?_
  refine w_ldc2Y (pc' := 52) (z := -4611686018427387904) ⟨rfl, rfl⟩ rfl ?_
  refine w_lreturn (pc' := 53) ⟨rfl, rfl⟩ ?_
  exact k _ zFm.refl
theorem f_X12_unlike {σ : zSt} (hF : zFx σ) (hI : zFr2 σ) (hT : zTr σ zt0) {s : Int} (hs : (-2147483648 ≤ s ∧ s ≤ 2147483647)) {a : Int} (ha : (-2147483648 ≤ a ∧ a ≤ 2147483647)) {b : Int} (hb : (-2147483648 ≤ b ∧ b ≤ 2147483647)) {Q : zSt → Option Value → Prop} (k : ∀ σ1, zFm (List.range 181) σ σ1 → Q σ1 (some (.long (lZ (-4611686018427387904))))) : zCa 267 [.ref 164, .int (iZ s), .int (iZ a), .int (iZ b)] σ Q := by
  refine w_enter (c := zk_X12_unlike) (ls2 := [(0, .ref 164), (1, .int (iZ s)), (2, .int (iZ a)), (3, .int (iZ b))]) rfl ⟨rfl, rfl, rfl, rfl, trivial⟩ ?_
  refine w_aload_n (pc' := 1) ⟨rfl, rfl⟩ rfl ?_
  refine w_iload_n (pc' := 2) ⟨rfl, rfl⟩ rfl ?_
  refine w_iload_n (pc' := 3) ⟨rfl, rfl⟩ rfl ?_
  refine w_cv3 (pc' := 6) ⟨rfl, rfl⟩ (by decide) (zOl hF rfl) (Nat.le_of_ble_eq_true rfl) (Nat.le_of_ble_eq_true rfl) (f_X12_isRecord hF hI hT (by omega) (by omega) ?_)
  refine w_ifT_eq (pc' := 9) (pcT := 18) ⟨rfl, rfl⟩ rfl (by decide) ?_
  refine w_ldc2Y (pc' := 21) (z := -4611686018427387904) ⟨rfl, rfl⟩ rfl ?_
  refine w_lreturn (pc' := 22) ⟨rfl, rfl⟩ ?_
  exact k _ zFm.refl
theorem f_X12_make {σ : zSt} (hF : zFx σ) (hI : zFr2 σ) (hT : zTr σ zt0) {s : Int} (hs : (-2147483648 ≤ s ∧ s ≤ 2147483647)) {Q : zSt → Option Value → Prop} (k : ∀ σ1, zFm (List.range 181) σ σ1 → Q σ1 (some (.int (iZ (-1))))) : zCa 270 [.ref 164, .int (iZ s)] σ Q := by
  refine w_enter (c := zk_X12_make) (ls2 := [(0, .ref 164), (1, .int (iZ s))]) rfl ⟨rfl, rfl, trivial⟩ ?_
  refine w_aload_n (pc' := 1) ⟨rfl, rfl⟩ rfl ?_
  refine w_iload_n (pc' := 2) ⟨rfl, rfl⟩ rfl ?_
  refine w_cv2 (pc' := 5) ⟨rfl, rfl⟩ (by decide) (zOl hF rfl) (Nat.le_of_ble_eq_true rfl) (Nat.le_of_ble_eq_true rfl) (f_isScheme hF hT (by omega) ?_)
  refine w_ifT_eq (pc' := 8) (pcT := 18) ⟨rfl, rfl⟩ rfl (by decide) ?_
  refine w_aload_n (pc' := 19) ⟨rfl, rfl⟩ rfl ?_
  refine w_ic (pc' := 20) ⟨rfl, rfl⟩ ?_
  refine w_cv2 (pc' := 23) ⟨rfl, rfl⟩ (by decide) (zOl hF rfl) (Nat.le_of_ble_eq_true rfl) (Nat.le_of_ble_eq_true rfl) (r_refuses (w := 2) hF (by decide) ?_)
  refine w_ireturn (pc' := 24) ⟨rfl, rfl⟩ (Or.inl rfl) ?_
  exact k _ (zFm.wI (List.mem_range.mpr (by decide)))
theorem f_X12_copy {σ : zSt} (hF : zFx σ) (hI : zFr2 σ) (hT : zTr σ zt0) {s : Int} (hs : (-2147483648 ≤ s ∧ s ≤ 2147483647)) {r : Int} (hr : (-2147483648 ≤ r ∧ r ≤ 2147483647)) {Q : zSt → Option Value → Prop} (k : ∀ σ1, zFm (List.range 181) σ σ1 → Q σ1 (some (.int (iZ (-1))))) : zCa 272 [.ref 164, .int (iZ s), .int (iZ r)] σ Q := by
  refine w_enter (c := zk_X12_copy) (ls2 := [(0, .ref 164), (1, .int (iZ s)), (2, .int (iZ r))]) rfl ⟨rfl, rfl, rfl, trivial⟩ ?_
  refine w_aload_n (pc' := 1) ⟨rfl, rfl⟩ rfl ?_
  refine w_iload_n (pc' := 2) ⟨rfl, rfl⟩ rfl ?_
  refine w_iload_n (pc' := 3) ⟨rfl, rfl⟩ rfl ?_
  refine w_cv3 (pc' := 6) ⟨rfl, rfl⟩ (by decide) (zOl hF rfl) (Nat.le_of_ble_eq_true rfl) (Nat.le_of_ble_eq_true rfl) (f_X12_isRecord hF hI hT (by omega) (by omega) ?_)
  refine w_ifT_eq (pc' := 9) (pcT := 19) ⟨rfl, rfl⟩ rfl (by decide) ?_
  refine w_aload_n (pc' := 20) ⟨rfl, rfl⟩ rfl ?_
  refine w_ic (pc' := 21) ⟨rfl, rfl⟩ ?_
  refine w_cv2 (pc' := 24) ⟨rfl, rfl⟩ (by decide) (zOl hF rfl) (Nat.le_of_ble_eq_true rfl) (Nat.le_of_ble_eq_true rfl) (r_refuses (w := 2) hF (by decide) ?_)
  refine w_ireturn (pc' := 25) ⟨rfl, rfl⟩ (Or.inl rfl) ?_
  exact k _ (zFm.wI (List.mem_range.mpr (by decide)))
theorem f_X12_drop {σ : zSt} (hF : zFx σ) (hI : zFr2 σ) (hT : zTr σ zt0) {s : Int} (hs : (-2147483648 ≤ s ∧ s ≤ 2147483647)) {r : Int} (hr : (-2147483648 ≤ r ∧ r ≤ 2147483647)) {Q : zSt → Option Value → Prop} (k : ∀ σ1, zFm (List.range 181) σ σ1 → Q σ1 (some (.int (iZ 0)))) : zCa 273 [.ref 164, .int (iZ s), .int (iZ r)] σ Q := by
  refine w_enter (c := zk_X12_drop) (ls2 := [(0, .ref 164), (1, .int (iZ s)), (2, .int (iZ r))]) rfl ⟨rfl, rfl, rfl, trivial⟩ ?_
  refine w_aload_n (pc' := 1) ⟨rfl, rfl⟩ rfl ?_
  refine w_iload_n (pc' := 2) ⟨rfl, rfl⟩ rfl ?_
  refine w_iload_n (pc' := 3) ⟨rfl, rfl⟩ rfl ?_
  refine w_cv3 (pc' := 6) ⟨rfl, rfl⟩ (by decide) (zOl hF rfl) (Nat.le_of_ble_eq_true rfl) (Nat.le_of_ble_eq_true rfl) (f_X12_isRecord hF hI hT (by omega) (by omega) ?_)
  refine w_ifF_ne (pc' := 9) ⟨rfl, rfl⟩ (by decide) ?_
  refine w_aload_n (pc' := 10) ⟨rfl, rfl⟩ rfl ?_
  refine w_ic (pc' := 11) ⟨rfl, rfl⟩ ?_
  refine w_cv2 (pc' := 14) ⟨rfl, rfl⟩ (by decide) (zOl hF rfl) (Nat.le_of_ble_eq_true rfl) (Nat.le_of_ble_eq_true rfl) (r_isRefused (w := 2) hF (by decide) ?_)
  refine w_ireturn (pc' := 15) ⟨rfl, rfl⟩ (by decide) ?_
  exact k _ (zFm.wI (List.mem_range.mpr (by decide)))
theorem f_X12_chance {σ : zSt} (hF : zFx σ) (hI : zFr2 σ) (hT : zTr σ zt0) {n : Int} (hn : (-2147483648 ≤ n ∧ n ≤ 2147483647)) {Q : zSt → Option Value → Prop} (k : ∀ σ1, zFm (List.range 181) σ σ1 → Q σ1 (some (.int (iZ (-1))))) : zCa 276 [.ref 164, .int (iZ n)] σ Q := by
  refine w_enter (c := zk_X12_chance) (ls2 := [(0, .ref 164), (1, .int (iZ n))]) rfl ⟨rfl, rfl, trivial⟩ ?_
  refine w_aload_n (pc' := 1) ⟨rfl, rfl⟩ rfl ?_
  refine w_getZ (pc' := 4) (cl := 10) (q := 14) ⟨rfl, rfl⟩ ⟨rfl, by decide⟩ (zOl hF rfl) (show zI _ 164 14 = iZ (0) from hI 164 14 rfl) ?_
  refine w_ifT_eq (pc' := 7) (pcT := 19) ⟨rfl, rfl⟩ rfl (by decide) ?_
  refine w_aload_n (pc' := 20) ⟨rfl, rfl⟩ rfl ?_
  refine w_ic (pc' := 21) ⟨rfl, rfl⟩ ?_
  refine w_cv2 (pc' := 24) ⟨rfl, rfl⟩ (by decide) (zOl hF rfl) (Nat.le_of_ble_eq_true rfl) (Nat.le_of_ble_eq_true rfl) (r_refuses (w := 2) hF (by decide) ?_)
  refine w_ireturn (pc' := 25) ⟨rfl, rfl⟩ (Or.inl rfl) ?_
  exact k _ (zFm.wI (List.mem_range.mpr (by decide)))
theorem f_X12_cross {σ : zSt} (hF : zFx σ) (hI : zFr2 σ) (hT : zTr σ zt0) {c : Int} (hc : (-2147483648 ≤ c ∧ c ≤ 2147483647)) {r : Int} (hr : (-2147483648 ≤ r ∧ r ≤ 2147483647)) {Q : zSt → Option Value → Prop} (k : ∀ σ1, zFm (List.range 181) σ σ1 → Q σ1 (some (.int (iZ (-1))))) : zCa 286 [.ref 164, .int (iZ c), .int (iZ r)] σ Q := by
  refine w_enter (c := zk_X12_cross) (ls2 := [(0, .ref 164), (1, .int (iZ c)), (2, .int (iZ r))]) rfl ⟨rfl, rfl, rfl, trivial⟩ ?_
  refine w_aload_n (pc' := 1) ⟨rfl, rfl⟩ rfl ?_
  refine w_iload_n (pc' := 2) ⟨rfl, rfl⟩ rfl ?_
  refine w_cv2 (pc' := 5) ⟨rfl, rfl⟩ (by decide) (zOl hF rfl) (Nat.le_of_ble_eq_true rfl) (Nat.le_of_ble_eq_true rfl) (f_isCrossing hF hT (by omega) ?_)
  refine w_ifT_eq (pc' := 8) (pcT := 35) ⟨rfl, rfl⟩ rfl (by decide) ?_
  refine w_aload_n (pc' := 36) ⟨rfl, rfl⟩ rfl ?_
  refine w_ic (pc' := 37) ⟨rfl, rfl⟩ ?_
  refine w_cv2 (pc' := 40) ⟨rfl, rfl⟩ (by decide) (zOl hF rfl) (Nat.le_of_ble_eq_true rfl) (Nat.le_of_ble_eq_true rfl) (r_refuses (w := 3) hF (by decide) ?_)
  refine w_ireturn (pc' := 41) ⟨rfl, rfl⟩ (Or.inl rfl) ?_
  exact k _ (zFm.wI (List.mem_range.mpr (by decide)))
theorem f_X12_account {σ : zSt} (hF : zFx σ) (hI : zFr2 σ) (hT : zTr σ zt0) {w : Int} (hw : (-2147483648 ≤ w ∧ w ≤ 2147483647)) {Q : zSt → Option Value → Prop} (k : ∀ σ1, zFm (List.range 181) σ σ1 → Q σ1 (some (.int (iZ (-1))))) : zCa 287 [.ref 164, .int (iZ w)] σ Q := by
  refine w_enter (c := zk_X12_account) (ls2 := [(0, .ref 164), (1, .int (iZ w))]) rfl ⟨rfl, rfl, trivial⟩ ?_
  refine w_aload_n (pc' := 1) ⟨rfl, rfl⟩ rfl ?_
  refine w_getZ (pc' := 4) (cl := 10) (q := 25) ⟨rfl, rfl⟩ ⟨rfl, by decide⟩ (zOl hF rfl) (show zI _ 164 25 = iZ (0) from hI 164 25 rfl) ?_
  refine w_ifT_eq (pc' := 7) (pcT := 28) ⟨rfl, rfl⟩ rfl (by decide) ?_
  refine w_ic (pc' := 29) ⟨rfl, rfl⟩ ?_
  refine w_ireturn (pc' := 30) ⟨rfl, rfl⟩ (Or.inl rfl) ?_
  exact k _ zFm.refl
theorem f_X12_would {σ : zSt} (hF : zFx σ) (hI : zFr2 σ) (hT : zTr σ zt0) {c : Int} (hc : (-2147483648 ≤ c ∧ c ≤ 2147483647)) {r : Int} (hr : (-2147483648 ≤ r ∧ r ≤ 2147483647)) {w : Int} (hw : (-2147483648 ≤ w ∧ w ≤ 2147483647)) {Q : zSt → Option Value → Prop} (k : ∀ σ1, zFm (List.range 181) σ σ1 → Q σ1 (some (.int (iZ (-1))))) : zCa 289 [.ref 164, .int (iZ c), .int (iZ r), .int (iZ w)] σ Q := by
  refine w_enter (c := zk_X12_would) (ls2 := [(0, .ref 164), (1, .int (iZ c)), (2, .int (iZ r)), (3, .int (iZ w))]) rfl ⟨rfl, rfl, rfl, rfl, trivial⟩ ?_
  refine w_aload_n (pc' := 1) ⟨rfl, rfl⟩ rfl ?_
  refine w_iload_n (pc' := 2) ⟨rfl, rfl⟩ rfl ?_
  refine w_iload_n (pc' := 3) ⟨rfl, rfl⟩ rfl ?_
  refine w_cv3 (pc' := 6) ⟨rfl, rfl⟩ (by decide) (zOl hF rfl) (Nat.le_of_ble_eq_true rfl) (Nat.le_of_ble_eq_true rfl) (f_X12_canCross hF hI hT (by omega) (by omega) ?_)
  refine w_ifT_eq (pc' := 9) (pcT := 21) ⟨rfl, rfl⟩ rfl (by decide) ?_
  refine w_ic (pc' := 22) ⟨rfl, rfl⟩ ?_
  refine w_ireturn (pc' := 23) ⟨rfl, rfl⟩ (Or.inl rfl) ?_
  exact k _ zFm.refl
theorem f_X12_round {σ : zSt} (hF : zFx σ) (hI : zFr2 σ) (hT : zTr σ zt0) {c : Int} (hc : (-2147483648 ≤ c ∧ c ≤ 2147483647)) {b : Int} (hb : (-2147483648 ≤ b ∧ b ≤ 2147483647)) {r : Int} (hr : (-2147483648 ≤ r ∧ r ≤ 2147483647)) {Q : zSt → Option Value → Prop} (k : ∀ σ1, zFm (List.range 181) σ σ1 → Q σ1 (some (.long (lZ (-4611686018427387904))))) : zCa 292 [.ref 164, .int (iZ c), .int (iZ b), .int (iZ r)] σ Q := by
  refine w_enter (c := zk_X12_round) (ls2 := [(0, .ref 164), (1, .int (iZ c)), (2, .int (iZ b)), (3, .int (iZ r))]) rfl ⟨rfl, rfl, rfl, rfl, trivial⟩ ?_
  refine w_aload_n (pc' := 1) ⟨rfl, rfl⟩ rfl ?_
  refine w_iload_n (pc' := 2) ⟨rfl, rfl⟩ rfl ?_
  refine w_iload_n (pc' := 3) ⟨rfl, rfl⟩ rfl ?_
  refine w_cv3 (pc' := 6) ⟨rfl, rfl⟩ (by decide) (zOl hF rfl) (Nat.le_of_ble_eq_true rfl) (Nat.le_of_ble_eq_true rfl) (f_X12_doesLeadBack hF hI hT (by omega) (by omega) ?_)
  refine w_ifT_eq (pc' := 9) (pcT := 18) ⟨rfl, rfl⟩ rfl (by decide) ?_
  refine w_ldc2Y (pc' := 21) (z := -4611686018427387904) ⟨rfl, rfl⟩ rfl ?_
  refine w_lreturn (pc' := 22) ⟨rfl, rfl⟩ ?_
  exact k _ zFm.refl
theorem f_X12_proved {σ : zSt} (hF : zFx σ) (hI : zFr2 σ) (hT : zTr σ zt0) {c : Int} (hc : (-2147483648 ≤ c ∧ c ≤ 2147483647)) {b : Int} (hb : (-2147483648 ≤ b ∧ b ≤ 2147483647)) {Q : zSt → Option Value → Prop} (k : ∀ σ1, zFm (List.range 181) σ σ1 → Q σ1 (some (.int (iZ (-1))))) : zCa 296 [.ref 164, .int (iZ c), .int (iZ b)] σ Q := by
  refine w_enter (c := zk_X12_proved) (ls2 := [(0, .ref 164), (1, .int (iZ c)), (2, .int (iZ b))]) rfl ⟨rfl, rfl, rfl, trivial⟩ ?_
  refine w_aload_n (pc' := 1) ⟨rfl, rfl⟩ rfl ?_
  refine w_iload_n (pc' := 2) ⟨rfl, rfl⟩ rfl ?_
  refine w_iload_n (pc' := 3) ⟨rfl, rfl⟩ rfl ?_
  refine w_cv3 (pc' := 6) ⟨rfl, rfl⟩ (by decide) (zOl hF rfl) (Nat.le_of_ble_eq_true rfl) (Nat.le_of_ble_eq_true rfl) (f_X12_doesLeadBack hF hI hT (by omega) (by omega) ?_)
  refine w_ifF_ne (pc' := 9) ⟨rfl, rfl⟩ (by decide) ?_
  refine w_ic (pc' := 10) ⟨rfl, rfl⟩ ?_
  refine w_ireturn (pc' := 11) ⟨rfl, rfl⟩ (Or.inl rfl) ?_
  exact k _ zFm.refl
theorem f_X12_way {σ : zSt} (hF : zFx σ) (hI : zFr2 σ) (hT : zTr σ zt0) {a : Int} (ha : (-2147483648 ≤ a ∧ a ≤ 2147483647)) {b : Int} (hb : (-2147483648 ≤ b ∧ b ≤ 2147483647)) {q : Int} (hq : (-2147483648 ≤ q ∧ q ≤ 2147483647)) {Q : zSt → Option Value → Prop} (k : ∀ σ1, zFm (List.range 181) σ σ1 → Q σ1 (some (.int (iZ (-1))))) : zCa 299 [.ref 164, .int (iZ a), .int (iZ b), .int (iZ q)] σ Q := by
  refine w_enter (c := zk_X12_way) (ls2 := [(0, .ref 164), (1, .int (iZ a)), (2, .int (iZ b)), (3, .int (iZ q))]) rfl ⟨rfl, rfl, rfl, rfl, trivial⟩ ?_
  refine w_aload_n (pc' := 1) ⟨rfl, rfl⟩ rfl ?_
  refine w_iload_n (pc' := 2) ⟨rfl, rfl⟩ rfl ?_
  refine w_cv2 (pc' := 5) ⟨rfl, rfl⟩ (by decide) (zOl hF rfl) (Nat.le_of_ble_eq_true rfl) (Nat.le_of_ble_eq_true rfl) (f_isScheme hF hT (by omega) ?_)
  refine w_ifT_eq (pc' := 8) (pcT := 26) ⟨rfl, rfl⟩ rfl (by decide) ?_
  refine w_ic (pc' := 27) ⟨rfl, rfl⟩ ?_
  refine w_ireturn (pc' := 28) ⟨rfl, rfl⟩ (Or.inl rfl) ?_
  exact k _ zFm.refl
theorem f_X12_least {σ : zSt} (hF : zFx σ) (hI : zFr2 σ) (hT : zTr σ zt0) {a : Int} (ha : (-2147483648 ≤ a ∧ a ≤ 2147483647)) {r : Int} (hr : (-2147483648 ≤ r ∧ r ≤ 2147483647)) {b : Int} (hb : (-2147483648 ≤ b ∧ b ≤ 2147483647)) {q : Int} (hq : (-2147483648 ≤ q ∧ q ≤ 2147483647)) {Q : zSt → Option Value → Prop} (k : ∀ σ1, zFm (List.range 181) σ σ1 → Q σ1 (some (.int (iZ (-1))))) : zCa 301 [.ref 164, .int (iZ a), .int (iZ r), .int (iZ b), .int (iZ q)] σ Q := by
  refine w_enter (c := zk_X12_least) (ls2 := [(0, .ref 164), (1, .int (iZ a)), (2, .int (iZ r)), (3, .int (iZ b)), (4, .int (iZ q))]) rfl ⟨rfl, rfl, rfl, rfl, rfl, trivial⟩ ?_
  refine w_aload_n (pc' := 1) ⟨rfl, rfl⟩ rfl ?_
  refine w_iload_n (pc' := 2) ⟨rfl, rfl⟩ rfl ?_
  refine w_iload_n (pc' := 3) ⟨rfl, rfl⟩ rfl ?_
  refine w_cv3 (pc' := 6) ⟨rfl, rfl⟩ (by decide) (zOl hF rfl) (Nat.le_of_ble_eq_true rfl) (Nat.le_of_ble_eq_true rfl) (f_X12_isRecord hF hI hT (by omega) (by omega) ?_)
  refine w_ifT_eq (pc' := 9) (pcT := 28) ⟨rfl, rfl⟩ rfl (by decide) ?_
  refine w_ic (pc' := 29) ⟨rfl, rfl⟩ ?_
  refine w_ireturn (pc' := 30) ⟨rfl, rfl⟩ (Or.inl rfl) ?_
  exact k _ zFm.refl
theorem f_X12_origins {σ : zSt} (hF : zFx σ) (hI : zFr2 σ) (hT : zTr σ zt0) {c : Int} (hc : (-2147483648 ≤ c ∧ c ≤ 2147483647)) {r : Int} (hr : (-2147483648 ≤ r ∧ r ≤ 2147483647)) {Q : zSt → Option Value → Prop} (k : ∀ σ1, zFm (List.range 181) σ σ1 → Q σ1 (some (.int (iZ (-1))))) : zCa 302 [.ref 164, .int (iZ c), .int (iZ r)] σ Q := by
  refine w_enter (c := zk_X12_origins) (ls2 := [(0, .ref 164), (1, .int (iZ c)), (2, .int (iZ r))]) rfl ⟨rfl, rfl, rfl, trivial⟩ ?_
  refine w_aload_n (pc' := 1) ⟨rfl, rfl⟩ rfl ?_
  refine w_iload_n (pc' := 2) ⟨rfl, rfl⟩ rfl ?_
  refine w_cv2 (pc' := 5) ⟨rfl, rfl⟩ (by decide) (zOl hF rfl) (Nat.le_of_ble_eq_true rfl) (Nat.le_of_ble_eq_true rfl) (f_isCrossing hF hT (by omega) ?_)
  refine w_ifT_eq (pc' := 8) (pcT := 21) ⟨rfl, rfl⟩ rfl (by decide) ?_
  refine w_ic (pc' := 22) ⟨rfl, rfl⟩ ?_
  refine w_ireturn (pc' := 23) ⟨rfl, rfl⟩ (Or.inl rfl) ?_
  exact k _ zFm.refl
theorem f_X12_tells {σ : zSt} (hF : zFx σ) (hI : zFr2 σ) (hT : zTr σ zt0) {s : Int} (hs : (-2147483648 ≤ s ∧ s ≤ 2147483647)) {w : Int} (hw : (-2147483648 ≤ w ∧ w ≤ 2147483647)) {Q : zSt → Option Value → Prop} (k : ∀ σ1, zFm (List.range 181) σ σ1 → Q σ1 (some (.int (iZ (-1))))) : zCa 305 [.ref 164, .int (iZ s), .int (iZ w)] σ Q := by
  refine w_enter (c := zk_X12_tells) (ls2 := [(0, .ref 164), (1, .int (iZ s)), (2, .int (iZ w))]) rfl ⟨rfl, rfl, rfl, trivial⟩ ?_
  refine w_aload_n (pc' := 1) ⟨rfl, rfl⟩ rfl ?_
  refine w_iload_n (pc' := 2) ⟨rfl, rfl⟩ rfl ?_
  refine w_cv2 (pc' := 5) ⟨rfl, rfl⟩ (by decide) (zOl hF rfl) (Nat.le_of_ble_eq_true rfl) (Nat.le_of_ble_eq_true rfl) (f_isScheme hF hT (by omega) ?_)
  refine w_ifT_eq (pc' := 8) (pcT := 26) ⟨rfl, rfl⟩ rfl (by decide) ?_
  refine w_ic (pc' := 27) ⟨rfl, rfl⟩ ?_
  refine w_ireturn (pc' := 28) ⟨rfl, rfl⟩ (Or.inl rfl) ?_
  exact k _ zFm.refl
theorem f_X12_idle {σ : zSt} (hF : zFx σ) (hI : zFr2 σ) (hT : zTr σ zt0) {s : Int} (hs : (-2147483648 ≤ s ∧ s ≤ 2147483647)) {w : Int} (hw : (-2147483648 ≤ w ∧ w ≤ 2147483647)) {Q : zSt → Option Value → Prop} (k : ∀ σ1, zFm (List.range 181) σ σ1 → Q σ1 (some (.int (iZ (-1))))) : zCa 306 [.ref 164, .int (iZ s), .int (iZ w)] σ Q := by
  refine w_enter (c := zk_X12_idle) (ls2 := [(0, .ref 164), (1, .int (iZ s)), (2, .int (iZ w))]) rfl ⟨rfl, rfl, rfl, trivial⟩ ?_
  refine w_aload_n (pc' := 1) ⟨rfl, rfl⟩ rfl ?_
  refine w_iload_n (pc' := 2) ⟨rfl, rfl⟩ rfl ?_
  refine w_cv2 (pc' := 5) ⟨rfl, rfl⟩ (by decide) (zOl hF rfl) (Nat.le_of_ble_eq_true rfl) (Nat.le_of_ble_eq_true rfl) (f_isScheme hF hT (by omega) ?_)
  refine w_ifT_eq (pc' := 8) (pcT := 18) ⟨rfl, rfl⟩ rfl (by decide) ?_
  refine w_ic (pc' := 19) ⟨rfl, rfl⟩ ?_
  refine w_ireturn (pc' := 20) ⟨rfl, rfl⟩ (Or.inl rfl) ?_
  exact k _ zFm.refl
theorem f_X12_undo {σ : zSt} (hF : zFx σ) (hI : zFr2 σ) (hT : zTr σ zt0) {Q : zSt → Option Value → Prop} (k : ∀ σ1, zFm (List.range 181) σ σ1 → Q σ1 (some (.int (iZ 0)))) : zCa 308 [.ref 164] σ Q := by
  refine w_enter (c := zk_X12_undo) (ls2 := [(0, .ref 164)]) rfl ⟨rfl, trivial⟩ ?_
  refine w_aload_n (pc' := 1) ⟨rfl, rfl⟩ rfl ?_
  refine w_getI (pc' := 4) (cl := 10) (q := 30) ⟨rfl, rfl⟩ ⟨rfl, by decide⟩ (zOl hF rfl) (show zI _ 164 30 = iZ (0) from hI 164 30 rfl) ?_
  refine w_ifF_ne (pc' := 7) ⟨rfl, rfl⟩ (by decide) ?_
  refine w_aload_n (pc' := 8) ⟨rfl, rfl⟩ rfl ?_
  refine w_ic (pc' := 9) ⟨rfl, rfl⟩ ?_
  refine w_cv2 (pc' := 12) ⟨rfl, rfl⟩ (by decide) (zOl hF rfl) (Nat.le_of_ble_eq_true rfl) (Nat.le_of_ble_eq_true rfl) (r_isRefused (w := 4) hF (by decide) ?_)
  refine w_ireturn (pc' := 13) ⟨rfl, rfl⟩ (by decide) ?_
  exact k _ (zFm.wI (List.mem_range.mpr (by decide)))
theorem f_X12_seed {σ : zSt} (hF : zFx σ) (hI : zFr2 σ) (hT : zTr σ zt0) {s : Int} (hs : (-2147483648 ≤ s ∧ s ≤ 2147483647)) {Q : zSt → Option Value → Prop} (k : ∀ σ1, zFm (List.range 181) σ σ1 → Q σ1 (some (.int (iZ (zaS s))))) : zCa 274 [.ref 164, .int (iZ s)] σ Q := by
  refine w_enter (c := zk_X12_seed) (ls2 := [(0, .ref 164), (1, .int (iZ s))]) rfl ⟨rfl, rfl, trivial⟩ ?_
  refine w_iload_n (pc' := 1) ⟨rfl, rfl⟩ rfl ?_
  refine w_if_ge (pc' := 4) (pcT := 10) ⟨rfl, rfl⟩ rfl (by omega) (fun h1 => ?_) (fun h1 => ?_)
  · refine w_aload_n (pc' := 11) ⟨rfl, rfl⟩ rfl ?_
    refine w_iload_n (pc' := 12) ⟨rfl, rfl⟩ rfl ?_
    refine w_i2lZ (pc' := 13) ⟨rfl, rfl⟩ (by omega) ?_
    refine w_putL (pc' := 16) (cl := 10) (q := 19) ⟨rfl, rfl⟩ ⟨rfl, by decide⟩ (zOl hF rfl) ?_
    refine w_ic (pc' := 17) ⟨rfl, rfl⟩ ?_
    refine w_ireturn (pc' := 18) ⟨rfl, rfl⟩ (by decide) ?_
    exact zQi (k _ (zFm.wL (List.mem_range.mpr (by decide)))) (by unfold zaS; (repeat' split) <;> omega)
  · refine w_aload_n (pc' := 5) ⟨rfl, rfl⟩ rfl ?_
    refine w_ic (pc' := 6) ⟨rfl, rfl⟩ ?_
    refine w_cv2 (pc' := 9) ⟨rfl, rfl⟩ (by decide) (zOl hF rfl) (Nat.le_of_ble_eq_true rfl) (Nat.le_of_ble_eq_true rfl) (r_isRefused (w := 5) hF (by decide) ?_)
    refine w_ireturn (pc' := 10) ⟨rfl, rfl⟩ (by decide) ?_
    exact zQi (k _ (zFm.wI (List.mem_range.mpr (by decide)))) (by unfold zaS; (repeat' split) <;> omega)
theorem f_X12_status {σ : zSt} (hF : zFx σ) (hI : zFr2 σ) (hT : zTr σ zt0) {w : Int} (hw : (-2147483648 ≤ w ∧ w ≤ 2147483647)) {Q : zSt → Option Value → Prop} (k : ∀ σ1, zFm (List.range 181) σ σ1 → Q σ1 (some (.int (iZ (zaU w))))) : zCa 179 [.ref 164, .int (iZ w)] σ Q := by
  refine w_enter (c := zk_X12_status) (ls2 := [(0, .ref 164), (1, .int (iZ w))]) rfl ⟨rfl, rfl, trivial⟩ ?_
  have hst : ∀ j : Nat, j ≤ 5 → zI σ 166 j = iZ 0 := fun j hj => by
    rcases (show j = 0 ∨ j = 1 ∨ j = 2 ∨ j = 3 ∨ j = 4 ∨ j = 5 by omega) with rfl | rfl | rfl | rfl | rfl | rfl <;> exact hI 166 _ rfl
  refine w_iload_n (pc' := 1) ⟨rfl, rfl⟩ rfl ?_
  refine w_i2lZ (pc' := 2) ⟨rfl, rfl⟩ (by omega) ?_
  refine w_lc (pc' := 3) (z := 0) ⟨rfl, rfl⟩ rfl ?_
  refine w_ldc2Y (pc' := 6) (z := 5) ⟨rfl, rfl⟩ rfl ?_
  refine w_cs3 (pc' := 9) ⟨rfl, rfl⟩ (by decide) (Nat.le_of_ble_eq_true rfl) (Nat.le_of_ble_eq_true rfl) (r_isIn (by omega) (by omega) (by omega) (fun h => ?_) (fun h => ?_))
  · refine w_ifF_eq (pc' := 12) ⟨rfl, rfl⟩ (by decide) ?_
    refine w_aload_n (pc' := 13) ⟨rfl, rfl⟩ rfl ?_
    refine w_getR (pc' := 16) (cl := 10) (q := 9) ⟨rfl, rfl⟩ ⟨rfl, by decide⟩ (zOl hF rfl) (hF.2 164 9 166 rfl) ?_
    refine w_iload_n (pc' := 17) ⟨rfl, rfl⟩ rfl ?_
    refine w_iald (pc' := 18) ⟨rfl, rfl⟩ (zAl hF rfl) (zixA (j := w.toNat) (by omega)) (hst w.toNat (by omega)) ?_
    refine w_goto (pc' := 21) (pcT := 22) ⟨rfl, rfl⟩ rfl ?_
    refine w_ireturn (pc' := 23) ⟨rfl, rfl⟩ (Or.inl rfl) ?_
    exact zQi (k _ zFm.refl) (by unfold zaU; (repeat' split) <;> omega)
  · refine w_ifT_eq (pc' := 12) (pcT := 21) ⟨rfl, rfl⟩ rfl (by decide) ?_
    refine w_ic (pc' := 22) ⟨rfl, rfl⟩ ?_
    refine w_ireturn (pc' := 23) ⟨rfl, rfl⟩ (Or.inl rfl) ?_
    exact zQi (k _ zFm.refl) (by unfold zaU; (repeat' split) <;> omega)
theorem f_X12_named {σ : zSt} (hF : zFx σ) (hI : zFr2 σ) (hT : zTr σ zt0) {s : Int} (hs : (-2147483648 ≤ s ∧ s ≤ 2147483647)) {Q : zSt → Option Value → Prop} (k : ∀ σ1, zFm (List.range 181) σ σ1 → Q σ1 (some (.int (iZ (-1))))) : zCa 244 [.ref 164, .int (iZ s)] σ Q := by
  refine w_enter (c := zk_X12_named) (ls2 := [(0, .ref 164), (1, .int (iZ s))]) rfl ⟨rfl, rfl, trivial⟩ ?_
  refine w_aload_n (pc' := 1) ⟨rfl, rfl⟩ rfl ?_
  refine w_getI (pc' := 4) (cl := 10) (q := 1) ⟨rfl, rfl⟩ ⟨rfl, by decide⟩ (zOl hF rfl) (show zI _ 164 1 = iZ (0) from hI 164 1 rfl) ?_
  refine w_istore_n (pc' := 5) ⟨rfl, rfl⟩ rfl ?_
  refine w_aload_n (pc' := 6) ⟨rfl, rfl⟩ rfl ?_
  refine w_ic (pc' := 7) ⟨rfl, rfl⟩ ?_
  refine w_putI (pc' := 10) (cl := 10) (q := 1) ⟨rfl, rfl⟩ ⟨rfl, by decide⟩ (zOl hF rfl) ?_
  refine w_aload_n (pc' := 11) ⟨rfl, rfl⟩ rfl ?_
  refine w_getZ (pc' := 14) (cl := 10) (q := 14) ⟨rfl, rfl⟩ ⟨rfl, by decide⟩ (zOl hF rfl) ((zI_wI_n (by decide)).trans (show zI _ 164 14 = iZ (0) from hI 164 14 rfl)) ?_
  refine w_ifT_eq (pc' := 17) (pcT := 40) ⟨rfl, rfl⟩ rfl (by decide) ?_
  refine w_ic (pc' := 41) ⟨rfl, rfl⟩ ?_
  refine w_ireturn (pc' := 42) ⟨rfl, rfl⟩ (Or.inl rfl) ?_
  exact k _ (zFm.wI (List.mem_range.mpr (by decide)))
theorem m_feedB {σ σ1 : zSt} (hF : zFx σ) (hf : zFm [164, 165] σ σ1) {i : Nat} (hi : i < 20) (hc : zI σ1 164 1 = iZ (i : Int)) {x1 x2 x3 x4 x5 x : Int32} {Q : zSt → Option Value → Prop} (k : ∀ σ2, zFm [164, 165] σ σ2 → zI σ2 164 1 = iZ ((i + 1 : Nat) : Int) → zP zk_X12_feed 22 [(0, .ref 164), (1, .int x1), (2, .int x2), (3, .int x3), (4, .int x4), (5, .int x5), (6, .int (iZ ((i + 1 : Nat) : Int)))] [] σ2 Q) : zP zk_X12_feed 77 [(0, .ref 164), (1, .int x1), (2, .int x2), (3, .int x3), (4, .int x4), (5, .int x5), (6, .int (iZ (i : Int))), (7, .int x)] [] σ1 Q := by
  have hF1 := hf.fx hF
  refine w_aload_n (pc' := 78) ⟨rfl, rfl⟩ rfl ?_
  refine w_getR (pc' := 81) (cl := 10) (q := 0) ⟨rfl, rfl⟩ ⟨rfl, by decide⟩ (zOl hF1 rfl) (hF1.2 164 0 165 rfl) ?_
  refine w_aload_n (pc' := 82) ⟨rfl, rfl⟩ rfl ?_
  refine w_getI (pc' := 85) (cl := 10) (q := 1) ⟨rfl, rfl⟩ ⟨rfl, by decide⟩ (zOl hF1 rfl) hc ?_
  refine w_iload (pc' := 87) ⟨rfl, rfl⟩ rfl ?_
  refine w_bi (pc' := 89) ⟨rfl, rfl⟩ (by decide) ?_
  refine w_ic (pc' := 90) ⟨rfl, rfl⟩ ?_
  refine w_iload (pc' := 92) ⟨rfl, rfl⟩ rfl ?_
  refine w_ic (pc' := 93) ⟨rfl, rfl⟩ ?_
  refine w_iremZ (pc' := 94) ⟨rfl, rfl⟩ (by omega) ?_
  refine w_isubZ (pc' := 95) ⟨rfl, rfl⟩ ?_
  refine w_imulZ (pc' := 96) ⟨rfl, rfl⟩ ?_
  refine w_ishr (pc' := 97) ⟨rfl, rfl⟩ ?_
  refine w_si (pc' := 100) ⟨rfl, rfl⟩ (by decide) ?_
  refine w_iand (pc' := 101) ⟨rfl, rfl⟩ ?_
  refine w_iast (pc' := 102) ⟨rfl, rfl⟩ (zAl hF1 rfl) (zixZ (by omega)) ?_
  refine w_aload_n (pc' := 103) ⟨rfl, rfl⟩ rfl ?_
  refine w_dupR (pc' := 104) ⟨rfl, rfl⟩ ?_
  refine w_getI (pc' := 107) (cl := 10) (q := 1) ⟨rfl, rfl⟩ ⟨rfl, by decide⟩ (zOl hF1 rfl) ((zI_wI_n (Or.inl (by decide))).trans hc) ?_
  refine w_ic (pc' := 108) ⟨rfl, rfl⟩ ?_
  refine w_iaddZ (pc' := 109) ⟨rfl, rfl⟩ ?_
  refine w_putI (pc' := 112) (cl := 10) (q := 1) ⟨rfl, rfl⟩ ⟨rfl, by decide⟩ (zOl hF1 rfl) ?_
  refine w_iincZ (pc' := 115) ⟨rfl, rfl⟩ rfl rfl ?_
  refine w_goto (pc' := 118) (pcT := 22) ⟨rfl, rfl⟩ rfl ?_
  refine w_at (ls2 := [(0, .ref 164), (1, .int x1), (2, .int x2), (3, .int x3), (4, .int x4), (5, .int x5), (6, .int (iZ ((i + 1 : Nat) : Int)))]) ?_ (k _ ((hf.trans (zFm.wI (by decide))).trans (zFm.wI (by decide))) (zI_wI_s.trans (congrArg iZ (by omega))))
  exact ⟨rfl, rfl, rfl, rfl, rfl, rfl, rfl, trivial⟩
theorem m_feedL {σ : zSt} (hF : zFx σ) {x1 x2 x3 x4 x5 : Int32} {Q : zSt → Option Value → Prop} (k : ∀ σ1, zFm [164, 165] σ σ1 → Q σ1 (some (.int (iZ 20)))) : ∀ (m i : Nat) (σ1 : zSt), i + m = 20 → zFm [164, 165] σ σ1 → zI σ1 164 1 = iZ (i : Int) → zP zk_X12_feed 22 [(0, .ref 164), (1, .int x1), (2, .int x2), (3, .int x3), (4, .int x4), (5, .int x5), (6, .int (iZ (i : Int)))] [] σ1 Q := by
  intro m
  induction m with
  | zero =>
    intro i σ1 hi hf hc
    have hF1 := hf.fx hF
    refine w_iload (pc' := 24) ⟨rfl, rfl⟩ rfl ?_
    refine w_bi (pc' := 26) ⟨rfl, rfl⟩ (by decide) ?_
    refine w_icT_ge (pc' := 29) (pcT := 118) ⟨rfl, rfl⟩ rfl (by omega) ?_
    refine w_aload_n (pc' := 119) ⟨rfl, rfl⟩ rfl ?_
    refine w_getI (pc' := 122) (cl := 10) (q := 1) ⟨rfl, rfl⟩ ⟨rfl, by decide⟩ (zOl hF1 rfl) hc ?_
    refine w_ireturn (pc' := 123) ⟨rfl, rfl⟩ (Or.inl rfl) ?_
    exact zQi (k _ hf) (by omega)
  | succ m ih =>
    intro i σ1 hi hf hc
    have hF1 := hf.fx hF
    refine w_iload (pc' := 24) ⟨rfl, rfl⟩ rfl ?_
    refine w_bi (pc' := 26) ⟨rfl, rfl⟩ (by decide) ?_
    refine w_icF_ge (pc' := 29) ⟨rfl, rfl⟩ (by omega) ?_
    refine w_iload (pc' := 31) ⟨rfl, rfl⟩ rfl ?_
    refine w_ic (pc' := 32) ⟨rfl, rfl⟩ ?_
    refine w_ic_ge (pc' := 35) (pcT := 39) ⟨rfl, rfl⟩ rfl (by omega) (by omega) (fun h1 => ?_) (fun h1 => ?_)
    · refine w_iload (pc' := 41) ⟨rfl, rfl⟩ rfl ?_
      refine w_bi (pc' := 43) ⟨rfl, rfl⟩ (by decide) ?_
      refine w_ic_ge (pc' := 46) (pcT := 50) ⟨rfl, rfl⟩ rfl (by omega) (by omega) (fun h2 => ?_) (fun h2 => ?_)
      · refine w_iload (pc' := 52) ⟨rfl, rfl⟩ rfl ?_
        refine w_bi (pc' := 54) ⟨rfl, rfl⟩ (by decide) ?_
        refine w_ic_ge (pc' := 57) (pcT := 61) ⟨rfl, rfl⟩ rfl (by omega) (by omega) (fun h3 => ?_) (fun h3 => ?_)
        · refine w_iload (pc' := 63) ⟨rfl, rfl⟩ rfl ?_
          refine w_bi (pc' := 65) ⟨rfl, rfl⟩ (by decide) ?_
          refine w_ic_ge (pc' := 68) (pcT := 73) ⟨rfl, rfl⟩ rfl (by omega) (by omega) (fun h4 => ?_) (fun h4 => ?_)
          · refine w_iload (pc' := 75) ⟨rfl, rfl⟩ rfl ?_
            refine w_istore (pc' := 77) ⟨rfl, rfl⟩ rfl ?_
            first | exact w_at (ls2 := [(0, .ref 164), (1, .int x1), (2, .int x2), (3, .int x3), (4, .int x4), (5, .int x5), (6, .int (iZ (i : Int))), (7, .int x1)]) ⟨rfl, rfl, rfl, rfl, rfl, rfl, rfl, rfl, trivial⟩ (m_feedB hF hf (by omega) hc (fun σ2 h1 h2 => ih (i + 1) σ2 (by omega) h1 h2)) | exact w_at (ls2 := [(0, .ref 164), (1, .int x1), (2, .int x2), (3, .int x3), (4, .int x4), (5, .int x5), (6, .int (iZ (i : Int))), (7, .int x2)]) ⟨rfl, rfl, rfl, rfl, rfl, rfl, rfl, rfl, trivial⟩ (m_feedB hF hf (by omega) hc (fun σ2 h1 h2 => ih (i + 1) σ2 (by omega) h1 h2)) | exact w_at (ls2 := [(0, .ref 164), (1, .int x1), (2, .int x2), (3, .int x3), (4, .int x4), (5, .int x5), (6, .int (iZ (i : Int))), (7, .int x3)]) ⟨rfl, rfl, rfl, rfl, rfl, rfl, rfl, rfl, trivial⟩ (m_feedB hF hf (by omega) hc (fun σ2 h1 h2 => ih (i + 1) σ2 (by omega) h1 h2)) | exact w_at (ls2 := [(0, .ref 164), (1, .int x1), (2, .int x2), (3, .int x3), (4, .int x4), (5, .int x5), (6, .int (iZ (i : Int))), (7, .int x4)]) ⟨rfl, rfl, rfl, rfl, rfl, rfl, rfl, rfl, trivial⟩ (m_feedB hF hf (by omega) hc (fun σ2 h1 h2 => ih (i + 1) σ2 (by omega) h1 h2)) | exact w_at (ls2 := [(0, .ref 164), (1, .int x1), (2, .int x2), (3, .int x3), (4, .int x4), (5, .int x5), (6, .int (iZ (i : Int))), (7, .int x5)]) ⟨rfl, rfl, rfl, rfl, rfl, rfl, rfl, rfl, trivial⟩ (m_feedB hF hf (by omega) hc (fun σ2 h1 h2 => ih (i + 1) σ2 (by omega) h1 h2))
          · refine w_iload (pc' := 70) ⟨rfl, rfl⟩ rfl ?_
            refine w_goto (pc' := 73) (pcT := 75) ⟨rfl, rfl⟩ rfl ?_
            refine w_istore (pc' := 77) ⟨rfl, rfl⟩ rfl ?_
            first | exact w_at (ls2 := [(0, .ref 164), (1, .int x1), (2, .int x2), (3, .int x3), (4, .int x4), (5, .int x5), (6, .int (iZ (i : Int))), (7, .int x1)]) ⟨rfl, rfl, rfl, rfl, rfl, rfl, rfl, rfl, trivial⟩ (m_feedB hF hf (by omega) hc (fun σ2 h1 h2 => ih (i + 1) σ2 (by omega) h1 h2)) | exact w_at (ls2 := [(0, .ref 164), (1, .int x1), (2, .int x2), (3, .int x3), (4, .int x4), (5, .int x5), (6, .int (iZ (i : Int))), (7, .int x2)]) ⟨rfl, rfl, rfl, rfl, rfl, rfl, rfl, rfl, trivial⟩ (m_feedB hF hf (by omega) hc (fun σ2 h1 h2 => ih (i + 1) σ2 (by omega) h1 h2)) | exact w_at (ls2 := [(0, .ref 164), (1, .int x1), (2, .int x2), (3, .int x3), (4, .int x4), (5, .int x5), (6, .int (iZ (i : Int))), (7, .int x3)]) ⟨rfl, rfl, rfl, rfl, rfl, rfl, rfl, rfl, trivial⟩ (m_feedB hF hf (by omega) hc (fun σ2 h1 h2 => ih (i + 1) σ2 (by omega) h1 h2)) | exact w_at (ls2 := [(0, .ref 164), (1, .int x1), (2, .int x2), (3, .int x3), (4, .int x4), (5, .int x5), (6, .int (iZ (i : Int))), (7, .int x4)]) ⟨rfl, rfl, rfl, rfl, rfl, rfl, rfl, rfl, trivial⟩ (m_feedB hF hf (by omega) hc (fun σ2 h1 h2 => ih (i + 1) σ2 (by omega) h1 h2)) | exact w_at (ls2 := [(0, .ref 164), (1, .int x1), (2, .int x2), (3, .int x3), (4, .int x4), (5, .int x5), (6, .int (iZ (i : Int))), (7, .int x5)]) ⟨rfl, rfl, rfl, rfl, rfl, rfl, rfl, rfl, trivial⟩ (m_feedB hF hf (by omega) hc (fun σ2 h1 h2 => ih (i + 1) σ2 (by omega) h1 h2))
        · refine w_iload_n (pc' := 58) ⟨rfl, rfl⟩ rfl ?_
          refine w_goto (pc' := 61) (pcT := 75) ⟨rfl, rfl⟩ rfl ?_
          refine w_istore (pc' := 77) ⟨rfl, rfl⟩ rfl ?_
          first | exact w_at (ls2 := [(0, .ref 164), (1, .int x1), (2, .int x2), (3, .int x3), (4, .int x4), (5, .int x5), (6, .int (iZ (i : Int))), (7, .int x1)]) ⟨rfl, rfl, rfl, rfl, rfl, rfl, rfl, rfl, trivial⟩ (m_feedB hF hf (by omega) hc (fun σ2 h1 h2 => ih (i + 1) σ2 (by omega) h1 h2)) | exact w_at (ls2 := [(0, .ref 164), (1, .int x1), (2, .int x2), (3, .int x3), (4, .int x4), (5, .int x5), (6, .int (iZ (i : Int))), (7, .int x2)]) ⟨rfl, rfl, rfl, rfl, rfl, rfl, rfl, rfl, trivial⟩ (m_feedB hF hf (by omega) hc (fun σ2 h1 h2 => ih (i + 1) σ2 (by omega) h1 h2)) | exact w_at (ls2 := [(0, .ref 164), (1, .int x1), (2, .int x2), (3, .int x3), (4, .int x4), (5, .int x5), (6, .int (iZ (i : Int))), (7, .int x3)]) ⟨rfl, rfl, rfl, rfl, rfl, rfl, rfl, rfl, trivial⟩ (m_feedB hF hf (by omega) hc (fun σ2 h1 h2 => ih (i + 1) σ2 (by omega) h1 h2)) | exact w_at (ls2 := [(0, .ref 164), (1, .int x1), (2, .int x2), (3, .int x3), (4, .int x4), (5, .int x5), (6, .int (iZ (i : Int))), (7, .int x4)]) ⟨rfl, rfl, rfl, rfl, rfl, rfl, rfl, rfl, trivial⟩ (m_feedB hF hf (by omega) hc (fun σ2 h1 h2 => ih (i + 1) σ2 (by omega) h1 h2)) | exact w_at (ls2 := [(0, .ref 164), (1, .int x1), (2, .int x2), (3, .int x3), (4, .int x4), (5, .int x5), (6, .int (iZ (i : Int))), (7, .int x5)]) ⟨rfl, rfl, rfl, rfl, rfl, rfl, rfl, rfl, trivial⟩ (m_feedB hF hf (by omega) hc (fun σ2 h1 h2 => ih (i + 1) σ2 (by omega) h1 h2))
      · refine w_iload_n (pc' := 47) ⟨rfl, rfl⟩ rfl ?_
        refine w_goto (pc' := 50) (pcT := 75) ⟨rfl, rfl⟩ rfl ?_
        refine w_istore (pc' := 77) ⟨rfl, rfl⟩ rfl ?_
        first | exact w_at (ls2 := [(0, .ref 164), (1, .int x1), (2, .int x2), (3, .int x3), (4, .int x4), (5, .int x5), (6, .int (iZ (i : Int))), (7, .int x1)]) ⟨rfl, rfl, rfl, rfl, rfl, rfl, rfl, rfl, trivial⟩ (m_feedB hF hf (by omega) hc (fun σ2 h1 h2 => ih (i + 1) σ2 (by omega) h1 h2)) | exact w_at (ls2 := [(0, .ref 164), (1, .int x1), (2, .int x2), (3, .int x3), (4, .int x4), (5, .int x5), (6, .int (iZ (i : Int))), (7, .int x2)]) ⟨rfl, rfl, rfl, rfl, rfl, rfl, rfl, rfl, trivial⟩ (m_feedB hF hf (by omega) hc (fun σ2 h1 h2 => ih (i + 1) σ2 (by omega) h1 h2)) | exact w_at (ls2 := [(0, .ref 164), (1, .int x1), (2, .int x2), (3, .int x3), (4, .int x4), (5, .int x5), (6, .int (iZ (i : Int))), (7, .int x3)]) ⟨rfl, rfl, rfl, rfl, rfl, rfl, rfl, rfl, trivial⟩ (m_feedB hF hf (by omega) hc (fun σ2 h1 h2 => ih (i + 1) σ2 (by omega) h1 h2)) | exact w_at (ls2 := [(0, .ref 164), (1, .int x1), (2, .int x2), (3, .int x3), (4, .int x4), (5, .int x5), (6, .int (iZ (i : Int))), (7, .int x4)]) ⟨rfl, rfl, rfl, rfl, rfl, rfl, rfl, rfl, trivial⟩ (m_feedB hF hf (by omega) hc (fun σ2 h1 h2 => ih (i + 1) σ2 (by omega) h1 h2)) | exact w_at (ls2 := [(0, .ref 164), (1, .int x1), (2, .int x2), (3, .int x3), (4, .int x4), (5, .int x5), (6, .int (iZ (i : Int))), (7, .int x5)]) ⟨rfl, rfl, rfl, rfl, rfl, rfl, rfl, rfl, trivial⟩ (m_feedB hF hf (by omega) hc (fun σ2 h1 h2 => ih (i + 1) σ2 (by omega) h1 h2))
    · refine w_iload_n (pc' := 36) ⟨rfl, rfl⟩ rfl ?_
      refine w_goto (pc' := 39) (pcT := 75) ⟨rfl, rfl⟩ rfl ?_
      refine w_istore (pc' := 77) ⟨rfl, rfl⟩ rfl ?_
      first | exact w_at (ls2 := [(0, .ref 164), (1, .int x1), (2, .int x2), (3, .int x3), (4, .int x4), (5, .int x5), (6, .int (iZ (i : Int))), (7, .int x1)]) ⟨rfl, rfl, rfl, rfl, rfl, rfl, rfl, rfl, trivial⟩ (m_feedB hF hf (by omega) hc (fun σ2 h1 h2 => ih (i + 1) σ2 (by omega) h1 h2)) | exact w_at (ls2 := [(0, .ref 164), (1, .int x1), (2, .int x2), (3, .int x3), (4, .int x4), (5, .int x5), (6, .int (iZ (i : Int))), (7, .int x2)]) ⟨rfl, rfl, rfl, rfl, rfl, rfl, rfl, rfl, trivial⟩ (m_feedB hF hf (by omega) hc (fun σ2 h1 h2 => ih (i + 1) σ2 (by omega) h1 h2)) | exact w_at (ls2 := [(0, .ref 164), (1, .int x1), (2, .int x2), (3, .int x3), (4, .int x4), (5, .int x5), (6, .int (iZ (i : Int))), (7, .int x3)]) ⟨rfl, rfl, rfl, rfl, rfl, rfl, rfl, rfl, trivial⟩ (m_feedB hF hf (by omega) hc (fun σ2 h1 h2 => ih (i + 1) σ2 (by omega) h1 h2)) | exact w_at (ls2 := [(0, .ref 164), (1, .int x1), (2, .int x2), (3, .int x3), (4, .int x4), (5, .int x5), (6, .int (iZ (i : Int))), (7, .int x4)]) ⟨rfl, rfl, rfl, rfl, rfl, rfl, rfl, rfl, trivial⟩ (m_feedB hF hf (by omega) hc (fun σ2 h1 h2 => ih (i + 1) σ2 (by omega) h1 h2)) | exact w_at (ls2 := [(0, .ref 164), (1, .int x1), (2, .int x2), (3, .int x3), (4, .int x4), (5, .int x5), (6, .int (iZ (i : Int))), (7, .int x5)]) ⟨rfl, rfl, rfl, rfl, rfl, rfl, rfl, rfl, trivial⟩ (m_feedB hF hf (by omega) hc (fun σ2 h1 h2 => ih (i + 1) σ2 (by omega) h1 h2))
theorem zm64 : ∀ o : Nat, o ∈ [164, 165] → o ∈ List.range 181 := by decide
theorem f_X12_feed {σ : zSt} (hF : zFx σ) (hI : zFr2 σ) (hT : zTr σ zt0) {a : Int} (ha : (-2147483648 ≤ a ∧ a ≤ 2147483647)) {b : Int} (hb : (-2147483648 ≤ b ∧ b ≤ 2147483647)) {c : Int} (hc : (-2147483648 ≤ c ∧ c ≤ 2147483647)) {d : Int} (hd : (-2147483648 ≤ d ∧ d ≤ 2147483647)) {e : Int} (he : (-2147483648 ≤ e ∧ e ≤ 2147483647)) {Q : zSt → Option Value → Prop} (k : ∀ σ1, zFm (List.range 181) σ σ1 → Q σ1 (some (.int (iZ 20)))) : zCa 177 [.ref 164, .int (iZ a), .int (iZ b), .int (iZ c), .int (iZ d), .int (iZ e)] σ Q := by
  refine w_enter (c := zk_X12_feed) (ls2 := [(0, .ref 164), (1, .int (iZ a)), (2, .int (iZ b)), (3, .int (iZ c)), (4, .int (iZ d)), (5, .int (iZ e))]) rfl ⟨rfl, rfl, rfl, rfl, rfl, rfl, trivial⟩ ?_
  refine w_aload_n (pc' := 1) ⟨rfl, rfl⟩ rfl ?_
  refine w_getI (pc' := 4) (cl := 10) (q := 1) ⟨rfl, rfl⟩ ⟨rfl, by decide⟩ (zOl hF rfl) (show zI _ 164 1 = iZ (0) from hI 164 1 rfl) ?_
  refine w_bi (pc' := 6) ⟨rfl, rfl⟩ (by decide) ?_
  refine w_iaddZ (pc' := 7) ⟨rfl, rfl⟩ ?_
  refine w_si (pc' := 10) ⟨rfl, rfl⟩ (by decide) ?_
  refine w_icT_le (pc' := 13) (pcT := 19) ⟨rfl, rfl⟩ rfl (by omega) ?_
  refine w_ic (pc' := 20) ⟨rfl, rfl⟩ ?_
  refine w_istore (pc' := 22) ⟨rfl, rfl⟩ rfl ?_
  refine w_at (ls2 := [(0, .ref 164), (1, .int (iZ a)), (2, .int (iZ b)), (3, .int (iZ c)), (4, .int (iZ d)), (5, .int (iZ e)), (6, .int (iZ ((0 : Nat) : Int)))]) ?_ (m_feedL hF (fun σ1 h => k σ1 (h.mono zm64)) 20 0 σ rfl zFm.refl (hI 164 1 rfl))
  exact ⟨rfl, rfl, rfl, rfl, rfl, rfl, rfl, trivial⟩
theorem m_look {σ : zSt} (hF : zFx σ) (h2 : zI σ 164 2 = iZ 0) (h3 : zI σ 164 3 = iZ 0) {Q : zSt → Option Value → Prop} (k : Q σ (some (.int (iZ (-1))))) : zCa 184 [.ref 164] σ Q := by
  refine w_enter (c := zk_X12_look) (ls2 := [(0, .ref 164)]) rfl ⟨rfl, trivial⟩ ?_
  refine w_aload_n (pc' := 1) ⟨rfl, rfl⟩ rfl ?_
  refine w_getI (pc' := 4) (cl := 10) (q := 2) ⟨rfl, rfl⟩ ⟨rfl, by decide⟩ (zOl hF rfl) h2 ?_
  refine w_aload_n (pc' := 5) ⟨rfl, rfl⟩ rfl ?_
  refine w_getI (pc' := 8) (cl := 10) (q := 3) ⟨rfl, rfl⟩ ⟨rfl, by decide⟩ (zOl hF rfl) h3 ?_
  refine w_icT_ge (pc' := 11) (pcT := 52) ⟨rfl, rfl⟩ rfl (by decide) ?_
  refine w_aload_n (pc' := 53) ⟨rfl, rfl⟩ rfl ?_
  refine w_getI (pc' := 56) (cl := 10) (q := 2) ⟨rfl, rfl⟩ ⟨rfl, by decide⟩ (zOl hF rfl) h2 ?_
  refine w_aload_n (pc' := 57) ⟨rfl, rfl⟩ rfl ?_
  refine w_getI (pc' := 60) (cl := 10) (q := 3) ⟨rfl, rfl⟩ ⟨rfl, by decide⟩ (zOl hF rfl) h3 ?_
  refine w_icT_ge (pc' := 63) (pcT := 75) ⟨rfl, rfl⟩ rfl (by decide) ?_
  refine w_ic (pc' := 76) ⟨rfl, rfl⟩ ?_
  refine w_ireturn (pc' := 77) ⟨rfl, rfl⟩ (Or.inl rfl) ?_
  exact k
theorem m_fail {σ : zSt} (hF : zFx σ) (h5 : zI σ 164 5 = iZ 0) {Q : zSt → Option Value → Prop} (k : Q (zwI (zwI σ 164 5 (iZ 1)) 164 6 (iZ 0)) none) : zCa 181 [.ref 164, .int (iZ 1), .int (iZ 0)] σ Q := by
  refine w_enter (c := zk_X12_fail) (ls2 := [(0, .ref 164), (1, .int (iZ 1)), (2, .int (iZ 0))]) rfl ⟨rfl, rfl, rfl, trivial⟩ ?_
  refine w_aload_n (pc' := 1) ⟨rfl, rfl⟩ rfl ?_
  refine w_getI (pc' := 4) (cl := 10) (q := 5) ⟨rfl, rfl⟩ ⟨rfl, by decide⟩ (zOl hF rfl) h5 ?_
  refine w_ifT_eq (pc' := 7) (pcT := 8) ⟨rfl, rfl⟩ rfl (by decide) ?_
  refine w_aload_n (pc' := 9) ⟨rfl, rfl⟩ rfl ?_
  refine w_iload_n (pc' := 10) ⟨rfl, rfl⟩ rfl ?_
  refine w_putI (pc' := 13) (cl := 10) (q := 5) ⟨rfl, rfl⟩ ⟨rfl, by decide⟩ (zOl hF rfl) ?_
  refine w_aload_n (pc' := 14) ⟨rfl, rfl⟩ rfl ?_
  refine w_iload_n (pc' := 15) ⟨rfl, rfl⟩ rfl ?_
  refine w_putI (pc' := 18) (cl := 10) (q := 6) ⟨rfl, rfl⟩ ⟨rfl, by decide⟩ (zOl hF rfl) ?_
  refine w_return (pc' := 19) ⟨rfl, rfl⟩ ?_
  exact k
theorem m_draft {σ : zSt} (hF : zFx σ) {Q : zSt → Option Value → Prop} (k : ∀ σ1, zFm [168] σ σ1 → zP zk_X12_book 60 [(0, .ref 164)] [] σ1 Q) : ∀ (m i : Nat) (σ1 : zSt), i + m = 170 → zFm [168] σ σ1 → zP zk_X12_book 40 [(0, .ref 164), (1, .int (iZ (i : Int)))] [] σ1 Q := by
  intro m
  induction m with
  | zero =>
    intro i σ1 hi hf
    have hF1 := hf.fx hF
    refine w_iload_n (pc' := 41) ⟨rfl, rfl⟩ rfl ?_
    refine w_si (pc' := 44) ⟨rfl, rfl⟩ (by decide) ?_
    refine w_icT_ge (pc' := 47) (pcT := 60) ⟨rfl, rfl⟩ rfl (by omega) ?_
    refine w_at (ls2 := [(0, .ref 164)]) ?_ (k _ hf)
    exact ⟨rfl, trivial⟩
  | succ m ih =>
    intro i σ1 hi hf
    have hF1 := hf.fx hF
    refine w_iload_n (pc' := 41) ⟨rfl, rfl⟩ rfl ?_
    refine w_si (pc' := 44) ⟨rfl, rfl⟩ (by decide) ?_
    refine w_icF_ge (pc' := 47) ⟨rfl, rfl⟩ (by omega) ?_
    refine w_aload_n (pc' := 48) ⟨rfl, rfl⟩ rfl ?_
    refine w_getR (pc' := 51) (cl := 10) (q := 12) ⟨rfl, rfl⟩ ⟨rfl, by decide⟩ (zOl hF1 rfl) (hF1.2 164 12 168 rfl) ?_
    refine w_iload_n (pc' := 52) ⟨rfl, rfl⟩ rfl ?_
    refine w_ic (pc' := 53) ⟨rfl, rfl⟩ ?_
    refine w_iast (pc' := 54) ⟨rfl, rfl⟩ (zAl hF1 rfl) (zixZ (by omega)) ?_
    refine w_iincZ (pc' := 57) ⟨rfl, rfl⟩ rfl rfl ?_
    refine w_goto (pc' := 60) (pcT := 40) ⟨rfl, rfl⟩ rfl ?_
    refine w_at (ls2 := [(0, .ref 164), (1, .int (iZ ((i + 1 : Nat) : Int)))]) ?_ (ih (i + 1) _ (by omega) (hf.trans (zFm.wI (by decide))))
    exact ⟨rfl, rfl, trivial⟩
theorem f_X12_book {σ : zSt} (hF : zFx σ) (hI : zFr2 σ) (hT : zTr σ zt0) {Q : zSt → Option Value → Prop} (k : ∀ σ1, zFm (List.range 181) σ σ1 → Q σ1 (some (.int (iZ (-1))))) : zCa 212 [.ref 164] σ Q := by
  refine w_enter (c := zk_X12_book) (ls2 := [(0, .ref 164)]) rfl ⟨rfl, trivial⟩ ?_
  refine w_aload_n (pc' := 1) ⟨rfl, rfl⟩ rfl ?_
  refine w_aload_n (pc' := 2) ⟨rfl, rfl⟩ rfl ?_
  refine w_getI (pc' := 5) (cl := 10) (q := 1) ⟨rfl, rfl⟩ ⟨rfl, by decide⟩ (zOl hF rfl) (show zI _ 164 1 = iZ (0) from hI 164 1 rfl) ?_
  refine w_putI (pc' := 8) (cl := 10) (q := 3) ⟨rfl, rfl⟩ ⟨rfl, by decide⟩ (zOl hF rfl) ?_
  refine w_aload_n (pc' := 9) ⟨rfl, rfl⟩ rfl ?_
  refine w_ic (pc' := 10) ⟨rfl, rfl⟩ ?_
  refine w_putI (pc' := 13) (cl := 10) (q := 1) ⟨rfl, rfl⟩ ⟨rfl, by decide⟩ (zOl hF rfl) ?_
  refine w_aload_n (pc' := 14) ⟨rfl, rfl⟩ rfl ?_
  refine w_ic (pc' := 15) ⟨rfl, rfl⟩ ?_
  refine w_putI (pc' := 18) (cl := 10) (q := 2) ⟨rfl, rfl⟩ ⟨rfl, by decide⟩ (zOl hF rfl) ?_
  refine w_aload_n (pc' := 19) ⟨rfl, rfl⟩ rfl ?_
  refine w_ic (pc' := 20) ⟨rfl, rfl⟩ ?_
  refine w_putI (pc' := 23) (cl := 10) (q := 4) ⟨rfl, rfl⟩ ⟨rfl, by decide⟩ (zOl hF rfl) ?_
  refine w_aload_n (pc' := 24) ⟨rfl, rfl⟩ rfl ?_
  refine w_ic (pc' := 25) ⟨rfl, rfl⟩ ?_
  refine w_putI (pc' := 28) (cl := 10) (q := 5) ⟨rfl, rfl⟩ ⟨rfl, by decide⟩ (zOl hF rfl) ?_
  refine w_aload_n (pc' := 29) ⟨rfl, rfl⟩ rfl ?_
  refine w_ic (pc' := 30) ⟨rfl, rfl⟩ ?_
  refine w_putI (pc' := 33) (cl := 10) (q := 6) ⟨rfl, rfl⟩ ⟨rfl, by decide⟩ (zOl hF rfl) ?_
  refine w_aload_n (pc' := 34) ⟨rfl, rfl⟩ rfl ?_
  refine w_ic (pc' := 35) ⟨rfl, rfl⟩ ?_
  refine w_putI (pc' := 38) (cl := 10) (q := 15) ⟨rfl, rfl⟩ ⟨rfl, by decide⟩ (zOl hF rfl) ?_
  refine w_ic (pc' := 39) ⟨rfl, rfl⟩ ?_
  refine w_istore_n (pc' := 40) ⟨rfl, rfl⟩ rfl ?_
  have g1 : zI (zwI (zwI (zwI (zwI (zwI (zwI (zwI σ 164 3 (iZ (0))) 164 1 (iZ (0))) 164 2 (iZ (0))) 164 4 (iZ (-1))) 164 5 (iZ (0))) 164 6 (iZ (-1))) 164 15 (iZ (0))) 164 1 = iZ (0) := ((zI_wI_n (by decide)).trans ((zI_wI_n (by decide)).trans ((zI_wI_n (by decide)).trans ((zI_wI_n (by decide)).trans ((zI_wI_n (by decide)).trans zI_wI_s)))))
  have g2 : zI (zwI (zwI (zwI (zwI (zwI (zwI (zwI σ 164 3 (iZ (0))) 164 1 (iZ (0))) 164 2 (iZ (0))) 164 4 (iZ (-1))) 164 5 (iZ (0))) 164 6 (iZ (-1))) 164 15 (iZ (0))) 164 2 = iZ (0) := ((zI_wI_n (by decide)).trans ((zI_wI_n (by decide)).trans ((zI_wI_n (by decide)).trans ((zI_wI_n (by decide)).trans zI_wI_s))))
  have g3 : zI (zwI (zwI (zwI (zwI (zwI (zwI (zwI σ 164 3 (iZ (0))) 164 1 (iZ (0))) 164 2 (iZ (0))) 164 4 (iZ (-1))) 164 5 (iZ (0))) 164 6 (iZ (-1))) 164 15 (iZ (0))) 164 3 = iZ (0) := ((zI_wI_n (by decide)).trans ((zI_wI_n (by decide)).trans ((zI_wI_n (by decide)).trans ((zI_wI_n (by decide)).trans ((zI_wI_n (by decide)).trans ((zI_wI_n (by decide)).trans zI_wI_s))))))
  have g4 : zI (zwI (zwI (zwI (zwI (zwI (zwI (zwI σ 164 3 (iZ (0))) 164 1 (iZ (0))) 164 2 (iZ (0))) 164 4 (iZ (-1))) 164 5 (iZ (0))) 164 6 (iZ (-1))) 164 15 (iZ (0))) 164 4 = iZ (-1) := ((zI_wI_n (by decide)).trans ((zI_wI_n (by decide)).trans ((zI_wI_n (by decide)).trans zI_wI_s)))
  have g5 : zI (zwI (zwI (zwI (zwI (zwI (zwI (zwI σ 164 3 (iZ (0))) 164 1 (iZ (0))) 164 2 (iZ (0))) 164 4 (iZ (-1))) 164 5 (iZ (0))) 164 6 (iZ (-1))) 164 15 (iZ (0))) 164 5 = iZ (0) := ((zI_wI_n (by decide)).trans ((zI_wI_n (by decide)).trans zI_wI_s))
  have g6 : zI (zwI (zwI (zwI (zwI (zwI (zwI (zwI σ 164 3 (iZ (0))) 164 1 (iZ (0))) 164 2 (iZ (0))) 164 4 (iZ (-1))) 164 5 (iZ (0))) 164 6 (iZ (-1))) 164 15 (iZ (0))) 164 6 = iZ (-1) := ((zI_wI_n (by decide)).trans zI_wI_s)
  have g15 : zI (zwI (zwI (zwI (zwI (zwI (zwI (zwI σ 164 3 (iZ (0))) 164 1 (iZ (0))) 164 2 (iZ (0))) 164 4 (iZ (-1))) 164 5 (iZ (0))) 164 6 (iZ (-1))) 164 15 (iZ (0))) 164 15 = iZ (0) := zI_wI_s
  have hF0 : zFx (zwI (zwI (zwI (zwI (zwI (zwI (zwI σ 164 3 (iZ (0))) 164 1 (iZ (0))) 164 2 (iZ (0))) 164 4 (iZ (-1))) 164 5 (iZ (0))) 164 6 (iZ (-1))) 164 15 (iZ (0))) := (zFx_wI (zFx_wI (zFx_wI (zFx_wI (zFx_wI (zFx_wI (zFx_wI hF)))))))
  have hm0 : zFm (List.range 181) σ (zwI (zwI (zwI (zwI (zwI (zwI (zwI σ 164 3 (iZ (0))) 164 1 (iZ (0))) 164 2 (iZ (0))) 164 4 (iZ (-1))) 164 5 (iZ (0))) 164 6 (iZ (-1))) 164 15 (iZ (0))) := (((((((zFm.wI (List.mem_range.mpr (by decide))).trans (zFm.wI (List.mem_range.mpr (by decide)))).trans (zFm.wI (List.mem_range.mpr (by decide)))).trans (zFm.wI (List.mem_range.mpr (by decide)))).trans (zFm.wI (List.mem_range.mpr (by decide)))).trans (zFm.wI (List.mem_range.mpr (by decide)))).trans (zFm.wI (List.mem_range.mpr (by decide))))
  generalize (zwI (zwI (zwI (zwI (zwI (zwI (zwI σ 164 3 (iZ (0))) 164 1 (iZ (0))) 164 2 (iZ (0))) 164 4 (iZ (-1))) 164 5 (iZ (0))) 164 6 (iZ (-1))) 164 15 (iZ (0))) = σ0 at g1 g2 g3 g4 g5 g6 g15 hF0 hm0 ⊢
  refine w_at (ls2 := [(0, .ref 164), (1, .int (iZ ((0 : Nat) : Int)))]) ?_ (m_draft hF0 (fun σ1 hd => ?_) 170 0 σ0 rfl zFm.refl)
  · exact ⟨rfl, rfl, trivial⟩
  have hF := hd.fx hF0
  have h1 : zI σ1 164 1 = iZ (0) := ((hd.2.2 164 (by decide)).1 1).trans g1
  have h2 : zI σ1 164 2 = iZ (0) := ((hd.2.2 164 (by decide)).1 2).trans g2
  have h3 : zI σ1 164 3 = iZ (0) := ((hd.2.2 164 (by decide)).1 3).trans g3
  have h4 : zI σ1 164 4 = iZ (-1) := ((hd.2.2 164 (by decide)).1 4).trans g4
  have h5 : zI σ1 164 5 = iZ (0) := ((hd.2.2 164 (by decide)).1 5).trans g5
  have h6 : zI σ1 164 6 = iZ (-1) := ((hd.2.2 164 (by decide)).1 6).trans g6
  have h15 : zI σ1 164 15 = iZ (0) := ((hd.2.2 164 (by decide)).1 15).trans g15
  have hm1 : zFm (List.range 181) σ σ1 := hm0.trans (hd.mono (by decide))
  refine w_aload_n (pc' := 61) ⟨rfl, rfl⟩ rfl ?_
  refine w_cv1 (pc' := 64) ⟨rfl, rfl⟩ (by decide) (zOl hF rfl) (Nat.le_of_ble_eq_true rfl) (Nat.le_of_ble_eq_true rfl) (m_look hF h2 h3 ?_)
  refine w_ic (pc' := 65) ⟨rfl, rfl⟩ ?_
  refine w_icF_ne (pc' := 68) ⟨rfl, rfl⟩ (by decide) ?_
  refine w_aload_n (pc' := 69) ⟨rfl, rfl⟩ rfl ?_
  refine w_ic (pc' := 70) ⟨rfl, rfl⟩ ?_
  refine w_aload_n (pc' := 71) ⟨rfl, rfl⟩ rfl ?_
  refine w_getI (pc' := 74) (cl := 10) (q := 3) ⟨rfl, rfl⟩ ⟨rfl, by decide⟩ (zOl hF rfl) h3 ?_
  refine w_cv3 (pc' := 77) ⟨rfl, rfl⟩ (by decide) (zOl hF rfl) (Nat.le_of_ble_eq_true rfl) (Nat.le_of_ble_eq_true rfl) (m_fail hF h5 ?_)
  refine w_aload_n (pc' := 78) ⟨rfl, rfl⟩ rfl ?_
  refine w_getI (pc' := 81) (cl := 10) (q := 5) ⟨rfl, rfl⟩ ⟨rfl, by decide⟩ (zOl hF rfl) ((zI_wI_n (by decide)).trans zI_wI_s) ?_
  refine w_ifT_ne (pc' := 84) (pcT := 99) ⟨rfl, rfl⟩ rfl (by decide) ?_
  refine w_aload_n (pc' := 100) ⟨rfl, rfl⟩ rfl ?_
  refine w_aload_n (pc' := 101) ⟨rfl, rfl⟩ rfl ?_
  refine w_getI (pc' := 104) (cl := 10) (q := 5) ⟨rfl, rfl⟩ ⟨rfl, by decide⟩ (zOl hF rfl) ((zI_wI_n (by decide)).trans zI_wI_s) ?_
  refine w_putI (pc' := 107) (cl := 10) (q := 7) ⟨rfl, rfl⟩ ⟨rfl, by decide⟩ (zOl hF rfl) ?_
  refine w_aload_n (pc' := 108) ⟨rfl, rfl⟩ rfl ?_
  refine w_aload_n (pc' := 109) ⟨rfl, rfl⟩ rfl ?_
  refine w_getI (pc' := 112) (cl := 10) (q := 6) ⟨rfl, rfl⟩ ⟨rfl, by decide⟩ (zOl hF rfl) ((zI_wI_n (by decide)).trans zI_wI_s) ?_
  refine w_putI (pc' := 115) (cl := 10) (q := 8) ⟨rfl, rfl⟩ ⟨rfl, by decide⟩ (zOl hF rfl) ?_
  refine w_aload_n (pc' := 116) ⟨rfl, rfl⟩ rfl ?_
  refine w_getI (pc' := 119) (cl := 10) (q := 5) ⟨rfl, rfl⟩ ⟨rfl, by decide⟩ (zOl hF rfl) ((zI_wI_n (by decide)).trans ((zI_wI_n (by decide)).trans ((zI_wI_n (by decide)).trans zI_wI_s))) ?_
  refine w_ifF_eq (pc' := 122) ⟨rfl, rfl⟩ (by decide) ?_
  refine w_aload_n (pc' := 123) ⟨rfl, rfl⟩ rfl ?_
  refine w_ic (pc' := 124) ⟨rfl, rfl⟩ ?_
  refine w_cv2 (pc' := 127) ⟨rfl, rfl⟩ (by decide) (zOl hF rfl) (Nat.le_of_ble_eq_true rfl) (Nat.le_of_ble_eq_true rfl) (r_refuses (w := 1) (zFx_wI (zFx_wI (zFx_wI (zFx_wI hF)))) (by decide) ?_)
  refine w_ireturn (pc' := 128) ⟨rfl, rfl⟩ (Or.inl rfl) ?_
  exact k _ (hm1.trans (((((zFm.wI (List.mem_range.mpr (by decide))).trans (zFm.wI (List.mem_range.mpr (by decide)))).trans (zFm.wI (List.mem_range.mpr (by decide)))).trans (zFm.wI (List.mem_range.mpr (by decide)))).trans (zFm.wI (List.mem_range.mpr (by decide)))))
