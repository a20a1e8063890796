/-! A CALL OF EACH KIND ON FRESH OBJECTS: the class -/
theorem zFx_wI {σ : zSt} {o k : Nat} {v : Int32} (h : zFx σ) : zFx (zwI σ o k v) := h
def zt0 : zBk := fun _ => 0
def zc0 : Nat → Int := fun _ => 0
theorem zt0V : (0 ≤ zt0 0 ∧ zt0 0 ≤ 3) ∧ (0 ≤ zt0 1 ∧ zt0 1 ≤ 4) ∧ (zt0 0 = 0 → zt0 1 = 0) := by decide
theorem f_shape {σ : zSt} (hF : zFx σ) (hn : zI σ 114 2 = iZ 0) {z : Int} (hz : -2147483648 ≤ z ∧ z ≤ 2147483647) {Q : zSt → Option Value → Prop} (k : Q σ (some .null)) : zCa 57 [.ref 114, .int (iZ z)] σ Q := c_shape hF (Or.inr rfl) hn (by omega) hz (fun h => absurd h (by omega)) (fun _ => k)
theorem f_passage {σ : zSt} (hF : zFx σ) (hn : zI σ 114 3 = iZ 0) {z : Int} (hz : -2147483648 ≤ z ∧ z ≤ 2147483647) {Q : zSt → Option Value → Prop} (k : Q σ (some .null)) : zCa 58 [.ref 114, .int (iZ z)] σ Q := c_passage hF (Or.inr rfl) hn (by omega) hz (fun h => absurd h (by omega)) (fun _ => k)
theorem f_countOf {σ : zSt} (hF : zFx σ) (hC : zCn σ zc0) {z : Int} (hz : -2147483648 ≤ z ∧ z ≤ 2147483647) {Q : zSt → Option Value → Prop} (k : Q σ (some (.int (iZ 0)))) : zCa 68 [.ref 79, .int (iZ z)] σ Q := c_countOf hF hC hz (fun _ => k) (fun _ => k)
theorem f_isScheme {σ : zSt} (hF : zFx σ) (hT : zTr σ zt0) {z : Int} (hz : -2147483648 ≤ z ∧ z ≤ 2147483647) {Q : zSt → Option Value → Prop} (k : Q σ (some (.int (iZ 0)))) : zCa 213 [.ref 164, .int (iZ z)] σ Q := r_isScheme hF hT zt0V hz (fun h => absurd h (show ¬ (0 ≤ z ∧ z < 0) by omega)) (fun _ => k)
theorem f_isCrossing {σ : zSt} (hF : zFx σ) (hT : zTr σ zt0) {z : Int} (hz : -2147483648 ≤ z ∧ z ≤ 2147483647) {Q : zSt → Option Value → Prop} (k : Q σ (some (.int (iZ 0)))) : zCa 218 [.ref 164, .int (iZ z)] σ Q := r_isCrossing hF hT zt0V hz (fun h => absurd h (show ¬ (0 ≤ z ∧ z < 0) by omega)) (fun _ => k)
/-! the class -/
def zaE (n : Int) : Int := if n = 0 then 1 else 0
def zaF (w : Int) : Int := if w = 0 then 0 else if w = 1 then -1 else -1
def zaH (w : Int) : Int := if 0 ≤ w ∧ w ≤ 3 then 0 else -1
def zaS (s : Int) : Int := if s < 0 then 0 else 1
def zaU (w : Int) : Int := if 0 ≤ w ∧ w ≤ 5 then 0 else -1
theorem f_X11_end {σ : zSt} (hF : zFx σ) (hP : zR σ 0 10 = some 114) (hB : zR σ 1 2 = some 5) (hI : zFr1 σ) (hC : zCn σ zc0) {n : Int} (hn : (-2147483648 ≤ n ∧ n ≤ 2147483647)) {Q : zSt → Option Value → Prop} (k : ∀ σ1, zFm (List.range 164) σ σ1 → Q σ1 (some (.int (iZ (zaE n))))) : zCa 126 [.ref 0, .int (iZ n)] σ Q := by
  refine w_enter (c := zk_X11_end) (ls2 := [(0, .ref 0), (1, .int (iZ n))]) rfl ⟨rfl, rfl, trivial⟩ ?_
  have hnS : zI σ 114 2 = iZ 0 := hI 114 2 rfl
  have hnP : zI σ 114 3 = iZ 0 := hI 114 3 rfl
  refine w_iload_n (pc' := 1) ⟨rfl, rfl⟩ rfl ?_
  refine w_if_lt (pc' := 4) (pcT := 15) ⟨rfl, rfl⟩ rfl (by omega) (fun h1 => ?_) (fun h1 => ?_)
  · refine w_aload_n (pc' := 16) ⟨rfl, rfl⟩ rfl ?_
    refine w_getR (pc' := 19) (cl := 9) (q := 5) ⟨rfl, rfl⟩ ⟨rfl, by decide⟩ (zOl hF rfl) (hF.2 0 5 109 rfl) ?_
    refine w_ic (pc' := 20) ⟨rfl, rfl⟩ ?_
    refine w_dup2 (pc' := 21) ⟨rfl, rfl⟩ ?_
    refine w_iald (pc' := 22) ⟨rfl, rfl⟩ (zAl hF rfl) (zixA (j := 0) (by decide)) (show zI _ 109 0 = iZ (0) from hI 109 0 rfl) ?_
    refine w_ic (pc' := 23) ⟨rfl, rfl⟩ ?_
    refine w_iaddZ (pc' := 24) ⟨rfl, rfl⟩ ?_
    refine w_iast (pc' := 25) ⟨rfl, rfl⟩ (zAl hF rfl) (zixA (j := 0) (by decide)) ?_
    refine w_ic (pc' := 26) ⟨rfl, rfl⟩ ?_
    refine w_ireturn (pc' := 27) ⟨rfl, rfl⟩ (by decide) ?_
    exact zQi (k _ (zFm.wI (List.mem_range.mpr (by decide)))) (by unfold zaE; (repeat' split) <;> omega)
  · refine w_iload_n (pc' := 5) ⟨rfl, rfl⟩ rfl ?_
    refine w_aload_n (pc' := 6) ⟨rfl, rfl⟩ rfl ?_
    refine w_getR (pc' := 9) (cl := 9) (q := 0) ⟨rfl, rfl⟩ ⟨rfl, by decide⟩ (zOl hF rfl) (hF.2 0 0 3 rfl) ?_
    refine w_getI (pc' := 12) (cl := 7) (q := 1) ⟨rfl, rfl⟩ ⟨rfl, by decide⟩ (zOl hF rfl) (show zI _ 3 1 = iZ (0) from hI 3 1 rfl) ?_
    refine w_ic_le (pc' := 15) (pcT := 27) ⟨rfl, rfl⟩ rfl (by omega) (by omega) (fun h2 => ?_) (fun h2 => ?_)
    · refine w_aload_n (pc' := 28) ⟨rfl, rfl⟩ rfl ?_
      refine w_getR (pc' := 31) (cl := 9) (q := 0) ⟨rfl, rfl⟩ ⟨rfl, by decide⟩ (zOl hF rfl) (hF.2 0 0 3 rfl) ?_
      refine w_iload_n (pc' := 32) ⟨rfl, rfl⟩ rfl ?_
      refine w_putI (pc' := 35) (cl := 7) (q := 1) ⟨rfl, rfl⟩ ⟨rfl, by decide⟩ (zOl hF rfl) ?_
      refine w_ic (pc' := 36) ⟨rfl, rfl⟩ ?_
      refine w_ireturn (pc' := 37) ⟨rfl, rfl⟩ (by decide) ?_
      exact zQi (k _ (zFm.wI (List.mem_range.mpr (by decide)))) (by unfold zaE; (repeat' split) <;> omega)
    · refine w_aload_n (pc' := 16) ⟨rfl, rfl⟩ rfl ?_
      refine w_getR (pc' := 19) (cl := 9) (q := 5) ⟨rfl, rfl⟩ ⟨rfl, by decide⟩ (zOl hF rfl) (hF.2 0 5 109 rfl) ?_
      refine w_ic (pc' := 20) ⟨rfl, rfl⟩ ?_
      refine w_dup2 (pc' := 21) ⟨rfl, rfl⟩ ?_
      refine w_iald (pc' := 22) ⟨rfl, rfl⟩ (zAl hF rfl) (zixA (j := 0) (by decide)) (show zI _ 109 0 = iZ (0) from hI 109 0 rfl) ?_
      refine w_ic (pc' := 23) ⟨rfl, rfl⟩ ?_
      refine w_iaddZ (pc' := 24) ⟨rfl, rfl⟩ ?_
      refine w_iast (pc' := 25) ⟨rfl, rfl⟩ (zAl hF rfl) (zixA (j := 0) (by decide)) ?_
      refine w_ic (pc' := 26) ⟨rfl, rfl⟩ ?_
      refine w_ireturn (pc' := 27) ⟨rfl, rfl⟩ (by decide) ?_
      exact zQi (k _ (zFm.wI (List.mem_range.mpr (by decide)))) (by unfold zaE; (repeat' split) <;> omega)
theorem f_X11_fault {σ : zSt} (hF : zFx σ) (hP : zR σ 0 10 = some 114) (hB : zR σ 1 2 = some 5) (hI : zFr1 σ) (hC : zCn σ zc0) {w : Int} (hw : (-2147483648 ≤ w ∧ w ≤ 2147483647)) {Q : zSt → Option Value → Prop} (k : ∀ σ1, zFm (List.range 164) σ σ1 → Q σ1 (some (.int (iZ (zaF w))))) : zCa 128 [.ref 0, .int (iZ w)] σ Q := by
  refine w_enter (c := zk_X11_fault) (ls2 := [(0, .ref 0), (1, .int (iZ w))]) rfl ⟨rfl, rfl, trivial⟩ ?_
  have hnS : zI σ 114 2 = iZ 0 := hI 114 2 rfl
  have hnP : zI σ 114 3 = iZ 0 := hI 114 3 rfl
  refine w_iload_n (pc' := 1) ⟨rfl, rfl⟩ rfl ?_
  refine w_if_ne (pc' := 4) (pcT := 14) ⟨rfl, rfl⟩ rfl (by omega) (fun h1 => ?_) (fun h1 => ?_)
  · refine w_iload_n (pc' := 15) ⟨rfl, rfl⟩ rfl ?_
    refine w_ic (pc' := 16) ⟨rfl, rfl⟩ ?_
    refine w_ic_ne (pc' := 19) (pcT := 29) ⟨rfl, rfl⟩ rfl (by omega) (by omega) (fun h2 => ?_) (fun h2 => ?_)
    · refine w_ic (pc' := 30) ⟨rfl, rfl⟩ ?_
      refine w_ireturn (pc' := 31) ⟨rfl, rfl⟩ (Or.inl rfl) ?_
      exact zQi (k _ zFm.refl) (by unfold zaF; (repeat' split) <;> omega)
    · refine w_aload_n (pc' := 20) ⟨rfl, rfl⟩ rfl ?_
      refine w_getR (pc' := 23) (cl := 9) (q := 1) ⟨rfl, rfl⟩ ⟨rfl, by decide⟩ (zOl hF rfl) (hF.2 0 1 1 rfl) ?_
      refine w_getI (pc' := 26) (cl := 0) (q := 19) ⟨rfl, rfl⟩ ⟨rfl, by decide⟩ (zOl hF rfl) (show zI _ 1 19 = iZ (-1) from hI 1 19 rfl) ?_
      refine w_goto (pc' := 29) (pcT := 30) ⟨rfl, rfl⟩ rfl ?_
      refine w_ireturn (pc' := 31) ⟨rfl, rfl⟩ (Or.inl rfl) ?_
      exact zQi (k _ zFm.refl) (by unfold zaF; (repeat' split) <;> omega)
  · refine w_aload_n (pc' := 5) ⟨rfl, rfl⟩ rfl ?_
    refine w_getR (pc' := 8) (cl := 9) (q := 1) ⟨rfl, rfl⟩ ⟨rfl, by decide⟩ (zOl hF rfl) (hF.2 0 1 1 rfl) ?_
    refine w_getI (pc' := 11) (cl := 0) (q := 18) ⟨rfl, rfl⟩ ⟨rfl, by decide⟩ (zOl hF rfl) (show zI _ 1 18 = iZ (0) from hI 1 18 rfl) ?_
    refine w_goto (pc' := 14) (pcT := 30) ⟨rfl, rfl⟩ rfl ?_
    refine w_ireturn (pc' := 31) ⟨rfl, rfl⟩ (Or.inl rfl) ?_
    exact zQi (k _ zFm.refl) (by unfold zaF; (repeat' split) <;> omega)
theorem f_X11_hasOfScheme {σ : zSt} (hF : zFx σ) (hP : zR σ 0 10 = some 114) (hB : zR σ 1 2 = some 5) (hI : zFr1 σ) (hC : zCn σ zc0) {w : Int} (hw : (-2147483648 ≤ w ∧ w ≤ 2147483647)) {Q : zSt → Option Value → Prop} (k : Q σ (some (.int (iZ (-1))))) : zCa 130 [.ref 0, .int (iZ w)] σ Q := by
  refine w_enter (c := zk_X11_hasOfScheme) (ls2 := [(0, .ref 0), (1, .int (iZ w))]) rfl ⟨rfl, rfl, trivial⟩ ?_
  have hnS : zI σ 114 2 = iZ 0 := hI 114 2 rfl
  have hnP : zI σ 114 3 = iZ 0 := hI 114 3 rfl
  refine w_iload_n (pc' := 1) ⟨rfl, rfl⟩ rfl ?_
  refine w_ic (pc' := 2) ⟨rfl, rfl⟩ ?_
  refine w_ic_lt (pc' := 5) (pcT := 11) ⟨rfl, rfl⟩ rfl (by omega) (by omega) (fun h1 => ?_) (fun h1 => ?_)
  · refine w_ic (pc' := 12) ⟨rfl, rfl⟩ ?_
    refine w_ireturn (pc' := 13) ⟨rfl, rfl⟩ (Or.inl rfl) ?_
    exact k
  · refine w_iload_n (pc' := 6) ⟨rfl, rfl⟩ rfl ?_
    refine w_bi (pc' := 8) ⟨rfl, rfl⟩ (by decide) ?_
    refine w_ic_le (pc' := 11) (pcT := 13) ⟨rfl, rfl⟩ rfl (by omega) (by omega) (fun h2 => ?_) (fun h2 => ?_)
    · refine w_iload_n (pc' := 14) ⟨rfl, rfl⟩ rfl ?_
      refine w_bi (pc' := 16) ⟨rfl, rfl⟩ (by decide) ?_
      refine w_ic_ge (pc' := 19) (pcT := 25) ⟨rfl, rfl⟩ rfl (by omega) (by omega) (fun h3 => ?_) (fun h3 => ?_)
      · refine w_iload_n (pc' := 26) ⟨rfl, rfl⟩ rfl ?_
        refine w_bi (pc' := 28) ⟨rfl, rfl⟩ (by decide) ?_
        refine w_isubZ (pc' := 29) ⟨rfl, rfl⟩ ?_
        refine w_istore_n (pc' := 30) ⟨rfl, rfl⟩ rfl ?_
        refine w_aload_n (pc' := 31) ⟨rfl, rfl⟩ rfl ?_
        refine w_getR (pc' := 34) (cl := 9) (q := 10) ⟨rfl, rfl⟩ ⟨rfl, by decide⟩ (zOl hF rfl) hP ?_
        refine w_iload_n (pc' := 35) ⟨rfl, rfl⟩ rfl ?_
        refine w_cv2 (pc' := 38) ⟨rfl, rfl⟩ (by decide) (zOl hF rfl) (Nat.le_of_ble_eq_true rfl) (Nat.le_of_ble_eq_true rfl) (f_shape hF (show zI _ 114 2 = iZ (0) from hI 114 2 rfl) (by omega) ?_)
        refine w_astore_nN (pc' := 39) ⟨rfl, rfl⟩ rfl ?_
        refine w_aload_nN (pc' := 40) ⟨rfl, rfl⟩ rfl ?_
        refine w_ifnonnullN (pc' := 43) (pcT := 45) ⟨rfl, rfl⟩ rfl  ?_
        refine w_ic (pc' := 44) ⟨rfl, rfl⟩ ?_
        refine w_ireturn (pc' := 45) ⟨rfl, rfl⟩ (Or.inl rfl) ?_
        exact k
      · refine w_iload_n (pc' := 20) ⟨rfl, rfl⟩ rfl ?_
        refine w_ic (pc' := 21) ⟨rfl, rfl⟩ ?_
        refine w_isubZ (pc' := 22) ⟨rfl, rfl⟩ ?_
        refine w_goto (pc' := 25) (pcT := 29) ⟨rfl, rfl⟩ rfl ?_
        refine w_istore_n (pc' := 30) ⟨rfl, rfl⟩ rfl ?_
        refine w_aload_n (pc' := 31) ⟨rfl, rfl⟩ rfl ?_
        refine w_getR (pc' := 34) (cl := 9) (q := 10) ⟨rfl, rfl⟩ ⟨rfl, by decide⟩ (zOl hF rfl) hP ?_
        refine w_iload_n (pc' := 35) ⟨rfl, rfl⟩ rfl ?_
        refine w_cv2 (pc' := 38) ⟨rfl, rfl⟩ (by decide) (zOl hF rfl) (Nat.le_of_ble_eq_true rfl) (Nat.le_of_ble_eq_true rfl) (f_shape hF (show zI _ 114 2 = iZ (0) from hI 114 2 rfl) (by omega) ?_)
        refine w_astore_nN (pc' := 39) ⟨rfl, rfl⟩ rfl ?_
        refine w_aload_nN (pc' := 40) ⟨rfl, rfl⟩ rfl ?_
        refine w_ifnonnullN (pc' := 43) (pcT := 45) ⟨rfl, rfl⟩ rfl  ?_
        refine w_ic (pc' := 44) ⟨rfl, rfl⟩ ?_
        refine w_ireturn (pc' := 45) ⟨rfl, rfl⟩ (Or.inl rfl) ?_
        exact k
    · refine w_ic (pc' := 12) ⟨rfl, rfl⟩ ?_
      refine w_ireturn (pc' := 13) ⟨rfl, rfl⟩ (Or.inl rfl) ?_
      exact k
theorem f_X11_has {σ : zSt} (hF : zFx σ) (hP : zR σ 0 10 = some 114) (hB : zR σ 1 2 = some 5) (hI : zFr1 σ) (hC : zCn σ zc0) {w : Int} (hw : (-2147483648 ≤ w ∧ w ≤ 2147483647)) {Q : zSt → Option Value → Prop} (k : ∀ σ1, zFm (List.range 164) σ σ1 → Q σ1 (some (.int (iZ (zaH w))))) : zCa 129 [.ref 0, .int (iZ w)] σ Q := by
  refine w_enter (c := zk_X11_has) (ls2 := [(0, .ref 0), (1, .int (iZ w))]) rfl ⟨rfl, rfl, trivial⟩ ?_
  have hnS : zI σ 114 2 = iZ 0 := hI 114 2 rfl
  have hnP : zI σ 114 3 = iZ 0 := hI 114 3 rfl
  refine w_iload_n (pc' := 1) ⟨rfl, rfl⟩ rfl ?_
  rcases Classical.em (w < 0 ∨ 3 < w) with hs | hs
  · refine w_tsOutZ (pc' := 32) (pcT := 83) ⟨rfl, rfl⟩ rfl (by omega) ?_
    refine w_aload_n (pc' := 84) ⟨rfl, rfl⟩ rfl ?_
    refine w_iload_n (pc' := 85) ⟨rfl, rfl⟩ rfl ?_
    refine w_cv2 (pc' := 88) ⟨rfl, rfl⟩ (by decide) (zOl hF rfl) (Nat.le_of_ble_eq_true rfl) (Nat.le_of_ble_eq_true rfl) (f_X11_hasOfScheme hF hP hB hI hC (by omega) ?_)
    refine w_ireturn (pc' := 89) ⟨rfl, rfl⟩ (Or.inl rfl) ?_
    exact zQi (k _ zFm.refl) (by unfold zaH; (repeat' split) <;> omega)
  · rcases (show w = 0 ∨ w = 1 ∨ w = 2 ∨ w = 3 by omega) with hj | hj | hj | hj
    · refine w_tsInZ (pc' := 32) (pcT := 32) 0 ⟨rfl, rfl⟩ (by omega) (by decide) rfl rfl ?_
      refine w_aload_n (pc' := 33) ⟨rfl, rfl⟩ rfl ?_
      refine w_getR (pc' := 36) (cl := 9) (q := 10) ⟨rfl, rfl⟩ ⟨rfl, by decide⟩ (zOl hF rfl) hP ?_
      refine w_getI (pc' := 39) (cl := 3) (q := 2) ⟨rfl, rfl⟩ ⟨rfl, by decide⟩ (zOl hF rfl) (show zI _ 114 2 = iZ (0) from hI 114 2 rfl) ?_
      refine w_ireturn (pc' := 40) ⟨rfl, rfl⟩ (Or.inl rfl) ?_
      exact zQi (k _ zFm.refl) (by unfold zaH; (repeat' split) <;> omega)
    · refine w_tsInZ (pc' := 32) (pcT := 40) 1 ⟨rfl, rfl⟩ (by omega) (by decide) rfl rfl ?_
      refine w_aload_n (pc' := 41) ⟨rfl, rfl⟩ rfl ?_
      refine w_getR (pc' := 44) (cl := 9) (q := 10) ⟨rfl, rfl⟩ ⟨rfl, by decide⟩ (zOl hF rfl) hP ?_
      refine w_getI (pc' := 47) (cl := 3) (q := 3) ⟨rfl, rfl⟩ ⟨rfl, by decide⟩ (zOl hF rfl) (show zI _ 114 3 = iZ (0) from hI 114 3 rfl) ?_
      refine w_ireturn (pc' := 48) ⟨rfl, rfl⟩ (Or.inl rfl) ?_
      exact zQi (k _ zFm.refl) (by unfold zaH; (repeat' split) <;> omega)
    · refine w_tsInZ (pc' := 32) (pcT := 48) 2 ⟨rfl, rfl⟩ (by omega) (by decide) rfl rfl ?_
      refine w_aload_n (pc' := 49) ⟨rfl, rfl⟩ rfl ?_
      refine w_getR (pc' := 52) (cl := 9) (q := 2) ⟨rfl, rfl⟩ ⟨rfl, by decide⟩ (zOl hF rfl) (hF.2 0 2 79 rfl) ?_
      refine w_ic (pc' := 53) ⟨rfl, rfl⟩ ?_
      refine w_cv2 (pc' := 56) ⟨rfl, rfl⟩ (by decide) (zOl hF rfl) (Nat.le_of_ble_eq_true rfl) (Nat.le_of_ble_eq_true rfl) (f_countOf hF hC (by omega) ?_)
      refine w_aload_n (pc' := 57) ⟨rfl, rfl⟩ rfl ?_
      refine w_getR (pc' := 60) (cl := 9) (q := 2) ⟨rfl, rfl⟩ ⟨rfl, by decide⟩ (zOl hF rfl) (hF.2 0 2 79 rfl) ?_
      refine w_ic (pc' := 61) ⟨rfl, rfl⟩ ?_
      refine w_cv2 (pc' := 64) ⟨rfl, rfl⟩ (by decide) (zOl hF rfl) (Nat.le_of_ble_eq_true rfl) (Nat.le_of_ble_eq_true rfl) (f_countOf hF hC (by omega) ?_)
      refine w_iaddZ (pc' := 65) ⟨rfl, rfl⟩ ?_
      refine w_aload_n (pc' := 66) ⟨rfl, rfl⟩ rfl ?_
      refine w_getR (pc' := 69) (cl := 9) (q := 2) ⟨rfl, rfl⟩ ⟨rfl, by decide⟩ (zOl hF rfl) (hF.2 0 2 79 rfl) ?_
      refine w_ic (pc' := 70) ⟨rfl, rfl⟩ ?_
      refine w_cv2 (pc' := 73) ⟨rfl, rfl⟩ (by decide) (zOl hF rfl) (Nat.le_of_ble_eq_true rfl) (Nat.le_of_ble_eq_true rfl) (f_countOf hF hC (by omega) ?_)
      refine w_iaddZ (pc' := 74) ⟨rfl, rfl⟩ ?_
      refine w_ireturn (pc' := 75) ⟨rfl, rfl⟩ (Or.inl rfl) ?_
      exact zQi (k _ zFm.refl) (by unfold zaH; (repeat' split) <;> omega)
    · refine w_tsInZ (pc' := 32) (pcT := 75) 3 ⟨rfl, rfl⟩ (by omega) (by decide) rfl rfl ?_
      refine w_aload_n (pc' := 76) ⟨rfl, rfl⟩ rfl ?_
      refine w_getR (pc' := 79) (cl := 9) (q := 2) ⟨rfl, rfl⟩ ⟨rfl, by decide⟩ (zOl hF rfl) (hF.2 0 2 79 rfl) ?_
      refine w_getI (pc' := 82) (cl := 4) (q := 3) ⟨rfl, rfl⟩ ⟨rfl, by decide⟩ (zOl hF rfl) (show zI _ 79 3 = iZ (0) from hI 79 3 rfl) ?_
      refine w_ireturn (pc' := 83) ⟨rfl, rfl⟩ (Or.inl rfl) ?_
      exact zQi (k _ zFm.refl) (by unfold zaH; (repeat' split) <;> omega)
theorem f_X11_letter {σ : zSt} (hF : zFx σ) (hP : zR σ 0 10 = some 114) (hB : zR σ 1 2 = some 5) (hI : zFr1 σ) (hC : zCn σ zc0) {s : Int} (hs : (-2147483648 ≤ s ∧ s ≤ 2147483647)) {f : Int} (hf : (-2147483648 ≤ f ∧ f ≤ 2147483647)) {l : Int} (hl : (-2147483648 ≤ l ∧ l ≤ 2147483647)) {Q : zSt → Option Value → Prop} (k : ∀ σ1, zFm (List.range 164) σ σ1 → Q σ1 (some (.int (iZ (-1))))) : zCa 131 [.ref 0, .int (iZ s), .int (iZ f), .int (iZ l)] σ Q := by
  refine w_enter (c := zk_X11_letter) (ls2 := [(0, .ref 0), (1, .int (iZ s)), (2, .int (iZ f)), (3, .int (iZ l))]) rfl ⟨rfl, rfl, rfl, rfl, trivial⟩ ?_
  have hnS : zI σ 114 2 = iZ 0 := hI 114 2 rfl
  have hnP : zI σ 114 3 = iZ 0 := hI 114 3 rfl
  refine w_aload_n (pc' := 1) ⟨rfl, rfl⟩ rfl ?_
  refine w_getR (pc' := 4) (cl := 9) (q := 10) ⟨rfl, rfl⟩ ⟨rfl, by decide⟩ (zOl hF rfl) hP ?_
  refine w_iload_n (pc' := 5) ⟨rfl, rfl⟩ rfl ?_
  refine w_cv2 (pc' := 8) ⟨rfl, rfl⟩ (by decide) (zOl hF rfl) (Nat.le_of_ble_eq_true rfl) (Nat.le_of_ble_eq_true rfl) (f_shape hF (show zI _ 114 2 = iZ (0) from hI 114 2 rfl) (by omega) ?_)
  refine w_astoreN (pc' := 10) ⟨rfl, rfl⟩ rfl ?_
  refine w_aloadN (pc' := 12) ⟨rfl, rfl⟩ rfl ?_
  refine w_ifnullN (pc' := 15) (pcT := 25) ⟨rfl, rfl⟩ rfl  ?_
  refine w_ic (pc' := 26) ⟨rfl, rfl⟩ ?_
  refine w_ireturn (pc' := 27) ⟨rfl, rfl⟩ (Or.inl rfl) ?_
  exact k _ zFm.refl
theorem f_X11_field {σ : zSt} (hF : zFx σ) (hP : zR σ 0 10 = some 114) (hB : zR σ 1 2 = some 5) (hI : zFr1 σ) (hC : zCn σ zc0) {s : Int} (hs : (-2147483648 ≤ s ∧ s ≤ 2147483647)) {f : Int} (hf : (-2147483648 ≤ f ∧ f ≤ 2147483647)) {w : Int} (hw : (-2147483648 ≤ w ∧ w ≤ 2147483647)) {Q : zSt → Option Value → Prop} (k : ∀ σ1, zFm (List.range 164) σ σ1 → Q σ1 (some (.int (iZ (-1))))) : zCa 133 [.ref 0, .int (iZ s), .int (iZ f), .int (iZ w)] σ Q := by
  refine w_enter (c := zk_X11_field) (ls2 := [(0, .ref 0), (1, .int (iZ s)), (2, .int (iZ f)), (3, .int (iZ w))]) rfl ⟨rfl, rfl, rfl, rfl, trivial⟩ ?_
  have hnS : zI σ 114 2 = iZ 0 := hI 114 2 rfl
  have hnP : zI σ 114 3 = iZ 0 := hI 114 3 rfl
  refine w_aload_n (pc' := 1) ⟨rfl, rfl⟩ rfl ?_
  refine w_getR (pc' := 4) (cl := 9) (q := 10) ⟨rfl, rfl⟩ ⟨rfl, by decide⟩ (zOl hF rfl) hP ?_
  refine w_iload_n (pc' := 5) ⟨rfl, rfl⟩ rfl ?_
  refine w_cv2 (pc' := 8) ⟨rfl, rfl⟩ (by decide) (zOl hF rfl) (Nat.le_of_ble_eq_true rfl) (Nat.le_of_ble_eq_true rfl) (f_shape hF (show zI _ 114 2 = iZ (0) from hI 114 2 rfl) (by omega) ?_)
  refine w_astoreN (pc' := 10) ⟨rfl, rfl⟩ rfl ?_
  refine w_aloadN (pc' := 12) ⟨rfl, rfl⟩ rfl ?_
  refine w_ifnullN (pc' := 15) (pcT := 24) ⟨rfl, rfl⟩ rfl  ?_
  refine w_ic (pc' := 25) ⟨rfl, rfl⟩ ?_
  refine w_ireturn (pc' := 26) ⟨rfl, rfl⟩ (Or.inl rfl) ?_
  exact k _ zFm.refl
theorem f_X11_crossing {σ : zSt} (hF : zFx σ) (hP : zR σ 0 10 = some 114) (hB : zR σ 1 2 = some 5) (hI : zFr1 σ) (hC : zCn σ zc0) {c : Int} (hc : (-2147483648 ≤ c ∧ c ≤ 2147483647)) {w : Int} (hw : (-2147483648 ≤ w ∧ w ≤ 2147483647)) {Q : zSt → Option Value → Prop} (k : ∀ σ1, zFm (List.range 164) σ σ1 → Q σ1 (some (.int (iZ (-1))))) : zCa 134 [.ref 0, .int (iZ c), .int (iZ w)] σ Q := by
  refine w_enter (c := zk_X11_crossing) (ls2 := [(0, .ref 0), (1, .int (iZ c)), (2, .int (iZ w))]) rfl ⟨rfl, rfl, rfl, trivial⟩ ?_
  have hnS : zI σ 114 2 = iZ 0 := hI 114 2 rfl
  have hnP : zI σ 114 3 = iZ 0 := hI 114 3 rfl
  refine w_aload_n (pc' := 1) ⟨rfl, rfl⟩ rfl ?_
  refine w_getR (pc' := 4) (cl := 9) (q := 10) ⟨rfl, rfl⟩ ⟨rfl, by decide⟩ (zOl hF rfl) hP ?_
  refine w_iload_n (pc' := 5) ⟨rfl, rfl⟩ rfl ?_
  refine w_cv2 (pc' := 8) ⟨rfl, rfl⟩ (by decide) (zOl hF rfl) (Nat.le_of_ble_eq_true rfl) (Nat.le_of_ble_eq_true rfl) (f_passage hF (show zI _ 114 3 = iZ (0) from hI 114 3 rfl) (by omega) ?_)
  refine w_astore_nN (pc' := 9) ⟨rfl, rfl⟩ rfl ?_
  refine w_aload_nN (pc' := 10) ⟨rfl, rfl⟩ rfl ?_
  refine w_ifnonnullN (pc' := 13) (pcT := 15) ⟨rfl, rfl⟩ rfl  ?_
  refine w_ic (pc' := 14) ⟨rfl, rfl⟩ ?_
  refine w_ireturn (pc' := 15) ⟨rfl, rfl⟩ (Or.inl rfl) ?_
  exact k _ zFm.refl
theorem f_X11_rule {σ : zSt} (hF : zFx σ) (hP : zR σ 0 10 = some 114) (hB : zR σ 1 2 = some 5) (hI : zFr1 σ) (hC : zCn σ zc0) {c : Int} (hc : (-2147483648 ≤ c ∧ c ≤ 2147483647)) {r : Int} (hr : (-2147483648 ≤ r ∧ r ≤ 2147483647)) {w : Int} (hw : (-2147483648 ≤ w ∧ w ≤ 2147483647)) {Q : zSt → Option Value → Prop} (k : ∀ σ1, zFm (List.range 164) σ σ1 → Q σ1 (some (.int (iZ (-1))))) : zCa 135 [.ref 0, .int (iZ c), .int (iZ r), .int (iZ w)] σ Q := by
  refine w_enter (c := zk_X11_rule) (ls2 := [(0, .ref 0), (1, .int (iZ c)), (2, .int (iZ r)), (3, .int (iZ w))]) rfl ⟨rfl, rfl, rfl, rfl, trivial⟩ ?_
  have hnS : zI σ 114 2 = iZ 0 := hI 114 2 rfl
  have hnP : zI σ 114 3 = iZ 0 := hI 114 3 rfl
  refine w_aload_n (pc' := 1) ⟨rfl, rfl⟩ rfl ?_
  refine w_getR (pc' := 4) (cl := 9) (q := 10) ⟨rfl, rfl⟩ ⟨rfl, by decide⟩ (zOl hF rfl) hP ?_
  refine w_iload_n (pc' := 5) ⟨rfl, rfl⟩ rfl ?_
  refine w_cv2 (pc' := 8) ⟨rfl, rfl⟩ (by decide) (zOl hF rfl) (Nat.le_of_ble_eq_true rfl) (Nat.le_of_ble_eq_true rfl) (f_passage hF (show zI _ 114 3 = iZ (0) from hI 114 3 rfl) (by omega) ?_)
  refine w_astoreN (pc' := 10) ⟨rfl, rfl⟩ rfl ?_
  refine w_aloadN (pc' := 12) ⟨rfl, rfl⟩ rfl ?_
  refine w_ifnonnullN (pc' := 15) (pcT := 19) ⟨rfl, rfl⟩ rfl  ?_
  refine w_null (pc' := 16) ⟨rfl, rfl⟩ ?_
  refine w_goto (pc' := 19) (pcT := 25) ⟨rfl, rfl⟩ rfl ?_
  refine w_astoreN (pc' := 27) ⟨rfl, rfl⟩ rfl ?_
  refine w_aloadN (pc' := 29) ⟨rfl, rfl⟩ rfl ?_
  refine w_ifnonnullN (pc' := 32) (pcT := 34) ⟨rfl, rfl⟩ rfl  ?_
  refine w_ic (pc' := 33) ⟨rfl, rfl⟩ ?_
  refine w_ireturn (pc' := 34) ⟨rfl, rfl⟩ (Or.inl rfl) ?_
  exact k _ zFm.refl
theorem f_X11_rowSort {σ : zSt} (hF : zFx σ) (hP : zR σ 0 10 = some 114) (hB : zR σ 1 2 = some 5) (hI : zFr1 σ) (hC : zCn σ zc0) {s : Int} (hs : (-2147483648 ≤ s ∧ s ≤ 2147483647)) {r : Int} (hr : (-2147483648 ≤ r ∧ r ≤ 2147483647)) {Q : zSt → Option Value → Prop} (k : Q σ (some (.int (iZ (-4))))) : zCa 145 [.ref 0, .int (iZ s), .int (iZ r)] σ Q := by
  refine w_enter (c := zk_X11_rowSort) (ls2 := [(0, .ref 0), (1, .int (iZ s)), (2, .int (iZ r))]) rfl ⟨rfl, rfl, rfl, trivial⟩ ?_
  have hnS : zI σ 114 2 = iZ 0 := hI 114 2 rfl
  have hnP : zI σ 114 3 = iZ 0 := hI 114 3 rfl
  refine w_aload_n (pc' := 1) ⟨rfl, rfl⟩ rfl ?_
  refine w_getR (pc' := 4) (cl := 9) (q := 10) ⟨rfl, rfl⟩ ⟨rfl, by decide⟩ (zOl hF rfl) hP ?_
  refine w_iload_n (pc' := 5) ⟨rfl, rfl⟩ rfl ?_
  refine w_cv2 (pc' := 8) ⟨rfl, rfl⟩ (by decide) (zOl hF rfl) (Nat.le_of_ble_eq_true rfl) (Nat.le_of_ble_eq_true rfl) (f_shape hF (show zI _ 114 2 = iZ (0) from hI 114 2 rfl) (by omega) ?_)
  refine w_astore_nN (pc' := 9) ⟨rfl, rfl⟩ rfl ?_
  refine w_aload_nN (pc' := 10) ⟨rfl, rfl⟩ rfl ?_
  refine w_ifnullN (pc' := 13) (pcT := 23) ⟨rfl, rfl⟩ rfl  ?_
  refine w_bi (pc' := 25) ⟨rfl, rfl⟩ (by decide) ?_
  refine w_ireturn (pc' := 26) ⟨rfl, rfl⟩ (Or.inl rfl) ?_
  exact k
theorem f_X11_kindRefusal {σ : zSt} (hF : zFx σ) (hP : zR σ 0 10 = some 114) (hB : zR σ 1 2 = some 5) (hI : zFr1 σ) (hC : zCn σ zc0) {s : Int} (hs : (-2147483648 ≤ s ∧ s ≤ 2147483647)) {r : Int} (hr : (-2147483648 ≤ r ∧ r ≤ 2147483647)) {p : Int} (hp : (-2147483648 ≤ p ∧ p ≤ 2147483647)) {q : Int} (hq : (-2147483648 ≤ q ∧ q ≤ 2147483647)) {Q : zSt → Option Value → Prop} (k : Q σ (some (.int (iZ (-4))))) : zCa 147 [.ref 0, .int (iZ s), .int (iZ r), .int (iZ p), .int (iZ q)] σ Q := by
  refine w_enter (c := zk_X11_kindRefusal) (ls2 := [(0, .ref 0), (1, .int (iZ s)), (2, .int (iZ r)), (3, .int (iZ p)), (4, .int (iZ q))]) rfl ⟨rfl, rfl, rfl, rfl, rfl, trivial⟩ ?_
  have hnS : zI σ 114 2 = iZ 0 := hI 114 2 rfl
  have hnP : zI σ 114 3 = iZ 0 := hI 114 3 rfl
  refine w_iload (pc' := 2) ⟨rfl, rfl⟩ rfl ?_
  refine w_if_lt (pc' := 5) (pcT := 12) ⟨rfl, rfl⟩ rfl (by omega) (fun h1 => ?_) (fun h1 => ?_)
  · refine w_bi (pc' := 14) ⟨rfl, rfl⟩ (by decide) ?_
    refine w_ireturn (pc' := 15) ⟨rfl, rfl⟩ (Or.inl rfl) ?_
    exact k
  · refine w_iload (pc' := 7) ⟨rfl, rfl⟩ rfl ?_
    refine w_bi (pc' := 9) ⟨rfl, rfl⟩ (by decide) ?_
    refine w_ic_le (pc' := 12) (pcT := 15) ⟨rfl, rfl⟩ rfl (by omega) (by omega) (fun h2 => ?_) (fun h2 => ?_)
    · refine w_aload_n (pc' := 16) ⟨rfl, rfl⟩ rfl ?_
      refine w_iload_n (pc' := 17) ⟨rfl, rfl⟩ rfl ?_
      refine w_iload_n (pc' := 18) ⟨rfl, rfl⟩ rfl ?_
      refine w_cv3 (pc' := 21) ⟨rfl, rfl⟩ (by decide) (zOl hF rfl) (Nat.le_of_ble_eq_true rfl) (Nat.le_of_ble_eq_true rfl) (f_X11_rowSort hF hP hB hI hC (by omega) (by omega) ?_)
      refine w_istore (pc' := 23) ⟨rfl, rfl⟩ rfl ?_
      refine w_iload (pc' := 25) ⟨rfl, rfl⟩ rfl ?_
      refine w_ifF_ge (pc' := 28) ⟨rfl, rfl⟩ (by decide) ?_
      refine w_iload (pc' := 30) ⟨rfl, rfl⟩ rfl ?_
      refine w_ireturn (pc' := 31) ⟨rfl, rfl⟩ (Or.inl rfl) ?_
      exact k
    · refine w_bi (pc' := 14) ⟨rfl, rfl⟩ (by decide) ?_
      refine w_ireturn (pc' := 15) ⟨rfl, rfl⟩ (Or.inl rfl) ?_
      exact k
theorem f_X11_thingRefusal {σ : zSt} (hF : zFx σ) (hP : zR σ 0 10 = some 114) (hB : zR σ 1 2 = some 5) (hI : zFr1 σ) (hC : zCn σ zc0) {s : Int} (hs : (-2147483648 ≤ s ∧ s ≤ 2147483647)) {r : Int} (hr : (-2147483648 ≤ r ∧ r ≤ 2147483647)) {p : Int} (hp : (-2147483648 ≤ p ∧ p ≤ 2147483647)) {q : Int} (hq : (-2147483648 ≤ q ∧ q ≤ 2147483647)) {Q : zSt → Option Value → Prop} (k : Q σ (some (.int (iZ (-4))))) : zCa 148 [.ref 0, .int (iZ s), .int (iZ r), .int (iZ p), .int (iZ q)] σ Q := by
  refine w_enter (c := zk_X11_thingRefusal) (ls2 := [(0, .ref 0), (1, .int (iZ s)), (2, .int (iZ r)), (3, .int (iZ p)), (4, .int (iZ q))]) rfl ⟨rfl, rfl, rfl, rfl, rfl, trivial⟩ ?_
  have hnS : zI σ 114 2 = iZ 0 := hI 114 2 rfl
  have hnP : zI σ 114 3 = iZ 0 := hI 114 3 rfl
  refine w_iload (pc' := 2) ⟨rfl, rfl⟩ rfl ?_
  refine w_if_lt (pc' := 5) (pcT := 12) ⟨rfl, rfl⟩ rfl (by omega) (fun h1 => ?_) (fun h1 => ?_)
  · refine w_bi (pc' := 14) ⟨rfl, rfl⟩ (by decide) ?_
    refine w_ireturn (pc' := 15) ⟨rfl, rfl⟩ (Or.inl rfl) ?_
    exact k
  · refine w_iload (pc' := 7) ⟨rfl, rfl⟩ rfl ?_
    refine w_bi (pc' := 9) ⟨rfl, rfl⟩ (by decide) ?_
    refine w_ic_le (pc' := 12) (pcT := 15) ⟨rfl, rfl⟩ rfl (by omega) (by omega) (fun h2 => ?_) (fun h2 => ?_)
    · refine w_aload_n (pc' := 16) ⟨rfl, rfl⟩ rfl ?_
      refine w_iload_n (pc' := 17) ⟨rfl, rfl⟩ rfl ?_
      refine w_iload_n (pc' := 18) ⟨rfl, rfl⟩ rfl ?_
      refine w_cv3 (pc' := 21) ⟨rfl, rfl⟩ (by decide) (zOl hF rfl) (Nat.le_of_ble_eq_true rfl) (Nat.le_of_ble_eq_true rfl) (f_X11_rowSort hF hP hB hI hC (by omega) (by omega) ?_)
      refine w_istore (pc' := 23) ⟨rfl, rfl⟩ rfl ?_
      refine w_iload (pc' := 25) ⟨rfl, rfl⟩ rfl ?_
      refine w_ifF_ge (pc' := 28) ⟨rfl, rfl⟩ (by decide) ?_
      refine w_iload (pc' := 30) ⟨rfl, rfl⟩ rfl ?_
      refine w_ireturn (pc' := 31) ⟨rfl, rfl⟩ (Or.inl rfl) ?_
      exact k
    · refine w_bi (pc' := 14) ⟨rfl, rfl⟩ (by decide) ?_
      refine w_ireturn (pc' := 15) ⟨rfl, rfl⟩ (Or.inl rfl) ?_
      exact k
theorem f_X11_length {σ : zSt} (hF : zFx σ) (hP : zR σ 0 10 = some 114) (hB : zR σ 1 2 = some 5) (hI : zFr1 σ) (hC : zCn σ zc0) {s : Int} (hs : (-2147483648 ≤ s ∧ s ≤ 2147483647)) {r : Int} (hr : (-2147483648 ≤ r ∧ r ≤ 2147483647)) {Q : zSt → Option Value → Prop} (k : ∀ σ1, zFm (List.range 164) σ σ1 → Q σ1 (some (.int (iZ (-4))))) : zCa 137 [.ref 0, .int (iZ s), .int (iZ r)] σ Q := by
  refine w_enter (c := zk_X11_length) (ls2 := [(0, .ref 0), (1, .int (iZ s)), (2, .int (iZ r))]) rfl ⟨rfl, rfl, rfl, trivial⟩ ?_
  have hnS : zI σ 114 2 = iZ 0 := hI 114 2 rfl
  have hnP : zI σ 114 3 = iZ 0 := hI 114 3 rfl
  refine w_aload_n (pc' := 1) ⟨rfl, rfl⟩ rfl ?_
  refine w_iload_n (pc' := 2) ⟨rfl, rfl⟩ rfl ?_
  refine w_iload_n (pc' := 3) ⟨rfl, rfl⟩ rfl ?_
  refine w_cv3 (pc' := 6) ⟨rfl, rfl⟩ (by decide) (zOl hF rfl) (Nat.le_of_ble_eq_true rfl) (Nat.le_of_ble_eq_true rfl) (f_X11_rowSort hF hP hB hI hC (by omega) (by omega) ?_)
  refine w_istore_n (pc' := 7) ⟨rfl, rfl⟩ rfl ?_
  refine w_aload_n (pc' := 8) ⟨rfl, rfl⟩ rfl ?_
  refine w_iload_n (pc' := 9) ⟨rfl, rfl⟩ rfl ?_
  refine w_ifF_ge (pc' := 12) ⟨rfl, rfl⟩ (by decide) ?_
  refine w_iload_n (pc' := 13) ⟨rfl, rfl⟩ rfl ?_
  refine w_goto (pc' := 16) (pcT := 17) ⟨rfl, rfl⟩ rfl ?_
  refine w_putI (pc' := 20) (cl := 9) (q := 12) ⟨rfl, rfl⟩ ⟨rfl, by decide⟩ (zOl hF rfl) ?_
  refine w_iload_n (pc' := 21) ⟨rfl, rfl⟩ rfl ?_
  refine w_ifF_ge (pc' := 24) ⟨rfl, rfl⟩ (by decide) ?_
  refine w_iload_n (pc' := 25) ⟨rfl, rfl⟩ rfl ?_
  refine w_goto (pc' := 28) (pcT := 35) ⟨rfl, rfl⟩ rfl ?_
  refine w_ireturn (pc' := 36) ⟨rfl, rfl⟩ (Or.inl rfl) ?_
  exact k _ (zFm.wI (List.mem_range.mpr (by decide)))
theorem f_X11_read {σ : zSt} (hF : zFx σ) (hP : zR σ 0 10 = some 114) (hB : zR σ 1 2 = some 5) (hI : zFr1 σ) (hC : zCn σ zc0) {s : Int} (hs : (-2147483648 ≤ s ∧ s ≤ 2147483647)) {r : Int} (hr : (-2147483648 ≤ r ∧ r ≤ 2147483647)) {p : Int} (hp : (-2147483648 ≤ p ∧ p ≤ 2147483647)) {q : Int} (hq : (-2147483648 ≤ q ∧ q ≤ 2147483647)) {Q : zSt → Option Value → Prop} (k : ∀ σ1, zFm (List.range 164) σ σ1 → Q σ1 (some (.long (lZ (-4611686018427387904))))) : zCa 138 [.ref 0, .int (iZ s), .int (iZ r), .int (iZ p), .int (iZ q)] σ Q := by
  refine w_enter (c := zk_X11_read) (ls2 := [(0, .ref 0), (1, .int (iZ s)), (2, .int (iZ r)), (3, .int (iZ p)), (4, .int (iZ q))]) rfl ⟨rfl, rfl, rfl, rfl, rfl, trivial⟩ ?_
  have hnS : zI σ 114 2 = iZ 0 := hI 114 2 rfl
  have hnP : zI σ 114 3 = iZ 0 := hI 114 3 rfl
  refine w_aload_n (pc' := 1) ⟨rfl, rfl⟩ rfl ?_
  refine w_iload_n (pc' := 2) ⟨rfl, rfl⟩ rfl ?_
  refine w_iload_n (pc' := 3) ⟨rfl, rfl⟩ rfl ?_
  refine w_cv3 (pc' := 6) ⟨rfl, rfl⟩ (by decide) (zOl hF rfl) (Nat.le_of_ble_eq_true rfl) (Nat.le_of_ble_eq_true rfl) (f_X11_rowSort hF hP hB hI hC (by omega) (by omega) ?_)
  refine w_istore (pc' := 8) ⟨rfl, rfl⟩ rfl ?_
  refine w_aload_n (pc' := 9) ⟨rfl, rfl⟩ rfl ?_
  refine w_aload_n (pc' := 10) ⟨rfl, rfl⟩ rfl ?_
  refine w_iload_n (pc' := 11) ⟨rfl, rfl⟩ rfl ?_
  refine w_iload_n (pc' := 12) ⟨rfl, rfl⟩ rfl ?_
  refine w_iload_n (pc' := 13) ⟨rfl, rfl⟩ rfl ?_
  refine w_iload (pc' := 15) ⟨rfl, rfl⟩ rfl ?_
  refine w_cv5 (pc' := 18) ⟨rfl, rfl⟩ (by decide) (zOl hF rfl) (Nat.le_of_ble_eq_true rfl) (Nat.le_of_ble_eq_true rfl) (f_X11_kindRefusal hF hP hB hI hC (by omega) (by omega) (by omega) (by omega) ?_)
  refine w_putI (pc' := 21) (cl := 9) (q := 12) ⟨rfl, rfl⟩ ⟨rfl, by decide⟩ (zOl hF rfl) ?_
  refine w_aload_n (pc' := 22) ⟨rfl, rfl⟩ rfl ?_
  refine w_getI (pc' := 25) (cl := 9) (q := 12) ⟨rfl, rfl⟩ ⟨rfl, by decide⟩ (zOl hF rfl) zI_wI_s ?_
  refine w_ifT_ne (pc' := 28) (pcT := 44) ⟨rfl, rfl⟩ rfl (by decide) ?_
  refine w_aload_n (pc' := 45) ⟨rfl, rfl⟩ rfl ?_
  refine w_getR (pc' := 48) (cl := 9) (q := 10) ⟨rfl, rfl⟩ ⟨rfl, by decide⟩ (zOl hF rfl) hP ?_
  refine w_iload_n (pc' := 49) ⟨rfl, rfl⟩ rfl ?_
  refine w_cv2 (pc' := 52) ⟨rfl, rfl⟩ (by decide) (zOl hF rfl) (Nat.le_of_ble_eq_true rfl) (Nat.le_of_ble_eq_true rfl) (f_shape (zFx_wI hF) ((zI_wI_n (by decide)).trans (show zI _ 114 2 = iZ (0) from hI 114 2 rfl)) (by omega) ?_)
  refine w_astoreN (pc' := 54) ⟨rfl, rfl⟩ rfl ?_
  refine w_aload_n (pc' := 55) ⟨rfl, rfl⟩ rfl ?_
  refine w_getI (pc' := 58) (cl := 9) (q := 12) ⟨rfl, rfl⟩ ⟨rfl, by decide⟩ (zOl hF rfl) zI_wI_s ?_
  refine w_ifT_ne (pc' := 61) (pcT := 66) ⟨rfl, rfl⟩ rfl (by decide) ?_
  refine w_ldc2Y (pc' := 69) (z := -4611686018427387904) ⟨rfl, rfl⟩ rfl ?_
  refine w_lreturn (pc' := 70) ⟨rfl, rfl⟩ ?_
  exact k _ (zFm.wI (List.mem_range.mpr (by decide)))
theorem f_X11_get {σ : zSt} (hF : zFx σ) (hP : zR σ 0 10 = some 114) (hB : zR σ 1 2 = some 5) (hI : zFr1 σ) (hC : zCn σ zc0) {s : Int} (hs : (-2147483648 ≤ s ∧ s ≤ 2147483647)) {r : Int} (hr : (-2147483648 ≤ r ∧ r ≤ 2147483647)) {p : Int} (hp : (-2147483648 ≤ p ∧ p ≤ 2147483647)) {q : Int} (hq : (-2147483648 ≤ q ∧ q ≤ 2147483647)) {Q : zSt → Option Value → Prop} (k : ∀ σ1, zFm (List.range 164) σ σ1 → Q σ1 (some (.long (lZ (-4611686018427387904))))) : zCa 139 [.ref 0, .int (iZ s), .int (iZ r), .int (iZ p), .int (iZ q)] σ Q := by
  refine w_enter (c := zk_X11_get) (ls2 := [(0, .ref 0), (1, .int (iZ s)), (2, .int (iZ r)), (3, .int (iZ p)), (4, .int (iZ q))]) rfl ⟨rfl, rfl, rfl, rfl, rfl, trivial⟩ ?_
  have hnS : zI σ 114 2 = iZ 0 := hI 114 2 rfl
  have hnP : zI σ 114 3 = iZ 0 := hI 114 3 rfl
  refine w_aload_n (pc' := 1) ⟨rfl, rfl⟩ rfl ?_
  refine w_iload_n (pc' := 2) ⟨rfl, rfl⟩ rfl ?_
  refine w_iload_n (pc' := 3) ⟨rfl, rfl⟩ rfl ?_
  refine w_cv3 (pc' := 6) ⟨rfl, rfl⟩ (by decide) (zOl hF rfl) (Nat.le_of_ble_eq_true rfl) (Nat.le_of_ble_eq_true rfl) (f_X11_rowSort hF hP hB hI hC (by omega) (by omega) ?_)
  refine w_istore (pc' := 8) ⟨rfl, rfl⟩ rfl ?_
  refine w_iload (pc' := 10) ⟨rfl, rfl⟩ rfl ?_
  refine w_if_lt (pc' := 13) (pcT := 19) ⟨rfl, rfl⟩ rfl (by omega) (fun h1 => ?_) (fun h1 => ?_)
  · refine w_aload_n (pc' := 20) ⟨rfl, rfl⟩ rfl ?_
    refine w_bi (pc' := 22) ⟨rfl, rfl⟩ (by decide) ?_
    refine w_putI (pc' := 25) (cl := 9) (q := 12) ⟨rfl, rfl⟩ ⟨rfl, by decide⟩ (zOl hF rfl) ?_
    refine w_goto (pc' := 28) (pcT := 67) ⟨rfl, rfl⟩ rfl ?_
    refine w_aload_n (pc' := 68) ⟨rfl, rfl⟩ rfl ?_
    refine w_getR (pc' := 71) (cl := 9) (q := 10) ⟨rfl, rfl⟩ ⟨rfl, by decide⟩ (zOl hF rfl) hP ?_
    refine w_iload_n (pc' := 72) ⟨rfl, rfl⟩ rfl ?_
    refine w_cv2 (pc' := 75) ⟨rfl, rfl⟩ (by decide) (zOl hF rfl) (Nat.le_of_ble_eq_true rfl) (Nat.le_of_ble_eq_true rfl) (f_shape (zFx_wI hF) ((zI_wI_n (by decide)).trans (show zI _ 114 2 = iZ (0) from hI 114 2 rfl)) (by omega) ?_)
    refine w_astoreN (pc' := 77) ⟨rfl, rfl⟩ rfl ?_
    refine w_aload_n (pc' := 78) ⟨rfl, rfl⟩ rfl ?_
    refine w_getI (pc' := 81) (cl := 9) (q := 12) ⟨rfl, rfl⟩ ⟨rfl, by decide⟩ (zOl hF rfl) zI_wI_s ?_
    refine w_ifT_ne (pc' := 84) (pcT := 89) ⟨rfl, rfl⟩ rfl (by decide) ?_
    refine w_ldc2Y (pc' := 92) (z := -4611686018427387904) ⟨rfl, rfl⟩ rfl ?_
    refine w_lreturn (pc' := 93) ⟨rfl, rfl⟩ ?_
    exact k _ (zFm.wI (List.mem_range.mpr (by decide)))
  · refine w_iload (pc' := 15) ⟨rfl, rfl⟩ rfl ?_
    refine w_ic (pc' := 16) ⟨rfl, rfl⟩ ?_
    refine w_ic_le (pc' := 19) (pcT := 28) ⟨rfl, rfl⟩ rfl (by omega) (by omega) (fun h2 => ?_) (fun h2 => ?_)
    · refine w_iload (pc' := 30) ⟨rfl, rfl⟩ rfl ?_
      refine w_ifF_ge (pc' := 33) ⟨rfl, rfl⟩ (by decide) ?_
      refine w_aload_n (pc' := 34) ⟨rfl, rfl⟩ rfl ?_
      refine w_iload (pc' := 36) ⟨rfl, rfl⟩ rfl ?_
      refine w_putI (pc' := 39) (cl := 9) (q := 12) ⟨rfl, rfl⟩ ⟨rfl, by decide⟩ (zOl hF rfl) ?_
      refine w_goto (pc' := 42) (pcT := 67) ⟨rfl, rfl⟩ rfl ?_
      refine w_aload_n (pc' := 68) ⟨rfl, rfl⟩ rfl ?_
      refine w_getR (pc' := 71) (cl := 9) (q := 10) ⟨rfl, rfl⟩ ⟨rfl, by decide⟩ (zOl hF rfl) hP ?_
      refine w_iload_n (pc' := 72) ⟨rfl, rfl⟩ rfl ?_
      refine w_cv2 (pc' := 75) ⟨rfl, rfl⟩ (by decide) (zOl hF rfl) (Nat.le_of_ble_eq_true rfl) (Nat.le_of_ble_eq_true rfl) (f_shape (zFx_wI hF) ((zI_wI_n (by decide)).trans (show zI _ 114 2 = iZ (0) from hI 114 2 rfl)) (by omega) ?_)
      refine w_astoreN (pc' := 77) ⟨rfl, rfl⟩ rfl ?_
      refine w_aload_n (pc' := 78) ⟨rfl, rfl⟩ rfl ?_
      refine w_getI (pc' := 81) (cl := 9) (q := 12) ⟨rfl, rfl⟩ ⟨rfl, by decide⟩ (zOl hF rfl) zI_wI_s ?_
      refine w_ifT_ne (pc' := 84) (pcT := 89) ⟨rfl, rfl⟩ rfl (by decide) ?_
      refine w_ldc2Y (pc' := 92) (z := -4611686018427387904) ⟨rfl, rfl⟩ rfl ?_
      refine w_lreturn (pc' := 93) ⟨rfl, rfl⟩ ?_
      exact k _ (zFm.wI (List.mem_range.mpr (by decide)))
    · refine w_aload_n (pc' := 20) ⟨rfl, rfl⟩ rfl ?_
      refine w_bi (pc' := 22) ⟨rfl, rfl⟩ (by decide) ?_
      refine w_putI (pc' := 25) (cl := 9) (q := 12) ⟨rfl, rfl⟩ ⟨rfl, by decide⟩ (zOl hF rfl) ?_
      refine w_goto (pc' := 28) (pcT := 67) ⟨rfl, rfl⟩ rfl ?_
      refine w_aload_n (pc' := 68) ⟨rfl, rfl⟩ rfl ?_
      refine w_getR (pc' := 71) (cl := 9) (q := 10) ⟨rfl, rfl⟩ ⟨rfl, by decide⟩ (zOl hF rfl) hP ?_
      refine w_iload_n (pc' := 72) ⟨rfl, rfl⟩ rfl ?_
      refine w_cv2 (pc' := 75) ⟨rfl, rfl⟩ (by decide) (zOl hF rfl) (Nat.le_of_ble_eq_true rfl) (Nat.le_of_ble_eq_true rfl) (f_shape (zFx_wI hF) ((zI_wI_n (by decide)).trans (show zI _ 114 2 = iZ (0) from hI 114 2 rfl)) (by omega) ?_)
      refine w_astoreN (pc' := 77) ⟨rfl, rfl⟩ rfl ?_
      refine w_aload_n (pc' := 78) ⟨rfl, rfl⟩ rfl ?_
      refine w_getI (pc' := 81) (cl := 9) (q := 12) ⟨rfl, rfl⟩ ⟨rfl, by decide⟩ (zOl hF rfl) zI_wI_s ?_
      refine w_ifT_ne (pc' := 84) (pcT := 89) ⟨rfl, rfl⟩ rfl (by decide) ?_
      refine w_ldc2Y (pc' := 92) (z := -4611686018427387904) ⟨rfl, rfl⟩ rfl ?_
      refine w_lreturn (pc' := 93) ⟨rfl, rfl⟩ ?_
      exact k _ (zFm.wI (List.mem_range.mpr (by decide)))
theorem f_X11_write {σ : zSt} (hF : zFx σ) (hP : zR σ 0 10 = some 114) (hB : zR σ 1 2 = some 5) (hI : zFr1 σ) (hC : zCn σ zc0) {s : Int} (hs : (-2147483648 ≤ s ∧ s ≤ 2147483647)) {r : Int} (hr : (-2147483648 ≤ r ∧ r ≤ 2147483647)) {p : Int} (hp : (-2147483648 ≤ p ∧ p ≤ 2147483647)) {q : Int} (hq : (-2147483648 ≤ q ∧ q ≤ 2147483647)) {v : Int64} {Q : zSt → Option Value → Prop} (k : ∀ σ1, zFm (List.range 164) σ σ1 → Q σ1 (some (.int (iZ 0)))) : zCa 140 [.ref 0, .int (iZ s), .int (iZ r), .int (iZ p), .int (iZ q), .long v] σ Q := by
  refine w_enter (c := zk_X11_write) (ls2 := [(0, .ref 0), (1, .int (iZ s)), (2, .int (iZ r)), (3, .int (iZ p)), (4, .int (iZ q)), (5, .long v)]) rfl ⟨rfl, rfl, rfl, rfl, rfl, rfl, trivial⟩ ?_
  have hnS : zI σ 114 2 = iZ 0 := hI 114 2 rfl
  have hnP : zI σ 114 3 = iZ 0 := hI 114 3 rfl
  refine w_aload_n (pc' := 1) ⟨rfl, rfl⟩ rfl ?_
  refine w_iload_n (pc' := 2) ⟨rfl, rfl⟩ rfl ?_
  refine w_iload_n (pc' := 3) ⟨rfl, rfl⟩ rfl ?_
  refine w_cv3 (pc' := 6) ⟨rfl, rfl⟩ (by decide) (zOl hF rfl) (Nat.le_of_ble_eq_true rfl) (Nat.le_of_ble_eq_true rfl) (f_X11_rowSort hF hP hB hI hC (by omega) (by omega) ?_)
  refine w_istore (pc' := 8) ⟨rfl, rfl⟩ rfl ?_
  refine w_aload_n (pc' := 9) ⟨rfl, rfl⟩ rfl ?_
  refine w_aload_n (pc' := 10) ⟨rfl, rfl⟩ rfl ?_
  refine w_iload_n (pc' := 11) ⟨rfl, rfl⟩ rfl ?_
  refine w_iload_n (pc' := 12) ⟨rfl, rfl⟩ rfl ?_
  refine w_iload_n (pc' := 13) ⟨rfl, rfl⟩ rfl ?_
  refine w_iload (pc' := 15) ⟨rfl, rfl⟩ rfl ?_
  refine w_cv5 (pc' := 18) ⟨rfl, rfl⟩ (by decide) (zOl hF rfl) (Nat.le_of_ble_eq_true rfl) (Nat.le_of_ble_eq_true rfl) (f_X11_kindRefusal hF hP hB hI hC (by omega) (by omega) (by omega) (by omega) ?_)
  refine w_putI (pc' := 21) (cl := 9) (q := 12) ⟨rfl, rfl⟩ ⟨rfl, by decide⟩ (zOl hF rfl) ?_
  refine w_aload_n (pc' := 22) ⟨rfl, rfl⟩ rfl ?_
  refine w_getI (pc' := 25) (cl := 9) (q := 12) ⟨rfl, rfl⟩ ⟨rfl, by decide⟩ (zOl hF rfl) zI_wI_s ?_
  refine w_ifT_ne (pc' := 28) (pcT := 44) ⟨rfl, rfl⟩ rfl (by decide) ?_
  refine w_aload_n (pc' := 45) ⟨rfl, rfl⟩ rfl ?_
  refine w_getR (pc' := 48) (cl := 9) (q := 10) ⟨rfl, rfl⟩ ⟨rfl, by decide⟩ (zOl hF rfl) hP ?_
  refine w_iload_n (pc' := 49) ⟨rfl, rfl⟩ rfl ?_
  refine w_cv2 (pc' := 52) ⟨rfl, rfl⟩ (by decide) (zOl hF rfl) (Nat.le_of_ble_eq_true rfl) (Nat.le_of_ble_eq_true rfl) (f_shape (zFx_wI hF) ((zI_wI_n (by decide)).trans (show zI _ 114 2 = iZ (0) from hI 114 2 rfl)) (by omega) ?_)
  refine w_astoreN (pc' := 54) ⟨rfl, rfl⟩ rfl ?_
  refine w_aload_n (pc' := 55) ⟨rfl, rfl⟩ rfl ?_
  refine w_getI (pc' := 58) (cl := 9) (q := 12) ⟨rfl, rfl⟩ ⟨rfl, by decide⟩ (zOl hF rfl) zI_wI_s ?_
  refine w_ifT_ne (pc' := 61) (pcT := 66) ⟨rfl, rfl⟩ rfl (by decide) ?_
  refine w_ic (pc' := 67) ⟨rfl, rfl⟩ ?_
  refine w_ireturn (pc' := 68) ⟨rfl, rfl⟩ (by decide) ?_
  exact k _ (zFm.wI (List.mem_range.mpr (by decide)))
theorem f_X11_put {σ : zSt} (hF : zFx σ) (hP : zR σ 0 10 = some 114) (hB : zR σ 1 2 = some 5) (hI : zFr1 σ) (hC : zCn σ zc0) {s : Int} (hs : (-2147483648 ≤ s ∧ s ≤ 2147483647)) {r : Int} (hr : (-2147483648 ≤ r ∧ r ≤ 2147483647)) {p : Int} (hp : (-2147483648 ≤ p ∧ p ≤ 2147483647)) {q : Int} (hq : (-2147483648 ≤ q ∧ q ≤ 2147483647)) {v : Int64} {Q : zSt → Option Value → Prop} (k : ∀ σ1, zFm (List.range 164) σ σ1 → Q σ1 (some (.int (iZ 0)))) : zCa 141 [.ref 0, .int (iZ s), .int (iZ r), .int (iZ p), .int (iZ q), .long v] σ Q := by
  refine w_enter (c := zk_X11_put) (ls2 := [(0, .ref 0), (1, .int (iZ s)), (2, .int (iZ r)), (3, .int (iZ p)), (4, .int (iZ q)), (5, .long v)]) rfl ⟨rfl, rfl, rfl, rfl, rfl, rfl, trivial⟩ ?_
  have hnS : zI σ 114 2 = iZ 0 := hI 114 2 rfl
  have hnP : zI σ 114 3 = iZ 0 := hI 114 3 rfl
  refine w_aload_n (pc' := 1) ⟨rfl, rfl⟩ rfl ?_
  refine w_iload_n (pc' := 2) ⟨rfl, rfl⟩ rfl ?_
  refine w_iload_n (pc' := 3) ⟨rfl, rfl⟩ rfl ?_
  refine w_cv3 (pc' := 6) ⟨rfl, rfl⟩ (by decide) (zOl hF rfl) (Nat.le_of_ble_eq_true rfl) (Nat.le_of_ble_eq_true rfl) (f_X11_rowSort hF hP hB hI hC (by omega) (by omega) ?_)
  refine w_istore (pc' := 8) ⟨rfl, rfl⟩ rfl ?_
  refine w_aload_n (pc' := 9) ⟨rfl, rfl⟩ rfl ?_
  refine w_aload_n (pc' := 10) ⟨rfl, rfl⟩ rfl ?_
  refine w_iload_n (pc' := 11) ⟨rfl, rfl⟩ rfl ?_
  refine w_iload_n (pc' := 12) ⟨rfl, rfl⟩ rfl ?_
  refine w_iload_n (pc' := 13) ⟨rfl, rfl⟩ rfl ?_
  refine w_iload (pc' := 15) ⟨rfl, rfl⟩ rfl ?_
  refine w_cv5 (pc' := 18) ⟨rfl, rfl⟩ (by decide) (zOl hF rfl) (Nat.le_of_ble_eq_true rfl) (Nat.le_of_ble_eq_true rfl) (f_X11_thingRefusal hF hP hB hI hC (by omega) (by omega) (by omega) (by omega) ?_)
  refine w_putI (pc' := 21) (cl := 9) (q := 12) ⟨rfl, rfl⟩ ⟨rfl, by decide⟩ (zOl hF rfl) ?_
  refine w_aload_n (pc' := 22) ⟨rfl, rfl⟩ rfl ?_
  refine w_getR (pc' := 25) (cl := 9) (q := 10) ⟨rfl, rfl⟩ ⟨rfl, by decide⟩ (zOl hF rfl) hP ?_
  refine w_iload_n (pc' := 26) ⟨rfl, rfl⟩ rfl ?_
  refine w_cv2 (pc' := 29) ⟨rfl, rfl⟩ (by decide) (zOl hF rfl) (Nat.le_of_ble_eq_true rfl) (Nat.le_of_ble_eq_true rfl) (f_shape (zFx_wI hF) ((zI_wI_n (by decide)).trans (show zI _ 114 2 = iZ (0) from hI 114 2 rfl)) (by omega) ?_)
  refine w_astoreN (pc' := 31) ⟨rfl, rfl⟩ rfl ?_
  refine w_aload_n (pc' := 32) ⟨rfl, rfl⟩ rfl ?_
  refine w_getI (pc' := 35) (cl := 9) (q := 12) ⟨rfl, rfl⟩ ⟨rfl, by decide⟩ (zOl hF rfl) zI_wI_s ?_
  refine w_ifT_ne (pc' := 38) (pcT := 43) ⟨rfl, rfl⟩ rfl (by decide) ?_
  refine w_ic (pc' := 44) ⟨rfl, rfl⟩ ?_
  refine w_ireturn (pc' := 45) ⟨rfl, rfl⟩ (by decide) ?_
  exact k _ (zFm.wI (List.mem_range.mpr (by decide)))
theorem f_X11_why {σ : zSt} (hF : zFx σ) (hP : zR σ 0 10 = some 114) (hB : zR σ 1 2 = some 5) (hI : zFr1 σ) (hC : zCn σ zc0) {Q : zSt → Option Value → Prop} (k : ∀ σ1, zFm (List.range 164) σ σ1 → Q σ1 (some (.int (iZ 0)))) : zCa 142 [.ref 0] σ Q := by
  refine w_enter (c := zk_X11_why) (ls2 := [(0, .ref 0)]) rfl ⟨rfl, trivial⟩ ?_
  have hnS : zI σ 114 2 = iZ 0 := hI 114 2 rfl
  have hnP : zI σ 114 3 = iZ 0 := hI 114 3 rfl
  refine w_aload_n (pc' := 1) ⟨rfl, rfl⟩ rfl ?_
  refine w_getI (pc' := 4) (cl := 9) (q := 12) ⟨rfl, rfl⟩ ⟨rfl, by decide⟩ (zOl hF rfl) (show zI _ 0 12 = iZ (0) from hI 0 12 rfl) ?_
  refine w_ireturn (pc' := 5) ⟨rfl, rfl⟩ (Or.inl rfl) ?_
  exact k _ zFm.refl
theorem f_X11_cell {σ : zSt} (hF : zFx σ) (hP : zR σ 0 10 = some 114) (hB : zR σ 1 2 = some 5) (hI : zFr1 σ) (hC : zCn σ zc0) {s : Int} (hs : (-2147483648 ≤ s ∧ s ≤ 2147483647)) {f : Int} (hf : (-2147483648 ≤ f ∧ f ≤ 2147483647)) {r : Int} (hr : (-2147483648 ≤ r ∧ r ≤ 2147483647)) {q : Int} (hq : (-2147483648 ≤ q ∧ q ≤ 2147483647)) {Q : zSt → Option Value → Prop} (k : ∀ σ1, zFm (List.range 164) σ σ1 → Q σ1 (some (.long (lZ (-4611686018427387904))))) : zCa 143 [.ref 0, .int (iZ s), .int (iZ f), .int (iZ r), .int (iZ q)] σ Q := by
  refine w_enter (c := zk_X11_cell) (ls2 := [(0, .ref 0), (1, .int (iZ s)), (2, .int (iZ f)), (3, .int (iZ r)), (4, .int (iZ q))]) rfl ⟨rfl, rfl, rfl, rfl, rfl, trivial⟩ ?_
  have hnS : zI σ 114 2 = iZ 0 := hI 114 2 rfl
  have hnP : zI σ 114 3 = iZ 0 := hI 114 3 rfl
  refine w_aload_n (pc' := 1) ⟨rfl, rfl⟩ rfl ?_
  refine w_getR (pc' := 4) (cl := 9) (q := 10) ⟨rfl, rfl⟩ ⟨rfl, by decide⟩ (zOl hF rfl) hP ?_
  refine w_iload_n (pc' := 5) ⟨rfl, rfl⟩ rfl ?_
  refine w_cv2 (pc' := 8) ⟨rfl, rfl⟩ (by decide) (zOl hF rfl) (Nat.le_of_ble_eq_true rfl) (Nat.le_of_ble_eq_true rfl) (f_shape hF (show zI _ 114 2 = iZ (0) from hI 114 2 rfl) (by omega) ?_)
  refine w_astoreN (pc' := 10) ⟨rfl, rfl⟩ rfl ?_
  refine w_aloadN (pc' := 12) ⟨rfl, rfl⟩ rfl ?_
  refine w_ifnullN (pc' := 15) (pcT := 36) ⟨rfl, rfl⟩ rfl  ?_
  refine w_ldc2Y (pc' := 39) (z := -4611686018427387904) ⟨rfl, rfl⟩ rfl ?_
  refine w_lreturn (pc' := 40) ⟨rfl, rfl⟩ ?_
  exact k _ zFm.refl
theorem f_X11_unlike {σ : zSt} (hF : zFx σ) (hP : zR σ 0 10 = some 114) (hB : zR σ 1 2 = some 5) (hI : zFr1 σ) (hC : zCn σ zc0) {s : Int} (hs : (-2147483648 ≤ s ∧ s ≤ 2147483647)) {a : Int} (ha : (-2147483648 ≤ a ∧ a ≤ 2147483647)) {b : Int} (hb : (-2147483648 ≤ b ∧ b ≤ 2147483647)) {Q : zSt → Option Value → Prop} (k : ∀ σ1, zFm (List.range 164) σ σ1 → Q σ1 (some (.long (lZ (-4611686018427387904))))) : zCa 144 [.ref 0, .int (iZ s), .int (iZ a), .int (iZ b)] σ Q := by
  refine w_enter (c := zk_X11_unlike) (ls2 := [(0, .ref 0), (1, .int (iZ s)), (2, .int (iZ a)), (3, .int (iZ b))]) rfl ⟨rfl, rfl, rfl, rfl, trivial⟩ ?_
  have hnS : zI σ 114 2 = iZ 0 := hI 114 2 rfl
  have hnP : zI σ 114 3 = iZ 0 := hI 114 3 rfl
  refine w_aload_n (pc' := 1) ⟨rfl, rfl⟩ rfl ?_
  refine w_getR (pc' := 4) (cl := 9) (q := 10) ⟨rfl, rfl⟩ ⟨rfl, by decide⟩ (zOl hF rfl) hP ?_
  refine w_iload_n (pc' := 5) ⟨rfl, rfl⟩ rfl ?_
  refine w_cv2 (pc' := 8) ⟨rfl, rfl⟩ (by decide) (zOl hF rfl) (Nat.le_of_ble_eq_true rfl) (Nat.le_of_ble_eq_true rfl) (f_shape hF (show zI _ 114 2 = iZ (0) from hI 114 2 rfl) (by omega) ?_)
  refine w_astoreN (pc' := 10) ⟨rfl, rfl⟩ rfl ?_
  refine w_aloadN (pc' := 12) ⟨rfl, rfl⟩ rfl ?_
  refine w_ifnullN (pc' := 15) (pcT := 39) ⟨rfl, rfl⟩ rfl  ?_
  refine w_ldc2Y (pc' := 42) (z := -4611686018427387904) ⟨rfl, rfl⟩ rfl ?_
  refine w_lreturn (pc' := 43) ⟨rfl, rfl⟩ ?_
  exact k _ zFm.refl
theorem f_X11_make {σ : zSt} (hF : zFx σ) (hP : zR σ 0 10 = some 114) (hB : zR σ 1 2 = some 5) (hI : zFr1 σ) (hC : zCn σ zc0) {s : Int} (hs : (-2147483648 ≤ s ∧ s ≤ 2147483647)) {Q : zSt → Option Value → Prop} (k : ∀ σ1, zFm (List.range 164) σ σ1 → Q σ1 (some (.int (iZ (-1))))) : zCa 151 [.ref 0, .int (iZ s)] σ Q := by
  refine w_enter (c := zk_X11_make) (ls2 := [(0, .ref 0), (1, .int (iZ s))]) rfl ⟨rfl, rfl, trivial⟩ ?_
  have hnS : zI σ 114 2 = iZ 0 := hI 114 2 rfl
  have hnP : zI σ 114 3 = iZ 0 := hI 114 3 rfl
  refine w_aload_n (pc' := 1) ⟨rfl, rfl⟩ rfl ?_
  refine w_getR (pc' := 4) (cl := 9) (q := 10) ⟨rfl, rfl⟩ ⟨rfl, by decide⟩ (zOl hF rfl) hP ?_
  refine w_iload_n (pc' := 5) ⟨rfl, rfl⟩ rfl ?_
  refine w_cv2 (pc' := 8) ⟨rfl, rfl⟩ (by decide) (zOl hF rfl) (Nat.le_of_ble_eq_true rfl) (Nat.le_of_ble_eq_true rfl) (f_shape hF (show zI _ 114 2 = iZ (0) from hI 114 2 rfl) (by omega) ?_)
  refine w_ifnullN (pc' := 11) (pcT := 22) ⟨rfl, rfl⟩ rfl  ?_
  refine w_aload_n (pc' := 23) ⟨rfl, rfl⟩ rfl ?_
  refine w_getR (pc' := 26) (cl := 9) (q := 5) ⟨rfl, rfl⟩ ⟨rfl, by decide⟩ (zOl hF rfl) (hF.2 0 5 109 rfl) ?_
  refine w_ic (pc' := 27) ⟨rfl, rfl⟩ ?_
  refine w_dup2 (pc' := 28) ⟨rfl, rfl⟩ ?_
  refine w_iald (pc' := 29) ⟨rfl, rfl⟩ (zAl hF rfl) (zixA (j := 2) (by decide)) (show zI _ 109 2 = iZ (0) from hI 109 2 rfl) ?_
  refine w_ic (pc' := 30) ⟨rfl, rfl⟩ ?_
  refine w_iaddZ (pc' := 31) ⟨rfl, rfl⟩ ?_
  refine w_iast (pc' := 32) ⟨rfl, rfl⟩ (zAl hF rfl) (zixA (j := 2) (by decide)) ?_
  refine w_ic (pc' := 33) ⟨rfl, rfl⟩ ?_
  refine w_ireturn (pc' := 34) ⟨rfl, rfl⟩ (Or.inl rfl) ?_
  exact k _ (zFm.wI (List.mem_range.mpr (by decide)))
theorem f_X11_copy {σ : zSt} (hF : zFx σ) (hP : zR σ 0 10 = some 114) (hB : zR σ 1 2 = some 5) (hI : zFr1 σ) (hC : zCn σ zc0) {s : Int} (hs : (-2147483648 ≤ s ∧ s ≤ 2147483647)) {r : Int} (hr : (-2147483648 ≤ r ∧ r ≤ 2147483647)) {Q : zSt → Option Value → Prop} (k : ∀ σ1, zFm (List.range 164) σ σ1 → Q σ1 (some (.int (iZ (-1))))) : zCa 152 [.ref 0, .int (iZ s), .int (iZ r)] σ Q := by
  refine w_enter (c := zk_X11_copy) (ls2 := [(0, .ref 0), (1, .int (iZ s)), (2, .int (iZ r))]) rfl ⟨rfl, rfl, rfl, trivial⟩ ?_
  have hnS : zI σ 114 2 = iZ 0 := hI 114 2 rfl
  have hnP : zI σ 114 3 = iZ 0 := hI 114 3 rfl
  refine w_aload_n (pc' := 1) ⟨rfl, rfl⟩ rfl ?_
  refine w_getR (pc' := 4) (cl := 9) (q := 10) ⟨rfl, rfl⟩ ⟨rfl, by decide⟩ (zOl hF rfl) hP ?_
  refine w_iload_n (pc' := 5) ⟨rfl, rfl⟩ rfl ?_
  refine w_cv2 (pc' := 8) ⟨rfl, rfl⟩ (by decide) (zOl hF rfl) (Nat.le_of_ble_eq_true rfl) (Nat.le_of_ble_eq_true rfl) (f_shape hF (show zI _ 114 2 = iZ (0) from hI 114 2 rfl) (by omega) ?_)
  refine w_ifnullN (pc' := 11) (pcT := 34) ⟨rfl, rfl⟩ rfl  ?_
  refine w_aload_n (pc' := 35) ⟨rfl, rfl⟩ rfl ?_
  refine w_getR (pc' := 38) (cl := 9) (q := 5) ⟨rfl, rfl⟩ ⟨rfl, by decide⟩ (zOl hF rfl) (hF.2 0 5 109 rfl) ?_
  refine w_ic (pc' := 39) ⟨rfl, rfl⟩ ?_
  refine w_dup2 (pc' := 40) ⟨rfl, rfl⟩ ?_
  refine w_iald (pc' := 41) ⟨rfl, rfl⟩ (zAl hF rfl) (zixA (j := 2) (by decide)) (show zI _ 109 2 = iZ (0) from hI 109 2 rfl) ?_
  refine w_ic (pc' := 42) ⟨rfl, rfl⟩ ?_
  refine w_iaddZ (pc' := 43) ⟨rfl, rfl⟩ ?_
  refine w_iast (pc' := 44) ⟨rfl, rfl⟩ (zAl hF rfl) (zixA (j := 2) (by decide)) ?_
  refine w_ic (pc' := 45) ⟨rfl, rfl⟩ ?_
  refine w_ireturn (pc' := 46) ⟨rfl, rfl⟩ (Or.inl rfl) ?_
  exact k _ (zFm.wI (List.mem_range.mpr (by decide)))
theorem f_X11_drop {σ : zSt} (hF : zFx σ) (hP : zR σ 0 10 = some 114) (hB : zR σ 1 2 = some 5) (hI : zFr1 σ) (hC : zCn σ zc0) {s : Int} (hs : (-2147483648 ≤ s ∧ s ≤ 2147483647)) {r : Int} (hr : (-2147483648 ≤ r ∧ r ≤ 2147483647)) {Q : zSt → Option Value → Prop} (k : ∀ σ1, zFm (List.range 164) σ σ1 → Q σ1 (some (.int (iZ 0)))) : zCa 153 [.ref 0, .int (iZ s), .int (iZ r)] σ Q := by
  refine w_enter (c := zk_X11_drop) (ls2 := [(0, .ref 0), (1, .int (iZ s)), (2, .int (iZ r))]) rfl ⟨rfl, rfl, rfl, trivial⟩ ?_
  have hnS : zI σ 114 2 = iZ 0 := hI 114 2 rfl
  have hnP : zI σ 114 3 = iZ 0 := hI 114 3 rfl
  refine w_aload_n (pc' := 1) ⟨rfl, rfl⟩ rfl ?_
  refine w_getR (pc' := 4) (cl := 9) (q := 10) ⟨rfl, rfl⟩ ⟨rfl, by decide⟩ (zOl hF rfl) hP ?_
  refine w_iload_n (pc' := 5) ⟨rfl, rfl⟩ rfl ?_
  refine w_cv2 (pc' := 8) ⟨rfl, rfl⟩ (by decide) (zOl hF rfl) (Nat.le_of_ble_eq_true rfl) (Nat.le_of_ble_eq_true rfl) (f_shape hF (show zI _ 114 2 = iZ (0) from hI 114 2 rfl) (by omega) ?_)
  refine w_ifnullN (pc' := 11) (pcT := 23) ⟨rfl, rfl⟩ rfl  ?_
  refine w_aload_n (pc' := 24) ⟨rfl, rfl⟩ rfl ?_
  refine w_getR (pc' := 27) (cl := 9) (q := 5) ⟨rfl, rfl⟩ ⟨rfl, by decide⟩ (zOl hF rfl) (hF.2 0 5 109 rfl) ?_
  refine w_ic (pc' := 28) ⟨rfl, rfl⟩ ?_
  refine w_dup2 (pc' := 29) ⟨rfl, rfl⟩ ?_
  refine w_iald (pc' := 30) ⟨rfl, rfl⟩ (zAl hF rfl) (zixA (j := 2) (by decide)) (show zI _ 109 2 = iZ (0) from hI 109 2 rfl) ?_
  refine w_ic (pc' := 31) ⟨rfl, rfl⟩ ?_
  refine w_iaddZ (pc' := 32) ⟨rfl, rfl⟩ ?_
  refine w_iast (pc' := 33) ⟨rfl, rfl⟩ (zAl hF rfl) (zixA (j := 2) (by decide)) ?_
  refine w_ic (pc' := 34) ⟨rfl, rfl⟩ ?_
  refine w_ireturn (pc' := 35) ⟨rfl, rfl⟩ (by decide) ?_
  exact k _ (zFm.wI (List.mem_range.mpr (by decide)))
theorem f_X11_chance {σ : zSt} (hF : zFx σ) (hP : zR σ 0 10 = some 114) (hB : zR σ 1 2 = some 5) (hI : zFr1 σ) (hC : zCn σ zc0) {n : Int} (hn : (-2147483648 ≤ n ∧ n ≤ 2147483647)) {Q : zSt → Option Value → Prop} (k : ∀ σ1, zFm (List.range 164) σ σ1 → Q σ1 (some (.int (iZ (-1))))) : zCa 154 [.ref 0, .int (iZ n)] σ Q := by
  refine w_enter (c := zk_X11_chance) (ls2 := [(0, .ref 0), (1, .int (iZ n))]) rfl ⟨rfl, rfl, trivial⟩ ?_
  have hnS : zI σ 114 2 = iZ 0 := hI 114 2 rfl
  have hnP : zI σ 114 3 = iZ 0 := hI 114 3 rfl
  refine w_iload_n (pc' := 1) ⟨rfl, rfl⟩ rfl ?_
  refine w_ic (pc' := 2) ⟨rfl, rfl⟩ ?_
  refine w_ic_lt (pc' := 5) (pcT := 21) ⟨rfl, rfl⟩ rfl (by omega) (by omega) (fun h1 => ?_) (fun h1 => ?_)
  · refine w_aload_n (pc' := 22) ⟨rfl, rfl⟩ rfl ?_
    refine w_getR (pc' := 25) (cl := 9) (q := 5) ⟨rfl, rfl⟩ ⟨rfl, by decide⟩ (zOl hF rfl) (hF.2 0 5 109 rfl) ?_
    refine w_ic (pc' := 26) ⟨rfl, rfl⟩ ?_
    refine w_dup2 (pc' := 27) ⟨rfl, rfl⟩ ?_
    refine w_iald (pc' := 28) ⟨rfl, rfl⟩ (zAl hF rfl) (zixA (j := 2) (by decide)) (show zI _ 109 2 = iZ (0) from hI 109 2 rfl) ?_
    refine w_ic (pc' := 29) ⟨rfl, rfl⟩ ?_
    refine w_iaddZ (pc' := 30) ⟨rfl, rfl⟩ ?_
    refine w_iast (pc' := 31) ⟨rfl, rfl⟩ (zAl hF rfl) (zixA (j := 2) (by decide)) ?_
    refine w_ic (pc' := 32) ⟨rfl, rfl⟩ ?_
    refine w_ireturn (pc' := 33) ⟨rfl, rfl⟩ (Or.inl rfl) ?_
    exact k _ (zFm.wI (List.mem_range.mpr (by decide)))
  · refine w_iload_n (pc' := 6) ⟨rfl, rfl⟩ rfl ?_
    refine w_bi (pc' := 8) ⟨rfl, rfl⟩ (by decide) ?_
    refine w_ic_gt (pc' := 11) (pcT := 21) ⟨rfl, rfl⟩ rfl (by omega) (by omega) (fun h2 => ?_) (fun h2 => ?_)
    · refine w_aload_n (pc' := 22) ⟨rfl, rfl⟩ rfl ?_
      refine w_getR (pc' := 25) (cl := 9) (q := 5) ⟨rfl, rfl⟩ ⟨rfl, by decide⟩ (zOl hF rfl) (hF.2 0 5 109 rfl) ?_
      refine w_ic (pc' := 26) ⟨rfl, rfl⟩ ?_
      refine w_dup2 (pc' := 27) ⟨rfl, rfl⟩ ?_
      refine w_iald (pc' := 28) ⟨rfl, rfl⟩ (zAl hF rfl) (zixA (j := 2) (by decide)) (show zI _ 109 2 = iZ (0) from hI 109 2 rfl) ?_
      refine w_ic (pc' := 29) ⟨rfl, rfl⟩ ?_
      refine w_iaddZ (pc' := 30) ⟨rfl, rfl⟩ ?_
      refine w_iast (pc' := 31) ⟨rfl, rfl⟩ (zAl hF rfl) (zixA (j := 2) (by decide)) ?_
      refine w_ic (pc' := 32) ⟨rfl, rfl⟩ ?_
      refine w_ireturn (pc' := 33) ⟨rfl, rfl⟩ (Or.inl rfl) ?_
      exact k _ (zFm.wI (List.mem_range.mpr (by decide)))
    · refine w_aload_n (pc' := 12) ⟨rfl, rfl⟩ rfl ?_
      refine w_getR (pc' := 15) (cl := 9) (q := 10) ⟨rfl, rfl⟩ ⟨rfl, by decide⟩ (zOl hF rfl) hP ?_
      refine w_getI (pc' := 18) (cl := 3) (q := 2) ⟨rfl, rfl⟩ ⟨rfl, by decide⟩ (zOl hF rfl) (show zI _ 114 2 = iZ (0) from hI 114 2 rfl) ?_
      refine w_ifF_ne (pc' := 21) ⟨rfl, rfl⟩ (by decide) ?_
      refine w_aload_n (pc' := 22) ⟨rfl, rfl⟩ rfl ?_
      refine w_getR (pc' := 25) (cl := 9) (q := 5) ⟨rfl, rfl⟩ ⟨rfl, by decide⟩ (zOl hF rfl) (hF.2 0 5 109 rfl) ?_
      refine w_ic (pc' := 26) ⟨rfl, rfl⟩ ?_
      refine w_dup2 (pc' := 27) ⟨rfl, rfl⟩ ?_
      refine w_iald (pc' := 28) ⟨rfl, rfl⟩ (zAl hF rfl) (zixA (j := 2) (by decide)) (show zI _ 109 2 = iZ (0) from hI 109 2 rfl) ?_
      refine w_ic (pc' := 29) ⟨rfl, rfl⟩ ?_
      refine w_iaddZ (pc' := 30) ⟨rfl, rfl⟩ ?_
      refine w_iast (pc' := 31) ⟨rfl, rfl⟩ (zAl hF rfl) (zixA (j := 2) (by decide)) ?_
      refine w_ic (pc' := 32) ⟨rfl, rfl⟩ ?_
      refine w_ireturn (pc' := 33) ⟨rfl, rfl⟩ (Or.inl rfl) ?_
      exact k _ (zFm.wI (List.mem_range.mpr (by decide)))
theorem f_X11_cross {σ : zSt} (hF : zFx σ) (hP : zR σ 0 10 = some 114) (hB : zR σ 1 2 = some 5) (hI : zFr1 σ) (hC : zCn σ zc0) {c : Int} (hc : (-2147483648 ≤ c ∧ c ≤ 2147483647)) {r : Int} (hr : (-2147483648 ≤ r ∧ r ≤ 2147483647)) {Q : zSt → Option Value → Prop} (k : ∀ σ1, zFm (List.range 164) σ σ1 → Q σ1 (some (.int (iZ (-1))))) : zCa 157 [.ref 0, .int (iZ c), .int (iZ r)] σ Q := by
  refine w_enter (c := zk_X11_cross) (ls2 := [(0, .ref 0), (1, .int (iZ c)), (2, .int (iZ r))]) rfl ⟨rfl, rfl, rfl, trivial⟩ ?_
  have hnS : zI σ 114 2 = iZ 0 := hI 114 2 rfl
  have hnP : zI σ 114 3 = iZ 0 := hI 114 3 rfl
  refine w_aload_n (pc' := 1) ⟨rfl, rfl⟩ rfl ?_
  refine w_getR (pc' := 4) (cl := 9) (q := 10) ⟨rfl, rfl⟩ ⟨rfl, by decide⟩ (zOl hF rfl) hP ?_
  refine w_iload_n (pc' := 5) ⟨rfl, rfl⟩ rfl ?_
  refine w_cv2 (pc' := 8) ⟨rfl, rfl⟩ (by decide) (zOl hF rfl) (Nat.le_of_ble_eq_true rfl) (Nat.le_of_ble_eq_true rfl) (f_passage hF (show zI _ 114 3 = iZ (0) from hI 114 3 rfl) (by omega) ?_)
  refine w_astore_nN (pc' := 9) ⟨rfl, rfl⟩ rfl ?_
  refine w_aload_nN (pc' := 10) ⟨rfl, rfl⟩ rfl ?_
  refine w_ifnullN (pc' := 13) (pcT := 42) ⟨rfl, rfl⟩ rfl  ?_
  refine w_aload_n (pc' := 43) ⟨rfl, rfl⟩ rfl ?_
  refine w_getR (pc' := 46) (cl := 9) (q := 5) ⟨rfl, rfl⟩ ⟨rfl, by decide⟩ (zOl hF rfl) (hF.2 0 5 109 rfl) ?_
  refine w_ic (pc' := 47) ⟨rfl, rfl⟩ ?_
  refine w_dup2 (pc' := 48) ⟨rfl, rfl⟩ ?_
  refine w_iald (pc' := 49) ⟨rfl, rfl⟩ (zAl hF rfl) (zixA (j := 3) (by decide)) (show zI _ 109 3 = iZ (0) from hI 109 3 rfl) ?_
  refine w_ic (pc' := 50) ⟨rfl, rfl⟩ ?_
  refine w_iaddZ (pc' := 51) ⟨rfl, rfl⟩ ?_
  refine w_iast (pc' := 52) ⟨rfl, rfl⟩ (zAl hF rfl) (zixA (j := 3) (by decide)) ?_
  refine w_ic (pc' := 53) ⟨rfl, rfl⟩ ?_
  refine w_ireturn (pc' := 54) ⟨rfl, rfl⟩ (Or.inl rfl) ?_
  exact k _ (zFm.wI (List.mem_range.mpr (by decide)))
theorem f_X11_account {σ : zSt} (hF : zFx σ) (hP : zR σ 0 10 = some 114) (hB : zR σ 1 2 = some 5) (hI : zFr1 σ) (hC : zCn σ zc0) {w : Int} (hw : (-2147483648 ≤ w ∧ w ≤ 2147483647)) {Q : zSt → Option Value → Prop} (k : ∀ σ1, zFm (List.range 164) σ σ1 → Q σ1 (some (.int (iZ (-1))))) : zCa 158 [.ref 0, .int (iZ w)] σ Q := by
  refine w_enter (c := zk_X11_account) (ls2 := [(0, .ref 0), (1, .int (iZ w))]) rfl ⟨rfl, rfl, trivial⟩ ?_
  have hnS : zI σ 114 2 = iZ 0 := hI 114 2 rfl
  have hnP : zI σ 114 3 = iZ 0 := hI 114 3 rfl
  refine w_aload_n (pc' := 1) ⟨rfl, rfl⟩ rfl ?_
  refine w_getZ (pc' := 4) (cl := 9) (q := 11) ⟨rfl, rfl⟩ ⟨rfl, by decide⟩ (zOl hF rfl) (show zI _ 0 11 = iZ (0) from hI 0 11 rfl) ?_
  refine w_ifT_eq (pc' := 7) (pcT := 26) ⟨rfl, rfl⟩ rfl (by decide) ?_
  refine w_ic (pc' := 27) ⟨rfl, rfl⟩ ?_
  refine w_ireturn (pc' := 28) ⟨rfl, rfl⟩ (Or.inl rfl) ?_
  exact k _ zFm.refl
theorem f_X11_would {σ : zSt} (hF : zFx σ) (hP : zR σ 0 10 = some 114) (hB : zR σ 1 2 = some 5) (hI : zFr1 σ) (hC : zCn σ zc0) {c : Int} (hc : (-2147483648 ≤ c ∧ c ≤ 2147483647)) {r : Int} (hr : (-2147483648 ≤ r ∧ r ≤ 2147483647)) {w : Int} (hw : (-2147483648 ≤ w ∧ w ≤ 2147483647)) {Q : zSt → Option Value → Prop} (k : ∀ σ1, zFm (List.range 164) σ σ1 → Q σ1 (some (.int (iZ (-1))))) : zCa 159 [.ref 0, .int (iZ c), .int (iZ r), .int (iZ w)] σ Q := by
  refine w_enter (c := zk_X11_would) (ls2 := [(0, .ref 0), (1, .int (iZ c)), (2, .int (iZ r)), (3, .int (iZ w))]) rfl ⟨rfl, rfl, rfl, rfl, trivial⟩ ?_
  have hnS : zI σ 114 2 = iZ 0 := hI 114 2 rfl
  have hnP : zI σ 114 3 = iZ 0 := hI 114 3 rfl
  refine w_aload_n (pc' := 1) ⟨rfl, rfl⟩ rfl ?_
  refine w_getR (pc' := 4) (cl := 9) (q := 10) ⟨rfl, rfl⟩ ⟨rfl, by decide⟩ (zOl hF rfl) hP ?_
  refine w_iload_n (pc' := 5) ⟨rfl, rfl⟩ rfl ?_
  refine w_cv2 (pc' := 8) ⟨rfl, rfl⟩ (by decide) (zOl hF rfl) (Nat.le_of_ble_eq_true rfl) (Nat.le_of_ble_eq_true rfl) (f_passage hF (show zI _ 114 3 = iZ (0) from hI 114 3 rfl) (by omega) ?_)
  refine w_astoreN (pc' := 10) ⟨rfl, rfl⟩ rfl ?_
  refine w_aloadN (pc' := 12) ⟨rfl, rfl⟩ rfl ?_
  refine w_ifnullN (pc' := 15) (pcT := 31) ⟨rfl, rfl⟩ rfl  ?_
  refine w_ic (pc' := 32) ⟨rfl, rfl⟩ ?_
  refine w_ireturn (pc' := 33) ⟨rfl, rfl⟩ (Or.inl rfl) ?_
  exact k _ zFm.refl
theorem f_X11_round {σ : zSt} (hF : zFx σ) (hP : zR σ 0 10 = some 114) (hB : zR σ 1 2 = some 5) (hI : zFr1 σ) (hC : zCn σ zc0) {c : Int} (hc : (-2147483648 ≤ c ∧ c ≤ 2147483647)) {b : Int} (hb : (-2147483648 ≤ b ∧ b ≤ 2147483647)) {r : Int} (hr : (-2147483648 ≤ r ∧ r ≤ 2147483647)) {Q : zSt → Option Value → Prop} (k : ∀ σ1, zFm (List.range 164) σ σ1 → Q σ1 (some (.long (lZ (-4611686018427387904))))) : zCa 160 [.ref 0, .int (iZ c), .int (iZ b), .int (iZ r)] σ Q := by
  refine w_enter (c := zk_X11_round) (ls2 := [(0, .ref 0), (1, .int (iZ c)), (2, .int (iZ b)), (3, .int (iZ r))]) rfl ⟨rfl, rfl, rfl, rfl, trivial⟩ ?_
  have hnS : zI σ 114 2 = iZ 0 := hI 114 2 rfl
  have hnP : zI σ 114 3 = iZ 0 := hI 114 3 rfl
  refine w_aload_n (pc' := 1) ⟨rfl, rfl⟩ rfl ?_
  refine w_getR (pc' := 4) (cl := 9) (q := 10) ⟨rfl, rfl⟩ ⟨rfl, by decide⟩ (zOl hF rfl) hP ?_
  refine w_iload_n (pc' := 5) ⟨rfl, rfl⟩ rfl ?_
  refine w_cv2 (pc' := 8) ⟨rfl, rfl⟩ (by decide) (zOl hF rfl) (Nat.le_of_ble_eq_true rfl) (Nat.le_of_ble_eq_true rfl) (f_passage hF (show zI _ 114 3 = iZ (0) from hI 114 3 rfl) (by omega) ?_)
  refine w_astoreN (pc' := 10) ⟨rfl, rfl⟩ rfl ?_
  refine w_aload_n (pc' := 11) ⟨rfl, rfl⟩ rfl ?_
  refine w_getR (pc' := 14) (cl := 9) (q := 10) ⟨rfl, rfl⟩ ⟨rfl, by decide⟩ (zOl hF rfl) hP ?_
  refine w_iload_n (pc' := 15) ⟨rfl, rfl⟩ rfl ?_
  refine w_cv2 (pc' := 18) ⟨rfl, rfl⟩ (by decide) (zOl hF rfl) (Nat.le_of_ble_eq_true rfl) (Nat.le_of_ble_eq_true rfl) (f_passage hF (show zI _ 114 3 = iZ (0) from hI 114 3 rfl) (by omega) ?_)
  refine w_astoreN (pc' := 20) ⟨rfl, rfl⟩ rfl ?_
  refine w_aloadN (pc' := 22) ⟨rfl, rfl⟩ rfl ?_
  refine w_ifnullN (pc' := 25) (pcT := 40) ⟨rfl, rfl⟩ rfl  ?_
  refine w_ldc2Y (pc' := 43) (z := -4611686018427387904) ⟨rfl, rfl⟩ rfl ?_
  refine w_lreturn (pc' := 44) ⟨rfl, rfl⟩ ?_
  exact k _ zFm.refl
theorem f_X11_proved {σ : zSt} (hF : zFx σ) (hP : zR σ 0 10 = some 114) (hB : zR σ 1 2 = some 5) (hI : zFr1 σ) (hC : zCn σ zc0) {c : Int} (hc : (-2147483648 ≤ c ∧ c ≤ 2147483647)) {b : Int} (hb : (-2147483648 ≤ b ∧ b ≤ 2147483647)) {Q : zSt → Option Value → Prop} (k : ∀ σ1, zFm (List.range 164) σ σ1 → Q σ1 (some (.int (iZ (-1))))) : zCa 161 [.ref 0, .int (iZ c), .int (iZ b)] σ Q := by
  refine w_enter (c := zk_X11_proved) (ls2 := [(0, .ref 0), (1, .int (iZ c)), (2, .int (iZ b))]) rfl ⟨rfl, rfl, rfl, trivial⟩ ?_
  have hnS : zI σ 114 2 = iZ 0 := hI 114 2 rfl
  have hnP : zI σ 114 3 = iZ 0 := hI 114 3 rfl
  refine w_aload_n (pc' := 1) ⟨rfl, rfl⟩ rfl ?_
  refine w_getR (pc' := 4) (cl := 9) (q := 10) ⟨rfl, rfl⟩ ⟨rfl, by decide⟩ (zOl hF rfl) hP ?_
  refine w_iload_n (pc' := 5) ⟨rfl, rfl⟩ rfl ?_
  refine w_cv2 (pc' := 8) ⟨rfl, rfl⟩ (by decide) (zOl hF rfl) (Nat.le_of_ble_eq_true rfl) (Nat.le_of_ble_eq_true rfl) (f_passage hF (show zI _ 114 3 = iZ (0) from hI 114 3 rfl) (by omega) ?_)
  refine w_astore_nN (pc' := 9) ⟨rfl, rfl⟩ rfl ?_
  refine w_aload_n (pc' := 10) ⟨rfl, rfl⟩ rfl ?_
  refine w_getR (pc' := 13) (cl := 9) (q := 10) ⟨rfl, rfl⟩ ⟨rfl, by decide⟩ (zOl hF rfl) hP ?_
  refine w_iload_n (pc' := 14) ⟨rfl, rfl⟩ rfl ?_
  refine w_cv2 (pc' := 17) ⟨rfl, rfl⟩ (by decide) (zOl hF rfl) (Nat.le_of_ble_eq_true rfl) (Nat.le_of_ble_eq_true rfl) (f_passage hF (show zI _ 114 3 = iZ (0) from hI 114 3 rfl) (by omega) ?_)
  refine w_astoreN (pc' := 19) ⟨rfl, rfl⟩ rfl ?_
  refine w_aload_nN (pc' := 20) ⟨rfl, rfl⟩ rfl ?_
  refine w_ifnullN (pc' := 23) (pcT := 37) ⟨rfl, rfl⟩ rfl  ?_
  refine w_ic (pc' := 38) ⟨rfl, rfl⟩ ?_
  refine w_ireturn (pc' := 39) ⟨rfl, rfl⟩ (Or.inl rfl) ?_
  exact k _ zFm.refl
theorem f_X11_way {σ : zSt} (hF : zFx σ) (hP : zR σ 0 10 = some 114) (hB : zR σ 1 2 = some 5) (hI : zFr1 σ) (hC : zCn σ zc0) {a : Int} (ha : (-2147483648 ≤ a ∧ a ≤ 2147483647)) {b : Int} (hb : (-2147483648 ≤ b ∧ b ≤ 2147483647)) {q : Int} (hq : (-2147483648 ≤ q ∧ q ≤ 2147483647)) {Q : zSt → Option Value → Prop} (k : ∀ σ1, zFm (List.range 164) σ σ1 → Q σ1 (some (.int (iZ (-1))))) : zCa 162 [.ref 0, .int (iZ a), .int (iZ b), .int (iZ q)] σ Q := by
  refine w_enter (c := zk_X11_way) (ls2 := [(0, .ref 0), (1, .int (iZ a)), (2, .int (iZ b)), (3, .int (iZ q))]) rfl ⟨rfl, rfl, rfl, rfl, trivial⟩ ?_
  have hnS : zI σ 114 2 = iZ 0 := hI 114 2 rfl
  have hnP : zI σ 114 3 = iZ 0 := hI 114 3 rfl
  refine w_aload_n (pc' := 1) ⟨rfl, rfl⟩ rfl ?_
  refine w_getR (pc' := 4) (cl := 9) (q := 10) ⟨rfl, rfl⟩ ⟨rfl, by decide⟩ (zOl hF rfl) hP ?_
  refine w_iload_n (pc' := 5) ⟨rfl, rfl⟩ rfl ?_
  refine w_cv2 (pc' := 8) ⟨rfl, rfl⟩ (by decide) (zOl hF rfl) (Nat.le_of_ble_eq_true rfl) (Nat.le_of_ble_eq_true rfl) (f_shape hF (show zI _ 114 2 = iZ (0) from hI 114 2 rfl) (by omega) ?_)
  refine w_ifnullN (pc' := 11) (pcT := 27) ⟨rfl, rfl⟩ rfl  ?_
  refine w_ic (pc' := 28) ⟨rfl, rfl⟩ ?_
  refine w_ireturn (pc' := 29) ⟨rfl, rfl⟩ (Or.inl rfl) ?_
  exact k _ zFm.refl
theorem f_X11_least {σ : zSt} (hF : zFx σ) (hP : zR σ 0 10 = some 114) (hB : zR σ 1 2 = some 5) (hI : zFr1 σ) (hC : zCn σ zc0) {a : Int} (ha : (-2147483648 ≤ a ∧ a ≤ 2147483647)) {r : Int} (hr : (-2147483648 ≤ r ∧ r ≤ 2147483647)) {b : Int} (hb : (-2147483648 ≤ b ∧ b ≤ 2147483647)) {q : Int} (hq : (-2147483648 ≤ q ∧ q ≤ 2147483647)) {Q : zSt → Option Value → Prop} (k : ∀ σ1, zFm (List.range 164) σ σ1 → Q σ1 (some (.int (iZ (-1))))) : zCa 163 [.ref 0, .int (iZ a), .int (iZ r), .int (iZ b), .int (iZ q)] σ Q := by
  refine w_enter (c := zk_X11_least) (ls2 := [(0, .ref 0), (1, .int (iZ a)), (2, .int (iZ r)), (3, .int (iZ b)), (4, .int (iZ q))]) rfl ⟨rfl, rfl, rfl, rfl, rfl, trivial⟩ ?_
  have hnS : zI σ 114 2 = iZ 0 := hI 114 2 rfl
  have hnP : zI σ 114 3 = iZ 0 := hI 114 3 rfl
  refine w_aload_n (pc' := 1) ⟨rfl, rfl⟩ rfl ?_
  refine w_getR (pc' := 4) (cl := 9) (q := 10) ⟨rfl, rfl⟩ ⟨rfl, by decide⟩ (zOl hF rfl) hP ?_
  refine w_iload_n (pc' := 5) ⟨rfl, rfl⟩ rfl ?_
  refine w_cv2 (pc' := 8) ⟨rfl, rfl⟩ (by decide) (zOl hF rfl) (Nat.le_of_ble_eq_true rfl) (Nat.le_of_ble_eq_true rfl) (f_shape hF (show zI _ 114 2 = iZ (0) from hI 114 2 rfl) (by omega) ?_)
  refine w_astoreN (pc' := 10) ⟨rfl, rfl⟩ rfl ?_
  refine w_aloadN (pc' := 12) ⟨rfl, rfl⟩ rfl ?_
  refine w_ifnullN (pc' := 15) (pcT := 43) ⟨rfl, rfl⟩ rfl  ?_
  refine w_ic (pc' := 44) ⟨rfl, rfl⟩ ?_
  refine w_ireturn (pc' := 45) ⟨rfl, rfl⟩ (Or.inl rfl) ?_
  exact k _ zFm.refl
theorem f_X11_origins {σ : zSt} (hF : zFx σ) (hP : zR σ 0 10 = some 114) (hB : zR σ 1 2 = some 5) (hI : zFr1 σ) (hC : zCn σ zc0) {c : Int} (hc : (-2147483648 ≤ c ∧ c ≤ 2147483647)) {r : Int} (hr : (-2147483648 ≤ r ∧ r ≤ 2147483647)) {Q : zSt → Option Value → Prop} (k : ∀ σ1, zFm (List.range 164) σ σ1 → Q σ1 (some (.int (iZ (-1))))) : zCa 164 [.ref 0, .int (iZ c), .int (iZ r)] σ Q := by
  refine w_enter (c := zk_X11_origins) (ls2 := [(0, .ref 0), (1, .int (iZ c)), (2, .int (iZ r))]) rfl ⟨rfl, rfl, rfl, trivial⟩ ?_
  have hnS : zI σ 114 2 = iZ 0 := hI 114 2 rfl
  have hnP : zI σ 114 3 = iZ 0 := hI 114 3 rfl
  refine w_aload_n (pc' := 1) ⟨rfl, rfl⟩ rfl ?_
  refine w_getR (pc' := 4) (cl := 9) (q := 10) ⟨rfl, rfl⟩ ⟨rfl, by decide⟩ (zOl hF rfl) hP ?_
  refine w_iload_n (pc' := 5) ⟨rfl, rfl⟩ rfl ?_
  refine w_cv2 (pc' := 8) ⟨rfl, rfl⟩ (by decide) (zOl hF rfl) (Nat.le_of_ble_eq_true rfl) (Nat.le_of_ble_eq_true rfl) (f_passage hF (show zI _ 114 3 = iZ (0) from hI 114 3 rfl) (by omega) ?_)
  refine w_astore_nN (pc' := 9) ⟨rfl, rfl⟩ rfl ?_
  refine w_aload_nN (pc' := 10) ⟨rfl, rfl⟩ rfl ?_
  refine w_ifnullN (pc' := 13) (pcT := 28) ⟨rfl, rfl⟩ rfl  ?_
  refine w_ic (pc' := 29) ⟨rfl, rfl⟩ ?_
  refine w_ireturn (pc' := 30) ⟨rfl, rfl⟩ (Or.inl rfl) ?_
  exact k _ zFm.refl
theorem f_X11_tells {σ : zSt} (hF : zFx σ) (hP : zR σ 0 10 = some 114) (hB : zR σ 1 2 = some 5) (hI : zFr1 σ) (hC : zCn σ zc0) {s : Int} (hs : (-2147483648 ≤ s ∧ s ≤ 2147483647)) {w : Int} (hw : (-2147483648 ≤ w ∧ w ≤ 2147483647)) {Q : zSt → Option Value → Prop} (k : ∀ σ1, zFm (List.range 164) σ σ1 → Q σ1 (some (.int (iZ (-1))))) : zCa 165 [.ref 0, .int (iZ s), .int (iZ w)] σ Q := by
  refine w_enter (c := zk_X11_tells) (ls2 := [(0, .ref 0), (1, .int (iZ s)), (2, .int (iZ w))]) rfl ⟨rfl, rfl, rfl, trivial⟩ ?_
  have hnS : zI σ 114 2 = iZ 0 := hI 114 2 rfl
  have hnP : zI σ 114 3 = iZ 0 := hI 114 3 rfl
  refine w_aload_n (pc' := 1) ⟨rfl, rfl⟩ rfl ?_
  refine w_getR (pc' := 4) (cl := 9) (q := 10) ⟨rfl, rfl⟩ ⟨rfl, by decide⟩ (zOl hF rfl) hP ?_
  refine w_iload_n (pc' := 5) ⟨rfl, rfl⟩ rfl ?_
  refine w_cv2 (pc' := 8) ⟨rfl, rfl⟩ (by decide) (zOl hF rfl) (Nat.le_of_ble_eq_true rfl) (Nat.le_of_ble_eq_true rfl) (f_shape hF (show zI _ 114 2 = iZ (0) from hI 114 2 rfl) (by omega) ?_)
  refine w_astore_nN (pc' := 9) ⟨rfl, rfl⟩ rfl ?_
  refine w_aload_nN (pc' := 10) ⟨rfl, rfl⟩ rfl ?_
  refine w_ifnullN (pc' := 13) (pcT := 33) ⟨rfl, rfl⟩ rfl  ?_
  refine w_ic (pc' := 34) ⟨rfl, rfl⟩ ?_
  refine w_ireturn (pc' := 35) ⟨rfl, rfl⟩ (Or.inl rfl) ?_
  exact k _ zFm.refl
theorem f_X11_idle {σ : zSt} (hF : zFx σ) (hP : zR σ 0 10 = some 114) (hB : zR σ 1 2 = some 5) (hI : zFr1 σ) (hC : zCn σ zc0) {s : Int} (hs : (-2147483648 ≤ s ∧ s ≤ 2147483647)) {w : Int} (hw : (-2147483648 ≤ w ∧ w ≤ 2147483647)) {Q : zSt → Option Value → Prop} (k : ∀ σ1, zFm (List.range 164) σ σ1 → Q σ1 (some (.int (iZ (-1))))) : zCa 166 [.ref 0, .int (iZ s), .int (iZ w)] σ Q := by
  refine w_enter (c := zk_X11_idle) (ls2 := [(0, .ref 0), (1, .int (iZ s)), (2, .int (iZ w))]) rfl ⟨rfl, rfl, rfl, trivial⟩ ?_
  have hnS : zI σ 114 2 = iZ 0 := hI 114 2 rfl
  have hnP : zI σ 114 3 = iZ 0 := hI 114 3 rfl
  refine w_aload_n (pc' := 1) ⟨rfl, rfl⟩ rfl ?_
  refine w_getR (pc' := 4) (cl := 9) (q := 10) ⟨rfl, rfl⟩ ⟨rfl, by decide⟩ (zOl hF rfl) hP ?_
  refine w_iload_n (pc' := 5) ⟨rfl, rfl⟩ rfl ?_
  refine w_cv2 (pc' := 8) ⟨rfl, rfl⟩ (by decide) (zOl hF rfl) (Nat.le_of_ble_eq_true rfl) (Nat.le_of_ble_eq_true rfl) (f_shape hF (show zI _ 114 2 = iZ (0) from hI 114 2 rfl) (by omega) ?_)
  refine w_astore_nN (pc' := 9) ⟨rfl, rfl⟩ rfl ?_
  refine w_aload_nN (pc' := 10) ⟨rfl, rfl⟩ rfl ?_
  refine w_ifnullN (pc' := 13) (pcT := 22) ⟨rfl, rfl⟩ rfl  ?_
  refine w_ic (pc' := 23) ⟨rfl, rfl⟩ ?_
  refine w_ireturn (pc' := 24) ⟨rfl, rfl⟩ (Or.inl rfl) ?_
  exact k _ zFm.refl
theorem f_X6_goBack {σ : zSt} (hF : zFx σ) (hP : zR σ 0 10 = some 114) (hB : zR σ 1 2 = some 5) (hI : zFr1 σ) (hC : zCn σ zc0) {Q : zSt → Option Value → Prop} (k : Q σ (some (.int (iZ 0)))) : zCa 67 [.ref 79] σ Q := by
  refine w_enter (c := zk_X6_goBack) (ls2 := [(0, .ref 79)]) rfl ⟨rfl, trivial⟩ ?_
  have hnS : zI σ 114 2 = iZ 0 := hI 114 2 rfl
  have hnP : zI σ 114 3 = iZ 0 := hI 114 3 rfl
  refine w_aload_n (pc' := 1) ⟨rfl, rfl⟩ rfl ?_
  refine w_getI (pc' := 4) (cl := 4) (q := 3) ⟨rfl, rfl⟩ ⟨rfl, by decide⟩ (zOl hF rfl) (show zI _ 79 3 = iZ (0) from hI 79 3 rfl) ?_
  refine w_ifF_gt (pc' := 7) ⟨rfl, rfl⟩ (by decide) ?_
  refine w_ic (pc' := 8) ⟨rfl, rfl⟩ ?_
  refine w_ireturn (pc' := 9) ⟨rfl, rfl⟩ (by decide) ?_
  exact k
theorem f_X11_undo {σ : zSt} (hF : zFx σ) (hP : zR σ 0 10 = some 114) (hB : zR σ 1 2 = some 5) (hI : zFr1 σ) (hC : zCn σ zc0) {Q : zSt → Option Value → Prop} (k : ∀ σ1, zFm (List.range 164) σ σ1 → Q σ1 (some (.int (iZ 0)))) : zCa 168 [.ref 0] σ Q := by
  refine w_enter (c := zk_X11_undo) (ls2 := [(0, .ref 0)]) rfl ⟨rfl, trivial⟩ ?_
  have hnS : zI σ 114 2 = iZ 0 := hI 114 2 rfl
  have hnP : zI σ 114 3 = iZ 0 := hI 114 3 rfl
  refine w_aload_n (pc' := 1) ⟨rfl, rfl⟩ rfl ?_
  refine w_getR (pc' := 4) (cl := 9) (q := 2) ⟨rfl, rfl⟩ ⟨rfl, by decide⟩ (zOl hF rfl) (hF.2 0 2 79 rfl) ?_
  refine w_cv1 (pc' := 7) ⟨rfl, rfl⟩ (by decide) (zOl hF rfl) (Nat.le_of_ble_eq_true rfl) (Nat.le_of_ble_eq_true rfl) (f_X6_goBack hF hP hB hI hC ?_)
  refine w_ifF_ne (pc' := 10) ⟨rfl, rfl⟩ (by decide) ?_
  refine w_aload_n (pc' := 11) ⟨rfl, rfl⟩ rfl ?_
  refine w_getR (pc' := 14) (cl := 9) (q := 5) ⟨rfl, rfl⟩ ⟨rfl, by decide⟩ (zOl hF rfl) (hF.2 0 5 109 rfl) ?_
  refine w_ic (pc' := 15) ⟨rfl, rfl⟩ ?_
  refine w_dup2 (pc' := 16) ⟨rfl, rfl⟩ ?_
  refine w_iald (pc' := 17) ⟨rfl, rfl⟩ (zAl hF rfl) (zixA (j := 4) (by decide)) (show zI _ 109 4 = iZ (0) from hI 109 4 rfl) ?_
  refine w_ic (pc' := 18) ⟨rfl, rfl⟩ ?_
  refine w_iaddZ (pc' := 19) ⟨rfl, rfl⟩ ?_
  refine w_iast (pc' := 20) ⟨rfl, rfl⟩ (zAl hF rfl) (zixA (j := 4) (by decide)) ?_
  refine w_ic (pc' := 21) ⟨rfl, rfl⟩ ?_
  refine w_ireturn (pc' := 22) ⟨rfl, rfl⟩ (by decide) ?_
  exact k _ (zFm.wI (List.mem_range.mpr (by decide)))
theorem f_X11_seed {σ : zSt} (hF : zFx σ) (hP : zR σ 0 10 = some 114) (hB : zR σ 1 2 = some 5) (hI : zFr1 σ) (hC : zCn σ zc0) {s : Int} (hs : (-2147483648 ≤ s ∧ s ≤ 2147483647)) {Q : zSt → Option Value → Prop} (k : ∀ σ1, zFm (List.range 164) σ σ1 → Q σ1 (some (.int (iZ (zaS s))))) : zCa 169 [.ref 0, .int (iZ s)] σ Q := by
  refine w_enter (c := zk_X11_seed) (ls2 := [(0, .ref 0), (1, .int (iZ s))]) rfl ⟨rfl, rfl, trivial⟩ ?_
  have hnS : zI σ 114 2 = iZ 0 := hI 114 2 rfl
  have hnP : zI σ 114 3 = iZ 0 := hI 114 3 rfl
  refine w_iload_n (pc' := 1) ⟨rfl, rfl⟩ rfl ?_
  refine w_if_ge (pc' := 4) (pcT := 16) ⟨rfl, rfl⟩ rfl (by omega) (fun h1 => ?_) (fun h1 => ?_)
  · refine w_aload_n (pc' := 17) ⟨rfl, rfl⟩ rfl ?_
    refine w_iload_n (pc' := 18) ⟨rfl, rfl⟩ rfl ?_
    refine w_putI (pc' := 21) (cl := 9) (q := 13) ⟨rfl, rfl⟩ ⟨rfl, by decide⟩ (zOl hF rfl) ?_
    refine w_ic (pc' := 22) ⟨rfl, rfl⟩ ?_
    refine w_ireturn (pc' := 23) ⟨rfl, rfl⟩ (by decide) ?_
    exact zQi (k _ (zFm.wI (List.mem_range.mpr (by decide)))) (by unfold zaS; (repeat' split) <;> omega)
  · refine w_aload_n (pc' := 5) ⟨rfl, rfl⟩ rfl ?_
    refine w_getR (pc' := 8) (cl := 9) (q := 5) ⟨rfl, rfl⟩ ⟨rfl, by decide⟩ (zOl hF rfl) (hF.2 0 5 109 rfl) ?_
    refine w_ic (pc' := 9) ⟨rfl, rfl⟩ ?_
    refine w_dup2 (pc' := 10) ⟨rfl, rfl⟩ ?_
    refine w_iald (pc' := 11) ⟨rfl, rfl⟩ (zAl hF rfl) (zixA (j := 5) (by decide)) (show zI _ 109 5 = iZ (0) from hI 109 5 rfl) ?_
    refine w_ic (pc' := 12) ⟨rfl, rfl⟩ ?_
    refine w_iaddZ (pc' := 13) ⟨rfl, rfl⟩ ?_
    refine w_iast (pc' := 14) ⟨rfl, rfl⟩ (zAl hF rfl) (zixA (j := 5) (by decide)) ?_
    refine w_ic (pc' := 15) ⟨rfl, rfl⟩ ?_
    refine w_ireturn (pc' := 16) ⟨rfl, rfl⟩ (by decide) ?_
    exact zQi (k _ (zFm.wI (List.mem_range.mpr (by decide)))) (by unfold zaS; (repeat' split) <;> omega)
theorem f_X11_status {σ : zSt} (hF : zFx σ) (hP : zR σ 0 10 = some 114) (hB : zR σ 1 2 = some 5) (hI : zFr1 σ) (hC : zCn σ zc0) {w : Int} (hw : (-2147483648 ≤ w ∧ w ≤ 2147483647)) {Q : zSt → Option Value → Prop} (k : ∀ σ1, zFm (List.range 164) σ σ1 → Q σ1 (some (.int (iZ (zaU w))))) : zCa 170 [.ref 0, .int (iZ w)] σ Q := by
  refine w_enter (c := zk_X11_status) (ls2 := [(0, .ref 0), (1, .int (iZ w))]) rfl ⟨rfl, rfl, trivial⟩ ?_
  have hnS : zI σ 114 2 = iZ 0 := hI 114 2 rfl
  have hnP : zI σ 114 3 = iZ 0 := hI 114 3 rfl
  have hst : ∀ j : Nat, j ≤ 5 → zI σ 109 j = iZ 0 := fun j hj => by
    rcases (show j = 0 ∨ j = 1 ∨ j = 2 ∨ j = 3 ∨ j = 4 ∨ j = 5 by omega) with rfl | rfl | rfl | rfl | rfl | rfl <;> exact hI 109 _ rfl
  refine w_iload_n (pc' := 1) ⟨rfl, rfl⟩ rfl ?_
  refine w_if_lt (pc' := 4) (pcT := 22) ⟨rfl, rfl⟩ rfl (by omega) (fun h1 => ?_) (fun h1 => ?_)
  · refine w_ic (pc' := 23) ⟨rfl, rfl⟩ ?_
    refine w_ireturn (pc' := 24) ⟨rfl, rfl⟩ (Or.inl rfl) ?_
    exact zQi (k _ zFm.refl) (by unfold zaU; (repeat' split) <;> omega)
  · refine w_iload_n (pc' := 5) ⟨rfl, rfl⟩ rfl ?_
    refine w_aload_n (pc' := 6) ⟨rfl, rfl⟩ rfl ?_
    refine w_getR (pc' := 9) (cl := 9) (q := 5) ⟨rfl, rfl⟩ ⟨rfl, by decide⟩ (zOl hF rfl) (hF.2 0 5 109 rfl) ?_
    refine w_alenZ (pc' := 10) ⟨rfl, rfl⟩ (zAl hF rfl) (by decide) ?_
    refine w_ic_ge (pc' := 13) (pcT := 22) ⟨rfl, rfl⟩ rfl (by omega) (by omega) (fun h2 => ?_) (fun h2 => ?_)
    · refine w_ic (pc' := 23) ⟨rfl, rfl⟩ ?_
      refine w_ireturn (pc' := 24) ⟨rfl, rfl⟩ (Or.inl rfl) ?_
      exact zQi (k _ zFm.refl) (by unfold zaU; (repeat' split) <;> omega)
    · refine w_aload_n (pc' := 14) ⟨rfl, rfl⟩ rfl ?_
      refine w_getR (pc' := 17) (cl := 9) (q := 5) ⟨rfl, rfl⟩ ⟨rfl, by decide⟩ (zOl hF rfl) (hF.2 0 5 109 rfl) ?_
      refine w_iload_n (pc' := 18) ⟨rfl, rfl⟩ rfl ?_
      refine w_iald (pc' := 19) ⟨rfl, rfl⟩ (zAl hF rfl) (zixA (j := w.toNat) (by omega)) (hst w.toNat (by omega)) ?_
      refine w_goto (pc' := 22) (pcT := 23) ⟨rfl, rfl⟩ rfl ?_
      refine w_ireturn (pc' := 24) ⟨rfl, rfl⟩ (Or.inl rfl) ?_
      exact zQi (k _ zFm.refl) (by unfold zaU; (repeat' split) <;> omega)
/-- the class's tape is empty -/
def zT0 (σ : zSt) : Prop := zTp σ 0 (fun _ => 0)
theorem zT0_of {σ : zSt} (h : zI σ 3 1 = iZ 0) : zT0 σ := ⟨h, by decide, fun i hi => absurd hi (by omega)⟩
theorem zlt0 {b : Nat → Int} {z : Int} : ¬ zlt 0 b z := fun h => by have := zlt_in h; omega
theorem zdg0 {b : Nat → Int} {z : Int} : ¬ zdg 0 b z := fun h => by have := zdg_in h; omega
theorem f_letters {σ : zSt} (hF : zFx σ) (hT : zT0 σ) {Q : zSt → Option Value → Prop} (k : Q σ (some (.int (iZ 0)))) : zCa 110 [.ref 3, .int (iZ 0)] σ Q := c_lettersFrom hF hT (by omega) (zQi k (by rw [zcnt_f (Or.inl zlt0)]; rfl))
theorem f_digits {σ : zSt} (hF : zFx σ) (hT : zT0 σ) {Q : zSt → Option Value → Prop} (k : Q σ (some (.int (iZ 0)))) : zCa 111 [.ref 3, .int (iZ 0)] σ Q := c_digitsFrom hF hT (by omega) (zQi k (by rw [zcnt_f (Or.inl zdg0)]; rfl))
theorem f_nameFrom {σ : zSt} (hF : zFx σ) (hT : zT0 σ) {Q : zSt → Option Value → Prop} (k : Q σ (some (.int (iZ 0)))) : zCa 113 [.ref 3, .int (iZ 0)] σ Q := by
  refine w_enter (c := zk_X9_nameFrom) (ls2 := [(0, .ref 3), (1, .int (iZ 0))]) rfl ⟨rfl, rfl, trivial⟩ ?_
  refine w_ic (pc' := 1) ⟨rfl, rfl⟩ ?_
  refine w_istore_n (pc' := 2) ⟨rfl, rfl⟩ rfl ?_
  refine w_ic (pc' := 3) ⟨rfl, rfl⟩ ?_
  refine w_istore_n (pc' := 4) ⟨rfl, rfl⟩ rfl ?_
  refine w_iload_n (pc' := 5) ⟨rfl, rfl⟩ rfl ?_
  refine w_bi (pc' := 7) ⟨rfl, rfl⟩ (by decide) ?_
  refine w_icF_ge (pc' := 10) ⟨rfl, rfl⟩ (by decide) ?_
  refine w_aload_n (pc' := 11) ⟨rfl, rfl⟩ rfl ?_
  refine w_iload_n (pc' := 12) ⟨rfl, rfl⟩ rfl ?_
  refine w_iload_n (pc' := 13) ⟨rfl, rfl⟩ rfl ?_
  refine w_iaddZ (pc' := 14) ⟨rfl, rfl⟩ ?_
  refine w_cv2 (pc' := 17) ⟨rfl, rfl⟩ (by decide) (zOl hF rfl) (Nat.le_of_ble_eq_true rfl) (Nat.le_of_ble_eq_true rfl) (c_isLetter hF hT (by omega) (fun h => ?_) (fun h => ?_))
  · exact absurd h zlt0
  · refine w_ifT_eq (pc' := 20) (pcT := 44) ⟨rfl, rfl⟩ rfl (by decide) ?_
    refine w_iload_n (pc' := 45) ⟨rfl, rfl⟩ rfl ?_
    refine w_ireturn (pc' := 46) ⟨rfl, rfl⟩ (Or.inl rfl) ?_
    exact k
theorem f_numberFrom {σ : zSt} (hF : zFx σ) {Q : zSt → Option Value → Prop} (k : Q σ (some (.int (iZ 0)))) : zCa 112 [.ref 3, .int (iZ 0), .int (iZ 0)] σ Q := by
  refine w_enter (c := zk_X9_numberFrom) (ls2 := [(0, .ref 3), (1, .int (iZ 0)), (2, .int (iZ 0))]) rfl ⟨rfl, rfl, rfl, trivial⟩ ?_
  refine w_ic (pc' := 1) ⟨rfl, rfl⟩ ?_
  refine w_istore_n (pc' := 2) ⟨rfl, rfl⟩ rfl ?_
  refine w_ic (pc' := 3) ⟨rfl, rfl⟩ ?_
  refine w_istore (pc' := 5) ⟨rfl, rfl⟩ rfl ?_
  refine w_iload (pc' := 7) ⟨rfl, rfl⟩ rfl ?_
  refine w_iload_n (pc' := 8) ⟨rfl, rfl⟩ rfl ?_
  refine w_icT_ge (pc' := 11) (pcT := 45) ⟨rfl, rfl⟩ rfl (by decide) ?_
  refine w_iload_n (pc' := 46) ⟨rfl, rfl⟩ rfl ?_
  refine w_ireturn (pc' := 47) ⟨rfl, rfl⟩ (Or.inl rfl) ?_
  exact k
theorem f_min {σ : zSt} {Q : zSt → Option Value → Prop} (k : Q σ (some (.int (iZ 0)))) : zCa 316 [.int (iZ 0), .int (iZ 3)] σ Q := by
  refine w_enter (c := zk_J9_min_7cf53) (ls2 := [(0, .int (iZ 0)), (1, .int (iZ 3))]) rfl ⟨rfl, rfl, trivial⟩ ?_
  refine w_iload_n (pc' := 1) ⟨rfl, rfl⟩ rfl ?_
  refine w_iload_n (pc' := 2) ⟨rfl, rfl⟩ rfl ?_
  refine w_icF_gt (pc' := 5) ⟨rfl, rfl⟩ (by decide) ?_
  refine w_iload_n (pc' := 6) ⟨rfl, rfl⟩ rfl ?_
  refine w_goto (pc' := 9) (pcT := 10) ⟨rfl, rfl⟩ rfl ?_
  refine w_ireturn (pc' := 11) ⟨rfl, rfl⟩ (Or.inl rfl) ?_
  exact k
theorem f_wholeName {σ : zSt} (hF : zFx σ) (hT : zT0 σ) {Q : zSt → Option Value → Prop} (k : Q σ (some (.int (iZ 0)))) : zCa 114 [.ref 3] σ Q := by
  refine w_enter (c := zk_X9_wholeName) (ls2 := [(0, .ref 3)]) rfl ⟨rfl, trivial⟩ ?_
  refine w_aload_n (pc' := 1) ⟨rfl, rfl⟩ rfl ?_
  refine w_getI (pc' := 4) (cl := 7) (q := 1) ⟨rfl, rfl⟩ ⟨rfl, by decide⟩ (zOl hF rfl) hT.1 ?_
  refine w_bi (pc' := 6) ⟨rfl, rfl⟩ (by decide) ?_
  refine w_icF_gt (pc' := 9) ⟨rfl, rfl⟩ (by decide) ?_
  refine w_aload_n (pc' := 10) ⟨rfl, rfl⟩ rfl ?_
  refine w_ic (pc' := 11) ⟨rfl, rfl⟩ ?_
  refine w_cv2 (pc' := 14) ⟨rfl, rfl⟩ (by decide) (zOl hF rfl) (Nat.le_of_ble_eq_true rfl) (Nat.le_of_ble_eq_true rfl) (f_letters hF hT ?_)
  refine w_aload_n (pc' := 15) ⟨rfl, rfl⟩ rfl ?_
  refine w_getI (pc' := 18) (cl := 7) (q := 1) ⟨rfl, rfl⟩ ⟨rfl, by decide⟩ (zOl hF rfl) hT.1 ?_
  refine w_icF_ne (pc' := 21) ⟨rfl, rfl⟩ (by decide) ?_
  refine w_aload_n (pc' := 22) ⟨rfl, rfl⟩ rfl ?_
  refine w_ic (pc' := 23) ⟨rfl, rfl⟩ ?_
  refine w_cv2 (pc' := 26) ⟨rfl, rfl⟩ (by decide) (zOl hF rfl) (Nat.le_of_ble_eq_true rfl) (Nat.le_of_ble_eq_true rfl) (f_nameFrom hF hT ?_)
  refine w_goto (pc' := 29) (pcT := 30) ⟨rfl, rfl⟩ rfl ?_
  refine w_ireturn (pc' := 31) ⟨rfl, rfl⟩ (Or.inl rfl) ?_
  exact k
theorem f_X11_named {σ : zSt} (hF : zFx σ) (hP : zR σ 0 10 = some 114) (hB : zR σ 1 2 = some 5) (hI : zFr1 σ) (hC : zCn σ zc0) {s : Int} (hs : (-2147483648 ≤ s ∧ s ≤ 2147483647)) {Q : zSt → Option Value → Prop} (k : ∀ σ1, zFm (List.range 164) σ σ1 → Q σ1 (some (.int (iZ (-1))))) : zCa 132 [.ref 0, .int (iZ s)] σ Q := by
  refine w_enter (c := zk_X11_named) (ls2 := [(0, .ref 0), (1, .int (iZ s))]) rfl ⟨rfl, rfl, trivial⟩ ?_
  have hnS : zI σ 114 2 = iZ 0 := hI 114 2 rfl
  have hnP : zI σ 114 3 = iZ 0 := hI 114 3 rfl
  refine w_aload_n (pc' := 1) ⟨rfl, rfl⟩ rfl ?_
  refine w_getR (pc' := 4) (cl := 9) (q := 0) ⟨rfl, rfl⟩ ⟨rfl, by decide⟩ (zOl hF rfl) (hF.2 0 0 3 rfl) ?_
  refine w_cv1 (pc' := 7) ⟨rfl, rfl⟩ (by decide) (zOl hF rfl) (Nat.le_of_ble_eq_true rfl) (Nat.le_of_ble_eq_true rfl) (f_wholeName hF (zT0_of (hI 3 1 rfl)) ?_)
  refine w_istore_n (pc' := 8) ⟨rfl, rfl⟩ rfl ?_
  refine w_aload_n (pc' := 9) ⟨rfl, rfl⟩ rfl ?_
  refine w_getR (pc' := 12) (cl := 9) (q := 0) ⟨rfl, rfl⟩ ⟨rfl, by decide⟩ (zOl hF rfl) (hF.2 0 0 3 rfl) ?_
  refine w_ic (pc' := 13) ⟨rfl, rfl⟩ ?_
  refine w_putI (pc' := 16) (cl := 7) (q := 1) ⟨rfl, rfl⟩ ⟨rfl, by decide⟩ (zOl hF rfl) ?_
  refine w_iload_n (pc' := 17) ⟨rfl, rfl⟩ rfl ?_
  refine w_ifF_ne (pc' := 20) ⟨rfl, rfl⟩ (by decide) ?_
  refine w_ic (pc' := 21) ⟨rfl, rfl⟩ ?_
  refine w_ireturn (pc' := 22) ⟨rfl, rfl⟩ (Or.inl rfl) ?_
  exact k _ (zFm.wI (List.mem_range.mpr (by decide)))
theorem f_clear {σ : zSt} (hF : zFx σ)  {Q : zSt → Option Value → Prop} (k : Q (zwI (zwI σ 5 2 (iZ (0))) 5 3 (iZ (0))) none) : zCa 56 [.ref 5] σ Q := by
  refine w_enter (c := zk_X4_clear) (ls2 := [(0, .ref 5)]) rfl ⟨rfl, trivial⟩ ?_
  refine w_aload_n (pc' := 1) ⟨rfl, rfl⟩ rfl ?_
  refine w_ic (pc' := 2) ⟨rfl, rfl⟩ ?_
  refine w_putI (pc' := 5) (cl := 3) (q := 2) ⟨rfl, rfl⟩ ⟨rfl, by decide⟩ (zOl hF rfl) ?_
  refine w_aload_n (pc' := 6) ⟨rfl, rfl⟩ rfl ?_
  refine w_ic (pc' := 7) ⟨rfl, rfl⟩ ?_
  refine w_putI (pc' := 10) (cl := 3) (q := 3) ⟨rfl, rfl⟩ ⟨rfl, by decide⟩ (zOl hF rfl) ?_
  refine w_return (pc' := 11) ⟨rfl, rfl⟩ ?_
  exact k
theorem f_lookAtNext {σ : zSt} (hF : zFx σ) (hT : zT0 σ) (h4 : zI σ 1 4 = iZ 0) {Q : zSt → Option Value → Prop} (k : Q (zwI (zwI (zwI (zwI (zwI σ 1 5 (iZ (0))) 1 8 (iZ (0))) 1 9 (iZ (0))) 1 6 (iZ (0))) 1 7 (iZ (-1))) none) : zCa 2 [.ref 1] σ Q := by
  refine w_enter (c := zk_X0_lookAtNext) (ls2 := [(0, .ref 1)]) rfl ⟨rfl, trivial⟩ ?_
  refine w_aload_n (pc' := 1) ⟨rfl, rfl⟩ rfl ?_
  refine w_getI (pc' := 4) (cl := 0) (q := 4) ⟨rfl, rfl⟩ ⟨rfl, by decide⟩ (zOl hF rfl) h4 ?_
  refine w_aload_n (pc' := 5) ⟨rfl, rfl⟩ rfl ?_
  refine w_getR (pc' := 8) (cl := 0) (q := 1) ⟨rfl, rfl⟩ ⟨rfl, by decide⟩ (zOl hF rfl) (hF.2 1 1 3 rfl) ?_
  refine w_getI (pc' := 11) (cl := 7) (q := 1) ⟨rfl, rfl⟩ ⟨rfl, by decide⟩ (zOl hF rfl) hT.1 ?_
  refine w_icT_ge (pc' := 14) (pcT := 41) ⟨rfl, rfl⟩ rfl (by decide) ?_
  refine w_aload_n (pc' := 42) ⟨rfl, rfl⟩ rfl ?_
  refine w_aload_n (pc' := 43) ⟨rfl, rfl⟩ rfl ?_
  refine w_getR (pc' := 46) (cl := 0) (q := 1) ⟨rfl, rfl⟩ ⟨rfl, by decide⟩ (zOl hF rfl) (hF.2 1 1 3 rfl) ?_
  refine w_aload_n (pc' := 47) ⟨rfl, rfl⟩ rfl ?_
  refine w_getI (pc' := 50) (cl := 0) (q := 4) ⟨rfl, rfl⟩ ⟨rfl, by decide⟩ (zOl hF rfl) h4 ?_
  refine w_cv2 (pc' := 53) ⟨rfl, rfl⟩ (by decide) (zOl hF rfl) (Nat.le_of_ble_eq_true rfl) (Nat.le_of_ble_eq_true rfl) (f_letters hF (zT0_of hT.1) ?_)
  refine w_putI (pc' := 56) (cl := 0) (q := 5) ⟨rfl, rfl⟩ ⟨rfl, by decide⟩ (zOl hF rfl) ?_
  refine w_aload_n (pc' := 57) ⟨rfl, rfl⟩ rfl ?_
  refine w_aload_n (pc' := 58) ⟨rfl, rfl⟩ rfl ?_
  refine w_getR (pc' := 61) (cl := 0) (q := 1) ⟨rfl, rfl⟩ ⟨rfl, by decide⟩ (zOl hF rfl) (hF.2 1 1 3 rfl) ?_
  refine w_aload_n (pc' := 62) ⟨rfl, rfl⟩ rfl ?_
  refine w_getI (pc' := 65) (cl := 0) (q := 4) ⟨rfl, rfl⟩ ⟨rfl, by decide⟩ (zOl hF rfl) ((zI_wI_n (by decide)).trans h4) ?_
  refine w_cv2 (pc' := 68) ⟨rfl, rfl⟩ (by decide) (zOl hF rfl) (Nat.le_of_ble_eq_true rfl) (Nat.le_of_ble_eq_true rfl) (f_digits (zFx_wI hF) (zT0_of ((zI_wI_n (by decide)).trans hT.1)) ?_)
  refine w_putI (pc' := 71) (cl := 0) (q := 8) ⟨rfl, rfl⟩ ⟨rfl, by decide⟩ (zOl hF rfl) ?_
  refine w_aload_n (pc' := 72) ⟨rfl, rfl⟩ rfl ?_
  refine w_aload_n (pc' := 73) ⟨rfl, rfl⟩ rfl ?_
  refine w_getR (pc' := 76) (cl := 0) (q := 1) ⟨rfl, rfl⟩ ⟨rfl, by decide⟩ (zOl hF rfl) (hF.2 1 1 3 rfl) ?_
  refine w_aload_n (pc' := 77) ⟨rfl, rfl⟩ rfl ?_
  refine w_getI (pc' := 80) (cl := 0) (q := 4) ⟨rfl, rfl⟩ ⟨rfl, by decide⟩ (zOl hF rfl) ((zI_wI_n (by decide)).trans ((zI_wI_n (by decide)).trans h4)) ?_
  refine w_aload_n (pc' := 81) ⟨rfl, rfl⟩ rfl ?_
  refine w_getI (pc' := 84) (cl := 0) (q := 8) ⟨rfl, rfl⟩ ⟨rfl, by decide⟩ (zOl hF rfl) zI_wI_s ?_
  refine w_ic (pc' := 85) ⟨rfl, rfl⟩ ?_
  refine w_cs2 (pc' := 88) ⟨rfl, rfl⟩ (by decide) (Nat.le_of_ble_eq_true rfl) (Nat.le_of_ble_eq_true rfl) (f_min ?_)
  refine w_cv3 (pc' := 91) ⟨rfl, rfl⟩ (by decide) (zOl hF rfl) (Nat.le_of_ble_eq_true rfl) (Nat.le_of_ble_eq_true rfl) (f_numberFrom (zFx_wI (zFx_wI hF)) ?_)
  refine w_putI (pc' := 94) (cl := 0) (q := 9) ⟨rfl, rfl⟩ ⟨rfl, by decide⟩ (zOl hF rfl) ?_
  refine w_aload_n (pc' := 95) ⟨rfl, rfl⟩ rfl ?_
  refine w_aload_n (pc' := 96) ⟨rfl, rfl⟩ rfl ?_
  refine w_getR (pc' := 99) (cl := 0) (q := 1) ⟨rfl, rfl⟩ ⟨rfl, by decide⟩ (zOl hF rfl) (hF.2 1 1 3 rfl) ?_
  refine w_aload_n (pc' := 100) ⟨rfl, rfl⟩ rfl ?_
  refine w_getI (pc' := 103) (cl := 0) (q := 4) ⟨rfl, rfl⟩ ⟨rfl, by decide⟩ (zOl hF rfl) ((zI_wI_n (by decide)).trans ((zI_wI_n (by decide)).trans ((zI_wI_n (by decide)).trans h4))) ?_
  refine w_cv2 (pc' := 106) ⟨rfl, rfl⟩ (by decide) (zOl hF rfl) (Nat.le_of_ble_eq_true rfl) (Nat.le_of_ble_eq_true rfl) (f_nameFrom (zFx_wI (zFx_wI (zFx_wI hF))) (zT0_of ((zI_wI_n (by decide)).trans ((zI_wI_n (by decide)).trans ((zI_wI_n (by decide)).trans hT.1)))) ?_)
  refine w_putI (pc' := 109) (cl := 0) (q := 6) ⟨rfl, rfl⟩ ⟨rfl, by decide⟩ (zOl hF rfl) ?_
  refine w_aload_n (pc' := 110) ⟨rfl, rfl⟩ rfl ?_
  refine w_ic (pc' := 111) ⟨rfl, rfl⟩ ?_
  refine w_putI (pc' := 114) (cl := 0) (q := 7) ⟨rfl, rfl⟩ ⟨rfl, by decide⟩ (zOl hF rfl) ?_
  refine w_ic (pc' := 115) ⟨rfl, rfl⟩ ?_
  refine w_istore_n (pc' := 116) ⟨rfl, rfl⟩ rfl ?_
  refine w_iload_n (pc' := 117) ⟨rfl, rfl⟩ rfl ?_
  refine w_bi (pc' := 119) ⟨rfl, rfl⟩ (by decide) ?_
  refine w_icF_ge (pc' := 122) ⟨rfl, rfl⟩ (by decide) ?_
  refine w_aload_n (pc' := 123) ⟨rfl, rfl⟩ rfl ?_
  refine w_getI (pc' := 126) (cl := 0) (q := 5) ⟨rfl, rfl⟩ ⟨rfl, by decide⟩ (zOl hF rfl) ((zI_wI_n (by decide)).trans ((zI_wI_n (by decide)).trans ((zI_wI_n (by decide)).trans ((zI_wI_n (by decide)).trans zI_wI_s)))) ?_
  refine w_ifT_le (pc' := 129) (pcT := 162) ⟨rfl, rfl⟩ rfl (by decide) ?_
  refine w_return (pc' := 163) ⟨rfl, rfl⟩ ?_
  exact k
theorem f_refuse {σ : zSt} (hF : zFx σ)  {Q : zSt → Option Value → Prop} (k : Q (zwI (zwI σ 1 18 (iZ (1))) 1 19 (iZ (0))) (some (.int (iZ (0))))) : zCa 5 [.ref 1, .int (iZ 1), .int (iZ 0)] σ Q := by
  refine w_enter (c := zk_X0_refuse) (ls2 := [(0, .ref 1), (1, .int (iZ 1)), (2, .int (iZ 0))]) rfl ⟨rfl, rfl, rfl, trivial⟩ ?_
  refine w_aload_n (pc' := 1) ⟨rfl, rfl⟩ rfl ?_
  refine w_iload_n (pc' := 2) ⟨rfl, rfl⟩ rfl ?_
  refine w_putI (pc' := 5) (cl := 0) (q := 18) ⟨rfl, rfl⟩ ⟨rfl, by decide⟩ (zOl hF rfl) ?_
  refine w_aload_n (pc' := 6) ⟨rfl, rfl⟩ rfl ?_
  refine w_iload_n (pc' := 7) ⟨rfl, rfl⟩ rfl ?_
  refine w_putI (pc' := 10) (cl := 0) (q := 19) ⟨rfl, rfl⟩ ⟨rfl, by decide⟩ (zOl hF rfl) ?_
  refine w_ic (pc' := 11) ⟨rfl, rfl⟩ ?_
  refine w_ireturn (pc' := 12) ⟨rfl, rfl⟩ (by decide) ?_
  exact k
theorem f_takeStatement {σ : zSt} (hF : zFx σ) (h7 : zI σ 1 7 = iZ (-1)) (h4 : zI σ 1 4 = iZ 0) {Q : zSt → Option Value → Prop} (k : Q (zwI (zwI σ 1 18 (iZ (1))) 1 19 (iZ (0))) (some (.int (iZ (0))))) : zCa 11 [.ref 1] σ Q := by
  refine w_enter (c := zk_X0_takeStatement) (ls2 := [(0, .ref 1)]) rfl ⟨rfl, trivial⟩ ?_
  refine w_aload_n (pc' := 1) ⟨rfl, rfl⟩ rfl ?_
  refine w_getI (pc' := 4) (cl := 0) (q := 7) ⟨rfl, rfl⟩ ⟨rfl, by decide⟩ (zOl hF rfl) h7 ?_
  refine w_bi (pc' := 6) ⟨rfl, rfl⟩ (by decide) ?_
  refine w_icT_ne (pc' := 9) (pcT := 58) ⟨rfl, rfl⟩ rfl (by decide) ?_
  refine w_aload_n (pc' := 59) ⟨rfl, rfl⟩ rfl ?_
  refine w_getI (pc' := 62) (cl := 0) (q := 7) ⟨rfl, rfl⟩ ⟨rfl, by decide⟩ (zOl hF rfl) h7 ?_
  refine w_bi (pc' := 64) ⟨rfl, rfl⟩ (by decide) ?_
  refine w_icT_ne (pc' := 67) (pcT := 77) ⟨rfl, rfl⟩ rfl (by decide) ?_
  refine w_aload_n (pc' := 78) ⟨rfl, rfl⟩ rfl ?_
  refine w_ic (pc' := 79) ⟨rfl, rfl⟩ ?_
  refine w_aload_n (pc' := 80) ⟨rfl, rfl⟩ rfl ?_
  refine w_getI (pc' := 83) (cl := 0) (q := 4) ⟨rfl, rfl⟩ ⟨rfl, by decide⟩ (zOl hF rfl) h4 ?_
  refine w_cv3 (pc' := 86) ⟨rfl, rfl⟩ (by decide) (zOl hF rfl) (Nat.le_of_ble_eq_true rfl) (Nat.le_of_ble_eq_true rfl) (f_refuse hF ?_)
  refine w_ireturn (pc' := 87) ⟨rfl, rfl⟩ (by decide) ?_
  exact k
theorem f_takeInScheme {σ : zSt} (hF : zFx σ) (h7 : zI σ 1 7 = iZ (-1)) (h4 : zI σ 1 4 = iZ 0) (h3 : zI σ 1 3 = iZ 0) {Q : zSt → Option Value → Prop} (k : Q (zwI (zwI σ 1 18 (iZ (1))) 1 19 (iZ (0))) (some (.int (iZ (0))))) : zCa 3 [.ref 1] σ Q := by
  refine w_enter (c := zk_X0_takeInScheme) (ls2 := [(0, .ref 1)]) rfl ⟨rfl, trivial⟩ ?_
  refine w_aload_n (pc' := 1) ⟨rfl, rfl⟩ rfl ?_
  refine w_getI (pc' := 4) (cl := 0) (q := 3) ⟨rfl, rfl⟩ ⟨rfl, by decide⟩ (zOl hF rfl) h3 ?_
  refine w_tsInZ (pc' := 44) (pcT := 44) 0 ⟨rfl, rfl⟩ (by omega) (by decide) rfl rfl ?_
  refine w_aload_n (pc' := 45) ⟨rfl, rfl⟩ rfl ?_
  refine w_cv1 (pc' := 48) ⟨rfl, rfl⟩ (by decide) (zOl hF rfl) (Nat.le_of_ble_eq_true rfl) (Nat.le_of_ble_eq_true rfl) (f_takeStatement hF h7 h4 ?_)
  refine w_ireturn (pc' := 49) ⟨rfl, rfl⟩ (by decide) ?_
  exact k
theorem f_readBook {σ : zSt} (hF : zFx σ) (hB : zR σ 1 2 = some 5) (h1 : zI σ 3 1 = iZ 0) {Q : zSt → Option Value → Prop} (k : Q (zwI (zwI (zwI (zwI (zwI (zwI (zwI (zwI (zwI (zwI (zwI (zwI (zwI σ 5 2 (iZ (0))) 5 3 (iZ (0))) 1 3 (iZ (0))) 1 4 (iZ (0))) 1 18 (iZ (0))) 1 19 (iZ (-1))) 1 5 (iZ (0))) 1 8 (iZ (0))) 1 9 (iZ (0))) 1 6 (iZ (0))) 1 7 (iZ (-1))) 1 18 (iZ (1))) 1 19 (iZ (0))) (some (.int (iZ (0))))) : zCa 1 [.ref 1] σ Q := by
  refine w_enter (c := zk_X0_readBook) (ls2 := [(0, .ref 1)]) rfl ⟨rfl, trivial⟩ ?_
  refine w_aload_n (pc' := 1) ⟨rfl, rfl⟩ rfl ?_
  refine w_getR (pc' := 4) (cl := 0) (q := 2) ⟨rfl, rfl⟩ ⟨rfl, by decide⟩ (zOl hF rfl) hB ?_
  refine w_cv1 (pc' := 7) ⟨rfl, rfl⟩ (by decide) (zOl hF rfl) (Nat.le_of_ble_eq_true rfl) (Nat.le_of_ble_eq_true rfl) (f_clear hF ?_)
  refine w_aload_n (pc' := 8) ⟨rfl, rfl⟩ rfl ?_
  refine w_ic (pc' := 9) ⟨rfl, rfl⟩ ?_
  refine w_putI (pc' := 12) (cl := 0) (q := 3) ⟨rfl, rfl⟩ ⟨rfl, by decide⟩ (zOl hF rfl) ?_
  refine w_aload_n (pc' := 13) ⟨rfl, rfl⟩ rfl ?_
  refine w_ic (pc' := 14) ⟨rfl, rfl⟩ ?_
  refine w_putI (pc' := 17) (cl := 0) (q := 4) ⟨rfl, rfl⟩ ⟨rfl, by decide⟩ (zOl hF rfl) ?_
  refine w_aload_n (pc' := 18) ⟨rfl, rfl⟩ rfl ?_
  refine w_ic (pc' := 19) ⟨rfl, rfl⟩ ?_
  refine w_putI (pc' := 22) (cl := 0) (q := 18) ⟨rfl, rfl⟩ ⟨rfl, by decide⟩ (zOl hF rfl) ?_
  refine w_aload_n (pc' := 23) ⟨rfl, rfl⟩ rfl ?_
  refine w_ic (pc' := 24) ⟨rfl, rfl⟩ ?_
  refine w_putI (pc' := 27) (cl := 0) (q := 19) ⟨rfl, rfl⟩ ⟨rfl, by decide⟩ (zOl hF rfl) ?_
  refine w_ic (pc' := 28) ⟨rfl, rfl⟩ ?_
  refine w_istore_n (pc' := 29) ⟨rfl, rfl⟩ rfl ?_
  refine w_iload_n (pc' := 30) ⟨rfl, rfl⟩ rfl ?_
  refine w_si (pc' := 33) ⟨rfl, rfl⟩ (by decide) ?_
  refine w_icF_gt (pc' := 36) ⟨rfl, rfl⟩ (by decide) ?_
  refine w_aload_n (pc' := 37) ⟨rfl, rfl⟩ rfl ?_
  refine w_cv1 (pc' := 40) ⟨rfl, rfl⟩ (by decide) (zOl hF rfl) (Nat.le_of_ble_eq_true rfl) (Nat.le_of_ble_eq_true rfl) (f_lookAtNext (zFx_wI (zFx_wI (zFx_wI (zFx_wI (zFx_wI (zFx_wI hF)))))) (zT0_of ((zI_wI_n (by decide)).trans ((zI_wI_n (by decide)).trans ((zI_wI_n (by decide)).trans ((zI_wI_n (by decide)).trans ((zI_wI_n (by decide)).trans ((zI_wI_n (by decide)).trans h1))))))) ((zI_wI_n (by decide)).trans ((zI_wI_n (by decide)).trans zI_wI_s)) ?_)
  refine w_aload_n (pc' := 41) ⟨rfl, rfl⟩ rfl ?_
  refine w_getI (pc' := 44) (cl := 0) (q := 4) ⟨rfl, rfl⟩ ⟨rfl, by decide⟩ (zOl hF rfl) ((zI_wI_n (by decide)).trans ((zI_wI_n (by decide)).trans ((zI_wI_n (by decide)).trans ((zI_wI_n (by decide)).trans ((zI_wI_n (by decide)).trans ((zI_wI_n (by decide)).trans ((zI_wI_n (by decide)).trans zI_wI_s))))))) ?_
  refine w_aload_n (pc' := 45) ⟨rfl, rfl⟩ rfl ?_
  refine w_getR (pc' := 48) (cl := 0) (q := 1) ⟨rfl, rfl⟩ ⟨rfl, by decide⟩ (zOl hF rfl) (hF.2 1 1 3 rfl) ?_
  refine w_getI (pc' := 51) (cl := 7) (q := 1) ⟨rfl, rfl⟩ ⟨rfl, by decide⟩ (zOl hF rfl) ((zI_wI_n (by decide)).trans ((zI_wI_n (by decide)).trans ((zI_wI_n (by decide)).trans ((zI_wI_n (by decide)).trans ((zI_wI_n (by decide)).trans ((zI_wI_n (by decide)).trans ((zI_wI_n (by decide)).trans ((zI_wI_n (by decide)).trans ((zI_wI_n (by decide)).trans ((zI_wI_n (by decide)).trans ((zI_wI_n (by decide)).trans h1))))))))))) ?_
  refine w_icF_lt (pc' := 54) ⟨rfl, rfl⟩ (by decide) ?_
  refine w_aload_n (pc' := 55) ⟨rfl, rfl⟩ rfl ?_
  refine w_getI (pc' := 58) (cl := 0) (q := 3) ⟨rfl, rfl⟩ ⟨rfl, by decide⟩ (zOl hF rfl) ((zI_wI_n (by decide)).trans ((zI_wI_n (by decide)).trans ((zI_wI_n (by decide)).trans ((zI_wI_n (by decide)).trans ((zI_wI_n (by decide)).trans ((zI_wI_n (by decide)).trans ((zI_wI_n (by decide)).trans ((zI_wI_n (by decide)).trans zI_wI_s)))))))) ?_
  refine w_ifF_ne (pc' := 61) ⟨rfl, rfl⟩ (by decide) ?_
  refine w_aload_n (pc' := 62) ⟨rfl, rfl⟩ rfl ?_
  refine w_getR (pc' := 65) (cl := 0) (q := 2) ⟨rfl, rfl⟩ ⟨rfl, by decide⟩ (zOl hF rfl) hB ?_
  refine w_getI (pc' := 68) (cl := 3) (q := 2) ⟨rfl, rfl⟩ ⟨rfl, by decide⟩ (zOl hF rfl) ((zI_wI_n (by decide)).trans ((zI_wI_n (by decide)).trans ((zI_wI_n (by decide)).trans ((zI_wI_n (by decide)).trans ((zI_wI_n (by decide)).trans ((zI_wI_n (by decide)).trans ((zI_wI_n (by decide)).trans ((zI_wI_n (by decide)).trans ((zI_wI_n (by decide)).trans ((zI_wI_n (by decide)).trans zI_wI_s)))))))))) ?_
  refine w_ifT_le (pc' := 71) (pcT := 73) ⟨rfl, rfl⟩ rfl (by decide) ?_
  refine w_aload_n (pc' := 74) ⟨rfl, rfl⟩ rfl ?_
  refine w_getI (pc' := 77) (cl := 0) (q := 3) ⟨rfl, rfl⟩ ⟨rfl, by decide⟩ (zOl hF rfl) ((zI_wI_n (by decide)).trans ((zI_wI_n (by decide)).trans ((zI_wI_n (by decide)).trans ((zI_wI_n (by decide)).trans ((zI_wI_n (by decide)).trans ((zI_wI_n (by decide)).trans ((zI_wI_n (by decide)).trans ((zI_wI_n (by decide)).trans zI_wI_s)))))))) ?_
  refine w_bi (pc' := 79) ⟨rfl, rfl⟩ (by decide) ?_
  refine w_icF_ge (pc' := 82) ⟨rfl, rfl⟩ (by decide) ?_
  refine w_aload_n (pc' := 83) ⟨rfl, rfl⟩ rfl ?_
  refine w_cv1 (pc' := 86) ⟨rfl, rfl⟩ (by decide) (zOl hF rfl) (Nat.le_of_ble_eq_true rfl) (Nat.le_of_ble_eq_true rfl) (f_takeInScheme (zFx_wI (zFx_wI (zFx_wI (zFx_wI (zFx_wI (zFx_wI (zFx_wI (zFx_wI (zFx_wI (zFx_wI (zFx_wI hF))))))))))) zI_wI_s ((zI_wI_n (by decide)).trans ((zI_wI_n (by decide)).trans ((zI_wI_n (by decide)).trans ((zI_wI_n (by decide)).trans ((zI_wI_n (by decide)).trans ((zI_wI_n (by decide)).trans ((zI_wI_n (by decide)).trans zI_wI_s))))))) ((zI_wI_n (by decide)).trans ((zI_wI_n (by decide)).trans ((zI_wI_n (by decide)).trans ((zI_wI_n (by decide)).trans ((zI_wI_n (by decide)).trans ((zI_wI_n (by decide)).trans ((zI_wI_n (by decide)).trans ((zI_wI_n (by decide)).trans zI_wI_s)))))))) ?_)
  refine w_goto (pc' := 89) (pcT := 93) ⟨rfl, rfl⟩ rfl ?_
  refine w_istore_n (pc' := 94) ⟨rfl, rfl⟩ rfl ?_
  refine w_iload_n (pc' := 95) ⟨rfl, rfl⟩ rfl ?_
  refine w_ifF_ne (pc' := 98) ⟨rfl, rfl⟩ (by decide) ?_
  refine w_ic (pc' := 99) ⟨rfl, rfl⟩ ?_
  refine w_ireturn (pc' := 100) ⟨rfl, rfl⟩ (by decide) ?_
  exact k
theorem f_X11_book {σ : zSt} (hF : zFx σ) (hP : zR σ 0 10 = some 114) (hB : zR σ 1 2 = some 5) (hI : zFr1 σ) (hC : zCn σ zc0) {Q : zSt → Option Value → Prop} (k : ∀ σ1, zFm (List.range 164) σ σ1 → Q σ1 (some (.int (iZ (-1))))) : zCa 127 [.ref 0] σ Q := by
  refine w_enter (c := zk_X11_book) (ls2 := [(0, .ref 0)]) rfl ⟨rfl, trivial⟩ ?_
  have hnS : zI σ 114 2 = iZ 0 := hI 114 2 rfl
  have hnP : zI σ 114 3 = iZ 0 := hI 114 3 rfl
  refine w_aload_n (pc' := 1) ⟨rfl, rfl⟩ rfl ?_
  refine w_getR (pc' := 4) (cl := 9) (q := 1) ⟨rfl, rfl⟩ ⟨rfl, by decide⟩ (zOl hF rfl) (hF.2 0 1 1 rfl) ?_
  refine w_cv1 (pc' := 7) ⟨rfl, rfl⟩ (by decide) (zOl hF rfl) (Nat.le_of_ble_eq_true rfl) (Nat.le_of_ble_eq_true rfl) (f_readBook hF hB (hI 3 1 rfl) ?_)
  refine w_istore_n (pc' := 8) ⟨rfl, rfl⟩ rfl ?_
  refine w_aload_n (pc' := 9) ⟨rfl, rfl⟩ rfl ?_
  refine w_getR (pc' := 12) (cl := 9) (q := 0) ⟨rfl, rfl⟩ ⟨rfl, by decide⟩ (zOl hF rfl) (hF.2 0 0 3 rfl) ?_
  refine w_ic (pc' := 13) ⟨rfl, rfl⟩ ?_
  refine w_putI (pc' := 16) (cl := 7) (q := 1) ⟨rfl, rfl⟩ ⟨rfl, by decide⟩ (zOl hF rfl) ?_
  refine w_iload_n (pc' := 17) ⟨rfl, rfl⟩ rfl ?_
  refine w_ifF_ne (pc' := 20) ⟨rfl, rfl⟩ (by decide) ?_
  refine w_aload_n (pc' := 21) ⟨rfl, rfl⟩ rfl ?_
  refine w_getR (pc' := 24) (cl := 9) (q := 5) ⟨rfl, rfl⟩ ⟨rfl, by decide⟩ (zOl hF rfl) (hF.2 0 5 109 rfl) ?_
  refine w_ic (pc' := 25) ⟨rfl, rfl⟩ ?_
  refine w_dup2 (pc' := 26) ⟨rfl, rfl⟩ ?_
  refine w_iald (pc' := 27) ⟨rfl, rfl⟩ (zAl hF rfl) (zixA (j := 1) (by decide)) ((zI_wI_n (by decide)).trans ((zI_wI_n (by decide)).trans ((zI_wI_n (by decide)).trans ((zI_wI_n (by decide)).trans ((zI_wI_n (by decide)).trans ((zI_wI_n (by decide)).trans ((zI_wI_n (by decide)).trans ((zI_wI_n (by decide)).trans ((zI_wI_n (by decide)).trans ((zI_wI_n (by decide)).trans ((zI_wI_n (by decide)).trans ((zI_wI_n (by decide)).trans ((zI_wI_n (by decide)).trans ((zI_wI_n (by decide)).trans (show zI _ 109 1 = iZ (0) from hI 109 1 rfl))))))))))))))) ?_
  refine w_ic (pc' := 28) ⟨rfl, rfl⟩ ?_
  refine w_iaddZ (pc' := 29) ⟨rfl, rfl⟩ ?_
  refine w_iast (pc' := 30) ⟨rfl, rfl⟩ (zAl hF rfl) (zixA (j := 1) (by decide)) ?_
  refine w_ic (pc' := 31) ⟨rfl, rfl⟩ ?_
  refine w_ireturn (pc' := 32) ⟨rfl, rfl⟩ (Or.inl rfl) ?_
  exact k _ (((((((((((((((zFm.wI (List.mem_range.mpr (by decide))).trans (zFm.wI (List.mem_range.mpr (by decide)))).trans (zFm.wI (List.mem_range.mpr (by decide)))).trans (zFm.wI (List.mem_range.mpr (by decide)))).trans (zFm.wI (List.mem_range.mpr (by decide)))).trans (zFm.wI (List.mem_range.mpr (by decide)))).trans (zFm.wI (List.mem_range.mpr (by decide)))).trans (zFm.wI (List.mem_range.mpr (by decide)))).trans (zFm.wI (List.mem_range.mpr (by decide)))).trans (zFm.wI (List.mem_range.mpr (by decide)))).trans (zFm.wI (List.mem_range.mpr (by decide)))).trans (zFm.wI (List.mem_range.mpr (by decide)))).trans (zFm.wI (List.mem_range.mpr (by decide)))).trans (zFm.wI (List.mem_range.mpr (by decide)))).trans (zFm.wI (List.mem_range.mpr (by decide))))
theorem zm34 : ∀ o : Nat, o ∈ [3, 4] → o ∈ List.range 164 := by decide
theorem l_addNumber {σ : zSt} (hF : zFx σ) {n : Nat} (hn : n + 4 ≤ 1600) {v : Int32} {Q : zSt → Option Value → Prop} : ∀ (m i : Nat) (y : Int) (σ1 : zSt), i + m = 4 → y = 24 - 8 * i → zFm [3, 4] σ σ1 → zI σ1 3 1 = iZ ((n + i : Nat) : Int) → (∀ σ2, zFm [3, 4] σ σ2 → zI σ2 3 1 = iZ ((n + 4 : Nat) : Int) → Q σ2 none) → zP zk_X9_addNumber 3 [(0, .ref 3), (1, .int v), (2, .int (iZ y))] [] σ1 Q := by
  intro m
  induction m with
  | zero =>
    intro i y σ1 hi hy hf hc k
    have hF1 := hf.fx hF
    refine w_iload_n (pc' := 4) ⟨rfl, rfl⟩ rfl ?_
    refine w_ifT_lt (pc' := 7) (pcT := 56) ⟨rfl, rfl⟩ rfl (by omega) ?_
    refine w_return (pc' := 57) ⟨rfl, rfl⟩ ?_
    exact k _ hf (by rw [hc]; exact congrArg iZ (by omega))
  | succ m ih =>
    intro i y σ1 hi hy hf hc k
    have hF1 := hf.fx hF
    refine w_iload_n (pc' := 4) ⟨rfl, rfl⟩ rfl ?_
    refine w_ifF_lt (pc' := 7) ⟨rfl, rfl⟩ (by omega) ?_
    refine w_aload_n (pc' := 8) ⟨rfl, rfl⟩ rfl ?_
    refine w_getI (pc' := 11) (cl := 7) (q := 1) ⟨rfl, rfl⟩ ⟨rfl, by decide⟩ (zOl hF1 rfl) hc ?_
    refine w_ifF_lt (pc' := 14) ⟨rfl, rfl⟩ (by omega) ?_
    refine w_aload_n (pc' := 15) ⟨rfl, rfl⟩ rfl ?_
    refine w_getI (pc' := 18) (cl := 7) (q := 1) ⟨rfl, rfl⟩ ⟨rfl, by decide⟩ (zOl hF1 rfl) hc ?_
    refine w_si (pc' := 21) ⟨rfl, rfl⟩ (by decide) ?_
    refine w_icF_ge (pc' := 24) ⟨rfl, rfl⟩ (by omega) ?_
    refine w_aload_n (pc' := 25) ⟨rfl, rfl⟩ rfl ?_
    refine w_getR (pc' := 28) (cl := 7) (q := 0) ⟨rfl, rfl⟩ ⟨rfl, by decide⟩ (zOl hF1 rfl) (hF1.2 3 0 4 rfl) ?_
    refine w_aload_n (pc' := 29) ⟨rfl, rfl⟩ rfl ?_
    refine w_getI (pc' := 32) (cl := 7) (q := 1) ⟨rfl, rfl⟩ ⟨rfl, by decide⟩ (zOl hF1 rfl) hc ?_
    refine w_iload_n (pc' := 33) ⟨rfl, rfl⟩ rfl ?_
    refine w_iload_n (pc' := 34) ⟨rfl, rfl⟩ rfl ?_
    refine w_iushr (pc' := 35) ⟨rfl, rfl⟩ ?_
    refine w_si (pc' := 38) ⟨rfl, rfl⟩ (by decide) ?_
    refine w_iand (pc' := 39) ⟨rfl, rfl⟩ ?_
    refine w_iast (pc' := 40) ⟨rfl, rfl⟩ (zAl hF1 rfl) (zixZ (by omega)) ?_
    refine w_aload_n (pc' := 41) ⟨rfl, rfl⟩ rfl ?_
    refine w_dupR (pc' := 42) ⟨rfl, rfl⟩ ?_
    refine w_getI (pc' := 45) (cl := 7) (q := 1) ⟨rfl, rfl⟩ ⟨rfl, by decide⟩ (zOl hF1 rfl) ((zI_wI_n (Or.inl (by decide))).trans hc) ?_
    refine w_ic (pc' := 46) ⟨rfl, rfl⟩ ?_
    refine w_iaddZ (pc' := 47) ⟨rfl, rfl⟩ ?_
    refine w_putI (pc' := 50) (cl := 7) (q := 1) ⟨rfl, rfl⟩ ⟨rfl, by decide⟩ (zOl hF1 rfl) ?_
    refine w_iincZ (pc' := 53) ⟨rfl, rfl⟩ rfl rfl ?_
    refine w_goto (pc' := 56) (pcT := 3) ⟨rfl, rfl⟩ rfl ?_
    refine w_at (ls2 := [(0, .ref 3), (1, .int v), (2, .int (iZ (y + -8)))]) ?_ (ih (i + 1) (y + -8) _ (by omega) (by omega) ((hf.trans (zFm.wI (by decide))).trans (zFm.wI (by decide))) (zI_wI_s.trans (congrArg iZ (by omega))) k)
    exact ⟨rfl, rfl, rfl, trivial⟩
theorem f_addNumber {σ : zSt} (hF : zFx σ) {n : Nat} (hn : n + 4 ≤ 1600) (hc : zI σ 3 1 = iZ (n : Int)) {v : Int32} {Q : zSt → Option Value → Prop} (k : ∀ σ1, zFm [3, 4] σ σ1 → zI σ1 3 1 = iZ ((n + 4 : Nat) : Int) → Q σ1 none) : zCa 105 [.ref 3, .int v] σ Q := by
  refine w_enter (c := zk_X9_addNumber) (ls2 := [(0, .ref 3), (1, .int v)]) rfl ⟨rfl, rfl, trivial⟩ ?_
  refine w_bi (pc' := 2) ⟨rfl, rfl⟩ (by decide) ?_
  refine w_istore_n (pc' := 3) ⟨rfl, rfl⟩ rfl ?_
  refine w_at (ls2 := [(0, .ref 3), (1, .int v), (2, .int (iZ 24))]) ?_ (l_addNumber hF hn 4 0 24 σ rfl (by omega) zFm.refl hc k)
  exact ⟨rfl, rfl, rfl, trivial⟩
theorem f_X11_feed {σ : zSt} (hF : zFx σ) (hP : zR σ 0 10 = some 114) (hB : zR σ 1 2 = some 5) (hI : zFr1 σ) (hC : zCn σ zc0) {a : Int} (ha : (-2147483648 ≤ a ∧ a ≤ 2147483647)) {b : Int} (hb : (-2147483648 ≤ b ∧ b ≤ 2147483647)) {c : Int} (hc : (-2147483648 ≤ c ∧ c ≤ 2147483647)) {d : Int} (hd : (-2147483648 ≤ d ∧ d ≤ 2147483647)) {e : Int} (he : (-2147483648 ≤ e ∧ e ≤ 2147483647)) {Q : zSt → Option Value → Prop} (k : ∀ σ1, zFm (List.range 164) σ σ1 → Q σ1 (some (.int (iZ 20)))) : zCa 125 [.ref 0, .int (iZ a), .int (iZ b), .int (iZ c), .int (iZ d), .int (iZ e)] σ Q := by
  refine w_enter (c := zk_X11_feed) (ls2 := [(0, .ref 0), (1, .int (iZ a)), (2, .int (iZ b)), (3, .int (iZ c)), (4, .int (iZ d)), (5, .int (iZ e))]) rfl ⟨rfl, rfl, rfl, rfl, rfl, rfl, trivial⟩ ?_
  have hnS : zI σ 114 2 = iZ 0 := hI 114 2 rfl
  have hnP : zI σ 114 3 = iZ 0 := hI 114 3 rfl
  refine w_aload_n (pc' := 1) ⟨rfl, rfl⟩ rfl ?_
  refine w_getR (pc' := 4) (cl := 9) (q := 0) ⟨rfl, rfl⟩ ⟨rfl, by decide⟩ (zOl hF rfl) (hF.2 0 0 3 rfl) ?_
  refine w_bi (pc' := 6) ⟨rfl, rfl⟩ (by decide) ?_
  refine w_cv2 (pc' := 9) ⟨rfl, rfl⟩ (by decide) (zOl hF rfl) (Nat.le_of_ble_eq_true rfl) (Nat.le_of_ble_eq_true rfl) (c_takes hF (zT0_of (hI 3 1 rfl)) (by omega) (fun h => ?_) (fun h => ?_))
  · refine w_ifT_ne (pc' := 12) (pcT := 24) ⟨rfl, rfl⟩ rfl (by decide) ?_
    refine w_aload_n (pc' := 25) ⟨rfl, rfl⟩ rfl ?_
    refine w_getR (pc' := 28) (cl := 9) (q := 0) ⟨rfl, rfl⟩ ⟨rfl, by decide⟩ (zOl hF rfl) (hF.2 0 0 3 rfl) ?_
    refine w_iload_n (pc' := 29) ⟨rfl, rfl⟩ rfl ?_
    refine w_cv2 (pc' := 32) ⟨rfl, rfl⟩ (by decide) (zOl hF rfl) (Nat.le_of_ble_eq_true rfl) (Nat.le_of_ble_eq_true rfl) (f_addNumber (n := 0) hF (by decide) (hI 3 1 rfl) (fun σ1 m1 e1 => ?_))
    have hF := m1.fx hF
    refine w_aload_n (pc' := 33) ⟨rfl, rfl⟩ rfl ?_
    refine w_getR (pc' := 36) (cl := 9) (q := 0) ⟨rfl, rfl⟩ ⟨rfl, by decide⟩ (zOl hF rfl) (hF.2 0 0 3 rfl) ?_
    refine w_iload_n (pc' := 37) ⟨rfl, rfl⟩ rfl ?_
    refine w_cv2 (pc' := 40) ⟨rfl, rfl⟩ (by decide) (zOl hF rfl) (Nat.le_of_ble_eq_true rfl) (Nat.le_of_ble_eq_true rfl) (f_addNumber (n := 4) hF (by decide) e1 (fun σ2 m2 e2 => ?_))
    have hF := m2.fx hF
    refine w_aload_n (pc' := 41) ⟨rfl, rfl⟩ rfl ?_
    refine w_getR (pc' := 44) (cl := 9) (q := 0) ⟨rfl, rfl⟩ ⟨rfl, by decide⟩ (zOl hF rfl) (hF.2 0 0 3 rfl) ?_
    refine w_iload_n (pc' := 45) ⟨rfl, rfl⟩ rfl ?_
    refine w_cv2 (pc' := 48) ⟨rfl, rfl⟩ (by decide) (zOl hF rfl) (Nat.le_of_ble_eq_true rfl) (Nat.le_of_ble_eq_true rfl) (f_addNumber (n := 8) hF (by decide) e2 (fun σ3 m3 e3 => ?_))
    have hF := m3.fx hF
    refine w_aload_n (pc' := 49) ⟨rfl, rfl⟩ rfl ?_
    refine w_getR (pc' := 52) (cl := 9) (q := 0) ⟨rfl, rfl⟩ ⟨rfl, by decide⟩ (zOl hF rfl) (hF.2 0 0 3 rfl) ?_
    refine w_iload (pc' := 54) ⟨rfl, rfl⟩ rfl ?_
    refine w_cv2 (pc' := 57) ⟨rfl, rfl⟩ (by decide) (zOl hF rfl) (Nat.le_of_ble_eq_true rfl) (Nat.le_of_ble_eq_true rfl) (f_addNumber (n := 12) hF (by decide) e3 (fun σ4 m4 e4 => ?_))
    have hF := m4.fx hF
    refine w_aload_n (pc' := 58) ⟨rfl, rfl⟩ rfl ?_
    refine w_getR (pc' := 61) (cl := 9) (q := 0) ⟨rfl, rfl⟩ ⟨rfl, by decide⟩ (zOl hF rfl) (hF.2 0 0 3 rfl) ?_
    refine w_iload (pc' := 63) ⟨rfl, rfl⟩ rfl ?_
    refine w_cv2 (pc' := 66) ⟨rfl, rfl⟩ (by decide) (zOl hF rfl) (Nat.le_of_ble_eq_true rfl) (Nat.le_of_ble_eq_true rfl) (f_addNumber (n := 16) hF (by decide) e4 (fun σ5 m5 e5 => ?_))
    have hF := m5.fx hF
    refine w_aload_n (pc' := 67) ⟨rfl, rfl⟩ rfl ?_
    refine w_getR (pc' := 70) (cl := 9) (q := 0) ⟨rfl, rfl⟩ ⟨rfl, by decide⟩ (zOl hF rfl) (hF.2 0 0 3 rfl) ?_
    refine w_getI (pc' := 73) (cl := 7) (q := 1) ⟨rfl, rfl⟩ ⟨rfl, by decide⟩ (zOl hF rfl) e5 ?_
    refine w_ireturn (pc' := 74) ⟨rfl, rfl⟩ (Or.inl rfl) ?_
    exact k _ ((((m1.trans m2).trans m3).trans m4).trans m5 |>.mono zm34)
  · exact absurd h (by decide)
theorem c_goesInto {σ : zSt} {a b : Int} (ha : -2147483648 ≤ a ∧ a ≤ 2147483647) (hb : -2147483648 ≤ b ∧ b ≤ 2147483647) {Q : zSt → Option Value → Prop} (k1 : zgi a b → Q σ (some (.int (iZ 1)))) (k0 : ¬ zgi a b → Q σ (some (.int (iZ 0)))) : zCa 35 [.int (iZ a), .int (iZ b)] σ Q := by
  refine w_enter (c := zk_X2_goesInto) (ls2 := [(0, .int (iZ a)), (1, .int (iZ b))]) rfl ⟨rfl, rfl, trivial⟩ ?_
  refine w_iload_n (pc' := 1) ⟨rfl, rfl⟩ rfl ?_
  refine w_iload_n (pc' := 2) ⟨rfl, rfl⟩ rfl ?_
  refine w_ic_ne (pc' := 5) (pcT := 7) ⟨rfl, rfl⟩ rfl (by omega) (by omega) (fun h1 => ?_) (fun h1 => ?_)
  · refine w_iload_n (pc' := 8) ⟨rfl, rfl⟩ rfl ?_
    refine w_bi (pc' := 10) ⟨rfl, rfl⟩ (by decide) ?_
    refine w_ic_le (pc' := 13) (pcT := 15) ⟨rfl, rfl⟩ rfl (by omega) (by omega) (fun h2 => ?_) (fun h2 => ?_)
    · refine w_iload_n (pc' := 16) ⟨rfl, rfl⟩ rfl ?_
      rcases Classical.em (a < 1 ∨ 6 < a) with hs | hs
      · refine w_tsOutZ (pc' := 56) (pcT := 89) ⟨rfl, rfl⟩ rfl (by omega) ?_
        refine w_ic (pc' := 90) ⟨rfl, rfl⟩ ?_
        refine w_ireturn (pc' := 91) ⟨rfl, rfl⟩ (by decide) ?_
        first | exact k1 (by omega) | exact k0 (by omega)
      · rcases (show a = 1 ∨ a = 2 ∨ a = 3 ∨ a = 4 ∨ a = 5 ∨ a = 6 by omega) with hj | hj | hj | hj | hj | hj
        · refine w_tsInZ (pc' := 56) (pcT := 56) 0 ⟨rfl, rfl⟩ (by omega) (by decide) rfl rfl ?_
          refine w_iload_n (pc' := 57) ⟨rfl, rfl⟩ rfl ?_
          refine w_ic (pc' := 58) ⟨rfl, rfl⟩ ?_
          refine w_ic_lt (pc' := 61) (pcT := 65) ⟨rfl, rfl⟩ rfl (by omega) (by omega) (fun h3 => ?_) (fun h3 => ?_)
          · refine w_ic (pc' := 66) ⟨rfl, rfl⟩ ?_
            refine w_ireturn (pc' := 67) ⟨rfl, rfl⟩ (by decide) ?_
            first | exact k1 (by omega) | exact k0 (by omega)
          · refine w_ic (pc' := 62) ⟨rfl, rfl⟩ ?_
            refine w_goto (pc' := 65) (pcT := 66) ⟨rfl, rfl⟩ rfl ?_
            refine w_ireturn (pc' := 67) ⟨rfl, rfl⟩ (by decide) ?_
            first | exact k1 (by omega) | exact k0 (by omega)
        · refine w_tsInZ (pc' := 56) (pcT := 67) 1 ⟨rfl, rfl⟩ (by omega) (by decide) rfl rfl ?_
          refine w_iload_n (pc' := 68) ⟨rfl, rfl⟩ rfl ?_
          refine w_ic (pc' := 69) ⟨rfl, rfl⟩ ?_
          refine w_ic_lt (pc' := 72) (pcT := 76) ⟨rfl, rfl⟩ rfl (by omega) (by omega) (fun h3 => ?_) (fun h3 => ?_)
          · refine w_ic (pc' := 77) ⟨rfl, rfl⟩ ?_
            refine w_ireturn (pc' := 78) ⟨rfl, rfl⟩ (by decide) ?_
            first | exact k1 (by omega) | exact k0 (by omega)
          · refine w_ic (pc' := 73) ⟨rfl, rfl⟩ ?_
            refine w_goto (pc' := 76) (pcT := 77) ⟨rfl, rfl⟩ rfl ?_
            refine w_ireturn (pc' := 78) ⟨rfl, rfl⟩ (by decide) ?_
            first | exact k1 (by omega) | exact k0 (by omega)
        · refine w_tsInZ (pc' := 56) (pcT := 67) 2 ⟨rfl, rfl⟩ (by omega) (by decide) rfl rfl ?_
          refine w_iload_n (pc' := 68) ⟨rfl, rfl⟩ rfl ?_
          refine w_ic (pc' := 69) ⟨rfl, rfl⟩ ?_
          refine w_ic_lt (pc' := 72) (pcT := 76) ⟨rfl, rfl⟩ rfl (by omega) (by omega) (fun h3 => ?_) (fun h3 => ?_)
          · refine w_ic (pc' := 77) ⟨rfl, rfl⟩ ?_
            refine w_ireturn (pc' := 78) ⟨rfl, rfl⟩ (by decide) ?_
            first | exact k1 (by omega) | exact k0 (by omega)
          · refine w_ic (pc' := 73) ⟨rfl, rfl⟩ ?_
            refine w_goto (pc' := 76) (pcT := 77) ⟨rfl, rfl⟩ rfl ?_
            refine w_ireturn (pc' := 78) ⟨rfl, rfl⟩ (by decide) ?_
            first | exact k1 (by omega) | exact k0 (by omega)
        · refine w_tsInZ (pc' := 56) (pcT := 78) 3 ⟨rfl, rfl⟩ (by omega) (by decide) rfl rfl ?_
          refine w_iload_n (pc' := 79) ⟨rfl, rfl⟩ rfl ?_
          refine w_iload_n (pc' := 80) ⟨rfl, rfl⟩ rfl ?_
          refine w_ic_le (pc' := 83) (pcT := 87) ⟨rfl, rfl⟩ rfl (by omega) (by omega) (fun h3 => ?_) (fun h3 => ?_)
          · refine w_ic (pc' := 88) ⟨rfl, rfl⟩ ?_
            refine w_ireturn (pc' := 89) ⟨rfl, rfl⟩ (by decide) ?_
            first | exact k1 (by omega) | exact k0 (by omega)
          · refine w_ic (pc' := 84) ⟨rfl, rfl⟩ ?_
            refine w_goto (pc' := 87) (pcT := 88) ⟨rfl, rfl⟩ rfl ?_
            refine w_ireturn (pc' := 89) ⟨rfl, rfl⟩ (by decide) ?_
            first | exact k1 (by omega) | exact k0 (by omega)
        · refine w_tsInZ (pc' := 56) (pcT := 78) 4 ⟨rfl, rfl⟩ (by omega) (by decide) rfl rfl ?_
          refine w_iload_n (pc' := 79) ⟨rfl, rfl⟩ rfl ?_
          refine w_iload_n (pc' := 80) ⟨rfl, rfl⟩ rfl ?_
          refine w_ic_le (pc' := 83) (pcT := 87) ⟨rfl, rfl⟩ rfl (by omega) (by omega) (fun h3 => ?_) (fun h3 => ?_)
          · refine w_ic (pc' := 88) ⟨rfl, rfl⟩ ?_
            refine w_ireturn (pc' := 89) ⟨rfl, rfl⟩ (by decide) ?_
            first | exact k1 (by omega) | exact k0 (by omega)
          · refine w_ic (pc' := 84) ⟨rfl, rfl⟩ ?_
            refine w_goto (pc' := 87) (pcT := 88) ⟨rfl, rfl⟩ rfl ?_
            refine w_ireturn (pc' := 89) ⟨rfl, rfl⟩ (by decide) ?_
            first | exact k1 (by omega) | exact k0 (by omega)
        · refine w_tsInZ (pc' := 56) (pcT := 78) 5 ⟨rfl, rfl⟩ (by omega) (by decide) rfl rfl ?_
          refine w_iload_n (pc' := 79) ⟨rfl, rfl⟩ rfl ?_
          refine w_iload_n (pc' := 80) ⟨rfl, rfl⟩ rfl ?_
          refine w_ic_le (pc' := 83) (pcT := 87) ⟨rfl, rfl⟩ rfl (by omega) (by omega) (fun h3 => ?_) (fun h3 => ?_)
          · refine w_ic (pc' := 88) ⟨rfl, rfl⟩ ?_
            refine w_ireturn (pc' := 89) ⟨rfl, rfl⟩ (by decide) ?_
            first | exact k1 (by omega) | exact k0 (by omega)
          · refine w_ic (pc' := 84) ⟨rfl, rfl⟩ ?_
            refine w_goto (pc' := 87) (pcT := 88) ⟨rfl, rfl⟩ rfl ?_
            refine w_ireturn (pc' := 89) ⟨rfl, rfl⟩ (by decide) ?_
            first | exact k1 (by omega) | exact k0 (by omega)
    · refine w_ic (pc' := 14) ⟨rfl, rfl⟩ ?_
      refine w_ireturn (pc' := 15) ⟨rfl, rfl⟩ (by decide) ?_
      first | exact k1 (by omega) | exact k0 (by omega)
  · refine w_ic (pc' := 6) ⟨rfl, rfl⟩ ?_
    refine w_ireturn (pc' := 7) ⟨rfl, rfl⟩ (by decide) ?_
    first | exact k1 (by omega) | exact k0 (by omega)
def zaW (a b : Int) : Int := if a < 0 ∨ 8 < a ∨ b < 0 ∨ 8 < b then -1 else if zgi a b then 1 else 0
theorem c_widens {σ : zSt} {a b : Int} (ha : (-2147483648 ≤ a ∧ a ≤ 2147483647)) (hb : (-2147483648 ≤ b ∧ b ≤ 2147483647)) {Q : zSt → Option Value → Prop} (k : Q σ (some (.int (iZ (zaW a b))))) : zCa 136 [.ref 0, .int (iZ a), .int (iZ b)] σ Q := by
  refine w_enter (c := zk_X11_widens) (ls2 := [(0, .ref 0), (1, .int (iZ a)), (2, .int (iZ b))]) rfl ⟨rfl, rfl, rfl, trivial⟩ ?_
  refine w_iload_n (pc' := 1) ⟨rfl, rfl⟩ rfl ?_
  refine w_if_lt (pc' := 4) (pcT := 20) ⟨rfl, rfl⟩ rfl (by omega) (fun h1 => ?_) (fun h1 => ?_)
  · refine w_ic (pc' := 21) ⟨rfl, rfl⟩ ?_
    refine w_ireturn (pc' := 22) ⟨rfl, rfl⟩ (Or.inl rfl) ?_
    exact zQi k (by unfold zaW; (try simp only [Int.toNat_natCast]); first | (rw [if_pos (by omega)]; done) | ((repeat' split) <;> first | omega | exact absurd trivial (by assumption) | rfl))
  · refine w_iload_n (pc' := 5) ⟨rfl, rfl⟩ rfl ?_
    refine w_bi (pc' := 7) ⟨rfl, rfl⟩ (by decide) ?_
    refine w_ic_gt (pc' := 10) (pcT := 20) ⟨rfl, rfl⟩ rfl (by omega) (by omega) (fun h2 => ?_) (fun h2 => ?_)
    · refine w_ic (pc' := 21) ⟨rfl, rfl⟩ ?_
      refine w_ireturn (pc' := 22) ⟨rfl, rfl⟩ (Or.inl rfl) ?_
      exact zQi k (by unfold zaW; (try simp only [Int.toNat_natCast]); first | (rw [if_pos (by omega)]; done) | ((repeat' split) <;> first | omega | exact absurd trivial (by assumption) | rfl))
    · refine w_iload_n (pc' := 11) ⟨rfl, rfl⟩ rfl ?_
      refine w_if_lt (pc' := 14) (pcT := 20) ⟨rfl, rfl⟩ rfl (by omega) (fun h3 => ?_) (fun h3 => ?_)
      · refine w_ic (pc' := 21) ⟨rfl, rfl⟩ ?_
        refine w_ireturn (pc' := 22) ⟨rfl, rfl⟩ (Or.inl rfl) ?_
        exact zQi k (by unfold zaW; (try simp only [Int.toNat_natCast]); first | (rw [if_pos (by omega)]; done) | ((repeat' split) <;> first | omega | exact absurd trivial (by assumption) | rfl))
      · refine w_iload_n (pc' := 15) ⟨rfl, rfl⟩ rfl ?_
        refine w_bi (pc' := 17) ⟨rfl, rfl⟩ (by decide) ?_
        refine w_ic_le (pc' := 20) (pcT := 22) ⟨rfl, rfl⟩ rfl (by omega) (by omega) (fun h4 => ?_) (fun h4 => ?_)
        · refine w_iload_n (pc' := 23) ⟨rfl, rfl⟩ rfl ?_
          refine w_iload_n (pc' := 24) ⟨rfl, rfl⟩ rfl ?_
          refine w_cs2 (pc' := 27) ⟨rfl, rfl⟩ (by decide) (Nat.le_of_ble_eq_true rfl) (Nat.le_of_ble_eq_true rfl) (c_goesInto (by omega) (by omega) (fun h => ?_) (fun h => ?_))
          · refine w_ifF_eq (pc' := 30) ⟨rfl, rfl⟩ (by decide) ?_
            refine w_ic (pc' := 31) ⟨rfl, rfl⟩ ?_
            refine w_goto (pc' := 34) (pcT := 35) ⟨rfl, rfl⟩ rfl ?_
            refine w_ireturn (pc' := 36) ⟨rfl, rfl⟩ (Or.inl rfl) ?_
            exact zQi k (by unfold zaW; (try simp only [Int.toNat_natCast]); first | (rw [if_pos (by omega)]; done) | ((repeat' split) <;> first | omega | exact absurd trivial (by assumption) | rfl))
          · refine w_ifT_eq (pc' := 30) (pcT := 34) ⟨rfl, rfl⟩ rfl (by decide) ?_
            refine w_ic (pc' := 35) ⟨rfl, rfl⟩ ?_
            refine w_ireturn (pc' := 36) ⟨rfl, rfl⟩ (Or.inl rfl) ?_
            exact zQi k (by unfold zaW; (try simp only [Int.toNat_natCast]); first | (rw [if_pos (by omega)]; done) | ((repeat' split) <;> first | omega | exact absurd trivial (by assumption) | rfl))
        · refine w_ic (pc' := 21) ⟨rfl, rfl⟩ ?_
          refine w_ireturn (pc' := 22) ⟨rfl, rfl⟩ (Or.inl rfl) ?_
          exact zQi k (by unfold zaW; (try simp only [Int.toNat_natCast]); first | (rw [if_pos (by omega)]; done) | ((repeat' split) <;> first | omega | exact absurd trivial (by assumption) | rfl))
theorem r_doesWidenZ {σ : zSt} (hF : zFx σ) (hW : zWid σ) {a b : Int} (ha : 0 ≤ a ∧ a ≤ 8) (hb : 0 ≤ b ∧ b ≤ 8) {Q : zSt → Option Value → Prop} (k1 : zgi a b → Q σ (some (.int (iZ 1)))) (k0 : ¬ zgi a b → Q σ (some (.int (iZ 0)))) : zCa 232 [.ref 164, .int (iZ a), .int (iZ b)] σ Q := by
  obtain ⟨x, rfl⟩ : ∃ x : Nat, a = x := ⟨a.toNat, by omega⟩
  obtain ⟨y, rfl⟩ : ∃ y : Nat, b = y := ⟨b.toNat, by omega⟩
  exact r_doesWiden hF hW (by omega) (by omega) k1 k0
theorem r_widens {σ : zSt} (hF : zFx σ) (hW : zWid σ) {a b : Int} (ha : (-2147483648 ≤ a ∧ a ≤ 2147483647)) (hb : (-2147483648 ≤ b ∧ b ≤ 2147483647)) {Q : zSt → Option Value → Prop} (k : Q σ (some (.int (iZ (zaW a b))))) : zCa 252 [.ref 164, .int (iZ a), .int (iZ b)] σ Q := by
  refine w_enter (c := zk_X12_widens) (ls2 := [(0, .ref 164), (1, .int (iZ a)), (2, .int (iZ b))]) rfl ⟨rfl, rfl, rfl, trivial⟩ ?_
  refine w_iload_n (pc' := 1) ⟨rfl, rfl⟩ rfl ?_
  refine w_i2lZ (pc' := 2) ⟨rfl, rfl⟩ (by omega) ?_
  refine w_lc (pc' := 3) (z := 0) ⟨rfl, rfl⟩ rfl ?_
  refine w_ldc2Y (pc' := 6) (z := 8) ⟨rfl, rfl⟩ rfl ?_
  refine w_cs3 (pc' := 9) ⟨rfl, rfl⟩ (by decide) (Nat.le_of_ble_eq_true rfl) (Nat.le_of_ble_eq_true rfl) (r_isIn (by omega) (by omega) (by omega) (fun h => ?_) (fun h => ?_))
  · refine w_ifF_eq (pc' := 12) ⟨rfl, rfl⟩ (by decide) ?_
    refine w_iload_n (pc' := 13) ⟨rfl, rfl⟩ rfl ?_
    refine w_i2lZ (pc' := 14) ⟨rfl, rfl⟩ (by omega) ?_
    refine w_lc (pc' := 15) (z := 0) ⟨rfl, rfl⟩ rfl ?_
    refine w_ldc2Y (pc' := 18) (z := 8) ⟨rfl, rfl⟩ rfl ?_
    refine w_cs3 (pc' := 21) ⟨rfl, rfl⟩ (by decide) (Nat.le_of_ble_eq_true rfl) (Nat.le_of_ble_eq_true rfl) (r_isIn (by omega) (by omega) (by omega) (fun h => ?_) (fun h => ?_))
    · refine w_ifF_eq (pc' := 24) ⟨rfl, rfl⟩ (by decide) ?_
      refine w_aload_n (pc' := 25) ⟨rfl, rfl⟩ rfl ?_
      refine w_iload_n (pc' := 26) ⟨rfl, rfl⟩ rfl ?_
      refine w_iload_n (pc' := 27) ⟨rfl, rfl⟩ rfl ?_
      refine w_cv3 (pc' := 30) ⟨rfl, rfl⟩ (by decide) (zOl hF rfl) (Nat.le_of_ble_eq_true rfl) (Nat.le_of_ble_eq_true rfl) (r_doesWidenZ hF hW (by omega) (by omega) (fun h => ?_) (fun h => ?_))
      · refine w_cs1 (pc' := 33) ⟨rfl, rfl⟩ (by decide) (Nat.le_of_ble_eq_true rfl) (Nat.le_of_ble_eq_true rfl) (r_flag (by omega) ?_)
        refine w_goto (pc' := 36) (pcT := 37) ⟨rfl, rfl⟩ rfl ?_
        refine w_ireturn (pc' := 38) ⟨rfl, rfl⟩ (Or.inl rfl) ?_
        exact zQi k (by unfold zaW; (try simp only [Int.toNat_natCast]); first | (rw [if_pos (by omega)]; done) | ((repeat' split) <;> first | omega | exact absurd trivial (by assumption) | rfl))
      · refine w_cs1 (pc' := 33) ⟨rfl, rfl⟩ (by decide) (Nat.le_of_ble_eq_true rfl) (Nat.le_of_ble_eq_true rfl) (r_flag (by omega) ?_)
        refine w_goto (pc' := 36) (pcT := 37) ⟨rfl, rfl⟩ rfl ?_
        refine w_ireturn (pc' := 38) ⟨rfl, rfl⟩ (Or.inl rfl) ?_
        exact zQi k (by unfold zaW; (try simp only [Int.toNat_natCast]); first | (rw [if_pos (by omega)]; done) | ((repeat' split) <;> first | omega | exact absurd trivial (by assumption) | rfl))
    · refine w_ifT_eq (pc' := 24) (pcT := 36) ⟨rfl, rfl⟩ rfl (by decide) ?_
      refine w_ic (pc' := 37) ⟨rfl, rfl⟩ ?_
      refine w_ireturn (pc' := 38) ⟨rfl, rfl⟩ (Or.inl rfl) ?_
      exact zQi k (by unfold zaW; (try simp only [Int.toNat_natCast]); first | (rw [if_pos (by omega)]; done) | ((repeat' split) <;> first | omega | exact absurd trivial (by assumption) | rfl))
  · refine w_ifT_eq (pc' := 12) (pcT := 36) ⟨rfl, rfl⟩ rfl (by decide) ?_
    refine w_ic (pc' := 37) ⟨rfl, rfl⟩ ?_
    refine w_ireturn (pc' := 38) ⟨rfl, rfl⟩ (Or.inl rfl) ?_
    exact zQi k (by unfold zaW; (try simp only [Int.toNat_natCast]); first | (rw [if_pos (by omega)]; done) | ((repeat' split) <;> first | omega | exact absurd trivial (by assumption) | rfl))
