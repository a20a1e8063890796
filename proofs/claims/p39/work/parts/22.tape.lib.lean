/-! of whole, what this claim takes: 22.tape.lean.txt -/
theorem zby_cond {n : Nat} {b : Nat → Int} {z : Int} (h1 : 0 ≤ z) (h2 : z < n) : zby n b z = b z.toNat := by unfold zby; rw [if_pos ⟨h1, h2⟩]
theorem c_byteAt {σ : zSt} {n : Nat} {b : Nat → Int} (hF : zFx σ) (hT : zTp σ n b) {z : Int} (hz : -2147483648 ≤ z ∧ z ≤ 2147483647) {Q : zSt → Option Value → Prop} (k : Q σ (some (.int (iZ (zby n b z))))) : zCa 81 [.ref 3, .int (iZ z)] σ Q := by
  refine w_enter (c := zk_X9_byteAt) (ls2 := [(0, .ref 3), (1, .int (iZ z))]) rfl ⟨rfl, rfl, trivial⟩ ?_
  have hn := hT.2.1
  refine w_iload_n (pc' := 1) ⟨rfl, rfl⟩ rfl ?_
  refine w_if_lt (pc' := 4) (pcT := 28) ⟨rfl, rfl⟩ rfl (by omega) (fun h1 => ?_) (fun h1 => ?_)
  · refine w_ic (pc' := 29) ⟨rfl, rfl⟩ ?_
    refine w_ireturn (pc' := 30) ⟨rfl, rfl⟩ (Or.inl rfl) ?_
    first | (rw [← zby_cond (n := n) (b := b) (by omega) (by omega)]; exact k) | (rw [zby_out (by omega)] at k; exact k)
  · refine w_iload_n (pc' := 5) ⟨rfl, rfl⟩ rfl ?_
    refine w_aload_n (pc' := 6) ⟨rfl, rfl⟩ rfl ?_
    refine w_getI (pc' := 9) (cl := 7) (q := 1) ⟨rfl, rfl⟩ ⟨rfl, by decide⟩ (zOl hF rfl) hT.1 ?_
    refine w_ic_ge (pc' := 12) (pcT := 28) ⟨rfl, rfl⟩ rfl (by omega) (by omega) (fun h2 => ?_) (fun h2 => ?_)
    · refine w_ic (pc' := 29) ⟨rfl, rfl⟩ ?_
      refine w_ireturn (pc' := 30) ⟨rfl, rfl⟩ (Or.inl rfl) ?_
      first | (rw [← zby_cond (n := n) (b := b) (by omega) (by omega)]; exact k) | (rw [zby_out (by omega)] at k; exact k)
    · refine w_iload_n (pc' := 13) ⟨rfl, rfl⟩ rfl ?_
      refine w_si (pc' := 16) ⟨rfl, rfl⟩ (by decide) ?_
      refine w_ic_ge (pc' := 19) (pcT := 28) ⟨rfl, rfl⟩ rfl (by omega) (by omega) (fun h3 => ?_) (fun h3 => ?_)
      · refine w_ic (pc' := 29) ⟨rfl, rfl⟩ ?_
        refine w_ireturn (pc' := 30) ⟨rfl, rfl⟩ (Or.inl rfl) ?_
        first | (rw [← zby_cond (n := n) (b := b) (by omega) (by omega)]; exact k) | (rw [zby_out (by omega)] at k; exact k)
      · refine w_aload_n (pc' := 20) ⟨rfl, rfl⟩ rfl ?_
        refine w_getR (pc' := 23) (cl := 7) (q := 0) ⟨rfl, rfl⟩ ⟨rfl, by decide⟩ (zOl hF rfl) (hF.2 3 0 4 rfl) ?_
        refine w_iload_n (pc' := 24) ⟨rfl, rfl⟩ rfl ?_
        refine w_iald (pc' := 25) ⟨rfl, rfl⟩ (zAl hF rfl) (zixA (j := z.toNat) (by omega)) ((hT.2.2 z.toNat (by omega)).1) ?_
        refine w_goto (pc' := 28) (pcT := 29) ⟨rfl, rfl⟩ rfl ?_
        refine w_ireturn (pc' := 30) ⟨rfl, rfl⟩ (Or.inl rfl) ?_
        first | (rw [← zby_cond (n := n) (b := b) (by omega) (by omega)]; exact k) | (rw [zby_out (by omega)] at k; exact k)
theorem c_isLetter {σ : zSt} {n : Nat} {b : Nat → Int} (hF : zFx σ) (hT : zTp σ n b) {z : Int} (hz : -2147483648 ≤ z ∧ z ≤ 2147483647) {Q : zSt → Option Value → Prop} (k1 : zlt n b z → Q σ (some (.int (iZ 1)))) (k0 : ¬ zlt n b z → Q σ (some (.int (iZ 0)))) : zCa 82 [.ref 3, .int (iZ z)] σ Q := by
  refine w_enter (c := zk_X9_isLetter) (ls2 := [(0, .ref 3), (1, .int (iZ z))]) rfl ⟨rfl, rfl, trivial⟩ ?_
  have hb := zby_rng hT z
  refine w_aload_n (pc' := 1) ⟨rfl, rfl⟩ rfl ?_
  refine w_iload_n (pc' := 2) ⟨rfl, rfl⟩ rfl ?_
  refine w_cv2 (pc' := 5) ⟨rfl, rfl⟩ (by decide) (zOl hF rfl) (Nat.le_of_ble_eq_true rfl) (Nat.le_of_ble_eq_true rfl) (c_byteAt hF hT (by omega) ?_)
  refine w_istore_n (pc' := 6) ⟨rfl, rfl⟩ rfl ?_
  refine w_iload_n (pc' := 7) ⟨rfl, rfl⟩ rfl ?_
  refine w_bi (pc' := 9) ⟨rfl, rfl⟩ (by decide) ?_
  refine w_ic_lt (pc' := 12) (pcT := 22) ⟨rfl, rfl⟩ rfl (by omega) (by omega) (fun h1 => ?_) (fun h1 => ?_)
  · refine w_ic (pc' := 23) ⟨rfl, rfl⟩ ?_
    refine w_ireturn (pc' := 24) ⟨rfl, rfl⟩ (by decide) ?_
    first | exact k1 (by omega) | exact k0 (by omega)
  · refine w_iload_n (pc' := 13) ⟨rfl, rfl⟩ rfl ?_
    refine w_bi (pc' := 15) ⟨rfl, rfl⟩ (by decide) ?_
    refine w_ic_gt (pc' := 18) (pcT := 22) ⟨rfl, rfl⟩ rfl (by omega) (by omega) (fun h2 => ?_) (fun h2 => ?_)
    · refine w_ic (pc' := 23) ⟨rfl, rfl⟩ ?_
      refine w_ireturn (pc' := 24) ⟨rfl, rfl⟩ (by decide) ?_
      first | exact k1 (by omega) | exact k0 (by omega)
    · refine w_ic (pc' := 19) ⟨rfl, rfl⟩ ?_
      refine w_goto (pc' := 22) (pcT := 23) ⟨rfl, rfl⟩ rfl ?_
      refine w_ireturn (pc' := 24) ⟨rfl, rfl⟩ (by decide) ?_
      first | exact k1 (by omega) | exact k0 (by omega)
theorem c_isDigit {σ : zSt} {n : Nat} {b : Nat → Int} (hF : zFx σ) (hT : zTp σ n b) {z : Int} (hz : -2147483648 ≤ z ∧ z ≤ 2147483647) {Q : zSt → Option Value → Prop} (k1 : zdg n b z → Q σ (some (.int (iZ 1)))) (k0 : ¬ zdg n b z → Q σ (some (.int (iZ 0)))) : zCa 83 [.ref 3, .int (iZ z)] σ Q := by
  refine w_enter (c := zk_X9_isDigit) (ls2 := [(0, .ref 3), (1, .int (iZ z))]) rfl ⟨rfl, rfl, trivial⟩ ?_
  have hb := zby_rng hT z
  refine w_aload_n (pc' := 1) ⟨rfl, rfl⟩ rfl ?_
  refine w_iload_n (pc' := 2) ⟨rfl, rfl⟩ rfl ?_
  refine w_cv2 (pc' := 5) ⟨rfl, rfl⟩ (by decide) (zOl hF rfl) (Nat.le_of_ble_eq_true rfl) (Nat.le_of_ble_eq_true rfl) (c_byteAt hF hT (by omega) ?_)
  refine w_istore_n (pc' := 6) ⟨rfl, rfl⟩ rfl ?_
  refine w_iload_n (pc' := 7) ⟨rfl, rfl⟩ rfl ?_
  refine w_bi (pc' := 9) ⟨rfl, rfl⟩ (by decide) ?_
  refine w_ic_lt (pc' := 12) (pcT := 22) ⟨rfl, rfl⟩ rfl (by omega) (by omega) (fun h1 => ?_) (fun h1 => ?_)
  · refine w_ic (pc' := 23) ⟨rfl, rfl⟩ ?_
    refine w_ireturn (pc' := 24) ⟨rfl, rfl⟩ (by decide) ?_
    first | exact k1 (by omega) | exact k0 (by omega)
  · refine w_iload_n (pc' := 13) ⟨rfl, rfl⟩ rfl ?_
    refine w_bi (pc' := 15) ⟨rfl, rfl⟩ (by decide) ?_
    refine w_ic_gt (pc' := 18) (pcT := 22) ⟨rfl, rfl⟩ rfl (by omega) (by omega) (fun h2 => ?_) (fun h2 => ?_)
    · refine w_ic (pc' := 23) ⟨rfl, rfl⟩ ?_
      refine w_ireturn (pc' := 24) ⟨rfl, rfl⟩ (by decide) ?_
      first | exact k1 (by omega) | exact k0 (by omega)
    · refine w_ic (pc' := 19) ⟨rfl, rfl⟩ ?_
      refine w_goto (pc' := 22) (pcT := 23) ⟨rfl, rfl⟩ rfl ?_
      refine w_ireturn (pc' := 24) ⟨rfl, rfl⟩ (by decide) ?_
      first | exact k1 (by omega) | exact k0 (by omega)
theorem c_isBlank {σ : zSt} {n : Nat} {b : Nat → Int} (hF : zFx σ) (hT : zTp σ n b) {z : Int} (hz : -2147483648 ≤ z ∧ z ≤ 2147483647) {Q : zSt → Option Value → Prop} (k1 : zbl n b z → Q σ (some (.int (iZ 1)))) (k0 : ¬ zbl n b z → Q σ (some (.int (iZ 0)))) : zCa 84 [.ref 3, .int (iZ z)] σ Q := by
  refine w_enter (c := zk_X9_isBlank) (ls2 := [(0, .ref 3), (1, .int (iZ z))]) rfl ⟨rfl, rfl, trivial⟩ ?_
  have hb := zby_rng hT z
  refine w_aload_n (pc' := 1) ⟨rfl, rfl⟩ rfl ?_
  refine w_iload_n (pc' := 2) ⟨rfl, rfl⟩ rfl ?_
  refine w_cv2 (pc' := 5) ⟨rfl, rfl⟩ (by decide) (zOl hF rfl) (Nat.le_of_ble_eq_true rfl) (Nat.le_of_ble_eq_true rfl) (c_byteAt hF hT (by omega) ?_)
  refine w_istore_n (pc' := 6) ⟨rfl, rfl⟩ rfl ?_
  refine w_iload_n (pc' := 7) ⟨rfl, rfl⟩ rfl ?_
  refine w_bi (pc' := 9) ⟨rfl, rfl⟩ (by decide) ?_
  refine w_ic_eq (pc' := 12) (pcT := 18) ⟨rfl, rfl⟩ rfl (by omega) (by omega) (fun h1 => ?_) (fun h1 => ?_)
  · refine w_ic (pc' := 19) ⟨rfl, rfl⟩ ?_
    refine w_goto (pc' := 22) (pcT := 23) ⟨rfl, rfl⟩ rfl ?_
    refine w_ireturn (pc' := 24) ⟨rfl, rfl⟩ (by decide) ?_
    first | exact k1 (by omega) | exact k0 (by omega)
  · refine w_iload_n (pc' := 13) ⟨rfl, rfl⟩ rfl ?_
    refine w_bi (pc' := 15) ⟨rfl, rfl⟩ (by decide) ?_
    refine w_ic_ne (pc' := 18) (pcT := 22) ⟨rfl, rfl⟩ rfl (by omega) (by omega) (fun h2 => ?_) (fun h2 => ?_)
    · refine w_ic (pc' := 23) ⟨rfl, rfl⟩ ?_
      refine w_ireturn (pc' := 24) ⟨rfl, rfl⟩ (by decide) ?_
      first | exact k1 (by omega) | exact k0 (by omega)
    · refine w_ic (pc' := 19) ⟨rfl, rfl⟩ ?_
      refine w_goto (pc' := 22) (pcT := 23) ⟨rfl, rfl⟩ rfl ?_
      refine w_ireturn (pc' := 24) ⟨rfl, rfl⟩ (by decide) ?_
      first | exact k1 (by omega) | exact k0 (by omega)
theorem c_takes {σ : zSt} {n : Nat} {b : Nat → Int} (hF : zFx σ) (hT : zTp σ n b) {z : Int} (hz : 0 ≤ z ∧ z ≤ 1000000) {Q : zSt → Option Value → Prop} (k1 : n + z ≤ 1600 → Q σ (some (.int (iZ 1)))) (k0 : ¬ n + z ≤ 1600 → Q σ (some (.int (iZ 0)))) : zCa 79 [.ref 3, .int (iZ z)] σ Q := by
  refine w_enter (c := zk_X9_takes) (ls2 := [(0, .ref 3), (1, .int (iZ z))]) rfl ⟨rfl, rfl, trivial⟩ ?_
  have hn := hT.2.1
  refine w_aload_n (pc' := 1) ⟨rfl, rfl⟩ rfl ?_
  refine w_getI (pc' := 4) (cl := 7) (q := 1) ⟨rfl, rfl⟩ ⟨rfl, by decide⟩ (zOl hF rfl) hT.1 ?_
  refine w_iload_n (pc' := 5) ⟨rfl, rfl⟩ rfl ?_
  refine w_iaddZ (pc' := 6) ⟨rfl, rfl⟩ ?_
  refine w_si (pc' := 9) ⟨rfl, rfl⟩ (by decide) ?_
  refine w_ic_gt (pc' := 12) (pcT := 16) ⟨rfl, rfl⟩ rfl (by omega) (by omega) (fun h1 => ?_) (fun h1 => ?_)
  · refine w_ic (pc' := 17) ⟨rfl, rfl⟩ ?_
    refine w_ireturn (pc' := 18) ⟨rfl, rfl⟩ (by decide) ?_
    first | exact k1 (by omega) | exact k0 (by omega)
  · refine w_ic (pc' := 13) ⟨rfl, rfl⟩ ?_
    refine w_goto (pc' := 16) (pcT := 17) ⟨rfl, rfl⟩ rfl ?_
    refine w_ireturn (pc' := 18) ⟨rfl, rfl⟩ (by decide) ?_
    first | exact k1 (by omega) | exact k0 (by omega)
theorem l_lettersFrom {σ : zSt} {n : Nat} {b : Nat → Int} (hF : zFx σ) (hT : zTp σ n b) {z : Int} (hz : -2147480000 ≤ z ∧ z ≤ 2147480000) {Q : zSt → Option Value → Prop} : ∀ (m j : Nat) (y : Int), j + m = 1600 → y = z + j → (∀ r : Int, r = j + zcnt (zlt n b) m y → Q σ (some (.int (iZ r)))) → zP zk_X9_lettersFrom 2 [(0, .ref 3), (1, .int (iZ z)), (2, .int (iZ j))] [] σ Q := by
  intro m
  induction m using Nat.strongRecOn with
  | _ m ih =>
    intro j y hm hy k
    subst hy
    refine w_iload_n (pc' := 3) ⟨rfl, rfl⟩ rfl ?_
    refine w_si (pc' := 6) ⟨rfl, rfl⟩ (by decide) ?_
    refine w_ic_ge (pc' := 9) (pcT := 25) ⟨rfl, rfl⟩ rfl (by omega) (by omega) (fun h1 => ?_) (fun h1 => ?_)
    · refine w_iload_n (pc' := 26) ⟨rfl, rfl⟩ rfl ?_
      refine w_ireturn (pc' := 27) ⟨rfl, rfl⟩ (Or.inl rfl) ?_
      exact k _ (by rw [zcnt_f (by first | exact Or.inl (by assumption) | exact Or.inr (by omega))]; omega)
    · refine w_aload_n (pc' := 10) ⟨rfl, rfl⟩ rfl ?_
      refine w_iload_n (pc' := 11) ⟨rfl, rfl⟩ rfl ?_
      refine w_iload_n (pc' := 12) ⟨rfl, rfl⟩ rfl ?_
      refine w_iaddZ (pc' := 13) ⟨rfl, rfl⟩ ?_
      refine w_cv2 (pc' := 16) ⟨rfl, rfl⟩ (by decide) (zOl hF rfl) (Nat.le_of_ble_eq_true rfl) (Nat.le_of_ble_eq_true rfl) (c_isLetter hF hT (by omega) (fun h => ?_) (fun h => ?_))
      · refine w_ifF_eq (pc' := 19) ⟨rfl, rfl⟩ (by decide) ?_
        refine w_iincZ (pc' := 22) ⟨rfl, rfl⟩ rfl rfl ?_
        refine w_goto (pc' := 25) (pcT := 2) ⟨rfl, rfl⟩ rfl ?_
        refine w_at ?_ (ih (m - 1) (by omega) (j + 1) (z + j + 1) (by omega) (by omega) (fun r hr => k r (by rw [zcnt_t (by assumption) (by omega)]; omega)))
        exact ⟨rfl, rfl, rfl, trivial⟩
      · refine w_ifT_eq (pc' := 19) (pcT := 25) ⟨rfl, rfl⟩ rfl (by decide) ?_
        refine w_iload_n (pc' := 26) ⟨rfl, rfl⟩ rfl ?_
        refine w_ireturn (pc' := 27) ⟨rfl, rfl⟩ (Or.inl rfl) ?_
        exact k _ (by rw [zcnt_f (by first | exact Or.inl (by assumption) | exact Or.inr (by omega))]; omega)
theorem c_lettersFrom {σ : zSt} {n : Nat} {b : Nat → Int} (hF : zFx σ) (hT : zTp σ n b) {z : Int} (hz : -2147480000 ≤ z ∧ z ≤ 2147480000) {Q : zSt → Option Value → Prop} (k : Q σ (some (.int (iZ (zcnt (zlt n b) 1600 z))))) : zCa 85 [.ref 3, .int (iZ z)] σ Q := by
  refine w_enter (c := zk_X9_lettersFrom) (ls2 := [(0, .ref 3), (1, .int (iZ z))]) rfl ⟨rfl, rfl, trivial⟩ ?_
  refine w_ic (pc' := 1) ⟨rfl, rfl⟩ ?_
  refine w_istore_n (pc' := 2) ⟨rfl, rfl⟩ rfl ?_
  refine w_at ?_ (l_lettersFrom hF hT hz 1600 0 z rfl (by omega) (fun r hr => zQi k (by omega)))
  exact ⟨rfl, rfl, rfl, trivial⟩
theorem l_digitsFrom {σ : zSt} {n : Nat} {b : Nat → Int} (hF : zFx σ) (hT : zTp σ n b) {z : Int} (hz : -2147480000 ≤ z ∧ z ≤ 2147480000) {Q : zSt → Option Value → Prop} : ∀ (m j : Nat) (y : Int), j + m = 1600 → y = z + j → (∀ r : Int, r = j + zcnt (zdg n b) m y → Q σ (some (.int (iZ r)))) → zP zk_X9_digitsFrom 2 [(0, .ref 3), (1, .int (iZ z)), (2, .int (iZ j))] [] σ Q := by
  intro m
  induction m using Nat.strongRecOn with
  | _ m ih =>
    intro j y hm hy k
    subst hy
    refine w_iload_n (pc' := 3) ⟨rfl, rfl⟩ rfl ?_
    refine w_si (pc' := 6) ⟨rfl, rfl⟩ (by decide) ?_
    refine w_ic_ge (pc' := 9) (pcT := 25) ⟨rfl, rfl⟩ rfl (by omega) (by omega) (fun h1 => ?_) (fun h1 => ?_)
    · refine w_iload_n (pc' := 26) ⟨rfl, rfl⟩ rfl ?_
      refine w_ireturn (pc' := 27) ⟨rfl, rfl⟩ (Or.inl rfl) ?_
      exact k _ (by rw [zcnt_f (by first | exact Or.inl (by assumption) | exact Or.inr (by omega))]; omega)
    · refine w_aload_n (pc' := 10) ⟨rfl, rfl⟩ rfl ?_
      refine w_iload_n (pc' := 11) ⟨rfl, rfl⟩ rfl ?_
      refine w_iload_n (pc' := 12) ⟨rfl, rfl⟩ rfl ?_
      refine w_iaddZ (pc' := 13) ⟨rfl, rfl⟩ ?_
      refine w_cv2 (pc' := 16) ⟨rfl, rfl⟩ (by decide) (zOl hF rfl) (Nat.le_of_ble_eq_true rfl) (Nat.le_of_ble_eq_true rfl) (c_isDigit hF hT (by omega) (fun h => ?_) (fun h => ?_))
      · refine w_ifF_eq (pc' := 19) ⟨rfl, rfl⟩ (by decide) ?_
        refine w_iincZ (pc' := 22) ⟨rfl, rfl⟩ rfl rfl ?_
        refine w_goto (pc' := 25) (pcT := 2) ⟨rfl, rfl⟩ rfl ?_
        refine w_at ?_ (ih (m - 1) (by omega) (j + 1) (z + j + 1) (by omega) (by omega) (fun r hr => k r (by rw [zcnt_t (by assumption) (by omega)]; omega)))
        exact ⟨rfl, rfl, rfl, trivial⟩
      · refine w_ifT_eq (pc' := 19) (pcT := 25) ⟨rfl, rfl⟩ rfl (by decide) ?_
        refine w_iload_n (pc' := 26) ⟨rfl, rfl⟩ rfl ?_
        refine w_ireturn (pc' := 27) ⟨rfl, rfl⟩ (Or.inl rfl) ?_
        exact k _ (by rw [zcnt_f (by first | exact Or.inl (by assumption) | exact Or.inr (by omega))]; omega)
theorem c_digitsFrom {σ : zSt} {n : Nat} {b : Nat → Int} (hF : zFx σ) (hT : zTp σ n b) {z : Int} (hz : -2147480000 ≤ z ∧ z ≤ 2147480000) {Q : zSt → Option Value → Prop} (k : Q σ (some (.int (iZ (zcnt (zdg n b) 1600 z))))) : zCa 86 [.ref 3, .int (iZ z)] σ Q := by
  refine w_enter (c := zk_X9_digitsFrom) (ls2 := [(0, .ref 3), (1, .int (iZ z))]) rfl ⟨rfl, rfl, trivial⟩ ?_
  refine w_ic (pc' := 1) ⟨rfl, rfl⟩ ?_
  refine w_istore_n (pc' := 2) ⟨rfl, rfl⟩ rfl ?_
  refine w_at ?_ (l_digitsFrom hF hT hz 1600 0 z rfl (by omega) (fun r hr => zQi k (by omega)))
  exact ⟨rfl, rfl, rfl, trivial⟩
