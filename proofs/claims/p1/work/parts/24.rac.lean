/-! SMALL METHODS of the reference -/
theorem zis_c {t : zBk} {σ : zSt} (h : zTr σ t) : (t 0 = 0 ∧ zI σ 164 14 = iZ 0) ∨ (t 0 ≠ 0 ∧ zI σ 164 14 = iZ 1) := by
  have := h.2
  split at this
  · exact Or.inl ⟨by assumption, this⟩
  · exact Or.inr ⟨by assumption, this⟩
theorem r_isIn {σ : zSt} {a b d : Int} (ha : -9223372036854775808 ≤ a ∧ a ≤ 9223372036854775807) (hb : -9223372036854775808 ≤ b ∧ b ≤ 9223372036854775807) (hd : -9223372036854775808 ≤ d ∧ d ≤ 9223372036854775807) {Q : zSt → Option Value → Prop} (k1 : b ≤ a ∧ a ≤ d → Q σ (some (.int (iZ 1)))) (k0 : ¬ (b ≤ a ∧ a ≤ d) → Q σ (some (.int (iZ 0)))) : zCa 172 [.long (lZ a), .long (lZ b), .long (lZ d)] σ Q := by
  refine w_enter (c := zk_X12_isIn) (ls2 := [(0, .long (lZ a)), (2, .long (lZ b)), (4, .long (lZ d))]) rfl ⟨rfl, rfl, rfl, trivial⟩ ?_
  refine w_lload_n (pc' := 1) ⟨rfl, rfl⟩ rfl ?_
  refine w_lload_n (pc' := 2) ⟨rfl, rfl⟩ rfl ?_
  refine w_lcmp (pc' := 3) ⟨rfl, rfl⟩ ?_
  refine w_ify_lt (pc' := 6) (pcT := 17) ⟨rfl, rfl⟩ rfl (by omega) (by omega) (fun h1 => ?_) (fun h1 => ?_)
  · refine w_ic (pc' := 18) ⟨rfl, rfl⟩ ?_
    refine w_ireturn (pc' := 19) ⟨rfl, rfl⟩ (by decide) ?_
    first | exact k1 (by omega) | exact k0 (by omega)
  · refine w_lload_n (pc' := 7) ⟨rfl, rfl⟩ rfl ?_
    refine w_lload (pc' := 9) ⟨rfl, rfl⟩ rfl ?_
    refine w_lcmp (pc' := 10) ⟨rfl, rfl⟩ ?_
    refine w_ify_gt (pc' := 13) (pcT := 17) ⟨rfl, rfl⟩ rfl (by omega) (by omega) (fun h2 => ?_) (fun h2 => ?_)
    · refine w_ic (pc' := 18) ⟨rfl, rfl⟩ ?_
      refine w_ireturn (pc' := 19) ⟨rfl, rfl⟩ (by decide) ?_
      first | exact k1 (by omega) | exact k0 (by omega)
    · refine w_ic (pc' := 14) ⟨rfl, rfl⟩ ?_
      refine w_goto (pc' := 17) (pcT := 18) ⟨rfl, rfl⟩ rfl ?_
      refine w_ireturn (pc' := 19) ⟨rfl, rfl⟩ (by decide) ?_
      first | exact k1 (by omega) | exact k0 (by omega)
theorem r_lessOf {σ : zSt} {a b : Int} (ha : -2147483648 ≤ a ∧ a ≤ 2147483647) (hb : -2147483648 ≤ b ∧ b ≤ 2147483647) {Q : zSt → Option Value → Prop} (k : Q σ (some (.int (iZ (min a b))))) : zCa 173 [.int (iZ a), .int (iZ b)] σ Q := by
  refine w_enter (c := zk_X12_lessOf) (ls2 := [(0, .int (iZ a)), (1, .int (iZ b))]) rfl ⟨rfl, rfl, trivial⟩ ?_
  refine w_iload_n (pc' := 1) ⟨rfl, rfl⟩ rfl ?_
  refine w_iload_n (pc' := 2) ⟨rfl, rfl⟩ rfl ?_
  refine w_ic_ge (pc' := 5) (pcT := 9) ⟨rfl, rfl⟩ rfl (by omega) (by omega) (fun h1 => ?_) (fun h1 => ?_)
  · refine w_iload_n (pc' := 10) ⟨rfl, rfl⟩ rfl ?_
    refine w_ireturn (pc' := 11) ⟨rfl, rfl⟩ (Or.inl rfl) ?_
    exact zQi k (by omega)
  · refine w_iload_n (pc' := 6) ⟨rfl, rfl⟩ rfl ?_
    refine w_goto (pc' := 9) (pcT := 10) ⟨rfl, rfl⟩ rfl ?_
    refine w_ireturn (pc' := 11) ⟨rfl, rfl⟩ (Or.inl rfl) ?_
    exact zQi k (by omega)
theorem r_flag {σ : zSt} {a : Int} (ha : 0 ≤ a ∧ a ≤ 1) {Q : zSt → Option Value → Prop} (k : Q σ (some (.int (iZ a)))) : zCa 174 [.int (iZ a)] σ Q := by
  refine w_enter (c := zk_X12_flag) (ls2 := [(0, .int (iZ a))]) rfl ⟨rfl, trivial⟩ ?_
  refine w_iload_n (pc' := 1) ⟨rfl, rfl⟩ rfl ?_
  refine w_if_eq (pc' := 4) (pcT := 8) ⟨rfl, rfl⟩ rfl (by omega) (fun h1 => ?_) (fun h1 => ?_)
  · refine w_ic (pc' := 9) ⟨rfl, rfl⟩ ?_
    refine w_ireturn (pc' := 10) ⟨rfl, rfl⟩ (Or.inl rfl) ?_
    exact zQi k (by omega)
  · refine w_ic (pc' := 5) ⟨rfl, rfl⟩ ?_
    refine w_goto (pc' := 8) (pcT := 9) ⟨rfl, rfl⟩ rfl ?_
    refine w_ireturn (pc' := 10) ⟨rfl, rfl⟩ (Or.inl rfl) ?_
    exact zQi k (by omega)
theorem zwI_zwI {σ : zSt} {o k : Nat} {v w : Int32} (h : v = w) : zwI σ o k v = zwI σ o k w := by rw [h]
theorem r_refuses {σ : zSt} {w : Nat} (hF : zFx σ) (hw : w < 6) {Q : zSt → Option Value → Prop} (k : Q (zwI σ 166 w (zI σ 166 w + iZ 1)) (some (.int (iZ (-1))))) : zCa 175 [.ref 164, .int (iZ w)] σ Q := by
  refine w_enter (c := zk_X12_refuses) (ls2 := [(0, .ref 164), (1, .int (iZ w))]) rfl ⟨rfl, rfl, trivial⟩ ?_
  refine w_aload_n (pc' := 1) ⟨rfl, rfl⟩ rfl ?_
  refine w_getR (pc' := 4) (cl := 10) (q := 9) ⟨rfl, rfl⟩ ⟨rfl, by decide⟩ (zOl hF rfl) (hF.2 164 9 166 rfl) ?_
  refine w_iload_n (pc' := 5) ⟨rfl, rfl⟩ rfl ?_
  refine w_dup2 (pc' := 6) ⟨rfl, rfl⟩ ?_
  refine w_iald (pc' := 7) ⟨rfl, rfl⟩ (zAl hF rfl) (zixZ (by omega)) rfl ?_
  refine w_ic (pc' := 8) ⟨rfl, rfl⟩ ?_
  refine w_iadd (pc' := 9) ⟨rfl, rfl⟩ ?_
  refine w_iast (pc' := 10) ⟨rfl, rfl⟩ (zAl hF rfl) (zixZ (by omega)) ?_
  refine w_ic (pc' := 11) ⟨rfl, rfl⟩ ?_
  refine w_ireturn (pc' := 12) ⟨rfl, rfl⟩ (Or.inl rfl) ?_
  exact k
theorem r_isRefused {σ : zSt} {w : Nat} (hF : zFx σ) (hw : w < 6) {Q : zSt → Option Value → Prop} (k : Q (zwI σ 166 w (zI σ 166 w + iZ 1)) (some (.int (iZ (0))))) : zCa 176 [.ref 164, .int (iZ w)] σ Q := by
  refine w_enter (c := zk_X12_isRefused) (ls2 := [(0, .ref 164), (1, .int (iZ w))]) rfl ⟨rfl, rfl, trivial⟩ ?_
  refine w_aload_n (pc' := 1) ⟨rfl, rfl⟩ rfl ?_
  refine w_getR (pc' := 4) (cl := 10) (q := 9) ⟨rfl, rfl⟩ ⟨rfl, by decide⟩ (zOl hF rfl) (hF.2 164 9 166 rfl) ?_
  refine w_iload_n (pc' := 5) ⟨rfl, rfl⟩ rfl ?_
  refine w_dup2 (pc' := 6) ⟨rfl, rfl⟩ ?_
  refine w_iald (pc' := 7) ⟨rfl, rfl⟩ (zAl hF rfl) (zixZ (by omega)) rfl ?_
  refine w_ic (pc' := 8) ⟨rfl, rfl⟩ ?_
  refine w_iadd (pc' := 9) ⟨rfl, rfl⟩ ?_
  refine w_iast (pc' := 10) ⟨rfl, rfl⟩ (zAl hF rfl) (zixZ (by omega)) ?_
  refine w_ic (pc' := 11) ⟨rfl, rfl⟩ ?_
  refine w_ireturn (pc' := 12) ⟨rfl, rfl⟩ (by decide) ?_
  exact k
theorem r_isRefusedBy {σ : zSt} {a : Int} (hF : zFx σ) (ha : -2147483648 ≤ a ∧ a ≤ 2147483647) {Q : zSt → Option Value → Prop} (k1 : a ≠ 0 → Q (zwI σ 164 18 (iZ a)) (some (.int (iZ 1)))) (k0 : a = 0 → Q (zwI σ 164 18 (iZ a)) (some (.int (iZ 0)))) : zCa 256 [.ref 164, .int (iZ a)] σ Q := by
  refine w_enter (c := zk_X12_isRefusedBy) (ls2 := [(0, .ref 164), (1, .int (iZ a))]) rfl ⟨rfl, rfl, trivial⟩ ?_
  refine w_aload_n (pc' := 1) ⟨rfl, rfl⟩ rfl ?_
  refine w_iload_n (pc' := 2) ⟨rfl, rfl⟩ rfl ?_
  refine w_putI (pc' := 5) (cl := 10) (q := 18) ⟨rfl, rfl⟩ ⟨rfl, by decide⟩ (zOl hF rfl) ?_
  refine w_iload_n (pc' := 6) ⟨rfl, rfl⟩ rfl ?_
  refine w_if_eq (pc' := 9) (pcT := 13) ⟨rfl, rfl⟩ rfl (by omega) (fun h1 => ?_) (fun h1 => ?_)
  · refine w_ic (pc' := 14) ⟨rfl, rfl⟩ ?_
    refine w_ireturn (pc' := 15) ⟨rfl, rfl⟩ (by decide) ?_
    first | exact k1 (by omega) | exact k0 (by omega)
  · refine w_ic (pc' := 10) ⟨rfl, rfl⟩ ?_
    refine w_goto (pc' := 13) (pcT := 14) ⟨rfl, rfl⟩ rfl ?_
    refine w_ireturn (pc' := 15) ⟨rfl, rfl⟩ (by decide) ?_
    first | exact k1 (by omega) | exact k0 (by omega)
theorem r_schemeAt {σ : zSt} {a b d : Int} {Q : zSt → Option Value → Prop} (k : Q σ (some (.int (iZ (2 + 20 * a + b))))) : zCa 195 [.int (iZ a), .int (iZ b)] σ Q := by
  refine w_enter (c := zk_X12_schemeAt) (ls2 := [(0, .int (iZ a)), (1, .int (iZ b))]) rfl ⟨rfl, rfl, trivial⟩ ?_
  refine w_ic (pc' := 1) ⟨rfl, rfl⟩ ?_
  refine w_bi (pc' := 3) ⟨rfl, rfl⟩ (by decide) ?_
  refine w_iload_n (pc' := 4) ⟨rfl, rfl⟩ rfl ?_
  refine w_imulZ (pc' := 5) ⟨rfl, rfl⟩ ?_
  refine w_iaddZ (pc' := 6) ⟨rfl, rfl⟩ ?_
  refine w_iload_n (pc' := 7) ⟨rfl, rfl⟩ rfl ?_
  refine w_iaddZ (pc' := 8) ⟨rfl, rfl⟩ ?_
  refine w_ireturn (pc' := 9) ⟨rfl, rfl⟩ (Or.inl rfl) ?_
  exact zQi k (by omega)
theorem r_fieldAt {σ : zSt} {a b d : Int} {Q : zSt → Option Value → Prop} (k : Q σ (some (.int (iZ (2 + 20 * a + (2 + 3 * b + d)))))) : zCa 196 [.int (iZ a), .int (iZ b), .int (iZ d)] σ Q := by
  refine w_enter (c := zk_X12_fieldAt) (ls2 := [(0, .int (iZ a)), (1, .int (iZ b)), (2, .int (iZ d))]) rfl ⟨rfl, rfl, rfl, trivial⟩ ?_
  refine w_iload_n (pc' := 1) ⟨rfl, rfl⟩ rfl ?_
  refine w_ic (pc' := 2) ⟨rfl, rfl⟩ ?_
  refine w_ic (pc' := 3) ⟨rfl, rfl⟩ ?_
  refine w_iload_n (pc' := 4) ⟨rfl, rfl⟩ rfl ?_
  refine w_imulZ (pc' := 5) ⟨rfl, rfl⟩ ?_
  refine w_iaddZ (pc' := 6) ⟨rfl, rfl⟩ ?_
  refine w_iload_n (pc' := 7) ⟨rfl, rfl⟩ rfl ?_
  refine w_iaddZ (pc' := 8) ⟨rfl, rfl⟩ ?_
  refine w_cs2 (pc' := 11) ⟨rfl, rfl⟩ (by decide) (Nat.le_of_ble_eq_true rfl) (Nat.le_of_ble_eq_true rfl) (r_schemeAt (d := 0) ?_)
  refine w_ireturn (pc' := 12) ⟨rfl, rfl⟩ (Or.inl rfl) ?_
  exact zQi k (by omega)
theorem r_crossingAt {σ : zSt} {a b d : Int} {Q : zSt → Option Value → Prop} (k : Q σ (some (.int (iZ (62 + 27 * a + b))))) : zCa 197 [.int (iZ a), .int (iZ b)] σ Q := by
  refine w_enter (c := zk_X12_crossingAt) (ls2 := [(0, .int (iZ a)), (1, .int (iZ b))]) rfl ⟨rfl, rfl, trivial⟩ ?_
  refine w_bi (pc' := 2) ⟨rfl, rfl⟩ (by decide) ?_
  refine w_bi (pc' := 4) ⟨rfl, rfl⟩ (by decide) ?_
  refine w_iload_n (pc' := 5) ⟨rfl, rfl⟩ rfl ?_
  refine w_imulZ (pc' := 6) ⟨rfl, rfl⟩ ?_
  refine w_iaddZ (pc' := 7) ⟨rfl, rfl⟩ ?_
  refine w_iload_n (pc' := 8) ⟨rfl, rfl⟩ rfl ?_
  refine w_iaddZ (pc' := 9) ⟨rfl, rfl⟩ ?_
  refine w_ireturn (pc' := 10) ⟨rfl, rfl⟩ (Or.inl rfl) ?_
  exact zQi k (by omega)
theorem r_ruleAt {σ : zSt} {a b d : Int} {Q : zSt → Option Value → Prop} (k : Q σ (some (.int (iZ (62 + 27 * a + (3 + 4 * b + d)))))) : zCa 198 [.int (iZ a), .int (iZ b), .int (iZ d)] σ Q := by
  refine w_enter (c := zk_X12_ruleAt) (ls2 := [(0, .int (iZ a)), (1, .int (iZ b)), (2, .int (iZ d))]) rfl ⟨rfl, rfl, rfl, trivial⟩ ?_
  refine w_iload_n (pc' := 1) ⟨rfl, rfl⟩ rfl ?_
  refine w_ic (pc' := 2) ⟨rfl, rfl⟩ ?_
  refine w_ic (pc' := 3) ⟨rfl, rfl⟩ ?_
  refine w_iload_n (pc' := 4) ⟨rfl, rfl⟩ rfl ?_
  refine w_imulZ (pc' := 5) ⟨rfl, rfl⟩ ?_
  refine w_iaddZ (pc' := 6) ⟨rfl, rfl⟩ ?_
  refine w_iload_n (pc' := 7) ⟨rfl, rfl⟩ rfl ?_
  refine w_iaddZ (pc' := 8) ⟨rfl, rfl⟩ ?_
  refine w_cs2 (pc' := 11) ⟨rfl, rfl⟩ (by decide) (Nat.le_of_ble_eq_true rfl) (Nat.le_of_ble_eq_true rfl) (r_crossingAt (d := 0) ?_)
  refine w_ireturn (pc' := 12) ⟨rfl, rfl⟩ (Or.inl rfl) ?_
  exact zQi k (by omega)
theorem r_placeAt {σ : zSt} {a b d : Int} {Q : zSt → Option Value → Prop} (k : Q σ (some (.int (iZ (11 + 32 * (6 * a + b) + d))))) : zCa 223 [.int (iZ a), .int (iZ b), .int (iZ d)] σ Q := by
  refine w_enter (c := zk_X12_placeAt) (ls2 := [(0, .int (iZ a)), (1, .int (iZ b)), (2, .int (iZ d))]) rfl ⟨rfl, rfl, rfl, trivial⟩ ?_
  refine w_bi (pc' := 2) ⟨rfl, rfl⟩ (by decide) ?_
  refine w_bi (pc' := 4) ⟨rfl, rfl⟩ (by decide) ?_
  refine w_bi (pc' := 6) ⟨rfl, rfl⟩ (by decide) ?_
  refine w_iload_n (pc' := 7) ⟨rfl, rfl⟩ rfl ?_
  refine w_imulZ (pc' := 8) ⟨rfl, rfl⟩ ?_
  refine w_iload_n (pc' := 9) ⟨rfl, rfl⟩ rfl ?_
  refine w_iaddZ (pc' := 10) ⟨rfl, rfl⟩ ?_
  refine w_imulZ (pc' := 11) ⟨rfl, rfl⟩ ?_
  refine w_iaddZ (pc' := 12) ⟨rfl, rfl⟩ ?_
  refine w_iload_n (pc' := 13) ⟨rfl, rfl⟩ rfl ?_
  refine w_iaddZ (pc' := 14) ⟨rfl, rfl⟩ ?_
  refine w_ireturn (pc' := 15) ⟨rfl, rfl⟩ (Or.inl rfl) ?_
  exact zQi k (by omega)
theorem r_fieldMany {σ : zSt} {t : zBk} (hF : zFx σ) (hT : zTr σ t) {a : Nat} (ha : a < 3) {Q : zSt → Option Value → Prop} (k : Q σ (some (.int (iZ (zNF t a))))) : zCa 214 [.ref 164, .int (iZ a)] σ Q := by
  refine w_enter (c := zk_X12_fieldMany) (ls2 := [(0, .ref 164), (1, .int (iZ a))]) rfl ⟨rfl, rfl, trivial⟩ ?_
  refine w_aload_n (pc' := 1) ⟨rfl, rfl⟩ rfl ?_
  refine w_getR (pc' := 4) (cl := 10) (q := 13) ⟨rfl, rfl⟩ ⟨rfl, by decide⟩ (zOl hF rfl) (hF.2 164 13 169 rfl) ?_
  refine w_iload_n (pc' := 5) ⟨rfl, rfl⟩ rfl ?_
  refine w_ic (pc' := 6) ⟨rfl, rfl⟩ ?_
  refine w_cs2 (pc' := 9) ⟨rfl, rfl⟩ (by decide) (Nat.le_of_ble_eq_true rfl) (Nat.le_of_ble_eq_true rfl) (r_schemeAt (d := 0) ?_)
  refine w_iald (pc' := 10) ⟨rfl, rfl⟩ (zAl hF rfl) (zixA (j := 3 + 20 * a) (by omega)) (hT.1 (3 + 20 * a) (by omega)) ?_
  refine w_ireturn (pc' := 11) ⟨rfl, rfl⟩ (Or.inl rfl) ?_
  exact k
theorem r_kindOf {σ : zSt} {t : zBk} (hF : zFx σ) (hT : zTr σ t) {a b : Nat} (ha : a < 3) (hb : b < 6) {Q : zSt → Option Value → Prop} (k : Q σ (some (.int (iZ (zKD t a b))))) : zCa 216 [.ref 164, .int (iZ a), .int (iZ b)] σ Q := by
  refine w_enter (c := zk_X12_kindOf) (ls2 := [(0, .ref 164), (1, .int (iZ a)), (2, .int (iZ b))]) rfl ⟨rfl, rfl, rfl, trivial⟩ ?_
  refine w_aload_n (pc' := 1) ⟨rfl, rfl⟩ rfl ?_
  refine w_getR (pc' := 4) (cl := 10) (q := 13) ⟨rfl, rfl⟩ ⟨rfl, by decide⟩ (zOl hF rfl) (hF.2 164 13 169 rfl) ?_
  refine w_iload_n (pc' := 5) ⟨rfl, rfl⟩ rfl ?_
  refine w_iload_n (pc' := 6) ⟨rfl, rfl⟩ rfl ?_
  refine w_ic (pc' := 7) ⟨rfl, rfl⟩ ?_
  refine w_cs3 (pc' := 10) ⟨rfl, rfl⟩ (by decide) (Nat.le_of_ble_eq_true rfl) (Nat.le_of_ble_eq_true rfl) (r_fieldAt ?_)
  refine w_iald (pc' := 11) ⟨rfl, rfl⟩ (zAl hF rfl) (zixA (j := 5 + 20 * a + 3 * b) (by omega)) (hT.1 (5 + 20 * a + 3 * b) (by omega)) ?_
  refine w_ireturn (pc' := 12) ⟨rfl, rfl⟩ (Or.inl rfl) ?_
  exact k
theorem r_cellsOf {σ : zSt} {t : zBk} (hF : zFx σ) (hT : zTr σ t) {a b : Nat} (ha : a < 3) (hb : b < 6) {Q : zSt → Option Value → Prop} (k : Q σ (some (.int (iZ (zCE t a b))))) : zCa 217 [.ref 164, .int (iZ a), .int (iZ b)] σ Q := by
  refine w_enter (c := zk_X12_cellsOf) (ls2 := [(0, .ref 164), (1, .int (iZ a)), (2, .int (iZ b))]) rfl ⟨rfl, rfl, rfl, trivial⟩ ?_
  refine w_aload_n (pc' := 1) ⟨rfl, rfl⟩ rfl ?_
  refine w_getR (pc' := 4) (cl := 10) (q := 13) ⟨rfl, rfl⟩ ⟨rfl, by decide⟩ (zOl hF rfl) (hF.2 164 13 169 rfl) ?_
  refine w_iload_n (pc' := 5) ⟨rfl, rfl⟩ rfl ?_
  refine w_iload_n (pc' := 6) ⟨rfl, rfl⟩ rfl ?_
  refine w_ic (pc' := 7) ⟨rfl, rfl⟩ ?_
  refine w_cs3 (pc' := 10) ⟨rfl, rfl⟩ (by decide) (Nat.le_of_ble_eq_true rfl) (Nat.le_of_ble_eq_true rfl) (r_fieldAt ?_)
  refine w_iald (pc' := 11) ⟨rfl, rfl⟩ (zAl hF rfl) (zixA (j := 6 + 20 * a + 3 * b) (by omega)) (hT.1 (6 + 20 * a + 3 * b) (by omega)) ?_
  refine w_ireturn (pc' := 12) ⟨rfl, rfl⟩ (Or.inl rfl) ?_
  exact k
theorem r_fromOf {σ : zSt} {t : zBk} (hF : zFx σ) (hT : zTr σ t) {a : Nat} (ha : a < 4) {Q : zSt → Option Value → Prop} (k : Q σ (some (.int (iZ (zFO t a))))) : zCa 219 [.ref 164, .int (iZ a)] σ Q := by
  refine w_enter (c := zk_X12_fromOf) (ls2 := [(0, .ref 164), (1, .int (iZ a))]) rfl ⟨rfl, rfl, trivial⟩ ?_
  refine w_aload_n (pc' := 1) ⟨rfl, rfl⟩ rfl ?_
  refine w_getR (pc' := 4) (cl := 10) (q := 13) ⟨rfl, rfl⟩ ⟨rfl, by decide⟩ (zOl hF rfl) (hF.2 164 13 169 rfl) ?_
  refine w_iload_n (pc' := 5) ⟨rfl, rfl⟩ rfl ?_
  refine w_ic (pc' := 6) ⟨rfl, rfl⟩ ?_
  refine w_cs2 (pc' := 9) ⟨rfl, rfl⟩ (by decide) (Nat.le_of_ble_eq_true rfl) (Nat.le_of_ble_eq_true rfl) (r_crossingAt (d := 0) ?_)
  refine w_iald (pc' := 10) ⟨rfl, rfl⟩ (zAl hF rfl) (zixA (j := 62 + 27 * a) (by omega)) (hT.1 (62 + 27 * a) (by omega)) ?_
  refine w_ireturn (pc' := 11) ⟨rfl, rfl⟩ (Or.inl rfl) ?_
  exact k
theorem r_toOf {σ : zSt} {t : zBk} (hF : zFx σ) (hT : zTr σ t) {a : Nat} (ha : a < 4) {Q : zSt → Option Value → Prop} (k : Q σ (some (.int (iZ (zTO t a))))) : zCa 220 [.ref 164, .int (iZ a)] σ Q := by
  refine w_enter (c := zk_X12_toOf) (ls2 := [(0, .ref 164), (1, .int (iZ a))]) rfl ⟨rfl, rfl, trivial⟩ ?_
  refine w_aload_n (pc' := 1) ⟨rfl, rfl⟩ rfl ?_
  refine w_getR (pc' := 4) (cl := 10) (q := 13) ⟨rfl, rfl⟩ ⟨rfl, by decide⟩ (zOl hF rfl) (hF.2 164 13 169 rfl) ?_
  refine w_iload_n (pc' := 5) ⟨rfl, rfl⟩ rfl ?_
  refine w_ic (pc' := 6) ⟨rfl, rfl⟩ ?_
  refine w_cs2 (pc' := 9) ⟨rfl, rfl⟩ (by decide) (Nat.le_of_ble_eq_true rfl) (Nat.le_of_ble_eq_true rfl) (r_crossingAt (d := 0) ?_)
  refine w_iald (pc' := 10) ⟨rfl, rfl⟩ (zAl hF rfl) (zixA (j := 63 + 27 * a) (by omega)) (hT.1 (63 + 27 * a) (by omega)) ?_
  refine w_ireturn (pc' := 11) ⟨rfl, rfl⟩ (Or.inl rfl) ?_
  exact k
theorem r_ruleMany {σ : zSt} {t : zBk} (hF : zFx σ) (hT : zTr σ t) {a : Nat} (ha : a < 4) {Q : zSt → Option Value → Prop} (k : Q σ (some (.int (iZ (zNU t a))))) : zCa 221 [.ref 164, .int (iZ a)] σ Q := by
  refine w_enter (c := zk_X12_ruleMany) (ls2 := [(0, .ref 164), (1, .int (iZ a))]) rfl ⟨rfl, rfl, trivial⟩ ?_
  refine w_aload_n (pc' := 1) ⟨rfl, rfl⟩ rfl ?_
  refine w_getR (pc' := 4) (cl := 10) (q := 13) ⟨rfl, rfl⟩ ⟨rfl, by decide⟩ (zOl hF rfl) (hF.2 164 13 169 rfl) ?_
  refine w_iload_n (pc' := 5) ⟨rfl, rfl⟩ rfl ?_
  refine w_ic (pc' := 6) ⟨rfl, rfl⟩ ?_
  refine w_cs2 (pc' := 9) ⟨rfl, rfl⟩ (by decide) (Nat.le_of_ble_eq_true rfl) (Nat.le_of_ble_eq_true rfl) (r_crossingAt (d := 0) ?_)
  refine w_iald (pc' := 10) ⟨rfl, rfl⟩ (zAl hF rfl) (zixA (j := 64 + 27 * a) (by omega)) (hT.1 (64 + 27 * a) (by omega)) ?_
  refine w_ireturn (pc' := 11) ⟨rfl, rfl⟩ (Or.inl rfl) ?_
  exact k
theorem r_ruleHas0 {σ : zSt} {t : zBk} (hF : zFx σ) (hT : zTr σ t) {a b : Nat} (ha : a < 4) (hb : b < 6) {Q : zSt → Option Value → Prop} (k : Q σ (some (.int (iZ (zRT t a b))))) : zCa 222 [.ref 164, .int (iZ a), .int (iZ b), .int (iZ 0)] σ Q := by
  refine w_enter (c := zk_X12_ruleHas) (ls2 := [(0, .ref 164), (1, .int (iZ a)), (2, .int (iZ b)), (3, .int (iZ 0))]) rfl ⟨rfl, rfl, rfl, rfl, trivial⟩ ?_
  refine w_aload_n (pc' := 1) ⟨rfl, rfl⟩ rfl ?_
  refine w_getR (pc' := 4) (cl := 10) (q := 13) ⟨rfl, rfl⟩ ⟨rfl, by decide⟩ (zOl hF rfl) (hF.2 164 13 169 rfl) ?_
  refine w_iload_n (pc' := 5) ⟨rfl, rfl⟩ rfl ?_
  refine w_iload_n (pc' := 6) ⟨rfl, rfl⟩ rfl ?_
  refine w_iload_n (pc' := 7) ⟨rfl, rfl⟩ rfl ?_
  refine w_cs3 (pc' := 10) ⟨rfl, rfl⟩ (by decide) (Nat.le_of_ble_eq_true rfl) (Nat.le_of_ble_eq_true rfl) (r_ruleAt ?_)
  refine w_iald (pc' := 11) ⟨rfl, rfl⟩ (zAl hF rfl) (zixA (j := 65 + 27 * a + 4 * b) (by omega)) (hT.1 (65 + 27 * a + 4 * b) (by omega)) ?_
  refine w_ireturn (pc' := 12) ⟨rfl, rfl⟩ (Or.inl rfl) ?_
  exact k
theorem r_ruleHas1 {σ : zSt} {t : zBk} (hF : zFx σ) (hT : zTr σ t) {a b : Nat} (ha : a < 4) (hb : b < 6) {Q : zSt → Option Value → Prop} (k : Q σ (some (.int (iZ (zRS t a b))))) : zCa 222 [.ref 164, .int (iZ a), .int (iZ b), .int (iZ 1)] σ Q := by
  refine w_enter (c := zk_X12_ruleHas) (ls2 := [(0, .ref 164), (1, .int (iZ a)), (2, .int (iZ b)), (3, .int (iZ 1))]) rfl ⟨rfl, rfl, rfl, rfl, trivial⟩ ?_
  refine w_aload_n (pc' := 1) ⟨rfl, rfl⟩ rfl ?_
  refine w_getR (pc' := 4) (cl := 10) (q := 13) ⟨rfl, rfl⟩ ⟨rfl, by decide⟩ (zOl hF rfl) (hF.2 164 13 169 rfl) ?_
  refine w_iload_n (pc' := 5) ⟨rfl, rfl⟩ rfl ?_
  refine w_iload_n (pc' := 6) ⟨rfl, rfl⟩ rfl ?_
  refine w_iload_n (pc' := 7) ⟨rfl, rfl⟩ rfl ?_
  refine w_cs3 (pc' := 10) ⟨rfl, rfl⟩ (by decide) (Nat.le_of_ble_eq_true rfl) (Nat.le_of_ble_eq_true rfl) (r_ruleAt ?_)
  refine w_iald (pc' := 11) ⟨rfl, rfl⟩ (zAl hF rfl) (zixA (j := 66 + 27 * a + 4 * b) (by omega)) (hT.1 (66 + 27 * a + 4 * b) (by omega)) ?_
  refine w_ireturn (pc' := 12) ⟨rfl, rfl⟩ (Or.inl rfl) ?_
  exact k
theorem r_ruleHas2 {σ : zSt} {t : zBk} (hF : zFx σ) (hT : zTr σ t) {a b : Nat} (ha : a < 4) (hb : b < 6) {Q : zSt → Option Value → Prop} (k : Q σ (some (.int (iZ (zR1 t a b))))) : zCa 222 [.ref 164, .int (iZ a), .int (iZ b), .int (iZ 2)] σ Q := by
  refine w_enter (c := zk_X12_ruleHas) (ls2 := [(0, .ref 164), (1, .int (iZ a)), (2, .int (iZ b)), (3, .int (iZ 2))]) rfl ⟨rfl, rfl, rfl, rfl, trivial⟩ ?_
  refine w_aload_n (pc' := 1) ⟨rfl, rfl⟩ rfl ?_
  refine w_getR (pc' := 4) (cl := 10) (q := 13) ⟨rfl, rfl⟩ ⟨rfl, by decide⟩ (zOl hF rfl) (hF.2 164 13 169 rfl) ?_
  refine w_iload_n (pc' := 5) ⟨rfl, rfl⟩ rfl ?_
  refine w_iload_n (pc' := 6) ⟨rfl, rfl⟩ rfl ?_
  refine w_iload_n (pc' := 7) ⟨rfl, rfl⟩ rfl ?_
  refine w_cs3 (pc' := 10) ⟨rfl, rfl⟩ (by decide) (Nat.le_of_ble_eq_true rfl) (Nat.le_of_ble_eq_true rfl) (r_ruleAt ?_)
  refine w_iald (pc' := 11) ⟨rfl, rfl⟩ (zAl hF rfl) (zixA (j := 67 + 27 * a + 4 * b) (by omega)) (hT.1 (67 + 27 * a + 4 * b) (by omega)) ?_
  refine w_ireturn (pc' := 12) ⟨rfl, rfl⟩ (Or.inl rfl) ?_
  exact k
theorem r_ruleHas3 {σ : zSt} {t : zBk} (hF : zFx σ) (hT : zTr σ t) {a b : Nat} (ha : a < 4) (hb : b < 6) {Q : zSt → Option Value → Prop} (k : Q σ (some (.int (iZ (zR2 t a b))))) : zCa 222 [.ref 164, .int (iZ a), .int (iZ b), .int (iZ 3)] σ Q := by
  refine w_enter (c := zk_X12_ruleHas) (ls2 := [(0, .ref 164), (1, .int (iZ a)), (2, .int (iZ b)), (3, .int (iZ 3))]) rfl ⟨rfl, rfl, rfl, rfl, trivial⟩ ?_
  refine w_aload_n (pc' := 1) ⟨rfl, rfl⟩ rfl ?_
  refine w_getR (pc' := 4) (cl := 10) (q := 13) ⟨rfl, rfl⟩ ⟨rfl, by decide⟩ (zOl hF rfl) (hF.2 164 13 169 rfl) ?_
  refine w_iload_n (pc' := 5) ⟨rfl, rfl⟩ rfl ?_
  refine w_iload_n (pc' := 6) ⟨rfl, rfl⟩ rfl ?_
  refine w_iload_n (pc' := 7) ⟨rfl, rfl⟩ rfl ?_
  refine w_cs3 (pc' := 10) ⟨rfl, rfl⟩ (by decide) (Nat.le_of_ble_eq_true rfl) (Nat.le_of_ble_eq_true rfl) (r_ruleAt ?_)
  refine w_iald (pc' := 11) ⟨rfl, rfl⟩ (zAl hF rfl) (zixA (j := 68 + 27 * a + 4 * b) (by omega)) (hT.1 (68 + 27 * a + 4 * b) (by omega)) ?_
  refine w_ireturn (pc' := 12) ⟨rfl, rfl⟩ (Or.inl rfl) ?_
  exact k
theorem r_isScheme {σ : zSt} {t : zBk} (hF : zFx σ) (hT : zTr σ t) (hV : (0 ≤ t 0 ∧ t 0 ≤ 3) ∧ (0 ≤ t 1 ∧ t 1 ≤ 4) ∧ (t 0 = 0 → t 1 = 0)) {z : Int} (hz : -2147483648 ≤ z ∧ z ≤ 2147483647) {Q : zSt → Option Value → Prop} (k1 : 0 ≤ z ∧ z < t 0 → Q σ (some (.int (iZ 1)))) (k0 : ¬ (0 ≤ z ∧ z < t 0) → Q σ (some (.int (iZ 0)))) : zCa 213 [.ref 164, .int (iZ z)] σ Q := by
  rcases zis_c hT with ⟨hi, hj⟩ | ⟨hi, hj⟩
  · refine w_enter (c := zk_X12_isScheme) (ls2 := [(0, .ref 164), (1, .int (iZ z))]) rfl ⟨rfl, rfl, trivial⟩ ?_
    refine w_aload_n (pc' := 1) ⟨rfl, rfl⟩ rfl ?_
    refine w_getZ (pc' := 4) (cl := 10) (q := 14) ⟨rfl, rfl⟩ ⟨rfl, by decide⟩ (zOl hF rfl) hj ?_
    refine w_ifT_eq (pc' := 7) (pcT := 29) ⟨rfl, rfl⟩ rfl (by decide) ?_
    refine w_ic (pc' := 30) ⟨rfl, rfl⟩ ?_
    refine w_ireturn (pc' := 31) ⟨rfl, rfl⟩ (by decide) ?_
    first | exact k1 (by omega) | exact k0 (by omega)
  · refine w_enter (c := zk_X12_isScheme) (ls2 := [(0, .ref 164), (1, .int (iZ z))]) rfl ⟨rfl, rfl, trivial⟩ ?_
    refine w_aload_n (pc' := 1) ⟨rfl, rfl⟩ rfl ?_
    refine w_getZ (pc' := 4) (cl := 10) (q := 14) ⟨rfl, rfl⟩ ⟨rfl, by decide⟩ (zOl hF rfl) hj ?_
    refine w_ifF_eq (pc' := 7) ⟨rfl, rfl⟩ (by decide) ?_
    refine w_iload_n (pc' := 8) ⟨rfl, rfl⟩ rfl ?_
    refine w_i2lZ (pc' := 9) ⟨rfl, rfl⟩ (by omega) ?_
    refine w_lc (pc' := 10) (z := 0) ⟨rfl, rfl⟩ rfl ?_
    refine w_aload_n (pc' := 11) ⟨rfl, rfl⟩ rfl ?_
    refine w_getR (pc' := 14) (cl := 10) (q := 13) ⟨rfl, rfl⟩ ⟨rfl, by decide⟩ (zOl hF rfl) (hF.2 164 13 169 rfl) ?_
    refine w_ic (pc' := 15) ⟨rfl, rfl⟩ ?_
    refine w_iald (pc' := 16) ⟨rfl, rfl⟩ (zAl hF rfl) (zixA (j := 0) (by omega)) (hT.1 0 (by omega)) ?_
    refine w_ic (pc' := 17) ⟨rfl, rfl⟩ ?_
    refine w_isubZ (pc' := 18) ⟨rfl, rfl⟩ ?_
    refine w_i2lZ (pc' := 19) ⟨rfl, rfl⟩ (by omega) ?_
    refine w_cs3 (pc' := 22) ⟨rfl, rfl⟩ (by decide) (Nat.le_of_ble_eq_true rfl) (Nat.le_of_ble_eq_true rfl) (r_isIn (by omega) (by omega) (by omega) (fun h => ?_) (fun h => ?_))
    · refine w_ifF_eq (pc' := 25) ⟨rfl, rfl⟩ (by decide) ?_
      refine w_ic (pc' := 26) ⟨rfl, rfl⟩ ?_
      refine w_goto (pc' := 29) (pcT := 30) ⟨rfl, rfl⟩ rfl ?_
      refine w_ireturn (pc' := 31) ⟨rfl, rfl⟩ (by decide) ?_
      first | exact k1 (by omega) | exact k0 (by omega)
    · refine w_ifT_eq (pc' := 25) (pcT := 29) ⟨rfl, rfl⟩ rfl (by decide) ?_
      refine w_ic (pc' := 30) ⟨rfl, rfl⟩ ?_
      refine w_ireturn (pc' := 31) ⟨rfl, rfl⟩ (by decide) ?_
      first | exact k1 (by omega) | exact k0 (by omega)
theorem r_isCrossing {σ : zSt} {t : zBk} (hF : zFx σ) (hT : zTr σ t) (hV : (0 ≤ t 0 ∧ t 0 ≤ 3) ∧ (0 ≤ t 1 ∧ t 1 ≤ 4) ∧ (t 0 = 0 → t 1 = 0)) {z : Int} (hz : -2147483648 ≤ z ∧ z ≤ 2147483647) {Q : zSt → Option Value → Prop} (k1 : 0 ≤ z ∧ z < t 1 → Q σ (some (.int (iZ 1)))) (k0 : ¬ (0 ≤ z ∧ z < t 1) → Q σ (some (.int (iZ 0)))) : zCa 218 [.ref 164, .int (iZ z)] σ Q := by
  rcases zis_c hT with ⟨hi, hj⟩ | ⟨hi, hj⟩
  · refine w_enter (c := zk_X12_isCrossing) (ls2 := [(0, .ref 164), (1, .int (iZ z))]) rfl ⟨rfl, rfl, trivial⟩ ?_
    refine w_aload_n (pc' := 1) ⟨rfl, rfl⟩ rfl ?_
    refine w_getZ (pc' := 4) (cl := 10) (q := 14) ⟨rfl, rfl⟩ ⟨rfl, by decide⟩ (zOl hF rfl) hj ?_
    refine w_ifT_eq (pc' := 7) (pcT := 29) ⟨rfl, rfl⟩ rfl (by decide) ?_
    refine w_ic (pc' := 30) ⟨rfl, rfl⟩ ?_
    refine w_ireturn (pc' := 31) ⟨rfl, rfl⟩ (by decide) ?_
    first | exact k1 (by omega) | exact k0 (by omega)
  · refine w_enter (c := zk_X12_isCrossing) (ls2 := [(0, .ref 164), (1, .int (iZ z))]) rfl ⟨rfl, rfl, trivial⟩ ?_
    refine w_aload_n (pc' := 1) ⟨rfl, rfl⟩ rfl ?_
    refine w_getZ (pc' := 4) (cl := 10) (q := 14) ⟨rfl, rfl⟩ ⟨rfl, by decide⟩ (zOl hF rfl) hj ?_
    refine w_ifF_eq (pc' := 7) ⟨rfl, rfl⟩ (by decide) ?_
    refine w_iload_n (pc' := 8) ⟨rfl, rfl⟩ rfl ?_
    refine w_i2lZ (pc' := 9) ⟨rfl, rfl⟩ (by omega) ?_
    refine w_lc (pc' := 10) (z := 0) ⟨rfl, rfl⟩ rfl ?_
    refine w_aload_n (pc' := 11) ⟨rfl, rfl⟩ rfl ?_
    refine w_getR (pc' := 14) (cl := 10) (q := 13) ⟨rfl, rfl⟩ ⟨rfl, by decide⟩ (zOl hF rfl) (hF.2 164 13 169 rfl) ?_
    refine w_ic (pc' := 15) ⟨rfl, rfl⟩ ?_
    refine w_iald (pc' := 16) ⟨rfl, rfl⟩ (zAl hF rfl) (zixA (j := 1) (by omega)) (hT.1 1 (by omega)) ?_
    refine w_ic (pc' := 17) ⟨rfl, rfl⟩ ?_
    refine w_isubZ (pc' := 18) ⟨rfl, rfl⟩ ?_
    refine w_i2lZ (pc' := 19) ⟨rfl, rfl⟩ (by omega) ?_
    refine w_cs3 (pc' := 22) ⟨rfl, rfl⟩ (by decide) (Nat.le_of_ble_eq_true rfl) (Nat.le_of_ble_eq_true rfl) (r_isIn (by omega) (by omega) (by omega) (fun h => ?_) (fun h => ?_))
    · refine w_ifF_eq (pc' := 25) ⟨rfl, rfl⟩ (by decide) ?_
      refine w_ic (pc' := 26) ⟨rfl, rfl⟩ ?_
      refine w_goto (pc' := 29) (pcT := 30) ⟨rfl, rfl⟩ rfl ?_
      refine w_ireturn (pc' := 31) ⟨rfl, rfl⟩ (by decide) ?_
      first | exact k1 (by omega) | exact k0 (by omega)
    · refine w_ifT_eq (pc' := 25) (pcT := 29) ⟨rfl, rfl⟩ rfl (by decide) ?_
      refine w_ic (pc' := 30) ⟨rfl, rfl⟩ ?_
      refine w_ireturn (pc' := 31) ⟨rfl, rfl⟩ (by decide) ?_
      first | exact k1 (by omega) | exact k0 (by omega)
theorem r_isField {σ : zSt} {t : zBk} (hF : zFx σ) (hT : zTr σ t) (hV : (0 ≤ t 0 ∧ t 0 ≤ 3) ∧ (0 ≤ t 1 ∧ t 1 ≤ 4) ∧ (t 0 = 0 → t 1 = 0)) (hN : ∀ s : Nat, s < t 0 → 0 ≤ zNF t s ∧ zNF t s ≤ 6) {z f : Int} (hz : -2147483648 ≤ z ∧ z ≤ 2147483647) (hf : -2147483648 ≤ f ∧ f ≤ 2147483647) {Q : zSt → Option Value → Prop} (k1 : 0 ≤ z ∧ z < t 0 ∧ 0 ≤ f ∧ f < zNF t z.toNat → Q σ (some (.int (iZ 1)))) (k0 : ¬ (0 ≤ z ∧ z < t 0 ∧ 0 ≤ f ∧ f < zNF t z.toNat) → Q σ (some (.int (iZ 0)))) : zCa 215 [.ref 164, .int (iZ z), .int (iZ f)] σ Q := by
  refine w_enter (c := zk_X12_isField) (ls2 := [(0, .ref 164), (1, .int (iZ z)), (2, .int (iZ f))]) rfl ⟨rfl, rfl, rfl, trivial⟩ ?_
  refine w_aload_n (pc' := 1) ⟨rfl, rfl⟩ rfl ?_
  refine w_iload_n (pc' := 2) ⟨rfl, rfl⟩ rfl ?_
  refine w_cv2 (pc' := 5) ⟨rfl, rfl⟩ (by decide) (zOl hF rfl) (Nat.le_of_ble_eq_true rfl) (Nat.le_of_ble_eq_true rfl) (r_isScheme hF hT hV (by omega) (fun h => ?_) (fun h => ?_))
  · obtain ⟨z, rfl⟩ : ∃ q : Nat, z = q := ⟨z.toNat, by omega⟩
    simp only [Int.toNat_natCast] at k1 k0
    have hq := hN z (by omega)
    refine w_ifF_eq (pc' := 8) ⟨rfl, rfl⟩ (by decide) ?_
    refine w_iload_n (pc' := 9) ⟨rfl, rfl⟩ rfl ?_
    refine w_i2lZ (pc' := 10) ⟨rfl, rfl⟩ (by omega) ?_
    refine w_lc (pc' := 11) (z := 0) ⟨rfl, rfl⟩ rfl ?_
    refine w_aload_n (pc' := 12) ⟨rfl, rfl⟩ rfl ?_
    refine w_iload_n (pc' := 13) ⟨rfl, rfl⟩ rfl ?_
    refine w_cv2 (pc' := 16) ⟨rfl, rfl⟩ (by decide) (zOl hF rfl) (Nat.le_of_ble_eq_true rfl) (Nat.le_of_ble_eq_true rfl) (r_fieldMany hF hT (by omega) ?_)
    refine w_ic (pc' := 17) ⟨rfl, rfl⟩ ?_
    refine w_isubZ (pc' := 18) ⟨rfl, rfl⟩ ?_
    refine w_i2lZ (pc' := 19) ⟨rfl, rfl⟩ (by omega) ?_
    refine w_cs3 (pc' := 22) ⟨rfl, rfl⟩ (by decide) (Nat.le_of_ble_eq_true rfl) (Nat.le_of_ble_eq_true rfl) (r_isIn (by omega) (by omega) (by omega) (fun h => ?_) (fun h => ?_))
    · refine w_ifF_eq (pc' := 25) ⟨rfl, rfl⟩ (by decide) ?_
      refine w_ic (pc' := 26) ⟨rfl, rfl⟩ ?_
      refine w_goto (pc' := 29) (pcT := 30) ⟨rfl, rfl⟩ rfl ?_
      refine w_ireturn (pc' := 31) ⟨rfl, rfl⟩ (by decide) ?_
      first | exact k1 (by omega) | exact k0 (by omega)
    · refine w_ifT_eq (pc' := 25) (pcT := 29) ⟨rfl, rfl⟩ rfl (by decide) ?_
      refine w_ic (pc' := 30) ⟨rfl, rfl⟩ ?_
      refine w_ireturn (pc' := 31) ⟨rfl, rfl⟩ (by decide) ?_
      first | exact k1 (by omega) | exact k0 (by omega)
  · refine w_ifT_eq (pc' := 8) (pcT := 29) ⟨rfl, rfl⟩ rfl (by decide) ?_
    refine w_ic (pc' := 30) ⟨rfl, rfl⟩ ?_
    refine w_ireturn (pc' := 31) ⟨rfl, rfl⟩ (by decide) ?_
    first | exact k1 (by omega) | exact k0 (by omega)
theorem r_recordMany {σ : zSt} {c : Nat → Int} (hF : zFx σ) (hC : zCm σ c) {s : Nat} (hs : s < 3) {Q : zSt → Option Value → Prop} (k : Q σ (some (.int (iZ (c s))))) : zCa 224 [.ref 164, .int (iZ s)] σ Q := by
  refine w_enter (c := zk_X12_recordMany) (ls2 := [(0, .ref 164), (1, .int (iZ s))]) rfl ⟨rfl, rfl, trivial⟩ ?_
  refine w_aload_n (pc' := 1) ⟨rfl, rfl⟩ rfl ?_
  refine w_getR (pc' := 4) (cl := 10) (q := 16) ⟨rfl, rfl⟩ ⟨rfl, by decide⟩ (zOl hF rfl) (hF.2 164 16 170 rfl) ?_
  refine w_iload_n (pc' := 5) ⟨rfl, rfl⟩ rfl ?_
  refine w_lald (pc' := 6) ⟨rfl, rfl⟩ (zAl hF rfl) (zixZ (by omega)) (hC s hs).1 ?_
  refine w_l2iY (pc' := 7) ⟨rfl, rfl⟩ ?_
  refine w_ireturn (pc' := 8) ⟨rfl, rfl⟩ (Or.inl rfl) ?_
  exact k
theorem r_isRecord {σ : zSt} {t : zBk} (hF : zFx σ) (hT : zTr σ t) (hV : (0 ≤ t 0 ∧ t 0 ≤ 3) ∧ (0 ≤ t 1 ∧ t 1 ≤ 4) ∧ (t 0 = 0 → t 1 = 0)) {c : Nat → Int} (hC : zCm σ c) {z r : Int} (hz : -2147483648 ≤ z ∧ z ≤ 2147483647) (hr : -2147483648 ≤ r ∧ r ≤ 2147483647) {Q : zSt → Option Value → Prop} (k1 : 0 ≤ z ∧ z < t 0 ∧ 0 ≤ r ∧ r < c z.toNat → Q σ (some (.int (iZ 1)))) (k0 : ¬ (0 ≤ z ∧ z < t 0 ∧ 0 ≤ r ∧ r < c z.toNat) → Q σ (some (.int (iZ 0)))) : zCa 225 [.ref 164, .int (iZ z), .int (iZ r)] σ Q := by
  refine w_enter (c := zk_X12_isRecord) (ls2 := [(0, .ref 164), (1, .int (iZ z)), (2, .int (iZ r))]) rfl ⟨rfl, rfl, rfl, trivial⟩ ?_
  refine w_aload_n (pc' := 1) ⟨rfl, rfl⟩ rfl ?_
  refine w_iload_n (pc' := 2) ⟨rfl, rfl⟩ rfl ?_
  refine w_cv2 (pc' := 5) ⟨rfl, rfl⟩ (by decide) (zOl hF rfl) (Nat.le_of_ble_eq_true rfl) (Nat.le_of_ble_eq_true rfl) (r_isScheme hF hT hV (by omega) (fun h => ?_) (fun h => ?_))
  · obtain ⟨z, rfl⟩ : ∃ q : Nat, z = q := ⟨z.toNat, by omega⟩
    simp only [Int.toNat_natCast] at k1 k0
    have hq := (hC z (by omega)).2
    refine w_ifF_eq (pc' := 8) ⟨rfl, rfl⟩ (by decide) ?_
    refine w_iload_n (pc' := 9) ⟨rfl, rfl⟩ rfl ?_
    refine w_i2lZ (pc' := 10) ⟨rfl, rfl⟩ (by omega) ?_
    refine w_lc (pc' := 11) (z := 0) ⟨rfl, rfl⟩ rfl ?_
    refine w_aload_n (pc' := 12) ⟨rfl, rfl⟩ rfl ?_
    refine w_iload_n (pc' := 13) ⟨rfl, rfl⟩ rfl ?_
    refine w_cv2 (pc' := 16) ⟨rfl, rfl⟩ (by decide) (zOl hF rfl) (Nat.le_of_ble_eq_true rfl) (Nat.le_of_ble_eq_true rfl) (r_recordMany hF hC (by omega) ?_)
    refine w_ic (pc' := 17) ⟨rfl, rfl⟩ ?_
    refine w_isubZ (pc' := 18) ⟨rfl, rfl⟩ ?_
    refine w_i2lZ (pc' := 19) ⟨rfl, rfl⟩ (by omega) ?_
    refine w_cs3 (pc' := 22) ⟨rfl, rfl⟩ (by decide) (Nat.le_of_ble_eq_true rfl) (Nat.le_of_ble_eq_true rfl) (r_isIn (by omega) (by omega) (by omega) (fun h => ?_) (fun h => ?_))
    · refine w_ifF_eq (pc' := 25) ⟨rfl, rfl⟩ (by decide) ?_
      refine w_ic (pc' := 26) ⟨rfl, rfl⟩ ?_
      refine w_goto (pc' := 29) (pcT := 30) ⟨rfl, rfl⟩ rfl ?_
      refine w_ireturn (pc' := 31) ⟨rfl, rfl⟩ (by decide) ?_
      first | exact k1 (by omega) | exact k0 (by omega)
    · refine w_ifT_eq (pc' := 25) (pcT := 29) ⟨rfl, rfl⟩ rfl (by decide) ?_
      refine w_ic (pc' := 30) ⟨rfl, rfl⟩ ?_
      refine w_ireturn (pc' := 31) ⟨rfl, rfl⟩ (by decide) ?_
      first | exact k1 (by omega) | exact k0 (by omega)
  · refine w_ifT_eq (pc' := 8) (pcT := 29) ⟨rfl, rfl⟩ rfl (by decide) ?_
    refine w_ic (pc' := 30) ⟨rfl, rfl⟩ ?_
    refine w_ireturn (pc' := 31) ⟨rfl, rfl⟩ (by decide) ?_
    first | exact k1 (by omega) | exact k0 (by omega)
theorem r_wordOf {σ : zSt} {x : Int64} {Q : zSt → Option Value → Prop} (k : Q σ (some (.long (if x = lZ (-1) then lZ 0 else x)))) : zCa 239 [.long x] σ Q := by
  refine w_enter (c := zk_X12_wordOf) (ls2 := [(0, .long x)]) rfl ⟨rfl, trivial⟩ ?_
  refine w_lload_n (pc' := 1) ⟨rfl, rfl⟩ rfl ?_
  refine w_ldc2Y (pc' := 4) (z := -1) ⟨rfl, rfl⟩ rfl ?_
  refine w_lcmp (pc' := 5) ⟨rfl, rfl⟩ ?_
  refine w_ifc_ne (pc' := 8) (pcT := 12) ⟨rfl, rfl⟩ rfl (fun h1 => ?_) (fun h1 => ?_)
  · refine w_lload_n (pc' := 13) ⟨rfl, rfl⟩ rfl ?_
    refine w_lreturn (pc' := 14) ⟨rfl, rfl⟩ ?_
    first | (rw [if_pos h1] at k; exact k) | (rw [if_neg h1] at k; exact k)
  · refine w_lc (pc' := 9) (z := 0) ⟨rfl, rfl⟩ rfl ?_
    refine w_goto (pc' := 12) (pcT := 13) ⟨rfl, rfl⟩ rfl ?_
    refine w_lreturn (pc' := 14) ⟨rfl, rfl⟩ ?_
    first | (rw [if_pos h1] at k; exact k) | (rw [if_neg h1] at k; exact k)
theorem r_cellAt {σ : zSt} {t : zBk} (hF : zFx σ) (hT : zTr σ t) {s f r i : Nat} (hs : s < 3) (hf : f < 6) (hr : r < 8) (hce : 1 ≤ zCE t s f ∧ zCE t s f ≤ 4) (hi : (i : Int) < zCE t s f) {Q : zSt → Option Value → Prop} (k : Q σ (some (.long (zL σ 170 (zpr t s f r i))))) : zCa 264 [.ref 164, .int (iZ s), .int (iZ f), .int (iZ r), .int (iZ i)] σ Q := by
  refine w_enter (c := zk_X12_cellAt) (ls2 := [(0, .ref 164), (1, .int (iZ s)), (2, .int (iZ f)), (3, .int (iZ r)), (4, .int (iZ i))]) rfl ⟨rfl, rfl, rfl, rfl, rfl, trivial⟩ ?_
  refine w_aload_n (pc' := 1) ⟨rfl, rfl⟩ rfl ?_
  refine w_getR (pc' := 4) (cl := 10) (q := 16) ⟨rfl, rfl⟩ ⟨rfl, by decide⟩ (zOl hF rfl) (hF.2 164 16 170 rfl) ?_
  refine w_iload_n (pc' := 5) ⟨rfl, rfl⟩ rfl ?_
  refine w_iload_n (pc' := 6) ⟨rfl, rfl⟩ rfl ?_
  refine w_aload_n (pc' := 7) ⟨rfl, rfl⟩ rfl ?_
  refine w_iload_n (pc' := 8) ⟨rfl, rfl⟩ rfl ?_
  refine w_iload_n (pc' := 9) ⟨rfl, rfl⟩ rfl ?_
  refine w_cv3 (pc' := 12) ⟨rfl, rfl⟩ (by decide) (zOl hF rfl) (Nat.le_of_ble_eq_true rfl) (Nat.le_of_ble_eq_true rfl) (r_cellsOf hF hT (by omega) (by omega) ?_)
  have hmm : ((zCE t s f).toNat : Int) * r = zCE t s f * r := by rw [Int.toNat_of_nonneg (by omega)]
  have hm2 : ((zCE t s f).toNat * r : Nat) = (((zCE t s f).toNat : Int) * r) := by omega
  have hm3 : 0 ≤ zCE t s f * (r : Int) := Int.mul_nonneg (by omega) (by omega)
  have hm4 : zCE t s f * (r : Int) ≤ zCE t s f * 7 := Int.mul_le_mul_of_nonneg_left (by omega) (by omega)
  refine w_iload_n (pc' := 13) ⟨rfl, rfl⟩ rfl ?_
  refine w_imulZ (pc' := 14) ⟨rfl, rfl⟩ ?_
  refine w_iload (pc' := 16) ⟨rfl, rfl⟩ rfl ?_
  refine w_iaddZ (pc' := 17) ⟨rfl, rfl⟩ ?_
  refine w_cs3 (pc' := 20) ⟨rfl, rfl⟩ (by decide) (Nat.le_of_ble_eq_true rfl) (Nat.le_of_ble_eq_true rfl) (r_placeAt ?_)
  refine w_lald (pc' := 21) ⟨rfl, rfl⟩ (zAl hF rfl) (zixA (j := zpr t s f r i) (by unfold zpr; omega)) rfl ?_
  refine w_lreturn (pc' := 22) ⟨rfl, rfl⟩ ?_
  exact k
theorem r_valueAt {σ : zSt} {t : zBk} (hF : zFx σ) (hT : zTr σ t) {s f r i : Nat} (hs : s < 3) (hf : f < 6) (hr : r < 8) (hce : 1 ≤ zCE t s f ∧ zCE t s f ≤ 4) (hi : (i : Int) < zCE t s f) (hkd : 0 ≤ zKD t s f ∧ zKD t s f ≤ 8) {Q : zSt → Option Value → Prop} (k : Q σ (some (.long (zvl (zKD t s f) (zL σ 170 (zpr t s f r i)))))) : zCa 265 [.ref 164, .int (iZ s), .int (iZ f), .int (iZ r), .int (iZ i)] σ Q := by
  refine w_enter (c := zk_X12_valueAt) (ls2 := [(0, .ref 164), (1, .int (iZ s)), (2, .int (iZ f)), (3, .int (iZ r)), (4, .int (iZ i))]) rfl ⟨rfl, rfl, rfl, rfl, rfl, trivial⟩ ?_
  refine w_aload_n (pc' := 1) ⟨rfl, rfl⟩ rfl ?_
  refine w_iload_n (pc' := 2) ⟨rfl, rfl⟩ rfl ?_
  refine w_iload_n (pc' := 3) ⟨rfl, rfl⟩ rfl ?_
  refine w_iload_n (pc' := 4) ⟨rfl, rfl⟩ rfl ?_
  refine w_iload (pc' := 6) ⟨rfl, rfl⟩ rfl ?_
  refine w_cv5 (pc' := 9) ⟨rfl, rfl⟩ (by decide) (zOl hF rfl) (Nat.le_of_ble_eq_true rfl) (Nat.le_of_ble_eq_true rfl) (r_cellAt hF hT hs (by omega) (by omega) (by omega) (by omega) ?_)
  refine w_lstore (pc' := 11) ⟨rfl, rfl⟩ rfl rfl ?_
  refine w_aload_n (pc' := 12) ⟨rfl, rfl⟩ rfl ?_
  refine w_iload_n (pc' := 13) ⟨rfl, rfl⟩ rfl ?_
  refine w_iload_n (pc' := 14) ⟨rfl, rfl⟩ rfl ?_
  refine w_cv3 (pc' := 17) ⟨rfl, rfl⟩ (by decide) (zOl hF rfl) (Nat.le_of_ble_eq_true rfl) (Nat.le_of_ble_eq_true rfl) (r_kindOf hF hT (by omega) (by omega) ?_)
  refine w_bi (pc' := 19) ⟨rfl, rfl⟩ (by decide) ?_
  refine w_ic_ne (pc' := 22) (pcT := 30) ⟨rfl, rfl⟩ rfl (by omega) (by omega) (fun h1 => ?_) (fun h1 => ?_)
  · refine w_lload (pc' := 32) ⟨rfl, rfl⟩ rfl ?_
    refine w_lreturn (pc' := 33) ⟨rfl, rfl⟩ ?_
    first | (rw [zvl, if_neg (by omega)] at k; exact k) | (unfold zvl at k; simp only [h1, true_and] at k; exact k)
  · refine w_lload (pc' := 24) ⟨rfl, rfl⟩ rfl ?_
    refine w_cs1 (pc' := 27) ⟨rfl, rfl⟩ (by decide) (Nat.le_of_ble_eq_true rfl) (Nat.le_of_ble_eq_true rfl) (r_wordOf ?_)
    refine w_goto (pc' := 30) (pcT := 32) ⟨rfl, rfl⟩ rfl ?_
    refine w_lreturn (pc' := 33) ⟨rfl, rfl⟩ ?_
    first | (rw [zvl, if_neg (by omega)] at k; exact k) | (unfold zvl at k; simp only [h1, true_and] at k; exact k)
theorem r_isAside {σ : zSt} {a b : Int} (ha : -2147483648 ≤ a ∧ a ≤ 2147483647) (hb : -2147483648 ≤ b ∧ b ≤ 2147483647) {Q : zSt → Option Value → Prop} (k1 : (a = 4 ∧ b = 6) ∨ (a = 5 ∧ (b = 6 ∨ b = 7)) → Q σ (some (.int (iZ 1)))) (k0 : ¬ ((a = 4 ∧ b = 6) ∨ (a = 5 ∧ (b = 6 ∨ b = 7))) → Q σ (some (.int (iZ 0)))) : zCa 293 [.int (iZ a), .int (iZ b)] σ Q := by
  refine w_enter (c := zk_X12_isAside) (ls2 := [(0, .int (iZ a)), (1, .int (iZ b))]) rfl ⟨rfl, rfl, trivial⟩ ?_
  refine w_iload_n (pc' := 1) ⟨rfl, rfl⟩ rfl ?_
  refine w_ic (pc' := 2) ⟨rfl, rfl⟩ ?_
  refine w_ic_ne (pc' := 5) (pcT := 11) ⟨rfl, rfl⟩ rfl (by omega) (by omega) (fun h1 => ?_) (fun h1 => ?_)
  · refine w_iload_n (pc' := 12) ⟨rfl, rfl⟩ rfl ?_
    refine w_ic (pc' := 13) ⟨rfl, rfl⟩ ?_
    refine w_ic_ne (pc' := 16) (pcT := 32) ⟨rfl, rfl⟩ rfl (by omega) (by omega) (fun h2 => ?_) (fun h2 => ?_)
    · refine w_ic (pc' := 33) ⟨rfl, rfl⟩ ?_
      refine w_ireturn (pc' := 34) ⟨rfl, rfl⟩ (by decide) ?_
      first | exact k1 (by omega) | exact k0 (by omega)
    · refine w_iload_n (pc' := 17) ⟨rfl, rfl⟩ rfl ?_
      refine w_bi (pc' := 19) ⟨rfl, rfl⟩ (by decide) ?_
      refine w_ic_eq (pc' := 22) (pcT := 28) ⟨rfl, rfl⟩ rfl (by omega) (by omega) (fun h3 => ?_) (fun h3 => ?_)
      · refine w_ic (pc' := 29) ⟨rfl, rfl⟩ ?_
        refine w_goto (pc' := 32) (pcT := 33) ⟨rfl, rfl⟩ rfl ?_
        refine w_ireturn (pc' := 34) ⟨rfl, rfl⟩ (by decide) ?_
        first | exact k1 (by omega) | exact k0 (by omega)
      · refine w_iload_n (pc' := 23) ⟨rfl, rfl⟩ rfl ?_
        refine w_bi (pc' := 25) ⟨rfl, rfl⟩ (by decide) ?_
        refine w_ic_ne (pc' := 28) (pcT := 32) ⟨rfl, rfl⟩ rfl (by omega) (by omega) (fun h4 => ?_) (fun h4 => ?_)
        · refine w_ic (pc' := 33) ⟨rfl, rfl⟩ ?_
          refine w_ireturn (pc' := 34) ⟨rfl, rfl⟩ (by decide) ?_
          first | exact k1 (by omega) | exact k0 (by omega)
        · refine w_ic (pc' := 29) ⟨rfl, rfl⟩ ?_
          refine w_goto (pc' := 32) (pcT := 33) ⟨rfl, rfl⟩ rfl ?_
          refine w_ireturn (pc' := 34) ⟨rfl, rfl⟩ (by decide) ?_
          first | exact k1 (by omega) | exact k0 (by omega)
  · refine w_iload_n (pc' := 6) ⟨rfl, rfl⟩ rfl ?_
    refine w_bi (pc' := 8) ⟨rfl, rfl⟩ (by decide) ?_
    refine w_ic_eq (pc' := 11) (pcT := 28) ⟨rfl, rfl⟩ rfl (by omega) (by omega) (fun h2 => ?_) (fun h2 => ?_)
    · refine w_ic (pc' := 29) ⟨rfl, rfl⟩ ?_
      refine w_goto (pc' := 32) (pcT := 33) ⟨rfl, rfl⟩ rfl ?_
      refine w_ireturn (pc' := 34) ⟨rfl, rfl⟩ (by decide) ?_
      first | exact k1 (by omega) | exact k0 (by omega)
    · refine w_iload_n (pc' := 12) ⟨rfl, rfl⟩ rfl ?_
      refine w_ic (pc' := 13) ⟨rfl, rfl⟩ ?_
      refine w_ic_ne (pc' := 16) (pcT := 32) ⟨rfl, rfl⟩ rfl (by omega) (by omega) (fun h3 => ?_) (fun h3 => ?_)
      · refine w_ic (pc' := 33) ⟨rfl, rfl⟩ ?_
        refine w_ireturn (pc' := 34) ⟨rfl, rfl⟩ (by decide) ?_
        first | exact k1 (by omega) | exact k0 (by omega)
      · refine w_iload_n (pc' := 17) ⟨rfl, rfl⟩ rfl ?_
        refine w_bi (pc' := 19) ⟨rfl, rfl⟩ (by decide) ?_
        refine w_ic_eq (pc' := 22) (pcT := 28) ⟨rfl, rfl⟩ rfl (by omega) (by omega) (fun h4 => ?_) (fun h4 => ?_)
        · refine w_ic (pc' := 29) ⟨rfl, rfl⟩ ?_
          refine w_goto (pc' := 32) (pcT := 33) ⟨rfl, rfl⟩ rfl ?_
          refine w_ireturn (pc' := 34) ⟨rfl, rfl⟩ (by decide) ?_
          first | exact k1 (by omega) | exact k0 (by omega)
        · refine w_iload_n (pc' := 23) ⟨rfl, rfl⟩ rfl ?_
          refine w_bi (pc' := 25) ⟨rfl, rfl⟩ (by decide) ?_
          refine w_ic_ne (pc' := 28) (pcT := 32) ⟨rfl, rfl⟩ rfl (by omega) (by omega) (fun h5 => ?_) (fun h5 => ?_)
          · refine w_ic (pc' := 33) ⟨rfl, rfl⟩ ?_
            refine w_ireturn (pc' := 34) ⟨rfl, rfl⟩ (by decide) ?_
            first | exact k1 (by omega) | exact k0 (by omega)
          · refine w_ic (pc' := 29) ⟨rfl, rfl⟩ ?_
            refine w_goto (pc' := 32) (pcT := 33) ⟨rfl, rfl⟩ rfl ?_
            refine w_ireturn (pc' := 34) ⟨rfl, rfl⟩ (by decide) ?_
            first | exact k1 (by omega) | exact k0 (by omega)
theorem r_doesWiden {σ : zSt} (hF : zFx σ) (hW : zWid σ) {a b : Nat} (ha : a ≤ 8) (hb : b ≤ 8) {Q : zSt → Option Value → Prop} (k1 : zgi a b → Q σ (some (.int (iZ 1)))) (k0 : ¬ zgi a b → Q σ (some (.int (iZ 0)))) : zCa 232 [.ref 164, .int (iZ a), .int (iZ b)] σ Q := by
  refine w_enter (c := zk_X12_doesWiden) (ls2 := [(0, .ref 164), (1, .int (iZ a)), (2, .int (iZ b))]) rfl ⟨rfl, rfl, rfl, trivial⟩ ?_
  refine w_aload_n (pc' := 1) ⟨rfl, rfl⟩ rfl ?_
  refine w_getR (pc' := 4) (cl := 10) (q := 17) ⟨rfl, rfl⟩ ⟨rfl, by decide⟩ (zOl hF rfl) (hF.2 164 17 171 rfl) ?_
  refine w_bi (pc' := 6) ⟨rfl, rfl⟩ (by decide) ?_
  refine w_iload_n (pc' := 7) ⟨rfl, rfl⟩ rfl ?_
  refine w_imulZ (pc' := 8) ⟨rfl, rfl⟩ ?_
  refine w_iload_n (pc' := 9) ⟨rfl, rfl⟩ rfl ?_
  refine w_iaddZ (pc' := 10) ⟨rfl, rfl⟩ ?_
  refine w_iald (pc' := 11) ⟨rfl, rfl⟩ (zAl hF rfl) (zixA (j := 9 * a + b) (by omega)) (hW a b ha hb) ?_
  refine w_ic (pc' := 12) ⟨rfl, rfl⟩ ?_
  refine w_ic_ne (pc' := 15) (pcT := 19) ⟨rfl, rfl⟩ rfl (by first | omega | (split <;> omega)) (by first | omega | (split <;> omega)) (fun h1 => ?_) (fun h1 => ?_)
  · refine w_ic (pc' := 20) ⟨rfl, rfl⟩ ?_
    refine w_ireturn (pc' := 21) ⟨rfl, rfl⟩ (by decide) ?_
    first | exact k1 (Classical.byContradiction fun q => by rw [if_neg q] at h1; omega) | exact k0 (fun q => by rw [if_pos q] at h1; omega)
  · refine w_ic (pc' := 16) ⟨rfl, rfl⟩ ?_
    refine w_goto (pc' := 19) (pcT := 20) ⟨rfl, rfl⟩ rfl ?_
    refine w_ireturn (pc' := 21) ⟨rfl, rfl⟩ (by decide) ?_
    first | exact k1 (Classical.byContradiction fun q => by rw [if_neg q] at h1; omega) | exact k0 (fun q => by rw [if_pos q] at h1; omega)
theorem r_targetKind {σ : zSt} {t : zBk} (hF : zFx σ) (hT : zTr σ t) (hVt : zVt t) {c r : Nat} (hc : (c : Int) < t 1) (hr : (r : Int) < zNU t c) {Q : zSt → Option Value → Prop} (k : Q σ (some (.int (iZ (zTK t c r))))) : zCa 250 [.ref 164, .int (iZ c), .int (iZ r)] σ Q := by
  refine w_enter (c := zk_X12_targetKind) (ls2 := [(0, .ref 164), (1, .int (iZ c)), (2, .int (iZ r))]) rfl ⟨rfl, rfl, rfl, trivial⟩ ?_
  obtain ⟨hv0, hv1, hvs, hvc⟩ := hVt
  obtain ⟨hfo, hto, hne, hnu, hvr, hin⟩ := hvc c hc
  obtain ⟨hrt, hrs, hr1, hr4, hr3, hr12, hr2, hr0, hrk⟩ := hvr r hr
  obtain ⟨f0, hf0⟩ : ∃ q : Nat, zFO t c = q := ⟨(zFO t c).toNat, by omega⟩
  obtain ⟨t0, ht0⟩ : ∃ q : Nat, zTO t c = q := ⟨(zTO t c).toNat, by omega⟩
  have hvf := (hvs f0 (by omega)).1
  have hvt := (hvs t0 (by omega)).1
  have hnf := hvf.1
  have hnt := hvt.1
  have ef : (zFO t c).toNat = f0 := by omega
  have et : (zTO t c).toNat = t0 := by omega
  rw [ef] at hr1 hr3 hrk
  rw [et] at hrt hr4
  obtain ⟨g, hg⟩ : ∃ q : Nat, zRT t c r = q := ⟨(zRT t c r).toNat, by omega⟩
  have eg : (zRT t c r).toNat = g := by omega
  rw [eg] at hr4
  refine w_aload_n (pc' := 1) ⟨rfl, rfl⟩ rfl ?_
  refine w_aload_n (pc' := 2) ⟨rfl, rfl⟩ rfl ?_
  refine w_iload_n (pc' := 3) ⟨rfl, rfl⟩ rfl ?_
  refine w_cv2 (pc' := 6) ⟨rfl, rfl⟩ (by decide) (zOl hF rfl) (Nat.le_of_ble_eq_true rfl) (Nat.le_of_ble_eq_true rfl) (r_toOf hF hT (by omega) ?_)
  rw [ht0]
  refine w_aload_n (pc' := 7) ⟨rfl, rfl⟩ rfl ?_
  refine w_iload_n (pc' := 8) ⟨rfl, rfl⟩ rfl ?_
  refine w_iload_n (pc' := 9) ⟨rfl, rfl⟩ rfl ?_
  refine w_ic (pc' := 10) ⟨rfl, rfl⟩ ?_
  refine w_cv4 (pc' := 13) ⟨rfl, rfl⟩ (by decide) (zOl hF rfl) (Nat.le_of_ble_eq_true rfl) (Nat.le_of_ble_eq_true rfl) (r_ruleHas0 hF hT (by omega) (by omega) ?_)
  rw [hg]
  refine w_cv3 (pc' := 16) ⟨rfl, rfl⟩ (by decide) (zOl hF rfl) (Nat.le_of_ble_eq_true rfl) (Nat.le_of_ble_eq_true rfl) (r_kindOf hF hT (by omega) (by omega) ?_)
  refine w_ireturn (pc' := 17) ⟨rfl, rfl⟩ (Or.inl rfl) ?_
  exact zQi k (by unfold zTK; rw [et, eg])
theorem r_madeKind {σ : zSt} {t : zBk} (hF : zFx σ) (hT : zTr σ t) (hVt : zVt t) {c r : Nat} (hc : (c : Int) < t 1) (hr : (r : Int) < zNU t c) {Q : zSt → Option Value → Prop} (k : Q σ (some (.int (iZ (zMK t c r))))) : zCa 249 [.ref 164, .int (iZ c), .int (iZ r)] σ Q := by
  refine w_enter (c := zk_X12_madeKind) (ls2 := [(0, .ref 164), (1, .int (iZ c)), (2, .int (iZ r))]) rfl ⟨rfl, rfl, rfl, trivial⟩ ?_
  obtain ⟨hv0, hv1, hvs, hvc⟩ := hVt
  obtain ⟨hfo, hto, hne, hnu, hvr, hin⟩ := hvc c hc
  obtain ⟨hrt, hrs, hr1, hr4, hr3, hr12, hr2, hr0, hrk⟩ := hvr r hr
  obtain ⟨f0, hf0⟩ : ∃ q : Nat, zFO t c = q := ⟨(zFO t c).toNat, by omega⟩
  obtain ⟨t0, ht0⟩ : ∃ q : Nat, zTO t c = q := ⟨(zTO t c).toNat, by omega⟩
  have hvf := (hvs f0 (by omega)).1
  have hvt := (hvs t0 (by omega)).1
  have hnf := hvf.1
  have hnt := hvt.1
  have ef : (zFO t c).toNat = f0 := by omega
  have et : (zTO t c).toNat = t0 := by omega
  rw [ef] at hr1 hr3 hrk
  rw [et] at hrt hr4
  obtain ⟨g, hg⟩ : ∃ q : Nat, zRT t c r = q := ⟨(zRT t c r).toNat, by omega⟩
  have eg : (zRT t c r).toNat = g := by omega
  rw [eg] at hr4
  refine w_aload_n (pc' := 1) ⟨rfl, rfl⟩ rfl ?_
  refine w_iload_n (pc' := 2) ⟨rfl, rfl⟩ rfl ?_
  refine w_iload_n (pc' := 3) ⟨rfl, rfl⟩ rfl ?_
  refine w_ic (pc' := 4) ⟨rfl, rfl⟩ ?_
  refine w_cv4 (pc' := 7) ⟨rfl, rfl⟩ (by decide) (zOl hF rfl) (Nat.le_of_ble_eq_true rfl) (Nat.le_of_ble_eq_true rfl) (r_ruleHas1 hF hT (by omega) (by omega) ?_)
  refine w_istore_n (pc' := 8) ⟨rfl, rfl⟩ rfl ?_
  refine w_iload_n (pc' := 9) ⟨rfl, rfl⟩ rfl ?_
  refine w_ic (pc' := 10) ⟨rfl, rfl⟩ ?_
  refine w_ic_ne (pc' := 13) (pcT := 15) ⟨rfl, rfl⟩ rfl (by omega) (by omega) (fun h1 => ?_) (fun h1 => ?_)
  · refine w_aload_n (pc' := 16) ⟨rfl, rfl⟩ rfl ?_
    refine w_aload_n (pc' := 17) ⟨rfl, rfl⟩ rfl ?_
    refine w_iload_n (pc' := 18) ⟨rfl, rfl⟩ rfl ?_
    refine w_cv2 (pc' := 21) ⟨rfl, rfl⟩ (by decide) (zOl hF rfl) (Nat.le_of_ble_eq_true rfl) (Nat.le_of_ble_eq_true rfl) (r_fromOf hF hT (by omega) ?_)
    rw [hf0]
    refine w_aload_n (pc' := 22) ⟨rfl, rfl⟩ rfl ?_
    refine w_iload_n (pc' := 23) ⟨rfl, rfl⟩ rfl ?_
    refine w_iload_n (pc' := 24) ⟨rfl, rfl⟩ rfl ?_
    refine w_ic (pc' := 25) ⟨rfl, rfl⟩ ?_
    refine w_cv4 (pc' := 28) ⟨rfl, rfl⟩ (by decide) (zOl hF rfl) (Nat.le_of_ble_eq_true rfl) (Nat.le_of_ble_eq_true rfl) (r_ruleHas2 hF hT (by omega) (by omega) ?_)
    obtain ⟨f1, hf1⟩ : ∃ q : Nat, zR1 t c r = q := ⟨(zR1 t c r).toNat, by omega⟩
    have e1 : (zR1 t c r).toNat = f1 := by omega
    have hk1 := hvf.2 f1 (by omega)
    rw [hf1]
    refine w_cv3 (pc' := 31) ⟨rfl, rfl⟩ (by decide) (zOl hF rfl) (Nat.le_of_ble_eq_true rfl) (Nat.le_of_ble_eq_true rfl) (r_kindOf hF hT (by omega) (by omega) ?_)
    refine w_istore (pc' := 33) ⟨rfl, rfl⟩ rfl ?_
    refine w_iload_n (pc' := 34) ⟨rfl, rfl⟩ rfl ?_
    refine w_if_ne (pc' := 37) (pcT := 40) ⟨rfl, rfl⟩ rfl (by omega) (fun h2 => ?_) (fun h2 => ?_)
    · refine w_iload_n (pc' := 41) ⟨rfl, rfl⟩ rfl ?_
      refine w_ic (pc' := 42) ⟨rfl, rfl⟩ ?_
      refine w_ic_ne (pc' := 45) (pcT := 68) ⟨rfl, rfl⟩ rfl (by omega) (by omega) (fun h3 => ?_) (fun h3 => ?_)
      · refine w_iload (pc' := 70) ⟨rfl, rfl⟩ rfl ?_
        refine w_ic (pc' := 71) ⟨rfl, rfl⟩ ?_
        refine w_ic_le (pc' := 74) (pcT := 79) ⟨rfl, rfl⟩ rfl (by omega) (by omega) (fun h4 => ?_) (fun h4 => ?_)
        · refine w_ic (pc' := 80) ⟨rfl, rfl⟩ ?_
          refine w_ireturn (pc' := 81) ⟨rfl, rfl⟩ (Or.inl rfl) ?_
          refine zQi k ?_
          unfold zMK
          simp only [ef, et]
          (try simp only [e1]); (try simp only [e2])
          repeat' split
          all_goals omega
        · refine w_bi (pc' := 76) ⟨rfl, rfl⟩ (by decide) ?_
          refine w_goto (pc' := 79) (pcT := 80) ⟨rfl, rfl⟩ rfl ?_
          refine w_ireturn (pc' := 81) ⟨rfl, rfl⟩ (Or.inl rfl) ?_
          refine zQi k ?_
          unfold zMK
          simp only [ef, et]
          (try simp only [e1]); (try simp only [e2])
          repeat' split
          all_goals omega
      · refine w_aload_n (pc' := 46) ⟨rfl, rfl⟩ rfl ?_
        refine w_aload_n (pc' := 47) ⟨rfl, rfl⟩ rfl ?_
        refine w_iload_n (pc' := 48) ⟨rfl, rfl⟩ rfl ?_
        refine w_cv2 (pc' := 51) ⟨rfl, rfl⟩ (by decide) (zOl hF rfl) (Nat.le_of_ble_eq_true rfl) (Nat.le_of_ble_eq_true rfl) (r_fromOf hF hT (by omega) ?_)
        rw [hf0]
        refine w_aload_n (pc' := 52) ⟨rfl, rfl⟩ rfl ?_
        refine w_iload_n (pc' := 53) ⟨rfl, rfl⟩ rfl ?_
        refine w_iload_n (pc' := 54) ⟨rfl, rfl⟩ rfl ?_
        refine w_ic (pc' := 55) ⟨rfl, rfl⟩ ?_
        refine w_cv4 (pc' := 58) ⟨rfl, rfl⟩ (by decide) (zOl hF rfl) (Nat.le_of_ble_eq_true rfl) (Nat.le_of_ble_eq_true rfl) (r_ruleHas3 hF hT (by omega) (by omega) ?_)
        obtain ⟨f2, hf2⟩ : ∃ q : Nat, zR2 t c r = q := ⟨(zR2 t c r).toNat, by omega⟩
        have e2 : (zR2 t c r).toNat = f2 := by omega
        have hk2 := hvf.2 f2 (by omega)
        rw [hf2]
        refine w_cv3 (pc' := 61) ⟨rfl, rfl⟩ (by decide) (zOl hF rfl) (Nat.le_of_ble_eq_true rfl) (Nat.le_of_ble_eq_true rfl) (r_kindOf hF hT (by omega) (by omega) ?_)
        refine w_ic (pc' := 62) ⟨rfl, rfl⟩ ?_
        refine w_ic_le (pc' := 65) (pcT := 68) ⟨rfl, rfl⟩ rfl (by omega) (by omega) (fun h4 => ?_) (fun h4 => ?_)
        · refine w_iload (pc' := 70) ⟨rfl, rfl⟩ rfl ?_
          refine w_ic (pc' := 71) ⟨rfl, rfl⟩ ?_
          refine w_ic_le (pc' := 74) (pcT := 79) ⟨rfl, rfl⟩ rfl (by omega) (by omega) (fun h5 => ?_) (fun h5 => ?_)
          · refine w_ic (pc' := 80) ⟨rfl, rfl⟩ ?_
            refine w_ireturn (pc' := 81) ⟨rfl, rfl⟩ (Or.inl rfl) ?_
            refine zQi k ?_
            unfold zMK
            simp only [ef, et]
            (try simp only [e1]); (try simp only [e2])
            repeat' split
            all_goals omega
          · refine w_bi (pc' := 76) ⟨rfl, rfl⟩ (by decide) ?_
            refine w_goto (pc' := 79) (pcT := 80) ⟨rfl, rfl⟩ rfl ?_
            refine w_ireturn (pc' := 81) ⟨rfl, rfl⟩ (Or.inl rfl) ?_
            refine zQi k ?_
            unfold zMK
            simp only [ef, et]
            (try simp only [e1]); (try simp only [e2])
            repeat' split
            all_goals omega
        · refine w_bi (pc' := 67) ⟨rfl, rfl⟩ (by decide) ?_
          refine w_ireturn (pc' := 68) ⟨rfl, rfl⟩ (Or.inl rfl) ?_
          refine zQi k ?_
          unfold zMK
          simp only [ef, et]
          (try simp only [e1]); (try simp only [e2])
          repeat' split
          all_goals omega
    · refine w_iload (pc' := 39) ⟨rfl, rfl⟩ rfl ?_
      refine w_ireturn (pc' := 40) ⟨rfl, rfl⟩ (Or.inl rfl) ?_
      refine zQi k ?_
      unfold zMK
      simp only [ef, et]
      (try simp only [e1]); (try simp only [e2])
      repeat' split
      all_goals omega
  · refine w_ic (pc' := 14) ⟨rfl, rfl⟩ ?_
    refine w_ireturn (pc' := 15) ⟨rfl, rfl⟩ (Or.inl rfl) ?_
    refine zQi k ?_
    unfold zMK
    simp only [ef, et]
    (try simp only [e1]); (try simp only [e2])
    repeat' split
    all_goals omega
theorem r_longRule {σ : zSt} {t : zBk} (hF : zFx σ) (hT : zTr σ t) (hVt : zVt t) {c r : Nat} (hc : (c : Int) < t 1) (hr : (r : Int) < zNU t c) {Q : zSt → Option Value → Prop} (k : Q σ (some (.int (iZ (zLR t c r))))) : zCa 280 [.ref 164, .int (iZ c), .int (iZ r)] σ Q := by
  refine w_enter (c := zk_X12_longRule) (ls2 := [(0, .ref 164), (1, .int (iZ c)), (2, .int (iZ r))]) rfl ⟨rfl, rfl, rfl, trivial⟩ ?_
  obtain ⟨hv0, hv1, hvs, hvc⟩ := hVt
  obtain ⟨hfo, hto, hne, hnu, hvr, hin⟩ := hvc c hc
  obtain ⟨hrt, hrs, hr1, hr4, hr3, hr12, hr2, hr0, hrk⟩ := hvr r hr
  obtain ⟨f0, hf0⟩ : ∃ q : Nat, zFO t c = q := ⟨(zFO t c).toNat, by omega⟩
  obtain ⟨t0, ht0⟩ : ∃ q : Nat, zTO t c = q := ⟨(zTO t c).toNat, by omega⟩
  have hvf := (hvs f0 (by omega)).1
  have hvt := (hvs t0 (by omega)).1
  have hnf := hvf.1
  have hnt := hvt.1
  have ef : (zFO t c).toNat = f0 := by omega
  have et : (zTO t c).toNat = t0 := by omega
  rw [ef] at hr1 hr3 hrk
  rw [et] at hrt hr4
  obtain ⟨g, hg⟩ : ∃ q : Nat, zRT t c r = q := ⟨(zRT t c r).toNat, by omega⟩
  have eg : (zRT t c r).toNat = g := by omega
  rw [eg] at hr4
  refine w_aload_n (pc' := 1) ⟨rfl, rfl⟩ rfl ?_
  refine w_aload_n (pc' := 2) ⟨rfl, rfl⟩ rfl ?_
  refine w_iload_n (pc' := 3) ⟨rfl, rfl⟩ rfl ?_
  refine w_cv2 (pc' := 6) ⟨rfl, rfl⟩ (by decide) (zOl hF rfl) (Nat.le_of_ble_eq_true rfl) (Nat.le_of_ble_eq_true rfl) (r_toOf hF hT (by omega) ?_)
  rw [ht0]
  refine w_aload_n (pc' := 7) ⟨rfl, rfl⟩ rfl ?_
  refine w_iload_n (pc' := 8) ⟨rfl, rfl⟩ rfl ?_
  refine w_iload_n (pc' := 9) ⟨rfl, rfl⟩ rfl ?_
  refine w_ic (pc' := 10) ⟨rfl, rfl⟩ ?_
  refine w_cv4 (pc' := 13) ⟨rfl, rfl⟩ (by decide) (zOl hF rfl) (Nat.le_of_ble_eq_true rfl) (Nat.le_of_ble_eq_true rfl) (r_ruleHas0 hF hT (by omega) (by omega) ?_)
  rw [hg]
  refine w_cv3 (pc' := 16) ⟨rfl, rfl⟩ (by decide) (zOl hF rfl) (Nat.le_of_ble_eq_true rfl) (Nat.le_of_ble_eq_true rfl) (r_cellsOf hF hT (by omega) (by omega) ?_)
  have hkt := (hvt.2 g (by omega)).2
  refine w_istore_n (pc' := 17) ⟨rfl, rfl⟩ rfl ?_
  refine w_aload_n (pc' := 18) ⟨rfl, rfl⟩ rfl ?_
  refine w_iload_n (pc' := 19) ⟨rfl, rfl⟩ rfl ?_
  refine w_iload_n (pc' := 20) ⟨rfl, rfl⟩ rfl ?_
  refine w_ic (pc' := 21) ⟨rfl, rfl⟩ ?_
  refine w_cv4 (pc' := 24) ⟨rfl, rfl⟩ (by decide) (zOl hF rfl) (Nat.le_of_ble_eq_true rfl) (Nat.le_of_ble_eq_true rfl) (r_ruleHas1 hF hT (by omega) (by omega) ?_)
  refine w_istore (pc' := 26) ⟨rfl, rfl⟩ rfl ?_
  refine w_iload (pc' := 28) ⟨rfl, rfl⟩ rfl ?_
  refine w_ic (pc' := 29) ⟨rfl, rfl⟩ ?_
  refine w_ic_ne (pc' := 32) (pcT := 34) ⟨rfl, rfl⟩ rfl (by omega) (by omega) (fun h1 => ?_) (fun h1 => ?_)
  · refine w_iload_n (pc' := 35) ⟨rfl, rfl⟩ rfl ?_
    refine w_aload_n (pc' := 36) ⟨rfl, rfl⟩ rfl ?_
    refine w_aload_n (pc' := 37) ⟨rfl, rfl⟩ rfl ?_
    refine w_iload_n (pc' := 38) ⟨rfl, rfl⟩ rfl ?_
    refine w_cv2 (pc' := 41) ⟨rfl, rfl⟩ (by decide) (zOl hF rfl) (Nat.le_of_ble_eq_true rfl) (Nat.le_of_ble_eq_true rfl) (r_fromOf hF hT (by omega) ?_)
    rw [hf0]
    refine w_aload_n (pc' := 42) ⟨rfl, rfl⟩ rfl ?_
    refine w_iload_n (pc' := 43) ⟨rfl, rfl⟩ rfl ?_
    refine w_iload_n (pc' := 44) ⟨rfl, rfl⟩ rfl ?_
    refine w_ic (pc' := 45) ⟨rfl, rfl⟩ ?_
    refine w_cv4 (pc' := 48) ⟨rfl, rfl⟩ (by decide) (zOl hF rfl) (Nat.le_of_ble_eq_true rfl) (Nat.le_of_ble_eq_true rfl) (r_ruleHas2 hF hT (by omega) (by omega) ?_)
    obtain ⟨f1, hf1⟩ : ∃ q : Nat, zR1 t c r = q := ⟨(zR1 t c r).toNat, by omega⟩
    have e1 : (zR1 t c r).toNat = f1 := by omega
    have hk1 := hvf.2 f1 (by omega)
    rw [hf1]
    refine w_cv3 (pc' := 51) ⟨rfl, rfl⟩ (by decide) (zOl hF rfl) (Nat.le_of_ble_eq_true rfl) (Nat.le_of_ble_eq_true rfl) (r_cellsOf hF hT (by omega) (by omega) ?_)
    refine w_cs2 (pc' := 54) ⟨rfl, rfl⟩ (by decide) (Nat.le_of_ble_eq_true rfl) (Nat.le_of_ble_eq_true rfl) (r_lessOf (by omega) (by omega) ?_)
    refine w_istore_n (pc' := 55) ⟨rfl, rfl⟩ rfl ?_
    refine w_iload (pc' := 57) ⟨rfl, rfl⟩ rfl ?_
    refine w_ic (pc' := 58) ⟨rfl, rfl⟩ ?_
    refine w_ic_ne (pc' := 61) (pcT := 84) ⟨rfl, rfl⟩ rfl (by omega) (by omega) (fun h2 => ?_) (fun h2 => ?_)
    · refine w_iload_n (pc' := 85) ⟨rfl, rfl⟩ rfl ?_
      refine w_ireturn (pc' := 86) ⟨rfl, rfl⟩ (Or.inl rfl) ?_
      refine zQi k ?_
      unfold zLR
      simp only [ef, et, eg]
      (try simp only [e1]); (try simp only [e2])
      repeat' split
      all_goals omega
    · refine w_iload_n (pc' := 62) ⟨rfl, rfl⟩ rfl ?_
      refine w_aload_n (pc' := 63) ⟨rfl, rfl⟩ rfl ?_
      refine w_aload_n (pc' := 64) ⟨rfl, rfl⟩ rfl ?_
      refine w_iload_n (pc' := 65) ⟨rfl, rfl⟩ rfl ?_
      refine w_cv2 (pc' := 68) ⟨rfl, rfl⟩ (by decide) (zOl hF rfl) (Nat.le_of_ble_eq_true rfl) (Nat.le_of_ble_eq_true rfl) (r_fromOf hF hT (by omega) ?_)
      rw [hf0]
      refine w_aload_n (pc' := 69) ⟨rfl, rfl⟩ rfl ?_
      refine w_iload_n (pc' := 70) ⟨rfl, rfl⟩ rfl ?_
      refine w_iload_n (pc' := 71) ⟨rfl, rfl⟩ rfl ?_
      refine w_ic (pc' := 72) ⟨rfl, rfl⟩ ?_
      refine w_cv4 (pc' := 75) ⟨rfl, rfl⟩ (by decide) (zOl hF rfl) (Nat.le_of_ble_eq_true rfl) (Nat.le_of_ble_eq_true rfl) (r_ruleHas3 hF hT (by omega) (by omega) ?_)
      obtain ⟨f2, hf2⟩ : ∃ q : Nat, zR2 t c r = q := ⟨(zR2 t c r).toNat, by omega⟩
      have e2 : (zR2 t c r).toNat = f2 := by omega
      have hk2 := hvf.2 f2 (by omega)
      rw [hf2]
      refine w_cv3 (pc' := 78) ⟨rfl, rfl⟩ (by decide) (zOl hF rfl) (Nat.le_of_ble_eq_true rfl) (Nat.le_of_ble_eq_true rfl) (r_cellsOf hF hT (by omega) (by omega) ?_)
      refine w_cs2 (pc' := 81) ⟨rfl, rfl⟩ (by decide) (Nat.le_of_ble_eq_true rfl) (Nat.le_of_ble_eq_true rfl) (r_lessOf (by omega) (by omega) ?_)
      refine w_goto (pc' := 84) (pcT := 85) ⟨rfl, rfl⟩ rfl ?_
      refine w_ireturn (pc' := 86) ⟨rfl, rfl⟩ (Or.inl rfl) ?_
      refine zQi k ?_
      unfold zLR
      simp only [ef, et, eg]
      (try simp only [e1]); (try simp only [e2])
      repeat' split
      all_goals omega
  · refine w_iload_n (pc' := 33) ⟨rfl, rfl⟩ rfl ?_
    refine w_ireturn (pc' := 34) ⟨rfl, rfl⟩ (Or.inl rfl) ?_
    refine zQi k ?_
    unfold zLR
    simp only [ef, et, eg]
    (try simp only [e1]); (try simp only [e2])
    repeat' split
    all_goals omega
