/-! of whole, what this claim takes: 23.acc.lean.txt -/
theorem c_hasField {σ : zSt} {o s : Nat} {t : zBk} (hF : zFx σ) (hO : zIsS o) (hS : zSh σ o t s) (hV : zVs t s) {f : Int} (hf : -2147483648 ≤ f ∧ f ≤ 2147483647) {Q : zSt → Option Value → Prop} (k1 : 0 ≤ f ∧ f < zNF t s → Q σ (some (.int (iZ 1)))) (k0 : ¬ (0 ≤ f ∧ f < zNF t s) → Q σ (some (.int (iZ 0)))) : zCa 74 [.ref o, .int (iZ f)] σ Q := by
  refine w_enter (c := zk_X8_hasField) (ls2 := [(0, .ref o), (1, .int (iZ f))]) rfl ⟨rfl, rfl, trivial⟩ ?_
  have hn := hV.1
  refine w_iload_n (pc' := 1) ⟨rfl, rfl⟩ rfl ?_
  refine w_if_lt (pc' := 4) (pcT := 22) ⟨rfl, rfl⟩ rfl (by omega) (fun h1 => ?_) (fun h1 => ?_)
  · refine w_ic (pc' := 23) ⟨rfl, rfl⟩ ?_
    refine w_ireturn (pc' := 24) ⟨rfl, rfl⟩ (by decide) ?_
    first | exact k1 (by omega) | exact k0 (by omega)
  · refine w_iload_n (pc' := 5) ⟨rfl, rfl⟩ rfl ?_
    refine w_aload_n (pc' := 6) ⟨rfl, rfl⟩ rfl ?_
    refine w_getI (pc' := 9) (cl := 6) (q := 5) ⟨rfl, rfl⟩ ⟨rfl, by decide⟩ (hO.o hF) hS.1 ?_
    refine w_ic_ge (pc' := 12) (pcT := 22) ⟨rfl, rfl⟩ rfl (by omega) (by omega) (fun h2 => ?_) (fun h2 => ?_)
    · refine w_ic (pc' := 23) ⟨rfl, rfl⟩ ?_
      refine w_ireturn (pc' := 24) ⟨rfl, rfl⟩ (by decide) ?_
      first | exact k1 (by omega) | exact k0 (by omega)
    · refine w_iload_n (pc' := 13) ⟨rfl, rfl⟩ rfl ?_
      refine w_bi (pc' := 15) ⟨rfl, rfl⟩ (by decide) ?_
      refine w_ic_ge (pc' := 18) (pcT := 22) ⟨rfl, rfl⟩ rfl (by omega) (by omega) (fun h3 => ?_) (fun h3 => ?_)
      · refine w_ic (pc' := 23) ⟨rfl, rfl⟩ ?_
        refine w_ireturn (pc' := 24) ⟨rfl, rfl⟩ (by decide) ?_
        first | exact k1 (by omega) | exact k0 (by omega)
      · refine w_ic (pc' := 19) ⟨rfl, rfl⟩ ?_
        refine w_goto (pc' := 22) (pcT := 23) ⟨rfl, rfl⟩ rfl ?_
        refine w_ireturn (pc' := 24) ⟨rfl, rfl⟩ (by decide) ?_
        first | exact k1 (by omega) | exact k0 (by omega)
theorem c_kindOf {σ : zSt} {o s : Nat} {t : zBk} (hF : zFx σ) (hO : zIsS o) (hS : zSh σ o t s) (hV : zVs t s) {f : Int} (hf : -2147483648 ≤ f ∧ f ≤ 2147483647) {Q : zSt → Option Value → Prop} (k1 : 0 ≤ f ∧ f < zNF t s → Q σ (some (.int (iZ (zKD t s f.toNat))))) (k0 : ¬ (0 ≤ f ∧ f < zNF t s) → Q σ (some (.int (iZ (-1))))) : zCa 75 [.ref o, .int (iZ f)] σ Q := by
  refine w_enter (c := zk_X8_kindOf) (ls2 := [(0, .ref o), (1, .int (iZ f))]) rfl ⟨rfl, rfl, trivial⟩ ?_
  have hn := hV.1
  refine w_aload_n (pc' := 1) ⟨rfl, rfl⟩ rfl ?_
  refine w_iload_n (pc' := 2) ⟨rfl, rfl⟩ rfl ?_
  refine w_cv2 (pc' := 5) ⟨rfl, rfl⟩ (by decide) (hO.o hF) (Nat.le_of_ble_eq_true rfl) (Nat.le_of_ble_eq_true rfl) (c_hasField hF hO hS hV (by omega) (fun h => ?_) (fun h => ?_))
  · refine w_ifF_eq (pc' := 8) ⟨rfl, rfl⟩ (by decide) ?_
    refine w_aload_n (pc' := 9) ⟨rfl, rfl⟩ rfl ?_
    refine w_getR (pc' := 12) (cl := 6) (q := 1) ⟨rfl, rfl⟩ ⟨rfl, by decide⟩ (hO.o hF) (hO.p hF).2.1 ?_
    refine w_iload_n (pc' := 13) ⟨rfl, rfl⟩ rfl ?_
    refine w_iald (pc' := 14) ⟨rfl, rfl⟩ (hO.a hF).2.1 (zixA (j := f.toNat) (by omega)) ((hS.2.2 f.toNat (by omega)).1) ?_
    refine w_goto (pc' := 17) (pcT := 18) ⟨rfl, rfl⟩ rfl ?_
    refine w_ireturn (pc' := 19) ⟨rfl, rfl⟩ (Or.inl rfl) ?_
    first | exact k1 (by omega) | exact k0 (by omega)
  · refine w_ifT_eq (pc' := 8) (pcT := 17) ⟨rfl, rfl⟩ rfl (by decide) ?_
    refine w_ic (pc' := 18) ⟨rfl, rfl⟩ ?_
    refine w_ireturn (pc' := 19) ⟨rfl, rfl⟩ (Or.inl rfl) ?_
    first | exact k1 (by omega) | exact k0 (by omega)
theorem c_hasWords {σ : zSt} {o s : Nat} {t : zBk} (hF : zFx σ) (hO : zIsS o) (hS : zSh σ o t s) (hV : zVs t s) {f : Int} (hf : -2147483648 ≤ f ∧ f ≤ 2147483647) {Q : zSt → Option Value → Prop} (k1 : 0 ≤ f ∧ f < zNF t s ∧ zKD t s f.toNat = 8 → Q σ (some (.int (iZ 1)))) (k0 : ¬ (0 ≤ f ∧ f < zNF t s ∧ zKD t s f.toNat = 8) → Q σ (some (.int (iZ 0)))) : zCa 76 [.ref o, .int (iZ f)] σ Q := by
  refine w_enter (c := zk_X8_hasWords) (ls2 := [(0, .ref o), (1, .int (iZ f))]) rfl ⟨rfl, rfl, trivial⟩ ?_
  have hn := hV.1
  refine w_aload_n (pc' := 1) ⟨rfl, rfl⟩ rfl ?_
  refine w_iload_n (pc' := 2) ⟨rfl, rfl⟩ rfl ?_
  refine w_cv2 (pc' := 5) ⟨rfl, rfl⟩ (by decide) (hO.o hF) (Nat.le_of_ble_eq_true rfl) (Nat.le_of_ble_eq_true rfl) (c_kindOf hF hO hS hV (by omega) (fun h => ?_) (fun h => ?_))
  · have hk := (hV.2 f.toNat (by omega)).1
    refine w_bi (pc' := 7) ⟨rfl, rfl⟩ (by decide) ?_
    refine w_ic_ne (pc' := 10) (pcT := 14) ⟨rfl, rfl⟩ rfl (by omega) (by omega) (fun h1 => ?_) (fun h1 => ?_)
    · refine w_ic (pc' := 15) ⟨rfl, rfl⟩ ?_
      refine w_ireturn (pc' := 16) ⟨rfl, rfl⟩ (by decide) ?_
      first | exact k1 (by omega) | exact k0 (by omega)
    · refine w_ic (pc' := 11) ⟨rfl, rfl⟩ ?_
      refine w_goto (pc' := 14) (pcT := 15) ⟨rfl, rfl⟩ rfl ?_
      refine w_ireturn (pc' := 16) ⟨rfl, rfl⟩ (by decide) ?_
      first | exact k1 (by omega) | exact k0 (by omega)
  · refine w_bi (pc' := 7) ⟨rfl, rfl⟩ (by decide) ?_
    refine w_icT_ne (pc' := 10) (pcT := 14) ⟨rfl, rfl⟩ rfl (by decide) ?_
    refine w_ic (pc' := 15) ⟨rfl, rfl⟩ ?_
    refine w_ireturn (pc' := 16) ⟨rfl, rfl⟩ (by decide) ?_
    first | exact k1 (by omega) | exact k0 (by omega)
theorem c_shape {σ : zSt} {p : Nat} {n : Int} (hF : zFx σ) (hP : zIsB p) (hn : zI σ p 2 = iZ n) (hn3 : 0 ≤ n ∧ n ≤ 3) {z : Int} (hz : -2147483648 ≤ z ∧ z ≤ 2147483647) {Q : zSt → Option Value → Prop} (k1 : 0 ≤ z ∧ z < n → Q σ (some (.ref (p + 3 + 5 * z.toNat)))) (k0 : ¬ (0 ≤ z ∧ z < n) → Q σ (some .null)) : zCa 44 [.ref p, .int (iZ z)] σ Q := by
  refine w_enter (c := zk_X4_shape) (ls2 := [(0, .ref p), (1, .int (iZ z))]) rfl ⟨rfl, rfl, trivial⟩ ?_
  refine w_iload_n (pc' := 1) ⟨rfl, rfl⟩ rfl ?_
  refine w_if_lt (pc' := 4) (pcT := 26) ⟨rfl, rfl⟩ rfl (by omega) (fun h1 => ?_) (fun h1 => ?_)
  · refine w_null (pc' := 27) ⟨rfl, rfl⟩ ?_
    refine w_areturnN (pc' := 28) ⟨rfl, rfl⟩ ?_
    first | exact k1 (by omega) | exact k0 (by omega)
  · refine w_iload_n (pc' := 5) ⟨rfl, rfl⟩ rfl ?_
    refine w_aload_n (pc' := 6) ⟨rfl, rfl⟩ rfl ?_
    refine w_getI (pc' := 9) (cl := 3) (q := 2) ⟨rfl, rfl⟩ ⟨rfl, by decide⟩ (hP.o hF).1 hn ?_
    refine w_ic_ge (pc' := 12) (pcT := 26) ⟨rfl, rfl⟩ rfl (by omega) (by omega) (fun h2 => ?_) (fun h2 => ?_)
    · refine w_null (pc' := 27) ⟨rfl, rfl⟩ ?_
      refine w_areturnN (pc' := 28) ⟨rfl, rfl⟩ ?_
      first | exact k1 (by omega) | exact k0 (by omega)
    · refine w_iload_n (pc' := 13) ⟨rfl, rfl⟩ rfl ?_
      refine w_ic (pc' := 14) ⟨rfl, rfl⟩ ?_
      refine w_ic_ge (pc' := 17) (pcT := 26) ⟨rfl, rfl⟩ rfl (by omega) (by omega) (fun h3 => ?_) (fun h3 => ?_)
      · refine w_null (pc' := 27) ⟨rfl, rfl⟩ ?_
        refine w_areturnN (pc' := 28) ⟨rfl, rfl⟩ ?_
        first | exact k1 (by omega) | exact k0 (by omega)
      · refine w_aload_n (pc' := 18) ⟨rfl, rfl⟩ rfl ?_
        refine w_getR (pc' := 21) (cl := 3) (q := 0) ⟨rfl, rfl⟩ ⟨rfl, by decide⟩ (hP.o hF).1 (hP.o hF).2.1 ?_
        refine w_iload_n (pc' := 22) ⟨rfl, rfl⟩ rfl ?_
        refine w_aald (pc' := 23) ⟨rfl, rfl⟩ (hP.o hF).2.2.2.1 (by decide) (zixA (j := z.toNat) (by omega)) (hP.s hF (by omega)).1 ?_
        refine w_goto (pc' := 26) (pcT := 27) ⟨rfl, rfl⟩ rfl ?_
        refine w_areturn (pc' := 28) ⟨rfl, rfl⟩ ?_
        first | exact k1 (by omega) | exact k0 (by omega)
theorem c_countOf {σ : zSt} {c : Nat → Int} (hF : zFx σ) (hC : zCn σ c) {z : Int} (hz : -2147483648 ≤ z ∧ z ≤ 2147483647) {Q : zSt → Option Value → Prop} (k1 : 0 ≤ z ∧ z < 3 → Q σ (some (.int (iZ (c z.toNat))))) (k0 : ¬ (0 ≤ z ∧ z < 3) → Q σ (some (.int (iZ 0)))) : zCa 55 [.ref 79, .int (iZ z)] σ Q := by
  refine w_enter (c := zk_X6_countOf) (ls2 := [(0, .ref 79), (1, .int (iZ z))]) rfl ⟨rfl, rfl, trivial⟩ ?_
  refine w_iload_n (pc' := 1) ⟨rfl, rfl⟩ rfl ?_
  refine w_if_lt (pc' := 4) (pcT := 19) ⟨rfl, rfl⟩ rfl (by omega) (fun h1 => ?_) (fun h1 => ?_)
  · refine w_ic (pc' := 20) ⟨rfl, rfl⟩ ?_
    refine w_ireturn (pc' := 21) ⟨rfl, rfl⟩ (Or.inl rfl) ?_
    first | exact k1 (by omega) | exact k0 (by omega)
  · refine w_iload_n (pc' := 5) ⟨rfl, rfl⟩ rfl ?_
    refine w_ic (pc' := 6) ⟨rfl, rfl⟩ ?_
    refine w_ic_ge (pc' := 9) (pcT := 19) ⟨rfl, rfl⟩ rfl (by omega) (by omega) (fun h2 => ?_) (fun h2 => ?_)
    · refine w_ic (pc' := 20) ⟨rfl, rfl⟩ ?_
      refine w_ireturn (pc' := 21) ⟨rfl, rfl⟩ (Or.inl rfl) ?_
      first | exact k1 (by omega) | exact k0 (by omega)
    · refine w_aload_n (pc' := 10) ⟨rfl, rfl⟩ rfl ?_
      refine w_getR (pc' := 13) (cl := 4) (q := 0) ⟨rfl, rfl⟩ ⟨rfl, by decide⟩ (zOl hF rfl) (hF.2 79 0 80 rfl) ?_
      refine w_iload_n (pc' := 14) ⟨rfl, rfl⟩ rfl ?_
      refine w_lald (pc' := 15) ⟨rfl, rfl⟩ (zAl hF rfl) (zixA (j := z.toNat) (by omega)) (hC z.toNat (by omega)).1 ?_
      refine w_l2iY (pc' := 16) ⟨rfl, rfl⟩ ?_
      refine w_goto (pc' := 19) (pcT := 20) ⟨rfl, rfl⟩ rfl ?_
      refine w_ireturn (pc' := 21) ⟨rfl, rfl⟩ (Or.inl rfl) ?_
      first | exact k1 (by omega) | exact k0 (by omega)
theorem c_recordStart {σ : zSt} {z r : Int} {Q : zSt → Option Value → Prop} (k : Q σ (some (.int (iZ (11 + (z * 8 + r) * 24))))) : zCa 56 [.int (iZ z), .int (iZ r)] σ Q := by
  refine w_enter (c := zk_X6_recordStart) (ls2 := [(0, .int (iZ z)), (1, .int (iZ r))]) rfl ⟨rfl, rfl, trivial⟩ ?_
  refine w_bi (pc' := 2) ⟨rfl, rfl⟩ (by decide) ?_
  refine w_iload_n (pc' := 3) ⟨rfl, rfl⟩ rfl ?_
  refine w_bi (pc' := 5) ⟨rfl, rfl⟩ (by decide) ?_
  refine w_imulZ (pc' := 6) ⟨rfl, rfl⟩ ?_
  refine w_iload_n (pc' := 7) ⟨rfl, rfl⟩ rfl ?_
  refine w_iaddZ (pc' := 8) ⟨rfl, rfl⟩ ?_
  refine w_bi (pc' := 10) ⟨rfl, rfl⟩ (by decide) ?_
  refine w_imulZ (pc' := 11) ⟨rfl, rfl⟩ ?_
  refine w_iaddZ (pc' := 12) ⟨rfl, rfl⟩ ?_
  refine w_ireturn (pc' := 13) ⟨rfl, rfl⟩ (Or.inl rfl) ?_
  exact k
theorem c_isRecordPlace {σ : zSt} {z r : Int} (hz : -2147483648 ≤ z ∧ z ≤ 2147483647) (hr : -2147483648 ≤ r ∧ r ≤ 2147483647) {Q : zSt → Option Value → Prop} (k1 : 0 ≤ z ∧ z < 3 ∧ 0 ≤ r ∧ r < 8 → Q σ (some (.int (iZ 1)))) (k0 : ¬ (0 ≤ z ∧ z < 3 ∧ 0 ≤ r ∧ r < 8) → Q σ (some (.int (iZ 0)))) : zCa 57 [.int (iZ z), .int (iZ r)] σ Q := by
  refine w_enter (c := zk_X6_isRecordPlace) (ls2 := [(0, .int (iZ z)), (1, .int (iZ r))]) rfl ⟨rfl, rfl, trivial⟩ ?_
  refine w_iload_n (pc' := 1) ⟨rfl, rfl⟩ rfl ?_
  refine w_if_lt (pc' := 4) (pcT := 23) ⟨rfl, rfl⟩ rfl (by omega) (fun h1 => ?_) (fun h1 => ?_)
  · refine w_ic (pc' := 24) ⟨rfl, rfl⟩ ?_
    refine w_ireturn (pc' := 25) ⟨rfl, rfl⟩ (by decide) ?_
    first | exact k1 (by omega) | exact k0 (by omega)
  · refine w_iload_n (pc' := 5) ⟨rfl, rfl⟩ rfl ?_
    refine w_ic (pc' := 6) ⟨rfl, rfl⟩ ?_
    refine w_ic_ge (pc' := 9) (pcT := 23) ⟨rfl, rfl⟩ rfl (by omega) (by omega) (fun h2 => ?_) (fun h2 => ?_)
    · refine w_ic (pc' := 24) ⟨rfl, rfl⟩ ?_
      refine w_ireturn (pc' := 25) ⟨rfl, rfl⟩ (by decide) ?_
      first | exact k1 (by omega) | exact k0 (by omega)
    · refine w_iload_n (pc' := 10) ⟨rfl, rfl⟩ rfl ?_
      refine w_if_lt (pc' := 13) (pcT := 23) ⟨rfl, rfl⟩ rfl (by omega) (fun h3 => ?_) (fun h3 => ?_)
      · refine w_ic (pc' := 24) ⟨rfl, rfl⟩ ?_
        refine w_ireturn (pc' := 25) ⟨rfl, rfl⟩ (by decide) ?_
        first | exact k1 (by omega) | exact k0 (by omega)
      · refine w_iload_n (pc' := 14) ⟨rfl, rfl⟩ rfl ?_
        refine w_bi (pc' := 16) ⟨rfl, rfl⟩ (by decide) ?_
        refine w_ic_ge (pc' := 19) (pcT := 23) ⟨rfl, rfl⟩ rfl (by omega) (by omega) (fun h4 => ?_) (fun h4 => ?_)
        · refine w_ic (pc' := 24) ⟨rfl, rfl⟩ ?_
          refine w_ireturn (pc' := 25) ⟨rfl, rfl⟩ (by decide) ?_
          first | exact k1 (by omega) | exact k0 (by omega)
        · refine w_ic (pc' := 20) ⟨rfl, rfl⟩ ?_
          refine w_goto (pc' := 23) (pcT := 24) ⟨rfl, rfl⟩ rfl ?_
          refine w_ireturn (pc' := 25) ⟨rfl, rfl⟩ (by decide) ?_
          first | exact k1 (by omega) | exact k0 (by omega)
theorem c_indexOf {σ : zSt} {o s f r i : Nat} {t : zBk} (hF : zFx σ) (hO : zIsS o) (hS : zSh σ o t s) (hV : zVs t s) (hs : s < 3) (hf : (f : Int) < zNF t s) (hr : r < 8) (hi : (i : Int) < zCE t s f) {pl : Int} (hpl : pl = r * zCE t s f + i) {Q : zSt → Option Value → Prop} (k : Q σ (some (.int (iZ (11 + ((s : Int) * 8 + r) * 24 + zst t s f + i))))) : zCa 58 [.int (iZ s), .ref o, .int (iZ f), .int (iZ pl)] σ Q := by
  refine w_enter (c := zk_X6_indexOf) (ls2 := [(0, .int (iZ s)), (1, .ref o), (2, .int (iZ f)), (3, .int (iZ pl))]) rfl ⟨rfl, rfl, rfl, rfl, trivial⟩ ?_
  have hn := hV.1
  have h24 := zst_24 hV hf
  have hdm := zdivm hpl hi
  have hge : 0 ≤ (r : Int) * zCE t s f := Int.mul_nonneg (by omega) (by omega)
  have hle : (r : Int) * zCE t s f ≤ 7 * zCE t s f := Int.mul_le_mul_of_nonneg_right (by omega) (by omega)
  refine w_aload_n (pc' := 1) ⟨rfl, rfl⟩ rfl ?_
  refine w_iload_n (pc' := 2) ⟨rfl, rfl⟩ rfl ?_
  refine w_cv2 (pc' := 5) ⟨rfl, rfl⟩ (by decide) (hO.o hF) (Nat.le_of_ble_eq_true rfl) (Nat.le_of_ble_eq_true rfl) (c_hasField hF hO hS hV (by omega) (fun h => ?_) (fun h => ?_))
  · refine w_ifF_eq (pc' := 8) ⟨rfl, rfl⟩ (by decide) ?_
    refine w_iload_n (pc' := 9) ⟨rfl, rfl⟩ rfl ?_
    refine w_ifT_ge (pc' := 12) (pcT := 14) ⟨rfl, rfl⟩ rfl (by omega) ?_
    refine w_aload_n (pc' := 15) ⟨rfl, rfl⟩ rfl ?_
    refine w_getR (pc' := 18) (cl := 6) (q := 2) ⟨rfl, rfl⟩ ⟨rfl, by decide⟩ (hO.o hF) (hO.p hF).2.2.1 ?_
    refine w_iload_n (pc' := 19) ⟨rfl, rfl⟩ rfl ?_
    refine w_iald (pc' := 20) ⟨rfl, rfl⟩ (hO.a hF).2.2.1 (zixZ (by omega)) (hS.2.2 f hf).2.1 ?_
    refine w_istore (pc' := 22) ⟨rfl, rfl⟩ rfl ?_
    refine w_iload (pc' := 24) ⟨rfl, rfl⟩ rfl ?_
    refine w_ic (pc' := 25) ⟨rfl, rfl⟩ ?_
    refine w_icF_lt (pc' := 28) ⟨rfl, rfl⟩ (by omega) ?_
    refine w_iload_n (pc' := 29) ⟨rfl, rfl⟩ rfl ?_
    refine w_iload_n (pc' := 30) ⟨rfl, rfl⟩ rfl ?_
    refine w_iload (pc' := 32) ⟨rfl, rfl⟩ rfl ?_
    refine w_idivZ (pc' := 33) ⟨rfl, rfl⟩ (by omega) ?_
    rw [hdm.1]
    refine w_cs2 (pc' := 36) ⟨rfl, rfl⟩ (by decide) (Nat.le_of_ble_eq_true rfl) (Nat.le_of_ble_eq_true rfl) (c_isRecordPlace (by omega) (by omega) (fun h => ?_) (fun h => ?_))
    · refine w_ifT_ne (pc' := 39) (pcT := 41) ⟨rfl, rfl⟩ rfl (by decide) ?_
      refine w_iload_n (pc' := 42) ⟨rfl, rfl⟩ rfl ?_
      refine w_iload_n (pc' := 43) ⟨rfl, rfl⟩ rfl ?_
      refine w_iload (pc' := 45) ⟨rfl, rfl⟩ rfl ?_
      refine w_idivZ (pc' := 46) ⟨rfl, rfl⟩ (by omega) ?_
      rw [hdm.1]
      refine w_cs2 (pc' := 49) ⟨rfl, rfl⟩ (by decide) (Nat.le_of_ble_eq_true rfl) (Nat.le_of_ble_eq_true rfl) (c_recordStart ?_)
      refine w_aload_n (pc' := 50) ⟨rfl, rfl⟩ rfl ?_
      refine w_getR (pc' := 53) (cl := 6) (q := 3) ⟨rfl, rfl⟩ ⟨rfl, by decide⟩ (hO.o hF) (hO.p hF).2.2.2 ?_
      refine w_iload_n (pc' := 54) ⟨rfl, rfl⟩ rfl ?_
      refine w_iald (pc' := 55) ⟨rfl, rfl⟩ (hO.a hF).2.2.2 (zixZ (by omega)) (hS.2.2 f hf).2.2 ?_
      refine w_iaddZ (pc' := 56) ⟨rfl, rfl⟩ ?_
      refine w_iload_n (pc' := 57) ⟨rfl, rfl⟩ rfl ?_
      refine w_iload (pc' := 59) ⟨rfl, rfl⟩ rfl ?_
      refine w_iremZ (pc' := 60) ⟨rfl, rfl⟩ (by omega) ?_
      refine w_iaddZ (pc' := 61) ⟨rfl, rfl⟩ ?_
      refine w_ireturn (pc' := 62) ⟨rfl, rfl⟩ (Or.inl rfl) ?_
      rw [hdm.2]
      exact k
    · exfalso; omega
  · exfalso; omega
theorem c_rawAt {σ : zSt} {o s f r i : Nat} {t : zBk} (hF : zFx σ) (hO : zIsS o) (hS : zSh σ o t s) (hV : zVs t s) (hs : s < 3) (hf : (f : Int) < zNF t s) (hr : r < 8) (hi : (i : Int) < zCE t s f) {pl : Int} (hpl : pl = r * zCE t s f + i) {Q : zSt → Option Value → Prop} (k : Q σ (some (.long (zL σ 80 (zpq t s f r i))))) : zCa 59 [.ref 79, .int (iZ s), .ref o, .int (iZ f), .int (iZ pl)] σ Q := by
  refine w_enter (c := zk_X6_rawAt) (ls2 := [(0, .ref 79), (1, .int (iZ s)), (2, .ref o), (3, .int (iZ f)), (4, .int (iZ pl))]) rfl ⟨rfl, rfl, rfl, rfl, rfl, trivial⟩ ?_
  have h24 := zst_24 hV hf
  refine w_iload_n (pc' := 1) ⟨rfl, rfl⟩ rfl ?_
  refine w_aload_n (pc' := 2) ⟨rfl, rfl⟩ rfl ?_
  refine w_iload_n (pc' := 3) ⟨rfl, rfl⟩ rfl ?_
  refine w_iload (pc' := 5) ⟨rfl, rfl⟩ rfl ?_
  refine w_cs4 (pc' := 8) ⟨rfl, rfl⟩ (by decide) (Nat.le_of_ble_eq_true rfl) (Nat.le_of_ble_eq_true rfl) (c_indexOf hF hO hS hV hs hf hr hi hpl ?_)
  refine w_istore (pc' := 10) ⟨rfl, rfl⟩ rfl ?_
  refine w_iload (pc' := 12) ⟨rfl, rfl⟩ rfl ?_
  refine w_ifF_lt (pc' := 15) ⟨rfl, rfl⟩ (by omega) ?_
  refine w_iload (pc' := 17) ⟨rfl, rfl⟩ rfl ?_
  refine w_si (pc' := 20) ⟨rfl, rfl⟩ (by decide) ?_
  refine w_icF_ge (pc' := 23) ⟨rfl, rfl⟩ (by omega) ?_
  refine w_aload_n (pc' := 24) ⟨rfl, rfl⟩ rfl ?_
  refine w_getR (pc' := 27) (cl := 4) (q := 0) ⟨rfl, rfl⟩ ⟨rfl, by decide⟩ (zOl hF rfl) (hF.2 79 0 80 rfl) ?_
  refine w_iload (pc' := 29) ⟨rfl, rfl⟩ rfl ?_
  refine w_lald (pc' := 30) ⟨rfl, rfl⟩ (zAl hF rfl) (zixA (j := zpq t s f r i) (by unfold zpq; omega)) rfl ?_
  refine w_goto (pc' := 33) (pcT := 34) ⟨rfl, rfl⟩ rfl ?_
  refine w_lreturn (pc' := 35) ⟨rfl, rfl⟩ ?_
  exact k
theorem c_setAt {σ : zSt} {o s f r i : Nat} {t : zBk} (hF : zFx σ) (hO : zIsS o) (hS : zSh σ o t s) (hV : zVs t s) (hs : s < 3) (hf : (f : Int) < zNF t s) (hr : r < 8) (hi : (i : Int) < zCE t s f) {pl : Int} (hpl : pl = r * zCE t s f + i) {x : Int64} {Q : zSt → Option Value → Prop} (k : Q (zwL σ 80 (zpq t s f r i) x) none) : zCa 62 [.ref 79, .int (iZ s), .ref o, .int (iZ f), .int (iZ pl), .long x] σ Q := by
  refine w_enter (c := zk_X6_setAt) (ls2 := [(0, .ref 79), (1, .int (iZ s)), (2, .ref o), (3, .int (iZ f)), (4, .int (iZ pl)), (5, .long x)]) rfl ⟨rfl, rfl, rfl, rfl, rfl, rfl, trivial⟩ ?_
  have h24 := zst_24 hV hf
  refine w_iload_n (pc' := 1) ⟨rfl, rfl⟩ rfl ?_
  refine w_aload_n (pc' := 2) ⟨rfl, rfl⟩ rfl ?_
  refine w_iload_n (pc' := 3) ⟨rfl, rfl⟩ rfl ?_
  refine w_iload (pc' := 5) ⟨rfl, rfl⟩ rfl ?_
  refine w_cs4 (pc' := 8) ⟨rfl, rfl⟩ (by decide) (Nat.le_of_ble_eq_true rfl) (Nat.le_of_ble_eq_true rfl) (c_indexOf hF hO hS hV hs hf hr hi hpl ?_)
  refine w_istore (pc' := 10) ⟨rfl, rfl⟩ rfl ?_
  refine w_iload (pc' := 12) ⟨rfl, rfl⟩ rfl ?_
  refine w_ifF_lt (pc' := 15) ⟨rfl, rfl⟩ (by omega) ?_
  refine w_iload (pc' := 17) ⟨rfl, rfl⟩ rfl ?_
  refine w_si (pc' := 20) ⟨rfl, rfl⟩ (by decide) ?_
  refine w_icF_ge (pc' := 23) ⟨rfl, rfl⟩ (by omega) ?_
  refine w_aload_n (pc' := 24) ⟨rfl, rfl⟩ rfl ?_
  refine w_getR (pc' := 27) (cl := 4) (q := 0) ⟨rfl, rfl⟩ ⟨rfl, by decide⟩ (zOl hF rfl) (hF.2 79 0 80 rfl) ?_
  refine w_iload (pc' := 29) ⟨rfl, rfl⟩ rfl ?_
  refine w_lload (pc' := 31) ⟨rfl, rfl⟩ rfl ?_
  refine w_last (pc' := 32) ⟨rfl, rfl⟩ (zAl hF rfl) (zixA (j := zpq t s f r i) (by unfold zpq; omega)) ?_
  refine w_return (pc' := 33) ⟨rfl, rfl⟩ ?_
  exact k
theorem c_isEmptyAt {σ : zSt} {o s f r i : Nat} {t : zBk} (hF : zFx σ) (hO : zIsS o) (hS : zSh σ o t s) (hV : zVs t s) (hs : s < 3) (hf : (f : Int) < zNF t s) (hr : r < 8) (hi : (i : Int) < zCE t s f) {pl : Int} (hpl : pl = r * zCE t s f + i) {Q : zSt → Option Value → Prop} (k1 : zKD t s f = 8 ∧ zL σ 80 (zpq t s f r i) = lZ (-1) → Q σ (some (.int (iZ 1)))) (k0 : ¬ (zKD t s f = 8 ∧ zL σ 80 (zpq t s f r i) = lZ (-1)) → Q σ (some (.int (iZ 0)))) : zCa 60 [.ref 79, .int (iZ s), .ref o, .int (iZ f), .int (iZ pl)] σ Q := by
  refine w_enter (c := zk_X6_isEmptyAt) (ls2 := [(0, .ref 79), (1, .int (iZ s)), (2, .ref o), (3, .int (iZ f)), (4, .int (iZ pl))]) rfl ⟨rfl, rfl, rfl, rfl, rfl, trivial⟩ ?_
  have hn := hV.1
  refine w_aload_n (pc' := 1) ⟨rfl, rfl⟩ rfl ?_
  refine w_iload_n (pc' := 2) ⟨rfl, rfl⟩ rfl ?_
  refine w_cv2 (pc' := 5) ⟨rfl, rfl⟩ (by decide) (hO.o hF) (Nat.le_of_ble_eq_true rfl) (Nat.le_of_ble_eq_true rfl) (c_hasWords hF hO hS hV (by omega) (fun h => ?_) (fun h => ?_))
  · refine w_ifF_eq (pc' := 8) ⟨rfl, rfl⟩ (by decide) ?_
    refine w_aload_n (pc' := 9) ⟨rfl, rfl⟩ rfl ?_
    refine w_iload_n (pc' := 10) ⟨rfl, rfl⟩ rfl ?_
    refine w_aload_n (pc' := 11) ⟨rfl, rfl⟩ rfl ?_
    refine w_iload_n (pc' := 12) ⟨rfl, rfl⟩ rfl ?_
    refine w_iload (pc' := 14) ⟨rfl, rfl⟩ rfl ?_
    refine w_cv5 (pc' := 17) ⟨rfl, rfl⟩ (by decide) (zOl hF rfl) (Nat.le_of_ble_eq_true rfl) (Nat.le_of_ble_eq_true rfl) (c_rawAt hF hO hS hV hs hf hr hi hpl ?_)
    refine w_ldc2Y (pc' := 20) (z := -1) ⟨rfl, rfl⟩ rfl ?_
    refine w_lcmp (pc' := 21) ⟨rfl, rfl⟩ ?_
    refine w_ifc_ne (pc' := 24) (pcT := 28) ⟨rfl, rfl⟩ rfl (fun h1 => ?_) (fun h1 => ?_)
    · refine w_ic (pc' := 29) ⟨rfl, rfl⟩ ?_
      refine w_ireturn (pc' := 30) ⟨rfl, rfl⟩ (by decide) ?_
      exact k0 (fun q => h1 q.2)
    · refine w_ic (pc' := 25) ⟨rfl, rfl⟩ ?_
      refine w_goto (pc' := 28) (pcT := 29) ⟨rfl, rfl⟩ rfl ?_
      refine w_ireturn (pc' := 30) ⟨rfl, rfl⟩ (by decide) ?_
      exact k1 ⟨h.2.2, h1⟩
  · refine w_ifT_eq (pc' := 8) (pcT := 28) ⟨rfl, rfl⟩ rfl (by decide) ?_
    refine w_ic (pc' := 29) ⟨rfl, rfl⟩ ?_
    refine w_ireturn (pc' := 30) ⟨rfl, rfl⟩ (by decide) ?_
    exact k0 (fun q => h ⟨by omega, by omega, q.1⟩)
theorem c_valueAt {σ : zSt} {o s f r i : Nat} {t : zBk} (hF : zFx σ) (hO : zIsS o) (hS : zSh σ o t s) (hV : zVs t s) (hs : s < 3) (hf : (f : Int) < zNF t s) (hr : r < 8) (hi : (i : Int) < zCE t s f) {pl : Int} (hpl : pl = r * zCE t s f + i) {Q : zSt → Option Value → Prop} (k : Q σ (some (.long (zvl (zKD t s f) (zL σ 80 (zpq t s f r i)))))) : zCa 61 [.ref 79, .int (iZ s), .ref o, .int (iZ f), .int (iZ pl)] σ Q := by
  refine w_enter (c := zk_X6_valueAt) (ls2 := [(0, .ref 79), (1, .int (iZ s)), (2, .ref o), (3, .int (iZ f)), (4, .int (iZ pl))]) rfl ⟨rfl, rfl, rfl, rfl, rfl, trivial⟩ ?_
  have hn := hV.1
  refine w_aload_n (pc' := 1) ⟨rfl, rfl⟩ rfl ?_
  refine w_iload_n (pc' := 2) ⟨rfl, rfl⟩ rfl ?_
  refine w_aload_n (pc' := 3) ⟨rfl, rfl⟩ rfl ?_
  refine w_iload_n (pc' := 4) ⟨rfl, rfl⟩ rfl ?_
  refine w_iload (pc' := 6) ⟨rfl, rfl⟩ rfl ?_
  refine w_cv5 (pc' := 9) ⟨rfl, rfl⟩ (by decide) (zOl hF rfl) (Nat.le_of_ble_eq_true rfl) (Nat.le_of_ble_eq_true rfl) (c_rawAt hF hO hS hV hs hf hr hi hpl ?_)
  refine w_lstore (pc' := 11) ⟨rfl, rfl⟩ rfl rfl ?_
  refine w_lload (pc' := 13) ⟨rfl, rfl⟩ rfl ?_
  refine w_ldc2Y (pc' := 16) (z := -1) ⟨rfl, rfl⟩ rfl ?_
  refine w_lcmp (pc' := 17) ⟨rfl, rfl⟩ ?_
  refine w_ifc_ne (pc' := 20) (pcT := 32) ⟨rfl, rfl⟩ rfl (fun h1 => ?_) (fun h1 => ?_)
  · refine w_lload (pc' := 34) ⟨rfl, rfl⟩ rfl ?_
    refine w_lreturn (pc' := 35) ⟨rfl, rfl⟩ ?_
    first | (rw [zvl, if_pos ⟨h.2.2, h1⟩] at k; exact k) | (rw [zvl, if_neg (fun q => h1 q.2)] at k; exact k) | (rw [zvl, if_neg (fun q => h ⟨by omega, by omega, q.1⟩)] at k; exact k)
  · refine w_aload_n (pc' := 21) ⟨rfl, rfl⟩ rfl ?_
    refine w_iload_n (pc' := 22) ⟨rfl, rfl⟩ rfl ?_
    refine w_cv2 (pc' := 25) ⟨rfl, rfl⟩ (by decide) (hO.o hF) (Nat.le_of_ble_eq_true rfl) (Nat.le_of_ble_eq_true rfl) (c_hasWords hF hO hS hV (by omega) (fun h => ?_) (fun h => ?_))
    · refine w_ifF_eq (pc' := 28) ⟨rfl, rfl⟩ (by decide) ?_
      refine w_lc (pc' := 29) (z := 0) ⟨rfl, rfl⟩ rfl ?_
      refine w_goto (pc' := 32) (pcT := 34) ⟨rfl, rfl⟩ rfl ?_
      refine w_lreturn (pc' := 35) ⟨rfl, rfl⟩ ?_
      first | (rw [zvl, if_pos ⟨h.2.2, h1⟩] at k; exact k) | (rw [zvl, if_neg (fun q => h1 q.2)] at k; exact k) | (rw [zvl, if_neg (fun q => h ⟨by omega, by omega, q.1⟩)] at k; exact k)
    · refine w_ifT_eq (pc' := 28) (pcT := 32) ⟨rfl, rfl⟩ rfl (by decide) ?_
      refine w_lload (pc' := 34) ⟨rfl, rfl⟩ rfl ?_
      refine w_lreturn (pc' := 35) ⟨rfl, rfl⟩ ?_
      first | (rw [zvl, if_pos ⟨h.2.2, h1⟩] at k; exact k) | (rw [zvl, if_neg (fun q => h1 q.2)] at k; exact k) | (rw [zvl, if_neg (fun q => h ⟨by omega, by omega, q.1⟩)] at k; exact k)
theorem c_thingKind {σ : zSt} {z : Nat} {x : Int} (hF : zFx σ) (hz : z < 4) (hx : zL σ 80 (3 + z) = lZ x) {Q : zSt → Option Value → Prop} (k : Q σ (some (.int (iZ x)))) : zCa 63 [.ref 79, .int (iZ z)] σ Q := by
  refine w_enter (c := zk_X6_thingKind) (ls2 := [(0, .ref 79), (1, .int (iZ z))]) rfl ⟨rfl, rfl, trivial⟩ ?_
  refine w_iload_n (pc' := 1) ⟨rfl, rfl⟩ rfl ?_
  refine w_ifF_lt (pc' := 4) ⟨rfl, rfl⟩ (by omega) ?_
  refine w_iload_n (pc' := 5) ⟨rfl, rfl⟩ rfl ?_
  refine w_ic (pc' := 6) ⟨rfl, rfl⟩ ?_
  refine w_icF_ge (pc' := 9) ⟨rfl, rfl⟩ (by omega) ?_
  refine w_aload_n (pc' := 10) ⟨rfl, rfl⟩ rfl ?_
  refine w_getR (pc' := 13) (cl := 4) (q := 0) ⟨rfl, rfl⟩ ⟨rfl, by decide⟩ (zOl hF rfl) (hF.2 79 0 80 rfl) ?_
  refine w_ic (pc' := 14) ⟨rfl, rfl⟩ ?_
  refine w_iload_n (pc' := 15) ⟨rfl, rfl⟩ rfl ?_
  refine w_iaddZ (pc' := 16) ⟨rfl, rfl⟩ ?_
  refine w_lald (pc' := 17) ⟨rfl, rfl⟩ (zAl hF rfl) (zixA (j := 3 + z) (by omega)) hx ?_
  refine w_l2iY (pc' := 18) ⟨rfl, rfl⟩ ?_
  refine w_goto (pc' := 21) (pcT := 23) ⟨rfl, rfl⟩ rfl ?_
  refine w_ireturn (pc' := 24) ⟨rfl, rfl⟩ (Or.inl rfl) ?_
  exact k
theorem c_thingValue {σ : zSt} {z : Nat} (hF : zFx σ) (hz : z < 4) {Q : zSt → Option Value → Prop} (k : Q σ (some (.long (zL σ 80 (7 + z))))) : zCa 64 [.ref 79, .int (iZ z)] σ Q := by
  refine w_enter (c := zk_X6_thingValue) (ls2 := [(0, .ref 79), (1, .int (iZ z))]) rfl ⟨rfl, rfl, trivial⟩ ?_
  refine w_iload_n (pc' := 1) ⟨rfl, rfl⟩ rfl ?_
  refine w_ifF_lt (pc' := 4) ⟨rfl, rfl⟩ (by omega) ?_
  refine w_iload_n (pc' := 5) ⟨rfl, rfl⟩ rfl ?_
  refine w_ic (pc' := 6) ⟨rfl, rfl⟩ ?_
  refine w_icF_ge (pc' := 9) ⟨rfl, rfl⟩ (by omega) ?_
  refine w_aload_n (pc' := 10) ⟨rfl, rfl⟩ rfl ?_
  refine w_getR (pc' := 13) (cl := 4) (q := 0) ⟨rfl, rfl⟩ ⟨rfl, by decide⟩ (zOl hF rfl) (hF.2 79 0 80 rfl) ?_
  refine w_bi (pc' := 15) ⟨rfl, rfl⟩ (by decide) ?_
  refine w_iload_n (pc' := 16) ⟨rfl, rfl⟩ rfl ?_
  refine w_iaddZ (pc' := 17) ⟨rfl, rfl⟩ ?_
  refine w_lald (pc' := 18) ⟨rfl, rfl⟩ (zAl hF rfl) (zixA (j := 7 + z) (by omega)) rfl ?_
  refine w_goto (pc' := 21) (pcT := 22) ⟨rfl, rfl⟩ rfl ?_
  refine w_lreturn (pc' := 23) ⟨rfl, rfl⟩ ?_
  exact k
theorem c_setThing {σ : zSt} {z : Nat} {a : Int} {x : Int64} (hF : zFx σ) (hz : z < 4) (ha : -2147483648 ≤ a ∧ a ≤ 2147483647) {Q : zSt → Option Value → Prop} (k : Q (zwL (zwL σ 80 (3 + z) (lZ a)) 80 (7 + z) x) none) : zCa 65 [.ref 79, .int (iZ z), .int (iZ a), .long x] σ Q := by
  refine w_enter (c := zk_X6_setThing) (ls2 := [(0, .ref 79), (1, .int (iZ z)), (2, .int (iZ a)), (3, .long x)]) rfl ⟨rfl, rfl, rfl, rfl, trivial⟩ ?_
  refine w_iload_n (pc' := 1) ⟨rfl, rfl⟩ rfl ?_
  refine w_ifF_lt (pc' := 4) ⟨rfl, rfl⟩ (by omega) ?_
  refine w_iload_n (pc' := 5) ⟨rfl, rfl⟩ rfl ?_
  refine w_ic (pc' := 6) ⟨rfl, rfl⟩ ?_
  refine w_icF_ge (pc' := 9) ⟨rfl, rfl⟩ (by omega) ?_
  refine w_aload_n (pc' := 10) ⟨rfl, rfl⟩ rfl ?_
  refine w_getR (pc' := 13) (cl := 4) (q := 0) ⟨rfl, rfl⟩ ⟨rfl, by decide⟩ (zOl hF rfl) (hF.2 79 0 80 rfl) ?_
  refine w_ic (pc' := 14) ⟨rfl, rfl⟩ ?_
  refine w_iload_n (pc' := 15) ⟨rfl, rfl⟩ rfl ?_
  refine w_iaddZ (pc' := 16) ⟨rfl, rfl⟩ ?_
  refine w_iload_n (pc' := 17) ⟨rfl, rfl⟩ rfl ?_
  refine w_i2lZ (pc' := 18) ⟨rfl, rfl⟩ (by omega) ?_
  refine w_last (pc' := 19) ⟨rfl, rfl⟩ (zAl hF rfl) (zixA (j := 3 + z) (by omega)) ?_
  refine w_aload_n (pc' := 20) ⟨rfl, rfl⟩ rfl ?_
  refine w_getR (pc' := 23) (cl := 4) (q := 0) ⟨rfl, rfl⟩ ⟨rfl, by decide⟩ (zOl hF rfl) (hF.2 79 0 80 rfl) ?_
  refine w_bi (pc' := 25) ⟨rfl, rfl⟩ (by decide) ?_
  refine w_iload_n (pc' := 26) ⟨rfl, rfl⟩ rfl ?_
  refine w_iaddZ (pc' := 27) ⟨rfl, rfl⟩ ?_
  refine w_lload_n (pc' := 28) ⟨rfl, rfl⟩ rfl ?_
  refine w_last (pc' := 29) ⟨rfl, rfl⟩ (zAl hF rfl) (zixA (j := 7 + z) (by omega)) ?_
  refine w_return (pc' := 30) ⟨rfl, rfl⟩ ?_
  exact k
