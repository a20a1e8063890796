/-! THE READER: what takes a scheme -/
theorem c_tStS {σ : zSt} (hF : zFx σ) (h5 : zR σ 1 2 = some 5) {p : Nat} {wd : Int32} (ht : zTok σ p 6 wd 9 0 0) {a : Nat} (ha : a < 3) (h52 : zI σ 5 2 = iZ (a : Int)) (h53 : zI σ 5 3 = iZ 0) {Q : zSt → Option Value → Prop} (k : ∀ σ2, zWnt σ σ2 1 (p + 6) → Q σ2 (some (.int (iZ 1)))) : zCa 11 [.ref 1] σ Q := by
  refine w_enter (c := zk_X0_takeStatement) (ls2 := [(0, .ref 1)]) rfl ⟨rfl, trivial⟩ ?_
  obtain ⟨i4, i5, i6, i7, i8, i9⟩ := ht
  refine w_aload_n (pc' := 1) ⟨rfl, rfl⟩ rfl ?_
  refine w_getI (pc' := 4) (cl := 0) (q := 7) ⟨rfl, rfl⟩ ⟨rfl, by decide⟩ (zOl hF rfl) i7 ?_
  refine w_bi (pc' := 6) ⟨rfl, rfl⟩ (by decide) ?_
  refine w_icF_ne (pc' := 9) ⟨rfl, rfl⟩ (by omega) ?_
  refine w_aload_n (pc' := 10) ⟨rfl, rfl⟩ rfl ?_
  refine w_getR (pc' := 13) (cl := 0) (q := 2) ⟨rfl, rfl⟩ ⟨rfl, by decide⟩ (zOl hF rfl) h5 ?_
  refine w_getI (pc' := 16) (cl := 3) (q := 2) ⟨rfl, rfl⟩ ⟨rfl, by decide⟩ (zOl hF rfl) h52 ?_
  refine w_ic (pc' := 17) ⟨rfl, rfl⟩ ?_
  refine w_icF_ge (pc' := 20) ⟨rfl, rfl⟩ (by omega) ?_
  refine w_aload_n (pc' := 21) ⟨rfl, rfl⟩ rfl ?_
  refine w_getR (pc' := 24) (cl := 0) (q := 2) ⟨rfl, rfl⟩ ⟨rfl, by decide⟩ (zOl hF rfl) h5 ?_
  refine w_getI (pc' := 27) (cl := 3) (q := 3) ⟨rfl, rfl⟩ ⟨rfl, by decide⟩ (zOl hF rfl) h53 ?_
  refine w_ifT_le (pc' := 30) (pcT := 34) ⟨rfl, rfl⟩ rfl (by decide) ?_
  refine w_ic (pc' := 35) ⟨rfl, rfl⟩ ?_
  refine w_istore_n (pc' := 36) ⟨rfl, rfl⟩ rfl ?_
  refine w_iload_n (pc' := 37) ⟨rfl, rfl⟩ rfl ?_
  refine w_ifT_eq (pc' := 40) (pcT := 52) ⟨rfl, rfl⟩ rfl (by decide) ?_
  refine w_aload_n (pc' := 53) ⟨rfl, rfl⟩ rfl ?_
  refine w_ic (pc' := 54) ⟨rfl, rfl⟩ ?_
  refine w_cv2 (pc' := 57) ⟨rfl, rfl⟩ (by decide) (zOl hF rfl) (Nat.le_of_ble_eq_true rfl) (Nat.le_of_ble_eq_true rfl) (c_goOn hF ⟨i4, i5, i6, i7, i8, i9⟩ (d := 6) (by decide) (by decide) (by decide) (fun σ2 h2 => ?_))
  refine w_ireturn (pc' := 58) ⟨rfl, rfl⟩ (by decide) ?_
  exact k _ h2
theorem t_tStS {σ : zSt} (hF : zFx σ) (h5 : zR σ 1 2 = some 5) {p : Nat} {wd : Int32} (ht : zTok σ p 6 wd 9 0 0) {a : Nat} (ha : a < 3) (h52 : zI σ 5 2 = iZ (a : Int)) (h53 : zI σ 5 3 = iZ 0) (i3 : zI σ 1 3 = iZ 0) {Q : zSt → Option Value → Prop} (k : ∀ σ2, zWnt σ σ2 1 (p + 6) → Q σ2 (some (.int (iZ 1)))) : zCa 3 [.ref 1] σ Q := by
  refine w_enter (c := zk_X0_takeInScheme) (ls2 := [(0, .ref 1)]) rfl ⟨rfl, trivial⟩ ?_
  refine w_aload_n (pc' := 1) ⟨rfl, rfl⟩ rfl ?_
  refine w_getI (pc' := 4) (cl := 0) (q := 3) ⟨rfl, rfl⟩ ⟨rfl, by decide⟩ (zOl hF rfl) i3 ?_
  refine w_tsInZ (pc' := 44) (pcT := 44) 0 ⟨rfl, rfl⟩ (by decide) (by decide) rfl rfl ?_
  refine w_aload_n (pc' := 45) ⟨rfl, rfl⟩ rfl ?_
  refine w_cv1 (pc' := 48) ⟨rfl, rfl⟩ (by decide) (zOl hF rfl) (Nat.le_of_ble_eq_true rfl) (Nat.le_of_ble_eq_true rfl) (c_tStS hF h5 ht ha h52 h53 (fun σ2 h2 => ?_))
  refine w_ireturn (pc' := 49) ⟨rfl, rfl⟩ (by decide) ?_
  exact k _ h2
theorem c_tStC {σ : zSt} (hF : zFx σ) (h5 : zR σ 1 2 = some 5) {p : Nat} {wd : Int32} (ht : zTok σ p 5 wd 11 0 0) {a b : Nat} (ha : 1 ≤ a ∧ a ≤ 3) (hb : b < 4) (h52 : zI σ 5 2 = iZ (a : Int)) (h53 : zI σ 5 3 = iZ (b : Int)) {Q : zSt → Option Value → Prop} (k : ∀ σ2, zWnt σ σ2 7 (p + 5) → Q σ2 (some (.int (iZ 1)))) : zCa 11 [.ref 1] σ Q := by
  refine w_enter (c := zk_X0_takeStatement) (ls2 := [(0, .ref 1)]) rfl ⟨rfl, trivial⟩ ?_
  obtain ⟨i4, i5, i6, i7, i8, i9⟩ := ht
  refine w_aload_n (pc' := 1) ⟨rfl, rfl⟩ rfl ?_
  refine w_getI (pc' := 4) (cl := 0) (q := 7) ⟨rfl, rfl⟩ ⟨rfl, by decide⟩ (zOl hF rfl) i7 ?_
  refine w_bi (pc' := 6) ⟨rfl, rfl⟩ (by decide) ?_
  refine w_icT_ne (pc' := 9) (pcT := 58) ⟨rfl, rfl⟩ rfl (by omega) ?_
  refine w_aload_n (pc' := 59) ⟨rfl, rfl⟩ rfl ?_
  refine w_getI (pc' := 62) (cl := 0) (q := 7) ⟨rfl, rfl⟩ ⟨rfl, by decide⟩ (zOl hF rfl) i7 ?_
  refine w_bi (pc' := 64) ⟨rfl, rfl⟩ (by decide) ?_
  refine w_icF_ne (pc' := 67) ⟨rfl, rfl⟩ (by omega) ?_
  refine w_aload_n (pc' := 68) ⟨rfl, rfl⟩ rfl ?_
  refine w_getR (pc' := 71) (cl := 0) (q := 2) ⟨rfl, rfl⟩ ⟨rfl, by decide⟩ (zOl hF rfl) h5 ?_
  refine w_getI (pc' := 74) (cl := 3) (q := 2) ⟨rfl, rfl⟩ ⟨rfl, by decide⟩ (zOl hF rfl) h52 ?_
  refine w_ifT_ne (pc' := 77) (pcT := 87) ⟨rfl, rfl⟩ rfl (by omega) ?_
  refine w_aload_n (pc' := 88) ⟨rfl, rfl⟩ rfl ?_
  refine w_getR (pc' := 91) (cl := 0) (q := 2) ⟨rfl, rfl⟩ ⟨rfl, by decide⟩ (zOl hF rfl) h5 ?_
  refine w_getI (pc' := 94) (cl := 3) (q := 3) ⟨rfl, rfl⟩ ⟨rfl, by decide⟩ (zOl hF rfl) h53 ?_
  refine w_ic (pc' := 95) ⟨rfl, rfl⟩ ?_
  refine w_icT_lt (pc' := 98) (pcT := 102) ⟨rfl, rfl⟩ rfl (by omega) ?_
  refine w_ic (pc' := 103) ⟨rfl, rfl⟩ ?_
  refine w_istore_n (pc' := 104) ⟨rfl, rfl⟩ rfl ?_
  refine w_iload_n (pc' := 105) ⟨rfl, rfl⟩ rfl ?_
  refine w_ifT_eq (pc' := 108) (pcT := 120) ⟨rfl, rfl⟩ rfl (by decide) ?_
  refine w_aload_n (pc' := 121) ⟨rfl, rfl⟩ rfl ?_
  refine w_bi (pc' := 123) ⟨rfl, rfl⟩ (by decide) ?_
  refine w_cv2 (pc' := 126) ⟨rfl, rfl⟩ (by decide) (zOl hF rfl) (Nat.le_of_ble_eq_true rfl) (Nat.le_of_ble_eq_true rfl) (c_goOn hF ⟨i4, i5, i6, i7, i8, i9⟩ (d := 5) (by decide) (by decide) (by decide) (fun σ2 h2 => ?_))
  refine w_ireturn (pc' := 127) ⟨rfl, rfl⟩ (by decide) ?_
  exact k _ h2
theorem t_tStC {σ : zSt} (hF : zFx σ) (h5 : zR σ 1 2 = some 5) {p : Nat} {wd : Int32} (ht : zTok σ p 5 wd 11 0 0) {a b : Nat} (ha : 1 ≤ a ∧ a ≤ 3) (hb : b < 4) (h52 : zI σ 5 2 = iZ (a : Int)) (h53 : zI σ 5 3 = iZ (b : Int)) (i3 : zI σ 1 3 = iZ 0) {Q : zSt → Option Value → Prop} (k : ∀ σ2, zWnt σ σ2 7 (p + 5) → Q σ2 (some (.int (iZ 1)))) : zCa 3 [.ref 1] σ Q := by
  refine w_enter (c := zk_X0_takeInScheme) (ls2 := [(0, .ref 1)]) rfl ⟨rfl, trivial⟩ ?_
  refine w_aload_n (pc' := 1) ⟨rfl, rfl⟩ rfl ?_
  refine w_getI (pc' := 4) (cl := 0) (q := 3) ⟨rfl, rfl⟩ ⟨rfl, by decide⟩ (zOl hF rfl) i3 ?_
  refine w_tsInZ (pc' := 44) (pcT := 44) 0 ⟨rfl, rfl⟩ (by decide) (by decide) rfl rfl ?_
  refine w_aload_n (pc' := 45) ⟨rfl, rfl⟩ rfl ?_
  refine w_cv1 (pc' := 48) ⟨rfl, rfl⟩ (by decide) (zOl hF rfl) (Nat.le_of_ble_eq_true rfl) (Nat.le_of_ble_eq_true rfl) (c_tStC hF h5 ht ha hb h52 h53 (fun σ2 h2 => ?_))
  refine w_ireturn (pc' := 49) ⟨rfl, rfl⟩ (by decide) ?_
  exact k _ h2
theorem c_tNm {σ : zSt} (hF : zFx σ) (h5 : zR σ 1 2 = some 5) {p a : Nat} (ht : zTok σ p 2 (iZ (zsN a)) (-1) 0 0) (ha : a < 3) (h52 : zI σ 5 2 = iZ (a : Int)) {b : Int32} (h53 : zI σ 5 3 = b) (hnm : ∀ s : Nat, s < a → zI σ (5 + 3 + 5 * s) 4 = iZ (zsN s)) {Q : zSt → Option Value → Prop} (k : ∀ σ2, zFk [1, 5, 5 + 3 + 5 * a] σ σ2 → zI σ2 1 3 = iZ 2 → zI σ2 1 4 = iZ ((p + 2 : Nat) : Int) → zR σ2 1 10 = some (5 + 3 + 5 * a) → zI σ2 5 2 = iZ ((a : Int) + 1) → zI σ2 5 3 = b → (∀ K C, zShp σ2 (5 + 3 + 5 * a) (zsN a) 0 K C) → Q σ2 (some (.int (iZ 1)))) : zCa 12 [.ref 1] σ Q := by
  refine w_enter (c := zk_X0_takeSchemeName) (ls2 := [(0, .ref 1)]) rfl ⟨rfl, trivial⟩ ?_
  refine w_aload_n (pc' := 1) ⟨rfl, rfl⟩ rfl ?_
  refine w_cv1 (pc' := 4) ⟨rfl, rfl⟩ (by decide) (zOl hF rfl) (Nat.le_of_ble_eq_true rfl) (Nat.le_of_ble_eq_true rfl) (c_nameStands hF ht (by decide) ?_)
  refine w_ifT_ne (pc' := 7) (pcT := 9) ⟨rfl, rfl⟩ rfl (by decide) ?_
  refine w_aload_n (pc' := 10) ⟨rfl, rfl⟩ rfl ?_
  refine w_getR (pc' := 13) (cl := 0) (q := 2) ⟨rfl, rfl⟩ ⟨rfl, by decide⟩ (zOl hF rfl) h5 ?_
  refine w_aload_n (pc' := 14) ⟨rfl, rfl⟩ rfl ?_
  refine w_getI (pc' := 17) (cl := 0) (q := 6) ⟨rfl, rfl⟩ ⟨rfl, by decide⟩ (zOl hF rfl) ht.2.2.1 ?_
  refine w_cv2 (pc' := 20) ⟨rfl, rfl⟩ (by decide) (zOl hF rfl) (Nat.le_of_ble_eq_true rfl) (Nat.le_of_ble_eq_true rfl) (c_sonN hF (by omega) h52 hnm (v := zsN a) (fun f hf => zsN_ne (by omega) (by omega) (by omega)) (by have := zsN_rng (f := a) (by omega); omega) ?_)
  refine w_ic (pc' := 21) ⟨rfl, rfl⟩ ?_
  refine w_icT_eq (pc' := 24) (pcT := 34) ⟨rfl, rfl⟩ rfl (by decide) ?_
  refine w_aload_n (pc' := 35) ⟨rfl, rfl⟩ rfl ?_
  refine w_getR (pc' := 38) (cl := 0) (q := 2) ⟨rfl, rfl⟩ ⟨rfl, by decide⟩ (zOl hF rfl) h5 ?_
  refine w_aload_n (pc' := 39) ⟨rfl, rfl⟩ rfl ?_
  refine w_getI (pc' := 42) (cl := 0) (q := 6) ⟨rfl, rfl⟩ ⟨rfl, by decide⟩ (zOl hF rfl) ht.2.2.1 ?_
  refine w_cv2 (pc' := 45) ⟨rfl, rfl⟩ (by decide) (zOl hF rfl) (Nat.le_of_ble_eq_true rfl) (Nat.le_of_ble_eq_true rfl) (c_addShape hF ha h52 h53 (fun σ3 m3 e52 e53 s3 => ?_))
  have hF := m3.fx hF
  refine w_astore_n (pc' := 46) ⟨rfl, rfl⟩ rfl ?_
  refine w_aload_n (pc' := 47) ⟨rfl, rfl⟩ rfl ?_
  refine w_ifnonnullR (pc' := 50) (pcT := 60) ⟨rfl, rfl⟩ rfl  ?_
  refine w_aload_n (pc' := 61) ⟨rfl, rfl⟩ rfl ?_
  refine w_aload_n (pc' := 62) ⟨rfl, rfl⟩ rfl ?_
  refine w_putR (pc' := 65) (cl := 0) (q := 10) ⟨rfl, rfl⟩ ⟨rfl, by decide⟩ (zOl hF rfl) ?_
  refine w_gR (by decide) (fun σ4 m4 r4 _ => ?_)
  have hF := m4.fx hF
  have ht4 : zTok σ4 p 2 (iZ (zsN a)) (-1) 0 0 := ⟨m4.i (m3.i ht.1 (by simp only [List.mem_cons, List.not_mem_nil, or_false, not_false_eq_true] <;> omega)) (by simp only [List.mem_cons, List.not_mem_nil, or_false, not_false_eq_true] <;> omega), m4.i (m3.i ht.2.1 (by simp only [List.mem_cons, List.not_mem_nil, or_false, not_false_eq_true] <;> omega)) (by simp only [List.mem_cons, List.not_mem_nil, or_false, not_false_eq_true] <;> omega), m4.i (m3.i ht.2.2.1 (by simp only [List.mem_cons, List.not_mem_nil, or_false, not_false_eq_true] <;> omega)) (by simp only [List.mem_cons, List.not_mem_nil, or_false, not_false_eq_true] <;> omega), m4.i (m3.i ht.2.2.2.1 (by simp only [List.mem_cons, List.not_mem_nil, or_false, not_false_eq_true] <;> omega)) (by simp only [List.mem_cons, List.not_mem_nil, or_false, not_false_eq_true] <;> omega), m4.i (m3.i ht.2.2.2.2.1 (by simp only [List.mem_cons, List.not_mem_nil, or_false, not_false_eq_true] <;> omega)) (by simp only [List.mem_cons, List.not_mem_nil, or_false, not_false_eq_true] <;> omega), m4.i (m3.i ht.2.2.2.2.2 (by simp only [List.mem_cons, List.not_mem_nil, or_false, not_false_eq_true] <;> omega)) (by simp only [List.mem_cons, List.not_mem_nil, or_false, not_false_eq_true] <;> omega)⟩
  refine w_aload_n (pc' := 66) ⟨rfl, rfl⟩ rfl ?_
  refine w_ic (pc' := 67) ⟨rfl, rfl⟩ ?_
  refine w_cv2 (pc' := 70) ⟨rfl, rfl⟩ (by decide) (zOl hF rfl) (Nat.le_of_ble_eq_true rfl) (Nat.le_of_ble_eq_true rfl) (c_goOn hF ht4 (d := 2) (by decide) (by decide) (by decide) (fun σ2 h2 => ?_))
  refine w_ireturn (pc' := 71) ⟨rfl, rfl⟩ (by decide) ?_
  have m5 := h2.1
  refine k _ (((m3.q.mono (fun _ h => by simp only [List.mem_cons, List.not_mem_nil, or_false] at h ⊢ <;> omega)).trans (m4.mono (fun _ h => by simp only [List.mem_cons, List.not_mem_nil, or_false] at h ⊢ <;> omega))).trans (m5.q.mono (fun _ h => by simp only [List.mem_cons, List.not_mem_nil, or_false] at h ⊢ <;> omega))) h2.2.1 h2.2.2.1 (m5.r r4) (m5.i (m4.i e52 (by simp only [List.mem_cons, List.not_mem_nil, or_false, not_false_eq_true] <;> omega)) (by simp only [List.mem_cons, List.not_mem_nil, or_false, not_false_eq_true] <;> omega)) (m5.i (m4.i e53 (by simp only [List.mem_cons, List.not_mem_nil, or_false, not_false_eq_true] <;> omega)) (by simp only [List.mem_cons, List.not_mem_nil, or_false, not_false_eq_true] <;> omega)) (fun K C => ((s3 K C).fr m4 (by simp only [List.mem_cons, List.not_mem_nil, or_false, not_false_eq_true] <;> omega) (by simp only [List.mem_cons, List.not_mem_nil, or_false, not_false_eq_true] <;> omega) (by simp only [List.mem_cons, List.not_mem_nil, or_false, not_false_eq_true] <;> omega) (by simp only [List.mem_cons, List.not_mem_nil, or_false, not_false_eq_true] <;> omega) (by simp only [List.mem_cons, List.not_mem_nil, or_false, not_false_eq_true] <;> omega)).fr m5.q (by simp only [List.mem_cons, List.not_mem_nil, or_false, not_false_eq_true] <;> omega) (by simp only [List.mem_cons, List.not_mem_nil, or_false, not_false_eq_true] <;> omega) (by simp only [List.mem_cons, List.not_mem_nil, or_false, not_false_eq_true] <;> omega) (by simp only [List.mem_cons, List.not_mem_nil, or_false, not_false_eq_true] <;> omega) (by simp only [List.mem_cons, List.not_mem_nil, or_false, not_false_eq_true] <;> omega))
theorem t_tNm {σ : zSt} (hF : zFx σ) (h5 : zR σ 1 2 = some 5) {p a : Nat} (ht : zTok σ p 2 (iZ (zsN a)) (-1) 0 0) (ha : a < 3) (h52 : zI σ 5 2 = iZ (a : Int)) {b : Int32} (h53 : zI σ 5 3 = b) (hnm : ∀ s : Nat, s < a → zI σ (5 + 3 + 5 * s) 4 = iZ (zsN s)) (i3 : zI σ 1 3 = iZ 1) {Q : zSt → Option Value → Prop} (k : ∀ σ2, zFk [1, 5, 5 + 3 + 5 * a] σ σ2 → zI σ2 1 3 = iZ 2 → zI σ2 1 4 = iZ ((p + 2 : Nat) : Int) → zR σ2 1 10 = some (5 + 3 + 5 * a) → zI σ2 5 2 = iZ ((a : Int) + 1) → zI σ2 5 3 = b → (∀ K C, zShp σ2 (5 + 3 + 5 * a) (zsN a) 0 K C) → Q σ2 (some (.int (iZ 1)))) : zCa 3 [.ref 1] σ Q := by
  refine w_enter (c := zk_X0_takeInScheme) (ls2 := [(0, .ref 1)]) rfl ⟨rfl, trivial⟩ ?_
  refine w_aload_n (pc' := 1) ⟨rfl, rfl⟩ rfl ?_
  refine w_getI (pc' := 4) (cl := 0) (q := 3) ⟨rfl, rfl⟩ ⟨rfl, by decide⟩ (zOl hF rfl) i3 ?_
  refine w_tsInZ (pc' := 44) (pcT := 49) 1 ⟨rfl, rfl⟩ (by decide) (by decide) rfl rfl ?_
  refine w_aload_n (pc' := 50) ⟨rfl, rfl⟩ rfl ?_
  refine w_cv1 (pc' := 53) ⟨rfl, rfl⟩ (by decide) (zOl hF rfl) (Nat.le_of_ble_eq_true rfl) (Nat.le_of_ble_eq_true rfl) (c_tNm hF h5 ht ha h52 h53 hnm (fun σ2 x1 x2 x3 x4 x5 x6 x7 => ?_))
  refine w_ireturn (pc' := 54) ⟨rfl, rfl⟩ (by decide) ?_
  exact k _ x1 x2 x3 x4 x5 x6 x7
theorem c_tKd {σ : zSt} (hF : zFx σ) {p : Nat} {le kd : Int} {wd : Int32} (ht : zTok σ p le wd kd 0 0) (hle : 1 ≤ le ∧ le ≤ 6) {d : Nat} (hd : le = d) (hk : 0 ≤ kd ∧ kd ≤ 8) {o : Nat} (hO : zIsS o) (hr : zR σ 1 10 = some o) {nm : Int} {n : Nat} {K C : Nat → Int} (hS : zShp σ o nm n K C) (hn : n < 6) {Q : zSt → Option Value → Prop} (k : ∀ σ2, zFm [1] σ σ2 → zI σ2 1 3 = iZ 3 → zI σ2 1 4 = iZ ((p + d : Nat) : Int) → zI σ2 1 11 = iZ kd → Q σ2 (some (.int (iZ 1)))) : zCa 13 [.ref 1] σ Q := by
  refine w_enter (c := zk_X0_takeKind) (ls2 := [(0, .ref 1)]) rfl ⟨rfl, trivial⟩ ?_
  obtain ⟨i4, i5, i6, i7, i8, i9⟩ := ht
  refine w_aload_n (pc' := 1) ⟨rfl, rfl⟩ rfl ?_
  refine w_getR (pc' := 4) (cl := 0) (q := 10) ⟨rfl, rfl⟩ ⟨rfl, by decide⟩ (zOl hF rfl) hr ?_
  refine w_getI (pc' := 7) (cl := 6) (q := 5) ⟨rfl, rfl⟩ ⟨rfl, by decide⟩ (hO.o hF) hS.2.1 ?_
  refine w_bi (pc' := 9) ⟨rfl, rfl⟩ (by decide) ?_
  refine w_icT_lt (pc' := 12) (pcT := 17) ⟨rfl, rfl⟩ rfl (by omega) ?_
  refine w_aload_n (pc' := 18) ⟨rfl, rfl⟩ rfl ?_
  refine w_getI (pc' := 21) (cl := 0) (q := 7) ⟨rfl, rfl⟩ ⟨rfl, by decide⟩ (zOl hF rfl) i7 ?_
  refine w_ifF_lt (pc' := 24) ⟨rfl, rfl⟩ (by omega) ?_
  refine w_aload_n (pc' := 25) ⟨rfl, rfl⟩ rfl ?_
  refine w_getI (pc' := 28) (cl := 0) (q := 7) ⟨rfl, rfl⟩ ⟨rfl, by decide⟩ (zOl hF rfl) i7 ?_
  refine w_bi (pc' := 30) ⟨rfl, rfl⟩ (by decide) ?_
  refine w_icT_le (pc' := 33) (pcT := 43) ⟨rfl, rfl⟩ rfl (by omega) ?_
  refine w_aload_n (pc' := 44) ⟨rfl, rfl⟩ rfl ?_
  refine w_aload_n (pc' := 45) ⟨rfl, rfl⟩ rfl ?_
  refine w_getI (pc' := 48) (cl := 0) (q := 7) ⟨rfl, rfl⟩ ⟨rfl, by decide⟩ (zOl hF rfl) i7 ?_
  refine w_putI (pc' := 51) (cl := 0) (q := 11) ⟨rfl, rfl⟩ ⟨rfl, by decide⟩ (zOl hF rfl) ?_
  refine w_gI (fun v1 w1 e1 o1 => ?_)
  have hF := w1.fx hF
  have i4 := (o1 4 (by decide)).trans i4
  have i5 := (o1 5 (by decide)).trans i5
  have i6 := (o1 6 (by decide)).trans i6
  have i7 := (o1 7 (by decide)).trans i7
  have i8 := (o1 8 (by decide)).trans i8
  have i9 := (o1 9 (by decide)).trans i9
  have i11 := e1
  refine w_aload_n (pc' := 52) ⟨rfl, rfl⟩ rfl ?_
  refine w_ic (pc' := 53) ⟨rfl, rfl⟩ ?_
  refine w_cv2 (pc' := 56) ⟨rfl, rfl⟩ (by decide) (zOl hF rfl) (Nat.le_of_ble_eq_true rfl) (Nat.le_of_ble_eq_true rfl) (c_goOn hF ⟨i4, i5, i6, i7, i8, i9⟩ (d := d) (by omega) (by omega) (by omega) (fun σ2 h2 => ?_))
  refine w_ireturn (pc' := 57) ⟨rfl, rfl⟩ (by decide) ?_
  exact k _ (w1.trans h2.1) h2.2.1 h2.2.2.1 ((h2.2.2.2 11 (by decide) (by decide)).trans i11)
theorem t_tKd {σ : zSt} (hF : zFx σ) {p : Nat} {le kd : Int} {wd : Int32} (ht : zTok σ p le wd kd 0 0) (hle : 1 ≤ le ∧ le ≤ 6) {d : Nat} (hd : le = d) (hk : 0 ≤ kd ∧ kd ≤ 8) {o : Nat} (hO : zIsS o) (hr : zR σ 1 10 = some o) {nm : Int} {n : Nat} {K C : Nat → Int} (hS : zShp σ o nm n K C) (hn : n < 6) (i3 : zI σ 1 3 = iZ 2) {Q : zSt → Option Value → Prop} (k : ∀ σ2, zFm [1] σ σ2 → zI σ2 1 3 = iZ 3 → zI σ2 1 4 = iZ ((p + d : Nat) : Int) → zI σ2 1 11 = iZ kd → Q σ2 (some (.int (iZ 1)))) : zCa 3 [.ref 1] σ Q := by
  refine w_enter (c := zk_X0_takeInScheme) (ls2 := [(0, .ref 1)]) rfl ⟨rfl, trivial⟩ ?_
  refine w_aload_n (pc' := 1) ⟨rfl, rfl⟩ rfl ?_
  refine w_getI (pc' := 4) (cl := 0) (q := 3) ⟨rfl, rfl⟩ ⟨rfl, by decide⟩ (zOl hF rfl) i3 ?_
  refine w_tsInZ (pc' := 44) (pcT := 54) 2 ⟨rfl, rfl⟩ (by decide) (by decide) rfl rfl ?_
  refine w_aload_n (pc' := 55) ⟨rfl, rfl⟩ rfl ?_
  refine w_cv1 (pc' := 58) ⟨rfl, rfl⟩ (by decide) (zOl hF rfl) (Nat.le_of_ble_eq_true rfl) (Nat.le_of_ble_eq_true rfl) (c_tKd hF ht hle hd hk hO hr hS hn (fun σ2 x1 x2 x3 x4 => ?_))
  refine w_ireturn (pc' := 59) ⟨rfl, rfl⟩ (by decide) ?_
  exact k _ x1 x2 x3 x4
theorem c_tFn {σ : zSt} (hF : zFx σ) {p : Nat} {kd : Int} {o : Nat} (hO : zIsS o) (hr : zR σ 1 10 = some o) {nm : Int} {n : Nat} {K C : Nat → Int} (hS : zShp σ o nm n K C) (hn : n < 6) (ht : zTok σ p 2 (iZ (zfN n)) (-1) 0 0) (i11 : zI σ 1 11 = iZ kd) (ho : 5 ≤ o) {Q : zSt → Option Value → Prop} (k : ∀ σ2, zFm [1, o, o + 1, o + 2, o + 3, o + 4] σ σ2 → zI σ2 1 3 = iZ 4 → zI σ2 1 4 = iZ ((p + 2 : Nat) : Int) → (∀ K' C' : Nat → Int, (∀ g, g < n → K' g = K g ∧ C' g = C g) → K' n = kd → C' n = 1 → zShp σ2 o nm (n + 1) K' C') → Q σ2 (some (.int (iZ 1)))) : zCa 14 [.ref 1] σ Q := by
  refine w_enter (c := zk_X0_takeFieldName) (ls2 := [(0, .ref 1)]) rfl ⟨rfl, trivial⟩ ?_
  refine w_aload_n (pc' := 1) ⟨rfl, rfl⟩ rfl ?_
  refine w_cv1 (pc' := 4) ⟨rfl, rfl⟩ (by decide) (zOl hF rfl) (Nat.le_of_ble_eq_true rfl) (Nat.le_of_ble_eq_true rfl) (c_nameStands hF ht (by decide) ?_)
  refine w_ifT_ne (pc' := 7) (pcT := 9) ⟨rfl, rfl⟩ rfl (by decide) ?_
  refine w_aload_n (pc' := 10) ⟨rfl, rfl⟩ rfl ?_
  refine w_getR (pc' := 13) (cl := 0) (q := 10) ⟨rfl, rfl⟩ ⟨rfl, by decide⟩ (zOl hF rfl) hr ?_
  refine w_aload_n (pc' := 14) ⟨rfl, rfl⟩ rfl ?_
  refine w_getI (pc' := 17) (cl := 0) (q := 6) ⟨rfl, rfl⟩ ⟨rfl, by decide⟩ (zOl hF rfl) ht.2.2.1 ?_
  refine w_cv2 (pc' := 20) ⟨rfl, rfl⟩ (by decide) (hO.o hF) (Nat.le_of_ble_eq_true rfl) (Nat.le_of_ble_eq_true rfl) (c_fonN hF hO hS (by omega) (v := zfN n) (fun f hf => zfN_ne (by omega) (by omega) (by omega)) (by have := zfN_rng (f := n) (by omega); omega) ?_)
  refine w_ic (pc' := 21) ⟨rfl, rfl⟩ ?_
  refine w_icT_eq (pc' := 24) (pcT := 34) ⟨rfl, rfl⟩ rfl (by decide) ?_
  refine w_aload_n (pc' := 35) ⟨rfl, rfl⟩ rfl ?_
  refine w_getR (pc' := 38) (cl := 0) (q := 10) ⟨rfl, rfl⟩ ⟨rfl, by decide⟩ (zOl hF rfl) hr ?_
  refine w_aload_n (pc' := 39) ⟨rfl, rfl⟩ rfl ?_
  refine w_getI (pc' := 42) (cl := 0) (q := 6) ⟨rfl, rfl⟩ ⟨rfl, by decide⟩ (zOl hF rfl) ht.2.2.1 ?_
  refine w_aload_n (pc' := 43) ⟨rfl, rfl⟩ rfl ?_
  refine w_getI (pc' := 46) (cl := 0) (q := 11) ⟨rfl, rfl⟩ ⟨rfl, by decide⟩ (zOl hF rfl) i11 ?_
  refine w_cv3 (pc' := 49) ⟨rfl, rfl⟩ (by decide) (hO.o hF) (Nat.le_of_ble_eq_true rfl) (Nat.le_of_ble_eq_true rfl) (c_addField hF hO hS hn (fun σ3 m3 s3 => ?_))
  have hF := m3.fx hF
  have hm : ∀ o', o' = 1 → o' ∉ [o, o + 1, o + 2, o + 3, o + 4] := fun o' h => by simp only [List.mem_cons, List.not_mem_nil, or_false, not_false_eq_true] <;> omega
  have ht4 : zTok σ3 p 2 (iZ (zfN n)) (-1) 0 0 := ⟨m3.i ht.1 (hm 1 rfl), m3.i ht.2.1 (hm 1 rfl), m3.i ht.2.2.1 (hm 1 rfl), m3.i ht.2.2.2.1 (hm 1 rfl), m3.i ht.2.2.2.2.1 (hm 1 rfl), m3.i ht.2.2.2.2.2 (hm 1 rfl)⟩
  refine w_aload_n (pc' := 50) ⟨rfl, rfl⟩ rfl ?_
  refine w_ic (pc' := 51) ⟨rfl, rfl⟩ ?_
  refine w_cv2 (pc' := 54) ⟨rfl, rfl⟩ (by decide) (zOl hF rfl) (Nat.le_of_ble_eq_true rfl) (Nat.le_of_ble_eq_true rfl) (c_goOn hF ht4 (d := 2) (by decide) (by decide) (by decide) (fun σ2 h2 => ?_))
  refine w_ireturn (pc' := 55) ⟨rfl, rfl⟩ (by decide) ?_
  exact k _ ((m3.mono (fun _ h => by simp only [List.mem_cons, List.not_mem_nil, or_false] at h ⊢ <;> omega)).trans (h2.1.mono (fun _ h => by simp only [List.mem_cons, List.not_mem_nil, or_false] at h ⊢ <;> omega))) h2.2.1 h2.2.2.1 (fun K' C' a b c => (s3 K' C' a b c).fr h2.1.q (by simp only [List.mem_cons, List.not_mem_nil, or_false, not_false_eq_true] <;> omega) (by simp only [List.mem_cons, List.not_mem_nil, or_false, not_false_eq_true] <;> omega) (by simp only [List.mem_cons, List.not_mem_nil, or_false, not_false_eq_true] <;> omega) (by simp only [List.mem_cons, List.not_mem_nil, or_false, not_false_eq_true] <;> omega) (by simp only [List.mem_cons, List.not_mem_nil, or_false, not_false_eq_true] <;> omega))
theorem t_tFn {σ : zSt} (hF : zFx σ) {p : Nat} {kd : Int} {o : Nat} (hO : zIsS o) (hr : zR σ 1 10 = some o) {nm : Int} {n : Nat} {K C : Nat → Int} (hS : zShp σ o nm n K C) (hn : n < 6) (ht : zTok σ p 2 (iZ (zfN n)) (-1) 0 0) (i11 : zI σ 1 11 = iZ kd) (ho : 5 ≤ o) (i3 : zI σ 1 3 = iZ 3) {Q : zSt → Option Value → Prop} (k : ∀ σ2, zFm [1, o, o + 1, o + 2, o + 3, o + 4] σ σ2 → zI σ2 1 3 = iZ 4 → zI σ2 1 4 = iZ ((p + 2 : Nat) : Int) → (∀ K' C' : Nat → Int, (∀ g, g < n → K' g = K g ∧ C' g = C g) → K' n = kd → C' n = 1 → zShp σ2 o nm (n + 1) K' C') → Q σ2 (some (.int (iZ 1)))) : zCa 3 [.ref 1] σ Q := by
  refine w_enter (c := zk_X0_takeInScheme) (ls2 := [(0, .ref 1)]) rfl ⟨rfl, trivial⟩ ?_
  refine w_aload_n (pc' := 1) ⟨rfl, rfl⟩ rfl ?_
  refine w_getI (pc' := 4) (cl := 0) (q := 3) ⟨rfl, rfl⟩ ⟨rfl, by decide⟩ (zOl hF rfl) i3 ?_
  refine w_tsInZ (pc' := 44) (pcT := 59) 3 ⟨rfl, rfl⟩ (by decide) (by decide) rfl rfl ?_
  refine w_aload_n (pc' := 60) ⟨rfl, rfl⟩ rfl ?_
  refine w_cv1 (pc' := 63) ⟨rfl, rfl⟩ (by decide) (zOl hF rfl) (Nat.le_of_ble_eq_true rfl) (Nat.le_of_ble_eq_true rfl) (c_tFn hF hO hr hS hn ht i11 ho (fun σ2 x1 x2 x3 x4 => ?_))
  refine w_ireturn (pc' := 64) ⟨rfl, rfl⟩ (by decide) ?_
  exact k _ x1 x2 x3 x4
theorem t_tTm {σ : zSt} (hF : zFx σ) {p : Nat} {wd : Int32} (ht : zTok σ p 5 wd 10 0 0) (i3 : zI σ 1 3 = iZ 4) {Q : zSt → Option Value → Prop} (k : ∀ σ2, zWnt σ σ2 5 (p + 5) → Q σ2 (some (.int (iZ 1)))) : zCa 3 [.ref 1] σ Q := by
  refine w_enter (c := zk_X0_takeInScheme) (ls2 := [(0, .ref 1)]) rfl ⟨rfl, trivial⟩ ?_
  obtain ⟨i4, i5, i6, i7, i8, i9⟩ := ht
  refine w_aload_n (pc' := 1) ⟨rfl, rfl⟩ rfl ?_
  refine w_getI (pc' := 4) (cl := 0) (q := 3) ⟨rfl, rfl⟩ ⟨rfl, by decide⟩ (zOl hF rfl) i3 ?_
  refine w_tsInZ (pc' := 44) (pcT := 64) 4 ⟨rfl, rfl⟩ (by decide) (by decide) rfl rfl ?_
  refine w_aload_n (pc' := 65) ⟨rfl, rfl⟩ rfl ?_
  refine w_getI (pc' := 68) (cl := 0) (q := 7) ⟨rfl, rfl⟩ ⟨rfl, by decide⟩ (zOl hF rfl) i7 ?_
  refine w_bi (pc' := 70) ⟨rfl, rfl⟩ (by decide) ?_
  refine w_icF_ne (pc' := 73) ⟨rfl, rfl⟩ (by decide) ?_
  refine w_aload_n (pc' := 74) ⟨rfl, rfl⟩ rfl ?_
  refine w_ic (pc' := 75) ⟨rfl, rfl⟩ ?_
  refine w_cv2 (pc' := 78) ⟨rfl, rfl⟩ (by decide) (zOl hF rfl) (Nat.le_of_ble_eq_true rfl) (Nat.le_of_ble_eq_true rfl) (c_goOn hF ⟨i4, i5, i6, i7, i8, i9⟩ (d := 5) (by decide) (by decide) (by decide) (fun σ2 h2 => ?_))
  refine w_goto (pc' := 81) (pcT := 86) ⟨rfl, rfl⟩ rfl ?_
  refine w_ireturn (pc' := 87) ⟨rfl, rfl⟩ (by decide) ?_
  exact k _ h2
theorem c_tTn {σ : zSt} (hF : zFx σ) {l : List Int} (hT : zTL σ l) {p : Nat} {o : Nat} (hO : zIsS o) (hr : zR σ 1 10 = some o) {nm : Int} {n : Nat} {K C : Nat → Int} (hS : zShp σ o nm (n + 1) K C) (hn : n < 6) {v ow : Int} {wd : Int32} (ht : zTok σ p 0 wd ow 1 v) (hp : p ≤ 1600) (hbl : ¬ zlt l.length (fun i => l.getD i 0) ((p : Int) - 1)) (hv : 1 ≤ v ∧ v ≤ 4) (ho : 5 ≤ o) {Q : zSt → Option Value → Prop} (k : ∀ σ2, zFm [1, o, o + 3] σ σ2 → zI σ2 1 3 = iZ 6 → zI σ2 1 4 = iZ ((p + 1 : Nat) : Int) → (∀ C' : Nat → Int, (∀ g, g < n → C' g = C g) → C' n = v → zShp σ2 o nm (n + 1) K C') → Q σ2 (some (.int (iZ 1)))) : zCa 15 [.ref 1] σ Q := by
  refine w_enter (c := zk_X0_takeTimesNumber) (ls2 := [(0, .ref 1)]) rfl ⟨rfl, trivial⟩ ?_
  refine w_aload_n (pc' := 1) ⟨rfl, rfl⟩ rfl ?_
  refine w_ic (pc' := 2) ⟨rfl, rfl⟩ ?_
  refine w_ic (pc' := 3) ⟨rfl, rfl⟩ ?_
  refine w_cv3 (pc' := 6) ⟨rfl, rfl⟩ (by decide) (zOl hF rfl) (Nat.le_of_ble_eq_true rfl) (Nat.le_of_ble_eq_true rfl) (c_numberStands hT hF ht hp hbl (by decide) hv (by decide) ?_)
  refine w_ifT_ne (pc' := 9) (pcT := 11) ⟨rfl, rfl⟩ rfl (by decide) ?_
  refine w_aload_n (pc' := 12) ⟨rfl, rfl⟩ rfl ?_
  refine w_getR (pc' := 15) (cl := 0) (q := 10) ⟨rfl, rfl⟩ ⟨rfl, by decide⟩ (zOl hF rfl) hr ?_
  refine w_aload_n (pc' := 16) ⟨rfl, rfl⟩ rfl ?_
  refine w_getI (pc' := 19) (cl := 0) (q := 9) ⟨rfl, rfl⟩ ⟨rfl, by decide⟩ (zOl hF rfl) ht.2.2.2.2.2 ?_
  refine w_cv2 (pc' := 22) ⟨rfl, rfl⟩ (by decide) (hO.o hF) (Nat.le_of_ble_eq_true rfl) (Nat.le_of_ble_eq_true rfl) (c_repeatLast hF hO hS hn (fun σ3 m3 s3 => ?_))
  have hF := m3.fx hF
  have hm : ∀ o', o' = 1 → o' ∉ [o, o + 3] := fun o' h => by simp only [List.mem_cons, List.not_mem_nil, or_false, not_false_eq_true] <;> omega
  have ht4 : zTok σ3 p 0 wd ow 1 v := ⟨m3.i ht.1 (hm 1 rfl), m3.i ht.2.1 (hm 1 rfl), m3.i ht.2.2.1 (hm 1 rfl), m3.i ht.2.2.2.1 (hm 1 rfl), m3.i ht.2.2.2.2.1 (hm 1 rfl), m3.i ht.2.2.2.2.2 (hm 1 rfl)⟩
  refine w_aload_n (pc' := 23) ⟨rfl, rfl⟩ rfl ?_
  refine w_bi (pc' := 25) ⟨rfl, rfl⟩ (by decide) ?_
  refine w_cv2 (pc' := 28) ⟨rfl, rfl⟩ (by decide) (zOl hF rfl) (Nat.le_of_ble_eq_true rfl) (Nat.le_of_ble_eq_true rfl) (c_goOn hF ht4 (d := 1) (by decide) (by decide) (by decide) (fun σ2 h2 => ?_))
  refine w_ireturn (pc' := 29) ⟨rfl, rfl⟩ (by decide) ?_
  exact k _ ((m3.mono (fun _ h => by simp only [List.mem_cons, List.not_mem_nil, or_false] at h ⊢ <;> omega)).trans (h2.1.mono (fun _ h => by simp only [List.mem_cons, List.not_mem_nil, or_false] at h ⊢ <;> omega))) h2.2.1 h2.2.2.1 (fun C' a b => (s3 C' a b).fr h2.1.q (by simp only [List.mem_cons, List.not_mem_nil, or_false, not_false_eq_true] <;> omega) (by simp only [List.mem_cons, List.not_mem_nil, or_false, not_false_eq_true] <;> omega) (by simp only [List.mem_cons, List.not_mem_nil, or_false, not_false_eq_true] <;> omega) (by simp only [List.mem_cons, List.not_mem_nil, or_false, not_false_eq_true] <;> omega) (by simp only [List.mem_cons, List.not_mem_nil, or_false, not_false_eq_true] <;> omega))
theorem t_tTn {σ : zSt} (hF : zFx σ) {l : List Int} (hT : zTL σ l) {p : Nat} {o : Nat} (hO : zIsS o) (hr : zR σ 1 10 = some o) {nm : Int} {n : Nat} {K C : Nat → Int} (hS : zShp σ o nm (n + 1) K C) (hn : n < 6) {v ow : Int} {wd : Int32} (ht : zTok σ p 0 wd ow 1 v) (hp : p ≤ 1600) (hbl : ¬ zlt l.length (fun i => l.getD i 0) ((p : Int) - 1)) (hv : 1 ≤ v ∧ v ≤ 4) (ho : 5 ≤ o) (i3 : zI σ 1 3 = iZ 5) {Q : zSt → Option Value → Prop} (k : ∀ σ2, zFm [1, o, o + 3] σ σ2 → zI σ2 1 3 = iZ 6 → zI σ2 1 4 = iZ ((p + 1 : Nat) : Int) → (∀ C' : Nat → Int, (∀ g, g < n → C' g = C g) → C' n = v → zShp σ2 o nm (n + 1) K C') → Q σ2 (some (.int (iZ 1)))) : zCa 3 [.ref 1] σ Q := by
  refine w_enter (c := zk_X0_takeInScheme) (ls2 := [(0, .ref 1)]) rfl ⟨rfl, trivial⟩ ?_
  refine w_aload_n (pc' := 1) ⟨rfl, rfl⟩ rfl ?_
  refine w_getI (pc' := 4) (cl := 0) (q := 3) ⟨rfl, rfl⟩ ⟨rfl, by decide⟩ (zOl hF rfl) i3 ?_
  refine w_tsInZ (pc' := 44) (pcT := 87) 5 ⟨rfl, rfl⟩ (by decide) (by decide) rfl rfl ?_
  refine w_aload_n (pc' := 88) ⟨rfl, rfl⟩ rfl ?_
  refine w_cv1 (pc' := 91) ⟨rfl, rfl⟩ (by decide) (zOl hF rfl) (Nat.le_of_ble_eq_true rfl) (Nat.le_of_ble_eq_true rfl) (c_tTn hF hT hO hr hS hn ht hp hbl hv ho (fun σ2 x1 x2 x3 x4 => ?_))
  refine w_ireturn (pc' := 92) ⟨rfl, rfl⟩ (by decide) ?_
  exact k _ x1 x2 x3 x4
theorem t_tSg4C {σ : zSt} (hF : zFx σ) {l : List Int} (hT : zTL σ l) {p : Nat} {wd : Int32} (ht : zTok σ p 0 wd (-1) 0 0) (hp : p ≤ 1600) (hc : zby l.length (fun i => l.getD i 0) p = 44) (i3 : zI σ 1 3 = iZ 4) {Q : zSt → Option Value → Prop} (k : ∀ σ2, zWnt σ σ2 2 (p + 1) → Q σ2 (some (.int (iZ 1)))) : zCa 3 [.ref 1] σ Q := by
  refine w_enter (c := zk_X0_takeInScheme) (ls2 := [(0, .ref 1)]) rfl ⟨rfl, trivial⟩ ?_
  refine w_aload_n (pc' := 1) ⟨rfl, rfl⟩ rfl ?_
  refine w_getI (pc' := 4) (cl := 0) (q := 3) ⟨rfl, rfl⟩ ⟨rfl, by decide⟩ (zOl hF rfl) i3 ?_
  refine w_tsInZ (pc' := 44) (pcT := 64) 4 ⟨rfl, rfl⟩ (by decide) (by decide) rfl rfl ?_
  refine w_aload_n (pc' := 65) ⟨rfl, rfl⟩ rfl ?_
  refine w_getI (pc' := 68) (cl := 0) (q := 7) ⟨rfl, rfl⟩ ⟨rfl, by decide⟩ (zOl hF rfl) ht.2.2.2.1 ?_
  refine w_bi (pc' := 70) ⟨rfl, rfl⟩ (by decide) ?_
  refine w_icT_ne (pc' := 73) (pcT := 81) ⟨rfl, rfl⟩ rfl (by decide) ?_
  refine w_aload_n (pc' := 82) ⟨rfl, rfl⟩ rfl ?_
  refine w_ic (pc' := 83) ⟨rfl, rfl⟩ ?_
  refine w_cv2 (pc' := 86) ⟨rfl, rfl⟩ (by decide) (zOl hF rfl) (Nat.le_of_ble_eq_true rfl) (Nat.le_of_ble_eq_true rfl) (c_takeSignC hT hF ht hp hc (s := 2) (fun σ2 h2 => ?_))
  refine w_ireturn (pc' := 87) ⟨rfl, rfl⟩ (by decide) ?_
  exact k _ h2
theorem t_tSg4S {σ : zSt} (hF : zFx σ) {l : List Int} (hT : zTL σ l) {p : Nat} {wd : Int32} (ht : zTok σ p 0 wd (-1) 0 0) (hp : p ≤ 1600) (hc : zby l.length (fun i => l.getD i 0) p = 59) (i3 : zI σ 1 3 = iZ 4) {Q : zSt → Option Value → Prop} (k : ∀ σ2, zWnt σ σ2 0 (p + 1) → Q σ2 (some (.int (iZ 1)))) : zCa 3 [.ref 1] σ Q := by
  refine w_enter (c := zk_X0_takeInScheme) (ls2 := [(0, .ref 1)]) rfl ⟨rfl, trivial⟩ ?_
  refine w_aload_n (pc' := 1) ⟨rfl, rfl⟩ rfl ?_
  refine w_getI (pc' := 4) (cl := 0) (q := 3) ⟨rfl, rfl⟩ ⟨rfl, by decide⟩ (zOl hF rfl) i3 ?_
  refine w_tsInZ (pc' := 44) (pcT := 64) 4 ⟨rfl, rfl⟩ (by decide) (by decide) rfl rfl ?_
  refine w_aload_n (pc' := 65) ⟨rfl, rfl⟩ rfl ?_
  refine w_getI (pc' := 68) (cl := 0) (q := 7) ⟨rfl, rfl⟩ ⟨rfl, by decide⟩ (zOl hF rfl) ht.2.2.2.1 ?_
  refine w_bi (pc' := 70) ⟨rfl, rfl⟩ (by decide) ?_
  refine w_icT_ne (pc' := 73) (pcT := 81) ⟨rfl, rfl⟩ rfl (by decide) ?_
  refine w_aload_n (pc' := 82) ⟨rfl, rfl⟩ rfl ?_
  refine w_ic (pc' := 83) ⟨rfl, rfl⟩ ?_
  refine w_cv2 (pc' := 86) ⟨rfl, rfl⟩ (by decide) (zOl hF rfl) (Nat.le_of_ble_eq_true rfl) (Nat.le_of_ble_eq_true rfl) (c_takeSignS hT hF ht hp hc (s := 2) (fun σ2 h2 => ?_))
  refine w_ireturn (pc' := 87) ⟨rfl, rfl⟩ (by decide) ?_
  exact k _ h2
theorem t_tSg6C {σ : zSt} (hF : zFx σ) {l : List Int} (hT : zTL σ l) {p : Nat} {wd : Int32} (ht : zTok σ p 0 wd (-1) 0 0) (hp : p ≤ 1600) (hc : zby l.length (fun i => l.getD i 0) p = 44) (i3 : zI σ 1 3 = iZ 6) {Q : zSt → Option Value → Prop} (k : ∀ σ2, zWnt σ σ2 2 (p + 1) → Q σ2 (some (.int (iZ 1)))) : zCa 3 [.ref 1] σ Q := by
  refine w_enter (c := zk_X0_takeInScheme) (ls2 := [(0, .ref 1)]) rfl ⟨rfl, trivial⟩ ?_
  refine w_aload_n (pc' := 1) ⟨rfl, rfl⟩ rfl ?_
  refine w_getI (pc' := 4) (cl := 0) (q := 3) ⟨rfl, rfl⟩ ⟨rfl, by decide⟩ (zOl hF rfl) i3 ?_
  refine w_tsOutZ (pc' := 44) (pcT := 92) ⟨rfl, rfl⟩ rfl (by decide) ?_
  refine w_aload_n (pc' := 93) ⟨rfl, rfl⟩ rfl ?_
  refine w_ic (pc' := 94) ⟨rfl, rfl⟩ ?_
  refine w_cv2 (pc' := 97) ⟨rfl, rfl⟩ (by decide) (zOl hF rfl) (Nat.le_of_ble_eq_true rfl) (Nat.le_of_ble_eq_true rfl) (c_takeSignC hT hF ht hp hc (s := 2) (fun σ2 h2 => ?_))
  refine w_ireturn (pc' := 98) ⟨rfl, rfl⟩ (by decide) ?_
  exact k _ h2
theorem t_tSg6S {σ : zSt} (hF : zFx σ) {l : List Int} (hT : zTL σ l) {p : Nat} {wd : Int32} (ht : zTok σ p 0 wd (-1) 0 0) (hp : p ≤ 1600) (hc : zby l.length (fun i => l.getD i 0) p = 59) (i3 : zI σ 1 3 = iZ 6) {Q : zSt → Option Value → Prop} (k : ∀ σ2, zWnt σ σ2 0 (p + 1) → Q σ2 (some (.int (iZ 1)))) : zCa 3 [.ref 1] σ Q := by
  refine w_enter (c := zk_X0_takeInScheme) (ls2 := [(0, .ref 1)]) rfl ⟨rfl, trivial⟩ ?_
  refine w_aload_n (pc' := 1) ⟨rfl, rfl⟩ rfl ?_
  refine w_getI (pc' := 4) (cl := 0) (q := 3) ⟨rfl, rfl⟩ ⟨rfl, by decide⟩ (zOl hF rfl) i3 ?_
  refine w_tsOutZ (pc' := 44) (pcT := 92) ⟨rfl, rfl⟩ rfl (by decide) ?_
  refine w_aload_n (pc' := 93) ⟨rfl, rfl⟩ rfl ?_
  refine w_ic (pc' := 94) ⟨rfl, rfl⟩ ?_
  refine w_cv2 (pc' := 97) ⟨rfl, rfl⟩ (by decide) (zOl hF rfl) (Nat.le_of_ble_eq_true rfl) (Nat.le_of_ble_eq_true rfl) (c_takeSignS hT hF ht hp hc (s := 2) (fun σ2 h2 => ?_))
  refine w_ireturn (pc' := 98) ⟨rfl, rfl⟩ (by decide) ?_
  exact k _ h2
