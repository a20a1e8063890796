/-! THE READER: what takes a crossing -/
theorem zTok.fk {w : List Nat} {σ σ' : zSt} {p : Nat} {le ow dg nm : Int} {wd : Int32} (h : zTok σ p le wd ow dg nm) (f : zFk w σ σ') (h1 : 1 ∉ w) : zTok σ' p le wd ow dg nm := ⟨f.i h.1 h1, f.i h.2.1 h1, f.i h.2.2.1 h1, f.i h.2.2.2.1 h1, f.i h.2.2.2.2.1 h1, f.i h.2.2.2.2.2 h1⟩
/-- the crossing that is read: its schemes u, v, its number c, f rules -/
def zXg (σ : zSt) (u v c f : Nat) : Prop := (zR σ 1 12 = some (5 + 18 + 8 * c) ∧ zR σ 1 14 = some (5 + 3 + 5 * u) ∧ zR σ 1 15 = some (5 + 3 + 5 * v)) ∧ zI σ (5 + 18 + 8 * c) 3 = iZ (f : Int) ∧ ∀ i : Nat, i < f → zI σ (5 + 18 + 8 * c + 2 + i) 0 = iZ (i : Int)
theorem zXg.fm {w : List Nat} {σ σ' : zSt} {u v c f : Nat} (h : zXg σ u v c f) (m : zFm w σ σ') (hw : ∀ o, o ∈ w → o < 23) : zXg σ' u v c f := ⟨⟨m.r h.1.1, m.r h.1.2.1, m.r h.1.2.2⟩, m.i h.2.1 (fun q => by have := hw _ q; omega), fun i hi => m.i (h.2.2 i hi) (fun q => by have := hw _ q; omega)⟩
theorem zXg.f1 {σ σ' : zSt} {u v c f : Nat} (h : zXg σ u v c f) (m : zFm [1] σ σ') : zXg σ' u v c f := h.fm m (fun o q => by rw [List.mem_singleton] at q; omega)
theorem zXg.rf {σ σ' : zSt} {u v c f : Nat} (h : zXg σ u v c (f + 1)) (m : zFm [1, 5 + 18 + 8 * c + 2 + f] σ σ') (e : zI σ' (5 + 18 + 8 * c + 2 + f) 0 = zI σ (5 + 18 + 8 * c + 2 + f) 0) : zXg σ' u v c (f + 1) := ⟨⟨m.r h.1.1, m.r h.1.2.1, m.r h.1.2.2⟩, m.i h.2.1 (by simp only [List.mem_cons, List.not_mem_nil, or_false, not_false_eq_true] <;> omega), fun i hi => by
  by_cases hif : i = f
  · subst hif; exact e.trans (h.2.2 i hi)
  · exact m.i (h.2.2 i hi) (by simp only [List.mem_cons, List.not_mem_nil, or_false, not_false_eq_true] <;> omega)⟩
theorem c_kdI {σ : zSt} (hF : zFx σ) {o : Nat} (hO : zIsS o) {nm : Int} {n : Nat} {K C : Nat → Int} (hS : zShp σ o nm n K C) (hn : n ≤ 6) {g : Nat} (hg : g < n) {Q : zSt → Option Value → Prop} (k : Q σ (some (.int (iZ (K g))))) : zCa 75 [.ref o, .int (iZ (g : Int))] σ Q := by
  refine w_enter (c := zk_X8_kindOf) (ls2 := [(0, .ref o), (1, .int (iZ (g : Int)))]) rfl ⟨rfl, rfl, trivial⟩ ?_
  refine w_aload_n (pc' := 1) ⟨rfl, rfl⟩ rfl ?_
  refine w_iload_n (pc' := 2) ⟨rfl, rfl⟩ rfl ?_
  refine w_cv2 (pc' := 5) ⟨rfl, rfl⟩ (by decide) (hO.o hF) (Nat.le_of_ble_eq_true rfl) (Nat.le_of_ble_eq_true rfl) (c_hasF2 hF hO hS hn hg ?_)
  refine w_ifF_eq (pc' := 8) ⟨rfl, rfl⟩ (by decide) ?_
  refine w_aload_n (pc' := 9) ⟨rfl, rfl⟩ rfl ?_
  refine w_getR (pc' := 12) (cl := 6) (q := 1) ⟨rfl, rfl⟩ ⟨rfl, by decide⟩ (hO.o hF) (hO.p hF).2.1 ?_
  refine w_iload_n (pc' := 13) ⟨rfl, rfl⟩ rfl ?_
  refine w_iald (pc' := 14) ⟨rfl, rfl⟩ (hO.a hF).2.1 (zixZ (by omega)) (hS.2.2.2 g hg).2.1 ?_
  refine w_goto (pc' := 17) (pcT := 18) ⟨rfl, rfl⟩ rfl ?_
  refine w_ireturn (pc' := 19) ⟨rfl, rfl⟩ (Or.inl rfl) ?_
  exact k
theorem c_isNum {σ : zSt} {a : Int} (ha : 1 ≤ a ∧ a ≤ 7) {Q : zSt → Option Value → Prop} (k : Q σ (some (.int (iZ 1)))) : zCa 27 [.int (iZ a)] σ Q := by
  refine w_enter (c := zk_X2_isNumber) (ls2 := [(0, .int (iZ a))]) rfl ⟨rfl, trivial⟩ ?_
  refine w_iload_n (pc' := 1) ⟨rfl, rfl⟩ rfl ?_
  refine w_ic (pc' := 2) ⟨rfl, rfl⟩ ?_
  refine w_icF_lt (pc' := 5) ⟨rfl, rfl⟩ (by omega) ?_
  refine w_iload_n (pc' := 6) ⟨rfl, rfl⟩ rfl ?_
  refine w_bi (pc' := 8) ⟨rfl, rfl⟩ (by decide) ?_
  refine w_icF_gt (pc' := 11) ⟨rfl, rfl⟩ (by omega) ?_
  refine w_ic (pc' := 12) ⟨rfl, rfl⟩ ?_
  refine w_goto (pc' := 15) (pcT := 16) ⟨rfl, rfl⟩ rfl ?_
  refine w_ireturn (pc' := 17) ⟨rfl, rfl⟩ (by decide) ?_
  exact k
theorem c_tXF {σ : zSt} (hF : zFx σ) (h5 : zR σ 1 2 = some 5) {p u : Nat} (ht : zTok σ p 2 (iZ (zsN u)) (-1) 0 0) {a : Nat} (ha : a ≤ 3) (h52 : zI σ 5 2 = iZ (a : Int)) (hnm : ∀ s : Nat, s < a → zI σ (5 + 3 + 5 * s) 4 = iZ (zsN s)) (hu : u < a) {Q : zSt → Option Value → Prop} (k : ∀ σ2, zFm [1] σ σ2 → zI σ2 1 3 = iZ 8 → zI σ2 1 4 = iZ ((p + 2 : Nat) : Int) → zI σ2 1 13 = iZ (u : Int) → Q σ2 (some (.int (iZ 1)))) : zCa 16 [.ref 1] σ Q := by
  refine w_enter (c := zk_X0_takeFirstScheme) (ls2 := [(0, .ref 1)]) rfl ⟨rfl, trivial⟩ ?_
  have ht0 := ht
  obtain ⟨i4, i5, i6, i7, i8, i9⟩ := ht0
  refine w_aload_n (pc' := 1) ⟨rfl, rfl⟩ rfl ?_
  refine w_cv1 (pc' := 4) ⟨rfl, rfl⟩ (by decide) (zOl hF rfl) (Nat.le_of_ble_eq_true rfl) (Nat.le_of_ble_eq_true rfl) (c_nameStands hF ht (by decide) ?_)
  refine w_ifT_ne (pc' := 7) (pcT := 9) ⟨rfl, rfl⟩ rfl (by decide) ?_
  refine w_aload_n (pc' := 10) ⟨rfl, rfl⟩ rfl ?_
  refine w_aload_n (pc' := 11) ⟨rfl, rfl⟩ rfl ?_
  refine w_getR (pc' := 14) (cl := 0) (q := 2) ⟨rfl, rfl⟩ ⟨rfl, by decide⟩ (zOl hF rfl) h5 ?_
  refine w_aload_n (pc' := 15) ⟨rfl, rfl⟩ rfl ?_
  refine w_getI (pc' := 18) (cl := 0) (q := 6) ⟨rfl, rfl⟩ ⟨rfl, by decide⟩ (zOl hF rfl) ht.2.2.1 ?_
  refine w_cv2 (pc' := 21) ⟨rfl, rfl⟩ (by decide) (zOl hF rfl) (Nat.le_of_ble_eq_true rfl) (Nat.le_of_ble_eq_true rfl) (c_sonI hF ha h52 hnm hu ?_)
  refine w_putI (pc' := 24) (cl := 0) (q := 13) ⟨rfl, rfl⟩ ⟨rfl, by decide⟩ (zOl hF rfl) ?_
  refine w_gI (fun v1 w1 e1 o1 => ?_)
  have hF := w1.fx hF
  have i4 := (o1 4 (by decide)).trans i4
  have i5 := (o1 5 (by decide)).trans i5
  have i6 := (o1 6 (by decide)).trans i6
  have i7 := (o1 7 (by decide)).trans i7
  have i8 := (o1 8 (by decide)).trans i8
  have i9 := (o1 9 (by decide)).trans i9
  have i13 := e1
  refine w_aload_n (pc' := 25) ⟨rfl, rfl⟩ rfl ?_
  refine w_getI (pc' := 28) (cl := 0) (q := 13) ⟨rfl, rfl⟩ ⟨rfl, by decide⟩ (zOl hF rfl) i13 ?_
  refine w_ic (pc' := 29) ⟨rfl, rfl⟩ ?_
  refine w_icT_ne (pc' := 32) (pcT := 44) ⟨rfl, rfl⟩ rfl (by omega) ?_
  refine w_aload_n (pc' := 45) ⟨rfl, rfl⟩ rfl ?_
  refine w_bi (pc' := 47) ⟨rfl, rfl⟩ (by decide) ?_
  refine w_cv2 (pc' := 50) ⟨rfl, rfl⟩ (by decide) (zOl hF rfl) (Nat.le_of_ble_eq_true rfl) (Nat.le_of_ble_eq_true rfl) (c_goOn hF ⟨i4, i5, i6, i7, i8, i9⟩ (d := 2) (by decide) (by decide) (by decide) (fun σ2 h2 => ?_))
  refine w_ireturn (pc' := 51) ⟨rfl, rfl⟩ (by decide) ?_
  exact k _ (w1.trans h2.1) h2.2.1 h2.2.2.1 ((h2.2.2.2 13 (by decide) (by decide)).trans i13)
theorem t_tXF {σ : zSt} (hF : zFx σ) (h5 : zR σ 1 2 = some 5) {p u : Nat} (ht : zTok σ p 2 (iZ (zsN u)) (-1) 0 0) {a : Nat} (ha : a ≤ 3) (h52 : zI σ 5 2 = iZ (a : Int)) (hnm : ∀ s : Nat, s < a → zI σ (5 + 3 + 5 * s) 4 = iZ (zsN s)) (hu : u < a) (i3 : zI σ 1 3 = iZ 7) {Q : zSt → Option Value → Prop} (k : ∀ σ2, zFm [1] σ σ2 → zI σ2 1 3 = iZ 8 → zI σ2 1 4 = iZ ((p + 2 : Nat) : Int) → zI σ2 1 13 = iZ (u : Int) → Q σ2 (some (.int (iZ 1)))) : zCa 4 [.ref 1] σ Q := by
  refine w_enter (c := zk_X0_takeInCross) (ls2 := [(0, .ref 1)]) rfl ⟨rfl, trivial⟩ ?_
  refine w_aload_n (pc' := 1) ⟨rfl, rfl⟩ rfl ?_
  refine w_getI (pc' := 4) (cl := 0) (q := 3) ⟨rfl, rfl⟩ ⟨rfl, by decide⟩ (zOl hF rfl) i3 ?_
  refine w_tsInZ (pc' := 56) (pcT := 56) 0 ⟨rfl, rfl⟩ (by decide) (by decide) rfl rfl ?_
  refine w_aload_n (pc' := 57) ⟨rfl, rfl⟩ rfl ?_
  refine w_cv1 (pc' := 60) ⟨rfl, rfl⟩ (by decide) (zOl hF rfl) (Nat.le_of_ble_eq_true rfl) (Nat.le_of_ble_eq_true rfl) (c_tXF hF h5 ht ha h52 hnm hu (fun σ2 x1 x2 x3 x4 => ?_))
  refine w_ireturn (pc' := 61) ⟨rfl, rfl⟩ (by decide) ?_
  exact k _ x1 x2 x3 x4
theorem t_tXTo {σ : zSt} (hF : zFx σ) {p : Nat} {wd : Int32} (ht : zTok σ p 2 wd 12 0 0) (i3 : zI σ 1 3 = iZ 8) {Q : zSt → Option Value → Prop} (k : ∀ σ2, zWnt σ σ2 9 (p + 2) → Q σ2 (some (.int (iZ 1)))) : zCa 4 [.ref 1] σ Q := by
  refine w_enter (c := zk_X0_takeInCross) (ls2 := [(0, .ref 1)]) rfl ⟨rfl, trivial⟩ ?_
  obtain ⟨i4, i5, i6, i7, i8, i9⟩ := ht
  refine w_aload_n (pc' := 1) ⟨rfl, rfl⟩ rfl ?_
  refine w_getI (pc' := 4) (cl := 0) (q := 3) ⟨rfl, rfl⟩ ⟨rfl, by decide⟩ (zOl hF rfl) i3 ?_
  refine w_tsInZ (pc' := 56) (pcT := 61) 1 ⟨rfl, rfl⟩ (by decide) (by decide) rfl rfl ?_
  refine w_aload_n (pc' := 62) ⟨rfl, rfl⟩ rfl ?_
  refine w_getI (pc' := 65) (cl := 0) (q := 7) ⟨rfl, rfl⟩ ⟨rfl, by decide⟩ (zOl hF rfl) i7 ?_
  refine w_bi (pc' := 67) ⟨rfl, rfl⟩ (by decide) ?_
  refine w_icF_ne (pc' := 70) ⟨rfl, rfl⟩ (by decide) ?_
  refine w_aload_n (pc' := 71) ⟨rfl, rfl⟩ rfl ?_
  refine w_bi (pc' := 73) ⟨rfl, rfl⟩ (by decide) ?_
  refine w_cv2 (pc' := 76) ⟨rfl, rfl⟩ (by decide) (zOl hF rfl) (Nat.le_of_ble_eq_true rfl) (Nat.le_of_ble_eq_true rfl) (c_goOn hF ⟨i4, i5, i6, i7, i8, i9⟩ (d := 2) (by decide) (by decide) (by decide) (fun σ2 h2 => ?_))
  refine w_goto (pc' := 79) (pcT := 88) ⟨rfl, rfl⟩ rfl ?_
  refine w_ireturn (pc' := 89) ⟨rfl, rfl⟩ (by decide) ?_
  exact k _ h2
theorem c_tXS {σ : zSt} (hF : zFx σ) (h5 : zR σ 1 2 = some 5) {p u v c : Nat} (ht : zTok σ p 2 (iZ (zsN v)) (-1) 0 0) {a : Nat} (ha : a ≤ 3) (h52 : zI σ 5 2 = iZ (a : Int)) (hnm : ∀ s : Nat, s < a → zI σ (5 + 3 + 5 * s) 4 = iZ (zsN s)) (hu : u < a) (hv : v < a) (huv : u ≠ v) (hc : c < 4) (h53 : zI σ 5 3 = iZ (c : Int)) (h13 : zI σ 1 13 = iZ (u : Int)) {Q : zSt → Option Value → Prop} (k : ∀ σ2, zFk [1, 5, (5 + 18 + 8 * c)] σ σ2 → zI σ2 1 3 = iZ 10 → zI σ2 1 4 = iZ ((p + 2 : Nat) : Int) → zXg σ2 u v c 0 → zI σ2 5 2 = iZ (a : Int) → zI σ2 5 3 = iZ ((c + 1 : Nat) : Int) → Q σ2 (some (.int (iZ 1)))) : zCa 17 [.ref 1] σ Q := by
  refine w_enter (c := zk_X0_takeSecondScheme) (ls2 := [(0, .ref 1)]) rfl ⟨rfl, trivial⟩ ?_
  refine w_aload_n (pc' := 1) ⟨rfl, rfl⟩ rfl ?_
  refine w_cv1 (pc' := 4) ⟨rfl, rfl⟩ (by decide) (zOl hF rfl) (Nat.le_of_ble_eq_true rfl) (Nat.le_of_ble_eq_true rfl) (c_nameStands hF ht (by decide) ?_)
  refine w_ifT_ne (pc' := 7) (pcT := 9) ⟨rfl, rfl⟩ rfl (by decide) ?_
  refine w_aload_n (pc' := 10) ⟨rfl, rfl⟩ rfl ?_
  refine w_getR (pc' := 13) (cl := 0) (q := 2) ⟨rfl, rfl⟩ ⟨rfl, by decide⟩ (zOl hF rfl) h5 ?_
  refine w_aload_n (pc' := 14) ⟨rfl, rfl⟩ rfl ?_
  refine w_getI (pc' := 17) (cl := 0) (q := 6) ⟨rfl, rfl⟩ ⟨rfl, by decide⟩ (zOl hF rfl) ht.2.2.1 ?_
  refine w_cv2 (pc' := 20) ⟨rfl, rfl⟩ (by decide) (zOl hF rfl) (Nat.le_of_ble_eq_true rfl) (Nat.le_of_ble_eq_true rfl) (c_sonI hF ha h52 hnm hv ?_)
  refine w_istore_n (pc' := 21) ⟨rfl, rfl⟩ rfl ?_
  refine w_aload_n (pc' := 22) ⟨rfl, rfl⟩ rfl ?_
  refine w_getR (pc' := 25) (cl := 0) (q := 2) ⟨rfl, rfl⟩ ⟨rfl, by decide⟩ (zOl hF rfl) h5 ?_
  refine w_aload_n (pc' := 26) ⟨rfl, rfl⟩ rfl ?_
  refine w_getI (pc' := 29) (cl := 0) (q := 13) ⟨rfl, rfl⟩ ⟨rfl, by decide⟩ (zOl hF rfl) h13 ?_
  refine w_cv2 (pc' := 32) ⟨rfl, rfl⟩ (by decide) (zOl hF rfl) (Nat.le_of_ble_eq_true rfl) (Nat.le_of_ble_eq_true rfl) (c_shapeI hF zB5 h52 (by omega) (by omega) ?_)
  refine w_astore_n (pc' := 33) ⟨rfl, rfl⟩ rfl ?_
  refine w_aload_n (pc' := 34) ⟨rfl, rfl⟩ rfl ?_
  refine w_getR (pc' := 37) (cl := 0) (q := 2) ⟨rfl, rfl⟩ ⟨rfl, by decide⟩ (zOl hF rfl) h5 ?_
  refine w_iload_n (pc' := 38) ⟨rfl, rfl⟩ rfl ?_
  refine w_cv2 (pc' := 41) ⟨rfl, rfl⟩ (by decide) (zOl hF rfl) (Nat.le_of_ble_eq_true rfl) (Nat.le_of_ble_eq_true rfl) (c_shapeI hF zB5 h52 (by omega) (by omega) ?_)
  refine w_astore_n (pc' := 42) ⟨rfl, rfl⟩ rfl ?_
  refine w_iload_n (pc' := 43) ⟨rfl, rfl⟩ rfl ?_
  refine w_aload_n (pc' := 44) ⟨rfl, rfl⟩ rfl ?_
  refine w_getI (pc' := 47) (cl := 0) (q := 13) ⟨rfl, rfl⟩ ⟨rfl, by decide⟩ (zOl hF rfl) h13 ?_
  refine w_icF_eq (pc' := 50) ⟨rfl, rfl⟩ (by omega) ?_
  refine w_aload_n (pc' := 51) ⟨rfl, rfl⟩ rfl ?_
  refine w_ifnullR (pc' := 54) (pcT := 58) ⟨rfl, rfl⟩ rfl  ?_
  refine w_aload_n (pc' := 55) ⟨rfl, rfl⟩ rfl ?_
  refine w_ifnonnullR (pc' := 58) (pcT := 68) ⟨rfl, rfl⟩ rfl  ?_
  refine w_aload_n (pc' := 69) ⟨rfl, rfl⟩ rfl ?_
  refine w_getR (pc' := 72) (cl := 0) (q := 2) ⟨rfl, rfl⟩ ⟨rfl, by decide⟩ (zOl hF rfl) h5 ?_
  refine w_aload_n (pc' := 73) ⟨rfl, rfl⟩ rfl ?_
  refine w_getI (pc' := 76) (cl := 0) (q := 13) ⟨rfl, rfl⟩ ⟨rfl, by decide⟩ (zOl hF rfl) h13 ?_
  refine w_iload_n (pc' := 77) ⟨rfl, rfl⟩ rfl ?_
  refine w_cv3 (pc' := 80) ⟨rfl, rfl⟩ (by decide) (zOl hF rfl) (Nat.le_of_ble_eq_true rfl) (Nat.le_of_ble_eq_true rfl) (c_addPsg hF hc h53 h52 (fun σ3 m3 e53 e52 e3 => ?_))
  have f3 := m3.q
  have hF := f3.fx hF
  have ht := ht.fk f3 (by simp only [List.mem_cons, List.not_mem_nil, or_false, not_false_eq_true] <;> omega)
  refine w_astore (pc' := 82) ⟨rfl, rfl⟩ rfl ?_
  refine w_aload (pc' := 84) ⟨rfl, rfl⟩ rfl ?_
  refine w_ifnonnullR (pc' := 87) (pcT := 97) ⟨rfl, rfl⟩ rfl  ?_
  refine w_aload_n (pc' := 98) ⟨rfl, rfl⟩ rfl ?_
  refine w_aload (pc' := 100) ⟨rfl, rfl⟩ rfl ?_
  refine w_putR (pc' := 103) (cl := 0) (q := 12) ⟨rfl, rfl⟩ ⟨rfl, by decide⟩ (zOl hF rfl) ?_
  refine w_gR (by decide) (fun σr12 f12 r12 n12 => ?_)
  have hF := f12.fx hF
  have ht := ht.fk f12 (by simp only [List.mem_cons, List.not_mem_nil, or_false, not_false_eq_true] <;> omega)
  refine w_aload_n (pc' := 104) ⟨rfl, rfl⟩ rfl ?_
  refine w_aload_n (pc' := 105) ⟨rfl, rfl⟩ rfl ?_
  refine w_putR (pc' := 108) (cl := 0) (q := 14) ⟨rfl, rfl⟩ ⟨rfl, by decide⟩ (zOl hF rfl) ?_
  refine w_gR (by decide) (fun σr14 f14 r14 n14 => ?_)
  have hF := f14.fx hF
  have ht := ht.fk f14 (by simp only [List.mem_cons, List.not_mem_nil, or_false, not_false_eq_true] <;> omega)
  refine w_aload_n (pc' := 109) ⟨rfl, rfl⟩ rfl ?_
  refine w_aload_n (pc' := 110) ⟨rfl, rfl⟩ rfl ?_
  refine w_putR (pc' := 113) (cl := 0) (q := 15) ⟨rfl, rfl⟩ ⟨rfl, by decide⟩ (zOl hF rfl) ?_
  refine w_gR (by decide) (fun σr15 f15 r15 n15 => ?_)
  have hF := f15.fx hF
  have ht := ht.fk f15 (by simp only [List.mem_cons, List.not_mem_nil, or_false, not_false_eq_true] <;> omega)
  refine w_aload_n (pc' := 114) ⟨rfl, rfl⟩ rfl ?_
  refine w_bi (pc' := 116) ⟨rfl, rfl⟩ (by decide) ?_
  refine w_cv2 (pc' := 119) ⟨rfl, rfl⟩ (by decide) (zOl hF rfl) (Nat.le_of_ble_eq_true rfl) (Nat.le_of_ble_eq_true rfl) (c_goOn hF ht (d := 2) (by decide) (by decide) (by decide) (fun σ2 h2 => ?_))
  refine w_ireturn (pc' := 120) ⟨rfl, rfl⟩ (by decide) ?_
  have m5 := h2.1
  have ff : zFk [1, 5, (5 + 18 + 8 * c)] σ σ2 := (((f3.mono (fun _ h => by simp only [List.mem_cons, List.not_mem_nil, or_false] at h ⊢ <;> omega)).trans (f12.mono (fun _ h => by simp only [List.mem_cons, List.not_mem_nil, or_false] at h ⊢ <;> omega))).trans ((f14.mono (fun _ h => by simp only [List.mem_cons, List.not_mem_nil, or_false] at h ⊢ <;> omega)).trans (f15.mono (fun _ h => by simp only [List.mem_cons, List.not_mem_nil, or_false] at h ⊢ <;> omega)))).trans (m5.q.mono (fun _ h => by simp only [List.mem_cons, List.not_mem_nil, or_false] at h ⊢ <;> omega))
  refine k _ ff h2.2.1 h2.2.2.1 ⟨⟨m5.r ((n15 12 (by decide)).trans ((n14 12 (by decide)).trans r12)), m5.r ((n15 14 (by decide)).trans r14), m5.r r15⟩, m5.i (f15.i (f14.i (f12.i e3 (by simp only [List.mem_cons, List.not_mem_nil, or_false, not_false_eq_true] <;> omega)) (by simp only [List.mem_cons, List.not_mem_nil, or_false, not_false_eq_true] <;> omega)) (by simp only [List.mem_cons, List.not_mem_nil, or_false, not_false_eq_true] <;> omega)) (by simp only [List.mem_cons, List.not_mem_nil, or_false, not_false_eq_true] <;> omega), fun i hi => absurd hi (by omega)⟩ (m5.i (f15.i (f14.i (f12.i e52 (by simp only [List.mem_cons, List.not_mem_nil, or_false, not_false_eq_true] <;> omega)) (by simp only [List.mem_cons, List.not_mem_nil, or_false, not_false_eq_true] <;> omega)) (by simp only [List.mem_cons, List.not_mem_nil, or_false, not_false_eq_true] <;> omega)) (by simp only [List.mem_cons, List.not_mem_nil, or_false, not_false_eq_true] <;> omega)) (m5.i (f15.i (f14.i (f12.i e53 (by simp only [List.mem_cons, List.not_mem_nil, or_false, not_false_eq_true] <;> omega)) (by simp only [List.mem_cons, List.not_mem_nil, or_false, not_false_eq_true] <;> omega)) (by simp only [List.mem_cons, List.not_mem_nil, or_false, not_false_eq_true] <;> omega)) (by simp only [List.mem_cons, List.not_mem_nil, or_false, not_false_eq_true] <;> omega))
theorem t_tXS {σ : zSt} (hF : zFx σ) (h5 : zR σ 1 2 = some 5) {p u v c : Nat} (ht : zTok σ p 2 (iZ (zsN v)) (-1) 0 0) {a : Nat} (ha : a ≤ 3) (h52 : zI σ 5 2 = iZ (a : Int)) (hnm : ∀ s : Nat, s < a → zI σ (5 + 3 + 5 * s) 4 = iZ (zsN s)) (hu : u < a) (hv : v < a) (huv : u ≠ v) (hc : c < 4) (h53 : zI σ 5 3 = iZ (c : Int)) (h13 : zI σ 1 13 = iZ (u : Int)) (i3 : zI σ 1 3 = iZ 9) {Q : zSt → Option Value → Prop} (k : ∀ σ2, zFk [1, 5, (5 + 18 + 8 * c)] σ σ2 → zI σ2 1 3 = iZ 10 → zI σ2 1 4 = iZ ((p + 2 : Nat) : Int) → zXg σ2 u v c 0 → zI σ2 5 2 = iZ (a : Int) → zI σ2 5 3 = iZ ((c + 1 : Nat) : Int) → Q σ2 (some (.int (iZ 1)))) : zCa 4 [.ref 1] σ Q := by
  refine w_enter (c := zk_X0_takeInCross) (ls2 := [(0, .ref 1)]) rfl ⟨rfl, trivial⟩ ?_
  refine w_aload_n (pc' := 1) ⟨rfl, rfl⟩ rfl ?_
  refine w_getI (pc' := 4) (cl := 0) (q := 3) ⟨rfl, rfl⟩ ⟨rfl, by decide⟩ (zOl hF rfl) i3 ?_
  refine w_tsInZ (pc' := 56) (pcT := 89) 2 ⟨rfl, rfl⟩ (by decide) (by decide) rfl rfl ?_
  refine w_aload_n (pc' := 90) ⟨rfl, rfl⟩ rfl ?_
  refine w_cv1 (pc' := 93) ⟨rfl, rfl⟩ (by decide) (zOl hF rfl) (Nat.le_of_ble_eq_true rfl) (Nat.le_of_ble_eq_true rfl) (c_tXS hF h5 ht ha h52 hnm hu hv huv hc h53 h13 (fun σ2 x1 x2 x3 x4 x5 x6 => ?_))
  refine w_ireturn (pc' := 94) ⟨rfl, rfl⟩ (by decide) ?_
  exact k _ x1 x2 x3 x4 x5 x6
theorem c_tXT {σ : zSt} (hF : zFx σ) {p u v c f : Nat} (hX : zXg σ u v c f) (hu : u < 3) (hv : v < 3) (hc : c < 4) (hf : f < 6) {nm : Int} {n : Nat} {K C : Nat → Int} (hS : zShp σ (5 + 3 + 5 * v) nm n K C) (hn : n ≤ 6) (hfn : f < n) (ht : zTok σ p 2 (iZ (zfN f)) (-1) 0 0) {Q : zSt → Option Value → Prop} (k : ∀ σ2, zFm [1] σ σ2 → zI σ2 1 3 = iZ 11 → zI σ2 1 4 = iZ ((p + 2 : Nat) : Int) → zI σ2 1 17 = iZ (f : Int) → Q σ2 (some (.int (iZ 1)))) : zCa 18 [.ref 1] σ Q := by
  refine w_enter (c := zk_X0_takeTarget) (ls2 := [(0, .ref 1)]) rfl ⟨rfl, trivial⟩ ?_
  have ht0 := ht
  obtain ⟨i4, i5, i6, i7, i8, i9⟩ := ht0
  refine w_aload_n (pc' := 1) ⟨rfl, rfl⟩ rfl ?_
  refine w_getR (pc' := 4) (cl := 0) (q := 12) ⟨rfl, rfl⟩ ⟨rfl, by decide⟩ (zOl hF rfl) hX.1.1 ?_
  refine w_getI (pc' := 7) (cl := 2) (q := 3) ⟨rfl, rfl⟩ ⟨rfl, by decide⟩ ((zB5.g hF hc).2.o hF) hX.2.1 ?_
  refine w_bi (pc' := 9) ⟨rfl, rfl⟩ (by decide) ?_
  refine w_icT_lt (pc' := 12) (pcT := 17) ⟨rfl, rfl⟩ rfl (by omega) ?_
  refine w_aload_n (pc' := 18) ⟨rfl, rfl⟩ rfl ?_
  refine w_cv1 (pc' := 21) ⟨rfl, rfl⟩ (by decide) (zOl hF rfl) (Nat.le_of_ble_eq_true rfl) (Nat.le_of_ble_eq_true rfl) (c_nameStands hF ht (by decide) ?_)
  refine w_ifT_ne (pc' := 24) (pcT := 26) ⟨rfl, rfl⟩ rfl (by decide) ?_
  refine w_aload_n (pc' := 27) ⟨rfl, rfl⟩ rfl ?_
  refine w_aload_n (pc' := 28) ⟨rfl, rfl⟩ rfl ?_
  refine w_getR (pc' := 31) (cl := 0) (q := 15) ⟨rfl, rfl⟩ ⟨rfl, by decide⟩ (zOl hF rfl) hX.1.2.2 ?_
  refine w_aload_n (pc' := 32) ⟨rfl, rfl⟩ rfl ?_
  refine w_getI (pc' := 35) (cl := 0) (q := 6) ⟨rfl, rfl⟩ ⟨rfl, by decide⟩ (zOl hF rfl) ht.2.2.1 ?_
  refine w_cv2 (pc' := 38) ⟨rfl, rfl⟩ (by decide) ((zB5.s hF hv).2.o hF) (Nat.le_of_ble_eq_true rfl) (Nat.le_of_ble_eq_true rfl) (c_fonI hF (zB5.s hF hv).2 hS hn hfn ?_)
  refine w_putI (pc' := 41) (cl := 0) (q := 17) ⟨rfl, rfl⟩ ⟨rfl, by decide⟩ (zOl hF rfl) ?_
  refine w_gI (fun v1 w1 e1 o1 => ?_)
  have hF := w1.fx hF
  have hX := hX.f1 w1
  have i4 := (o1 4 (by decide)).trans i4
  have i5 := (o1 5 (by decide)).trans i5
  have i6 := (o1 6 (by decide)).trans i6
  have i7 := (o1 7 (by decide)).trans i7
  have i8 := (o1 8 (by decide)).trans i8
  have i9 := (o1 9 (by decide)).trans i9
  have i17 := e1
  refine w_aload_n (pc' := 42) ⟨rfl, rfl⟩ rfl ?_
  refine w_getI (pc' := 45) (cl := 0) (q := 17) ⟨rfl, rfl⟩ ⟨rfl, by decide⟩ (zOl hF rfl) i17 ?_
  refine w_ic (pc' := 46) ⟨rfl, rfl⟩ ?_
  refine w_icF_eq (pc' := 49) ⟨rfl, rfl⟩ (by omega) ?_
  refine w_aload_n (pc' := 50) ⟨rfl, rfl⟩ rfl ?_
  refine w_getR (pc' := 53) (cl := 0) (q := 12) ⟨rfl, rfl⟩ ⟨rfl, by decide⟩ (zOl hF rfl) hX.1.1 ?_
  refine w_cv1 (pc' := 56) ⟨rfl, rfl⟩ (by decide) ((zB5.g hF hc).2.o hF) (Nat.le_of_ble_eq_true rfl) (Nat.le_of_ble_eq_true rfl) (c_filled hF (zB5.g hF hc).2 hX.2.1 (by omega) hX.2.2 ?_)
  refine w_aload_n (pc' := 57) ⟨rfl, rfl⟩ rfl ?_
  refine w_getI (pc' := 60) (cl := 0) (q := 17) ⟨rfl, rfl⟩ ⟨rfl, by decide⟩ (zOl hF rfl) i17 ?_
  refine w_ishr (pc' := 61) ⟨rfl, rfl⟩ ?_
  refine w_ic (pc' := 62) ⟨rfl, rfl⟩ ?_
  refine w_iand (pc' := 63) ⟨rfl, rfl⟩ ?_
  refine w_topI (zbt_ok hf) ?_
  refine w_ifT_eq (pc' := 66) (pcT := 76) ⟨rfl, rfl⟩ rfl (by decide) ?_
  refine w_aload_n (pc' := 77) ⟨rfl, rfl⟩ rfl ?_
  refine w_bi (pc' := 79) ⟨rfl, rfl⟩ (by decide) ?_
  refine w_cv2 (pc' := 82) ⟨rfl, rfl⟩ (by decide) (zOl hF rfl) (Nat.le_of_ble_eq_true rfl) (Nat.le_of_ble_eq_true rfl) (c_goOn hF ⟨i4, i5, i6, i7, i8, i9⟩ (d := 2) (by decide) (by decide) (by decide) (fun σ2 h2 => ?_))
  refine w_ireturn (pc' := 83) ⟨rfl, rfl⟩ (by decide) ?_
  exact k _ (w1.trans h2.1) h2.2.1 h2.2.2.1 ((h2.2.2.2 17 (by decide) (by decide)).trans i17)
theorem t_tXT {σ : zSt} (hF : zFx σ) {p u v c f : Nat} (hX : zXg σ u v c f) (hu : u < 3) (hv : v < 3) (hc : c < 4) (hf : f < 6) {nm : Int} {n : Nat} {K C : Nat → Int} (hS : zShp σ (5 + 3 + 5 * v) nm n K C) (hn : n ≤ 6) (hfn : f < n) (ht : zTok σ p 2 (iZ (zfN f)) (-1) 0 0) (i3 : zI σ 1 3 = iZ 10) {Q : zSt → Option Value → Prop} (k : ∀ σ2, zFm [1] σ σ2 → zI σ2 1 3 = iZ 11 → zI σ2 1 4 = iZ ((p + 2 : Nat) : Int) → zI σ2 1 17 = iZ (f : Int) → Q σ2 (some (.int (iZ 1)))) : zCa 4 [.ref 1] σ Q := by
  refine w_enter (c := zk_X0_takeInCross) (ls2 := [(0, .ref 1)]) rfl ⟨rfl, trivial⟩ ?_
  refine w_aload_n (pc' := 1) ⟨rfl, rfl⟩ rfl ?_
  refine w_getI (pc' := 4) (cl := 0) (q := 3) ⟨rfl, rfl⟩ ⟨rfl, by decide⟩ (zOl hF rfl) i3 ?_
  refine w_tsInZ (pc' := 56) (pcT := 94) 3 ⟨rfl, rfl⟩ (by decide) (by decide) rfl rfl ?_
  refine w_aload_n (pc' := 95) ⟨rfl, rfl⟩ rfl ?_
  refine w_cv1 (pc' := 98) ⟨rfl, rfl⟩ (by decide) (zOl hF rfl) (Nat.le_of_ble_eq_true rfl) (Nat.le_of_ble_eq_true rfl) (c_tXT hF hX hu hv hc hf hS hn hfn ht (fun σ2 x1 x2 x3 x4 => ?_))
  refine w_ireturn (pc' := 99) ⟨rfl, rfl⟩ (by decide) ?_
  exact k _ x1 x2 x3 x4
theorem t_tXFr {σ : zSt} (hF : zFx σ) {p : Nat} {wd : Int32} (ht : zTok σ p 4 wd 13 0 0) (i3 : zI σ 1 3 = iZ 11) {Q : zSt → Option Value → Prop} (k : ∀ σ2, zWnt σ σ2 12 (p + 4) → Q σ2 (some (.int (iZ 1)))) : zCa 4 [.ref 1] σ Q := by
  refine w_enter (c := zk_X0_takeInCross) (ls2 := [(0, .ref 1)]) rfl ⟨rfl, trivial⟩ ?_
  obtain ⟨i4, i5, i6, i7, i8, i9⟩ := ht
  refine w_aload_n (pc' := 1) ⟨rfl, rfl⟩ rfl ?_
  refine w_getI (pc' := 4) (cl := 0) (q := 3) ⟨rfl, rfl⟩ ⟨rfl, by decide⟩ (zOl hF rfl) i3 ?_
  refine w_tsInZ (pc' := 56) (pcT := 99) 4 ⟨rfl, rfl⟩ (by decide) (by decide) rfl rfl ?_
  refine w_aload_n (pc' := 100) ⟨rfl, rfl⟩ rfl ?_
  refine w_getI (pc' := 103) (cl := 0) (q := 7) ⟨rfl, rfl⟩ ⟨rfl, by decide⟩ (zOl hF rfl) i7 ?_
  refine w_bi (pc' := 105) ⟨rfl, rfl⟩ (by decide) ?_
  refine w_icF_ne (pc' := 108) ⟨rfl, rfl⟩ (by decide) ?_
  refine w_aload_n (pc' := 109) ⟨rfl, rfl⟩ rfl ?_
  refine w_bi (pc' := 111) ⟨rfl, rfl⟩ (by decide) ?_
  refine w_cv2 (pc' := 114) ⟨rfl, rfl⟩ (by decide) (zOl hF rfl) (Nat.le_of_ble_eq_true rfl) (Nat.le_of_ble_eq_true rfl) (c_goOn hF ⟨i4, i5, i6, i7, i8, i9⟩ (d := 4) (by decide) (by decide) (by decide) (fun σ2 h2 => ?_))
  refine w_goto (pc' := 117) (pcT := 126) ⟨rfl, rfl⟩ rfl ?_
  refine w_ireturn (pc' := 127) ⟨rfl, rfl⟩ (by decide) ?_
  exact k _ h2
theorem c_bgR {σ : zSt} (hF : zFx σ) {p u v c f : Nat} (hX : zXg σ u v c f) (hu : u < 3) (hv : v < 3) (hc : c < 4) (hf : f < 6) (h17 : zI σ 1 17 = iZ (f : Int)) {le ow dg nb : Int} {wd : Int32} (ht : zTok σ p le wd ow dg nb) {d : Nat} (hd : max (max le dg) 1 = d) (hle : 0 ≤ le ∧ le ≤ 1600) (hdg : 0 ≤ dg ∧ dg ≤ 1600) {so sr ot st : Int} {Q : zSt → Option Value → Prop} (k : ∀ σ2, zFk [1, (5 + 18 + 8 * c), (5 + 18 + 8 * c + 2 + f)] σ σ2 → zI σ2 1 3 = iZ st → zI σ2 1 4 = iZ ((p + d : Nat) : Int) → zXg σ2 u v c (f + 1) → zR σ2 1 16 = some (5 + 18 + 8 * c + 2 + f) → zI σ2 (5 + 18 + 8 * c + 2 + f) 2 = iZ sr → Q σ2 (some (.int (iZ 1)))) : zCa 21 [.ref 1, .int (iZ so), .int (iZ sr), .int (iZ ot), .int (iZ st)] σ Q := by
  refine w_enter (c := zk_X0_beginRule) (ls2 := [(0, .ref 1), (1, .int (iZ so)), (2, .int (iZ sr)), (3, .int (iZ ot)), (4, .int (iZ st))]) rfl ⟨rfl, rfl, rfl, rfl, rfl, trivial⟩ ?_
  refine w_aload_n (pc' := 1) ⟨rfl, rfl⟩ rfl ?_
  refine w_getR (pc' := 4) (cl := 0) (q := 12) ⟨rfl, rfl⟩ ⟨rfl, by decide⟩ (zOl hF rfl) hX.1.1 ?_
  refine w_cv1 (pc' := 7) ⟨rfl, rfl⟩ (by decide) ((zB5.g hF hc).2.o hF) (Nat.le_of_ble_eq_true rfl) (Nat.le_of_ble_eq_true rfl) (c_addRule hF (zB5.g hF hc).2 hX.2.1 hf (fun σ3 m3 e3 => ?_))
  have hR := ((zB5.g hF hc).2.r hF hf).2.fm m3
  have ht := ht.fk m3.q (by simp only [List.mem_cons, List.not_mem_nil, or_false, not_false_eq_true] <;> omega)
  have h17 := m3.i h17 (by simp only [List.mem_cons, List.not_mem_nil, or_false, not_false_eq_true] <;> omega)
  have hF := m3.fx hF
  refine w_astore (pc' := 9) ⟨rfl, rfl⟩ rfl ?_
  refine w_aload (pc' := 11) ⟨rfl, rfl⟩ rfl ?_
  refine w_ifnonnullR (pc' := 14) (pcT := 24) ⟨rfl, rfl⟩ rfl  ?_
  refine w_aload (pc' := 26) ⟨rfl, rfl⟩ rfl ?_
  refine w_aload_n (pc' := 27) ⟨rfl, rfl⟩ rfl ?_
  refine w_getI (pc' := 30) (cl := 0) (q := 17) ⟨rfl, rfl⟩ ⟨rfl, by decide⟩ (zOl hF rfl) h17 ?_
  refine w_iload_n (pc' := 31) ⟨rfl, rfl⟩ rfl ?_
  refine w_iload_n (pc' := 32) ⟨rfl, rfl⟩ rfl ?_
  refine w_iload_n (pc' := 33) ⟨rfl, rfl⟩ rfl ?_
  refine w_cv5 (pc' := 36) ⟨rfl, rfl⟩ (by decide) hR (Nat.le_of_ble_eq_true rfl) (Nat.le_of_ble_eq_true rfl) (c_rset hR (fun σ4 m4 e40 e42 => ?_))
  have ht := ht.fk m4.q (by simp only [List.mem_cons, List.not_mem_nil, or_false, not_false_eq_true] <;> omega)
  have hF := m4.fx hF
  refine w_aload_n (pc' := 37) ⟨rfl, rfl⟩ rfl ?_
  refine w_aload (pc' := 39) ⟨rfl, rfl⟩ rfl ?_
  refine w_putR (pc' := 42) (cl := 0) (q := 16) ⟨rfl, rfl⟩ ⟨rfl, by decide⟩ (zOl hF rfl) ?_
  refine w_gR (by decide) (fun σr16 f16 r16 n16 => ?_)
  have hF := f16.fx hF
  have ht := ht.fk f16 (by simp only [List.mem_cons, List.not_mem_nil, or_false, not_false_eq_true] <;> omega)
  refine w_aload_n (pc' := 43) ⟨rfl, rfl⟩ rfl ?_
  refine w_iload (pc' := 45) ⟨rfl, rfl⟩ rfl ?_
  refine w_cv2 (pc' := 48) ⟨rfl, rfl⟩ (by decide) (zOl hF rfl) (Nat.le_of_ble_eq_true rfl) (Nat.le_of_ble_eq_true rfl) (c_goOn hF ht (d := d) hd hle hdg (fun σ2 h2 => ?_))
  refine w_ireturn (pc' := 49) ⟨rfl, rfl⟩ (by decide) ?_
  have m5 := h2.1
  have ff : zFk [1, (5 + 18 + 8 * c), (5 + 18 + 8 * c + 2 + f)] σ σ2 := ((m3.q.mono (fun _ h => by simp only [List.mem_cons, List.not_mem_nil, or_false] at h ⊢ <;> omega)).trans (m4.q.mono (fun _ h => by simp only [List.mem_cons, List.not_mem_nil, or_false] at h ⊢ <;> omega))).trans ((f16.mono (fun _ h => by simp only [List.mem_cons, List.not_mem_nil, or_false] at h ⊢ <;> omega)).trans (m5.q.mono (fun _ h => by simp only [List.mem_cons, List.not_mem_nil, or_false] at h ⊢ <;> omega)))
  refine k _ ff h2.2.1 h2.2.2.1 ⟨⟨m5.r ((n16 12 (by decide)).trans (m4.r (m3.r hX.1.1))), m5.r ((n16 14 (by decide)).trans (m4.r (m3.r hX.1.2.1))), m5.r ((n16 15 (by decide)).trans (m4.r (m3.r hX.1.2.2)))⟩, m5.i (f16.i (m4.i e3 (by simp only [List.mem_cons, List.not_mem_nil, or_false, not_false_eq_true] <;> omega)) (by simp only [List.mem_cons, List.not_mem_nil, or_false, not_false_eq_true] <;> omega)) (by simp only [List.mem_cons, List.not_mem_nil, or_false, not_false_eq_true] <;> omega), fun i hi => ?_⟩ (m5.r r16) (m5.i (f16.i e42 (by simp only [List.mem_cons, List.not_mem_nil, or_false, not_false_eq_true] <;> omega)) (by simp only [List.mem_cons, List.not_mem_nil, or_false, not_false_eq_true] <;> omega))
  by_cases hif : i = f
  · subst hif; exact m5.i (f16.i e40 (by simp only [List.mem_cons, List.not_mem_nil, or_false, not_false_eq_true] <;> omega)) (by simp only [List.mem_cons, List.not_mem_nil, or_false, not_false_eq_true] <;> omega)
  · exact m5.i (f16.i (m4.i (m3.i (hX.2.2 i (by omega)) (by simp only [List.mem_cons, List.not_mem_nil, or_false, not_false_eq_true] <;> omega)) (by simp only [List.mem_cons, List.not_mem_nil, or_false, not_false_eq_true] <;> omega)) (by simp only [List.mem_cons, List.not_mem_nil, or_false, not_false_eq_true] <;> omega)) (by simp only [List.mem_cons, List.not_mem_nil, or_false, not_false_eq_true] <;> omega)
theorem c_tXN {σ : zSt} (hF : zFx σ) {l : List Int} (hT : zTL σ l) {p u v c f : Nat} (hX : zXg σ u v c f) (hu : u < 3) (hv : v < 3) (hc : c < 4) (hf : f < 6) {nm : Int} {n : Nat} {K C : Nat → Int} (hS : zShp σ (5 + 3 + 5 * v) nm n K C) (hn : n ≤ 6) (hfn : f < n) (hk0 : K f ≠ 0 ∧ 0 ≤ K f ∧ K f ≤ 8) (h17 : zI σ 1 17 = iZ (f : Int)) {d : Nat} {nb : Int} {wd : Int32} (ht : zTok σ p 0 wd (-1) (d : Int) nb) (hd : 1 ≤ d ∧ d ≤ 3) (hp : p ≤ 1600) (hbl : ¬ zlt l.length (fun i => l.getD i 0) ((p : Int) - 1)) (hnb : 0 ≤ nb ∧ nb ≤ 999) {Q : zSt → Option Value → Prop} (k : ∀ σ2, zFk [1, (5 + 18 + 8 * c), (5 + 18 + 8 * c + 2 + f)] σ σ2 → zI σ2 1 3 = iZ 16 → zI σ2 1 4 = iZ ((p + d : Nat) : Int) → zXg σ2 u v c (f + 1) → zR σ2 1 16 = some (5 + 18 + 8 * c + 2 + f) → zI σ2 (5 + 18 + 8 * c + 2 + f) 2 = iZ (-1) → Q σ2 (some (.int (iZ 1)))) : zCa 19 [.ref 1] σ Q := by
  refine w_enter (c := zk_X0_takeNumberSource) (ls2 := [(0, .ref 1)]) rfl ⟨rfl, trivial⟩ ?_
  refine w_aload_n (pc' := 1) ⟨rfl, rfl⟩ rfl ?_
  refine w_ic (pc' := 2) ⟨rfl, rfl⟩ ?_
  refine w_si (pc' := 5) ⟨rfl, rfl⟩ (by decide) ?_
  refine w_cv3 (pc' := 8) ⟨rfl, rfl⟩ (by decide) (zOl hF rfl) (Nat.le_of_ble_eq_true rfl) (Nat.le_of_ble_eq_true rfl) (c_numberStands hT hF ht hp hbl (by omega) (lo := 0) (hi := 999) hnb (by decide) ?_)
  refine w_ifT_ne (pc' := 11) (pcT := 13) ⟨rfl, rfl⟩ rfl (by decide) ?_
  refine w_aload_n (pc' := 14) ⟨rfl, rfl⟩ rfl ?_
  refine w_getR (pc' := 17) (cl := 0) (q := 15) ⟨rfl, rfl⟩ ⟨rfl, by decide⟩ (zOl hF rfl) hX.1.2.2 ?_
  refine w_aload_n (pc' := 18) ⟨rfl, rfl⟩ rfl ?_
  refine w_getI (pc' := 21) (cl := 0) (q := 17) ⟨rfl, rfl⟩ ⟨rfl, by decide⟩ (zOl hF rfl) h17 ?_
  refine w_cv2 (pc' := 24) ⟨rfl, rfl⟩ (by decide) ((zB5.s hF hv).2.o hF) (Nat.le_of_ble_eq_true rfl) (Nat.le_of_ble_eq_true rfl) (c_kdI hF (zB5.s hF hv).2 hS hn hfn ?_)
  refine w_ifT_ne (pc' := 27) (pcT := 37) ⟨rfl, rfl⟩ rfl (by omega) ?_
  refine w_aload_n (pc' := 38) ⟨rfl, rfl⟩ rfl ?_
  refine w_ic (pc' := 39) ⟨rfl, rfl⟩ ?_
  refine w_ic (pc' := 40) ⟨rfl, rfl⟩ ?_
  refine w_aload_n (pc' := 41) ⟨rfl, rfl⟩ rfl ?_
  refine w_getI (pc' := 44) (cl := 0) (q := 9) ⟨rfl, rfl⟩ ⟨rfl, by decide⟩ (zOl hF rfl) ht.2.2.2.2.2 ?_
  refine w_bi (pc' := 46) ⟨rfl, rfl⟩ (by decide) ?_
  refine w_cv5 (pc' := 49) ⟨rfl, rfl⟩ (by decide) (zOl hF rfl) (Nat.le_of_ble_eq_true rfl) (Nat.le_of_ble_eq_true rfl) (c_bgR hF hX hu hv hc hf h17 ht (d := d) (by omega) (by omega) (by omega) (fun σ2 x1 x2 x3 x4 x5 x6 => ?_))
  refine w_ireturn (pc' := 50) ⟨rfl, rfl⟩ (by decide) ?_
  exact k _ x1 x2 x3 x4 x5 x6
theorem t_tXN {σ : zSt} (hF : zFx σ) {l : List Int} (hT : zTL σ l) {p u v c f : Nat} (hX : zXg σ u v c f) (hu : u < 3) (hv : v < 3) (hc : c < 4) (hf : f < 6) {nm : Int} {n : Nat} {K C : Nat → Int} (hS : zShp σ (5 + 3 + 5 * v) nm n K C) (hn : n ≤ 6) (hfn : f < n) (hk0 : K f ≠ 0 ∧ 0 ≤ K f ∧ K f ≤ 8) (h17 : zI σ 1 17 = iZ (f : Int)) {d : Nat} {nb : Int} {wd : Int32} (ht : zTok σ p 0 wd (-1) (d : Int) nb) (hd : 1 ≤ d ∧ d ≤ 3) (hp : p ≤ 1600) (hbl : ¬ zlt l.length (fun i => l.getD i 0) ((p : Int) - 1)) (hnb : 0 ≤ nb ∧ nb ≤ 999) (i3 : zI σ 1 3 = iZ 12) {Q : zSt → Option Value → Prop} (k : ∀ σ2, zFk [1, (5 + 18 + 8 * c), (5 + 18 + 8 * c + 2 + f)] σ σ2 → zI σ2 1 3 = iZ 16 → zI σ2 1 4 = iZ ((p + d : Nat) : Int) → zXg σ2 u v c (f + 1) → zR σ2 1 16 = some (5 + 18 + 8 * c + 2 + f) → zI σ2 (5 + 18 + 8 * c + 2 + f) 2 = iZ (-1) → Q σ2 (some (.int (iZ 1)))) : zCa 4 [.ref 1] σ Q := by
  refine w_enter (c := zk_X0_takeInCross) (ls2 := [(0, .ref 1)]) rfl ⟨rfl, trivial⟩ ?_
  refine w_aload_n (pc' := 1) ⟨rfl, rfl⟩ rfl ?_
  refine w_getI (pc' := 4) (cl := 0) (q := 3) ⟨rfl, rfl⟩ ⟨rfl, by decide⟩ (zOl hF rfl) i3 ?_
  refine w_tsInZ (pc' := 56) (pcT := 127) 5 ⟨rfl, rfl⟩ (by decide) (by decide) rfl rfl ?_
  refine w_aload_n (pc' := 128) ⟨rfl, rfl⟩ rfl ?_
  refine w_getI (pc' := 131) (cl := 0) (q := 8) ⟨rfl, rfl⟩ ⟨rfl, by decide⟩ (zOl hF rfl) ht.2.2.2.2.1 ?_
  refine w_ifF_le (pc' := 134) ⟨rfl, rfl⟩ (by omega) ?_
  refine w_aload_n (pc' := 135) ⟨rfl, rfl⟩ rfl ?_
  refine w_cv1 (pc' := 138) ⟨rfl, rfl⟩ (by decide) (zOl hF rfl) (Nat.le_of_ble_eq_true rfl) (Nat.le_of_ble_eq_true rfl) (c_tXN hF hT hX hu hv hc hf hS hn hfn hk0 h17 ht hd hp hbl hnb (fun σ2 x1 x2 x3 x4 x5 x6 => ?_))
  refine w_goto (pc' := 141) (pcT := 145) ⟨rfl, rfl⟩ rfl ?_
  refine w_ireturn (pc' := 146) ⟨rfl, rfl⟩ (by decide) ?_
  exact k _ x1 x2 x3 x4 x5 x6
theorem c_tXA {σ : zSt} (hF : zFx σ) {p u v c f : Nat} (hX : zXg σ u v c f) (hu : u < 3) (hv : v < 3) (hc : c < 4) (hf : f < 6) {nm : Int} {n : Nat} {K C : Nat → Int} (hS : zShp σ (5 + 3 + 5 * u) nm n K C) (hn : n ≤ 6) {g : Nat} (hgn : g < n) (h17 : zI σ 1 17 = iZ (f : Int)) (ht : zTok σ p 2 (iZ (zfN g)) (-1) 0 0) {Q : zSt → Option Value → Prop} (k : ∀ σ2, zFk [1, (5 + 18 + 8 * c), (5 + 18 + 8 * c + 2 + f)] σ σ2 → zI σ2 1 3 = iZ 13 → zI σ2 1 4 = iZ ((p + 2 : Nat) : Int) → zXg σ2 u v c (f + 1) → zR σ2 1 16 = some (5 + 18 + 8 * c + 2 + f) → zI σ2 (5 + 18 + 8 * c + 2 + f) 2 = iZ (g : Int) → Q σ2 (some (.int (iZ 1)))) : zCa 20 [.ref 1] σ Q := by
  refine w_enter (c := zk_X0_takeFieldSource) (ls2 := [(0, .ref 1)]) rfl ⟨rfl, trivial⟩ ?_
  refine w_aload_n (pc' := 1) ⟨rfl, rfl⟩ rfl ?_
  refine w_cv1 (pc' := 4) ⟨rfl, rfl⟩ (by decide) (zOl hF rfl) (Nat.le_of_ble_eq_true rfl) (Nat.le_of_ble_eq_true rfl) (c_nameStands hF ht (by decide) ?_)
  refine w_ifT_ne (pc' := 7) (pcT := 9) ⟨rfl, rfl⟩ rfl (by decide) ?_
  refine w_aload_n (pc' := 10) ⟨rfl, rfl⟩ rfl ?_
  refine w_getR (pc' := 13) (cl := 0) (q := 14) ⟨rfl, rfl⟩ ⟨rfl, by decide⟩ (zOl hF rfl) hX.1.2.1 ?_
  refine w_aload_n (pc' := 14) ⟨rfl, rfl⟩ rfl ?_
  refine w_getI (pc' := 17) (cl := 0) (q := 6) ⟨rfl, rfl⟩ ⟨rfl, by decide⟩ (zOl hF rfl) ht.2.2.1 ?_
  refine w_cv2 (pc' := 20) ⟨rfl, rfl⟩ (by decide) ((zB5.s hF hu).2.o hF) (Nat.le_of_ble_eq_true rfl) (Nat.le_of_ble_eq_true rfl) (c_fonI hF (zB5.s hF hu).2 hS hn hgn ?_)
  refine w_istore_n (pc' := 21) ⟨rfl, rfl⟩ rfl ?_
  refine w_iload_n (pc' := 22) ⟨rfl, rfl⟩ rfl ?_
  refine w_ic (pc' := 23) ⟨rfl, rfl⟩ ?_
  refine w_icT_ne (pc' := 26) (pcT := 36) ⟨rfl, rfl⟩ rfl (by omega) ?_
  refine w_aload_n (pc' := 37) ⟨rfl, rfl⟩ rfl ?_
  refine w_ic (pc' := 38) ⟨rfl, rfl⟩ ?_
  refine w_iload_n (pc' := 39) ⟨rfl, rfl⟩ rfl ?_
  refine w_ic (pc' := 40) ⟨rfl, rfl⟩ ?_
  refine w_bi (pc' := 42) ⟨rfl, rfl⟩ (by decide) ?_
  refine w_cv5 (pc' := 45) ⟨rfl, rfl⟩ (by decide) (zOl hF rfl) (Nat.le_of_ble_eq_true rfl) (Nat.le_of_ble_eq_true rfl) (c_bgR hF hX hu hv hc hf h17 ht (d := 2) (by decide) (by decide) (by decide) (fun σ2 x1 x2 x3 x4 x5 x6 => ?_))
  refine w_ireturn (pc' := 46) ⟨rfl, rfl⟩ (by decide) ?_
  exact k _ x1 x2 x3 x4 x5 x6
theorem t_tXA {σ : zSt} (hF : zFx σ) {p u v c f : Nat} (hX : zXg σ u v c f) (hu : u < 3) (hv : v < 3) (hc : c < 4) (hf : f < 6) {nm : Int} {n : Nat} {K C : Nat → Int} (hS : zShp σ (5 + 3 + 5 * u) nm n K C) (hn : n ≤ 6) {g : Nat} (hgn : g < n) (h17 : zI σ 1 17 = iZ (f : Int)) (ht : zTok σ p 2 (iZ (zfN g)) (-1) 0 0) (i3 : zI σ 1 3 = iZ 12) {Q : zSt → Option Value → Prop} (k : ∀ σ2, zFk [1, (5 + 18 + 8 * c), (5 + 18 + 8 * c + 2 + f)] σ σ2 → zI σ2 1 3 = iZ 13 → zI σ2 1 4 = iZ ((p + 2 : Nat) : Int) → zXg σ2 u v c (f + 1) → zR σ2 1 16 = some (5 + 18 + 8 * c + 2 + f) → zI σ2 (5 + 18 + 8 * c + 2 + f) 2 = iZ (g : Int) → Q σ2 (some (.int (iZ 1)))) : zCa 4 [.ref 1] σ Q := by
  refine w_enter (c := zk_X0_takeInCross) (ls2 := [(0, .ref 1)]) rfl ⟨rfl, trivial⟩ ?_
  refine w_aload_n (pc' := 1) ⟨rfl, rfl⟩ rfl ?_
  refine w_getI (pc' := 4) (cl := 0) (q := 3) ⟨rfl, rfl⟩ ⟨rfl, by decide⟩ (zOl hF rfl) i3 ?_
  refine w_tsInZ (pc' := 56) (pcT := 127) 5 ⟨rfl, rfl⟩ (by decide) (by decide) rfl rfl ?_
  refine w_aload_n (pc' := 128) ⟨rfl, rfl⟩ rfl ?_
  refine w_getI (pc' := 131) (cl := 0) (q := 8) ⟨rfl, rfl⟩ ⟨rfl, by decide⟩ (zOl hF rfl) ht.2.2.2.2.1 ?_
  refine w_ifT_le (pc' := 134) (pcT := 141) ⟨rfl, rfl⟩ rfl (by decide) ?_
  refine w_aload_n (pc' := 142) ⟨rfl, rfl⟩ rfl ?_
  refine w_cv1 (pc' := 145) ⟨rfl, rfl⟩ (by decide) (zOl hF rfl) (Nat.le_of_ble_eq_true rfl) (Nat.le_of_ble_eq_true rfl) (c_tXA hF hX hu hv hc hf hS hn hgn h17 ht (fun σ2 x1 x2 x3 x4 x5 x6 => ?_))
  refine w_ireturn (pc' := 146) ⟨rfl, rfl⟩ (by decide) ?_
  exact k _ x1 x2 x3 x4 x5 x6
theorem c_tXBy {σ : zSt} (hF : zFx σ) {p u v c f : Nat} (hX : zXg σ u v c (f + 1)) (hu : u < 3) (hv : v < 3) (hc : c < 4) (hf : f < 6) (h16 : zR σ 1 16 = some (5 + 18 + 8 * c + 2 + f)) {nm : Int} {n : Nat} {K C : Nat → Int} (hS : zShp σ (5 + 3 + 5 * u) nm n K C) (hn : n ≤ 6) {g : Nat} (hgn : g < n) (hkg : 1 ≤ K g ∧ K g ≤ 7) (h2g : zI σ (5 + 18 + 8 * c + 2 + f) 2 = iZ (g : Int)) {wd : Int32} (ht : zTok σ p 2 wd 14 0 0) {Q : zSt → Option Value → Prop} (k : ∀ σ2, zFm [1, (5 + 18 + 8 * c + 2 + f)] σ σ2 → zI σ2 1 3 = iZ 14 → zI σ2 1 4 = iZ ((p + 2 : Nat) : Int) → (∀ k, k ≠ 1 → zI σ2 (5 + 18 + 8 * c + 2 + f) k = zI σ (5 + 18 + 8 * c + 2 + f) k) → Q σ2 (some (.int (iZ 1)))) : zCa 22 [.ref 1] σ Q := by
  refine w_enter (c := zk_X0_takeSort) (ls2 := [(0, .ref 1)]) rfl ⟨rfl, trivial⟩ ?_
  have hR := ((zB5.g hF hc).2.r hF hf).2
  refine w_aload_n (pc' := 1) ⟨rfl, rfl⟩ rfl ?_
  refine w_getR (pc' := 4) (cl := 0) (q := 14) ⟨rfl, rfl⟩ ⟨rfl, by decide⟩ (zOl hF rfl) hX.1.2.1 ?_
  refine w_aload_n (pc' := 5) ⟨rfl, rfl⟩ rfl ?_
  refine w_getR (pc' := 8) (cl := 0) (q := 16) ⟨rfl, rfl⟩ ⟨rfl, by decide⟩ (zOl hF rfl) h16 ?_
  refine w_getI (pc' := 11) (cl := 5) (q := 2) ⟨rfl, rfl⟩ ⟨rfl, by decide⟩ hR h2g ?_
  refine w_cv2 (pc' := 14) ⟨rfl, rfl⟩ (by decide) ((zB5.s hF hu).2.o hF) (Nat.le_of_ble_eq_true rfl) (Nat.le_of_ble_eq_true rfl) (c_kdI hF (zB5.s hF hu).2 hS hn hgn ?_)
  refine w_cs1 (pc' := 17) ⟨rfl, rfl⟩ (by decide) (Nat.le_of_ble_eq_true rfl) (Nat.le_of_ble_eq_true rfl) (c_isNum hkg ?_)
  refine w_ifT_ne (pc' := 20) (pcT := 30) ⟨rfl, rfl⟩ rfl (by decide) ?_
  refine w_aload_n (pc' := 31) ⟨rfl, rfl⟩ rfl ?_
  refine w_getR (pc' := 34) (cl := 0) (q := 16) ⟨rfl, rfl⟩ ⟨rfl, by decide⟩ (zOl hF rfl) h16 ?_
  refine w_aload_n (pc' := 35) ⟨rfl, rfl⟩ rfl ?_
  refine w_getI (pc' := 38) (cl := 0) (q := 7) ⟨rfl, rfl⟩ ⟨rfl, by decide⟩ (zOl hF rfl) ht.2.2.2.1 ?_
  refine w_bi (pc' := 40) ⟨rfl, rfl⟩ (by decide) ?_
  refine w_icF_ne (pc' := 43) ⟨rfl, rfl⟩ (by decide) ?_
  refine w_ic (pc' := 44) ⟨rfl, rfl⟩ ?_
  refine w_goto (pc' := 47) (pcT := 61) ⟨rfl, rfl⟩ rfl ?_
  refine w_putI (pc' := 64) (cl := 5) (q := 1) ⟨rfl, rfl⟩ ⟨rfl, by decide⟩ hR ?_
  refine w_gI (fun σ3 m3 e3 o3 => ?_)
  have ht := ht.fk m3.q (by simp only [List.mem_cons, List.not_mem_nil, or_false, not_false_eq_true] <;> omega)
  have hF := m3.fx hF
  refine w_aload_n (pc' := 65) ⟨rfl, rfl⟩ rfl ?_
  refine w_aload_n (pc' := 66) ⟨rfl, rfl⟩ rfl ?_
  refine w_getI (pc' := 69) (cl := 0) (q := 7) ⟨rfl, rfl⟩ ⟨rfl, by decide⟩ (zOl hF rfl) ht.2.2.2.1 ?_
  refine w_bi (pc' := 71) ⟨rfl, rfl⟩ (by decide) ?_
  refine w_icT_ne (pc' := 74) (pcT := 79) ⟨rfl, rfl⟩ rfl (by decide) ?_
  refine w_bi (pc' := 81) ⟨rfl, rfl⟩ (by decide) ?_
  refine w_cv2 (pc' := 84) ⟨rfl, rfl⟩ (by decide) (zOl hF rfl) (Nat.le_of_ble_eq_true rfl) (Nat.le_of_ble_eq_true rfl) (c_goOn hF ht (d := 2) (by decide) (by decide) (by decide) (fun σ2 h2 => ?_))
  refine w_ireturn (pc' := 85) ⟨rfl, rfl⟩ (by decide) ?_
  exact k _ ((m3.mono (fun _ h => by simp only [List.mem_cons, List.not_mem_nil, or_false] at h ⊢ <;> omega)).trans (h2.1.mono (fun _ h => by simp only [List.mem_cons, List.not_mem_nil, or_false] at h ⊢ <;> omega))) h2.2.1 h2.2.2.1 (fun k hk => ((h2.1.2.2 _ (by simp only [List.mem_cons, List.not_mem_nil, or_false, not_false_eq_true] <;> omega)).1 k).trans (o3 k hk))
theorem t_tXBy {σ : zSt} (hF : zFx σ) {p u v c f : Nat} (hX : zXg σ u v c (f + 1)) (hu : u < 3) (hv : v < 3) (hc : c < 4) (hf : f < 6) (h16 : zR σ 1 16 = some (5 + 18 + 8 * c + 2 + f)) {nm : Int} {n : Nat} {K C : Nat → Int} (hS : zShp σ (5 + 3 + 5 * u) nm n K C) (hn : n ≤ 6) {g : Nat} (hgn : g < n) (hkg : 1 ≤ K g ∧ K g ≤ 7) (h2g : zI σ (5 + 18 + 8 * c + 2 + f) 2 = iZ (g : Int)) {wd : Int32} (ht : zTok σ p 2 wd 14 0 0) (i3 : zI σ 1 3 = iZ 13) {Q : zSt → Option Value → Prop} (k : ∀ σ2, zFm [1, (5 + 18 + 8 * c + 2 + f)] σ σ2 → zI σ2 1 3 = iZ 14 → zI σ2 1 4 = iZ ((p + 2 : Nat) : Int) → (∀ k, k ≠ 1 → zI σ2 (5 + 18 + 8 * c + 2 + f) k = zI σ (5 + 18 + 8 * c + 2 + f) k) → Q σ2 (some (.int (iZ 1)))) : zCa 4 [.ref 1] σ Q := by
  refine w_enter (c := zk_X0_takeInCross) (ls2 := [(0, .ref 1)]) rfl ⟨rfl, trivial⟩ ?_
  refine w_aload_n (pc' := 1) ⟨rfl, rfl⟩ rfl ?_
  refine w_getI (pc' := 4) (cl := 0) (q := 3) ⟨rfl, rfl⟩ ⟨rfl, by decide⟩ (zOl hF rfl) i3 ?_
  refine w_tsInZ (pc' := 56) (pcT := 146) 6 ⟨rfl, rfl⟩ (by decide) (by decide) rfl rfl ?_
  refine w_aload_n (pc' := 147) ⟨rfl, rfl⟩ rfl ?_
  refine w_getI (pc' := 150) (cl := 0) (q := 7) ⟨rfl, rfl⟩ ⟨rfl, by decide⟩ (zOl hF rfl) ht.2.2.2.1 ?_
  refine w_bi (pc' := 152) ⟨rfl, rfl⟩ (by decide) ?_
  refine w_icF_lt (pc' := 155) ⟨rfl, rfl⟩ (by decide) ?_
  refine w_aload_n (pc' := 156) ⟨rfl, rfl⟩ rfl ?_
  refine w_getI (pc' := 159) (cl := 0) (q := 7) ⟨rfl, rfl⟩ ⟨rfl, by decide⟩ (zOl hF rfl) ht.2.2.2.1 ?_
  refine w_bi (pc' := 161) ⟨rfl, rfl⟩ (by decide) ?_
  refine w_icF_gt (pc' := 164) ⟨rfl, rfl⟩ (by decide) ?_
  refine w_aload_n (pc' := 165) ⟨rfl, rfl⟩ rfl ?_
  refine w_cv1 (pc' := 168) ⟨rfl, rfl⟩ (by decide) (zOl hF rfl) (Nat.le_of_ble_eq_true rfl) (Nat.le_of_ble_eq_true rfl) (c_tXBy hF hX hu hv hc hf h16 hS hn hgn hkg h2g ht (fun σ2 x1 x2 x3 x4 => ?_))
  refine w_goto (pc' := 171) (pcT := 175) ⟨rfl, rfl⟩ rfl ?_
  refine w_ireturn (pc' := 176) ⟨rfl, rfl⟩ (by decide) ?_
  exact k _ x1 x2 x3 x4
theorem c_tXOv {σ : zSt} (hF : zFx σ) {p u v c f : Nat} (hX : zXg σ u v c (f + 1)) (hu : u < 3) (hv : v < 3) (hc : c < 4) (hf : f < 6) (h16 : zR σ 1 16 = some (5 + 18 + 8 * c + 2 + f)) {nm : Int} {n : Nat} {K C : Nat → Int} (hS : zShp σ (5 + 3 + 5 * u) nm n K C) (hn : n ≤ 6) {g : Nat} (hgn : g < n) (hkg : 1 ≤ K g ∧ K g ≤ 7) (h2g : zI σ (5 + 18 + 8 * c + 2 + f) 2 = iZ (g : Int)) {wd : Int32} (ht : zTok σ p 4 wd 15 0 0) {Q : zSt → Option Value → Prop} (k : ∀ σ2, zFm [1, (5 + 18 + 8 * c + 2 + f)] σ σ2 → zI σ2 1 3 = iZ 14 → zI σ2 1 4 = iZ ((p + 4 : Nat) : Int) → (∀ k, k ≠ 1 → zI σ2 (5 + 18 + 8 * c + 2 + f) k = zI σ (5 + 18 + 8 * c + 2 + f) k) → Q σ2 (some (.int (iZ 1)))) : zCa 22 [.ref 1] σ Q := by
  refine w_enter (c := zk_X0_takeSort) (ls2 := [(0, .ref 1)]) rfl ⟨rfl, trivial⟩ ?_
  have hR := ((zB5.g hF hc).2.r hF hf).2
  refine w_aload_n (pc' := 1) ⟨rfl, rfl⟩ rfl ?_
  refine w_getR (pc' := 4) (cl := 0) (q := 14) ⟨rfl, rfl⟩ ⟨rfl, by decide⟩ (zOl hF rfl) hX.1.2.1 ?_
  refine w_aload_n (pc' := 5) ⟨rfl, rfl⟩ rfl ?_
  refine w_getR (pc' := 8) (cl := 0) (q := 16) ⟨rfl, rfl⟩ ⟨rfl, by decide⟩ (zOl hF rfl) h16 ?_
  refine w_getI (pc' := 11) (cl := 5) (q := 2) ⟨rfl, rfl⟩ ⟨rfl, by decide⟩ hR h2g ?_
  refine w_cv2 (pc' := 14) ⟨rfl, rfl⟩ (by decide) ((zB5.s hF hu).2.o hF) (Nat.le_of_ble_eq_true rfl) (Nat.le_of_ble_eq_true rfl) (c_kdI hF (zB5.s hF hu).2 hS hn hgn ?_)
  refine w_cs1 (pc' := 17) ⟨rfl, rfl⟩ (by decide) (Nat.le_of_ble_eq_true rfl) (Nat.le_of_ble_eq_true rfl) (c_isNum hkg ?_)
  refine w_ifT_ne (pc' := 20) (pcT := 30) ⟨rfl, rfl⟩ rfl (by decide) ?_
  refine w_aload_n (pc' := 31) ⟨rfl, rfl⟩ rfl ?_
  refine w_getR (pc' := 34) (cl := 0) (q := 16) ⟨rfl, rfl⟩ ⟨rfl, by decide⟩ (zOl hF rfl) h16 ?_
  refine w_aload_n (pc' := 35) ⟨rfl, rfl⟩ rfl ?_
  refine w_getI (pc' := 38) (cl := 0) (q := 7) ⟨rfl, rfl⟩ ⟨rfl, by decide⟩ (zOl hF rfl) ht.2.2.2.1 ?_
  refine w_bi (pc' := 40) ⟨rfl, rfl⟩ (by decide) ?_
  refine w_icT_ne (pc' := 43) (pcT := 47) ⟨rfl, rfl⟩ rfl (by decide) ?_
  refine w_aload_n (pc' := 48) ⟨rfl, rfl⟩ rfl ?_
  refine w_getI (pc' := 51) (cl := 0) (q := 7) ⟨rfl, rfl⟩ ⟨rfl, by decide⟩ (zOl hF rfl) ht.2.2.2.1 ?_
  refine w_bi (pc' := 53) ⟨rfl, rfl⟩ (by decide) ?_
  refine w_icF_ne (pc' := 56) ⟨rfl, rfl⟩ (by decide) ?_
  refine w_ic (pc' := 57) ⟨rfl, rfl⟩ ?_
  refine w_goto (pc' := 60) (pcT := 61) ⟨rfl, rfl⟩ rfl ?_
  refine w_putI (pc' := 64) (cl := 5) (q := 1) ⟨rfl, rfl⟩ ⟨rfl, by decide⟩ hR ?_
  refine w_gI (fun σ3 m3 e3 o3 => ?_)
  have ht := ht.fk m3.q (by simp only [List.mem_cons, List.not_mem_nil, or_false, not_false_eq_true] <;> omega)
  have hF := m3.fx hF
  refine w_aload_n (pc' := 65) ⟨rfl, rfl⟩ rfl ?_
  refine w_aload_n (pc' := 66) ⟨rfl, rfl⟩ rfl ?_
  refine w_getI (pc' := 69) (cl := 0) (q := 7) ⟨rfl, rfl⟩ ⟨rfl, by decide⟩ (zOl hF rfl) ht.2.2.2.1 ?_
  refine w_bi (pc' := 71) ⟨rfl, rfl⟩ (by decide) ?_
  refine w_icT_ne (pc' := 74) (pcT := 79) ⟨rfl, rfl⟩ rfl (by decide) ?_
  refine w_bi (pc' := 81) ⟨rfl, rfl⟩ (by decide) ?_
  refine w_cv2 (pc' := 84) ⟨rfl, rfl⟩ (by decide) (zOl hF rfl) (Nat.le_of_ble_eq_true rfl) (Nat.le_of_ble_eq_true rfl) (c_goOn hF ht (d := 4) (by decide) (by decide) (by decide) (fun σ2 h2 => ?_))
  refine w_ireturn (pc' := 85) ⟨rfl, rfl⟩ (by decide) ?_
  exact k _ ((m3.mono (fun _ h => by simp only [List.mem_cons, List.not_mem_nil, or_false] at h ⊢ <;> omega)).trans (h2.1.mono (fun _ h => by simp only [List.mem_cons, List.not_mem_nil, or_false] at h ⊢ <;> omega))) h2.2.1 h2.2.2.1 (fun k hk => ((h2.1.2.2 _ (by simp only [List.mem_cons, List.not_mem_nil, or_false, not_false_eq_true] <;> omega)).1 k).trans (o3 k hk))
theorem t_tXOv {σ : zSt} (hF : zFx σ) {p u v c f : Nat} (hX : zXg σ u v c (f + 1)) (hu : u < 3) (hv : v < 3) (hc : c < 4) (hf : f < 6) (h16 : zR σ 1 16 = some (5 + 18 + 8 * c + 2 + f)) {nm : Int} {n : Nat} {K C : Nat → Int} (hS : zShp σ (5 + 3 + 5 * u) nm n K C) (hn : n ≤ 6) {g : Nat} (hgn : g < n) (hkg : 1 ≤ K g ∧ K g ≤ 7) (h2g : zI σ (5 + 18 + 8 * c + 2 + f) 2 = iZ (g : Int)) {wd : Int32} (ht : zTok σ p 4 wd 15 0 0) (i3 : zI σ 1 3 = iZ 13) {Q : zSt → Option Value → Prop} (k : ∀ σ2, zFm [1, (5 + 18 + 8 * c + 2 + f)] σ σ2 → zI σ2 1 3 = iZ 14 → zI σ2 1 4 = iZ ((p + 4 : Nat) : Int) → (∀ k, k ≠ 1 → zI σ2 (5 + 18 + 8 * c + 2 + f) k = zI σ (5 + 18 + 8 * c + 2 + f) k) → Q σ2 (some (.int (iZ 1)))) : zCa 4 [.ref 1] σ Q := by
  refine w_enter (c := zk_X0_takeInCross) (ls2 := [(0, .ref 1)]) rfl ⟨rfl, trivial⟩ ?_
  refine w_aload_n (pc' := 1) ⟨rfl, rfl⟩ rfl ?_
  refine w_getI (pc' := 4) (cl := 0) (q := 3) ⟨rfl, rfl⟩ ⟨rfl, by decide⟩ (zOl hF rfl) i3 ?_
  refine w_tsInZ (pc' := 56) (pcT := 146) 6 ⟨rfl, rfl⟩ (by decide) (by decide) rfl rfl ?_
  refine w_aload_n (pc' := 147) ⟨rfl, rfl⟩ rfl ?_
  refine w_getI (pc' := 150) (cl := 0) (q := 7) ⟨rfl, rfl⟩ ⟨rfl, by decide⟩ (zOl hF rfl) ht.2.2.2.1 ?_
  refine w_bi (pc' := 152) ⟨rfl, rfl⟩ (by decide) ?_
  refine w_icF_lt (pc' := 155) ⟨rfl, rfl⟩ (by decide) ?_
  refine w_aload_n (pc' := 156) ⟨rfl, rfl⟩ rfl ?_
  refine w_getI (pc' := 159) (cl := 0) (q := 7) ⟨rfl, rfl⟩ ⟨rfl, by decide⟩ (zOl hF rfl) ht.2.2.2.1 ?_
  refine w_bi (pc' := 161) ⟨rfl, rfl⟩ (by decide) ?_
  refine w_icF_gt (pc' := 164) ⟨rfl, rfl⟩ (by decide) ?_
  refine w_aload_n (pc' := 165) ⟨rfl, rfl⟩ rfl ?_
  refine w_cv1 (pc' := 168) ⟨rfl, rfl⟩ (by decide) (zOl hF rfl) (Nat.le_of_ble_eq_true rfl) (Nat.le_of_ble_eq_true rfl) (c_tXOv hF hX hu hv hc hf h16 hS hn hgn hkg h2g ht (fun σ2 x1 x2 x3 x4 => ?_))
  refine w_goto (pc' := 171) (pcT := 175) ⟨rfl, rfl⟩ rfl ?_
  refine w_ireturn (pc' := 176) ⟨rfl, rfl⟩ (by decide) ?_
  exact k _ x1 x2 x3 x4
theorem c_tXPl {σ : zSt} (hF : zFx σ) {p u v c f : Nat} (hX : zXg σ u v c (f + 1)) (hu : u < 3) (hv : v < 3) (hc : c < 4) (hf : f < 6) (h16 : zR σ 1 16 = some (5 + 18 + 8 * c + 2 + f)) {nm : Int} {n : Nat} {K C : Nat → Int} (hS : zShp σ (5 + 3 + 5 * u) nm n K C) (hn : n ≤ 6) {g : Nat} (hgn : g < n) (hkg : 1 ≤ K g ∧ K g ≤ 7) (h2g : zI σ (5 + 18 + 8 * c + 2 + f) 2 = iZ (g : Int)) {wd : Int32} (ht : zTok σ p 4 wd 16 0 0) {Q : zSt → Option Value → Prop} (k : ∀ σ2, zFm [1, (5 + 18 + 8 * c + 2 + f)] σ σ2 → zI σ2 1 3 = iZ 15 → zI σ2 1 4 = iZ ((p + 4 : Nat) : Int) → (∀ k, k ≠ 1 → zI σ2 (5 + 18 + 8 * c + 2 + f) k = zI σ (5 + 18 + 8 * c + 2 + f) k) → Q σ2 (some (.int (iZ 1)))) : zCa 22 [.ref 1] σ Q := by
  refine w_enter (c := zk_X0_takeSort) (ls2 := [(0, .ref 1)]) rfl ⟨rfl, trivial⟩ ?_
  have hR := ((zB5.g hF hc).2.r hF hf).2
  refine w_aload_n (pc' := 1) ⟨rfl, rfl⟩ rfl ?_
  refine w_getR (pc' := 4) (cl := 0) (q := 14) ⟨rfl, rfl⟩ ⟨rfl, by decide⟩ (zOl hF rfl) hX.1.2.1 ?_
  refine w_aload_n (pc' := 5) ⟨rfl, rfl⟩ rfl ?_
  refine w_getR (pc' := 8) (cl := 0) (q := 16) ⟨rfl, rfl⟩ ⟨rfl, by decide⟩ (zOl hF rfl) h16 ?_
  refine w_getI (pc' := 11) (cl := 5) (q := 2) ⟨rfl, rfl⟩ ⟨rfl, by decide⟩ hR h2g ?_
  refine w_cv2 (pc' := 14) ⟨rfl, rfl⟩ (by decide) ((zB5.s hF hu).2.o hF) (Nat.le_of_ble_eq_true rfl) (Nat.le_of_ble_eq_true rfl) (c_kdI hF (zB5.s hF hu).2 hS hn hgn ?_)
  refine w_cs1 (pc' := 17) ⟨rfl, rfl⟩ (by decide) (Nat.le_of_ble_eq_true rfl) (Nat.le_of_ble_eq_true rfl) (c_isNum hkg ?_)
  refine w_ifT_ne (pc' := 20) (pcT := 30) ⟨rfl, rfl⟩ rfl (by decide) ?_
  refine w_aload_n (pc' := 31) ⟨rfl, rfl⟩ rfl ?_
  refine w_getR (pc' := 34) (cl := 0) (q := 16) ⟨rfl, rfl⟩ ⟨rfl, by decide⟩ (zOl hF rfl) h16 ?_
  refine w_aload_n (pc' := 35) ⟨rfl, rfl⟩ rfl ?_
  refine w_getI (pc' := 38) (cl := 0) (q := 7) ⟨rfl, rfl⟩ ⟨rfl, by decide⟩ (zOl hF rfl) ht.2.2.2.1 ?_
  refine w_bi (pc' := 40) ⟨rfl, rfl⟩ (by decide) ?_
  refine w_icT_ne (pc' := 43) (pcT := 47) ⟨rfl, rfl⟩ rfl (by decide) ?_
  refine w_aload_n (pc' := 48) ⟨rfl, rfl⟩ rfl ?_
  refine w_getI (pc' := 51) (cl := 0) (q := 7) ⟨rfl, rfl⟩ ⟨rfl, by decide⟩ (zOl hF rfl) ht.2.2.2.1 ?_
  refine w_bi (pc' := 53) ⟨rfl, rfl⟩ (by decide) ?_
  refine w_icT_ne (pc' := 56) (pcT := 60) ⟨rfl, rfl⟩ rfl (by decide) ?_
  refine w_ic (pc' := 61) ⟨rfl, rfl⟩ ?_
  refine w_putI (pc' := 64) (cl := 5) (q := 1) ⟨rfl, rfl⟩ ⟨rfl, by decide⟩ hR ?_
  refine w_gI (fun σ3 m3 e3 o3 => ?_)
  have ht := ht.fk m3.q (by simp only [List.mem_cons, List.not_mem_nil, or_false, not_false_eq_true] <;> omega)
  have hF := m3.fx hF
  refine w_aload_n (pc' := 65) ⟨rfl, rfl⟩ rfl ?_
  refine w_aload_n (pc' := 66) ⟨rfl, rfl⟩ rfl ?_
  refine w_getI (pc' := 69) (cl := 0) (q := 7) ⟨rfl, rfl⟩ ⟨rfl, by decide⟩ (zOl hF rfl) ht.2.2.2.1 ?_
  refine w_bi (pc' := 71) ⟨rfl, rfl⟩ (by decide) ?_
  refine w_icF_ne (pc' := 74) ⟨rfl, rfl⟩ (by decide) ?_
  refine w_bi (pc' := 76) ⟨rfl, rfl⟩ (by decide) ?_
  refine w_goto (pc' := 79) (pcT := 81) ⟨rfl, rfl⟩ rfl ?_
  refine w_cv2 (pc' := 84) ⟨rfl, rfl⟩ (by decide) (zOl hF rfl) (Nat.le_of_ble_eq_true rfl) (Nat.le_of_ble_eq_true rfl) (c_goOn hF ht (d := 4) (by decide) (by decide) (by decide) (fun σ2 h2 => ?_))
  refine w_ireturn (pc' := 85) ⟨rfl, rfl⟩ (by decide) ?_
  exact k _ ((m3.mono (fun _ h => by simp only [List.mem_cons, List.not_mem_nil, or_false] at h ⊢ <;> omega)).trans (h2.1.mono (fun _ h => by simp only [List.mem_cons, List.not_mem_nil, or_false] at h ⊢ <;> omega))) h2.2.1 h2.2.2.1 (fun k hk => ((h2.1.2.2 _ (by simp only [List.mem_cons, List.not_mem_nil, or_false, not_false_eq_true] <;> omega)).1 k).trans (o3 k hk))
theorem t_tXPl {σ : zSt} (hF : zFx σ) {p u v c f : Nat} (hX : zXg σ u v c (f + 1)) (hu : u < 3) (hv : v < 3) (hc : c < 4) (hf : f < 6) (h16 : zR σ 1 16 = some (5 + 18 + 8 * c + 2 + f)) {nm : Int} {n : Nat} {K C : Nat → Int} (hS : zShp σ (5 + 3 + 5 * u) nm n K C) (hn : n ≤ 6) {g : Nat} (hgn : g < n) (hkg : 1 ≤ K g ∧ K g ≤ 7) (h2g : zI σ (5 + 18 + 8 * c + 2 + f) 2 = iZ (g : Int)) {wd : Int32} (ht : zTok σ p 4 wd 16 0 0) (i3 : zI σ 1 3 = iZ 13) {Q : zSt → Option Value → Prop} (k : ∀ σ2, zFm [1, (5 + 18 + 8 * c + 2 + f)] σ σ2 → zI σ2 1 3 = iZ 15 → zI σ2 1 4 = iZ ((p + 4 : Nat) : Int) → (∀ k, k ≠ 1 → zI σ2 (5 + 18 + 8 * c + 2 + f) k = zI σ (5 + 18 + 8 * c + 2 + f) k) → Q σ2 (some (.int (iZ 1)))) : zCa 4 [.ref 1] σ Q := by
  refine w_enter (c := zk_X0_takeInCross) (ls2 := [(0, .ref 1)]) rfl ⟨rfl, trivial⟩ ?_
  refine w_aload_n (pc' := 1) ⟨rfl, rfl⟩ rfl ?_
  refine w_getI (pc' := 4) (cl := 0) (q := 3) ⟨rfl, rfl⟩ ⟨rfl, by decide⟩ (zOl hF rfl) i3 ?_
  refine w_tsInZ (pc' := 56) (pcT := 146) 6 ⟨rfl, rfl⟩ (by decide) (by decide) rfl rfl ?_
  refine w_aload_n (pc' := 147) ⟨rfl, rfl⟩ rfl ?_
  refine w_getI (pc' := 150) (cl := 0) (q := 7) ⟨rfl, rfl⟩ ⟨rfl, by decide⟩ (zOl hF rfl) ht.2.2.2.1 ?_
  refine w_bi (pc' := 152) ⟨rfl, rfl⟩ (by decide) ?_
  refine w_icF_lt (pc' := 155) ⟨rfl, rfl⟩ (by decide) ?_
  refine w_aload_n (pc' := 156) ⟨rfl, rfl⟩ rfl ?_
  refine w_getI (pc' := 159) (cl := 0) (q := 7) ⟨rfl, rfl⟩ ⟨rfl, by decide⟩ (zOl hF rfl) ht.2.2.2.1 ?_
  refine w_bi (pc' := 161) ⟨rfl, rfl⟩ (by decide) ?_
  refine w_icF_gt (pc' := 164) ⟨rfl, rfl⟩ (by decide) ?_
  refine w_aload_n (pc' := 165) ⟨rfl, rfl⟩ rfl ?_
  refine w_cv1 (pc' := 168) ⟨rfl, rfl⟩ (by decide) (zOl hF rfl) (Nat.le_of_ble_eq_true rfl) (Nat.le_of_ble_eq_true rfl) (c_tXPl hF hX hu hv hc hf h16 hS hn hgn hkg h2g ht (fun σ2 x1 x2 x3 x4 => ?_))
  refine w_goto (pc' := 171) (pcT := 175) ⟨rfl, rfl⟩ rfl ?_
  refine w_ireturn (pc' := 176) ⟨rfl, rfl⟩ (by decide) ?_
  exact k _ x1 x2 x3 x4
theorem c_tXFac {σ : zSt} (hF : zFx σ) {l : List Int} (hT : zTL σ l) {p u v c f : Nat} (hX : zXg σ u v c (f + 1)) (hu : u < 3) (hv : v < 3) (hc : c < 4) (hf : f < 6) (h16 : zR σ 1 16 = some (5 + 18 + 8 * c + 2 + f)) {d : Nat} {nb : Int} {wd : Int32} (ht : zTok σ p 0 wd (-1) (d : Int) nb) (hd : 1 ≤ d ∧ d ≤ 3) (hp : p ≤ 1600) (hbl : ¬ zlt l.length (fun i => l.getD i 0) ((p : Int) - 1)) (hnb : 1 ≤ nb ∧ nb ≤ 999) {Q : zSt → Option Value → Prop} (k : ∀ σ2, zFm [1, (5 + 18 + 8 * c + 2 + f)] σ σ2 → zI σ2 1 3 = iZ 16 → zI σ2 1 4 = iZ ((p + d : Nat) : Int) → (∀ k, k ≠ 3 → zI σ2 (5 + 18 + 8 * c + 2 + f) k = zI σ (5 + 18 + 8 * c + 2 + f) k) → Q σ2 (some (.int (iZ 1)))) : zCa 23 [.ref 1] σ Q := by
  refine w_enter (c := zk_X0_takeFactor) (ls2 := [(0, .ref 1)]) rfl ⟨rfl, trivial⟩ ?_
  have hR := ((zB5.g hF hc).2.r hF hf).2
  refine w_aload_n (pc' := 1) ⟨rfl, rfl⟩ rfl ?_
  refine w_ic (pc' := 2) ⟨rfl, rfl⟩ ?_
  refine w_si (pc' := 5) ⟨rfl, rfl⟩ (by decide) ?_
  refine w_cv3 (pc' := 8) ⟨rfl, rfl⟩ (by decide) (zOl hF rfl) (Nat.le_of_ble_eq_true rfl) (Nat.le_of_ble_eq_true rfl) (c_numberStands hT hF ht hp hbl (by omega) (lo := 1) (hi := 999) hnb (by decide) ?_)
  refine w_ifT_ne (pc' := 11) (pcT := 13) ⟨rfl, rfl⟩ rfl (by decide) ?_
  refine w_aload_n (pc' := 14) ⟨rfl, rfl⟩ rfl ?_
  refine w_getR (pc' := 17) (cl := 0) (q := 16) ⟨rfl, rfl⟩ ⟨rfl, by decide⟩ (zOl hF rfl) h16 ?_
  refine w_aload_n (pc' := 18) ⟨rfl, rfl⟩ rfl ?_
  refine w_getI (pc' := 21) (cl := 0) (q := 9) ⟨rfl, rfl⟩ ⟨rfl, by decide⟩ (zOl hF rfl) ht.2.2.2.2.2 ?_
  refine w_putI (pc' := 24) (cl := 5) (q := 3) ⟨rfl, rfl⟩ ⟨rfl, by decide⟩ hR ?_
  refine w_gI (fun σ3 m3 e3 o3 => ?_)
  have ht := ht.fk m3.q (by simp only [List.mem_cons, List.not_mem_nil, or_false, not_false_eq_true] <;> omega)
  have hF := m3.fx hF
  refine w_aload_n (pc' := 25) ⟨rfl, rfl⟩ rfl ?_
  refine w_bi (pc' := 27) ⟨rfl, rfl⟩ (by decide) ?_
  refine w_cv2 (pc' := 30) ⟨rfl, rfl⟩ (by decide) (zOl hF rfl) (Nat.le_of_ble_eq_true rfl) (Nat.le_of_ble_eq_true rfl) (c_goOn hF ht (d := d) (by omega) (by omega) (by omega) (fun σ2 h2 => ?_))
  refine w_ireturn (pc' := 31) ⟨rfl, rfl⟩ (by decide) ?_
  exact k _ ((m3.mono (fun _ h => by simp only [List.mem_cons, List.not_mem_nil, or_false] at h ⊢ <;> omega)).trans (h2.1.mono (fun _ h => by simp only [List.mem_cons, List.not_mem_nil, or_false] at h ⊢ <;> omega))) h2.2.1 h2.2.2.1 (fun k hk => ((h2.1.2.2 _ (by simp only [List.mem_cons, List.not_mem_nil, or_false, not_false_eq_true] <;> omega)).1 k).trans (o3 k hk))
theorem t_tXFac {σ : zSt} (hF : zFx σ) {l : List Int} (hT : zTL σ l) {p u v c f : Nat} (hX : zXg σ u v c (f + 1)) (hu : u < 3) (hv : v < 3) (hc : c < 4) (hf : f < 6) (h16 : zR σ 1 16 = some (5 + 18 + 8 * c + 2 + f)) {d : Nat} {nb : Int} {wd : Int32} (ht : zTok σ p 0 wd (-1) (d : Int) nb) (hd : 1 ≤ d ∧ d ≤ 3) (hp : p ≤ 1600) (hbl : ¬ zlt l.length (fun i => l.getD i 0) ((p : Int) - 1)) (hnb : 1 ≤ nb ∧ nb ≤ 999) (i3 : zI σ 1 3 = iZ 14) {Q : zSt → Option Value → Prop} (k : ∀ σ2, zFm [1, (5 + 18 + 8 * c + 2 + f)] σ σ2 → zI σ2 1 3 = iZ 16 → zI σ2 1 4 = iZ ((p + d : Nat) : Int) → (∀ k, k ≠ 3 → zI σ2 (5 + 18 + 8 * c + 2 + f) k = zI σ (5 + 18 + 8 * c + 2 + f) k) → Q σ2 (some (.int (iZ 1)))) : zCa 4 [.ref 1] σ Q := by
  refine w_enter (c := zk_X0_takeInCross) (ls2 := [(0, .ref 1)]) rfl ⟨rfl, trivial⟩ ?_
  refine w_aload_n (pc' := 1) ⟨rfl, rfl⟩ rfl ?_
  refine w_getI (pc' := 4) (cl := 0) (q := 3) ⟨rfl, rfl⟩ ⟨rfl, by decide⟩ (zOl hF rfl) i3 ?_
  refine w_tsInZ (pc' := 56) (pcT := 176) 7 ⟨rfl, rfl⟩ (by decide) (by decide) rfl rfl ?_
  refine w_aload_n (pc' := 177) ⟨rfl, rfl⟩ rfl ?_
  refine w_cv1 (pc' := 180) ⟨rfl, rfl⟩ (by decide) (zOl hF rfl) (Nat.le_of_ble_eq_true rfl) (Nat.le_of_ble_eq_true rfl) (c_tXFac hF hT hX hu hv hc hf h16 ht hd hp hbl hnb (fun σ2 x1 x2 x3 x4 => ?_))
  refine w_ireturn (pc' := 181) ⟨rfl, rfl⟩ (by decide) ?_
  exact k _ x1 x2 x3 x4
theorem c_tX2 {σ : zSt} (hF : zFx σ) {p u v c f : Nat} (hX : zXg σ u v c (f + 1)) (hu : u < 3) (hv : v < 3) (hc : c < 4) (hf : f < 6) (h16 : zR σ 1 16 = some (5 + 18 + 8 * c + 2 + f)) {nm : Int} {n : Nat} {K C : Nat → Int} (hS : zShp σ (5 + 3 + 5 * u) nm n K C) (hn : n ≤ 6) {g : Nat} (hgn : g < n) (hkg : 1 ≤ K g ∧ K g ≤ 7) (ht : zTok σ p 2 (iZ (zfN g)) (-1) 0 0) {Q : zSt → Option Value → Prop} (k : ∀ σ2, zFm [1, (5 + 18 + 8 * c + 2 + f)] σ σ2 → zI σ2 1 3 = iZ 16 → zI σ2 1 4 = iZ ((p + 2 : Nat) : Int) → (∀ k, k ≠ 3 → zI σ2 (5 + 18 + 8 * c + 2 + f) k = zI σ (5 + 18 + 8 * c + 2 + f) k) → Q σ2 (some (.int (iZ 1)))) : zCa 24 [.ref 1] σ Q := by
  refine w_enter (c := zk_X0_takeSecondField) (ls2 := [(0, .ref 1)]) rfl ⟨rfl, trivial⟩ ?_
  have hR := ((zB5.g hF hc).2.r hF hf).2
  refine w_aload_n (pc' := 1) ⟨rfl, rfl⟩ rfl ?_
  refine w_cv1 (pc' := 4) ⟨rfl, rfl⟩ (by decide) (zOl hF rfl) (Nat.le_of_ble_eq_true rfl) (Nat.le_of_ble_eq_true rfl) (c_nameStands hF ht (by decide) ?_)
  refine w_ifT_ne (pc' := 7) (pcT := 9) ⟨rfl, rfl⟩ rfl (by decide) ?_
  refine w_aload_n (pc' := 10) ⟨rfl, rfl⟩ rfl ?_
  refine w_getR (pc' := 13) (cl := 0) (q := 14) ⟨rfl, rfl⟩ ⟨rfl, by decide⟩ (zOl hF rfl) hX.1.2.1 ?_
  refine w_aload_n (pc' := 14) ⟨rfl, rfl⟩ rfl ?_
  refine w_getI (pc' := 17) (cl := 0) (q := 6) ⟨rfl, rfl⟩ ⟨rfl, by decide⟩ (zOl hF rfl) ht.2.2.1 ?_
  refine w_cv2 (pc' := 20) ⟨rfl, rfl⟩ (by decide) ((zB5.s hF hu).2.o hF) (Nat.le_of_ble_eq_true rfl) (Nat.le_of_ble_eq_true rfl) (c_fonI hF (zB5.s hF hu).2 hS hn hgn ?_)
  refine w_istore_n (pc' := 21) ⟨rfl, rfl⟩ rfl ?_
  refine w_iload_n (pc' := 22) ⟨rfl, rfl⟩ rfl ?_
  refine w_ic (pc' := 23) ⟨rfl, rfl⟩ ?_
  refine w_icT_ne (pc' := 26) (pcT := 36) ⟨rfl, rfl⟩ rfl (by omega) ?_
  refine w_aload_n (pc' := 37) ⟨rfl, rfl⟩ rfl ?_
  refine w_getR (pc' := 40) (cl := 0) (q := 14) ⟨rfl, rfl⟩ ⟨rfl, by decide⟩ (zOl hF rfl) hX.1.2.1 ?_
  refine w_iload_n (pc' := 41) ⟨rfl, rfl⟩ rfl ?_
  refine w_cv2 (pc' := 44) ⟨rfl, rfl⟩ (by decide) ((zB5.s hF hu).2.o hF) (Nat.le_of_ble_eq_true rfl) (Nat.le_of_ble_eq_true rfl) (c_kdI hF (zB5.s hF hu).2 hS hn hgn ?_)
  refine w_cs1 (pc' := 47) ⟨rfl, rfl⟩ (by decide) (Nat.le_of_ble_eq_true rfl) (Nat.le_of_ble_eq_true rfl) (c_isNum hkg ?_)
  refine w_ifT_ne (pc' := 50) (pcT := 60) ⟨rfl, rfl⟩ rfl (by decide) ?_
  refine w_aload_n (pc' := 61) ⟨rfl, rfl⟩ rfl ?_
  refine w_getR (pc' := 64) (cl := 0) (q := 16) ⟨rfl, rfl⟩ ⟨rfl, by decide⟩ (zOl hF rfl) h16 ?_
  refine w_iload_n (pc' := 65) ⟨rfl, rfl⟩ rfl ?_
  refine w_putI (pc' := 68) (cl := 5) (q := 3) ⟨rfl, rfl⟩ ⟨rfl, by decide⟩ hR ?_
  refine w_gI (fun σ3 m3 e3 o3 => ?_)
  have ht := ht.fk m3.q (by simp only [List.mem_cons, List.not_mem_nil, or_false, not_false_eq_true] <;> omega)
  have hF := m3.fx hF
  refine w_aload_n (pc' := 69) ⟨rfl, rfl⟩ rfl ?_
  refine w_bi (pc' := 71) ⟨rfl, rfl⟩ (by decide) ?_
  refine w_cv2 (pc' := 74) ⟨rfl, rfl⟩ (by decide) (zOl hF rfl) (Nat.le_of_ble_eq_true rfl) (Nat.le_of_ble_eq_true rfl) (c_goOn hF ht (d := 2) (by decide) (by decide) (by decide) (fun σ2 h2 => ?_))
  refine w_ireturn (pc' := 75) ⟨rfl, rfl⟩ (by decide) ?_
  exact k _ ((m3.mono (fun _ h => by simp only [List.mem_cons, List.not_mem_nil, or_false] at h ⊢ <;> omega)).trans (h2.1.mono (fun _ h => by simp only [List.mem_cons, List.not_mem_nil, or_false] at h ⊢ <;> omega))) h2.2.1 h2.2.2.1 (fun k hk => ((h2.1.2.2 _ (by simp only [List.mem_cons, List.not_mem_nil, or_false, not_false_eq_true] <;> omega)).1 k).trans (o3 k hk))
theorem t_tX2 {σ : zSt} (hF : zFx σ) {p u v c f : Nat} (hX : zXg σ u v c (f + 1)) (hu : u < 3) (hv : v < 3) (hc : c < 4) (hf : f < 6) (h16 : zR σ 1 16 = some (5 + 18 + 8 * c + 2 + f)) {nm : Int} {n : Nat} {K C : Nat → Int} (hS : zShp σ (5 + 3 + 5 * u) nm n K C) (hn : n ≤ 6) {g : Nat} (hgn : g < n) (hkg : 1 ≤ K g ∧ K g ≤ 7) (ht : zTok σ p 2 (iZ (zfN g)) (-1) 0 0) (i3 : zI σ 1 3 = iZ 15) {Q : zSt → Option Value → Prop} (k : ∀ σ2, zFm [1, (5 + 18 + 8 * c + 2 + f)] σ σ2 → zI σ2 1 3 = iZ 16 → zI σ2 1 4 = iZ ((p + 2 : Nat) : Int) → (∀ k, k ≠ 3 → zI σ2 (5 + 18 + 8 * c + 2 + f) k = zI σ (5 + 18 + 8 * c + 2 + f) k) → Q σ2 (some (.int (iZ 1)))) : zCa 4 [.ref 1] σ Q := by
  refine w_enter (c := zk_X0_takeInCross) (ls2 := [(0, .ref 1)]) rfl ⟨rfl, trivial⟩ ?_
  refine w_aload_n (pc' := 1) ⟨rfl, rfl⟩ rfl ?_
  refine w_getI (pc' := 4) (cl := 0) (q := 3) ⟨rfl, rfl⟩ ⟨rfl, by decide⟩ (zOl hF rfl) i3 ?_
  refine w_tsInZ (pc' := 56) (pcT := 181) 8 ⟨rfl, rfl⟩ (by decide) (by decide) rfl rfl ?_
  refine w_aload_n (pc' := 182) ⟨rfl, rfl⟩ rfl ?_
  refine w_cv1 (pc' := 185) ⟨rfl, rfl⟩ (by decide) (zOl hF rfl) (Nat.le_of_ble_eq_true rfl) (Nat.le_of_ble_eq_true rfl) (c_tX2 hF hX hu hv hc hf h16 hS hn hgn hkg ht (fun σ2 x1 x2 x3 x4 => ?_))
  refine w_ireturn (pc' := 186) ⟨rfl, rfl⟩ (by decide) ?_
  exact k _ x1 x2 x3 x4
theorem c_tXgC {σ : zSt} (hF : zFx σ) {l : List Int} (hT : zTL σ l) {p u v c f : Nat} (hX : zXg σ u v c (f + 1)) (hu : u < 3) (hv : v < 3) (hc : c < 4) (hf : f < 6) (h16 : zR σ 1 16 = some (5 + 18 + 8 * c + 2 + f)) {nm nm2 : Int} {n n2 : Nat} {K C K2 C2 : Nat → Int} (hS : zShp σ (5 + 3 + 5 * u) nm n K C) (hS2 : zShp σ (5 + 3 + 5 * v) nm2 n2 K2 C2) (hn : n ≤ 6) (hn2 : n2 ≤ 6) (hK : ∀ f : Nat, f < n → (0 ≤ K f ∧ K f ≤ 8) ∧ 1 ≤ C f ∧ C f ≤ 4) (hK2 : ∀ f : Nat, f < n2 → (0 ≤ K2 f ∧ K2 f ≤ 8) ∧ 1 ≤ C2 f ∧ C2 f ≤ 4) (hfn : f < n2) {wd : Int32} (ht : zTok σ p 0 wd (-1) 0 0) (hp : p ≤ 1600) (hc44 : zby l.length (fun i => l.getD i 0) p = 44) {Q : zSt → Option Value → Prop} (k : ∀ σ2, zFm [1, (5 + 18 + 8 * c + 2 + f)] σ σ2 → zI σ2 1 3 = iZ 10 → zI σ2 1 4 = iZ ((p + 1 : Nat) : Int) → (∀ k, k < 4 → zI σ2 (5 + 18 + 8 * c + 2 + f) k = zI σ (5 + 18 + 8 * c + 2 + f) k) → Q σ2 (some (.int (iZ 1)))) : zCa 25 [.ref 1] σ Q := by
  refine w_enter (c := zk_X0_takeRuleSign) (ls2 := [(0, .ref 1)]) rfl ⟨rfl, trivial⟩ ?_
  have hR := ((zB5.g hF hc).2.r hF hf).2
  refine w_aload_n (pc' := 1) ⟨rfl, rfl⟩ rfl ?_
  refine w_getR (pc' := 4) (cl := 0) (q := 16) ⟨rfl, rfl⟩ ⟨rfl, by decide⟩ (zOl hF rfl) h16 ?_
  refine w_aload_n (pc' := 5) ⟨rfl, rfl⟩ rfl ?_
  refine w_getR (pc' := 8) (cl := 0) (q := 14) ⟨rfl, rfl⟩ ⟨rfl, by decide⟩ (zOl hF rfl) hX.1.2.1 ?_
  refine w_aload_n (pc' := 9) ⟨rfl, rfl⟩ rfl ?_
  refine w_getR (pc' := 12) (cl := 0) (q := 15) ⟨rfl, rfl⟩ ⟨rfl, by decide⟩ (zOl hF rfl) hX.1.2.2 ?_
  refine w_cv3 (pc' := 15) ⟨rfl, rfl⟩ (by decide) hR (Nat.le_of_ble_eq_true rfl) (Nat.le_of_ble_eq_true rfl) (c_settle hF hR (by omega) (zB5.s hF hu).2 (zB5.s hF hv).2 (by omega) (by omega) hS hS2 hn hn2 hK hK2 hfn (hX.2.2 f (by omega)) (fun σ3 m3 o3 => ?_))
  have ht := ht.fk m3.q (by simp only [List.mem_cons, List.not_mem_nil, or_false, not_false_eq_true] <;> omega)
  have hT := hT.fr m3 (by simp only [List.mem_cons, List.not_mem_nil, or_false, not_false_eq_true] <;> omega) (by simp only [List.mem_cons, List.not_mem_nil, or_false, not_false_eq_true] <;> omega)
  have hF := m3.fx hF
  refine w_aload_n (pc' := 16) ⟨rfl, rfl⟩ rfl ?_
  refine w_bi (pc' := 18) ⟨rfl, rfl⟩ (by decide) ?_
  refine w_cv2 (pc' := 21) ⟨rfl, rfl⟩ (by decide) (zOl hF rfl) (Nat.le_of_ble_eq_true rfl) (Nat.le_of_ble_eq_true rfl) (c_takeSignC hT hF ht hp hc44 (s := 10) (fun σ2 h2 => ?_))
  refine w_ireturn (pc' := 22) ⟨rfl, rfl⟩ (by decide) ?_
  exact k _ ((m3.mono (fun _ h => by simp only [List.mem_cons, List.not_mem_nil, or_false] at h ⊢ <;> omega)).trans (h2.1.mono (fun _ h => by simp only [List.mem_cons, List.not_mem_nil, or_false] at h ⊢ <;> omega))) h2.2.1 h2.2.2.1 (fun k hk => ((h2.1.2.2 _ (by simp only [List.mem_cons, List.not_mem_nil, or_false, not_false_eq_true] <;> omega)).1 k).trans (o3 k hk))
theorem t_tXgC13 {σ : zSt} (hF : zFx σ) {l : List Int} (hT : zTL σ l) {p u v c f : Nat} (hX : zXg σ u v c (f + 1)) (hu : u < 3) (hv : v < 3) (hc : c < 4) (hf : f < 6) (h16 : zR σ 1 16 = some (5 + 18 + 8 * c + 2 + f)) {nm nm2 : Int} {n n2 : Nat} {K C K2 C2 : Nat → Int} (hS : zShp σ (5 + 3 + 5 * u) nm n K C) (hS2 : zShp σ (5 + 3 + 5 * v) nm2 n2 K2 C2) (hn : n ≤ 6) (hn2 : n2 ≤ 6) (hK : ∀ f : Nat, f < n → (0 ≤ K f ∧ K f ≤ 8) ∧ 1 ≤ C f ∧ C f ≤ 4) (hK2 : ∀ f : Nat, f < n2 → (0 ≤ K2 f ∧ K2 f ≤ 8) ∧ 1 ≤ C2 f ∧ C2 f ≤ 4) (hfn : f < n2) {wd : Int32} (ht : zTok σ p 0 wd (-1) 0 0) (hp : p ≤ 1600) (hc44 : zby l.length (fun i => l.getD i 0) p = 44) (i3 : zI σ 1 3 = iZ 13) {Q : zSt → Option Value → Prop} (k : ∀ σ2, zFm [1, (5 + 18 + 8 * c + 2 + f)] σ σ2 → zI σ2 1 3 = iZ 10 → zI σ2 1 4 = iZ ((p + 1 : Nat) : Int) → (∀ k, k < 4 → zI σ2 (5 + 18 + 8 * c + 2 + f) k = zI σ (5 + 18 + 8 * c + 2 + f) k) → Q σ2 (some (.int (iZ 1)))) : zCa 4 [.ref 1] σ Q := by
  refine w_enter (c := zk_X0_takeInCross) (ls2 := [(0, .ref 1)]) rfl ⟨rfl, trivial⟩ ?_
  refine w_aload_n (pc' := 1) ⟨rfl, rfl⟩ rfl ?_
  refine w_getI (pc' := 4) (cl := 0) (q := 3) ⟨rfl, rfl⟩ ⟨rfl, by decide⟩ (zOl hF rfl) i3 ?_
  refine w_tsInZ (pc' := 56) (pcT := 146) 6 ⟨rfl, rfl⟩ (by decide) (by decide) rfl rfl ?_
  refine w_aload_n (pc' := 147) ⟨rfl, rfl⟩ rfl ?_
  refine w_getI (pc' := 150) (cl := 0) (q := 7) ⟨rfl, rfl⟩ ⟨rfl, by decide⟩ (zOl hF rfl) ht.2.2.2.1 ?_
  refine w_bi (pc' := 152) ⟨rfl, rfl⟩ (by decide) ?_
  refine w_icT_lt (pc' := 155) (pcT := 171) ⟨rfl, rfl⟩ rfl (by decide) ?_
  refine w_aload_n (pc' := 172) ⟨rfl, rfl⟩ rfl ?_
  refine w_cv1 (pc' := 175) ⟨rfl, rfl⟩ (by decide) (zOl hF rfl) (Nat.le_of_ble_eq_true rfl) (Nat.le_of_ble_eq_true rfl) (c_tXgC hF hT hX hu hv hc hf h16 hS hS2 hn hn2 hK hK2 hfn ht hp hc44 (fun σ2 x1 x2 x3 x4 => ?_))
  refine w_ireturn (pc' := 176) ⟨rfl, rfl⟩ (by decide) ?_
  exact k _ x1 x2 x3 x4
theorem t_tXgC16 {σ : zSt} (hF : zFx σ) {l : List Int} (hT : zTL σ l) {p u v c f : Nat} (hX : zXg σ u v c (f + 1)) (hu : u < 3) (hv : v < 3) (hc : c < 4) (hf : f < 6) (h16 : zR σ 1 16 = some (5 + 18 + 8 * c + 2 + f)) {nm nm2 : Int} {n n2 : Nat} {K C K2 C2 : Nat → Int} (hS : zShp σ (5 + 3 + 5 * u) nm n K C) (hS2 : zShp σ (5 + 3 + 5 * v) nm2 n2 K2 C2) (hn : n ≤ 6) (hn2 : n2 ≤ 6) (hK : ∀ f : Nat, f < n → (0 ≤ K f ∧ K f ≤ 8) ∧ 1 ≤ C f ∧ C f ≤ 4) (hK2 : ∀ f : Nat, f < n2 → (0 ≤ K2 f ∧ K2 f ≤ 8) ∧ 1 ≤ C2 f ∧ C2 f ≤ 4) (hfn : f < n2) {wd : Int32} (ht : zTok σ p 0 wd (-1) 0 0) (hp : p ≤ 1600) (hc44 : zby l.length (fun i => l.getD i 0) p = 44) (i3 : zI σ 1 3 = iZ 16) {Q : zSt → Option Value → Prop} (k : ∀ σ2, zFm [1, (5 + 18 + 8 * c + 2 + f)] σ σ2 → zI σ2 1 3 = iZ 10 → zI σ2 1 4 = iZ ((p + 1 : Nat) : Int) → (∀ k, k < 4 → zI σ2 (5 + 18 + 8 * c + 2 + f) k = zI σ (5 + 18 + 8 * c + 2 + f) k) → Q σ2 (some (.int (iZ 1)))) : zCa 4 [.ref 1] σ Q := by
  refine w_enter (c := zk_X0_takeInCross) (ls2 := [(0, .ref 1)]) rfl ⟨rfl, trivial⟩ ?_
  refine w_aload_n (pc' := 1) ⟨rfl, rfl⟩ rfl ?_
  refine w_getI (pc' := 4) (cl := 0) (q := 3) ⟨rfl, rfl⟩ ⟨rfl, by decide⟩ (zOl hF rfl) i3 ?_
  refine w_tsOutZ (pc' := 56) (pcT := 186) ⟨rfl, rfl⟩ rfl (by decide) ?_
  refine w_aload_n (pc' := 187) ⟨rfl, rfl⟩ rfl ?_
  refine w_cv1 (pc' := 190) ⟨rfl, rfl⟩ (by decide) (zOl hF rfl) (Nat.le_of_ble_eq_true rfl) (Nat.le_of_ble_eq_true rfl) (c_tXgC hF hT hX hu hv hc hf h16 hS hS2 hn hn2 hK hK2 hfn ht hp hc44 (fun σ2 x1 x2 x3 x4 => ?_))
  refine w_ireturn (pc' := 191) ⟨rfl, rfl⟩ (by decide) ?_
  exact k _ x1 x2 x3 x4
theorem c_tXgS {σ : zSt} (hF : zFx σ) {l : List Int} (hT : zTL σ l) {p u v c f : Nat} (hX : zXg σ u v c (f + 1)) (hu : u < 3) (hv : v < 3) (hc : c < 4) (hf : f < 6) (h16 : zR σ 1 16 = some (5 + 18 + 8 * c + 2 + f)) {nm nm2 : Int} {n n2 : Nat} {K C K2 C2 : Nat → Int} (hS : zShp σ (5 + 3 + 5 * u) nm n K C) (hS2 : zShp σ (5 + 3 + 5 * v) nm2 n2 K2 C2) (hn : n ≤ 6) (hn2 : n2 ≤ 6) (hK : ∀ f : Nat, f < n → (0 ≤ K f ∧ K f ≤ 8) ∧ 1 ≤ C f ∧ C f ≤ 4) (hK2 : ∀ f : Nat, f < n2 → (0 ≤ K2 f ∧ K2 f ≤ 8) ∧ 1 ≤ C2 f ∧ C2 f ≤ 4) (hfn : f < n2) {wd : Int32} (ht : zTok σ p 0 wd (-1) 0 0) (hp : p ≤ 1600) (hc44 : zby l.length (fun i => l.getD i 0) p = 59) {Q : zSt → Option Value → Prop} (k : ∀ σ2, zFm [1, (5 + 18 + 8 * c + 2 + f)] σ σ2 → zI σ2 1 3 = iZ 0 → zI σ2 1 4 = iZ ((p + 1 : Nat) : Int) → (∀ k, k < 4 → zI σ2 (5 + 18 + 8 * c + 2 + f) k = zI σ (5 + 18 + 8 * c + 2 + f) k) → Q σ2 (some (.int (iZ 1)))) : zCa 25 [.ref 1] σ Q := by
  refine w_enter (c := zk_X0_takeRuleSign) (ls2 := [(0, .ref 1)]) rfl ⟨rfl, trivial⟩ ?_
  have hR := ((zB5.g hF hc).2.r hF hf).2
  refine w_aload_n (pc' := 1) ⟨rfl, rfl⟩ rfl ?_
  refine w_getR (pc' := 4) (cl := 0) (q := 16) ⟨rfl, rfl⟩ ⟨rfl, by decide⟩ (zOl hF rfl) h16 ?_
  refine w_aload_n (pc' := 5) ⟨rfl, rfl⟩ rfl ?_
  refine w_getR (pc' := 8) (cl := 0) (q := 14) ⟨rfl, rfl⟩ ⟨rfl, by decide⟩ (zOl hF rfl) hX.1.2.1 ?_
  refine w_aload_n (pc' := 9) ⟨rfl, rfl⟩ rfl ?_
  refine w_getR (pc' := 12) (cl := 0) (q := 15) ⟨rfl, rfl⟩ ⟨rfl, by decide⟩ (zOl hF rfl) hX.1.2.2 ?_
  refine w_cv3 (pc' := 15) ⟨rfl, rfl⟩ (by decide) hR (Nat.le_of_ble_eq_true rfl) (Nat.le_of_ble_eq_true rfl) (c_settle hF hR (by omega) (zB5.s hF hu).2 (zB5.s hF hv).2 (by omega) (by omega) hS hS2 hn hn2 hK hK2 hfn (hX.2.2 f (by omega)) (fun σ3 m3 o3 => ?_))
  have ht := ht.fk m3.q (by simp only [List.mem_cons, List.not_mem_nil, or_false, not_false_eq_true] <;> omega)
  have hT := hT.fr m3 (by simp only [List.mem_cons, List.not_mem_nil, or_false, not_false_eq_true] <;> omega) (by simp only [List.mem_cons, List.not_mem_nil, or_false, not_false_eq_true] <;> omega)
  have hF := m3.fx hF
  refine w_aload_n (pc' := 16) ⟨rfl, rfl⟩ rfl ?_
  refine w_bi (pc' := 18) ⟨rfl, rfl⟩ (by decide) ?_
  refine w_cv2 (pc' := 21) ⟨rfl, rfl⟩ (by decide) (zOl hF rfl) (Nat.le_of_ble_eq_true rfl) (Nat.le_of_ble_eq_true rfl) (c_takeSignS hT hF ht hp hc44 (s := 10) (fun σ2 h2 => ?_))
  refine w_ireturn (pc' := 22) ⟨rfl, rfl⟩ (by decide) ?_
  exact k _ ((m3.mono (fun _ h => by simp only [List.mem_cons, List.not_mem_nil, or_false] at h ⊢ <;> omega)).trans (h2.1.mono (fun _ h => by simp only [List.mem_cons, List.not_mem_nil, or_false] at h ⊢ <;> omega))) h2.2.1 h2.2.2.1 (fun k hk => ((h2.1.2.2 _ (by simp only [List.mem_cons, List.not_mem_nil, or_false, not_false_eq_true] <;> omega)).1 k).trans (o3 k hk))
theorem t_tXgS13 {σ : zSt} (hF : zFx σ) {l : List Int} (hT : zTL σ l) {p u v c f : Nat} (hX : zXg σ u v c (f + 1)) (hu : u < 3) (hv : v < 3) (hc : c < 4) (hf : f < 6) (h16 : zR σ 1 16 = some (5 + 18 + 8 * c + 2 + f)) {nm nm2 : Int} {n n2 : Nat} {K C K2 C2 : Nat → Int} (hS : zShp σ (5 + 3 + 5 * u) nm n K C) (hS2 : zShp σ (5 + 3 + 5 * v) nm2 n2 K2 C2) (hn : n ≤ 6) (hn2 : n2 ≤ 6) (hK : ∀ f : Nat, f < n → (0 ≤ K f ∧ K f ≤ 8) ∧ 1 ≤ C f ∧ C f ≤ 4) (hK2 : ∀ f : Nat, f < n2 → (0 ≤ K2 f ∧ K2 f ≤ 8) ∧ 1 ≤ C2 f ∧ C2 f ≤ 4) (hfn : f < n2) {wd : Int32} (ht : zTok σ p 0 wd (-1) 0 0) (hp : p ≤ 1600) (hc44 : zby l.length (fun i => l.getD i 0) p = 59) (i3 : zI σ 1 3 = iZ 13) {Q : zSt → Option Value → Prop} (k : ∀ σ2, zFm [1, (5 + 18 + 8 * c + 2 + f)] σ σ2 → zI σ2 1 3 = iZ 0 → zI σ2 1 4 = iZ ((p + 1 : Nat) : Int) → (∀ k, k < 4 → zI σ2 (5 + 18 + 8 * c + 2 + f) k = zI σ (5 + 18 + 8 * c + 2 + f) k) → Q σ2 (some (.int (iZ 1)))) : zCa 4 [.ref 1] σ Q := by
  refine w_enter (c := zk_X0_takeInCross) (ls2 := [(0, .ref 1)]) rfl ⟨rfl, trivial⟩ ?_
  refine w_aload_n (pc' := 1) ⟨rfl, rfl⟩ rfl ?_
  refine w_getI (pc' := 4) (cl := 0) (q := 3) ⟨rfl, rfl⟩ ⟨rfl, by decide⟩ (zOl hF rfl) i3 ?_
  refine w_tsInZ (pc' := 56) (pcT := 146) 6 ⟨rfl, rfl⟩ (by decide) (by decide) rfl rfl ?_
  refine w_aload_n (pc' := 147) ⟨rfl, rfl⟩ rfl ?_
  refine w_getI (pc' := 150) (cl := 0) (q := 7) ⟨rfl, rfl⟩ ⟨rfl, by decide⟩ (zOl hF rfl) ht.2.2.2.1 ?_
  refine w_bi (pc' := 152) ⟨rfl, rfl⟩ (by decide) ?_
  refine w_icT_lt (pc' := 155) (pcT := 171) ⟨rfl, rfl⟩ rfl (by decide) ?_
  refine w_aload_n (pc' := 172) ⟨rfl, rfl⟩ rfl ?_
  refine w_cv1 (pc' := 175) ⟨rfl, rfl⟩ (by decide) (zOl hF rfl) (Nat.le_of_ble_eq_true rfl) (Nat.le_of_ble_eq_true rfl) (c_tXgS hF hT hX hu hv hc hf h16 hS hS2 hn hn2 hK hK2 hfn ht hp hc44 (fun σ2 x1 x2 x3 x4 => ?_))
  refine w_ireturn (pc' := 176) ⟨rfl, rfl⟩ (by decide) ?_
  exact k _ x1 x2 x3 x4
theorem t_tXgS16 {σ : zSt} (hF : zFx σ) {l : List Int} (hT : zTL σ l) {p u v c f : Nat} (hX : zXg σ u v c (f + 1)) (hu : u < 3) (hv : v < 3) (hc : c < 4) (hf : f < 6) (h16 : zR σ 1 16 = some (5 + 18 + 8 * c + 2 + f)) {nm nm2 : Int} {n n2 : Nat} {K C K2 C2 : Nat → Int} (hS : zShp σ (5 + 3 + 5 * u) nm n K C) (hS2 : zShp σ (5 + 3 + 5 * v) nm2 n2 K2 C2) (hn : n ≤ 6) (hn2 : n2 ≤ 6) (hK : ∀ f : Nat, f < n → (0 ≤ K f ∧ K f ≤ 8) ∧ 1 ≤ C f ∧ C f ≤ 4) (hK2 : ∀ f : Nat, f < n2 → (0 ≤ K2 f ∧ K2 f ≤ 8) ∧ 1 ≤ C2 f ∧ C2 f ≤ 4) (hfn : f < n2) {wd : Int32} (ht : zTok σ p 0 wd (-1) 0 0) (hp : p ≤ 1600) (hc44 : zby l.length (fun i => l.getD i 0) p = 59) (i3 : zI σ 1 3 = iZ 16) {Q : zSt → Option Value → Prop} (k : ∀ σ2, zFm [1, (5 + 18 + 8 * c + 2 + f)] σ σ2 → zI σ2 1 3 = iZ 0 → zI σ2 1 4 = iZ ((p + 1 : Nat) : Int) → (∀ k, k < 4 → zI σ2 (5 + 18 + 8 * c + 2 + f) k = zI σ (5 + 18 + 8 * c + 2 + f) k) → Q σ2 (some (.int (iZ 1)))) : zCa 4 [.ref 1] σ Q := by
  refine w_enter (c := zk_X0_takeInCross) (ls2 := [(0, .ref 1)]) rfl ⟨rfl, trivial⟩ ?_
  refine w_aload_n (pc' := 1) ⟨rfl, rfl⟩ rfl ?_
  refine w_getI (pc' := 4) (cl := 0) (q := 3) ⟨rfl, rfl⟩ ⟨rfl, by decide⟩ (zOl hF rfl) i3 ?_
  refine w_tsOutZ (pc' := 56) (pcT := 186) ⟨rfl, rfl⟩ rfl (by decide) ?_
  refine w_aload_n (pc' := 187) ⟨rfl, rfl⟩ rfl ?_
  refine w_cv1 (pc' := 190) ⟨rfl, rfl⟩ (by decide) (zOl hF rfl) (Nat.le_of_ble_eq_true rfl) (Nat.le_of_ble_eq_true rfl) (c_tXgS hF hT hX hu hv hc hf h16 hS hS2 hn hn2 hK hK2 hfn ht hp hc44 (fun σ2 x1 x2 x3 x4 => ?_))
  refine w_ireturn (pc' := 191) ⟨rfl, rfl⟩ (by decide) ?_
  exact k _ x1 x2 x3 x4
