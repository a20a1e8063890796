/-! WHAT STANDS NEXT -/
theorem zOwn.fr {w : List Nat} {σ σ' : zSt} (h : zOwn σ) (f : zFm w σ σ') (h2 : 2 ∉ w) : zOwn σ' := fun k hk => ((f.2.2 2 h2).1 k).trans (h k hk)
/-- which of the own words a name is -/
def zof (v : Int32) : Nat → Int
  | 0 => -1
  | i + 1 => if iZ (zow i) = v then (i : Int) else zof v i
/-- what stands next: where, how many letters, their name, which own word, how many digits, their number -/
def zTok (σ : zSt) (p : Nat) (le : Int) (wd : Int32) (ow dg nm : Int) : Prop := zI σ 1 4 = iZ (p : Int) ∧ zI σ 1 5 = iZ le ∧ zI σ 1 6 = wd ∧ zI σ 1 7 = iZ ow ∧ zI σ 1 8 = iZ dg ∧ zI σ 1 9 = iZ nm
theorem l_own {σ : zSt} {l : List Int} {p : Nat} {le dg nm : Int} {wd : Int32} (hle : 1 ≤ le ∧ le ≤ 6) {Q : zSt → Option Value → Prop} : ∀ (m : Nat) (i : Nat) (σ1 : zSt), i + m = 17 → zFm [1] σ σ1 → zFx σ1 → zTL σ1 l → zOwn σ1 → zTok σ1 p le wd (zof wd i) dg nm → (∀ k, k < 4 ∨ 9 < k → zI σ1 1 k = zI σ 1 k) → (∀ σ2, zFm [1] σ σ2 → zTok σ2 p le wd (zof wd 17) dg nm → (∀ k, k < 4 ∨ 9 < k → zI σ2 1 k = zI σ 1 k) → Q σ2 none) → zP zk_X0_lookAtNext 116 [(0, .ref 1), (1, .int (iZ (i : Int)))] [] σ1 Q := by
  intro m
  induction m with
  | zero =>
    intro i σ1 hi hf hF hT hOw ht ho k
    have hle : 1 ≤ le ∧ le ≤ 6 := hle
    obtain ⟨i4, i5, i6, i7, i8, i9⟩ := ht
    refine w_iload_n (pc' := 117) ⟨rfl, rfl⟩ rfl ?_
    refine w_bi (pc' := 119) ⟨rfl, rfl⟩ (by decide) ?_
    refine w_icT_ge (pc' := 122) (pcT := 162) ⟨rfl, rfl⟩ rfl (by omega) ?_
    refine w_return (pc' := 163) ⟨rfl, rfl⟩ ?_
    obtain rfl : i = 17 := by omega
    exact k _ hf ⟨i4, i5, i6, i7, i8, i9⟩ ho
  | succ m ih =>
    intro i σ1 hi hf hF hT hOw ht ho k
    have hle : 1 ≤ le ∧ le ≤ 6 := hle
    obtain ⟨i4, i5, i6, i7, i8, i9⟩ := ht
    refine w_iload_n (pc' := 117) ⟨rfl, rfl⟩ rfl ?_
    refine w_bi (pc' := 119) ⟨rfl, rfl⟩ (by decide) ?_
    refine w_icF_ge (pc' := 122) ⟨rfl, rfl⟩ (by omega) ?_
    refine w_aload_n (pc' := 123) ⟨rfl, rfl⟩ rfl ?_
    refine w_getI (pc' := 126) (cl := 0) (q := 5) ⟨rfl, rfl⟩ ⟨rfl, by decide⟩ (zOl hF rfl) i5 ?_
    refine w_ifF_le (pc' := 129) ⟨rfl, rfl⟩ (by omega) ?_
    refine w_aload_n (pc' := 130) ⟨rfl, rfl⟩ rfl ?_
    refine w_getI (pc' := 133) (cl := 0) (q := 5) ⟨rfl, rfl⟩ ⟨rfl, by decide⟩ (zOl hF rfl) i5 ?_
    refine w_bi (pc' := 135) ⟨rfl, rfl⟩ (by decide) ?_
    refine w_icF_gt (pc' := 138) ⟨rfl, rfl⟩ (by omega) ?_
    refine w_aload_n (pc' := 139) ⟨rfl, rfl⟩ rfl ?_
    refine w_getR (pc' := 142) (cl := 0) (q := 0) ⟨rfl, rfl⟩ ⟨rfl, by decide⟩ (zOl hF rfl) (hF.2 1 0 2 rfl) ?_
    refine w_iload_n (pc' := 143) ⟨rfl, rfl⟩ rfl ?_
    refine w_iald (pc' := 144) ⟨rfl, rfl⟩ (zAl hF rfl) (zixZ (by omega)) (hOw i (by omega)) ?_
    refine w_aload_n (pc' := 145) ⟨rfl, rfl⟩ rfl ?_
    refine w_getI (pc' := 148) (cl := 0) (q := 6) ⟨rfl, rfl⟩ ⟨rfl, by decide⟩ (zOl hF rfl) i6 ?_
    refine w_icI_ne (pc' := 151) (pcT := 156) ⟨rfl, rfl⟩ rfl (fun h1 => ?_) (fun h1 => ?_)
    · refine w_iincZ (pc' := 159) ⟨rfl, rfl⟩ rfl rfl ?_
      refine w_goto (pc' := 162) (pcT := 116) ⟨rfl, rfl⟩ rfl ?_
      have e : zof wd (i + 1) = zof wd i := if_neg (by assumption)
      refine w_at (ls2 := [(0, .ref 1), (1, .int (iZ ((i + 1 : Nat) : Int)))]) ?_ (ih (i + 1) _ (by omega) hf hF hT hOw ⟨i4, i5, i6, by rw [e]; exact i7, i8, i9⟩ ho k)
      exact ⟨rfl, rfl, trivial⟩
    · refine w_aload_n (pc' := 152) ⟨rfl, rfl⟩ rfl ?_
      refine w_iload_n (pc' := 153) ⟨rfl, rfl⟩ rfl ?_
      refine w_putI (pc' := 156) (cl := 0) (q := 7) ⟨rfl, rfl⟩ ⟨rfl, by decide⟩ (zOl hF rfl) ?_
      refine w_gI (fun v1 w1 e1 o1 => ?_)
      have hF := w1.fx hF
      have hT := zTL.fr hT w1 (by decide) (by decide)
      have hOw := zOwn.fr hOw w1 (by decide)
      have i4 := (o1 4 (by decide)).trans i4
      have i5 := (o1 5 (by decide)).trans i5
      have i6 := (o1 6 (by decide)).trans i6
      have i8 := (o1 8 (by decide)).trans i8
      have i9 := (o1 9 (by decide)).trans i9
      have i7 := e1
      refine w_iincZ (pc' := 159) ⟨rfl, rfl⟩ rfl rfl ?_
      refine w_goto (pc' := 162) (pcT := 116) ⟨rfl, rfl⟩ rfl ?_
      have e : zof wd (i + 1) = (i : Int) := if_pos (by assumption)
      refine w_at (ls2 := [(0, .ref 1), (1, .int (iZ ((i + 1 : Nat) : Int)))]) ?_ (ih (i + 1) _ (by omega) (hf.trans w1) hF hT hOw ⟨i4, i5, i6, by rw [e]; exact i7, i8, i9⟩ (fun k hk => (o1 k (by omega)).trans (ho k hk)) k)
      exact ⟨rfl, rfl, trivial⟩
theorem l_bl0 {σ : zSt} {l : List Int} (hF : zFx σ) (hT : zTL σ l) {p : Nat} (hp : p ≤ l.length) (i4 : zI σ 1 4 = iZ (p : Int)) (hb : ¬ zbl l.length (fun i => l.getD i 0) p) {Q : zSt → Option Value → Prop} (k : zP zk_X0_lookAtNext 41 [(0, .ref 1)] [] σ Q) : zP zk_X0_lookAtNext 0 [(0, .ref 1)] [] σ Q := by
  have hl := hT.2.1
  refine w_aload_n (pc' := 1) ⟨rfl, rfl⟩ rfl ?_
  refine w_getI (pc' := 4) (cl := 0) (q := 4) ⟨rfl, rfl⟩ ⟨rfl, by decide⟩ (zOl hF rfl) i4 ?_
  refine w_aload_n (pc' := 5) ⟨rfl, rfl⟩ rfl ?_
  refine w_getR (pc' := 8) (cl := 0) (q := 1) ⟨rfl, rfl⟩ ⟨rfl, by decide⟩ (zOl hF rfl) (hF.2 1 1 3 rfl) ?_
  refine w_getI (pc' := 11) (cl := 7) (q := 1) ⟨rfl, rfl⟩ ⟨rfl, by decide⟩ (zOl hF rfl) hT.1 ?_
  refine w_ic_ge (pc' := 14) (pcT := 41) ⟨rfl, rfl⟩ rfl (by omega) (by omega) (fun h1 => ?_) (fun h1 => ?_)
  · exact k
  · refine w_aload_n (pc' := 15) ⟨rfl, rfl⟩ rfl ?_
    refine w_getR (pc' := 18) (cl := 0) (q := 1) ⟨rfl, rfl⟩ ⟨rfl, by decide⟩ (zOl hF rfl) (hF.2 1 1 3 rfl) ?_
    refine w_aload_n (pc' := 19) ⟨rfl, rfl⟩ rfl ?_
    refine w_getI (pc' := 22) (cl := 0) (q := 4) ⟨rfl, rfl⟩ ⟨rfl, by decide⟩ (zOl hF rfl) i4 ?_
    refine w_cv2 (pc' := 25) ⟨rfl, rfl⟩ (by decide) (zOl hF rfl) (Nat.le_of_ble_eq_true rfl) (Nat.le_of_ble_eq_true rfl) (c_isBlank hF hT (by omega) (fun h => ?_) (fun h => ?_))
    · exact absurd h hb
    · refine w_ifT_eq (pc' := 28) (pcT := 41) ⟨rfl, rfl⟩ rfl (by decide) ?_
      exact k
theorem l_bl1 {σ : zSt} {l : List Int} (hF : zFx σ) (hT : zTL σ l) {p : Nat} (hp : p ≤ l.length) (i4 : zI σ 1 4 = iZ (p : Int)) (hb : zbl l.length (fun i => l.getD i 0) p) (hb2 : ¬ zbl l.length (fun i => l.getD i 0) ((p + 1 : Nat) : Int)) {Q : zSt → Option Value → Prop} (k : ∀ σ1, zFm [1] σ σ1 → zI σ1 1 4 = iZ ((p + 1 : Nat) : Int) → (∀ k, k ≠ 4 → zI σ1 1 k = zI σ 1 k) → zP zk_X0_lookAtNext 41 [(0, .ref 1)] [] σ1 Q) : zP zk_X0_lookAtNext 0 [(0, .ref 1)] [] σ Q := by
  have hl := hT.2.1
  have hlt := (zbl_in hb).2
  refine w_aload_n (pc' := 1) ⟨rfl, rfl⟩ rfl ?_
  refine w_getI (pc' := 4) (cl := 0) (q := 4) ⟨rfl, rfl⟩ ⟨rfl, by decide⟩ (zOl hF rfl) i4 ?_
  refine w_aload_n (pc' := 5) ⟨rfl, rfl⟩ rfl ?_
  refine w_getR (pc' := 8) (cl := 0) (q := 1) ⟨rfl, rfl⟩ ⟨rfl, by decide⟩ (zOl hF rfl) (hF.2 1 1 3 rfl) ?_
  refine w_getI (pc' := 11) (cl := 7) (q := 1) ⟨rfl, rfl⟩ ⟨rfl, by decide⟩ (zOl hF rfl) hT.1 ?_
  refine w_icF_ge (pc' := 14) ⟨rfl, rfl⟩ (by omega) ?_
  refine w_aload_n (pc' := 15) ⟨rfl, rfl⟩ rfl ?_
  refine w_getR (pc' := 18) (cl := 0) (q := 1) ⟨rfl, rfl⟩ ⟨rfl, by decide⟩ (zOl hF rfl) (hF.2 1 1 3 rfl) ?_
  refine w_aload_n (pc' := 19) ⟨rfl, rfl⟩ rfl ?_
  refine w_getI (pc' := 22) (cl := 0) (q := 4) ⟨rfl, rfl⟩ ⟨rfl, by decide⟩ (zOl hF rfl) i4 ?_
  refine w_cv2 (pc' := 25) ⟨rfl, rfl⟩ (by decide) (zOl hF rfl) (Nat.le_of_ble_eq_true rfl) (Nat.le_of_ble_eq_true rfl) (c_isBlank hF hT (by omega) (fun h => ?_) (fun h => ?_))
  · refine w_ifF_eq (pc' := 28) ⟨rfl, rfl⟩ (by decide) ?_
    refine w_aload_n (pc' := 29) ⟨rfl, rfl⟩ rfl ?_
    refine w_dupR (pc' := 30) ⟨rfl, rfl⟩ ?_
    refine w_getI (pc' := 33) (cl := 0) (q := 4) ⟨rfl, rfl⟩ ⟨rfl, by decide⟩ (zOl hF rfl) i4 ?_
    refine w_ic (pc' := 34) ⟨rfl, rfl⟩ ?_
    refine w_iaddZ (pc' := 35) ⟨rfl, rfl⟩ ?_
    refine w_putI (pc' := 38) (cl := 0) (q := 4) ⟨rfl, rfl⟩ ⟨rfl, by decide⟩ (zOl hF rfl) ?_
    refine w_gI (fun v1 w1 e1 o1 => ?_)
    have hF := w1.fx hF
    have hT := zTL.fr hT w1 (by decide) (by decide)
    have i4 := e1
    refine w_goto (pc' := 41) (pcT := 0) ⟨rfl, rfl⟩ rfl ?_
    exact l_bl0 hF hT (p := p + 1) (by omega) i4 hb2 (k _ w1 i4 o1)
  · exact absurd hb h
/-- what stands at a place of a text -/
def zAt (l : List Int) (p : Nat) (le : Int) (wd : Int32) (dg nm : Int) : Prop := (zcnt (zlt l.length (fun i => l.getD i 0)) 1600 p : Int) = le ∧ (zcnt (zdg l.length (fun i => l.getD i 0)) 1600 p : Int) = dg ∧ (∀ (σ : zSt), zFx σ → zTL σ l → ∀ Q : zSt → Option Value → Prop, Q σ (some (.int (iZ nm))) → zCa 87 [.ref 3, .int (iZ p), .int (iZ (min dg 3))] σ Q) ∧ (∀ (σ : zSt), zFx σ → zTL σ l → ∀ Q : zSt → Option Value → Prop, Q σ (some (.int wd)) → zCa 88 [.ref 3, .int (iZ p)] σ Q)
theorem l_look {σ : zSt} {l : List Int} (hF : zFx σ) (hT : zTL σ l) (hOw : zOwn σ) {p : Nat} (hp : p ≤ l.length) (i4 : zI σ 1 4 = iZ (p : Int)) {le dg nm : Int} {wd : Int32} (hA : zAt l p le wd dg nm) (hle : 0 ≤ le ∧ le ≤ 6) (hdg : 0 ≤ dg ∧ dg ≤ 1600) {Q : zSt → Option Value → Prop} (k : ∀ σ2, zFm [1] σ σ2 → zTok σ2 p le wd (if le = 0 then -1 else zof wd 17) dg nm → (∀ k, k < 4 ∨ 9 < k → zI σ2 1 k = zI σ 1 k) → Q σ2 none) : zP zk_X0_lookAtNext 41 [(0, .ref 1)] [] σ Q := by
  have hl := hT.2.1
  refine w_aload_n (pc' := 42) ⟨rfl, rfl⟩ rfl ?_
  refine w_aload_n (pc' := 43) ⟨rfl, rfl⟩ rfl ?_
  refine w_getR (pc' := 46) (cl := 0) (q := 1) ⟨rfl, rfl⟩ ⟨rfl, by decide⟩ (zOl hF rfl) (hF.2 1 1 3 rfl) ?_
  refine w_aload_n (pc' := 47) ⟨rfl, rfl⟩ rfl ?_
  refine w_getI (pc' := 50) (cl := 0) (q := 4) ⟨rfl, rfl⟩ ⟨rfl, by decide⟩ (zOl hF rfl) i4 ?_
  refine w_cv2 (pc' := 53) ⟨rfl, rfl⟩ (by decide) (zOl hF rfl) (Nat.le_of_ble_eq_true rfl) (Nat.le_of_ble_eq_true rfl) (c_lettersFrom hF hT (by omega) ?_)
  rw [hA.1]
  refine w_putI (pc' := 56) (cl := 0) (q := 5) ⟨rfl, rfl⟩ ⟨rfl, by decide⟩ (zOl hF rfl) ?_
  refine w_gI (fun v1 w1 e1 o1 => ?_)
  have hF := w1.fx hF
  have hT := zTL.fr hT w1 (by decide) (by decide)
  have hOw := zOwn.fr hOw w1 (by decide)
  have i4 := (o1 4 (by decide)).trans i4
  have i5 := e1
  refine w_aload_n (pc' := 57) ⟨rfl, rfl⟩ rfl ?_
  refine w_aload_n (pc' := 58) ⟨rfl, rfl⟩ rfl ?_
  refine w_getR (pc' := 61) (cl := 0) (q := 1) ⟨rfl, rfl⟩ ⟨rfl, by decide⟩ (zOl hF rfl) (hF.2 1 1 3 rfl) ?_
  refine w_aload_n (pc' := 62) ⟨rfl, rfl⟩ rfl ?_
  refine w_getI (pc' := 65) (cl := 0) (q := 4) ⟨rfl, rfl⟩ ⟨rfl, by decide⟩ (zOl hF rfl) i4 ?_
  refine w_cv2 (pc' := 68) ⟨rfl, rfl⟩ (by decide) (zOl hF rfl) (Nat.le_of_ble_eq_true rfl) (Nat.le_of_ble_eq_true rfl) (c_digitsFrom hF hT (by omega) ?_)
  rw [hA.2.1]
  refine w_putI (pc' := 71) (cl := 0) (q := 8) ⟨rfl, rfl⟩ ⟨rfl, by decide⟩ (zOl hF rfl) ?_
  refine w_gI (fun v2 w2 e2 o2 => ?_)
  have hF := w2.fx hF
  have hT := zTL.fr hT w2 (by decide) (by decide)
  have hOw := zOwn.fr hOw w2 (by decide)
  have i4 := (o2 4 (by decide)).trans i4
  have i5 := (o2 5 (by decide)).trans i5
  have i8 := e2
  refine w_aload_n (pc' := 72) ⟨rfl, rfl⟩ rfl ?_
  refine w_aload_n (pc' := 73) ⟨rfl, rfl⟩ rfl ?_
  refine w_getR (pc' := 76) (cl := 0) (q := 1) ⟨rfl, rfl⟩ ⟨rfl, by decide⟩ (zOl hF rfl) (hF.2 1 1 3 rfl) ?_
  refine w_aload_n (pc' := 77) ⟨rfl, rfl⟩ rfl ?_
  refine w_getI (pc' := 80) (cl := 0) (q := 4) ⟨rfl, rfl⟩ ⟨rfl, by decide⟩ (zOl hF rfl) i4 ?_
  refine w_aload_n (pc' := 81) ⟨rfl, rfl⟩ rfl ?_
  refine w_getI (pc' := 84) (cl := 0) (q := 8) ⟨rfl, rfl⟩ ⟨rfl, by decide⟩ (zOl hF rfl) i8 ?_
  refine w_ic (pc' := 85) ⟨rfl, rfl⟩ ?_
  refine w_cs2 (pc' := 88) ⟨rfl, rfl⟩ (by decide) (Nat.le_of_ble_eq_true rfl) (Nat.le_of_ble_eq_true rfl) (j_min (by omega) (by omega) ?_)
  refine w_cv3 (pc' := 91) ⟨rfl, rfl⟩ (by decide) (zOl hF rfl) (Nat.le_of_ble_eq_true rfl) (Nat.le_of_ble_eq_true rfl) (hA.2.2.1 _ hF hT _ ?_)
  refine w_putI (pc' := 94) (cl := 0) (q := 9) ⟨rfl, rfl⟩ ⟨rfl, by decide⟩ (zOl hF rfl) ?_
  refine w_gI (fun v3 w3 e3 o3 => ?_)
  have hF := w3.fx hF
  have hT := zTL.fr hT w3 (by decide) (by decide)
  have hOw := zOwn.fr hOw w3 (by decide)
  have i4 := (o3 4 (by decide)).trans i4
  have i5 := (o3 5 (by decide)).trans i5
  have i8 := (o3 8 (by decide)).trans i8
  have i9 := e3
  refine w_aload_n (pc' := 95) ⟨rfl, rfl⟩ rfl ?_
  refine w_aload_n (pc' := 96) ⟨rfl, rfl⟩ rfl ?_
  refine w_getR (pc' := 99) (cl := 0) (q := 1) ⟨rfl, rfl⟩ ⟨rfl, by decide⟩ (zOl hF rfl) (hF.2 1 1 3 rfl) ?_
  refine w_aload_n (pc' := 100) ⟨rfl, rfl⟩ rfl ?_
  refine w_getI (pc' := 103) (cl := 0) (q := 4) ⟨rfl, rfl⟩ ⟨rfl, by decide⟩ (zOl hF rfl) i4 ?_
  refine w_cv2 (pc' := 106) ⟨rfl, rfl⟩ (by decide) (zOl hF rfl) (Nat.le_of_ble_eq_true rfl) (Nat.le_of_ble_eq_true rfl) (hA.2.2.2 _ hF hT _ ?_)
  refine w_putI (pc' := 109) (cl := 0) (q := 6) ⟨rfl, rfl⟩ ⟨rfl, by decide⟩ (zOl hF rfl) ?_
  refine w_gI (fun v4 w4 e4 o4 => ?_)
  have hF := w4.fx hF
  have hT := zTL.fr hT w4 (by decide) (by decide)
  have hOw := zOwn.fr hOw w4 (by decide)
  have i4 := (o4 4 (by decide)).trans i4
  have i5 := (o4 5 (by decide)).trans i5
  have i8 := (o4 8 (by decide)).trans i8
  have i9 := (o4 9 (by decide)).trans i9
  have i6 := e4
  refine w_aload_n (pc' := 110) ⟨rfl, rfl⟩ rfl ?_
  refine w_ic (pc' := 111) ⟨rfl, rfl⟩ ?_
  refine w_putI (pc' := 114) (cl := 0) (q := 7) ⟨rfl, rfl⟩ ⟨rfl, by decide⟩ (zOl hF rfl) ?_
  refine w_gI (fun v5 w5 e5 o5 => ?_)
  have hF := w5.fx hF
  have hT := zTL.fr hT w5 (by decide) (by decide)
  have hOw := zOwn.fr hOw w5 (by decide)
  have i4 := (o5 4 (by decide)).trans i4
  have i5 := (o5 5 (by decide)).trans i5
  have i8 := (o5 8 (by decide)).trans i8
  have i9 := (o5 9 (by decide)).trans i9
  have i6 := (o5 6 (by decide)).trans i6
  have i7 := e5
  refine w_ic (pc' := 115) ⟨rfl, rfl⟩ ?_
  refine w_istore_n (pc' := 116) ⟨rfl, rfl⟩ rfl ?_
  have ho : ∀ k, k < 4 ∨ 9 < k → zI _ 1 k = zI σ 1 k := fun k hk => (o5 k (by omega)).trans ((o4 k (by omega)).trans ((o3 k (by omega)).trans ((o2 k (by omega)).trans (o1 k (by omega)))))
  by_cases h0 : le = 0
  · rw [if_pos h0] at k
    refine w_iload_n (pc' := 117) ⟨rfl, rfl⟩ rfl ?_
    refine w_bi (pc' := 119) ⟨rfl, rfl⟩ (by decide) ?_
    refine w_icF_ge (pc' := 122) ⟨rfl, rfl⟩ (by omega) ?_
    refine w_aload_n (pc' := 123) ⟨rfl, rfl⟩ rfl ?_
    refine w_getI (pc' := 126) (cl := 0) (q := 5) ⟨rfl, rfl⟩ ⟨rfl, by decide⟩ (zOl hF rfl) i5 ?_
    refine w_ifT_le (pc' := 129) (pcT := 162) ⟨rfl, rfl⟩ rfl (by omega) ?_
    refine w_return (pc' := 163) ⟨rfl, rfl⟩ ?_
    exact k _ ((((w1.trans w2).trans w3).trans w4).trans w5) ⟨i4, i5, i6, i7, i8, i9⟩ ho
  · rw [if_neg h0] at k
    refine w_at (ls2 := [(0, .ref 1), (1, .int (iZ ((0 : Nat) : Int)))]) ?_ (l_own (σ := σ) (by omega) 17 0 _ (by omega) ((((w1.trans w2).trans w3).trans w4).trans w5) hF hT hOw ⟨i4, i5, i6, i7, i8, i9⟩ ho k)
    exact ⟨rfl, rfl, trivial⟩
/-- the contract: blanks (one at the most) are passed -/
theorem c_look {σ : zSt} {l : List Int} (hF : zFx σ) (hT : zTL σ l) (hOw : zOwn σ) {p q : Nat} (hq : q ≤ l.length) (i4 : zI σ 1 4 = iZ (p : Int)) (hb : (q = p ∧ ¬ zbl l.length (fun i => l.getD i 0) p) ∨ (q = p + 1 ∧ zbl l.length (fun i => l.getD i 0) p ∧ ¬ zbl l.length (fun i => l.getD i 0) ((p + 1 : Nat) : Int))) {le dg nm : Int} {wd : Int32} (hA : zAt l q le wd dg nm) (hle : 0 ≤ le ∧ le ≤ 6) (hdg : 0 ≤ dg ∧ dg ≤ 1600) {Q : zSt → Option Value → Prop} (k : ∀ σ2, zFm [1] σ σ2 → zTok σ2 q le wd (if le = 0 then -1 else zof wd 17) dg nm → (∀ k, k < 4 ∨ 9 < k → zI σ2 1 k = zI σ 1 k) → Q σ2 none) : zCa 2 [.ref 1] σ Q := by
  refine w_enter (c := zk_X0_lookAtNext) (ls2 := [(0, .ref 1)]) rfl ⟨rfl, trivial⟩ ?_
  rcases hb with ⟨rfl, hb⟩ | ⟨rfl, hb, hb2⟩
  · exact l_bl0 hF hT hq i4 hb (l_look hF hT hOw hq i4 hA hle hdg k)
  · exact l_bl1 hF hT (by omega) i4 hb hb2 (fun σ1 m e o => l_look (m.fx hF) (zTL.fr hT m (by decide) (by decide)) (zOwn.fr hOw m (by decide)) hq e hA hle hdg (fun σ2 m2 t o2 => k σ2 (m.trans m2) t (fun k hk => (o2 k hk).trans (o k (by omega)))))
