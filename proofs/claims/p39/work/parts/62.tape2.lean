/-! THE TAPE as a list of bytes: feed, end -/
/-- the tape as a list of bytes -/
def zTL (σ : zSt) (l : List Int) : Prop := zTp σ l.length (fun i => l.getD i 0)
theorem zgetD_app {l : List Int} {c : Int} {i : Nat} : (l ++ [c]).getD i 0 = if i < l.length then l.getD i 0 else if i = l.length then c else 0 := by
  simp only [List.getD_eq_getElem?_getD]
  by_cases h : i < l.length
  · rw [if_pos h, List.getElem?_append_left h]
  · rw [if_neg h, List.getElem?_append_right (by omega)]
    by_cases h2 : i = l.length
    · rw [if_pos h2, h2, Nat.sub_self]; rfl
    · rw [if_neg h2, List.getElem?_eq_none (by simp; omega)]; rfl
theorem zTL.fr {w : List Nat} {σ σ' : zSt} {l : List Int} (h : zTL σ l) (f : zFm w σ σ') (h3 : 3 ∉ w) (h4 : 4 ∉ w) : zTL σ' l := zTp.fr h f h3 h4
theorem zTL.push {σ : zSt} {l : List Int} {c : Int} (h : zTL σ l) (hn : l.length < 1600) (hc : 0 ≤ c ∧ c ≤ 255) : zTL (zwI (zwI σ 4 l.length (iZ c)) 3 1 (iZ ((l.length : Int) + 1))) (l ++ [c]) := by
  have e : (l ++ [c]).length = l.length + 1 := by simp
  unfold zTL
  rw [e]
  refine ⟨zI_wI_s.trans (congrArg iZ (by omega)), by omega, fun i hi => ?_⟩
  show zI _ 4 i = iZ ((l ++ [c]).getD i 0) ∧ 0 ≤ (l ++ [c]).getD i 0 ∧ (l ++ [c]).getD i 0 ≤ 255
  rw [zI_wI_n (Or.inl (by decide)), zgetD_app]
  by_cases h1 : i < l.length
  · rw [zI_wI_n (Or.inr (by omega)), if_pos h1]; exact h.2.2 i h1
  · obtain rfl : i = l.length := by omega
    rw [zI_wI_s, if_neg h1, if_pos rfl]; exact ⟨rfl, hc⟩
theorem zTL.cut {σ : zSt} {l : List Int} {n : Nat} (h : zTL σ l) (hn : n ≤ l.length) : zTL (zwI σ 3 1 (iZ (n : Int))) (l.take n) := by
  have e : (l.take n).length = n := by simp; omega
  unfold zTL
  rw [e]
  have hl := h.2.1
  refine ⟨zI_wI_s, by omega, fun i hi => ?_⟩
  show zI _ 4 i = iZ ((l.take n).getD i 0) ∧ 0 ≤ (l.take n).getD i 0 ∧ (l.take n).getD i 0 ≤ 255
  rw [zI_wI_n (Or.inl (by decide))]
  have h2 : (l.take n).getD i 0 = l.getD i 0 := by simp only [List.getD_eq_getElem?_getD, List.getElem?_take, if_pos hi]
  rw [h2]
  exact h.2.2 i (by omega)
/-- a byte of a number that is fed -/
def zbZ (v : Int32) (s : Int) : Int := ((v.toUInt32 >>> ((iZ s).toUInt32 &&& Int32.toUInt32 31)).toInt32).toInt % 256
theorem zbZ_rng (v : Int32) (s : Int) : 0 ≤ zbZ v s ∧ zbZ v s ≤ 255 := by unfold zbZ; omega
theorem zbZ_eq (v : Int32) (s : Int) : (v.toUInt32 >>> ((iZ s).toUInt32 &&& Int32.toUInt32 31)).toInt32 &&& iZ 255 = iZ (zbZ v s) := by
  have h := iZ_of (v.toUInt32 >>> ((iZ s).toUInt32 &&& Int32.toUInt32 31)).toInt32
  unfold zbZ
  rw [← iZ_and255, ← h]
def zb4 (v : Int32) : List Int := [zbZ v 24, zbZ v 16, zbZ v 8, zbZ v 0]
theorem l_addNumber {σ : zSt} (hF : zFx σ) {l : List Int} (hn : l.length + 4 ≤ 1600) {v : Int32} {Q : zSt → Option Value → Prop} (k : ∀ σ2, zFm [3, 4] σ σ2 → zTL σ2 (l ++ zb4 v) → Q σ2 none) : ∀ (m i : Nat) (y : Int) (σ1 : zSt), i + m = 4 → y = 24 - 8 * i → zFm [3, 4] σ σ1 → zTL σ1 (l ++ (zb4 v).take i) → zP zk_X9_addNumber 3 [(0, .ref 3), (1, .int v), (2, .int (iZ y))] [] σ1 Q := by
  intro m
  induction m with
  | zero =>
    intro i y σ1 hi hy hf hT
    have hF1 := hf.fx hF
    have hlen : (l ++ (zb4 v).take i).length = l.length + i := by have : (zb4 v).length = 4 := rfl; simp; omega
    have hc : zI σ1 3 1 = iZ ((l.length : Int) + i) := hT.1.trans (congrArg iZ (by omega))
    refine w_iload_n (pc' := 4) ⟨rfl, rfl⟩ rfl ?_
    refine w_ifT_lt (pc' := 7) (pcT := 56) ⟨rfl, rfl⟩ rfl (by omega) ?_
    refine w_return (pc' := 57) ⟨rfl, rfl⟩ ?_
    obtain rfl : i = 4 := by omega
    exact k _ hf hT
  | succ m ih =>
    intro i y σ1 hi hy hf hT
    have hF1 := hf.fx hF
    have hlen : (l ++ (zb4 v).take i).length = l.length + i := by have : (zb4 v).length = 4 := rfl; simp; omega
    have hc : zI σ1 3 1 = iZ ((l.length : Int) + i) := hT.1.trans (congrArg iZ (by omega))
    refine w_iload_n (pc' := 4) ⟨rfl, rfl⟩ rfl ?_
    refine w_ifF_lt (pc' := 7) ⟨rfl, rfl⟩ (by omega) ?_
    refine w_aload_n (pc' := 8) ⟨rfl, rfl⟩ rfl ?_
    refine w_getI (pc' := 11) (cl := 7) (q := 1) ⟨rfl, rfl⟩ ⟨rfl, by decide⟩ (zOl hF1 rfl) hc ?_
    refine w_ifF_lt (pc' := 14) ⟨rfl, rfl⟩ (by omega) ?_
    refine w_aload_n (pc' := 15) ⟨rfl, rfl⟩ rfl ?_
    refine w_getI (pc' := 18) (cl := 7) (q := 1) ⟨rfl, rfl⟩ ⟨rfl, by decide⟩ (zOl hF1 rfl) hc ?_
    refine w_si (pc' := 21) ⟨rfl, rfl⟩ (by decide) ?_
    refine w_icF_ge (pc' := 24) ⟨rfl, rfl⟩ (by omega) ?_
    refine w_aload_n (pc' := 25) ⟨rfl, rfl⟩ rfl ?_
    refine w_getR (pc' := 28) (cl := 7) (q := 0) ⟨rfl, rfl⟩ ⟨rfl, by decide⟩ (zOl hF1 rfl) (hF1.2 3 0 4 rfl) ?_
    refine w_aload_n (pc' := 29) ⟨rfl, rfl⟩ rfl ?_
    refine w_getI (pc' := 32) (cl := 7) (q := 1) ⟨rfl, rfl⟩ ⟨rfl, by decide⟩ (zOl hF1 rfl) hc ?_
    refine w_iload_n (pc' := 33) ⟨rfl, rfl⟩ rfl ?_
    refine w_iload_n (pc' := 34) ⟨rfl, rfl⟩ rfl ?_
    refine w_iushr (pc' := 35) ⟨rfl, rfl⟩ ?_
    refine w_si (pc' := 38) ⟨rfl, rfl⟩ (by decide) ?_
    refine w_iand (pc' := 39) ⟨rfl, rfl⟩ ?_
    refine w_iast (pc' := 40) ⟨rfl, rfl⟩ (zAl hF1 rfl) (zixA (j := l.length + i) (by omega)) ?_
    refine w_aload_n (pc' := 41) ⟨rfl, rfl⟩ rfl ?_
    refine w_dupR (pc' := 42) ⟨rfl, rfl⟩ ?_
    refine w_getI (pc' := 45) (cl := 7) (q := 1) ⟨rfl, rfl⟩ ⟨rfl, by decide⟩ (zOl hF1 rfl) ((zI_wI_n (Or.inl (by decide))).trans hc) ?_
    refine w_ic (pc' := 46) ⟨rfl, rfl⟩ ?_
    refine w_iaddZ (pc' := 47) ⟨rfl, rfl⟩ ?_
    refine w_putI (pc' := 50) (cl := 7) (q := 1) ⟨rfl, rfl⟩ ⟨rfl, by decide⟩ (zOl hF1 rfl) ?_
    refine w_iincZ (pc' := 53) ⟨rfl, rfl⟩ rfl rfl ?_
    refine w_goto (pc' := 56) (pcT := 3) ⟨rfl, rfl⟩ rfl ?_
    rw [zbZ_eq]
    have hT2 := zTL.push (c := zbZ v y) hT (by omega) (zbZ_rng _ _)
    rw [hlen] at hT2
    have e : (l ++ (zb4 v).take i) ++ [zbZ v y] = l ++ (zb4 v).take (i + 1) := by
      rw [List.append_assoc]
      rcases (show i = 0 ∨ i = 1 ∨ i = 2 ∨ i = 3 by omega) with rfl | rfl | rfl | rfl <;> subst hy <;> rfl
    rw [e] at hT2
    rw [show (((l.length + i : Nat) : Int)) + 1 = (l.length : Int) + i + 1 by omega] at hT2
    refine w_at (ls2 := [(0, .ref 3), (1, .int v), (2, .int (iZ (y + -8)))]) ?_ (ih (i + 1) (y + -8) _ (by omega) (by omega) ((hf.trans (zFm.wI (by decide))).trans (zFm.wI (by decide))) hT2)
    exact ⟨rfl, rfl, rfl, trivial⟩
theorem f_addNumber {σ : zSt} (hF : zFx σ) {l : List Int} (hT : zTL σ l) (hn : l.length + 4 ≤ 1600) {v : Int32} {Q : zSt → Option Value → Prop} (k : ∀ σ1, zFm [3, 4] σ σ1 → zTL σ1 (l ++ zb4 v) → Q σ1 none) : zCa 80 [.ref 3, .int v] σ Q := by
  refine w_enter (c := zk_X9_addNumber) (ls2 := [(0, .ref 3), (1, .int v)]) rfl ⟨rfl, rfl, trivial⟩ ?_
  refine w_bi (pc' := 2) ⟨rfl, rfl⟩ (by decide) ?_
  refine w_istore_n (pc' := 3) ⟨rfl, rfl⟩ rfl ?_
  refine w_at (ls2 := [(0, .ref 3), (1, .int v), (2, .int (iZ 24))]) ?_ (l_addNumber hF hn k 4 0 24 σ rfl (by omega) zFm.refl (by rw [List.take_zero, List.append_nil]; exact hT))
  exact ⟨rfl, rfl, rfl, trivial⟩
theorem zb4_len (v : Int32) : (zb4 v).length = 4 := rfl
theorem f_feed {σ : zSt} (hF : zFx σ) {l : List Int} (hT : zTL σ l) (hn : l.length + 20 ≤ 1600) {a b c d e : Int32} {Q : zSt → Option Value → Prop} (k : ∀ σ1, zFm [3, 4] σ σ1 → zTL σ1 (l ++ (zb4 a ++ (zb4 b ++ (zb4 c ++ (zb4 d ++ zb4 e))))) → Q σ1 (some (.int (iZ ((l.length : Int) + 20))))) : zCa 92 [.ref 0, .int a, .int b, .int c, .int d, .int e] σ Q := by
  refine w_enter (c := zk_X11_feed) (ls2 := [(0, .ref 0), (1, .int a), (2, .int b), (3, .int c), (4, .int d), (5, .int e)]) rfl ⟨rfl, rfl, rfl, rfl, rfl, rfl, trivial⟩ ?_
  refine w_aload_n (pc' := 1) ⟨rfl, rfl⟩ rfl ?_
  refine w_getR (pc' := 4) (cl := 9) (q := 0) ⟨rfl, rfl⟩ ⟨rfl, by decide⟩ (zOl hF rfl) (hF.2 0 0 3 rfl) ?_
  refine w_bi (pc' := 6) ⟨rfl, rfl⟩ (by decide) ?_
  refine w_cv2 (pc' := 9) ⟨rfl, rfl⟩ (by decide) (zOl hF rfl) (Nat.le_of_ble_eq_true rfl) (Nat.le_of_ble_eq_true rfl) (c_takes hF hT (by omega) (fun h => ?_) (fun h => ?_))
  · refine w_ifT_ne (pc' := 12) (pcT := 24) ⟨rfl, rfl⟩ rfl (by decide) ?_
    refine w_aload_n (pc' := 25) ⟨rfl, rfl⟩ rfl ?_
    refine w_getR (pc' := 28) (cl := 9) (q := 0) ⟨rfl, rfl⟩ ⟨rfl, by decide⟩ (zOl hF rfl) (hF.2 0 0 3 rfl) ?_
    refine w_iload_n (pc' := 29) ⟨rfl, rfl⟩ rfl ?_
    refine w_cv2 (pc' := 32) ⟨rfl, rfl⟩ (by decide) (zOl hF rfl) (Nat.le_of_ble_eq_true rfl) (Nat.le_of_ble_eq_true rfl) (f_addNumber hF hT (by (try simp only [List.length_append, zb4_len]); omega) (fun σ1 m1 t1 => ?_))
    have hF := m1.fx hF
    refine w_aload_n (pc' := 33) ⟨rfl, rfl⟩ rfl ?_
    refine w_getR (pc' := 36) (cl := 9) (q := 0) ⟨rfl, rfl⟩ ⟨rfl, by decide⟩ (zOl hF rfl) (hF.2 0 0 3 rfl) ?_
    refine w_iload_n (pc' := 37) ⟨rfl, rfl⟩ rfl ?_
    refine w_cv2 (pc' := 40) ⟨rfl, rfl⟩ (by decide) (zOl hF rfl) (Nat.le_of_ble_eq_true rfl) (Nat.le_of_ble_eq_true rfl) (f_addNumber hF t1 (by (try simp only [List.length_append, zb4_len]); omega) (fun σ2 m2 t2 => ?_))
    have hF := m2.fx hF
    refine w_aload_n (pc' := 41) ⟨rfl, rfl⟩ rfl ?_
    refine w_getR (pc' := 44) (cl := 9) (q := 0) ⟨rfl, rfl⟩ ⟨rfl, by decide⟩ (zOl hF rfl) (hF.2 0 0 3 rfl) ?_
    refine w_iload_n (pc' := 45) ⟨rfl, rfl⟩ rfl ?_
    refine w_cv2 (pc' := 48) ⟨rfl, rfl⟩ (by decide) (zOl hF rfl) (Nat.le_of_ble_eq_true rfl) (Nat.le_of_ble_eq_true rfl) (f_addNumber hF t2 (by (try simp only [List.length_append, zb4_len]); omega) (fun σ3 m3 t3 => ?_))
    have hF := m3.fx hF
    refine w_aload_n (pc' := 49) ⟨rfl, rfl⟩ rfl ?_
    refine w_getR (pc' := 52) (cl := 9) (q := 0) ⟨rfl, rfl⟩ ⟨rfl, by decide⟩ (zOl hF rfl) (hF.2 0 0 3 rfl) ?_
    refine w_iload (pc' := 54) ⟨rfl, rfl⟩ rfl ?_
    refine w_cv2 (pc' := 57) ⟨rfl, rfl⟩ (by decide) (zOl hF rfl) (Nat.le_of_ble_eq_true rfl) (Nat.le_of_ble_eq_true rfl) (f_addNumber hF t3 (by (try simp only [List.length_append, zb4_len]); omega) (fun σ4 m4 t4 => ?_))
    have hF := m4.fx hF
    refine w_aload_n (pc' := 58) ⟨rfl, rfl⟩ rfl ?_
    refine w_getR (pc' := 61) (cl := 9) (q := 0) ⟨rfl, rfl⟩ ⟨rfl, by decide⟩ (zOl hF rfl) (hF.2 0 0 3 rfl) ?_
    refine w_iload (pc' := 63) ⟨rfl, rfl⟩ rfl ?_
    refine w_cv2 (pc' := 66) ⟨rfl, rfl⟩ (by decide) (zOl hF rfl) (Nat.le_of_ble_eq_true rfl) (Nat.le_of_ble_eq_true rfl) (f_addNumber hF t4 (by (try simp only [List.length_append, zb4_len]); omega) (fun σ5 m5 t5 => ?_))
    have hF := m5.fx hF
    refine w_aload_n (pc' := 67) ⟨rfl, rfl⟩ rfl ?_
    refine w_getR (pc' := 70) (cl := 9) (q := 0) ⟨rfl, rfl⟩ ⟨rfl, by decide⟩ (zOl hF rfl) (hF.2 0 0 3 rfl) ?_
    refine w_getI (pc' := 73) (cl := 7) (q := 1) ⟨rfl, rfl⟩ ⟨rfl, by decide⟩ (zOl hF rfl) t5.1 ?_
    refine w_ireturn (pc' := 74) ⟨rfl, rfl⟩ (Or.inl rfl) ?_
    exact zQi (k _ ((((m1.trans m2).trans m3).trans m4).trans m5) (by simpa only [List.append_assoc] using t5)) (by (try simp only [List.length_append, zb4_len]); omega)
  · exact absurd h (by omega)
theorem f_end {σ : zSt} (hF : zFx σ) {l : List Int} (hT : zTL σ l) {n : Nat} (hn : n ≤ l.length) {Q : zSt → Option Value → Prop} (k : ∀ σ1, zFm [3] σ σ1 → zTL σ1 (l.take n) → Q σ1 (some (.int (iZ 1)))) : zCa 93 [.ref 0, .int (iZ (n : Int))] σ Q := by
  refine w_enter (c := zk_X11_end) (ls2 := [(0, .ref 0), (1, .int (iZ (n : Int)))]) rfl ⟨rfl, rfl, trivial⟩ ?_
  have hl := hT.2.1
  refine w_iload_n (pc' := 1) ⟨rfl, rfl⟩ rfl ?_
  refine w_ifF_lt (pc' := 4) ⟨rfl, rfl⟩ (by omega) ?_
  refine w_iload_n (pc' := 5) ⟨rfl, rfl⟩ rfl ?_
  refine w_aload_n (pc' := 6) ⟨rfl, rfl⟩ rfl ?_
  refine w_getR (pc' := 9) (cl := 9) (q := 0) ⟨rfl, rfl⟩ ⟨rfl, by decide⟩ (zOl hF rfl) (hF.2 0 0 3 rfl) ?_
  refine w_getI (pc' := 12) (cl := 7) (q := 1) ⟨rfl, rfl⟩ ⟨rfl, by decide⟩ (zOl hF rfl) hT.1 ?_
  refine w_icT_le (pc' := 15) (pcT := 27) ⟨rfl, rfl⟩ rfl (by omega) ?_
  refine w_aload_n (pc' := 28) ⟨rfl, rfl⟩ rfl ?_
  refine w_getR (pc' := 31) (cl := 9) (q := 0) ⟨rfl, rfl⟩ ⟨rfl, by decide⟩ (zOl hF rfl) (hF.2 0 0 3 rfl) ?_
  refine w_iload_n (pc' := 32) ⟨rfl, rfl⟩ rfl ?_
  refine w_putI (pc' := 35) (cl := 7) (q := 1) ⟨rfl, rfl⟩ ⟨rfl, by decide⟩ (zOl hF rfl) ?_
  refine w_ic (pc' := 36) ⟨rfl, rfl⟩ ?_
  refine w_ireturn (pc' := 37) ⟨rfl, rfl⟩ (by decide) ?_
  exact k _ (zFm.wI (by decide)) (hT.cut hn)
