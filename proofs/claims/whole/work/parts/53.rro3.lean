/-! ALIKE RECORDS, ACTS, in the reference -/
theorem l_arl {σ : zSt} {t : zBk} {s f : Nat} (hF : zFx σ) (hT : zTr σ t) (hV : zVs t s) (hs : s < 3) (hf : (f : Int) < zNF t s) {r q : Nat} (hr : r < 8) (hq : q < 8) {Q : zSt → Option Value → Prop} : ∀ (j : Nat) (i : Nat), ((i : Int) + j = zCE t s f) → (∀ u, u < i → (fun r i => zvl (zKD t s f) (zL σ 170 (zpr t s f r i))) r u = (fun r i => zvl (zKD t s f) (zL σ 170 (zpr t s f r i))) q u) → (zal (fun r i => zvl (zKD t s f) (zL σ 170 (zpr t s f r i))) (zCE t s f).toNat r q → Q σ (some (.int (iZ 1)))) → (¬ zal (fun r i => zvl (zKD t s f) (zL σ 170 (zpr t s f r i))) (zCE t s f).toNat r q → Q σ (some (.int (iZ 0)))) → zP zk_X12_areLike 3 [(0, .ref 164), (1, .int (iZ s)), (2, .int (iZ f)), (3, .int (iZ r)), (4, .int (iZ q)), (5, .int (iZ i))] [] σ Q := by
  intro j
  induction j with
  | zero =>
    intro i hi ha k1 k0
    have hce := (hV.2 f hf).2
    have hn := hV.1
    obtain rfl : i = (zCE t s f).toNat := by omega
    refine w_iload (pc' := 5) ⟨rfl, rfl⟩ rfl ?_
    refine w_aload_n (pc' := 6) ⟨rfl, rfl⟩ rfl ?_
    refine w_iload_n (pc' := 7) ⟨rfl, rfl⟩ rfl ?_
    refine w_iload_n (pc' := 8) ⟨rfl, rfl⟩ rfl ?_
    refine w_cv3 (pc' := 11) ⟨rfl, rfl⟩ (by decide) (zOl hF rfl) (Nat.le_of_ble_eq_true rfl) (Nat.le_of_ble_eq_true rfl) (r_cellsOf hF hT hs (by omega) ?_)
    refine w_icT_ge (pc' := 14) (pcT := 45) ⟨rfl, rfl⟩ rfl (by omega) ?_
    refine w_ic (pc' := 46) ⟨rfl, rfl⟩ ?_
    refine w_ireturn (pc' := 47) ⟨rfl, rfl⟩ (by decide) ?_
    exact k1 (fun i hi => ha i hi)
  | succ j ih =>
    intro i hi ha k1 k0
    have hce := (hV.2 f hf).2
    have hn := hV.1
    refine w_iload (pc' := 5) ⟨rfl, rfl⟩ rfl ?_
    refine w_aload_n (pc' := 6) ⟨rfl, rfl⟩ rfl ?_
    refine w_iload_n (pc' := 7) ⟨rfl, rfl⟩ rfl ?_
    refine w_iload_n (pc' := 8) ⟨rfl, rfl⟩ rfl ?_
    refine w_cv3 (pc' := 11) ⟨rfl, rfl⟩ (by decide) (zOl hF rfl) (Nat.le_of_ble_eq_true rfl) (Nat.le_of_ble_eq_true rfl) (r_cellsOf hF hT hs (by omega) ?_)
    refine w_icF_ge (pc' := 14) ⟨rfl, rfl⟩ (by omega) ?_
    refine w_aload_n (pc' := 15) ⟨rfl, rfl⟩ rfl ?_
    refine w_iload_n (pc' := 16) ⟨rfl, rfl⟩ rfl ?_
    refine w_iload_n (pc' := 17) ⟨rfl, rfl⟩ rfl ?_
    refine w_iload_n (pc' := 18) ⟨rfl, rfl⟩ rfl ?_
    refine w_iload (pc' := 20) ⟨rfl, rfl⟩ rfl ?_
    refine w_cv5 (pc' := 23) ⟨rfl, rfl⟩ (by decide) (zOl hF rfl) (Nat.le_of_ble_eq_true rfl) (Nat.le_of_ble_eq_true rfl) (r_valueAt hF hT hs (by omega) hr hce (by omega) (hV.2 f hf).1 ?_)
    refine w_aload_n (pc' := 24) ⟨rfl, rfl⟩ rfl ?_
    refine w_iload_n (pc' := 25) ⟨rfl, rfl⟩ rfl ?_
    refine w_iload_n (pc' := 26) ⟨rfl, rfl⟩ rfl ?_
    refine w_iload (pc' := 28) ⟨rfl, rfl⟩ rfl ?_
    refine w_iload (pc' := 30) ⟨rfl, rfl⟩ rfl ?_
    refine w_cv5 (pc' := 33) ⟨rfl, rfl⟩ (by decide) (zOl hF rfl) (Nat.le_of_ble_eq_true rfl) (Nat.le_of_ble_eq_true rfl) (r_valueAt hF hT hs (by omega) hq hce (by omega) (hV.2 f hf).1 ?_)
    refine w_lcmp (pc' := 34) ⟨rfl, rfl⟩ ?_
    refine w_ifc_eq (pc' := 37) (pcT := 39) ⟨rfl, rfl⟩ rfl (fun h1 => ?_) (fun h1 => ?_)
    · refine w_iincZ (pc' := 42) ⟨rfl, rfl⟩ rfl rfl ?_
      refine w_goto (pc' := 45) (pcT := 3) ⟨rfl, rfl⟩ rfl ?_
      refine w_at ?_ (ih (i + 1) (by omega) (fun u hu => ?_) k1 k0)
      · exact ⟨rfl, rfl, rfl, rfl, rfl, rfl, trivial⟩
      · by_cases hui : u = i
        · rw [hui]; assumption
        · exact ha u (by omega)
    · refine w_ic (pc' := 38) ⟨rfl, rfl⟩ ?_
      refine w_ireturn (pc' := 39) ⟨rfl, rfl⟩ (by decide) ?_
      exact k0 (fun ha => by have := ha i (by omega); contradiction)
theorem r_areLike {σ : zSt} {t : zBk} {s f : Nat} (hF : zFx σ) (hT : zTr σ t) (hV : zVs t s) (hs : s < 3) (hf : (f : Int) < zNF t s) {r q : Nat} (hr : r < 8) (hq : q < 8) {Q : zSt → Option Value → Prop} (k1 : zal (fun r i => zvl (zKD t s f) (zL σ 170 (zpr t s f r i))) (zCE t s f).toNat r q → Q σ (some (.int (iZ 1)))) (k0 : ¬ zal (fun r i => zvl (zKD t s f) (zL σ 170 (zpr t s f r i))) (zCE t s f).toNat r q → Q σ (some (.int (iZ 0)))) : zCa 303 [.ref 164, .int (iZ s), .int (iZ f), .int (iZ r), .int (iZ q)] σ Q := by
  refine w_enter (c := zk_X12_areLike) (ls2 := [(0, .ref 164), (1, .int (iZ s)), (2, .int (iZ f)), (3, .int (iZ r)), (4, .int (iZ q))]) rfl ⟨rfl, rfl, rfl, rfl, rfl, trivial⟩ ?_
  have hce := (hV.2 f hf).2
  have hn := hV.1
  refine w_ic (pc' := 1) ⟨rfl, rfl⟩ ?_
  refine w_istore (pc' := 3) ⟨rfl, rfl⟩ rfl ?_
  refine w_at ?_ (l_arl hF hT hV hs hf hr hq (zCE t s f).toNat 0 (by omega) (fun u hu => by omega) k1 k0)
  exact ⟨rfl, rfl, rfl, rfl, rfl, rfl, trivial⟩
theorem l_rmo2 {σ : zSt} {t : zBk} {s f : Nat} (hF : zFx σ) (hT : zTr σ t) (hV : zVs t s) (hs : s < 3) (hf : (f : Int) < zNF t s) {c : Nat → Int} (hC : zCm σ c) {n : Nat} (hcs : c s = n) (hn8 : n ≤ 8) {mo : Int} {r : Nat} (hr : r < n) {Q : zSt → Option Value → Prop} : ∀ (j : Nat) (i : Nat), i + j = n → (zP zk_X12_mostAlike 55 [(0, .ref 164), (1, .int (iZ s)), (2, .int (iZ f)), (3, .int (iZ mo)), (4, .int (iZ r)), (5, .int (iZ (zct (fun r i => zvl (zKD t s f) (zL σ 170 (zpr t s f r i))) (zCE t s f).toNat r n)))] [] σ Q) → zP zk_X12_mostAlike 21 [(0, .ref 164), (1, .int (iZ s)), (2, .int (iZ f)), (3, .int (iZ mo)), (4, .int (iZ r)), (5, .int (iZ (zct (fun r i => zvl (zKD t s f) (zL σ 170 (zpr t s f r i))) (zCE t s f).toNat r i))), (6, .int (iZ i))] [] σ Q := by
  intro j
  induction j with
  | zero =>
    intro i hi k
    obtain rfl : i = n := by omega
    refine w_iload (pc' := 23) ⟨rfl, rfl⟩ rfl ?_
    refine w_aload_n (pc' := 24) ⟨rfl, rfl⟩ rfl ?_
    refine w_iload_n (pc' := 25) ⟨rfl, rfl⟩ rfl ?_
    refine w_cv2 (pc' := 28) ⟨rfl, rfl⟩ (by decide) (zOl hF rfl) (Nat.le_of_ble_eq_true rfl) (Nat.le_of_ble_eq_true rfl) (r_recordMany hF hC hs ?_)
    rw [hcs]
    refine w_icT_ge (pc' := 31) (pcT := 55) ⟨rfl, rfl⟩ rfl (by omega) ?_
    refine w_at ?_ k
    exact ⟨rfl, rfl, rfl, rfl, rfl, rfl, trivial⟩
  | succ j ih =>
    intro i hi k
    refine w_iload (pc' := 23) ⟨rfl, rfl⟩ rfl ?_
    refine w_aload_n (pc' := 24) ⟨rfl, rfl⟩ rfl ?_
    refine w_iload_n (pc' := 25) ⟨rfl, rfl⟩ rfl ?_
    refine w_cv2 (pc' := 28) ⟨rfl, rfl⟩ (by decide) (zOl hF rfl) (Nat.le_of_ble_eq_true rfl) (Nat.le_of_ble_eq_true rfl) (r_recordMany hF hC hs ?_)
    rw [hcs]
    refine w_icF_ge (pc' := 31) ⟨rfl, rfl⟩ (by omega) ?_
    refine w_iload (pc' := 33) ⟨rfl, rfl⟩ rfl ?_
    refine w_aload_n (pc' := 34) ⟨rfl, rfl⟩ rfl ?_
    refine w_iload_n (pc' := 35) ⟨rfl, rfl⟩ rfl ?_
    refine w_iload_n (pc' := 36) ⟨rfl, rfl⟩ rfl ?_
    refine w_iload (pc' := 38) ⟨rfl, rfl⟩ rfl ?_
    refine w_iload (pc' := 40) ⟨rfl, rfl⟩ rfl ?_
    refine w_cv5 (pc' := 43) ⟨rfl, rfl⟩ (by decide) (zOl hF rfl) (Nat.le_of_ble_eq_true rfl) (Nat.le_of_ble_eq_true rfl) (r_areLike hF hT hV hs hf (by omega) (by omega) (fun h => ?_) (fun h => ?_))
    · refine w_cs1 (pc' := 46) ⟨rfl, rfl⟩ (by decide) (Nat.le_of_ble_eq_true rfl) (Nat.le_of_ble_eq_true rfl) (r_flag (by omega) ?_)
      refine w_iaddZ (pc' := 47) ⟨rfl, rfl⟩ ?_
      refine w_istore (pc' := 49) ⟨rfl, rfl⟩ rfl ?_
      refine w_iincZ (pc' := 52) ⟨rfl, rfl⟩ rfl rfl ?_
      refine w_goto (pc' := 55) (pcT := 21) ⟨rfl, rfl⟩ rfl ?_
      refine w_at ?_ (ih (i + 1) (by omega) k)
      exact ⟨rfl, rfl, rfl, rfl, rfl, by rw [zct, if_pos (by assumption)]; rfl, rfl, trivial⟩
    · refine w_cs1 (pc' := 46) ⟨rfl, rfl⟩ (by decide) (Nat.le_of_ble_eq_true rfl) (Nat.le_of_ble_eq_true rfl) (r_flag (by omega) ?_)
      refine w_iaddZ (pc' := 47) ⟨rfl, rfl⟩ ?_
      refine w_istore (pc' := 49) ⟨rfl, rfl⟩ rfl ?_
      refine w_iincZ (pc' := 52) ⟨rfl, rfl⟩ rfl rfl ?_
      refine w_goto (pc' := 55) (pcT := 21) ⟨rfl, rfl⟩ rfl ?_
      refine w_at ?_ (ih (i + 1) (by omega) k)
      exact ⟨rfl, rfl, rfl, rfl, rfl, by rw [zct, if_neg (by assumption)]; rfl, rfl, trivial⟩
theorem l_rmo1 {σ : zSt} {t : zBk} {s f : Nat} (hF : zFx σ) (hT : zTr σ t) (hV : zVs t s) (hs : s < 3) (hf : (f : Int) < zNF t s) {c : Nat → Int} (hC : zCm σ c) {n : Nat} (hcs : c s = n) (hn8 : n ≤ 8) {Q : zSt → Option Value → Prop} : ∀ (j : Nat) (r : Nat), r + j = n → (Q σ (some (.int (iZ (zmo (fun r i => zvl (zKD t s f) (zL σ 170 (zpr t s f r i))) (zCE t s f).toNat n n))))) → zP zk_X12_mostAlike 5 [(0, .ref 164), (1, .int (iZ s)), (2, .int (iZ f)), (3, .int (iZ (zmo (fun r i => zvl (zKD t s f) (zL σ 170 (zpr t s f r i))) (zCE t s f).toNat n r))), (4, .int (iZ r))] [] σ Q := by
  intro j
  induction j with
  | zero =>
    intro r hi k
    obtain rfl : r = n := by omega
    refine w_iload (pc' := 7) ⟨rfl, rfl⟩ rfl ?_
    refine w_aload_n (pc' := 8) ⟨rfl, rfl⟩ rfl ?_
    refine w_iload_n (pc' := 9) ⟨rfl, rfl⟩ rfl ?_
    refine w_cv2 (pc' := 12) ⟨rfl, rfl⟩ (by decide) (zOl hF rfl) (Nat.le_of_ble_eq_true rfl) (Nat.le_of_ble_eq_true rfl) (r_recordMany hF hC hs ?_)
    rw [hcs]
    refine w_icT_ge (pc' := 15) (pcT := 70) ⟨rfl, rfl⟩ rfl (by omega) ?_
    refine w_iload_n (pc' := 71) ⟨rfl, rfl⟩ rfl ?_
    refine w_ireturn (pc' := 72) ⟨rfl, rfl⟩ (Or.inl rfl) ?_
    exact k
  | succ j ih =>
    intro r hi k
    refine w_iload (pc' := 7) ⟨rfl, rfl⟩ rfl ?_
    refine w_aload_n (pc' := 8) ⟨rfl, rfl⟩ rfl ?_
    refine w_iload_n (pc' := 9) ⟨rfl, rfl⟩ rfl ?_
    refine w_cv2 (pc' := 12) ⟨rfl, rfl⟩ (by decide) (zOl hF rfl) (Nat.le_of_ble_eq_true rfl) (Nat.le_of_ble_eq_true rfl) (r_recordMany hF hC hs ?_)
    rw [hcs]
    refine w_icF_ge (pc' := 15) ⟨rfl, rfl⟩ (by omega) ?_
    refine w_ic (pc' := 16) ⟨rfl, rfl⟩ ?_
    refine w_istore (pc' := 18) ⟨rfl, rfl⟩ rfl ?_
    refine w_ic (pc' := 19) ⟨rfl, rfl⟩ ?_
    refine w_istore (pc' := 21) ⟨rfl, rfl⟩ rfl ?_
    refine w_at (ls2 := [(0, .ref 164), (1, .int (iZ s)), (2, .int (iZ f)), (3, .int (iZ (zmo (fun r i => zvl (zKD t s f) (zL σ 170 (zpr t s f r i))) (zCE t s f).toNat n r))), (4, .int (iZ r)), (5, .int (iZ 0)), (6, .int (iZ ((0 : Nat) : Int)))]) ⟨rfl, rfl, rfl, rfl, rfl, rfl, rfl, trivial⟩ (l_rmo2 (n := n) hF hT hV hs hf hC hcs hn8 (r := r) (by omega) n 0 (by omega) ?_)
    have hm1 := zmo_rng (fun r i => zvl (zKD t s f) (zL σ 170 (zpr t s f r i))) (zCE t s f).toNat n r
    have hm2 := zct_rng (fun r i => zvl (zKD t s f) (zL σ 170 (zpr t s f r i))) (zCE t s f).toNat r n
    refine w_iload (pc' := 57) ⟨rfl, rfl⟩ rfl ?_
    refine w_iload_n (pc' := 58) ⟨rfl, rfl⟩ rfl ?_
    refine w_ic_le (pc' := 61) (pcT := 64) ⟨rfl, rfl⟩ rfl (by omega) (by omega) (fun h1 => ?_) (fun h1 => ?_)
    · refine w_iincZ (pc' := 67) ⟨rfl, rfl⟩ rfl rfl ?_
      refine w_goto (pc' := 70) (pcT := 5) ⟨rfl, rfl⟩ rfl ?_
      refine w_at ?_ (ih (r + 1) (by omega) k)
      exact ⟨rfl, rfl, rfl, by rw [zmo, Int.max_eq_left (by omega)]; rfl, rfl, trivial⟩
    · refine w_iload (pc' := 63) ⟨rfl, rfl⟩ rfl ?_
      refine w_istore_n (pc' := 64) ⟨rfl, rfl⟩ rfl ?_
      refine w_iincZ (pc' := 67) ⟨rfl, rfl⟩ rfl rfl ?_
      refine w_goto (pc' := 70) (pcT := 5) ⟨rfl, rfl⟩ rfl ?_
      refine w_at ?_ (ih (r + 1) (by omega) k)
      exact ⟨rfl, rfl, rfl, by rw [zmo, Int.max_eq_right (by omega)]; rfl, rfl, trivial⟩
theorem r_mostAlike {σ : zSt} {t : zBk} {s f : Nat} (hF : zFx σ) (hT : zTr σ t) (hV : zVs t s) (hs : s < 3) (hf : (f : Int) < zNF t s) {c : Nat → Int} (hC : zCm σ c) {n : Nat} (hcs : c s = n) (hn8 : n ≤ 8) {Q : zSt → Option Value → Prop} (k : Q σ (some (.int (iZ (zmo (fun r i => zvl (zKD t s f) (zL σ 170 (zpr t s f r i))) (zCE t s f).toNat n n))))) : zCa 304 [.ref 164, .int (iZ s), .int (iZ f)] σ Q := by
  refine w_enter (c := zk_X12_mostAlike) (ls2 := [(0, .ref 164), (1, .int (iZ s)), (2, .int (iZ f))]) rfl ⟨rfl, rfl, rfl, trivial⟩ ?_
  refine w_ic (pc' := 1) ⟨rfl, rfl⟩ ?_
  refine w_istore_n (pc' := 2) ⟨rfl, rfl⟩ rfl ?_
  refine w_ic (pc' := 3) ⟨rfl, rfl⟩ ?_
  refine w_istore (pc' := 5) ⟨rfl, rfl⟩ rfl ?_
  refine w_at ?_ (l_rmo1 hF hT hV hs hf hC hcs hn8 n 0 (by omega) k)
  exact ⟨rfl, rfl, rfl, rfl, rfl, trivial⟩
/-- an act's row among the acts -/
def zcpa (b n : Nat) (m a : zRw0) : zRw0 := fun i => if b ≤ i ∧ i < b + n then m (i - b) else a i
theorem zcpa_s {b n : Nat} {m a : zRw0} : va_up (zcpa b n m a) (b + n) (m n) = zcpa b (n + 1) m a := by
  funext i
  unfold va_up zcpa
  by_cases h : i = b + n
  · subst h; rw [if_pos rfl, if_pos (by omega)]; congr 1; omega
  · rw [if_neg h]
    by_cases h2 : b ≤ i ∧ i < b + n
    · rw [if_pos h2, if_pos (by omega)]
    · rw [if_neg h2, if_neg (by omega)]
theorem zcpa_0 {b : Nat} {m a : zRw0} : zcpa b 0 m a = a := by
  funext i; unfold zcpa; rw [if_neg (by omega)]
theorem l_keeps {σ : zSt} (hF : zFx σ) {x : Nat} (hx : zI σ 164 31 = iZ x) (hx2 : x < 20) {Q : zSt → Option Value → Prop} : ∀ (j : Nat) (i : Nat), i + j = 587 → (zP zk_X12_keeps 49 [(0, .ref 164)] [] (zrL σ 180 (zcpa (587 * x) 587 (zL σ 170) (zL σ 180))) Q) → zP zk_X12_keeps 15 [(0, .ref 164), (1, .int (iZ i))] [] (zrL σ 180 (zcpa (587 * x) i (zL σ 170) (zL σ 180))) Q := by
  intro j
  induction j with
  | zero =>
    intro i hi k
    obtain rfl : i = 587 := by omega
    refine w_iload_n (pc' := 16) ⟨rfl, rfl⟩ rfl ?_
    refine w_si (pc' := 19) ⟨rfl, rfl⟩ (by decide) ?_
    refine w_icT_ge (pc' := 22) (pcT := 49) ⟨rfl, rfl⟩ rfl (by omega) ?_
    refine w_at ?_ k
    exact ⟨rfl, trivial⟩
  | succ j ih =>
    intro i hi k
    refine w_iload_n (pc' := 16) ⟨rfl, rfl⟩ rfl ?_
    refine w_si (pc' := 19) ⟨rfl, rfl⟩ (by decide) ?_
    refine w_icF_ge (pc' := 22) ⟨rfl, rfl⟩ (by omega) ?_
    refine w_aload_n (pc' := 23) ⟨rfl, rfl⟩ rfl ?_
    refine w_getR (pc' := 26) (cl := 10) (q := 29) ⟨rfl, rfl⟩ ⟨rfl, by decide⟩ (zOl hF rfl) (hF.2 164 29 180 rfl) ?_
    refine w_si (pc' := 29) ⟨rfl, rfl⟩ (by decide) ?_
    refine w_aload_n (pc' := 30) ⟨rfl, rfl⟩ rfl ?_
    refine w_getI (pc' := 33) (cl := 10) (q := 31) ⟨rfl, rfl⟩ ⟨rfl, by decide⟩ (zOl hF rfl) hx ?_
    refine w_imulZ (pc' := 34) ⟨rfl, rfl⟩ ?_
    refine w_iload_n (pc' := 35) ⟨rfl, rfl⟩ rfl ?_
    refine w_iaddZ (pc' := 36) ⟨rfl, rfl⟩ ?_
    refine w_aload_n (pc' := 37) ⟨rfl, rfl⟩ rfl ?_
    refine w_getR (pc' := 40) (cl := 10) (q := 16) ⟨rfl, rfl⟩ ⟨rfl, by decide⟩ (zOl hF rfl) (hF.2 164 16 170 rfl) ?_
    refine w_iload_n (pc' := 41) ⟨rfl, rfl⟩ rfl ?_
    refine w_lald (pc' := 42) ⟨rfl, rfl⟩ (zAl hF rfl) (zixZ (by omega)) rfl ?_
    refine w_last (pc' := 43) ⟨rfl, rfl⟩ (zAl hF rfl) (zixA (j := 587 * x + i) (by omega)) ?_
    refine w_iincZ (pc' := 46) ⟨rfl, rfl⟩ rfl rfl ?_
    refine w_goto (pc' := 49) (pcT := 15) ⟨rfl, rfl⟩ rfl ?_
    rw [show zL (zrL σ 180 (zcpa (587 * x) i (zL σ 170) (zL σ 180))) 170 = zL σ 170 from zL_rLn (by decide)]
    refine w_sto zwL_rL ?_
    rw [zcpa_s]
    refine w_at ?_ (ih (i + 1) (by omega) k)
    exact ⟨rfl, rfl, trivial⟩
theorem zwI_same {σ : zSt} {o k : Nat} {v : Int32} (h : zI σ o k = v) : zwI σ o k v = σ := by
  have e : zwI σ o k v = zrI σ o (va_up (zI σ o) k v) := rfl
  have e2 : va_up (zI σ o) k v = zI σ o := by
    funext i
    unfold va_up
    split
    · rename_i q; rw [q, h]
    · rfl
  rw [e, e2, zrI_self]
theorem r_keeps {σ : zSt} (hF : zFx σ) {x : Nat} {y : Int} (hx : zI σ 164 31 = iZ x) (hx2 : x < 20) (hy : zI σ 164 30 = iZ y) (hy2 : 0 ≤ y ∧ y ≤ 20) {Q : zSt → Option Value → Prop} (k : Q (zwI (zrL (zwI σ 164 31 (iZ (((x + 1) % 20 : Nat) : Int))) 180 (zcpa (587 * ((x + 1) % 20)) 587 (zL σ 170) (zL σ 180))) 164 30 (iZ (min (y + 1) 20))) none) : zCa 307 [.ref 164] σ Q := by
  refine w_enter (c := zk_X12_keeps) (ls2 := [(0, .ref 164)]) rfl ⟨rfl, trivial⟩ ?_
  refine w_aload_n (pc' := 1) ⟨rfl, rfl⟩ rfl ?_
  refine w_aload_n (pc' := 2) ⟨rfl, rfl⟩ rfl ?_
  refine w_getI (pc' := 5) (cl := 10) (q := 31) ⟨rfl, rfl⟩ ⟨rfl, by decide⟩ (zOl hF rfl) hx ?_
  refine w_ic (pc' := 6) ⟨rfl, rfl⟩ ?_
  refine w_iaddZ (pc' := 7) ⟨rfl, rfl⟩ ?_
  refine w_bi (pc' := 9) ⟨rfl, rfl⟩ (by decide) ?_
  refine w_iremZ (pc' := 10) ⟨rfl, rfl⟩ (by omega) ?_
  refine w_putI (pc' := 13) (cl := 10) (q := 31) ⟨rfl, rfl⟩ ⟨rfl, by decide⟩ (zOl hF rfl) ?_
  refine w_ic (pc' := 14) ⟨rfl, rfl⟩ ?_
  refine w_istore_n (pc' := 15) ⟨rfl, rfl⟩ rfl ?_
  rw [show ((x : Int) + 1) % 20 = (((x + 1) % 20 : Nat) : Int) by omega]
  refine w_sto (show (zwI σ 164 31 (iZ (((x + 1) % 20 : Nat) : Int))) = zrL (zwI σ 164 31 (iZ (((x + 1) % 20 : Nat) : Int))) 180 (zcpa (587 * ((x + 1) % 20)) 0 (zL (zwI σ 164 31 (iZ (((x + 1) % 20 : Nat) : Int))) 170) (zL (zwI σ 164 31 (iZ (((x + 1) % 20 : Nat) : Int))) 180)) by rw [zcpa_0, zrL_self]) ?_
  refine w_at (ls2 := [(0, .ref 164), (1, .int (iZ ((0 : Nat) : Int)))]) ⟨rfl, rfl, trivial⟩ (l_keeps (σ := (zwI σ 164 31 (iZ (((x + 1) % 20 : Nat) : Int)))) hF (x := (x + 1) % 20) zI_wI_s (by omega) 587 0 (by omega) ?_)
  have hyu : zI (zwI σ 164 31 (iZ (((x + 1) % 20 : Nat) : Int))) 164 30 = iZ y := (zI_wI_n (Or.inr (by decide))).trans hy
  refine w_aload_n (pc' := 50) ⟨rfl, rfl⟩ rfl ?_
  refine w_getI (pc' := 53) (cl := 10) (q := 30) ⟨rfl, rfl⟩ ⟨rfl, by decide⟩ (zOl hF rfl) hyu ?_
  refine w_bi (pc' := 55) ⟨rfl, rfl⟩ (by decide) ?_
  refine w_ic_ge (pc' := 58) (pcT := 68) ⟨rfl, rfl⟩ rfl (by omega) (by omega) (fun h1 => ?_) (fun h1 => ?_)
  · refine w_return (pc' := 69) ⟨rfl, rfl⟩ ?_
    first
      | (rw [show min (y + 1) 20 = y + 1 by omega] at k; exact k)
      | (rw [show min (y + 1) 20 = y by omega] at k
         exact zQv k (by
           rw [show zwI (zrL (zwI σ 164 31 (iZ (((x + 1) % 20 : Nat) : Int))) 180 (zcpa (587 * ((x + 1) % 20)) 587 (zL σ 170) (zL σ 180))) 164 30 (iZ y) = zrL (zwI σ 164 31 (iZ (((x + 1) % 20 : Nat) : Int))) 180 (zcpa (587 * ((x + 1) % 20)) 587 (zL σ 170) (zL σ 180)) from zwI_same hyu]
           rfl))
  · refine w_aload_n (pc' := 59) ⟨rfl, rfl⟩ rfl ?_
    refine w_dupR (pc' := 60) ⟨rfl, rfl⟩ ?_
    refine w_getI (pc' := 63) (cl := 10) (q := 30) ⟨rfl, rfl⟩ ⟨rfl, by decide⟩ (zOl hF rfl) hyu ?_
    refine w_ic (pc' := 64) ⟨rfl, rfl⟩ ?_
    refine w_iaddZ (pc' := 65) ⟨rfl, rfl⟩ ?_
    refine w_putI (pc' := 68) (cl := 10) (q := 30) ⟨rfl, rfl⟩ ⟨rfl, by decide⟩ (zOl hF rfl) ?_
    refine w_return (pc' := 69) ⟨rfl, rfl⟩ ?_
    first
      | (rw [show min (y + 1) 20 = y + 1 by omega] at k; exact k)
      | (rw [show min (y + 1) 20 = y by omega] at k
         exact zQv k (by
           rw [show zwI (zrL (zwI σ 164 31 (iZ (((x + 1) % 20 : Nat) : Int))) 180 (zcpa (587 * ((x + 1) % 20)) 587 (zL σ 170) (zL σ 180))) 164 30 (iZ y) = zrL (zwI σ 164 31 (iZ (((x + 1) % 20 : Nat) : Int))) 180 (zcpa (587 * ((x + 1) % 20)) 587 (zL σ 170) (zL σ 180)) from zwI_same hyu]
           rfl))
