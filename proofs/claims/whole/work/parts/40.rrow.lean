/-! THE REFERENCE over the cells of a record -/
/-- cells written in the reference's row: of record r, up to cell i of field f; all else as before -/
def zWk (t : zBk) (s r : Nat) (g : Nat → Nat → Int64) (m F : zRw0) (f i : Nat) : Prop := (∀ h j : Nat, (h < f ∧ (j : Int) < zCE t s h) ∨ (h = f ∧ j < i) → F (zpr t s h r j) = g h j) ∧ ∀ q : Nat, (∀ h j : Nat, (h < f ∧ (j : Int) < zCE t s h) ∨ (h = f ∧ j < i) → q ≠ zpr t s h r j) → F q = m q
theorem zpr_b {t : zBk} {s f r j : Nat} (hce : 1 ≤ zCE t s f ∧ zCE t s f ≤ 4) (hr : r < 8) (hj : (j : Int) < zCE t s f) : (zCE t s f).toNat * r + j < 32 := by
  have h1 : (zCE t s f).toNat * r ≤ (zCE t s f).toNat * 7 := Nat.mul_le_mul_left _ (by omega)
  omega
theorem zpr_ne {t : zBk} {s f r j s' f' r' j' : Nat} (h1 : 1 ≤ zCE t s f ∧ zCE t s f ≤ 4) (h2 : 1 ≤ zCE t s' f' ∧ zCE t s' f' ≤ 4) (hr : r < 8) (hr' : r' < 8) (hj : (j : Int) < zCE t s f) (hj' : (j' : Int) < zCE t s' f') (hf : f < 6) (hf' : f' < 6) (h : ¬ (s = s' ∧ f = f' ∧ r = r' ∧ j = j')) : zpr t s f r j ≠ zpr t s' f' r' j' := by
  have b1 := zpr_b h1 hr hj
  have b2 := zpr_b h2 hr' hj'
  intro e
  unfold zpr at e
  have e1 : 6 * s + f = 6 * s' + f' := by omega
  have e2 : s = s' ∧ f = f' := by omega
  obtain ⟨rfl, rfl⟩ := e2
  have e3 : (zCE t s f).toNat * r + j = (zCE t s f).toNat * r' + j' := by omega
  have hc : 0 < (zCE t s f).toNat := by omega
  have e4 : r = r' := by
    have a1 : ((zCE t s f).toNat * r + j) / (zCE t s f).toNat = r := by rw [Nat.mul_add_div hc, Nat.div_eq_of_lt (by omega), Nat.add_zero]
    have a2 : ((zCE t s f).toNat * r' + j') / (zCE t s f).toNat = r' := by rw [Nat.mul_add_div hc, Nat.div_eq_of_lt (by omega), Nat.add_zero]
    rw [← a1, ← a2, e3]
  subst e4
  exact h ⟨rfl, rfl, rfl, by omega⟩
theorem zWk_s {t : zBk} {s r : Nat} (hV : zVs t s) (hr : r < 8) {g : Nat → Nat → Int64} {m F : zRw0} {f i : Nat} (h : zWk t s r g m F f i) (hf : (f : Int) < zNF t s) (hi : (i : Int) < zCE t s f) : zWk t s r g m (va_up F (zpr t s f r i) (g f i)) f (i + 1) := by
  have hn := hV.1
  have hcf := (hV.2 f hf).2
  refine ⟨fun u j hj => ?_, fun q hq => ?_⟩
  · unfold va_up
    by_cases he : u = f ∧ j = i
    · obtain ⟨rfl, rfl⟩ := he
      rw [if_pos rfl]
    · have h2 : (u < f ∧ (j : Int) < zCE t s u) ∨ (u = f ∧ j < i) := by omega
      have hcu : (1 ≤ zCE t s u ∧ zCE t s u ≤ 4) ∧ (j : Int) < zCE t s u := by
        rcases h2 with h2 | ⟨rfl, h2⟩
        · exact ⟨(hV.2 u (by omega)).2, h2.2⟩
        · exact ⟨hcf, by omega⟩
      rw [if_neg (zpr_ne hcu.1 hcf hr hr hcu.2 hi (by omega) (by omega) (by omega))]
      exact h.1 u j h2
  · unfold va_up
    rw [if_neg (hq f i (by omega))]
    exact h.2 q (fun u j hj => hq u j (by omega))
theorem zWk_n {t : zBk} {s r : Nat} {g : Nat → Nat → Int64} {m F : zRw0} {f i : Nat} (h : zWk t s r g m F f i) (hi : (i : Int) = zCE t s f) : zWk t s r g m F (f + 1) 0 := by
  refine ⟨fun u j hj => h.1 u j ?_, fun q hq => h.2 q (fun u j hj => hq u j ?_)⟩
  · rcases hj with hj | hj
    · by_cases hu : u = f
      · subst hu; exact Or.inr ⟨rfl, by omega⟩
      · exact Or.inl ⟨by omega, hj.2⟩
    · omega
  · rcases hj with hj | hj
    · exact Or.inl ⟨by omega, hj.2⟩
    · exact Or.inl ⟨by omega, by rw [hj.1]; omega⟩
theorem zWk_0 {t : zBk} {s r : Nat} {g : Nat → Nat → Int64} {m : zRw0} : zWk t s r g m m 0 0 := ⟨fun u j hj => by omega, fun q _ => rfl⟩
def zWr (t : zBk) (s r : Nat) (g : Nat → Nat → Int64) (m F : zRw0) : Prop := zWk t s r g m F (zNF t s).toNat 0
/-- four places a field -/
def zSk (t : zBk) (s : Nat) (g : Nat → Nat → Int64) (F : zRw0) (f i : Nat) : Prop := ∀ h j : Nat, (h < f ∧ (j : Int) < zCE t s h) ∨ (h = f ∧ j < i) → F (4 * h + j) = g h j
def zSv (t : zBk) (s : Nat) (g : Nat → Nat → Int64) (F : zRw0) : Prop := zSk t s g F (zNF t s).toNat 0
theorem zSk_s {t : zBk} {s : Nat} (hV : zVs t s) {g : Nat → Nat → Int64} {F : zRw0} {f i : Nat} (h : zSk t s g F f i) (hf : (f : Int) < zNF t s) (hi : (i : Int) < zCE t s f) : zSk t s g (va_up F (4 * f + i) (g f i)) f (i + 1) := by
  have hcf := (hV.2 f hf).2
  intro u j hj
  unfold va_up
  by_cases he : u = f ∧ j = i
  · obtain ⟨rfl, rfl⟩ := he
    rw [if_pos rfl]
  · have h2 : (u < f ∧ (j : Int) < zCE t s u) ∨ (u = f ∧ j < i) := by omega
    have hcu : (j : Int) < 4 := by
      rcases h2 with h2 | ⟨rfl, h2⟩
      · have := (hV.2 u (by omega)).2; omega
      · omega
    rw [if_neg (by omega)]
    exact h u j h2
theorem zSk_n {t : zBk} {s : Nat} {g : Nat → Nat → Int64} {F : zRw0} {f i : Nat} (h : zSk t s g F f i) (hi : (i : Int) = zCE t s f) : zSk t s g F (f + 1) 0 := by
  intro u j hj
  refine h u j ?_
  rcases hj with hj | hj
  · by_cases hu : u = f
    · subst hu; exact Or.inr ⟨rfl, by omega⟩
    · exact Or.inl ⟨by omega, hj.2⟩
  · omega
theorem zSk_0 {t : zBk} {s : Nat} {g : Nat → Nat → Int64} {F : zRw0} : zSk t s g F 0 0 := fun u j hj => by omega
theorem l_lay2 {σ : zSt} {t : zBk} {s : Nat} (hF : zFx σ) (hT : zTr σ t) (hV : zVs t s) (hs : s < 3) {r : Nat} (hr : r < 8) {f : Nat} (hf : (f : Int) < zNF t s) {Q : zSt → Option Value → Prop} : ∀ (j : Nat) (i : Nat) (F : zRw0), ((i : Int) + j = zCE t s f) → zWk t s r (fun _ _ => lZ 0) (zL σ 170) F f i →  (∀ (F : zRw0), zWk t s r (fun _ _ => lZ 0) (zL σ 170) F (f + 1) 0 → zP zk_X12_laysRecord 53 [(0, .ref 164), (1, .int (iZ s)), (2, .int (iZ r)), (3, .int (iZ f))] [] (zrL σ 170 F) Q) → zP zk_X12_laysRecord 14 [(0, .ref 164), (1, .int (iZ s)), (2, .int (iZ r)), (3, .int (iZ f)), (4, .int (iZ i))] [] (zrL σ 170 F) Q := by
  intro j
  induction j with
  | zero =>
    intro i F hi hI k
    have hce := (hV.2 f hf).2
    have hn := hV.1
    refine w_iload (pc' := 16) ⟨rfl, rfl⟩ rfl ?_
    refine w_aload_n (pc' := 17) ⟨rfl, rfl⟩ rfl ?_
    refine w_iload_n (pc' := 18) ⟨rfl, rfl⟩ rfl ?_
    refine w_iload_n (pc' := 19) ⟨rfl, rfl⟩ rfl ?_
    refine w_cv3 (pc' := 22) ⟨rfl, rfl⟩ (by decide) (zOl hF rfl) (Nat.le_of_ble_eq_true rfl) (Nat.le_of_ble_eq_true rfl) (r_cellsOf (σ := (zrL σ 170 F)) hF hT hs (by omega) ?_)
    refine w_icT_ge (pc' := 25) (pcT := 53) ⟨rfl, rfl⟩ rfl (by omega) ?_
    refine w_at ?_ (k F (zWk_n hI (by omega)))
    exact ⟨rfl, rfl, rfl, rfl, trivial⟩
  | succ j ih =>
    intro i F hi hI k
    have hce := (hV.2 f hf).2
    have hn := hV.1
    refine w_iload (pc' := 16) ⟨rfl, rfl⟩ rfl ?_
    refine w_aload_n (pc' := 17) ⟨rfl, rfl⟩ rfl ?_
    refine w_iload_n (pc' := 18) ⟨rfl, rfl⟩ rfl ?_
    refine w_iload_n (pc' := 19) ⟨rfl, rfl⟩ rfl ?_
    refine w_cv3 (pc' := 22) ⟨rfl, rfl⟩ (by decide) (zOl hF rfl) (Nat.le_of_ble_eq_true rfl) (Nat.le_of_ble_eq_true rfl) (r_cellsOf (σ := (zrL σ 170 F)) hF hT hs (by omega) ?_)
    refine w_icF_ge (pc' := 25) ⟨rfl, rfl⟩ (by omega) ?_
    have hmm := Int.toNat_of_nonneg (show 0 ≤ zCE t s f by omega)
    have hpb := zpr_b hce hr (show (i : Int) < zCE t s f by omega)
    have hm1 : ((zCE t s f).toNat * r : Nat) = ((zCE t s f).toNat : Int) * r := by norm_cast
    rw [hmm] at hm1
    refine w_aload_n (pc' := 26) ⟨rfl, rfl⟩ rfl ?_
    refine w_getR (pc' := 29) (cl := 10) (q := 16) ⟨rfl, rfl⟩ ⟨rfl, by decide⟩ (zOl hF rfl) (hF.2 164 16 170 rfl) ?_
    refine w_iload_n (pc' := 30) ⟨rfl, rfl⟩ rfl ?_
    refine w_iload_n (pc' := 31) ⟨rfl, rfl⟩ rfl ?_
    refine w_aload_n (pc' := 32) ⟨rfl, rfl⟩ rfl ?_
    refine w_iload_n (pc' := 33) ⟨rfl, rfl⟩ rfl ?_
    refine w_iload_n (pc' := 34) ⟨rfl, rfl⟩ rfl ?_
    refine w_cv3 (pc' := 37) ⟨rfl, rfl⟩ (by decide) (zOl hF rfl) (Nat.le_of_ble_eq_true rfl) (Nat.le_of_ble_eq_true rfl) (r_cellsOf (σ := (zrL σ 170 F)) hF hT hs (by omega) ?_)
    refine w_iload_n (pc' := 38) ⟨rfl, rfl⟩ rfl ?_
    refine w_imulZ (pc' := 39) ⟨rfl, rfl⟩ ?_
    refine w_iload (pc' := 41) ⟨rfl, rfl⟩ rfl ?_
    refine w_iaddZ (pc' := 42) ⟨rfl, rfl⟩ ?_
    refine w_cs3 (pc' := 45) ⟨rfl, rfl⟩ (by decide) (Nat.le_of_ble_eq_true rfl) (Nat.le_of_ble_eq_true rfl) (r_placeAt ?_)
    refine w_lc (pc' := 46) (z := 0) ⟨rfl, rfl⟩ rfl ?_
    refine w_last (pc' := 47) ⟨rfl, rfl⟩ (zAl (zFx_rL hF) rfl) (zixA (j := zpr t s f r i) (by unfold zpr; omega)) ?_
    refine w_iincZ (pc' := 50) ⟨rfl, rfl⟩ rfl rfl ?_
    refine w_goto (pc' := 53) (pcT := 14) ⟨rfl, rfl⟩ rfl ?_
    refine w_sto zwL_rL ?_
    refine w_at ?_ (ih (i + 1) _ (by omega) (zWk_s hV hr hI hf (by omega)) k)
    exact ⟨rfl, rfl, rfl, rfl, rfl, trivial⟩
theorem l_lay1 {σ : zSt} {t : zBk} {s : Nat} (hF : zFx σ) (hT : zTr σ t) (hV : zVs t s) (hs : s < 3) {r : Nat} (hr : r < 8) {Q : zSt → Option Value → Prop} : ∀ (j : Nat) (f : Nat) (F : zRw0), ((f : Int) + j = zNF t s) → zWk t s r (fun _ _ => lZ 0) (zL σ 170) F f 0 →  (∀ F, zWr t s r (fun _ _ => lZ 0) (zL σ 170) F → Q (zrL σ 170 F) none) → zP zk_X12_laysRecord 2 [(0, .ref 164), (1, .int (iZ s)), (2, .int (iZ r)), (3, .int (iZ f))] [] (zrL σ 170 F) Q := by
  intro j
  induction j with
  | zero =>
    intro f F hj hI k
    have hn := hV.1
    obtain rfl : f = (zNF t s).toNat := by omega
    refine w_iload_n (pc' := 3) ⟨rfl, rfl⟩ rfl ?_
    refine w_aload_n (pc' := 4) ⟨rfl, rfl⟩ rfl ?_
    refine w_iload_n (pc' := 5) ⟨rfl, rfl⟩ rfl ?_
    refine w_cv2 (pc' := 8) ⟨rfl, rfl⟩ (by decide) (zOl hF rfl) (Nat.le_of_ble_eq_true rfl) (Nat.le_of_ble_eq_true rfl) (r_fieldMany (σ := (zrL σ 170 F)) hF hT hs ?_)
    refine w_icT_ge (pc' := 11) (pcT := 59) ⟨rfl, rfl⟩ rfl (by omega) ?_
    refine w_return (pc' := 60) ⟨rfl, rfl⟩ ?_
    exact k F hI
  | succ j ih =>
    intro f F hj hI k
    have hn := hV.1
    have hf : (f : Int) < zNF t s := by omega
    have hce := (hV.2 f hf).2
    refine w_iload_n (pc' := 3) ⟨rfl, rfl⟩ rfl ?_
    refine w_aload_n (pc' := 4) ⟨rfl, rfl⟩ rfl ?_
    refine w_iload_n (pc' := 5) ⟨rfl, rfl⟩ rfl ?_
    refine w_cv2 (pc' := 8) ⟨rfl, rfl⟩ (by decide) (zOl hF rfl) (Nat.le_of_ble_eq_true rfl) (Nat.le_of_ble_eq_true rfl) (r_fieldMany (σ := (zrL σ 170 F)) hF hT hs ?_)
    refine w_icF_ge (pc' := 11) ⟨rfl, rfl⟩ (by omega) ?_
    refine w_ic (pc' := 12) ⟨rfl, rfl⟩ ?_
    refine w_istore (pc' := 14) ⟨rfl, rfl⟩ rfl ?_
    refine w_at (ls2 := [(0, .ref 164), (1, .int (iZ s)), (2, .int (iZ r)), (3, .int (iZ f)), (4, .int (iZ ((0 : Nat) : Int)))]) ⟨rfl, rfl, rfl, rfl, rfl, trivial⟩ (l_lay2 hF hT hV hs hr hf (zCE t s f).toNat 0 F (by omega) hI (fun F hI => ?_))
    refine w_iincZ (pc' := 56) ⟨rfl, rfl⟩ rfl rfl ?_
    refine w_goto (pc' := 59) (pcT := 2) ⟨rfl, rfl⟩ rfl ?_
    refine w_at ?_ (ih (f + 1) F (by omega) hI k)
    exact ⟨rfl, rfl, rfl, rfl, trivial⟩
theorem r_laysRecord {σ : zSt} {t : zBk} {s : Nat} (hF : zFx σ) (hT : zTr σ t) (hV : zVs t s) (hs : s < 3) {r : Nat} (hr : r < 8) {Q : zSt → Option Value → Prop} (k : ∀ F, zWr t s r (fun _ _ => lZ 0) (zL σ 170) F → Q (zrL σ 170 F) none) : zCa 268 [.ref 164, .int (iZ s), .int (iZ r)] σ Q := by
  refine w_enter (c := zk_X12_laysRecord) (ls2 := [(0, .ref 164), (1, .int (iZ s)), (2, .int (iZ r))]) rfl ⟨rfl, rfl, rfl, trivial⟩ ?_
  have hn := hV.1
  refine w_ic (pc' := 1) ⟨rfl, rfl⟩ ?_
  refine w_istore_n (pc' := 2) ⟨rfl, rfl⟩ rfl ?_
  refine w_sto (zrL_self (o := 170)).symm ?_
  refine w_at ?_ (l_lay1 hF hT hV hs hr (zNF t s).toNat 0 _ (by omega) zWk_0 k)
  exact ⟨rfl, rfl, rfl, rfl, trivial⟩
theorem r_makes {σ : zSt} {t : zBk} {s : Nat} (hF : zFx σ) (hT : zTr σ t) (hV : zVs t s) (hs : s < 3) {c : Nat → Int} (hC : zCm σ c) {n : Nat} (hcs : c s = n) (hn : n < 8) {Q : zSt → Option Value → Prop} (k : ∀ F, zWr t s n (fun _ _ => lZ 0) (zL σ 170) F → Q (zrL σ 170 (va_up F s (lZ (n + 1)))) (some (.int (iZ n)))) : zCa 271 [.ref 164, .int (iZ s)] σ Q := by
  refine w_enter (c := zk_X12_makes) (ls2 := [(0, .ref 164), (1, .int (iZ s))]) rfl ⟨rfl, rfl, trivial⟩ ?_
  refine w_aload_n (pc' := 1) ⟨rfl, rfl⟩ rfl ?_
  refine w_iload_n (pc' := 2) ⟨rfl, rfl⟩ rfl ?_
  refine w_cv2 (pc' := 5) ⟨rfl, rfl⟩ (by decide) (zOl hF rfl) (Nat.le_of_ble_eq_true rfl) (Nat.le_of_ble_eq_true rfl) (r_recordMany hF hC (by omega) ?_)
  rw [hcs]
  refine w_istore_n (pc' := 6) ⟨rfl, rfl⟩ rfl ?_
  refine w_aload_n (pc' := 7) ⟨rfl, rfl⟩ rfl ?_
  refine w_iload_n (pc' := 8) ⟨rfl, rfl⟩ rfl ?_
  refine w_iload_n (pc' := 9) ⟨rfl, rfl⟩ rfl ?_
  refine w_cv3 (pc' := 12) ⟨rfl, rfl⟩ (by decide) (zOl hF rfl) (Nat.le_of_ble_eq_true rfl) (Nat.le_of_ble_eq_true rfl) (r_laysRecord hF hT hV hs (by omega) (fun F hW => ?_))
  refine w_aload_n (pc' := 13) ⟨rfl, rfl⟩ rfl ?_
  refine w_getR (pc' := 16) (cl := 10) (q := 16) ⟨rfl, rfl⟩ ⟨rfl, by decide⟩ (zOl hF rfl) (hF.2 164 16 170 rfl) ?_
  refine w_iload_n (pc' := 17) ⟨rfl, rfl⟩ rfl ?_
  refine w_dup2 (pc' := 18) ⟨rfl, rfl⟩ ?_
  refine w_lald (pc' := 19) ⟨rfl, rfl⟩ (zAl (zFx_rL hF) rfl) (zixZ (by omega)) (show zL (zrL σ 170 F) 170 s = lZ n by rw [zL_rLs, hW.2 s (fun h j _ => by unfold zpr; omega), (hC s hs).1, hcs]) ?_
  refine w_lc (pc' := 20) (z := 1) ⟨rfl, rfl⟩ rfl ?_
  refine w_laddY (pc' := 21) ⟨rfl, rfl⟩ ?_
  refine w_last (pc' := 22) ⟨rfl, rfl⟩ (zAl (zFx_rL hF) rfl) (zixZ (by omega)) ?_
  refine w_sto zwL_rL ?_
  refine w_iload_n (pc' := 23) ⟨rfl, rfl⟩ rfl ?_
  refine w_ireturn (pc' := 24) ⟨rfl, rfl⟩ (Or.inl rfl) ?_
  exact k F hW
theorem l_cpy2 {σ : zSt} {t : zBk} {s : Nat} (hF : zFx σ) (hT : zTr σ t) (hV : zVs t s) (hs : s < 3) {u r : Nat} (hu : u < 8) (hr : r < 8) (hur : u ≠ r) {f : Nat} (hf : (f : Int) < zNF t s) {Q : zSt → Option Value → Prop} : ∀ (j : Nat) (i : Nat) (F : zRw0), ((i : Int) + j = zCE t s f) → zWk t s r (fun f i => zL σ 170 (zpr t s f u i)) (zL σ 170) F f i →  (∀ (F : zRw0), zWk t s r (fun f i => zL σ 170 (zpr t s f u i)) (zL σ 170) F (f + 1) 0 → zP zk_X12_copiesRecord 67 [(0, .ref 164), (1, .int (iZ s)), (2, .int (iZ u)), (3, .int (iZ r)), (4, .int (iZ f))] [] (zrL σ 170 F) Q) → zP zk_X12_copiesRecord 16 [(0, .ref 164), (1, .int (iZ s)), (2, .int (iZ u)), (3, .int (iZ r)), (4, .int (iZ f)), (5, .int (iZ i))] [] (zrL σ 170 F) Q := by
  intro j
  induction j with
  | zero =>
    intro i F hi hI k
    have hce := (hV.2 f hf).2
    have hn := hV.1
    refine w_iload (pc' := 18) ⟨rfl, rfl⟩ rfl ?_
    refine w_aload_n (pc' := 19) ⟨rfl, rfl⟩ rfl ?_
    refine w_iload_n (pc' := 20) ⟨rfl, rfl⟩ rfl ?_
    refine w_iload (pc' := 22) ⟨rfl, rfl⟩ rfl ?_
    refine w_cv3 (pc' := 25) ⟨rfl, rfl⟩ (by decide) (zOl hF rfl) (Nat.le_of_ble_eq_true rfl) (Nat.le_of_ble_eq_true rfl) (r_cellsOf (σ := (zrL σ 170 F)) hF hT hs (by omega) ?_)
    refine w_icT_ge (pc' := 28) (pcT := 67) ⟨rfl, rfl⟩ rfl (by omega) ?_
    refine w_at ?_ (k F (zWk_n hI (by omega)))
    exact ⟨rfl, rfl, rfl, rfl, rfl, trivial⟩
  | succ j ih =>
    intro i F hi hI k
    have hce := (hV.2 f hf).2
    have hn := hV.1
    refine w_iload (pc' := 18) ⟨rfl, rfl⟩ rfl ?_
    refine w_aload_n (pc' := 19) ⟨rfl, rfl⟩ rfl ?_
    refine w_iload_n (pc' := 20) ⟨rfl, rfl⟩ rfl ?_
    refine w_iload (pc' := 22) ⟨rfl, rfl⟩ rfl ?_
    refine w_cv3 (pc' := 25) ⟨rfl, rfl⟩ (by decide) (zOl hF rfl) (Nat.le_of_ble_eq_true rfl) (Nat.le_of_ble_eq_true rfl) (r_cellsOf (σ := (zrL σ 170 F)) hF hT hs (by omega) ?_)
    refine w_icF_ge (pc' := 28) ⟨rfl, rfl⟩ (by omega) ?_
    have hmm := Int.toNat_of_nonneg (show 0 ≤ zCE t s f by omega)
    have hpb := zpr_b hce hr (show (i : Int) < zCE t s f by omega)
    have hm1 : ((zCE t s f).toNat * r : Nat) = ((zCE t s f).toNat : Int) * r := by norm_cast
    rw [hmm] at hm1
    refine w_aload_n (pc' := 29) ⟨rfl, rfl⟩ rfl ?_
    refine w_getR (pc' := 32) (cl := 10) (q := 16) ⟨rfl, rfl⟩ ⟨rfl, by decide⟩ (zOl hF rfl) (hF.2 164 16 170 rfl) ?_
    refine w_iload_n (pc' := 33) ⟨rfl, rfl⟩ rfl ?_
    refine w_iload (pc' := 35) ⟨rfl, rfl⟩ rfl ?_
    refine w_aload_n (pc' := 36) ⟨rfl, rfl⟩ rfl ?_
    refine w_iload_n (pc' := 37) ⟨rfl, rfl⟩ rfl ?_
    refine w_iload (pc' := 39) ⟨rfl, rfl⟩ rfl ?_
    refine w_cv3 (pc' := 42) ⟨rfl, rfl⟩ (by decide) (zOl hF rfl) (Nat.le_of_ble_eq_true rfl) (Nat.le_of_ble_eq_true rfl) (r_cellsOf (σ := (zrL σ 170 F)) hF hT hs (by omega) ?_)
    refine w_iload_n (pc' := 43) ⟨rfl, rfl⟩ rfl ?_
    refine w_imulZ (pc' := 44) ⟨rfl, rfl⟩ ?_
    refine w_iload (pc' := 46) ⟨rfl, rfl⟩ rfl ?_
    refine w_iaddZ (pc' := 47) ⟨rfl, rfl⟩ ?_
    refine w_cs3 (pc' := 50) ⟨rfl, rfl⟩ (by decide) (Nat.le_of_ble_eq_true rfl) (Nat.le_of_ble_eq_true rfl) (r_placeAt ?_)
    refine w_aload_n (pc' := 51) ⟨rfl, rfl⟩ rfl ?_
    refine w_iload_n (pc' := 52) ⟨rfl, rfl⟩ rfl ?_
    refine w_iload (pc' := 54) ⟨rfl, rfl⟩ rfl ?_
    refine w_iload_n (pc' := 55) ⟨rfl, rfl⟩ rfl ?_
    refine w_iload (pc' := 57) ⟨rfl, rfl⟩ rfl ?_
    have hrd : F (zpr t s f u i) = zL σ 170 (zpr t s f u i) := by
      refine hI.2 _ (fun h j hj => ?_)
      have hcu : (1 ≤ zCE t s h ∧ zCE t s h ≤ 4) ∧ (j : Int) < zCE t s h ∧ h < 6 := by
        rcases hj with hj | ⟨hj1, hj2⟩
        · exact ⟨(hV.2 h (by omega)).2, hj.2, by omega⟩
        · rw [hj1]; exact ⟨hce, by omega, by omega⟩
      exact zpr_ne hce hcu.1 hu hr (by omega) hcu.2.1 (by omega) hcu.2.2 (by omega)
    refine w_cv5 (pc' := 60) ⟨rfl, rfl⟩ (by decide) (zOl hF rfl) (Nat.le_of_ble_eq_true rfl) (Nat.le_of_ble_eq_true rfl) (r_cellAt (σ := (zrL σ 170 F)) hF hT hs (by omega) hu hce (by omega) ?_)
    rw [zL_rLs, hrd]
    refine w_last (pc' := 61) ⟨rfl, rfl⟩ (zAl (zFx_rL hF) rfl) (zixA (j := zpr t s f r i) (by unfold zpr; omega)) ?_
    refine w_iincZ (pc' := 64) ⟨rfl, rfl⟩ rfl rfl ?_
    refine w_goto (pc' := 67) (pcT := 16) ⟨rfl, rfl⟩ rfl ?_
    refine w_sto zwL_rL ?_
    refine w_at ?_ (ih (i + 1) _ (by omega) (zWk_s hV hr hI hf (by omega)) k)
    exact ⟨rfl, rfl, rfl, rfl, rfl, rfl, trivial⟩
theorem l_cpy1 {σ : zSt} {t : zBk} {s : Nat} (hF : zFx σ) (hT : zTr σ t) (hV : zVs t s) (hs : s < 3) {u r : Nat} (hu : u < 8) (hr : r < 8) (hur : u ≠ r) {Q : zSt → Option Value → Prop} : ∀ (j : Nat) (f : Nat) (F : zRw0), ((f : Int) + j = zNF t s) → zWk t s r (fun f i => zL σ 170 (zpr t s f u i)) (zL σ 170) F f 0 →  (∀ F, zWr t s r (fun f i => zL σ 170 (zpr t s f u i)) (zL σ 170) F → Q (zrL σ 170 F) none) → zP zk_X12_copiesRecord 3 [(0, .ref 164), (1, .int (iZ s)), (2, .int (iZ u)), (3, .int (iZ r)), (4, .int (iZ f))] [] (zrL σ 170 F) Q := by
  intro j
  induction j with
  | zero =>
    intro f F hj hI k
    have hn := hV.1
    obtain rfl : f = (zNF t s).toNat := by omega
    refine w_iload (pc' := 5) ⟨rfl, rfl⟩ rfl ?_
    refine w_aload_n (pc' := 6) ⟨rfl, rfl⟩ rfl ?_
    refine w_iload_n (pc' := 7) ⟨rfl, rfl⟩ rfl ?_
    refine w_cv2 (pc' := 10) ⟨rfl, rfl⟩ (by decide) (zOl hF rfl) (Nat.le_of_ble_eq_true rfl) (Nat.le_of_ble_eq_true rfl) (r_fieldMany (σ := (zrL σ 170 F)) hF hT hs ?_)
    refine w_icT_ge (pc' := 13) (pcT := 73) ⟨rfl, rfl⟩ rfl (by omega) ?_
    refine w_return (pc' := 74) ⟨rfl, rfl⟩ ?_
    exact k F hI
  | succ j ih =>
    intro f F hj hI k
    have hn := hV.1
    have hf : (f : Int) < zNF t s := by omega
    have hce := (hV.2 f hf).2
    refine w_iload (pc' := 5) ⟨rfl, rfl⟩ rfl ?_
    refine w_aload_n (pc' := 6) ⟨rfl, rfl⟩ rfl ?_
    refine w_iload_n (pc' := 7) ⟨rfl, rfl⟩ rfl ?_
    refine w_cv2 (pc' := 10) ⟨rfl, rfl⟩ (by decide) (zOl hF rfl) (Nat.le_of_ble_eq_true rfl) (Nat.le_of_ble_eq_true rfl) (r_fieldMany (σ := (zrL σ 170 F)) hF hT hs ?_)
    refine w_icF_ge (pc' := 13) ⟨rfl, rfl⟩ (by omega) ?_
    refine w_ic (pc' := 14) ⟨rfl, rfl⟩ ?_
    refine w_istore (pc' := 16) ⟨rfl, rfl⟩ rfl ?_
    refine w_at (ls2 := [(0, .ref 164), (1, .int (iZ s)), (2, .int (iZ u)), (3, .int (iZ r)), (4, .int (iZ f)), (5, .int (iZ ((0 : Nat) : Int)))]) ⟨rfl, rfl, rfl, rfl, rfl, rfl, trivial⟩ (l_cpy2 hF hT hV hs hu hr hur hf (zCE t s f).toNat 0 F (by omega) hI (fun F hI => ?_))
    refine w_iincZ (pc' := 70) ⟨rfl, rfl⟩ rfl rfl ?_
    refine w_goto (pc' := 73) (pcT := 3) ⟨rfl, rfl⟩ rfl ?_
    refine w_at ?_ (ih (f + 1) F (by omega) hI k)
    exact ⟨rfl, rfl, rfl, rfl, rfl, trivial⟩
theorem r_copiesRecord {σ : zSt} {t : zBk} {s : Nat} (hF : zFx σ) (hT : zTr σ t) (hV : zVs t s) (hs : s < 3) {u r : Nat} (hu : u < 8) (hr : r < 8) (hur : u ≠ r) {Q : zSt → Option Value → Prop} (k : ∀ F, zWr t s r (fun f i => zL σ 170 (zpr t s f u i)) (zL σ 170) F → Q (zrL σ 170 F) none) : zCa 269 [.ref 164, .int (iZ s), .int (iZ u), .int (iZ r)] σ Q := by
  refine w_enter (c := zk_X12_copiesRecord) (ls2 := [(0, .ref 164), (1, .int (iZ s)), (2, .int (iZ u)), (3, .int (iZ r))]) rfl ⟨rfl, rfl, rfl, rfl, trivial⟩ ?_
  have hn := hV.1
  refine w_ic (pc' := 1) ⟨rfl, rfl⟩ ?_
  refine w_istore (pc' := 3) ⟨rfl, rfl⟩ rfl ?_
  refine w_sto (zrL_self (o := 170)).symm ?_
  refine w_at ?_ (l_cpy1 hF hT hV hs hu hr hur (zNF t s).toNat 0 _ (by omega) zWk_0 k)
  exact ⟨rfl, rfl, rfl, rfl, rfl, trivial⟩
theorem l_tkr2 {σ : zSt} {t : zBk} {s : Nat} (hF : zFx σ) (hT : zTr σ t) (hV : zVs t s) (hs : s < 3) {r : Nat} (hr : r < 8) {f : Nat} (hf : (f : Int) < zNF t s) {Q : zSt → Option Value → Prop} : ∀ (j : Nat) (i : Nat) (F : zRw0), ((i : Int) + j = zCE t s f) → zSk t s (fun f i => zvl (zKD t s f) (zL σ 170 (zpr t s f r i))) F f i →  (∀ (F : zRw0), zSk t s (fun f i => zvl (zKD t s f) (zL σ 170 (zpr t s f r i))) F (f + 1) 0 → zP zk_X12_takesRecord 51 [(0, .ref 164), (1, .int (iZ s)), (2, .int (iZ r)), (3, .int (iZ f))] [] (zrL σ 172 F) Q) → zP zk_X12_takesRecord 14 [(0, .ref 164), (1, .int (iZ s)), (2, .int (iZ r)), (3, .int (iZ f)), (4, .int (iZ i))] [] (zrL σ 172 F) Q := by
  intro j
  induction j with
  | zero =>
    intro i F hi hI k
    have hce := (hV.2 f hf).2
    have hn := hV.1
    refine w_iload (pc' := 16) ⟨rfl, rfl⟩ rfl ?_
    refine w_aload_n (pc' := 17) ⟨rfl, rfl⟩ rfl ?_
    refine w_iload_n (pc' := 18) ⟨rfl, rfl⟩ rfl ?_
    refine w_iload_n (pc' := 19) ⟨rfl, rfl⟩ rfl ?_
    refine w_cv3 (pc' := 22) ⟨rfl, rfl⟩ (by decide) (zOl hF rfl) (Nat.le_of_ble_eq_true rfl) (Nat.le_of_ble_eq_true rfl) (r_cellsOf (σ := (zrL σ 172 F)) hF hT hs (by omega) ?_)
    refine w_icT_ge (pc' := 25) (pcT := 51) ⟨rfl, rfl⟩ rfl (by omega) ?_
    refine w_at ?_ (k F (zSk_n hI (by omega)))
    exact ⟨rfl, rfl, rfl, rfl, trivial⟩
  | succ j ih =>
    intro i F hi hI k
    have hce := (hV.2 f hf).2
    have hn := hV.1
    refine w_iload (pc' := 16) ⟨rfl, rfl⟩ rfl ?_
    refine w_aload_n (pc' := 17) ⟨rfl, rfl⟩ rfl ?_
    refine w_iload_n (pc' := 18) ⟨rfl, rfl⟩ rfl ?_
    refine w_iload_n (pc' := 19) ⟨rfl, rfl⟩ rfl ?_
    refine w_cv3 (pc' := 22) ⟨rfl, rfl⟩ (by decide) (zOl hF rfl) (Nat.le_of_ble_eq_true rfl) (Nat.le_of_ble_eq_true rfl) (r_cellsOf (σ := (zrL σ 172 F)) hF hT hs (by omega) ?_)
    refine w_icF_ge (pc' := 25) ⟨rfl, rfl⟩ (by omega) ?_
    refine w_aload_n (pc' := 26) ⟨rfl, rfl⟩ rfl ?_
    refine w_getR (pc' := 29) (cl := 10) (q := 20) ⟨rfl, rfl⟩ ⟨rfl, by decide⟩ (zOl hF rfl) (hF.2 164 20 172 rfl) ?_
    refine w_ic (pc' := 30) ⟨rfl, rfl⟩ ?_
    refine w_iload_n (pc' := 31) ⟨rfl, rfl⟩ rfl ?_
    refine w_imulZ (pc' := 32) ⟨rfl, rfl⟩ ?_
    refine w_iload (pc' := 34) ⟨rfl, rfl⟩ rfl ?_
    refine w_iaddZ (pc' := 35) ⟨rfl, rfl⟩ ?_
    refine w_aload_n (pc' := 36) ⟨rfl, rfl⟩ rfl ?_
    refine w_iload_n (pc' := 37) ⟨rfl, rfl⟩ rfl ?_
    refine w_iload_n (pc' := 38) ⟨rfl, rfl⟩ rfl ?_
    refine w_iload_n (pc' := 39) ⟨rfl, rfl⟩ rfl ?_
    refine w_iload (pc' := 41) ⟨rfl, rfl⟩ rfl ?_
    refine w_cv5 (pc' := 44) ⟨rfl, rfl⟩ (by decide) (zOl hF rfl) (Nat.le_of_ble_eq_true rfl) (Nat.le_of_ble_eq_true rfl) (r_valueAt (σ := (zrL σ 172 F)) hF hT hs (by omega) hr hce (by omega) (hV.2 f hf).1 ?_)
    rw [zL_rLn (show 170 ≠ 172 by decide)]
    refine w_last (pc' := 45) ⟨rfl, rfl⟩ (zAl (zFx_rL hF) rfl) (zixA (j := 4 * f + i) (by omega)) ?_
    refine w_iincZ (pc' := 48) ⟨rfl, rfl⟩ rfl rfl ?_
    refine w_goto (pc' := 51) (pcT := 14) ⟨rfl, rfl⟩ rfl ?_
    refine w_sto zwL_rL ?_
    refine w_at ?_ (ih (i + 1) _ (by omega) (zSk_s hV hI hf (by omega)) k)
    exact ⟨rfl, rfl, rfl, rfl, rfl, trivial⟩
theorem l_tkr1 {σ : zSt} {t : zBk} {s : Nat} (hF : zFx σ) (hT : zTr σ t) (hV : zVs t s) (hs : s < 3) {r : Nat} (hr : r < 8) {Q : zSt → Option Value → Prop} : ∀ (j : Nat) (f : Nat) (F : zRw0), ((f : Int) + j = zNF t s) → zSk t s (fun f i => zvl (zKD t s f) (zL σ 170 (zpr t s f r i))) F f 0 →  (∀ F, zSv t s (fun f i => zvl (zKD t s f) (zL σ 170 (zpr t s f r i))) F → Q (zrL σ 172 F) none) → zP zk_X12_takesRecord 2 [(0, .ref 164), (1, .int (iZ s)), (2, .int (iZ r)), (3, .int (iZ f))] [] (zrL σ 172 F) Q := by
  intro j
  induction j with
  | zero =>
    intro f F hj hI k
    have hn := hV.1
    obtain rfl : f = (zNF t s).toNat := by omega
    refine w_iload_n (pc' := 3) ⟨rfl, rfl⟩ rfl ?_
    refine w_aload_n (pc' := 4) ⟨rfl, rfl⟩ rfl ?_
    refine w_iload_n (pc' := 5) ⟨rfl, rfl⟩ rfl ?_
    refine w_cv2 (pc' := 8) ⟨rfl, rfl⟩ (by decide) (zOl hF rfl) (Nat.le_of_ble_eq_true rfl) (Nat.le_of_ble_eq_true rfl) (r_fieldMany (σ := (zrL σ 172 F)) hF hT hs ?_)
    refine w_icT_ge (pc' := 11) (pcT := 57) ⟨rfl, rfl⟩ rfl (by omega) ?_
    refine w_return (pc' := 58) ⟨rfl, rfl⟩ ?_
    exact k F hI
  | succ j ih =>
    intro f F hj hI k
    have hn := hV.1
    have hf : (f : Int) < zNF t s := by omega
    have hce := (hV.2 f hf).2
    refine w_iload_n (pc' := 3) ⟨rfl, rfl⟩ rfl ?_
    refine w_aload_n (pc' := 4) ⟨rfl, rfl⟩ rfl ?_
    refine w_iload_n (pc' := 5) ⟨rfl, rfl⟩ rfl ?_
    refine w_cv2 (pc' := 8) ⟨rfl, rfl⟩ (by decide) (zOl hF rfl) (Nat.le_of_ble_eq_true rfl) (Nat.le_of_ble_eq_true rfl) (r_fieldMany (σ := (zrL σ 172 F)) hF hT hs ?_)
    refine w_icF_ge (pc' := 11) ⟨rfl, rfl⟩ (by omega) ?_
    refine w_ic (pc' := 12) ⟨rfl, rfl⟩ ?_
    refine w_istore (pc' := 14) ⟨rfl, rfl⟩ rfl ?_
    refine w_at (ls2 := [(0, .ref 164), (1, .int (iZ s)), (2, .int (iZ r)), (3, .int (iZ f)), (4, .int (iZ ((0 : Nat) : Int)))]) ⟨rfl, rfl, rfl, rfl, rfl, trivial⟩ (l_tkr2 hF hT hV hs hr hf (zCE t s f).toNat 0 F (by omega) hI (fun F hI => ?_))
    refine w_iincZ (pc' := 54) ⟨rfl, rfl⟩ rfl rfl ?_
    refine w_goto (pc' := 57) (pcT := 2) ⟨rfl, rfl⟩ rfl ?_
    refine w_at ?_ (ih (f + 1) F (by omega) hI k)
    exact ⟨rfl, rfl, rfl, rfl, trivial⟩
theorem r_takesRecord {σ : zSt} {t : zBk} {s : Nat} (hF : zFx σ) (hT : zTr σ t) (hV : zVs t s) (hs : s < 3) {r : Nat} (hr : r < 8) {Q : zSt → Option Value → Prop} (k : ∀ F, zSv t s (fun f i => zvl (zKD t s f) (zL σ 170 (zpr t s f r i))) F → Q (zrL σ 172 F) none) : zCa 277 [.ref 164, .int (iZ s), .int (iZ r)] σ Q := by
  refine w_enter (c := zk_X12_takesRecord) (ls2 := [(0, .ref 164), (1, .int (iZ s)), (2, .int (iZ r))]) rfl ⟨rfl, rfl, rfl, trivial⟩ ?_
  have hn := hV.1
  refine w_ic (pc' := 1) ⟨rfl, rfl⟩ ?_
  refine w_istore_n (pc' := 2) ⟨rfl, rfl⟩ rfl ?_
  refine w_sto (zrL_self (o := 172)).symm ?_
  refine w_at ?_ (l_tkr1 hF hT hV hs hr (zNF t s).toNat 0 _ (by omega) zSk_0 k)
  exact ⟨rfl, rfl, rfl, rfl, trivial⟩
theorem l_unl2 {σ : zSt} {t : zBk} {s : Nat} (hF : zFx σ) (hT : zTr σ t) (hV : zVs t s) (hs : s < 3) {u r : Nat} (hu : u < 8) (hr : r < 8) {A B : zRw0} (hA : zVa t s (fun f i => zvl (zKD t s f) (zL σ 170 (zpr t s f u i))) A) (hB : zVa t s (fun f i => zvl (zKD t s f) (zL σ 170 (zpr t s f r i))) B) {f : Nat} (hf : (f : Int) < zNF t s) {Q : zSt → Option Value → Prop} : ∀ (j : Nat) (i : Nat), ((i : Int) + j = zCE t s f) →  (zP zk_X12_unlike 98 [(0, .ref 164), (1, .int (iZ s)), (2, .int (iZ u)), (3, .int (iZ r)), (4, .long (zdif A B ((zst t s (f + 1)).toNat + 0))), (6, .int (iZ (((zst t s (f + 1)).toNat + 0) : Nat))), (7, .int (iZ f))] [] σ Q) → zP zk_X12_unlike 44 [(0, .ref 164), (1, .int (iZ s)), (2, .int (iZ u)), (3, .int (iZ r)), (4, .long (zdif A B ((zst t s f).toNat + i))), (6, .int (iZ (((zst t s f).toNat + i) : Nat))), (7, .int (iZ f)), (8, .int (iZ i))] [] σ Q := by
  intro j
  induction j with
  | zero =>
    intro i hi k
    have hce := (hV.2 f hf).2
    have hn := hV.1
    have h24 := zst_24 hV hf
    have he : (zst t s (f + 1)).toNat + 0 = (zst t s f).toNat + (zCE t s f).toNat := by rw [show zst t s (f + 1) = zst t s f + zCE t s f from rfl]; omega
    refine w_iload (pc' := 46) ⟨rfl, rfl⟩ rfl ?_
    refine w_aload_n (pc' := 47) ⟨rfl, rfl⟩ rfl ?_
    refine w_iload_n (pc' := 48) ⟨rfl, rfl⟩ rfl ?_
    refine w_iload (pc' := 50) ⟨rfl, rfl⟩ rfl ?_
    refine w_cv3 (pc' := 53) ⟨rfl, rfl⟩ (by decide) (zOl hF rfl) (Nat.le_of_ble_eq_true rfl) (Nat.le_of_ble_eq_true rfl) (r_cellsOf (σ := σ) hF hT hs (by omega) ?_)
    refine w_icT_ge (pc' := 56) (pcT := 98) ⟨rfl, rfl⟩ rfl (by omega) ?_
    refine w_at ?_ (k )
    exact ⟨rfl, rfl, rfl, rfl, by rw [he, show i = (zCE t s f).toNat by omega]; rfl, by rw [he, show i = (zCE t s f).toNat by omega]; rfl, rfl, trivial⟩
  | succ j ih =>
    intro i hi k
    have hce := (hV.2 f hf).2
    have hn := hV.1
    have h24 := zst_24 hV hf
    have he : (zst t s (f + 1)).toNat + 0 = (zst t s f).toNat + (zCE t s f).toNat := by rw [show zst t s (f + 1) = zst t s f + zCE t s f from rfl]; omega
    refine w_iload (pc' := 46) ⟨rfl, rfl⟩ rfl ?_
    refine w_aload_n (pc' := 47) ⟨rfl, rfl⟩ rfl ?_
    refine w_iload_n (pc' := 48) ⟨rfl, rfl⟩ rfl ?_
    refine w_iload (pc' := 50) ⟨rfl, rfl⟩ rfl ?_
    refine w_cv3 (pc' := 53) ⟨rfl, rfl⟩ (by decide) (zOl hF rfl) (Nat.le_of_ble_eq_true rfl) (Nat.le_of_ble_eq_true rfl) (r_cellsOf (σ := σ) hF hT hs (by omega) ?_)
    refine w_icF_ge (pc' := 56) ⟨rfl, rfl⟩ (by omega) ?_
    have hn0 := hV.1
    have ea := hA.1 f i (Or.inl ⟨by omega, by omega⟩)
    have eb := hB.1 f i (Or.inl ⟨by omega, by omega⟩)
    refine w_aload_n (pc' := 57) ⟨rfl, rfl⟩ rfl ?_
    refine w_iload_n (pc' := 58) ⟨rfl, rfl⟩ rfl ?_
    refine w_iload (pc' := 60) ⟨rfl, rfl⟩ rfl ?_
    refine w_iload_n (pc' := 61) ⟨rfl, rfl⟩ rfl ?_
    refine w_iload (pc' := 63) ⟨rfl, rfl⟩ rfl ?_
    refine w_cv5 (pc' := 66) ⟨rfl, rfl⟩ (by decide) (zOl hF rfl) (Nat.le_of_ble_eq_true rfl) (Nat.le_of_ble_eq_true rfl) (r_valueAt hF hT hs (by omega) hu hce (by omega) (hV.2 f hf).1 ?_)
    refine w_aload_n (pc' := 67) ⟨rfl, rfl⟩ rfl ?_
    refine w_iload_n (pc' := 68) ⟨rfl, rfl⟩ rfl ?_
    refine w_iload (pc' := 70) ⟨rfl, rfl⟩ rfl ?_
    refine w_iload_n (pc' := 71) ⟨rfl, rfl⟩ rfl ?_
    refine w_iload (pc' := 73) ⟨rfl, rfl⟩ rfl ?_
    refine w_cv5 (pc' := 76) ⟨rfl, rfl⟩ (by decide) (zOl hF rfl) (Nat.le_of_ble_eq_true rfl) (Nat.le_of_ble_eq_true rfl) (r_valueAt hF hT hs (by omega) hr hce (by omega) (hV.2 f hf).1 ?_)
    refine w_lcmp (pc' := 77) ⟨rfl, rfl⟩ ?_
    refine w_ifc_eq (pc' := 80) (pcT := 89) ⟨rfl, rfl⟩ rfl (fun h1 => ?_) (fun h1 => ?_)
    · refine w_iincZ (pc' := 92) ⟨rfl, rfl⟩ rfl rfl ?_
      refine w_iincZ (pc' := 95) ⟨rfl, rfl⟩ rfl rfl ?_
      refine w_goto (pc' := 98) (pcT := 44) ⟨rfl, rfl⟩ rfl ?_
      refine w_at ?_ (ih (i + 1) (by omega) k)
      exact ⟨rfl, rfl, rfl, rfl, by rw [show (zst t s f).toNat + (i + 1) = ((zst t s f).toNat + i) + 1 by omega, zdif]; first | (rw [if_pos (by rw [ea, eb]; assumption)]; rfl) | (rw [if_neg (by rw [ea, eb]; assumption)]; rfl), rfl, rfl, rfl, trivial⟩
    · refine w_lload (pc' := 82) ⟨rfl, rfl⟩ rfl ?_
      refine w_lc (pc' := 83) (z := 1) ⟨rfl, rfl⟩ rfl ?_
      refine w_iload (pc' := 85) ⟨rfl, rfl⟩ rfl ?_
      refine w_lshl (pc' := 86) ⟨rfl, rfl⟩ ?_
      refine w_lor (pc' := 87) ⟨rfl, rfl⟩ ?_
      refine w_lstore (pc' := 89) ⟨rfl, rfl⟩ rfl rfl ?_
      refine w_iincZ (pc' := 92) ⟨rfl, rfl⟩ rfl rfl ?_
      refine w_iincZ (pc' := 95) ⟨rfl, rfl⟩ rfl rfl ?_
      refine w_goto (pc' := 98) (pcT := 44) ⟨rfl, rfl⟩ rfl ?_
      refine w_at ?_ (ih (i + 1) (by omega) k)
      exact ⟨rfl, rfl, rfl, rfl, by rw [show (zst t s f).toNat + (i + 1) = ((zst t s f).toNat + i) + 1 by omega, zdif]; first | (rw [if_pos (by rw [ea, eb]; assumption)]; rfl) | (rw [if_neg (by rw [ea, eb]; assumption)]; rfl), rfl, rfl, rfl, trivial⟩
theorem l_unl1 {σ : zSt} {t : zBk} {s : Nat} (hF : zFx σ) (hT : zTr σ t) (hV : zVs t s) (hs : s < 3) {u r : Nat} (hu : u < 8) (hr : r < 8) {A B : zRw0} (hA : zVa t s (fun f i => zvl (zKD t s f) (zL σ 170 (zpr t s f u i))) A) (hB : zVa t s (fun f i => zvl (zKD t s f) (zL σ 170 (zpr t s f r i))) B) {Q : zSt → Option Value → Prop} : ∀ (j : Nat) (f : Nat), ((f : Int) + j = zNF t s) →  (Q σ (some (.long (zdif A B (zst t s (zNF t s).toNat).toNat)))) → zP zk_X12_unlike 31 [(0, .ref 164), (1, .int (iZ s)), (2, .int (iZ u)), (3, .int (iZ r)), (4, .long (zdif A B ((zst t s f).toNat + 0))), (6, .int (iZ (((zst t s f).toNat + 0) : Nat))), (7, .int (iZ f))] [] σ Q := by
  intro j
  induction j with
  | zero =>
    intro f hj k
    have hn := hV.1
    obtain rfl : f = (zNF t s).toNat := by omega
    refine w_iload (pc' := 33) ⟨rfl, rfl⟩ rfl ?_
    refine w_aload_n (pc' := 34) ⟨rfl, rfl⟩ rfl ?_
    refine w_iload_n (pc' := 35) ⟨rfl, rfl⟩ rfl ?_
    refine w_cv2 (pc' := 38) ⟨rfl, rfl⟩ (by decide) (zOl hF rfl) (Nat.le_of_ble_eq_true rfl) (Nat.le_of_ble_eq_true rfl) (r_fieldMany (σ := σ) hF hT hs ?_)
    refine w_icT_ge (pc' := 41) (pcT := 104) ⟨rfl, rfl⟩ rfl (by omega) ?_
    refine w_lload (pc' := 106) ⟨rfl, rfl⟩ rfl ?_
    refine w_lreturn (pc' := 107) ⟨rfl, rfl⟩ ?_
    exact k
  | succ j ih =>
    intro f hj k
    have hn := hV.1
    have hf : (f : Int) < zNF t s := by omega
    have hce := (hV.2 f hf).2
    refine w_iload (pc' := 33) ⟨rfl, rfl⟩ rfl ?_
    refine w_aload_n (pc' := 34) ⟨rfl, rfl⟩ rfl ?_
    refine w_iload_n (pc' := 35) ⟨rfl, rfl⟩ rfl ?_
    refine w_cv2 (pc' := 38) ⟨rfl, rfl⟩ (by decide) (zOl hF rfl) (Nat.le_of_ble_eq_true rfl) (Nat.le_of_ble_eq_true rfl) (r_fieldMany (σ := σ) hF hT hs ?_)
    refine w_icF_ge (pc' := 41) ⟨rfl, rfl⟩ (by omega) ?_
    refine w_ic (pc' := 42) ⟨rfl, rfl⟩ ?_
    refine w_istore (pc' := 44) ⟨rfl, rfl⟩ rfl ?_
    refine w_at (ls2 := [(0, .ref 164), (1, .int (iZ s)), (2, .int (iZ u)), (3, .int (iZ r)), (4, .long (zdif A B ((zst t s f).toNat + 0))), (6, .int (iZ (((zst t s f).toNat + 0) : Nat))), (7, .int (iZ f)), (8, .int (iZ ((0 : Nat) : Int)))]) ⟨rfl, rfl, rfl, rfl, rfl, rfl, rfl, rfl, trivial⟩ (l_unl2 hF hT hV hs hu hr hA hB hf (zCE t s f).toNat 0 (by omega) (?_))
    refine w_iincZ (pc' := 101) ⟨rfl, rfl⟩ rfl rfl ?_
    refine w_goto (pc' := 104) (pcT := 31) ⟨rfl, rfl⟩ rfl ?_
    refine w_at ?_ (ih (f + 1) (by omega) k)
    exact ⟨rfl, rfl, rfl, rfl, rfl, rfl, rfl, trivial⟩
theorem l_unt2 {σ : zSt} {t : zBk} {s : Nat} (hF : zFx σ) (hT : zTr σ t) (hV : zVs t s) (hs : s < 3) {u : Nat} (hu : u < 8) {A B : zRw0} (hA : zVa t s (fun f i => zvl (zKD t s f) (zL σ 170 (zpr t s f u i))) A) (hB : zVa t s (fun f i => zL σ 173 (4 * f + i)) B) {f : Nat} (hf : (f : Int) < zNF t s) {Q : zSt → Option Value → Prop} : ∀ (j : Nat) (i : Nat), ((i : Int) + j = zCE t s f) →  (zP zk_X12_unlikeTarget 75 [(0, .ref 164), (1, .int (iZ s)), (2, .int (iZ u)), (3, .long (zdif A B ((zst t s (f + 1)).toNat + 0))), (5, .int (iZ (((zst t s (f + 1)).toNat + 0) : Nat))), (6, .int (iZ f))] [] σ Q) → zP zk_X12_unlikeTarget 21 [(0, .ref 164), (1, .int (iZ s)), (2, .int (iZ u)), (3, .long (zdif A B ((zst t s f).toNat + i))), (5, .int (iZ (((zst t s f).toNat + i) : Nat))), (6, .int (iZ f)), (7, .int (iZ i))] [] σ Q := by
  intro j
  induction j with
  | zero =>
    intro i hi k
    have hce := (hV.2 f hf).2
    have hn := hV.1
    have h24 := zst_24 hV hf
    have he : (zst t s (f + 1)).toNat + 0 = (zst t s f).toNat + (zCE t s f).toNat := by rw [show zst t s (f + 1) = zst t s f + zCE t s f from rfl]; omega
    refine w_iload (pc' := 23) ⟨rfl, rfl⟩ rfl ?_
    refine w_aload_n (pc' := 24) ⟨rfl, rfl⟩ rfl ?_
    refine w_iload_n (pc' := 25) ⟨rfl, rfl⟩ rfl ?_
    refine w_iload (pc' := 27) ⟨rfl, rfl⟩ rfl ?_
    refine w_cv3 (pc' := 30) ⟨rfl, rfl⟩ (by decide) (zOl hF rfl) (Nat.le_of_ble_eq_true rfl) (Nat.le_of_ble_eq_true rfl) (r_cellsOf (σ := σ) hF hT hs (by omega) ?_)
    refine w_icT_ge (pc' := 33) (pcT := 75) ⟨rfl, rfl⟩ rfl (by omega) ?_
    refine w_at ?_ (k )
    exact ⟨rfl, rfl, rfl, by rw [he, show i = (zCE t s f).toNat by omega]; rfl, by rw [he, show i = (zCE t s f).toNat by omega]; rfl, rfl, trivial⟩
  | succ j ih =>
    intro i hi k
    have hce := (hV.2 f hf).2
    have hn := hV.1
    have h24 := zst_24 hV hf
    have he : (zst t s (f + 1)).toNat + 0 = (zst t s f).toNat + (zCE t s f).toNat := by rw [show zst t s (f + 1) = zst t s f + zCE t s f from rfl]; omega
    refine w_iload (pc' := 23) ⟨rfl, rfl⟩ rfl ?_
    refine w_aload_n (pc' := 24) ⟨rfl, rfl⟩ rfl ?_
    refine w_iload_n (pc' := 25) ⟨rfl, rfl⟩ rfl ?_
    refine w_iload (pc' := 27) ⟨rfl, rfl⟩ rfl ?_
    refine w_cv3 (pc' := 30) ⟨rfl, rfl⟩ (by decide) (zOl hF rfl) (Nat.le_of_ble_eq_true rfl) (Nat.le_of_ble_eq_true rfl) (r_cellsOf (σ := σ) hF hT hs (by omega) ?_)
    refine w_icF_ge (pc' := 33) ⟨rfl, rfl⟩ (by omega) ?_
    have hn0 := hV.1
    have ea := hA.1 f i (Or.inl ⟨by omega, by omega⟩)
    have eb := hB.1 f i (Or.inl ⟨by omega, by omega⟩)
    refine w_aload_n (pc' := 34) ⟨rfl, rfl⟩ rfl ?_
    refine w_iload_n (pc' := 35) ⟨rfl, rfl⟩ rfl ?_
    refine w_iload (pc' := 37) ⟨rfl, rfl⟩ rfl ?_
    refine w_iload_n (pc' := 38) ⟨rfl, rfl⟩ rfl ?_
    refine w_iload (pc' := 40) ⟨rfl, rfl⟩ rfl ?_
    refine w_cv5 (pc' := 43) ⟨rfl, rfl⟩ (by decide) (zOl hF rfl) (Nat.le_of_ble_eq_true rfl) (Nat.le_of_ble_eq_true rfl) (r_valueAt hF hT hs (by omega) hu hce (by omega) (hV.2 f hf).1 ?_)
    refine w_aload_n (pc' := 44) ⟨rfl, rfl⟩ rfl ?_
    refine w_getR (pc' := 47) (cl := 10) (q := 21) ⟨rfl, rfl⟩ ⟨rfl, by decide⟩ (zOl hF rfl) (hF.2 164 21 173 rfl) ?_
    refine w_ic (pc' := 48) ⟨rfl, rfl⟩ ?_
    refine w_iload (pc' := 50) ⟨rfl, rfl⟩ rfl ?_
    refine w_imulZ (pc' := 51) ⟨rfl, rfl⟩ ?_
    refine w_iload (pc' := 53) ⟨rfl, rfl⟩ rfl ?_
    refine w_iaddZ (pc' := 54) ⟨rfl, rfl⟩ ?_
    refine w_lald (pc' := 55) ⟨rfl, rfl⟩ (zAl hF rfl) (zixA (j := 4 * f + i) (by omega)) rfl ?_
    refine w_lcmp (pc' := 56) ⟨rfl, rfl⟩ ?_
    refine w_ifc_eq (pc' := 59) (pcT := 66) ⟨rfl, rfl⟩ rfl (fun h1 => ?_) (fun h1 => ?_)
    · refine w_iincZ (pc' := 69) ⟨rfl, rfl⟩ rfl rfl ?_
      refine w_iincZ (pc' := 72) ⟨rfl, rfl⟩ rfl rfl ?_
      refine w_goto (pc' := 75) (pcT := 21) ⟨rfl, rfl⟩ rfl ?_
      refine w_at ?_ (ih (i + 1) (by omega) k)
      exact ⟨rfl, rfl, rfl, by rw [show (zst t s f).toNat + (i + 1) = ((zst t s f).toNat + i) + 1 by omega, zdif]; first | (rw [if_pos (by rw [ea, eb]; assumption)]; rfl) | (rw [if_neg (by rw [ea, eb]; assumption)]; rfl), rfl, rfl, rfl, trivial⟩
    · refine w_lload_n (pc' := 60) ⟨rfl, rfl⟩ rfl ?_
      refine w_lc (pc' := 61) (z := 1) ⟨rfl, rfl⟩ rfl ?_
      refine w_iload (pc' := 63) ⟨rfl, rfl⟩ rfl ?_
      refine w_lshl (pc' := 64) ⟨rfl, rfl⟩ ?_
      refine w_lor (pc' := 65) ⟨rfl, rfl⟩ ?_
      refine w_lstore_n (pc' := 66) ⟨rfl, rfl⟩ rfl rfl ?_
      refine w_iincZ (pc' := 69) ⟨rfl, rfl⟩ rfl rfl ?_
      refine w_iincZ (pc' := 72) ⟨rfl, rfl⟩ rfl rfl ?_
      refine w_goto (pc' := 75) (pcT := 21) ⟨rfl, rfl⟩ rfl ?_
      refine w_at ?_ (ih (i + 1) (by omega) k)
      exact ⟨rfl, rfl, rfl, by rw [show (zst t s f).toNat + (i + 1) = ((zst t s f).toNat + i) + 1 by omega, zdif]; first | (rw [if_pos (by rw [ea, eb]; assumption)]; rfl) | (rw [if_neg (by rw [ea, eb]; assumption)]; rfl), rfl, rfl, rfl, trivial⟩
theorem l_unt1 {σ : zSt} {t : zBk} {s : Nat} (hF : zFx σ) (hT : zTr σ t) (hV : zVs t s) (hs : s < 3) {u : Nat} (hu : u < 8) {A B : zRw0} (hA : zVa t s (fun f i => zvl (zKD t s f) (zL σ 170 (zpr t s f u i))) A) (hB : zVa t s (fun f i => zL σ 173 (4 * f + i)) B) {Q : zSt → Option Value → Prop} : ∀ (j : Nat) (f : Nat), ((f : Int) + j = zNF t s) →  (Q σ (some (.long (zdif A B (zst t s (zNF t s).toNat).toNat)))) → zP zk_X12_unlikeTarget 8 [(0, .ref 164), (1, .int (iZ s)), (2, .int (iZ u)), (3, .long (zdif A B ((zst t s f).toNat + 0))), (5, .int (iZ (((zst t s f).toNat + 0) : Nat))), (6, .int (iZ f))] [] σ Q := by
  intro j
  induction j with
  | zero =>
    intro f hj k
    have hn := hV.1
    obtain rfl : f = (zNF t s).toNat := by omega
    refine w_iload (pc' := 10) ⟨rfl, rfl⟩ rfl ?_
    refine w_aload_n (pc' := 11) ⟨rfl, rfl⟩ rfl ?_
    refine w_iload_n (pc' := 12) ⟨rfl, rfl⟩ rfl ?_
    refine w_cv2 (pc' := 15) ⟨rfl, rfl⟩ (by decide) (zOl hF rfl) (Nat.le_of_ble_eq_true rfl) (Nat.le_of_ble_eq_true rfl) (r_fieldMany (σ := σ) hF hT hs ?_)
    refine w_icT_ge (pc' := 18) (pcT := 81) ⟨rfl, rfl⟩ rfl (by omega) ?_
    refine w_lload_n (pc' := 82) ⟨rfl, rfl⟩ rfl ?_
    refine w_lreturn (pc' := 83) ⟨rfl, rfl⟩ ?_
    exact k
  | succ j ih =>
    intro f hj k
    have hn := hV.1
    have hf : (f : Int) < zNF t s := by omega
    have hce := (hV.2 f hf).2
    refine w_iload (pc' := 10) ⟨rfl, rfl⟩ rfl ?_
    refine w_aload_n (pc' := 11) ⟨rfl, rfl⟩ rfl ?_
    refine w_iload_n (pc' := 12) ⟨rfl, rfl⟩ rfl ?_
    refine w_cv2 (pc' := 15) ⟨rfl, rfl⟩ (by decide) (zOl hF rfl) (Nat.le_of_ble_eq_true rfl) (Nat.le_of_ble_eq_true rfl) (r_fieldMany (σ := σ) hF hT hs ?_)
    refine w_icF_ge (pc' := 18) ⟨rfl, rfl⟩ (by omega) ?_
    refine w_ic (pc' := 19) ⟨rfl, rfl⟩ ?_
    refine w_istore (pc' := 21) ⟨rfl, rfl⟩ rfl ?_
    refine w_at (ls2 := [(0, .ref 164), (1, .int (iZ s)), (2, .int (iZ u)), (3, .long (zdif A B ((zst t s f).toNat + 0))), (5, .int (iZ (((zst t s f).toNat + 0) : Nat))), (6, .int (iZ f)), (7, .int (iZ ((0 : Nat) : Int)))]) ⟨rfl, rfl, rfl, rfl, rfl, rfl, rfl, trivial⟩ (l_unt2 hF hT hV hs hu hA hB hf (zCE t s f).toNat 0 (by omega) (?_))
    refine w_iincZ (pc' := 78) ⟨rfl, rfl⟩ rfl rfl ?_
    refine w_goto (pc' := 81) (pcT := 8) ⟨rfl, rfl⟩ rfl ?_
    refine w_at ?_ (ih (f + 1) (by omega) k)
    exact ⟨rfl, rfl, rfl, rfl, rfl, rfl, trivial⟩
theorem r_unlikeTarget {σ : zSt} {t : zBk} {s : Nat} (hF : zFx σ) (hT : zTr σ t) (hV : zVs t s) (hs : s < 3) {u : Nat} (hu : u < 8) {A B : zRw0} (hA : zVa t s (fun f i => zvl (zKD t s f) (zL σ 170 (zpr t s f u i))) A) (hB : zVa t s (fun f i => zL σ 173 (4 * f + i)) B) {Q : zSt → Option Value → Prop} (k : Q σ (some (.long (zdif A B (zst t s (zNF t s).toNat).toNat)))) : zCa 291 [.ref 164, .int (iZ s), .int (iZ u)] σ Q := by
  refine w_enter (c := zk_X12_unlikeTarget) (ls2 := [(0, .ref 164), (1, .int (iZ s)), (2, .int (iZ u))]) rfl ⟨rfl, rfl, rfl, trivial⟩ ?_
  have hn := hV.1
  refine w_lc (pc' := 1) (z := 0) ⟨rfl, rfl⟩ rfl ?_
  refine w_lstore_n (pc' := 2) ⟨rfl, rfl⟩ rfl rfl ?_
  refine w_ic (pc' := 3) ⟨rfl, rfl⟩ ?_
  refine w_istore (pc' := 5) ⟨rfl, rfl⟩ rfl ?_
  refine w_ic (pc' := 6) ⟨rfl, rfl⟩ ?_
  refine w_istore (pc' := 8) ⟨rfl, rfl⟩ rfl ?_
  refine w_at ?_ (l_unt1 hF hT hV hs hu hA hB (zNF t s).toNat 0 (by omega) k)
  exact ⟨rfl, rfl, rfl, rfl, rfl, rfl, trivial⟩
/-- how many of so many cells are not marked; of those of all fields up to f -/
def zmi (p : Nat → Int32) (b : Nat) : Nat → Int
  | 0 => 0
  | i + 1 => zmi p b i + (if p (b + i) = iZ 0 then 1 else 0)
def zmc (t : zBk) (s : Nat) (p : Nat → Int32) : Nat → Int
  | 0 => 0
  | f + 1 => zmc t s p f + zmi p (4 * f) (zCE t s f).toNat
theorem l_mis2 {σ : zSt} {t : zBk} {s : Nat} (hF : zFx σ) (hT : zTr σ t) (hV : zVs t s) (hs : s < 3) {a : Nat} (hA : zA σ a 14 24) (hb : ∀ q, q < 24 → zI σ a q = iZ 0 ∨ zI σ a q = iZ 1) {f : Nat} (hf : (f : Int) < zNF t s) {Q : zSt → Option Value → Prop} : ∀ (j : Nat) (i : Nat), ((i : Int) + j = zCE t s f) →  (zP zk_X12_missing 59 [(0, .ref 164), (1, .int (iZ s)), (2, .ref a), (3, .int (iZ (zmc t s (zI σ a) (f + 1) + zmi (zI σ a) (4 * (f + 1)) 0))), (4, .int (iZ f))] [] σ Q) → zP zk_X12_missing 18 [(0, .ref 164), (1, .int (iZ s)), (2, .ref a), (3, .int (iZ (zmc t s (zI σ a) f + zmi (zI σ a) (4 * f) i))), (4, .int (iZ f)), (5, .int (iZ i))] [] σ Q := by
  intro j
  induction j with
  | zero =>
    intro i hi k
    have hce := (hV.2 f hf).2
    have hn := hV.1
    refine w_iload (pc' := 20) ⟨rfl, rfl⟩ rfl ?_
    refine w_aload_n (pc' := 21) ⟨rfl, rfl⟩ rfl ?_
    refine w_iload_n (pc' := 22) ⟨rfl, rfl⟩ rfl ?_
    refine w_iload (pc' := 24) ⟨rfl, rfl⟩ rfl ?_
    refine w_cv3 (pc' := 27) ⟨rfl, rfl⟩ (by decide) (zOl hF rfl) (Nat.le_of_ble_eq_true rfl) (Nat.le_of_ble_eq_true rfl) (r_cellsOf (σ := σ) hF hT hs (by omega) ?_)
    refine w_icT_ge (pc' := 30) (pcT := 59) ⟨rfl, rfl⟩ rfl (by omega) ?_
    refine w_at ?_ (k )
    exact ⟨rfl, rfl, rfl, by rw [show i = (zCE t s f).toNat by omega]; show _ = some (Value.int (iZ (zmc t s (zI σ a) (f + 1) + 0))); rw [Int.add_zero]; rfl, rfl, trivial⟩
  | succ j ih =>
    intro i hi k
    have hce := (hV.2 f hf).2
    have hn := hV.1
    refine w_iload (pc' := 20) ⟨rfl, rfl⟩ rfl ?_
    refine w_aload_n (pc' := 21) ⟨rfl, rfl⟩ rfl ?_
    refine w_iload_n (pc' := 22) ⟨rfl, rfl⟩ rfl ?_
    refine w_iload (pc' := 24) ⟨rfl, rfl⟩ rfl ?_
    refine w_cv3 (pc' := 27) ⟨rfl, rfl⟩ (by decide) (zOl hF rfl) (Nat.le_of_ble_eq_true rfl) (Nat.le_of_ble_eq_true rfl) (r_cellsOf (σ := σ) hF hT hs (by omega) ?_)
    refine w_icF_ge (pc' := 30) ⟨rfl, rfl⟩ (by omega) ?_
    rcases hb (4 * f + i) (by omega) with hbit | hbit
    · refine w_iload_n (pc' := 31) ⟨rfl, rfl⟩ rfl ?_
      refine w_aload_n (pc' := 32) ⟨rfl, rfl⟩ rfl ?_
      refine w_ic (pc' := 33) ⟨rfl, rfl⟩ ?_
      refine w_iload (pc' := 35) ⟨rfl, rfl⟩ rfl ?_
      refine w_imulZ (pc' := 36) ⟨rfl, rfl⟩ ?_
      refine w_iload (pc' := 38) ⟨rfl, rfl⟩ rfl ?_
      refine w_iaddZ (pc' := 39) ⟨rfl, rfl⟩ ?_
      refine w_bald (pc' := 40) ⟨rfl, rfl⟩ hA (zixA (j := 4 * f + i) (by omega)) hbit ?_
      refine w_ifF_ne (pc' := 43) ⟨rfl, rfl⟩ (by decide) ?_
      refine w_ic (pc' := 44) ⟨rfl, rfl⟩ ?_
      refine w_goto (pc' := 47) (pcT := 48) ⟨rfl, rfl⟩ rfl ?_
      refine w_cs1 (pc' := 51) ⟨rfl, rfl⟩ (by decide) (Nat.le_of_ble_eq_true rfl) (Nat.le_of_ble_eq_true rfl) (r_flag (by omega) ?_)
      refine w_iaddZ (pc' := 52) ⟨rfl, rfl⟩ ?_
      refine w_istore_n (pc' := 53) ⟨rfl, rfl⟩ rfl ?_
      refine w_iincZ (pc' := 56) ⟨rfl, rfl⟩ rfl rfl ?_
      refine w_goto (pc' := 59) (pcT := 18) ⟨rfl, rfl⟩ rfl ?_
      refine w_at ?_ (ih (i + 1) (by omega) k)
      exact ⟨rfl, rfl, rfl, by rw [zmi]; rw [if_pos hbit, ← Int.add_assoc]; rfl, rfl, rfl, trivial⟩
    · refine w_iload_n (pc' := 31) ⟨rfl, rfl⟩ rfl ?_
      refine w_aload_n (pc' := 32) ⟨rfl, rfl⟩ rfl ?_
      refine w_ic (pc' := 33) ⟨rfl, rfl⟩ ?_
      refine w_iload (pc' := 35) ⟨rfl, rfl⟩ rfl ?_
      refine w_imulZ (pc' := 36) ⟨rfl, rfl⟩ ?_
      refine w_iload (pc' := 38) ⟨rfl, rfl⟩ rfl ?_
      refine w_iaddZ (pc' := 39) ⟨rfl, rfl⟩ ?_
      refine w_bald (pc' := 40) ⟨rfl, rfl⟩ hA (zixA (j := 4 * f + i) (by omega)) hbit ?_
      refine w_ifT_ne (pc' := 43) (pcT := 47) ⟨rfl, rfl⟩ rfl (by decide) ?_
      refine w_ic (pc' := 48) ⟨rfl, rfl⟩ ?_
      refine w_cs1 (pc' := 51) ⟨rfl, rfl⟩ (by decide) (Nat.le_of_ble_eq_true rfl) (Nat.le_of_ble_eq_true rfl) (r_flag (by omega) ?_)
      refine w_iaddZ (pc' := 52) ⟨rfl, rfl⟩ ?_
      refine w_istore_n (pc' := 53) ⟨rfl, rfl⟩ rfl ?_
      refine w_iincZ (pc' := 56) ⟨rfl, rfl⟩ rfl rfl ?_
      refine w_goto (pc' := 59) (pcT := 18) ⟨rfl, rfl⟩ rfl ?_
      refine w_at ?_ (ih (i + 1) (by omega) k)
      exact ⟨rfl, rfl, rfl, by rw [zmi]; rw [if_neg (by rw [hbit]; decide)]; simp only [Int.add_zero]; rfl, rfl, rfl, trivial⟩
theorem l_mis1 {σ : zSt} {t : zBk} {s : Nat} (hF : zFx σ) (hT : zTr σ t) (hV : zVs t s) (hs : s < 3) {a : Nat} (hA : zA σ a 14 24) (hb : ∀ q, q < 24 → zI σ a q = iZ 0 ∨ zI σ a q = iZ 1) {Q : zSt → Option Value → Prop} : ∀ (j : Nat) (f : Nat), ((f : Int) + j = zNF t s) →  (Q σ (some (.int (iZ (zmc t s (zI σ a) (zNF t s).toNat))))) → zP zk_X12_missing 5 [(0, .ref 164), (1, .int (iZ s)), (2, .ref a), (3, .int (iZ (zmc t s (zI σ a) f + zmi (zI σ a) (4 * f) 0))), (4, .int (iZ f))] [] σ Q := by
  intro j
  induction j with
  | zero =>
    intro f hj k
    have hn := hV.1
    obtain rfl : f = (zNF t s).toNat := by omega
    refine w_iload (pc' := 7) ⟨rfl, rfl⟩ rfl ?_
    refine w_aload_n (pc' := 8) ⟨rfl, rfl⟩ rfl ?_
    refine w_iload_n (pc' := 9) ⟨rfl, rfl⟩ rfl ?_
    refine w_cv2 (pc' := 12) ⟨rfl, rfl⟩ (by decide) (zOl hF rfl) (Nat.le_of_ble_eq_true rfl) (Nat.le_of_ble_eq_true rfl) (r_fieldMany (σ := σ) hF hT hs ?_)
    refine w_icT_ge (pc' := 15) (pcT := 65) ⟨rfl, rfl⟩ rfl (by omega) ?_
    refine w_iload_n (pc' := 66) ⟨rfl, rfl⟩ rfl ?_
    refine w_ireturn (pc' := 67) ⟨rfl, rfl⟩ (Or.inl rfl) ?_
    exact zQi k (by show _ + 0 = _; omega)
  | succ j ih =>
    intro f hj k
    have hn := hV.1
    have hf : (f : Int) < zNF t s := by omega
    have hce := (hV.2 f hf).2
    refine w_iload (pc' := 7) ⟨rfl, rfl⟩ rfl ?_
    refine w_aload_n (pc' := 8) ⟨rfl, rfl⟩ rfl ?_
    refine w_iload_n (pc' := 9) ⟨rfl, rfl⟩ rfl ?_
    refine w_cv2 (pc' := 12) ⟨rfl, rfl⟩ (by decide) (zOl hF rfl) (Nat.le_of_ble_eq_true rfl) (Nat.le_of_ble_eq_true rfl) (r_fieldMany (σ := σ) hF hT hs ?_)
    refine w_icF_ge (pc' := 15) ⟨rfl, rfl⟩ (by omega) ?_
    refine w_ic (pc' := 16) ⟨rfl, rfl⟩ ?_
    refine w_istore (pc' := 18) ⟨rfl, rfl⟩ rfl ?_
    refine w_at (ls2 := [(0, .ref 164), (1, .int (iZ s)), (2, .ref a), (3, .int (iZ (zmc t s (zI σ a) f + zmi (zI σ a) (4 * f) 0))), (4, .int (iZ f)), (5, .int (iZ ((0 : Nat) : Int)))]) ⟨rfl, rfl, rfl, rfl, rfl, rfl, trivial⟩ (l_mis2 hF hT hV hs hA hb hf (zCE t s f).toNat 0 (by omega) (?_))
    refine w_iincZ (pc' := 62) ⟨rfl, rfl⟩ rfl rfl ?_
    refine w_goto (pc' := 65) (pcT := 5) ⟨rfl, rfl⟩ rfl ?_
    refine w_at ?_ (ih (f + 1) (by omega) k)
    exact ⟨rfl, rfl, rfl, rfl, rfl, trivial⟩
theorem r_missing {σ : zSt} {t : zBk} {s : Nat} (hF : zFx σ) (hT : zTr σ t) (hV : zVs t s) (hs : s < 3) {a : Nat} (hA : zA σ a 14 24) (hb : ∀ q, q < 24 → zI σ a q = iZ 0 ∨ zI σ a q = iZ 1) {Q : zSt → Option Value → Prop} (k : Q σ (some (.int (iZ (zmc t s (zI σ a) (zNF t s).toNat))))) : zCa 283 [.ref 164, .int (iZ s), .ref a] σ Q := by
  refine w_enter (c := zk_X12_missing) (ls2 := [(0, .ref 164), (1, .int (iZ s)), (2, .ref a)]) rfl ⟨rfl, rfl, rfl, trivial⟩ ?_
  have hn := hV.1
  refine w_ic (pc' := 1) ⟨rfl, rfl⟩ ?_
  refine w_istore_n (pc' := 2) ⟨rfl, rfl⟩ rfl ?_
  refine w_ic (pc' := 3) ⟨rfl, rfl⟩ ?_
  refine w_istore (pc' := 5) ⟨rfl, rfl⟩ rfl ?_
  refine w_at ?_ (l_mis1 hF hT hV hs hA hb (zNF t s).toNat 0 (by omega) k)
  exact ⟨rfl, rfl, rfl, rfl, rfl, trivial⟩
