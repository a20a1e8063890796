/-! THE REFERENCE over the cells of a record -/
/-- cells written in the reference's row: of record r, up to cell i of field f; all else as before -/
def zWk (t : zBk) (s r : Nat) (g : Nat → Nat → Int64) (m F : zRw0) (f i : Nat) : Prop := (∀ h j : Nat, (h < f ∧ (j : Int) < zCE t s h) ∨ (h = f ∧ j < i) → F (zpr t s h r j) = g h j) ∧ ∀ q : Nat, (∀ h j : Nat, (h < f ∧ (j : Int) < zCE t s h) ∨ (h = f ∧ j < i) → q ≠ zpr t s h r j) → F q = m q
theorem zpr_b {t : zBk} {s f r j : Nat} (hce : 1 ≤ zCE t s f ∧ zCE t s f ≤ 4) (hr : r < 8) (hj : (j : Int) < zCE t s f) : (zCE t s f).toNat * r + j < 32 := by
  have h1 : (zCE t s f).toNat * r ≤ (zCE t s f).toNat * 7 := Nat.mul_le_mul_left _ (by omega)
  omega
theorem zpr_ne {t : zBk} {s f r j s' f' r' j' : Nat} (h1 : 1 ≤ zCE t s f ∧ zCE t s f ≤ 4) (h2 : 1 ≤ zCE t s' f' ∧ zCE t s' f' ≤ 4) (hr : r < 8) (hr' : r' < 8) (hj : (j : Int) < zCE t s f) (hj' : (j' : Int) < zCE t s' f') (hf : f < 6) (hf' : f' < 6) (h : ¬ (s = s' ∧ f = f' ∧ r = r' ∧ j = j')) : zpr t s f r j ≠ zpr t s' f' r' j' := by
  have b1 := zpr_b h1 hr hj
  have b2 := zpr_b h2 hr' hj'
  intro e
  unfold zpr at e
  have e1 : 6 * s + f = 6 * s' + f' := by omega
  have e2 : s = s' ∧ f = f' := by omega
  obtain ⟨rfl, rfl⟩ := e2
  have e3 : (zCE t s f).toNat * r + j = (zCE t s f).toNat * r' + j' := by omega
  have hc : 0 < (zCE t s f).toNat := by omega
  have e4 : r = r' := by
    have a1 : ((zCE t s f).toNat * r + j) / (zCE t s f).toNat = r := by rw [Nat.mul_add_div hc, Nat.div_eq_of_lt (by omega), Nat.add_zero]
    have a2 : ((zCE t s f).toNat * r' + j') / (zCE t s f).toNat = r' := by rw [Nat.mul_add_div hc, Nat.div_eq_of_lt (by omega), Nat.add_zero]
    rw [← a1, ← a2, e3]
  subst e4
  exact h ⟨rfl, rfl, rfl, by omega⟩
theorem zWk_s {t : zBk} {s r : Nat} (hV : zVs t s) (hr : r < 8) {g : Nat → Nat → Int64} {m F : zRw0} {f i : Nat} (h : zWk t s r g m F f i) (hf : (f : Int) < zNF t s) (hi : (i : Int) < zCE t s f) : zWk t s r g m (va_up F (zpr t s f r i) (g f i)) f (i + 1) := by
  have hn := hV.1
  have hcf := (hV.2 f hf).2
  refine ⟨fun u j hj => ?_, fun q hq => ?_⟩
  · unfold va_up
    by_cases he : u = f ∧ j = i
    · obtain ⟨rfl, rfl⟩ := he
      rw [if_pos rfl]
    · have h2 : (u < f ∧ (j : Int) < zCE t s u) ∨ (u = f ∧ j < i) := by omega
      have hcu : (1 ≤ zCE t s u ∧ zCE t s u ≤ 4) ∧ (j : Int) < zCE t s u := by
        rcases h2 with h2 | ⟨rfl, h2⟩
        · exact ⟨(hV.2 u (by omega)).2, h2.2⟩
        · exact ⟨hcf, by omega⟩
      rw [if_neg (zpr_ne hcu.1 hcf hr hr hcu.2 hi (by omega) (by omega) (by omega))]
      exact h.1 u j h2
  · unfold va_up
    rw [if_neg (hq f i (by omega))]
    exact h.2 q (fun u j hj => hq u j (by omega))
theorem zWk_n {t : zBk} {s r : Nat} {g : Nat → Nat → Int64} {m F : zRw0} {f i : Nat} (h : zWk t s r g m F f i) (hi : (i : Int) = zCE t s f) : zWk t s r g m F (f + 1) 0 := by
  refine ⟨fun u j hj => h.1 u j ?_, fun q hq => h.2 q (fun u j hj => hq u j ?_)⟩
  · rcases hj with hj | hj
    · by_cases hu : u = f
      · subst hu; exact Or.inr ⟨rfl, by omega⟩
      · exact Or.inl ⟨by omega, hj.2⟩
    · omega
  · rcases hj with hj | hj
    · exact Or.inl ⟨by omega, hj.2⟩
    · exact Or.inl ⟨by omega, by rw [hj.1]; omega⟩
theorem zWk_0 {t : zBk} {s r : Nat} {g : Nat → Nat → Int64} {m : zRw0} : zWk t s r g m m 0 0 := ⟨fun u j hj => by omega, fun q _ => rfl⟩
def zWr (t : zBk) (s r : Nat) (g : Nat → Nat → Int64) (m F : zRw0) : Prop := zWk t s r g m F (zNF t s).toNat 0
/-- four places a field -/
def zSk (t : zBk) (s : Nat) (g : Nat → Nat → Int64) (F : zRw0) (f i : Nat) : Prop := ∀ h j : Nat, (h < f ∧ (j : Int) < zCE t s h) ∨ (h = f ∧ j < i) → F (4 * h + j) = g h j
def zSv (t : zBk) (s : Nat) (g : Nat → Nat → Int64) (F : zRw0) : Prop := zSk t s g F (zNF t s).toNat 0
theorem zSk_s {t : zBk} {s : Nat} (hV : zVs t s) {g : Nat → Nat → Int64} {F : zRw0} {f i : Nat} (h : zSk t s g F f i) (hf : (f : Int) < zNF t s) (hi : (i : Int) < zCE t s f) : zSk t s g (va_up F (4 * f + i) (g f i)) f (i + 1) := by
  have hcf := (hV.2 f hf).2
  intro u j hj
  unfold va_up
  by_cases he : u = f ∧ j = i
  · obtain ⟨rfl, rfl⟩ := he
    rw [if_pos rfl]
  · have h2 : (u < f ∧ (j : Int) < zCE t s u) ∨ (u = f ∧ j < i) := by omega
    have hcu : (j : Int) < 4 := by
      rcases h2 with h2 | ⟨rfl, h2⟩
      · have := (hV.2 u (by omega)).2; omega
      · omega
    rw [if_neg (by omega)]
    exact h u j h2
theorem zSk_n {t : zBk} {s : Nat} {g : Nat → Nat → Int64} {F : zRw0} {f i : Nat} (h : zSk t s g F f i) (hi : (i : Int) = zCE t s f) : zSk t s g F (f + 1) 0 := by
  intro u j hj
  refine h u j ?_
  rcases hj with hj | hj
  · by_cases hu : u = f
    · subst hu; exact Or.inr ⟨rfl, by omega⟩
    · exact Or.inl ⟨by omega, hj.2⟩
  · omega
theorem zSk_0 {t : zBk} {s : Nat} {g : Nat → Nat → Int64} {F : zRw0} : zSk t s g F 0 0 := fun u j hj => by omega
theorem l_lay2 {σ : zSt} {t : zBk} {s : Nat} (hF : zFx σ) (hT : zTr σ t) (hV : zVs t s) (hs : s < 3) {r : Nat} (hr : r < 8) {f : Nat} (hf : (f : Int) < zNF t s) {Q : zSt → Option Value → Prop} : ∀ (j : Nat) (i : Nat) (F : zRw0), ((i : Int) + j = zCE t s f) → zWk t s r (fun _ _ => lZ 0) (zL σ 170) F f i → (∀ (F : zRw0), zWk t s r (fun _ _ => lZ 0) (zL σ 170) F (f + 1) 0 → zP zk_X12_laysRecord 53 [(0, .ref 164), (1, .int (iZ s)), (2, .int (iZ r)), (3, .int (iZ f))] [] (zrL σ 170 F) Q) → zP zk_X12_laysRecord 14 [(0, .ref 164), (1, .int (iZ s)), (2, .int (iZ r)), (3, .int (iZ f)), (4, .int (iZ i))] [] (zrL σ 170 F) Q := by
  intro j
  induction j with
  | zero =>
    intro i F hi hI k
    have hce := (hV.2 f hf).2
    have hn := hV.1
    refine w_iload (pc' := 16) ⟨rfl, rfl⟩ rfl ?_
    refine w_aload_n (pc' := 17) ⟨rfl, rfl⟩ rfl ?_
    refine w_iload_n (pc' := 18) ⟨rfl, rfl⟩ rfl ?_
    refine w_iload_n (pc' := 19) ⟨rfl, rfl⟩ rfl ?_
    refine w_cv3 (pc' := 22) ⟨rfl, rfl⟩ (by decide) (zOl hF rfl) (Nat.le_of_ble_eq_true rfl) (Nat.le_of_ble_eq_true rfl) (r_cellsOf (σ := (zrL σ 170 F)) hF hT hs (by omega) ?_)
    refine w_icT_ge (pc' := 25) (pcT := 53) ⟨rfl, rfl⟩ rfl (by omega) ?_
    refine w_at ?_ (k F (zWk_n hI (by omega)))
    exact ⟨rfl, rfl, rfl, rfl, trivial⟩
  | succ j ih =>
    intro i F hi hI k
    have hce := (hV.2 f hf).2
    have hn := hV.1
    refine w_iload (pc' := 16) ⟨rfl, rfl⟩ rfl ?_
    refine w_aload_n (pc' := 17) ⟨rfl, rfl⟩ rfl ?_
    refine w_iload_n (pc' := 18) ⟨rfl, rfl⟩ rfl ?_
    refine w_iload_n (pc' := 19) ⟨rfl, rfl⟩ rfl ?_
    refine w_cv3 (pc' := 22) ⟨rfl, rfl⟩ (by decide) (zOl hF rfl) (Nat.le_of_ble_eq_true rfl) (Nat.le_of_ble_eq_true rfl) (r_cellsOf (σ := (zrL σ 170 F)) hF hT hs (by omega) ?_)
    refine w_icF_ge (pc' := 25) ⟨rfl, rfl⟩ (by omega) ?_
    have hmm := Int.toNat_of_nonneg (show 0 ≤ zCE t s f by omega)
    have hpb := zpr_b hce hr (show (i : Int) < zCE t s f by omega)
    have hm1 : ((zCE t s f).toNat * r : Nat) = ((zCE t s f).toNat : Int) * r := by norm_cast
    rw [hmm] at hm1
    refine w_aload_n (pc' := 26) ⟨rfl, rfl⟩ rfl ?_
    refine w_getR (pc' := 29) (cl := 10) (q := 16) ⟨rfl, rfl⟩ ⟨rfl, by decide⟩ (zOl hF rfl) (hF.2 164 16 170 rfl) ?_
    refine w_iload_n (pc' := 30) ⟨rfl, rfl⟩ rfl ?_
    refine w_iload_n (pc' := 31) ⟨rfl, rfl⟩ rfl ?_
    refine w_aload_n (pc' := 32) ⟨rfl, rfl⟩ rfl ?_
    refine w_iload_n (pc' := 33) ⟨rfl, rfl⟩ rfl ?_
    refine w_iload_n (pc' := 34) ⟨rfl, rfl⟩ rfl ?_
    refine w_cv3 (pc' := 37) ⟨rfl, rfl⟩ (by decide) (zOl hF rfl) (Nat.le_of_ble_eq_true rfl) (Nat.le_of_ble_eq_true rfl) (r_cellsOf (σ := (zrL σ 170 F)) hF hT hs (by omega) ?_)
    refine w_iload_n (pc' := 38) ⟨rfl, rfl⟩ rfl ?_
    refine w_imulZ (pc' := 39) ⟨rfl, rfl⟩ ?_
    refine w_iload (pc' := 41) ⟨rfl, rfl⟩ rfl ?_
    refine w_iaddZ (pc' := 42) ⟨rfl, rfl⟩ ?_
    refine w_cs3 (pc' := 45) ⟨rfl, rfl⟩ (by decide) (Nat.le_of_ble_eq_true rfl) (Nat.le_of_ble_eq_true rfl) (r_placeAt ?_)
    refine w_lc (pc' := 46) (z := 0) ⟨rfl, rfl⟩ rfl ?_
    refine w_last (pc' := 47) ⟨rfl, rfl⟩ (zAl (zFx_rL hF) rfl) (zixA (j := zpr t s f r i) (by unfold zpr; omega)) ?_
    refine w_iincZ (pc' := 50) ⟨rfl, rfl⟩ rfl rfl ?_
    refine w_goto (pc' := 53) (pcT := 14) ⟨rfl, rfl⟩ rfl ?_
    refine w_sto zwL_rL ?_
    refine w_at ?_ (ih (i + 1) _ (by omega) (zWk_s hV hr hI hf (by omega)) k)
    exact ⟨rfl, rfl, rfl, rfl, rfl, trivial⟩
theorem l_lay1 {σ : zSt} {t : zBk} {s : Nat} (hF : zFx σ) (hT : zTr σ t) (hV : zVs t s) (hs : s < 3) {r : Nat} (hr : r < 8) {Q : zSt → Option Value → Prop} : ∀ (j : Nat) (f : Nat) (F : zRw0), ((f : Int) + j = zNF t s) → zWk t s r (fun _ _ => lZ 0) (zL σ 170) F f 0 → (∀ F, zWr t s r (fun _ _ => lZ 0) (zL σ 170) F → Q (zrL σ 170 F) none) → zP zk_X12_laysRecord 2 [(0, .ref 164), (1, .int (iZ s)), (2, .int (iZ r)), (3, .int (iZ f))] [] (zrL σ 170 F) Q := by
  intro j
  induction j with
  | zero =>
    intro f F hj hI k
    have hn := hV.1
    obtain rfl : f = (zNF t s).toNat := by omega
    refine w_iload_n (pc' := 3) ⟨rfl, rfl⟩ rfl ?_
    refine w_aload_n (pc' := 4) ⟨rfl, rfl⟩ rfl ?_
    refine w_iload_n (pc' := 5) ⟨rfl, rfl⟩ rfl ?_
    refine w_cv2 (pc' := 8) ⟨rfl, rfl⟩ (by decide) (zOl hF rfl) (Nat.le_of_ble_eq_true rfl) (Nat.le_of_ble_eq_true rfl) (r_fieldMany (σ := (zrL σ 170 F)) hF hT hs ?_)
    refine w_icT_ge (pc' := 11) (pcT := 59) ⟨rfl, rfl⟩ rfl (by omega) ?_
    refine w_return (pc' := 60) ⟨rfl, rfl⟩ ?_
    exact k F hI
  | succ j ih =>
    intro f F hj hI k
    have hn := hV.1
    have hf : (f : Int) < zNF t s := by omega
    have hce := (hV.2 f hf).2
    refine w_iload_n (pc' := 3) ⟨rfl, rfl⟩ rfl ?_
    refine w_aload_n (pc' := 4) ⟨rfl, rfl⟩ rfl ?_
    refine w_iload_n (pc' := 5) ⟨rfl, rfl⟩ rfl ?_
    refine w_cv2 (pc' := 8) ⟨rfl, rfl⟩ (by decide) (zOl hF rfl) (Nat.le_of_ble_eq_true rfl) (Nat.le_of_ble_eq_true rfl) (r_fieldMany (σ := (zrL σ 170 F)) hF hT hs ?_)
    refine w_icF_ge (pc' := 11) ⟨rfl, rfl⟩ (by omega) ?_
    refine w_ic (pc' := 12) ⟨rfl, rfl⟩ ?_
    refine w_istore (pc' := 14) ⟨rfl, rfl⟩ rfl ?_
    refine w_at (ls2 := [(0, .ref 164), (1, .int (iZ s)), (2, .int (iZ r)), (3, .int (iZ f)), (4, .int (iZ ((0 : Nat) : Int)))]) ⟨rfl, rfl, rfl, rfl, rfl, trivial⟩ (l_lay2 hF hT hV hs hr hf (zCE t s f).toNat 0 F (by omega) hI (fun F hI => ?_))
    refine w_iincZ (pc' := 56) ⟨rfl, rfl⟩ rfl rfl ?_
    refine w_goto (pc' := 59) (pcT := 2) ⟨rfl, rfl⟩ rfl ?_
    refine w_at ?_ (ih (f + 1) F (by omega) hI k)
    exact ⟨rfl, rfl, rfl, rfl, trivial⟩
theorem r_laysRecord {σ : zSt} {t : zBk} {s : Nat} (hF : zFx σ) (hT : zTr σ t) (hV : zVs t s) (hs : s < 3) {r : Nat} (hr : r < 8) {Q : zSt → Option Value → Prop} (k : ∀ F, zWr t s r (fun _ _ => lZ 0) (zL σ 170) F → Q (zrL σ 170 F) none) : zCa 268 [.ref 164, .int (iZ s), .int (iZ r)] σ Q := by
  refine w_enter (c := zk_X12_laysRecord) (ls2 := [(0, .ref 164), (1, .int (iZ s)), (2, .int (iZ r))]) rfl ⟨rfl, rfl, rfl, trivial⟩ ?_
  have hn := hV.1
  refine w_ic (pc' := 1) ⟨rfl, rfl⟩ ?_
  refine w_istore_n (pc' := 2) ⟨rfl, rfl⟩ rfl ?_
  refine w_sto (zrL_self (o := 170)).symm ?_
  refine w_at ?_ (l_lay1 hF hT hV hs hr (zNF t s).toNat 0 _ (by omega) zWk_0 k)
  exact ⟨rfl, rfl, rfl, rfl, trivial⟩
