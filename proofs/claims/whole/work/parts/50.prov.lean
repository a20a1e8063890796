/-! PROVED -/
def zex (P : Nat → Bool) : Nat → Bool
  | 0 => false
  | n + 1 => zex P n || P n
theorem zex_iff {P : Nat → Bool} : ∀ {n : Nat}, zex P n = true ↔ ∃ j, j < n ∧ P j = true
  | 0 => ⟨(fun h => by cases h), (fun ⟨j, h, _⟩ => by omega)⟩
  | n + 1 => by
    rw [zex, Bool.or_eq_true, zex_iff]
    constructor
    · rintro (⟨j, h1, h2⟩ | h)
      · exact ⟨j, by omega, h2⟩
      · exact ⟨n, by omega, h⟩
    · rintro ⟨j, h1, h2⟩
      by_cases h : j = n
      · subst h; exact Or.inr h2
      · exact Or.inl ⟨j, by omega, h2⟩
/-- a rule among the first n carries field f alone to field g -/
def zaB (t : zBk) (c : Nat) (f g : Nat) : Nat → Bool := zex (fun r => decide (zRT t c r = g) && decide (zRS t c r = 0) && decide (zR1 t c r = f))
def zas (a b : Int) : Prop := (a = 4 ∧ b = 6) ∨ (a = 5 ∧ (b = 6 ∨ b = 7))
/-- field f of the one comes back whole by field g of the other -/
def zPW (t : zBk) (c f g : Nat) : Bool := decide (zgi (zKD t (zFO t c).toNat f) (zKD t (zTO t c).toNat g)) && !(decide ((zKD t (zFO t c).toNat f = 4 ∧ zKD t (zTO t c).toNat g = 6) ∨ (zKD t (zFO t c).toNat f = 5 ∧ (zKD t (zTO t c).toNat g = 6 ∨ zKD t (zTO t c).toNat g = 7)))) && decide (zCE t (zFO t c).toNat f ≤ zCE t (zTO t c).toNat g)
def zPV (t : zBk) (c d f g : Nat) : Bool := zaB t c f g (zNU t c).toNat && zaB t d g f (zNU t d).toNat && zPW t c f g
theorem zbn_congr {P Q : Nat → Bool} : ∀ n, (∀ j, j < n → P j = Q j) → zbn P n = zbn Q n
  | 0, _ => rfl
  | n + 1, h => by rw [zbn, zbn, zbn_congr n (fun j hj => h j (by omega)), h n (by omega)]
theorem zbn_one {f : Nat} : ∀ n, zbn (fun j => decide (j = f)) n = if f < n then 2 ^ f else 0
  | 0 => by rw [if_neg (by omega)]; rfl
  | n + 1 => by
    rw [zbn, zbn_one n]
    by_cases h : n = f
    · subst h; simp
    · rw [show decide (n = f) = false by simpa using h]
      by_cases h2 : f < n
      · rw [if_pos h2, if_pos (show f < n + 1 by omega)]; simp
      · rw [if_neg h2, if_neg (show ¬ f < n + 1 by omega)]; simp
theorem zbn_set (P : Nat → Bool) {f : Nat} (hf : f < 24) : iZ (zbn P 24 : Nat) ||| (iZ 1 <<< (iZ f &&& 31)) = iZ (zbn (fun j => P j || decide (j = f)) 24 : Nat) := by
  have e : iZ 1 <<< (iZ f &&& 31) = iZ (zbn (fun j => decide (j = f)) 24 : Nat) := by
    rw [iZ_shl 1 (by omega), zbn_one, if_pos hf, Int.one_mul]; norm_cast
  rw [e, iZ_lor (zbn_lt _ 24) (zbn_lt _ 24), zbn_or]
theorem zbn_0 : zbn (fun _ => false) 24 = 0 := by decide
theorem c_isAlone {σ : zSt} {ro c r : Nat} {t : zBk} (hF : zFx σ) (hVt : zVt t) (hc : (c : Int) < t 1) (hr : (r : Int) < zNU t c) (hRo : zO σ ro 5) (hR : zRu σ ro t c r) {a b : Int} (ha : -2147483648 ≤ a ∧ a ≤ 2147483647) (hb : -2147483648 ≤ b ∧ b ≤ 2147483647) {Q : zSt → Option Value → Prop} (k1 : zRS t c r = 0 ∧ zR1 t c r = a ∧ zRT t c r = b → Q σ (some (.int (iZ 1)))) (k0 : ¬ (zRS t c r = 0 ∧ zR1 t c r = a ∧ zRT t c r = b) → Q σ (some (.int (iZ 0)))) : zCa 94 [.ref ro, .int (iZ a), .int (iZ b)] σ Q := by
  refine w_enter (c := zk_X7_isAlone) (ls2 := [(0, .ref ro), (1, .int (iZ a)), (2, .int (iZ b))]) rfl ⟨rfl, rfl, rfl, trivial⟩ ?_
  have hrv := (hVt.2.2.2 c hc).2.2.2.2.1 r hr
  have hrt := hrv.1
  have hrs := hrv.2.1
  have hr1 := hrv.2.2.1
  have hr4 := hrv.2.2.2.1
  clear hrv
  have hfo := (hVt.2.2.2 c hc).1
  have hto := (hVt.2.2.2 c hc).2.1
  have hnf := (hVt.2.2.1 (zFO t c).toNat (by have := hVt.1; omega)).1.1
  have hnt := (hVt.2.2.1 (zTO t c).toNat (by have := hVt.1; omega)).1.1
  refine w_aload_n (pc' := 1) ⟨rfl, rfl⟩ rfl ?_
  refine w_getI (pc' := 4) (cl := 5) (q := 1) ⟨rfl, rfl⟩ ⟨rfl, by decide⟩ hRo hR.2.1 ?_
  refine w_if_ne (pc' := 7) (pcT := 27) ⟨rfl, rfl⟩ rfl (by omega) (fun h1 => ?_) (fun h1 => ?_)
  · refine w_ic (pc' := 28) ⟨rfl, rfl⟩ ?_
    refine w_ireturn (pc' := 29) ⟨rfl, rfl⟩ (by decide) ?_
    first | exact k1 (by omega) | exact k0 (by omega)
  · refine w_aload_n (pc' := 8) ⟨rfl, rfl⟩ rfl ?_
    refine w_getI (pc' := 11) (cl := 5) (q := 2) ⟨rfl, rfl⟩ ⟨rfl, by decide⟩ hRo hR.2.2.1 ?_
    refine w_iload_n (pc' := 12) ⟨rfl, rfl⟩ rfl ?_
    refine w_ic_ne (pc' := 15) (pcT := 27) ⟨rfl, rfl⟩ rfl (by omega) (by omega) (fun h2 => ?_) (fun h2 => ?_)
    · refine w_ic (pc' := 28) ⟨rfl, rfl⟩ ?_
      refine w_ireturn (pc' := 29) ⟨rfl, rfl⟩ (by decide) ?_
      first | exact k1 (by omega) | exact k0 (by omega)
    · refine w_aload_n (pc' := 16) ⟨rfl, rfl⟩ rfl ?_
      refine w_getI (pc' := 19) (cl := 5) (q := 0) ⟨rfl, rfl⟩ ⟨rfl, by decide⟩ hRo hR.1 ?_
      refine w_iload_n (pc' := 20) ⟨rfl, rfl⟩ rfl ?_
      refine w_ic_ne (pc' := 23) (pcT := 27) ⟨rfl, rfl⟩ rfl (by omega) (by omega) (fun h3 => ?_) (fun h3 => ?_)
      · refine w_ic (pc' := 28) ⟨rfl, rfl⟩ ?_
        refine w_ireturn (pc' := 29) ⟨rfl, rfl⟩ (by decide) ?_
        first | exact k1 (by omega) | exact k0 (by omega)
      · refine w_ic (pc' := 24) ⟨rfl, rfl⟩ ?_
        refine w_goto (pc' := 27) (pcT := 28) ⟨rfl, rfl⟩ rfl ?_
        refine w_ireturn (pc' := 29) ⟨rfl, rfl⟩ (by decide) ?_
        first | exact k1 (by omega) | exact k0 (by omega)
theorem l_cal {σ : zSt} {o c : Nat} {t : zBk} (hF : zFx σ) (hVt : zVt t) (hc : (c : Int) < t 1) (hG : zIsG o) (hPg : zPg σ o t c) {f g : Nat} (hf : f < 1000) (hg : g < 1000) {Q : zSt → Option Value → Prop} : ∀ (n : Nat) (r : Nat), ((r : Int) + n = zNU t c) → zaB t c f g r = false → (zaB t c f g (zNU t c).toNat = true → Q σ (some (.int (iZ 1)))) → (zaB t c f g (zNU t c).toNat = false → Q σ (some (.int (iZ 0)))) → zP zk_X3_carriesAlone 2 [(0, .ref o), (1, .int (iZ f)), (2, .int (iZ g)), (3, .int (iZ r))] [] σ Q := by
  intro n
  induction n with
  | zero =>
    intro r hi hI k1 k0
    have hnu := (hVt.2.2.2 c hc).2.2.2.1
    obtain rfl : r = (zNU t c).toNat := by omega
    refine w_iload_n (pc' := 3) ⟨rfl, rfl⟩ rfl ?_
    refine w_aload_n (pc' := 4) ⟨rfl, rfl⟩ rfl ?_
    refine w_getI (pc' := 7) (cl := 2) (q := 3) ⟨rfl, rfl⟩ ⟨rfl, by decide⟩ (hG.o hF) hPg.2.2.1 ?_
    refine w_icT_ge (pc' := 10) (pcT := 40) ⟨rfl, rfl⟩ rfl (by omega) ?_
    refine w_ic (pc' := 41) ⟨rfl, rfl⟩ ?_
    refine w_ireturn (pc' := 42) ⟨rfl, rfl⟩ (by decide) ?_
    exact k0 hI
  | succ n ih =>
    intro r hi hI k1 k0
    have hnu := (hVt.2.2.2 c hc).2.2.2.1
    have hr : (r : Int) < zNU t c := by omega
    have hR := hPg.2.2.2 r hr
    have hRo := (hG.r hF (show r < 6 by omega)).2
    refine w_iload_n (pc' := 3) ⟨rfl, rfl⟩ rfl ?_
    refine w_aload_n (pc' := 4) ⟨rfl, rfl⟩ rfl ?_
    refine w_getI (pc' := 7) (cl := 2) (q := 3) ⟨rfl, rfl⟩ ⟨rfl, by decide⟩ (hG.o hF) hPg.2.2.1 ?_
    refine w_icF_ge (pc' := 10) ⟨rfl, rfl⟩ (by omega) ?_
    refine w_aload_n (pc' := 11) ⟨rfl, rfl⟩ rfl ?_
    refine w_iload_n (pc' := 12) ⟨rfl, rfl⟩ rfl ?_
    refine w_cv2 (pc' := 15) ⟨rfl, rfl⟩ (by decide) (hG.o hF) (Nat.le_of_ble_eq_true rfl) (Nat.le_of_ble_eq_true rfl) (c_ruleAt hF hG hPg.2.2.1 (by omega) (by omega) (fun h => ?_) (fun h => ?_))
    · rw [show (r : Int).toNat = r from rfl]
      refine w_astore (pc' := 17) ⟨rfl, rfl⟩ rfl ?_
      refine w_aload (pc' := 19) ⟨rfl, rfl⟩ rfl ?_
      refine w_ifnullR (pc' := 22) (pcT := 34) ⟨rfl, rfl⟩ rfl  ?_
      refine w_aload (pc' := 24) ⟨rfl, rfl⟩ rfl ?_
      refine w_iload_n (pc' := 25) ⟨rfl, rfl⟩ rfl ?_
      refine w_iload_n (pc' := 26) ⟨rfl, rfl⟩ rfl ?_
      refine w_cv3 (pc' := 29) ⟨rfl, rfl⟩ (by decide) hRo (Nat.le_of_ble_eq_true rfl) (Nat.le_of_ble_eq_true rfl) (c_isAlone hF hVt hc hr hRo hR (by omega) (by omega) (fun h => ?_) (fun h => ?_))
      · refine w_ifF_eq (pc' := 32) ⟨rfl, rfl⟩ (by decide) ?_
        refine w_ic (pc' := 33) ⟨rfl, rfl⟩ ?_
        refine w_ireturn (pc' := 34) ⟨rfl, rfl⟩ (by decide) ?_
        exact k1 (zex_iff.mpr ⟨r, by omega, by simp only [Bool.and_eq_true, decide_eq_true_eq]; omega⟩)
      · refine w_ifT_eq (pc' := 32) (pcT := 34) ⟨rfl, rfl⟩ rfl (by decide) ?_
        refine w_iincZ (pc' := 37) ⟨rfl, rfl⟩ rfl rfl ?_
        refine w_goto (pc' := 40) (pcT := 2) ⟨rfl, rfl⟩ rfl ?_
        refine w_at ?_ (ih (r + 1) (by omega) (by show (zex _ r || _) = false; rw [show zex _ r = false from hI, Bool.false_or]; simp only [Bool.and_eq_false_iff, decide_eq_false_iff_not]; omega) k1 k0)
        exact ⟨rfl, rfl, rfl, rfl, trivial⟩
    · exfalso; omega
theorem c_carriesAlone {σ : zSt} {o c : Nat} {t : zBk} (hF : zFx σ) (hVt : zVt t) (hc : (c : Int) < t 1) (hG : zIsG o) (hPg : zPg σ o t c) {f g : Nat} (hf : f < 1000) (hg : g < 1000) {Q : zSt → Option Value → Prop} (k1 : zaB t c f g (zNU t c).toNat = true → Q σ (some (.int (iZ 1)))) (k0 : zaB t c f g (zNU t c).toNat = false → Q σ (some (.int (iZ 0)))) : zCa 54 [.ref o, .int (iZ f), .int (iZ g)] σ Q := by
  refine w_enter (c := zk_X3_carriesAlone) (ls2 := [(0, .ref o), (1, .int (iZ f)), (2, .int (iZ g))]) rfl ⟨rfl, rfl, rfl, trivial⟩ ?_
  have hnu := (hVt.2.2.2 c hc).2.2.2.1
  refine w_ic (pc' := 1) ⟨rfl, rfl⟩ ?_
  refine w_istore_n (pc' := 2) ⟨rfl, rfl⟩ rfl ?_
  refine w_at ?_ (l_cal hF hVt hc hG hPg hf hg (zNU t c).toNat 0 (by omega) rfl k1 k0)
  exact ⟨rfl, rfl, rfl, rfl, trivial⟩
theorem l_ral {σ : zSt} {c : Nat} {t : zBk} (hF : zFx σ) (hT : zTr σ t) (hVt : zVt t) (hc : (c : Int) < t 1) {f g : Nat} (hf : f < 1000) (hg : g < 1000) {Q : zSt → Option Value → Prop} : ∀ (n : Nat) (r : Nat), ((r : Int) + n = zNU t c) → zaB t c f g r = false → (zaB t c f g (zNU t c).toNat = true → Q σ (some (.int (iZ 1)))) → (zaB t c f g (zNU t c).toNat = false → Q σ (some (.int (iZ 0)))) → zP zk_X12_isAlone 3 [(0, .ref 164), (1, .int (iZ c)), (2, .int (iZ f)), (3, .int (iZ g)), (4, .int (iZ r))] [] σ Q := by
  intro n
  induction n with
  | zero =>
    intro r hi hI k1 k0
    have hnu := (hVt.2.2.2 c hc).2.2.2.1
    have ht1 := hVt.2.1
    obtain rfl : r = (zNU t c).toNat := by omega
    refine w_iload (pc' := 5) ⟨rfl, rfl⟩ rfl ?_
    refine w_aload_n (pc' := 6) ⟨rfl, rfl⟩ rfl ?_
    refine w_iload_n (pc' := 7) ⟨rfl, rfl⟩ rfl ?_
    refine w_cv2 (pc' := 10) ⟨rfl, rfl⟩ (by decide) (zOl hF rfl) (Nat.le_of_ble_eq_true rfl) (Nat.le_of_ble_eq_true rfl) (r_ruleMany hF hT (by omega) ?_)
    refine w_icT_ge (pc' := 13) (pcT := 56) ⟨rfl, rfl⟩ rfl (by omega) ?_
    refine w_ic (pc' := 57) ⟨rfl, rfl⟩ ?_
    refine w_ireturn (pc' := 58) ⟨rfl, rfl⟩ (by decide) ?_
    exact k0 hI
  | succ n ih =>
    intro r hi hI k1 k0
    have hnu := (hVt.2.2.2 c hc).2.2.2.1
    have ht1 := hVt.2.1
    have hr : (r : Int) < zNU t c := by omega
    have hrv := (hVt.2.2.2 c hc).2.2.2.2.1 r hr
    have hrt := hrv.1
    have hrs := hrv.2.1
    have hr1 := hrv.2.2.1
    have hr4 := hrv.2.2.2.1
    clear hrv
    have hfo := (hVt.2.2.2 c hc).1
    have hto := (hVt.2.2.2 c hc).2.1
    have hnf := (hVt.2.2.1 (zFO t c).toNat (by have := hVt.1; omega)).1.1
    have hnt := (hVt.2.2.1 (zTO t c).toNat (by have := hVt.1; omega)).1.1
    refine w_iload (pc' := 5) ⟨rfl, rfl⟩ rfl ?_
    refine w_aload_n (pc' := 6) ⟨rfl, rfl⟩ rfl ?_
    refine w_iload_n (pc' := 7) ⟨rfl, rfl⟩ rfl ?_
    refine w_cv2 (pc' := 10) ⟨rfl, rfl⟩ (by decide) (zOl hF rfl) (Nat.le_of_ble_eq_true rfl) (Nat.le_of_ble_eq_true rfl) (r_ruleMany hF hT (by omega) ?_)
    refine w_icF_ge (pc' := 13) ⟨rfl, rfl⟩ (by omega) ?_
    refine w_aload_n (pc' := 14) ⟨rfl, rfl⟩ rfl ?_
    refine w_iload_n (pc' := 15) ⟨rfl, rfl⟩ rfl ?_
    refine w_iload (pc' := 17) ⟨rfl, rfl⟩ rfl ?_
    refine w_ic (pc' := 18) ⟨rfl, rfl⟩ ?_
    refine w_cv4 (pc' := 21) ⟨rfl, rfl⟩ (by decide) (zOl hF rfl) (Nat.le_of_ble_eq_true rfl) (Nat.le_of_ble_eq_true rfl) (r_ruleHas0 hF hT (by omega) (by omega) ?_)
    refine w_iload_n (pc' := 22) ⟨rfl, rfl⟩ rfl ?_
    refine w_ic_ne (pc' := 25) (pcT := 50) ⟨rfl, rfl⟩ rfl (by omega) (by omega) (fun h1 => ?_) (fun h1 => ?_)
    · refine w_iincZ (pc' := 53) ⟨rfl, rfl⟩ rfl rfl ?_
      refine w_goto (pc' := 56) (pcT := 3) ⟨rfl, rfl⟩ rfl ?_
      refine w_at ?_ (ih (r + 1) (by omega) (by show (zex _ r || _) = false; rw [show zex _ r = false from hI, Bool.false_or]; simp only [Bool.and_eq_false_iff, decide_eq_false_iff_not]; omega) k1 k0)
      exact ⟨rfl, rfl, rfl, rfl, rfl, trivial⟩
    · refine w_aload_n (pc' := 26) ⟨rfl, rfl⟩ rfl ?_
      refine w_iload_n (pc' := 27) ⟨rfl, rfl⟩ rfl ?_
      refine w_iload (pc' := 29) ⟨rfl, rfl⟩ rfl ?_
      refine w_ic (pc' := 30) ⟨rfl, rfl⟩ ?_
      refine w_cv4 (pc' := 33) ⟨rfl, rfl⟩ (by decide) (zOl hF rfl) (Nat.le_of_ble_eq_true rfl) (Nat.le_of_ble_eq_true rfl) (r_ruleHas1 hF hT (by omega) (by omega) ?_)
      refine w_if_ne (pc' := 36) (pcT := 50) ⟨rfl, rfl⟩ rfl (by omega) (fun h2 => ?_) (fun h2 => ?_)
      · refine w_iincZ (pc' := 53) ⟨rfl, rfl⟩ rfl rfl ?_
        refine w_goto (pc' := 56) (pcT := 3) ⟨rfl, rfl⟩ rfl ?_
        refine w_at ?_ (ih (r + 1) (by omega) (by show (zex _ r || _) = false; rw [show zex _ r = false from hI, Bool.false_or]; simp only [Bool.and_eq_false_iff, decide_eq_false_iff_not]; omega) k1 k0)
        exact ⟨rfl, rfl, rfl, rfl, rfl, trivial⟩
      · refine w_aload_n (pc' := 37) ⟨rfl, rfl⟩ rfl ?_
        refine w_iload_n (pc' := 38) ⟨rfl, rfl⟩ rfl ?_
        refine w_iload (pc' := 40) ⟨rfl, rfl⟩ rfl ?_
        refine w_ic (pc' := 41) ⟨rfl, rfl⟩ ?_
        refine w_cv4 (pc' := 44) ⟨rfl, rfl⟩ (by decide) (zOl hF rfl) (Nat.le_of_ble_eq_true rfl) (Nat.le_of_ble_eq_true rfl) (r_ruleHas2 hF hT (by omega) (by omega) ?_)
        refine w_iload_n (pc' := 45) ⟨rfl, rfl⟩ rfl ?_
        refine w_ic_ne (pc' := 48) (pcT := 50) ⟨rfl, rfl⟩ rfl (by omega) (by omega) (fun h3 => ?_) (fun h3 => ?_)
        · refine w_iincZ (pc' := 53) ⟨rfl, rfl⟩ rfl rfl ?_
          refine w_goto (pc' := 56) (pcT := 3) ⟨rfl, rfl⟩ rfl ?_
          refine w_at ?_ (ih (r + 1) (by omega) (by show (zex _ r || _) = false; rw [show zex _ r = false from hI, Bool.false_or]; simp only [Bool.and_eq_false_iff, decide_eq_false_iff_not]; omega) k1 k0)
          exact ⟨rfl, rfl, rfl, rfl, rfl, trivial⟩
        · refine w_ic (pc' := 49) ⟨rfl, rfl⟩ ?_
          refine w_ireturn (pc' := 50) ⟨rfl, rfl⟩ (by decide) ?_
          exact k1 (zex_iff.mpr ⟨r, by omega, by simp only [Bool.and_eq_true, decide_eq_true_eq]; omega⟩)
theorem r_isAlone {σ : zSt} {c : Nat} {t : zBk} (hF : zFx σ) (hT : zTr σ t) (hVt : zVt t) (hc : (c : Int) < t 1) {f g : Nat} (hf : f < 1000) (hg : g < 1000) {Q : zSt → Option Value → Prop} (k1 : zaB t c f g (zNU t c).toNat = true → Q σ (some (.int (iZ 1)))) (k0 : zaB t c f g (zNU t c).toNat = false → Q σ (some (.int (iZ 0)))) : zCa 294 [.ref 164, .int (iZ c), .int (iZ f), .int (iZ g)] σ Q := by
  refine w_enter (c := zk_X12_isAlone) (ls2 := [(0, .ref 164), (1, .int (iZ c)), (2, .int (iZ f)), (3, .int (iZ g))]) rfl ⟨rfl, rfl, rfl, rfl, trivial⟩ ?_
  have hnu := (hVt.2.2.2 c hc).2.2.2.1
  have ht1 := hVt.2.1
  refine w_ic (pc' := 1) ⟨rfl, rfl⟩ ?_
  refine w_istore (pc' := 3) ⟨rfl, rfl⟩ rfl ?_
  refine w_at ?_ (l_ral hF hT hVt hc hf hg (zNU t c).toNat 0 (by omega) rfl k1 k0)
  exact ⟨rfl, rfl, rfl, rfl, rfl, trivial⟩
theorem r_isProved {σ : zSt} {c : Nat} {t : zBk} (hF : zFx σ) (hT : zTr σ t) (hVt : zVt t) (hc : (c : Int) < t 1) (hW : zWid σ) {d : Nat} (hd : (d : Int) < t 1) {f g : Nat} (hf : (f : Int) < zNF t (zFO t c).toNat) (hg : (g : Int) < zNF t (zTO t c).toNat) {Q : zSt → Option Value → Prop} (k1 : zPV t c d f g = true → Q σ (some (.int (iZ 1)))) (k0 : zPV t c d f g = false → Q σ (some (.int (iZ 0)))) : zCa 295 [.ref 164, .int (iZ c), .int (iZ d), .int (iZ f), .int (iZ g)] σ Q := by
  refine w_enter (c := zk_X12_isProved) (ls2 := [(0, .ref 164), (1, .int (iZ c)), (2, .int (iZ d)), (3, .int (iZ f)), (4, .int (iZ g))]) rfl ⟨rfl, rfl, rfl, rfl, rfl, trivial⟩ ?_
  have ht1 := hVt.2.1
  have ht00 := hVt.1
  have hfo := (hVt.2.2.2 c hc).1
  have hto := (hVt.2.2.2 c hc).2.1
  obtain ⟨f0, hf0⟩ : ∃ q : Nat, zFO t c = q := ⟨(zFO t c).toNat, by omega⟩
  obtain ⟨t0, ht0⟩ : ∃ q : Nat, zTO t c = q := ⟨(zTO t c).toNat, by omega⟩
  have ef : (zFO t c).toNat = f0 := by omega
  have et : (zTO t c).toNat = t0 := by omega
  rw [ef] at hf
  rw [et] at hg
  have hvf := (hVt.2.2.1 f0 (by omega)).1
  have hvt := (hVt.2.2.1 t0 (by omega)).1
  have hnf := hvf.1
  have hnt := hvt.1
  have hk1 := hvf.2 f hf
  have hk2 := hvt.2 g hg
  obtain ⟨ka, hka⟩ : ∃ q : Nat, zKD t f0 f = q := ⟨(zKD t f0 f).toNat, by omega⟩
  obtain ⟨kb, hkb⟩ : ∃ q : Nat, zKD t t0 g = q := ⟨(zKD t t0 g).toNat, by omega⟩
  refine w_aload_n (pc' := 1) ⟨rfl, rfl⟩ rfl ?_
  refine w_aload_n (pc' := 2) ⟨rfl, rfl⟩ rfl ?_
  refine w_iload_n (pc' := 3) ⟨rfl, rfl⟩ rfl ?_
  refine w_cv2 (pc' := 6) ⟨rfl, rfl⟩ (by decide) (zOl hF rfl) (Nat.le_of_ble_eq_true rfl) (Nat.le_of_ble_eq_true rfl) (r_fromOf hF hT (by omega) ?_)
  rw [hf0]
  refine w_iload_n (pc' := 7) ⟨rfl, rfl⟩ rfl ?_
  refine w_cv3 (pc' := 10) ⟨rfl, rfl⟩ (by decide) (zOl hF rfl) (Nat.le_of_ble_eq_true rfl) (Nat.le_of_ble_eq_true rfl) (r_kindOf hF hT (by omega) (by omega) ?_)
  rw [hka]
  refine w_istore (pc' := 12) ⟨rfl, rfl⟩ rfl ?_
  refine w_aload_n (pc' := 13) ⟨rfl, rfl⟩ rfl ?_
  refine w_aload_n (pc' := 14) ⟨rfl, rfl⟩ rfl ?_
  refine w_iload_n (pc' := 15) ⟨rfl, rfl⟩ rfl ?_
  refine w_cv2 (pc' := 18) ⟨rfl, rfl⟩ (by decide) (zOl hF rfl) (Nat.le_of_ble_eq_true rfl) (Nat.le_of_ble_eq_true rfl) (r_toOf hF hT (by omega) ?_)
  rw [ht0]
  refine w_iload (pc' := 20) ⟨rfl, rfl⟩ rfl ?_
  refine w_cv3 (pc' := 23) ⟨rfl, rfl⟩ (by decide) (zOl hF rfl) (Nat.le_of_ble_eq_true rfl) (Nat.le_of_ble_eq_true rfl) (r_kindOf hF hT (by omega) (by omega) ?_)
  rw [hkb]
  refine w_istore (pc' := 25) ⟨rfl, rfl⟩ rfl ?_
  refine w_aload_n (pc' := 26) ⟨rfl, rfl⟩ rfl ?_
  refine w_iload_n (pc' := 27) ⟨rfl, rfl⟩ rfl ?_
  refine w_iload_n (pc' := 28) ⟨rfl, rfl⟩ rfl ?_
  refine w_iload (pc' := 30) ⟨rfl, rfl⟩ rfl ?_
  refine w_cv4 (pc' := 33) ⟨rfl, rfl⟩ (by decide) (zOl hF rfl) (Nat.le_of_ble_eq_true rfl) (Nat.le_of_ble_eq_true rfl) (r_isAlone hF hT hVt hc (by omega) (by omega) (fun ha1 => ?_) (fun ha1 => ?_))
  · refine w_ifF_eq (pc' := 36) ⟨rfl, rfl⟩ (by decide) ?_
    refine w_aload_n (pc' := 37) ⟨rfl, rfl⟩ rfl ?_
    refine w_iload_n (pc' := 38) ⟨rfl, rfl⟩ rfl ?_
    refine w_iload (pc' := 40) ⟨rfl, rfl⟩ rfl ?_
    refine w_iload_n (pc' := 41) ⟨rfl, rfl⟩ rfl ?_
    refine w_cv4 (pc' := 44) ⟨rfl, rfl⟩ (by decide) (zOl hF rfl) (Nat.le_of_ble_eq_true rfl) (Nat.le_of_ble_eq_true rfl) (r_isAlone hF hT hVt hd (by omega) (by omega) (fun ha2 => ?_) (fun ha2 => ?_))
    · refine w_ifF_eq (pc' := 47) ⟨rfl, rfl⟩ (by decide) ?_
      refine w_aload_n (pc' := 48) ⟨rfl, rfl⟩ rfl ?_
      refine w_iload (pc' := 50) ⟨rfl, rfl⟩ rfl ?_
      refine w_iload (pc' := 52) ⟨rfl, rfl⟩ rfl ?_
      refine w_cv3 (pc' := 55) ⟨rfl, rfl⟩ (by decide) (zOl hF rfl) (Nat.le_of_ble_eq_true rfl) (Nat.le_of_ble_eq_true rfl) (r_doesWiden hF hW (by omega) (by omega) (fun hw => ?_) (fun hw => ?_))
      · refine w_ifF_eq (pc' := 58) ⟨rfl, rfl⟩ (by decide) ?_
        refine w_iload (pc' := 60) ⟨rfl, rfl⟩ rfl ?_
        refine w_iload (pc' := 62) ⟨rfl, rfl⟩ rfl ?_
        refine w_cs2 (pc' := 65) ⟨rfl, rfl⟩ (by decide) (Nat.le_of_ble_eq_true rfl) (Nat.le_of_ble_eq_true rfl) (r_isAside (by omega) (by omega) (fun hs => ?_) (fun hs => ?_))
        · refine w_ifT_ne (pc' := 68) (pcT := 96) ⟨rfl, rfl⟩ rfl (by decide) ?_
          refine w_ic (pc' := 97) ⟨rfl, rfl⟩ ?_
          refine w_ireturn (pc' := 98) ⟨rfl, rfl⟩ (by decide) ?_
          exact k0 (by unfold zPV zPW; rw [ef, et, hka, hkb, decide_eq_true hs]; simp)
        · refine w_ifF_ne (pc' := 68) ⟨rfl, rfl⟩ (by decide) ?_
          refine w_aload_n (pc' := 69) ⟨rfl, rfl⟩ rfl ?_
          refine w_aload_n (pc' := 70) ⟨rfl, rfl⟩ rfl ?_
          refine w_iload_n (pc' := 71) ⟨rfl, rfl⟩ rfl ?_
          refine w_cv2 (pc' := 74) ⟨rfl, rfl⟩ (by decide) (zOl hF rfl) (Nat.le_of_ble_eq_true rfl) (Nat.le_of_ble_eq_true rfl) (r_toOf hF hT (by omega) ?_)
          rw [ht0]
          refine w_iload (pc' := 76) ⟨rfl, rfl⟩ rfl ?_
          refine w_cv3 (pc' := 79) ⟨rfl, rfl⟩ (by decide) (zOl hF rfl) (Nat.le_of_ble_eq_true rfl) (Nat.le_of_ble_eq_true rfl) (r_cellsOf hF hT (by omega) (by omega) ?_)
          refine w_aload_n (pc' := 80) ⟨rfl, rfl⟩ rfl ?_
          refine w_aload_n (pc' := 81) ⟨rfl, rfl⟩ rfl ?_
          refine w_iload_n (pc' := 82) ⟨rfl, rfl⟩ rfl ?_
          refine w_cv2 (pc' := 85) ⟨rfl, rfl⟩ (by decide) (zOl hF rfl) (Nat.le_of_ble_eq_true rfl) (Nat.le_of_ble_eq_true rfl) (r_fromOf hF hT (by omega) ?_)
          rw [hf0]
          refine w_iload_n (pc' := 86) ⟨rfl, rfl⟩ rfl ?_
          refine w_cv3 (pc' := 89) ⟨rfl, rfl⟩ (by decide) (zOl hF rfl) (Nat.le_of_ble_eq_true rfl) (Nat.le_of_ble_eq_true rfl) (r_cellsOf hF hT (by omega) (by omega) ?_)
          refine w_ic_lt (pc' := 92) (pcT := 96) ⟨rfl, rfl⟩ rfl (by omega) (by omega) (fun h1 => ?_) (fun h1 => ?_)
          · refine w_ic (pc' := 97) ⟨rfl, rfl⟩ ?_
            refine w_ireturn (pc' := 98) ⟨rfl, rfl⟩ (by decide) ?_
            exact k0 (by unfold zPV zPW; rw [ef, et, hka, hkb, decide_eq_false (p := zCE t f0 f ≤ zCE t t0 g) (by omega)]; simp)
          · refine w_ic (pc' := 93) ⟨rfl, rfl⟩ ?_
            refine w_goto (pc' := 96) (pcT := 97) ⟨rfl, rfl⟩ rfl ?_
            refine w_ireturn (pc' := 98) ⟨rfl, rfl⟩ (by decide) ?_
            exact k1 (by unfold zPV zPW; rw [ha1, ha2, ef, et, hka, hkb, decide_eq_true hw, decide_eq_false hs, decide_eq_true (by omega)]; rfl)
      · refine w_ifT_eq (pc' := 58) (pcT := 96) ⟨rfl, rfl⟩ rfl (by decide) ?_
        refine w_ic (pc' := 97) ⟨rfl, rfl⟩ ?_
        refine w_ireturn (pc' := 98) ⟨rfl, rfl⟩ (by decide) ?_
        exact k0 (by unfold zPV zPW; rw [ef, et, hka, hkb, decide_eq_false hw]; simp)
    · refine w_ifT_eq (pc' := 47) (pcT := 96) ⟨rfl, rfl⟩ rfl (by decide) ?_
      refine w_ic (pc' := 97) ⟨rfl, rfl⟩ ?_
      refine w_ireturn (pc' := 98) ⟨rfl, rfl⟩ (by decide) ?_
      exact k0 (by unfold zPV; rw [ha2, Bool.and_false]; rfl)
  · refine w_ifT_eq (pc' := 36) (pcT := 96) ⟨rfl, rfl⟩ rfl (by decide) ?_
    refine w_ic (pc' := 97) ⟨rfl, rfl⟩ ?_
    refine w_ireturn (pc' := 98) ⟨rfl, rfl⟩ (by decide) ?_
    exact k0 (by unfold zPV; rw [ha1]; rfl)
