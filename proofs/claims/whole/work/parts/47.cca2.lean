/-! COUNTED AS THE CLASS COUNTS -/
theorem zbn_bit (P : Nat → Bool) : ∀ n i, (zbn P n).testBit i = (decide (i < n) && P i)
  | 0, i => by simp [zbn]
  | n + 1, i => by
    have hl := zbn_lt P n
    have ih := zbn_bit P n i
    rw [zbn]
    split
    · rename_i h
      rw [show zbn P n + 2 ^ n = 2 ^ n * 1 + zbn P n by omega, Nat.testBit_two_pow_mul_add _ hl]
      split
      · rename_i hi; rw [ih]; simp [hi, Nat.lt_succ_of_lt hi]
      · rename_i hi
        by_cases he : i = n
        · subst he; simp [h]
        · rw [show (1 : Nat).testBit (i - n) = false by rw [show (1 : Nat) = 2 ^ 0 from rfl, Nat.testBit_two_pow]; simp; omega]
          rw [show decide (i < n + 1) = false by simp; omega, Bool.false_and]
    · rename_i h
      rw [Nat.add_zero, ih]
      by_cases he : i = n
      · subst he
        have : P i = false := by simpa using h
        rw [this]; simp
      · rw [show decide (i < n) = decide (i < n + 1) by congr 1; apply propext; omega]
theorem zbn_or (P Q : Nat → Bool) (n : Nat) : zbn P n ||| zbn Q n = zbn (fun j => P j || Q j) n := by
  apply Nat.eq_of_testBit_eq
  intro i
  rw [Nat.testBit_or, zbn_bit, zbn_bit, zbn_bit, Bool.and_or_distrib_left]
theorem iZ_lor {a b : Nat} (ha : a < 16777216) (hb : b < 16777216) : iZ (a : Int) ||| iZ (b : Int) = iZ ((a ||| b : Nat) : Int) := by
  have hq : a ||| b < 2 ^ 24 := Nat.or_lt_two_pow ha hb
  apply Int32.toBitVec_inj.mp
  apply BitVec.eq_of_toNat_eq
  rw [Int32.toBitVec_or, BitVec.toNat_or, iZ_nat (by omega), iZ_nat (by omega), iZ_nat (by omega)]
  rfl
def zrA (t : zBk) (c : Nat) : Nat → Nat → Bool
  | 0, _ => false
  | r + 1, j => zrA t c r j || zrp t c r j
theorem zrA_or (t : zBk) (c r : Nat) : iZ (zbn (zrA t c r) 24 : Nat) ||| iZ (zbn (zrp t c r) 24 : Nat) = iZ (zbn (zrA t c (r + 1)) 24 : Nat) := by
  rw [iZ_lor (zbn_lt _ 24) (zbn_lt _ 24), zbn_or]
  rfl
/-- counting -/
theorem zcb_le (P : Nat → Bool) : ∀ n, zcb P n ≤ n
  | 0 => Nat.le_refl _
  | n + 1 => by have := zcb_le P n; rw [zcb]; split <;> omega
theorem zcb_far {P : Nat → Bool} {n : Nat} (h : ∀ j, n ≤ j → P j = false) : ∀ k, zcb P (n + k) = zcb P n
  | 0 => rfl
  | k + 1 => by
    rw [show n + (k + 1) = n + k + 1 from rfl, zcb, h (n + k) (by omega), zcb_far h k]; rfl
theorem zcb_or {P Q : Nat → Bool} (h : ∀ j, P j = true → Q j = true → False) : ∀ n, zcb (fun j => P j || Q j) n = zcb P n + zcb Q n
  | 0 => rfl
  | n + 1 => by
    rw [zcb, zcb, zcb, zcb_or h n]
    have := h n
    cases hp : P n <;> cases hq : Q n <;> simp [hp, hq] at this ⊢ <;> omega
theorem zcb_iv {x l : Nat} : ∀ n, zcb (fun j => decide (x ≤ j) && decide (j < x + l)) n = min l (n - x)
  | 0 => by rw [zcb]; omega
  | n + 1 => by
    rw [zcb, zcb_iv n]
    by_cases h1 : x ≤ n
    · by_cases h2 : n < x + l
      · rw [if_pos (by simp [h1, h2])]; omega
      · rw [if_neg (by simp [h2])]; omega
    · rw [if_neg (by simp [h1])]; omega
/-- cells not marked are those whose positions are not -/
theorem zmi_cb {p : Nat → Int32} {P : Nat → Bool} {b x : Nat} : ∀ n, (∀ i, i < n → p (b + i) = iZ (if P (x + i) = true then 1 else 0)) → zmi p b n = (n : Int) - (zcb P (x + n) - zcb P x)
  | 0, _ => by show (0 : Int) = 0 - ((zcb P x : Int) - zcb P x); omega
  | n + 1, h => by
    show zmi p b n + (if p (b + n) = iZ 0 then 1 else 0) = _
    rw [zmi_cb n (fun i hi => h i (by omega)), h n (by omega), show x + (n + 1) = x + n + 1 from rfl, zcb]
    cases hP : P (x + n)
    · simp only [Bool.false_eq_true, if_false, if_true]; omega
    · simp only [if_true]
      rw [if_neg (show ¬ iZ 1 = iZ 0 by decide)]; omega
theorem zmc_cb {t : zBk} {s : Nat} (hV : zVs t s) {p : Nat → Int32} {P : Nat → Bool} (h : ∀ f i : Nat, (f : Int) < zNF t s → (i : Int) < zCE t s f → p (4 * f + i) = iZ (if P ((zst t s f).toNat + i) = true then 1 else 0)) : ∀ f : Nat, f ≤ zNF t s → zmc t s p f = zst t s f - zcb P (zst t s f).toNat
  | 0, _ => by show (0 : Int) = 0 - ((zcb P 0 : Nat) : Int); rfl
  | f + 1, hf => by
    have hce := (hV.2 f (by omega)).2
    have hr := zst_rng hV f (by omega)
    have e : zst t s (f + 1) = zst t s f + zCE t s f := rfl
    show zmc t s p f + zmi p (4 * f) (zCE t s f).toNat = _
    rw [zmc_cb hV h f (by omega), zmi_cb (P := P) (x := (zst t s f).toNat) (zCE t s f).toNat (fun i hi => h f i (by omega) (by omega)), e, show (zst t s f + zCE t s f).toNat = (zst t s f).toNat + (zCE t s f).toNat by omega]
    omega
/-- where a place of a field lies -/
theorem zst_in {t : zBk} {s : Nat} (hV : zVs t s) {f i g l : Nat} (hf : (f : Int) < zNF t s) (hi : (i : Int) < zCE t s f) (hg : (g : Int) < zNF t s) (hl : (l : Int) ≤ zCE t s g) : ((zst t s g).toNat ≤ (zst t s f).toNat + i ∧ (zst t s f).toNat + i < (zst t s g).toNat + l) ↔ (f = g ∧ i < l) := by
  have h1 := zst_24 hV hf
  have h2 := zst_24 hV hg
  rcases Nat.lt_trichotomy f g with q | q | q
  · have := zst_mono hV g q (by omega)
    omega
  · subst q; omega
  · have := zst_mono hV f q (by omega)
    omega
theorem zrp_rm {t : zBk} (hVt : zVt t) {c r : Nat} (hc : (c : Int) < t 1) (hr : (r : Int) < zNU t c) {f i : Nat} (hf : (f : Int) < zNF t (zFO t c).toNat) (hi : (i : Int) < zCE t (zFO t c).toNat f) : zrm t c r (zLR t c r).toNat (4 * f + i) = zrp t c r ((zst t (zFO t c).toNat f).toNat + i) := by
  have hmk := zMK_rng hVt hc hr
  obtain ⟨hv0, hv1, hvs, hvc⟩ := hVt
  obtain ⟨hfo, hto, hne, hnu, hvr, hin⟩ := hvc c hc
  obtain ⟨hrt, hrs, hr1, hr4, hr3, _, _, _, _⟩ := hvr r hr
  have hvf := (hvs (zFO t c).toNat (by omega)).1
  have hce := (hvf.2 f hf).2
  have k1 : zRS t c r ≠ 4 → _ := fun h => zst_in hvf hf hi (g := (zR1 t c r).toNat) (l := (zLR t c r).toNat) (by have := hr1 h; omega) (by have := hmk.2.2.2.2.1 h; omega)
  have k2 : zRS t c r = 3 → _ := fun h => zst_in hvf hf hi (g := (zR2 t c r).toNat) (l := (zLR t c r).toNat) (by have := hr3 h; omega) (by have := hmk.2.2.2.2.2 h; omega)
  have d1 : (4 * f + i) / 4 = f := by omega
  have d2 : (4 * f + i) % 4 = i := by omega
  clear hmk hvr hin hvs hvc hr1 hr4 hr3
  unfold zrm zrp
  rw [d1, d2, Bool.eq_iff_iff]
  simp only [Bool.or_eq_true, Bool.and_eq_true, decide_eq_true_eq]
  constructor
  · rintro (⟨⟨a1, a2⟩, a3⟩ | ⟨⟨a1, a2⟩, a3⟩)
    · have := (k1 a1).mpr ⟨a2, a3⟩; exact Or.inl ⟨⟨a1, this.1⟩, this.2⟩
    · have := (k2 a1).mpr ⟨a2, a3⟩; exact Or.inr ⟨⟨a1, this.1⟩, this.2⟩
  · rintro (⟨⟨a1, a2⟩, a3⟩ | ⟨⟨a1, a2⟩, a3⟩)
    · have := (k1 a1).mp ⟨a2, a3⟩; exact Or.inl ⟨⟨a1, this.1⟩, this.2⟩
    · have := (k2 a1).mp ⟨a2, a3⟩; exact Or.inr ⟨⟨a1, this.1⟩, this.2⟩
theorem zrA_mA {t : zBk} (hVt : zVt t) {c : Nat} (hc : (c : Int) < t 1) {f i : Nat} (hf : (f : Int) < zNF t (zFO t c).toNat) (hi : (i : Int) < zCE t (zFO t c).toNat f) : ∀ r : Nat, r ≤ zNU t c → zmA t c r (4 * f + i) = zrA t c r ((zst t (zFO t c).toNat f).toNat + i)
  | 0, _ => rfl
  | r + 1, h => by
    show (zmA t c r _ || zrm t c r _ _) = (zrA t c r _ || zrp t c r _)
    rw [zrA_mA hVt hc hf hi r (by omega), zrp_rm hVt hc (by omega) hf hi]
theorem zrA_far {t : zBk} (hVt : zVt t) {c : Nat} (hc : (c : Int) < t 1) : ∀ r : Nat, r ≤ zNU t c → ∀ j, (zst t (zFO t c).toNat (zNF t (zFO t c).toNat).toNat).toNat ≤ j → zrA t c r j = false
  | 0, _, j, _ => rfl
  | r + 1, h, j, hj => by
    show (zrA t c r j || zrp t c r j) = false
    rw [zrA_far hVt hc r (by omega) j hj, Bool.false_or]
    have hmk := zMK_rng hVt hc (show (r : Int) < zNU t c by omega)
    obtain ⟨hv0, hv1, hvs, hvc⟩ := hVt
    obtain ⟨hfo, hto, hne, hnu, hvr, hin⟩ := hvc c hc
    obtain ⟨hrt, hrs, hr1, hr4, hr3, _, _, _, _⟩ := hvr r (by omega)
    have hvf := (hvs (zFO t c).toNat (by omega)).1
    have hnf := hvf.1
    unfold zrp
    rw [Bool.or_eq_false_iff]
    constructor
    · by_cases a1 : zRS t c r ≠ 4
      · have h1 := hr1 a1
        have h2 := hmk.2.2.2.2.1 a1
        have h3 := zst_mono hvf (f := (zR1 t c r).toNat) (zNF t (zFO t c).toNat).toNat (by omega) (by omega)
        have h4 := zst_24 hvf (f := (zR1 t c r).toNat) (by omega)
        have : ¬ j < (zst t (zFO t c).toNat (zR1 t c r).toNat).toNat + (zLR t c r).toNat := by omega
        simp [this]
      · simp [a1]
    · by_cases a1 : zRS t c r = 3
      · have h1 := (hr3 a1).1
        have h2 := hmk.2.2.2.2.2 a1
        have h3 := zst_mono hvf (f := (zR2 t c r).toNat) (zNF t (zFO t c).toNat).toNat (by omega) (by omega)
        have h4 := zst_24 hvf (f := (zR2 t c r).toNat) (by omega)
        have : ¬ j < (zst t (zFO t c).toNat (zR2 t c r).toNat).toNat + (zLR t c r).toNat := by omega
        simp [this]
      · simp [a1]
/-- what is not read: as the class counts it -/
theorem zac4 {t : zBk} (hVt : zVt t) {c : Nat} (hc : (c : Int) < t 1) : zmc t (zFO t c).toNat (zmk t c) (zNF t (zFO t c).toNat).toNat = zst t (zFO t c).toNat (zNF t (zFO t c).toNat).toNat - zcb (zrA t c (zNU t c).toNat) 24 := by
  have hvc := hVt.2.2.2 c hc
  have hvf := (hVt.2.2.1 (zFO t c).toNat (by have := hvc.1; omega)).1
  have hnu := hvc.2.2.2.1
  have hnf := hvf.1
  have hr := zst_rng hvf (zNF t (zFO t c).toNat).toNat (by omega)
  rw [zmc_cb hvf (P := zrA t c (zNU t c).toNat) (fun f i hf hi => by show iZ _ = iZ _; rw [zrA_mA hVt hc hf hi _ (by omega)]) _ (by omega)]
  have := zcb_far (P := zrA t c (zNU t c).toNat) (n := (zst t (zFO t c).toNat (zNF t (zFO t c).toNat).toNat).toNat) (fun j hj => zrA_far hVt hc _ (by omega) j hj) (24 - (zst t (zFO t c).toNat (zNF t (zFO t c).toNat).toNat).toNat)
  rw [show (zst t (zFO t c).toNat (zNF t (zFO t c).toNat).toNat).toNat + (24 - (zst t (zFO t c).toNat (zNF t (zFO t c).toNat).toNat).toNat) = 24 by omega] at this
  rw [this]
/-- what is filled -/
def zfP (t : zBk) (c : Nat) : Nat → Nat → Bool
  | 0, _ => false
  | r + 1, j => zfP t c r j || (decide ((zst t (zTO t c).toNat (zRT t c r).toNat).toNat ≤ j) && decide (j < (zst t (zTO t c).toNat (zRT t c r).toNat).toNat + (zLR t c r).toNat))
theorem zfP_fA {t : zBk} (hVt : zVt t) {c : Nat} (hc : (c : Int) < t 1) {f i : Nat} (hf : (f : Int) < zNF t (zTO t c).toNat) (hi : (i : Int) < zCE t (zTO t c).toNat f) : ∀ r : Nat, r ≤ zNU t c → zfA t c r (4 * f + i) = zfP t c r ((zst t (zTO t c).toNat f).toNat + i)
  | 0, _ => rfl
  | r + 1, h => by
    show (zfA t c r _ || zfm t c r _ _) = (zfP t c r _ || _)
    rw [zfP_fA hVt hc hf hi r (by omega)]
    congr 1
    have hmk := zMK_rng hVt hc (show (r : Int) < zNU t c by omega)
    have hvc := hVt.2.2.2 c hc
    have hvt := (hVt.2.2.1 (zTO t c).toNat (by have := hvc.2.1; omega)).1
    have hrt := (hvc.2.2.2.2.1 r (by omega)).1
    have hce := (hvt.2 f hf).2
    have k := zst_in hvt hf hi (g := (zRT t c r).toNat) (l := (zLR t c r).toNat) (by omega) (by have := hmk.2.2.2.1; omega)
    unfold zfm
    rw [show (4 * f + i) / 4 = f by omega, show (4 * f + i) % 4 = i by omega, Bool.eq_iff_iff]
    simp only [Bool.and_eq_true, decide_eq_true_eq]
    exact k.symm
theorem zfP_in {t : zBk} {c : Nat} : ∀ {r j : Nat}, zfP t c r j = true → ∃ q, q < r ∧ (zst t (zTO t c).toNat (zRT t c q).toNat).toNat ≤ j ∧ j < (zst t (zTO t c).toNat (zRT t c q).toNat).toNat + (zLR t c q).toNat
  | 0, j, h => by cases h
  | r + 1, j, h => by
    rw [zfP, Bool.or_eq_true] at h
    rcases h with h | h
    · obtain ⟨q, h1, h2⟩ := zfP_in h
      exact ⟨q, by omega, h2⟩
    · rw [Bool.and_eq_true, decide_eq_true_eq, decide_eq_true_eq] at h
      exact ⟨r, by omega, h⟩
theorem zfP_cb {t : zBk} (hVt : zVt t) {c : Nat} (hc : (c : Int) < t 1) : ∀ r : Nat, r ≤ zNU t c → (zcb (zfP t c r) 24 : Int) = zcn t c r
  | 0, _ => by
    have : zfP t c 0 = fun _ => false := rfl
    rw [this]; rfl
  | r + 1, h => by
    have hmk := zMK_rng hVt hc (show (r : Int) < zNU t c by omega)
    have hvc := hVt.2.2.2 c hc
    have hvt := (hVt.2.2.1 (zTO t c).toNat (by have := hvc.2.1; omega)).1
    have hrt := (hvc.2.2.2.2.1 r (by omega)).1
    have h24 := zst_24 hvt (f := (zRT t c r).toNat) (by omega)
    have e : zfP t c (r + 1) = fun j => zfP t c r j || (decide ((zst t (zTO t c).toNat (zRT t c r).toNat).toNat ≤ j) && decide (j < (zst t (zTO t c).toNat (zRT t c r).toNat).toNat + (zLR t c r).toNat)) := rfl
    rw [e, zcb_or ?_, zcb_iv]
    · have ih := zfP_cb hVt hc r (by omega)
      show _ = zcn t c r + zLR t c r
      omega
    · intro j h1 h2
      obtain ⟨q, hq, h3, h4⟩ := zfP_in h1
      rw [Bool.and_eq_true, decide_eq_true_eq, decide_eq_true_eq] at h2
      have hrq := (hvc.2.2.2.2.1 q (by omega)).1
      have hmq := zMK_rng hVt hc (show (q : Int) < zNU t c by omega)
      have g24 := zst_24 hvt (f := (zRT t c q).toNat) (by omega)
      have hne : zRT t c q ≠ zRT t c r := fun h => by have := hvc.2.2.2.2.2 q r (by omega) (by omega) h; omega
      rcases Int.lt_or_gt_of_ne hne with g | g
      · have := zst_mono hvt (f := (zRT t c q).toNat) (zRT t c r).toNat (by omega) (by omega)
        omega
      · have := zst_mono hvt (f := (zRT t c r).toNat) (zRT t c q).toNat (by omega) (by omega)
        omega
theorem zac5 {t : zBk} (hVt : zVt t) {c : Nat} (hc : (c : Int) < t 1) : zmc t (zTO t c).toNat (zfk t c) (zNF t (zTO t c).toNat).toNat = zst t (zTO t c).toNat (zNF t (zTO t c).toNat).toNat - zcn t c (zNU t c).toNat := by
  have hvc := hVt.2.2.2 c hc
  have hvt := (hVt.2.2.1 (zTO t c).toNat (by have := hvc.2.1; omega)).1
  have hnu := hvc.2.2.2.1
  have hnt := hvt.1
  have hr := zst_rng hvt (zNF t (zTO t c).toNat).toNat (by omega)
  rw [zmc_cb hvt (P := zfP t c (zNU t c).toNat) (fun f i hf hi => by show iZ _ = iZ _; rw [zfP_fA hVt hc hf hi _ (by omega)]) _ (by omega)]
  rw [← zfP_cb hVt hc _ (by omega)]
  have := zcb_far (P := zfP t c (zNU t c).toNat) (n := (zst t (zTO t c).toNat (zNF t (zTO t c).toNat).toNat).toNat) (fun j hj => by
    cases hb : zfP t c (zNU t c).toNat j with
    | false => rfl
    | true =>
      obtain ⟨q, hq, h3, h4⟩ := zfP_in hb
      have hrq := (hvc.2.2.2.2.1 q (by omega)).1
      have hmq := zMK_rng hVt hc (show (q : Int) < zNU t c by omega)
      have g24 := zst_24 hvt (f := (zRT t c q).toNat) (by omega)
      have := zst_mono hvt (f := (zRT t c q).toNat) (zNF t (zTO t c).toNat).toNat (by omega) (by omega)
      omega) (24 - (zst t (zTO t c).toNat (zNF t (zTO t c).toNat).toNat).toNat)
  rw [show (zst t (zTO t c).toNat (zNF t (zTO t c).toNat).toNat).toNat + (24 - (zst t (zTO t c).toNat (zNF t (zTO t c).toNat).toNat).toNat) = 24 by omega] at this
  rw [this]
