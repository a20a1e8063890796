/-! PROVED, AS BITS -/
/-- one crossing leads back from where another one leads -/
def zlb (t : zBk) (c d : Int) : Prop := (0 ≤ c ∧ c < t 1) ∧ (0 ≤ d ∧ d < t 1) ∧ zFO t d.toNat = zTO t c.toNat ∧ zTO t d.toNat = zFO t c.toNat
theorem zVt.u {t : zBk} (h : zVt t) (h0 : t 0 = 0 → t 1 = 0) : (0 ≤ t 0 ∧ t 0 ≤ 3) ∧ (0 ≤ t 1 ∧ t 1 ≤ 4) ∧ (t 0 = 0 → t 1 = 0) := ⟨h.1, h.2.1, h0⟩
theorem zVt.z {t : zBk} (h : zVt t) : t 0 = 0 → t 1 = 0 := fun e => by
  rcases Int.lt_or_le 0 (t 1) with q | q
  · have := (h.2.2.2 0 (by omega)).1; omega
  · have := h.2.1; omega
/-- the fields that come back whole, proved -/
def zPF (t : zBk) (c d f : Nat) : Bool := decide ((f : Int) < zNF t (zFO t c).toNat) && zex (fun g => zPV t c d f g) (zNF t (zTO t c).toNat).toNat
theorem r_doesLeadBack {σ : zSt} {t : zBk} (hF : zFx σ) (hT : zTr σ t) (hVt : zVt t) {c d : Int} (hc : -2147483648 ≤ c ∧ c ≤ 2147483647) (hd : -2147483648 ≤ d ∧ d ≤ 2147483647) {Q : zSt → Option Value → Prop} (k1 : zlb t c d → Q σ (some (.int (iZ 1)))) (k0 : ¬ zlb t c d → Q σ (some (.int (iZ 0)))) : zCa 290 [.ref 164, .int (iZ c), .int (iZ d)] σ Q := by
  refine w_enter (c := zk_X12_doesLeadBack) (ls2 := [(0, .ref 164), (1, .int (iZ c)), (2, .int (iZ d))]) rfl ⟨rfl, rfl, rfl, trivial⟩ ?_
  refine w_aload_n (pc' := 1) ⟨rfl, rfl⟩ rfl ?_
  refine w_iload_n (pc' := 2) ⟨rfl, rfl⟩ rfl ?_
  refine w_cv2 (pc' := 5) ⟨rfl, rfl⟩ (by decide) (zOl hF rfl) (Nat.le_of_ble_eq_true rfl) (Nat.le_of_ble_eq_true rfl) (r_isCrossing hF hT (hVt.u hVt.z) (by omega) (fun hcc => ?_) (fun hcc => ?_))
  · obtain ⟨c, rfl⟩ : ∃ q : Nat, c = q := ⟨c.toNat, by omega⟩
    refine w_ifF_eq (pc' := 8) ⟨rfl, rfl⟩ (by decide) ?_
    refine w_aload_n (pc' := 9) ⟨rfl, rfl⟩ rfl ?_
    refine w_iload_n (pc' := 10) ⟨rfl, rfl⟩ rfl ?_
    refine w_cv2 (pc' := 13) ⟨rfl, rfl⟩ (by decide) (zOl hF rfl) (Nat.le_of_ble_eq_true rfl) (Nat.le_of_ble_eq_true rfl) (r_isCrossing hF hT (hVt.u hVt.z) (by omega) (fun hdc => ?_) (fun hdc => ?_))
    · obtain ⟨d, rfl⟩ : ∃ q : Nat, d = q := ⟨d.toNat, by omega⟩
      have h00 := hVt.1
      have h01 := hVt.2.1
      have hqc := hVt.2.2.2 c (by omega)
      have hac := hqc.1
      have hbc := hqc.2.1
      clear hqc
      have hqd := hVt.2.2.2 d (by omega)
      have had := hqd.1
      have hbd := hqd.2.1
      clear hqd
      refine w_ifF_eq (pc' := 16) ⟨rfl, rfl⟩ (by decide) ?_
      refine w_aload_n (pc' := 17) ⟨rfl, rfl⟩ rfl ?_
      refine w_iload_n (pc' := 18) ⟨rfl, rfl⟩ rfl ?_
      refine w_cv2 (pc' := 21) ⟨rfl, rfl⟩ (by decide) (zOl hF rfl) (Nat.le_of_ble_eq_true rfl) (Nat.le_of_ble_eq_true rfl) (r_fromOf hF hT (by have := hVt.2.1; omega) ?_)
      refine w_aload_n (pc' := 22) ⟨rfl, rfl⟩ rfl ?_
      refine w_iload_n (pc' := 23) ⟨rfl, rfl⟩ rfl ?_
      refine w_cv2 (pc' := 26) ⟨rfl, rfl⟩ (by decide) (zOl hF rfl) (Nat.le_of_ble_eq_true rfl) (Nat.le_of_ble_eq_true rfl) (r_toOf hF hT (by have := hVt.2.1; omega) ?_)
      refine w_ic_ne (pc' := 29) (pcT := 46) ⟨rfl, rfl⟩ rfl (by omega) (by omega) (fun h1 => ?_) (fun h1 => ?_)
      · refine w_ic (pc' := 47) ⟨rfl, rfl⟩ ?_
        refine w_ireturn (pc' := 48) ⟨rfl, rfl⟩ (by decide) ?_
        first | exact k0 (fun q => absurd q.2.2.1 (by assumption)) | exact k0 (fun q => absurd q.2.2.2 (by assumption))
      · refine w_aload_n (pc' := 30) ⟨rfl, rfl⟩ rfl ?_
        refine w_iload_n (pc' := 31) ⟨rfl, rfl⟩ rfl ?_
        refine w_cv2 (pc' := 34) ⟨rfl, rfl⟩ (by decide) (zOl hF rfl) (Nat.le_of_ble_eq_true rfl) (Nat.le_of_ble_eq_true rfl) (r_toOf hF hT (by have := hVt.2.1; omega) ?_)
        refine w_aload_n (pc' := 35) ⟨rfl, rfl⟩ rfl ?_
        refine w_iload_n (pc' := 36) ⟨rfl, rfl⟩ rfl ?_
        refine w_cv2 (pc' := 39) ⟨rfl, rfl⟩ (by decide) (zOl hF rfl) (Nat.le_of_ble_eq_true rfl) (Nat.le_of_ble_eq_true rfl) (r_fromOf hF hT (by have := hVt.2.1; omega) ?_)
        refine w_ic_ne (pc' := 42) (pcT := 46) ⟨rfl, rfl⟩ rfl (by omega) (by omega) (fun h2 => ?_) (fun h2 => ?_)
        · refine w_ic (pc' := 47) ⟨rfl, rfl⟩ ?_
          refine w_ireturn (pc' := 48) ⟨rfl, rfl⟩ (by decide) ?_
          first | exact k0 (fun q => absurd q.2.2.1 (by assumption)) | exact k0 (fun q => absurd q.2.2.2 (by assumption))
        · refine w_ic (pc' := 43) ⟨rfl, rfl⟩ ?_
          refine w_goto (pc' := 46) (pcT := 47) ⟨rfl, rfl⟩ rfl ?_
          refine w_ireturn (pc' := 48) ⟨rfl, rfl⟩ (by decide) ?_
          exact k1 ⟨hcc, hdc, by assumption, by assumption⟩
    · refine w_ifT_eq (pc' := 16) (pcT := 46) ⟨rfl, rfl⟩ rfl (by decide) ?_
      refine w_ic (pc' := 47) ⟨rfl, rfl⟩ ?_
      refine w_ireturn (pc' := 48) ⟨rfl, rfl⟩ (by decide) ?_
      exact k0 (fun q => hdc q.2.1)
  · refine w_ifT_eq (pc' := 8) (pcT := 46) ⟨rfl, rfl⟩ rfl (by decide) ?_
    refine w_ic (pc' := 47) ⟨rfl, rfl⟩ ?_
    refine w_ireturn (pc' := 48) ⟨rfl, rfl⟩ (by decide) ?_
    exact k0 (fun q => hcc q.1)
theorem r_canCross {σ : zSt} {t : zBk} (hF : zFx σ) (hT : zTr σ t) (hVt : zVt t) {cn : Nat → Int} (hC : zCm σ cn) {c r : Int} (hc : -2147483648 ≤ c ∧ c ≤ 2147483647) (hr : -2147483648 ≤ r ∧ r ≤ 2147483647) {Q : zSt → Option Value → Prop} (k1 : (0 ≤ c ∧ c < t 1) ∧ 0 ≤ r ∧ r < cn (zFO t c.toNat).toNat → Q σ (some (.int (iZ 1)))) (k0 : ¬ ((0 ≤ c ∧ c < t 1) ∧ 0 ≤ r ∧ r < cn (zFO t c.toNat).toNat) → Q σ (some (.int (iZ 0)))) : zCa 288 [.ref 164, .int (iZ c), .int (iZ r)] σ Q := by
  refine w_enter (c := zk_X12_canCross) (ls2 := [(0, .ref 164), (1, .int (iZ c)), (2, .int (iZ r))]) rfl ⟨rfl, rfl, rfl, trivial⟩ ?_
  refine w_aload_n (pc' := 1) ⟨rfl, rfl⟩ rfl ?_
  refine w_iload_n (pc' := 2) ⟨rfl, rfl⟩ rfl ?_
  refine w_cv2 (pc' := 5) ⟨rfl, rfl⟩ (by decide) (zOl hF rfl) (Nat.le_of_ble_eq_true rfl) (Nat.le_of_ble_eq_true rfl) (r_isCrossing hF hT (hVt.u hVt.z) (by omega) (fun hcc => ?_) (fun hcc => ?_))
  · obtain ⟨c, rfl⟩ : ∃ q : Nat, c = q := ⟨c.toNat, by omega⟩
    have h00 := hVt.1
    have h01 := hVt.2.1
    have hqc := hVt.2.2.2 c (by omega)
    have hac := hqc.1
    have hbc := hqc.2.1
    clear hqc
    refine w_ifF_eq (pc' := 8) ⟨rfl, rfl⟩ (by decide) ?_
    refine w_aload_n (pc' := 9) ⟨rfl, rfl⟩ rfl ?_
    refine w_aload_n (pc' := 10) ⟨rfl, rfl⟩ rfl ?_
    refine w_iload_n (pc' := 11) ⟨rfl, rfl⟩ rfl ?_
    refine w_cv2 (pc' := 14) ⟨rfl, rfl⟩ (by decide) (zOl hF rfl) (Nat.le_of_ble_eq_true rfl) (Nat.le_of_ble_eq_true rfl) (r_fromOf hF hT (by have := hVt.2.1; omega) ?_)
    refine w_iload_n (pc' := 15) ⟨rfl, rfl⟩ rfl ?_
    refine w_cv3 (pc' := 18) ⟨rfl, rfl⟩ (by decide) (zOl hF rfl) (Nat.le_of_ble_eq_true rfl) (Nat.le_of_ble_eq_true rfl) (r_isRecord hF hT (hVt.u hVt.z) hC (by omega) (by omega) (fun hr => ?_) (fun hr => ?_))
    · refine w_ifF_eq (pc' := 21) ⟨rfl, rfl⟩ (by decide) ?_
      refine w_ic (pc' := 22) ⟨rfl, rfl⟩ ?_
      refine w_goto (pc' := 25) (pcT := 26) ⟨rfl, rfl⟩ rfl ?_
      refine w_ireturn (pc' := 27) ⟨rfl, rfl⟩ (by decide) ?_
      exact k1 ⟨hcc, by rw [show ((c : Int)).toNat = c from rfl]; omega⟩
    · refine w_ifT_eq (pc' := 21) (pcT := 25) ⟨rfl, rfl⟩ rfl (by decide) ?_
      refine w_ic (pc' := 26) ⟨rfl, rfl⟩ ?_
      refine w_ireturn (pc' := 27) ⟨rfl, rfl⟩ (by decide) ?_
      exact k0 (fun q => by have := q.2; rw [show ((c : Int)).toNat = c from rfl] at this; omega)
  · refine w_ifT_eq (pc' := 8) (pcT := 25) ⟨rfl, rfl⟩ rfl (by decide) ?_
    refine w_ic (pc' := 26) ⟨rfl, rfl⟩ ?_
    refine w_ireturn (pc' := 27) ⟨rfl, rfl⟩ (by decide) ?_
    exact k0 (fun q => hcc q.1)
theorem l_rpv2 {σ : zSt} {t : zBk} (hF : zFx σ) (hT : zTr σ t) (hVt : zVt t) (hW : zWid σ) {c d : Nat} (hc : (c : Int) < t 1) (hd : (d : Int) < t 1) {f : Nat} (hf : (f : Int) < zNF t (zFO t c).toNat) {Q : zSt → Option Value → Prop} : ∀ (n : Nat) (g : Nat), ((g : Int) + n = zNF t (zTO t c).toNat) → (zP zk_X12_proved 73 [(0, .ref 164), (1, .int (iZ c)), (2, .int (iZ d)), (3, .int (iZ (zbn (fun j => (decide (j < (f + 1)) && zPF t c d j) || (decide (j = (f + 1)) && zex (fun g => zPV t c d (f + 1) g) 0)) 24 : Nat))), (4, .int (iZ f))] [] σ Q) → zP zk_X12_proved 33 [(0, .ref 164), (1, .int (iZ c)), (2, .int (iZ d)), (3, .int (iZ (zbn (fun j => (decide (j < f) && zPF t c d j) || (decide (j = f) && zex (fun g => zPV t c d f g) g)) 24 : Nat))), (4, .int (iZ f)), (5, .int (iZ g))] [] σ Q := by
  intro n
  induction n with
  | zero =>
    intro g hi k
    have ht1 := hVt.2.1
    have ht00 := hVt.1
    have hfo := (hVt.2.2.2 c hc).1
    have hto := (hVt.2.2.2 c hc).2.1
    obtain ⟨f0, hf0⟩ : ∃ q : Nat, zFO t c = q := ⟨(zFO t c).toNat, by omega⟩
    obtain ⟨t0, ht0⟩ : ∃ q : Nat, zTO t c = q := ⟨(zTO t c).toNat, by omega⟩
    have ef : (zFO t c).toNat = f0 := by omega
    have et : (zTO t c).toNat = t0 := by omega
    have hnf := (hVt.2.2.1 f0 (by omega)).1.1
    have hnt := (hVt.2.2.1 t0 (by omega)).1.1
    have hnF : zNF t (zFO t c).toNat = zNF t f0 := by rw [ef]
    have hnT : zNF t (zTO t c).toNat = zNF t t0 := by rw [et]
    obtain rfl : g = (zNF t t0).toNat := by omega
    refine w_iload (pc' := 35) ⟨rfl, rfl⟩ rfl ?_
    refine w_aload_n (pc' := 36) ⟨rfl, rfl⟩ rfl ?_
    refine w_aload_n (pc' := 37) ⟨rfl, rfl⟩ rfl ?_
    refine w_iload_n (pc' := 38) ⟨rfl, rfl⟩ rfl ?_
    refine w_cv2 (pc' := 41) ⟨rfl, rfl⟩ (by decide) (zOl hF rfl) (Nat.le_of_ble_eq_true rfl) (Nat.le_of_ble_eq_true rfl) (r_toOf hF hT (by omega) ?_)
    rw [ht0]
    refine w_cv2 (pc' := 44) ⟨rfl, rfl⟩ (by decide) (zOl hF rfl) (Nat.le_of_ble_eq_true rfl) (Nat.le_of_ble_eq_true rfl) (r_fieldMany hF hT (by omega) ?_)
    refine w_icT_ge (pc' := 47) (pcT := 73) ⟨rfl, rfl⟩ rfl (by omega) ?_
    refine w_at ?_ k
    refine ⟨rfl, rfl, rfl, congrArg (fun x => some (Value.int (iZ ((x : Nat) : Int)))) (zbn_congr 24 (fun j hj => ?_)), rfl, trivial⟩
    rw [show zex (fun g => zPV t c d (f + 1) g) 0 = false from rfl, Bool.and_false, Bool.or_false]
    by_cases h1 : j = f
    · subst h1
      rw [decide_eq_false (show ¬ j < j by omega), decide_eq_true (show j = j from rfl), decide_eq_true (show j < j + 1 by omega)]
      unfold zPF
      rw [hnT, decide_eq_true hf]; rfl
    · by_cases h2 : j < f
      · rw [decide_eq_true h2, decide_eq_false h1, decide_eq_true (show j < f + 1 by omega)]; simp
      · rw [decide_eq_false h2, decide_eq_false h1, decide_eq_false (show ¬ j < f + 1 by omega)]; simp
  | succ n ih =>
    intro g hi k
    have ht1 := hVt.2.1
    have ht00 := hVt.1
    have hfo := (hVt.2.2.2 c hc).1
    have hto := (hVt.2.2.2 c hc).2.1
    obtain ⟨f0, hf0⟩ : ∃ q : Nat, zFO t c = q := ⟨(zFO t c).toNat, by omega⟩
    obtain ⟨t0, ht0⟩ : ∃ q : Nat, zTO t c = q := ⟨(zTO t c).toNat, by omega⟩
    have ef : (zFO t c).toNat = f0 := by omega
    have et : (zTO t c).toNat = t0 := by omega
    have hnf := (hVt.2.2.1 f0 (by omega)).1.1
    have hnt := (hVt.2.2.1 t0 (by omega)).1.1
    have hnF : zNF t (zFO t c).toNat = zNF t f0 := by rw [ef]
    have hnT : zNF t (zTO t c).toNat = zNF t t0 := by rw [et]
    refine w_iload (pc' := 35) ⟨rfl, rfl⟩ rfl ?_
    refine w_aload_n (pc' := 36) ⟨rfl, rfl⟩ rfl ?_
    refine w_aload_n (pc' := 37) ⟨rfl, rfl⟩ rfl ?_
    refine w_iload_n (pc' := 38) ⟨rfl, rfl⟩ rfl ?_
    refine w_cv2 (pc' := 41) ⟨rfl, rfl⟩ (by decide) (zOl hF rfl) (Nat.le_of_ble_eq_true rfl) (Nat.le_of_ble_eq_true rfl) (r_toOf hF hT (by omega) ?_)
    rw [ht0]
    refine w_cv2 (pc' := 44) ⟨rfl, rfl⟩ (by decide) (zOl hF rfl) (Nat.le_of_ble_eq_true rfl) (Nat.le_of_ble_eq_true rfl) (r_fieldMany hF hT (by omega) ?_)
    refine w_icF_ge (pc' := 47) ⟨rfl, rfl⟩ (by omega) ?_
    refine w_aload_n (pc' := 48) ⟨rfl, rfl⟩ rfl ?_
    refine w_iload_n (pc' := 49) ⟨rfl, rfl⟩ rfl ?_
    refine w_iload_n (pc' := 50) ⟨rfl, rfl⟩ rfl ?_
    refine w_iload (pc' := 52) ⟨rfl, rfl⟩ rfl ?_
    refine w_iload (pc' := 54) ⟨rfl, rfl⟩ rfl ?_
    refine w_cv5 (pc' := 57) ⟨rfl, rfl⟩ (by decide) (zOl hF rfl) (Nat.le_of_ble_eq_true rfl) (Nat.le_of_ble_eq_true rfl) (r_isProved hF hT hVt hc hW hd hf (by omega) (fun hp => ?_) (fun hp => ?_))
    · refine w_ifF_eq (pc' := 60) ⟨rfl, rfl⟩ (by decide) ?_
      refine w_iload_n (pc' := 61) ⟨rfl, rfl⟩ rfl ?_
      refine w_ic (pc' := 62) ⟨rfl, rfl⟩ ?_
      refine w_iload (pc' := 64) ⟨rfl, rfl⟩ rfl ?_
      refine w_ishl (pc' := 65) ⟨rfl, rfl⟩ ?_
      refine w_ior (pc' := 66) ⟨rfl, rfl⟩ ?_
      refine w_topI (zbn_set _ (f := f) (by omega)) ?_
      refine w_istore_n (pc' := 67) ⟨rfl, rfl⟩ rfl ?_
      refine w_iincZ (pc' := 70) ⟨rfl, rfl⟩ rfl rfl ?_
      refine w_goto (pc' := 73) (pcT := 33) ⟨rfl, rfl⟩ rfl ?_
      refine w_at ?_ (ih (g + 1) (by omega) k)
      refine ⟨rfl, rfl, rfl, congrArg (fun x => some (Value.int (iZ ((x : Nat) : Int)))) (zbn_congr 24 (fun j hj => ?_)), rfl, rfl, trivial⟩
      rw [show zex (fun g => zPV t c d f g) (g + 1) = (zex (fun g => zPV t c d f g) g || zPV t c d f g) from rfl, hp, Bool.or_true, Bool.and_true]
      cases decide (j = f) <;> simp
    · refine w_ifT_eq (pc' := 60) (pcT := 67) ⟨rfl, rfl⟩ rfl (by decide) ?_
      refine w_iincZ (pc' := 70) ⟨rfl, rfl⟩ rfl rfl ?_
      refine w_goto (pc' := 73) (pcT := 33) ⟨rfl, rfl⟩ rfl ?_
      refine w_at ?_ (ih (g + 1) (by omega) k)
      refine ⟨rfl, rfl, rfl, congrArg (fun x => some (Value.int (iZ ((x : Nat) : Int)))) (zbn_congr 24 (fun j hj => ?_)), rfl, rfl, trivial⟩
      rw [show zex (fun g => zPV t c d f g) (g + 1) = (zex (fun g => zPV t c d f g) g || zPV t c d f g) from rfl, hp, Bool.or_false]
theorem l_rpv1 {σ : zSt} {t : zBk} (hF : zFx σ) (hT : zTr σ t) (hVt : zVt t) (hW : zWid σ) {c d : Nat} (hc : (c : Int) < t 1) (hd : (d : Int) < t 1) {Q : zSt → Option Value → Prop} : ∀ (n : Nat) (f : Nat), ((f : Int) + n = zNF t (zFO t c).toNat) → (Q σ (some (.int (iZ (zbn (zPF t c d) 24 : Nat))))) → zP zk_X12_proved 16 [(0, .ref 164), (1, .int (iZ c)), (2, .int (iZ d)), (3, .int (iZ (zbn (fun j => (decide (j < f) && zPF t c d j) || (decide (j = f) && zex (fun g => zPV t c d f g) 0)) 24 : Nat))), (4, .int (iZ f))] [] σ Q := by
  intro n
  induction n with
  | zero =>
    intro f hi k
    have ht1 := hVt.2.1
    have ht00 := hVt.1
    have hfo := (hVt.2.2.2 c hc).1
    have hto := (hVt.2.2.2 c hc).2.1
    obtain ⟨f0, hf0⟩ : ∃ q : Nat, zFO t c = q := ⟨(zFO t c).toNat, by omega⟩
    obtain ⟨t0, ht0⟩ : ∃ q : Nat, zTO t c = q := ⟨(zTO t c).toNat, by omega⟩
    have ef : (zFO t c).toNat = f0 := by omega
    have et : (zTO t c).toNat = t0 := by omega
    have hnf := (hVt.2.2.1 f0 (by omega)).1.1
    have hnt := (hVt.2.2.1 t0 (by omega)).1.1
    have hnF : zNF t (zFO t c).toNat = zNF t f0 := by rw [ef]
    have hnT : zNF t (zTO t c).toNat = zNF t t0 := by rw [et]
    obtain rfl : f = (zNF t f0).toNat := by omega
    refine w_iload (pc' := 18) ⟨rfl, rfl⟩ rfl ?_
    refine w_aload_n (pc' := 19) ⟨rfl, rfl⟩ rfl ?_
    refine w_aload_n (pc' := 20) ⟨rfl, rfl⟩ rfl ?_
    refine w_iload_n (pc' := 21) ⟨rfl, rfl⟩ rfl ?_
    refine w_cv2 (pc' := 24) ⟨rfl, rfl⟩ (by decide) (zOl hF rfl) (Nat.le_of_ble_eq_true rfl) (Nat.le_of_ble_eq_true rfl) (r_fromOf hF hT (by omega) ?_)
    rw [hf0]
    refine w_cv2 (pc' := 27) ⟨rfl, rfl⟩ (by decide) (zOl hF rfl) (Nat.le_of_ble_eq_true rfl) (Nat.le_of_ble_eq_true rfl) (r_fieldMany hF hT (by omega) ?_)
    refine w_icT_ge (pc' := 30) (pcT := 79) ⟨rfl, rfl⟩ rfl (by omega) ?_
    refine w_iload_n (pc' := 80) ⟨rfl, rfl⟩ rfl ?_
    refine w_ireturn (pc' := 81) ⟨rfl, rfl⟩ (Or.inl rfl) ?_
    refine zQV k (congrArg (fun x => iZ ((x : Nat) : Int)) (zbn_congr 24 (fun j hj => ?_)))
    rw [show zex (fun g => zPV t c d (zNF t f0).toNat g) 0 = false from rfl, Bool.and_false, Bool.or_false]
    by_cases h2 : j < (zNF t f0).toNat
    · rw [decide_eq_true h2, Bool.true_and]
    · rw [decide_eq_false h2, Bool.false_and]; unfold zPF; rw [decide_eq_false (show ¬ (j : Int) < zNF t (zFO t c).toNat by omega), Bool.false_and]
  | succ n ih =>
    intro f hi k
    have ht1 := hVt.2.1
    have ht00 := hVt.1
    have hfo := (hVt.2.2.2 c hc).1
    have hto := (hVt.2.2.2 c hc).2.1
    obtain ⟨f0, hf0⟩ : ∃ q : Nat, zFO t c = q := ⟨(zFO t c).toNat, by omega⟩
    obtain ⟨t0, ht0⟩ : ∃ q : Nat, zTO t c = q := ⟨(zTO t c).toNat, by omega⟩
    have ef : (zFO t c).toNat = f0 := by omega
    have et : (zTO t c).toNat = t0 := by omega
    have hnf := (hVt.2.2.1 f0 (by omega)).1.1
    have hnt := (hVt.2.2.1 t0 (by omega)).1.1
    have hnF : zNF t (zFO t c).toNat = zNF t f0 := by rw [ef]
    have hnT : zNF t (zTO t c).toNat = zNF t t0 := by rw [et]
    have hf : (f : Int) < zNF t (zFO t c).toNat := by omega
    refine w_iload (pc' := 18) ⟨rfl, rfl⟩ rfl ?_
    refine w_aload_n (pc' := 19) ⟨rfl, rfl⟩ rfl ?_
    refine w_aload_n (pc' := 20) ⟨rfl, rfl⟩ rfl ?_
    refine w_iload_n (pc' := 21) ⟨rfl, rfl⟩ rfl ?_
    refine w_cv2 (pc' := 24) ⟨rfl, rfl⟩ (by decide) (zOl hF rfl) (Nat.le_of_ble_eq_true rfl) (Nat.le_of_ble_eq_true rfl) (r_fromOf hF hT (by omega) ?_)
    rw [hf0]
    refine w_cv2 (pc' := 27) ⟨rfl, rfl⟩ (by decide) (zOl hF rfl) (Nat.le_of_ble_eq_true rfl) (Nat.le_of_ble_eq_true rfl) (r_fieldMany hF hT (by omega) ?_)
    refine w_icF_ge (pc' := 30) ⟨rfl, rfl⟩ (by omega) ?_
    refine w_ic (pc' := 31) ⟨rfl, rfl⟩ ?_
    refine w_istore (pc' := 33) ⟨rfl, rfl⟩ rfl ?_
    refine w_at (ls2 := [(0, .ref 164), (1, .int (iZ c)), (2, .int (iZ d)), (3, .int (iZ (zbn (fun j => (decide (j < f) && zPF t c d j) || (decide (j = f) && zex (fun g => zPV t c d f g) 0)) 24 : Nat))), (4, .int (iZ f)), (5, .int (iZ ((0 : Nat) : Int)))]) ⟨rfl, rfl, rfl, rfl, rfl, rfl, trivial⟩ (l_rpv2 hF hT hVt hW hc hd hf (zNF t (zTO t c).toNat).toNat 0 (by omega) ?_)
    refine w_iincZ (pc' := 76) ⟨rfl, rfl⟩ rfl rfl ?_
    refine w_goto (pc' := 79) (pcT := 16) ⟨rfl, rfl⟩ rfl ?_
    refine w_at ?_ (ih (f + 1) (by omega) k)
    exact ⟨rfl, rfl, rfl, rfl, rfl, trivial⟩
theorem r_proved {σ : zSt} {t : zBk} (hF : zFx σ) (hT : zTr σ t) (hVt : zVt t) (hW : zWid σ) {c d : Int} (hc : -2147483648 ≤ c ∧ c ≤ 2147483647) (hd : -2147483648 ≤ d ∧ d ≤ 2147483647) {Q : zSt → Option Value → Prop} (k1 : zlb t c d → Q σ (some (.int (iZ (zbn (zPF t c.toNat d.toNat) 24 : Nat))))) (k0 : ¬ zlb t c d → Q σ (some (.int (iZ (-1))))) : zCa 296 [.ref 164, .int (iZ c), .int (iZ d)] σ Q := by
  refine w_enter (c := zk_X12_proved) (ls2 := [(0, .ref 164), (1, .int (iZ c)), (2, .int (iZ d))]) rfl ⟨rfl, rfl, rfl, trivial⟩ ?_
  refine w_aload_n (pc' := 1) ⟨rfl, rfl⟩ rfl ?_
  refine w_iload_n (pc' := 2) ⟨rfl, rfl⟩ rfl ?_
  refine w_iload_n (pc' := 3) ⟨rfl, rfl⟩ rfl ?_
  refine w_cv3 (pc' := 6) ⟨rfl, rfl⟩ (by decide) (zOl hF rfl) (Nat.le_of_ble_eq_true rfl) (Nat.le_of_ble_eq_true rfl) (r_doesLeadBack hF hT hVt (by omega) (by omega) (fun hl => ?_) (fun hl => ?_))
  · have hl2 := hl
    obtain ⟨hl3, hl4, hl5⟩ := hl2
    obtain ⟨c, rfl⟩ : ∃ q : Nat, c = q := ⟨c.toNat, by omega⟩
    obtain ⟨d, rfl⟩ : ∃ q : Nat, d = q := ⟨d.toNat, by omega⟩
    refine w_ifT_ne (pc' := 9) (pcT := 11) ⟨rfl, rfl⟩ rfl (by decide) ?_
    refine w_ic (pc' := 12) ⟨rfl, rfl⟩ ?_
    refine w_istore_n (pc' := 13) ⟨rfl, rfl⟩ rfl ?_
    refine w_ic (pc' := 14) ⟨rfl, rfl⟩ ?_
    refine w_istore (pc' := 16) ⟨rfl, rfl⟩ rfl ?_
    have hnf := (hVt.2.2.1 (zFO t c).toNat (by have := (hVt.2.2.2 c (by omega)).1; omega)).1.1
    refine w_at (ls2 := [(0, .ref 164), (1, .int (iZ c)), (2, .int (iZ d)), (3, .int (iZ (zbn (fun j => (decide (j < 0) && zPF t c d j) || (decide (j = 0) && zex (fun g => zPV t c d 0 g) 0)) 24 : Nat))), (4, .int (iZ ((0 : Nat) : Int)))]) ⟨rfl, rfl, rfl, ?_, rfl, trivial⟩ (l_rpv1 hF hT hVt hW (by omega) (by omega) (zNF t (zFO t c).toNat).toNat 0 (by omega) (k1 hl))
    rw [zbn_congr (Q := fun _ => false) 24 (fun j hj => by rw [show zex (fun g => zPV t c d 0 g) 0 = false from rfl]; simp), zbn_0]; rfl
  · refine w_ifF_ne (pc' := 9) ⟨rfl, rfl⟩ (by decide) ?_
    refine w_ic (pc' := 10) ⟨rfl, rfl⟩ ?_
    refine w_ireturn (pc' := 11) ⟨rfl, rfl⟩ (Or.inl rfl) ?_
    exact k0 hl
