/-! FIELDS READ, FILLED -/
/-- fields that a rule reads, as bits; that the first rules read, fill -/
def zfr (t : zBk) (c r : Nat) : Int32 := if zRS t c r = 4 then iZ 0 else if zRS t c r = 3 then (iZ 1 <<< (iZ (zR1 t c r) &&& 31)) ||| (iZ 1 <<< (iZ (zR2 t c r) &&& 31)) else iZ 1 <<< (iZ (zR1 t c r) &&& 31)
def zFR (t : zBk) (c : Nat) : Nat → Int32
  | 0 => iZ 0
  | r + 1 => zFR t c r ||| zfr t c r
def zFF (t : zBk) (c : Nat) : Nat → Int32
  | 0 => iZ 0
  | r + 1 => zFF t c r ||| (iZ 1 <<< (iZ (zRT t c r) &&& 31))
theorem zor0 (x : Int32) : x ||| iZ 0 = x := by
  show x ||| 0 = x
  simp
theorem zQV {Q : zSt → Option Value → Prop} {σ : zSt} {a b : Int32} (h : Q σ (some (.int a))) (e : a = b) : Q σ (some (.int b)) := e ▸ h
theorem c_ruleReads {σ : zSt} {ro c r : Nat} {t : zBk} (hF : zFx σ) (hVt : zVt t) (hc : (c : Int) < t 1) (hr : (r : Int) < zNU t c) (hRo : zO σ ro 5) (hR : zRu σ ro t c r) {Q : zSt → Option Value → Prop} (k : Q σ (some (.int (zfr t c r)))) : zCa 93 [.ref ro] σ Q := by
  refine w_enter (c := zk_X7_fieldsRead) (ls2 := [(0, .ref ro)]) rfl ⟨rfl, trivial⟩ ?_
  obtain ⟨hrt, hrs, hr1, hr4, hr3, hr12, hr2, hr0, hrk⟩ := (hVt.2.2.2 c hc).2.2.2.2.1 r hr
  clear hr4 hr12 hr0 hrk
  refine w_aload_n (pc' := 1) ⟨rfl, rfl⟩ rfl ?_
  refine w_getI (pc' := 4) (cl := 5) (q := 1) ⟨rfl, rfl⟩ ⟨rfl, by decide⟩ hRo hR.2.1 ?_
  refine w_ic (pc' := 5) ⟨rfl, rfl⟩ ?_
  refine w_ic_ne (pc' := 8) (pcT := 10) ⟨rfl, rfl⟩ rfl (by omega) (by omega) (fun h1 => ?_) (fun h1 => ?_)
  · refine w_aload_n (pc' := 11) ⟨rfl, rfl⟩ rfl ?_
    refine w_getI (pc' := 14) (cl := 5) (q := 1) ⟨rfl, rfl⟩ ⟨rfl, by decide⟩ hRo hR.2.1 ?_
    refine w_ic (pc' := 15) ⟨rfl, rfl⟩ ?_
    refine w_ic_ne (pc' := 18) (pcT := 34) ⟨rfl, rfl⟩ rfl (by omega) (by omega) (fun h2 => ?_) (fun h2 => ?_)
    · refine w_ic (pc' := 35) ⟨rfl, rfl⟩ ?_
      refine w_aload_n (pc' := 36) ⟨rfl, rfl⟩ rfl ?_
      refine w_getI (pc' := 39) (cl := 5) (q := 2) ⟨rfl, rfl⟩ ⟨rfl, by decide⟩ hRo hR.2.2.1 ?_
      refine w_ishl (pc' := 40) ⟨rfl, rfl⟩ ?_
      refine w_ireturn (pc' := 41) ⟨rfl, rfl⟩ (Or.inl rfl) ?_
      first | exact zQV k (by unfold zfr; rw [if_pos (by omega)]) | exact zQV k (by unfold zfr; rw [if_neg (by omega), if_pos (by omega)]) | exact zQV k (by unfold zfr; rw [if_neg (by omega), if_neg (by omega)])
    · refine w_ic (pc' := 19) ⟨rfl, rfl⟩ ?_
      refine w_aload_n (pc' := 20) ⟨rfl, rfl⟩ rfl ?_
      refine w_getI (pc' := 23) (cl := 5) (q := 2) ⟨rfl, rfl⟩ ⟨rfl, by decide⟩ hRo hR.2.2.1 ?_
      refine w_ishl (pc' := 24) ⟨rfl, rfl⟩ ?_
      refine w_ic (pc' := 25) ⟨rfl, rfl⟩ ?_
      refine w_aload_n (pc' := 26) ⟨rfl, rfl⟩ rfl ?_
      refine w_getI (pc' := 29) (cl := 5) (q := 3) ⟨rfl, rfl⟩ ⟨rfl, by decide⟩ hRo hR.2.2.2.1 ?_
      refine w_ishl (pc' := 30) ⟨rfl, rfl⟩ ?_
      refine w_ior (pc' := 31) ⟨rfl, rfl⟩ ?_
      refine w_goto (pc' := 34) (pcT := 40) ⟨rfl, rfl⟩ rfl ?_
      refine w_ireturn (pc' := 41) ⟨rfl, rfl⟩ (Or.inl rfl) ?_
      first | exact zQV k (by unfold zfr; rw [if_pos (by omega)]) | exact zQV k (by unfold zfr; rw [if_neg (by omega), if_pos (by omega)]) | exact zQV k (by unfold zfr; rw [if_neg (by omega), if_neg (by omega)])
  · refine w_ic (pc' := 9) ⟨rfl, rfl⟩ ?_
    refine w_ireturn (pc' := 10) ⟨rfl, rfl⟩ (Or.inl rfl) ?_
    first | exact zQV k (by unfold zfr; rw [if_pos (by omega)]) | exact zQV k (by unfold zfr; rw [if_neg (by omega), if_pos (by omega)]) | exact zQV k (by unfold zfr; rw [if_neg (by omega), if_neg (by omega)])
theorem l_fieldsRead {σ : zSt} {o c : Nat} {t : zBk} (hF : zFx σ) (hVt : zVt t) (hc : (c : Int) < t 1) (hG : zIsG o) (hPg : zPg σ o t c) {Q : zSt → Option Value → Prop} : ∀ (n : Nat) (r : Nat), ((r : Int) + n = zNU t c) → (Q σ (some (.int (zFR t c (zNU t c).toNat)))) → zP zk_X3_fieldsRead 4 [(0, .ref o), (1, .int (zFR t c r)), (2, .int (iZ r))] [] σ Q := by
  intro n
  induction n with
  | zero =>
    intro r hi k
    have hnu := (hVt.2.2.2 c hc).2.2.2.1
    obtain rfl : r = (zNU t c).toNat := by omega
    refine w_iload_n (pc' := 5) ⟨rfl, rfl⟩ rfl ?_
    refine w_aload_n (pc' := 6) ⟨rfl, rfl⟩ rfl ?_
    refine w_getI (pc' := 9) (cl := 2) (q := 3) ⟨rfl, rfl⟩ ⟨rfl, by decide⟩ (hG.o hF) hPg.2.2.1 ?_
    refine w_icT_ge (pc' := 12) (pcT := 39) ⟨rfl, rfl⟩ rfl (by omega) ?_
    refine w_iload_n (pc' := 40) ⟨rfl, rfl⟩ rfl ?_
    refine w_ireturn (pc' := 41) ⟨rfl, rfl⟩ (Or.inl rfl) ?_
    exact k
  | succ n ih =>
    intro r hi k
    have hnu := (hVt.2.2.2 c hc).2.2.2.1
    have hr : (r : Int) < zNU t c := by omega
    have hR := hPg.2.2.2 r hr
    have hRo := (hG.r hF (show r < 6 by omega)).2
    refine w_iload_n (pc' := 5) ⟨rfl, rfl⟩ rfl ?_
    refine w_aload_n (pc' := 6) ⟨rfl, rfl⟩ rfl ?_
    refine w_getI (pc' := 9) (cl := 2) (q := 3) ⟨rfl, rfl⟩ ⟨rfl, by decide⟩ (hG.o hF) hPg.2.2.1 ?_
    refine w_icF_ge (pc' := 12) ⟨rfl, rfl⟩ (by omega) ?_
    refine w_aload_n (pc' := 13) ⟨rfl, rfl⟩ rfl ?_
    refine w_iload_n (pc' := 14) ⟨rfl, rfl⟩ rfl ?_
    refine w_cv2 (pc' := 17) ⟨rfl, rfl⟩ (by decide) (hG.o hF) (Nat.le_of_ble_eq_true rfl) (Nat.le_of_ble_eq_true rfl) (c_ruleAt hF hG hPg.2.2.1 (by omega) (by omega) (fun h => ?_) (fun h => ?_))
    · rw [show (r : Int).toNat = r from rfl]
      refine w_astore_n (pc' := 18) ⟨rfl, rfl⟩ rfl ?_
      refine w_iload_n (pc' := 19) ⟨rfl, rfl⟩ rfl ?_
      refine w_aload_n (pc' := 20) ⟨rfl, rfl⟩ rfl ?_
      refine w_ifnonnullR (pc' := 23) (pcT := 27) ⟨rfl, rfl⟩ rfl  ?_
      refine w_aload_n (pc' := 28) ⟨rfl, rfl⟩ rfl ?_
      refine w_cv1 (pc' := 31) ⟨rfl, rfl⟩ (by decide) hRo (Nat.le_of_ble_eq_true rfl) (Nat.le_of_ble_eq_true rfl) (c_ruleReads hF hVt hc hr hRo hR ?_)
      refine w_ior (pc' := 32) ⟨rfl, rfl⟩ ?_
      refine w_istore_n (pc' := 33) ⟨rfl, rfl⟩ rfl ?_
      refine w_iincZ (pc' := 36) ⟨rfl, rfl⟩ rfl rfl ?_
      refine w_goto (pc' := 39) (pcT := 4) ⟨rfl, rfl⟩ rfl ?_
      refine w_at ?_ (ih (r + 1) (by omega) k)
      exact ⟨rfl, rfl, rfl, trivial⟩
    · exfalso; omega
theorem c_fieldsRead {σ : zSt} {o c : Nat} {t : zBk} (hF : zFx σ) (hVt : zVt t) (hc : (c : Int) < t 1) (hG : zIsG o) (hPg : zPg σ o t c) {Q : zSt → Option Value → Prop} (k : Q σ (some (.int (zFR t c (zNU t c).toNat)))) : zCa 49 [.ref o] σ Q := by
  refine w_enter (c := zk_X3_fieldsRead) (ls2 := [(0, .ref o)]) rfl ⟨rfl, trivial⟩ ?_
  have hnu := (hVt.2.2.2 c hc).2.2.2.1
  refine w_ic (pc' := 1) ⟨rfl, rfl⟩ ?_
  refine w_istore_n (pc' := 2) ⟨rfl, rfl⟩ rfl ?_
  refine w_ic (pc' := 3) ⟨rfl, rfl⟩ ?_
  refine w_istore_n (pc' := 4) ⟨rfl, rfl⟩ rfl ?_
  refine w_at ?_ (l_fieldsRead hF hVt hc hG hPg (zNU t c).toNat 0 (by omega) k)
  exact ⟨rfl, rfl, rfl, trivial⟩
theorem l_fieldsFilled {σ : zSt} {o c : Nat} {t : zBk} (hF : zFx σ) (hVt : zVt t) (hc : (c : Int) < t 1) (hG : zIsG o) (hPg : zPg σ o t c) {Q : zSt → Option Value → Prop} : ∀ (n : Nat) (r : Nat), ((r : Int) + n = zNU t c) → (Q σ (some (.int (zFF t c (zNU t c).toNat)))) → zP zk_X3_fieldsFilled 4 [(0, .ref o), (1, .int (zFF t c r)), (2, .int (iZ r))] [] σ Q := by
  intro n
  induction n with
  | zero =>
    intro r hi k
    have hnu := (hVt.2.2.2 c hc).2.2.2.1
    obtain rfl : r = (zNU t c).toNat := by omega
    refine w_iload_n (pc' := 5) ⟨rfl, rfl⟩ rfl ?_
    refine w_aload_n (pc' := 6) ⟨rfl, rfl⟩ rfl ?_
    refine w_getI (pc' := 9) (cl := 2) (q := 3) ⟨rfl, rfl⟩ ⟨rfl, by decide⟩ (hG.o hF) hPg.2.2.1 ?_
    refine w_icT_ge (pc' := 12) (pcT := 41) ⟨rfl, rfl⟩ rfl (by omega) ?_
    refine w_iload_n (pc' := 42) ⟨rfl, rfl⟩ rfl ?_
    refine w_ireturn (pc' := 43) ⟨rfl, rfl⟩ (Or.inl rfl) ?_
    exact k
  | succ n ih =>
    intro r hi k
    have hnu := (hVt.2.2.2 c hc).2.2.2.1
    have hr : (r : Int) < zNU t c := by omega
    have hR := hPg.2.2.2 r hr
    have hRo := (hG.r hF (show r < 6 by omega)).2
    refine w_iload_n (pc' := 5) ⟨rfl, rfl⟩ rfl ?_
    refine w_aload_n (pc' := 6) ⟨rfl, rfl⟩ rfl ?_
    refine w_getI (pc' := 9) (cl := 2) (q := 3) ⟨rfl, rfl⟩ ⟨rfl, by decide⟩ (hG.o hF) hPg.2.2.1 ?_
    refine w_icF_ge (pc' := 12) ⟨rfl, rfl⟩ (by omega) ?_
    refine w_aload_n (pc' := 13) ⟨rfl, rfl⟩ rfl ?_
    refine w_iload_n (pc' := 14) ⟨rfl, rfl⟩ rfl ?_
    refine w_cv2 (pc' := 17) ⟨rfl, rfl⟩ (by decide) (hG.o hF) (Nat.le_of_ble_eq_true rfl) (Nat.le_of_ble_eq_true rfl) (c_ruleAt hF hG hPg.2.2.1 (by omega) (by omega) (fun h => ?_) (fun h => ?_))
    · rw [show (r : Int).toNat = r from rfl]
      refine w_astore_n (pc' := 18) ⟨rfl, rfl⟩ rfl ?_
      refine w_iload_n (pc' := 19) ⟨rfl, rfl⟩ rfl ?_
      refine w_aload_n (pc' := 20) ⟨rfl, rfl⟩ rfl ?_
      refine w_ifnonnullR (pc' := 23) (pcT := 27) ⟨rfl, rfl⟩ rfl  ?_
      refine w_ic (pc' := 28) ⟨rfl, rfl⟩ ?_
      refine w_aload_n (pc' := 29) ⟨rfl, rfl⟩ rfl ?_
      refine w_getI (pc' := 32) (cl := 5) (q := 0) ⟨rfl, rfl⟩ ⟨rfl, by decide⟩ hRo hR.1 ?_
      refine w_ishl (pc' := 33) ⟨rfl, rfl⟩ ?_
      refine w_ior (pc' := 34) ⟨rfl, rfl⟩ ?_
      refine w_istore_n (pc' := 35) ⟨rfl, rfl⟩ rfl ?_
      refine w_iincZ (pc' := 38) ⟨rfl, rfl⟩ rfl rfl ?_
      refine w_goto (pc' := 41) (pcT := 4) ⟨rfl, rfl⟩ rfl ?_
      refine w_at ?_ (ih (r + 1) (by omega) k)
      exact ⟨rfl, rfl, rfl, trivial⟩
    · exfalso; omega
theorem c_fieldsFilled {σ : zSt} {o c : Nat} {t : zBk} (hF : zFx σ) (hVt : zVt t) (hc : (c : Int) < t 1) (hG : zIsG o) (hPg : zPg σ o t c) {Q : zSt → Option Value → Prop} (k : Q σ (some (.int (zFF t c (zNU t c).toNat)))) : zCa 50 [.ref o] σ Q := by
  refine w_enter (c := zk_X3_fieldsFilled) (ls2 := [(0, .ref o)]) rfl ⟨rfl, trivial⟩ ?_
  have hnu := (hVt.2.2.2 c hc).2.2.2.1
  refine w_ic (pc' := 1) ⟨rfl, rfl⟩ ?_
  refine w_istore_n (pc' := 2) ⟨rfl, rfl⟩ rfl ?_
  refine w_ic (pc' := 3) ⟨rfl, rfl⟩ ?_
  refine w_istore_n (pc' := 4) ⟨rfl, rfl⟩ rfl ?_
  refine w_at ?_ (l_fieldsFilled hF hVt hc hG hPg (zNU t c).toNat 0 (by omega) k)
  exact ⟨rfl, rfl, rfl, trivial⟩
theorem l_readBits {σ : zSt} {c : Nat} {t : zBk} (hF : zFx σ) (hT : zTr σ t) (hVt : zVt t) (hc : (c : Int) < t 1) {Q : zSt → Option Value → Prop} : ∀ (n : Nat) (r : Nat), ((r : Int) + n = zNU t c) → (Q σ (some (.int (zFR t c (zNU t c).toNat)))) → zP zk_X12_readBits 4 [(0, .ref 164), (1, .int (iZ c)), (2, .int (zFR t c r)), (3, .int (iZ r))] [] σ Q := by
  intro n
  induction n with
  | zero =>
    intro r hi k
    have hnu := (hVt.2.2.2 c hc).2.2.2.1
    have ht1 := hVt.2.1
    obtain rfl : r = (zNU t c).toNat := by omega
    refine w_iload_n (pc' := 5) ⟨rfl, rfl⟩ rfl ?_
    refine w_aload_n (pc' := 6) ⟨rfl, rfl⟩ rfl ?_
    refine w_iload_n (pc' := 7) ⟨rfl, rfl⟩ rfl ?_
    refine w_cv2 (pc' := 10) ⟨rfl, rfl⟩ (by decide) (zOl hF rfl) (Nat.le_of_ble_eq_true rfl) (Nat.le_of_ble_eq_true rfl) (r_ruleMany hF hT (by omega) ?_)
    refine w_icT_ge (pc' := 13) (pcT := 65) ⟨rfl, rfl⟩ rfl (by omega) ?_
    refine w_iload_n (pc' := 66) ⟨rfl, rfl⟩ rfl ?_
    refine w_ireturn (pc' := 67) ⟨rfl, rfl⟩ (Or.inl rfl) ?_
    exact k
  | succ n ih =>
    intro r hi k
    have hnu := (hVt.2.2.2 c hc).2.2.2.1
    have ht1 := hVt.2.1
    have hr : (r : Int) < zNU t c := by omega
    have hrv := (hVt.2.2.2 c hc).2.2.2.2.1 r hr
    have hrs := hrv.2.1
    have hr1 := hrv.2.2.1
    have hr3 := hrv.2.2.2.2.1
    clear hrv
    refine w_iload_n (pc' := 5) ⟨rfl, rfl⟩ rfl ?_
    refine w_aload_n (pc' := 6) ⟨rfl, rfl⟩ rfl ?_
    refine w_iload_n (pc' := 7) ⟨rfl, rfl⟩ rfl ?_
    refine w_cv2 (pc' := 10) ⟨rfl, rfl⟩ (by decide) (zOl hF rfl) (Nat.le_of_ble_eq_true rfl) (Nat.le_of_ble_eq_true rfl) (r_ruleMany hF hT (by omega) ?_)
    refine w_icF_ge (pc' := 13) ⟨rfl, rfl⟩ (by omega) ?_
    refine w_aload_n (pc' := 14) ⟨rfl, rfl⟩ rfl ?_
    refine w_iload_n (pc' := 15) ⟨rfl, rfl⟩ rfl ?_
    refine w_iload_n (pc' := 16) ⟨rfl, rfl⟩ rfl ?_
    refine w_ic (pc' := 17) ⟨rfl, rfl⟩ ?_
    refine w_cv4 (pc' := 20) ⟨rfl, rfl⟩ (by decide) (zOl hF rfl) (Nat.le_of_ble_eq_true rfl) (Nat.le_of_ble_eq_true rfl) (r_ruleHas1 hF hT (by omega) (by omega) ?_)
    refine w_ic (pc' := 21) ⟨rfl, rfl⟩ ?_
    refine w_ic_eq (pc' := 24) (pcT := 36) ⟨rfl, rfl⟩ rfl (by omega) (by omega) (fun h1 => ?_) (fun h1 => ?_)
    · refine w_aload_n (pc' := 37) ⟨rfl, rfl⟩ rfl ?_
      refine w_iload_n (pc' := 38) ⟨rfl, rfl⟩ rfl ?_
      refine w_iload_n (pc' := 39) ⟨rfl, rfl⟩ rfl ?_
      refine w_ic (pc' := 40) ⟨rfl, rfl⟩ ?_
      refine w_cv4 (pc' := 43) ⟨rfl, rfl⟩ (by decide) (zOl hF rfl) (Nat.le_of_ble_eq_true rfl) (Nat.le_of_ble_eq_true rfl) (r_ruleHas1 hF hT (by omega) (by omega) ?_)
      refine w_ic (pc' := 44) ⟨rfl, rfl⟩ ?_
      refine w_ic_ne (pc' := 47) (pcT := 59) ⟨rfl, rfl⟩ rfl (by omega) (by omega) (fun h2 => ?_) (fun h2 => ?_)
      · refine w_iincZ (pc' := 62) ⟨rfl, rfl⟩ rfl rfl ?_
        refine w_goto (pc' := 65) (pcT := 4) ⟨rfl, rfl⟩ rfl ?_
        refine w_at ?_ (ih (r + 1) (by omega) k)
        exact ⟨rfl, rfl, by show _ = some (Value.int (zFR t c r ||| zfr t c r)); unfold zfr; first | (rw [if_pos (by omega), zor0]; rfl) | (rw [if_neg (by omega), if_pos (by omega), ← Int32.or_assoc]; rfl) | (rw [if_neg (by omega), if_neg (by omega)]; rfl) | (exfalso; omega), rfl, trivial⟩
      · refine w_iload_n (pc' := 48) ⟨rfl, rfl⟩ rfl ?_
        refine w_ic (pc' := 49) ⟨rfl, rfl⟩ ?_
        refine w_aload_n (pc' := 50) ⟨rfl, rfl⟩ rfl ?_
        refine w_iload_n (pc' := 51) ⟨rfl, rfl⟩ rfl ?_
        refine w_iload_n (pc' := 52) ⟨rfl, rfl⟩ rfl ?_
        refine w_ic (pc' := 53) ⟨rfl, rfl⟩ ?_
        refine w_cv4 (pc' := 56) ⟨rfl, rfl⟩ (by decide) (zOl hF rfl) (Nat.le_of_ble_eq_true rfl) (Nat.le_of_ble_eq_true rfl) (r_ruleHas3 hF hT (by omega) (by omega) ?_)
        refine w_ishl (pc' := 57) ⟨rfl, rfl⟩ ?_
        refine w_ior (pc' := 58) ⟨rfl, rfl⟩ ?_
        refine w_istore_n (pc' := 59) ⟨rfl, rfl⟩ rfl ?_
        refine w_iincZ (pc' := 62) ⟨rfl, rfl⟩ rfl rfl ?_
        refine w_goto (pc' := 65) (pcT := 4) ⟨rfl, rfl⟩ rfl ?_
        refine w_at ?_ (ih (r + 1) (by omega) k)
        exact ⟨rfl, rfl, by show _ = some (Value.int (zFR t c r ||| zfr t c r)); unfold zfr; first | (rw [if_pos (by omega), zor0]; rfl) | (rw [if_neg (by omega), if_pos (by omega), ← Int32.or_assoc]; rfl) | (rw [if_neg (by omega), if_neg (by omega)]; rfl) | (exfalso; omega), rfl, trivial⟩
    · refine w_iload_n (pc' := 25) ⟨rfl, rfl⟩ rfl ?_
      refine w_ic (pc' := 26) ⟨rfl, rfl⟩ ?_
      refine w_aload_n (pc' := 27) ⟨rfl, rfl⟩ rfl ?_
      refine w_iload_n (pc' := 28) ⟨rfl, rfl⟩ rfl ?_
      refine w_iload_n (pc' := 29) ⟨rfl, rfl⟩ rfl ?_
      refine w_ic (pc' := 30) ⟨rfl, rfl⟩ ?_
      refine w_cv4 (pc' := 33) ⟨rfl, rfl⟩ (by decide) (zOl hF rfl) (Nat.le_of_ble_eq_true rfl) (Nat.le_of_ble_eq_true rfl) (r_ruleHas2 hF hT (by omega) (by omega) ?_)
      refine w_ishl (pc' := 34) ⟨rfl, rfl⟩ ?_
      refine w_ior (pc' := 35) ⟨rfl, rfl⟩ ?_
      refine w_istore_n (pc' := 36) ⟨rfl, rfl⟩ rfl ?_
      refine w_aload_n (pc' := 37) ⟨rfl, rfl⟩ rfl ?_
      refine w_iload_n (pc' := 38) ⟨rfl, rfl⟩ rfl ?_
      refine w_iload_n (pc' := 39) ⟨rfl, rfl⟩ rfl ?_
      refine w_ic (pc' := 40) ⟨rfl, rfl⟩ ?_
      refine w_cv4 (pc' := 43) ⟨rfl, rfl⟩ (by decide) (zOl hF rfl) (Nat.le_of_ble_eq_true rfl) (Nat.le_of_ble_eq_true rfl) (r_ruleHas1 hF hT (by omega) (by omega) ?_)
      refine w_ic (pc' := 44) ⟨rfl, rfl⟩ ?_
      refine w_ic_ne (pc' := 47) (pcT := 59) ⟨rfl, rfl⟩ rfl (by omega) (by omega) (fun h2 => ?_) (fun h2 => ?_)
      · refine w_iincZ (pc' := 62) ⟨rfl, rfl⟩ rfl rfl ?_
        refine w_goto (pc' := 65) (pcT := 4) ⟨rfl, rfl⟩ rfl ?_
        refine w_at ?_ (ih (r + 1) (by omega) k)
        exact ⟨rfl, rfl, by show _ = some (Value.int (zFR t c r ||| zfr t c r)); unfold zfr; first | (rw [if_pos (by omega), zor0]; rfl) | (rw [if_neg (by omega), if_pos (by omega), ← Int32.or_assoc]; rfl) | (rw [if_neg (by omega), if_neg (by omega)]; rfl) | (exfalso; omega), rfl, trivial⟩
      · refine w_iload_n (pc' := 48) ⟨rfl, rfl⟩ rfl ?_
        refine w_ic (pc' := 49) ⟨rfl, rfl⟩ ?_
        refine w_aload_n (pc' := 50) ⟨rfl, rfl⟩ rfl ?_
        refine w_iload_n (pc' := 51) ⟨rfl, rfl⟩ rfl ?_
        refine w_iload_n (pc' := 52) ⟨rfl, rfl⟩ rfl ?_
        refine w_ic (pc' := 53) ⟨rfl, rfl⟩ ?_
        refine w_cv4 (pc' := 56) ⟨rfl, rfl⟩ (by decide) (zOl hF rfl) (Nat.le_of_ble_eq_true rfl) (Nat.le_of_ble_eq_true rfl) (r_ruleHas3 hF hT (by omega) (by omega) ?_)
        refine w_ishl (pc' := 57) ⟨rfl, rfl⟩ ?_
        refine w_ior (pc' := 58) ⟨rfl, rfl⟩ ?_
        refine w_istore_n (pc' := 59) ⟨rfl, rfl⟩ rfl ?_
        refine w_iincZ (pc' := 62) ⟨rfl, rfl⟩ rfl rfl ?_
        refine w_goto (pc' := 65) (pcT := 4) ⟨rfl, rfl⟩ rfl ?_
        refine w_at ?_ (ih (r + 1) (by omega) k)
        exact ⟨rfl, rfl, by show _ = some (Value.int (zFR t c r ||| zfr t c r)); unfold zfr; first | (rw [if_pos (by omega), zor0]; rfl) | (rw [if_neg (by omega), if_pos (by omega), ← Int32.or_assoc]; rfl) | (rw [if_neg (by omega), if_neg (by omega)]; rfl) | (exfalso; omega), rfl, trivial⟩
theorem r_readBits {σ : zSt} {c : Nat} {t : zBk} (hF : zFx σ) (hT : zTr σ t) (hVt : zVt t) (hc : (c : Int) < t 1) {Q : zSt → Option Value → Prop} (k : Q σ (some (.int (zFR t c (zNU t c).toNat)))) : zCa 246 [.ref 164, .int (iZ c)] σ Q := by
  refine w_enter (c := zk_X12_readBits) (ls2 := [(0, .ref 164), (1, .int (iZ c))]) rfl ⟨rfl, rfl, trivial⟩ ?_
  have hnu := (hVt.2.2.2 c hc).2.2.2.1
  have ht1 := hVt.2.1
  refine w_ic (pc' := 1) ⟨rfl, rfl⟩ ?_
  refine w_istore_n (pc' := 2) ⟨rfl, rfl⟩ rfl ?_
  refine w_ic (pc' := 3) ⟨rfl, rfl⟩ ?_
  refine w_istore_n (pc' := 4) ⟨rfl, rfl⟩ rfl ?_
  refine w_at ?_ (l_readBits hF hT hVt hc (zNU t c).toNat 0 (by omega) k)
  exact ⟨rfl, rfl, rfl, rfl, trivial⟩
theorem l_filledBits {σ : zSt} {c : Nat} {t : zBk} (hF : zFx σ) (hT : zTr σ t) (hVt : zVt t) (hc : (c : Int) < t 1) {Q : zSt → Option Value → Prop} : ∀ (n : Nat) (r : Nat), ((r : Int) + n = zNU t c) → (Q σ (some (.int (zFF t c (zNU t c).toNat)))) → zP zk_X12_filledBits 4 [(0, .ref 164), (1, .int (iZ c)), (2, .int (zFF t c r)), (3, .int (iZ r))] [] σ Q := by
  intro n
  induction n with
  | zero =>
    intro r hi k
    have hnu := (hVt.2.2.2 c hc).2.2.2.1
    have ht1 := hVt.2.1
    obtain rfl : r = (zNU t c).toNat := by omega
    refine w_iload_n (pc' := 5) ⟨rfl, rfl⟩ rfl ?_
    refine w_aload_n (pc' := 6) ⟨rfl, rfl⟩ rfl ?_
    refine w_iload_n (pc' := 7) ⟨rfl, rfl⟩ rfl ?_
    refine w_cv2 (pc' := 10) ⟨rfl, rfl⟩ (by decide) (zOl hF rfl) (Nat.le_of_ble_eq_true rfl) (Nat.le_of_ble_eq_true rfl) (r_ruleMany hF hT (by omega) ?_)
    refine w_icT_ge (pc' := 13) (pcT := 31) ⟨rfl, rfl⟩ rfl (by omega) ?_
    refine w_iload_n (pc' := 32) ⟨rfl, rfl⟩ rfl ?_
    refine w_ireturn (pc' := 33) ⟨rfl, rfl⟩ (Or.inl rfl) ?_
    exact k
  | succ n ih =>
    intro r hi k
    have hnu := (hVt.2.2.2 c hc).2.2.2.1
    have ht1 := hVt.2.1
    have hr : (r : Int) < zNU t c := by omega
    have hrv := (hVt.2.2.2 c hc).2.2.2.2.1 r hr
    have hrs := hrv.2.1
    have hr1 := hrv.2.2.1
    have hr3 := hrv.2.2.2.2.1
    clear hrv
    refine w_iload_n (pc' := 5) ⟨rfl, rfl⟩ rfl ?_
    refine w_aload_n (pc' := 6) ⟨rfl, rfl⟩ rfl ?_
    refine w_iload_n (pc' := 7) ⟨rfl, rfl⟩ rfl ?_
    refine w_cv2 (pc' := 10) ⟨rfl, rfl⟩ (by decide) (zOl hF rfl) (Nat.le_of_ble_eq_true rfl) (Nat.le_of_ble_eq_true rfl) (r_ruleMany hF hT (by omega) ?_)
    refine w_icF_ge (pc' := 13) ⟨rfl, rfl⟩ (by omega) ?_
    refine w_iload_n (pc' := 14) ⟨rfl, rfl⟩ rfl ?_
    refine w_ic (pc' := 15) ⟨rfl, rfl⟩ ?_
    refine w_aload_n (pc' := 16) ⟨rfl, rfl⟩ rfl ?_
    refine w_iload_n (pc' := 17) ⟨rfl, rfl⟩ rfl ?_
    refine w_iload_n (pc' := 18) ⟨rfl, rfl⟩ rfl ?_
    refine w_ic (pc' := 19) ⟨rfl, rfl⟩ ?_
    refine w_cv4 (pc' := 22) ⟨rfl, rfl⟩ (by decide) (zOl hF rfl) (Nat.le_of_ble_eq_true rfl) (Nat.le_of_ble_eq_true rfl) (r_ruleHas0 hF hT (by omega) (by omega) ?_)
    refine w_ishl (pc' := 23) ⟨rfl, rfl⟩ ?_
    refine w_ior (pc' := 24) ⟨rfl, rfl⟩ ?_
    refine w_istore_n (pc' := 25) ⟨rfl, rfl⟩ rfl ?_
    refine w_iincZ (pc' := 28) ⟨rfl, rfl⟩ rfl rfl ?_
    refine w_goto (pc' := 31) (pcT := 4) ⟨rfl, rfl⟩ rfl ?_
    refine w_at ?_ (ih (r + 1) (by omega) k)
    exact ⟨rfl, rfl, rfl, rfl, trivial⟩
theorem r_filledBits {σ : zSt} {c : Nat} {t : zBk} (hF : zFx σ) (hT : zTr σ t) (hVt : zVt t) (hc : (c : Int) < t 1) {Q : zSt → Option Value → Prop} (k : Q σ (some (.int (zFF t c (zNU t c).toNat)))) : zCa 247 [.ref 164, .int (iZ c)] σ Q := by
  refine w_enter (c := zk_X12_filledBits) (ls2 := [(0, .ref 164), (1, .int (iZ c))]) rfl ⟨rfl, rfl, trivial⟩ ?_
  have hnu := (hVt.2.2.2 c hc).2.2.2.1
  have ht1 := hVt.2.1
  refine w_ic (pc' := 1) ⟨rfl, rfl⟩ ?_
  refine w_istore_n (pc' := 2) ⟨rfl, rfl⟩ rfl ?_
  refine w_ic (pc' := 3) ⟨rfl, rfl⟩ ?_
  refine w_istore_n (pc' := 4) ⟨rfl, rfl⟩ rfl ?_
  refine w_at ?_ (l_filledBits hF hT hVt hc (zNU t c).toNat 0 (by omega) k)
  exact ⟨rfl, rfl, rfl, rfl, trivial⟩
