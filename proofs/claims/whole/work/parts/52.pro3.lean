/-! PROVED, THE CLASS -/
theorem c_leadsBack {σ : zSt} {o1 o2 c d : Nat} {t : zBk} (hF : zFx σ) (hG1 : zIsG o1) (hP1 : zPg σ o1 t d) (hG2 : zIsG o2) (hP2 : zPg σ o2 t c) (hr : (0 ≤ zFO t c ∧ zFO t c < 3) ∧ (0 ≤ zTO t c ∧ zTO t c < 3) ∧ (0 ≤ zFO t d ∧ zFO t d < 3) ∧ (0 ≤ zTO t d ∧ zTO t d < 3)) {Q : zSt → Option Value → Prop} (k1 : zFO t d = zTO t c ∧ zTO t d = zFO t c → Q σ (some (.int (iZ 1)))) (k0 : ¬ (zFO t d = zTO t c ∧ zTO t d = zFO t c) → Q σ (some (.int (iZ 0)))) : zCa 51 [.ref o1, .ref o2] σ Q := by
  refine w_enter (c := zk_X3_leadsBack) (ls2 := [(0, .ref o1), (1, .ref o2)]) rfl ⟨rfl, rfl, trivial⟩ ?_
  refine w_aload_n (pc' := 1) ⟨rfl, rfl⟩ rfl ?_
  refine w_getI (pc' := 4) (cl := 2) (q := 1) ⟨rfl, rfl⟩ ⟨rfl, by decide⟩ (hG1.o hF) hP1.1 ?_
  refine w_aload_n (pc' := 5) ⟨rfl, rfl⟩ rfl ?_
  refine w_getI (pc' := 8) (cl := 2) (q := 2) ⟨rfl, rfl⟩ ⟨rfl, by decide⟩ (hG2.o hF) hP2.2.1 ?_
  refine w_ic_ne (pc' := 11) (pcT := 26) ⟨rfl, rfl⟩ rfl (by omega) (by omega) (fun h1 => ?_) (fun h1 => ?_)
  · refine w_ic (pc' := 27) ⟨rfl, rfl⟩ ?_
    refine w_ireturn (pc' := 28) ⟨rfl, rfl⟩ (by decide) ?_
    first | exact k1 (by omega) | exact k0 (by omega)
  · refine w_aload_n (pc' := 12) ⟨rfl, rfl⟩ rfl ?_
    refine w_getI (pc' := 15) (cl := 2) (q := 2) ⟨rfl, rfl⟩ ⟨rfl, by decide⟩ (hG1.o hF) hP1.2.1 ?_
    refine w_aload_n (pc' := 16) ⟨rfl, rfl⟩ rfl ?_
    refine w_getI (pc' := 19) (cl := 2) (q := 1) ⟨rfl, rfl⟩ ⟨rfl, by decide⟩ (hG2.o hF) hP2.1 ?_
    refine w_ic_ne (pc' := 22) (pcT := 26) ⟨rfl, rfl⟩ rfl (by omega) (by omega) (fun h2 => ?_) (fun h2 => ?_)
    · refine w_ic (pc' := 27) ⟨rfl, rfl⟩ ?_
      refine w_ireturn (pc' := 28) ⟨rfl, rfl⟩ (by decide) ?_
      first | exact k1 (by omega) | exact k0 (by omega)
    · refine w_ic (pc' := 23) ⟨rfl, rfl⟩ ?_
      refine w_goto (pc' := 26) (pcT := 27) ⟨rfl, rfl⟩ rfl ?_
      refine w_ireturn (pc' := 28) ⟨rfl, rfl⟩ (by decide) ?_
      first | exact k1 (by omega) | exact k0 (by omega)
theorem c_keepsWhole {σ : zSt} {ro of ot c r : Nat} {t : zBk} (hF : zFx σ) (hVt : zVt t) (hc : (c : Int) < t 1) (hr : (r : Int) < zNU t c) (hRo : zO σ ro 5) (hR : zRu σ ro t c r) (hOf : zIsS of) (hSf : zSh σ of t (zFO t c).toNat) (hOt : zIsS ot) (hSt : zSh σ ot t (zTO t c).toNat) (h0 : zRS t c r = 0) {Q : zSt → Option Value → Prop} (k1 : zPW t c (zR1 t c r).toNat (zRT t c r).toNat = true → Q σ (some (.int (iZ 1)))) (k0 : zPW t c (zR1 t c r).toNat (zRT t c r).toNat = false → Q σ (some (.int (iZ 0)))) : zCa 53 [.ref ro, .ref of, .ref ot] σ Q := by
  refine w_enter (c := zk_X3_keepsWhole) (ls2 := [(0, .ref ro), (1, .ref of), (2, .ref ot)]) rfl ⟨rfl, rfl, rfl, trivial⟩ ?_
  have hrv := (hVt.2.2.2 c hc).2.2.2.2.1 r hr
  have hrt := hrv.1
  have hr1 := hrv.2.2.1
  clear hrv
  have hfo := (hVt.2.2.2 c hc).1
  have hto := (hVt.2.2.2 c hc).2.1
  have hvf := (hVt.2.2.1 (zFO t c).toNat (by have := hVt.1; omega)).1
  have hvt := (hVt.2.2.1 (zTO t c).toNat (by have := hVt.1; omega)).1
  have hnf := hvf.1
  have hnt := hvt.1
  obtain ⟨f1, hf1⟩ : ∃ q : Nat, zR1 t c r = q := ⟨(zR1 t c r).toNat, by omega⟩
  obtain ⟨g1, hg1⟩ : ∃ q : Nat, zRT t c r = q := ⟨(zRT t c r).toNat, by omega⟩
  have e1 : (zR1 t c r).toNat = f1 := by omega
  have e2 : (zRT t c r).toNat = g1 := by omega
  have hk1 := hvf.2 f1 (by omega)
  have hk2 := hvt.2 g1 (by omega)
  refine w_aload_n (pc' := 1) ⟨rfl, rfl⟩ rfl ?_
  refine w_aload_n (pc' := 2) ⟨rfl, rfl⟩ rfl ?_
  refine w_getI (pc' := 5) (cl := 5) (q := 2) ⟨rfl, rfl⟩ ⟨rfl, by decide⟩ hRo (hR.2.2.1.trans (by rw [hf1])) ?_
  refine w_cv2 (pc' := 8) ⟨rfl, rfl⟩ (by decide) (hOf.o hF) (Nat.le_of_ble_eq_true rfl) (Nat.le_of_ble_eq_true rfl) (c_hasField hF hOf hSf hvf (by omega) (fun h => ?_) (fun h => ?_))
  · refine w_ifF_eq (pc' := 11) ⟨rfl, rfl⟩ (by decide) ?_
    refine w_aload_n (pc' := 12) ⟨rfl, rfl⟩ rfl ?_
    refine w_aload_n (pc' := 13) ⟨rfl, rfl⟩ rfl ?_
    refine w_getI (pc' := 16) (cl := 5) (q := 0) ⟨rfl, rfl⟩ ⟨rfl, by decide⟩ hRo (hR.1.trans (by rw [hg1])) ?_
    refine w_cv2 (pc' := 19) ⟨rfl, rfl⟩ (by decide) (hOt.o hF) (Nat.le_of_ble_eq_true rfl) (Nat.le_of_ble_eq_true rfl) (c_hasField hF hOt hSt hvt (by omega) (fun h => ?_) (fun h => ?_))
    · refine w_ifF_eq (pc' := 22) ⟨rfl, rfl⟩ (by decide) ?_
      refine w_aload_n (pc' := 23) ⟨rfl, rfl⟩ rfl ?_
      refine w_getR (pc' := 26) (cl := 6) (q := 1) ⟨rfl, rfl⟩ ⟨rfl, by decide⟩ (hOf.o hF) (hOf.p hF).2.1 ?_
      refine w_aload_n (pc' := 27) ⟨rfl, rfl⟩ rfl ?_
      refine w_getI (pc' := 30) (cl := 5) (q := 2) ⟨rfl, rfl⟩ ⟨rfl, by decide⟩ hRo (hR.2.2.1.trans (by rw [hf1])) ?_
      refine w_iald (pc' := 31) ⟨rfl, rfl⟩ (hOf.a hF).2.1 (zixZ (by omega)) (hSf.2.2 f1 (by omega)).1 ?_
      refine w_aload_n (pc' := 32) ⟨rfl, rfl⟩ rfl ?_
      refine w_getR (pc' := 35) (cl := 6) (q := 1) ⟨rfl, rfl⟩ ⟨rfl, by decide⟩ (hOt.o hF) (hOt.p hF).2.1 ?_
      refine w_aload_n (pc' := 36) ⟨rfl, rfl⟩ rfl ?_
      refine w_getI (pc' := 39) (cl := 5) (q := 0) ⟨rfl, rfl⟩ ⟨rfl, by decide⟩ hRo (hR.1.trans (by rw [hg1])) ?_
      refine w_iald (pc' := 40) ⟨rfl, rfl⟩ (hOt.a hF).2.1 (zixZ (by omega)) (hSt.2.2 g1 (by omega)).1 ?_
      refine w_cs2 (pc' := 43) ⟨rfl, rfl⟩ (by decide) (Nat.le_of_ble_eq_true rfl) (Nat.le_of_ble_eq_true rfl) (c_goesWholeInto (by omega) (by omega) (fun hw => ?_) (fun hw => ?_))
      · refine w_ifF_eq (pc' := 46) ⟨rfl, rfl⟩ (by decide) ?_
        refine w_aload_n (pc' := 47) ⟨rfl, rfl⟩ rfl ?_
        refine w_getR (pc' := 50) (cl := 6) (q := 2) ⟨rfl, rfl⟩ ⟨rfl, by decide⟩ (hOt.o hF) (hOt.p hF).2.2.1 ?_
        refine w_aload_n (pc' := 51) ⟨rfl, rfl⟩ rfl ?_
        refine w_getI (pc' := 54) (cl := 5) (q := 0) ⟨rfl, rfl⟩ ⟨rfl, by decide⟩ hRo (hR.1.trans (by rw [hg1])) ?_
        refine w_iald (pc' := 55) ⟨rfl, rfl⟩ (hOt.a hF).2.2.1 (zixZ (by omega)) (hSt.2.2 g1 (by omega)).2.1 ?_
        refine w_aload_n (pc' := 56) ⟨rfl, rfl⟩ rfl ?_
        refine w_getR (pc' := 59) (cl := 6) (q := 2) ⟨rfl, rfl⟩ ⟨rfl, by decide⟩ (hOf.o hF) (hOf.p hF).2.2.1 ?_
        refine w_aload_n (pc' := 60) ⟨rfl, rfl⟩ rfl ?_
        refine w_getI (pc' := 63) (cl := 5) (q := 2) ⟨rfl, rfl⟩ ⟨rfl, by decide⟩ hRo (hR.2.2.1.trans (by rw [hf1])) ?_
        refine w_iald (pc' := 64) ⟨rfl, rfl⟩ (hOf.a hF).2.2.1 (zixZ (by omega)) (hSf.2.2 f1 (by omega)).2.1 ?_
        refine w_ic_lt (pc' := 67) (pcT := 71) ⟨rfl, rfl⟩ rfl (by omega) (by omega) (fun h1 => ?_) (fun h1 => ?_)
        · refine w_ic (pc' := 72) ⟨rfl, rfl⟩ ?_
          refine w_ireturn (pc' := 73) ⟨rfl, rfl⟩ (by decide) ?_
          exact k0 (by unfold zPW; rw [e1, e2, decide_eq_false (p := zCE t (zFO t c).toNat f1 ≤ zCE t (zTO t c).toNat g1) (by omega)]; simp)
        · refine w_ic (pc' := 68) ⟨rfl, rfl⟩ ?_
          refine w_goto (pc' := 71) (pcT := 72) ⟨rfl, rfl⟩ rfl ?_
          refine w_ireturn (pc' := 73) ⟨rfl, rfl⟩ (by decide) ?_
          exact k1 (by unfold zPW; rw [e1, e2, decide_eq_true hw.1, decide_eq_false hw.2, decide_eq_true (by omega)]; rfl)
      · refine w_ifT_eq (pc' := 46) (pcT := 71) ⟨rfl, rfl⟩ rfl (by decide) ?_
        refine w_ic (pc' := 72) ⟨rfl, rfl⟩ ?_
        refine w_ireturn (pc' := 73) ⟨rfl, rfl⟩ (by decide) ?_
        refine k0 ?_
        unfold zPW
        rw [e1, e2]
        by_cases hz : zgi (zKD t (zFO t c).toNat f1) (zKD t (zTO t c).toNat g1)
        · rw [decide_eq_true (p := _ ∨ _) (Classical.byContradiction (fun q => hw ⟨hz, q⟩))]; simp
        · rw [decide_eq_false hz]; simp
    · exfalso; omega
  · exfalso; omega
def zkw (t : zBk) (c d j q : Nat) : Bool := decide (zRS t c q = 0) && decide (zR1 t c q = j) && zPW t c (zR1 t c q).toNat (zRT t c q).toNat && zaB t d (zRT t c q).toNat (zR1 t c q).toNat (zNU t d).toNat
theorem zkw_PF {t : zBk} (hVt : zVt t) {c d : Nat} (hc : (c : Int) < t 1) (j : Nat) : zex (zkw t c d j) (zNU t c).toNat = zPF t c d j := by
  have hvc := hVt.2.2.2 c hc
  rw [Bool.eq_iff_iff]
  unfold zPF
  rw [Bool.and_eq_true, decide_eq_true_eq, zex_iff, zex_iff]
  constructor
  · rintro ⟨q, hq, hk⟩
    have hrv := hvc.2.2.2.2.1 q (by omega)
    unfold zkw at hk
    simp only [Bool.and_eq_true, decide_eq_true_eq] at hk
    obtain ⟨⟨⟨h1, h2⟩, h3⟩, h4⟩ := hk
    have hr1 := hrv.2.2.1 (by omega)
    have hrt := hrv.1
    rw [show (zR1 t c q).toNat = j by omega] at h3 h4
    refine ⟨by omega, (zRT t c q).toNat, by omega, ?_⟩
    unfold zPV
    rw [h3, h4, Bool.and_true, Bool.and_true]
    exact zex_iff.mpr ⟨q, hq, by simp only [Bool.and_eq_true, decide_eq_true_eq]; omega⟩
  · rintro ⟨hj, g, hg, hp⟩
    unfold zPV at hp
    simp only [Bool.and_eq_true] at hp
    obtain ⟨⟨h1, h2⟩, h3⟩ := hp
    obtain ⟨q, hq, hk⟩ := zex_iff.mp h1
    simp only [Bool.and_eq_true, decide_eq_true_eq] at hk
    refine ⟨q, hq, ?_⟩
    unfold zkw
    rw [show (zR1 t c q).toNat = j by omega, show (zRT t c q).toNat = g by omega, h2, h3, decide_eq_true hk.1.2, decide_eq_true hk.2]
    rfl
theorem l_fkw {σ : zSt} {o1 o2 of ot c d : Nat} {t : zBk} (hF : zFx σ) (hVt : zVt t) (hc : (c : Int) < t 1) (hd : (d : Int) < t 1) (hG : zIsG o1) (hPg : zPg σ o1 t c) (hG2 : zIsG o2) (hPg2 : zPg σ o2 t d) (hOf : zIsS of) (hSf : zSh σ of t (zFO t c).toNat) (hOt : zIsS ot) (hSt : zSh σ ot t (zTO t c).toNat) {Q : zSt → Option Value → Prop} : ∀ (n : Nat) (r : Nat), ((r : Int) + n = zNU t c) → (Q σ (some (.int (iZ (zbn (zPF t c d) 24 : Nat))))) → zP zk_X3_fieldsKeptWhole 6 [(0, .ref o1), (1, .ref o2), (2, .ref of), (3, .ref ot), (4, .int (iZ (zbn (fun j => zex (zkw t c d j) r) 24 : Nat))), (5, .int (iZ r))] [] σ Q := by
  intro n
  induction n with
  | zero =>
    intro r hi k
    have hnu := (hVt.2.2.2 c hc).2.2.2.1
    obtain rfl : r = (zNU t c).toNat := by omega
    refine w_iload (pc' := 8) ⟨rfl, rfl⟩ rfl ?_
    refine w_aload_n (pc' := 9) ⟨rfl, rfl⟩ rfl ?_
    refine w_getI (pc' := 12) (cl := 2) (q := 3) ⟨rfl, rfl⟩ ⟨rfl, by decide⟩ (hG.o hF) hPg.2.2.1 ?_
    refine w_icT_ge (pc' := 15) (pcT := 81) ⟨rfl, rfl⟩ rfl (by omega) ?_
    refine w_iload (pc' := 83) ⟨rfl, rfl⟩ rfl ?_
    refine w_ireturn (pc' := 84) ⟨rfl, rfl⟩ (Or.inl rfl) ?_
    exact zQV k (congrArg (fun x => iZ ((x : Nat) : Int)) (zbn_congr 24 (fun j hj => (zkw_PF hVt hc j).symm)))
  | succ n ih =>
    intro r hi k
    have hnu := (hVt.2.2.2 c hc).2.2.2.1
    have hr : (r : Int) < zNU t c := by omega
    have hR := hPg.2.2.2 r hr
    have hRo := (hG.r hF (show r < 6 by omega)).2
    have hrs := ((hVt.2.2.2 c hc).2.2.2.2.1 r hr).2.1
    refine w_iload (pc' := 8) ⟨rfl, rfl⟩ rfl ?_
    refine w_aload_n (pc' := 9) ⟨rfl, rfl⟩ rfl ?_
    refine w_getI (pc' := 12) (cl := 2) (q := 3) ⟨rfl, rfl⟩ ⟨rfl, by decide⟩ (hG.o hF) hPg.2.2.1 ?_
    refine w_icF_ge (pc' := 15) ⟨rfl, rfl⟩ (by omega) ?_
    refine w_aload_n (pc' := 16) ⟨rfl, rfl⟩ rfl ?_
    refine w_iload (pc' := 18) ⟨rfl, rfl⟩ rfl ?_
    refine w_cv2 (pc' := 21) ⟨rfl, rfl⟩ (by decide) (hG.o hF) (Nat.le_of_ble_eq_true rfl) (Nat.le_of_ble_eq_true rfl) (c_ruleAt hF hG hPg.2.2.1 (by omega) (by omega) (fun h => ?_) (fun h => ?_))
    · rw [show (r : Int).toNat = r from rfl]
      refine w_astore (pc' := 23) ⟨rfl, rfl⟩ rfl ?_
      refine w_aload (pc' := 25) ⟨rfl, rfl⟩ rfl ?_
      refine w_ifnullR (pc' := 28) (pcT := 75) ⟨rfl, rfl⟩ rfl  ?_
      refine w_aload (pc' := 30) ⟨rfl, rfl⟩ rfl ?_
      refine w_getI (pc' := 33) (cl := 5) (q := 1) ⟨rfl, rfl⟩ ⟨rfl, by decide⟩ hRo hR.2.1 ?_
      refine w_if_ne (pc' := 36) (pcT := 75) ⟨rfl, rfl⟩ rfl (by omega) (fun hs0 => ?_) (fun hs0 => ?_)
      · refine w_iincZ (pc' := 78) ⟨rfl, rfl⟩ rfl rfl ?_
        refine w_goto (pc' := 81) (pcT := 6) ⟨rfl, rfl⟩ rfl ?_
        refine w_at ?_ (ih (r + 1) (by omega) k)
        refine ⟨rfl, rfl, rfl, rfl, congrArg (fun x => some (Value.int (iZ ((x : Nat) : Int)))) (zbn_congr 24 (fun j hj => ?_)), rfl, trivial⟩
        rw [show zex (zkw t c d j) (r + 1) = (zex (zkw t c d j) r || zkw t c d j r) from rfl]
        rw [show zkw t c d j r = false by unfold zkw; rw [decide_eq_false hs0]; simp, Bool.or_false]
      · have hrv := (hVt.2.2.2 c hc).2.2.2.2.1 r hr
        have hrt := hrv.1
        have hr1 := hrv.2.2.1
        clear hrv
        have hfo := (hVt.2.2.2 c hc).1
        have hto := (hVt.2.2.2 c hc).2.1
        have hvf := (hVt.2.2.1 (zFO t c).toNat (by have := hVt.1; omega)).1
        have hvt := (hVt.2.2.1 (zTO t c).toNat (by have := hVt.1; omega)).1
        have hnf := hvf.1
        have hnt := hvt.1
        obtain ⟨f1, hf1⟩ : ∃ q : Nat, zR1 t c r = q := ⟨(zR1 t c r).toNat, by omega⟩
        obtain ⟨g1, hg1⟩ : ∃ q : Nat, zRT t c r = q := ⟨(zRT t c r).toNat, by omega⟩
        have e1 : (zR1 t c r).toNat = f1 := by omega
        have e2 : (zRT t c r).toNat = g1 := by omega
        have hk1 := hvf.2 f1 (by omega)
        have hk2 := hvt.2 g1 (by omega)
        refine w_aload (pc' := 38) ⟨rfl, rfl⟩ rfl ?_
        refine w_aload_n (pc' := 39) ⟨rfl, rfl⟩ rfl ?_
        refine w_aload_n (pc' := 40) ⟨rfl, rfl⟩ rfl ?_
        refine w_cs3 (pc' := 43) ⟨rfl, rfl⟩ (by decide) (Nat.le_of_ble_eq_true rfl) (Nat.le_of_ble_eq_true rfl) (c_keepsWhole hF hVt hc hr hRo hR hOf hSf hOt hSt (by assumption) (fun hw => ?_) (fun hw => ?_))
        · refine w_ifF_eq (pc' := 46) ⟨rfl, rfl⟩ (by decide) ?_
          refine w_aload_n (pc' := 47) ⟨rfl, rfl⟩ rfl ?_
          refine w_aload (pc' := 49) ⟨rfl, rfl⟩ rfl ?_
          refine w_getI (pc' := 52) (cl := 5) (q := 0) ⟨rfl, rfl⟩ ⟨rfl, by decide⟩ hRo (hR.1.trans (by rw [hg1])) ?_
          refine w_aload (pc' := 54) ⟨rfl, rfl⟩ rfl ?_
          refine w_getI (pc' := 57) (cl := 5) (q := 2) ⟨rfl, rfl⟩ ⟨rfl, by decide⟩ hRo (hR.2.2.1.trans (by rw [hf1])) ?_
          refine w_cv3 (pc' := 60) ⟨rfl, rfl⟩ (by decide) (hG2.o hF) (Nat.le_of_ble_eq_true rfl) (Nat.le_of_ble_eq_true rfl) (c_carriesAlone (f := g1) (g := f1) hF hVt hd hG2 hPg2 (by omega) (by omega) (fun hal => ?_) (fun hal => ?_))
          · refine w_ifF_eq (pc' := 63) ⟨rfl, rfl⟩ (by decide) ?_
            refine w_iload (pc' := 65) ⟨rfl, rfl⟩ rfl ?_
            refine w_ic (pc' := 66) ⟨rfl, rfl⟩ ?_
            refine w_aload (pc' := 68) ⟨rfl, rfl⟩ rfl ?_
            refine w_getI (pc' := 71) (cl := 5) (q := 2) ⟨rfl, rfl⟩ ⟨rfl, by decide⟩ hRo (hR.2.2.1.trans (by rw [hf1])) ?_
            refine w_ishl (pc' := 72) ⟨rfl, rfl⟩ ?_
            refine w_ior (pc' := 73) ⟨rfl, rfl⟩ ?_
            refine w_topI (zbn_set _ (f := f1) (by omega)) ?_
            refine w_istore (pc' := 75) ⟨rfl, rfl⟩ rfl ?_
            refine w_iincZ (pc' := 78) ⟨rfl, rfl⟩ rfl rfl ?_
            refine w_goto (pc' := 81) (pcT := 6) ⟨rfl, rfl⟩ rfl ?_
            refine w_at ?_ (ih (r + 1) (by omega) k)
            refine ⟨rfl, rfl, rfl, rfl, congrArg (fun x => some (Value.int (iZ ((x : Nat) : Int)))) (zbn_congr 24 (fun j hj => ?_)), rfl, trivial⟩
            rw [show zex (zkw t c d j) (r + 1) = (zex (zkw t c d j) r || zkw t c d j r) from rfl]
            rw [show zkw t c d j r = decide (j = f1) by
              unfold zkw
              rw [hw, e1, e2, hal, decide_eq_true hs0, hf1]
              simp only [Bool.true_and, Bool.and_true]
              congr 1
              apply propext
              omega]
          · refine w_ifT_eq (pc' := 63) (pcT := 75) ⟨rfl, rfl⟩ rfl (by decide) ?_
            refine w_iincZ (pc' := 78) ⟨rfl, rfl⟩ rfl rfl ?_
            refine w_goto (pc' := 81) (pcT := 6) ⟨rfl, rfl⟩ rfl ?_
            refine w_at ?_ (ih (r + 1) (by omega) k)
            refine ⟨rfl, rfl, rfl, rfl, congrArg (fun x => some (Value.int (iZ ((x : Nat) : Int)))) (zbn_congr 24 (fun j hj => ?_)), rfl, trivial⟩
            rw [show zex (zkw t c d j) (r + 1) = (zex (zkw t c d j) r || zkw t c d j r) from rfl]
            rw [show zkw t c d j r = false by unfold zkw; rw [e1, e2, hal]; simp, Bool.or_false]
        · refine w_ifT_eq (pc' := 46) (pcT := 75) ⟨rfl, rfl⟩ rfl (by decide) ?_
          refine w_iincZ (pc' := 78) ⟨rfl, rfl⟩ rfl rfl ?_
          refine w_goto (pc' := 81) (pcT := 6) ⟨rfl, rfl⟩ rfl ?_
          refine w_at ?_ (ih (r + 1) (by omega) k)
          refine ⟨rfl, rfl, rfl, rfl, congrArg (fun x => some (Value.int (iZ ((x : Nat) : Int)))) (zbn_congr 24 (fun j hj => ?_)), rfl, trivial⟩
          rw [show zex (zkw t c d j) (r + 1) = (zex (zkw t c d j) r || zkw t c d j r) from rfl]
          rw [show zkw t c d j r = false by unfold zkw; rw [hw]; simp, Bool.or_false]
    · exfalso; omega
theorem c_fieldsKeptWhole {σ : zSt} {o1 o2 of ot c d : Nat} {t : zBk} (hF : zFx σ) (hVt : zVt t) (hc : (c : Int) < t 1) (hd : (d : Int) < t 1) (hG : zIsG o1) (hPg : zPg σ o1 t c) (hG2 : zIsG o2) (hPg2 : zPg σ o2 t d) (hOf : zIsS of) (hSf : zSh σ of t (zFO t c).toNat) (hOt : zIsS ot) (hSt : zSh σ ot t (zTO t c).toNat) {Q : zSt → Option Value → Prop} (k : Q σ (some (.int (iZ (zbn (zPF t c d) 24 : Nat))))) : zCa 52 [.ref o1, .ref o2, .ref of, .ref ot] σ Q := by
  refine w_enter (c := zk_X3_fieldsKeptWhole) (ls2 := [(0, .ref o1), (1, .ref o2), (2, .ref of), (3, .ref ot)]) rfl ⟨rfl, rfl, rfl, rfl, trivial⟩ ?_
  have hnu := (hVt.2.2.2 c hc).2.2.2.1
  refine w_ic (pc' := 1) ⟨rfl, rfl⟩ ?_
  refine w_istore (pc' := 3) ⟨rfl, rfl⟩ rfl ?_
  refine w_ic (pc' := 4) ⟨rfl, rfl⟩ ?_
  refine w_istore (pc' := 6) ⟨rfl, rfl⟩ rfl ?_
  refine w_at ?_ (l_fkw hF hVt hc hd hG hPg hG2 hPg2 hOf hSf hOt hSt (zNU t c).toNat 0 (by omega) k)
  exact ⟨rfl, rfl, rfl, rfl, by rw [show (fun j => zex (zkw t c d j) 0) = (fun _ => false) from rfl, zbn_0]; rfl, rfl, trivial⟩
