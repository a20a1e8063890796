/-! WHAT A RULE MAKES, in the class -/
/-- which positions a rule reads, as bits; which of 24 are marked -/
def zbn (P : Nat → Bool) : Nat → Nat
  | 0 => 0
  | k + 1 => zbn P k + if P k then 2 ^ k else 0
def zrp (t : zBk) (c r : Nat) (j : Nat) : Bool := (decide (zRS t c r ≠ 4) && decide ((zst t (zFO t c).toNat (zR1 t c r).toNat).toNat ≤ j) && decide (j < (zst t (zFO t c).toNat (zR1 t c r).toNat).toNat + (zLR t c r).toNat)) || (decide (zRS t c r = 3) && decide ((zst t (zFO t c).toNat (zR2 t c r).toNat).toNat ≤ j) && decide (j < (zst t (zFO t c).toNat (zR2 t c r).toNat).toNat + (zLR t c r).toNat))
/-- the class's rule object o holds rule r of crossing c; its crossing, its plan -/
def zRu (σ : zSt) (o : Nat) (t : zBk) (c r : Nat) : Prop := zI σ o 0 = iZ (zRT t c r) ∧ zI σ o 1 = iZ (zRS t c r) ∧ zI σ o 2 = iZ (zR1 t c r) ∧ zI σ o 3 = iZ (zR2 t c r) ∧ zI σ o 4 = iZ (zMK t c r) ∧ zI σ o 5 = iZ (zLR t c r) ∧ zI σ o 6 = iZ (zbn (zrp t c r) 24 : Nat) ∧ zI σ o 7 = iZ (if zgi (zMK t c r) (zTK t c r) then 1 else 0)
def zPg (σ : zSt) (o : Nat) (t : zBk) (c : Nat) : Prop := zI σ o 1 = iZ (zFO t c) ∧ zI σ o 2 = iZ (zTO t c) ∧ zI σ o 3 = iZ (zNU t c) ∧ ∀ r : Nat, r < zNU t c → zRu σ (o + 2 + r) t c r
def zPl (σ : zSt) (p : Nat) (t : zBk) : Prop := zI σ p 2 = iZ (t 0) ∧ zI σ p 3 = iZ (t 1) ∧ (∀ s : Nat, s < t 0 → zSh σ (p + 3 + 5 * s) t s) ∧ ∀ c : Nat, c < t 1 → zPg σ (p + 18 + 8 * c) t c
theorem zMK_rng {t : zBk} (hV : zVt t) {c r : Nat} (hc : (c : Int) < t 1) (hr : (r : Int) < zNU t c) : (0 ≤ zMK t c r ∧ zMK t c r ≤ 8) ∧ (0 ≤ zTK t c r ∧ zTK t c r ≤ 8) ∧ (1 ≤ zLR t c r ∧ zLR t c r ≤ 4) ∧ (zLR t c r ≤ zCE t (zTO t c).toNat (zRT t c r).toNat) ∧ (zRS t c r ≠ 4 → zLR t c r ≤ zCE t (zFO t c).toNat (zR1 t c r).toNat) ∧ (zRS t c r = 3 → zLR t c r ≤ zCE t (zFO t c).toNat (zR2 t c r).toNat) := by
  obtain ⟨hv0, hv1, hvs, hvc⟩ := hV
  obtain ⟨hfo, hto, hne, hnu, hvr, hin⟩ := hvc c hc
  obtain ⟨hrt, hrs, hr1, hr4, hr3, hr12, hr2, hr0, hrk⟩ := hvr r hr
  have hvf := (hvs (zFO t c).toNat (by omega)).1
  have hvt := (hvs (zTO t c).toNat (by omega)).1
  have ht := hvt.2 (zRT t c r).toNat (by omega)
  have h1 : zRS t c r ≠ 4 → _ := fun h => hvf.2 (zR1 t c r).toNat (by have := hr1 h; omega)
  have h2 : zRS t c r = 3 → _ := fun h => hvf.2 (zR2 t c r).toNat (by have := hr3 h; omega)
  unfold zMK zTK zLR
  by_cases c4 : zRS t c r = 4
  · simp only [c4, if_true]
    refine ⟨by omega, ht.1, ht.2, by omega, fun h => absurd rfl h, fun h => by omega⟩
  · have g1 := h1 c4
    simp only [c4, if_false]
    by_cases c3 : zRS t c r = 3
    · have g2 := h2 c3
      simp only [c3, if_true, true_and]
      refine ⟨?_, ht.1, by omega, by omega, fun _ => by omega, fun _ => by omega⟩
      rw [if_neg (by omega)]
      split
      · omega
      · split <;> omega
    · simp only [c3, if_false, false_and]
      refine ⟨?_, ht.1, by omega, by omega, fun _ => by omega, fun h => by first | exact absurd h c3 | exact h.elim⟩
      split
      · omega
      · split <;> omega
theorem c_valueOf {σ : zSt} {o s a f i : Nat} {t : zBk} (hF : zFx σ) (hO : zIsS o) (hS : zSh σ o t s) (hV : zVs t s) (hA : zA σ a 13 24) {g : Nat → Nat → Int64} (hVa : zVa t s g (zL σ a)) (hf : (f : Int) < zNF t s) (hi : (i : Int) < zCE t s f) {Q : zSt → Option Value → Prop} (k : Q σ (some (.long (g f i)))) : zCa 30 [.ref o, .int (iZ f), .ref a, .int (iZ i)] σ Q := by
  refine w_enter (c := zk_X1_valueOf) (ls2 := [(0, .ref o), (1, .int (iZ f)), (2, .ref a), (3, .int (iZ i))]) rfl ⟨rfl, rfl, rfl, rfl, trivial⟩ ?_
  have hn := hV.1
  have h24 := zst_24 hV hf
  refine w_aload_n (pc' := 1) ⟨rfl, rfl⟩ rfl ?_
  refine w_iload_n (pc' := 2) ⟨rfl, rfl⟩ rfl ?_
  refine w_cv2 (pc' := 5) ⟨rfl, rfl⟩ (by decide) (hO.o hF) (Nat.le_of_ble_eq_true rfl) (Nat.le_of_ble_eq_true rfl) (c_hasField hF hO hS hV (by omega) (fun h => ?_) (fun h => ?_))
  · refine w_ifF_eq (pc' := 8) ⟨rfl, rfl⟩ (by decide) ?_
    refine w_aload_n (pc' := 9) ⟨rfl, rfl⟩ rfl ?_
    refine w_getR (pc' := 12) (cl := 6) (q := 3) ⟨rfl, rfl⟩ ⟨rfl, by decide⟩ (hO.o hF) (hO.p hF).2.2.2 ?_
    refine w_iload_n (pc' := 13) ⟨rfl, rfl⟩ rfl ?_
    refine w_iald (pc' := 14) ⟨rfl, rfl⟩ (hO.a hF).2.2.2 (zixZ (by omega)) (hS.2.2 f hf).2.2 ?_
    refine w_iload_n (pc' := 15) ⟨rfl, rfl⟩ rfl ?_
    refine w_iaddZ (pc' := 16) ⟨rfl, rfl⟩ ?_
    refine w_goto (pc' := 19) (pcT := 20) ⟨rfl, rfl⟩ rfl ?_
    refine w_istore (pc' := 22) ⟨rfl, rfl⟩ rfl ?_
    refine w_iload (pc' := 24) ⟨rfl, rfl⟩ rfl ?_
    refine w_ifF_lt (pc' := 27) ⟨rfl, rfl⟩ (by omega) ?_
    refine w_iload (pc' := 29) ⟨rfl, rfl⟩ rfl ?_
    refine w_aload_n (pc' := 30) ⟨rfl, rfl⟩ rfl ?_
    refine w_alenZ (pc' := 31) ⟨rfl, rfl⟩ hA (by decide) ?_
    refine w_icF_ge (pc' := 34) ⟨rfl, rfl⟩ (by omega) ?_
    refine w_aload_n (pc' := 35) ⟨rfl, rfl⟩ rfl ?_
    refine w_iload (pc' := 37) ⟨rfl, rfl⟩ rfl ?_
    refine w_lald (pc' := 38) ⟨rfl, rfl⟩ hA (zixA (j := (zst t s f).toNat + i) (by omega)) rfl ?_
    refine w_goto (pc' := 41) (pcT := 42) ⟨rfl, rfl⟩ rfl ?_
    refine w_lreturn (pc' := 43) ⟨rfl, rfl⟩ ?_
    rw [← hVa.1 f i (Or.inl ⟨by omega, hi⟩)] at k
    exact k
  · exfalso; omega
theorem c_valueMade {σ : zSt} {ro o a i c r : Nat} {t : zBk} (hF : zFx σ) (hVt : zVt t) (hc : (c : Int) < t 1) (hr : (r : Int) < zNU t c) (hRo : zO σ ro 5) (hR : zRu σ ro t c r) (hO : zIsS o) (hS : zSh σ o t (zFO t c).toNat) (hA : zA σ a 13 24) {g : Nat → Nat → Int64} (hVa : zVa t (zFO t c).toNat g (zL σ a)) (hg : zgk t (zFO t c).toNat g) (hi : (i : Int) < zLR t c r) {Q : zSt → Option Value → Prop} (k : Q σ (some (.long (zmd t c r g i)))) : zCa 29 [.ref ro, .ref o, .ref a, .int (iZ i)] σ Q := by
  refine w_enter (c := zk_X1_valueMade) (ls2 := [(0, .ref ro), (1, .ref o), (2, .ref a), (3, .int (iZ i))]) rfl ⟨rfl, rfl, rfl, rfl, trivial⟩ ?_
  have hmk := zMK_rng hVt hc hr
  have hVt2 := hVt
  obtain ⟨hv0, hv1, hvs, hvc⟩ := hVt
  obtain ⟨hfo, hto, hne, hnu, hvr, hin⟩ := hvc c hc
  obtain ⟨hrt, hrs, hr1, hr4, hr3, hr12, hr2, hr0, hrk⟩ := hvr r hr
  have hvf := (hvs (zFO t c).toNat (by omega)).1
  have hnf := hvf.1
  refine w_aload_n (pc' := 1) ⟨rfl, rfl⟩ rfl ?_
  refine w_getI (pc' := 4) (cl := 5) (q := 1) ⟨rfl, rfl⟩ ⟨rfl, by decide⟩ hRo hR.2.1 ?_
  refine w_ic (pc' := 5) ⟨rfl, rfl⟩ ?_
  refine w_ic_ne (pc' := 8) (pcT := 14) ⟨rfl, rfl⟩ rfl (by omega) (by omega) (fun h1 => ?_) (fun h1 => ?_)
  · refine w_aload_n (pc' := 15) ⟨rfl, rfl⟩ rfl ?_
    refine w_aload_n (pc' := 16) ⟨rfl, rfl⟩ rfl ?_
    refine w_getI (pc' := 19) (cl := 5) (q := 2) ⟨rfl, rfl⟩ ⟨rfl, by decide⟩ hRo hR.2.2.1 ?_
    refine w_aload_n (pc' := 20) ⟨rfl, rfl⟩ rfl ?_
    refine w_iload_n (pc' := 21) ⟨rfl, rfl⟩ rfl ?_
    obtain ⟨f1, hf1⟩ : ∃ q : Nat, zR1 t c r = q := ⟨(zR1 t c r).toNat, by omega⟩
    have e1 : (zR1 t c r).toNat = f1 := by omega
    rw [e1] at hrk hmk
    have hk1 := hvf.2 f1 (by omega)
    have ho1 := hg f1 i (by omega) (by omega)
    rw [hf1]
    refine w_cs4 (pc' := 24) ⟨rfl, rfl⟩ (by decide) (Nat.le_of_ble_eq_true rfl) (Nat.le_of_ble_eq_true rfl) (c_valueOf hF hO hS hvf hA hVa (by omega) (by omega) ?_)
    refine w_lstore (pc' := 26) ⟨rfl, rfl⟩ rfl rfl ?_
    refine w_aload_n (pc' := 27) ⟨rfl, rfl⟩ rfl ?_
    refine w_getI (pc' := 30) (cl := 5) (q := 1) ⟨rfl, rfl⟩ ⟨rfl, by decide⟩ hRo hR.2.1 ?_
    refine w_if_ne (pc' := 33) (pcT := 36) ⟨rfl, rfl⟩ rfl (by omega) (fun h2 => ?_) (fun h2 => ?_)
    · refine w_aload_n (pc' := 37) ⟨rfl, rfl⟩ rfl ?_
      refine w_getI (pc' := 40) (cl := 5) (q := 1) ⟨rfl, rfl⟩ ⟨rfl, by decide⟩ hRo hR.2.1 ?_
      refine w_ic (pc' := 41) ⟨rfl, rfl⟩ ?_
      refine w_ic_ne (pc' := 44) (pcT := 48) ⟨rfl, rfl⟩ rfl (by omega) (by omega) (fun h3 => ?_) (fun h3 => ?_)
      · refine w_ic (pc' := 49) ⟨rfl, rfl⟩ ?_
        refine w_istore (pc' := 51) ⟨rfl, rfl⟩ rfl ?_
        refine w_iload (pc' := 53) ⟨rfl, rfl⟩ rfl ?_
        refine w_ifT_eq (pc' := 56) (pcT := 69) ⟨rfl, rfl⟩ rfl (by decide) ?_
        refine w_aload_n (pc' := 70) ⟨rfl, rfl⟩ rfl ?_
        refine w_getI (pc' := 73) (cl := 5) (q := 3) ⟨rfl, rfl⟩ ⟨rfl, by decide⟩ hRo hR.2.2.2.1 ?_
        refine w_i2lZ (pc' := 74) ⟨rfl, rfl⟩ (by omega) ?_
        refine w_lstore (pc' := 76) ⟨rfl, rfl⟩ rfl rfl ?_
        refine w_aload_n (pc' := 77) ⟨rfl, rfl⟩ rfl ?_
        refine w_getI (pc' := 80) (cl := 5) (q := 4) ⟨rfl, rfl⟩ ⟨rfl, by decide⟩ hRo hR.2.2.2.2.1 ?_
        refine w_ic (pc' := 81) ⟨rfl, rfl⟩ ?_
        refine w_ic_ne (pc' := 84) (pcT := 96) ⟨rfl, rfl⟩ rfl (by omega) (by omega) (fun h4 => ?_) (fun h4 => ?_)
        · refine w_aload_n (pc' := 97) ⟨rfl, rfl⟩ rfl ?_
          refine w_aload_n (pc' := 98) ⟨rfl, rfl⟩ rfl ?_
          refine w_getI (pc' := 101) (cl := 5) (q := 2) ⟨rfl, rfl⟩ ⟨rfl, by decide⟩ hRo hR.2.2.1 ?_
          refine w_cv2 (pc' := 104) ⟨rfl, rfl⟩ (by decide) (hO.o hF) (Nat.le_of_ble_eq_true rfl) (Nat.le_of_ble_eq_true rfl) (c_kindOf hF hO hS hvf (by omega) (fun h => ?_) (fun h => ?_))
          · rw [e1]
            refine w_lload (pc' := 106) ⟨rfl, rfl⟩ rfl ?_
            refine w_cs2 (pc' := 109) ⟨rfl, rfl⟩ (by decide) (Nat.le_of_ble_eq_true rfl) (Nat.le_of_ble_eq_true rfl) (c_realOf hk1.1 ho1 ?_)
            refine w_dstore (pc' := 111) ⟨rfl, rfl⟩ rfl rfl ?_
            refine w_iload (pc' := 113) ⟨rfl, rfl⟩ rfl ?_
            refine w_ifT_eq (pc' := 116) (pcT := 127) ⟨rfl, rfl⟩ rfl (by decide) ?_
            refine w_ic (pc' := 128) ⟨rfl, rfl⟩ ?_
            refine w_lload (pc' := 130) ⟨rfl, rfl⟩ rfl ?_
            refine w_cs2 (pc' := 133) ⟨rfl, rfl⟩ (by decide) (Nat.le_of_ble_eq_true rfl) (Nat.le_of_ble_eq_true rfl) (c_realOf (by omega) (zok_i (by omega)) ?_)
            refine w_dstore (pc' := 135) ⟨rfl, rfl⟩ rfl rfl ?_
            refine w_aload_n (pc' := 136) ⟨rfl, rfl⟩ rfl ?_
            refine w_getI (pc' := 139) (cl := 5) (q := 1) ⟨rfl, rfl⟩ ⟨rfl, by decide⟩ hRo hR.2.1 ?_
            refine w_dload (pc' := 141) ⟨rfl, rfl⟩ rfl ?_
            refine w_dload (pc' := 143) ⟨rfl, rfl⟩ rfl ?_
            refine w_cs3 (pc' := 146) ⟨rfl, rfl⟩ (by decide) (Nat.le_of_ble_eq_true rfl) (Nat.le_of_ble_eq_true rfl) (c_realMade (by omega) (zrl_b ho1).f (zl2d _).f (fun h => zl2d_nz (by omega)) ?_)
            refine w_bi (pc' := 148) ⟨rfl, rfl⟩ (by decide) ?_
            refine w_cs2 (pc' := 151) ⟨rfl, rfl⟩ (by decide) (Nat.le_of_ble_eq_true rfl) (Nat.le_of_ble_eq_true rfl) (c_toBits7 (zhd_b (zop_nn (zrl_b ho1).f (zl2d _).f (fun h => zl2d_nz (by omega)))).f ?_)
            refine w_lreturn (pc' := 152) ⟨rfl, rfl⟩ ?_
            refine zql k ?_
            unfold zmd
            (try rw [e1])
            (try rw [e2])
            (try unfold zwm)
            repeat' split
            all_goals first | rfl | (exfalso; omega)
          · exfalso; omega
        · refine w_aload_n (pc' := 85) ⟨rfl, rfl⟩ rfl ?_
          refine w_getI (pc' := 88) (cl := 5) (q := 1) ⟨rfl, rfl⟩ ⟨rfl, by decide⟩ hRo hR.2.1 ?_
          refine w_lload (pc' := 90) ⟨rfl, rfl⟩ rfl ?_
          refine w_lload (pc' := 92) ⟨rfl, rfl⟩ rfl ?_
          refine w_cs3 (pc' := 95) ⟨rfl, rfl⟩ (by decide) (Nat.le_of_ble_eq_true rfl) (Nat.le_of_ble_eq_true rfl) (c_wholeMade (by omega) (fun h q => by have := (lZ_inj (by omega) (by omega)).mp q; omega) ?_)
          refine w_lreturn (pc' := 96) ⟨rfl, rfl⟩ ?_
          refine zql k ?_
          unfold zmd
          (try rw [e1])
          (try rw [e2])
          (try unfold zwm)
          repeat' split
          all_goals first | rfl | (exfalso; omega)
      · refine w_ic (pc' := 45) ⟨rfl, rfl⟩ ?_
        refine w_goto (pc' := 48) (pcT := 49) ⟨rfl, rfl⟩ rfl ?_
        refine w_istore (pc' := 51) ⟨rfl, rfl⟩ rfl ?_
        refine w_iload (pc' := 53) ⟨rfl, rfl⟩ rfl ?_
        refine w_ifF_eq (pc' := 56) ⟨rfl, rfl⟩ (by decide) ?_
        refine w_aload_n (pc' := 57) ⟨rfl, rfl⟩ rfl ?_
        refine w_aload_n (pc' := 58) ⟨rfl, rfl⟩ rfl ?_
        refine w_getI (pc' := 61) (cl := 5) (q := 3) ⟨rfl, rfl⟩ ⟨rfl, by decide⟩ hRo hR.2.2.2.1 ?_
        refine w_aload_n (pc' := 62) ⟨rfl, rfl⟩ rfl ?_
        refine w_iload_n (pc' := 63) ⟨rfl, rfl⟩ rfl ?_
        obtain ⟨f2, hf2⟩ : ∃ q : Nat, zR2 t c r = q := ⟨(zR2 t c r).toNat, by omega⟩
        have e2 : (zR2 t c r).toNat = f2 := by omega
        rw [e2] at hr3 hmk
        have hk2 := hvf.2 f2 (by omega)
        have ho2 := hg f2 i (by omega) (by omega)
        rw [hf2]
        refine w_cs4 (pc' := 66) ⟨rfl, rfl⟩ (by decide) (Nat.le_of_ble_eq_true rfl) (Nat.le_of_ble_eq_true rfl) (c_valueOf hF hO hS hvf hA hVa (by omega) (by omega) ?_)
        refine w_goto (pc' := 69) (pcT := 74) ⟨rfl, rfl⟩ rfl ?_
        refine w_lstore (pc' := 76) ⟨rfl, rfl⟩ rfl rfl ?_
        refine w_aload_n (pc' := 77) ⟨rfl, rfl⟩ rfl ?_
        refine w_getI (pc' := 80) (cl := 5) (q := 4) ⟨rfl, rfl⟩ ⟨rfl, by decide⟩ hRo hR.2.2.2.2.1 ?_
        refine w_ic (pc' := 81) ⟨rfl, rfl⟩ ?_
        refine w_ic_ne (pc' := 84) (pcT := 96) ⟨rfl, rfl⟩ rfl (by omega) (by omega) (fun h4 => ?_) (fun h4 => ?_)
        · refine w_aload_n (pc' := 97) ⟨rfl, rfl⟩ rfl ?_
          refine w_aload_n (pc' := 98) ⟨rfl, rfl⟩ rfl ?_
          refine w_getI (pc' := 101) (cl := 5) (q := 2) ⟨rfl, rfl⟩ ⟨rfl, by decide⟩ hRo hR.2.2.1 ?_
          refine w_cv2 (pc' := 104) ⟨rfl, rfl⟩ (by decide) (hO.o hF) (Nat.le_of_ble_eq_true rfl) (Nat.le_of_ble_eq_true rfl) (c_kindOf hF hO hS hvf (by omega) (fun h => ?_) (fun h => ?_))
          · rw [e1]
            refine w_lload (pc' := 106) ⟨rfl, rfl⟩ rfl ?_
            refine w_cs2 (pc' := 109) ⟨rfl, rfl⟩ (by decide) (Nat.le_of_ble_eq_true rfl) (Nat.le_of_ble_eq_true rfl) (c_realOf hk1.1 ho1 ?_)
            refine w_dstore (pc' := 111) ⟨rfl, rfl⟩ rfl rfl ?_
            refine w_iload (pc' := 113) ⟨rfl, rfl⟩ rfl ?_
            refine w_ifF_eq (pc' := 116) ⟨rfl, rfl⟩ (by decide) ?_
            refine w_aload_n (pc' := 117) ⟨rfl, rfl⟩ rfl ?_
            refine w_aload_n (pc' := 118) ⟨rfl, rfl⟩ rfl ?_
            refine w_getI (pc' := 121) (cl := 5) (q := 3) ⟨rfl, rfl⟩ ⟨rfl, by decide⟩ hRo hR.2.2.2.1 ?_
            refine w_cv2 (pc' := 124) ⟨rfl, rfl⟩ (by decide) (hO.o hF) (Nat.le_of_ble_eq_true rfl) (Nat.le_of_ble_eq_true rfl) (c_kindOf hF hO hS hvf (by omega) (fun h => ?_) (fun h => ?_))
            · rw [e2]
              refine w_goto (pc' := 127) (pcT := 128) ⟨rfl, rfl⟩ rfl ?_
              refine w_lload (pc' := 130) ⟨rfl, rfl⟩ rfl ?_
              refine w_cs2 (pc' := 133) ⟨rfl, rfl⟩ (by decide) (Nat.le_of_ble_eq_true rfl) (Nat.le_of_ble_eq_true rfl) (c_realOf hk2.1 ho2 ?_)
              refine w_dstore (pc' := 135) ⟨rfl, rfl⟩ rfl rfl ?_
              refine w_aload_n (pc' := 136) ⟨rfl, rfl⟩ rfl ?_
              refine w_getI (pc' := 139) (cl := 5) (q := 1) ⟨rfl, rfl⟩ ⟨rfl, by decide⟩ hRo hR.2.1 ?_
              refine w_dload (pc' := 141) ⟨rfl, rfl⟩ rfl ?_
              refine w_dload (pc' := 143) ⟨rfl, rfl⟩ rfl ?_
              refine w_cs3 (pc' := 146) ⟨rfl, rfl⟩ (by decide) (Nat.le_of_ble_eq_true rfl) (Nat.le_of_ble_eq_true rfl) (c_realMade (by omega) (zrl_b ho1).f (zrl_b ho2).f (fun h => by omega) ?_)
              refine w_bi (pc' := 148) ⟨rfl, rfl⟩ (by decide) ?_
              refine w_cs2 (pc' := 151) ⟨rfl, rfl⟩ (by decide) (Nat.le_of_ble_eq_true rfl) (Nat.le_of_ble_eq_true rfl) (c_toBits7 (zhd_b (zop_nn (zrl_b ho1).f (zrl_b ho2).f (fun h => by omega))).f ?_)
              refine w_lreturn (pc' := 152) ⟨rfl, rfl⟩ ?_
              refine zql k ?_
              unfold zmd
              (try rw [e1])
              (try rw [e2])
              (try unfold zwm)
              repeat' split
              all_goals first | rfl | (exfalso; omega)
            · exfalso; omega
          · exfalso; omega
        · refine w_aload_n (pc' := 85) ⟨rfl, rfl⟩ rfl ?_
          refine w_getI (pc' := 88) (cl := 5) (q := 1) ⟨rfl, rfl⟩ ⟨rfl, by decide⟩ hRo hR.2.1 ?_
          refine w_lload (pc' := 90) ⟨rfl, rfl⟩ rfl ?_
          refine w_lload (pc' := 92) ⟨rfl, rfl⟩ rfl ?_
          refine w_cs3 (pc' := 95) ⟨rfl, rfl⟩ (by decide) (Nat.le_of_ble_eq_true rfl) (Nat.le_of_ble_eq_true rfl) (c_wholeMade (by omega) (fun h => by omega) ?_)
          refine w_lreturn (pc' := 96) ⟨rfl, rfl⟩ ?_
          refine zql k ?_
          unfold zmd
          (try rw [e1])
          (try rw [e2])
          (try unfold zwm)
          repeat' split
          all_goals first | rfl | (exfalso; omega)
    · refine w_lload (pc' := 35) ⟨rfl, rfl⟩ rfl ?_
      refine w_lreturn (pc' := 36) ⟨rfl, rfl⟩ ?_
      refine zql k ?_
      unfold zmd
      (try rw [e1])
      (try rw [e2])
      (try unfold zwm)
      repeat' split
      all_goals first | rfl | (exfalso; omega)
  · refine w_aload_n (pc' := 9) ⟨rfl, rfl⟩ rfl ?_
    refine w_getI (pc' := 12) (cl := 5) (q := 3) ⟨rfl, rfl⟩ ⟨rfl, by decide⟩ hRo hR.2.2.2.1 ?_
    refine w_i2lZ (pc' := 13) ⟨rfl, rfl⟩ (by omega) ?_
    refine w_lreturn (pc' := 14) ⟨rfl, rfl⟩ ?_
    refine zql k ?_
    unfold zmd
    (try rw [e1])
    (try rw [e2])
    (try unfold zwm)
    repeat' split
    all_goals first | rfl | (exfalso; omega)
theorem r_made {σ : zSt} {t : zBk} {c r : Nat} (hF : zFx σ) (hT : zTr σ t) (hVt : zVt t) (hc : (c : Int) < t 1) (hr : (r : Int) < zNU t c) {i : Nat} (hg : zgk t (zFO t c).toNat (fun f i => zL σ 172 (4 * f + i))) (hi : (i : Int) < zLR t c r) {Q : zSt → Option Value → Prop} (k : Q σ (some (.long (zmd t c r (fun f i => zL σ 172 (4 * f + i)) i)))) : zCa 279 [.ref 164, .int (iZ c), .int (iZ r), .int (iZ i)] σ Q := by
  refine w_enter (c := zk_X12_made) (ls2 := [(0, .ref 164), (1, .int (iZ c)), (2, .int (iZ r)), (3, .int (iZ i))]) rfl ⟨rfl, rfl, rfl, rfl, trivial⟩ ?_
  have hmk := zMK_rng hVt hc hr
  have hVt2 := hVt
  obtain ⟨hv0, hv1, hvs, hvc⟩ := hVt
  obtain ⟨hfo, hto, hne, hnu, hvr, hin⟩ := hvc c hc
  obtain ⟨hrt, hrs, hr1, hr4, hr3, hr12, hr2, hr0, hrk⟩ := hvr r hr
  have hvf := (hvs (zFO t c).toNat (by omega)).1
  have hnf := hvf.1
  obtain ⟨f0, hf0⟩ : ∃ q : Nat, zFO t c = q := ⟨(zFO t c).toNat, by omega⟩
  have e0 : (zFO t c).toNat = f0 := by omega
  refine w_aload_n (pc' := 1) ⟨rfl, rfl⟩ rfl ?_
  refine w_iload_n (pc' := 2) ⟨rfl, rfl⟩ rfl ?_
  refine w_iload_n (pc' := 3) ⟨rfl, rfl⟩ rfl ?_
  refine w_ic (pc' := 4) ⟨rfl, rfl⟩ ?_
  refine w_cv4 (pc' := 7) ⟨rfl, rfl⟩ (by decide) (zOl hF rfl) (Nat.le_of_ble_eq_true rfl) (Nat.le_of_ble_eq_true rfl) (r_ruleHas1 hF hT (by omega) (by omega) ?_)
  refine w_istore (pc' := 9) ⟨rfl, rfl⟩ rfl ?_
  refine w_aload_n (pc' := 10) ⟨rfl, rfl⟩ rfl ?_
  refine w_iload_n (pc' := 11) ⟨rfl, rfl⟩ rfl ?_
  refine w_iload_n (pc' := 12) ⟨rfl, rfl⟩ rfl ?_
  refine w_ic (pc' := 13) ⟨rfl, rfl⟩ ?_
  refine w_cv4 (pc' := 16) ⟨rfl, rfl⟩ (by decide) (zOl hF rfl) (Nat.le_of_ble_eq_true rfl) (Nat.le_of_ble_eq_true rfl) (r_ruleHas3 hF hT (by omega) (by omega) ?_)
  refine w_istore (pc' := 18) ⟨rfl, rfl⟩ rfl ?_
  refine w_iload (pc' := 20) ⟨rfl, rfl⟩ rfl ?_
  refine w_ic (pc' := 21) ⟨rfl, rfl⟩ ?_
  refine w_ic_ne (pc' := 24) (pcT := 28) ⟨rfl, rfl⟩ rfl (by omega) (by omega) (fun h1 => ?_) (fun h1 => ?_)
  · refine w_aload_n (pc' := 29) ⟨rfl, rfl⟩ rfl ?_
    refine w_iload_n (pc' := 30) ⟨rfl, rfl⟩ rfl ?_
    refine w_cv2 (pc' := 33) ⟨rfl, rfl⟩ (by decide) (zOl hF rfl) (Nat.le_of_ble_eq_true rfl) (Nat.le_of_ble_eq_true rfl) (r_fromOf hF hT (by omega) ?_)
    rw [hf0]
    refine w_istore (pc' := 35) ⟨rfl, rfl⟩ rfl ?_
    refine w_aload_n (pc' := 36) ⟨rfl, rfl⟩ rfl ?_
    refine w_iload_n (pc' := 37) ⟨rfl, rfl⟩ rfl ?_
    refine w_iload_n (pc' := 38) ⟨rfl, rfl⟩ rfl ?_
    refine w_ic (pc' := 39) ⟨rfl, rfl⟩ ?_
    refine w_cv4 (pc' := 42) ⟨rfl, rfl⟩ (by decide) (zOl hF rfl) (Nat.le_of_ble_eq_true rfl) (Nat.le_of_ble_eq_true rfl) (r_ruleHas2 hF hT (by omega) (by omega) ?_)
    obtain ⟨f1, hf1⟩ : ∃ q : Nat, zR1 t c r = q := ⟨(zR1 t c r).toNat, by omega⟩
    have e1 : (zR1 t c r).toNat = f1 := by omega
    rw [e1] at hrk hmk
    have hk1 := hvf.2 f1 (by omega)
    have ho1 := hg f1 i (by omega) (by omega)
    rw [hf1]
    refine w_istore (pc' := 44) ⟨rfl, rfl⟩ rfl ?_
    refine w_aload_n (pc' := 45) ⟨rfl, rfl⟩ rfl ?_
    refine w_getR (pc' := 48) (cl := 10) (q := 20) ⟨rfl, rfl⟩ ⟨rfl, by decide⟩ (zOl hF rfl) (hF.2 164 20 172 rfl) ?_
    refine w_ic (pc' := 49) ⟨rfl, rfl⟩ ?_
    refine w_iload (pc' := 51) ⟨rfl, rfl⟩ rfl ?_
    refine w_imulZ (pc' := 52) ⟨rfl, rfl⟩ ?_
    refine w_iload_n (pc' := 53) ⟨rfl, rfl⟩ rfl ?_
    refine w_iaddZ (pc' := 54) ⟨rfl, rfl⟩ ?_
    refine w_lald (pc' := 55) ⟨rfl, rfl⟩ (zAl hF rfl) (zixA (j := 4 * f1 + i) (by omega)) rfl ?_
    refine w_lstore (pc' := 57) ⟨rfl, rfl⟩ rfl rfl ?_
    refine w_iload (pc' := 59) ⟨rfl, rfl⟩ rfl ?_
    refine w_if_ne (pc' := 62) (pcT := 65) ⟨rfl, rfl⟩ rfl (by omega) (fun h2 => ?_) (fun h2 => ?_)
    · refine w_aload_n (pc' := 66) ⟨rfl, rfl⟩ rfl ?_
      refine w_iload_n (pc' := 67) ⟨rfl, rfl⟩ rfl ?_
      refine w_iload_n (pc' := 68) ⟨rfl, rfl⟩ rfl ?_
      refine w_cv3 (pc' := 71) ⟨rfl, rfl⟩ (by decide) (zOl hF rfl) (Nat.le_of_ble_eq_true rfl) (Nat.le_of_ble_eq_true rfl) (r_madeKind hF hT hVt2 hc hr ?_)
      refine w_ic (pc' := 72) ⟨rfl, rfl⟩ ?_
      refine w_ic_ne (pc' := 75) (pcT := 120) ⟨rfl, rfl⟩ rfl (by omega) (by omega) (fun h3 => ?_) (fun h3 => ?_)
      · refine w_lload (pc' := 122) ⟨rfl, rfl⟩ rfl ?_
        refine w_aload_n (pc' := 123) ⟨rfl, rfl⟩ rfl ?_
        refine w_iload (pc' := 125) ⟨rfl, rfl⟩ rfl ?_
        refine w_iload (pc' := 127) ⟨rfl, rfl⟩ rfl ?_
        refine w_cv3 (pc' := 130) ⟨rfl, rfl⟩ (by decide) (zOl hF rfl) (Nat.le_of_ble_eq_true rfl) (Nat.le_of_ble_eq_true rfl) (r_kindOf hF hT (by omega) (by omega) ?_)
        refine w_cs2 (pc' := 133) ⟨rfl, rfl⟩ (by decide) (Nat.le_of_ble_eq_true rfl) (Nat.le_of_ble_eq_true rfl) (r_real (by rw [e0] at hk1; exact hk1.1) (by rw [e0] at ho1; exact ho1) ?_)
        refine w_dstore (pc' := 135) ⟨rfl, rfl⟩ rfl rfl ?_
        refine w_iload (pc' := 137) ⟨rfl, rfl⟩ rfl ?_
        refine w_ic (pc' := 138) ⟨rfl, rfl⟩ ?_
        refine w_ic_ne (pc' := 141) (pcT := 150) ⟨rfl, rfl⟩ rfl (by omega) (by omega) (fun h4 => ?_) (fun h4 => ?_)
        · refine w_iload (pc' := 152) ⟨rfl, rfl⟩ rfl ?_
          refine w_ic (pc' := 153) ⟨rfl, rfl⟩ ?_
          refine w_ic_ne (pc' := 156) (pcT := 165) ⟨rfl, rfl⟩ rfl (by omega) (by omega) (fun h5 => ?_) (fun h5 => ?_)
          · obtain ⟨f2, hf2⟩ : ∃ q : Nat, zR2 t c r = q := ⟨(zR2 t c r).toNat, by omega⟩
            have e2 : (zR2 t c r).toNat = f2 := by omega
            rw [e2] at hr3 hmk
            have hk2 := hvf.2 f2 (by omega)
            have ho2 := hg f2 i (by omega) (by omega)
            rw [hf2]
            refine w_dload (pc' := 167) ⟨rfl, rfl⟩ rfl ?_
            refine w_aload_n (pc' := 168) ⟨rfl, rfl⟩ rfl ?_
            refine w_getR (pc' := 171) (cl := 10) (q := 20) ⟨rfl, rfl⟩ ⟨rfl, by decide⟩ (zOl hF rfl) (hF.2 164 20 172 rfl) ?_
            refine w_ic (pc' := 172) ⟨rfl, rfl⟩ ?_
            refine w_iload (pc' := 174) ⟨rfl, rfl⟩ rfl ?_
            refine w_imulZ (pc' := 175) ⟨rfl, rfl⟩ ?_
            refine w_iload_n (pc' := 176) ⟨rfl, rfl⟩ rfl ?_
            refine w_iaddZ (pc' := 177) ⟨rfl, rfl⟩ ?_
            refine w_lald (pc' := 178) ⟨rfl, rfl⟩ (zAl hF rfl) (zixA (j := 4 * f2 + i) (by omega)) rfl ?_
            refine w_aload_n (pc' := 179) ⟨rfl, rfl⟩ rfl ?_
            refine w_iload (pc' := 181) ⟨rfl, rfl⟩ rfl ?_
            refine w_iload (pc' := 183) ⟨rfl, rfl⟩ rfl ?_
            refine w_cv3 (pc' := 186) ⟨rfl, rfl⟩ (by decide) (zOl hF rfl) (Nat.le_of_ble_eq_true rfl) (Nat.le_of_ble_eq_true rfl) (r_kindOf hF hT (by omega) (by omega) ?_)
            refine w_cs2 (pc' := 189) ⟨rfl, rfl⟩ (by decide) (Nat.le_of_ble_eq_true rfl) (Nat.le_of_ble_eq_true rfl) (r_real (by rw [e0] at hk2; exact hk2.1) (by rw [e0] at ho2; exact ho2) ?_)
            have hnn := zop_nn (sort := zRS t c r) (zrl_b ho1).f (zrl_b ho2).f (fun h => by omega)
            have ez : zop (zRS t c r) (zrl (zL σ 172 (4 * f1 + i)) (zKD t (zFO t c).toNat f1)) (zrl (zL σ 172 (4 * f2 + i)) (zKD t (zFO t c).toNat f2)) = FP.dadd (zrl (zL σ 172 (4 * f1 + i)) (zKD t (zFO t c).toNat f1)) (zrl (zL σ 172 (4 * f2 + i)) (zKD t (zFO t c).toNat f2)) := by unfold zop; rw [if_neg (by omega), if_neg (by omega)]
            rw [ez] at hnn
            rw [e0] at hnn ez
            refine w_dadd (pc' := 190) ⟨rfl, rfl⟩ (zD_nn hnn) ?_
            refine w_cs1 (pc' := 193) ⟨rfl, rfl⟩ (by decide) (Nat.le_of_ble_eq_true rfl) (Nat.le_of_ble_eq_true rfl) (r_held hnn ?_)
            refine w_cs1 (pc' := 196) ⟨rfl, rfl⟩ (by decide) (Nat.le_of_ble_eq_true rfl) (Nat.le_of_ble_eq_true rfl) (r_double0 (zhd_b hnn).f ?_)
            refine w_lreturn (pc' := 197) ⟨rfl, rfl⟩ ?_
            refine zql k ?_
            unfold zmd
            (try dsimp only)
            (try rw [e1])
            (try rw [e2])
            (try rw [e0])
            repeat' split
            all_goals first | rfl | (exfalso; omega) | (rw [ez]) | (rw [ez]; rfl)
          · refine w_dload (pc' := 158) ⟨rfl, rfl⟩ rfl ?_
            refine w_iload (pc' := 160) ⟨rfl, rfl⟩ rfl ?_
            refine w_i2d (pc' := 161) ⟨rfl, rfl⟩ ?_
            rw [zi2d (by omega)]
            have hnn := zop_nn (sort := zRS t c r) (zrl_b ho1).f (zl2d (lZ (zR2 t c r))).f (fun h => zl2d_nz (n := zR2 t c r) (by omega))
            have ez : zop (zRS t c r) (zrl (zL σ 172 (4 * f1 + i)) (zKD t (zFO t c).toNat f1)) (FP.l2d (lZ (zR2 t c r))) = FP.ddiv (zrl (zL σ 172 (4 * f1 + i)) (zKD t (zFO t c).toNat f1)) (FP.l2d (lZ (zR2 t c r))) := by unfold zop; rw [if_neg (by omega), if_pos (by omega)]
            rw [ez] at hnn
            rw [e0] at hnn ez
            refine w_ddiv (pc' := 162) ⟨rfl, rfl⟩ (zD_nn hnn) ?_
            refine w_goto (pc' := 165) (pcT := 190) ⟨rfl, rfl⟩ rfl ?_
            refine w_cs1 (pc' := 193) ⟨rfl, rfl⟩ (by decide) (Nat.le_of_ble_eq_true rfl) (Nat.le_of_ble_eq_true rfl) (r_held hnn ?_)
            refine w_cs1 (pc' := 196) ⟨rfl, rfl⟩ (by decide) (Nat.le_of_ble_eq_true rfl) (Nat.le_of_ble_eq_true rfl) (r_double0 (zhd_b hnn).f ?_)
            refine w_lreturn (pc' := 197) ⟨rfl, rfl⟩ ?_
            refine zql k ?_
            unfold zmd
            (try dsimp only)
            (try rw [e1])
            (try rw [e2])
            (try rw [e0])
            repeat' split
            all_goals first | rfl | (exfalso; omega) | (rw [ez]) | (rw [ez]; rfl)
        · refine w_dload (pc' := 143) ⟨rfl, rfl⟩ rfl ?_
          refine w_iload (pc' := 145) ⟨rfl, rfl⟩ rfl ?_
          refine w_i2d (pc' := 146) ⟨rfl, rfl⟩ ?_
          rw [zi2d (by omega)]
          have hnn := zop_nn (sort := zRS t c r) (zrl_b ho1).f (zl2d (lZ (zR2 t c r))).f (fun h => zl2d_nz (n := zR2 t c r) (by omega))
          have ez : zop (zRS t c r) (zrl (zL σ 172 (4 * f1 + i)) (zKD t (zFO t c).toNat f1)) (FP.l2d (lZ (zR2 t c r))) = FP.dmul (zrl (zL σ 172 (4 * f1 + i)) (zKD t (zFO t c).toNat f1)) (FP.l2d (lZ (zR2 t c r))) := by unfold zop; rw [if_pos (by omega)]
          rw [ez] at hnn
          rw [e0] at hnn ez
          refine w_dmul (pc' := 147) ⟨rfl, rfl⟩ (zD_nn hnn) ?_
          refine w_goto (pc' := 150) (pcT := 190) ⟨rfl, rfl⟩ rfl ?_
          refine w_cs1 (pc' := 193) ⟨rfl, rfl⟩ (by decide) (Nat.le_of_ble_eq_true rfl) (Nat.le_of_ble_eq_true rfl) (r_held hnn ?_)
          refine w_cs1 (pc' := 196) ⟨rfl, rfl⟩ (by decide) (Nat.le_of_ble_eq_true rfl) (Nat.le_of_ble_eq_true rfl) (r_double0 (zhd_b hnn).f ?_)
          refine w_lreturn (pc' := 197) ⟨rfl, rfl⟩ ?_
          refine zql k ?_
          unfold zmd
          (try dsimp only)
          (try rw [e1])
          (try rw [e2])
          (try rw [e0])
          repeat' split
          all_goals first | rfl | (exfalso; omega) | (rw [ez]) | (rw [ez]; rfl)
      · refine w_iload (pc' := 77) ⟨rfl, rfl⟩ rfl ?_
        refine w_ic (pc' := 78) ⟨rfl, rfl⟩ ?_
        refine w_ic_ne (pc' := 81) (pcT := 90) ⟨rfl, rfl⟩ rfl (by omega) (by omega) (fun h4 => ?_) (fun h4 => ?_)
        · refine w_iload (pc' := 92) ⟨rfl, rfl⟩ rfl ?_
          refine w_ic (pc' := 93) ⟨rfl, rfl⟩ ?_
          refine w_ic_ne (pc' := 96) (pcT := 105) ⟨rfl, rfl⟩ rfl (by omega) (by omega) (fun h5 => ?_) (fun h5 => ?_)
          · obtain ⟨f2, hf2⟩ : ∃ q : Nat, zR2 t c r = q := ⟨(zR2 t c r).toNat, by omega⟩
            have e2 : (zR2 t c r).toNat = f2 := by omega
            rw [e2] at hr3 hmk
            have hk2 := hvf.2 f2 (by omega)
            have ho2 := hg f2 i (by omega) (by omega)
            rw [hf2]
            refine w_lload (pc' := 107) ⟨rfl, rfl⟩ rfl ?_
            refine w_aload_n (pc' := 108) ⟨rfl, rfl⟩ rfl ?_
            refine w_getR (pc' := 111) (cl := 10) (q := 20) ⟨rfl, rfl⟩ ⟨rfl, by decide⟩ (zOl hF rfl) (hF.2 164 20 172 rfl) ?_
            refine w_ic (pc' := 112) ⟨rfl, rfl⟩ ?_
            refine w_iload (pc' := 114) ⟨rfl, rfl⟩ rfl ?_
            refine w_imulZ (pc' := 115) ⟨rfl, rfl⟩ ?_
            refine w_iload_n (pc' := 116) ⟨rfl, rfl⟩ rfl ?_
            refine w_iaddZ (pc' := 117) ⟨rfl, rfl⟩ ?_
            refine w_lald (pc' := 118) ⟨rfl, rfl⟩ (zAl hF rfl) (zixA (j := 4 * f2 + i) (by omega)) rfl ?_
            refine w_ladd (pc' := 119) ⟨rfl, rfl⟩ ?_
            refine w_lreturn (pc' := 120) ⟨rfl, rfl⟩ ?_
            refine zql k ?_
            unfold zmd
            (try dsimp only)
            (try rw [e1])
            (try rw [e2])
            (try rw [e0])
            repeat' split
            all_goals first | rfl | (exfalso; omega) | (rw [ez]) | (rw [ez]; rfl)
          · refine w_lload (pc' := 98) ⟨rfl, rfl⟩ rfl ?_
            refine w_iload (pc' := 100) ⟨rfl, rfl⟩ rfl ?_
            refine w_i2lZ (pc' := 101) ⟨rfl, rfl⟩ (by omega) ?_
            refine w_ldiv (pc' := 102) ⟨rfl, rfl⟩ (fun q => by have := (lZ_inj (a := zR2 t c r) (b := 0) (by omega) (by omega)).mp q; omega) ?_
            refine w_goto (pc' := 105) (pcT := 119) ⟨rfl, rfl⟩ rfl ?_
            refine w_lreturn (pc' := 120) ⟨rfl, rfl⟩ ?_
            refine zql k ?_
            unfold zmd
            (try dsimp only)
            (try rw [e1])
            (try rw [e2])
            (try rw [e0])
            repeat' split
            all_goals first | rfl | (exfalso; omega) | (rw [ez]) | (rw [ez]; rfl)
        · refine w_lload (pc' := 83) ⟨rfl, rfl⟩ rfl ?_
          refine w_iload (pc' := 85) ⟨rfl, rfl⟩ rfl ?_
          refine w_i2lZ (pc' := 86) ⟨rfl, rfl⟩ (by omega) ?_
          refine w_lmul (pc' := 87) ⟨rfl, rfl⟩ ?_
          refine w_goto (pc' := 90) (pcT := 119) ⟨rfl, rfl⟩ rfl ?_
          refine w_lreturn (pc' := 120) ⟨rfl, rfl⟩ ?_
          refine zql k ?_
          unfold zmd
          (try dsimp only)
          (try rw [e1])
          (try rw [e2])
          (try rw [e0])
          repeat' split
          all_goals first | rfl | (exfalso; omega) | (rw [ez]) | (rw [ez]; rfl)
    · refine w_lload (pc' := 64) ⟨rfl, rfl⟩ rfl ?_
      refine w_lreturn (pc' := 65) ⟨rfl, rfl⟩ ?_
      refine zql k ?_
      unfold zmd
      (try dsimp only)
      (try rw [e1])
      (try rw [e2])
      (try rw [e0])
      repeat' split
      all_goals first | rfl | (exfalso; omega) | (rw [ez]) | (rw [ez]; rfl)
  · refine w_iload (pc' := 26) ⟨rfl, rfl⟩ rfl ?_
    refine w_i2lZ (pc' := 27) ⟨rfl, rfl⟩ (by omega) ?_
    refine w_lreturn (pc' := 28) ⟨rfl, rfl⟩ ?_
    refine zql k ?_
    unfold zmd
    (try dsimp only)
    (try rw [e1])
    (try rw [e2])
    (try rw [e0])
    repeat' split
    all_goals first | rfl | (exfalso; omega) | (rw [ez]) | (rw [ez]; rfl)
