/-! THE REFERENCE HAS CARRIED -/
/-- what a crossing has left: target, tally -/
def zmk (t : zBk) (c : Nat) : Nat → Int32 := fun q => iZ (if zmA t c (zNU t c).toNat q = true then 1 else 0)
def zfk (t : zBk) (c : Nat) : Nat → Int32 := fun q => iZ (if zfA t c (zNU t c).toNat q = true then 1 else 0)
def zCA (t : zBk) (c : Nat) (g : Nat → Nat → Int64) : zCs := zca t c g (zNU t c).toNat
/-- the account: what each entry is -/
def zac (t : zBk) (c : Nat) (g : Nat → Nat → Int64) : Nat → Int
  | 0 => zcn t c (zNU t c).toNat
  | 1 => (zCA t c g).2.1
  | 2 => (zCA t c g).2.2.1
  | 3 => (zCA t c g).2.2.2
  | 4 => zmc t (zFO t c).toNat (zmk t c) (zNF t (zFO t c).toNat).toNat
  | 5 => zmc t (zTO t c).toNat (zfk t c) (zNF t (zTO t c).toNat).toNat
  | _ => 0
def zco (t : zBk) (c : Nat) (g : Nat → Nat → Int64) (σ : zSt) : Prop := (∀ f j, f < 6 → j < 4 → zL σ 173 (4 * f + j) = (zCA t c g).1 f j) ∧ ∀ k, k < 6 → zI σ 174 k = iZ (zac t c g k)
theorem zmi_congr {p p' : Nat → Int32} {b : Nat} : ∀ n, (∀ i, i < n → p (b + i) = p' (b + i)) → zmi p b n = zmi p' b n
  | 0, _ => rfl
  | n + 1, h => by
    show zmi p b n + _ = zmi p' b n + _
    rw [zmi_congr n (fun i hi => h i (by omega)), h n (by omega)]
theorem zmc_congr {t : zBk} {s : Nat} (hV : zVs t s) {p p' : Nat → Int32} (h : ∀ q, q < 24 → p q = p' q) : ∀ f : Nat, f ≤ zNF t s → zmc t s p f = zmc t s p' f
  | 0, _ => rfl
  | f + 1, hf => by
    have hce := (hV.2 f (by omega)).2
    have hn := hV.1
    show zmc t s p f + _ = zmc t s p' f + _
    rw [zmc_congr hV h f (by omega), zmi_congr _ (fun i hi => h _ (by omega))]
theorem l_car3 {σ : zSt} {t : zBk} {c : Nat} (hF : zFx σ) (hT : zTr σ t) (hVt : zVt t) (hW : zWid σ) (hc : (c : Int) < t 1) (hg : zgk t (zFO t c).toNat (fun f i => zL σ 172 (4 * f + i))) {Q : zSt → Option Value → Prop} : ∀ (n : Nat) (r : Nat) (σ1 : zSt), ((r : Int) + n = zNU t c) → zFm [173, 174, 175, 176] σ σ1 → zci t c (fun f i => zL σ 172 (4 * f + i)) r 0 σ1 → (∀ σ2, zFm [173, 174, 175, 176] σ σ2 → zci t c (fun f i => zL σ 172 (4 * f + i)) (zNU t c).toNat 0 σ2 → zP zk_X12_carries 165 [(0, .ref 164), (1, .int (iZ c))] [] σ2 Q) → zP zk_X12_carries 58 [(0, .ref 164), (1, .int (iZ c)), (2, .int (iZ r))] [] σ1 Q := by
  intro n
  induction n with
  | zero =>
    intro r σ1 hi hfm hI k
    have hVt2 := hVt
    obtain ⟨hv0, hv1, hvs, hvc⟩ := hVt
    obtain ⟨hfo, hto, hne, hnu, hvr, hin⟩ := hvc c hc
    have hF1 := hfm.fx hF
    have hT1 : zTr σ1 t := hT.fr hfm (by decide) ((hfm.2.2 164 (by decide)).1 14)
    have hW1 : zWid σ1 := hW.fr hfm (by decide)
    obtain rfl : r = (zNU t c).toNat := by omega
    refine w_iload_n (pc' := 59) ⟨rfl, rfl⟩ rfl ?_
    refine w_aload_n (pc' := 60) ⟨rfl, rfl⟩ rfl ?_
    refine w_iload_n (pc' := 61) ⟨rfl, rfl⟩ rfl ?_
    refine w_cv2 (pc' := 64) ⟨rfl, rfl⟩ (by decide) (zOl hF1 rfl) (Nat.le_of_ble_eq_true rfl) (Nat.le_of_ble_eq_true rfl) (r_ruleMany (σ := σ1) hF1 hT1 (by omega) ?_)
    refine w_icT_ge (pc' := 67) (pcT := 165) ⟨rfl, rfl⟩ rfl (by omega) ?_
    refine w_at ?_ (k _ hfm hI)
    exact ⟨rfl, rfl, trivial⟩
  | succ n ih =>
    intro r σ1 hi hfm hI k
    have hVt2 := hVt
    obtain ⟨hv0, hv1, hvs, hvc⟩ := hVt
    obtain ⟨hfo, hto, hne, hnu, hvr, hin⟩ := hvc c hc
    have hF1 := hfm.fx hF
    have hT1 : zTr σ1 t := hT.fr hfm (by decide) ((hfm.2.2 164 (by decide)).1 14)
    have hW1 : zWid σ1 := hW.fr hfm (by decide)
    have hr : (r : Int) < zNU t c := by omega
    have hmk := zMK_rng hVt2 hc hr
    refine w_iload_n (pc' := 59) ⟨rfl, rfl⟩ rfl ?_
    refine w_aload_n (pc' := 60) ⟨rfl, rfl⟩ rfl ?_
    refine w_iload_n (pc' := 61) ⟨rfl, rfl⟩ rfl ?_
    refine w_cv2 (pc' := 64) ⟨rfl, rfl⟩ (by decide) (zOl hF1 rfl) (Nat.le_of_ble_eq_true rfl) (Nat.le_of_ble_eq_true rfl) (r_ruleMany (σ := σ1) hF1 hT1 (by omega) ?_)
    refine w_icF_ge (pc' := 67) ⟨rfl, rfl⟩ (by omega) ?_
    refine w_ic (pc' := 68) ⟨rfl, rfl⟩ ?_
    refine w_istore_n (pc' := 69) ⟨rfl, rfl⟩ rfl ?_
    refine w_at (ls2 := [(0, .ref 164), (1, .int (iZ c)), (2, .int (iZ r)), (3, .int (iZ ((0 : Nat) : Int)))]) ⟨rfl, rfl, rfl, rfl, trivial⟩ (l_car2 hF hT hVt2 hW hc hg hr (zLR t c r).toNat 0 σ1 (by omega) hfm hI (fun σ2 hfm hI => ?_))
    refine w_iincZ (pc' := 162) ⟨rfl, rfl⟩ rfl rfl ?_
    refine w_goto (pc' := 165) (pcT := 58) ⟨rfl, rfl⟩ rfl ?_
    refine w_at ?_ (ih (r + 1) _ (by omega) hfm hI k)
    exact ⟨rfl, rfl, rfl, trivial⟩
theorem r_carries {σ : zSt} {t : zBk} {c : Nat} (hF : zFx σ) (hT : zTr σ t) (hVt : zVt t) (hW : zWid σ) (hc : (c : Int) < t 1) (hg : zgk t (zFO t c).toNat (fun f i => zL σ 172 (4 * f + i))) {Q : zSt → Option Value → Prop} (k : ∀ σ1, zFm [173, 174, 175, 176] σ σ1 → zco t c (fun f i => zL σ 172 (4 * f + i)) σ1 → Q σ1 none) : zCa 284 [.ref 164, .int (iZ c)] σ Q := by
  refine w_enter (c := zk_X12_carries) (ls2 := [(0, .ref 164), (1, .int (iZ c))]) rfl ⟨rfl, rfl, trivial⟩ ?_
  have hVt2 := hVt
  obtain ⟨hv0, hv1, hvs, hvc⟩ := hVt
  obtain ⟨hfo, hto, hne, hnu, hvr, hin⟩ := hvc c hc
  refine w_ic (pc' := 1) ⟨rfl, rfl⟩ ?_
  refine w_istore_n (pc' := 2) ⟨rfl, rfl⟩ rfl ?_
  refine w_at (ls2 := [(0, .ref 164), (1, .int (iZ c)), (2, .int (iZ ((0 : Nat) : Int)))]) ⟨rfl, rfl, rfl, trivial⟩ (l_car0 hF 24 0 σ (by omega) zFm.refl (fun q hq => by omega) (fun σ1 hfm hz => ?_))
  refine w_ic (pc' := 36) ⟨rfl, rfl⟩ ?_
  refine w_istore_n (pc' := 37) ⟨rfl, rfl⟩ rfl ?_
  refine w_at (ls2 := [(0, .ref 164), (1, .int (iZ c)), (2, .int (iZ ((0 : Nat) : Int)))]) ⟨rfl, rfl, rfl, trivial⟩ (l_car1 hF 6 0 σ1 (by omega) hfm hz (fun q hq => by omega) (fun σ1 hfm hz ht => ?_))
  refine w_ic (pc' := 57) ⟨rfl, rfl⟩ ?_
  refine w_istore_n (pc' := 58) ⟨rfl, rfl⟩ rfl ?_
  have hI0 : zci t c (fun f i => zL σ 172 (4 * f + i)) 0 0 σ1 := by
    refine ⟨fun f j hf hj => (hz (4 * f + j) (by omega)).1, ?_, ?_, ?_, ?_, fun q hq => ?_, fun q hq => ?_⟩
    · rw [ht 0 (by omega)]; rfl
    · rw [ht 1 (by omega)]; rfl
    · rw [ht 2 (by omega)]; rfl
    · rw [ht 3 (by omega)]; rfl
    · rw [(hz q hq).2.1, show (zmA t c 0 q || zrm t c 0 0 q) = false by unfold zmA zrm; simp]; rfl
    · rw [(hz q hq).2.2, show (zfA t c 0 q || zfm t c 0 0 q) = false by unfold zfA zfm; simp]; rfl
  refine w_at (ls2 := [(0, .ref 164), (1, .int (iZ c)), (2, .int (iZ ((0 : Nat) : Int)))]) ⟨rfl, rfl, rfl, trivial⟩ (l_car3 hF hT hVt2 hW hc hg (zNU t c).toNat 0 σ1 (by omega) hfm hI0 (fun σ1 hfm hI => ?_))
  have hF1 := hfm.fx hF
  have hT1 : zTr σ1 t := hT.fr hfm (by decide) ((hfm.2.2 164 (by decide)).1 14)
  obtain ⟨i1, i2, i3, i4, i5, i6, i7⟩ := hI
  obtain ⟨f0, hf0⟩ : ∃ q : Nat, zFO t c = q := ⟨(zFO t c).toNat, by omega⟩
  obtain ⟨t0, ht0⟩ : ∃ q : Nat, zTO t c = q := ⟨(zTO t c).toNat, by omega⟩
  have ef : (zFO t c).toNat = f0 := by omega
  have et : (zTO t c).toNat = t0 := by omega
  have hvf := (hvs f0 (by omega)).1
  have hvt := (hvs t0 (by omega)).1
  have j6 : ∀ q, q < 24 → zI σ1 175 q = zmk t c q := fun q hq => by
    rw [i6 q hq, show zrm t c (zNU t c).toNat 0 q = false by unfold zrm; simp, Bool.or_false]; rfl
  have j7 : ∀ q, q < 24 → zI σ1 176 q = zfk t c q := fun q hq => by
    rw [i7 q hq, show zfm t c (zNU t c).toNat 0 q = false by unfold zfm; simp, Bool.or_false]; rfl
  have b6 : ∀ q, q < 24 → zI σ1 175 q = iZ 0 ∨ zI σ1 175 q = iZ 1 := fun q hq => by
    rw [j6 q hq]; unfold zmk; split
    · exact Or.inr rfl
    · exact Or.inl rfl
  have b7 : ∀ q, q < 24 → zI σ1 176 q = iZ 0 ∨ zI σ1 176 q = iZ 1 := fun q hq => by
    rw [j7 q hq]; unfold zfk; split
    · exact Or.inr rfl
    · exact Or.inl rfl
  refine w_aload_n (pc' := 166) ⟨rfl, rfl⟩ rfl ?_
  refine w_getR (pc' := 169) (cl := 10) (q := 22) ⟨rfl, rfl⟩ ⟨rfl, by decide⟩ (zOl hF1 rfl) (hF1.2 164 22 174 rfl) ?_
  refine w_ic (pc' := 170) ⟨rfl, rfl⟩ ?_
  refine w_aload_n (pc' := 171) ⟨rfl, rfl⟩ rfl ?_
  refine w_aload_n (pc' := 172) ⟨rfl, rfl⟩ rfl ?_
  refine w_iload_n (pc' := 173) ⟨rfl, rfl⟩ rfl ?_
  refine w_cv2 (pc' := 176) ⟨rfl, rfl⟩ (by decide) (zOl hF1 rfl) (Nat.le_of_ble_eq_true rfl) (Nat.le_of_ble_eq_true rfl) (r_fromOf (σ := σ1) hF1 hT1 (by omega) ?_)
  rw [hf0]
  refine w_aload_n (pc' := 177) ⟨rfl, rfl⟩ rfl ?_
  refine w_getR (pc' := 180) (cl := 10) (q := 23) ⟨rfl, rfl⟩ ⟨rfl, by decide⟩ (zOl hF1 rfl) (hF1.2 164 23 175 rfl) ?_
  refine w_cv3 (pc' := 183) ⟨rfl, rfl⟩ (by decide) (zOl hF1 rfl) (Nat.le_of_ble_eq_true rfl) (Nat.le_of_ble_eq_true rfl) (r_missing (σ := σ1) (a := 175) hF1 hT1 hvf (by omega) (zAl hF1 rfl) b6 ?_)
  rw [zmc_congr hvf j6 _ (by have := hvf.1; omega)]
  refine w_iast (pc' := 184) ⟨rfl, rfl⟩ (zAl hF1 rfl) (zixA (j := 4) (by omega)) ?_
  refine w_aload_n (pc' := 185) ⟨rfl, rfl⟩ rfl ?_
  refine w_getR (pc' := 188) (cl := 10) (q := 22) ⟨rfl, rfl⟩ ⟨rfl, by decide⟩ (zOl hF1 rfl) (hF1.2 164 22 174 rfl) ?_
  refine w_ic (pc' := 189) ⟨rfl, rfl⟩ ?_
  refine w_aload_n (pc' := 190) ⟨rfl, rfl⟩ rfl ?_
  refine w_aload_n (pc' := 191) ⟨rfl, rfl⟩ rfl ?_
  refine w_iload_n (pc' := 192) ⟨rfl, rfl⟩ rfl ?_
  refine w_cv2 (pc' := 195) ⟨rfl, rfl⟩ (by decide) (zOl hF1 rfl) (Nat.le_of_ble_eq_true rfl) (Nat.le_of_ble_eq_true rfl) (r_toOf (σ := (zwI σ1 174 4 (iZ (zmc t f0 (zmk t c) (zNF t f0).toNat)))) hF1 hT1 (by omega) ?_)
  rw [ht0]
  refine w_aload_n (pc' := 196) ⟨rfl, rfl⟩ rfl ?_
  refine w_getR (pc' := 199) (cl := 10) (q := 24) ⟨rfl, rfl⟩ ⟨rfl, by decide⟩ (zOl hF1 rfl) (hF1.2 164 24 176 rfl) ?_
  refine w_cv3 (pc' := 202) ⟨rfl, rfl⟩ (by decide) (zOl hF1 rfl) (Nat.le_of_ble_eq_true rfl) (Nat.le_of_ble_eq_true rfl) (r_missing (σ := (zwI σ1 174 4 (iZ (zmc t f0 (zmk t c) (zNF t f0).toNat)))) (a := 176) hF1 hT1 hvt (by omega) (zAl hF1 rfl) b7 ?_)
  rw [show zI (zwI σ1 174 4 (iZ (zmc t f0 (zmk t c) (zNF t f0).toNat))) 176 = zI σ1 176 by funext q; exact zI_wI_n (Or.inl (by decide)), zmc_congr hvt j7 _ (by have := hvt.1; omega)]
  refine w_iast (pc' := 203) ⟨rfl, rfl⟩ (zAl hF1 rfl) (zixA (j := 5) (by omega)) ?_
  refine w_return (pc' := 204) ⟨rfl, rfl⟩ ?_
  refine k _ ((hfm.trans (zFm.wI (by decide))).trans (zFm.wI (by decide))) ⟨fun f j hf hj => i1 f j hf hj, fun q hq => ?_⟩
  rcases zr6 hq with rfl | rfl | rfl | rfl | rfl | rfl
  · exact (zI_wI_n (Or.inr (by decide))).trans ((zI_wI_n (Or.inr (by decide))).trans (i2.trans (by show iZ (_ + 0) = _; rw [Int.add_zero]; rfl)))
  · exact (zI_wI_n (Or.inr (by decide))).trans ((zI_wI_n (Or.inr (by decide))).trans i3)
  · exact (zI_wI_n (Or.inr (by decide))).trans ((zI_wI_n (Or.inr (by decide))).trans i4)
  · exact (zI_wI_n (Or.inr (by decide))).trans ((zI_wI_n (Or.inr (by decide))).trans i5)
  · exact (zI_wI_n (Or.inr (by decide))).trans (zI_wI_s.trans (by show _ = iZ (zmc t (zFO t c).toNat _ _); rw [ef]))
  · exact zI_wI_s.trans (by show _ = iZ (zmc t (zTO t c).toNat _ _); rw [et])
