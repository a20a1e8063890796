/-! THE REFERENCE CARRIES -/
/-- the target's cells; how many widened, kept, lost -/
abbrev zCs : Type := (Nat → Nat → Int64) × Int × Int × Int
def zc1 (t : zBk) (c : Nat) (g : Nat → Nat → Int64) (r i : Nat) (S : zCs) : zCs :=
  (fun f j => if f = (zRT t c r).toNat ∧ j = i then zcar (zmd t c r g i) (zMK t c r) (zTK t c r) else S.1 f j,
   if zgi (zMK t c r) (zTK t c r) then S.2.1 + 1 else S.2.1,
   if ¬ zgi (zMK t c r) (zTK t c r) ∧ zcar (zcar (zmd t c r g i) (zMK t c r) (zTK t c r)) (zTK t c r) (zMK t c r) = zmd t c r g i then S.2.2.1 + 1 else S.2.2.1,
   if ¬ zgi (zMK t c r) (zTK t c r) ∧ ¬ zcar (zcar (zmd t c r g i) (zMK t c r) (zTK t c r)) (zTK t c r) (zMK t c r) = zmd t c r g i then S.2.2.2 + 1 else S.2.2.2)
def zcr (t : zBk) (c : Nat) (g : Nat → Nat → Int64) (r : Nat) : Nat → zCs → zCs
  | 0, S => S
  | i + 1, S => zc1 t c g r i (zcr t c g r i S)
def zca (t : zBk) (c : Nat) (g : Nat → Nat → Int64) : Nat → zCs
  | 0 => (fun _ _ => lZ 0, 0, 0, 0)
  | r + 1 => zcr t c g r (zLR t c r).toNat (zca t c g r)
/-- how many values are carried by the first rules -/
def zcn (t : zBk) (c : Nat) : Nat → Int
  | 0 => 0
  | r + 1 => zcn t c r + zLR t c r
/-- cells that rule r reads, fills, up to its cell i, at four a field; those of all rules so far -/
def zrm (t : zBk) (c r i q : Nat) : Bool := (decide (zRS t c r ≠ 4) && decide (q / 4 = (zR1 t c r).toNat) && decide (q % 4 < i)) || (decide (zRS t c r = 3) && decide (q / 4 = (zR2 t c r).toNat) && decide (q % 4 < i))
def zfm (t : zBk) (c r i q : Nat) : Bool := decide (q / 4 = (zRT t c r).toNat) && decide (q % 4 < i)
def zmA (t : zBk) (c : Nat) : Nat → Nat → Bool
  | 0, _ => false
  | r + 1, q => zmA t c r q || zrm t c r (zLR t c r).toNat q
def zfA (t : zBk) (c : Nat) : Nat → Nat → Bool
  | 0, _ => false
  | r + 1, q => zfA t c r q || zfm t c r (zLR t c r).toNat q
/-- how the reference stands amid a crossing -/
def zci (t : zBk) (c : Nat) (g : Nat → Nat → Int64) (r i : Nat) (σ : zSt) : Prop := (∀ f j, f < 6 → j < 4 → zL σ 173 (4 * f + j) = (zcr t c g r i (zca t c g r)).1 f j) ∧ zI σ 174 0 = iZ (zcn t c r + i) ∧ zI σ 174 1 = iZ (zcr t c g r i (zca t c g r)).2.1 ∧ zI σ 174 2 = iZ (zcr t c g r i (zca t c g r)).2.2.1 ∧ zI σ 174 3 = iZ (zcr t c g r i (zca t c g r)).2.2.2 ∧ (∀ q, q < 24 → zI σ 175 q = iZ (if (zmA t c r q || zrm t c r i q) = true then 1 else 0)) ∧ ∀ q, q < 24 → zI σ 176 q = iZ (if (zfA t c r q || zfm t c r i q) = true then 1 else 0)
theorem zQv {Q : zSt → Option Value → Prop} {σ σ' : zSt} {v : Option Value} (h : Q σ v) (e : σ' = σ) : Q σ' v := e ▸ h
theorem zTr.fr {w : List Nat} {σ σ' : zSt} {t : zBk} (h : zTr σ t) (f : zFm w σ σ') (h1 : 169 ∉ w) (h2 : zI σ' 164 14 = zI σ 164 14) : zTr σ' t := ⟨fun i hi => ((f.2.2 169 h1).1 i).trans (h.1 i hi), h2.trans h.2⟩
theorem zWid.fr {w : List Nat} {σ σ' : zSt} (h : zWid σ) (f : zFm w σ σ') (h1 : 171 ∉ w) : zWid σ' := fun a b ha hb => ((f.2.2 171 h1).1 _).trans (h a b ha hb)
theorem r_tallies {σ : zSt} (hF : zFx σ) (hW : zWid σ) {v x : Int64} {a b : Nat} (ha : a ≤ 8) (hb : b ≤ 8) (hx : zok b x) {Q : zSt → Option Value → Prop} (k1 : zgi a b → Q (zwI (zwI σ 174 0 (zI σ 174 0 + iZ 1)) 174 1 (zI σ 174 1 + iZ 1)) none) (k2 : ¬ zgi a b → zcar x b a = v → Q (zwI (zwI σ 174 0 (zI σ 174 0 + iZ 1)) 174 2 (zI σ 174 2 + iZ 1)) none) (k3 : ¬ zgi a b → ¬ zcar x b a = v → Q (zwI (zwI σ 174 0 (zI σ 174 0 + iZ 1)) 174 3 (zI σ 174 3 + iZ 1)) none) : zCa 281 [.ref 164, .long v, .int (iZ a), .long x, .int (iZ b)] σ Q := by
  refine w_enter (c := zk_X12_tallies) (ls2 := [(0, .ref 164), (1, .long v), (3, .int (iZ a)), (4, .long x), (6, .int (iZ b))]) rfl ⟨rfl, rfl, rfl, rfl, rfl, trivial⟩ ?_
  refine w_aload_n (pc' := 1) ⟨rfl, rfl⟩ rfl ?_
  refine w_getR (pc' := 4) (cl := 10) (q := 22) ⟨rfl, rfl⟩ ⟨rfl, by decide⟩ (zOl hF rfl) (hF.2 164 22 174 rfl) ?_
  refine w_ic (pc' := 5) ⟨rfl, rfl⟩ ?_
  refine w_dup2 (pc' := 6) ⟨rfl, rfl⟩ ?_
  refine w_iald (pc' := 7) ⟨rfl, rfl⟩ (zAl hF rfl) (zixA (j := 0) (by omega)) rfl ?_
  refine w_ic (pc' := 8) ⟨rfl, rfl⟩ ?_
  refine w_iadd (pc' := 9) ⟨rfl, rfl⟩ ?_
  refine w_iast (pc' := 10) ⟨rfl, rfl⟩ (zAl hF rfl) (zixA (j := 0) (by omega)) ?_
  refine w_aload_n (pc' := 11) ⟨rfl, rfl⟩ rfl ?_
  refine w_iload_n (pc' := 12) ⟨rfl, rfl⟩ rfl ?_
  refine w_iload (pc' := 14) ⟨rfl, rfl⟩ rfl ?_
  refine w_cv3 (pc' := 17) ⟨rfl, rfl⟩ (by decide) (zOl hF rfl) (Nat.le_of_ble_eq_true rfl) (Nat.le_of_ble_eq_true rfl) (r_doesWiden (σ := (zwI σ 174 0 (zI σ 174 0 + iZ 1))) hF hW ha hb (fun h => ?_) (fun h => ?_))
  · refine w_ifF_eq (pc' := 20) ⟨rfl, rfl⟩ (by decide) ?_
    refine w_aload_n (pc' := 21) ⟨rfl, rfl⟩ rfl ?_
    refine w_getR (pc' := 24) (cl := 10) (q := 22) ⟨rfl, rfl⟩ ⟨rfl, by decide⟩ (zOl hF rfl) (hF.2 164 22 174 rfl) ?_
    refine w_ic (pc' := 25) ⟨rfl, rfl⟩ ?_
    refine w_dup2 (pc' := 26) ⟨rfl, rfl⟩ ?_
    refine w_iald (pc' := 27) ⟨rfl, rfl⟩ (zAl hF rfl) (zixA (j := 1) (by omega)) rfl ?_
    refine w_ic (pc' := 28) ⟨rfl, rfl⟩ ?_
    refine w_iadd (pc' := 29) ⟨rfl, rfl⟩ ?_
    refine w_iast (pc' := 30) ⟨rfl, rfl⟩ (zAl hF rfl) (zixA (j := 1) (by omega)) ?_
    refine w_goto (pc' := 33) (pcT := 70) ⟨rfl, rfl⟩ rfl ?_
    refine w_return (pc' := 71) ⟨rfl, rfl⟩ ?_
    first | exact k1 (by assumption) | exact k2 (by assumption) (by assumption) | exact k3 (by assumption) (by assumption)
  · refine w_ifT_eq (pc' := 20) (pcT := 33) ⟨rfl, rfl⟩ rfl (by decide) ?_
    refine w_aload_n (pc' := 34) ⟨rfl, rfl⟩ rfl ?_
    refine w_lload (pc' := 36) ⟨rfl, rfl⟩ rfl ?_
    refine w_iload (pc' := 38) ⟨rfl, rfl⟩ rfl ?_
    refine w_iload_n (pc' := 39) ⟨rfl, rfl⟩ rfl ?_
    refine w_cv4 (pc' := 42) ⟨rfl, rfl⟩ (by decide) (zOl hF rfl) (Nat.le_of_ble_eq_true rfl) (Nat.le_of_ble_eq_true rfl) (r_carried (σ := (zwI σ 174 0 (zI σ 174 0 + iZ 1))) hF hW hb ha hx ?_)
    refine w_lload_n (pc' := 43) ⟨rfl, rfl⟩ rfl ?_
    refine w_lcmp (pc' := 44) ⟨rfl, rfl⟩ ?_
    refine w_ifc_ne (pc' := 47) (pcT := 60) ⟨rfl, rfl⟩ rfl (fun h1 => ?_) (fun h1 => ?_)
    · refine w_aload_n (pc' := 61) ⟨rfl, rfl⟩ rfl ?_
      refine w_getR (pc' := 64) (cl := 10) (q := 22) ⟨rfl, rfl⟩ ⟨rfl, by decide⟩ (zOl hF rfl) (hF.2 164 22 174 rfl) ?_
      refine w_ic (pc' := 65) ⟨rfl, rfl⟩ ?_
      refine w_dup2 (pc' := 66) ⟨rfl, rfl⟩ ?_
      refine w_iald (pc' := 67) ⟨rfl, rfl⟩ (zAl hF rfl) (zixA (j := 3) (by omega)) rfl ?_
      refine w_ic (pc' := 68) ⟨rfl, rfl⟩ ?_
      refine w_iadd (pc' := 69) ⟨rfl, rfl⟩ ?_
      refine w_iast (pc' := 70) ⟨rfl, rfl⟩ (zAl hF rfl) (zixA (j := 3) (by omega)) ?_
      refine w_return (pc' := 71) ⟨rfl, rfl⟩ ?_
      first | exact k1 (by assumption) | exact k2 (by assumption) (by assumption) | exact k3 (by assumption) (by assumption)
    · refine w_aload_n (pc' := 48) ⟨rfl, rfl⟩ rfl ?_
      refine w_getR (pc' := 51) (cl := 10) (q := 22) ⟨rfl, rfl⟩ ⟨rfl, by decide⟩ (zOl hF rfl) (hF.2 164 22 174 rfl) ?_
      refine w_ic (pc' := 52) ⟨rfl, rfl⟩ ?_
      refine w_dup2 (pc' := 53) ⟨rfl, rfl⟩ ?_
      refine w_iald (pc' := 54) ⟨rfl, rfl⟩ (zAl hF rfl) (zixA (j := 2) (by omega)) rfl ?_
      refine w_ic (pc' := 55) ⟨rfl, rfl⟩ ?_
      refine w_iadd (pc' := 56) ⟨rfl, rfl⟩ ?_
      refine w_iast (pc' := 57) ⟨rfl, rfl⟩ (zAl hF rfl) (zixA (j := 2) (by omega)) ?_
      refine w_goto (pc' := 60) (pcT := 70) ⟨rfl, rfl⟩ rfl ?_
      refine w_return (pc' := 71) ⟨rfl, rfl⟩ ?_
      first | exact k1 (by assumption) | exact k2 (by assumption) (by assumption) | exact k3 (by assumption) (by assumption)
theorem r_marks {σ : zSt} {t : zBk} {c r : Nat} (hF : zFx σ) (hT : zTr σ t) (hVt : zVt t) (hc : (c : Int) < t 1) (hr : (r : Int) < zNU t c) {i : Nat} (hi : (i : Int) < zLR t c r) {Q : zSt → Option Value → Prop} (k : ∀ σ1, zFm [175, 176] σ σ1 → (∀ q, q < 24 → zI σ1 175 q = if (zRS t c r ≠ 4 ∧ q = 4 * (zR1 t c r).toNat + i) ∨ (zRS t c r = 3 ∧ q = 4 * (zR2 t c r).toNat + i) then iZ 1 else zI σ 175 q) → (∀ q, q < 24 → zI σ1 176 q = if q = 4 * (zRT t c r).toNat + i then iZ 1 else zI σ 176 q) → Q σ1 none) : zCa 282 [.ref 164, .int (iZ c), .int (iZ r), .int (iZ i)] σ Q := by
  refine w_enter (c := zk_X12_marks) (ls2 := [(0, .ref 164), (1, .int (iZ c)), (2, .int (iZ r)), (3, .int (iZ i))]) rfl ⟨rfl, rfl, rfl, rfl, trivial⟩ ?_
  have hmk := zMK_rng hVt hc hr
  have hVt2 := hVt
  obtain ⟨hv0, hv1, hvs, hvc⟩ := hVt
  obtain ⟨hfo, hto, hne, hnu, hvr, hin⟩ := hvc c hc
  obtain ⟨hrt, hrs, hr1, hr4, hr3, hr12, hr2, hr0, hrk⟩ := hvr r hr
  have hvf := (hvs (zFO t c).toNat (by omega)).1
  have hvt := (hvs (zTO t c).toNat (by omega)).1
  have hnf := hvf.1
  have hnt := hvt.1
  refine w_aload_n (pc' := 1) ⟨rfl, rfl⟩ rfl ?_
  refine w_iload_n (pc' := 2) ⟨rfl, rfl⟩ rfl ?_
  refine w_iload_n (pc' := 3) ⟨rfl, rfl⟩ rfl ?_
  refine w_ic (pc' := 4) ⟨rfl, rfl⟩ ?_
  refine w_cv4 (pc' := 7) ⟨rfl, rfl⟩ (by decide) (zOl hF rfl) (Nat.le_of_ble_eq_true rfl) (Nat.le_of_ble_eq_true rfl) (r_ruleHas1 (σ := σ) hF hT (by omega) (by omega) ?_)
  refine w_istore (pc' := 9) ⟨rfl, rfl⟩ rfl ?_
  refine w_iload (pc' := 11) ⟨rfl, rfl⟩ rfl ?_
  refine w_ic (pc' := 12) ⟨rfl, rfl⟩ ?_
  refine w_ic_eq (pc' := 15) (pcT := 32) ⟨rfl, rfl⟩ rfl (by omega) (by omega) (fun h1 => ?_) (fun h1 => ?_)
  · refine w_iload (pc' := 34) ⟨rfl, rfl⟩ rfl ?_
    refine w_ic (pc' := 35) ⟨rfl, rfl⟩ ?_
    refine w_ic_ne (pc' := 38) (pcT := 55) ⟨rfl, rfl⟩ rfl (by omega) (by omega) (fun h2 => ?_) (fun h2 => ?_)
    · refine w_aload_n (pc' := 56) ⟨rfl, rfl⟩ rfl ?_
      refine w_getR (pc' := 59) (cl := 10) (q := 24) ⟨rfl, rfl⟩ ⟨rfl, by decide⟩ (zOl hF rfl) (hF.2 164 24 176 rfl) ?_
      refine w_ic (pc' := 60) ⟨rfl, rfl⟩ ?_
      refine w_aload_n (pc' := 61) ⟨rfl, rfl⟩ rfl ?_
      refine w_iload_n (pc' := 62) ⟨rfl, rfl⟩ rfl ?_
      refine w_iload_n (pc' := 63) ⟨rfl, rfl⟩ rfl ?_
      refine w_ic (pc' := 64) ⟨rfl, rfl⟩ ?_
      refine w_cv4 (pc' := 67) ⟨rfl, rfl⟩ (by decide) (zOl hF rfl) (Nat.le_of_ble_eq_true rfl) (Nat.le_of_ble_eq_true rfl) (r_ruleHas0 (σ := σ) hF hT (by omega) (by omega) ?_)
      refine w_imulZ (pc' := 68) ⟨rfl, rfl⟩ ?_
      refine w_iload_n (pc' := 69) ⟨rfl, rfl⟩ rfl ?_
      refine w_iaddZ (pc' := 70) ⟨rfl, rfl⟩ ?_
      refine w_ic (pc' := 71) ⟨rfl, rfl⟩ ?_
      refine w_bast (pc' := 72) ⟨rfl, rfl⟩ (zAl hF rfl) (zixA (j := 4 * (zRT t c r).toNat + i) (by omega)) ?_
      rw [show vp_nar .boolean (iZ 1) = iZ 1 by decide]
      refine w_return (pc' := 73) ⟨rfl, rfl⟩ ?_
      refine k _ (zFm.wI (by decide)) (fun q hq => ?_) (fun q hq => ?_)
      all_goals simp only [zI_wI, true_and]
      all_goals repeat' split
      all_goals first | rfl | (exfalso; omega)
    · refine w_aload_n (pc' := 39) ⟨rfl, rfl⟩ rfl ?_
      refine w_getR (pc' := 42) (cl := 10) (q := 23) ⟨rfl, rfl⟩ ⟨rfl, by decide⟩ (zOl hF rfl) (hF.2 164 23 175 rfl) ?_
      refine w_ic (pc' := 43) ⟨rfl, rfl⟩ ?_
      refine w_aload_n (pc' := 44) ⟨rfl, rfl⟩ rfl ?_
      refine w_iload_n (pc' := 45) ⟨rfl, rfl⟩ rfl ?_
      refine w_iload_n (pc' := 46) ⟨rfl, rfl⟩ rfl ?_
      refine w_ic (pc' := 47) ⟨rfl, rfl⟩ ?_
      refine w_cv4 (pc' := 50) ⟨rfl, rfl⟩ (by decide) (zOl hF rfl) (Nat.le_of_ble_eq_true rfl) (Nat.le_of_ble_eq_true rfl) (r_ruleHas3 (σ := σ) hF hT (by omega) (by omega) ?_)
      refine w_imulZ (pc' := 51) ⟨rfl, rfl⟩ ?_
      refine w_iload_n (pc' := 52) ⟨rfl, rfl⟩ rfl ?_
      refine w_iaddZ (pc' := 53) ⟨rfl, rfl⟩ ?_
      refine w_ic (pc' := 54) ⟨rfl, rfl⟩ ?_
      refine w_bast (pc' := 55) ⟨rfl, rfl⟩ (zAl hF rfl) (zixA (j := 4 * (zR2 t c r).toNat + i) (by omega)) ?_
      rw [show vp_nar .boolean (iZ 1) = iZ 1 by decide]
      refine w_aload_n (pc' := 56) ⟨rfl, rfl⟩ rfl ?_
      refine w_getR (pc' := 59) (cl := 10) (q := 24) ⟨rfl, rfl⟩ ⟨rfl, by decide⟩ (zOl hF rfl) (hF.2 164 24 176 rfl) ?_
      refine w_ic (pc' := 60) ⟨rfl, rfl⟩ ?_
      refine w_aload_n (pc' := 61) ⟨rfl, rfl⟩ rfl ?_
      refine w_iload_n (pc' := 62) ⟨rfl, rfl⟩ rfl ?_
      refine w_iload_n (pc' := 63) ⟨rfl, rfl⟩ rfl ?_
      refine w_ic (pc' := 64) ⟨rfl, rfl⟩ ?_
      refine w_cv4 (pc' := 67) ⟨rfl, rfl⟩ (by decide) (zOl hF rfl) (Nat.le_of_ble_eq_true rfl) (Nat.le_of_ble_eq_true rfl) (r_ruleHas0 (σ := (zwI σ 175 (4 * (zR2 t c r).toNat + i) (iZ 1))) hF hT (by omega) (by omega) ?_)
      refine w_imulZ (pc' := 68) ⟨rfl, rfl⟩ ?_
      refine w_iload_n (pc' := 69) ⟨rfl, rfl⟩ rfl ?_
      refine w_iaddZ (pc' := 70) ⟨rfl, rfl⟩ ?_
      refine w_ic (pc' := 71) ⟨rfl, rfl⟩ ?_
      refine w_bast (pc' := 72) ⟨rfl, rfl⟩ (zAl hF rfl) (zixA (j := 4 * (zRT t c r).toNat + i) (by omega)) ?_
      rw [show vp_nar .boolean (iZ 1) = iZ 1 by decide]
      refine w_return (pc' := 73) ⟨rfl, rfl⟩ ?_
      refine k _ ((zFm.wI (by decide)).trans (zFm.wI (by decide))) (fun q hq => ?_) (fun q hq => ?_)
      all_goals simp only [zI_wI, true_and]
      all_goals repeat' split
      all_goals first | rfl | (exfalso; omega)
  · refine w_aload_n (pc' := 16) ⟨rfl, rfl⟩ rfl ?_
    refine w_getR (pc' := 19) (cl := 10) (q := 23) ⟨rfl, rfl⟩ ⟨rfl, by decide⟩ (zOl hF rfl) (hF.2 164 23 175 rfl) ?_
    refine w_ic (pc' := 20) ⟨rfl, rfl⟩ ?_
    refine w_aload_n (pc' := 21) ⟨rfl, rfl⟩ rfl ?_
    refine w_iload_n (pc' := 22) ⟨rfl, rfl⟩ rfl ?_
    refine w_iload_n (pc' := 23) ⟨rfl, rfl⟩ rfl ?_
    refine w_ic (pc' := 24) ⟨rfl, rfl⟩ ?_
    refine w_cv4 (pc' := 27) ⟨rfl, rfl⟩ (by decide) (zOl hF rfl) (Nat.le_of_ble_eq_true rfl) (Nat.le_of_ble_eq_true rfl) (r_ruleHas2 (σ := σ) hF hT (by omega) (by omega) ?_)
    refine w_imulZ (pc' := 28) ⟨rfl, rfl⟩ ?_
    refine w_iload_n (pc' := 29) ⟨rfl, rfl⟩ rfl ?_
    refine w_iaddZ (pc' := 30) ⟨rfl, rfl⟩ ?_
    refine w_ic (pc' := 31) ⟨rfl, rfl⟩ ?_
    refine w_bast (pc' := 32) ⟨rfl, rfl⟩ (zAl hF rfl) (zixA (j := 4 * (zR1 t c r).toNat + i) (by omega)) ?_
    rw [show vp_nar .boolean (iZ 1) = iZ 1 by decide]
    refine w_iload (pc' := 34) ⟨rfl, rfl⟩ rfl ?_
    refine w_ic (pc' := 35) ⟨rfl, rfl⟩ ?_
    refine w_ic_ne (pc' := 38) (pcT := 55) ⟨rfl, rfl⟩ rfl (by omega) (by omega) (fun h2 => ?_) (fun h2 => ?_)
    · refine w_aload_n (pc' := 56) ⟨rfl, rfl⟩ rfl ?_
      refine w_getR (pc' := 59) (cl := 10) (q := 24) ⟨rfl, rfl⟩ ⟨rfl, by decide⟩ (zOl hF rfl) (hF.2 164 24 176 rfl) ?_
      refine w_ic (pc' := 60) ⟨rfl, rfl⟩ ?_
      refine w_aload_n (pc' := 61) ⟨rfl, rfl⟩ rfl ?_
      refine w_iload_n (pc' := 62) ⟨rfl, rfl⟩ rfl ?_
      refine w_iload_n (pc' := 63) ⟨rfl, rfl⟩ rfl ?_
      refine w_ic (pc' := 64) ⟨rfl, rfl⟩ ?_
      refine w_cv4 (pc' := 67) ⟨rfl, rfl⟩ (by decide) (zOl hF rfl) (Nat.le_of_ble_eq_true rfl) (Nat.le_of_ble_eq_true rfl) (r_ruleHas0 (σ := (zwI σ 175 (4 * (zR1 t c r).toNat + i) (iZ 1))) hF hT (by omega) (by omega) ?_)
      refine w_imulZ (pc' := 68) ⟨rfl, rfl⟩ ?_
      refine w_iload_n (pc' := 69) ⟨rfl, rfl⟩ rfl ?_
      refine w_iaddZ (pc' := 70) ⟨rfl, rfl⟩ ?_
      refine w_ic (pc' := 71) ⟨rfl, rfl⟩ ?_
      refine w_bast (pc' := 72) ⟨rfl, rfl⟩ (zAl hF rfl) (zixA (j := 4 * (zRT t c r).toNat + i) (by omega)) ?_
      rw [show vp_nar .boolean (iZ 1) = iZ 1 by decide]
      refine w_return (pc' := 73) ⟨rfl, rfl⟩ ?_
      refine k _ ((zFm.wI (by decide)).trans (zFm.wI (by decide))) (fun q hq => ?_) (fun q hq => ?_)
      all_goals simp only [zI_wI, true_and]
      all_goals repeat' split
      all_goals first | rfl | (exfalso; omega)
    · refine w_aload_n (pc' := 39) ⟨rfl, rfl⟩ rfl ?_
      refine w_getR (pc' := 42) (cl := 10) (q := 23) ⟨rfl, rfl⟩ ⟨rfl, by decide⟩ (zOl hF rfl) (hF.2 164 23 175 rfl) ?_
      refine w_ic (pc' := 43) ⟨rfl, rfl⟩ ?_
      refine w_aload_n (pc' := 44) ⟨rfl, rfl⟩ rfl ?_
      refine w_iload_n (pc' := 45) ⟨rfl, rfl⟩ rfl ?_
      refine w_iload_n (pc' := 46) ⟨rfl, rfl⟩ rfl ?_
      refine w_ic (pc' := 47) ⟨rfl, rfl⟩ ?_
      refine w_cv4 (pc' := 50) ⟨rfl, rfl⟩ (by decide) (zOl hF rfl) (Nat.le_of_ble_eq_true rfl) (Nat.le_of_ble_eq_true rfl) (r_ruleHas3 (σ := (zwI σ 175 (4 * (zR1 t c r).toNat + i) (iZ 1))) hF hT (by omega) (by omega) ?_)
      refine w_imulZ (pc' := 51) ⟨rfl, rfl⟩ ?_
      refine w_iload_n (pc' := 52) ⟨rfl, rfl⟩ rfl ?_
      refine w_iaddZ (pc' := 53) ⟨rfl, rfl⟩ ?_
      refine w_ic (pc' := 54) ⟨rfl, rfl⟩ ?_
      refine w_bast (pc' := 55) ⟨rfl, rfl⟩ (zAl hF rfl) (zixA (j := 4 * (zR2 t c r).toNat + i) (by omega)) ?_
      rw [show vp_nar .boolean (iZ 1) = iZ 1 by decide]
      refine w_aload_n (pc' := 56) ⟨rfl, rfl⟩ rfl ?_
      refine w_getR (pc' := 59) (cl := 10) (q := 24) ⟨rfl, rfl⟩ ⟨rfl, by decide⟩ (zOl hF rfl) (hF.2 164 24 176 rfl) ?_
      refine w_ic (pc' := 60) ⟨rfl, rfl⟩ ?_
      refine w_aload_n (pc' := 61) ⟨rfl, rfl⟩ rfl ?_
      refine w_iload_n (pc' := 62) ⟨rfl, rfl⟩ rfl ?_
      refine w_iload_n (pc' := 63) ⟨rfl, rfl⟩ rfl ?_
      refine w_ic (pc' := 64) ⟨rfl, rfl⟩ ?_
      refine w_cv4 (pc' := 67) ⟨rfl, rfl⟩ (by decide) (zOl hF rfl) (Nat.le_of_ble_eq_true rfl) (Nat.le_of_ble_eq_true rfl) (r_ruleHas0 (σ := (zwI (zwI σ 175 (4 * (zR1 t c r).toNat + i) (iZ 1)) 175 (4 * (zR2 t c r).toNat + i) (iZ 1))) hF hT (by omega) (by omega) ?_)
      refine w_imulZ (pc' := 68) ⟨rfl, rfl⟩ ?_
      refine w_iload_n (pc' := 69) ⟨rfl, rfl⟩ rfl ?_
      refine w_iaddZ (pc' := 70) ⟨rfl, rfl⟩ ?_
      refine w_ic (pc' := 71) ⟨rfl, rfl⟩ ?_
      refine w_bast (pc' := 72) ⟨rfl, rfl⟩ (zAl hF rfl) (zixA (j := 4 * (zRT t c r).toNat + i) (by omega)) ?_
      rw [show vp_nar .boolean (iZ 1) = iZ 1 by decide]
      refine w_return (pc' := 73) ⟨rfl, rfl⟩ ?_
      refine k _ (((zFm.wI (by decide)).trans (zFm.wI (by decide))).trans (zFm.wI (by decide))) (fun q hq => ?_) (fun q hq => ?_)
      all_goals simp only [zI_wI, true_and]
      all_goals repeat' split
      all_goals first | rfl | (exfalso; omega)
theorem zcr_s (t : zBk) (c : Nat) (g : Nat → Nat → Int64) (r i : Nat) (S : zCs) : zcr t c g r (i + 1) S = zc1 t c g r i (zcr t c g r i S) := rfl
theorem zrm_s {t : zBk} {c r i q : Nat} (hi : i < 4) (h1 : zRS t c r ≠ 4 → 0 ≤ zR1 t c r) (h2 : zRS t c r = 3 → 0 ≤ zR2 t c r) : zrm t c r (i + 1) q = (decide ((zRS t c r ≠ 4 ∧ q = 4 * (zR1 t c r).toNat + i) ∨ (zRS t c r = 3 ∧ q = 4 * (zR2 t c r).toNat + i)) || zrm t c r i q) := by
  unfold zrm
  rw [Bool.eq_iff_iff]
  simp only [Bool.or_eq_true, Bool.and_eq_true, decide_eq_true_eq]
  omega
theorem zfm_s {t : zBk} {c r i q : Nat} (hi : i < 4) : zfm t c r (i + 1) q = (decide (q = 4 * (zRT t c r).toNat + i) || zfm t c r i q) := by
  unfold zfm
  rw [Bool.eq_iff_iff]
  simp only [Bool.or_eq_true, Bool.and_eq_true, decide_eq_true_eq]
  omega
theorem zci_step {t : zBk} {c r i : Nat} {g : Nat → Nat → Int64} {σ σ2 σ3 : zSt} (hI : zci t c g r i σ) (hi : i < 4) (hT6 : (zRT t c r).toNat < 6) (h1 : zRS t c r ≠ 4 → 0 ≤ zR1 t c r) (h2 : zRS t c r = 3 → 0 ≤ zR2 t c r)
    (hL : ∀ q, zL σ2 173 q = if q = 4 * (zRT t c r).toNat + i then zcar (zmd t c r g i) (zMK t c r) (zTK t c r) else zL σ 173 q)
    (hA : zI σ2 174 0 = zI σ 174 0 + iZ 1 ∧ (zI σ2 174 1 = if zgi (zMK t c r) (zTK t c r) then zI σ 174 1 + iZ 1 else zI σ 174 1) ∧ (zI σ2 174 2 = if ¬ zgi (zMK t c r) (zTK t c r) ∧ zcar (zcar (zmd t c r g i) (zMK t c r) (zTK t c r)) (zTK t c r) (zMK t c r) = zmd t c r g i then zI σ 174 2 + iZ 1 else zI σ 174 2) ∧ (zI σ2 174 3 = if ¬ zgi (zMK t c r) (zTK t c r) ∧ ¬ zcar (zcar (zmd t c r g i) (zMK t c r) (zTK t c r)) (zTK t c r) (zMK t c r) = zmd t c r g i then zI σ 174 3 + iZ 1 else zI σ 174 3))
    (hR : (∀ q, zI σ2 175 q = zI σ 175 q) ∧ ∀ q, zI σ2 176 q = zI σ 176 q)
    (hfm : zFm [175, 176] σ2 σ3) (hm1 : ∀ q, q < 24 → zI σ3 175 q = if (zRS t c r ≠ 4 ∧ q = 4 * (zR1 t c r).toNat + i) ∨ (zRS t c r = 3 ∧ q = 4 * (zR2 t c r).toNat + i) then iZ 1 else zI σ2 175 q) (hm2 : ∀ q, q < 24 → zI σ3 176 q = if q = 4 * (zRT t c r).toNat + i then iZ 1 else zI σ2 176 q) : zci t c g r (i + 1) σ3 := by
  obtain ⟨i1, i2, i3, i4, i5, i6, i7⟩ := hI
  have f173 := (hfm.2.2 173 (by decide)).2
  have f174 := (hfm.2.2 174 (by decide)).1
  rw [zci]
  rw [zcr_s]
  refine ⟨fun f j hf hj => ?_, ?_, ?_, ?_, ?_, fun q hq => ?_, fun q hq => ?_⟩
  · rw [f173, hL]
    show _ = if f = (zRT t c r).toNat ∧ j = i then _ else _
    by_cases h : f = (zRT t c r).toNat ∧ j = i
    · rw [if_pos h, if_pos (by omega)]
    · rw [if_neg h, if_neg (by omega)]; exact i1 f j hf hj
  · rw [f174, hA.1, i2, iZ_add]; congr 1; omega
  · rw [f174, hA.2.1, i3]
    show _ = iZ (if zgi _ _ then _ else _)
    split
    · rw [iZ_add]
    · rfl
  · rw [f174, hA.2.2.1, i4]
    show _ = iZ (if _ then _ else _)
    split
    · rw [iZ_add]
    · rfl
  · rw [f174, hA.2.2.2, i5]
    show _ = iZ (if _ then _ else _)
    split
    · rw [iZ_add]
    · rfl
  · rw [hm1 q hq, hR.1, i6 q hq, zrm_s hi h1 h2]
    by_cases h : (zRS t c r ≠ 4 ∧ q = 4 * (zR1 t c r).toNat + i) ∨ (zRS t c r = 3 ∧ q = 4 * (zR2 t c r).toNat + i)
    · rw [if_pos h, if_pos (by simp [h])]
    · rw [if_neg h, decide_eq_false h, Bool.false_or]
  · rw [hm2 q hq, hR.2, i7 q hq, zfm_s hi]
    by_cases h : q = 4 * (zRT t c r).toNat + i
    · rw [if_pos h, if_pos (by simp [h])]
    · rw [if_neg h, decide_eq_false h, Bool.false_or]
theorem zci_n {t : zBk} {c r : Nat} {g : Nat → Nat → Int64} {σ : zSt} {i : Nat} (h : zci t c g r i σ) (hi : (i : Int) = zLR t c r) : zci t c g (r + 1) 0 σ := by
  have hi2 : (zLR t c r).toNat = i := by omega
  obtain ⟨i1, i2, i3, i4, i5, i6, i7⟩ := h
  have e0 : ∀ q, zrm t c (r + 1) 0 q = false := fun q => by unfold zrm; simp
  have e1 : ∀ q, zfm t c (r + 1) 0 q = false := fun q => by unfold zfm; simp
  have ez : zcr t c g (r + 1) 0 (zca t c g (r + 1)) = zcr t c g r i (zca t c g r) := by
    show zca t c g (r + 1) = _
    show zcr t c g r (zLR t c r).toNat _ = _
    rw [hi2]
  rw [zci, ez]
  refine ⟨i1, ?_, i3, i4, i5, fun q hq => ?_, fun q hq => ?_⟩
  · rw [i2]
    show iZ (zcn t c r + i) = iZ (zcn t c r + zLR t c r + 0)
    congr 1; omega
  · rw [i6 q hq, e0]
    show _ = iZ (if ((zmA t c r q || zrm t c r (zLR t c r).toNat q) || false) = true then 1 else 0)
    rw [hi2, Bool.or_false]
  · rw [i7 q hq, e1]
    show _ = iZ (if ((zfA t c r q || zfm t c r (zLR t c r).toNat q) || false) = true then 1 else 0)
    rw [hi2, Bool.or_false]
theorem l_car0 {σ : zSt} {c : Nat} (hF : zFx σ) {Q : zSt → Option Value → Prop} : ∀ (n : Nat) (i : Nat) (σ1 : zSt), i + n = 24 → zFm [173, 174, 175, 176] σ σ1 → (∀ q, q < i → zL σ1 173 q = lZ 0 ∧ zI σ1 175 q = iZ 0 ∧ zI σ1 176 q = iZ 0) → (∀ σ2, zFm [173, 174, 175, 176] σ σ2 → (∀ q, q < 24 → zL σ2 173 q = lZ 0 ∧ zI σ2 175 q = iZ 0 ∧ zI σ2 176 q = iZ 0) → zP zk_X12_carries 35 [(0, .ref 164), (1, .int (iZ c))] [] σ2 Q) → zP zk_X12_carries 2 [(0, .ref 164), (1, .int (iZ c)), (2, .int (iZ i))] [] σ1 Q := by
  intro n
  induction n with
  | zero =>
    intro i σ1 hi hfm hz k
    obtain rfl : i = 24 := by omega
    refine w_iload_n (pc' := 3) ⟨rfl, rfl⟩ rfl ?_
    refine w_bi (pc' := 5) ⟨rfl, rfl⟩ (by decide) ?_
    refine w_icT_ge (pc' := 8) (pcT := 35) ⟨rfl, rfl⟩ rfl (by omega) ?_
    refine w_at ?_ (k _ hfm hz)
    exact ⟨rfl, rfl, trivial⟩
  | succ n ih =>
    intro i σ1 hi hfm hz k
    have hF1 := hfm.fx hF
    refine w_iload_n (pc' := 3) ⟨rfl, rfl⟩ rfl ?_
    refine w_bi (pc' := 5) ⟨rfl, rfl⟩ (by decide) ?_
    refine w_icF_ge (pc' := 8) ⟨rfl, rfl⟩ (by omega) ?_
    refine w_aload_n (pc' := 9) ⟨rfl, rfl⟩ rfl ?_
    refine w_getR (pc' := 12) (cl := 10) (q := 21) ⟨rfl, rfl⟩ ⟨rfl, by decide⟩ (zOl hF1 rfl) (hF1.2 164 21 173 rfl) ?_
    refine w_iload_n (pc' := 13) ⟨rfl, rfl⟩ rfl ?_
    refine w_lc (pc' := 14) (z := 0) ⟨rfl, rfl⟩ rfl ?_
    refine w_last (pc' := 15) ⟨rfl, rfl⟩ (zAl hF1 rfl) (zixZ (by omega)) ?_
    refine w_aload_n (pc' := 16) ⟨rfl, rfl⟩ rfl ?_
    refine w_getR (pc' := 19) (cl := 10) (q := 23) ⟨rfl, rfl⟩ ⟨rfl, by decide⟩ (zOl hF1 rfl) (hF1.2 164 23 175 rfl) ?_
    refine w_iload_n (pc' := 20) ⟨rfl, rfl⟩ rfl ?_
    refine w_ic (pc' := 21) ⟨rfl, rfl⟩ ?_
    refine w_bast (pc' := 22) ⟨rfl, rfl⟩ (zAl hF1 rfl) (zixZ (by omega)) ?_
    rw [show vp_nar .boolean (iZ 0) = iZ 0 by decide]
    refine w_aload_n (pc' := 23) ⟨rfl, rfl⟩ rfl ?_
    refine w_getR (pc' := 26) (cl := 10) (q := 24) ⟨rfl, rfl⟩ ⟨rfl, by decide⟩ (zOl hF1 rfl) (hF1.2 164 24 176 rfl) ?_
    refine w_iload_n (pc' := 27) ⟨rfl, rfl⟩ rfl ?_
    refine w_ic (pc' := 28) ⟨rfl, rfl⟩ ?_
    refine w_bast (pc' := 29) ⟨rfl, rfl⟩ (zAl hF1 rfl) (zixZ (by omega)) ?_
    rw [show vp_nar .boolean (iZ 0) = iZ 0 by decide]
    refine w_iincZ (pc' := 32) ⟨rfl, rfl⟩ rfl rfl ?_
    refine w_goto (pc' := 35) (pcT := 2) ⟨rfl, rfl⟩ rfl ?_
    refine w_at ?_ (ih (i + 1) _ (by omega) (((hfm.trans (zFm.wL (by decide))).trans (zFm.wI (by decide))).trans (zFm.wI (by decide))) (fun q hq => ?_) k)
    · exact ⟨rfl, rfl, rfl, trivial⟩
    · by_cases hqi : q = i
      · subst hqi
        refine ⟨?_, ?_, ?_⟩
        · exact zL_wL_s
        · rw [zI_wI_n (Or.inl (by decide)), zI_wI_s]
        · exact zI_wI_s
      · obtain ⟨h1, h2, h3⟩ := hz q (by omega)
        refine ⟨?_, ?_, ?_⟩
        · exact (zL_wL_n (Or.inr hqi)).trans h1
        · rw [zI_wI_n (Or.inl (by decide)), zI_wI_n (Or.inr hqi)]; exact h2
        · rw [zI_wI_n (Or.inr hqi), zI_wI_n (Or.inl (by decide))]; exact h3
theorem l_car1 {σ : zSt} {c : Nat} (hF : zFx σ) {Q : zSt → Option Value → Prop} : ∀ (n : Nat) (i : Nat) (σ1 : zSt), i + n = 6 → zFm [173, 174, 175, 176] σ σ1 → (∀ q, q < 24 → zL σ1 173 q = lZ 0 ∧ zI σ1 175 q = iZ 0 ∧ zI σ1 176 q = iZ 0) → (∀ q, q < i → zI σ1 174 q = iZ 0) → (∀ σ2, zFm [173, 174, 175, 176] σ σ2 → (∀ q, q < 24 → zL σ2 173 q = lZ 0 ∧ zI σ2 175 q = iZ 0 ∧ zI σ2 176 q = iZ 0) → (∀ q, q < 6 → zI σ2 174 q = iZ 0) → zP zk_X12_carries 56 [(0, .ref 164), (1, .int (iZ c))] [] σ2 Q) → zP zk_X12_carries 37 [(0, .ref 164), (1, .int (iZ c)), (2, .int (iZ i))] [] σ1 Q := by
  intro n
  induction n with
  | zero =>
    intro i σ1 hi hfm hz ht k
    obtain rfl : i = 6 := by omega
    refine w_iload_n (pc' := 38) ⟨rfl, rfl⟩ rfl ?_
    refine w_bi (pc' := 40) ⟨rfl, rfl⟩ (by decide) ?_
    refine w_icT_ge (pc' := 43) (pcT := 56) ⟨rfl, rfl⟩ rfl (by omega) ?_
    refine w_at ?_ (k _ hfm hz ht)
    exact ⟨rfl, rfl, trivial⟩
  | succ n ih =>
    intro i σ1 hi hfm hz ht k
    have hF1 := hfm.fx hF
    refine w_iload_n (pc' := 38) ⟨rfl, rfl⟩ rfl ?_
    refine w_bi (pc' := 40) ⟨rfl, rfl⟩ (by decide) ?_
    refine w_icF_ge (pc' := 43) ⟨rfl, rfl⟩ (by omega) ?_
    refine w_aload_n (pc' := 44) ⟨rfl, rfl⟩ rfl ?_
    refine w_getR (pc' := 47) (cl := 10) (q := 22) ⟨rfl, rfl⟩ ⟨rfl, by decide⟩ (zOl hF1 rfl) (hF1.2 164 22 174 rfl) ?_
    refine w_iload_n (pc' := 48) ⟨rfl, rfl⟩ rfl ?_
    refine w_ic (pc' := 49) ⟨rfl, rfl⟩ ?_
    refine w_iast (pc' := 50) ⟨rfl, rfl⟩ (zAl hF1 rfl) (zixZ (by omega)) ?_
    refine w_iincZ (pc' := 53) ⟨rfl, rfl⟩ rfl rfl ?_
    refine w_goto (pc' := 56) (pcT := 37) ⟨rfl, rfl⟩ rfl ?_
    refine w_at ?_ (ih (i + 1) _ (by omega) (hfm.trans (zFm.wI (by decide))) (fun q hq => ?_) (fun q hq => ?_) k)
    · exact ⟨rfl, rfl, rfl, trivial⟩
    · obtain ⟨h1, h2, h3⟩ := hz q hq
      exact ⟨h1, (zI_wI_n (Or.inl (by decide))).trans h2, (zI_wI_n (Or.inl (by decide))).trans h3⟩
    · by_cases hqi : q = i
      · subst hqi; exact zI_wI_s
      · exact (zI_wI_n (Or.inr hqi)).trans (ht q (by omega))
theorem zmd_ok {t : zBk} {c r : Nat} (hVt : zVt t) (hc : (c : Int) < t 1) (hr : (r : Int) < zNU t c) {g : Nat → Nat → Int64} (hg : zgk t (zFO t c).toNat g) {i : Nat} (hi : (i : Int) < zLR t c r) : zok (zMK t c r) (zmd t c r g i) := by
  have hmk := zMK_rng hVt hc hr
  obtain ⟨hv0, hv1, hvs, hvc⟩ := hVt
  obtain ⟨hfo, hto, hne, hnu, hvr, hin⟩ := hvc c hc
  obtain ⟨hrt, hrs, hr1, hr4, hr3, hr12, hr2, hr0, hrk⟩ := hvr r hr
  by_cases c4 : zRS t c r = 4
  · unfold zmd zMK; rw [if_pos c4, if_pos c4]; exact zok_i (by omega)
  · have o1 := hg (zR1 t c r).toNat i (by have := hr1 c4; omega) (by have := hmk.2.2.2.2.1 c4; omega)
    by_cases c0 : zRS t c r = 0
    · unfold zmd zMK; rw [if_neg c4, if_pos c0, if_neg c4, if_pos c0]; exact o1
    · by_cases c5 : zMK t c r = 5
      · rw [c5]; exact zok_i (by omega)
      · have c7 : zMK t c r = 7 := by
          unfold zMK at c5 ⊢
          rw [if_neg c4, if_neg c0] at c5 ⊢
          split at c5
          · rename_i hq; rw [if_pos hq]
          · rename_i hq
            rw [if_neg hq]
            split at c5
            · rename_i hq2; rw [if_pos hq2]
            · exact absurd rfl c5
        unfold zmd
        rw [if_neg c4, if_neg c0, if_neg c5, c7]
        refine zok_d (zhd_b (zop_nn (zrl_b o1).f ?_ (fun h2 => ?_)))
        · split
          · rename_i c3
            exact (zrl_b (hg (zR2 t c r).toNat i (by have := hr3 c3; omega) (by have := hmk.2.2.2.2.2 c3; omega))).f
          · exact (zl2d _).f
        · rw [if_neg (by omega)]
          exact zl2d_nz (by omega)
theorem l_car2 {σ : zSt} {t : zBk} {c : Nat} (hF : zFx σ) (hT : zTr σ t) (hVt : zVt t) (hW : zWid σ) (hc : (c : Int) < t 1) (hg : zgk t (zFO t c).toNat (fun f i => zL σ 172 (4 * f + i))) {r : Nat} (hr : (r : Int) < zNU t c) {Q : zSt → Option Value → Prop} : ∀ (n : Nat) (i : Nat) (σ1 : zSt), ((i : Int) + n = zLR t c r) → zFm [173, 174, 175, 176] σ σ1 → zci t c (fun f i => zL σ 172 (4 * f + i)) r i σ1 → (∀ σ2, zFm [173, 174, 175, 176] σ σ2 → zci t c (fun f i => zL σ 172 (4 * f + i)) (r + 1) 0 σ2 → zP zk_X12_carries 159 [(0, .ref 164), (1, .int (iZ c)), (2, .int (iZ r))] [] σ2 Q) → zP zk_X12_carries 69 [(0, .ref 164), (1, .int (iZ c)), (2, .int (iZ r)), (3, .int (iZ i))] [] σ1 Q := by
  intro n
  induction n with
  | zero =>
    intro i σ1 hi hfm hI k
    have hmk := zMK_rng hVt hc hr
    have hVt2 := hVt
    obtain ⟨hv0, hv1, hvs, hvc⟩ := hVt
    obtain ⟨hfo, hto, hne, hnu, hvr, hin⟩ := hvc c hc
    obtain ⟨hrt, hrs, hr1, hr4, hr3, hr12, hr2, hr0, hrk⟩ := hvr r hr
    have hvf := (hvs (zFO t c).toNat (by omega)).1
    have hvt := (hvs (zTO t c).toNat (by omega)).1
    have hnf := hvf.1
    have hnt := hvt.1
    have hF1 := hfm.fx hF
    have hT1 : zTr σ1 t := hT.fr hfm (by decide) ((hfm.2.2 164 (by decide)).1 14)
    have hW1 : zWid σ1 := hW.fr hfm (by decide)
    refine w_iload_n (pc' := 70) ⟨rfl, rfl⟩ rfl ?_
    refine w_aload_n (pc' := 71) ⟨rfl, rfl⟩ rfl ?_
    refine w_iload_n (pc' := 72) ⟨rfl, rfl⟩ rfl ?_
    refine w_iload_n (pc' := 73) ⟨rfl, rfl⟩ rfl ?_
    refine w_cv3 (pc' := 76) ⟨rfl, rfl⟩ (by decide) (zOl hF1 rfl) (Nat.le_of_ble_eq_true rfl) (Nat.le_of_ble_eq_true rfl) (r_longRule (σ := σ1) hF1 hT1 hVt2 hc hr ?_)
    refine w_icT_ge (pc' := 79) (pcT := 159) ⟨rfl, rfl⟩ rfl (by omega) ?_
    refine w_at ?_ (k _ hfm (zci_n hI (by omega)))
    exact ⟨rfl, rfl, rfl, trivial⟩
  | succ n ih =>
    intro i σ1 hi hfm hI k
    have hmk := zMK_rng hVt hc hr
    have hVt2 := hVt
    obtain ⟨hv0, hv1, hvs, hvc⟩ := hVt
    obtain ⟨hfo, hto, hne, hnu, hvr, hin⟩ := hvc c hc
    obtain ⟨hrt, hrs, hr1, hr4, hr3, hr12, hr2, hr0, hrk⟩ := hvr r hr
    have hvf := (hvs (zFO t c).toNat (by omega)).1
    have hvt := (hvs (zTO t c).toNat (by omega)).1
    have hnf := hvf.1
    have hnt := hvt.1
    have hF1 := hfm.fx hF
    have hT1 : zTr σ1 t := hT.fr hfm (by decide) ((hfm.2.2 164 (by decide)).1 14)
    have hW1 : zWid σ1 := hW.fr hfm (by decide)
    obtain ⟨mk, hmk0⟩ : ∃ q : Nat, zMK t c r = q := ⟨(zMK t c r).toNat, by omega⟩
    obtain ⟨tk, htk0⟩ : ∃ q : Nat, zTK t c r = q := ⟨(zTK t c r).toNat, by omega⟩
    obtain ⟨rt, hrt0⟩ : ∃ q : Nat, zRT t c r = q := ⟨(zRT t c r).toNat, by omega⟩
    have hrt1 : (zRT t c r).toNat = rt := by omega
    have hgg : (fun f i => zL σ 172 (4 * f + i)) = (fun f i => zL σ1 172 (4 * f + i)) := by funext f i; exact ((hfm.2.2 172 (by decide)).2 _).symm
    have hvok : zok (zMK t c r) (zmd t c r (fun f i => zL σ 172 (4 * f + i)) i) := zmd_ok hVt2 hc hr hg (by omega)
    have hxok : zok (zTK t c r) (zcar (zmd t c r (fun f i => zL σ 172 (4 * f + i)) i) (zMK t c r) (zTK t c r)) := zok_car hvok
    refine w_iload_n (pc' := 70) ⟨rfl, rfl⟩ rfl ?_
    refine w_aload_n (pc' := 71) ⟨rfl, rfl⟩ rfl ?_
    refine w_iload_n (pc' := 72) ⟨rfl, rfl⟩ rfl ?_
    refine w_iload_n (pc' := 73) ⟨rfl, rfl⟩ rfl ?_
    refine w_cv3 (pc' := 76) ⟨rfl, rfl⟩ (by decide) (zOl hF1 rfl) (Nat.le_of_ble_eq_true rfl) (Nat.le_of_ble_eq_true rfl) (r_longRule (σ := σ1) hF1 hT1 hVt2 hc hr ?_)
    refine w_icF_ge (pc' := 79) ⟨rfl, rfl⟩ (by omega) ?_
    refine w_aload_n (pc' := 80) ⟨rfl, rfl⟩ rfl ?_
    refine w_iload_n (pc' := 81) ⟨rfl, rfl⟩ rfl ?_
    refine w_iload_n (pc' := 82) ⟨rfl, rfl⟩ rfl ?_
    refine w_cv3 (pc' := 85) ⟨rfl, rfl⟩ (by decide) (zOl hF1 rfl) (Nat.le_of_ble_eq_true rfl) (Nat.le_of_ble_eq_true rfl) (r_madeKind (σ := σ1) hF1 hT1 hVt2 hc hr ?_)
    rw [hmk0]
    refine w_istore (pc' := 87) ⟨rfl, rfl⟩ rfl ?_
    refine w_aload_n (pc' := 88) ⟨rfl, rfl⟩ rfl ?_
    refine w_iload_n (pc' := 89) ⟨rfl, rfl⟩ rfl ?_
    refine w_iload_n (pc' := 90) ⟨rfl, rfl⟩ rfl ?_
    refine w_cv3 (pc' := 93) ⟨rfl, rfl⟩ (by decide) (zOl hF1 rfl) (Nat.le_of_ble_eq_true rfl) (Nat.le_of_ble_eq_true rfl) (r_targetKind (σ := σ1) hF1 hT1 hVt2 hc hr ?_)
    rw [htk0]
    refine w_istore (pc' := 95) ⟨rfl, rfl⟩ rfl ?_
    refine w_aload_n (pc' := 96) ⟨rfl, rfl⟩ rfl ?_
    refine w_iload_n (pc' := 97) ⟨rfl, rfl⟩ rfl ?_
    refine w_iload_n (pc' := 98) ⟨rfl, rfl⟩ rfl ?_
    refine w_iload_n (pc' := 99) ⟨rfl, rfl⟩ rfl ?_
    refine w_cv4 (pc' := 102) ⟨rfl, rfl⟩ (by decide) (zOl hF1 rfl) (Nat.le_of_ble_eq_true rfl) (Nat.le_of_ble_eq_true rfl) (r_made (σ := σ1) hF1 hT1 hVt2 hc hr (hgg ▸ hg) (by omega) ?_)
    rw [← hgg]
    refine w_lstore (pc' := 104) ⟨rfl, rfl⟩ rfl rfl ?_
    refine w_aload_n (pc' := 105) ⟨rfl, rfl⟩ rfl ?_
    refine w_lload (pc' := 107) ⟨rfl, rfl⟩ rfl ?_
    refine w_iload (pc' := 109) ⟨rfl, rfl⟩ rfl ?_
    refine w_iload (pc' := 111) ⟨rfl, rfl⟩ rfl ?_
    refine w_cv4 (pc' := 114) ⟨rfl, rfl⟩ (by decide) (zOl hF1 rfl) (Nat.le_of_ble_eq_true rfl) (Nat.le_of_ble_eq_true rfl) (r_carried (σ := σ1) hF1 hW1 (by omega) (by omega) (by rw [← hmk0]; exact hvok) ?_)
    rw [← hmk0, ← htk0]
    refine w_lstore (pc' := 116) ⟨rfl, rfl⟩ rfl rfl ?_
    refine w_aload_n (pc' := 117) ⟨rfl, rfl⟩ rfl ?_
    refine w_getR (pc' := 120) (cl := 10) (q := 21) ⟨rfl, rfl⟩ ⟨rfl, by decide⟩ (zOl hF1 rfl) (hF1.2 164 21 173 rfl) ?_
    refine w_ic (pc' := 121) ⟨rfl, rfl⟩ ?_
    refine w_aload_n (pc' := 122) ⟨rfl, rfl⟩ rfl ?_
    refine w_iload_n (pc' := 123) ⟨rfl, rfl⟩ rfl ?_
    refine w_iload_n (pc' := 124) ⟨rfl, rfl⟩ rfl ?_
    refine w_ic (pc' := 125) ⟨rfl, rfl⟩ ?_
    refine w_cv4 (pc' := 128) ⟨rfl, rfl⟩ (by decide) (zOl hF1 rfl) (Nat.le_of_ble_eq_true rfl) (Nat.le_of_ble_eq_true rfl) (r_ruleHas0 (σ := σ1) hF1 hT1 (by omega) (by omega) ?_)
    rw [hrt0]
    refine w_imulZ (pc' := 129) ⟨rfl, rfl⟩ ?_
    refine w_iload_n (pc' := 130) ⟨rfl, rfl⟩ rfl ?_
    refine w_iaddZ (pc' := 131) ⟨rfl, rfl⟩ ?_
    refine w_lload (pc' := 133) ⟨rfl, rfl⟩ rfl ?_
    refine w_last (pc' := 134) ⟨rfl, rfl⟩ (zAl hF1 rfl) (zixA (j := 4 * rt + i) (by omega)) ?_
    refine w_aload_n (pc' := 135) ⟨rfl, rfl⟩ rfl ?_
    refine w_lload (pc' := 137) ⟨rfl, rfl⟩ rfl ?_
    refine w_iload (pc' := 139) ⟨rfl, rfl⟩ rfl ?_
    refine w_lload (pc' := 141) ⟨rfl, rfl⟩ rfl ?_
    refine w_iload (pc' := 143) ⟨rfl, rfl⟩ rfl ?_
    refine w_cv5 (pc' := 146) ⟨rfl, rfl⟩ (by decide) (zOl hF1 rfl) (Nat.le_of_ble_eq_true rfl) (Nat.le_of_ble_eq_true rfl) ?_
    simp only [hmk0, htk0]
    have hxok2 := hxok
    rw [hmk0, htk0] at hxok2
    refine r_tallies (σ := (zwL σ1 173 (4 * rt + i) (zcar (zmd t c r (fun f i => zL σ 172 (4 * f + i)) i) (mk : Int) (tk : Int)))) hF1 hW1 (by omega) (by omega) hxok2 (fun h => ?_) (fun h h' => ?_) (fun h h' => ?_)
    · refine w_aload_n (pc' := 147) ⟨rfl, rfl⟩ rfl ?_
      refine w_iload_n (pc' := 148) ⟨rfl, rfl⟩ rfl ?_
      refine w_iload_n (pc' := 149) ⟨rfl, rfl⟩ rfl ?_
      refine w_iload_n (pc' := 150) ⟨rfl, rfl⟩ rfl ?_
      refine w_cv4 (pc' := 153) ⟨rfl, rfl⟩ (by decide) (zOl hF1 rfl) (Nat.le_of_ble_eq_true rfl) (Nat.le_of_ble_eq_true rfl) (r_marks (σ := (zwI (zwI (zwL σ1 173 (4 * rt + i) (zcar (zmd t c r (fun f i => zL σ 172 (4 * f + i)) i) (mk : Int) (tk : Int))) 174 0 (zI (zwL σ1 173 (4 * rt + i) (zcar (zmd t c r (fun f i => zL σ 172 (4 * f + i)) i) (mk : Int) (tk : Int))) 174 0 + iZ 1)) 174 1 (zI (zwL σ1 173 (4 * rt + i) (zcar (zmd t c r (fun f i => zL σ 172 (4 * f + i)) i) (mk : Int) (tk : Int))) 174 1 + iZ 1))) hF1 hT1 hVt2 hc hr (by omega) (fun σ2 hfm2 hm1 hm2 => ?_))
      refine w_iincZ (pc' := 156) ⟨rfl, rfl⟩ rfl rfl ?_
      refine w_goto (pc' := 159) (pcT := 69) ⟨rfl, rfl⟩ rfl ?_
      refine w_at ?_ (ih (i + 1) _ (by omega) ((((hfm.trans (zFm.wL (by decide))).trans (zFm.wI (by decide))).trans (zFm.wI (by decide))).trans (hfm2.mono (fun o ho => by simp at ho ⊢; omega))) (zci_step hI (by omega) (by omega) (fun h => by omega) (fun h => by omega) (fun q => ?_) ?_ ?_ hfm2 hm1 hm2) k)
      · exact ⟨rfl, rfl, rfl, rfl, trivial⟩
      · rw [hrt1, hmk0, htk0]; exact (zL_wL).trans (by simp only [true_and])
      · rw [hmk0, htk0]
        refine ⟨?_, ?_, ?_, ?_⟩
        · exact (zI_wI_n (Or.inr (by decide))).trans zI_wI_s
        · rw [if_pos h]; exact zI_wI_s
        · rw [if_neg (fun q => q.1 h)]; exact (zI_wI_n (Or.inr (by decide))).trans (zI_wI_n (Or.inr (by decide)))
        · rw [if_neg (fun q => q.1 h)]; exact (zI_wI_n (Or.inr (by decide))).trans (zI_wI_n (Or.inr (by decide)))
      · exact ⟨fun q => (zI_wI_n (Or.inl (by decide))).trans (zI_wI_n (Or.inl (by decide))), fun q => (zI_wI_n (Or.inl (by decide))).trans (zI_wI_n (Or.inl (by decide)))⟩
    · refine w_aload_n (pc' := 147) ⟨rfl, rfl⟩ rfl ?_
      refine w_iload_n (pc' := 148) ⟨rfl, rfl⟩ rfl ?_
      refine w_iload_n (pc' := 149) ⟨rfl, rfl⟩ rfl ?_
      refine w_iload_n (pc' := 150) ⟨rfl, rfl⟩ rfl ?_
      refine w_cv4 (pc' := 153) ⟨rfl, rfl⟩ (by decide) (zOl hF1 rfl) (Nat.le_of_ble_eq_true rfl) (Nat.le_of_ble_eq_true rfl) (r_marks (σ := (zwI (zwI (zwL σ1 173 (4 * rt + i) (zcar (zmd t c r (fun f i => zL σ 172 (4 * f + i)) i) (mk : Int) (tk : Int))) 174 0 (zI (zwL σ1 173 (4 * rt + i) (zcar (zmd t c r (fun f i => zL σ 172 (4 * f + i)) i) (mk : Int) (tk : Int))) 174 0 + iZ 1)) 174 2 (zI (zwL σ1 173 (4 * rt + i) (zcar (zmd t c r (fun f i => zL σ 172 (4 * f + i)) i) (mk : Int) (tk : Int))) 174 2 + iZ 1))) hF1 hT1 hVt2 hc hr (by omega) (fun σ2 hfm2 hm1 hm2 => ?_))
      refine w_iincZ (pc' := 156) ⟨rfl, rfl⟩ rfl rfl ?_
      refine w_goto (pc' := 159) (pcT := 69) ⟨rfl, rfl⟩ rfl ?_
      refine w_at ?_ (ih (i + 1) _ (by omega) ((((hfm.trans (zFm.wL (by decide))).trans (zFm.wI (by decide))).trans (zFm.wI (by decide))).trans (hfm2.mono (fun o ho => by simp at ho ⊢; omega))) (zci_step hI (by omega) (by omega) (fun h => by omega) (fun h => by omega) (fun q => ?_) ?_ ?_ hfm2 hm1 hm2) k)
      · exact ⟨rfl, rfl, rfl, rfl, trivial⟩
      · rw [hrt1, hmk0, htk0]; exact (zL_wL).trans (by simp only [true_and])
      · rw [hmk0, htk0]
        refine ⟨?_, ?_, ?_, ?_⟩
        · exact (zI_wI_n (Or.inr (by decide))).trans zI_wI_s
        · rw [if_neg h]; exact (zI_wI_n (Or.inr (by decide))).trans (zI_wI_n (Or.inr (by decide)))
        · rw [if_pos ⟨h, h'⟩]; exact zI_wI_s
        · rw [if_neg (fun q => q.2 h')]; exact (zI_wI_n (Or.inr (by decide))).trans (zI_wI_n (Or.inr (by decide)))
      · exact ⟨fun q => (zI_wI_n (Or.inl (by decide))).trans (zI_wI_n (Or.inl (by decide))), fun q => (zI_wI_n (Or.inl (by decide))).trans (zI_wI_n (Or.inl (by decide)))⟩
    · refine w_aload_n (pc' := 147) ⟨rfl, rfl⟩ rfl ?_
      refine w_iload_n (pc' := 148) ⟨rfl, rfl⟩ rfl ?_
      refine w_iload_n (pc' := 149) ⟨rfl, rfl⟩ rfl ?_
      refine w_iload_n (pc' := 150) ⟨rfl, rfl⟩ rfl ?_
      refine w_cv4 (pc' := 153) ⟨rfl, rfl⟩ (by decide) (zOl hF1 rfl) (Nat.le_of_ble_eq_true rfl) (Nat.le_of_ble_eq_true rfl) (r_marks (σ := (zwI (zwI (zwL σ1 173 (4 * rt + i) (zcar (zmd t c r (fun f i => zL σ 172 (4 * f + i)) i) (mk : Int) (tk : Int))) 174 0 (zI (zwL σ1 173 (4 * rt + i) (zcar (zmd t c r (fun f i => zL σ 172 (4 * f + i)) i) (mk : Int) (tk : Int))) 174 0 + iZ 1)) 174 3 (zI (zwL σ1 173 (4 * rt + i) (zcar (zmd t c r (fun f i => zL σ 172 (4 * f + i)) i) (mk : Int) (tk : Int))) 174 3 + iZ 1))) hF1 hT1 hVt2 hc hr (by omega) (fun σ2 hfm2 hm1 hm2 => ?_))
      refine w_iincZ (pc' := 156) ⟨rfl, rfl⟩ rfl rfl ?_
      refine w_goto (pc' := 159) (pcT := 69) ⟨rfl, rfl⟩ rfl ?_
      refine w_at ?_ (ih (i + 1) _ (by omega) ((((hfm.trans (zFm.wL (by decide))).trans (zFm.wI (by decide))).trans (zFm.wI (by decide))).trans (hfm2.mono (fun o ho => by simp at ho ⊢; omega))) (zci_step hI (by omega) (by omega) (fun h => by omega) (fun h => by omega) (fun q => ?_) ?_ ?_ hfm2 hm1 hm2) k)
      · exact ⟨rfl, rfl, rfl, rfl, trivial⟩
      · rw [hrt1, hmk0, htk0]; exact (zL_wL).trans (by simp only [true_and])
      · rw [hmk0, htk0]
        refine ⟨?_, ?_, ?_, ?_⟩
        · exact (zI_wI_n (Or.inr (by decide))).trans zI_wI_s
        · rw [if_neg h]; exact (zI_wI_n (Or.inr (by decide))).trans (zI_wI_n (Or.inr (by decide)))
        · rw [if_neg (fun q => h' q.2)]; exact (zI_wI_n (Or.inr (by decide))).trans (zI_wI_n (Or.inr (by decide)))
        · rw [if_pos ⟨h, h'⟩]; exact zI_wI_s
      · exact ⟨fun q => (zI_wI_n (Or.inl (by decide))).trans (zI_wI_n (Or.inl (by decide))), fun q => (zI_wI_n (Or.inl (by decide))).trans (zI_wI_n (Or.inl (by decide)))⟩
