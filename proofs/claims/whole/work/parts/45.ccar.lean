/-! THE CLASS CARRIES -/
theorem zni {x a b : Nat} (h1 : x ≠ a) (h2 : x ≠ b) : x ∉ [a, b] := by simp [h1, h2]
theorem zSh.fr {w : List Nat} {σ σ' : zSt} {o s : Nat} {t : zBk} (h : zSh σ o t s) (f : zFm w σ σ') (h0 : o ∉ w) (h2 : o + 2 ∉ w) (h3 : o + 3 ∉ w) (h4 : o + 4 ∉ w) : zSh σ' o t s := ⟨((f.2.2 o h0).1 5).trans h.1, ((f.2.2 o h0).1 6).trans h.2.1, fun i hi => ⟨((f.2.2 _ h2).1 i).trans (h.2.2 i hi).1, ((f.2.2 _ h3).1 i).trans (h.2.2 i hi).2.1, ((f.2.2 _ h4).1 i).trans (h.2.2 i hi).2.2⟩⟩
theorem zRu.fr {w : List Nat} {σ σ' : zSt} {o c r : Nat} {t : zBk} (h : zRu σ o t c r) (f : zFm w σ σ') (h0 : o ∉ w) : zRu σ' o t c r := by
  have e := (f.2.2 o h0).1
  unfold zRu
  rw [e, e, e, e, e, e, e, e]
  exact h
/-- an array of the class's that takes values -/
def zIsV (a : Nat) : Prop := a = 107 ∨ a = 108 ∨ a = 111 ∨ a = 112 ∨ a = 113
theorem zIsV.a {σ : zSt} {a : Nat} (h : zIsV a) (hF : zFx σ) : zA σ a 13 24 := by rcases h with rfl | rfl | rfl | rfl | rfl <;> exact zAl hF rfl
theorem zIsS.v {o a : Nat} (h : zIsS o) (ha : zIsV a) : o ≠ a ∧ o + 1 ≠ a ∧ o + 2 ≠ a ∧ o + 3 ≠ a ∧ o + 4 ≠ a ∧ o ≠ 103 ∧ o + 1 ≠ 103 ∧ o + 2 ≠ 103 ∧ o + 3 ≠ 103 ∧ o + 4 ≠ 103 := by unfold zIsS at h; unfold zIsV at ha; omega
theorem zIsG.v {o a k : Nat} (h : zIsG o) (ha : zIsV a) (hk : k ≤ 7) : o + k ≠ a ∧ o + k ≠ 103 := by unfold zIsG at h; unfold zIsV at ha; omega
/-- how the class stands amid a crossing, b its target -/
def zcj (t : zBk) (c : Nat) (g : Nat → Nat → Int64) (b r i : Nat) (σ : zSt) : Prop := (∀ f j : Nat, (f : Int) < zNF t (zTO t c).toNat → (j : Int) < zCE t (zTO t c).toNat f → zL σ b ((zst t (zTO t c).toNat f).toNat + j) = (zcr t c g r i (zca t c g r)).1 f j) ∧ (∀ q, (zst t (zTO t c).toNat (zNF t (zTO t c).toNat).toNat).toNat ≤ q → zL σ b q = lZ 0) ∧ zI σ 103 0 = iZ (zcn t c r + i) ∧ zI σ 103 1 = iZ (zcr t c g r i (zca t c g r)).2.1 ∧ zI σ 103 2 = iZ (zcr t c g r i (zca t c g r)).2.2.1 ∧ zI σ 103 3 = iZ (zcr t c g r i (zca t c g r)).2.2.2
theorem zcj_n {t : zBk} {c r b : Nat} {g : Nat → Nat → Int64} {σ : zSt} {i : Nat} (h : zcj t c g b r i σ) (hi : (i : Int) = zLR t c r) : zcj t c g b (r + 1) 0 σ := by
  have hi2 : (zLR t c r).toNat = i := by omega
  obtain ⟨i1, i2, i3, i4, i5, i6⟩ := h
  have ez : zcr t c g (r + 1) 0 (zca t c g (r + 1)) = zcr t c g r i (zca t c g r) := by
    show zca t c g (r + 1) = _
    show zcr t c g r (zLR t c r).toNat _ = _
    rw [hi2]
  rw [zcj, ez]
  refine ⟨i1, i2, ?_, i4, i5, i6⟩
  rw [i3]
  show iZ (zcn t c r + i) = iZ (zcn t c r + zLR t c r + 0)
  congr 1; omega
theorem zcj_step {t : zBk} {c r i b : Nat} {g : Nat → Nat → Int64} {σ σ2 : zSt} (hV : zVs t (zTO t c).toNat) (hI : zcj t c g b r i σ) (hrt : 0 ≤ zRT t c r ∧ zRT t c r < zNF t (zTO t c).toNat) (hi : (i : Int) < zCE t (zTO t c).toNat (zRT t c r).toNat)
    (hL : ∀ q, zL σ2 b q = if q = (zst t (zTO t c).toNat (zRT t c r).toNat).toNat + i then zcar (zmd t c r g i) (zMK t c r) (zTK t c r) else zL σ b q)
    (hA : zI σ2 103 0 = zI σ 103 0 + iZ 1 ∧ (zI σ2 103 1 = if zgi (zMK t c r) (zTK t c r) then zI σ 103 1 + iZ 1 else zI σ 103 1) ∧ (zI σ2 103 2 = if ¬ zgi (zMK t c r) (zTK t c r) ∧ zcar (zcar (zmd t c r g i) (zMK t c r) (zTK t c r)) (zTK t c r) (zMK t c r) = zmd t c r g i then zI σ 103 2 + iZ 1 else zI σ 103 2) ∧ (zI σ2 103 3 = if ¬ zgi (zMK t c r) (zTK t c r) ∧ ¬ zcar (zcar (zmd t c r g i) (zMK t c r) (zTK t c r)) (zTK t c r) (zMK t c r) = zmd t c r g i then zI σ 103 3 + iZ 1 else zI σ 103 3)) : zcj t c g b r (i + 1) σ2 := by
  obtain ⟨i1, i2, i3, i4, i5, i6⟩ := hI
  rw [zcj, zcr_s]
  have hb := zst_24 hV (f := (zRT t c r).toNat) (by omega)
  refine ⟨fun f j hf hj => ?_, fun q hq => ?_, ?_, ?_, ?_, ?_⟩
  · rw [hL]
    show _ = if f = (zRT t c r).toNat ∧ j = i then _ else _
    by_cases h : f = (zRT t c r).toNat ∧ j = i
    · obtain ⟨rfl, rfl⟩ := h
      rw [if_pos rfl, if_pos ⟨rfl, rfl⟩]
    · rw [if_neg h, if_neg ?_]
      · exact i1 f j hf hj
      · have ho := zst_24 hV hf
        rcases Nat.lt_trichotomy f (zRT t c r).toNat with q | q | q
        · have := zst_mono hV _ q (by omega); omega
        · subst q; omega
        · have := zst_mono hV _ q (by omega); omega
  · rw [hL, if_neg ?_]
    · exact i2 q hq
    · have := zst_mono hV (f := (zRT t c r).toNat) (zNF t (zTO t c).toNat).toNat (by omega) (by omega)
      omega
  · rw [hA.1, i3, iZ_add]; congr 1; omega
  · rw [hA.2.1, i4]
    show _ = iZ (if zgi _ _ then _ else _)
    split
    · rw [iZ_add]
    · rfl
  · rw [hA.2.2.1, i5]
    show _ = iZ (if _ then _ else _)
    split
    · rw [iZ_add]
    · rfl
  · rw [hA.2.2.2, i6]
    show _ = iZ (if _ then _ else _)
    split
    · rw [iZ_add]
    · rfl
theorem c_ruleAt {σ : zSt} {o : Nat} {n : Int} (hF : zFx σ) (hG : zIsG o) (hn : zI σ o 3 = iZ n) (hn6 : 0 ≤ n ∧ n ≤ 6) {z : Int} (hz : -2147483648 ≤ z ∧ z ≤ 2147483647) {Q : zSt → Option Value → Prop} (k1 : 0 ≤ z ∧ z < n → Q σ (some (.ref (o + 2 + z.toNat)))) (k0 : ¬ (0 ≤ z ∧ z < n) → Q σ (some .null)) : zCa 47 [.ref o, .int (iZ z)] σ Q := by
  refine w_enter (c := zk_X3_ruleAt) (ls2 := [(0, .ref o), (1, .int (iZ z))]) rfl ⟨rfl, rfl, trivial⟩ ?_
  refine w_iload_n (pc' := 1) ⟨rfl, rfl⟩ rfl ?_
  refine w_if_lt (pc' := 4) (pcT := 27) ⟨rfl, rfl⟩ rfl (by omega) (fun h1 => ?_) (fun h1 => ?_)
  · refine w_null (pc' := 28) ⟨rfl, rfl⟩ ?_
    refine w_areturnN (pc' := 29) ⟨rfl, rfl⟩ ?_
    first | exact k1 (by omega) | exact k0 (by omega)
  · refine w_iload_n (pc' := 5) ⟨rfl, rfl⟩ rfl ?_
    refine w_aload_n (pc' := 6) ⟨rfl, rfl⟩ rfl ?_
    refine w_getI (pc' := 9) (cl := 2) (q := 3) ⟨rfl, rfl⟩ ⟨rfl, by decide⟩ (hG.o hF) hn ?_
    refine w_ic_ge (pc' := 12) (pcT := 27) ⟨rfl, rfl⟩ rfl (by omega) (by omega) (fun h2 => ?_) (fun h2 => ?_)
    · refine w_null (pc' := 28) ⟨rfl, rfl⟩ ?_
      refine w_areturnN (pc' := 29) ⟨rfl, rfl⟩ ?_
      first | exact k1 (by omega) | exact k0 (by omega)
    · refine w_iload_n (pc' := 13) ⟨rfl, rfl⟩ rfl ?_
      refine w_bi (pc' := 15) ⟨rfl, rfl⟩ (by decide) ?_
      refine w_ic_ge (pc' := 18) (pcT := 27) ⟨rfl, rfl⟩ rfl (by omega) (by omega) (fun h3 => ?_) (fun h3 => ?_)
      · refine w_null (pc' := 28) ⟨rfl, rfl⟩ ?_
        refine w_areturnN (pc' := 29) ⟨rfl, rfl⟩ ?_
        first | exact k1 (by omega) | exact k0 (by omega)
      · refine w_aload_n (pc' := 19) ⟨rfl, rfl⟩ rfl ?_
        refine w_getR (pc' := 22) (cl := 2) (q := 0) ⟨rfl, rfl⟩ ⟨rfl, by decide⟩ (hG.o hF) (hG.p hF) ?_
        refine w_iload_n (pc' := 23) ⟨rfl, rfl⟩ rfl ?_
        refine w_aald (pc' := 24) ⟨rfl, rfl⟩ (hG.a hF) (by decide) (zixA (j := z.toNat) (by omega)) (hG.r hF (by omega)).1 ?_
        refine w_goto (pc' := 27) (pcT := 28) ⟨rfl, rfl⟩ rfl ?_
        refine w_areturn (pc' := 29) ⟨rfl, rfl⟩ ?_
        first | exact k1 (by omega) | exact k0 (by omega)
theorem l_cbr {σ : zSt} {ro o o2 a b c r : Nat} {t : zBk} (hF : zFx σ) (hVt : zVt t) (hc : (c : Int) < t 1) (hr : (r : Int) < zNU t c) (hRo : zO σ ro 5) (hR : zRu σ ro t c r) (hrn : ro ≠ b ∧ ro ≠ 103) (hO : zIsS o) (hS : zSh σ o t (zFO t c).toNat) (hO2 : zIsS o2) (hS2 : zSh σ o2 t (zTO t c).toNat) (hA : zIsV a) (hB : zIsV b) (hab : a ≠ b) {g : Nat → Nat → Int64} (hVa : zVa t (zFO t c).toNat g (zL σ a)) (hg : zgk t (zFO t c).toNat g) {Q : zSt → Option Value → Prop} : ∀ (n : Nat) (i : Nat) (σ1 : zSt), ((i : Int) + n = zLR t c r) → zFm [103, b] σ σ1 → zcj t c g b r i σ1 → (∀ σ2, zFm [103, b] σ σ2 → zcj t c g b (r + 1) 0 σ2 → Q σ2 none) → zP zk_X1_carryByRule 26 [(0, .ref 102), (1, .ref ro), (2, .ref o), (3, .ref o2), (4, .ref a), (5, .ref b), (6, .int (iZ (zTK t c r))), (7, .int (iZ i))] [] σ1 Q := by
  intro n
  induction n with
  | zero =>
    intro i σ1 hi hfm hI k
    have hVt2 := hVt
    have hmk := zMK_rng hVt hc hr
    have hvs := hVt.2.2.1
    have hcc := hVt.2.2.2 c hc
    have hto := hcc.2.1
    have hrt := (hcc.2.2.2.2.1 r hr).1
    clear hcc
    have hvt := (hvs (zTO t c).toNat (by omega)).1
    clear hvs
    have hnt := hvt.1
    obtain ⟨rt, hrt0⟩ : ∃ q : Nat, zRT t c r = q := ⟨(zRT t c r).toNat, by omega⟩
    have hrt1 : (zRT t c r).toNat = rt := by omega
    rw [hrt1] at hmk
    have hmk1 := hmk.1
    have hmk2 := hmk.2.1
    have hmk3 := hmk.2.2.1
    have hmk4 := hmk.2.2.2.1
    clear hmk
    have h24 := zst_24 (f := rt) hvt (by omega)
    have hb103 : b ≠ 103 := by unfold zIsV at hB; omega
    have ha103 : a ≠ 103 := by unfold zIsV at hA; omega
    have hw1 := hO.v hB
    have hw2 := hO2.v hB
    have hF1 := hfm.fx hF
    have hR1 : zRu σ1 ro t c r := hR.fr hfm (zni hrn.2 hrn.1)
    have hS1 : zSh σ1 o t (zFO t c).toNat := hS.fr hfm (zni hw1.2.2.2.2.2.1 hw1.1) (zni hw1.2.2.2.2.2.2.2.1 hw1.2.2.1) (zni hw1.2.2.2.2.2.2.2.2.1 hw1.2.2.2.1) (zni hw1.2.2.2.2.2.2.2.2.2 hw1.2.2.2.2.1)
    have hS21 : zSh σ1 o2 t (zTO t c).toNat := hS2.fr hfm (zni hw2.2.2.2.2.2.1 hw2.1) (zni hw2.2.2.2.2.2.2.2.1 hw2.2.2.1) (zni hw2.2.2.2.2.2.2.2.2.1 hw2.2.2.2.1) (zni hw2.2.2.2.2.2.2.2.2.2 hw2.2.2.2.2.1)
    have hVa1 : zVa t (zFO t c).toNat g (zL σ1 a) := by rw [show zL σ1 a = zL σ a by funext q; exact (hfm.2.2 a (zni ha103 hab)).2 q]; exact hVa
    have hRo1 : zO σ1 ro 5 := ⟨by rw [hfm.1]; exact hRo.1, hRo.2⟩
    clear hw1 hw2
    refine w_iload (pc' := 28) ⟨rfl, rfl⟩ rfl ?_
    refine w_aload_n (pc' := 29) ⟨rfl, rfl⟩ rfl ?_
    refine w_getI (pc' := 32) (cl := 5) (q := 5) ⟨rfl, rfl⟩ ⟨rfl, by decide⟩ hRo1 hR1.2.2.2.2.2.1 ?_
    refine w_icT_ge (pc' := 35) (pcT := 169) ⟨rfl, rfl⟩ rfl (by omega) ?_
    refine w_return (pc' := 170) ⟨rfl, rfl⟩ ?_
    exact k _ hfm (zcj_n hI (by omega))
  | succ n ih =>
    intro i σ1 hi hfm hI k
    have hVt2 := hVt
    have hmk := zMK_rng hVt hc hr
    have hvs := hVt.2.2.1
    have hcc := hVt.2.2.2 c hc
    have hto := hcc.2.1
    have hrt := (hcc.2.2.2.2.1 r hr).1
    clear hcc
    have hvt := (hvs (zTO t c).toNat (by omega)).1
    clear hvs
    have hnt := hvt.1
    obtain ⟨rt, hrt0⟩ : ∃ q : Nat, zRT t c r = q := ⟨(zRT t c r).toNat, by omega⟩
    have hrt1 : (zRT t c r).toNat = rt := by omega
    rw [hrt1] at hmk
    have hmk1 := hmk.1
    have hmk2 := hmk.2.1
    have hmk3 := hmk.2.2.1
    have hmk4 := hmk.2.2.2.1
    clear hmk
    have h24 := zst_24 (f := rt) hvt (by omega)
    have hb103 : b ≠ 103 := by unfold zIsV at hB; omega
    have ha103 : a ≠ 103 := by unfold zIsV at hA; omega
    have hw1 := hO.v hB
    have hw2 := hO2.v hB
    have hF1 := hfm.fx hF
    have hR1 : zRu σ1 ro t c r := hR.fr hfm (zni hrn.2 hrn.1)
    have hS1 : zSh σ1 o t (zFO t c).toNat := hS.fr hfm (zni hw1.2.2.2.2.2.1 hw1.1) (zni hw1.2.2.2.2.2.2.2.1 hw1.2.2.1) (zni hw1.2.2.2.2.2.2.2.2.1 hw1.2.2.2.1) (zni hw1.2.2.2.2.2.2.2.2.2 hw1.2.2.2.2.1)
    have hS21 : zSh σ1 o2 t (zTO t c).toNat := hS2.fr hfm (zni hw2.2.2.2.2.2.1 hw2.1) (zni hw2.2.2.2.2.2.2.2.1 hw2.2.2.1) (zni hw2.2.2.2.2.2.2.2.2.1 hw2.2.2.2.1) (zni hw2.2.2.2.2.2.2.2.2.2 hw2.2.2.2.2.1)
    have hVa1 : zVa t (zFO t c).toNat g (zL σ1 a) := by rw [show zL σ1 a = zL σ a by funext q; exact (hfm.2.2 a (zni ha103 hab)).2 q]; exact hVa
    have hRo1 : zO σ1 ro 5 := ⟨by rw [hfm.1]; exact hRo.1, hRo.2⟩
    clear hw1 hw2
    have hvok : zok (zMK t c r) (zmd t c r g i) := zmd_ok hVt2 hc hr hg (by omega)
    have hxok : zok (zTK t c r) (zcar (zmd t c r g i) (zMK t c r) (zTK t c r)) := zok_car hvok
    refine w_iload (pc' := 28) ⟨rfl, rfl⟩ rfl ?_
    refine w_aload_n (pc' := 29) ⟨rfl, rfl⟩ rfl ?_
    refine w_getI (pc' := 32) (cl := 5) (q := 5) ⟨rfl, rfl⟩ ⟨rfl, by decide⟩ hRo1 hR1.2.2.2.2.2.1 ?_
    refine w_icF_ge (pc' := 35) ⟨rfl, rfl⟩ (by omega) ?_
    refine w_aload_n (pc' := 36) ⟨rfl, rfl⟩ rfl ?_
    refine w_getR (pc' := 39) (cl := 6) (q := 3) ⟨rfl, rfl⟩ ⟨rfl, by decide⟩ (hO2.o hF1) (hO2.p hF1).2.2.2 ?_
    refine w_aload_n (pc' := 40) ⟨rfl, rfl⟩ rfl ?_
    refine w_getI (pc' := 43) (cl := 5) (q := 0) ⟨rfl, rfl⟩ ⟨rfl, by decide⟩ hRo1 (hR1.1.trans (by rw [hrt0])) ?_
    refine w_iald (pc' := 44) ⟨rfl, rfl⟩ (hO2.a hF1).2.2.2 (zixZ (by omega)) (hS21.2.2 rt (by omega)).2.2 ?_
    refine w_iload (pc' := 46) ⟨rfl, rfl⟩ rfl ?_
    refine w_iaddZ (pc' := 47) ⟨rfl, rfl⟩ ?_
    refine w_istore (pc' := 49) ⟨rfl, rfl⟩ rfl ?_
    refine w_iload (pc' := 51) ⟨rfl, rfl⟩ rfl ?_
    refine w_ifF_lt (pc' := 54) ⟨rfl, rfl⟩ (by omega) ?_
    refine w_iload (pc' := 56) ⟨rfl, rfl⟩ rfl ?_
    refine w_aload (pc' := 58) ⟨rfl, rfl⟩ rfl ?_
    refine w_alenZ (pc' := 59) ⟨rfl, rfl⟩ (hB.a hF1) (by decide) ?_
    refine w_icF_ge (pc' := 62) ⟨rfl, rfl⟩ (by omega) ?_
    refine w_aload_n (pc' := 63) ⟨rfl, rfl⟩ rfl ?_
    refine w_aload_n (pc' := 64) ⟨rfl, rfl⟩ rfl ?_
    refine w_aload (pc' := 66) ⟨rfl, rfl⟩ rfl ?_
    refine w_iload (pc' := 68) ⟨rfl, rfl⟩ rfl ?_
    refine w_cs4 (pc' := 71) ⟨rfl, rfl⟩ (by decide) (Nat.le_of_ble_eq_true rfl) (Nat.le_of_ble_eq_true rfl) (c_valueMade (σ := σ1) hF1 hVt2 hc hr hRo1 hR1 hO hS1 (hA.a hF1) hVa1 hg (by omega) ?_)
    refine w_lstore (pc' := 73) ⟨rfl, rfl⟩ rfl rfl ?_
    refine w_aload_n (pc' := 74) ⟨rfl, rfl⟩ rfl ?_
    refine w_getI (pc' := 77) (cl := 5) (q := 4) ⟨rfl, rfl⟩ ⟨rfl, by decide⟩ hRo1 hR1.2.2.2.2.1 ?_
    refine w_lload (pc' := 79) ⟨rfl, rfl⟩ rfl ?_
    refine w_iload (pc' := 81) ⟨rfl, rfl⟩ rfl ?_
    refine w_cs3 (pc' := 84) ⟨rfl, rfl⟩ (by decide) (Nat.le_of_ble_eq_true rfl) (Nat.le_of_ble_eq_true rfl) (c_changed hmk1 hmk2 hvok ?_)
    refine w_lstore (pc' := 86) ⟨rfl, rfl⟩ rfl rfl ?_
    refine w_aload (pc' := 88) ⟨rfl, rfl⟩ rfl ?_
    refine w_iload (pc' := 90) ⟨rfl, rfl⟩ rfl ?_
    refine w_lload (pc' := 92) ⟨rfl, rfl⟩ rfl ?_
    refine w_last (pc' := 93) ⟨rfl, rfl⟩ (hB.a hF1) (zixA (j := (zst t (zTO t c).toNat rt).toNat + i) (by omega)) ?_
    refine w_aload_n (pc' := 94) ⟨rfl, rfl⟩ rfl ?_
    refine w_getR (pc' := 97) (cl := 1) (q := 0) ⟨rfl, rfl⟩ ⟨rfl, by decide⟩ (zOl hF1 rfl) (hF1.2 102 0 103 rfl) ?_
    refine w_ic (pc' := 98) ⟨rfl, rfl⟩ ?_
    refine w_dup2 (pc' := 99) ⟨rfl, rfl⟩ ?_
    refine w_iald (pc' := 100) ⟨rfl, rfl⟩ (zAl hF1 rfl) (zixA (j := 0) (by omega)) rfl ?_
    refine w_ic (pc' := 101) ⟨rfl, rfl⟩ ?_
    refine w_iadd (pc' := 102) ⟨rfl, rfl⟩ ?_
    refine w_iast (pc' := 103) ⟨rfl, rfl⟩ (zAl hF1 rfl) (zixA (j := 0) (by omega)) ?_
    refine w_aload_n (pc' := 104) ⟨rfl, rfl⟩ rfl ?_
    refine w_getZ (pc' := 107) (cl := 5) (q := 7) ⟨rfl, rfl⟩ ⟨rfl, by decide⟩ hRo1 ((zI_wI_n (Or.inl hrn.2)).trans hR1.2.2.2.2.2.2.2) ?_
    refine w_if_eq (pc' := 110) (pcT := 123) ⟨rfl, rfl⟩ rfl (by split <;> omega) (fun hfit => ?_) (fun hfit => ?_)
    · refine w_iload (pc' := 125) ⟨rfl, rfl⟩ rfl ?_
      refine w_lload (pc' := 127) ⟨rfl, rfl⟩ rfl ?_
      refine w_aload_n (pc' := 128) ⟨rfl, rfl⟩ rfl ?_
      refine w_getI (pc' := 131) (cl := 5) (q := 4) ⟨rfl, rfl⟩ ⟨rfl, by decide⟩ hRo1 ((zI_wI_n (Or.inl hrn.2)).trans hR1.2.2.2.2.1) ?_
      refine w_cs3 (pc' := 134) ⟨rfl, rfl⟩ (by decide) (Nat.le_of_ble_eq_true rfl) (Nat.le_of_ble_eq_true rfl) (c_changed hmk2 hmk1 hxok ?_)
      refine w_lload (pc' := 136) ⟨rfl, rfl⟩ rfl ?_
      refine w_lcmp (pc' := 137) ⟨rfl, rfl⟩ ?_
      refine w_ifc_ne (pc' := 140) (pcT := 153) ⟨rfl, rfl⟩ rfl (fun hkep => ?_) (fun hkep => ?_)
      · refine w_aload_n (pc' := 154) ⟨rfl, rfl⟩ rfl ?_
        refine w_getR (pc' := 157) (cl := 1) (q := 0) ⟨rfl, rfl⟩ ⟨rfl, by decide⟩ (zOl hF1 rfl) (hF1.2 102 0 103 rfl) ?_
        refine w_ic (pc' := 158) ⟨rfl, rfl⟩ ?_
        refine w_dup2 (pc' := 159) ⟨rfl, rfl⟩ ?_
        refine w_iald (pc' := 160) ⟨rfl, rfl⟩ (zAl hF1 rfl) (zixA (j := 3) (by omega)) rfl ?_
        refine w_ic (pc' := 161) ⟨rfl, rfl⟩ ?_
        refine w_iadd (pc' := 162) ⟨rfl, rfl⟩ ?_
        refine w_iast (pc' := 163) ⟨rfl, rfl⟩ (zAl hF1 rfl) (zixA (j := 3) (by omega)) ?_
        refine w_iincZ (pc' := 166) ⟨rfl, rfl⟩ rfl rfl ?_
        refine w_goto (pc' := 169) (pcT := 26) ⟨rfl, rfl⟩ rfl ?_
        have h : ¬ zgi (zMK t c r) (zTK t c r) := fun q => by rw [if_pos q] at hfit; omega
        refine w_at ?_ (ih (i + 1) _ (by omega) (((hfm.trans (zFm.wL (by simp))).trans (zFm.wI (by simp))).trans (zFm.wI (by simp))) (zcj_step hvt hI hrt (by rw [hrt1]; omega) (fun q => ?_) ?_) k)
        · exact ⟨rfl, rfl, rfl, rfl, rfl, rfl, rfl, rfl, trivial⟩
        · rw [hrt1]; exact (zL_wL).trans (by simp only [true_and])
        · refine ⟨?_, ?_, ?_, ?_⟩
          · exact (zI_wI_n (Or.inr (by decide))).trans zI_wI_s
          · rw [if_neg h]; exact (zI_wI_n (Or.inr (by decide))).trans (zI_wI_n (Or.inr (by decide)))
          · rw [if_neg (fun q => hkep q.2)]; exact (zI_wI_n (Or.inr (by decide))).trans (zI_wI_n (Or.inr (by decide)))
          · rw [if_pos ⟨h, hkep⟩]; exact zI_wI_s
      · refine w_aload_n (pc' := 141) ⟨rfl, rfl⟩ rfl ?_
        refine w_getR (pc' := 144) (cl := 1) (q := 0) ⟨rfl, rfl⟩ ⟨rfl, by decide⟩ (zOl hF1 rfl) (hF1.2 102 0 103 rfl) ?_
        refine w_ic (pc' := 145) ⟨rfl, rfl⟩ ?_
        refine w_dup2 (pc' := 146) ⟨rfl, rfl⟩ ?_
        refine w_iald (pc' := 147) ⟨rfl, rfl⟩ (zAl hF1 rfl) (zixA (j := 2) (by omega)) rfl ?_
        refine w_ic (pc' := 148) ⟨rfl, rfl⟩ ?_
        refine w_iadd (pc' := 149) ⟨rfl, rfl⟩ ?_
        refine w_iast (pc' := 150) ⟨rfl, rfl⟩ (zAl hF1 rfl) (zixA (j := 2) (by omega)) ?_
        refine w_goto (pc' := 153) (pcT := 163) ⟨rfl, rfl⟩ rfl ?_
        refine w_iincZ (pc' := 166) ⟨rfl, rfl⟩ rfl rfl ?_
        refine w_goto (pc' := 169) (pcT := 26) ⟨rfl, rfl⟩ rfl ?_
        have h : ¬ zgi (zMK t c r) (zTK t c r) := fun q => by rw [if_pos q] at hfit; omega
        refine w_at ?_ (ih (i + 1) _ (by omega) (((hfm.trans (zFm.wL (by simp))).trans (zFm.wI (by simp))).trans (zFm.wI (by simp))) (zcj_step hvt hI hrt (by rw [hrt1]; omega) (fun q => ?_) ?_) k)
        · exact ⟨rfl, rfl, rfl, rfl, rfl, rfl, rfl, rfl, trivial⟩
        · rw [hrt1]; exact (zL_wL).trans (by simp only [true_and])
        · refine ⟨?_, ?_, ?_, ?_⟩
          · exact (zI_wI_n (Or.inr (by decide))).trans zI_wI_s
          · rw [if_neg h]; exact (zI_wI_n (Or.inr (by decide))).trans (zI_wI_n (Or.inr (by decide)))
          · rw [if_pos ⟨h, hkep⟩]; exact zI_wI_s
          · rw [if_neg (fun q => q.2 hkep)]; exact (zI_wI_n (Or.inr (by decide))).trans (zI_wI_n (Or.inr (by decide)))
    · refine w_aload_n (pc' := 111) ⟨rfl, rfl⟩ rfl ?_
      refine w_getR (pc' := 114) (cl := 1) (q := 0) ⟨rfl, rfl⟩ ⟨rfl, by decide⟩ (zOl hF1 rfl) (hF1.2 102 0 103 rfl) ?_
      refine w_ic (pc' := 115) ⟨rfl, rfl⟩ ?_
      refine w_dup2 (pc' := 116) ⟨rfl, rfl⟩ ?_
      refine w_iald (pc' := 117) ⟨rfl, rfl⟩ (zAl hF1 rfl) (zixA (j := 1) (by omega)) rfl ?_
      refine w_ic (pc' := 118) ⟨rfl, rfl⟩ ?_
      refine w_iadd (pc' := 119) ⟨rfl, rfl⟩ ?_
      refine w_iast (pc' := 120) ⟨rfl, rfl⟩ (zAl hF1 rfl) (zixA (j := 1) (by omega)) ?_
      refine w_goto (pc' := 123) (pcT := 163) ⟨rfl, rfl⟩ rfl ?_
      refine w_iincZ (pc' := 166) ⟨rfl, rfl⟩ rfl rfl ?_
      refine w_goto (pc' := 169) (pcT := 26) ⟨rfl, rfl⟩ rfl ?_
      have h : zgi (zMK t c r) (zTK t c r) := Classical.byContradiction (fun q => by rw [if_neg q] at hfit; exact absurd rfl hfit)
      refine w_at ?_ (ih (i + 1) _ (by omega) (((hfm.trans (zFm.wL (by simp))).trans (zFm.wI (by simp))).trans (zFm.wI (by simp))) (zcj_step hvt hI hrt (by rw [hrt1]; omega) (fun q => ?_) ?_) k)
      · exact ⟨rfl, rfl, rfl, rfl, rfl, rfl, rfl, rfl, trivial⟩
      · rw [hrt1]; exact (zL_wL).trans (by simp only [true_and])
      · refine ⟨?_, ?_, ?_, ?_⟩
        · exact (zI_wI_n (Or.inr (by decide))).trans zI_wI_s
        · rw [if_pos h]; exact zI_wI_s
        · rw [if_neg (fun q => q.1 h)]; exact (zI_wI_n (Or.inr (by decide))).trans (zI_wI_n (Or.inr (by decide)))
        · rw [if_neg (fun q => q.1 h)]; exact (zI_wI_n (Or.inr (by decide))).trans (zI_wI_n (Or.inr (by decide)))
theorem c_carryByRule {σ : zSt} {ro o o2 a b c r : Nat} {t : zBk} (hF : zFx σ) (hVt : zVt t) (hc : (c : Int) < t 1) (hr : (r : Int) < zNU t c) (hRo : zO σ ro 5) (hR : zRu σ ro t c r) (hrn : ro ≠ b ∧ ro ≠ 103) (hO : zIsS o) (hS : zSh σ o t (zFO t c).toNat) (hO2 : zIsS o2) (hS2 : zSh σ o2 t (zTO t c).toNat) (hA : zIsV a) (hB : zIsV b) (hab : a ≠ b) {g : Nat → Nat → Int64} (hVa : zVa t (zFO t c).toNat g (zL σ a)) (hg : zgk t (zFO t c).toNat g) (hI : zcj t c g b r 0 σ) {Q : zSt → Option Value → Prop} (k : ∀ σ2, zFm [103, b] σ σ2 → zcj t c g b (r + 1) 0 σ2 → Q σ2 none) : zCa 28 [.ref 102, .ref ro, .ref o, .ref o2, .ref a, .ref b] σ Q := by
  refine w_enter (c := zk_X1_carryByRule) (ls2 := [(0, .ref 102), (1, .ref ro), (2, .ref o), (3, .ref o2), (4, .ref a), (5, .ref b)]) rfl ⟨rfl, rfl, rfl, rfl, rfl, rfl, trivial⟩ ?_
  have hVt2 := hVt
  have hmk := zMK_rng hVt hc hr
  have hvs := hVt.2.2.1
  have hcc := hVt.2.2.2 c hc
  have hto := hcc.2.1
  have hrt := (hcc.2.2.2.2.1 r hr).1
  clear hcc
  have hvt := (hvs (zTO t c).toNat (by omega)).1
  clear hvs
  have hnt := hvt.1
  obtain ⟨rt, hrt0⟩ : ∃ q : Nat, zRT t c r = q := ⟨(zRT t c r).toNat, by omega⟩
  have hrt1 : (zRT t c r).toNat = rt := by omega
  rw [hrt1] at hmk
  have hmk1 := hmk.1
  have hmk2 := hmk.2.1
  have hmk3 := hmk.2.2.1
  have hmk4 := hmk.2.2.2.1
  clear hmk
  have h24 := zst_24 (f := rt) hvt (by omega)
  have hb103 : b ≠ 103 := by unfold zIsV at hB; omega
  have ha103 : a ≠ 103 := by unfold zIsV at hA; omega
  have hw1 := hO.v hB
  have hw2 := hO2.v hB
  have hkt := hvt.2 rt (by omega)
  refine w_aload_n (pc' := 1) ⟨rfl, rfl⟩ rfl ?_
  refine w_aload_n (pc' := 2) ⟨rfl, rfl⟩ rfl ?_
  refine w_getI (pc' := 5) (cl := 5) (q := 0) ⟨rfl, rfl⟩ ⟨rfl, by decide⟩ hRo (hR.1.trans (by rw [hrt0])) ?_
  refine w_cv2 (pc' := 8) ⟨rfl, rfl⟩ (by decide) (hO2.o hF) (Nat.le_of_ble_eq_true rfl) (Nat.le_of_ble_eq_true rfl) (c_hasField hF hO2 hS2 hvt (by omega) (fun h => ?_) (fun h => ?_))
  · refine w_ifT_ne (pc' := 11) (pcT := 12) ⟨rfl, rfl⟩ rfl (by decide) ?_
    refine w_aload_n (pc' := 13) ⟨rfl, rfl⟩ rfl ?_
    refine w_getR (pc' := 16) (cl := 6) (q := 1) ⟨rfl, rfl⟩ ⟨rfl, by decide⟩ (hO2.o hF) (hO2.p hF).2.1 ?_
    refine w_aload_n (pc' := 17) ⟨rfl, rfl⟩ rfl ?_
    refine w_getI (pc' := 20) (cl := 5) (q := 0) ⟨rfl, rfl⟩ ⟨rfl, by decide⟩ hRo (hR.1.trans (by rw [hrt0])) ?_
    refine w_iald (pc' := 21) ⟨rfl, rfl⟩ (hO2.a hF).2.1 (zixZ (by omega)) ((hS2.2.2 rt (by omega)).1.trans (show iZ (zKD t (zTO t c).toNat rt) = iZ (zTK t c r) by unfold zTK; rw [hrt1])) ?_
    refine w_istore (pc' := 23) ⟨rfl, rfl⟩ rfl ?_
    refine w_ic (pc' := 24) ⟨rfl, rfl⟩ ?_
    refine w_istore (pc' := 26) ⟨rfl, rfl⟩ rfl ?_
    refine w_at (ls2 := [(0, .ref 102), (1, .ref ro), (2, .ref o), (3, .ref o2), (4, .ref a), (5, .ref b), (6, .int (iZ (zTK t c r))), (7, .int (iZ ((0 : Nat) : Int)))]) ⟨rfl, rfl, rfl, rfl, rfl, rfl, rfl, rfl, trivial⟩ (l_cbr hF hVt2 hc hr hRo hR hrn hO hS hO2 hS2 hA hB hab hVa hg (zLR t c r).toNat 0 σ (by omega) zFm.refl hI k)
  · exfalso; omega
