/-! THE CLASS HAS CARRIED -/
def zfii (n : Nat) (v : Int32) (m : Nat → Int32) : Nat → Int32 := fun i => if i < n then v else m i
theorem zfii_s {n : Nat} {v : Int32} {m : Nat → Int32} : va_up (zfii n v m) n v = zfii (n + 1) v m := by
  funext i
  unfold va_up zfii
  by_cases h : i = n
  · rw [if_pos h, if_pos (by omega)]
  · rw [if_neg h]
    by_cases h2 : i < n
    · rw [if_pos h2, if_pos (by omega)]
    · rw [if_neg h2, if_neg (by omega)]
theorem zfii_0 {v : Int32} {m : Nat → Int32} : zfii 0 v m = m := by
  funext i; unfold zfii; rw [if_neg (by omega)]
theorem zA_rI {σ : zSt} {o a k n : Nat} {f : Nat → Int32} (h : zA σ a k n) : zA (zrI σ o f) a k n := h
theorem zPg.fr {w : List Nat} {σ σ' : zSt} {o c : Nat} {t : zBk} (h : zPg σ o t c) (hn : zNU t c ≤ 6) (f : zFm w σ σ') (h0 : ∀ k, k ≤ 7 → o + k ∉ w) : zPg σ' o t c := by
  have e := (f.2.2 o (h0 0 (by omega))).1
  exact ⟨(e 1).trans h.1, (e 2).trans h.2.1, (e 3).trans h.2.2.1, fun r hr => (h.2.2.2 r hr).fr f (by rw [show o + 2 + r = o + (2 + r) by omega]; exact h0 (2 + r) (by omega))⟩
theorem zFm.rI2 {w : List Nat} {σ : zSt} {o : Nat} {f : Nat → Int32} (h : o ∈ w) : zFm w σ (zrI σ o f) := zFm.rI h
theorem l_fili {σ : zSt} {a N : Nat} {v : Int32} (hA : zA σ a 12 N) (hN : N ≤ 1000000) {Q : zSt → Option Value → Prop} : ∀ (j : Nat) (i : Nat), i + j = N → (Q (zrI σ a (zfii N v (zI σ a))) none) → zP zk_J7_fill_53178 5 [(0, .ref a), (1, .int v), (2, .int (iZ i)), (3, .int (iZ N))] [] (zrI σ a (zfii i v (zI σ a))) Q := by
  intro j
  induction j with
  | zero =>
    intro i hi k
    obtain rfl : i = N := by omega
    refine w_iload_n (pc' := 6) ⟨rfl, rfl⟩ rfl ?_
    refine w_iload_n (pc' := 7) ⟨rfl, rfl⟩ rfl ?_
    refine w_icT_ge (pc' := 10) (pcT := 20) ⟨rfl, rfl⟩ rfl (by omega) ?_
    refine w_return (pc' := 21) ⟨rfl, rfl⟩ ?_
    exact k
  | succ j ih =>
    intro i hi k
    refine w_iload_n (pc' := 6) ⟨rfl, rfl⟩ rfl ?_
    refine w_iload_n (pc' := 7) ⟨rfl, rfl⟩ rfl ?_
    refine w_icF_ge (pc' := 10) ⟨rfl, rfl⟩ (by omega) ?_
    refine w_aload_n (pc' := 11) ⟨rfl, rfl⟩ rfl ?_
    refine w_iload_n (pc' := 12) ⟨rfl, rfl⟩ rfl ?_
    refine w_iload_n (pc' := 13) ⟨rfl, rfl⟩ rfl ?_
    refine w_iast (pc' := 14) ⟨rfl, rfl⟩ (zA_rI hA) (zixZ (by omega)) ?_
    refine w_iincZ (pc' := 17) ⟨rfl, rfl⟩ rfl rfl ?_
    refine w_goto (pc' := 20) (pcT := 5) ⟨rfl, rfl⟩ rfl ?_
    refine w_sto zwI_rI ?_
    rw [zfii_s]
    refine w_at ?_ (ih (i + 1) (by omega) k)
    exact ⟨rfl, rfl, rfl, rfl, trivial⟩
theorem j_fili {σ : zSt} {a N : Nat} {v : Int32} (hA : zA σ a 12 N) (hN : N ≤ 1000000) {Q : zSt → Option Value → Prop} (k : Q (zrI σ a (zfii N v (zI σ a))) none) : zCa 318 [.ref a, .int v] σ Q := by
  refine w_enter (c := zk_J7_fill_53178) (ls2 := [(0, .ref a), (1, .int v)]) rfl ⟨rfl, rfl, trivial⟩ ?_
  refine w_ic (pc' := 1) ⟨rfl, rfl⟩ ?_
  refine w_istore_n (pc' := 2) ⟨rfl, rfl⟩ rfl ?_
  refine w_aload_n (pc' := 3) ⟨rfl, rfl⟩ rfl ?_
  refine w_alenZ (pc' := 4) ⟨rfl, rfl⟩ hA (by decide) ?_
  refine w_istore_n (pc' := 5) ⟨rfl, rfl⟩ rfl ?_
  have h0 : σ = zrI σ a (zfii 0 v (zI σ a)) := by rw [zfii_0, zrI_self]
  refine w_sto h0 ?_
  refine w_at ?_ (l_fili hA hN N 0 (by omega) k)
  exact ⟨rfl, rfl, rfl, rfl, trivial⟩
theorem l_ccy {σ : zSt} {o of ot a b c : Nat} {t : zBk} (hF : zFx σ) (hVt : zVt t) (hc : (c : Int) < t 1) (hG : zIsG o) (hSf : zIsS of) (hSt : zIsS ot) (hA : zIsV a) (hB : zIsV b) (hab : a ≠ b) {g : Nat → Nat → Int64} (hg : zgk t (zFO t c).toNat g) (hnu : 1 ≤ zNU t c ∧ zNU t c ≤ 6) (hVs1 : ∀ σ1, zFm [103, b] σ σ1 → zSh σ1 of t (zFO t c).toNat) (hVs2 : ∀ σ1, zFm [103, b] σ σ1 → zSh σ1 ot t (zTO t c).toNat) (hVg1 : ∀ σ1, zFm [103, b] σ σ1 → zPg σ1 o t c) (hVa1 : ∀ σ1, zFm [103, b] σ σ1 → zVa t (zFO t c).toNat g (zL σ1 a)) {Q : zSt → Option Value → Prop} : ∀ (n : Nat) (r : Nat) (σ1 : zSt), ((r : Int) + n = zNU t c) → zFm [103, b] σ σ1 → zcj t c g b r 0 σ1 → (∀ σ2, zFm [103, b] σ σ2 → zcj t c g b (zNU t c).toNat 0 σ2 → zP zk_X1_carry 102 [(0, .ref 102), (5, .ref of), (6, .ref ot), (7, .int (iZ (zbn (zrA t c (zNU t c).toNat) 24 : Nat)))] [] σ2 Q) → zP zk_X1_carry 51 [(0, .ref 102), (2, .ref o), (3, .ref a), (4, .ref b), (5, .ref of), (6, .ref ot), (7, .int (iZ (zbn (zrA t c r) 24 : Nat))), (8, .int (iZ r))] [] σ1 Q := by
  intro n
  induction n with
  | zero =>
    intro r σ1 hi hfm hI k
    have hF1 := hfm.fx hF
    obtain rfl : r = (zNU t c).toNat := by omega
    refine w_iload (pc' := 53) ⟨rfl, rfl⟩ rfl ?_
    refine w_aload_n (pc' := 54) ⟨rfl, rfl⟩ rfl ?_
    refine w_getI (pc' := 57) (cl := 2) (q := 3) ⟨rfl, rfl⟩ ⟨rfl, by decide⟩ (hG.o hF1) (hVg1 _ hfm).2.2.1 ?_
    refine w_icT_ge (pc' := 60) (pcT := 102) ⟨rfl, rfl⟩ rfl (by omega) ?_
    refine w_at ?_ (k _ hfm hI)
    exact ⟨rfl, rfl, rfl, rfl, trivial⟩
  | succ n ih =>
    intro r σ1 hi hfm hI k
    have hF1 := hfm.fx hF
    have hr : (r : Int) < zNU t c := by omega
    have hR := (hVg1 _ hfm).2.2.2 r hr
    have hro := (hG.r hF1 (show r < 6 by omega)).2
    have hgv := zIsG.v (k := 2 + r) hG hB (by omega)
    rw [show o + (2 + r) = o + 2 + r by omega] at hgv
    refine w_iload (pc' := 53) ⟨rfl, rfl⟩ rfl ?_
    refine w_aload_n (pc' := 54) ⟨rfl, rfl⟩ rfl ?_
    refine w_getI (pc' := 57) (cl := 2) (q := 3) ⟨rfl, rfl⟩ ⟨rfl, by decide⟩ (hG.o hF1) (hVg1 _ hfm).2.2.1 ?_
    refine w_icF_ge (pc' := 60) ⟨rfl, rfl⟩ (by omega) ?_
    refine w_aload_n (pc' := 61) ⟨rfl, rfl⟩ rfl ?_
    refine w_iload (pc' := 63) ⟨rfl, rfl⟩ rfl ?_
    refine w_cv2 (pc' := 66) ⟨rfl, rfl⟩ (by decide) (hG.o hF1) (Nat.le_of_ble_eq_true rfl) (Nat.le_of_ble_eq_true rfl) (c_ruleAt hF1 hG (hVg1 _ hfm).2.2.1 (by omega) (by omega) (fun h => ?_) (fun h => ?_))
    · rw [show (r : Int).toNat = r from rfl]
      refine w_astore (pc' := 68) ⟨rfl, rfl⟩ rfl ?_
      refine w_aload (pc' := 70) ⟨rfl, rfl⟩ rfl ?_
      refine w_ifnullR (pc' := 73) (pcT := 96) ⟨rfl, rfl⟩ rfl  ?_
      refine w_aload_n (pc' := 74) ⟨rfl, rfl⟩ rfl ?_
      refine w_aload (pc' := 76) ⟨rfl, rfl⟩ rfl ?_
      refine w_aload (pc' := 78) ⟨rfl, rfl⟩ rfl ?_
      refine w_aload (pc' := 80) ⟨rfl, rfl⟩ rfl ?_
      refine w_aload_n (pc' := 81) ⟨rfl, rfl⟩ rfl ?_
      refine w_aload (pc' := 83) ⟨rfl, rfl⟩ rfl ?_
      refine w_cv6 (pc' := 86) ⟨rfl, rfl⟩ (by decide) (zOl hF1 rfl) (Nat.le_of_ble_eq_true rfl) (Nat.le_of_ble_eq_true rfl) (c_carryByRule hF1 hVt hc hr hro hR hgv hSf (hVs1 _ hfm) hSt (hVs2 _ hfm) hA hB hab (hVa1 _ hfm) hg hI (fun σ2 hfm2 hI2 => ?_))
      have hfm3 := hfm.trans hfm2
      have hF2 := hfm3.fx hF
      have hR2 := (hVg1 _ hfm3).2.2.2 r hr
      have hro2 := (hG.r hF2 (show r < 6 by omega)).2
      refine w_iload (pc' := 88) ⟨rfl, rfl⟩ rfl ?_
      refine w_aload (pc' := 90) ⟨rfl, rfl⟩ rfl ?_
      refine w_getI (pc' := 93) (cl := 5) (q := 6) ⟨rfl, rfl⟩ ⟨rfl, by decide⟩ hro2 hR2.2.2.2.2.2.2.1 ?_
      refine w_ior (pc' := 94) ⟨rfl, rfl⟩ ?_
      refine w_topI (zrA_or t c r) ?_
      refine w_istore (pc' := 96) ⟨rfl, rfl⟩ rfl ?_
      refine w_iincZ (pc' := 99) ⟨rfl, rfl⟩ rfl rfl ?_
      refine w_goto (pc' := 102) (pcT := 51) ⟨rfl, rfl⟩ rfl ?_
      refine w_at ?_ (ih (r + 1) _ (by omega) hfm3 hI2 k)
      exact ⟨rfl, rfl, rfl, rfl, rfl, rfl, rfl, rfl, trivial⟩
    · exfalso; omega
/-- what the class has carried: its target b, the account -/
def zcd (t : zBk) (c : Nat) (g : Nat → Nat → Int64) (b : Nat) (σ : zSt) : Prop := zVa t (zTO t c).toNat (zCA t c g).1 (zL σ b) ∧ ∀ k, k < 6 → zI σ 103 k = iZ (zac t c g k)
theorem c_carry {σ : zSt} {p a b c : Nat} {t : zBk} (hF : zFx σ) (hVt : zVt t) (hc : (c : Int) < t 1) (hP : zIsB p) (hPl : zPl σ p t) (hA : zIsV a) (hB : zIsV b) (hab : a ≠ b) {g : Nat → Nat → Int64} (hVa : zVa t (zFO t c).toNat g (zL σ a)) (hg : zgk t (zFO t c).toNat g) (hbz : ∀ q, 24 ≤ q → zL σ b q = lZ 0) {Q : zSt → Option Value → Prop} (k : ∀ σ1, zFm [103, b] σ σ1 → zcd t c g b σ1 → Q σ1 none) : zCa 27 [.ref 102, .ref p, .ref (p + 18 + 8 * c), .ref a, .ref b] σ Q := by
  refine w_enter (c := zk_X1_carry) (ls2 := [(0, .ref 102), (1, .ref p), (2, .ref (p + 18 + 8 * c)), (3, .ref a), (4, .ref b)]) rfl ⟨rfl, rfl, rfl, rfl, rfl, trivial⟩ ?_
  have hVt2 := hVt
  have ht0 := hVt.1
  have ht1 := hVt.2.1
  have hcc := hVt.2.2.2 c hc
  have hfo := hcc.1
  have hto := hcc.2.1
  have hnu := hcc.2.2.2.1
  clear hcc
  have hvf := (hVt.2.2.1 (zFO t c).toNat (by omega)).1
  have hvt := (hVt.2.2.1 (zTO t c).toNat (by omega)).1
  have hb103 : b ≠ 103 := by unfold zIsV at hB; omega
  have ha103 : a ≠ 103 := by unfold zIsV at hA; omega
  have hpb : p ≠ b ∧ p ≠ 103 := by unfold zIsB at hP; unfold zIsV at hB; omega
  have hG := (hP.g hF (show c < 4 by omega)).2
  have hSf := (hP.s hF (show (zFO t c).toNat < 3 by omega)).2
  have hSt := (hP.s hF (show (zTO t c).toNat < 3 by omega)).2
  have hPg := hPl.2.2.2 c hc
  have hShf := hPl.2.2.1 (zFO t c).toNat (by omega)
  have hSht := hPl.2.2.1 (zTO t c).toNat (by omega)
  generalize ho : p + 18 + 8 * c = o at hG hPg
  generalize hof : p + 3 + 5 * (zFO t c).toNat = of at hSf hShf
  generalize hot : p + 3 + 5 * (zTO t c).toNat = ot at hSt hSht
  have wf := hSf.v hB
  have wt := hSt.v hB
  have og := fun k hk => zIsG.v (k := k) hG hB hk
  have hVs1 : ∀ σ1, zFm [103, b] σ σ1 → zSh σ1 of t (zFO t c).toNat := fun σ1 hfm => hShf.fr hfm (zni wf.2.2.2.2.2.1 wf.1) (zni wf.2.2.2.2.2.2.2.1 wf.2.2.1) (zni wf.2.2.2.2.2.2.2.2.1 wf.2.2.2.1) (zni wf.2.2.2.2.2.2.2.2.2 wf.2.2.2.2.1)
  have hVs2 : ∀ σ1, zFm [103, b] σ σ1 → zSh σ1 ot t (zTO t c).toNat := fun σ1 hfm => hSht.fr hfm (zni wt.2.2.2.2.2.1 wt.1) (zni wt.2.2.2.2.2.2.2.1 wt.2.2.1) (zni wt.2.2.2.2.2.2.2.2.1 wt.2.2.2.1) (zni wt.2.2.2.2.2.2.2.2.2 wt.2.2.2.2.1)
  have hVg1 : ∀ σ1, zFm [103, b] σ σ1 → zPg σ1 o t c := fun σ1 hfm => hPg.fr hnu.2 hfm (fun k hk => zni (og k hk).2 (og k hk).1)
  have hVa1 : ∀ σ1, zFm [103, b] σ σ1 → zVa t (zFO t c).toNat g (zL σ1 a) := fun σ1 hfm => by rw [show zL σ1 a = zL σ a by funext q; exact (hfm.2.2 a (zni ha103 hab)).2 q]; exact hVa
  clear wf wt og
  have hmem1 : 103 ∈ [103, b] := by simp
  have hmem2 : b ∈ [103, b] := by simp
  refine w_aload_n (pc' := 1) ⟨rfl, rfl⟩ rfl ?_
  refine w_getR (pc' := 4) (cl := 1) (q := 0) ⟨rfl, rfl⟩ ⟨rfl, by decide⟩ (zOl hF rfl) (hF.2 102 0 103 rfl) ?_
  refine w_ic (pc' := 5) ⟨rfl, rfl⟩ ?_
  refine w_cs2 (pc' := 8) ⟨rfl, rfl⟩ (by decide) (Nat.le_of_ble_eq_true rfl) (Nat.le_of_ble_eq_true rfl) (j_fili (zAl hF rfl) (by omega) ?_)
  refine w_aload (pc' := 10) ⟨rfl, rfl⟩ rfl ?_
  refine w_lc (pc' := 11) (z := 0) ⟨rfl, rfl⟩ rfl ?_
  refine w_cs2 (pc' := 14) ⟨rfl, rfl⟩ (by decide) (Nat.le_of_ble_eq_true rfl) (Nat.le_of_ble_eq_true rfl) (j_fill (σ := (zrI σ 103 (zfii 6 (iZ 0) (zI σ 103)))) (hB.a hF) (by omega) ?_)
  have hfm : zFm [103, b] σ (zrL (zrI σ 103 (zfii 6 (iZ 0) (zI σ 103))) b (zfil 24 (lZ 0) (zL (zrI σ 103 (zfii 6 (iZ 0) (zI σ 103))) b))) := (zFm.rI hmem1).trans (zFm.rL hmem2)
  have hI0 : zcj t c g b 0 0 (zrL (zrI σ 103 (zfii 6 (iZ 0) (zI σ 103))) b (zfil 24 (lZ 0) (zL (zrI σ 103 (zfii 6 (iZ 0) (zI σ 103))) b))) := by
    have hb0 : ∀ q, zL (zrL (zrI σ 103 (zfii 6 (iZ 0) (zI σ 103))) b (zfil 24 (lZ 0) (zL (zrI σ 103 (zfii 6 (iZ 0) (zI σ 103))) b))) b q = lZ 0 := fun q => by
      rw [zL_rL, if_pos rfl]
      unfold zfil
      split
      · rfl
      · exact hbz q (by omega)
    have ha0 : ∀ q, q < 6 → zI (zrL (zrI σ 103 (zfii 6 (iZ 0) (zI σ 103))) b (zfil 24 (lZ 0) (zL (zrI σ 103 (zfii 6 (iZ 0) (zI σ 103))) b))) 103 q = iZ 0 := fun q hq => by
      show zI (zrI σ 103 (zfii 6 (iZ 0) (zI σ 103))) 103 q = _
      rw [zI_rI, if_pos rfl]
      unfold zfii
      rw [if_pos hq]
    exact ⟨fun f j hf hj => hb0 _, fun q hq => hb0 q, ha0 0 (by omega), ha0 1 (by omega), ha0 2 (by omega), ha0 3 (by omega)⟩
  generalize (zrL (zrI σ 103 (zfii 6 (iZ 0) (zI σ 103))) b (zfil 24 (lZ 0) (zL (zrI σ 103 (zfii 6 (iZ 0) (zI σ 103))) b))) = σ1 at hfm hI0 ⊢
  have hF1 := hfm.fx hF
  have hns : zI σ1 p 2 = iZ (t 0) := ((hfm.2.2 p (zni hpb.2 hpb.1)).1 2).trans hPl.1
  refine w_aload_n (pc' := 15) ⟨rfl, rfl⟩ rfl ?_
  refine w_aload_n (pc' := 16) ⟨rfl, rfl⟩ rfl ?_
  refine w_getI (pc' := 19) (cl := 2) (q := 1) ⟨rfl, rfl⟩ ⟨rfl, by decide⟩ (hG.o hF1) (hVg1 _ hfm).1 ?_
  refine w_cv2 (pc' := 22) ⟨rfl, rfl⟩ (by decide) (hP.o hF1).1 (Nat.le_of_ble_eq_true rfl) (Nat.le_of_ble_eq_true rfl) (c_shape hF1 hP hns (by omega) (by omega) (fun h => ?_) (fun h => ?_))
  · rw [hof]
    refine w_astore (pc' := 24) ⟨rfl, rfl⟩ rfl ?_
    refine w_aload_n (pc' := 25) ⟨rfl, rfl⟩ rfl ?_
    refine w_aload_n (pc' := 26) ⟨rfl, rfl⟩ rfl ?_
    refine w_getI (pc' := 29) (cl := 2) (q := 2) ⟨rfl, rfl⟩ ⟨rfl, by decide⟩ (hG.o hF1) (hVg1 _ hfm).2.1 ?_
    refine w_cv2 (pc' := 32) ⟨rfl, rfl⟩ (by decide) (hP.o hF1).1 (Nat.le_of_ble_eq_true rfl) (Nat.le_of_ble_eq_true rfl) (c_shape hF1 hP hns (by omega) (by omega) (fun h => ?_) (fun h => ?_))
    · rw [hot]
      refine w_astore (pc' := 34) ⟨rfl, rfl⟩ rfl ?_
      refine w_aload (pc' := 36) ⟨rfl, rfl⟩ rfl ?_
      refine w_ifnullR (pc' := 39) (pcT := 44) ⟨rfl, rfl⟩ rfl  ?_
      refine w_aload (pc' := 41) ⟨rfl, rfl⟩ rfl ?_
      refine w_ifnonnullR (pc' := 44) (pcT := 45) ⟨rfl, rfl⟩ rfl  ?_
      refine w_ic (pc' := 46) ⟨rfl, rfl⟩ ?_
      refine w_istore (pc' := 48) ⟨rfl, rfl⟩ rfl ?_
      refine w_ic (pc' := 49) ⟨rfl, rfl⟩ ?_
      refine w_istore (pc' := 51) ⟨rfl, rfl⟩ rfl ?_
      refine w_at (ls2 := [(0, .ref 102), (2, .ref o), (3, .ref a), (4, .ref b), (5, .ref of), (6, .ref ot), (7, .int (iZ (zbn (zrA t c 0) 24 : Nat))), (8, .int (iZ ((0 : Nat) : Int)))]) ⟨rfl, rfl, rfl, rfl, rfl, rfl, rfl, rfl, trivial⟩ (l_ccy hF hVt2 hc hG hSf hSt hA hB hab hg hnu hVs1 hVs2 hVg1 hVa1 (zNU t c).toNat 0 σ1 (by omega) hfm hI0 (fun σ1 hfm hI => ?_))
      have hF1 := hfm.fx hF
      have hsf := hVs1 _ hfm
      have hst := hVs2 _ hfm
      obtain ⟨i1, i2, i3, i4, i5, i6⟩ := hI
      refine w_aload_n (pc' := 103) ⟨rfl, rfl⟩ rfl ?_
      refine w_getR (pc' := 106) (cl := 1) (q := 0) ⟨rfl, rfl⟩ ⟨rfl, by decide⟩ (zOl hF1 rfl) (hF1.2 102 0 103 rfl) ?_
      refine w_ic (pc' := 107) ⟨rfl, rfl⟩ ?_
      refine w_aload (pc' := 109) ⟨rfl, rfl⟩ rfl ?_
      refine w_getI (pc' := 112) (cl := 6) (q := 6) ⟨rfl, rfl⟩ ⟨rfl, by decide⟩ (hSf.o hF1) hsf.2.1 ?_
      refine w_iload (pc' := 114) ⟨rfl, rfl⟩ rfl ?_
      refine w_cs1 (pc' := 117) ⟨rfl, rfl⟩ (by decide) (Nat.le_of_ble_eq_true rfl) (Nat.le_of_ble_eq_true rfl) (j_bitCount ?_)
      refine w_isubZ (pc' := 118) ⟨rfl, rfl⟩ ?_
      refine w_iast (pc' := 119) ⟨rfl, rfl⟩ (zAl hF1 rfl) (zixA (j := 4) (by omega)) ?_
      refine w_aload_n (pc' := 120) ⟨rfl, rfl⟩ rfl ?_
      refine w_getR (pc' := 123) (cl := 1) (q := 0) ⟨rfl, rfl⟩ ⟨rfl, by decide⟩ (zOl hF1 rfl) (hF1.2 102 0 103 rfl) ?_
      refine w_ic (pc' := 124) ⟨rfl, rfl⟩ ?_
      refine w_aload (pc' := 126) ⟨rfl, rfl⟩ rfl ?_
      refine w_getI (pc' := 129) (cl := 6) (q := 6) ⟨rfl, rfl⟩ ⟨rfl, by decide⟩ (hSt.o hF1) ((zI_wI_n (Or.inl (hSt.v hB).2.2.2.2.2.1)).trans hst.2.1) ?_
      refine w_aload_n (pc' := 130) ⟨rfl, rfl⟩ rfl ?_
      refine w_getR (pc' := 133) (cl := 1) (q := 0) ⟨rfl, rfl⟩ ⟨rfl, by decide⟩ (zOl hF1 rfl) (hF1.2 102 0 103 rfl) ?_
      refine w_ic (pc' := 134) ⟨rfl, rfl⟩ ?_
      refine w_iald (pc' := 135) ⟨rfl, rfl⟩ (zAl hF1 rfl) (zixA (j := 0) (by omega)) ((zI_wI_n (Or.inr (by decide))).trans i3) ?_
      refine w_isubZ (pc' := 136) ⟨rfl, rfl⟩ ?_
      refine w_iast (pc' := 137) ⟨rfl, rfl⟩ (zAl hF1 rfl) (zixA (j := 5) (by omega)) ?_
      refine w_return (pc' := 138) ⟨rfl, rfl⟩ ?_
      refine k _ ((hfm.trans (zFm.wI hmem1)).trans (zFm.wI hmem1)) ⟨⟨fun f j hfj => ?_, fun q hq => i2 q (by omega)⟩, fun q hq => ?_⟩
      · exact i1 f j (by omega) (by omega)
      · rcases zr6 hq with rfl | rfl | rfl | rfl | rfl | rfl
        · exact (zI_wI_n (Or.inr (by decide))).trans ((zI_wI_n (Or.inr (by decide))).trans (i3.trans (by show iZ (_ + 0) = _; rw [Int.add_zero]; rfl)))
        · exact (zI_wI_n (Or.inr (by decide))).trans ((zI_wI_n (Or.inr (by decide))).trans i4)
        · exact (zI_wI_n (Or.inr (by decide))).trans ((zI_wI_n (Or.inr (by decide))).trans i5)
        · exact (zI_wI_n (Or.inr (by decide))).trans ((zI_wI_n (Or.inr (by decide))).trans i6)
        · exact (zI_wI_n (Or.inr (by decide))).trans (zI_wI_s.trans (congrArg iZ (zac4 hVt2 hc).symm))
        · exact zI_wI_s.trans (congrArg iZ (by rw [show ((0 : Nat) : Int) = 0 from rfl, Int.add_zero]; exact (zac5 hVt2 hc).symm))
    · exfalso; omega
  · exfalso; omega
