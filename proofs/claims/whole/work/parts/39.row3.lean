/-! ALIKE RECORDS, THE PAST -/
-- areAlike
theorem l_areAlike {σ : zSt} {o s f : Nat} {t : zBk} (hF : zFx σ) (hO : zIsS o) (hS : zSh σ o t s) (hV : zVs t s) (hs : s < 3) (hf : (f : Int) < zNF t s) {r q : Nat} (hr : r < 8) (hq : q < 8) {Q : zSt → Option Value → Prop} : ∀ (j : Nat) (i : Nat), ((i : Int) + j = zCE t s f) → (∀ u, u < i → (fun r i => zvl (zKD t s f) (zL σ 80 (zpq t s f r i))) r u = (fun r i => zvl (zKD t s f) (zL σ 80 (zpq t s f r i))) q u) → (zal (fun r i => zvl (zKD t s f) (zL σ 80 (zpq t s f r i))) (zCE t s f).toNat r q → Q σ (some (.int (iZ 1)))) → (¬ zal (fun r i => zvl (zKD t s f) (zL σ 80 (zpq t s f r i))) (zCE t s f).toNat r q → Q σ (some (.int (iZ 0)))) → zP zk_X6_areAlike 23 [(0, .ref 79), (1, .int (iZ s)), (2, .ref o), (3, .int (iZ f)), (4, .int (iZ r)), (5, .int (iZ q)), (6, .int (iZ (zCE t s f))), (7, .int (iZ i))] [] σ Q := by
  intro j
  induction j with
  | zero =>
    intro i hi ha k1 k0
    have hce := (hV.2 f hf).2
    have hn := hV.1
    obtain rfl : i = (zCE t s f).toNat := by omega
    refine w_iload (pc' := 25) ⟨rfl, rfl⟩ rfl ?_
    refine w_iload (pc' := 27) ⟨rfl, rfl⟩ rfl ?_
    refine w_icT_ge (pc' := 30) (pcT := 76) ⟨rfl, rfl⟩ rfl (by omega) ?_
    refine w_ic (pc' := 77) ⟨rfl, rfl⟩ ?_
    refine w_ireturn (pc' := 78) ⟨rfl, rfl⟩ (by decide) ?_
    exact k1 (fun i hi => ha i hi)
  | succ j ih =>
    intro i hi ha k1 k0
    have hce := (hV.2 f hf).2
    have hn := hV.1
    
    refine w_iload (pc' := 25) ⟨rfl, rfl⟩ rfl ?_
    refine w_iload (pc' := 27) ⟨rfl, rfl⟩ rfl ?_
    refine w_icF_ge (pc' := 30) ⟨rfl, rfl⟩ (by omega) ?_
    refine w_aload_n (pc' := 31) ⟨rfl, rfl⟩ rfl ?_
    refine w_iload_n (pc' := 32) ⟨rfl, rfl⟩ rfl ?_
    refine w_aload_n (pc' := 33) ⟨rfl, rfl⟩ rfl ?_
    refine w_iload_n (pc' := 34) ⟨rfl, rfl⟩ rfl ?_
    refine w_iload (pc' := 36) ⟨rfl, rfl⟩ rfl ?_
    refine w_iload (pc' := 38) ⟨rfl, rfl⟩ rfl ?_
    refine w_imulZ (pc' := 39) ⟨rfl, rfl⟩ ?_
    refine w_iload (pc' := 41) ⟨rfl, rfl⟩ rfl ?_
    refine w_iaddZ (pc' := 42) ⟨rfl, rfl⟩ ?_
    refine w_cv5 (pc' := 45) ⟨rfl, rfl⟩ (by decide) (zOl hF rfl) (Nat.le_of_ble_eq_true rfl) (Nat.le_of_ble_eq_true rfl) (c_valueAt hF hO hS hV hs hf hr (by omega) rfl ?_)
    refine w_lstore (pc' := 47) ⟨rfl, rfl⟩ rfl rfl ?_
    refine w_lload (pc' := 49) ⟨rfl, rfl⟩ rfl ?_
    refine w_aload_n (pc' := 50) ⟨rfl, rfl⟩ rfl ?_
    refine w_iload_n (pc' := 51) ⟨rfl, rfl⟩ rfl ?_
    refine w_aload_n (pc' := 52) ⟨rfl, rfl⟩ rfl ?_
    refine w_iload_n (pc' := 53) ⟨rfl, rfl⟩ rfl ?_
    refine w_iload (pc' := 55) ⟨rfl, rfl⟩ rfl ?_
    refine w_iload (pc' := 57) ⟨rfl, rfl⟩ rfl ?_
    refine w_imulZ (pc' := 58) ⟨rfl, rfl⟩ ?_
    refine w_iload (pc' := 60) ⟨rfl, rfl⟩ rfl ?_
    refine w_iaddZ (pc' := 61) ⟨rfl, rfl⟩ ?_
    refine w_cv5 (pc' := 64) ⟨rfl, rfl⟩ (by decide) (zOl hF rfl) (Nat.le_of_ble_eq_true rfl) (Nat.le_of_ble_eq_true rfl) (c_valueAt hF hO hS hV hs hf hq (by omega) rfl ?_)
    refine w_lcmp (pc' := 65) ⟨rfl, rfl⟩ ?_
    refine w_ifc_eq (pc' := 68) (pcT := 70) ⟨rfl, rfl⟩ rfl (fun h1 => ?_) (fun h1 => ?_)
    · refine w_iincZ (pc' := 73) ⟨rfl, rfl⟩ rfl rfl ?_
      refine w_goto (pc' := 76) (pcT := 23) ⟨rfl, rfl⟩ rfl ?_
      refine w_at ?_ (ih (i + 1) (by omega) (fun u hu => ?_) k1 k0)
      · exact ⟨rfl, rfl, rfl, rfl, rfl, rfl, rfl, rfl, trivial⟩
      · by_cases hui : u = i
        · rw [hui]; assumption
        · exact ha u (by omega)
    · refine w_ic (pc' := 69) ⟨rfl, rfl⟩ ?_
      refine w_ireturn (pc' := 70) ⟨rfl, rfl⟩ (by decide) ?_
      exact k0 (fun ha => by have := ha i (by omega); contradiction)
theorem c_areAlike {σ : zSt} {o s f : Nat} {t : zBk} (hF : zFx σ) (hO : zIsS o) (hS : zSh σ o t s) (hV : zVs t s) (hs : s < 3) (hf : (f : Int) < zNF t s) {r q : Nat} (hr : r < 8) (hq : q < 8) {Q : zSt → Option Value → Prop} (k1 : zal (fun r i => zvl (zKD t s f) (zL σ 80 (zpq t s f r i))) (zCE t s f).toNat r q → Q σ (some (.int (iZ 1)))) (k0 : ¬ zal (fun r i => zvl (zKD t s f) (zL σ 80 (zpq t s f r i))) (zCE t s f).toNat r q → Q σ (some (.int (iZ 0)))) : zCa 89 [.ref 79, .int (iZ s), .ref o, .int (iZ f), .int (iZ r), .int (iZ q)] σ Q := by
  refine w_enter (c := zk_X6_areAlike) (ls2 := [(0, .ref 79), (1, .int (iZ s)), (2, .ref o), (3, .int (iZ f)), (4, .int (iZ r)), (5, .int (iZ q))]) rfl ⟨rfl, rfl, rfl, rfl, rfl, rfl, trivial⟩ ?_
  have hce := (hV.2 f hf).2
  have hn := hV.1
  refine w_aload_n (pc' := 1) ⟨rfl, rfl⟩ rfl ?_
  refine w_iload_n (pc' := 2) ⟨rfl, rfl⟩ rfl ?_
  refine w_cv2 (pc' := 5) ⟨rfl, rfl⟩ (by decide) (hO.o hF) (Nat.le_of_ble_eq_true rfl) (Nat.le_of_ble_eq_true rfl) (c_hasField hF hO hS hV (by omega) (fun h => ?_) (fun h => ?_))
  · refine w_ifF_eq (pc' := 8) ⟨rfl, rfl⟩ (by decide) ?_
    refine w_aload_n (pc' := 9) ⟨rfl, rfl⟩ rfl ?_
    refine w_getR (pc' := 12) (cl := 6) (q := 2) ⟨rfl, rfl⟩ ⟨rfl, by decide⟩ (hO.o hF) (hO.p hF).2.2.1 ?_
    refine w_iload_n (pc' := 13) ⟨rfl, rfl⟩ rfl ?_
    refine w_iald (pc' := 14) ⟨rfl, rfl⟩ (hO.a hF).2.2.1 (zixZ (by omega)) (hS.2.2 f hf).2.1 ?_
    refine w_goto (pc' := 17) (pcT := 18) ⟨rfl, rfl⟩ rfl ?_
    refine w_istore (pc' := 20) ⟨rfl, rfl⟩ rfl ?_
    refine w_ic (pc' := 21) ⟨rfl, rfl⟩ ?_
    refine w_istore (pc' := 23) ⟨rfl, rfl⟩ rfl ?_
    refine w_at (ls2 := [(0, .ref 79), (1, .int (iZ s)), (2, .ref o), (3, .int (iZ f)), (4, .int (iZ r)), (5, .int (iZ q)), (6, .int (iZ (zCE t s f))), (7, .int (iZ ((0 : Nat) : Int)))]) ⟨rfl, rfl, rfl, rfl, rfl, rfl, rfl, rfl, trivial⟩ (l_areAlike hF hO hS hV hs hf hr hq (zCE t s f).toNat 0 (by omega) (fun u hu => by omega) k1 k0)
  · exfalso; omega
theorem l_mo2 {σ : zSt} {o s f : Nat} {t : zBk} (hF : zFx σ) (hO : zIsS o) (hS : zSh σ o t s) (hV : zVs t s) (hs : s < 3) (hf : (f : Int) < zNF t s) {c : Nat → Int} (hC : zCn σ c) {n : Nat} (hcs : c s = n) (hn8 : n ≤ 8) {mo : Int} {r : Nat} (hr : r < n) {Q : zSt → Option Value → Prop} : ∀ (j : Nat) (i : Nat), i + j = n → (zP zk_X6_mostAlike 55 [(0, .ref 79), (1, .int (iZ s)), (2, .ref o), (3, .int (iZ f)), (4, .int (iZ mo)), (5, .int (iZ r)), (6, .int (iZ (zct (fun r i => zvl (zKD t s f) (zL σ 80 (zpq t s f r i))) (zCE t s f).toNat r n)))] [] σ Q) → zP zk_X6_mostAlike 22 [(0, .ref 79), (1, .int (iZ s)), (2, .ref o), (3, .int (iZ f)), (4, .int (iZ mo)), (5, .int (iZ r)), (6, .int (iZ (zct (fun r i => zvl (zKD t s f) (zL σ 80 (zpq t s f r i))) (zCE t s f).toNat r i))), (7, .int (iZ i))] [] σ Q := by
  intro j
  induction j with
  | zero =>
    intro i hi k
    obtain rfl : i = n := by omega
    refine w_iload (pc' := 24) ⟨rfl, rfl⟩ rfl ?_
    refine w_aload_n (pc' := 25) ⟨rfl, rfl⟩ rfl ?_
    refine w_iload_n (pc' := 26) ⟨rfl, rfl⟩ rfl ?_
    refine w_cv2 (pc' := 29) ⟨rfl, rfl⟩ (by decide) (zOl hF rfl) (Nat.le_of_ble_eq_true rfl) (Nat.le_of_ble_eq_true rfl) (c_countOf hF hC (by omega) (fun h => ?_) (fun h => ?_))
    · rw [show c (s : Int).toNat = c s from rfl, hcs]
      refine w_icT_ge (pc' := 32) (pcT := 55) ⟨rfl, rfl⟩ rfl (by omega) ?_
      refine w_at ?_ k
      exact ⟨rfl, rfl, rfl, rfl, rfl, rfl, rfl, trivial⟩
    · exfalso; omega
  | succ j ih =>
    intro i hi k
    refine w_iload (pc' := 24) ⟨rfl, rfl⟩ rfl ?_
    refine w_aload_n (pc' := 25) ⟨rfl, rfl⟩ rfl ?_
    refine w_iload_n (pc' := 26) ⟨rfl, rfl⟩ rfl ?_
    refine w_cv2 (pc' := 29) ⟨rfl, rfl⟩ (by decide) (zOl hF rfl) (Nat.le_of_ble_eq_true rfl) (Nat.le_of_ble_eq_true rfl) (c_countOf hF hC (by omega) (fun h => ?_) (fun h => ?_))
    · rw [show c (s : Int).toNat = c s from rfl, hcs]
      refine w_icF_ge (pc' := 32) ⟨rfl, rfl⟩ (by omega) ?_
      refine w_aload_n (pc' := 33) ⟨rfl, rfl⟩ rfl ?_
      refine w_iload_n (pc' := 34) ⟨rfl, rfl⟩ rfl ?_
      refine w_aload_n (pc' := 35) ⟨rfl, rfl⟩ rfl ?_
      refine w_iload_n (pc' := 36) ⟨rfl, rfl⟩ rfl ?_
      refine w_iload (pc' := 38) ⟨rfl, rfl⟩ rfl ?_
      refine w_iload (pc' := 40) ⟨rfl, rfl⟩ rfl ?_
      refine w_cv6 (pc' := 43) ⟨rfl, rfl⟩ (by decide) (zOl hF rfl) (Nat.le_of_ble_eq_true rfl) (Nat.le_of_ble_eq_true rfl) (c_areAlike hF hO hS hV hs hf (by omega) (by omega) (fun h => ?_) (fun h => ?_))
      · refine w_ifF_eq (pc' := 46) ⟨rfl, rfl⟩ (by decide) ?_
        refine w_iincZ (pc' := 49) ⟨rfl, rfl⟩ rfl rfl ?_
        refine w_iincZ (pc' := 52) ⟨rfl, rfl⟩ rfl rfl ?_
        refine w_goto (pc' := 55) (pcT := 22) ⟨rfl, rfl⟩ rfl ?_
        refine w_at ?_ (ih (i + 1) (by omega) k)
        exact ⟨rfl, rfl, rfl, rfl, rfl, rfl, by rw [zct]; first | (rw [if_pos (by assumption)]; rfl) | (rw [if_neg (by assumption), Int.add_zero]; rfl), rfl, trivial⟩
      · refine w_ifT_eq (pc' := 46) (pcT := 49) ⟨rfl, rfl⟩ rfl (by decide) ?_
        refine w_iincZ (pc' := 52) ⟨rfl, rfl⟩ rfl rfl ?_
        refine w_goto (pc' := 55) (pcT := 22) ⟨rfl, rfl⟩ rfl ?_
        refine w_at ?_ (ih (i + 1) (by omega) k)
        exact ⟨rfl, rfl, rfl, rfl, rfl, rfl, by rw [zct]; first | (rw [if_pos (by assumption)]; rfl) | (rw [if_neg (by assumption), Int.add_zero]; rfl), rfl, trivial⟩
    · exfalso; omega
theorem l_mo1 {σ : zSt} {o s f : Nat} {t : zBk} (hF : zFx σ) (hO : zIsS o) (hS : zSh σ o t s) (hV : zVs t s) (hs : s < 3) (hf : (f : Int) < zNF t s) {c : Nat → Int} (hC : zCn σ c) {n : Nat} (hcs : c s = n) (hn8 : n ≤ 8) {Q : zSt → Option Value → Prop} : ∀ (j : Nat) (r : Nat), r + j = n → (Q σ (some (.int (iZ (zmo (fun r i => zvl (zKD t s f) (zL σ 80 (zpq t s f r i))) (zCE t s f).toNat n n))))) → zP zk_X6_mostAlike 6 [(0, .ref 79), (1, .int (iZ s)), (2, .ref o), (3, .int (iZ f)), (4, .int (iZ (zmo (fun r i => zvl (zKD t s f) (zL σ 80 (zpq t s f r i))) (zCE t s f).toNat n r))), (5, .int (iZ r))] [] σ Q := by
  intro j
  induction j with
  | zero =>
    intro r hi k
    obtain rfl : r = n := by omega
    refine w_iload (pc' := 8) ⟨rfl, rfl⟩ rfl ?_
    refine w_aload_n (pc' := 9) ⟨rfl, rfl⟩ rfl ?_
    refine w_iload_n (pc' := 10) ⟨rfl, rfl⟩ rfl ?_
    refine w_cv2 (pc' := 13) ⟨rfl, rfl⟩ (by decide) (zOl hF rfl) (Nat.le_of_ble_eq_true rfl) (Nat.le_of_ble_eq_true rfl) (c_countOf hF hC (by omega) (fun h => ?_) (fun h => ?_))
    · rw [show c (s : Int).toNat = c s from rfl, hcs]
      refine w_icT_ge (pc' := 16) (pcT := 70) ⟨rfl, rfl⟩ rfl (by omega) ?_
      refine w_iload (pc' := 72) ⟨rfl, rfl⟩ rfl ?_
      refine w_ireturn (pc' := 73) ⟨rfl, rfl⟩ (Or.inl rfl) ?_
      exact k
    · exfalso; omega
  | succ j ih =>
    intro r hi k
    refine w_iload (pc' := 8) ⟨rfl, rfl⟩ rfl ?_
    refine w_aload_n (pc' := 9) ⟨rfl, rfl⟩ rfl ?_
    refine w_iload_n (pc' := 10) ⟨rfl, rfl⟩ rfl ?_
    refine w_cv2 (pc' := 13) ⟨rfl, rfl⟩ (by decide) (zOl hF rfl) (Nat.le_of_ble_eq_true rfl) (Nat.le_of_ble_eq_true rfl) (c_countOf hF hC (by omega) (fun h => ?_) (fun h => ?_))
    · rw [show c (s : Int).toNat = c s from rfl, hcs]
      refine w_icF_ge (pc' := 16) ⟨rfl, rfl⟩ (by omega) ?_
      refine w_ic (pc' := 17) ⟨rfl, rfl⟩ ?_
      refine w_istore (pc' := 19) ⟨rfl, rfl⟩ rfl ?_
      refine w_ic (pc' := 20) ⟨rfl, rfl⟩ ?_
      refine w_istore (pc' := 22) ⟨rfl, rfl⟩ rfl ?_
      refine w_at (ls2 := [(0, .ref 79), (1, .int (iZ s)), (2, .ref o), (3, .int (iZ f)), (4, .int (iZ (zmo (fun r i => zvl (zKD t s f) (zL σ 80 (zpq t s f r i))) (zCE t s f).toNat n r))), (5, .int (iZ r)), (6, .int (iZ 0)), (7, .int (iZ ((0 : Nat) : Int)))]) ⟨rfl, rfl, rfl, rfl, rfl, rfl, rfl, rfl, trivial⟩ (l_mo2 (n := n) hF hO hS hV hs hf hC hcs hn8 (r := r) (by omega) n 0 (by omega) ?_)
      have hm1 := zmo_rng (fun r i => zvl (zKD t s f) (zL σ 80 (zpq t s f r i))) (zCE t s f).toNat n r
      have hm2 := zct_rng (fun r i => zvl (zKD t s f) (zL σ 80 (zpq t s f r i))) (zCE t s f).toNat r n
      refine w_iload (pc' := 57) ⟨rfl, rfl⟩ rfl ?_
      refine w_iload (pc' := 59) ⟨rfl, rfl⟩ rfl ?_
      refine w_cs2 (pc' := 62) ⟨rfl, rfl⟩ (by decide) (Nat.le_of_ble_eq_true rfl) (Nat.le_of_ble_eq_true rfl) (j_max (by omega) (by omega) ?_)
      refine w_istore (pc' := 64) ⟨rfl, rfl⟩ rfl ?_
      refine w_iincZ (pc' := 67) ⟨rfl, rfl⟩ rfl rfl ?_
      refine w_goto (pc' := 70) (pcT := 6) ⟨rfl, rfl⟩ rfl ?_
      refine w_at ?_ (ih (r + 1) (by omega) k)
      exact ⟨rfl, rfl, rfl, rfl, rfl, rfl, trivial⟩
    · exfalso; omega
theorem c_mostAlike {σ : zSt} {o s f : Nat} {t : zBk} (hF : zFx σ) (hO : zIsS o) (hS : zSh σ o t s) (hV : zVs t s) (hs : s < 3) (hf : (f : Int) < zNF t s) {c : Nat → Int} (hC : zCn σ c) {n : Nat} (hcs : c s = n) (hn8 : n ≤ 8) {Q : zSt → Option Value → Prop} (k : Q σ (some (.int (iZ (zmo (fun r i => zvl (zKD t s f) (zL σ 80 (zpq t s f r i))) (zCE t s f).toNat n n))))) : zCa 88 [.ref 79, .int (iZ s), .ref o, .int (iZ f)] σ Q := by
  refine w_enter (c := zk_X6_mostAlike) (ls2 := [(0, .ref 79), (1, .int (iZ s)), (2, .ref o), (3, .int (iZ f))]) rfl ⟨rfl, rfl, rfl, rfl, trivial⟩ ?_
  refine w_ic (pc' := 1) ⟨rfl, rfl⟩ ?_
  refine w_istore (pc' := 3) ⟨rfl, rfl⟩ rfl ?_
  refine w_ic (pc' := 4) ⟨rfl, rfl⟩ ?_
  refine w_istore (pc' := 6) ⟨rfl, rfl⟩ rfl ?_
  refine w_at ?_ (l_mo1 hF hO hS hV hs hf hC hcs hn8 n 0 (by omega) k)
  exact ⟨rfl, rfl, rfl, rfl, rfl, rfl, trivial⟩
theorem zpast_l : ∀ x : Fin 20, zfx 81 x.val = some (82 + x.val) ∧ (Nat.ble (82 + x.val + 1) 181, zLY (82 + x.val)) = (true, 13, 587) := by decide +kernel
theorem zpast {σ : zSt} (hF : zFx σ) {x : Nat} (h : x < 20) : zR σ 81 x = some (82 + x) ∧ zA σ (82 + x) 13 587 := ⟨hF.2 _ _ _ (zpast_l ⟨x, h⟩).1, zAl hF (zpast_l ⟨x, h⟩).2⟩
theorem zxor20 : ∀ a : Fin 20, 0 ≤ iZ (a : Nat) ^^^ iZ 20 := by decide +kernel
theorem c_keepPast {σ : zSt} (hF : zFx σ) {x : Nat} {y : Int} (hx : zI σ 79 2 = iZ x) (hx2 : x < 20) (hy : zI σ 79 3 = iZ y) (hy2 : 0 ≤ y ∧ y ≤ 20) {Q : zSt → Option Value → Prop} (k : Q (zwI (zwI (zrL σ (82 + x) (va_cpy (zL σ 80) (zL σ (82 + x)) 0 0 587)) 79 2 (iZ (((x : Int) + 1) % 20))) 79 3 (iZ (min (y + 1) 20))) none) : zCa 66 [.ref 79] σ Q := by
  refine w_enter (c := zk_X6_keepPast) (ls2 := [(0, .ref 79)]) rfl ⟨rfl, trivial⟩ ?_
  refine w_aload_n (pc' := 1) ⟨rfl, rfl⟩ rfl ?_
  refine w_getI (pc' := 4) (cl := 4) (q := 2) ⟨rfl, rfl⟩ ⟨rfl, by decide⟩ (zOl hF rfl) hx ?_
  refine w_ifF_lt (pc' := 7) ⟨rfl, rfl⟩ (by omega) ?_
  refine w_aload_n (pc' := 8) ⟨rfl, rfl⟩ rfl ?_
  refine w_getI (pc' := 11) (cl := 4) (q := 2) ⟨rfl, rfl⟩ ⟨rfl, by decide⟩ (zOl hF rfl) hx ?_
  refine w_bi (pc' := 13) ⟨rfl, rfl⟩ (by decide) ?_
  refine w_icF_ge (pc' := 16) ⟨rfl, rfl⟩ (by omega) ?_
  refine w_aload_n (pc' := 17) ⟨rfl, rfl⟩ rfl ?_
  refine w_getR (pc' := 20) (cl := 4) (q := 0) ⟨rfl, rfl⟩ ⟨rfl, by decide⟩ (zOl hF rfl) (hF.2 79 0 80 rfl) ?_
  refine w_ic (pc' := 21) ⟨rfl, rfl⟩ ?_
  refine w_aload_n (pc' := 22) ⟨rfl, rfl⟩ rfl ?_
  refine w_getR (pc' := 25) (cl := 4) (q := 1) ⟨rfl, rfl⟩ ⟨rfl, by decide⟩ (zOl hF rfl) (hF.2 79 1 81 rfl) ?_
  refine w_aload_n (pc' := 26) ⟨rfl, rfl⟩ rfl ?_
  refine w_getI (pc' := 29) (cl := 4) (q := 2) ⟨rfl, rfl⟩ ⟨rfl, by decide⟩ (zOl hF rfl) hx ?_
  refine w_aald (pc' := 30) ⟨rfl, rfl⟩ (zAl hF rfl) (by decide) (zixZ (by omega)) (zpast hF hx2).1 ?_
  refine w_ic (pc' := 31) ⟨rfl, rfl⟩ ?_
  refine w_si (pc' := 34) ⟨rfl, rfl⟩ (by decide) ?_
  refine w_acpyL (pc' := 37) (i := 0) (j := 0) (k := 587) ⟨rfl, rfl⟩ (zAl hF rfl) (zpast hF hx2).2 (by omega) (Nat.le_of_ble_eq_true rfl) ?_
  refine w_aload_n (pc' := 38) ⟨rfl, rfl⟩ rfl ?_
  refine w_aload_n (pc' := 39) ⟨rfl, rfl⟩ rfl ?_
  refine w_getI (pc' := 42) (cl := 4) (q := 2) ⟨rfl, rfl⟩ ⟨rfl, by decide⟩ (zOl hF rfl) hx ?_
  refine w_ic (pc' := 43) ⟨rfl, rfl⟩ ?_
  refine w_iaddZ (pc' := 44) ⟨rfl, rfl⟩ ?_
  refine w_bi (pc' := 46) ⟨rfl, rfl⟩ (by decide) ?_
  refine w_iremZ (pc' := 47) ⟨rfl, rfl⟩ (by omega) ?_
  refine w_putI (pc' := 50) (cl := 4) (q := 2) ⟨rfl, rfl⟩ ⟨rfl, by decide⟩ (zOl hF rfl) ?_
  refine w_aload_n (pc' := 51) ⟨rfl, rfl⟩ rfl ?_
  refine w_aload_n (pc' := 52) ⟨rfl, rfl⟩ rfl ?_
  refine w_getI (pc' := 55) (cl := 4) (q := 3) ⟨rfl, rfl⟩ ⟨rfl, by decide⟩ (zOl hF rfl) hy ?_
  refine w_ic (pc' := 56) ⟨rfl, rfl⟩ ?_
  refine w_iaddZ (pc' := 57) ⟨rfl, rfl⟩ ?_
  refine w_bi (pc' := 59) ⟨rfl, rfl⟩ (by decide) ?_
  refine w_cs2 (pc' := 62) ⟨rfl, rfl⟩ (by decide) (Nat.le_of_ble_eq_true rfl) (Nat.le_of_ble_eq_true rfl) (j_min (by omega) (by omega) ?_)
  refine w_putI (pc' := 65) (cl := 4) (q := 3) ⟨rfl, rfl⟩ ⟨rfl, by decide⟩ (zOl hF rfl) ?_
  refine w_return (pc' := 66) ⟨rfl, rfl⟩ ?_
  exact k
theorem j_floorMod {σ : zSt} {a : Int} (ha : -1 ≤ a ∧ a ≤ 19) {Q : zSt → Option Value → Prop} (k : Q σ (some (.int (iZ (a % 20))))) : zCa 314 [.int (iZ a), .int (iZ 20)] σ Q := by
  rcases Int.lt_or_le a 0 with hneg | hpos
  · obtain rfl : a = -1 := by omega
    refine w_enter (c := zk_J9_floorMod_7cf53) (ls2 := [(0, .int (iZ (-1))), (1, .int (iZ 20))]) rfl ⟨rfl, rfl, trivial⟩ ?_
    refine w_iload_n (pc' := 1) ⟨rfl, rfl⟩ rfl ?_
    refine w_iload_n (pc' := 2) ⟨rfl, rfl⟩ rfl ?_
    refine w_irem (pc' := 3) ⟨rfl, rfl⟩ (by decide) ?_
    refine w_topI (y := iZ (-1)) (by decide) ?_
    refine w_istore_n (pc' := 4) ⟨rfl, rfl⟩ rfl ?_
    refine w_iload_n (pc' := 5) ⟨rfl, rfl⟩ rfl ?_
    refine w_iload_n (pc' := 6) ⟨rfl, rfl⟩ rfl ?_
    refine w_ixor (pc' := 7) ⟨rfl, rfl⟩ ?_
    refine w_topI (y := iZ (-21)) (by decide) ?_
    refine w_ifF_ge (pc' := 10) ⟨rfl, rfl⟩ (by decide) ?_
    refine w_iload_n (pc' := 11) ⟨rfl, rfl⟩ rfl ?_
    refine w_ifF_eq (pc' := 14) ⟨rfl, rfl⟩ (by decide) ?_
    refine w_iload_n (pc' := 15) ⟨rfl, rfl⟩ rfl ?_
    refine w_iload_n (pc' := 16) ⟨rfl, rfl⟩ rfl ?_
    refine w_iaddZ (pc' := 17) ⟨rfl, rfl⟩ ?_
    refine w_ireturn (pc' := 18) ⟨rfl, rfl⟩ (Or.inl rfl) ?_
    exact k
  · obtain ⟨n, rfl⟩ := Int.eq_ofNat_of_zero_le hpos
    refine w_enter (c := zk_J9_floorMod_7cf53) (ls2 := [(0, .int (iZ n)), (1, .int (iZ 20))]) rfl ⟨rfl, rfl, trivial⟩ ?_
    refine w_iload_n (pc' := 1) ⟨rfl, rfl⟩ rfl ?_
    refine w_iload_n (pc' := 2) ⟨rfl, rfl⟩ rfl ?_
    refine w_iremZ (pc' := 3) ⟨rfl, rfl⟩ (by omega) ?_
    refine w_istore_n (pc' := 4) ⟨rfl, rfl⟩ rfl ?_
    refine w_iload_n (pc' := 5) ⟨rfl, rfl⟩ rfl ?_
    refine w_iload_n (pc' := 6) ⟨rfl, rfl⟩ rfl ?_
    refine w_ixor (pc' := 7) ⟨rfl, rfl⟩ ?_
    refine w_ifI_ge (pc' := 10) (pcT := 18) ⟨rfl, rfl⟩ rfl (fun h1 => ?_) (fun h1 => ?_)
    · refine w_iload_n (pc' := 19) ⟨rfl, rfl⟩ rfl ?_
      refine w_ireturn (pc' := 20) ⟨rfl, rfl⟩ (Or.inl rfl) ?_
      exact k
    · exact absurd (zxor20 ⟨n, by omega⟩) (by assumption)
theorem c_goBack {σ : zSt} (hF : zFx σ) {x : Nat} {y : Int} (hx : zI σ 79 2 = iZ x) (hx2 : x < 20) (hy : zI σ 79 3 = iZ y) (hy2 : 0 < y ∧ y ≤ 20) {Q : zSt → Option Value → Prop} (k : ∀ z : Nat, (z : Int) = ((x : Int) - 1) % 20 → Q (zrL (zwI (zwI σ 79 3 (iZ (y - 1))) 79 2 (iZ z)) 80 (va_cpy (zL σ (82 + z)) (zL σ 80) 0 0 587)) (some (.int (iZ 1)))) : zCa 67 [.ref 79] σ Q := by
  refine w_enter (c := zk_X6_goBack) (ls2 := [(0, .ref 79)]) rfl ⟨rfl, trivial⟩ ?_
  refine w_aload_n (pc' := 1) ⟨rfl, rfl⟩ rfl ?_
  refine w_getI (pc' := 4) (cl := 4) (q := 3) ⟨rfl, rfl⟩ ⟨rfl, by decide⟩ (zOl hF rfl) hy ?_
  refine w_ifT_gt (pc' := 7) (pcT := 9) ⟨rfl, rfl⟩ rfl (by omega) ?_
  refine w_aload_n (pc' := 10) ⟨rfl, rfl⟩ rfl ?_
  refine w_dupR (pc' := 11) ⟨rfl, rfl⟩ ?_
  refine w_getI (pc' := 14) (cl := 4) (q := 3) ⟨rfl, rfl⟩ ⟨rfl, by decide⟩ (zOl hF rfl) hy ?_
  refine w_ic (pc' := 15) ⟨rfl, rfl⟩ ?_
  refine w_isubZ (pc' := 16) ⟨rfl, rfl⟩ ?_
  refine w_putI (pc' := 19) (cl := 4) (q := 3) ⟨rfl, rfl⟩ ⟨rfl, by decide⟩ (zOl hF rfl) ?_
  refine w_aload_n (pc' := 20) ⟨rfl, rfl⟩ rfl ?_
  refine w_aload_n (pc' := 21) ⟨rfl, rfl⟩ rfl ?_
  refine w_getI (pc' := 24) (cl := 4) (q := 2) ⟨rfl, rfl⟩ ⟨rfl, by decide⟩ (zOl hF rfl) hx ?_
  refine w_ic (pc' := 25) ⟨rfl, rfl⟩ ?_
  refine w_isubZ (pc' := 26) ⟨rfl, rfl⟩ ?_
  refine w_bi (pc' := 28) ⟨rfl, rfl⟩ (by decide) ?_
  refine w_cs2 (pc' := 31) ⟨rfl, rfl⟩ (by decide) (Nat.le_of_ble_eq_true rfl) (Nat.le_of_ble_eq_true rfl) (j_floorMod (by omega) ?_)
  obtain ⟨z, hz⟩ : ∃ z : Nat, ((x : Int) - 1) % 20 = z := ⟨(((x : Int) - 1) % 20).toNat, by omega⟩
  rw [hz]
  refine w_putI (pc' := 34) (cl := 4) (q := 2) ⟨rfl, rfl⟩ ⟨rfl, by decide⟩ (zOl hF rfl) ?_
  refine w_aload_n (pc' := 35) ⟨rfl, rfl⟩ rfl ?_
  refine w_getR (pc' := 38) (cl := 4) (q := 1) ⟨rfl, rfl⟩ ⟨rfl, by decide⟩ (zOl hF rfl) (hF.2 79 1 81 rfl) ?_
  refine w_aload_n (pc' := 39) ⟨rfl, rfl⟩ rfl ?_
  refine w_getI (pc' := 42) (cl := 4) (q := 2) ⟨rfl, rfl⟩ ⟨rfl, by decide⟩ (zOl hF rfl) zI_wI_s ?_
  refine w_aald (pc' := 43) ⟨rfl, rfl⟩ (zAl hF rfl) (by decide) (zixZ (by omega)) (zpast hF (by omega)).1 ?_
  refine w_ic (pc' := 44) ⟨rfl, rfl⟩ ?_
  refine w_aload_n (pc' := 45) ⟨rfl, rfl⟩ rfl ?_
  refine w_getR (pc' := 48) (cl := 4) (q := 0) ⟨rfl, rfl⟩ ⟨rfl, by decide⟩ (zOl hF rfl) (hF.2 79 0 80 rfl) ?_
  refine w_ic (pc' := 49) ⟨rfl, rfl⟩ ?_
  refine w_si (pc' := 52) ⟨rfl, rfl⟩ (by decide) ?_
  refine w_acpyL (pc' := 55) (i := 0) (j := 0) (k := 587) ⟨rfl, rfl⟩ (zpast hF (by omega)).2 (zAl hF rfl) (by omega) (Nat.le_of_ble_eq_true rfl) ?_
  refine w_ic (pc' := 56) ⟨rfl, rfl⟩ ?_
  refine w_ireturn (pc' := 57) ⟨rfl, rfl⟩ (by decide) ?_
  exact k z hz.symm
theorem c_goBack0 {σ : zSt} (hF : zFx σ) (hy : zI σ 79 3 = iZ 0) {Q : zSt → Option Value → Prop} (k : Q σ (some (.int (iZ 0)))) : zCa 67 [.ref 79] σ Q := by
  refine w_enter (c := zk_X6_goBack) (ls2 := [(0, .ref 79)]) rfl ⟨rfl, trivial⟩ ?_
  refine w_aload_n (pc' := 1) ⟨rfl, rfl⟩ rfl ?_
  refine w_getI (pc' := 4) (cl := 4) (q := 3) ⟨rfl, rfl⟩ ⟨rfl, by decide⟩ (zOl hF rfl) hy ?_
  refine w_ifF_gt (pc' := 7) ⟨rfl, rfl⟩ (by decide) ?_
  refine w_ic (pc' := 8) ⟨rfl, rfl⟩ ?_
  refine w_ireturn (pc' := 9) ⟨rfl, rfl⟩ (by decide) ?_
  exact k
def zclr (m : zRw0) : zRw0 := va_up (va_up (va_up (va_up (va_up (va_up (va_up (va_up (zfil 587 (lZ 0) m) 3 (lZ 4)) 7 (lZ 7)) 4 (lZ 8)) 8 (lZ 34)) 5 (lZ 10)) 9 (lZ 0)) 6 (lZ 0)) 10 (lZ 1)
theorem c_clear {σ : zSt} (hF : zFx σ) {Q : zSt → Option Value → Prop} (k : Q (zwI (zwI (zrL σ 80 (zclr (zL σ 80))) 79 2 (iZ 0)) 79 3 (iZ 0)) none) : zCa 65 [.ref 79] σ Q := by
  refine w_enter (c := zk_X6_clear) (ls2 := [(0, .ref 79)]) rfl ⟨rfl, trivial⟩ ?_
  refine w_aload_n (pc' := 1) ⟨rfl, rfl⟩ rfl ?_
  refine w_getR (pc' := 4) (cl := 4) (q := 0) ⟨rfl, rfl⟩ ⟨rfl, by decide⟩ (zOl hF rfl) (hF.2 79 0 80 rfl) ?_
  refine w_lc (pc' := 5) (z := 0) ⟨rfl, rfl⟩ rfl ?_
  refine w_cs2 (pc' := 8) ⟨rfl, rfl⟩ (by decide) (Nat.le_of_ble_eq_true rfl) (Nat.le_of_ble_eq_true rfl) (j_fill (zAl hF rfl) (by omega) ?_)
  refine w_aload_n (pc' := 9) ⟨rfl, rfl⟩ rfl ?_
  refine w_ic (pc' := 10) ⟨rfl, rfl⟩ ?_
  refine w_ic (pc' := 11) ⟨rfl, rfl⟩ ?_
  refine w_ldc2Y (pc' := 14) (z := 7) ⟨rfl, rfl⟩ rfl ?_
  refine w_cv4 (pc' := 17) ⟨rfl, rfl⟩ (by decide) (zOl hF rfl) (Nat.le_of_ble_eq_true rfl) (Nat.le_of_ble_eq_true rfl) (c_setThing (zFx_rL hF) (z := 0) (by omega) (by omega) ?_)
  rw [zwL_rL, zwL_rL]
  refine w_aload_n (pc' := 18) ⟨rfl, rfl⟩ rfl ?_
  refine w_ic (pc' := 19) ⟨rfl, rfl⟩ ?_
  refine w_bi (pc' := 21) ⟨rfl, rfl⟩ (by decide) ?_
  refine w_ldc2Y (pc' := 24) (z := 34) ⟨rfl, rfl⟩ rfl ?_
  refine w_cv4 (pc' := 27) ⟨rfl, rfl⟩ (by decide) (zOl hF rfl) (Nat.le_of_ble_eq_true rfl) (Nat.le_of_ble_eq_true rfl) (c_setThing (zFx_rL hF) (z := 1) (by omega) (by omega) ?_)
  rw [zwL_rL, zwL_rL]
  refine w_aload_n (pc' := 28) ⟨rfl, rfl⟩ rfl ?_
  refine w_ic (pc' := 29) ⟨rfl, rfl⟩ ?_
  refine w_bi (pc' := 31) ⟨rfl, rfl⟩ (by decide) ?_
  refine w_lc (pc' := 32) (z := 0) ⟨rfl, rfl⟩ rfl ?_
  refine w_cv4 (pc' := 35) ⟨rfl, rfl⟩ (by decide) (zOl hF rfl) (Nat.le_of_ble_eq_true rfl) (Nat.le_of_ble_eq_true rfl) (c_setThing (zFx_rL hF) (z := 2) (by omega) (by omega) ?_)
  rw [zwL_rL, zwL_rL]
  refine w_aload_n (pc' := 36) ⟨rfl, rfl⟩ rfl ?_
  refine w_ic (pc' := 37) ⟨rfl, rfl⟩ ?_
  refine w_ic (pc' := 38) ⟨rfl, rfl⟩ ?_
  refine w_lc (pc' := 39) (z := 1) ⟨rfl, rfl⟩ rfl ?_
  refine w_cv4 (pc' := 42) ⟨rfl, rfl⟩ (by decide) (zOl hF rfl) (Nat.le_of_ble_eq_true rfl) (Nat.le_of_ble_eq_true rfl) (c_setThing (zFx_rL hF) (z := 3) (by omega) (by omega) ?_)
  rw [zwL_rL, zwL_rL]
  refine w_aload_n (pc' := 43) ⟨rfl, rfl⟩ rfl ?_
  refine w_ic (pc' := 44) ⟨rfl, rfl⟩ ?_
  refine w_putI (pc' := 47) (cl := 4) (q := 2) ⟨rfl, rfl⟩ ⟨rfl, by decide⟩ (zOl hF rfl) ?_
  refine w_aload_n (pc' := 48) ⟨rfl, rfl⟩ rfl ?_
  refine w_ic (pc' := 49) ⟨rfl, rfl⟩ ?_
  refine w_putI (pc' := 52) (cl := 4) (q := 3) ⟨rfl, rfl⟩ ⟨rfl, by decide⟩ (zOl hF rfl) ?_
  refine w_return (pc' := 53) ⟨rfl, rfl⟩ ?_
  exact k
