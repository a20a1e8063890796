/-! UNDO, TARGET TO SOURCE, DROP in the reference -/
/-- the first n of a row, from b on of another one -/
def zcpb (b n : Nat) (m a : zRw0) : zRw0 := fun i => if i < n then m (b + i) else a i
theorem zcpb_s {b n : Nat} {m a : zRw0} : va_up (zcpb b n m a) n (m (b + n)) = zcpb b (n + 1) m a := by
  funext i
  unfold va_up zcpb
  by_cases h : i = n
  · subst h; rw [if_pos rfl, if_pos (by omega)]
  · rw [if_neg h]
    by_cases h2 : i < n
    · rw [if_pos h2, if_pos (by omega)]
    · rw [if_neg h2, if_neg (by omega)]
theorem zcpb_0 {b : Nat} {m a : zRw0} : zcpb b 0 m a = a := by
  funext i; unfold zcpb; rw [if_neg (by omega)]
theorem l_undo {σ : zSt} (hF : zFx σ) {x : Nat} (hx : zI σ 164 31 = iZ x) (hx2 : x < 20) {Q : zSt → Option Value → Prop} : ∀ (j : Nat) (i : Nat), i + j = 587 → (zP zk_X12_undo 49 [(0, .ref 164)] [] (zrL σ 170 (zcpb (587 * x) 587 (zL σ 180) (zL σ 170))) Q) → zP zk_X12_undo 15 [(0, .ref 164), (1, .int (iZ i))] [] (zrL σ 170 (zcpb (587 * x) i (zL σ 180) (zL σ 170))) Q := by
  intro j
  induction j with
  | zero =>
    intro i hi k
    obtain rfl : i = 587 := by omega
    refine w_iload_n (pc' := 16) ⟨rfl, rfl⟩ rfl ?_
    refine w_si (pc' := 19) ⟨rfl, rfl⟩ (by decide) ?_
    refine w_icT_ge (pc' := 22) (pcT := 49) ⟨rfl, rfl⟩ rfl (by omega) ?_
    refine w_at ?_ k
    exact ⟨rfl, trivial⟩
  | succ j ih =>
    intro i hi k
    refine w_iload_n (pc' := 16) ⟨rfl, rfl⟩ rfl ?_
    refine w_si (pc' := 19) ⟨rfl, rfl⟩ (by decide) ?_
    refine w_icF_ge (pc' := 22) ⟨rfl, rfl⟩ (by omega) ?_
    refine w_aload_n (pc' := 23) ⟨rfl, rfl⟩ rfl ?_
    refine w_getR (pc' := 26) (cl := 10) (q := 16) ⟨rfl, rfl⟩ ⟨rfl, by decide⟩ (zOl hF rfl) (hF.2 164 16 170 rfl) ?_
    refine w_iload_n (pc' := 27) ⟨rfl, rfl⟩ rfl ?_
    refine w_aload_n (pc' := 28) ⟨rfl, rfl⟩ rfl ?_
    refine w_getR (pc' := 31) (cl := 10) (q := 29) ⟨rfl, rfl⟩ ⟨rfl, by decide⟩ (zOl hF rfl) (hF.2 164 29 180 rfl) ?_
    refine w_si (pc' := 34) ⟨rfl, rfl⟩ (by decide) ?_
    refine w_aload_n (pc' := 35) ⟨rfl, rfl⟩ rfl ?_
    refine w_getI (pc' := 38) (cl := 10) (q := 31) ⟨rfl, rfl⟩ ⟨rfl, by decide⟩ (zOl hF rfl) hx ?_
    refine w_imulZ (pc' := 39) ⟨rfl, rfl⟩ ?_
    refine w_iload_n (pc' := 40) ⟨rfl, rfl⟩ rfl ?_
    refine w_iaddZ (pc' := 41) ⟨rfl, rfl⟩ ?_
    refine w_lald (pc' := 42) ⟨rfl, rfl⟩ (zAl hF rfl) (zixA (j := 587 * x + i) (by omega)) rfl ?_
    refine w_last (pc' := 43) ⟨rfl, rfl⟩ (zAl hF rfl) (zixZ (by omega)) ?_
    refine w_iincZ (pc' := 46) ⟨rfl, rfl⟩ rfl rfl ?_
    refine w_goto (pc' := 49) (pcT := 15) ⟨rfl, rfl⟩ rfl ?_
    rw [show zL (zrL σ 170 (zcpb (587 * x) i (zL σ 180) (zL σ 170))) 180 = zL σ 180 from zL_rLn (by decide)]
    refine w_sto zwL_rL ?_
    rw [zcpb_s]
    refine w_at ?_ (ih (i + 1) (by omega) k)
    exact ⟨rfl, rfl, trivial⟩
theorem r_undo0 {σ : zSt} (hF : zFx σ) (hy : zI σ 164 30 = iZ 0) {Q : zSt → Option Value → Prop} (k : Q (zwI σ 166 4 (zI σ 166 4 + iZ 1)) (some (.int (iZ 0)))) : zCa 308 [.ref 164] σ Q := by
  refine w_enter (c := zk_X12_undo) (ls2 := [(0, .ref 164)]) rfl ⟨rfl, trivial⟩ ?_
  refine w_aload_n (pc' := 1) ⟨rfl, rfl⟩ rfl ?_
  refine w_getI (pc' := 4) (cl := 10) (q := 30) ⟨rfl, rfl⟩ ⟨rfl, by decide⟩ (zOl hF rfl) hy ?_
  refine w_ifF_ne (pc' := 7) ⟨rfl, rfl⟩ (by decide) ?_
  refine w_aload_n (pc' := 8) ⟨rfl, rfl⟩ rfl ?_
  refine w_ic (pc' := 9) ⟨rfl, rfl⟩ ?_
  refine w_cv2 (pc' := 12) ⟨rfl, rfl⟩ (by decide) (zOl hF rfl) (Nat.le_of_ble_eq_true rfl) (Nat.le_of_ble_eq_true rfl) (r_isRefused (w := 4) hF (by decide) ?_)
  refine w_ireturn (pc' := 13) ⟨rfl, rfl⟩ (by decide) ?_
  exact k
theorem r_undo {σ : zSt} (hF : zFx σ) {x : Nat} {y : Int} (hx : zI σ 164 31 = iZ x) (hx2 : x < 20) (hy : zI σ 164 30 = iZ y) (hy2 : 0 < y ∧ y ≤ 20) {Q : zSt → Option Value → Prop} (k : ∀ z : Nat, z = (x + 19) % 20 → Q (zwI (zwI (zrL σ 170 (zcpb (587 * x) 587 (zL σ 180) (zL σ 170))) 164 31 (iZ z)) 164 30 (iZ (y - 1))) (some (.int (iZ 1)))) : zCa 308 [.ref 164] σ Q := by
  refine w_enter (c := zk_X12_undo) (ls2 := [(0, .ref 164)]) rfl ⟨rfl, trivial⟩ ?_
  refine w_aload_n (pc' := 1) ⟨rfl, rfl⟩ rfl ?_
  refine w_getI (pc' := 4) (cl := 10) (q := 30) ⟨rfl, rfl⟩ ⟨rfl, by decide⟩ (zOl hF rfl) hy ?_
  refine w_ifT_ne (pc' := 7) (pcT := 13) ⟨rfl, rfl⟩ rfl (by omega) ?_
  refine w_ic (pc' := 14) ⟨rfl, rfl⟩ ?_
  refine w_istore_n (pc' := 15) ⟨rfl, rfl⟩ rfl ?_
  refine w_sto (show σ = (zrL σ 170 (zcpb (587 * x) 0 (zL σ 180) (zL σ 170))) by rw [zcpb_0, zrL_self]) ?_
  refine w_at (ls2 := [(0, .ref 164), (1, .int (iZ ((0 : Nat) : Int)))]) ⟨rfl, rfl, trivial⟩ (l_undo hF hx hx2 587 0 (by omega) ?_)
  refine w_aload_n (pc' := 50) ⟨rfl, rfl⟩ rfl ?_
  refine w_aload_n (pc' := 51) ⟨rfl, rfl⟩ rfl ?_
  refine w_getI (pc' := 54) (cl := 10) (q := 31) ⟨rfl, rfl⟩ ⟨rfl, by decide⟩ (zOl hF rfl) hx ?_
  refine w_bi (pc' := 56) ⟨rfl, rfl⟩ (by decide) ?_
  refine w_iaddZ (pc' := 57) ⟨rfl, rfl⟩ ?_
  refine w_ic (pc' := 58) ⟨rfl, rfl⟩ ?_
  refine w_isubZ (pc' := 59) ⟨rfl, rfl⟩ ?_
  refine w_bi (pc' := 61) ⟨rfl, rfl⟩ (by decide) ?_
  refine w_iremZ (pc' := 62) ⟨rfl, rfl⟩ (by omega) ?_
  refine w_putI (pc' := 65) (cl := 10) (q := 31) ⟨rfl, rfl⟩ ⟨rfl, by decide⟩ (zOl hF rfl) ?_
  refine w_aload_n (pc' := 66) ⟨rfl, rfl⟩ rfl ?_
  refine w_dupR (pc' := 67) ⟨rfl, rfl⟩ ?_
  refine w_getI (pc' := 70) (cl := 10) (q := 30) ⟨rfl, rfl⟩ ⟨rfl, by decide⟩ (zOl hF rfl) ((zI_wI_n (Or.inr (by decide))).trans hy) ?_
  refine w_ic (pc' := 71) ⟨rfl, rfl⟩ ?_
  refine w_isubZ (pc' := 72) ⟨rfl, rfl⟩ ?_
  refine w_putI (pc' := 75) (cl := 10) (q := 30) ⟨rfl, rfl⟩ ⟨rfl, by decide⟩ (zOl hF rfl) ?_
  refine w_ic (pc' := 76) ⟨rfl, rfl⟩ ?_
  refine w_ireturn (pc' := 77) ⟨rfl, rfl⟩ (by decide) ?_
  rw [show ((x : Int) + 20 - 1) % 20 = (((x + 19) % 20 : Nat) : Int) by omega]
  exact k _ rfl
theorem l_tis {σ : zSt} (hF : zFx σ) {Q : zSt → Option Value → Prop} : ∀ (j : Nat) (i : Nat), i + j = 24 → (Q (zrL σ 172 (zcpb 0 24 (zL σ 173) (zL σ 172))) none) → zP zk_X12_targetIsSource 2 [(0, .ref 164), (1, .int (iZ i))] [] (zrL σ 172 (zcpb 0 i (zL σ 173) (zL σ 172))) Q := by
  intro j
  induction j with
  | zero =>
    intro i hi k
    obtain rfl : i = 24 := by omega
    refine w_iload_n (pc' := 3) ⟨rfl, rfl⟩ rfl ?_
    refine w_bi (pc' := 5) ⟨rfl, rfl⟩ (by decide) ?_
    refine w_icT_ge (pc' := 8) (pcT := 26) ⟨rfl, rfl⟩ rfl (by omega) ?_
    refine w_return (pc' := 27) ⟨rfl, rfl⟩ ?_
    exact k
  | succ j ih =>
    intro i hi k
    refine w_iload_n (pc' := 3) ⟨rfl, rfl⟩ rfl ?_
    refine w_bi (pc' := 5) ⟨rfl, rfl⟩ (by decide) ?_
    refine w_icF_ge (pc' := 8) ⟨rfl, rfl⟩ (by omega) ?_
    refine w_aload_n (pc' := 9) ⟨rfl, rfl⟩ rfl ?_
    refine w_getR (pc' := 12) (cl := 10) (q := 20) ⟨rfl, rfl⟩ ⟨rfl, by decide⟩ (zOl hF rfl) (hF.2 164 20 172 rfl) ?_
    refine w_iload_n (pc' := 13) ⟨rfl, rfl⟩ rfl ?_
    refine w_aload_n (pc' := 14) ⟨rfl, rfl⟩ rfl ?_
    refine w_getR (pc' := 17) (cl := 10) (q := 21) ⟨rfl, rfl⟩ ⟨rfl, by decide⟩ (zOl hF rfl) (hF.2 164 21 173 rfl) ?_
    refine w_iload_n (pc' := 18) ⟨rfl, rfl⟩ rfl ?_
    refine w_lald (pc' := 19) ⟨rfl, rfl⟩ (zAl hF rfl) (zixZ (by omega)) rfl ?_
    refine w_last (pc' := 20) ⟨rfl, rfl⟩ (zAl hF rfl) (zixZ (by omega)) ?_
    refine w_iincZ (pc' := 23) ⟨rfl, rfl⟩ rfl rfl ?_
    refine w_goto (pc' := 26) (pcT := 2) ⟨rfl, rfl⟩ rfl ?_
    rw [show zL (zrL σ 172 (zcpb 0 i (zL σ 173) (zL σ 172))) 173 i = zL σ 173 (0 + i) by rw [zL_rLn (by decide), Nat.zero_add]]
    refine w_sto zwL_rL ?_
    rw [zcpb_s]
    refine w_at ?_ (ih (i + 1) (by omega) k)
    exact ⟨rfl, rfl, trivial⟩
theorem r_targetIsSource {σ : zSt} (hF : zFx σ) {Q : zSt → Option Value → Prop} (k : Q (zrL σ 172 (zcpb 0 24 (zL σ 173) (zL σ 172))) none) : zCa 285 [.ref 164] σ Q := by
  refine w_enter (c := zk_X12_targetIsSource) (ls2 := [(0, .ref 164)]) rfl ⟨rfl, trivial⟩ ?_
  refine w_ic (pc' := 1) ⟨rfl, rfl⟩ ?_
  refine w_istore_n (pc' := 2) ⟨rfl, rfl⟩ rfl ?_
  refine w_sto (show σ = (zrL σ 172 (zcpb 0 0 (zL σ 173) (zL σ 172))) by rw [zcpb_0, zrL_self]) ?_
  refine w_at ?_ (l_tis hF 24 0 (by omega) k)
  exact ⟨rfl, rfl, trivial⟩
/-- records r .. b - 1 of a scheme are those behind them -/
def zDk (t : zBk) (s r : Nat) (m F : zRw0) (b : Nat) : Prop := (∀ h j q : Nat, (h : Int) < zNF t s → (j : Int) < zCE t s h → r ≤ q → q < b → F (zpr t s h q j) = m (zpr t s h (q + 1) j)) ∧ ∀ x : Nat, (∀ h j q : Nat, (h : Int) < zNF t s → (j : Int) < zCE t s h → r ≤ q → q < b → x ≠ zpr t s h q j) → F x = m x
theorem zDk_0 {t : zBk} {s r : Nat} {m : zRw0} : zDk t s r m m r := ⟨fun h j q _ _ h1 h2 => by omega, fun x _ => rfl⟩
theorem zDk_s {t : zBk} {s r : Nat} (hV : zVs t s) {m F G : zRw0} {b : Nat} (hrb : r ≤ b) (hb : b + 1 < 8) (h : zDk t s r m F b) (hW : zWr t s b (fun f i => F (zpr t s f (b + 1) i)) F G) : zDk t s r m G (b + 1) := by
  have hn := hV.1
  refine ⟨fun u j q hu hj h1 h2 => ?_, fun x hx => ?_⟩
  · by_cases hq : q = b
    · subst hq
      rw [hW.1 u j (Or.inl ⟨by omega, hj⟩)]
      refine h.2 _ (fun h' j' q' e1 e2 e3 e4 => zpr_ne (hV.2 u hu).2 (hV.2 h' e1).2 (by omega) (by omega) hj e2 (by omega) (by omega) (fun e => by omega))
    · rw [hW.2 _ (fun h' j' hh => ?_)]
      · exact h.1 u j q hu hj h1 (by omega)
      · have e1 : (h' : Int) < zNF t s := by omega
        have e2 : (j' : Int) < zCE t s h' := by omega
        exact zpr_ne (hV.2 u hu).2 (hV.2 h' e1).2 (by omega) (by omega) hj e2 (by omega) (by omega) (fun e => by omega)
  · rw [hW.2 _ (fun h' j' hh => ?_)]
    · exact h.2 x (fun h' j' q' e1 e2 e3 e4 => hx h' j' q' e1 e2 e3 (by omega))
    · exact hx h' j' b (by omega) (by omega) hrb (by omega)
theorem zLY8 {n : Nat} (h : 181 ≤ n) : zLY n = (13, 8) := by
  unfold zLY
  rw [List.getElem?_eq_none (by have : zLYl.length = 181 := by decide +kernel
                                omega)]
  rfl
theorem zFx_new {σ : zSt} (h : zFx σ) : zFx (znew σ) := by
  refine ⟨by show 181 ≤ zN σ + 1; exact Nat.le_succ_of_le h.1, fun o k a e => ?_⟩
  by_cases ho : o = zN σ
  · exfalso
    have h2 := h.1
    unfold zfx at e
    rw [List.getElem?_eq_none (by have : zfxl.length = 181 := by decide +kernel
                                  omega)] at e
    cases e
  · have : zR (znew σ) o k = zR σ o k := by
      show va_up σ.2.2.1 σ.2.2.2 (fun _ => none) o k = _
      unfold va_up
      rw [if_neg (show ¬ o = σ.2.2.2 from ho)]; rfl
    rw [this]; exact h.2 o k a e
theorem zI_newo {σ : zSt} {o : Nat} (h : o < zN σ) : zI (znew σ) o = zI σ o := by
  show va_up σ.1 σ.2.2.2 (fun _ => 0) o = _
  unfold va_up
  rw [if_neg (by have : zN σ = σ.2.2.2 := rfl
                 omega)]; rfl
theorem zL_newo {σ : zSt} {o : Nat} (h : o < zN σ) : zL (znew σ) o = zL σ o := by
  show va_up σ.2.1 σ.2.2.2 (fun _ => 0) o = _
  unfold va_up
  rw [if_neg (by have : zN σ = σ.2.2.2 := rfl
                 omega)]; rfl
theorem zR_newo {σ : zSt} {o : Nat} (h : o < zN σ) : zR (znew σ) o = zR σ o := by
  show va_up σ.2.2.1 σ.2.2.2 (fun _ => none) o = _
  unfold va_up
  rw [if_neg (by have : zN σ = σ.2.2.2 := rfl
                 omega)]; rfl
/-- the cells, things of a new book -/
def zbg8 : zRw0 := fun i => if i = 0 then lZ 4 else if i = 1 then lZ 7 else if i = 2 then lZ 8 else if i = 3 then lZ 34 else if i = 4 then lZ 10 else if i = 5 then lZ 0 else if i = 6 then lZ 0 else lZ 1
def zbg (m : zRw0) : zRw0 := zcpa 3 8 zbg8 (zfil 587 (lZ 0) m)
theorem l_beg1 {σ : zSt} (hF : zFx σ) {Q : zSt → Option Value → Prop} : ∀ (j : Nat) (i : Nat), i + j = 587 → (zP zk_X12_begins 22 [(0, .ref 164)] [] (zrL σ 170 (zfil 587 (lZ 0) (zL σ 170))) Q) → zP zk_X12_begins 2 [(0, .ref 164), (1, .int (iZ i))] [] (zrL σ 170 (zfil i (lZ 0) (zL σ 170))) Q := by
  intro j
  induction j with
  | zero =>
    intro i hi k
    obtain rfl : i = 587 := by omega
    refine w_iload_n (pc' := 3) ⟨rfl, rfl⟩ rfl ?_
    refine w_si (pc' := 6) ⟨rfl, rfl⟩ (by decide) ?_
    refine w_icT_ge (pc' := 9) (pcT := 22) ⟨rfl, rfl⟩ rfl (by omega) ?_
    refine w_at ?_ k
    exact ⟨rfl, trivial⟩
  | succ j ih =>
    intro i hi k
    refine w_iload_n (pc' := 3) ⟨rfl, rfl⟩ rfl ?_
    refine w_si (pc' := 6) ⟨rfl, rfl⟩ (by decide) ?_
    refine w_icF_ge (pc' := 9) ⟨rfl, rfl⟩ (by omega) ?_
    refine w_aload_n (pc' := 10) ⟨rfl, rfl⟩ rfl ?_
    refine w_getR (pc' := 13) (cl := 10) (q := 16) ⟨rfl, rfl⟩ ⟨rfl, by decide⟩ (zOl hF rfl) (hF.2 164 16 170 rfl) ?_
    refine w_iload_n (pc' := 14) ⟨rfl, rfl⟩ rfl ?_
    refine w_lc (pc' := 15) (z := 0) ⟨rfl, rfl⟩ rfl ?_
    refine w_last (pc' := 16) ⟨rfl, rfl⟩ (zAl hF rfl) (zixZ (by omega)) ?_
    refine w_iincZ (pc' := 19) ⟨rfl, rfl⟩ rfl rfl ?_
    refine w_goto (pc' := 22) (pcT := 2) ⟨rfl, rfl⟩ rfl ?_
    refine w_sto zwL_rL ?_
    rw [zfil_s]
    refine w_at ?_ (ih (i + 1) (by omega) k)
    exact ⟨rfl, rfl, trivial⟩
theorem l_beg2 {σ : zSt} (hF : zFx σ) {N : Nat} (hA : zA σ N 13 8) (hN : N ≠ 170) (h8 : ∀ j, j < 8 → zL σ N j = zbg8 j) {Q : zSt → Option Value → Prop} : ∀ (j : Nat) (i : Nat), i + j = 8 → (zP zk_X12_begins 96 [(0, .ref 164)] [] (zrL σ 170 (zcpa 3 8 zbg8 (zL σ 170))) Q) → zP zk_X12_begins 73 [(0, .ref 164), (1, .ref N), (2, .int (iZ i))] [] (zrL σ 170 (zcpa 3 i zbg8 (zL σ 170))) Q := by
  intro j
  induction j with
  | zero =>
    intro i hi k
    obtain rfl : i = 8 := by omega
    refine w_iload_n (pc' := 74) ⟨rfl, rfl⟩ rfl ?_
    refine w_bi (pc' := 76) ⟨rfl, rfl⟩ (by decide) ?_
    refine w_icT_ge (pc' := 79) (pcT := 96) ⟨rfl, rfl⟩ rfl (by omega) ?_
    refine w_at ?_ k
    exact ⟨rfl, trivial⟩
  | succ j ih =>
    intro i hi k
    refine w_iload_n (pc' := 74) ⟨rfl, rfl⟩ rfl ?_
    refine w_bi (pc' := 76) ⟨rfl, rfl⟩ (by decide) ?_
    refine w_icF_ge (pc' := 79) ⟨rfl, rfl⟩ (by omega) ?_
    refine w_aload_n (pc' := 80) ⟨rfl, rfl⟩ rfl ?_
    refine w_getR (pc' := 83) (cl := 10) (q := 16) ⟨rfl, rfl⟩ ⟨rfl, by decide⟩ (zOl hF rfl) (hF.2 164 16 170 rfl) ?_
    refine w_ic (pc' := 84) ⟨rfl, rfl⟩ ?_
    refine w_iload_n (pc' := 85) ⟨rfl, rfl⟩ rfl ?_
    refine w_iaddZ (pc' := 86) ⟨rfl, rfl⟩ ?_
    refine w_aload_n (pc' := 87) ⟨rfl, rfl⟩ rfl ?_
    refine w_iload_n (pc' := 88) ⟨rfl, rfl⟩ rfl ?_
    refine w_lald (pc' := 89) ⟨rfl, rfl⟩ hA (zixZ (by omega)) rfl ?_
    refine w_last (pc' := 90) ⟨rfl, rfl⟩ (zAl hF rfl) (zixA (j := 3 + i) (by omega)) ?_
    refine w_iincZ (pc' := 93) ⟨rfl, rfl⟩ rfl rfl ?_
    refine w_goto (pc' := 96) (pcT := 73) ⟨rfl, rfl⟩ rfl ?_
    rw [show zL (zrL σ 170 (zcpa 3 i zbg8 (zL σ 170))) N i = zbg8 i by rw [zL_rLn hN]; exact h8 i (by omega)]
    refine w_sto zwL_rL ?_
    rw [zcpa_s]
    refine w_at ?_ (ih (i + 1) (by omega) k)
    exact ⟨rfl, rfl, rfl, trivial⟩
theorem r_begins {σ : zSt} (hF : zFx σ) (h6 : zN σ < 1000000) {Q : zSt → Option Value → Prop} (k : ∀ σ1, zFx σ1 → zN σ1 = zN σ + 1 → (∀ o, o < 181 → zR σ1 o = zR σ o ∧ (o ≠ 164 → zI σ1 o = zI σ o) ∧ (o ≠ 170 → zL σ1 o = zL σ o)) → (∀ k, k ≠ 25 → k ≠ 30 → zI σ1 164 k = zI σ 164 k) → zI σ1 164 25 = iZ 0 → zI σ1 164 30 = iZ 0 → zL σ1 170 = zbg (zL σ 170) → Q σ1 none) : zCa 226 [.ref 164] σ Q := by
  refine w_enter (c := zk_X12_begins) (ls2 := [(0, .ref 164)]) rfl ⟨rfl, trivial⟩ ?_
  have h181 := hF.1
  refine w_ic (pc' := 1) ⟨rfl, rfl⟩ ?_
  refine w_istore_n (pc' := 2) ⟨rfl, rfl⟩ rfl ?_
  refine w_sto (show σ = (zrL σ 170 (zfil 0 (lZ 0) (zL σ 170))) by rw [zfil_0, zrL_self]) ?_
  refine w_at (ls2 := [(0, .ref 164), (1, .int (iZ ((0 : Nat) : Int)))]) ⟨rfl, rfl, trivial⟩ (l_beg1 hF 587 0 (by omega) ?_)
  have key : ∀ σ2, zFx σ2 → zA σ2 (zN σ) 13 8 → (∀ j, j < 8 → zL σ2 (zN σ) j = zbg8 j) → zN σ2 = zN σ + 1 → (∀ o, o < 181 → zR σ2 o = zR σ o ∧ zI σ2 o = zI σ o ∧ (o ≠ 170 → zL σ2 o = zL σ o)) → zL σ2 170 = zfil 587 (lZ 0) (zL σ 170) → zP zk_X12_begins 73 [(0, .ref 164), (1, .ref (zN σ)), (2, .int (iZ ((0 : Nat) : Int)))] [] σ2 Q := by
    intro σ2 hF2 hA2 h8 hN2 hfr h170
    refine w_sto (show σ2 = (zrL σ2 170 (zcpa 3 0 zbg8 (zL σ2 170))) by rw [zcpa_0, zrL_self]) ?_
    refine l_beg2 hF2 hA2 (by omega) h8 8 0 (by omega) ?_
    refine w_aload_n (pc' := 97) ⟨rfl, rfl⟩ rfl ?_
    refine w_ic (pc' := 98) ⟨rfl, rfl⟩ ?_
    refine w_putZ (pc' := 101) (cl := 10) (q := 25) ⟨rfl, rfl⟩ ⟨rfl, by decide⟩ (zOl hF2 rfl) (by decide) ?_
    refine w_aload_n (pc' := 102) ⟨rfl, rfl⟩ rfl ?_
    refine w_ic (pc' := 103) ⟨rfl, rfl⟩ ?_
    refine w_putI (pc' := 106) (cl := 10) (q := 30) ⟨rfl, rfl⟩ ⟨rfl, by decide⟩ (zOl hF2 rfl) ?_
    refine w_return (pc' := 107) ⟨rfl, rfl⟩ ?_
    refine k _ hF2 (by exact hN2) (fun o ho => ⟨(hfr o ho).1, fun h => ?_, fun h => ?_⟩) (fun q h1 h2 => ?_) rfl rfl ?_
    · funext q; rw [zI_wI_n (Or.inl h), zI_wI_n (Or.inl h)]; exact congrFun (hfr o ho).2.1 q
    · rw [show zL (zwI (zwI (zrL σ2 170 (zcpa 3 8 zbg8 (zL σ2 170))) 164 25 (iZ 0)) 164 30 (iZ 0)) o = zL σ2 o from zL_rLn h]; exact (hfr o ho).2.2 h
    · rw [zI_wI_n (Or.inr h2), zI_wI_n (Or.inr h1)]; exact congrFun (hfr 164 (by decide)).2.1 q
    · show zcpa 3 8 zbg8 (zL σ2 170) = _
      rw [h170]; rfl
  refine w_bi (pc' := 24) ⟨rfl, rfl⟩ (by decide) ?_
  refine w_newa (pc' := 26) ⟨rfl, rfl⟩ ⟨by decide, zLY8 h181⟩ ⟨by decide, rfl⟩ ?_
  refine w_dupR (pc' := 27) ⟨rfl, rfl⟩ ?_
  refine w_ic (pc' := 28) ⟨rfl, rfl⟩ ?_
  refine w_ldc2Y (pc' := 31) (z := 4) ⟨rfl, rfl⟩ rfl ?_
  refine w_last (pc' := 32) ⟨rfl, rfl⟩ ⟨Nat.lt_succ_self _, zLY8 h181, h6⟩ (zixA (a := 0) (j := 0) (by decide)) ?_
  refine w_dupR (pc' := 33) ⟨rfl, rfl⟩ ?_
  refine w_ic (pc' := 34) ⟨rfl, rfl⟩ ?_
  refine w_ldc2Y (pc' := 37) (z := 7) ⟨rfl, rfl⟩ rfl ?_
  refine w_last (pc' := 38) ⟨rfl, rfl⟩ ⟨Nat.lt_succ_self _, zLY8 h181, h6⟩ (zixA (a := 1) (j := 1) (by decide)) ?_
  refine w_dupR (pc' := 39) ⟨rfl, rfl⟩ ?_
  refine w_ic (pc' := 40) ⟨rfl, rfl⟩ ?_
  refine w_ldc2Y (pc' := 43) (z := 8) ⟨rfl, rfl⟩ rfl ?_
  refine w_last (pc' := 44) ⟨rfl, rfl⟩ ⟨Nat.lt_succ_self _, zLY8 h181, h6⟩ (zixA (a := 2) (j := 2) (by decide)) ?_
  refine w_dupR (pc' := 45) ⟨rfl, rfl⟩ ?_
  refine w_ic (pc' := 46) ⟨rfl, rfl⟩ ?_
  refine w_ldc2Y (pc' := 49) (z := 34) ⟨rfl, rfl⟩ rfl ?_
  refine w_last (pc' := 50) ⟨rfl, rfl⟩ ⟨Nat.lt_succ_self _, zLY8 h181, h6⟩ (zixA (a := 3) (j := 3) (by decide)) ?_
  refine w_dupR (pc' := 51) ⟨rfl, rfl⟩ ?_
  refine w_ic (pc' := 52) ⟨rfl, rfl⟩ ?_
  refine w_ldc2Y (pc' := 55) (z := 10) ⟨rfl, rfl⟩ rfl ?_
  refine w_last (pc' := 56) ⟨rfl, rfl⟩ ⟨Nat.lt_succ_self _, zLY8 h181, h6⟩ (zixA (a := 4) (j := 4) (by decide)) ?_
  refine w_dupR (pc' := 57) ⟨rfl, rfl⟩ ?_
  refine w_ic (pc' := 58) ⟨rfl, rfl⟩ ?_
  refine w_lc (pc' := 59) (z := 0) ⟨rfl, rfl⟩ rfl ?_
  refine w_last (pc' := 60) ⟨rfl, rfl⟩ ⟨Nat.lt_succ_self _, zLY8 h181, h6⟩ (zixA (a := 5) (j := 5) (by decide)) ?_
  refine w_dupR (pc' := 61) ⟨rfl, rfl⟩ ?_
  refine w_bi (pc' := 63) ⟨rfl, rfl⟩ (by decide) ?_
  refine w_lc (pc' := 64) (z := 0) ⟨rfl, rfl⟩ rfl ?_
  refine w_last (pc' := 65) ⟨rfl, rfl⟩ ⟨Nat.lt_succ_self _, zLY8 h181, h6⟩ (zixA (a := 6) (j := 6) (by decide)) ?_
  refine w_dupR (pc' := 66) ⟨rfl, rfl⟩ ?_
  refine w_bi (pc' := 68) ⟨rfl, rfl⟩ (by decide) ?_
  refine w_lc (pc' := 69) (z := 1) ⟨rfl, rfl⟩ rfl ?_
  refine w_last (pc' := 70) ⟨rfl, rfl⟩ ⟨Nat.lt_succ_self _, zLY8 h181, h6⟩ (zixA (a := 7) (j := 7) (by decide)) ?_
  refine w_astore_n (pc' := 71) ⟨rfl, rfl⟩ rfl ?_
  refine w_ic (pc' := 72) ⟨rfl, rfl⟩ ?_
  refine w_istore_n (pc' := 73) ⟨rfl, rfl⟩ rfl ?_
  refine w_at (ls2 := [(0, .ref 164), (1, .ref (zN σ)), (2, .int (iZ ((0 : Nat) : Int)))]) ⟨rfl, rfl, rfl, trivial⟩ (key _ (zFx_new hF) ⟨Nat.lt_succ_self _, zLY8 h181, h6⟩ (fun j hj => ?_) rfl (fun o ho => ⟨?_, ?_, fun h => ?_⟩) ?_)
  · rcases (show j = 0 ∨ j = 1 ∨ j = 2 ∨ j = 3 ∨ j = 4 ∨ j = 5 ∨ j = 6 ∨ j = 7 by omega) with rfl | rfl | rfl | rfl | rfl | rfl | rfl | rfl <;> simp [zL_wL, zbg8, show zN (zrL σ 170 (zfil 587 (lZ 0) (zL σ 170))) = zN σ from rfl]
  · exact zR_newo (σ := (zrL σ 170 (zfil 587 (lZ 0) (zL σ 170)))) (by show o < zN σ; omega)
  · exact zI_newo (σ := (zrL σ 170 (zfil 587 (lZ 0) (zL σ 170)))) (by show o < zN σ; omega)
  · funext q
    rw [zL_wL_n (Or.inl (by show o ≠ zN σ; omega)), zL_wL_n (Or.inl (by show o ≠ zN σ; omega)), zL_wL_n (Or.inl (by show o ≠ zN σ; omega)), zL_wL_n (Or.inl (by show o ≠ zN σ; omega)), zL_wL_n (Or.inl (by show o ≠ zN σ; omega)), zL_wL_n (Or.inl (by show o ≠ zN σ; omega)), zL_wL_n (Or.inl (by show o ≠ zN σ; omega)), zL_wL_n (Or.inl (by show o ≠ zN σ; omega))]
    rw [zL_newo (σ := (zrL σ 170 (zfil 587 (lZ 0) (zL σ 170)))) (by show o < zN σ; omega), zL_rLn h]
  · funext q
    rw [zL_wL_n (Or.inl (by show 170 ≠ zN σ; omega)), zL_wL_n (Or.inl (by show 170 ≠ zN σ; omega)), zL_wL_n (Or.inl (by show 170 ≠ zN σ; omega)), zL_wL_n (Or.inl (by show 170 ≠ zN σ; omega)), zL_wL_n (Or.inl (by show 170 ≠ zN σ; omega)), zL_wL_n (Or.inl (by show 170 ≠ zN σ; omega)), zL_wL_n (Or.inl (by show 170 ≠ zN σ; omega)), zL_wL_n (Or.inl (by show 170 ≠ zN σ; omega))]
    rw [zL_newo (σ := (zrL σ 170 (zfil 587 (lZ 0) (zL σ 170)))) (by show 170 < zN σ; omega), zL_rLs]
