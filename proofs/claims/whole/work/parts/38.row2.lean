/-! VALUES of a record taken, compared -/
/-- values of a record, field by field, 0 behind them: up to cell i of field f -/
def zTk (t : zBk) (s : Nat) (g : Nat → Nat → Int64) (F : zRw0) (f i : Nat) : Prop := (∀ h j : Nat, (h < f ∧ (j : Int) < zCE t s h) ∨ (h = f ∧ j < i) → F ((zst t s h).toNat + j) = g h j) ∧ ∀ q : Nat, (zst t s f).toNat + i ≤ q → F q = lZ 0
def zVa (t : zBk) (s : Nat) (g : Nat → Nat → Int64) (F : zRw0) : Prop := zTk t s g F (zNF t s).toNat 0
theorem zTk_s {t : zBk} {s : Nat} (hV : zVs t s) {g : Nat → Nat → Int64} {F : zRw0} {f i : Nat} (h : zTk t s g F f i) (hf : (f : Int) < zNF t s) (hi : (i : Int) < zCE t s f) : zTk t s g (va_up F ((zst t s f).toNat + i) (g f i)) f (i + 1) := by
  refine ⟨fun u j hj => ?_, fun q hq => ?_⟩
  · unfold va_up
    by_cases he : u = f ∧ j = i
    · obtain ⟨rfl, rfl⟩ := he
      rw [if_pos rfl]
    · have h2 : (u < f ∧ (j : Int) < zCE t s u) ∨ (u = f ∧ j < i) := by omega
      rw [if_neg ?_]
      · exact h.1 u j h2
      · rcases h2 with h2 | h2
        · have h3 := zst_mono hV f h2.1 (by omega)
          have h4 := zst_rng hV u (by omega)
          omega
        · obtain ⟨rfl, h2⟩ := h2; omega
  · unfold va_up
    rw [if_neg (by omega)]
    exact h.2 q (by omega)
theorem zTk_n {t : zBk} {s : Nat} (hV : zVs t s) {g : Nat → Nat → Int64} {F : zRw0} {f : Nat} {i : Nat} (h : zTk t s g F f i) (hf : (f : Int) < zNF t s) (hi : (i : Int) = zCE t s f) : zTk t s g F (f + 1) 0 := by
  have h4 := zst_rng hV f (by omega)
  have e : zst t s (f + 1) = zst t s f + zCE t s f := rfl
  refine ⟨fun u j hj => h.1 u j ?_, fun q hq => h.2 q (by omega)⟩
  rcases hj with hj | hj
  · by_cases hu : u = f
    · subst hu; exact Or.inr ⟨rfl, by omega⟩
    · exact Or.inl ⟨by omega, hj.2⟩
  · omega
theorem zTk_0 {t : zBk} {s : Nat} {g : Nat → Nat → Int64} {F : zRw0} (h : ∀ q, F q = lZ 0) : zTk t s g F 0 0 := ⟨fun u j hj => by omega, fun q _ => h q⟩
theorem zva_n {m : zRw0} {n : Nat} {v : Int64} (q : Nat) (h : q < n) : zfil n v m q = v := by unfold zfil; rw [if_pos h]
/-- of rows of n places: those at which two are unlike, as bits -/
def zdif (A B : zRw0) : Nat → Int64
  | 0 => lZ 0
  | i + 1 => if A i = B i then zdif A B i else zdif A B i ||| (lZ 1 <<< ((iZ i).toInt64 &&& 63))
/-- records alike in a field: r, q; how many are like r, among the first k; the most -/
abbrev zal (g : Nat → Nat → Int64) (n r q : Nat) : Prop := ∀ i, i < n → g r i = g q i
def zct (g : Nat → Nat → Int64) (n r : Nat) : Nat → Int
  | 0 => 0
  | k + 1 => zct g n r k + if zal g n r k then 1 else 0
def zmo (g : Nat → Nat → Int64) (n c : Nat) : Nat → Int
  | 0 => 0
  | k + 1 => max (zmo g n c k) (zct g n k c)
theorem zct_rng (g : Nat → Nat → Int64) (n r : Nat) : ∀ k, 0 ≤ zct g n r k ∧ zct g n r k ≤ k
  | 0 => by unfold zct; omega
  | k + 1 => by
    have := zct_rng g n r k
    unfold zct
    split <;> omega
theorem zmo_rng (g : Nat → Nat → Int64) (n c : Nat) : ∀ k, 0 ≤ zmo g n c k ∧ zmo g n c k ≤ c
  | 0 => by unfold zmo; omega
  | k + 1 => by
    have := zmo_rng g n c k
    have := zct_rng g n k c
    unfold zmo
    omega
theorem l_tk2 {σ : zSt} {o s r a N : Nat} {t : zBk} (hF : zFx σ) (hO : zIsS o) (hS : zSh σ o t s) (hV : zVs t s) (hs : s < 3) (hr : r < 8) (hA : zA σ a 13 N) (hN : 24 ≤ N ∧ N ≤ 1000) (ha : a ≠ 80) {f : Nat} (hf : (f : Int) < zNF t s) {Q : zSt → Option Value → Prop} : ∀ (j : Nat) (i : Nat) (F : zRw0), ((i : Int) + j = zCE t s f) → zTk t s (fun f i => zvl (zKD t s f) (zL σ 80 (zpq t s f r i))) F f i → (∀ F, zTk t s (fun f i => zvl (zKD t s f) (zL σ 80 (zpq t s f r i))) F (f + 1) 0 → zP zk_X6_takeValues 101 [(0, .ref 79), (1, .int (iZ s)), (2, .ref o), (3, .int (iZ r)), (4, .ref a), (5, .int (iZ f))] [] (zrL σ a F) Q) → zP zk_X6_takeValues 43 [(0, .ref 79), (1, .int (iZ s)), (2, .ref o), (3, .int (iZ r)), (4, .ref a), (5, .int (iZ f)), (6, .int (iZ (zCE t s f))), (7, .int (iZ i))] [] (zrL σ a F) Q := by
  intro j
  induction j with
  | zero =>
    intro i F hi hT k
    have hce := (hV.2 f hf).2
    refine w_iload (pc' := 45) ⟨rfl, rfl⟩ rfl ?_
    refine w_iload (pc' := 47) ⟨rfl, rfl⟩ rfl ?_
    refine w_icT_ge (pc' := 50) (pcT := 101) ⟨rfl, rfl⟩ rfl (by omega) ?_
    refine w_at ?_ (k F (zTk_n hV hT hf (by omega)))
    exact ⟨rfl, rfl, rfl, rfl, rfl, rfl, trivial⟩
  | succ j ih =>
    intro i F hi hT k
    have hce := (hV.2 f hf).2
    have h24 := zst_24 hV hf
    have hn := hV.1
    refine w_iload (pc' := 45) ⟨rfl, rfl⟩ rfl ?_
    refine w_iload (pc' := 47) ⟨rfl, rfl⟩ rfl ?_
    refine w_icF_ge (pc' := 50) ⟨rfl, rfl⟩ (by omega) ?_
    refine w_aload_n (pc' := 51) ⟨rfl, rfl⟩ rfl ?_
    refine w_getR (pc' := 54) (cl := 6) (q := 3) ⟨rfl, rfl⟩ ⟨rfl, by decide⟩ (hO.o hF) (hO.p hF).2.2.2 ?_
    refine w_iload (pc' := 56) ⟨rfl, rfl⟩ rfl ?_
    refine w_iald (pc' := 57) ⟨rfl, rfl⟩ (hO.a hF).2.2.2 (zixZ (by omega)) (hS.2.2 f hf).2.2 ?_
    refine w_iload (pc' := 59) ⟨rfl, rfl⟩ rfl ?_
    refine w_iaddZ (pc' := 60) ⟨rfl, rfl⟩ ?_
    refine w_istore (pc' := 62) ⟨rfl, rfl⟩ rfl ?_
    refine w_iload (pc' := 64) ⟨rfl, rfl⟩ rfl ?_
    refine w_ifF_lt (pc' := 67) ⟨rfl, rfl⟩ (by omega) ?_
    refine w_iload (pc' := 69) ⟨rfl, rfl⟩ rfl ?_
    refine w_aload (pc' := 71) ⟨rfl, rfl⟩ rfl ?_
    refine w_alenZ (pc' := 72) ⟨rfl, rfl⟩ (zA_rL hA) (by decide) ?_
    refine w_icF_ge (pc' := 75) ⟨rfl, rfl⟩ (by omega) ?_
    refine w_aload (pc' := 77) ⟨rfl, rfl⟩ rfl ?_
    refine w_iload (pc' := 79) ⟨rfl, rfl⟩ rfl ?_
    refine w_aload_n (pc' := 80) ⟨rfl, rfl⟩ rfl ?_
    refine w_iload_n (pc' := 81) ⟨rfl, rfl⟩ rfl ?_
    refine w_aload_n (pc' := 82) ⟨rfl, rfl⟩ rfl ?_
    refine w_iload (pc' := 84) ⟨rfl, rfl⟩ rfl ?_
    refine w_iload_n (pc' := 85) ⟨rfl, rfl⟩ rfl ?_
    refine w_iload (pc' := 87) ⟨rfl, rfl⟩ rfl ?_
    refine w_imulZ (pc' := 88) ⟨rfl, rfl⟩ ?_
    refine w_iload (pc' := 90) ⟨rfl, rfl⟩ rfl ?_
    refine w_iaddZ (pc' := 91) ⟨rfl, rfl⟩ ?_
    refine w_cv5 (pc' := 94) ⟨rfl, rfl⟩ (by decide) (zOl hF rfl) (Nat.le_of_ble_eq_true rfl) (Nat.le_of_ble_eq_true rfl) (c_valueAt (zFx_rL hF) hO hS hV hs hf hr (by omega) rfl ?_)
    rw [zL_rLn (Ne.symm ha)]
    refine w_last (pc' := 95) ⟨rfl, rfl⟩ (zA_rL hA) (zixA (j := (zst t s f).toNat + i) (by omega)) ?_
    refine w_iincZ (pc' := 98) ⟨rfl, rfl⟩ rfl rfl ?_
    refine w_goto (pc' := 101) (pcT := 43) ⟨rfl, rfl⟩ rfl ?_
    refine w_sto zwL_rL ?_
    refine w_at ?_ (ih (i + 1) _ (by omega) (zTk_s hV hT hf (by omega)) k)
    exact ⟨rfl, rfl, rfl, rfl, rfl, rfl, rfl, rfl, trivial⟩
theorem l_tk1 {σ : zSt} {o s r a N : Nat} {t : zBk} (hF : zFx σ) (hO : zIsS o) (hS : zSh σ o t s) (hV : zVs t s) (hs : s < 3) (hr : r < 8) (hA : zA σ a 13 N) (hN : 24 ≤ N ∧ N ≤ 1000) (ha : a ≠ 80) {Q : zSt → Option Value → Prop} : ∀ (j : Nat) (f : Nat) (F : zRw0), ((f : Int) + j = zNF t s) → zTk t s (fun f i => zvl (zKD t s f) (zL σ 80 (zpq t s f r i))) F f 0 → (∀ F, zVa t s (fun f i => zvl (zKD t s f) (zL σ 80 (zpq t s f r i))) F → Q (zrL σ a F) none) → zP zk_X6_takeValues 9 [(0, .ref 79), (1, .int (iZ s)), (2, .ref o), (3, .int (iZ r)), (4, .ref a), (5, .int (iZ f))] [] (zrL σ a F) Q := by
  intro j
  induction j with
  | zero =>
    intro f F hj hT k
    have hn := hV.1
    refine w_iload (pc' := 11) ⟨rfl, rfl⟩ rfl ?_
    refine w_aload_n (pc' := 12) ⟨rfl, rfl⟩ rfl ?_
    refine w_getI (pc' := 15) (cl := 6) (q := 5) ⟨rfl, rfl⟩ ⟨rfl, by decide⟩ (hO.o hF) hS.1 ?_
    refine w_icT_ge (pc' := 18) (pcT := 107) ⟨rfl, rfl⟩ rfl (by omega) ?_
    refine w_return (pc' := 108) ⟨rfl, rfl⟩ ?_
    exact k F (by unfold zVa; rw [show (zNF t s).toNat = f by omega]; exact hT)
  | succ j ih =>
    intro f F hj hT k
    have hn := hV.1
    have hf : (f : Int) < zNF t s := by omega
    have hce := (hV.2 f hf).2
    refine w_iload (pc' := 11) ⟨rfl, rfl⟩ rfl ?_
    refine w_aload_n (pc' := 12) ⟨rfl, rfl⟩ rfl ?_
    refine w_getI (pc' := 15) (cl := 6) (q := 5) ⟨rfl, rfl⟩ ⟨rfl, by decide⟩ (hO.o hF) hS.1 ?_
    refine w_icF_ge (pc' := 18) ⟨rfl, rfl⟩ (by omega) ?_
    refine w_aload_n (pc' := 19) ⟨rfl, rfl⟩ rfl ?_
    refine w_iload (pc' := 21) ⟨rfl, rfl⟩ rfl ?_
    refine w_cv2 (pc' := 24) ⟨rfl, rfl⟩ (by decide) (hO.o hF) (Nat.le_of_ble_eq_true rfl) (Nat.le_of_ble_eq_true rfl) (c_hasField (zFx_rL hF) hO hS hV (by omega) (fun h => ?_) (fun h => ?_))
    · refine w_ifF_eq (pc' := 27) ⟨rfl, rfl⟩ (by decide) ?_
      refine w_aload_n (pc' := 28) ⟨rfl, rfl⟩ rfl ?_
      refine w_getR (pc' := 31) (cl := 6) (q := 2) ⟨rfl, rfl⟩ ⟨rfl, by decide⟩ (hO.o hF) (hO.p hF).2.2.1 ?_
      refine w_iload (pc' := 33) ⟨rfl, rfl⟩ rfl ?_
      refine w_iald (pc' := 34) ⟨rfl, rfl⟩ (hO.a hF).2.2.1 (zixZ (by omega)) (hS.2.2 f hf).2.1 ?_
      refine w_goto (pc' := 37) (pcT := 38) ⟨rfl, rfl⟩ rfl ?_
      refine w_istore (pc' := 40) ⟨rfl, rfl⟩ rfl ?_
      refine w_ic (pc' := 41) ⟨rfl, rfl⟩ ?_
      refine w_istore (pc' := 43) ⟨rfl, rfl⟩ rfl ?_
      refine w_at (ls2 := [(0, .ref 79), (1, .int (iZ s)), (2, .ref o), (3, .int (iZ r)), (4, .ref a), (5, .int (iZ f)), (6, .int (iZ (zCE t s f))), (7, .int (iZ ((0 : Nat) : Int)))]) ⟨rfl, rfl, rfl, rfl, rfl, rfl, rfl, rfl, trivial⟩ (l_tk2 hF hO hS hV hs hr hA hN ha hf (zCE t s f).toNat 0 F (by omega) hT (fun F hT => ?_))
      refine w_iincZ (pc' := 104) ⟨rfl, rfl⟩ rfl rfl ?_
      refine w_goto (pc' := 107) (pcT := 9) ⟨rfl, rfl⟩ rfl ?_
      refine w_at ?_ (ih (f + 1) F (by omega) hT k)
      exact ⟨rfl, rfl, rfl, rfl, rfl, rfl, trivial⟩
    · exfalso; omega
theorem c_takeValues {σ : zSt} {o s r a : Nat} {t : zBk} (hF : zFx σ) (hO : zIsS o) (hS : zSh σ o t s) (hV : zVs t s) (hs : s < 3) (hr : r < 8) (hA : zA σ a 13 24) (ha : a ≠ 80) {Q : zSt → Option Value → Prop} (hz : ∀ q, 24 ≤ q → zL σ a q = lZ 0) (k : ∀ F, zVa t s (fun f i => zvl (zKD t s f) (zL σ 80 (zpq t s f r i))) F → Q (zrL σ a F) none) : zCa 86 [.ref 79, .int (iZ s), .ref o, .int (iZ r), .ref a] σ Q := by
  refine w_enter (c := zk_X6_takeValues) (ls2 := [(0, .ref 79), (1, .int (iZ s)), (2, .ref o), (3, .int (iZ r)), (4, .ref a)]) rfl ⟨rfl, rfl, rfl, rfl, rfl, trivial⟩ ?_
  have hn := hV.1
  refine w_aload (pc' := 2) ⟨rfl, rfl⟩ rfl ?_
  refine w_lc (pc' := 3) (z := 0) ⟨rfl, rfl⟩ rfl ?_
  refine w_cs2 (pc' := 6) ⟨rfl, rfl⟩ (by decide) (Nat.le_of_ble_eq_true rfl) (Nat.le_of_ble_eq_true rfl) (j_fill hA (by omega) ?_)
  refine w_ic (pc' := 7) ⟨rfl, rfl⟩ ?_
  refine w_istore (pc' := 9) ⟨rfl, rfl⟩ rfl ?_
  refine w_at ?_ (l_tk1 hF hO hS hV hs hr hA (by omega) ha (zNF t s).toNat 0 _ (by omega) (zTk_0 (fun q => ?_)) k)
  · exact ⟨rfl, rfl, rfl, rfl, rfl, rfl, trivial⟩
  · unfold zfil; split
    · rfl
    · exact hz q (by omega)
theorem l_differing {σ : zSt} {a b : Nat} (hA : zA σ a 13 24) (hB : zA σ b 13 24) {Q : zSt → Option Value → Prop} : ∀ (j : Nat) (i : Nat), i + j = 24 → (Q σ (some (.long (zdif (zL σ a) (zL σ b) 24)))) → zP zk_X11_differing 5 [(0, .ref a), (1, .ref b), (2, .long (zdif (zL σ a) (zL σ b) i)), (4, .int (iZ i))] [] σ Q := by
  intro j
  induction j with
  | zero =>
    intro i hi k
    obtain rfl : i = 24 := by omega
    refine w_iload (pc' := 7) ⟨rfl, rfl⟩ rfl ?_
    refine w_aload_n (pc' := 8) ⟨rfl, rfl⟩ rfl ?_
    refine w_alenZ (pc' := 9) ⟨rfl, rfl⟩ hA (by decide) ?_
    refine w_icT_ge (pc' := 12) (pcT := 44) ⟨rfl, rfl⟩ rfl (by omega) ?_
    refine w_lload_n (pc' := 45) ⟨rfl, rfl⟩ rfl ?_
    refine w_lreturn (pc' := 46) ⟨rfl, rfl⟩ ?_
    exact k
  | succ j ih =>
    intro i hi k
    refine w_iload (pc' := 7) ⟨rfl, rfl⟩ rfl ?_
    refine w_aload_n (pc' := 8) ⟨rfl, rfl⟩ rfl ?_
    refine w_alenZ (pc' := 9) ⟨rfl, rfl⟩ hA (by decide) ?_
    refine w_icF_ge (pc' := 12) ⟨rfl, rfl⟩ (by omega) ?_
    refine w_iload (pc' := 14) ⟨rfl, rfl⟩ rfl ?_
    refine w_aload_n (pc' := 15) ⟨rfl, rfl⟩ rfl ?_
    refine w_alenZ (pc' := 16) ⟨rfl, rfl⟩ hB (by decide) ?_
    refine w_icF_ge (pc' := 19) ⟨rfl, rfl⟩ (by omega) ?_
    refine w_aload_n (pc' := 20) ⟨rfl, rfl⟩ rfl ?_
    refine w_iload (pc' := 22) ⟨rfl, rfl⟩ rfl ?_
    refine w_lald (pc' := 23) ⟨rfl, rfl⟩ hA (zixZ (by omega)) rfl ?_
    refine w_aload_n (pc' := 24) ⟨rfl, rfl⟩ rfl ?_
    refine w_iload (pc' := 26) ⟨rfl, rfl⟩ rfl ?_
    refine w_lald (pc' := 27) ⟨rfl, rfl⟩ hB (zixZ (by omega)) rfl ?_
    refine w_lcmp (pc' := 28) ⟨rfl, rfl⟩ ?_
    refine w_ifc_eq (pc' := 31) (pcT := 38) ⟨rfl, rfl⟩ rfl (fun h1 => ?_) (fun h1 => ?_)
    · refine w_iincZ (pc' := 41) ⟨rfl, rfl⟩ rfl rfl ?_
      refine w_goto (pc' := 44) (pcT := 5) ⟨rfl, rfl⟩ rfl ?_
      refine w_at ?_ (ih (i + 1) (by omega) k)
      exact ⟨rfl, rfl, by rw [zdif]; first | (rw [if_pos (by assumption)]; rfl) | (rw [if_neg (by assumption)]; rfl), rfl, trivial⟩
    · refine w_lload_n (pc' := 32) ⟨rfl, rfl⟩ rfl ?_
      refine w_lc (pc' := 33) (z := 1) ⟨rfl, rfl⟩ rfl ?_
      refine w_iload (pc' := 35) ⟨rfl, rfl⟩ rfl ?_
      refine w_lshl (pc' := 36) ⟨rfl, rfl⟩ ?_
      refine w_lor (pc' := 37) ⟨rfl, rfl⟩ ?_
      refine w_lstore_n (pc' := 38) ⟨rfl, rfl⟩ rfl rfl ?_
      refine w_iincZ (pc' := 41) ⟨rfl, rfl⟩ rfl rfl ?_
      refine w_goto (pc' := 44) (pcT := 5) ⟨rfl, rfl⟩ rfl ?_
      refine w_at ?_ (ih (i + 1) (by omega) k)
      exact ⟨rfl, rfl, by rw [zdif]; first | (rw [if_pos (by assumption)]; rfl) | (rw [if_neg (by assumption)]; rfl), rfl, trivial⟩
theorem c_differing {σ : zSt} {a b : Nat} (hA : zA σ a 13 24) (hB : zA σ b 13 24) {Q : zSt → Option Value → Prop} (k : Q σ (some (.long (zdif (zL σ a) (zL σ b) 24)))) : zCa 150 [.ref a, .ref b] σ Q := by
  refine w_enter (c := zk_X11_differing) (ls2 := [(0, .ref a), (1, .ref b)]) rfl ⟨rfl, rfl, trivial⟩ ?_
  refine w_lc (pc' := 1) (z := 0) ⟨rfl, rfl⟩ rfl ?_
  refine w_lstore_n (pc' := 2) ⟨rfl, rfl⟩ rfl rfl ?_
  refine w_ic (pc' := 3) ⟨rfl, rfl⟩ ?_
  refine w_istore (pc' := 5) ⟨rfl, rfl⟩ rfl ?_
  refine w_at ?_ (l_differing hA hB 24 0 rfl k)
  exact ⟨rfl, rfl, rfl, rfl, trivial⟩
