/-! of whole, what this claim takes: 59.aprw.lean.txt -/
def zbO (o : Nat) : Prop := (5 ≤ o ∧ o ≤ 54) ∨ (114 ≤ o ∧ o ≤ 163)
def zEb (σ σ' : zSt) : Prop := ∀ o, zbO o → zI σ' o = zI σ o
theorem zEb.refl {σ : zSt} : zEb σ σ := fun _ _ => rfl
theorem zEb.wI {σ σ' : zSt} (h : zEb σ σ') {o k : Nat} {v : Int32} (ho : ¬ zbO o) : zEb σ (zwI σ' o k v) := fun q hq => by
  rw [← h q hq]; funext j; exact zI_wI_n (Or.inl (fun e => ho (e ▸ hq)))
theorem zEb.rL {σ σ' : zSt} (h : zEb σ σ') {o : Nat} {f : Nat → Int64} : zEb σ (zrL σ' o f) := h
theorem zEb.trans {σ σ1 σ' : zSt} (h : zEb σ σ1) (g : zEb σ1 σ') : zEb σ σ' := fun q hq => (g q hq).trans (h q hq)
theorem zPl.eb {σ σ' : zSt} {p : Nat} {t : zBk} (h : zPl σ p t) (hP : zIsB p) (hVt : zVt t) (e : zEb σ σ') : zPl σ' p t := by
  have h0 := hVt.1
  have h1 := hVt.2.1
  have hb : ∀ j, j ≤ 49 → zbO (p + j) := fun j hj => by rcases hP with rfl | rfl <;> unfold zbO <;> omega
  refine ⟨?_, ?_, fun s hs => ?_, trivial⟩
  · rw [e p (hb 0 (by omega))]; exact h.1
  · rw [e p (hb 0 (by omega))]; exact h.2.1
  · obtain ⟨a1, a2, a3⟩ := h.2.2.1 s hs
    have q0 := e (p + 3 + 5 * s) (by rw [show p + 3 + 5 * s = p + (3 + 5 * s) by omega]; exact hb _ (by omega))
    have q2 := e (p + 3 + 5 * s + 2) (by rw [show p + 3 + 5 * s + 2 = p + (5 + 5 * s) by omega]; exact hb _ (by omega))
    have q3 := e (p + 3 + 5 * s + 3) (by rw [show p + 3 + 5 * s + 3 = p + (6 + 5 * s) by omega]; exact hb _ (by omega))
    have q4 := e (p + 3 + 5 * s + 4) (by rw [show p + 3 + 5 * s + 4 = p + (7 + 5 * s) by omega]; exact hb _ (by omega))
    refine ⟨by rw [q0]; exact a1, by rw [q0]; exact a2, fun f hf => ?_⟩
    rw [q2, q3, q4]; exact a3 f hf
theorem zwI_wI {σ : zSt} {o k : Nat} {a b : Int32} : zwI (zwI σ o k a) o k b = zwI σ o k b := by
  show (va_up (va_up σ.1 o (va_up (σ.1 o) k a)) o (va_up (va_up σ.1 o (va_up (σ.1 o) k a) o) k b), σ.2) = (va_up σ.1 o (va_up (σ.1 o) k b), σ.2)
  congr 1
  funext q
  unfold va_up
  by_cases h : q = o
  · subst h; rw [if_pos rfl, if_pos rfl]; funext j; by_cases h2 : j = k
    · simp [h2]
    · simp [h2]
  · rw [if_neg h, if_neg h, if_neg h]
def zkC (σ : zSt) (x : Nat) (y : Int) : zSt := zwI (zwI (zrL σ (82 + x) (va_cpy (zL σ 80) (zL σ (82 + x)) 0 0 587)) 79 2 (iZ (((x : Int) + 1) % 20))) 79 3 (iZ (min (y + 1) 20))
theorem zEb.kC {σ σ' : zSt} (h : zEb σ σ') {x : Nat} {y : Int} : zEb σ (zkC σ' x y) := ((h.rL).wI (by unfold zbO; decide)).wI (by unfold zbO; decide)
theorem zkr_0 {t : zBk} (hVt : zVt t) {s row pl kd : Int} (h : zkr t s row pl kd = 0) : ∃ u f r i : Nat, s = u ∧ row = f ∧ (u : Int) < t 0 ∧ (f : Int) < zNF t u ∧ zrk t s row = zKD t u f ∧ zKD t u f ≤ 7 ∧ (0 ≤ kd ∧ kd ≤ 7) ∧ r < 8 ∧ (i : Int) < zCE t u f ∧ pl = r * zCE t u f + i ∧ (pl / zCE t u f).toNat = r ∧ (pl % zCE t u f).toNat = i ∧ 11 + 32 * (6 * (u : Int) + f) + pl = (zpr t u f r i : Nat) ∧ zpr t u f r i < 587 := by
  unfold zkr at h
  split at h
  · omega
  · rcases zrk_cases hVt s row with hk | ⟨u, rfl, hu, rfl, hk⟩ | ⟨u, f, rfl, rfl, hu, hf, hk⟩
    · rw [if_pos hk.1] at h; omega
    · rw [hk, if_neg (by omega), if_pos (by omega)] at h; omega
    · have hV := (hVt.2.2.1 u hu).1
      have hce := (hV.2 f hf)
      have h6 := zf6 hV hf
      have h3 := zu3 hVt hu
      rw [if_neg (by omega)] at h
      split at h
      · omega
      · split at h
        · omega
        · rename_i n1 n2 n3
          rw [show zlo t ↑u ↑f = 8 * zCE t u f by unfold zlo; rw [if_neg (by omega)]; rfl] at n3
          refine ⟨u, f, (pl / zCE t u f).toNat, (pl % zCE t u f).toNat, rfl, rfl, hu, hf, hk, by omega, by omega, ?_⟩
          unfold zpr
          have hce2 := hce.2
          generalize zCE t u f = e at *
          rcases (show e = 1 ∨ e = 2 ∨ e = 3 ∨ e = 4 by omega) with rfl | rfl | rfl | rfl <;> refine ⟨by omega, by omega, by omega, rfl, rfl, ?_, ?_⟩ <;> first | omega | (simp only [show (1 : Int).toNat = 1 from rfl, show (2 : Int).toNat = 2 from rfl, show (3 : Int).toNat = 3 from rfl, show (4 : Int).toNat = 4 from rfl]; omega)
def zvq (t : zBk) (g : Nat → Nat → Nat → Nat → Int64) (s row pl : Int) : Int64 := g s.toNat row.toNat (pl / zCE t s.toNat row.toNat).toNat (pl % zCE t s.toNat row.toNat).toNat
theorem zvq_e {t : zBk} {g : Nat → Nat → Nat → Nat → Int64} {u f r i : Nat} {pl : Int} (h1 : (pl / zCE t u f).toNat = r) (h2 : (pl % zCE t u f).toNat = i) : zvq t g u f pl = g u f r i := by
  unfold zvq; simp only [Int.toNat_natCast]; rw [h1, h2]
def zjq (t : zBk) (s row pl : Int) : Nat := zpq t s.toNat row.toNat (pl / zCE t s.toNat row.toNat).toNat (pl % zCE t s.toNat row.toNat).toNat
theorem zjq_e {t : zBk} {u f r i : Nat} {pl : Int} (h1 : (pl / zCE t u f).toNat = r) (h2 : (pl % zCE t u f).toNat = i) : zjq t u f pl = zpq t u f r i := by
  unfold zjq; simp only [Int.toNat_natCast]; rw [h1, h2]
theorem zthg_n {x : Int64} {k : Int} (h : k ≠ 9 ∧ k ≠ 10) : zthg x k = ztold x k := by unfold zthg; rw [if_neg h.1, if_neg h.2]
theorem c_length {σ : zSt} {p : Nat} {t : zBk} (hF : zFx σ) (hVt : zVt t) (hPp : zR σ 0 10 = some p) (hP : zIsB p) (hPl : zPl σ p t) {s row : Int} (hs : (-2147483648 ≤ s ∧ s ≤ 2147483647)) (hr0 : (-2147483648 ≤ row ∧ row ≤ 2147483647)) {Q : zSt → Option Value → Prop} (k : Q (zwI σ 0 12 (iZ (if zrk t s row < 0 then zrk t s row else 0))) (some (.int (iZ (if zrk t s row < 0 then zrk t s row else zlo t s row))))) : zCa 99 [.ref 0, .int (iZ s), .int (iZ row)] σ Q := by
  refine w_enter (c := zk_X11_length) (ls2 := [(0, .ref 0), (1, .int (iZ s)), (2, .int (iZ row))]) rfl ⟨rfl, rfl, rfl, trivial⟩ ?_
  rcases zrk_cases hVt s row with hk | ⟨u, rfl, hu, rfl, hk⟩ | ⟨u, f, rfl, rfl, hu, hf, hk⟩
  · rw [if_pos hk.1, if_pos hk.1] at k
    refine w_aload_n (pc' := 1) ⟨rfl, rfl⟩ rfl ?_
    refine w_iload_n (pc' := 2) ⟨rfl, rfl⟩ rfl ?_
    refine w_iload_n (pc' := 3) ⟨rfl, rfl⟩ rfl ?_
    refine w_cv3 (pc' := 6) ⟨rfl, rfl⟩ (by decide) (zOl hF rfl) (Nat.le_of_ble_eq_true rfl) (Nat.le_of_ble_eq_true rfl) (c_rowSort hF hVt hPp hP hPl (by omega) (by omega) ?_)
    refine w_istore_n (pc' := 7) ⟨rfl, rfl⟩ rfl ?_
    refine w_aload_n (pc' := 8) ⟨rfl, rfl⟩ rfl ?_
    refine w_iload_n (pc' := 9) ⟨rfl, rfl⟩ rfl ?_
    refine w_ifF_ge (pc' := 12) ⟨rfl, rfl⟩ (by omega) ?_
    refine w_iload_n (pc' := 13) ⟨rfl, rfl⟩ rfl ?_
    refine w_goto (pc' := 16) (pcT := 17) ⟨rfl, rfl⟩ rfl ?_
    refine w_putI (pc' := 20) (cl := 9) (q := 12) ⟨rfl, rfl⟩ ⟨rfl, by decide⟩ (zOl hF rfl) ?_
    refine w_iload_n (pc' := 21) ⟨rfl, rfl⟩ rfl ?_
    refine w_ifF_ge (pc' := 24) ⟨rfl, rfl⟩ (by omega) ?_
    refine w_iload_n (pc' := 25) ⟨rfl, rfl⟩ rfl ?_
    refine w_goto (pc' := 28) (pcT := 35) ⟨rfl, rfl⟩ rfl ?_
    refine w_ireturn (pc' := 36) ⟨rfl, rfl⟩ (Or.inl rfl) ?_
    exact k
  · rw [if_neg (by omega), if_neg (by omega)] at k
    have ht0 := hVt.1
    have hPl1 : zPl (zwI σ 0 12 (iZ 0)) p t := hPl.eb hP hVt (zEb.refl.wI (by unfold zbO; decide))
    refine w_aload_n (pc' := 1) ⟨rfl, rfl⟩ rfl ?_
    refine w_iload_n (pc' := 2) ⟨rfl, rfl⟩ rfl ?_
    refine w_iload_n (pc' := 3) ⟨rfl, rfl⟩ rfl ?_
    refine w_cv3 (pc' := 6) ⟨rfl, rfl⟩ (by decide) (zOl hF rfl) (Nat.le_of_ble_eq_true rfl) (Nat.le_of_ble_eq_true rfl) (c_rowSort hF hVt hPp hP hPl (by omega) (by omega) ?_)
    refine w_istore_n (pc' := 7) ⟨rfl, rfl⟩ rfl ?_
    refine w_aload_n (pc' := 8) ⟨rfl, rfl⟩ rfl ?_
    refine w_iload_n (pc' := 9) ⟨rfl, rfl⟩ rfl ?_
    refine w_ifT_ge (pc' := 12) (pcT := 16) ⟨rfl, rfl⟩ rfl (by omega) ?_
    refine w_ic (pc' := 17) ⟨rfl, rfl⟩ ?_
    refine w_putI (pc' := 20) (cl := 9) (q := 12) ⟨rfl, rfl⟩ ⟨rfl, by decide⟩ (zOl hF rfl) ?_
    refine w_iload_n (pc' := 21) ⟨rfl, rfl⟩ rfl ?_
    refine w_ifT_ge (pc' := 24) (pcT := 28) ⟨rfl, rfl⟩ rfl (by omega) ?_
    refine w_aload_n (pc' := 29) ⟨rfl, rfl⟩ rfl ?_
    refine w_iload_n (pc' := 30) ⟨rfl, rfl⟩ rfl ?_
    refine w_iload_n (pc' := 31) ⟨rfl, rfl⟩ rfl ?_
    refine w_iload_n (pc' := 32) ⟨rfl, rfl⟩ rfl ?_
    refine w_cv4 (pc' := 35) ⟨rfl, rfl⟩ (by decide) (zOl hF rfl) (Nat.le_of_ble_eq_true rfl) (Nat.le_of_ble_eq_true rfl) (c_placesT (σ := (zwI σ 0 12 (iZ 0))) hF hVt hPp hP hPl1 (by omega) ?_)
    refine w_ireturn (pc' := 36) ⟨rfl, rfl⟩ (Or.inl rfl) ?_
    rw [show zlo t ↑u 8 = 4 by unfold zlo; rw [if_pos rfl]] at k; exact k
  · rw [if_neg (by have := ((hVt.2.2.1 u hu).1.2 f hf).1; omega), if_neg (by have := ((hVt.2.2.1 u hu).1.2 f hf).1; omega)] at k
    have hkd := ((hVt.2.2.1 u hu).1.2 f hf).1
    have hPl1 : zPl (zwI σ 0 12 (iZ 0)) p t := hPl.eb hP hVt (zEb.refl.wI (by unfold zbO; decide))
    refine w_aload_n (pc' := 1) ⟨rfl, rfl⟩ rfl ?_
    refine w_iload_n (pc' := 2) ⟨rfl, rfl⟩ rfl ?_
    refine w_iload_n (pc' := 3) ⟨rfl, rfl⟩ rfl ?_
    refine w_cv3 (pc' := 6) ⟨rfl, rfl⟩ (by decide) (zOl hF rfl) (Nat.le_of_ble_eq_true rfl) (Nat.le_of_ble_eq_true rfl) (c_rowSort hF hVt hPp hP hPl (by omega) (by omega) ?_)
    refine w_istore_n (pc' := 7) ⟨rfl, rfl⟩ rfl ?_
    refine w_aload_n (pc' := 8) ⟨rfl, rfl⟩ rfl ?_
    refine w_iload_n (pc' := 9) ⟨rfl, rfl⟩ rfl ?_
    refine w_ifT_ge (pc' := 12) (pcT := 16) ⟨rfl, rfl⟩ rfl (by omega) ?_
    refine w_ic (pc' := 17) ⟨rfl, rfl⟩ ?_
    refine w_putI (pc' := 20) (cl := 9) (q := 12) ⟨rfl, rfl⟩ ⟨rfl, by decide⟩ (zOl hF rfl) ?_
    refine w_iload_n (pc' := 21) ⟨rfl, rfl⟩ rfl ?_
    refine w_ifT_ge (pc' := 24) (pcT := 28) ⟨rfl, rfl⟩ rfl (by omega) ?_
    refine w_aload_n (pc' := 29) ⟨rfl, rfl⟩ rfl ?_
    refine w_iload_n (pc' := 30) ⟨rfl, rfl⟩ rfl ?_
    refine w_iload_n (pc' := 31) ⟨rfl, rfl⟩ rfl ?_
    refine w_iload_n (pc' := 32) ⟨rfl, rfl⟩ rfl ?_
    refine w_cv4 (pc' := 35) ⟨rfl, rfl⟩ (by decide) (zOl hF rfl) (Nat.le_of_ble_eq_true rfl) (Nat.le_of_ble_eq_true rfl) (c_placesF (σ := (zwI σ 0 12 (iZ 0))) hF hVt hPp hP hPl1 hu hf (by omega) ?_)
    refine w_ireturn (pc' := 36) ⟨rfl, rfl⟩ (Or.inl rfl) ?_
    rw [show zlo t ↑u ↑f = 8 * zCE t u f by unfold zlo; rw [if_neg (by have := zf6 (hVt.2.2.1 u hu).1 hf; omega)]; rfl] at k; exact k
theorem c_read {σ : zSt} {p : Nat} {t : zBk} (hF : zFx σ) (hVt : zVt t) (hPp : zR σ 0 10 = some p) (hP : zIsB p) (hPl : zPl σ p t) (hcl : ∀ s f r i : Nat, (s : Int) < t 0 → zClF t s f i → r < 8 → zcl (zKD t s f) (zL σ 80 (zpq t s f r i))) {s row pl kd : Int} (hs : (-2147483648 ≤ s ∧ s ≤ 2147483647)) (hr0 : (-2147483648 ≤ row ∧ row ≤ 2147483647)) (hpl0 : (-2147483648 ≤ pl ∧ pl ≤ 2147483647)) (hkd0 : (-2147483648 ≤ kd ∧ kd ≤ 2147483647)) {Q : zSt → Option Value → Prop} (k0 : zrr t s row pl kd ≠ 0 → Q (zwI σ 0 12 (iZ (zrr t s row pl kd))) (some (.long (lZ (-4611686018427387904))))) (k1 : zrr t s row pl kd = 0 → Q (zwI σ 0 12 (iZ 0)) (some (.long (zcar (zvq t (zgC t (zL σ 80)) s row pl) (zrk t s row) kd)))) : zCa 100 [.ref 0, .int (iZ s), .int (iZ row), .int (iZ pl), .int (iZ kd)] σ Q := by
  refine w_enter (c := zk_X11_read) (ls2 := [(0, .ref 0), (1, .int (iZ s)), (2, .int (iZ row)), (3, .int (iZ pl)), (4, .int (iZ kd))]) rfl ⟨rfl, rfl, rfl, rfl, rfl, trivial⟩ ?_
  rcases Classical.em (zkr t s row pl kd = 0) with hz | hz
  · obtain ⟨u, f, r, i, rfl, rfl, hu, hf, hk, hk7, hkd, hr, hi, hpl, hq1, hq2, hjp, hj5⟩ := zkr_0 hVt hz
    have ht0 := hVt.1
    have hkdr := ((hVt.2.2.1 u hu).1.2 f hf).1
    have hPl1 : ∀ v, zPl (zwI σ 0 12 v) p t := fun v => hPl.eb hP hVt (zEb.refl.wI (by unfold zbO; decide))
    refine w_aload_n (pc' := 1) ⟨rfl, rfl⟩ rfl ?_
    refine w_iload_n (pc' := 2) ⟨rfl, rfl⟩ rfl ?_
    refine w_iload_n (pc' := 3) ⟨rfl, rfl⟩ rfl ?_
    refine w_cv3 (pc' := 6) ⟨rfl, rfl⟩ (by decide) (zOl hF rfl) (Nat.le_of_ble_eq_true rfl) (Nat.le_of_ble_eq_true rfl) (c_rowSort hF hVt hPp hP hPl (by omega) (by omega) ?_)
    rw [hk]
    refine w_istore (pc' := 8) ⟨rfl, rfl⟩ rfl ?_
    refine w_aload_n (pc' := 9) ⟨rfl, rfl⟩ rfl ?_
    refine w_aload_n (pc' := 10) ⟨rfl, rfl⟩ rfl ?_
    refine w_iload_n (pc' := 11) ⟨rfl, rfl⟩ rfl ?_
    refine w_iload_n (pc' := 12) ⟨rfl, rfl⟩ rfl ?_
    refine w_iload_n (pc' := 13) ⟨rfl, rfl⟩ rfl ?_
    refine w_iload (pc' := 15) ⟨rfl, rfl⟩ rfl ?_
    refine w_cv5 (pc' := 18) ⟨rfl, rfl⟩ (by decide) (zOl hF rfl) (Nat.le_of_ble_eq_true rfl) (Nat.le_of_ble_eq_true rfl) (c_kindRefusal hF hVt hPp hP hPl hs hr0 hpl0 hkd0 ?_)
    rw [hz]
    refine w_putI (pc' := 21) (cl := 9) (q := 12) ⟨rfl, rfl⟩ ⟨rfl, by decide⟩ (zOl hF rfl) ?_
    refine w_aload_n (pc' := 22) ⟨rfl, rfl⟩ rfl ?_
    refine w_getI (pc' := 25) (cl := 9) (q := 12) ⟨rfl, rfl⟩ ⟨rfl, by decide⟩ (zOl hF rfl) zI_wI_s ?_
    refine w_ifF_ne (pc' := 28) ⟨rfl, rfl⟩ (by decide) ?_
    refine w_iload (pc' := 30) ⟨rfl, rfl⟩ rfl ?_
    refine w_iload (pc' := 32) ⟨rfl, rfl⟩ rfl ?_
    refine w_cs2 (pc' := 35) ⟨rfl, rfl⟩ (by decide) (Nat.le_of_ble_eq_true rfl) (Nat.le_of_ble_eq_true rfl) (c_goesInto (by omega) (by omega) (fun h => ?_) (fun h => ?_))
    · have hO := (hP.s hF (zu3 hVt hu)).2
      have hS := (hPl1 (iZ 0)).2.2.1 u hu
      have hV := (hVt.2.2.1 u hu).1
      have hcl1 := hcl u f r i hu ⟨hf, hi⟩ hr
      have e : zrr t ↑u ↑f pl kd = 0 := by unfold zrr; rw [if_neg (by omega), hk, if_pos (by assumption)]
      rw [zvq_e hq1 hq2, hk] at k1
      have hzo : zok (zKD t u f) (zvl (zKD t u f) (zL σ 80 (zpq t u f r i))) := zcl_v hcl1
      refine w_ifT_ne (pc' := 38) (pcT := 44) ⟨rfl, rfl⟩ rfl (by decide) ?_
      refine w_aload_n (pc' := 45) ⟨rfl, rfl⟩ rfl ?_
      refine w_getR (pc' := 48) (cl := 9) (q := 10) ⟨rfl, rfl⟩ ⟨rfl, by decide⟩ (zOl hF rfl) hPp ?_
      refine w_iload_n (pc' := 49) ⟨rfl, rfl⟩ rfl ?_
      refine w_cv2 (pc' := 52) ⟨rfl, rfl⟩ (by decide) (hP.o hF).1 (Nat.le_of_ble_eq_true rfl) (Nat.le_of_ble_eq_true rfl) (c_shapeI (σ := zwI σ 0 12 (iZ (0))) hF hP (hPl1 _).1 hVt.1 hu ?_)
      refine w_astore (pc' := 54) ⟨rfl, rfl⟩ rfl ?_
      refine w_aload_n (pc' := 55) ⟨rfl, rfl⟩ rfl ?_
      refine w_getI (pc' := 58) (cl := 9) (q := 12) ⟨rfl, rfl⟩ ⟨rfl, by decide⟩ (zOl hF rfl) zI_wI_s ?_
      refine w_ifF_ne (pc' := 61) ⟨rfl, rfl⟩ (by decide) ?_
      refine w_aload (pc' := 63) ⟨rfl, rfl⟩ rfl ?_
      refine w_ifnonnullR (pc' := 66) (pcT := 70) ⟨rfl, rfl⟩ rfl  ?_
      refine w_iload (pc' := 72) ⟨rfl, rfl⟩ rfl ?_
      refine w_aload_n (pc' := 73) ⟨rfl, rfl⟩ rfl ?_
      refine w_getR (pc' := 76) (cl := 9) (q := 2) ⟨rfl, rfl⟩ ⟨rfl, by decide⟩ (zOl hF rfl) (hF.2 0 2 79 rfl) ?_
      refine w_iload_n (pc' := 77) ⟨rfl, rfl⟩ rfl ?_
      refine w_aload (pc' := 79) ⟨rfl, rfl⟩ rfl ?_
      refine w_iload_n (pc' := 80) ⟨rfl, rfl⟩ rfl ?_
      refine w_iload_n (pc' := 81) ⟨rfl, rfl⟩ rfl ?_
      refine w_cv5 (pc' := 84) ⟨rfl, rfl⟩ (by decide) (zOl hF rfl) (Nat.le_of_ble_eq_true rfl) (Nat.le_of_ble_eq_true rfl) (c_valueAt (σ := zwI σ 0 12 (iZ 0)) hF hO hS hV (zu3 hVt hu) hf hr hi hpl ?_)
      refine w_iload (pc' := 86) ⟨rfl, rfl⟩ rfl ?_
      refine w_cs3 (pc' := 89) ⟨rfl, rfl⟩ (by decide) (Nat.le_of_ble_eq_true rfl) (Nat.le_of_ble_eq_true rfl) (c_changed (by omega) (by omega) hzo ?_)
      refine w_lreturn (pc' := 90) ⟨rfl, rfl⟩ ?_
      exact k1 e
    · refine w_ifF_ne (pc' := 38) ⟨rfl, rfl⟩ (by decide) ?_
      refine w_aload_n (pc' := 39) ⟨rfl, rfl⟩ rfl ?_
      refine w_bi (pc' := 41) ⟨rfl, rfl⟩ (by decide) ?_
      refine w_putI (pc' := 44) (cl := 9) (q := 12) ⟨rfl, rfl⟩ ⟨rfl, by decide⟩ (zOl hF rfl) ?_
      refine w_sto zwI_wI ?_
      refine w_aload_n (pc' := 45) ⟨rfl, rfl⟩ rfl ?_
      refine w_getR (pc' := 48) (cl := 9) (q := 10) ⟨rfl, rfl⟩ ⟨rfl, by decide⟩ (zOl hF rfl) hPp ?_
      refine w_iload_n (pc' := 49) ⟨rfl, rfl⟩ rfl ?_
      refine w_cv2 (pc' := 52) ⟨rfl, rfl⟩ (by decide) (hP.o hF).1 (Nat.le_of_ble_eq_true rfl) (Nat.le_of_ble_eq_true rfl) (c_shapeI (σ := zwI σ 0 12 (iZ (-2))) hF hP (hPl1 _).1 hVt.1 hu ?_)
      refine w_astore (pc' := 54) ⟨rfl, rfl⟩ rfl ?_
      refine w_aload_n (pc' := 55) ⟨rfl, rfl⟩ rfl ?_
      refine w_getI (pc' := 58) (cl := 9) (q := 12) ⟨rfl, rfl⟩ ⟨rfl, by decide⟩ (zOl hF rfl) zI_wI_s ?_
      refine w_ifT_ne (pc' := 61) (pcT := 66) ⟨rfl, rfl⟩ rfl (by decide) ?_
      refine w_ldc2Y (pc' := 69) (z := -4611686018427387904) ⟨rfl, rfl⟩ rfl ?_
      refine w_lreturn (pc' := 70) ⟨rfl, rfl⟩ ?_
      have e : zrr t ↑u ↑f pl kd = -2 := by unfold zrr; rw [if_neg (by omega), hk, if_neg (by assumption)]
      rw [e] at k0; exact k0 (by decide)
  · have e : zrr t s row pl kd = zkr t s row pl kd := by unfold zrr; rw [if_pos hz]
    rw [e] at k0
    have ht0 := hVt.1
    have hzr : -4 ≤ zkr t s row pl kd ∧ zkr t s row pl kd ≤ 0 := by rcases (show (zrk t s row < 0 ∧ -4 ≤ zrk t s row) ∨ 0 ≤ zrk t s row by rcases zrk_cases hVt s row with hk | ⟨u, h1, h2, h3, hk⟩ | ⟨u, f, h1, h2, h3, h4, hk⟩ <;> (try have hq7 := ((hVt.2.2.1 u h3).1.2 f h4).1) <;> omega) with hk | hk <;> unfold zkr <;> (repeat' split) <;> omega
    have hPl1 : ∀ v, zPl (zwI σ 0 12 v) p t := fun v => hPl.eb hP hVt (zEb.refl.wI (by unfold zbO; decide))
    refine w_aload_n (pc' := 1) ⟨rfl, rfl⟩ rfl ?_
    refine w_iload_n (pc' := 2) ⟨rfl, rfl⟩ rfl ?_
    refine w_iload_n (pc' := 3) ⟨rfl, rfl⟩ rfl ?_
    refine w_cv3 (pc' := 6) ⟨rfl, rfl⟩ (by decide) (zOl hF rfl) (Nat.le_of_ble_eq_true rfl) (Nat.le_of_ble_eq_true rfl) (c_rowSort hF hVt hPp hP hPl (by omega) (by omega) ?_)
    refine w_istore (pc' := 8) ⟨rfl, rfl⟩ rfl ?_
    refine w_aload_n (pc' := 9) ⟨rfl, rfl⟩ rfl ?_
    refine w_aload_n (pc' := 10) ⟨rfl, rfl⟩ rfl ?_
    refine w_iload_n (pc' := 11) ⟨rfl, rfl⟩ rfl ?_
    refine w_iload_n (pc' := 12) ⟨rfl, rfl⟩ rfl ?_
    refine w_iload_n (pc' := 13) ⟨rfl, rfl⟩ rfl ?_
    refine w_iload (pc' := 15) ⟨rfl, rfl⟩ rfl ?_
    refine w_cv5 (pc' := 18) ⟨rfl, rfl⟩ (by decide) (zOl hF rfl) (Nat.le_of_ble_eq_true rfl) (Nat.le_of_ble_eq_true rfl) (c_kindRefusal hF hVt hPp hP hPl hs hr0 hpl0 hkd0 ?_)
    refine w_putI (pc' := 21) (cl := 9) (q := 12) ⟨rfl, rfl⟩ ⟨rfl, by decide⟩ (zOl hF rfl) ?_
    refine w_aload_n (pc' := 22) ⟨rfl, rfl⟩ rfl ?_
    refine w_getI (pc' := 25) (cl := 9) (q := 12) ⟨rfl, rfl⟩ ⟨rfl, by decide⟩ (zOl hF rfl) zI_wI_s ?_
    refine w_ifT_ne (pc' := 28) (pcT := 44) ⟨rfl, rfl⟩ rfl (by omega) ?_
    refine w_aload_n (pc' := 45) ⟨rfl, rfl⟩ rfl ?_
    refine w_getR (pc' := 48) (cl := 9) (q := 10) ⟨rfl, rfl⟩ ⟨rfl, by decide⟩ (zOl hF rfl) hPp ?_
    refine w_iload_n (pc' := 49) ⟨rfl, rfl⟩ rfl ?_
    refine w_cv2 (pc' := 52) ⟨rfl, rfl⟩ (by decide) (hP.o hF).1 (Nat.le_of_ble_eq_true rfl) (Nat.le_of_ble_eq_true rfl) (c_shape (σ := zwI σ 0 12 (iZ (zkr t s row pl kd))) hF hP (hPl1 _).1 hVt.1 hs (fun h => ?_) (fun h => ?_))
    · refine w_astore (pc' := 54) ⟨rfl, rfl⟩ rfl ?_
      refine w_aload_n (pc' := 55) ⟨rfl, rfl⟩ rfl ?_
      refine w_getI (pc' := 58) (cl := 9) (q := 12) ⟨rfl, rfl⟩ ⟨rfl, by decide⟩ (zOl hF rfl) zI_wI_s ?_
      refine w_ifT_ne (pc' := 61) (pcT := 66) ⟨rfl, rfl⟩ rfl (by omega) ?_
      refine w_ldc2Y (pc' := 69) (z := -4611686018427387904) ⟨rfl, rfl⟩ rfl ?_
      refine w_lreturn (pc' := 70) ⟨rfl, rfl⟩ ?_
      exact k0 hz
    · refine w_astoreN (pc' := 54) ⟨rfl, rfl⟩ rfl ?_
      refine w_aload_n (pc' := 55) ⟨rfl, rfl⟩ rfl ?_
      refine w_getI (pc' := 58) (cl := 9) (q := 12) ⟨rfl, rfl⟩ ⟨rfl, by decide⟩ (zOl hF rfl) zI_wI_s ?_
      refine w_ifT_ne (pc' := 61) (pcT := 66) ⟨rfl, rfl⟩ rfl (by omega) ?_
      refine w_ldc2Y (pc' := 69) (z := -4611686018427387904) ⟨rfl, rfl⟩ rfl ?_
      refine w_lreturn (pc' := 70) ⟨rfl, rfl⟩ ?_
      exact k0 hz
theorem c_write {σ : zSt} {p : Nat} {t : zBk} (hF : zFx σ) (hVt : zVt t) (hPp : zR σ 0 10 = some p) (hP : zIsB p) (hPl : zPl σ p t) {x : Nat} {y : Int} (hx : zI σ 79 2 = iZ x) (hx2 : x < 20) (hy : zI σ 79 3 = iZ y) (hy2 : 0 ≤ y ∧ y ≤ 20) {s row pl kd : Int} (hs : (-2147483648 ≤ s ∧ s ≤ 2147483647)) (hr0 : (-2147483648 ≤ row ∧ row ≤ 2147483647)) (hpl0 : (-2147483648 ≤ pl ∧ pl ≤ 2147483647)) (hkd0 : (-2147483648 ≤ kd ∧ kd ≤ 2147483647)) {v : Int64} {Q : zSt → Option Value → Prop} (k0 : zwr t s row pl kd ≠ 0 → Q (zwI σ 0 12 (iZ (zwr t s row pl kd))) (some (.int (iZ 0)))) (k1 : zwr t s row pl kd = 0 → Q (zwL (zkC (zwI σ 0 12 (iZ 0)) x y) 80 (zjq t s row pl) (zcar (ztold v kd) kd (zrk t s row))) (some (.int (iZ 1)))) : zCa 102 [.ref 0, .int (iZ s), .int (iZ row), .int (iZ pl), .int (iZ kd), .long v] σ Q := by
  refine w_enter (c := zk_X11_write) (ls2 := [(0, .ref 0), (1, .int (iZ s)), (2, .int (iZ row)), (3, .int (iZ pl)), (4, .int (iZ kd)), (5, .long v)]) rfl ⟨rfl, rfl, rfl, rfl, rfl, rfl, trivial⟩ ?_
  rcases Classical.em (zkr t s row pl kd = 0) with hz | hz
  · obtain ⟨u, f, r, i, rfl, rfl, hu, hf, hk, hk7, hkd, hr, hi, hpl, hq1, hq2, hjp, hj5⟩ := zkr_0 hVt hz
    have ht0 := hVt.1
    have hkdr := ((hVt.2.2.1 u hu).1.2 f hf).1
    have hPl1 : ∀ v, zPl (zwI σ 0 12 v) p t := fun v => hPl.eb hP hVt (zEb.refl.wI (by unfold zbO; decide))
    refine w_aload_n (pc' := 1) ⟨rfl, rfl⟩ rfl ?_
    refine w_iload_n (pc' := 2) ⟨rfl, rfl⟩ rfl ?_
    refine w_iload_n (pc' := 3) ⟨rfl, rfl⟩ rfl ?_
    refine w_cv3 (pc' := 6) ⟨rfl, rfl⟩ (by decide) (zOl hF rfl) (Nat.le_of_ble_eq_true rfl) (Nat.le_of_ble_eq_true rfl) (c_rowSort hF hVt hPp hP hPl (by omega) (by omega) ?_)
    rw [hk]
    refine w_istore (pc' := 8) ⟨rfl, rfl⟩ rfl ?_
    refine w_aload_n (pc' := 9) ⟨rfl, rfl⟩ rfl ?_
    refine w_aload_n (pc' := 10) ⟨rfl, rfl⟩ rfl ?_
    refine w_iload_n (pc' := 11) ⟨rfl, rfl⟩ rfl ?_
    refine w_iload_n (pc' := 12) ⟨rfl, rfl⟩ rfl ?_
    refine w_iload_n (pc' := 13) ⟨rfl, rfl⟩ rfl ?_
    refine w_iload (pc' := 15) ⟨rfl, rfl⟩ rfl ?_
    refine w_cv5 (pc' := 18) ⟨rfl, rfl⟩ (by decide) (zOl hF rfl) (Nat.le_of_ble_eq_true rfl) (Nat.le_of_ble_eq_true rfl) (c_kindRefusal hF hVt hPp hP hPl hs hr0 hpl0 hkd0 ?_)
    rw [hz]
    refine w_putI (pc' := 21) (cl := 9) (q := 12) ⟨rfl, rfl⟩ ⟨rfl, by decide⟩ (zOl hF rfl) ?_
    refine w_aload_n (pc' := 22) ⟨rfl, rfl⟩ rfl ?_
    refine w_getI (pc' := 25) (cl := 9) (q := 12) ⟨rfl, rfl⟩ ⟨rfl, by decide⟩ (zOl hF rfl) zI_wI_s ?_
    refine w_ifF_ne (pc' := 28) ⟨rfl, rfl⟩ (by decide) ?_
    refine w_iload (pc' := 30) ⟨rfl, rfl⟩ rfl ?_
    refine w_iload (pc' := 32) ⟨rfl, rfl⟩ rfl ?_
    refine w_cs2 (pc' := 35) ⟨rfl, rfl⟩ (by decide) (Nat.le_of_ble_eq_true rfl) (Nat.le_of_ble_eq_true rfl) (c_goesInto (by omega) (by omega) (fun h => ?_) (fun h => ?_))
    · have hO := (hP.s hF (zu3 hVt hu)).2
      have hV := (hVt.2.2.1 u hu).1
      have hPl2 : zPl (zkC (zwI σ 0 12 (iZ 0)) x y) p t := hPl.eb hP hVt (zEb.refl.wI (by unfold zbO; decide)).kC
      have hS := hPl2.2.2.1 u hu
      have e : zwr t ↑u ↑f pl kd = 0 := by unfold zwr; rw [if_neg (by omega), hk, if_pos (by assumption)]
      rw [zjq_e hq1 hq2, hk] at k1
      refine w_ifT_ne (pc' := 38) (pcT := 44) ⟨rfl, rfl⟩ rfl (by decide) ?_
      refine w_aload_n (pc' := 45) ⟨rfl, rfl⟩ rfl ?_
      refine w_getR (pc' := 48) (cl := 9) (q := 10) ⟨rfl, rfl⟩ ⟨rfl, by decide⟩ (zOl hF rfl) hPp ?_
      refine w_iload_n (pc' := 49) ⟨rfl, rfl⟩ rfl ?_
      refine w_cv2 (pc' := 52) ⟨rfl, rfl⟩ (by decide) (hP.o hF).1 (Nat.le_of_ble_eq_true rfl) (Nat.le_of_ble_eq_true rfl) (c_shapeI (σ := zwI σ 0 12 (iZ (0))) hF hP (hPl1 _).1 hVt.1 hu ?_)
      refine w_astore (pc' := 54) ⟨rfl, rfl⟩ rfl ?_
      refine w_aload_n (pc' := 55) ⟨rfl, rfl⟩ rfl ?_
      refine w_getI (pc' := 58) (cl := 9) (q := 12) ⟨rfl, rfl⟩ ⟨rfl, by decide⟩ (zOl hF rfl) zI_wI_s ?_
      refine w_ifF_ne (pc' := 61) ⟨rfl, rfl⟩ (by decide) ?_
      refine w_aload (pc' := 63) ⟨rfl, rfl⟩ rfl ?_
      refine w_ifnonnullR (pc' := 66) (pcT := 68) ⟨rfl, rfl⟩ rfl  ?_
      refine w_aload_n (pc' := 69) ⟨rfl, rfl⟩ rfl ?_
      refine w_getR (pc' := 72) (cl := 9) (q := 2) ⟨rfl, rfl⟩ ⟨rfl, by decide⟩ (zOl hF rfl) (hF.2 0 2 79 rfl) ?_
      refine w_cv1 (pc' := 75) ⟨rfl, rfl⟩ (by decide) (zOl hF rfl) (Nat.le_of_ble_eq_true rfl) (Nat.le_of_ble_eq_true rfl) (c_keepPast (σ := (zwI σ 0 12 (iZ 0))) hF ((zI_wI_n (Or.inl (by decide))).trans hx) hx2 ((zI_wI_n (Or.inl (by decide))).trans hy) hy2 ?_)
      refine w_aload_n (pc' := 76) ⟨rfl, rfl⟩ rfl ?_
      refine w_getR (pc' := 79) (cl := 9) (q := 2) ⟨rfl, rfl⟩ ⟨rfl, by decide⟩ (zOl hF rfl) (hF.2 0 2 79 rfl) ?_
      refine w_iload_n (pc' := 80) ⟨rfl, rfl⟩ rfl ?_
      refine w_aload (pc' := 82) ⟨rfl, rfl⟩ rfl ?_
      refine w_iload_n (pc' := 83) ⟨rfl, rfl⟩ rfl ?_
      refine w_iload_n (pc' := 84) ⟨rfl, rfl⟩ rfl ?_
      refine w_iload (pc' := 86) ⟨rfl, rfl⟩ rfl ?_
      refine w_iload (pc' := 88) ⟨rfl, rfl⟩ rfl ?_
      refine w_lload (pc' := 90) ⟨rfl, rfl⟩ rfl ?_
      refine w_cs2 (pc' := 93) ⟨rfl, rfl⟩ (by decide) (Nat.le_of_ble_eq_true rfl) (Nat.le_of_ble_eq_true rfl) (c_told (by omega) ?_)
      rw [zthg_n (by omega)]
      refine w_iload (pc' := 95) ⟨rfl, rfl⟩ rfl ?_
      refine w_cs3 (pc' := 98) ⟨rfl, rfl⟩ (by decide) (Nat.le_of_ble_eq_true rfl) (Nat.le_of_ble_eq_true rfl) (c_changed (by omega) (by omega) (zok_told _ _) ?_)
      refine w_cv6 (pc' := 101) ⟨rfl, rfl⟩ (by decide) (zOl hF rfl) (Nat.le_of_ble_eq_true rfl) (Nat.le_of_ble_eq_true rfl) (c_setAt (σ := zkC (zwI σ 0 12 (iZ 0)) x y) hF hO hS hV (zu3 hVt hu) hf hr hi hpl ?_)
      refine w_ic (pc' := 102) ⟨rfl, rfl⟩ ?_
      refine w_ireturn (pc' := 103) ⟨rfl, rfl⟩ (by decide) ?_
      exact k1 e
    · refine w_ifF_ne (pc' := 38) ⟨rfl, rfl⟩ (by decide) ?_
      refine w_aload_n (pc' := 39) ⟨rfl, rfl⟩ rfl ?_
      refine w_bi (pc' := 41) ⟨rfl, rfl⟩ (by decide) ?_
      refine w_putI (pc' := 44) (cl := 9) (q := 12) ⟨rfl, rfl⟩ ⟨rfl, by decide⟩ (zOl hF rfl) ?_
      refine w_sto zwI_wI ?_
      refine w_aload_n (pc' := 45) ⟨rfl, rfl⟩ rfl ?_
      refine w_getR (pc' := 48) (cl := 9) (q := 10) ⟨rfl, rfl⟩ ⟨rfl, by decide⟩ (zOl hF rfl) hPp ?_
      refine w_iload_n (pc' := 49) ⟨rfl, rfl⟩ rfl ?_
      refine w_cv2 (pc' := 52) ⟨rfl, rfl⟩ (by decide) (hP.o hF).1 (Nat.le_of_ble_eq_true rfl) (Nat.le_of_ble_eq_true rfl) (c_shapeI (σ := zwI σ 0 12 (iZ (-2))) hF hP (hPl1 _).1 hVt.1 hu ?_)
      refine w_astore (pc' := 54) ⟨rfl, rfl⟩ rfl ?_
      refine w_aload_n (pc' := 55) ⟨rfl, rfl⟩ rfl ?_
      refine w_getI (pc' := 58) (cl := 9) (q := 12) ⟨rfl, rfl⟩ ⟨rfl, by decide⟩ (zOl hF rfl) zI_wI_s ?_
      refine w_ifT_ne (pc' := 61) (pcT := 66) ⟨rfl, rfl⟩ rfl (by decide) ?_
      refine w_ic (pc' := 67) ⟨rfl, rfl⟩ ?_
      refine w_ireturn (pc' := 68) ⟨rfl, rfl⟩ (by decide) ?_
      have e : zwr t ↑u ↑f pl kd = -2 := by unfold zwr; rw [if_neg (by omega), hk, if_neg (by assumption)]
      rw [e] at k0; exact k0 (by decide)
  · have e : zwr t s row pl kd = zkr t s row pl kd := by unfold zwr; rw [if_pos hz]
    rw [e] at k0
    have ht0 := hVt.1
    have hzr : -4 ≤ zkr t s row pl kd ∧ zkr t s row pl kd ≤ 0 := by rcases (show (zrk t s row < 0 ∧ -4 ≤ zrk t s row) ∨ 0 ≤ zrk t s row by rcases zrk_cases hVt s row with hk | ⟨u, h1, h2, h3, hk⟩ | ⟨u, f, h1, h2, h3, h4, hk⟩ <;> (try have hq7 := ((hVt.2.2.1 u h3).1.2 f h4).1) <;> omega) with hk | hk <;> unfold zkr <;> (repeat' split) <;> omega
    have hPl1 : ∀ v, zPl (zwI σ 0 12 v) p t := fun v => hPl.eb hP hVt (zEb.refl.wI (by unfold zbO; decide))
    refine w_aload_n (pc' := 1) ⟨rfl, rfl⟩ rfl ?_
    refine w_iload_n (pc' := 2) ⟨rfl, rfl⟩ rfl ?_
    refine w_iload_n (pc' := 3) ⟨rfl, rfl⟩ rfl ?_
    refine w_cv3 (pc' := 6) ⟨rfl, rfl⟩ (by decide) (zOl hF rfl) (Nat.le_of_ble_eq_true rfl) (Nat.le_of_ble_eq_true rfl) (c_rowSort hF hVt hPp hP hPl (by omega) (by omega) ?_)
    refine w_istore (pc' := 8) ⟨rfl, rfl⟩ rfl ?_
    refine w_aload_n (pc' := 9) ⟨rfl, rfl⟩ rfl ?_
    refine w_aload_n (pc' := 10) ⟨rfl, rfl⟩ rfl ?_
    refine w_iload_n (pc' := 11) ⟨rfl, rfl⟩ rfl ?_
    refine w_iload_n (pc' := 12) ⟨rfl, rfl⟩ rfl ?_
    refine w_iload_n (pc' := 13) ⟨rfl, rfl⟩ rfl ?_
    refine w_iload (pc' := 15) ⟨rfl, rfl⟩ rfl ?_
    refine w_cv5 (pc' := 18) ⟨rfl, rfl⟩ (by decide) (zOl hF rfl) (Nat.le_of_ble_eq_true rfl) (Nat.le_of_ble_eq_true rfl) (c_kindRefusal hF hVt hPp hP hPl hs hr0 hpl0 hkd0 ?_)
    refine w_putI (pc' := 21) (cl := 9) (q := 12) ⟨rfl, rfl⟩ ⟨rfl, by decide⟩ (zOl hF rfl) ?_
    refine w_aload_n (pc' := 22) ⟨rfl, rfl⟩ rfl ?_
    refine w_getI (pc' := 25) (cl := 9) (q := 12) ⟨rfl, rfl⟩ ⟨rfl, by decide⟩ (zOl hF rfl) zI_wI_s ?_
    refine w_ifT_ne (pc' := 28) (pcT := 44) ⟨rfl, rfl⟩ rfl (by omega) ?_
    refine w_aload_n (pc' := 45) ⟨rfl, rfl⟩ rfl ?_
    refine w_getR (pc' := 48) (cl := 9) (q := 10) ⟨rfl, rfl⟩ ⟨rfl, by decide⟩ (zOl hF rfl) hPp ?_
    refine w_iload_n (pc' := 49) ⟨rfl, rfl⟩ rfl ?_
    refine w_cv2 (pc' := 52) ⟨rfl, rfl⟩ (by decide) (hP.o hF).1 (Nat.le_of_ble_eq_true rfl) (Nat.le_of_ble_eq_true rfl) (c_shape (σ := zwI σ 0 12 (iZ (zkr t s row pl kd))) hF hP (hPl1 _).1 hVt.1 hs (fun h => ?_) (fun h => ?_))
    · refine w_astore (pc' := 54) ⟨rfl, rfl⟩ rfl ?_
      refine w_aload_n (pc' := 55) ⟨rfl, rfl⟩ rfl ?_
      refine w_getI (pc' := 58) (cl := 9) (q := 12) ⟨rfl, rfl⟩ ⟨rfl, by decide⟩ (zOl hF rfl) zI_wI_s ?_
      refine w_ifT_ne (pc' := 61) (pcT := 66) ⟨rfl, rfl⟩ rfl (by omega) ?_
      refine w_ic (pc' := 67) ⟨rfl, rfl⟩ ?_
      refine w_ireturn (pc' := 68) ⟨rfl, rfl⟩ (by decide) ?_
      exact k0 hz
    · refine w_astoreN (pc' := 54) ⟨rfl, rfl⟩ rfl ?_
      refine w_aload_n (pc' := 55) ⟨rfl, rfl⟩ rfl ?_
      refine w_getI (pc' := 58) (cl := 9) (q := 12) ⟨rfl, rfl⟩ ⟨rfl, by decide⟩ (zOl hF rfl) zI_wI_s ?_
      refine w_ifT_ne (pc' := 61) (pcT := 66) ⟨rfl, rfl⟩ rfl (by omega) ?_
      refine w_ic (pc' := 67) ⟨rfl, rfl⟩ ?_
      refine w_ireturn (pc' := 68) ⟨rfl, rfl⟩ (by decide) ?_
      exact k0 hz
