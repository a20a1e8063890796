/-! of whole, what this claim takes besides -/
theorem zFx_rL {σ : zSt} {o : Nat} {f : Nat → Int64} (h : zFx σ) : zFx (zrL σ o f) := h
theorem zxor20 : ∀ a : Fin 20, 0 ≤ iZ (a : Nat) ^^^ iZ 20 := by decide +kernel
theorem j_floorMod {σ : zSt} {a : Int} (ha : -1 ≤ a ∧ a ≤ 19) {Q : zSt → Option Value → Prop} (k : Q σ (some (.int (iZ (a % 20))))) : zCa 115 [.int (iZ a), .int (iZ 20)] σ Q := by
  rcases Int.lt_or_le a 0 with hneg | hpos
  · obtain rfl : a = -1 := by omega
    refine w_enter (c := zk_J9_floorMod_7cf53) (ls2 := [(0, .int (iZ (-1))), (1, .int (iZ 20))]) rfl ⟨rfl, rfl, trivial⟩ ?_
    refine w_iload_n (pc' := 1) ⟨rfl, rfl⟩ rfl ?_
    refine w_iload_n (pc' := 2) ⟨rfl, rfl⟩ rfl ?_
    refine w_irem (pc' := 3) ⟨rfl, rfl⟩ (by decide) ?_
    refine w_topI (y := iZ (-1)) (by decide) ?_
    refine w_istore_n (pc' := 4) ⟨rfl, rfl⟩ rfl ?_
    refine w_iload_n (pc' := 5) ⟨rfl, rfl⟩ rfl ?_
    refine w_iload_n (pc' := 6) ⟨rfl, rfl⟩ rfl ?_
    refine w_ixor (pc' := 7) ⟨rfl, rfl⟩ ?_
    refine w_topI (y := iZ (-21)) (by decide) ?_
    refine w_ifF_ge (pc' := 10) ⟨rfl, rfl⟩ (by decide) ?_
    refine w_iload_n (pc' := 11) ⟨rfl, rfl⟩ rfl ?_
    refine w_ifF_eq (pc' := 14) ⟨rfl, rfl⟩ (by decide) ?_
    refine w_iload_n (pc' := 15) ⟨rfl, rfl⟩ rfl ?_
    refine w_iload_n (pc' := 16) ⟨rfl, rfl⟩ rfl ?_
    refine w_iaddZ (pc' := 17) ⟨rfl, rfl⟩ ?_
    refine w_ireturn (pc' := 18) ⟨rfl, rfl⟩ (Or.inl rfl) ?_
    exact k
  · obtain ⟨n, rfl⟩ := Int.eq_ofNat_of_zero_le hpos
    refine w_enter (c := zk_J9_floorMod_7cf53) (ls2 := [(0, .int (iZ n)), (1, .int (iZ 20))]) rfl ⟨rfl, rfl, trivial⟩ ?_
    refine w_iload_n (pc' := 1) ⟨rfl, rfl⟩ rfl ?_
    refine w_iload_n (pc' := 2) ⟨rfl, rfl⟩ rfl ?_
    refine w_iremZ (pc' := 3) ⟨rfl, rfl⟩ (by omega) ?_
    refine w_istore_n (pc' := 4) ⟨rfl, rfl⟩ rfl ?_
    refine w_iload_n (pc' := 5) ⟨rfl, rfl⟩ rfl ?_
    refine w_iload_n (pc' := 6) ⟨rfl, rfl⟩ rfl ?_
    refine w_ixor (pc' := 7) ⟨rfl, rfl⟩ ?_
    refine w_ifI_ge (pc' := 10) (pcT := 18) ⟨rfl, rfl⟩ rfl (fun h1 => ?_) (fun h1 => ?_)
    · refine w_iload_n (pc' := 19) ⟨rfl, rfl⟩ rfl ?_
      refine w_ireturn (pc' := 20) ⟨rfl, rfl⟩ (Or.inl rfl) ?_
      exact k
    · exact absurd (zxor20 ⟨n, by omega⟩) (by assumption)
theorem c_goBack {σ : zSt} (hF : zFx σ) {x : Nat} {y : Int} (hx : zI σ 79 2 = iZ x) (hx2 : x < 20) (hy : zI σ 79 3 = iZ y) (hy2 : 0 < y ∧ y ≤ 20) {Q : zSt → Option Value → Prop} (k : ∀ z : Nat, (z : Int) = ((x : Int) - 1) % 20 → Q (zrL (zwI (zwI σ 79 3 (iZ (y - 1))) 79 2 (iZ z)) 80 (va_cpy (zL σ (82 + z)) (zL σ 80) 0 0 587)) (some (.int (iZ 1)))) : zCa 54 [.ref 79] σ Q := by
  refine w_enter (c := zk_X6_goBack) (ls2 := [(0, .ref 79)]) rfl ⟨rfl, trivial⟩ ?_
  refine w_aload_n (pc' := 1) ⟨rfl, rfl⟩ rfl ?_
  refine w_getI (pc' := 4) (cl := 4) (q := 3) ⟨rfl, rfl⟩ ⟨rfl, by decide⟩ (zOl hF rfl) hy ?_
  refine w_ifT_gt (pc' := 7) (pcT := 9) ⟨rfl, rfl⟩ rfl (by omega) ?_
  refine w_aload_n (pc' := 10) ⟨rfl, rfl⟩ rfl ?_
  refine w_dupR (pc' := 11) ⟨rfl, rfl⟩ ?_
  refine w_getI (pc' := 14) (cl := 4) (q := 3) ⟨rfl, rfl⟩ ⟨rfl, by decide⟩ (zOl hF rfl) hy ?_
  refine w_ic (pc' := 15) ⟨rfl, rfl⟩ ?_
  refine w_isubZ (pc' := 16) ⟨rfl, rfl⟩ ?_
  refine w_putI (pc' := 19) (cl := 4) (q := 3) ⟨rfl, rfl⟩ ⟨rfl, by decide⟩ (zOl hF rfl) ?_
  refine w_aload_n (pc' := 20) ⟨rfl, rfl⟩ rfl ?_
  refine w_aload_n (pc' := 21) ⟨rfl, rfl⟩ rfl ?_
  refine w_getI (pc' := 24) (cl := 4) (q := 2) ⟨rfl, rfl⟩ ⟨rfl, by decide⟩ (zOl hF rfl) hx ?_
  refine w_ic (pc' := 25) ⟨rfl, rfl⟩ ?_
  refine w_isubZ (pc' := 26) ⟨rfl, rfl⟩ ?_
  refine w_bi (pc' := 28) ⟨rfl, rfl⟩ (by decide) ?_
  refine w_cs2 (pc' := 31) ⟨rfl, rfl⟩ (by decide) (Nat.le_of_ble_eq_true rfl) (Nat.le_of_ble_eq_true rfl) (j_floorMod (by omega) ?_)
  obtain ⟨z, hz⟩ : ∃ z : Nat, ((x : Int) - 1) % 20 = z := ⟨(((x : Int) - 1) % 20).toNat, by omega⟩
  rw [hz]
  refine w_putI (pc' := 34) (cl := 4) (q := 2) ⟨rfl, rfl⟩ ⟨rfl, by decide⟩ (zOl hF rfl) ?_
  refine w_aload_n (pc' := 35) ⟨rfl, rfl⟩ rfl ?_
  refine w_getR (pc' := 38) (cl := 4) (q := 1) ⟨rfl, rfl⟩ ⟨rfl, by decide⟩ (zOl hF rfl) (hF.2 79 1 81 rfl) ?_
  refine w_aload_n (pc' := 39) ⟨rfl, rfl⟩ rfl ?_
  refine w_getI (pc' := 42) (cl := 4) (q := 2) ⟨rfl, rfl⟩ ⟨rfl, by decide⟩ (zOl hF rfl) zI_wI_s ?_
  refine w_aald (pc' := 43) ⟨rfl, rfl⟩ (zAl hF rfl) (by decide) (zixZ (by omega)) (zpast hF (by omega)).1 ?_
  refine w_ic (pc' := 44) ⟨rfl, rfl⟩ ?_
  refine w_aload_n (pc' := 45) ⟨rfl, rfl⟩ rfl ?_
  refine w_getR (pc' := 48) (cl := 4) (q := 0) ⟨rfl, rfl⟩ ⟨rfl, by decide⟩ (zOl hF rfl) (hF.2 79 0 80 rfl) ?_
  refine w_ic (pc' := 49) ⟨rfl, rfl⟩ ?_
  refine w_si (pc' := 52) ⟨rfl, rfl⟩ (by decide) ?_
  refine w_acpyL (pc' := 55) (i := 0) (j := 0) (k := 587) ⟨rfl, rfl⟩ (zpast hF (by omega)).2 (zAl hF rfl) (by omega) (Nat.le_of_ble_eq_true rfl) ?_
  refine w_ic (pc' := 56) ⟨rfl, rfl⟩ ?_
  refine w_ireturn (pc' := 57) ⟨rfl, rfl⟩ (by decide) ?_
  exact k z hz.symm
def zclr (m : zRw0) : zRw0 := va_up (va_up (va_up (va_up (va_up (va_up (va_up (va_up (zfil 587 (lZ 0) m) 3 (lZ 4)) 7 (lZ 7)) 4 (lZ 8)) 8 (lZ 34)) 5 (lZ 10)) 9 (lZ 0)) 6 (lZ 0)) 10 (lZ 1)
theorem c_clear {σ : zSt} (hF : zFx σ) {Q : zSt → Option Value → Prop} (k : Q (zwI (zwI (zrL σ 80 (zclr (zL σ 80))) 79 2 (iZ 0)) 79 3 (iZ 0)) none) : zCa 52 [.ref 79] σ Q := by
  refine w_enter (c := zk_X6_clear) (ls2 := [(0, .ref 79)]) rfl ⟨rfl, trivial⟩ ?_
  refine w_aload_n (pc' := 1) ⟨rfl, rfl⟩ rfl ?_
  refine w_getR (pc' := 4) (cl := 4) (q := 0) ⟨rfl, rfl⟩ ⟨rfl, by decide⟩ (zOl hF rfl) (hF.2 79 0 80 rfl) ?_
  refine w_lc (pc' := 5) (z := 0) ⟨rfl, rfl⟩ rfl ?_
  refine w_cs2 (pc' := 8) ⟨rfl, rfl⟩ (by decide) (Nat.le_of_ble_eq_true rfl) (Nat.le_of_ble_eq_true rfl) (j_fill (zAl hF rfl) (by omega) ?_)
  refine w_aload_n (pc' := 9) ⟨rfl, rfl⟩ rfl ?_
  refine w_ic (pc' := 10) ⟨rfl, rfl⟩ ?_
  refine w_ic (pc' := 11) ⟨rfl, rfl⟩ ?_
  refine w_ldc2Y (pc' := 14) (z := 7) ⟨rfl, rfl⟩ rfl ?_
  refine w_cv4 (pc' := 17) ⟨rfl, rfl⟩ (by decide) (zOl hF rfl) (Nat.le_of_ble_eq_true rfl) (Nat.le_of_ble_eq_true rfl) (c_setThing (zFx_rL hF) (z := 0) (by omega) (by omega) ?_)
  rw [zwL_rL, zwL_rL]
  refine w_aload_n (pc' := 18) ⟨rfl, rfl⟩ rfl ?_
  refine w_ic (pc' := 19) ⟨rfl, rfl⟩ ?_
  refine w_bi (pc' := 21) ⟨rfl, rfl⟩ (by decide) ?_
  refine w_ldc2Y (pc' := 24) (z := 34) ⟨rfl, rfl⟩ rfl ?_
  refine w_cv4 (pc' := 27) ⟨rfl, rfl⟩ (by decide) (zOl hF rfl) (Nat.le_of_ble_eq_true rfl) (Nat.le_of_ble_eq_true rfl) (c_setThing (zFx_rL hF) (z := 1) (by omega) (by omega) ?_)
  rw [zwL_rL, zwL_rL]
  refine w_aload_n (pc' := 28) ⟨rfl, rfl⟩ rfl ?_
  refine w_ic (pc' := 29) ⟨rfl, rfl⟩ ?_
  refine w_bi (pc' := 31) ⟨rfl, rfl⟩ (by decide) ?_
  refine w_lc (pc' := 32) (z := 0) ⟨rfl, rfl⟩ rfl ?_
  refine w_cv4 (pc' := 35) ⟨rfl, rfl⟩ (by decide) (zOl hF rfl) (Nat.le_of_ble_eq_true rfl) (Nat.le_of_ble_eq_true rfl) (c_setThing (zFx_rL hF) (z := 2) (by omega) (by omega) ?_)
  rw [zwL_rL, zwL_rL]
  refine w_aload_n (pc' := 36) ⟨rfl, rfl⟩ rfl ?_
  refine w_ic (pc' := 37) ⟨rfl, rfl⟩ ?_
  refine w_ic (pc' := 38) ⟨rfl, rfl⟩ ?_
  refine w_lc (pc' := 39) (z := 1) ⟨rfl, rfl⟩ rfl ?_
  refine w_cv4 (pc' := 42) ⟨rfl, rfl⟩ (by decide) (zOl hF rfl) (Nat.le_of_ble_eq_true rfl) (Nat.le_of_ble_eq_true rfl) (c_setThing (zFx_rL hF) (z := 3) (by omega) (by omega) ?_)
  rw [zwL_rL, zwL_rL]
  refine w_aload_n (pc' := 43) ⟨rfl, rfl⟩ rfl ?_
  refine w_ic (pc' := 44) ⟨rfl, rfl⟩ ?_
  refine w_putI (pc' := 47) (cl := 4) (q := 2) ⟨rfl, rfl⟩ ⟨rfl, by decide⟩ (zOl hF rfl) ?_
  refine w_aload_n (pc' := 48) ⟨rfl, rfl⟩ rfl ?_
  refine w_ic (pc' := 49) ⟨rfl, rfl⟩ ?_
  refine w_putI (pc' := 52) (cl := 4) (q := 3) ⟨rfl, rfl⟩ ⟨rfl, by decide⟩ (zOl hF rfl) ?_
  refine w_return (pc' := 53) ⟨rfl, rfl⟩ ?_
  exact k
theorem zvl_n {k : Int} {x : Int64} (h : k ≠ 8) : zvl k x = x := by unfold zvl; rw [if_neg (fun q => h q.1)]
theorem zcl_ok {k : Int} {v : Int64} (h : zcl k v) (hk : k ≠ 8) : zok k v := h.resolve_right (fun q => hk q.1)
theorem zrr_0 {t : zBk} {s row pl kd : Int} (h : zrr t s row pl kd = 0) : zkr t s row pl kd = 0 ∧ zgi (zrk t s row) kd := by
  unfold zrr at h; split at h
  · omega
  · split at h
    · exact ⟨by omega, by assumption⟩
    · omega
theorem zwr_0 {t : zBk} {s row pl kd : Int} (h : zwr t s row pl kd = 0) : zkr t s row pl kd = 0 ∧ zgi kd (zrk t s row) := by
  unfold zwr at h; split at h
  · omega
  · split at h
    · exact ⟨by omega, by assumption⟩
    · omega
theorem zrk_rng {t : zBk} (hVt : zVt t) (s row : Int) : -4 ≤ zrk t s row ∧ zrk t s row ≤ 9 := by
  rcases zrk_cases hVt s row with hk | ⟨u, h1, h2, h3, hk⟩ | ⟨u, f, h1, h2, h3, h4, hk⟩
  · omega
  · omega
  · have hq7 := ((hVt.2.2.1 u h3).1.2 f h4).1
    omega
theorem zkr_rng {t : zBk} (hVt : zVt t) (s row pl kd : Int) : -4 ≤ zkr t s row pl kd ∧ zkr t s row pl kd ≤ 0 := by
  have := zrk_rng hVt s row
  unfold zkr; (repeat' split) <;> omega
theorem zrr_rng {t : zBk} (hVt : zVt t) (s row pl kd : Int) : -4 ≤ zrr t s row pl kd ∧ zrr t s row pl kd ≤ 0 := by
  have := zkr_rng hVt s row pl kd
  unfold zrr; (repeat' split) <;> omega
theorem zwr_rng {t : zBk} (hVt : zVt t) (s row pl kd : Int) : -4 ≤ zwr t s row pl kd ∧ zwr t s row pl kd ≤ 0 := by
  have := zkr_rng hVt s row pl kd
  unfold zwr; (repeat' split) <;> omega
theorem ztr_rng {t : zBk} (hVt : zVt t) (s row pl kd : Int) : -4 ≤ ztr t s row pl kd ∧ ztr t s row pl kd ≤ 0 := by
  have := zrk_rng hVt s row
  unfold ztr; (repeat' split) <;> omega
theorem zgr_rng {t : zBk} (hVt : zVt t) (s row pl w : Int) : -4 ≤ zgr t s row pl w ∧ zgr t s row pl w ≤ 0 := by
  have := zrk_rng hVt s row
  unfold zgr; (repeat' split) <;> omega
theorem zpl_in {t : zBk} (hVt : zVt t) {u f : Nat} {pl : Int} (hu : (u : Int) < t 0) (hf : (f : Int) < zNF t u) (h : 0 ≤ pl ∧ pl < 8 * zCE t u f) : ∃ r i : Nat, r < 8 ∧ (i : Int) < zCE t u f ∧ pl = r * zCE t u f + i ∧ (pl / zCE t u f).toNat = r ∧ (pl % zCE t u f).toNat = i ∧ 11 + 32 * (6 * (u : Int) + f) + pl = (zpr t u f r i : Nat) ∧ zpr t u f r i < 587 := by
  have hV := (hVt.2.2.1 u hu).1
  have hce := (hV.2 f hf)
  have h6 := zf6 hV hf
  have h3 := zu3 hVt hu
  refine ⟨(pl / zCE t u f).toNat, (pl % zCE t u f).toNat, ?_⟩
  unfold zpr
  have hce2 := hce.2
  generalize zCE t u f = e at *
  rcases (show e = 1 ∨ e = 2 ∨ e = 3 ∨ e = 4 by omega) with rfl | rfl | rfl | rfl <;> refine ⟨by omega, by omega, by omega, rfl, rfl, ?_, ?_⟩ <;> first | omega | (simp only [show (1 : Int).toNat = 1 from rfl, show (2 : Int).toNat = 2 from rfl, show (3 : Int).toNat = 3 from rfl, show (4 : Int).toNat = 4 from rfl]; omega)
theorem zlo_f {t : zBk} (hVt : zVt t) {u f : Nat} (hu : (u : Int) < t 0) (hf : (f : Int) < zNF t u) : zlo t u f = 8 * zCE t u f := by
  have h6 := zf6 (hVt.2.2.1 u hu).1 hf
  unfold zlo; rw [if_neg (by omega)]; rfl
theorem zgr_0 {t : zBk} (hVt : zVt t) {s row pl w : Int} (h : zgr t s row pl w = 0) : (0 ≤ w ∧ w ≤ 1) ∧ ((∃ (u z : Nat), s = u ∧ (u : Int) < t 0 ∧ row = 8 ∧ zrk t s row = 9 ∧ pl = z ∧ z < 4) ∨ ∃ u f : Nat, s = u ∧ row = f ∧ (u : Int) < t 0 ∧ (f : Int) < zNF t u ∧ zrk t s row = zKD t u f ∧ 0 ≤ pl ∧ pl < 8 * zCE t u f) := by
  unfold zgr at h
  split at h
  · omega
  · refine ⟨by omega, ?_⟩
    rcases zrk_cases hVt s row with hk | ⟨u, rfl, hu, rfl, hk⟩ | ⟨u, f, rfl, rfl, hu, hf, hk⟩
    · rw [if_pos hk.1] at h; omega
    · rw [hk, if_neg (by omega), show zlo t ↑u 8 = 4 by unfold zlo; rw [if_pos rfl]] at h
      split at h
      · omega
      · exact Or.inl ⟨u, pl.toNat, rfl, hu, rfl, hk, by omega, by omega⟩
    · have hq7 := ((hVt.2.2.1 u hu).1.2 f hf).1
      rw [hk, if_neg (by omega), zlo_f hVt hu hf] at h
      split at h
      · omega
      · exact Or.inr ⟨u, f, rfl, rfl, hu, hf, hk, by omega, by omega⟩
theorem ztr_0 {t : zBk} (hVt : zVt t) {s row pl kd : Int} (h : ztr t s row pl kd = 0) : (0 ≤ kd ∧ kd ≤ 10) ∧ ((∃ (u z : Nat), s = u ∧ (u : Int) < t 0 ∧ row = 8 ∧ zrk t s row = 9 ∧ pl = z ∧ z < 4) ∨ ∃ u f : Nat, s = u ∧ row = f ∧ (u : Int) < t 0 ∧ (f : Int) < zNF t u ∧ zrk t s row = zKD t u f ∧ (0 ≤ pl ∧ pl < 8 * zCE t u f) ∧ ((kd = 10 ∧ zKD t u f = 8) ∨ (kd ≤ 8 ∧ zgi kd (zKD t u f)))) := by
  unfold ztr at h
  split at h
  · omega
  · refine ⟨by omega, ?_⟩
    rcases zrk_cases hVt s row with hk | ⟨u, rfl, hu, rfl, hk⟩ | ⟨u, f, rfl, rfl, hu, hf, hk⟩
    · rw [if_pos hk.1] at h; omega
    · rw [hk, if_neg (by omega), if_neg (by omega), show zlo t ↑u 8 = 4 by unfold zlo; rw [if_pos rfl]] at h
      split at h
      · omega
      · exact Or.inl ⟨u, pl.toNat, rfl, hu, rfl, hk, by omega, by omega⟩
    · have hq7 := ((hVt.2.2.1 u hu).1.2 f hf).1
      rw [hk, if_neg (by omega), zlo_f hVt hu hf] at h
      split at h
      · omega
      · split at h
        · omega
        · split at h
          · rename_i h4
            exact Or.inr ⟨u, f, rfl, rfl, hu, hf, hk, by omega, by omega⟩
          · omega

