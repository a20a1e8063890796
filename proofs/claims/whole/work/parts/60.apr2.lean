/-! ROWS: read, write of the reference -/
theorem zrk_rng {t : zBk} (hVt : zVt t) (s row : Int) : -4 ≤ zrk t s row ∧ zrk t s row ≤ 9 := by
  rcases zrk_cases hVt s row with hk | ⟨u, h1, h2, h3, hk⟩ | ⟨u, f, h1, h2, h3, h4, hk⟩
  · omega
  · omega
  · have hq7 := ((hVt.2.2.1 u h3).1.2 f h4).1
    omega
theorem zkr_rng {t : zBk} (hVt : zVt t) (s row pl kd : Int) : -4 ≤ zkr t s row pl kd ∧ zkr t s row pl kd ≤ 0 := by
  have := zrk_rng hVt s row
  unfold zkr; (repeat' split) <;> omega
theorem zrr_rng {t : zBk} (hVt : zVt t) (s row pl kd : Int) : -4 ≤ zrr t s row pl kd ∧ zrr t s row pl kd ≤ 0 := by
  have := zkr_rng hVt s row pl kd
  unfold zrr; (repeat' split) <;> omega
theorem zwr_rng {t : zBk} (hVt : zVt t) (s row pl kd : Int) : -4 ≤ zwr t s row pl kd ∧ zwr t s row pl kd ≤ 0 := by
  have := zkr_rng hVt s row pl kd
  unfold zwr; (repeat' split) <;> omega
theorem ztr_rng {t : zBk} (hVt : zVt t) (s row pl kd : Int) : -4 ≤ ztr t s row pl kd ∧ ztr t s row pl kd ≤ 0 := by
  have := zrk_rng hVt s row
  unfold ztr; (repeat' split) <;> omega
/-- what a place is refused by where what stands in it is asked -/
def zgr (t : zBk) (s row pl w : Int) : Int := if w < 0 ∨ 1 < w then -4 else if zrk t s row < 0 then zrk t s row else if pl < 0 ∨ zlo t s row ≤ pl then -1 else 0
theorem zgr_rng {t : zBk} (hVt : zVt t) (s row pl w : Int) : -4 ≤ zgr t s row pl w ∧ zgr t s row pl w ≤ 0 := by
  have := zrk_rng hVt s row
  unfold zgr; (repeat' split) <;> omega
theorem zTr.w {σ : zSt} {t : zBk} (h : zTr σ t) {k : Nat} {v : Int32} (hk : k ≠ 14) : zTr (zwI σ 164 k v) t := ⟨fun i hi => (zI_wI_n (Or.inl (by decide))).trans (h.1 i hi), (zI_wI_n (Or.inr (fun e => hk e.symm))).trans h.2⟩
theorem zTr.kR {σ : zSt} {t : zBk} (h : zTr σ t) {x : Nat} {y : Int} : zTr (zkR σ x y) t := by
  have a : zTr (zwI σ 164 31 (iZ (((x + 1) % 20 : Nat) : Int))) t := h.w (by decide)
  have b : zTr (zrL (zwI σ 164 31 (iZ (((x + 1) % 20 : Nat) : Int))) 180 (zcpa (587 * ((x + 1) % 20)) 587 (zL σ 170) (zL σ 180))) t := a
  exact b.w (k := 30) (by decide)
/-- a place of a field's row -/
theorem zpl_in {t : zBk} (hVt : zVt t) {u f : Nat} {pl : Int} (hu : (u : Int) < t 0) (hf : (f : Int) < zNF t u) (h : 0 ≤ pl ∧ pl < 8 * zCE t u f) : ∃ r i : Nat, r < 8 ∧ (i : Int) < zCE t u f ∧ pl = r * zCE t u f + i ∧ (pl / zCE t u f).toNat = r ∧ (pl % zCE t u f).toNat = i ∧ 11 + 32 * (6 * (u : Int) + f) + pl = (zpr t u f r i : Nat) ∧ zpr t u f r i < 587 := by
  have hV := (hVt.2.2.1 u hu).1
  have hce := (hV.2 f hf)
  have h6 := zf6 hV hf
  have h3 := zu3 hVt hu
  refine ⟨(pl / zCE t u f).toNat, (pl % zCE t u f).toNat, ?_⟩
  unfold zpr
  have hce2 := hce.2
  generalize zCE t u f = e at *
  rcases (show e = 1 ∨ e = 2 ∨ e = 3 ∨ e = 4 by omega) with rfl | rfl | rfl | rfl <;> refine ⟨by omega, by omega, by omega, rfl, rfl, ?_, ?_⟩ <;> first | omega | (simp only [show (1 : Int).toNat = 1 from rfl, show (2 : Int).toNat = 2 from rfl, show (3 : Int).toNat = 3 from rfl, show (4 : Int).toNat = 4 from rfl]; omega)
theorem zlo_f {t : zBk} (hVt : zVt t) {u f : Nat} (hu : (u : Int) < t 0) (hf : (f : Int) < zNF t u) : zlo t u f = 8 * zCE t u f := by
  have h6 := zf6 (hVt.2.2.1 u hu).1 hf
  unfold zlo; rw [if_neg (by omega)]; rfl
theorem zgr_0 {t : zBk} (hVt : zVt t) {s row pl w : Int} (h : zgr t s row pl w = 0) : (0 ≤ w ∧ w ≤ 1) ∧ ((∃ (u z : Nat), s = u ∧ (u : Int) < t 0 ∧ row = 8 ∧ zrk t s row = 9 ∧ pl = z ∧ z < 4) ∨ ∃ u f : Nat, s = u ∧ row = f ∧ (u : Int) < t 0 ∧ (f : Int) < zNF t u ∧ zrk t s row = zKD t u f ∧ 0 ≤ pl ∧ pl < 8 * zCE t u f) := by
  unfold zgr at h
  split at h
  · omega
  · refine ⟨by omega, ?_⟩
    rcases zrk_cases hVt s row with hk | ⟨u, rfl, hu, rfl, hk⟩ | ⟨u, f, rfl, rfl, hu, hf, hk⟩
    · rw [if_pos hk.1] at h; omega
    · rw [hk, if_neg (by omega), show zlo t ↑u 8 = 4 by unfold zlo; rw [if_pos rfl]] at h
      split at h
      · omega
      · exact Or.inl ⟨u, pl.toNat, rfl, hu, rfl, hk, by omega, by omega⟩
    · have hq7 := ((hVt.2.2.1 u hu).1.2 f hf).1
      rw [hk, if_neg (by omega), zlo_f hVt hu hf] at h
      split at h
      · omega
      · exact Or.inr ⟨u, f, rfl, rfl, hu, hf, hk, by omega, by omega⟩
theorem ztr_0 {t : zBk} (hVt : zVt t) {s row pl kd : Int} (h : ztr t s row pl kd = 0) : (0 ≤ kd ∧ kd ≤ 10) ∧ ((∃ (u z : Nat), s = u ∧ (u : Int) < t 0 ∧ row = 8 ∧ zrk t s row = 9 ∧ pl = z ∧ z < 4) ∨ ∃ u f : Nat, s = u ∧ row = f ∧ (u : Int) < t 0 ∧ (f : Int) < zNF t u ∧ zrk t s row = zKD t u f ∧ (0 ≤ pl ∧ pl < 8 * zCE t u f) ∧ ((kd = 10 ∧ zKD t u f = 8) ∨ (kd ≤ 8 ∧ zgi kd (zKD t u f)))) := by
  unfold ztr at h
  split at h
  · omega
  · refine ⟨by omega, ?_⟩
    rcases zrk_cases hVt s row with hk | ⟨u, rfl, hu, rfl, hk⟩ | ⟨u, f, rfl, rfl, hu, hf, hk⟩
    · rw [if_pos hk.1] at h; omega
    · rw [hk, if_neg (by omega), if_neg (by omega), show zlo t ↑u 8 = 4 by unfold zlo; rw [if_pos rfl]] at h
      split at h
      · omega
      · exact Or.inl ⟨u, pl.toNat, rfl, hu, rfl, hk, by omega, by omega⟩
    · have hq7 := ((hVt.2.2.1 u hu).1.2 f hf).1
      rw [hk, if_neg (by omega), zlo_f hVt hu hf] at h
      split at h
      · omega
      · split at h
        · omega
        · split at h
          · rename_i h4
            exact Or.inr ⟨u, f, rfl, rfl, hu, hf, hk, by omega, by omega⟩
          · omega

theorem ra_read {σ : zSt} {t : zBk} (hF : zFx σ) (hVt : zVt t) (hT : zTr σ t) (hW : zWid σ) (hcl : ∀ s f r i : Nat, (s : Int) < t 0 → zClF t s f i → r < 8 → zcl (zKD t s f) (zL σ 170 (zpr t s f r i))) {s row pl kd : Int} (hs : (-2147483648 ≤ s ∧ s ≤ 2147483647)) (hr0 : (-2147483648 ≤ row ∧ row ≤ 2147483647)) (hpl0 : (-2147483648 ≤ pl ∧ pl ≤ 2147483647)) (hkd0 : (-2147483648 ≤ kd ∧ kd ≤ 2147483647)) {Q : zSt → Option Value → Prop} (k0 : zrr t s row pl kd ≠ 0 → Q (zwI σ 164 18 (iZ (zrr t s row pl kd))) (some (.long (lZ (-4611686018427387904))))) (k1 : zrr t s row pl kd = 0 → Q (zwI σ 164 18 (iZ 0)) (some (.long (zcar (zvq t (zgR t (zL σ 170)) s row pl) (zrk t s row) kd)))) : zCa 258 [.ref 164, .int (iZ s), .int (iZ row), .int (iZ pl), .int (iZ kd)] σ Q := by
  refine w_enter (c := zk_X12_read_) (ls2 := [(0, .ref 164), (1, .int (iZ s)), (2, .int (iZ row)), (3, .int (iZ pl)), (4, .int (iZ kd))]) rfl ⟨rfl, rfl, rfl, rfl, rfl, trivial⟩ ?_
  refine w_aload_n (pc' := 1) ⟨rfl, rfl⟩ rfl ?_
  refine w_aload_n (pc' := 2) ⟨rfl, rfl⟩ rfl ?_
  refine w_iload_n (pc' := 3) ⟨rfl, rfl⟩ rfl ?_
  refine w_iload_n (pc' := 4) ⟨rfl, rfl⟩ rfl ?_
  refine w_iload_n (pc' := 5) ⟨rfl, rfl⟩ rfl ?_
  refine w_iload (pc' := 7) ⟨rfl, rfl⟩ rfl ?_
  refine w_ic (pc' := 8) ⟨rfl, rfl⟩ ?_
  refine w_cv6 (pc' := 11) ⟨rfl, rfl⟩ (by decide) (zOl hF rfl) (Nat.le_of_ble_eq_true rfl) (Nat.le_of_ble_eq_true rfl) (r_reasonR hF hVt hT hW hs hr0 hpl0 hkd0 ?_)
  refine w_cv2 (pc' := 14) ⟨rfl, rfl⟩ (by decide) (zOl hF rfl) (Nat.le_of_ble_eq_true rfl) (Nat.le_of_ble_eq_true rfl) (r_isRefusedBy hF (by have := zrr_rng hVt s row pl kd; omega) (fun h => ?_) (fun h => ?_))
  · refine w_ifF_eq (pc' := 17) ⟨rfl, rfl⟩ (by decide) ?_
    refine w_ldc2Y (pc' := 20) (z := -4611686018427387904) ⟨rfl, rfl⟩ rfl ?_
    refine w_lreturn (pc' := 21) ⟨rfl, rfl⟩ ?_
    exact k0 h
  · rw [h]
    obtain ⟨hz, hgi⟩ := zrr_0 h
    obtain ⟨u, f, r, i, rfl, rfl, hu, hf, hk, hk7, hkd, hr, hi, hpl, hq1, hq2, hjp, hj5⟩ := zkr_0 hVt hz
    have hV := (hVt.2.2.1 u hu).1
    have hcl1 := hcl u f r i hu ⟨hf, hi⟩ hr
    have hq7 := (hV.2 f hf).1
    have ht0 := hVt.1
    rw [zvq_e hq1 hq2, hk] at k1
    rw [hk] at hgi
    have hzo : zok (zKD t u f) (zL σ 170 (zpr t u f r i)) := zcl_ok hcl1 (by omega)
    have e : zgR t (zL σ 170) u f r i = zL σ 170 (zpr t u f r i) := zvl_n (by omega)
    rw [e] at k1
    refine w_ifT_eq (pc' := 17) (pcT := 21) ⟨rfl, rfl⟩ rfl (by decide) ?_
    refine w_aload_n (pc' := 22) ⟨rfl, rfl⟩ rfl ?_
    refine w_aload_n (pc' := 23) ⟨rfl, rfl⟩ rfl ?_
    refine w_getR (pc' := 26) (cl := 10) (q := 16) ⟨rfl, rfl⟩ ⟨rfl, by decide⟩ (zOl hF rfl) (hF.2 164 16 170 rfl) ?_
    refine w_iload_n (pc' := 27) ⟨rfl, rfl⟩ rfl ?_
    refine w_iload_n (pc' := 28) ⟨rfl, rfl⟩ rfl ?_
    refine w_iload_n (pc' := 29) ⟨rfl, rfl⟩ rfl ?_
    refine w_cs3 (pc' := 32) ⟨rfl, rfl⟩ (by decide) (Nat.le_of_ble_eq_true rfl) (Nat.le_of_ble_eq_true rfl) (r_placeAt ?_)
    refine w_lald (pc' := 33) ⟨rfl, rfl⟩ (zAl hF rfl) (zixA (j := zpr t u f r i) ⟨hjp, by omega, by omega⟩) rfl ?_
    refine w_aload_n (pc' := 34) ⟨rfl, rfl⟩ rfl ?_
    refine w_iload_n (pc' := 35) ⟨rfl, rfl⟩ rfl ?_
    refine w_iload_n (pc' := 36) ⟨rfl, rfl⟩ rfl ?_
    refine w_cv3 (pc' := 39) ⟨rfl, rfl⟩ (by decide) (zOl hF rfl) (Nat.le_of_ble_eq_true rfl) (Nat.le_of_ble_eq_true rfl) (r_kindOf (σ := (zwI σ 164 18 (iZ 0))) hF (hT.w (by decide)) (zu3 hVt hu) (zf6 hV hf) ?_)
    refine w_iload (pc' := 41) ⟨rfl, rfl⟩ rfl ?_
    refine w_cv4 (pc' := 44) ⟨rfl, rfl⟩ (by decide) (zOl hF rfl) (Nat.le_of_ble_eq_true rfl) (Nat.le_of_ble_eq_true rfl) (r_widened (by omega) (by omega) hzo hgi ?_)
    refine w_lreturn (pc' := 45) ⟨rfl, rfl⟩ ?_
    exact k1 h
theorem ra_write {σ : zSt} {t : zBk} (hF : zFx σ) (hVt : zVt t) (hT : zTr σ t) (hW : zWid σ) {x : Nat} {y : Int} (hx : zI σ 164 31 = iZ x) (hx2 : x < 20) (hy : zI σ 164 30 = iZ y) (hy2 : 0 ≤ y ∧ y ≤ 20) {s row pl kd : Int} (hs : (-2147483648 ≤ s ∧ s ≤ 2147483647)) (hr0 : (-2147483648 ≤ row ∧ row ≤ 2147483647)) (hpl0 : (-2147483648 ≤ pl ∧ pl ≤ 2147483647)) (hkd0 : (-2147483648 ≤ kd ∧ kd ≤ 2147483647)) {v : Int64} {Q : zSt → Option Value → Prop} (k0 : zwr t s row pl kd ≠ 0 → Q (zwI σ 164 18 (iZ (zwr t s row pl kd))) (some (.int (iZ 0)))) (k1 : zwr t s row pl kd = 0 → Q (zwL (zkR (zwI σ 164 18 (iZ 0)) x y) 170 (zjr t s row pl) (zcar (ztold v kd) kd (zrk t s row))) (some (.int (iZ 1)))) : zCa 260 [.ref 164, .int (iZ s), .int (iZ row), .int (iZ pl), .int (iZ kd), .long v] σ Q := by
  refine w_enter (c := zk_X12_write) (ls2 := [(0, .ref 164), (1, .int (iZ s)), (2, .int (iZ row)), (3, .int (iZ pl)), (4, .int (iZ kd)), (5, .long v)]) rfl ⟨rfl, rfl, rfl, rfl, rfl, rfl, trivial⟩ ?_
  refine w_aload_n (pc' := 1) ⟨rfl, rfl⟩ rfl ?_
  refine w_aload_n (pc' := 2) ⟨rfl, rfl⟩ rfl ?_
  refine w_iload_n (pc' := 3) ⟨rfl, rfl⟩ rfl ?_
  refine w_iload_n (pc' := 4) ⟨rfl, rfl⟩ rfl ?_
  refine w_iload_n (pc' := 5) ⟨rfl, rfl⟩ rfl ?_
  refine w_iload (pc' := 7) ⟨rfl, rfl⟩ rfl ?_
  refine w_ic (pc' := 8) ⟨rfl, rfl⟩ ?_
  refine w_cv6 (pc' := 11) ⟨rfl, rfl⟩ (by decide) (zOl hF rfl) (Nat.le_of_ble_eq_true rfl) (Nat.le_of_ble_eq_true rfl) (r_reasonW hF hVt hT hW hs hr0 hpl0 hkd0 ?_)
  refine w_cv2 (pc' := 14) ⟨rfl, rfl⟩ (by decide) (zOl hF rfl) (Nat.le_of_ble_eq_true rfl) (Nat.le_of_ble_eq_true rfl) (r_isRefusedBy hF (by have := zwr_rng hVt s row pl kd; omega) (fun h => ?_) (fun h => ?_))
  · refine w_ifF_eq (pc' := 17) ⟨rfl, rfl⟩ (by decide) ?_
    refine w_ic (pc' := 18) ⟨rfl, rfl⟩ ?_
    refine w_ireturn (pc' := 19) ⟨rfl, rfl⟩ (by decide) ?_
    exact k0 h
  · rw [h]
    obtain ⟨hz, hgi⟩ := zwr_0 h
    obtain ⟨u, f, r, i, rfl, rfl, hu, hf, hk, hk7, hkd, hr, hi, hpl, hq1, hq2, hjp, hj5⟩ := zkr_0 hVt hz
    have hV := (hVt.2.2.1 u hu).1
    have hq7 := (hV.2 f hf).1
    have ht0 := hVt.1
    rw [zjr_e hq1 hq2, hk] at k1
    rw [hk] at hgi
    refine w_ifT_eq (pc' := 17) (pcT := 19) ⟨rfl, rfl⟩ rfl (by decide) ?_
    refine w_aload_n (pc' := 20) ⟨rfl, rfl⟩ rfl ?_
    refine w_cv1 (pc' := 23) ⟨rfl, rfl⟩ (by decide) (zOl hF rfl) (Nat.le_of_ble_eq_true rfl) (Nat.le_of_ble_eq_true rfl) (r_keeps (σ := (zwI σ 164 18 (iZ 0))) hF ((zI_wI_n (Or.inr (by decide))).trans hx) hx2 ((zI_wI_n (Or.inr (by decide))).trans hy) hy2 ?_)
    refine w_aload_n (pc' := 24) ⟨rfl, rfl⟩ rfl ?_
    refine w_getR (pc' := 27) (cl := 10) (q := 16) ⟨rfl, rfl⟩ ⟨rfl, by decide⟩ (zOl hF rfl) (hF.2 164 16 170 rfl) ?_
    refine w_iload_n (pc' := 28) ⟨rfl, rfl⟩ rfl ?_
    refine w_iload_n (pc' := 29) ⟨rfl, rfl⟩ rfl ?_
    refine w_iload_n (pc' := 30) ⟨rfl, rfl⟩ rfl ?_
    refine w_cs3 (pc' := 33) ⟨rfl, rfl⟩ (by decide) (Nat.le_of_ble_eq_true rfl) (Nat.le_of_ble_eq_true rfl) (r_placeAt ?_)
    refine w_aload_n (pc' := 34) ⟨rfl, rfl⟩ rfl ?_
    refine w_lload (pc' := 36) ⟨rfl, rfl⟩ rfl ?_
    refine w_iload (pc' := 38) ⟨rfl, rfl⟩ rfl ?_
    refine w_cs2 (pc' := 41) ⟨rfl, rfl⟩ (by decide) (Nat.le_of_ble_eq_true rfl) (Nat.le_of_ble_eq_true rfl) (r_toldAs (by omega) ?_)
    refine w_iload (pc' := 43) ⟨rfl, rfl⟩ rfl ?_
    refine w_aload_n (pc' := 44) ⟨rfl, rfl⟩ rfl ?_
    refine w_iload_n (pc' := 45) ⟨rfl, rfl⟩ rfl ?_
    refine w_iload_n (pc' := 46) ⟨rfl, rfl⟩ rfl ?_
    refine w_cv3 (pc' := 49) ⟨rfl, rfl⟩ (by decide) (zOl hF rfl) (Nat.le_of_ble_eq_true rfl) (Nat.le_of_ble_eq_true rfl) (r_kindOf (σ := zkR (zwI σ 164 18 (iZ 0)) x y) hF (hT.w (by decide)).kR (zu3 hVt hu) (zf6 hV hf) ?_)
    refine w_cv4 (pc' := 52) ⟨rfl, rfl⟩ (by decide) (zOl hF rfl) (Nat.le_of_ble_eq_true rfl) (Nat.le_of_ble_eq_true rfl) (r_widened (by omega) (by omega) (zok_told _ _) hgi ?_)
    refine w_last (pc' := 53) ⟨rfl, rfl⟩ (zAl hF rfl) (zixA (j := zpr t u f r i) ⟨hjp, by omega, by omega⟩) ?_
    refine w_ic (pc' := 54) ⟨rfl, rfl⟩ ?_
    refine w_ireturn (pc' := 55) ⟨rfl, rfl⟩ (by decide) ?_
    exact k1 h
