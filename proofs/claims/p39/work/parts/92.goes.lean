/-! THE LAW: goes -/
/-- what a place is told by, of what kind it is -/
def zHld (t : zBk) (R : zRw0) (row pl its : Int) (got : Int64) : Prop := (0 ≤ its ∧ its ≤ 10) ∧ zgV t R row pl 0 = lZ its ∧ zgV t R row pl 1 = got ∧ (zgr t 0 row pl 0 = 0 ∧ zgr t 0 row pl 1 = 0) ∧ ∀ k, zrr t 0 row pl k = 0 → its ≤ 7 ∧ zok its got ∧ zgi its k ∧ 0 ≤ k ∧ k ≤ 7 ∧ zcar (zvq t (zgC t R) 0 row pl) (zrk t 0 row) k = zcar got its k
theorem zHld.cg {t : zBk} {R : zRw0} {row pl its : Int} {g g' : Int64} (h : zHld t R row pl its g) (e : g' = g) : zHld t R row pl its g' := e ▸ h
theorem zgr2 {t : zBk} {row pl : Int} : zgr t 0 row pl 2 = -4 := by
  unfold zgr
  rw [if_pos (by omega)]
theorem zgV2 {t : zBk} {R : zRw0} {row pl : Int} : zgV t R row pl 2 = lZ (-4611686018427387904) := by
  unfold zgV
  rw [zgr2, if_neg (by decide)]
theorem zrr_k {t : zBk} {row pl k : Int} (h : zrr t 0 row pl k = 0) : (0 ≤ k ∧ k ≤ 7) ∧ zrk t 0 row ≤ 7 ∧ zgi (zrk t 0 row) k := by
  obtain ⟨h1, h2⟩ := zrr_0 h
  refine ⟨?_, ?_, h2⟩
  · unfold zkr at h1
    split at h1 <;> omega
  · unfold zkr at h1
    split at h1
    · omega
    · split at h1
      · omega
      · split at h1 <;> omega
theorem hH_thing {t : zBk} (h13 : 1 ≤ t 0 ∧ t 0 ≤ 3) {R : zRw0} {z : Nat} (hz : z < 4) {kd : Int} (hk : 0 ≤ kd ∧ kd ≤ 10) {g : Int64} : zHld t (va_up (va_up R (3 + z) (lZ kd)) (7 + z) g) 8 (z : Int) kd g := by
  have e9 : zrk t 0 8 = 9 := by rw [zrk0 h13, if_neg (by omega), if_pos rfl]
  have hg : ∀ w : Int, 0 ≤ w → w ≤ 1 → zgr t 0 8 (z : Int) w = 0 := fun w h0 h1 => by
    unfold zgr
    rw [if_neg (by omega), e9, if_neg (by omega), zlo8, if_neg (by omega)]
  refine ⟨hk, ?_, ?_, ⟨hg 0 (by decide) (by decide), hg 1 (by decide) (by decide)⟩, fun k h => ?_⟩
  · unfold zgV
    rw [if_pos (hg 0 (by decide) (by decide))]
    unfold zgv va_up
    rw [if_pos rfl, if_pos rfl, Int.toNat_natCast, if_neg (by omega), if_pos rfl]
  · unfold zgV
    rw [if_pos (hg 1 (by decide) (by decide))]
    unfold zgv va_up
    rw [if_pos rfl, if_neg (by decide), Int.toNat_natCast, if_pos rfl]
  · have := (zrr_k h).2.1
    omega
theorem hH_cell {t : zBk} (hVt : zVt t) (h1 : 1 ≤ t 0) {R : zRw0} {f : Nat} (hf : (f : Int) < zNF t 0) {pl : Int} (hp : 0 ≤ pl ∧ pl < 8 * zCE t 0 f) {v : Int64} : ((zok (zKD t 0 f) v → zHld t (va_up R (zjq t 0 (f : Int) pl) v) (f : Int) pl (zKD t 0 f) v) ∧ (zKD t 0 f = 8 → zHld t (va_up R (zjq t 0 (f : Int) pl) (lZ (-1))) (f : Int) pl 10 (lZ 0))) ∧ (∀ v, zcl (zKD t 0 f) v → zRk t R → zRk t (va_up R (zjq t 0 (f : Int) pl) v)) := by
  have h13 : 1 ≤ t 0 ∧ t 0 ≤ 3 := ⟨h1, hVt.1.2⟩
  have h0 : ((0 : Nat) : Int) < t 0 := by omega
  have hV := (hVt.2.2.1 0 h0).1
  have h6 := zf6 hV hf
  have hkd := (hV.2 f hf).1
  obtain ⟨r, i, hr, hi, hpl, hq1, hq2, -, -⟩ := zpl_in hVt h0 hf hp
  have ej : zjq t 0 (f : Int) pl = zpq t 0 f r i := zjq_e (u := 0) hq1 hq2
  have ek : zrk t 0 (f : Int) = zKD t 0 f := by
    rw [zrk0 h13, if_neg (by omega), if_neg (by omega), if_neg (by omega), if_pos hf, Int.toNat_natCast]
  have hg : ∀ w : Int, 0 ≤ w → w ≤ 1 → zgr t 0 (f : Int) pl w = 0 := fun w a b => by
    unfold zgr
    rw [if_neg (by omega), ek, if_neg (by omega), zlo0 h6, if_neg (by omega)]
  have e0 : ∀ S : zRw0, zgV t S (f : Int) pl 0 = if zKD t 0 f = 8 ∧ S (zpq t 0 f r i) = lZ (-1) then lZ 10 else lZ (zKD t 0 f) := fun S => by
    unfold zgV
    rw [if_pos (hg 0 (by decide) (by decide))]
    unfold zgv
    rw [if_neg (by omega), if_pos rfl, ek, ej]
  have e1 : ∀ S : zRw0, zgV t S (f : Int) pl 1 = zvl (zKD t 0 f) (S (zpq t 0 f r i)) := fun S => by
    unfold zgV
    rw [if_pos (hg 1 (by decide) (by decide))]
    unfold zgv
    rw [if_neg (by omega), if_neg (by decide), ek, ej]
  have eu : ∀ v : Int64, va_up R (zpq t 0 f r i) v (zpq t 0 f r i) = v := fun v => by unfold va_up; rw [if_pos rfl]
  refine ⟨⟨fun hv => ⟨by omega, ?_, ?_, ⟨hg 0 (by decide) (by decide), hg 1 (by decide) (by decide)⟩, fun k h => ?_⟩, fun h8 => ⟨by decide, ?_, ?_, ⟨hg 0 (by decide) (by decide), hg 1 (by decide) (by decide)⟩, fun k h => ?_⟩⟩, fun v hv hR => ?_⟩
  · rw [ej, e0, eu, if_neg]
    rintro ⟨h8, hv1⟩
    rw [h8] at hv
    obtain ⟨m, a, hm, hw, rfl, ha⟩ := zok8 hv
    have := (lZ_inj (a := a) (b := -1) (by omega) (by omega)).mp hv1
    omega
  · rw [ej, e1, eu, zvl_ok hv]
  · have hk := zrr_k h
    rw [ek] at hk
    refine ⟨hk.2.1, hv, hk.2.2, hk.1.1, hk.1.2, ?_⟩
    have e : zvq t (zgC t (va_up R (zjq t 0 (f : Int) pl) v)) 0 (f : Int) pl = v := by
      rw [ej]
      refine (zvq_e (u := 0) hq1 hq2).trans ?_
      show zvl (zKD t 0 f) (va_up R (zpq t 0 f r i) v (zpq t 0 f r i)) = v
      rw [eu, zvl_ok hv]
    rw [e, ek]
  · rw [ej, e0, eu, if_pos ⟨h8, rfl⟩]
  · rw [ej, e1, eu]
    unfold zvl
    rw [if_pos ⟨h8, rfl⟩]
  · have hk := zrr_k h
    rw [ek] at hk
    omega
  · rw [ej]
    exact hR.cell hVt h0 ⟨hf, hi⟩ hr hv
theorem l_rd {σ : zSt} {t : zBk} {L : Nat} {x : Nat → Int} {n : Nat} {y : Int} (hV : zLV σ t L x n y) {row pl : Int} (hr : 0 ≤ row ∧ row ≤ 9) (hp : -1 ≤ pl ∧ pl ≤ 33) {its : Int} {got : Int64} (hH : zHld t (zL σ 80) row pl its got) {Q : zSt → Option Value → Prop} : ∀ (j : Nat) (kk : Int) (σ1 : zSt), kk + j = 9 → -1 ≤ kk → zWy σ σ1 → (∀ σ2, zWy σ σ2 → Q σ2 (some (.int (iZ 1)))) → zP zk_L_goes 349 [(0, .ref 0), (3, .int (iZ row)), (4, .int (iZ pl)), (12, .int (iZ its)), (13, .long got), (15, .int (iZ kk))] [] σ1 Q := by
  intro j
  induction j with
  | zero =>
    intro kk σ1 hi hk1 w k
    have hV1 := w.V hV
    have hF := hV1.1.1
    refine w_iload (pc' := 351) ⟨rfl, rfl⟩ rfl ?_
    refine w_bi (pc' := 353) ⟨rfl, rfl⟩ (by decide) ?_
    refine w_icT_ge (pc' := 356) (pcT := 423) ⟨rfl, rfl⟩ rfl (by omega) ?_
    refine w_ic (pc' := 424) ⟨rfl, rfl⟩ ?_
    refine w_ireturn (pc' := 425) ⟨rfl, rfl⟩ (by decide) ?_
    exact k _ w
  | succ j ih =>
    intro kk σ1 hi hk1 w k
    have hV1 := w.V hV
    have hF := hV1.1.1
    by_cases hz : zrr t 0 row pl kk = 0
    · obtain ⟨hi7, hok, hgi, hk0, hk7, he⟩ := hH.2.2.2.2 kk hz
      have hits := hH.1
      refine w_iload (pc' := 351) ⟨rfl, rfl⟩ rfl ?_
      refine w_bi (pc' := 353) ⟨rfl, rfl⟩ (by decide) ?_
      refine w_icF_ge (pc' := 356) ⟨rfl, rfl⟩ (by omega) ?_
      refine w_aload_n (pc' := 357) ⟨rfl, rfl⟩ rfl ?_
      refine w_iload_n (pc' := 358) ⟨rfl, rfl⟩ rfl ?_
      refine w_iload (pc' := 360) ⟨rfl, rfl⟩ rfl ?_
      refine w_iload (pc' := 362) ⟨rfl, rfl⟩ rfl ?_
      refine w_ic (pc' := 363) ⟨rfl, rfl⟩ ?_
      refine w_cs5 (pc' := 366) ⟨rfl, rfl⟩ (by decide) (Nat.le_of_ble_eq_true rfl) (Nat.le_of_ble_eq_true rfl) (y_rsn0 hV1 (by omega) (by omega) (by omega) ?_)
      rw [hz]
      refine w_istore (pc' := 368) ⟨rfl, rfl⟩ rfl ?_
      refine w_aload_n (pc' := 369) ⟨rfl, rfl⟩ rfl ?_
      refine w_ic (pc' := 370) ⟨rfl, rfl⟩ ?_
      refine w_iload_n (pc' := 371) ⟨rfl, rfl⟩ rfl ?_
      refine w_iload (pc' := 373) ⟨rfl, rfl⟩ rfl ?_
      refine w_iload (pc' := 375) ⟨rfl, rfl⟩ rfl ?_
      refine w_cv5 (pc' := 378) ⟨rfl, rfl⟩ (by decide) (zOl hF rfl) (Nat.le_of_ble_eq_true rfl) (Nat.le_of_ble_eq_true rfl) (y_read hV1 (by decide) (by omega) (by omega) (by omega) (fun h0 σ2 w2 e2 => ?_) (fun h1 σ2 w2 e2 => ?_))
      · exact absurd hz h0
      · refine w_topL (show _ = zcar got its kk from (by rw [w.L]; exact he)) ?_
        have w := w.trans w2
        have hV1 := w.V hV
        have hF := hV1.1.1
        refine w_lstore (pc' := 380) ⟨rfl, rfl⟩ rfl rfl ?_
        refine w_aload_n (pc' := 381) ⟨rfl, rfl⟩ rfl ?_
        refine w_cv1 (pc' := 384) ⟨rfl, rfl⟩ (by decide) (zOl hF rfl) (Nat.le_of_ble_eq_true rfl) (Nat.le_of_ble_eq_true rfl) (c_why hF ?_)
        refine w_topI e2 ?_
        refine w_iload (pc' := 386) ⟨rfl, rfl⟩ rfl ?_
        refine w_icF_ne (pc' := 389) ⟨rfl, rfl⟩ (by decide) ?_
        refine w_lload (pc' := 391) ⟨rfl, rfl⟩ rfl ?_
        refine w_iload (pc' := 393) ⟨rfl, rfl⟩ rfl ?_
        refine w_ifF_ne (pc' := 396) ⟨rfl, rfl⟩ (by decide) ?_
        refine w_lload (pc' := 398) ⟨rfl, rfl⟩ rfl ?_
        refine w_iload (pc' := 400) ⟨rfl, rfl⟩ rfl ?_
        refine w_iload (pc' := 402) ⟨rfl, rfl⟩ rfl ?_
        refine w_cs3 (pc' := 405) ⟨rfl, rfl⟩ (by decide) (Nat.le_of_ble_eq_true rfl) (Nat.le_of_ble_eq_true rfl) (f_as (by omega) (by omega) hok hgi ?_)
        refine w_goto (pc' := 408) (pcT := 411) ⟨rfl, rfl⟩ rfl ?_
        refine w_lcmp (pc' := 412) ⟨rfl, rfl⟩ ?_
        refine w_ifc_eq (pc' := 415) (pcT := 417) ⟨rfl, rfl⟩ rfl (fun h1 => ?_) (fun h1 => ?_)
        · refine w_iincZ (pc' := 420) ⟨rfl, rfl⟩ rfl rfl ?_
          refine w_goto (pc' := 423) (pcT := 349) ⟨rfl, rfl⟩ rfl ?_
          refine w_at (ls2 := [(0, .ref 0), (3, .int (iZ row)), (4, .int (iZ pl)), (12, .int (iZ its)), (13, .long got), (15, .int (iZ (kk + 1)))]) ?_ (ih (kk + 1) _ (by omega) (by omega) w k)
          exact ⟨rfl, rfl, rfl, rfl, rfl, rfl, trivial⟩
        · first | exact absurd rfl (by assumption) | (exfalso; omega)
    · have hrg := zrr_rng hV.1.2.1 0 row pl kk
      refine w_iload (pc' := 351) ⟨rfl, rfl⟩ rfl ?_
      refine w_bi (pc' := 353) ⟨rfl, rfl⟩ (by decide) ?_
      refine w_icF_ge (pc' := 356) ⟨rfl, rfl⟩ (by omega) ?_
      refine w_aload_n (pc' := 357) ⟨rfl, rfl⟩ rfl ?_
      refine w_iload_n (pc' := 358) ⟨rfl, rfl⟩ rfl ?_
      refine w_iload (pc' := 360) ⟨rfl, rfl⟩ rfl ?_
      refine w_iload (pc' := 362) ⟨rfl, rfl⟩ rfl ?_
      refine w_ic (pc' := 363) ⟨rfl, rfl⟩ ?_
      refine w_cs5 (pc' := 366) ⟨rfl, rfl⟩ (by decide) (Nat.le_of_ble_eq_true rfl) (Nat.le_of_ble_eq_true rfl) (y_rsn0 hV1 (by omega) (by omega) (by omega) ?_)
      refine w_istore (pc' := 368) ⟨rfl, rfl⟩ rfl ?_
      refine w_aload_n (pc' := 369) ⟨rfl, rfl⟩ rfl ?_
      refine w_ic (pc' := 370) ⟨rfl, rfl⟩ ?_
      refine w_iload_n (pc' := 371) ⟨rfl, rfl⟩ rfl ?_
      refine w_iload (pc' := 373) ⟨rfl, rfl⟩ rfl ?_
      refine w_iload (pc' := 375) ⟨rfl, rfl⟩ rfl ?_
      refine w_cv5 (pc' := 378) ⟨rfl, rfl⟩ (by decide) (zOl hF rfl) (Nat.le_of_ble_eq_true rfl) (Nat.le_of_ble_eq_true rfl) (y_read hV1 (by decide) (by omega) (by omega) (by omega) (fun h0 σ2 w2 e2 => ?_) (fun h1 σ2 w2 e2 => ?_))
      · have w := w.trans w2
        have hV1 := w.V hV
        have hF := hV1.1.1
        refine w_lstore (pc' := 380) ⟨rfl, rfl⟩ rfl rfl ?_
        refine w_aload_n (pc' := 381) ⟨rfl, rfl⟩ rfl ?_
        refine w_cv1 (pc' := 384) ⟨rfl, rfl⟩ (by decide) (zOl hF rfl) (Nat.le_of_ble_eq_true rfl) (Nat.le_of_ble_eq_true rfl) (c_why hF ?_)
        refine w_topI e2 ?_
        refine w_iload (pc' := 386) ⟨rfl, rfl⟩ rfl ?_
        refine w_icF_ne (pc' := 389) ⟨rfl, rfl⟩ (by omega) ?_
        refine w_lload (pc' := 391) ⟨rfl, rfl⟩ rfl ?_
        refine w_iload (pc' := 393) ⟨rfl, rfl⟩ rfl ?_
        refine w_ifT_ne (pc' := 396) (pcT := 408) ⟨rfl, rfl⟩ rfl (by omega) ?_
        refine w_ldc2Y (pc' := 411) (z := -4611686018427387904) ⟨rfl, rfl⟩ rfl ?_
        refine w_lcmp (pc' := 412) ⟨rfl, rfl⟩ ?_
        refine w_ify_eq (pc' := 415) (pcT := 417) ⟨rfl, rfl⟩ rfl (by omega) (by omega) (fun h1 => ?_) (fun h1 => ?_)
        · refine w_iincZ (pc' := 420) ⟨rfl, rfl⟩ rfl rfl ?_
          refine w_goto (pc' := 423) (pcT := 349) ⟨rfl, rfl⟩ rfl ?_
          refine w_at (ls2 := [(0, .ref 0), (3, .int (iZ row)), (4, .int (iZ pl)), (12, .int (iZ its)), (13, .long got), (15, .int (iZ (kk + 1)))]) ?_ (ih (kk + 1) _ (by omega) (by omega) w k)
          exact ⟨rfl, rfl, rfl, rfl, rfl, rfl, trivial⟩
        · first | exact absurd rfl (by assumption) | (exfalso; omega)
      · exact absurd h1 hz
theorem l_chk {σ : zSt} {t : zBk} {L : Nat} {x : Nat → Int} {n : Nat} {y : Int} (hV : zLV σ t L x n y) {row pl : Int} (hr : 0 ≤ row ∧ row ≤ 9) (hp : -1 ≤ pl ∧ pl ≤ 33) {its : Int} {got : Int64} (hH : zHld t (zL σ 80) row pl its got) {σ1 : zSt} (w : zWy σ σ1) {Q : zSt → Option Value → Prop} (k : (∀ σ2, zWy σ σ2 → Q σ2 (some (.int (iZ 1))))) : zP zk_L_goes 281 [(0, .ref 0), (3, .int (iZ row)), (4, .int (iZ pl)), (12, .int (iZ its)), (13, .long got)] [] σ1 Q := by
  have hV1 := w.V hV
  have hF := hV1.1.1
  have hits := hH.1
  refine w_aload_n (pc' := 282) ⟨rfl, rfl⟩ rfl ?_
  refine w_ic (pc' := 283) ⟨rfl, rfl⟩ ?_
  refine w_iload_n (pc' := 284) ⟨rfl, rfl⟩ rfl ?_
  refine w_iload (pc' := 286) ⟨rfl, rfl⟩ rfl ?_
  refine w_ic (pc' := 287) ⟨rfl, rfl⟩ ?_
  refine w_cv5 (pc' := 290) ⟨rfl, rfl⟩ (by decide) (zOl hF rfl) (Nat.le_of_ble_eq_true rfl) (Nat.le_of_ble_eq_true rfl) (y_get hV1 (by omega) (by omega) (by decide) (fun σ2 w2 e2 => ?_))
  refine w_topL (show _ = lZ its from (by rw [w.L]; exact hH.2.1)) ?_
  have w := w.trans w2
  have hV1 := w.V hV
  have hF := hV1.1.1
  refine w_iload (pc' := 292) ⟨rfl, rfl⟩ rfl ?_
  refine w_i2lZ (pc' := 293) ⟨rfl, rfl⟩ (by omega) ?_
  refine w_lcmp (pc' := 294) ⟨rfl, rfl⟩ ?_
  refine w_ify_ne (pc' := 297) (pcT := 344) ⟨rfl, rfl⟩ rfl (by omega) (by omega) (fun h1 => ?_) (fun h1 => ?_)
  · first | exact absurd rfl (by assumption) | (exfalso; omega)
  · refine w_aload_n (pc' := 298) ⟨rfl, rfl⟩ rfl ?_
    refine w_ic (pc' := 299) ⟨rfl, rfl⟩ ?_
    refine w_iload_n (pc' := 300) ⟨rfl, rfl⟩ rfl ?_
    refine w_iload (pc' := 302) ⟨rfl, rfl⟩ rfl ?_
    refine w_ic (pc' := 303) ⟨rfl, rfl⟩ ?_
    refine w_cv5 (pc' := 306) ⟨rfl, rfl⟩ (by decide) (zOl hF rfl) (Nat.le_of_ble_eq_true rfl) (Nat.le_of_ble_eq_true rfl) (y_get hV1 (by omega) (by omega) (by decide) (fun σ3 w3 e3 => ?_))
    refine w_topL (show _ = got from (by rw [w.L]; exact hH.2.2.1)) ?_
    have w := w.trans w3
    have hV1 := w.V hV
    have hF := hV1.1.1
    refine w_lload (pc' := 308) ⟨rfl, rfl⟩ rfl ?_
    refine w_lcmp (pc' := 309) ⟨rfl, rfl⟩ ?_
    refine w_ifc_ne (pc' := 312) (pcT := 344) ⟨rfl, rfl⟩ rfl (fun h2 => ?_) (fun h2 => ?_)
    · first | exact absurd rfl (by assumption) | (exfalso; omega)
    · refine w_aload_n (pc' := 313) ⟨rfl, rfl⟩ rfl ?_
      refine w_cv1 (pc' := 316) ⟨rfl, rfl⟩ (by decide) (zOl hF rfl) (Nat.le_of_ble_eq_true rfl) (Nat.le_of_ble_eq_true rfl) (c_why hF ?_)
      refine w_topI (e3.trans (congrArg iZ hH.2.2.2.1.2)) ?_
      refine w_ifF_ne (pc' := 319) ⟨rfl, rfl⟩ (by decide) ?_
      refine w_aload_n (pc' := 320) ⟨rfl, rfl⟩ rfl ?_
      refine w_ic (pc' := 321) ⟨rfl, rfl⟩ ?_
      refine w_iload_n (pc' := 322) ⟨rfl, rfl⟩ rfl ?_
      refine w_iload (pc' := 324) ⟨rfl, rfl⟩ rfl ?_
      refine w_ic (pc' := 325) ⟨rfl, rfl⟩ ?_
      refine w_cv5 (pc' := 328) ⟨rfl, rfl⟩ (by decide) (zOl hF rfl) (Nat.le_of_ble_eq_true rfl) (Nat.le_of_ble_eq_true rfl) (y_get hV1 (by omega) (by omega) (by decide) (fun σ4 w4 e4 => ?_))
      refine w_topL (show _ = lZ (-4611686018427387904) from (by rw [w.L]; exact zgV2)) ?_
      have w := w.trans w4
      have hV1 := w.V hV
      have hF := hV1.1.1
      refine w_ldc2Y (pc' := 331) (z := -4611686018427387904) ⟨rfl, rfl⟩ rfl ?_
      refine w_lcmp (pc' := 332) ⟨rfl, rfl⟩ ?_
      refine w_ify_ne (pc' := 335) (pcT := 344) ⟨rfl, rfl⟩ rfl (by omega) (by omega) (fun h3 => ?_) (fun h3 => ?_)
      · first | exact absurd rfl (by assumption) | (exfalso; omega)
      · refine w_aload_n (pc' := 336) ⟨rfl, rfl⟩ rfl ?_
        refine w_cv1 (pc' := 339) ⟨rfl, rfl⟩ (by decide) (zOl hF rfl) (Nat.le_of_ble_eq_true rfl) (Nat.le_of_ble_eq_true rfl) (c_why hF ?_)
        refine w_topI (e4.trans (congrArg iZ zgr2)) ?_
        refine w_bi (pc' := 341) ⟨rfl, rfl⟩ (by decide) ?_
        refine w_icT_eq (pc' := 344) (pcT := 346) ⟨rfl, rfl⟩ rfl (by decide) ?_
        refine w_ic (pc' := 347) ⟨rfl, rfl⟩ ?_
        refine w_istore (pc' := 349) ⟨rfl, rfl⟩ rfl ?_
        refine w_at (ls2 := [(0, .ref 0), (3, .int (iZ row)), (4, .int (iZ pl)), (12, .int (iZ its)), (13, .long got), (15, .int (iZ (-1)))]) ?_ (l_rd hV hr hp hH 10 (-1) _ (by decide) (by decide) w k)
        exact ⟨rfl, rfl, rfl, rfl, rfl, rfl, trivial⟩
theorem l_goP {σ : zSt} {t : zBk} {L : Nat} {x : Nat → Int} {n : Nat} {y : Int} (hV : zLV σ t L x n y) {row pl : Int} (hr : 0 ≤ row ∧ row ≤ 9) (hp : -1 ≤ pl ∧ pl ≤ 33) {kd : Int} (hk : 0 ≤ kd ∧ kd ≤ 11) {V : Int64} {Q : zSt → Option Value → Prop} (k0 : ∀ σ1, zWy σ σ1 → Q σ1 (some (.int (iZ 1)))) (k1 : ∀ R σ2, zRk t R → zWy (zAct σ n y R) σ2 → Q σ2 (some (.int (iZ 1)))) : zP zk_L_goes 95 [(0, .ref 0), (3, .int (iZ row)), (4, .int (iZ pl)), (5, .int (iZ kd)), (6, .int (iZ 1)), (7, .long V)] [] σ Q := by
  have ht0 := hV.1.2.1.1
  have h13 : 1 ≤ t 0 ∧ t 0 ≤ 3 := ⟨hV.1.2.2.2.2, ht0.2⟩
  have hF := hV.1.1
  have hV1 := hV
  by_cases h0 : ztr t 0 row pl kd = 0
  · refine w_aload_n (pc' := 96) ⟨rfl, rfl⟩ rfl ?_
    refine w_iload_n (pc' := 97) ⟨rfl, rfl⟩ rfl ?_
    refine w_iload (pc' := 99) ⟨rfl, rfl⟩ rfl ?_
    refine w_iload (pc' := 101) ⟨rfl, rfl⟩ rfl ?_
    refine w_iload (pc' := 103) ⟨rfl, rfl⟩ rfl ?_
    refine w_ifF_eq (pc' := 106) ⟨rfl, rfl⟩ (by decide) ?_
    refine w_ic (pc' := 107) ⟨rfl, rfl⟩ ?_
    refine w_goto (pc' := 110) (pcT := 111) ⟨rfl, rfl⟩ rfl ?_
    refine w_cs5 (pc' := 114) ⟨rfl, rfl⟩ (by decide) (Nat.le_of_ble_eq_true rfl) (Nat.le_of_ble_eq_true rfl) (y_rsn2 hV1 (by omega) (by omega) (by omega) ?_)
    rw [h0]
    refine w_istore (pc' := 116) ⟨rfl, rfl⟩ rfl ?_
    refine w_iload (pc' := 118) ⟨rfl, rfl⟩ rfl ?_
    refine w_ifF_eq (pc' := 121) ⟨rfl, rfl⟩ (by decide) ?_
    refine w_aload_n (pc' := 122) ⟨rfl, rfl⟩ rfl ?_
    refine w_ic (pc' := 123) ⟨rfl, rfl⟩ ?_
    refine w_iload_n (pc' := 124) ⟨rfl, rfl⟩ rfl ?_
    refine w_iload (pc' := 126) ⟨rfl, rfl⟩ rfl ?_
    refine w_iload (pc' := 128) ⟨rfl, rfl⟩ rfl ?_
    refine w_lload (pc' := 130) ⟨rfl, rfl⟩ rfl ?_
    refine w_cv6 (pc' := 133) ⟨rfl, rfl⟩ (by decide) (zOl hF rfl) (Nat.le_of_ble_eq_true rfl) (Nat.le_of_ble_eq_true rfl) (y_put hV1 (by omega) (by omega) (by omega) (fun g0 σ1 w1 e1 => ?_) (fun z g0 g1 g2 g3 => ?_) (fun g0 g1 g2 => ?_) (fun g0 g1 g2 => ?_))
    · exact absurd h0 g0
    · subst g1
      subst g2
      have hR : zRk t (va_up (va_up (zL σ 80) (3 + z) (lZ kd)) (7 + z) (zthg V kd)) := hV.2.2.1.thing hV.1.2.1 g3 (ztr_0 hV.1.2.1 h0).1
      generalize hRw : va_up (va_up (zL σ 80) (3 + z) (lZ kd)) (7 + z) (zthg V kd) = Rw at hR ⊢
      have hV1 := zAct.V hV hR
      have hF := hV1.1.1
      have hkd := (ztr_0 hV.1.2.1 h0).1
      refine w_goto (pc' := 136) (pcT := 148) ⟨rfl, rfl⟩ rfl ?_
      refine w_iload (pc' := 150) ⟨rfl, rfl⟩ rfl ?_
      refine w_ifF_ne (pc' := 153) ⟨rfl, rfl⟩ (by decide) ?_
      refine w_ic (pc' := 154) ⟨rfl, rfl⟩ ?_
      refine w_goto (pc' := 157) (pcT := 158) ⟨rfl, rfl⟩ rfl ?_
      refine w_icF_ne (pc' := 161) ⟨rfl, rfl⟩ (by decide) ?_
      refine w_aload_n (pc' := 162) ⟨rfl, rfl⟩ rfl ?_
      refine w_cv1 (pc' := 165) ⟨rfl, rfl⟩ (by decide) (zOl hF rfl) (Nat.le_of_ble_eq_true rfl) (Nat.le_of_ble_eq_true rfl) (c_why hF ?_)
      refine w_topI zAct.why ?_
      refine w_iload (pc' := 167) ⟨rfl, rfl⟩ rfl ?_
      refine w_icT_eq (pc' := 170) (pcT := 172) ⟨rfl, rfl⟩ rfl (by decide) ?_
      refine w_iload (pc' := 174) ⟨rfl, rfl⟩ rfl ?_
      refine w_ifT_eq (pc' := 177) (pcT := 179) ⟨rfl, rfl⟩ rfl (by decide) ?_
      rcases (show kd = 10 ∨ kd = 9 ∨ kd ≤ 8 by omega) with rfl | rfl | hk8
      · refine w_iload (pc' := 181) ⟨rfl, rfl⟩ rfl ?_
        refine w_bi (pc' := 183) ⟨rfl, rfl⟩ (by decide) ?_
        refine w_icF_ne (pc' := 186) ⟨rfl, rfl⟩ (by omega) ?_
        refine w_lc (pc' := 187) (z := 0) ⟨rfl, rfl⟩ rfl ?_
        refine w_goto (pc' := 190) (pcT := 211) ⟨rfl, rfl⟩ rfl ?_
        refine w_lstore (pc' := 213) ⟨rfl, rfl⟩ rfl rfl ?_
        refine w_iload_n (pc' := 214) ⟨rfl, rfl⟩ rfl ?_
        refine w_bi (pc' := 216) ⟨rfl, rfl⟩ (by decide) ?_
        refine w_icF_ne (pc' := 219) ⟨rfl, rfl⟩ (by omega) ?_
        refine w_iload (pc' := 221) ⟨rfl, rfl⟩ rfl ?_
        refine w_goto (pc' := 224) (pcT := 243) ⟨rfl, rfl⟩ rfl ?_
        refine w_istore (pc' := 245) ⟨rfl, rfl⟩ rfl ?_
        refine w_iload_n (pc' := 246) ⟨rfl, rfl⟩ rfl ?_
        refine w_bi (pc' := 248) ⟨rfl, rfl⟩ (by decide) ?_
        refine w_icT_eq (pc' := 251) (pcT := 265) ⟨rfl, rfl⟩ rfl (by omega) ?_
        refine w_lload (pc' := 267) ⟨rfl, rfl⟩ rfl ?_
        refine w_goto (pc' := 270) (pcT := 279) ⟨rfl, rfl⟩ rfl ?_
        refine w_lstore (pc' := 281) ⟨rfl, rfl⟩ rfl rfl ?_
        have hH := (hRw ▸ (hH_thing h13 g3 (kd := 10) (by omega)).cg (g' := (lZ 0)) rfl)
        rw [← zAct.L80 (σ := σ) (n := n) (y := y) (R := Rw)] at hH
        refine w_at (ls2 := [(0, .ref 0), (3, .int (iZ 8)), (4, .int (iZ (z : Int))), (12, .int (iZ 10)), (13, .long (lZ 0))]) ?_ (l_chk hV1 (row := 8) (by omega) hp hH zWy.refl (fun σ2 w2 => k1 Rw σ2 hR w2))
        exact ⟨rfl, rfl, rfl, rfl, rfl, trivial⟩
      · refine w_iload (pc' := 181) ⟨rfl, rfl⟩ rfl ?_
        refine w_bi (pc' := 183) ⟨rfl, rfl⟩ (by decide) ?_
        refine w_icT_ne (pc' := 186) (pcT := 190) ⟨rfl, rfl⟩ rfl (by omega) ?_
        refine w_iload (pc' := 192) ⟨rfl, rfl⟩ rfl ?_
        refine w_bi (pc' := 194) ⟨rfl, rfl⟩ (by decide) ?_
        refine w_icF_ne (pc' := 197) ⟨rfl, rfl⟩ (by omega) ?_
        refine w_lload (pc' := 199) ⟨rfl, rfl⟩ rfl ?_
        refine w_l2i (pc' := 200) ⟨rfl, rfl⟩ ?_
        refine w_i2l (pc' := 201) ⟨rfl, rfl⟩ ?_
        refine w_goto (pc' := 204) (pcT := 211) ⟨rfl, rfl⟩ rfl ?_
        refine w_lstore (pc' := 213) ⟨rfl, rfl⟩ rfl rfl ?_
        refine w_iload_n (pc' := 214) ⟨rfl, rfl⟩ rfl ?_
        refine w_bi (pc' := 216) ⟨rfl, rfl⟩ (by decide) ?_
        refine w_icF_ne (pc' := 219) ⟨rfl, rfl⟩ (by omega) ?_
        refine w_iload (pc' := 221) ⟨rfl, rfl⟩ rfl ?_
        refine w_goto (pc' := 224) (pcT := 243) ⟨rfl, rfl⟩ rfl ?_
        refine w_istore (pc' := 245) ⟨rfl, rfl⟩ rfl ?_
        refine w_iload_n (pc' := 246) ⟨rfl, rfl⟩ rfl ?_
        refine w_bi (pc' := 248) ⟨rfl, rfl⟩ (by decide) ?_
        refine w_icT_eq (pc' := 251) (pcT := 265) ⟨rfl, rfl⟩ rfl (by omega) ?_
        refine w_lload (pc' := 267) ⟨rfl, rfl⟩ rfl ?_
        refine w_goto (pc' := 270) (pcT := 279) ⟨rfl, rfl⟩ rfl ?_
        refine w_lstore (pc' := 281) ⟨rfl, rfl⟩ rfl rfl ?_
        have hH := (hRw ▸ (hH_thing h13 g3 (kd := 9) (by omega)).cg (g' := V.toInt32.toInt64) rfl)
        rw [← zAct.L80 (σ := σ) (n := n) (y := y) (R := Rw)] at hH
        refine w_at (ls2 := [(0, .ref 0), (3, .int (iZ 8)), (4, .int (iZ (z : Int))), (12, .int (iZ 9)), (13, .long V.toInt32.toInt64)]) ?_ (l_chk hV1 (row := 8) (by omega) hp hH zWy.refl (fun σ2 w2 => k1 Rw σ2 hR w2))
        exact ⟨rfl, rfl, rfl, rfl, rfl, trivial⟩
      · refine w_iload (pc' := 181) ⟨rfl, rfl⟩ rfl ?_
        refine w_bi (pc' := 183) ⟨rfl, rfl⟩ (by decide) ?_
        refine w_icT_ne (pc' := 186) (pcT := 190) ⟨rfl, rfl⟩ rfl (by omega) ?_
        refine w_iload (pc' := 192) ⟨rfl, rfl⟩ rfl ?_
        refine w_bi (pc' := 194) ⟨rfl, rfl⟩ (by decide) ?_
        refine w_icT_ne (pc' := 197) (pcT := 204) ⟨rfl, rfl⟩ rfl (by omega) ?_
        refine w_lload (pc' := 206) ⟨rfl, rfl⟩ rfl ?_
        refine w_iload (pc' := 208) ⟨rfl, rfl⟩ rfl ?_
        refine w_cs2 (pc' := 211) ⟨rfl, rfl⟩ (by decide) (Nat.le_of_ble_eq_true rfl) (Nat.le_of_ble_eq_true rfl) (f_told (by omega) ?_)
        refine w_lstore (pc' := 213) ⟨rfl, rfl⟩ rfl rfl ?_
        refine w_iload_n (pc' := 214) ⟨rfl, rfl⟩ rfl ?_
        refine w_bi (pc' := 216) ⟨rfl, rfl⟩ (by decide) ?_
        refine w_icF_ne (pc' := 219) ⟨rfl, rfl⟩ (by omega) ?_
        refine w_iload (pc' := 221) ⟨rfl, rfl⟩ rfl ?_
        refine w_goto (pc' := 224) (pcT := 243) ⟨rfl, rfl⟩ rfl ?_
        refine w_istore (pc' := 245) ⟨rfl, rfl⟩ rfl ?_
        refine w_iload_n (pc' := 246) ⟨rfl, rfl⟩ rfl ?_
        refine w_bi (pc' := 248) ⟨rfl, rfl⟩ (by decide) ?_
        refine w_icT_eq (pc' := 251) (pcT := 265) ⟨rfl, rfl⟩ rfl (by omega) ?_
        refine w_lload (pc' := 267) ⟨rfl, rfl⟩ rfl ?_
        refine w_goto (pc' := 270) (pcT := 279) ⟨rfl, rfl⟩ rfl ?_
        refine w_lstore (pc' := 281) ⟨rfl, rfl⟩ rfl rfl ?_
        have hH := (hRw ▸ (hH_thing h13 g3 (kd := kd) (by omega)).cg (g' := (ztold V kd)) (zthg_n (by omega)).symm)
        rw [← zAct.L80 (σ := σ) (n := n) (y := y) (R := Rw)] at hH
        refine w_at (ls2 := [(0, .ref 0), (3, .int (iZ 8)), (4, .int (iZ (z : Int))), (12, .int (iZ kd)), (13, .long (ztold V kd))]) ?_ (l_chk hV1 (row := 8) (by omega) hp hH zWy.refl (fun σ2 w2 => k1 Rw σ2 hR w2))
        exact ⟨rfl, rfl, rfl, rfl, rfl, trivial⟩
    · subst g2
      rcases (ztr_0 hV.1.2.1 h0).2 with ⟨u, z, -, -, q8, -⟩ | ⟨u, f, hu, rfl, hu2, hf, hkk, hpp, hcs⟩
      · exact absurd q8 g1
      obtain rfl : u = 0 := by omega
      have h6 := zf6 (hV.1.2.1.2.2.1 0 hu2).1 hf
      have hq8 := ((hV.1.2.1.2.2.1 0 hu2).1.2 f hf).1
      have hc8 : zKD t 0 f = 8 := by omega
      have hR : zRk t (va_up (zL σ 80) (zjq t 0 (f : Int) pl) (lZ (-1))) := (hH_cell (v := V) hV.1.2.1 h13.1 hf hpp).2 _ (Or.inr ⟨hc8, rfl⟩) hV.2.2.1
      generalize hRw : va_up (zL σ 80) (zjq t 0 (f : Int) pl) (lZ (-1)) = Rw at hR ⊢
      have hV1 := zAct.V hV hR
      have hF := hV1.1.1
      refine w_goto (pc' := 136) (pcT := 148) ⟨rfl, rfl⟩ rfl ?_
      refine w_iload (pc' := 150) ⟨rfl, rfl⟩ rfl ?_
      refine w_ifF_ne (pc' := 153) ⟨rfl, rfl⟩ (by decide) ?_
      refine w_ic (pc' := 154) ⟨rfl, rfl⟩ ?_
      refine w_goto (pc' := 157) (pcT := 158) ⟨rfl, rfl⟩ rfl ?_
      refine w_icF_ne (pc' := 161) ⟨rfl, rfl⟩ (by decide) ?_
      refine w_aload_n (pc' := 162) ⟨rfl, rfl⟩ rfl ?_
      refine w_cv1 (pc' := 165) ⟨rfl, rfl⟩ (by decide) (zOl hF rfl) (Nat.le_of_ble_eq_true rfl) (Nat.le_of_ble_eq_true rfl) (c_why hF ?_)
      refine w_topI zAct.why ?_
      refine w_iload (pc' := 167) ⟨rfl, rfl⟩ rfl ?_
      refine w_icT_eq (pc' := 170) (pcT := 172) ⟨rfl, rfl⟩ rfl (by decide) ?_
      refine w_iload (pc' := 174) ⟨rfl, rfl⟩ rfl ?_
      refine w_ifT_eq (pc' := 177) (pcT := 179) ⟨rfl, rfl⟩ rfl (by decide) ?_
      refine w_iload (pc' := 181) ⟨rfl, rfl⟩ rfl ?_
      refine w_bi (pc' := 183) ⟨rfl, rfl⟩ (by decide) ?_
      refine w_icF_ne (pc' := 186) ⟨rfl, rfl⟩ (by omega) ?_
      refine w_lc (pc' := 187) (z := 0) ⟨rfl, rfl⟩ rfl ?_
      refine w_goto (pc' := 190) (pcT := 211) ⟨rfl, rfl⟩ rfl ?_
      refine w_lstore (pc' := 213) ⟨rfl, rfl⟩ rfl rfl ?_
      refine w_iload_n (pc' := 214) ⟨rfl, rfl⟩ rfl ?_
      refine w_bi (pc' := 216) ⟨rfl, rfl⟩ (by decide) ?_
      refine w_icT_ne (pc' := 219) (pcT := 224) ⟨rfl, rfl⟩ rfl (by omega) ?_
      refine w_iload (pc' := 226) ⟨rfl, rfl⟩ rfl ?_
      refine w_bi (pc' := 228) ⟨rfl, rfl⟩ (by decide) ?_
      refine w_icF_ne (pc' := 231) ⟨rfl, rfl⟩ (by omega) ?_
      refine w_bi (pc' := 233) ⟨rfl, rfl⟩ (by decide) ?_
      refine w_goto (pc' := 236) (pcT := 243) ⟨rfl, rfl⟩ rfl ?_
      refine w_istore (pc' := 245) ⟨rfl, rfl⟩ rfl ?_
      refine w_iload_n (pc' := 246) ⟨rfl, rfl⟩ rfl ?_
      refine w_bi (pc' := 248) ⟨rfl, rfl⟩ (by decide) ?_
      refine w_icF_eq (pc' := 251) ⟨rfl, rfl⟩ (by omega) ?_
      refine w_iload (pc' := 253) ⟨rfl, rfl⟩ rfl ?_
      refine w_bi (pc' := 255) ⟨rfl, rfl⟩ (by decide) ?_
      refine w_icT_eq (pc' := 258) (pcT := 265) ⟨rfl, rfl⟩ rfl (by decide) ?_
      refine w_lload (pc' := 267) ⟨rfl, rfl⟩ rfl ?_
      refine w_goto (pc' := 270) (pcT := 279) ⟨rfl, rfl⟩ rfl ?_
      refine w_lstore (pc' := 281) ⟨rfl, rfl⟩ rfl rfl ?_
      have hH := (hRw ▸ (hH_cell (v := V) hV.1.2.1 h13.1 hf hpp).1.2 hc8)
      rw [← zAct.L80 (σ := σ) (n := n) (y := y) (R := Rw)] at hH
      refine w_at (ls2 := [(0, .ref 0), (3, .int (iZ (f : Int))), (4, .int (iZ pl)), (12, .int (iZ 10)), (13, .long (lZ 0))]) ?_ (l_chk hV1 (row := (f : Int)) (by omega) hp hH zWy.refl (fun σ2 w2 => k1 Rw σ2 hR w2))
      exact ⟨rfl, rfl, rfl, rfl, rfl, trivial⟩
    · rcases (ztr_0 hV.1.2.1 h0).2 with ⟨u, z, -, -, q8, -⟩ | ⟨u, f, hu, rfl, hu2, hf, hkk, hpp, hcs⟩
      · exact absurd q8 g1
      obtain rfl : u = 0 := by omega
      have h6 := zf6 (hV.1.2.1.2.2.1 0 hu2).1 hf
      have hq8 := ((hV.1.2.1.2.2.1 0 hu2).1.2 f hf).1
      have hgi : zgi kd (zKD t 0 f) := by omega
      have hok : zok (zKD t 0 f) (zcar (ztold V kd) kd (zKD t 0 f)) := zok_car (zok_told V kd)
      rw [hkk]
      have hR : zRk t (va_up (zL σ 80) (zjq t 0 (f : Int) pl) (zcar (ztold V kd) kd (zKD t 0 f))) := (hH_cell (v := V) hV.1.2.1 h13.1 hf hpp).2 _ (Or.inl hok) hV.2.2.1
      generalize hRw : va_up (zL σ 80) (zjq t 0 (f : Int) pl) (zcar (ztold V kd) kd (zKD t 0 f)) = Rw at hR ⊢
      have hV1 := zAct.V hV hR
      have hF := hV1.1.1
      refine w_goto (pc' := 136) (pcT := 148) ⟨rfl, rfl⟩ rfl ?_
      refine w_iload (pc' := 150) ⟨rfl, rfl⟩ rfl ?_
      refine w_ifF_ne (pc' := 153) ⟨rfl, rfl⟩ (by decide) ?_
      refine w_ic (pc' := 154) ⟨rfl, rfl⟩ ?_
      refine w_goto (pc' := 157) (pcT := 158) ⟨rfl, rfl⟩ rfl ?_
      refine w_icF_ne (pc' := 161) ⟨rfl, rfl⟩ (by decide) ?_
      refine w_aload_n (pc' := 162) ⟨rfl, rfl⟩ rfl ?_
      refine w_cv1 (pc' := 165) ⟨rfl, rfl⟩ (by decide) (zOl hF rfl) (Nat.le_of_ble_eq_true rfl) (Nat.le_of_ble_eq_true rfl) (c_why hF ?_)
      refine w_topI zAct.why ?_
      refine w_iload (pc' := 167) ⟨rfl, rfl⟩ rfl ?_
      refine w_icT_eq (pc' := 170) (pcT := 172) ⟨rfl, rfl⟩ rfl (by decide) ?_
      refine w_iload (pc' := 174) ⟨rfl, rfl⟩ rfl ?_
      refine w_ifT_eq (pc' := 177) (pcT := 179) ⟨rfl, rfl⟩ rfl (by decide) ?_
      refine w_iload (pc' := 181) ⟨rfl, rfl⟩ rfl ?_
      refine w_bi (pc' := 183) ⟨rfl, rfl⟩ (by decide) ?_
      refine w_icT_ne (pc' := 186) (pcT := 190) ⟨rfl, rfl⟩ rfl (by omega) ?_
      refine w_iload (pc' := 192) ⟨rfl, rfl⟩ rfl ?_
      refine w_bi (pc' := 194) ⟨rfl, rfl⟩ (by decide) ?_
      refine w_icT_ne (pc' := 197) (pcT := 204) ⟨rfl, rfl⟩ rfl (by omega) ?_
      refine w_lload (pc' := 206) ⟨rfl, rfl⟩ rfl ?_
      refine w_iload (pc' := 208) ⟨rfl, rfl⟩ rfl ?_
      refine w_cs2 (pc' := 211) ⟨rfl, rfl⟩ (by decide) (Nat.le_of_ble_eq_true rfl) (Nat.le_of_ble_eq_true rfl) (f_told (by omega) ?_)
      refine w_lstore (pc' := 213) ⟨rfl, rfl⟩ rfl rfl ?_
      refine w_iload_n (pc' := 214) ⟨rfl, rfl⟩ rfl ?_
      refine w_bi (pc' := 216) ⟨rfl, rfl⟩ (by decide) ?_
      refine w_icT_ne (pc' := 219) (pcT := 224) ⟨rfl, rfl⟩ rfl (by omega) ?_
      refine w_iload (pc' := 226) ⟨rfl, rfl⟩ rfl ?_
      refine w_bi (pc' := 228) ⟨rfl, rfl⟩ (by decide) ?_
      refine w_icT_ne (pc' := 231) (pcT := 236) ⟨rfl, rfl⟩ rfl (by omega) ?_
      refine w_aload_n (pc' := 237) ⟨rfl, rfl⟩ rfl ?_
      refine w_ic (pc' := 238) ⟨rfl, rfl⟩ ?_
      refine w_iload_n (pc' := 239) ⟨rfl, rfl⟩ rfl ?_
      refine w_ic (pc' := 240) ⟨rfl, rfl⟩ ?_
      refine w_cv4 (pc' := 243) ⟨rfl, rfl⟩ (by decide) (zOl hF rfl) (Nat.le_of_ble_eq_true rfl) (Nat.le_of_ble_eq_true rfl) (y_field hV1 (by decide) (by omega) (by decide) ?_)
      rw [zaF0 h13 hf]
      refine w_istore (pc' := 245) ⟨rfl, rfl⟩ rfl ?_
      refine w_iload_n (pc' := 246) ⟨rfl, rfl⟩ rfl ?_
      refine w_bi (pc' := 248) ⟨rfl, rfl⟩ (by decide) ?_
      refine w_icF_eq (pc' := 251) ⟨rfl, rfl⟩ (by omega) ?_
      refine w_iload (pc' := 253) ⟨rfl, rfl⟩ rfl ?_
      refine w_bi (pc' := 255) ⟨rfl, rfl⟩ (by decide) ?_
      refine w_icF_eq (pc' := 258) ⟨rfl, rfl⟩ (by omega) ?_
      refine w_iload (pc' := 260) ⟨rfl, rfl⟩ rfl ?_
      refine w_bi (pc' := 262) ⟨rfl, rfl⟩ (by decide) ?_
      refine w_ic_ne (pc' := 265) (pcT := 270) ⟨rfl, rfl⟩ rfl (by omega) (by omega) (fun h1 => ?_) (fun h1 => ?_)
      · refine w_lload (pc' := 272) ⟨rfl, rfl⟩ rfl ?_
        refine w_iload (pc' := 274) ⟨rfl, rfl⟩ rfl ?_
        refine w_iload (pc' := 276) ⟨rfl, rfl⟩ rfl ?_
        refine w_cs3 (pc' := 279) ⟨rfl, rfl⟩ (by decide) (Nat.le_of_ble_eq_true rfl) (Nat.le_of_ble_eq_true rfl) (f_as (by omega) (by omega) (zok_told V kd) hgi ?_)
        refine w_lstore (pc' := 281) ⟨rfl, rfl⟩ rfl rfl ?_
        have hH := ((hRw ▸ (hH_cell hV.1.2.1 h13.1 hf hpp).1.1 hok : zHld t Rw (f : Int) pl (zKD t 0 f) (zcar (ztold V kd) kd (zKD t 0 f))))
        rw [← zAct.L80 (σ := σ) (n := n) (y := y) (R := Rw)] at hH
        refine w_at (ls2 := [(0, .ref 0), (3, .int (iZ (f : Int))), (4, .int (iZ pl)), (12, .int (iZ (zKD t 0 f))), (13, .long (zcar (ztold V kd) kd (zKD t 0 f)))]) ?_ (l_chk hV1 (row := (f : Int)) (by omega) hp hH zWy.refl (fun σ2 w2 => k1 Rw σ2 hR w2))
        exact ⟨rfl, rfl, rfl, rfl, rfl, trivial⟩
      · refine w_lload (pc' := 267) ⟨rfl, rfl⟩ rfl ?_
        refine w_goto (pc' := 270) (pcT := 279) ⟨rfl, rfl⟩ rfl ?_
        refine w_lstore (pc' := 281) ⟨rfl, rfl⟩ rfl rfl ?_
        have e88 : ztold V kd = zcar (ztold V kd) kd (zKD t 0 f) := by unfold zcar; rw [if_pos (by omega)]
        have hH := (((hRw ▸ (hH_cell hV.1.2.1 h13.1 hf hpp).1.1 hok : zHld t Rw (f : Int) pl (zKD t 0 f) (zcar (ztold V kd) kd (zKD t 0 f)))).cg e88)
        rw [← zAct.L80 (σ := σ) (n := n) (y := y) (R := Rw)] at hH
        refine w_at (ls2 := [(0, .ref 0), (3, .int (iZ (f : Int))), (4, .int (iZ pl)), (12, .int (iZ (zKD t 0 f))), (13, .long (ztold V kd))]) ?_ (l_chk hV1 (row := (f : Int)) (by omega) hp hH zWy.refl (fun σ2 w2 => k1 Rw σ2 hR w2))
        exact ⟨rfl, rfl, rfl, rfl, rfl, trivial⟩
  · have hrg := ztr_rng hV.1.2.1 0 row pl kd
    refine w_aload_n (pc' := 96) ⟨rfl, rfl⟩ rfl ?_
    refine w_iload_n (pc' := 97) ⟨rfl, rfl⟩ rfl ?_
    refine w_iload (pc' := 99) ⟨rfl, rfl⟩ rfl ?_
    refine w_iload (pc' := 101) ⟨rfl, rfl⟩ rfl ?_
    refine w_iload (pc' := 103) ⟨rfl, rfl⟩ rfl ?_
    refine w_ifF_eq (pc' := 106) ⟨rfl, rfl⟩ (by decide) ?_
    refine w_ic (pc' := 107) ⟨rfl, rfl⟩ ?_
    refine w_goto (pc' := 110) (pcT := 111) ⟨rfl, rfl⟩ rfl ?_
    refine w_cs5 (pc' := 114) ⟨rfl, rfl⟩ (by decide) (Nat.le_of_ble_eq_true rfl) (Nat.le_of_ble_eq_true rfl) (y_rsn2 hV1 (by omega) (by omega) (by omega) ?_)
    refine w_istore (pc' := 116) ⟨rfl, rfl⟩ rfl ?_
    refine w_iload (pc' := 118) ⟨rfl, rfl⟩ rfl ?_
    refine w_ifF_eq (pc' := 121) ⟨rfl, rfl⟩ (by decide) ?_
    refine w_aload_n (pc' := 122) ⟨rfl, rfl⟩ rfl ?_
    refine w_ic (pc' := 123) ⟨rfl, rfl⟩ ?_
    refine w_iload_n (pc' := 124) ⟨rfl, rfl⟩ rfl ?_
    refine w_iload (pc' := 126) ⟨rfl, rfl⟩ rfl ?_
    refine w_iload (pc' := 128) ⟨rfl, rfl⟩ rfl ?_
    refine w_lload (pc' := 130) ⟨rfl, rfl⟩ rfl ?_
    refine w_cv6 (pc' := 133) ⟨rfl, rfl⟩ (by decide) (zOl hF rfl) (Nat.le_of_ble_eq_true rfl) (Nat.le_of_ble_eq_true rfl) (y_put hV1 (by omega) (by omega) (by omega) (fun g0 σ1 w1 e1 => ?_) (fun z g0 g1 g2 g3 => ?_) (fun g0 g1 g2 => ?_) (fun g0 g1 g2 => ?_))
    · have hV1 := w1.V hV
      have hF := hV1.1.1
      refine w_goto (pc' := 136) (pcT := 148) ⟨rfl, rfl⟩ rfl ?_
      refine w_iload (pc' := 150) ⟨rfl, rfl⟩ rfl ?_
      refine w_ifT_ne (pc' := 153) (pcT := 157) ⟨rfl, rfl⟩ rfl (by omega) ?_
      refine w_ic (pc' := 158) ⟨rfl, rfl⟩ ?_
      refine w_icF_ne (pc' := 161) ⟨rfl, rfl⟩ (by decide) ?_
      refine w_aload_n (pc' := 162) ⟨rfl, rfl⟩ rfl ?_
      refine w_cv1 (pc' := 165) ⟨rfl, rfl⟩ (by decide) (zOl hF rfl) (Nat.le_of_ble_eq_true rfl) (Nat.le_of_ble_eq_true rfl) (c_why hF ?_)
      refine w_topI e1 ?_
      refine w_iload (pc' := 167) ⟨rfl, rfl⟩ rfl ?_
      refine w_icT_eq (pc' := 170) (pcT := 172) ⟨rfl, rfl⟩ rfl (by omega) ?_
      refine w_iload (pc' := 174) ⟨rfl, rfl⟩ rfl ?_
      refine w_ifF_eq (pc' := 177) ⟨rfl, rfl⟩ (by omega) ?_
      refine w_ic (pc' := 178) ⟨rfl, rfl⟩ ?_
      refine w_ireturn (pc' := 179) ⟨rfl, rfl⟩ (by decide) ?_
      exact k0 _ w1
    · exact absurd g0 h0
    · exact absurd g0 h0
    · exact absurd g0 h0
theorem l_goW {σ : zSt} {t : zBk} {L : Nat} {x : Nat → Int} {n : Nat} {y : Int} (hV : zLV σ t L x n y) {row pl : Int} (hr : 0 ≤ row ∧ row ≤ 9) (hp : -1 ≤ pl ∧ pl ≤ 33) {kd : Int} (hk : 0 ≤ kd ∧ kd ≤ 11) {V : Int64} {Q : zSt → Option Value → Prop} (k0 : ∀ σ1, zWy σ σ1 → Q σ1 (some (.int (iZ 1)))) (k1 : ∀ R σ2, zRk t R → zWy (zAct σ n y R) σ2 → Q σ2 (some (.int (iZ 1)))) : zP zk_L_goes 95 [(0, .ref 0), (3, .int (iZ row)), (4, .int (iZ pl)), (5, .int (iZ kd)), (6, .int (iZ 0)), (7, .long V)] [] σ Q := by
  have ht0 := hV.1.2.1.1
  have h13 : 1 ≤ t 0 ∧ t 0 ≤ 3 := ⟨hV.1.2.2.2.2, ht0.2⟩
  have hF := hV.1.1
  have hV1 := hV
  by_cases h0 : zwr t 0 row pl kd = 0
  · refine w_aload_n (pc' := 96) ⟨rfl, rfl⟩ rfl ?_
    refine w_iload_n (pc' := 97) ⟨rfl, rfl⟩ rfl ?_
    refine w_iload (pc' := 99) ⟨rfl, rfl⟩ rfl ?_
    refine w_iload (pc' := 101) ⟨rfl, rfl⟩ rfl ?_
    refine w_iload (pc' := 103) ⟨rfl, rfl⟩ rfl ?_
    refine w_ifT_eq (pc' := 106) (pcT := 110) ⟨rfl, rfl⟩ rfl (by decide) ?_
    refine w_ic (pc' := 111) ⟨rfl, rfl⟩ ?_
    refine w_cs5 (pc' := 114) ⟨rfl, rfl⟩ (by decide) (Nat.le_of_ble_eq_true rfl) (Nat.le_of_ble_eq_true rfl) (y_rsn1 hV1 (by omega) (by omega) (by omega) ?_)
    rw [h0]
    refine w_istore (pc' := 116) ⟨rfl, rfl⟩ rfl ?_
    refine w_iload (pc' := 118) ⟨rfl, rfl⟩ rfl ?_
    refine w_ifT_eq (pc' := 121) (pcT := 136) ⟨rfl, rfl⟩ rfl (by decide) ?_
    refine w_aload_n (pc' := 137) ⟨rfl, rfl⟩ rfl ?_
    refine w_ic (pc' := 138) ⟨rfl, rfl⟩ ?_
    refine w_iload_n (pc' := 139) ⟨rfl, rfl⟩ rfl ?_
    refine w_iload (pc' := 141) ⟨rfl, rfl⟩ rfl ?_
    refine w_iload (pc' := 143) ⟨rfl, rfl⟩ rfl ?_
    refine w_lload (pc' := 145) ⟨rfl, rfl⟩ rfl ?_
    refine w_cv6 (pc' := 148) ⟨rfl, rfl⟩ (by decide) (zOl hF rfl) (Nat.le_of_ble_eq_true rfl) (Nat.le_of_ble_eq_true rfl) (y_write hV1 (by omega) (by omega) (by omega) (fun g0 σ1 w1 e1 => ?_) (fun g0 => ?_))
    · exact absurd h0 g0
    · obtain ⟨hz0, hgi⟩ := zwr_0 h0
      obtain ⟨u, f, r, i, hu, rfl, hu2, hf, hkk, hk7, hkd, hr8, hi, hpl, -, -, -, -⟩ := zkr_0 hV.1.2.1 hz0
      obtain rfl : u = 0 := by omega
      have h6 := zf6 (hV.1.2.1.2.2.1 0 hu2).1 hf
      have hq8 := ((hV.1.2.1.2.2.1 0 hu2).1.2 f hf).1
      have hce := ((hV.1.2.1.2.2.1 0 hu2).1.2 f hf).2
      rw [hkk] at hgi ⊢
      have hpp : 0 ≤ pl ∧ pl < 8 * zCE t 0 f := by
        have a1 : 0 ≤ (r : Int) * zCE t 0 f := Int.mul_nonneg (by omega) (by omega)
        have a2 : (r : Int) * zCE t 0 f ≤ 7 * zCE t 0 f := Int.mul_le_mul_of_nonneg_right (by omega) (by omega)
        omega
      have hok : zok (zKD t 0 f) (zcar (ztold V kd) kd (zKD t 0 f)) := zok_car (zok_told V kd)
      have hR : zRk t (va_up (zL σ 80) (zjq t 0 (f : Int) pl) (zcar (ztold V kd) kd (zKD t 0 f))) := (hH_cell (v := V) hV.1.2.1 h13.1 hf hpp).2 _ (Or.inl hok) hV.2.2.1
      generalize hRw : va_up (zL σ 80) (zjq t 0 (f : Int) pl) (zcar (ztold V kd) kd (zKD t 0 f)) = Rw at hR ⊢
      have hV1 := zAct.V hV hR
      have hF := hV1.1.1
      refine w_iload (pc' := 150) ⟨rfl, rfl⟩ rfl ?_
      refine w_ifF_ne (pc' := 153) ⟨rfl, rfl⟩ (by decide) ?_
      refine w_ic (pc' := 154) ⟨rfl, rfl⟩ ?_
      refine w_goto (pc' := 157) (pcT := 158) ⟨rfl, rfl⟩ rfl ?_
      refine w_icF_ne (pc' := 161) ⟨rfl, rfl⟩ (by decide) ?_
      refine w_aload_n (pc' := 162) ⟨rfl, rfl⟩ rfl ?_
      refine w_cv1 (pc' := 165) ⟨rfl, rfl⟩ (by decide) (zOl hF rfl) (Nat.le_of_ble_eq_true rfl) (Nat.le_of_ble_eq_true rfl) (c_why hF ?_)
      refine w_topI zAct.why ?_
      refine w_iload (pc' := 167) ⟨rfl, rfl⟩ rfl ?_
      refine w_icT_eq (pc' := 170) (pcT := 172) ⟨rfl, rfl⟩ rfl (by decide) ?_
      refine w_iload (pc' := 174) ⟨rfl, rfl⟩ rfl ?_
      refine w_ifT_eq (pc' := 177) (pcT := 179) ⟨rfl, rfl⟩ rfl (by decide) ?_
      refine w_iload (pc' := 181) ⟨rfl, rfl⟩ rfl ?_
      refine w_bi (pc' := 183) ⟨rfl, rfl⟩ (by decide) ?_
      refine w_icT_ne (pc' := 186) (pcT := 190) ⟨rfl, rfl⟩ rfl (by omega) ?_
      refine w_iload (pc' := 192) ⟨rfl, rfl⟩ rfl ?_
      refine w_bi (pc' := 194) ⟨rfl, rfl⟩ (by decide) ?_
      refine w_icT_ne (pc' := 197) (pcT := 204) ⟨rfl, rfl⟩ rfl (by omega) ?_
      refine w_lload (pc' := 206) ⟨rfl, rfl⟩ rfl ?_
      refine w_iload (pc' := 208) ⟨rfl, rfl⟩ rfl ?_
      refine w_cs2 (pc' := 211) ⟨rfl, rfl⟩ (by decide) (Nat.le_of_ble_eq_true rfl) (Nat.le_of_ble_eq_true rfl) (f_told (by omega) ?_)
      refine w_lstore (pc' := 213) ⟨rfl, rfl⟩ rfl rfl ?_
      refine w_iload_n (pc' := 214) ⟨rfl, rfl⟩ rfl ?_
      refine w_bi (pc' := 216) ⟨rfl, rfl⟩ (by decide) ?_
      refine w_icT_ne (pc' := 219) (pcT := 224) ⟨rfl, rfl⟩ rfl (by omega) ?_
      refine w_iload (pc' := 226) ⟨rfl, rfl⟩ rfl ?_
      refine w_bi (pc' := 228) ⟨rfl, rfl⟩ (by decide) ?_
      refine w_icT_ne (pc' := 231) (pcT := 236) ⟨rfl, rfl⟩ rfl (by omega) ?_
      refine w_aload_n (pc' := 237) ⟨rfl, rfl⟩ rfl ?_
      refine w_ic (pc' := 238) ⟨rfl, rfl⟩ ?_
      refine w_iload_n (pc' := 239) ⟨rfl, rfl⟩ rfl ?_
      refine w_ic (pc' := 240) ⟨rfl, rfl⟩ ?_
      refine w_cv4 (pc' := 243) ⟨rfl, rfl⟩ (by decide) (zOl hF rfl) (Nat.le_of_ble_eq_true rfl) (Nat.le_of_ble_eq_true rfl) (y_field hV1 (by decide) (by omega) (by decide) ?_)
      rw [zaF0 h13 hf]
      refine w_istore (pc' := 245) ⟨rfl, rfl⟩ rfl ?_
      refine w_iload_n (pc' := 246) ⟨rfl, rfl⟩ rfl ?_
      refine w_bi (pc' := 248) ⟨rfl, rfl⟩ (by decide) ?_
      refine w_icF_eq (pc' := 251) ⟨rfl, rfl⟩ (by omega) ?_
      refine w_iload (pc' := 253) ⟨rfl, rfl⟩ rfl ?_
      refine w_bi (pc' := 255) ⟨rfl, rfl⟩ (by decide) ?_
      refine w_icF_eq (pc' := 258) ⟨rfl, rfl⟩ (by omega) ?_
      refine w_iload (pc' := 260) ⟨rfl, rfl⟩ rfl ?_
      refine w_bi (pc' := 262) ⟨rfl, rfl⟩ (by decide) ?_
      refine w_icT_ne (pc' := 265) (pcT := 270) ⟨rfl, rfl⟩ rfl (by omega) ?_
      refine w_lload (pc' := 272) ⟨rfl, rfl⟩ rfl ?_
      refine w_iload (pc' := 274) ⟨rfl, rfl⟩ rfl ?_
      refine w_iload (pc' := 276) ⟨rfl, rfl⟩ rfl ?_
      refine w_cs3 (pc' := 279) ⟨rfl, rfl⟩ (by decide) (Nat.le_of_ble_eq_true rfl) (Nat.le_of_ble_eq_true rfl) (f_as (by omega) (by omega) (zok_told V kd) hgi ?_)
      refine w_lstore (pc' := 281) ⟨rfl, rfl⟩ rfl rfl ?_
      have hH := ((hRw ▸ (hH_cell hV.1.2.1 h13.1 hf hpp).1.1 hok : zHld t Rw (f : Int) pl (zKD t 0 f) (zcar (ztold V kd) kd (zKD t 0 f))))
      rw [← zAct.L80 (σ := σ) (n := n) (y := y) (R := Rw)] at hH
      refine w_at (ls2 := [(0, .ref 0), (3, .int (iZ (f : Int))), (4, .int (iZ pl)), (12, .int (iZ (zKD t 0 f))), (13, .long (zcar (ztold V kd) kd (zKD t 0 f)))]) ?_ (l_chk hV1 (row := (f : Int)) (by omega) hp hH zWy.refl (fun σ2 w2 => k1 Rw σ2 hR w2))
      exact ⟨rfl, rfl, rfl, rfl, rfl, trivial⟩
  · have hrg := zwr_rng hV.1.2.1 0 row pl kd
    refine w_aload_n (pc' := 96) ⟨rfl, rfl⟩ rfl ?_
    refine w_iload_n (pc' := 97) ⟨rfl, rfl⟩ rfl ?_
    refine w_iload (pc' := 99) ⟨rfl, rfl⟩ rfl ?_
    refine w_iload (pc' := 101) ⟨rfl, rfl⟩ rfl ?_
    refine w_iload (pc' := 103) ⟨rfl, rfl⟩ rfl ?_
    refine w_ifT_eq (pc' := 106) (pcT := 110) ⟨rfl, rfl⟩ rfl (by decide) ?_
    refine w_ic (pc' := 111) ⟨rfl, rfl⟩ ?_
    refine w_cs5 (pc' := 114) ⟨rfl, rfl⟩ (by decide) (Nat.le_of_ble_eq_true rfl) (Nat.le_of_ble_eq_true rfl) (y_rsn1 hV1 (by omega) (by omega) (by omega) ?_)
    refine w_istore (pc' := 116) ⟨rfl, rfl⟩ rfl ?_
    refine w_iload (pc' := 118) ⟨rfl, rfl⟩ rfl ?_
    refine w_ifT_eq (pc' := 121) (pcT := 136) ⟨rfl, rfl⟩ rfl (by decide) ?_
    refine w_aload_n (pc' := 137) ⟨rfl, rfl⟩ rfl ?_
    refine w_ic (pc' := 138) ⟨rfl, rfl⟩ ?_
    refine w_iload_n (pc' := 139) ⟨rfl, rfl⟩ rfl ?_
    refine w_iload (pc' := 141) ⟨rfl, rfl⟩ rfl ?_
    refine w_iload (pc' := 143) ⟨rfl, rfl⟩ rfl ?_
    refine w_lload (pc' := 145) ⟨rfl, rfl⟩ rfl ?_
    refine w_cv6 (pc' := 148) ⟨rfl, rfl⟩ (by decide) (zOl hF rfl) (Nat.le_of_ble_eq_true rfl) (Nat.le_of_ble_eq_true rfl) (y_write hV1 (by omega) (by omega) (by omega) (fun g0 σ1 w1 e1 => ?_) (fun g0 => ?_))
    · have hV1 := w1.V hV
      have hF := hV1.1.1
      refine w_iload (pc' := 150) ⟨rfl, rfl⟩ rfl ?_
      refine w_ifT_ne (pc' := 153) (pcT := 157) ⟨rfl, rfl⟩ rfl (by omega) ?_
      refine w_ic (pc' := 158) ⟨rfl, rfl⟩ ?_
      refine w_icF_ne (pc' := 161) ⟨rfl, rfl⟩ (by decide) ?_
      refine w_aload_n (pc' := 162) ⟨rfl, rfl⟩ rfl ?_
      refine w_cv1 (pc' := 165) ⟨rfl, rfl⟩ (by decide) (zOl hF rfl) (Nat.le_of_ble_eq_true rfl) (Nat.le_of_ble_eq_true rfl) (c_why hF ?_)
      refine w_topI e1 ?_
      refine w_iload (pc' := 167) ⟨rfl, rfl⟩ rfl ?_
      refine w_icT_eq (pc' := 170) (pcT := 172) ⟨rfl, rfl⟩ rfl (by omega) ?_
      refine w_iload (pc' := 174) ⟨rfl, rfl⟩ rfl ?_
      refine w_ifF_eq (pc' := 177) ⟨rfl, rfl⟩ (by omega) ?_
      refine w_ic (pc' := 178) ⟨rfl, rfl⟩ ?_
      refine w_ireturn (pc' := 179) ⟨rfl, rfl⟩ (by decide) ?_
      exact k0 _ w1
    · exact absurd g0 h0
theorem f_goes {σ : zSt} {t : zBk} {L : Nat} {x : Nat → Int} {n : Nat} {y : Int} (hV : zLV σ t L x n y) {X : Int} (hX : -2147483648 ≤ X ∧ X ≤ 2147483647) {Y : Int32} {Q : zSt → Option Value → Prop} (k0 : ∀ σ1, zWy σ σ1 → Q σ1 (some (.int (iZ 1)))) (k1 : ∀ R σ2, zRk t R → zWy (zAct σ n y R) σ2 → Q σ2 (some (.int (iZ 1)))) : zCa 136 [.ref 0, .int (iZ X), .int Y] σ Q := by
  refine w_enter (c := zk_L_goes) (ls2 := [(0, .ref 0), (1, .int (iZ X)), (2, .int Y)]) rfl ⟨rfl, rfl, rfl, trivial⟩ ?_
  refine w_iload_n (pc' := 1) ⟨rfl, rfl⟩ rfl ?_
  refine w_bi (pc' := 3) ⟨rfl, rfl⟩ (by decide) ?_
  refine w_iand (pc' := 4) ⟨rfl, rfl⟩ ?_
  refine w_topI (iZ_and15 _) ?_
  refine w_bi (pc' := 6) ⟨rfl, rfl⟩ (by decide) ?_
  refine w_iremZ (pc' := 7) ⟨rfl, rfl⟩ (by omega) ?_
  refine w_istore_n (pc' := 8) ⟨rfl, rfl⟩ rfl ?_
  refine w_iload_n (pc' := 9) ⟨rfl, rfl⟩ rfl ?_
  refine w_ic (pc' := 10) ⟨rfl, rfl⟩ ?_
  refine w_ishr (pc' := 11) ⟨rfl, rfl⟩ ?_
  refine w_topI (iZ_shr (k := 4) (by omega) (by decide)) ?_
  refine w_bi (pc' := 13) ⟨rfl, rfl⟩ (by decide) ?_
  refine w_iand (pc' := 14) ⟨rfl, rfl⟩ ?_
  refine w_topI (iZ_and63 _) ?_
  refine w_bi (pc' := 16) ⟨rfl, rfl⟩ (by decide) ?_
  refine w_iremZ (pc' := 17) ⟨rfl, rfl⟩ (by omega) ?_
  refine w_ic (pc' := 18) ⟨rfl, rfl⟩ ?_
  refine w_isubZ (pc' := 19) ⟨rfl, rfl⟩ ?_
  refine w_istore (pc' := 21) ⟨rfl, rfl⟩ rfl ?_
  refine w_iload_n (pc' := 22) ⟨rfl, rfl⟩ rfl ?_
  refine w_bi (pc' := 24) ⟨rfl, rfl⟩ (by decide) ?_
  refine w_ishr (pc' := 25) ⟨rfl, rfl⟩ ?_
  refine w_topI (iZ_shr (k := 10) (by omega) (by decide)) ?_
  refine w_bi (pc' := 27) ⟨rfl, rfl⟩ (by decide) ?_
  refine w_iand (pc' := 28) ⟨rfl, rfl⟩ ?_
  refine w_topI (iZ_and15 _) ?_
  refine w_bi (pc' := 30) ⟨rfl, rfl⟩ (by decide) ?_
  refine w_iremZ (pc' := 31) ⟨rfl, rfl⟩ (by omega) ?_
  refine w_istore (pc' := 33) ⟨rfl, rfl⟩ rfl ?_
  refine w_iload_n (pc' := 34) ⟨rfl, rfl⟩ rfl ?_
  refine w_bi (pc' := 36) ⟨rfl, rfl⟩ (by decide) ?_
  refine w_ishr (pc' := 37) ⟨rfl, rfl⟩ ?_
  refine w_topI (iZ_shr (k := 14) (by omega) (by decide)) ?_
  refine w_ic (pc' := 38) ⟨rfl, rfl⟩ ?_
  refine w_iand (pc' := 39) ⟨rfl, rfl⟩ ?_
  refine w_topI (iZ_and1 _) ?_
  refine w_ic (pc' := 40) ⟨rfl, rfl⟩ ?_
  refine w_ic_ne (pc' := 43) (pcT := 47) ⟨rfl, rfl⟩ rfl (by omega) (by omega) (fun h1 => ?_) (fun h1 => ?_)
  · refine w_ic (pc' := 48) ⟨rfl, rfl⟩ ?_
    refine w_istore (pc' := 50) ⟨rfl, rfl⟩ rfl ?_
    refine w_iload_n (pc' := 51) ⟨rfl, rfl⟩ rfl ?_
    refine w_bi (pc' := 53) ⟨rfl, rfl⟩ (by decide) ?_
    refine w_ishr (pc' := 54) ⟨rfl, rfl⟩ ?_
    refine w_topI (iZ_shr (k := 15) (by omega) (by decide)) ?_
    refine w_ic (pc' := 55) ⟨rfl, rfl⟩ ?_
    refine w_iand (pc' := 56) ⟨rfl, rfl⟩ ?_
    refine w_topI (iZ_and1 _) ?_
    refine w_if_ne (pc' := 59) (pcT := 68) ⟨rfl, rfl⟩ rfl (by omega) (fun h2 => ?_) (fun h2 => ?_)
    · refine w_iload_n (pc' := 69) ⟨rfl, rfl⟩ rfl ?_
      refine w_i2l (pc' := 70) ⟨rfl, rfl⟩ ?_
      refine w_bi (pc' := 72) ⟨rfl, rfl⟩ (by decide) ?_
      refine w_lshl (pc' := 73) ⟨rfl, rfl⟩ ?_
      refine w_iload_n (pc' := 74) ⟨rfl, rfl⟩ rfl ?_
      refine w_i2lZ (pc' := 75) ⟨rfl, rfl⟩ (by omega) ?_
      refine w_lxor (pc' := 76) ⟨rfl, rfl⟩ ?_
      refine w_iload_n (pc' := 77) ⟨rfl, rfl⟩ rfl ?_
      refine w_bi (pc' := 79) ⟨rfl, rfl⟩ (by decide) ?_
      refine w_ishr (pc' := 80) ⟨rfl, rfl⟩ ?_
      refine w_topI (iZ_shr (k := 16) (by omega) (by decide)) ?_
      refine w_ic (pc' := 81) ⟨rfl, rfl⟩ ?_
      refine w_iand (pc' := 82) ⟨rfl, rfl⟩ ?_
      refine w_topI (iZ_and1 _) ?_
      refine w_if_ne (pc' := 85) (pcT := 89) ⟨rfl, rfl⟩ rfl (by omega) (fun h3 => ?_) (fun h3 => ?_)
      · refine w_ldc2Y (pc' := 92) (z := 65537) ⟨rfl, rfl⟩ rfl ?_
        refine w_lmul (pc' := 93) ⟨rfl, rfl⟩ ?_
        refine w_lstore (pc' := 95) ⟨rfl, rfl⟩ rfl rfl ?_
        exact w_at (by exact ⟨rfl, rfl, rfl, rfl, rfl, rfl, trivial⟩) (l_goW hV (row := X % 16 % 10) (by omega) (pl := X / 2 ^ 4 % 64 % 34 - 1) (by omega) (kd := X / 2 ^ 10 % 16 % 12) (by omega) k0 k1)
      · refine w_lc (pc' := 86) (z := 1) ⟨rfl, rfl⟩ rfl ?_
        refine w_goto (pc' := 89) (pcT := 92) ⟨rfl, rfl⟩ rfl ?_
        refine w_lmul (pc' := 93) ⟨rfl, rfl⟩ ?_
        refine w_lstore (pc' := 95) ⟨rfl, rfl⟩ rfl rfl ?_
        exact w_at (by exact ⟨rfl, rfl, rfl, rfl, rfl, rfl, trivial⟩) (l_goW hV (row := X % 16 % 10) (by omega) (pl := X / 2 ^ 4 % 64 % 34 - 1) (by omega) (kd := X / 2 ^ 10 % 16 % 12) (by omega) k0 k1)
    · refine w_iload_n (pc' := 60) ⟨rfl, rfl⟩ rfl ?_
      refine w_si (pc' := 63) ⟨rfl, rfl⟩ (by decide) ?_
      refine w_irem (pc' := 64) ⟨rfl, rfl⟩ (by decide) ?_
      refine w_i2l (pc' := 65) ⟨rfl, rfl⟩ ?_
      refine w_goto (pc' := 68) (pcT := 93) ⟨rfl, rfl⟩ rfl ?_
      refine w_lstore (pc' := 95) ⟨rfl, rfl⟩ rfl rfl ?_
      exact w_at (by exact ⟨rfl, rfl, rfl, rfl, rfl, rfl, trivial⟩) (l_goW hV (row := X % 16 % 10) (by omega) (pl := X / 2 ^ 4 % 64 % 34 - 1) (by omega) (kd := X / 2 ^ 10 % 16 % 12) (by omega) k0 k1)
  · refine w_ic (pc' := 44) ⟨rfl, rfl⟩ ?_
    refine w_goto (pc' := 47) (pcT := 48) ⟨rfl, rfl⟩ rfl ?_
    refine w_istore (pc' := 50) ⟨rfl, rfl⟩ rfl ?_
    refine w_iload_n (pc' := 51) ⟨rfl, rfl⟩ rfl ?_
    refine w_bi (pc' := 53) ⟨rfl, rfl⟩ (by decide) ?_
    refine w_ishr (pc' := 54) ⟨rfl, rfl⟩ ?_
    refine w_topI (iZ_shr (k := 15) (by omega) (by decide)) ?_
    refine w_ic (pc' := 55) ⟨rfl, rfl⟩ ?_
    refine w_iand (pc' := 56) ⟨rfl, rfl⟩ ?_
    refine w_topI (iZ_and1 _) ?_
    refine w_if_ne (pc' := 59) (pcT := 68) ⟨rfl, rfl⟩ rfl (by omega) (fun h2 => ?_) (fun h2 => ?_)
    · refine w_iload_n (pc' := 69) ⟨rfl, rfl⟩ rfl ?_
      refine w_i2l (pc' := 70) ⟨rfl, rfl⟩ ?_
      refine w_bi (pc' := 72) ⟨rfl, rfl⟩ (by decide) ?_
      refine w_lshl (pc' := 73) ⟨rfl, rfl⟩ ?_
      refine w_iload_n (pc' := 74) ⟨rfl, rfl⟩ rfl ?_
      refine w_i2lZ (pc' := 75) ⟨rfl, rfl⟩ (by omega) ?_
      refine w_lxor (pc' := 76) ⟨rfl, rfl⟩ ?_
      refine w_iload_n (pc' := 77) ⟨rfl, rfl⟩ rfl ?_
      refine w_bi (pc' := 79) ⟨rfl, rfl⟩ (by decide) ?_
      refine w_ishr (pc' := 80) ⟨rfl, rfl⟩ ?_
      refine w_topI (iZ_shr (k := 16) (by omega) (by decide)) ?_
      refine w_ic (pc' := 81) ⟨rfl, rfl⟩ ?_
      refine w_iand (pc' := 82) ⟨rfl, rfl⟩ ?_
      refine w_topI (iZ_and1 _) ?_
      refine w_if_ne (pc' := 85) (pcT := 89) ⟨rfl, rfl⟩ rfl (by omega) (fun h3 => ?_) (fun h3 => ?_)
      · refine w_ldc2Y (pc' := 92) (z := 65537) ⟨rfl, rfl⟩ rfl ?_
        refine w_lmul (pc' := 93) ⟨rfl, rfl⟩ ?_
        refine w_lstore (pc' := 95) ⟨rfl, rfl⟩ rfl rfl ?_
        exact w_at (by exact ⟨rfl, rfl, rfl, rfl, rfl, rfl, trivial⟩) (l_goP hV (row := X % 16 % 10) (by omega) (pl := X / 2 ^ 4 % 64 % 34 - 1) (by omega) (kd := X / 2 ^ 10 % 16 % 12) (by omega) k0 k1)
      · refine w_lc (pc' := 86) (z := 1) ⟨rfl, rfl⟩ rfl ?_
        refine w_goto (pc' := 89) (pcT := 92) ⟨rfl, rfl⟩ rfl ?_
        refine w_lmul (pc' := 93) ⟨rfl, rfl⟩ ?_
        refine w_lstore (pc' := 95) ⟨rfl, rfl⟩ rfl rfl ?_
        exact w_at (by exact ⟨rfl, rfl, rfl, rfl, rfl, rfl, trivial⟩) (l_goP hV (row := X % 16 % 10) (by omega) (pl := X / 2 ^ 4 % 64 % 34 - 1) (by omega) (kd := X / 2 ^ 10 % 16 % 12) (by omega) k0 k1)
    · refine w_iload_n (pc' := 60) ⟨rfl, rfl⟩ rfl ?_
      refine w_si (pc' := 63) ⟨rfl, rfl⟩ (by decide) ?_
      refine w_irem (pc' := 64) ⟨rfl, rfl⟩ (by decide) ?_
      refine w_i2l (pc' := 65) ⟨rfl, rfl⟩ ?_
      refine w_goto (pc' := 68) (pcT := 93) ⟨rfl, rfl⟩ rfl ?_
      refine w_lstore (pc' := 95) ⟨rfl, rfl⟩ rfl rfl ?_
      exact w_at (by exact ⟨rfl, rfl, rfl, rfl, rfl, rfl, trivial⟩) (l_goP hV (row := X % 16 % 10) (by omega) (pl := X / 2 ^ 4 % 64 % 34 - 1) (by omega) (kd := X / 2 ^ 10 % 16 % 12) (by omega) k0 k1)
