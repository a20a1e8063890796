/-! WHAT A RULE MAKES -/
/-- held within 10^15; two reals together -/
def zhd (d : UInt64) : UInt64 := if FP.dcmp d 4831355200913801216 = some .gt then 4831355200913801216 else if FP.dcmp d 14054727237768577024 = some .lt then 14054727237768577024 else d
def zop (sort : Int) (x y : UInt64) : UInt64 := if sort = 1 then FP.dmul x y else if sort = 2 then FP.ddiv x y else FP.dadd x y
theorem znn {d : UInt64} (h : zdf d) : FP.Core.dIsNaN d = false := by
  obtain ⟨s, c, q, h⟩ := h
  exact (FP.Core.notNaN_iff d).mpr (by rw [h]; simp)
theorem znn_c1 : FP.Core.dIsNaN 4831355200913801216 = false := by decide +kernel
theorem znn_c2 : FP.Core.dIsNaN 14054727237768577024 = false := by decide +kernel
theorem znn_0 : FP.Core.dIsNaN 0 = false := by decide +kernel
theorem zdco {d e : UInt64} (h : FP.Core.dIsNaN d = false) (he : FP.Core.dIsNaN e = false) : ∃ o, FP.dcmp d e = some o := FP.Core.dcmp_of_notNaN h he
theorem zhd_b {d : UInt64} (h : FP.Core.dIsNaN d = false) : zdb (zhd d) := by
  unfold zhd
  split
  · exact ⟨false, 8000000000000000, -3, by decide +kernel, by
      rw [show (-3 + 1074 : Int).toNat = 1071 from rfl]
      refine Nat.le_trans (Nat.mul_le_mul_right _ (show 8000000000000000 ≤ 2 ^ 67 by decide)) ?_
      rw [← Nat.pow_add]; exact zpw_le.mpr (by omega)⟩
  · split
    · exact ⟨true, 8000000000000000, -3, by decide +kernel, by
        rw [show (-3 + 1074 : Int).toNat = 1071 from rfl]
        refine Nat.le_trans (Nat.mul_le_mul_right _ (show 8000000000000000 ≤ 2 ^ 67 by decide)) ?_
        rw [← Nat.pow_add]; exact zpw_le.mpr (by omega)⟩
    · exact zheld ((FP.Core.notNaN_iff d).mp h) (by assumption) (by assumption)
theorem zop_nn {sort : Int} {x y : UInt64} (hx : zdf x) (hy : zdf y) (h : sort = 2 → ¬ FP.Core.DZero y) : FP.Core.dIsNaN (zop sort x y) = false := by
  unfold zop
  split
  · exact FP.Core.dmul_out hx hy
  · split
    · exact FP.Core.ddiv_out (znn hx) hy (h (by assumption))
    · exact FP.Core.dadd_out (znn hx) hy
theorem zD_nn {x : UInt64} (h : FP.Core.dIsNaN x = false) : zD x = some (.double x) := by
  unfold zD
  rw [if_pos ?_]
  have hn := (FP.Core.notNaN_iff x).mp h
  have hm := FP.Core.mag_toNat64
  have h1 : ¬ FP.Core.infBits FP.Core.b64 < FP.Core.mag FP.Core.b64 x.toNat := fun q => hn ((FP.Core.decode_nan (f := FP.Core.b64) x.toNat).mpr q)
  rw [UInt64.le_iff_toNat_le, UInt64.toNat_and]
  show x.toNat &&& (2 ^ 63 - 1) ≤ 9218868437227405312
  rw [Nat.and_two_pow_sub_one_eq_mod]
  have e1 : FP.Core.infBits FP.Core.b64 = 9218868437227405312 := by decide +kernel
  have e2 : FP.Core.mag FP.Core.b64 x.toNat = x.toNat % 2 ^ 63 := by
    unfold FP.Core.mag FP.Core.half
    rw [show FP.Core.b64.exps * FP.Core.b64.tails = 2 ^ 63 by decide +kernel]
  rw [e1, e2] at h1
  omega
theorem zl2d_nz {n : Int} (h : 1 ≤ n ∧ n ≤ 999) : ¬ FP.Core.DZero (FP.l2d (lZ n)) := by
  obtain ⟨m, rfl⟩ := Int.eq_ofNat_of_zero_le (show 0 ≤ n by omega)
  obtain ⟨s, c, q, hv, he, _, _⟩ := zM_l2d (n := m) (by omega)
  rintro ⟨s', q', h'⟩
  rw [hv] at h'
  injection h' with _ h2 _
  rw [h2, Nat.zero_mul] at he
  have := Nat.mul_pos (show 0 < m by omega) (Nat.two_pow_pos 1074)
  omega
theorem zi2d {n : Int} (h : -2147483648 ≤ n ∧ n ≤ 2147483647) : FP.i2d (iZ n) = FP.l2d (lZ n) := by
  show FP.Core.i2d (iZ n) = FP.Core.l2d (lZ n)
  rw [FP.Core.i2d_l2d, iZ_l h]
/-- the value that rule r of crossing c makes of cell i -/
def zmd (t : zBk) (c r : Nat) (g : Nat → Nat → Int64) (i : Nat) : Int64 :=
  if zRS t c r = 4 then lZ (zR2 t c r)
  else if zRS t c r = 0 then g (zR1 t c r).toNat i
  else if zMK t c r = 5 then (if zRS t c r = 1 then g (zR1 t c r).toNat i * lZ (zR2 t c r) else if zRS t c r = 2 then g (zR1 t c r).toNat i / lZ (zR2 t c r) else g (zR1 t c r).toNat i + g (zR2 t c r).toNat i)
  else zdl (zhd (zop (zRS t c r) (zrl (g (zR1 t c r).toNat i) (zKD t (zFO t c).toNat (zR1 t c r).toNat)) (if zRS t c r = 3 then zrl (g (zR2 t c r).toNat i) (zKD t (zFO t c).toNat (zR2 t c r).toNat) else FP.l2d (lZ (zR2 t c r)))))
/-- a record's values are of their kinds -/
def zgk (t : zBk) (s : Nat) (g : Nat → Nat → Int64) : Prop := ∀ f i : Nat, (f : Int) < zNF t s → (i : Int) < zCE t s f → zok (zKD t s f) (g f i)
theorem zdl_n0 {y : UInt64} (h : ¬ FP.Core.DZero y) {o : _} (hc : Op.cmpValue (FP.dcmp y 0) o = 0) : False := by
  cases hd : FP.dcmp y 0 with
  | none => rw [hd] at hc; cases o <;> exact absurd hc (by decide)
  | some w =>
    rw [hd] at hc
    cases w with
    | lt => exact absurd hc (show ¬ (-1 : Int32) = 0 by decide)
    | gt => exact absurd hc (show ¬ (1 : Int32) = 0 by decide)
    | eq => exact h (FP.Core.zero_iff.mp hd)
theorem r_held {σ : zSt} {d : UInt64} (hd : FP.Core.dIsNaN d = false) {Q : zSt → Option Value → Prop} (k : Q σ (some (.double (zhd d)))) : zCa 278 [.double d] σ Q := by
  refine w_enter (c := zk_X12_held) (ls2 := [(0, .double d)]) rfl ⟨rfl, trivial⟩ ?_
  refine w_dload_n (pc' := 1) ⟨rfl, rfl⟩ rfl ?_
  refine w_ldc2_w (pc' := 4) ⟨rfl, rfl⟩ rfl ?_
  obtain ⟨o0, h0o⟩ := zdco hd znn_c1
  rcases o0 with _ | _ | _
  · refine w_dcmp (pc' := 5) ⟨rfl, rfl⟩ ?_
    refine w_topI (y := iZ (-1)) (by rw [h0o]; rfl) ?_
    refine w_ifT_le (pc' := 8) (pcT := 14) ⟨rfl, rfl⟩ rfl (by decide) ?_
    refine w_dload_n (pc' := 15) ⟨rfl, rfl⟩ rfl ?_
    refine w_ldc2_w (pc' := 18) ⟨rfl, rfl⟩ rfl ?_
    obtain ⟨o1, h1o⟩ := zdco hd znn_c2
    rcases o1 with _ | _ | _
    · refine w_dcmp (pc' := 19) ⟨rfl, rfl⟩ ?_
      refine w_topI (y := iZ (-1)) (by rw [h1o]; rfl) ?_
      refine w_ifF_ge (pc' := 22) ⟨rfl, rfl⟩ (by decide) ?_
      refine w_ldc2_w (pc' := 25) ⟨rfl, rfl⟩ rfl ?_
      refine w_goto (pc' := 28) (pcT := 29) ⟨rfl, rfl⟩ rfl ?_
      refine w_dreturn (pc' := 30) ⟨rfl, rfl⟩ ?_
      first | (rw [zhd, if_pos h0o] at k; exact k) | (rw [zhd, if_neg (by rw [h0o]; decide), if_pos h1o] at k; exact k) | (rw [zhd, if_neg (by rw [h0o]; decide), if_neg (by rw [h1o]; decide)] at k; exact k)
    · refine w_dcmp (pc' := 19) ⟨rfl, rfl⟩ ?_
      refine w_topI (y := iZ (0)) (by rw [h1o]; rfl) ?_
      refine w_ifT_ge (pc' := 22) (pcT := 28) ⟨rfl, rfl⟩ rfl (by decide) ?_
      refine w_dload_n (pc' := 29) ⟨rfl, rfl⟩ rfl ?_
      refine w_dreturn (pc' := 30) ⟨rfl, rfl⟩ ?_
      first | (rw [zhd, if_pos h0o] at k; exact k) | (rw [zhd, if_neg (by rw [h0o]; decide), if_pos h1o] at k; exact k) | (rw [zhd, if_neg (by rw [h0o]; decide), if_neg (by rw [h1o]; decide)] at k; exact k)
    · refine w_dcmp (pc' := 19) ⟨rfl, rfl⟩ ?_
      refine w_topI (y := iZ (1)) (by rw [h1o]; rfl) ?_
      refine w_ifT_ge (pc' := 22) (pcT := 28) ⟨rfl, rfl⟩ rfl (by decide) ?_
      refine w_dload_n (pc' := 29) ⟨rfl, rfl⟩ rfl ?_
      refine w_dreturn (pc' := 30) ⟨rfl, rfl⟩ ?_
      first | (rw [zhd, if_pos h0o] at k; exact k) | (rw [zhd, if_neg (by rw [h0o]; decide), if_pos h1o] at k; exact k) | (rw [zhd, if_neg (by rw [h0o]; decide), if_neg (by rw [h1o]; decide)] at k; exact k)
  · refine w_dcmp (pc' := 5) ⟨rfl, rfl⟩ ?_
    refine w_topI (y := iZ (0)) (by rw [h0o]; rfl) ?_
    refine w_ifT_le (pc' := 8) (pcT := 14) ⟨rfl, rfl⟩ rfl (by decide) ?_
    refine w_dload_n (pc' := 15) ⟨rfl, rfl⟩ rfl ?_
    refine w_ldc2_w (pc' := 18) ⟨rfl, rfl⟩ rfl ?_
    obtain ⟨o2, h2o⟩ := zdco hd znn_c2
    rcases o2 with _ | _ | _
    · refine w_dcmp (pc' := 19) ⟨rfl, rfl⟩ ?_
      refine w_topI (y := iZ (-1)) (by rw [h2o]; rfl) ?_
      refine w_ifF_ge (pc' := 22) ⟨rfl, rfl⟩ (by decide) ?_
      refine w_ldc2_w (pc' := 25) ⟨rfl, rfl⟩ rfl ?_
      refine w_goto (pc' := 28) (pcT := 29) ⟨rfl, rfl⟩ rfl ?_
      refine w_dreturn (pc' := 30) ⟨rfl, rfl⟩ ?_
      first | (rw [zhd, if_pos h0o] at k; exact k) | (rw [zhd, if_neg (by rw [h0o]; decide), if_pos h2o] at k; exact k) | (rw [zhd, if_neg (by rw [h0o]; decide), if_neg (by rw [h2o]; decide)] at k; exact k)
    · refine w_dcmp (pc' := 19) ⟨rfl, rfl⟩ ?_
      refine w_topI (y := iZ (0)) (by rw [h2o]; rfl) ?_
      refine w_ifT_ge (pc' := 22) (pcT := 28) ⟨rfl, rfl⟩ rfl (by decide) ?_
      refine w_dload_n (pc' := 29) ⟨rfl, rfl⟩ rfl ?_
      refine w_dreturn (pc' := 30) ⟨rfl, rfl⟩ ?_
      first | (rw [zhd, if_pos h0o] at k; exact k) | (rw [zhd, if_neg (by rw [h0o]; decide), if_pos h2o] at k; exact k) | (rw [zhd, if_neg (by rw [h0o]; decide), if_neg (by rw [h2o]; decide)] at k; exact k)
    · refine w_dcmp (pc' := 19) ⟨rfl, rfl⟩ ?_
      refine w_topI (y := iZ (1)) (by rw [h2o]; rfl) ?_
      refine w_ifT_ge (pc' := 22) (pcT := 28) ⟨rfl, rfl⟩ rfl (by decide) ?_
      refine w_dload_n (pc' := 29) ⟨rfl, rfl⟩ rfl ?_
      refine w_dreturn (pc' := 30) ⟨rfl, rfl⟩ ?_
      first | (rw [zhd, if_pos h0o] at k; exact k) | (rw [zhd, if_neg (by rw [h0o]; decide), if_pos h2o] at k; exact k) | (rw [zhd, if_neg (by rw [h0o]; decide), if_neg (by rw [h2o]; decide)] at k; exact k)
  · refine w_dcmp (pc' := 5) ⟨rfl, rfl⟩ ?_
    refine w_topI (y := iZ (1)) (by rw [h0o]; rfl) ?_
    refine w_ifF_le (pc' := 8) ⟨rfl, rfl⟩ (by decide) ?_
    refine w_ldc2_w (pc' := 11) ⟨rfl, rfl⟩ rfl ?_
    refine w_goto (pc' := 14) (pcT := 29) ⟨rfl, rfl⟩ rfl ?_
    refine w_dreturn (pc' := 30) ⟨rfl, rfl⟩ ?_
    first | (rw [zhd, if_pos h0o] at k; exact k)
theorem c_realMade {σ : zSt} {so : Int} (hso : 1 ≤ so ∧ so ≤ 3) {x y : UInt64} (hx : zdf x) (hy : zdf y) (h0 : so = 2 → ¬ FP.Core.DZero y) {Q : zSt → Option Value → Prop} (k : Q σ (some (.double (zhd (zop so x y))))) : zCa 32 [.int (iZ so), .double x, .double y] σ Q := by
  refine w_enter (c := zk_X1_realMade) (ls2 := [(0, .int (iZ so)), (1, .double x), (3, .double y)]) rfl ⟨rfl, rfl, rfl, trivial⟩ ?_
  have hz := zop_nn (sort := so) hx hy h0
  refine w_ldc2_w (pc' := 3) ⟨rfl, rfl⟩ rfl ?_
  refine w_dstore (pc' := 5) ⟨rfl, rfl⟩ rfl rfl ?_
  refine w_dconst0 (pc' := 6) ⟨rfl, rfl⟩ ?_
  refine w_dstore (pc' := 8) ⟨rfl, rfl⟩ rfl rfl ?_
  refine w_iload_n (pc' := 9) ⟨rfl, rfl⟩ rfl ?_
  refine w_ic (pc' := 10) ⟨rfl, rfl⟩ ?_
  refine w_ic_ne (pc' := 13) (pcT := 21) ⟨rfl, rfl⟩ rfl (by omega) (by omega) (fun h1 => ?_) (fun h1 => ?_)
  · refine w_iload_n (pc' := 22) ⟨rfl, rfl⟩ rfl ?_
    refine w_ic (pc' := 23) ⟨rfl, rfl⟩ ?_
    refine w_ic_ne (pc' := 26) (pcT := 34) ⟨rfl, rfl⟩ rfl (by omega) (by omega) (fun h2 => ?_) (fun h2 => ?_)
    · refine w_dload_n (pc' := 35) ⟨rfl, rfl⟩ rfl ?_
      refine w_dconst0 (pc' := 36) ⟨rfl, rfl⟩ ?_
      refine w_dcmp (pc' := 37) ⟨rfl, rfl⟩ ?_
      refine w_ifI_eq (pc' := 40) (pcT := 45) ⟨rfl, rfl⟩ rfl (fun hcz => ?_) (fun hcz => ?_)
      · exact (zdl_n0 (h0 (by omega)) hcz).elim
      · refine w_dload_n (pc' := 41) ⟨rfl, rfl⟩ rfl ?_
        refine w_dload_n (pc' := 42) ⟨rfl, rfl⟩ rfl ?_
        have e1 : zop so x y = FP.ddiv x y := by unfold zop; rw [if_neg (by omega), if_pos (by omega)]
        rw [e1] at hz k
        refine w_ddiv (pc' := 43) ⟨rfl, rfl⟩ (zD_nn hz) ?_
        refine w_dstore (pc' := 45) ⟨rfl, rfl⟩ rfl rfl ?_
        refine w_dload (pc' := 47) ⟨rfl, rfl⟩ rfl ?_
        refine w_dload (pc' := 49) ⟨rfl, rfl⟩ rfl ?_
        obtain ⟨o3, h3o⟩ := zdco hz znn_c1
        rcases o3 with _ | _ | _
        · refine w_dcmp (pc' := 50) ⟨rfl, rfl⟩ ?_
          refine w_topI (y := iZ (-1)) (by rw [h3o]; rfl) ?_
          refine w_ifT_le (pc' := 53) (pcT := 56) ⟨rfl, rfl⟩ rfl (by decide) ?_
          refine w_dload (pc' := 58) ⟨rfl, rfl⟩ rfl ?_
          refine w_dload (pc' := 60) ⟨rfl, rfl⟩ rfl ?_
          refine w_dneg (pc' := 61) ⟨rfl, rfl⟩ ?_
          rw [show FP.dneg 4831355200913801216 = 14054727237768577024 by decide]
          obtain ⟨o4, h4o⟩ := zdco hz znn_c2
          rcases o4 with _ | _ | _
          · refine w_dcmp (pc' := 62) ⟨rfl, rfl⟩ ?_
            refine w_topI (y := iZ (-1)) (by rw [h4o]; rfl) ?_
            refine w_ifF_ge (pc' := 65) ⟨rfl, rfl⟩ (by decide) ?_
            refine w_dload (pc' := 67) ⟨rfl, rfl⟩ rfl ?_
            refine w_dneg (pc' := 68) ⟨rfl, rfl⟩ ?_
            refine w_goto (pc' := 71) (pcT := 73) ⟨rfl, rfl⟩ rfl ?_
            refine w_dreturn (pc' := 74) ⟨rfl, rfl⟩ ?_
            (try rw [show FP.dneg 4831355200913801216 = 14054727237768577024 by decide])
            first | (rw [zhd, if_pos h3o] at k; exact k) | (rw [zhd, if_neg (by rw [h3o]; decide), if_pos h4o] at k; exact k) | (rw [zhd, if_neg (by rw [h3o]; decide), if_neg (by rw [h4o]; decide)] at k; exact k)
          · refine w_dcmp (pc' := 62) ⟨rfl, rfl⟩ ?_
            refine w_topI (y := iZ (0)) (by rw [h4o]; rfl) ?_
            refine w_ifT_ge (pc' := 65) (pcT := 71) ⟨rfl, rfl⟩ rfl (by decide) ?_
            refine w_dload (pc' := 73) ⟨rfl, rfl⟩ rfl ?_
            refine w_dreturn (pc' := 74) ⟨rfl, rfl⟩ ?_
            (try rw [show FP.dneg 4831355200913801216 = 14054727237768577024 by decide])
            first | (rw [zhd, if_pos h3o] at k; exact k) | (rw [zhd, if_neg (by rw [h3o]; decide), if_pos h4o] at k; exact k) | (rw [zhd, if_neg (by rw [h3o]; decide), if_neg (by rw [h4o]; decide)] at k; exact k)
          · refine w_dcmp (pc' := 62) ⟨rfl, rfl⟩ ?_
            refine w_topI (y := iZ (1)) (by rw [h4o]; rfl) ?_
            refine w_ifT_ge (pc' := 65) (pcT := 71) ⟨rfl, rfl⟩ rfl (by decide) ?_
            refine w_dload (pc' := 73) ⟨rfl, rfl⟩ rfl ?_
            refine w_dreturn (pc' := 74) ⟨rfl, rfl⟩ ?_
            (try rw [show FP.dneg 4831355200913801216 = 14054727237768577024 by decide])
            first | (rw [zhd, if_pos h3o] at k; exact k) | (rw [zhd, if_neg (by rw [h3o]; decide), if_pos h4o] at k; exact k) | (rw [zhd, if_neg (by rw [h3o]; decide), if_neg (by rw [h4o]; decide)] at k; exact k)
        · refine w_dcmp (pc' := 50) ⟨rfl, rfl⟩ ?_
          refine w_topI (y := iZ (0)) (by rw [h3o]; rfl) ?_
          refine w_ifT_le (pc' := 53) (pcT := 56) ⟨rfl, rfl⟩ rfl (by decide) ?_
          refine w_dload (pc' := 58) ⟨rfl, rfl⟩ rfl ?_
          refine w_dload (pc' := 60) ⟨rfl, rfl⟩ rfl ?_
          refine w_dneg (pc' := 61) ⟨rfl, rfl⟩ ?_
          rw [show FP.dneg 4831355200913801216 = 14054727237768577024 by decide]
          obtain ⟨o5, h5o⟩ := zdco hz znn_c2
          rcases o5 with _ | _ | _
          · refine w_dcmp (pc' := 62) ⟨rfl, rfl⟩ ?_
            refine w_topI (y := iZ (-1)) (by rw [h5o]; rfl) ?_
            refine w_ifF_ge (pc' := 65) ⟨rfl, rfl⟩ (by decide) ?_
            refine w_dload (pc' := 67) ⟨rfl, rfl⟩ rfl ?_
            refine w_dneg (pc' := 68) ⟨rfl, rfl⟩ ?_
            refine w_goto (pc' := 71) (pcT := 73) ⟨rfl, rfl⟩ rfl ?_
            refine w_dreturn (pc' := 74) ⟨rfl, rfl⟩ ?_
            (try rw [show FP.dneg 4831355200913801216 = 14054727237768577024 by decide])
            first | (rw [zhd, if_pos h3o] at k; exact k) | (rw [zhd, if_neg (by rw [h3o]; decide), if_pos h5o] at k; exact k) | (rw [zhd, if_neg (by rw [h3o]; decide), if_neg (by rw [h5o]; decide)] at k; exact k)
          · refine w_dcmp (pc' := 62) ⟨rfl, rfl⟩ ?_
            refine w_topI (y := iZ (0)) (by rw [h5o]; rfl) ?_
            refine w_ifT_ge (pc' := 65) (pcT := 71) ⟨rfl, rfl⟩ rfl (by decide) ?_
            refine w_dload (pc' := 73) ⟨rfl, rfl⟩ rfl ?_
            refine w_dreturn (pc' := 74) ⟨rfl, rfl⟩ ?_
            (try rw [show FP.dneg 4831355200913801216 = 14054727237768577024 by decide])
            first | (rw [zhd, if_pos h3o] at k; exact k) | (rw [zhd, if_neg (by rw [h3o]; decide), if_pos h5o] at k; exact k) | (rw [zhd, if_neg (by rw [h3o]; decide), if_neg (by rw [h5o]; decide)] at k; exact k)
          · refine w_dcmp (pc' := 62) ⟨rfl, rfl⟩ ?_
            refine w_topI (y := iZ (1)) (by rw [h5o]; rfl) ?_
            refine w_ifT_ge (pc' := 65) (pcT := 71) ⟨rfl, rfl⟩ rfl (by decide) ?_
            refine w_dload (pc' := 73) ⟨rfl, rfl⟩ rfl ?_
            refine w_dreturn (pc' := 74) ⟨rfl, rfl⟩ ?_
            (try rw [show FP.dneg 4831355200913801216 = 14054727237768577024 by decide])
            first | (rw [zhd, if_pos h3o] at k; exact k) | (rw [zhd, if_neg (by rw [h3o]; decide), if_pos h5o] at k; exact k) | (rw [zhd, if_neg (by rw [h3o]; decide), if_neg (by rw [h5o]; decide)] at k; exact k)
        · refine w_dcmp (pc' := 50) ⟨rfl, rfl⟩ ?_
          refine w_topI (y := iZ (1)) (by rw [h3o]; rfl) ?_
          refine w_ifF_le (pc' := 53) ⟨rfl, rfl⟩ (by decide) ?_
          refine w_dload (pc' := 55) ⟨rfl, rfl⟩ rfl ?_
          refine w_dreturn (pc' := 56) ⟨rfl, rfl⟩ ?_
          (try rw [show FP.dneg 4831355200913801216 = 14054727237768577024 by decide])
          first | (rw [zhd, if_pos h3o] at k; exact k)
    · refine w_dload_n (pc' := 27) ⟨rfl, rfl⟩ rfl ?_
      refine w_dload_n (pc' := 28) ⟨rfl, rfl⟩ rfl ?_
      have e1 : zop so x y = FP.dadd x y := by unfold zop; rw [if_neg (by omega), if_neg (by omega)]
      rw [e1] at hz k
      refine w_dadd (pc' := 29) ⟨rfl, rfl⟩ (zD_nn hz) ?_
      refine w_dstore (pc' := 31) ⟨rfl, rfl⟩ rfl rfl ?_
      refine w_goto (pc' := 34) (pcT := 45) ⟨rfl, rfl⟩ rfl ?_
      refine w_dload (pc' := 47) ⟨rfl, rfl⟩ rfl ?_
      refine w_dload (pc' := 49) ⟨rfl, rfl⟩ rfl ?_
      obtain ⟨o6, h6o⟩ := zdco hz znn_c1
      rcases o6 with _ | _ | _
      · refine w_dcmp (pc' := 50) ⟨rfl, rfl⟩ ?_
        refine w_topI (y := iZ (-1)) (by rw [h6o]; rfl) ?_
        refine w_ifT_le (pc' := 53) (pcT := 56) ⟨rfl, rfl⟩ rfl (by decide) ?_
        refine w_dload (pc' := 58) ⟨rfl, rfl⟩ rfl ?_
        refine w_dload (pc' := 60) ⟨rfl, rfl⟩ rfl ?_
        refine w_dneg (pc' := 61) ⟨rfl, rfl⟩ ?_
        rw [show FP.dneg 4831355200913801216 = 14054727237768577024 by decide]
        obtain ⟨o7, h7o⟩ := zdco hz znn_c2
        rcases o7 with _ | _ | _
        · refine w_dcmp (pc' := 62) ⟨rfl, rfl⟩ ?_
          refine w_topI (y := iZ (-1)) (by rw [h7o]; rfl) ?_
          refine w_ifF_ge (pc' := 65) ⟨rfl, rfl⟩ (by decide) ?_
          refine w_dload (pc' := 67) ⟨rfl, rfl⟩ rfl ?_
          refine w_dneg (pc' := 68) ⟨rfl, rfl⟩ ?_
          refine w_goto (pc' := 71) (pcT := 73) ⟨rfl, rfl⟩ rfl ?_
          refine w_dreturn (pc' := 74) ⟨rfl, rfl⟩ ?_
          (try rw [show FP.dneg 4831355200913801216 = 14054727237768577024 by decide])
          first | (rw [zhd, if_pos h6o] at k; exact k) | (rw [zhd, if_neg (by rw [h6o]; decide), if_pos h7o] at k; exact k) | (rw [zhd, if_neg (by rw [h6o]; decide), if_neg (by rw [h7o]; decide)] at k; exact k)
        · refine w_dcmp (pc' := 62) ⟨rfl, rfl⟩ ?_
          refine w_topI (y := iZ (0)) (by rw [h7o]; rfl) ?_
          refine w_ifT_ge (pc' := 65) (pcT := 71) ⟨rfl, rfl⟩ rfl (by decide) ?_
          refine w_dload (pc' := 73) ⟨rfl, rfl⟩ rfl ?_
          refine w_dreturn (pc' := 74) ⟨rfl, rfl⟩ ?_
          (try rw [show FP.dneg 4831355200913801216 = 14054727237768577024 by decide])
          first | (rw [zhd, if_pos h6o] at k; exact k) | (rw [zhd, if_neg (by rw [h6o]; decide), if_pos h7o] at k; exact k) | (rw [zhd, if_neg (by rw [h6o]; decide), if_neg (by rw [h7o]; decide)] at k; exact k)
        · refine w_dcmp (pc' := 62) ⟨rfl, rfl⟩ ?_
          refine w_topI (y := iZ (1)) (by rw [h7o]; rfl) ?_
          refine w_ifT_ge (pc' := 65) (pcT := 71) ⟨rfl, rfl⟩ rfl (by decide) ?_
          refine w_dload (pc' := 73) ⟨rfl, rfl⟩ rfl ?_
          refine w_dreturn (pc' := 74) ⟨rfl, rfl⟩ ?_
          (try rw [show FP.dneg 4831355200913801216 = 14054727237768577024 by decide])
          first | (rw [zhd, if_pos h6o] at k; exact k) | (rw [zhd, if_neg (by rw [h6o]; decide), if_pos h7o] at k; exact k) | (rw [zhd, if_neg (by rw [h6o]; decide), if_neg (by rw [h7o]; decide)] at k; exact k)
      · refine w_dcmp (pc' := 50) ⟨rfl, rfl⟩ ?_
        refine w_topI (y := iZ (0)) (by rw [h6o]; rfl) ?_
        refine w_ifT_le (pc' := 53) (pcT := 56) ⟨rfl, rfl⟩ rfl (by decide) ?_
        refine w_dload (pc' := 58) ⟨rfl, rfl⟩ rfl ?_
        refine w_dload (pc' := 60) ⟨rfl, rfl⟩ rfl ?_
        refine w_dneg (pc' := 61) ⟨rfl, rfl⟩ ?_
        rw [show FP.dneg 4831355200913801216 = 14054727237768577024 by decide]
        obtain ⟨o8, h8o⟩ := zdco hz znn_c2
        rcases o8 with _ | _ | _
        · refine w_dcmp (pc' := 62) ⟨rfl, rfl⟩ ?_
          refine w_topI (y := iZ (-1)) (by rw [h8o]; rfl) ?_
          refine w_ifF_ge (pc' := 65) ⟨rfl, rfl⟩ (by decide) ?_
          refine w_dload (pc' := 67) ⟨rfl, rfl⟩ rfl ?_
          refine w_dneg (pc' := 68) ⟨rfl, rfl⟩ ?_
          refine w_goto (pc' := 71) (pcT := 73) ⟨rfl, rfl⟩ rfl ?_
          refine w_dreturn (pc' := 74) ⟨rfl, rfl⟩ ?_
          (try rw [show FP.dneg 4831355200913801216 = 14054727237768577024 by decide])
          first | (rw [zhd, if_pos h6o] at k; exact k) | (rw [zhd, if_neg (by rw [h6o]; decide), if_pos h8o] at k; exact k) | (rw [zhd, if_neg (by rw [h6o]; decide), if_neg (by rw [h8o]; decide)] at k; exact k)
        · refine w_dcmp (pc' := 62) ⟨rfl, rfl⟩ ?_
          refine w_topI (y := iZ (0)) (by rw [h8o]; rfl) ?_
          refine w_ifT_ge (pc' := 65) (pcT := 71) ⟨rfl, rfl⟩ rfl (by decide) ?_
          refine w_dload (pc' := 73) ⟨rfl, rfl⟩ rfl ?_
          refine w_dreturn (pc' := 74) ⟨rfl, rfl⟩ ?_
          (try rw [show FP.dneg 4831355200913801216 = 14054727237768577024 by decide])
          first | (rw [zhd, if_pos h6o] at k; exact k) | (rw [zhd, if_neg (by rw [h6o]; decide), if_pos h8o] at k; exact k) | (rw [zhd, if_neg (by rw [h6o]; decide), if_neg (by rw [h8o]; decide)] at k; exact k)
        · refine w_dcmp (pc' := 62) ⟨rfl, rfl⟩ ?_
          refine w_topI (y := iZ (1)) (by rw [h8o]; rfl) ?_
          refine w_ifT_ge (pc' := 65) (pcT := 71) ⟨rfl, rfl⟩ rfl (by decide) ?_
          refine w_dload (pc' := 73) ⟨rfl, rfl⟩ rfl ?_
          refine w_dreturn (pc' := 74) ⟨rfl, rfl⟩ ?_
          (try rw [show FP.dneg 4831355200913801216 = 14054727237768577024 by decide])
          first | (rw [zhd, if_pos h6o] at k; exact k) | (rw [zhd, if_neg (by rw [h6o]; decide), if_pos h8o] at k; exact k) | (rw [zhd, if_neg (by rw [h6o]; decide), if_neg (by rw [h8o]; decide)] at k; exact k)
      · refine w_dcmp (pc' := 50) ⟨rfl, rfl⟩ ?_
        refine w_topI (y := iZ (1)) (by rw [h6o]; rfl) ?_
        refine w_ifF_le (pc' := 53) ⟨rfl, rfl⟩ (by decide) ?_
        refine w_dload (pc' := 55) ⟨rfl, rfl⟩ rfl ?_
        refine w_dreturn (pc' := 56) ⟨rfl, rfl⟩ ?_
        (try rw [show FP.dneg 4831355200913801216 = 14054727237768577024 by decide])
        first | (rw [zhd, if_pos h6o] at k; exact k)
  · refine w_dload_n (pc' := 14) ⟨rfl, rfl⟩ rfl ?_
    refine w_dload_n (pc' := 15) ⟨rfl, rfl⟩ rfl ?_
    have e1 : zop so x y = FP.dmul x y := by unfold zop; rw [if_pos (by omega)]
    rw [e1] at hz k
    refine w_dmul (pc' := 16) ⟨rfl, rfl⟩ (zD_nn hz) ?_
    refine w_dstore (pc' := 18) ⟨rfl, rfl⟩ rfl rfl ?_
    refine w_goto (pc' := 21) (pcT := 45) ⟨rfl, rfl⟩ rfl ?_
    refine w_dload (pc' := 47) ⟨rfl, rfl⟩ rfl ?_
    refine w_dload (pc' := 49) ⟨rfl, rfl⟩ rfl ?_
    obtain ⟨o9, h9o⟩ := zdco hz znn_c1
    rcases o9 with _ | _ | _
    · refine w_dcmp (pc' := 50) ⟨rfl, rfl⟩ ?_
      refine w_topI (y := iZ (-1)) (by rw [h9o]; rfl) ?_
      refine w_ifT_le (pc' := 53) (pcT := 56) ⟨rfl, rfl⟩ rfl (by decide) ?_
      refine w_dload (pc' := 58) ⟨rfl, rfl⟩ rfl ?_
      refine w_dload (pc' := 60) ⟨rfl, rfl⟩ rfl ?_
      refine w_dneg (pc' := 61) ⟨rfl, rfl⟩ ?_
      rw [show FP.dneg 4831355200913801216 = 14054727237768577024 by decide]
      obtain ⟨o10, h10o⟩ := zdco hz znn_c2
      rcases o10 with _ | _ | _
      · refine w_dcmp (pc' := 62) ⟨rfl, rfl⟩ ?_
        refine w_topI (y := iZ (-1)) (by rw [h10o]; rfl) ?_
        refine w_ifF_ge (pc' := 65) ⟨rfl, rfl⟩ (by decide) ?_
        refine w_dload (pc' := 67) ⟨rfl, rfl⟩ rfl ?_
        refine w_dneg (pc' := 68) ⟨rfl, rfl⟩ ?_
        refine w_goto (pc' := 71) (pcT := 73) ⟨rfl, rfl⟩ rfl ?_
        refine w_dreturn (pc' := 74) ⟨rfl, rfl⟩ ?_
        (try rw [show FP.dneg 4831355200913801216 = 14054727237768577024 by decide])
        first | (rw [zhd, if_pos h9o] at k; exact k) | (rw [zhd, if_neg (by rw [h9o]; decide), if_pos h10o] at k; exact k) | (rw [zhd, if_neg (by rw [h9o]; decide), if_neg (by rw [h10o]; decide)] at k; exact k)
      · refine w_dcmp (pc' := 62) ⟨rfl, rfl⟩ ?_
        refine w_topI (y := iZ (0)) (by rw [h10o]; rfl) ?_
        refine w_ifT_ge (pc' := 65) (pcT := 71) ⟨rfl, rfl⟩ rfl (by decide) ?_
        refine w_dload (pc' := 73) ⟨rfl, rfl⟩ rfl ?_
        refine w_dreturn (pc' := 74) ⟨rfl, rfl⟩ ?_
        (try rw [show FP.dneg 4831355200913801216 = 14054727237768577024 by decide])
        first | (rw [zhd, if_pos h9o] at k; exact k) | (rw [zhd, if_neg (by rw [h9o]; decide), if_pos h10o] at k; exact k) | (rw [zhd, if_neg (by rw [h9o]; decide), if_neg (by rw [h10o]; decide)] at k; exact k)
      · refine w_dcmp (pc' := 62) ⟨rfl, rfl⟩ ?_
        refine w_topI (y := iZ (1)) (by rw [h10o]; rfl) ?_
        refine w_ifT_ge (pc' := 65) (pcT := 71) ⟨rfl, rfl⟩ rfl (by decide) ?_
        refine w_dload (pc' := 73) ⟨rfl, rfl⟩ rfl ?_
        refine w_dreturn (pc' := 74) ⟨rfl, rfl⟩ ?_
        (try rw [show FP.dneg 4831355200913801216 = 14054727237768577024 by decide])
        first | (rw [zhd, if_pos h9o] at k; exact k) | (rw [zhd, if_neg (by rw [h9o]; decide), if_pos h10o] at k; exact k) | (rw [zhd, if_neg (by rw [h9o]; decide), if_neg (by rw [h10o]; decide)] at k; exact k)
    · refine w_dcmp (pc' := 50) ⟨rfl, rfl⟩ ?_
      refine w_topI (y := iZ (0)) (by rw [h9o]; rfl) ?_
      refine w_ifT_le (pc' := 53) (pcT := 56) ⟨rfl, rfl⟩ rfl (by decide) ?_
      refine w_dload (pc' := 58) ⟨rfl, rfl⟩ rfl ?_
      refine w_dload (pc' := 60) ⟨rfl, rfl⟩ rfl ?_
      refine w_dneg (pc' := 61) ⟨rfl, rfl⟩ ?_
      rw [show FP.dneg 4831355200913801216 = 14054727237768577024 by decide]
      obtain ⟨o11, h11o⟩ := zdco hz znn_c2
      rcases o11 with _ | _ | _
      · refine w_dcmp (pc' := 62) ⟨rfl, rfl⟩ ?_
        refine w_topI (y := iZ (-1)) (by rw [h11o]; rfl) ?_
        refine w_ifF_ge (pc' := 65) ⟨rfl, rfl⟩ (by decide) ?_
        refine w_dload (pc' := 67) ⟨rfl, rfl⟩ rfl ?_
        refine w_dneg (pc' := 68) ⟨rfl, rfl⟩ ?_
        refine w_goto (pc' := 71) (pcT := 73) ⟨rfl, rfl⟩ rfl ?_
        refine w_dreturn (pc' := 74) ⟨rfl, rfl⟩ ?_
        (try rw [show FP.dneg 4831355200913801216 = 14054727237768577024 by decide])
        first | (rw [zhd, if_pos h9o] at k; exact k) | (rw [zhd, if_neg (by rw [h9o]; decide), if_pos h11o] at k; exact k) | (rw [zhd, if_neg (by rw [h9o]; decide), if_neg (by rw [h11o]; decide)] at k; exact k)
      · refine w_dcmp (pc' := 62) ⟨rfl, rfl⟩ ?_
        refine w_topI (y := iZ (0)) (by rw [h11o]; rfl) ?_
        refine w_ifT_ge (pc' := 65) (pcT := 71) ⟨rfl, rfl⟩ rfl (by decide) ?_
        refine w_dload (pc' := 73) ⟨rfl, rfl⟩ rfl ?_
        refine w_dreturn (pc' := 74) ⟨rfl, rfl⟩ ?_
        (try rw [show FP.dneg 4831355200913801216 = 14054727237768577024 by decide])
        first | (rw [zhd, if_pos h9o] at k; exact k) | (rw [zhd, if_neg (by rw [h9o]; decide), if_pos h11o] at k; exact k) | (rw [zhd, if_neg (by rw [h9o]; decide), if_neg (by rw [h11o]; decide)] at k; exact k)
      · refine w_dcmp (pc' := 62) ⟨rfl, rfl⟩ ?_
        refine w_topI (y := iZ (1)) (by rw [h11o]; rfl) ?_
        refine w_ifT_ge (pc' := 65) (pcT := 71) ⟨rfl, rfl⟩ rfl (by decide) ?_
        refine w_dload (pc' := 73) ⟨rfl, rfl⟩ rfl ?_
        refine w_dreturn (pc' := 74) ⟨rfl, rfl⟩ ?_
        (try rw [show FP.dneg 4831355200913801216 = 14054727237768577024 by decide])
        first | (rw [zhd, if_pos h9o] at k; exact k) | (rw [zhd, if_neg (by rw [h9o]; decide), if_pos h11o] at k; exact k) | (rw [zhd, if_neg (by rw [h9o]; decide), if_neg (by rw [h11o]; decide)] at k; exact k)
    · refine w_dcmp (pc' := 50) ⟨rfl, rfl⟩ ?_
      refine w_topI (y := iZ (1)) (by rw [h9o]; rfl) ?_
      refine w_ifF_le (pc' := 53) ⟨rfl, rfl⟩ (by decide) ?_
      refine w_dload (pc' := 55) ⟨rfl, rfl⟩ rfl ?_
      refine w_dreturn (pc' := 56) ⟨rfl, rfl⟩ ?_
      (try rw [show FP.dneg 4831355200913801216 = 14054727237768577024 by decide])
      first | (rw [zhd, if_pos h9o] at k; exact k)
def zwm (so : Int) (x y : Int64) : Int64 := if so = 1 then x * y else if so = 2 then x / y else x + y
theorem c_wholeMade {σ : zSt} {so : Int} (hso : 1 ≤ so ∧ so ≤ 3) {x y : Int64} (h0 : so = 2 → ¬ y = lZ 0) {Q : zSt → Option Value → Prop} (k : Q σ (some (.long (zwm so x y)))) : zCa 31 [.int (iZ so), .long x, .long y] σ Q := by
  refine w_enter (c := zk_X1_wholeMade) (ls2 := [(0, .int (iZ so)), (1, .long x), (3, .long y)]) rfl ⟨rfl, rfl, rfl, trivial⟩ ?_
  refine w_iload_n (pc' := 1) ⟨rfl, rfl⟩ rfl ?_
  refine w_ic (pc' := 2) ⟨rfl, rfl⟩ ?_
  refine w_ic_ne (pc' := 5) (pcT := 9) ⟨rfl, rfl⟩ rfl (by omega) (by omega) (fun h1 => ?_) (fun h1 => ?_)
  · refine w_iload_n (pc' := 10) ⟨rfl, rfl⟩ rfl ?_
    refine w_ic (pc' := 11) ⟨rfl, rfl⟩ ?_
    refine w_ic_ne (pc' := 14) (pcT := 18) ⟨rfl, rfl⟩ rfl (by omega) (by omega) (fun h2 => ?_) (fun h2 => ?_)
    · refine w_lload_n (pc' := 19) ⟨rfl, rfl⟩ rfl ?_
      refine w_lc (pc' := 20) (z := 0) ⟨rfl, rfl⟩ rfl ?_
      refine w_lcmp (pc' := 21) ⟨rfl, rfl⟩ ?_
      refine w_ifc_ne (pc' := 24) (pcT := 28) ⟨rfl, rfl⟩ rfl (fun hne => ?_) (fun hne => ?_)
      · refine w_lload_n (pc' := 29) ⟨rfl, rfl⟩ rfl ?_
        refine w_lload_n (pc' := 30) ⟨rfl, rfl⟩ rfl ?_
        refine w_ldiv (pc' := 31) ⟨rfl, rfl⟩ (by assumption) ?_
        refine w_lreturn (pc' := 32) ⟨rfl, rfl⟩ ?_
        first | (rw [zwm, if_pos (by omega)] at k; exact k) | (rw [zwm, if_neg (by omega), if_pos (by omega)] at k; exact k) | (rw [zwm, if_neg (by omega), if_neg (by omega)] at k; exact k)
      · exact absurd hne (h0 (by omega))
    · refine w_lload_n (pc' := 15) ⟨rfl, rfl⟩ rfl ?_
      refine w_lload_n (pc' := 16) ⟨rfl, rfl⟩ rfl ?_
      refine w_ladd (pc' := 17) ⟨rfl, rfl⟩ ?_
      refine w_lreturn (pc' := 18) ⟨rfl, rfl⟩ ?_
      first | (rw [zwm, if_pos (by omega)] at k; exact k) | (rw [zwm, if_neg (by omega), if_pos (by omega)] at k; exact k) | (rw [zwm, if_neg (by omega), if_neg (by omega)] at k; exact k)
  · refine w_lload_n (pc' := 6) ⟨rfl, rfl⟩ rfl ?_
    refine w_lload_n (pc' := 7) ⟨rfl, rfl⟩ rfl ?_
    refine w_lmul (pc' := 8) ⟨rfl, rfl⟩ ?_
    refine w_lreturn (pc' := 9) ⟨rfl, rfl⟩ ?_
    first | (rw [zwm, if_pos (by omega)] at k; exact k) | (rw [zwm, if_neg (by omega), if_pos (by omega)] at k; exact k) | (rw [zwm, if_neg (by omega), if_neg (by omega)] at k; exact k)
