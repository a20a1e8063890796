/-! THE LAW SAYS a crossing -/
/-- which field a rule reads; the next one -/
def zG (a y : Int) : Int := y % 8 % (2 + a % 4)
def zH (a y : Int) : Int := (zG a y + 1) % (2 + a % 4)
theorem zG_rng (a y : Int) : 0 ≤ zG a y ∧ zG a y < zmy a := by
  unfold zG zmy
  exact ⟨Int.emod_nonneg _ (by omega), Int.emod_lt_of_pos _ (by omega)⟩
theorem zH_rng (a y : Int) : 0 ≤ zH a y ∧ zH a y < zmy a := by
  unfold zH zmy
  exact ⟨Int.emod_nonneg _ (by omega), Int.emod_lt_of_pos _ (by omega)⟩
abbrev zNk (k : Int) : Prop := 0 < k ∧ k < 8
/-- a rule, as text: a, b the numbers of the schemes, y that of the rule -/
def zcR (a b : Int) (y : Int) (f : Nat) : List Int := (if 0 < f then zTs 3 else []) ++ (zfn f ++ (zTs 18 ++ (if 0 < f ∧ y / 2 ^ 3 % 4 = 3 ∧ zKx b f ≠ 0 then znu (7 * (y % 8)) else zfn (zG a y) ++ ((if y / 2 ^ 3 % 4 = 1 ∧ zNk (zKx a (zG a y).toNat) then zTs (if y % 2 = 0 then 19 else 20) ++ znu (1 + y / 2 ^ 1 % 8) else []) ++ (if y / 2 ^ 3 % 4 = 2 ∧ zNk (zKx a (zG a y).toNat) ∧ zNk (zKx a (zH a y).toNat) then zTs 21 ++ zfn (zH a y) else [])))))
def zcL (a b x : Int) : Nat → Nat → List Int
  | 0, _ => []
  | m + 1, f => zcR a b (zY x (5 * f)) f ++ zcL a b x m (f + 1)
def zcT (u v a b x : Int) : List Int := zTs 16 ++ ([97 + u] ++ (zTs 17 ++ ([97 + v] ++ (zTs 2 ++ (zcL a b x (zmy b).toNat 0 ++ zTs 15)))))
theorem l_cross {σ : zSt} {u v a b x : Int} (ha : -2147483648 ≤ a ∧ a ≤ 2147483647) (hb : -2147483648 ≤ b ∧ b ≤ 2147483647) (hx : -2147483648 ≤ x ∧ x ≤ 2147483647) {n : Nat} (hn : n + 140 ≤ 1600) {Q : zSt → Option Value → Prop} : ∀ (m : Nat) (f : Nat) (l : List Int) (σ1 : zSt), (f : Int) + m = zmy b → zFm [3, 4, 164] σ σ1 → zBe σ1 l (n + 20 * f) → (∀ σ2, zFm [3, 4, 164] σ σ2 → zBe σ2 (l ++ (zcL a b x m f ++ zTs 15)) (n + 101) → Q σ2 (some (.int (iZ 1)))) → zP zk_L_cross 79 [(0, .ref 0), (1, .int (iZ u)), (2, .int (iZ v)), (3, .int (iZ a)), (4, .int (iZ b)), (5, .int (iZ x)), (6, .ref 164), (7, .int (iZ (zmy b))), (8, .int (iZ (zmy a))), (9, .int (iZ (f : Int)))] [] σ1 Q := by
  intro m
  induction m with
  | zero =>
    intro f l σ1 hm hf hs k
    have hma : zmy a = 2 + a % 4 := rfl
    have hmb : zmy b = 2 + b % 4 := rfl
    refine w_iload (pc' := 81) ⟨rfl, rfl⟩ rfl ?_
    refine w_iload (pc' := 83) ⟨rfl, rfl⟩ rfl ?_
    refine w_icT_ge (pc' := 86) (pcT := 346) ⟨rfl, rfl⟩ rfl (by omega) ?_
    refine w_aload_n (pc' := 347) ⟨rfl, rfl⟩ rfl ?_
    refine w_ldc (pc' := 349) (v := .ref (zSTR + 15)) ⟨rfl, rfl⟩ rfl ?_
    refine w_aload (pc' := 351) ⟨rfl, rfl⟩ rfl ?_
    refine w_cs3 (pc' := 354) ⟨rfl, rfl⟩ (by decide) (Nat.le_of_ble_eq_true rfl) (Nat.le_of_ble_eq_true rfl) (g_say hs (by omega) (j := 15) (by decide) (d := 1) (by decide) (fun u1 m1 b1 => ?_))
    refine w_ireturn (pc' := 355) ⟨rfl, rfl⟩ (by decide) ?_
    exact k _ (hf.trans m1) ((b1.le (by omega)).eq (by rw [zcL, List.nil_append]))
  | succ m ih =>
    intro f l σ1 hm hf hs k
    have hma : zmy a = 2 + a % 4 := rfl
    have hmb : zmy b = 2 + b % 4 := rfl
    have hy := zY_rng hx (5 * f)
    have hKb := zKx_rng b f
    have hg := zG_rng a (zY x (5 * f))
    have hh := zH_rng a (zY x (5 * f))
    rcases Nat.eq_zero_or_pos f with h0 | h0
    · refine w_iload (pc' := 81) ⟨rfl, rfl⟩ rfl ?_
      refine w_iload (pc' := 83) ⟨rfl, rfl⟩ rfl ?_
      refine w_icF_ge (pc' := 86) ⟨rfl, rfl⟩ (by omega) ?_
      refine w_iload (pc' := 88) ⟨rfl, rfl⟩ rfl ?_
      refine w_ic (pc' := 89) ⟨rfl, rfl⟩ ?_
      refine w_iload (pc' := 91) ⟨rfl, rfl⟩ rfl ?_
      refine w_imulZ (pc' := 92) ⟨rfl, rfl⟩ ?_
      refine w_ishr (pc' := 93) ⟨rfl, rfl⟩ ?_
      refine w_topI (zY_shr hx (k := 5 * f) (by omega) (by omega)) ?_
      refine w_istore (pc' := 95) ⟨rfl, rfl⟩ rfl ?_
      refine w_iload (pc' := 97) ⟨rfl, rfl⟩ rfl ?_
      refine w_bi (pc' := 99) ⟨rfl, rfl⟩ (by decide) ?_
      refine w_iand (pc' := 100) ⟨rfl, rfl⟩ ?_
      refine w_topI (iZ_and7 _) ?_
      refine w_iload (pc' := 102) ⟨rfl, rfl⟩ rfl ?_
      refine w_iremZ (pc' := 103) ⟨rfl, rfl⟩ ⟨⟨by omega, by omega⟩, by omega, by omega⟩ ?_
      refine w_topI (show _ = iZ (zG a (zY x (5 * f))) from rfl) ?_
      refine w_istore (pc' := 105) ⟨rfl, rfl⟩ rfl ?_
      refine w_iload (pc' := 107) ⟨rfl, rfl⟩ rfl ?_
      refine w_ifT_le (pc' := 110) (pcT := 121) ⟨rfl, rfl⟩ rfl (by omega) ?_
      refine w_aload_n (pc' := 122) ⟨rfl, rfl⟩ rfl ?_
      refine w_iload (pc' := 124) ⟨rfl, rfl⟩ rfl ?_
      refine w_aload (pc' := 126) ⟨rfl, rfl⟩ rfl ?_
      refine w_cs3 (pc' := 129) ⟨rfl, rfl⟩ (by decide) (Nat.le_of_ble_eq_true rfl) (Nat.le_of_ble_eq_true rfl) (g_field hs (by omega) (by omega) (fun u1 m1 b1 => ?_))
      refine w_ifF_eq (pc' := 132) ⟨rfl, rfl⟩ (by decide) ?_
      refine w_aload_n (pc' := 133) ⟨rfl, rfl⟩ rfl ?_
      refine w_ldc (pc' := 135) (v := .ref (zSTR + 18)) ⟨rfl, rfl⟩ rfl ?_
      refine w_aload (pc' := 137) ⟨rfl, rfl⟩ rfl ?_
      refine w_cs3 (pc' := 140) ⟨rfl, rfl⟩ (by decide) (Nat.le_of_ble_eq_true rfl) (Nat.le_of_ble_eq_true rfl) (g_say b1 (by omega) (j := 18) (by decide) (d := 6) (by decide) (fun u2 m2 b2 => ?_))
      refine w_ifT_ne (pc' := 143) (pcT := 145) ⟨rfl, rfl⟩ rfl (by decide) ?_
      refine w_iload (pc' := 147) ⟨rfl, rfl⟩ rfl ?_
      refine w_ic (pc' := 148) ⟨rfl, rfl⟩ ?_
      refine w_ishr (pc' := 149) ⟨rfl, rfl⟩ ?_
      refine w_topI (iZ_shr (k := 3) (by omega) (by decide)) ?_
      refine w_ic (pc' := 150) ⟨rfl, rfl⟩ ?_
      refine w_iand (pc' := 151) ⟨rfl, rfl⟩ ?_
      refine w_topI (iZ_and3 _) ?_
      refine w_istore (pc' := 153) ⟨rfl, rfl⟩ rfl ?_
      refine w_iload (pc' := 155) ⟨rfl, rfl⟩ rfl ?_
      refine w_ifT_le (pc' := 158) (pcT := 193) ⟨rfl, rfl⟩ rfl (by omega) ?_
      refine w_aload_n (pc' := 194) ⟨rfl, rfl⟩ rfl ?_
      refine w_iload (pc' := 196) ⟨rfl, rfl⟩ rfl ?_
      refine w_aload (pc' := 198) ⟨rfl, rfl⟩ rfl ?_
      refine w_cs3 (pc' := 201) ⟨rfl, rfl⟩ (by decide) (Nat.le_of_ble_eq_true rfl) (Nat.le_of_ble_eq_true rfl) (g_field b2 (by omega) (by omega) (fun u3 m3 b3 => ?_))
      refine w_ifT_ne (pc' := 204) (pcT := 206) ⟨rfl, rfl⟩ rfl (by decide) ?_
      refine w_iload (pc' := 208) ⟨rfl, rfl⟩ rfl ?_
      refine w_ic (pc' := 209) ⟨rfl, rfl⟩ ?_
      refine w_ic_ne (pc' := 212) (pcT := 276) ⟨rfl, rfl⟩ rfl (by omega) (by omega) (fun h1 => ?_) (fun h1 => ?_)
      · refine w_iload (pc' := 278) ⟨rfl, rfl⟩ rfl ?_
        refine w_ic (pc' := 279) ⟨rfl, rfl⟩ ?_
        refine w_ic_ne (pc' := 282) (pcT := 340) ⟨rfl, rfl⟩ rfl (by omega) (by omega) (fun h2 => ?_) (fun h2 => ?_)
        · refine w_iincZ (pc' := 343) ⟨rfl, rfl⟩ rfl rfl ?_
          refine w_goto (pc' := 346) (pcT := 79) ⟨rfl, rfl⟩ rfl ?_
          refine w_at (ls2 := [(0, .ref 0), (1, .int (iZ u)), (2, .int (iZ v)), (3, .int (iZ a)), (4, .int (iZ b)), (5, .int (iZ x)), (6, .ref 164), (7, .int (iZ (zmy b))), (8, .int (iZ (zmy a))), (9, .int (iZ ((f + 1 : Nat) : Int)))]) ?_ (ih (f + 1) (l ++ zcR a b (zY x (5 * f)) f) _ (by omega) (((hf.trans m1).trans m2).trans m3) ((b3.le (by omega)).eq ?_) (fun σ2 h1 h2 => k σ2 h1 (h2.eq (by rw [zcL, List.append_assoc, List.append_assoc]))))
          · exact ⟨rfl, rfl, rfl, rfl, rfl, rfl, rfl, rfl, rfl, rfl, trivial⟩
          · unfold zcR
            repeat' (first | rw [if_pos (by omega)] | rw [if_neg (by omega)])
            simp only [List.append_assoc, List.nil_append, List.append_nil]
        · refine w_iload_n (pc' := 283) ⟨rfl, rfl⟩ rfl ?_
          refine w_iload (pc' := 285) ⟨rfl, rfl⟩ rfl ?_
          refine w_cs2 (pc' := 288) ⟨rfl, rfl⟩ (by decide) (Nat.le_of_ble_eq_true rfl) (Nat.le_of_ble_eq_true rfl) (f_kindOfI ha (by omega) ?_)
          refine w_cs1 (pc' := 291) ⟨rfl, rfl⟩ (by decide) (Nat.le_of_ble_eq_true rfl) (Nat.le_of_ble_eq_true rfl) (f_isNumber (zKx_rng _ _) (fun q => ?_) (fun q => ?_))
          · refine w_ifF_eq (pc' := 294) ⟨rfl, rfl⟩ (by decide) ?_
            refine w_iload_n (pc' := 295) ⟨rfl, rfl⟩ rfl ?_
            refine w_iload (pc' := 297) ⟨rfl, rfl⟩ rfl ?_
            refine w_ic (pc' := 298) ⟨rfl, rfl⟩ ?_
            refine w_iaddZ (pc' := 299) ⟨rfl, rfl⟩ ?_
            refine w_iload (pc' := 301) ⟨rfl, rfl⟩ rfl ?_
            refine w_iremZ (pc' := 302) ⟨rfl, rfl⟩ ⟨⟨by omega, by omega⟩, by omega, by omega⟩ ?_
            refine w_topI (show _ = iZ (zH a (zY x (5 * f))) from rfl) ?_
            refine w_cs2 (pc' := 305) ⟨rfl, rfl⟩ (by decide) (Nat.le_of_ble_eq_true rfl) (Nat.le_of_ble_eq_true rfl) (f_kindOfI ha (by omega) ?_)
            refine w_cs1 (pc' := 308) ⟨rfl, rfl⟩ (by decide) (Nat.le_of_ble_eq_true rfl) (Nat.le_of_ble_eq_true rfl) (f_isNumber (zKx_rng _ _) (fun qq => ?_) (fun qq => ?_))
            · refine w_ifF_eq (pc' := 311) ⟨rfl, rfl⟩ (by decide) ?_
              refine w_aload_n (pc' := 312) ⟨rfl, rfl⟩ rfl ?_
              refine w_ldc (pc' := 314) (v := .ref (zSTR + 21)) ⟨rfl, rfl⟩ rfl ?_
              refine w_aload (pc' := 316) ⟨rfl, rfl⟩ rfl ?_
              refine w_cs3 (pc' := 319) ⟨rfl, rfl⟩ (by decide) (Nat.le_of_ble_eq_true rfl) (Nat.le_of_ble_eq_true rfl) (g_say b3 (by omega) (j := 21) (by decide) (d := 6) (by decide) (fun u4 m4 b4 => ?_))
              refine w_ifF_eq (pc' := 322) ⟨rfl, rfl⟩ (by decide) ?_
              refine w_aload_n (pc' := 323) ⟨rfl, rfl⟩ rfl ?_
              refine w_iload (pc' := 325) ⟨rfl, rfl⟩ rfl ?_
              refine w_ic (pc' := 326) ⟨rfl, rfl⟩ ?_
              refine w_iaddZ (pc' := 327) ⟨rfl, rfl⟩ ?_
              refine w_iload (pc' := 329) ⟨rfl, rfl⟩ rfl ?_
              refine w_iremZ (pc' := 330) ⟨rfl, rfl⟩ ⟨⟨by omega, by omega⟩, by omega, by omega⟩ ?_
              refine w_topI (show _ = iZ (zH a (zY x (5 * f))) from rfl) ?_
              refine w_aload (pc' := 332) ⟨rfl, rfl⟩ rfl ?_
              refine w_cs3 (pc' := 335) ⟨rfl, rfl⟩ (by decide) (Nat.le_of_ble_eq_true rfl) (Nat.le_of_ble_eq_true rfl) (g_field b4 (by omega) (by omega) (fun u5 m5 b5 => ?_))
              refine w_ifT_ne (pc' := 338) (pcT := 340) ⟨rfl, rfl⟩ rfl (by decide) ?_
              refine w_iincZ (pc' := 343) ⟨rfl, rfl⟩ rfl rfl ?_
              refine w_goto (pc' := 346) (pcT := 79) ⟨rfl, rfl⟩ rfl ?_
              refine w_at (ls2 := [(0, .ref 0), (1, .int (iZ u)), (2, .int (iZ v)), (3, .int (iZ a)), (4, .int (iZ b)), (5, .int (iZ x)), (6, .ref 164), (7, .int (iZ (zmy b))), (8, .int (iZ (zmy a))), (9, .int (iZ ((f + 1 : Nat) : Int)))]) ?_ (ih (f + 1) (l ++ zcR a b (zY x (5 * f)) f) _ (by omega) (((((hf.trans m1).trans m2).trans m3).trans m4).trans m5) ((b5.le (by omega)).eq ?_) (fun σ2 h1 h2 => k σ2 h1 (h2.eq (by rw [zcL, List.append_assoc, List.append_assoc]))))
              · exact ⟨rfl, rfl, rfl, rfl, rfl, rfl, rfl, rfl, rfl, rfl, trivial⟩
              · unfold zcR
                repeat' (first | rw [if_pos (by omega)] | rw [if_neg (by omega)])
                simp only [List.append_assoc, List.nil_append, List.append_nil]
            · refine w_ifT_eq (pc' := 311) (pcT := 340) ⟨rfl, rfl⟩ rfl (by decide) ?_
              refine w_iincZ (pc' := 343) ⟨rfl, rfl⟩ rfl rfl ?_
              refine w_goto (pc' := 346) (pcT := 79) ⟨rfl, rfl⟩ rfl ?_
              refine w_at (ls2 := [(0, .ref 0), (1, .int (iZ u)), (2, .int (iZ v)), (3, .int (iZ a)), (4, .int (iZ b)), (5, .int (iZ x)), (6, .ref 164), (7, .int (iZ (zmy b))), (8, .int (iZ (zmy a))), (9, .int (iZ ((f + 1 : Nat) : Int)))]) ?_ (ih (f + 1) (l ++ zcR a b (zY x (5 * f)) f) _ (by omega) (((hf.trans m1).trans m2).trans m3) ((b3.le (by omega)).eq ?_) (fun σ2 h1 h2 => k σ2 h1 (h2.eq (by rw [zcL, List.append_assoc, List.append_assoc]))))
              · exact ⟨rfl, rfl, rfl, rfl, rfl, rfl, rfl, rfl, rfl, rfl, trivial⟩
              · unfold zcR
                repeat' (first | rw [if_pos (by omega)] | rw [if_neg (by omega)])
                simp only [List.append_assoc, List.nil_append, List.append_nil]
          · refine w_ifT_eq (pc' := 294) (pcT := 340) ⟨rfl, rfl⟩ rfl (by decide) ?_
            refine w_iincZ (pc' := 343) ⟨rfl, rfl⟩ rfl rfl ?_
            refine w_goto (pc' := 346) (pcT := 79) ⟨rfl, rfl⟩ rfl ?_
            refine w_at (ls2 := [(0, .ref 0), (1, .int (iZ u)), (2, .int (iZ v)), (3, .int (iZ a)), (4, .int (iZ b)), (5, .int (iZ x)), (6, .ref 164), (7, .int (iZ (zmy b))), (8, .int (iZ (zmy a))), (9, .int (iZ ((f + 1 : Nat) : Int)))]) ?_ (ih (f + 1) (l ++ zcR a b (zY x (5 * f)) f) _ (by omega) (((hf.trans m1).trans m2).trans m3) ((b3.le (by omega)).eq ?_) (fun σ2 h1 h2 => k σ2 h1 (h2.eq (by rw [zcL, List.append_assoc, List.append_assoc]))))
            · exact ⟨rfl, rfl, rfl, rfl, rfl, rfl, rfl, rfl, rfl, rfl, trivial⟩
            · unfold zcR
              repeat' (first | rw [if_pos (by omega)] | rw [if_neg (by omega)])
              simp only [List.append_assoc, List.nil_append, List.append_nil]
      · refine w_iload_n (pc' := 213) ⟨rfl, rfl⟩ rfl ?_
        refine w_iload (pc' := 215) ⟨rfl, rfl⟩ rfl ?_
        refine w_cs2 (pc' := 218) ⟨rfl, rfl⟩ (by decide) (Nat.le_of_ble_eq_true rfl) (Nat.le_of_ble_eq_true rfl) (f_kindOfI ha (by omega) ?_)
        refine w_cs1 (pc' := 221) ⟨rfl, rfl⟩ (by decide) (Nat.le_of_ble_eq_true rfl) (Nat.le_of_ble_eq_true rfl) (f_isNumber (zKx_rng _ _) (fun q => ?_) (fun q => ?_))
        · refine w_ifF_eq (pc' := 224) ⟨rfl, rfl⟩ (by decide) ?_
          refine w_iload (pc' := 226) ⟨rfl, rfl⟩ rfl ?_
          refine w_ic (pc' := 227) ⟨rfl, rfl⟩ ?_
          refine w_iand (pc' := 228) ⟨rfl, rfl⟩ ?_
          refine w_topI (iZ_and1 _) ?_
          refine w_if_ne (pc' := 231) (pcT := 245) ⟨rfl, rfl⟩ rfl (by omega) (fun h2 => ?_) (fun h2 => ?_)
          · refine w_aload_n (pc' := 246) ⟨rfl, rfl⟩ rfl ?_
            refine w_ldc (pc' := 248) (v := .ref (zSTR + 20)) ⟨rfl, rfl⟩ rfl ?_
            refine w_aload (pc' := 250) ⟨rfl, rfl⟩ rfl ?_
            refine w_cs3 (pc' := 253) ⟨rfl, rfl⟩ (by decide) (Nat.le_of_ble_eq_true rfl) (Nat.le_of_ble_eq_true rfl) (g_say b3 (by omega) (j := 20) (by decide) (d := 6) (by decide) (fun u4 m4 b4 => ?_))
            refine w_ifF_eq (pc' := 256) ⟨rfl, rfl⟩ (by decide) ?_
            refine w_aload_n (pc' := 257) ⟨rfl, rfl⟩ rfl ?_
            refine w_ic (pc' := 258) ⟨rfl, rfl⟩ ?_
            refine w_iload (pc' := 260) ⟨rfl, rfl⟩ rfl ?_
            refine w_ic (pc' := 261) ⟨rfl, rfl⟩ ?_
            refine w_ishr (pc' := 262) ⟨rfl, rfl⟩ ?_
            refine w_topI (iZ_shr (k := 1) (by omega) (by decide)) ?_
            refine w_bi (pc' := 264) ⟨rfl, rfl⟩ (by decide) ?_
            refine w_iand (pc' := 265) ⟨rfl, rfl⟩ ?_
            refine w_topI (iZ_and7 _) ?_
            refine w_iaddZ (pc' := 266) ⟨rfl, rfl⟩ ?_
            refine w_aload (pc' := 268) ⟨rfl, rfl⟩ rfl ?_
            refine w_cs3 (pc' := 271) ⟨rfl, rfl⟩ (by decide) (Nat.le_of_ble_eq_true rfl) (Nat.le_of_ble_eq_true rfl) (g_number b4 (by omega) (by omega) (fun u5 m5 b5 => ?_))
            refine w_ifT_ne (pc' := 274) (pcT := 276) ⟨rfl, rfl⟩ rfl (by decide) ?_
            refine w_iload (pc' := 278) ⟨rfl, rfl⟩ rfl ?_
            refine w_ic (pc' := 279) ⟨rfl, rfl⟩ ?_
            refine w_icT_ne (pc' := 282) (pcT := 340) ⟨rfl, rfl⟩ rfl (by omega) ?_
            refine w_iincZ (pc' := 343) ⟨rfl, rfl⟩ rfl rfl ?_
            refine w_goto (pc' := 346) (pcT := 79) ⟨rfl, rfl⟩ rfl ?_
            refine w_at (ls2 := [(0, .ref 0), (1, .int (iZ u)), (2, .int (iZ v)), (3, .int (iZ a)), (4, .int (iZ b)), (5, .int (iZ x)), (6, .ref 164), (7, .int (iZ (zmy b))), (8, .int (iZ (zmy a))), (9, .int (iZ ((f + 1 : Nat) : Int)))]) ?_ (ih (f + 1) (l ++ zcR a b (zY x (5 * f)) f) _ (by omega) (((((hf.trans m1).trans m2).trans m3).trans m4).trans m5) ((b5.le (by omega)).eq ?_) (fun σ2 h1 h2 => k σ2 h1 (h2.eq (by rw [zcL, List.append_assoc, List.append_assoc]))))
            · exact ⟨rfl, rfl, rfl, rfl, rfl, rfl, rfl, rfl, rfl, rfl, trivial⟩
            · unfold zcR
              repeat' (first | rw [if_pos (by omega)] | rw [if_neg (by omega)])
              simp only [List.append_assoc, List.nil_append, List.append_nil]
          · refine w_aload_n (pc' := 232) ⟨rfl, rfl⟩ rfl ?_
            refine w_ldc (pc' := 234) (v := .ref (zSTR + 19)) ⟨rfl, rfl⟩ rfl ?_
            refine w_aload (pc' := 236) ⟨rfl, rfl⟩ rfl ?_
            refine w_cs3 (pc' := 239) ⟨rfl, rfl⟩ (by decide) (Nat.le_of_ble_eq_true rfl) (Nat.le_of_ble_eq_true rfl) (g_say b3 (by omega) (j := 19) (by decide) (d := 4) (by decide) (fun u4 m4 b4 => ?_))
            refine w_ifF_eq (pc' := 242) ⟨rfl, rfl⟩ (by decide) ?_
            refine w_goto (pc' := 245) (pcT := 256) ⟨rfl, rfl⟩ rfl ?_
            refine w_aload_n (pc' := 257) ⟨rfl, rfl⟩ rfl ?_
            refine w_ic (pc' := 258) ⟨rfl, rfl⟩ ?_
            refine w_iload (pc' := 260) ⟨rfl, rfl⟩ rfl ?_
            refine w_ic (pc' := 261) ⟨rfl, rfl⟩ ?_
            refine w_ishr (pc' := 262) ⟨rfl, rfl⟩ ?_
            refine w_topI (iZ_shr (k := 1) (by omega) (by decide)) ?_
            refine w_bi (pc' := 264) ⟨rfl, rfl⟩ (by decide) ?_
            refine w_iand (pc' := 265) ⟨rfl, rfl⟩ ?_
            refine w_topI (iZ_and7 _) ?_
            refine w_iaddZ (pc' := 266) ⟨rfl, rfl⟩ ?_
            refine w_aload (pc' := 268) ⟨rfl, rfl⟩ rfl ?_
            refine w_cs3 (pc' := 271) ⟨rfl, rfl⟩ (by decide) (Nat.le_of_ble_eq_true rfl) (Nat.le_of_ble_eq_true rfl) (g_number b4 (by omega) (by omega) (fun u5 m5 b5 => ?_))
            refine w_ifT_ne (pc' := 274) (pcT := 276) ⟨rfl, rfl⟩ rfl (by decide) ?_
            refine w_iload (pc' := 278) ⟨rfl, rfl⟩ rfl ?_
            refine w_ic (pc' := 279) ⟨rfl, rfl⟩ ?_
            refine w_icT_ne (pc' := 282) (pcT := 340) ⟨rfl, rfl⟩ rfl (by omega) ?_
            refine w_iincZ (pc' := 343) ⟨rfl, rfl⟩ rfl rfl ?_
            refine w_goto (pc' := 346) (pcT := 79) ⟨rfl, rfl⟩ rfl ?_
            refine w_at (ls2 := [(0, .ref 0), (1, .int (iZ u)), (2, .int (iZ v)), (3, .int (iZ a)), (4, .int (iZ b)), (5, .int (iZ x)), (6, .ref 164), (7, .int (iZ (zmy b))), (8, .int (iZ (zmy a))), (9, .int (iZ ((f + 1 : Nat) : Int)))]) ?_ (ih (f + 1) (l ++ zcR a b (zY x (5 * f)) f) _ (by omega) (((((hf.trans m1).trans m2).trans m3).trans m4).trans m5) ((b5.le (by omega)).eq ?_) (fun σ2 h1 h2 => k σ2 h1 (h2.eq (by rw [zcL, List.append_assoc, List.append_assoc]))))
            · exact ⟨rfl, rfl, rfl, rfl, rfl, rfl, rfl, rfl, rfl, rfl, trivial⟩
            · unfold zcR
              repeat' (first | rw [if_pos (by omega)] | rw [if_neg (by omega)])
              simp only [List.append_assoc, List.nil_append, List.append_nil]
        · refine w_ifT_eq (pc' := 224) (pcT := 276) ⟨rfl, rfl⟩ rfl (by decide) ?_
          refine w_iload (pc' := 278) ⟨rfl, rfl⟩ rfl ?_
          refine w_ic (pc' := 279) ⟨rfl, rfl⟩ ?_
          refine w_icT_ne (pc' := 282) (pcT := 340) ⟨rfl, rfl⟩ rfl (by omega) ?_
          refine w_iincZ (pc' := 343) ⟨rfl, rfl⟩ rfl rfl ?_
          refine w_goto (pc' := 346) (pcT := 79) ⟨rfl, rfl⟩ rfl ?_
          refine w_at (ls2 := [(0, .ref 0), (1, .int (iZ u)), (2, .int (iZ v)), (3, .int (iZ a)), (4, .int (iZ b)), (5, .int (iZ x)), (6, .ref 164), (7, .int (iZ (zmy b))), (8, .int (iZ (zmy a))), (9, .int (iZ ((f + 1 : Nat) : Int)))]) ?_ (ih (f + 1) (l ++ zcR a b (zY x (5 * f)) f) _ (by omega) (((hf.trans m1).trans m2).trans m3) ((b3.le (by omega)).eq ?_) (fun σ2 h1 h2 => k σ2 h1 (h2.eq (by rw [zcL, List.append_assoc, List.append_assoc]))))
          · exact ⟨rfl, rfl, rfl, rfl, rfl, rfl, rfl, rfl, rfl, rfl, trivial⟩
          · unfold zcR
            repeat' (first | rw [if_pos (by omega)] | rw [if_neg (by omega)])
            simp only [List.append_assoc, List.nil_append, List.append_nil]
    · refine w_iload (pc' := 81) ⟨rfl, rfl⟩ rfl ?_
      refine w_iload (pc' := 83) ⟨rfl, rfl⟩ rfl ?_
      refine w_icF_ge (pc' := 86) ⟨rfl, rfl⟩ (by omega) ?_
      refine w_iload (pc' := 88) ⟨rfl, rfl⟩ rfl ?_
      refine w_ic (pc' := 89) ⟨rfl, rfl⟩ ?_
      refine w_iload (pc' := 91) ⟨rfl, rfl⟩ rfl ?_
      refine w_imulZ (pc' := 92) ⟨rfl, rfl⟩ ?_
      refine w_ishr (pc' := 93) ⟨rfl, rfl⟩ ?_
      refine w_topI (zY_shr hx (k := 5 * f) (by omega) (by omega)) ?_
      refine w_istore (pc' := 95) ⟨rfl, rfl⟩ rfl ?_
      refine w_iload (pc' := 97) ⟨rfl, rfl⟩ rfl ?_
      refine w_bi (pc' := 99) ⟨rfl, rfl⟩ (by decide) ?_
      refine w_iand (pc' := 100) ⟨rfl, rfl⟩ ?_
      refine w_topI (iZ_and7 _) ?_
      refine w_iload (pc' := 102) ⟨rfl, rfl⟩ rfl ?_
      refine w_iremZ (pc' := 103) ⟨rfl, rfl⟩ ⟨⟨by omega, by omega⟩, by omega, by omega⟩ ?_
      refine w_topI (show _ = iZ (zG a (zY x (5 * f))) from rfl) ?_
      refine w_istore (pc' := 105) ⟨rfl, rfl⟩ rfl ?_
      refine w_iload (pc' := 107) ⟨rfl, rfl⟩ rfl ?_
      refine w_ifF_le (pc' := 110) ⟨rfl, rfl⟩ (by omega) ?_
      refine w_aload_n (pc' := 111) ⟨rfl, rfl⟩ rfl ?_
      refine w_ldc (pc' := 113) (v := .ref (zSTR + 3)) ⟨rfl, rfl⟩ rfl ?_
      refine w_aload (pc' := 115) ⟨rfl, rfl⟩ rfl ?_
      refine w_cs3 (pc' := 118) ⟨rfl, rfl⟩ (by decide) (Nat.le_of_ble_eq_true rfl) (Nat.le_of_ble_eq_true rfl) (g_say hs (by omega) (j := 3) (by decide) (d := 1) (by decide) (fun u1 m1 b1 => ?_))
      refine w_ifF_eq (pc' := 121) ⟨rfl, rfl⟩ (by decide) ?_
      refine w_aload_n (pc' := 122) ⟨rfl, rfl⟩ rfl ?_
      refine w_iload (pc' := 124) ⟨rfl, rfl⟩ rfl ?_
      refine w_aload (pc' := 126) ⟨rfl, rfl⟩ rfl ?_
      refine w_cs3 (pc' := 129) ⟨rfl, rfl⟩ (by decide) (Nat.le_of_ble_eq_true rfl) (Nat.le_of_ble_eq_true rfl) (g_field b1 (by omega) (by omega) (fun u2 m2 b2 => ?_))
      refine w_ifF_eq (pc' := 132) ⟨rfl, rfl⟩ (by decide) ?_
      refine w_aload_n (pc' := 133) ⟨rfl, rfl⟩ rfl ?_
      refine w_ldc (pc' := 135) (v := .ref (zSTR + 18)) ⟨rfl, rfl⟩ rfl ?_
      refine w_aload (pc' := 137) ⟨rfl, rfl⟩ rfl ?_
      refine w_cs3 (pc' := 140) ⟨rfl, rfl⟩ (by decide) (Nat.le_of_ble_eq_true rfl) (Nat.le_of_ble_eq_true rfl) (g_say b2 (by omega) (j := 18) (by decide) (d := 6) (by decide) (fun u3 m3 b3 => ?_))
      refine w_ifT_ne (pc' := 143) (pcT := 145) ⟨rfl, rfl⟩ rfl (by decide) ?_
      refine w_iload (pc' := 147) ⟨rfl, rfl⟩ rfl ?_
      refine w_ic (pc' := 148) ⟨rfl, rfl⟩ ?_
      refine w_ishr (pc' := 149) ⟨rfl, rfl⟩ ?_
      refine w_topI (iZ_shr (k := 3) (by omega) (by decide)) ?_
      refine w_ic (pc' := 150) ⟨rfl, rfl⟩ ?_
      refine w_iand (pc' := 151) ⟨rfl, rfl⟩ ?_
      refine w_topI (iZ_and3 _) ?_
      refine w_istore (pc' := 153) ⟨rfl, rfl⟩ rfl ?_
      refine w_iload (pc' := 155) ⟨rfl, rfl⟩ rfl ?_
      refine w_ifF_le (pc' := 158) ⟨rfl, rfl⟩ (by omega) ?_
      refine w_iload (pc' := 160) ⟨rfl, rfl⟩ rfl ?_
      refine w_ic (pc' := 161) ⟨rfl, rfl⟩ ?_
      refine w_ic_ne (pc' := 164) (pcT := 193) ⟨rfl, rfl⟩ rfl (by omega) (by omega) (fun h1 => ?_) (fun h1 => ?_)
      · refine w_aload_n (pc' := 194) ⟨rfl, rfl⟩ rfl ?_
        refine w_iload (pc' := 196) ⟨rfl, rfl⟩ rfl ?_
        refine w_aload (pc' := 198) ⟨rfl, rfl⟩ rfl ?_
        refine w_cs3 (pc' := 201) ⟨rfl, rfl⟩ (by decide) (Nat.le_of_ble_eq_true rfl) (Nat.le_of_ble_eq_true rfl) (g_field b3 (by omega) (by omega) (fun u4 m4 b4 => ?_))
        refine w_ifT_ne (pc' := 204) (pcT := 206) ⟨rfl, rfl⟩ rfl (by decide) ?_
        refine w_iload (pc' := 208) ⟨rfl, rfl⟩ rfl ?_
        refine w_ic (pc' := 209) ⟨rfl, rfl⟩ ?_
        refine w_ic_ne (pc' := 212) (pcT := 276) ⟨rfl, rfl⟩ rfl (by omega) (by omega) (fun h2 => ?_) (fun h2 => ?_)
        · refine w_iload (pc' := 278) ⟨rfl, rfl⟩ rfl ?_
          refine w_ic (pc' := 279) ⟨rfl, rfl⟩ ?_
          refine w_ic_ne (pc' := 282) (pcT := 340) ⟨rfl, rfl⟩ rfl (by omega) (by omega) (fun h3 => ?_) (fun h3 => ?_)
          · refine w_iincZ (pc' := 343) ⟨rfl, rfl⟩ rfl rfl ?_
            refine w_goto (pc' := 346) (pcT := 79) ⟨rfl, rfl⟩ rfl ?_
            refine w_at (ls2 := [(0, .ref 0), (1, .int (iZ u)), (2, .int (iZ v)), (3, .int (iZ a)), (4, .int (iZ b)), (5, .int (iZ x)), (6, .ref 164), (7, .int (iZ (zmy b))), (8, .int (iZ (zmy a))), (9, .int (iZ ((f + 1 : Nat) : Int)))]) ?_ (ih (f + 1) (l ++ zcR a b (zY x (5 * f)) f) _ (by omega) ((((hf.trans m1).trans m2).trans m3).trans m4) ((b4.le (by omega)).eq ?_) (fun σ2 h1 h2 => k σ2 h1 (h2.eq (by rw [zcL, List.append_assoc, List.append_assoc]))))
            · exact ⟨rfl, rfl, rfl, rfl, rfl, rfl, rfl, rfl, rfl, rfl, trivial⟩
            · unfold zcR
              repeat' (first | rw [if_pos (by omega)] | rw [if_neg (by omega)])
              simp only [List.append_assoc, List.nil_append, List.append_nil]
          · refine w_iload_n (pc' := 283) ⟨rfl, rfl⟩ rfl ?_
            refine w_iload (pc' := 285) ⟨rfl, rfl⟩ rfl ?_
            refine w_cs2 (pc' := 288) ⟨rfl, rfl⟩ (by decide) (Nat.le_of_ble_eq_true rfl) (Nat.le_of_ble_eq_true rfl) (f_kindOfI ha (by omega) ?_)
            refine w_cs1 (pc' := 291) ⟨rfl, rfl⟩ (by decide) (Nat.le_of_ble_eq_true rfl) (Nat.le_of_ble_eq_true rfl) (f_isNumber (zKx_rng _ _) (fun q => ?_) (fun q => ?_))
            · refine w_ifF_eq (pc' := 294) ⟨rfl, rfl⟩ (by decide) ?_
              refine w_iload_n (pc' := 295) ⟨rfl, rfl⟩ rfl ?_
              refine w_iload (pc' := 297) ⟨rfl, rfl⟩ rfl ?_
              refine w_ic (pc' := 298) ⟨rfl, rfl⟩ ?_
              refine w_iaddZ (pc' := 299) ⟨rfl, rfl⟩ ?_
              refine w_iload (pc' := 301) ⟨rfl, rfl⟩ rfl ?_
              refine w_iremZ (pc' := 302) ⟨rfl, rfl⟩ ⟨⟨by omega, by omega⟩, by omega, by omega⟩ ?_
              refine w_topI (show _ = iZ (zH a (zY x (5 * f))) from rfl) ?_
              refine w_cs2 (pc' := 305) ⟨rfl, rfl⟩ (by decide) (Nat.le_of_ble_eq_true rfl) (Nat.le_of_ble_eq_true rfl) (f_kindOfI ha (by omega) ?_)
              refine w_cs1 (pc' := 308) ⟨rfl, rfl⟩ (by decide) (Nat.le_of_ble_eq_true rfl) (Nat.le_of_ble_eq_true rfl) (f_isNumber (zKx_rng _ _) (fun qq => ?_) (fun qq => ?_))
              · refine w_ifF_eq (pc' := 311) ⟨rfl, rfl⟩ (by decide) ?_
                refine w_aload_n (pc' := 312) ⟨rfl, rfl⟩ rfl ?_
                refine w_ldc (pc' := 314) (v := .ref (zSTR + 21)) ⟨rfl, rfl⟩ rfl ?_
                refine w_aload (pc' := 316) ⟨rfl, rfl⟩ rfl ?_
                refine w_cs3 (pc' := 319) ⟨rfl, rfl⟩ (by decide) (Nat.le_of_ble_eq_true rfl) (Nat.le_of_ble_eq_true rfl) (g_say b4 (by omega) (j := 21) (by decide) (d := 6) (by decide) (fun u5 m5 b5 => ?_))
                refine w_ifF_eq (pc' := 322) ⟨rfl, rfl⟩ (by decide) ?_
                refine w_aload_n (pc' := 323) ⟨rfl, rfl⟩ rfl ?_
                refine w_iload (pc' := 325) ⟨rfl, rfl⟩ rfl ?_
                refine w_ic (pc' := 326) ⟨rfl, rfl⟩ ?_
                refine w_iaddZ (pc' := 327) ⟨rfl, rfl⟩ ?_
                refine w_iload (pc' := 329) ⟨rfl, rfl⟩ rfl ?_
                refine w_iremZ (pc' := 330) ⟨rfl, rfl⟩ ⟨⟨by omega, by omega⟩, by omega, by omega⟩ ?_
                refine w_topI (show _ = iZ (zH a (zY x (5 * f))) from rfl) ?_
                refine w_aload (pc' := 332) ⟨rfl, rfl⟩ rfl ?_
                refine w_cs3 (pc' := 335) ⟨rfl, rfl⟩ (by decide) (Nat.le_of_ble_eq_true rfl) (Nat.le_of_ble_eq_true rfl) (g_field b5 (by omega) (by omega) (fun u6 m6 b6 => ?_))
                refine w_ifT_ne (pc' := 338) (pcT := 340) ⟨rfl, rfl⟩ rfl (by decide) ?_
                refine w_iincZ (pc' := 343) ⟨rfl, rfl⟩ rfl rfl ?_
                refine w_goto (pc' := 346) (pcT := 79) ⟨rfl, rfl⟩ rfl ?_
                refine w_at (ls2 := [(0, .ref 0), (1, .int (iZ u)), (2, .int (iZ v)), (3, .int (iZ a)), (4, .int (iZ b)), (5, .int (iZ x)), (6, .ref 164), (7, .int (iZ (zmy b))), (8, .int (iZ (zmy a))), (9, .int (iZ ((f + 1 : Nat) : Int)))]) ?_ (ih (f + 1) (l ++ zcR a b (zY x (5 * f)) f) _ (by omega) ((((((hf.trans m1).trans m2).trans m3).trans m4).trans m5).trans m6) ((b6.le (by omega)).eq ?_) (fun σ2 h1 h2 => k σ2 h1 (h2.eq (by rw [zcL, List.append_assoc, List.append_assoc]))))
                · exact ⟨rfl, rfl, rfl, rfl, rfl, rfl, rfl, rfl, rfl, rfl, trivial⟩
                · unfold zcR
                  repeat' (first | rw [if_pos (by omega)] | rw [if_neg (by omega)])
                  simp only [List.append_assoc, List.nil_append, List.append_nil]
              · refine w_ifT_eq (pc' := 311) (pcT := 340) ⟨rfl, rfl⟩ rfl (by decide) ?_
                refine w_iincZ (pc' := 343) ⟨rfl, rfl⟩ rfl rfl ?_
                refine w_goto (pc' := 346) (pcT := 79) ⟨rfl, rfl⟩ rfl ?_
                refine w_at (ls2 := [(0, .ref 0), (1, .int (iZ u)), (2, .int (iZ v)), (3, .int (iZ a)), (4, .int (iZ b)), (5, .int (iZ x)), (6, .ref 164), (7, .int (iZ (zmy b))), (8, .int (iZ (zmy a))), (9, .int (iZ ((f + 1 : Nat) : Int)))]) ?_ (ih (f + 1) (l ++ zcR a b (zY x (5 * f)) f) _ (by omega) ((((hf.trans m1).trans m2).trans m3).trans m4) ((b4.le (by omega)).eq ?_) (fun σ2 h1 h2 => k σ2 h1 (h2.eq (by rw [zcL, List.append_assoc, List.append_assoc]))))
                · exact ⟨rfl, rfl, rfl, rfl, rfl, rfl, rfl, rfl, rfl, rfl, trivial⟩
                · unfold zcR
                  repeat' (first | rw [if_pos (by omega)] | rw [if_neg (by omega)])
                  simp only [List.append_assoc, List.nil_append, List.append_nil]
            · refine w_ifT_eq (pc' := 294) (pcT := 340) ⟨rfl, rfl⟩ rfl (by decide) ?_
              refine w_iincZ (pc' := 343) ⟨rfl, rfl⟩ rfl rfl ?_
              refine w_goto (pc' := 346) (pcT := 79) ⟨rfl, rfl⟩ rfl ?_
              refine w_at (ls2 := [(0, .ref 0), (1, .int (iZ u)), (2, .int (iZ v)), (3, .int (iZ a)), (4, .int (iZ b)), (5, .int (iZ x)), (6, .ref 164), (7, .int (iZ (zmy b))), (8, .int (iZ (zmy a))), (9, .int (iZ ((f + 1 : Nat) : Int)))]) ?_ (ih (f + 1) (l ++ zcR a b (zY x (5 * f)) f) _ (by omega) ((((hf.trans m1).trans m2).trans m3).trans m4) ((b4.le (by omega)).eq ?_) (fun σ2 h1 h2 => k σ2 h1 (h2.eq (by rw [zcL, List.append_assoc, List.append_assoc]))))
              · exact ⟨rfl, rfl, rfl, rfl, rfl, rfl, rfl, rfl, rfl, rfl, trivial⟩
              · unfold zcR
                repeat' (first | rw [if_pos (by omega)] | rw [if_neg (by omega)])
                simp only [List.append_assoc, List.nil_append, List.append_nil]
        · refine w_iload_n (pc' := 213) ⟨rfl, rfl⟩ rfl ?_
          refine w_iload (pc' := 215) ⟨rfl, rfl⟩ rfl ?_
          refine w_cs2 (pc' := 218) ⟨rfl, rfl⟩ (by decide) (Nat.le_of_ble_eq_true rfl) (Nat.le_of_ble_eq_true rfl) (f_kindOfI ha (by omega) ?_)
          refine w_cs1 (pc' := 221) ⟨rfl, rfl⟩ (by decide) (Nat.le_of_ble_eq_true rfl) (Nat.le_of_ble_eq_true rfl) (f_isNumber (zKx_rng _ _) (fun q => ?_) (fun q => ?_))
          · refine w_ifF_eq (pc' := 224) ⟨rfl, rfl⟩ (by decide) ?_
            refine w_iload (pc' := 226) ⟨rfl, rfl⟩ rfl ?_
            refine w_ic (pc' := 227) ⟨rfl, rfl⟩ ?_
            refine w_iand (pc' := 228) ⟨rfl, rfl⟩ ?_
            refine w_topI (iZ_and1 _) ?_
            refine w_if_ne (pc' := 231) (pcT := 245) ⟨rfl, rfl⟩ rfl (by omega) (fun h3 => ?_) (fun h3 => ?_)
            · refine w_aload_n (pc' := 246) ⟨rfl, rfl⟩ rfl ?_
              refine w_ldc (pc' := 248) (v := .ref (zSTR + 20)) ⟨rfl, rfl⟩ rfl ?_
              refine w_aload (pc' := 250) ⟨rfl, rfl⟩ rfl ?_
              refine w_cs3 (pc' := 253) ⟨rfl, rfl⟩ (by decide) (Nat.le_of_ble_eq_true rfl) (Nat.le_of_ble_eq_true rfl) (g_say b4 (by omega) (j := 20) (by decide) (d := 6) (by decide) (fun u5 m5 b5 => ?_))
              refine w_ifF_eq (pc' := 256) ⟨rfl, rfl⟩ (by decide) ?_
              refine w_aload_n (pc' := 257) ⟨rfl, rfl⟩ rfl ?_
              refine w_ic (pc' := 258) ⟨rfl, rfl⟩ ?_
              refine w_iload (pc' := 260) ⟨rfl, rfl⟩ rfl ?_
              refine w_ic (pc' := 261) ⟨rfl, rfl⟩ ?_
              refine w_ishr (pc' := 262) ⟨rfl, rfl⟩ ?_
              refine w_topI (iZ_shr (k := 1) (by omega) (by decide)) ?_
              refine w_bi (pc' := 264) ⟨rfl, rfl⟩ (by decide) ?_
              refine w_iand (pc' := 265) ⟨rfl, rfl⟩ ?_
              refine w_topI (iZ_and7 _) ?_
              refine w_iaddZ (pc' := 266) ⟨rfl, rfl⟩ ?_
              refine w_aload (pc' := 268) ⟨rfl, rfl⟩ rfl ?_
              refine w_cs3 (pc' := 271) ⟨rfl, rfl⟩ (by decide) (Nat.le_of_ble_eq_true rfl) (Nat.le_of_ble_eq_true rfl) (g_number b5 (by omega) (by omega) (fun u6 m6 b6 => ?_))
              refine w_ifT_ne (pc' := 274) (pcT := 276) ⟨rfl, rfl⟩ rfl (by decide) ?_
              refine w_iload (pc' := 278) ⟨rfl, rfl⟩ rfl ?_
              refine w_ic (pc' := 279) ⟨rfl, rfl⟩ ?_
              refine w_icT_ne (pc' := 282) (pcT := 340) ⟨rfl, rfl⟩ rfl (by omega) ?_
              refine w_iincZ (pc' := 343) ⟨rfl, rfl⟩ rfl rfl ?_
              refine w_goto (pc' := 346) (pcT := 79) ⟨rfl, rfl⟩ rfl ?_
              refine w_at (ls2 := [(0, .ref 0), (1, .int (iZ u)), (2, .int (iZ v)), (3, .int (iZ a)), (4, .int (iZ b)), (5, .int (iZ x)), (6, .ref 164), (7, .int (iZ (zmy b))), (8, .int (iZ (zmy a))), (9, .int (iZ ((f + 1 : Nat) : Int)))]) ?_ (ih (f + 1) (l ++ zcR a b (zY x (5 * f)) f) _ (by omega) ((((((hf.trans m1).trans m2).trans m3).trans m4).trans m5).trans m6) ((b6.le (by omega)).eq ?_) (fun σ2 h1 h2 => k σ2 h1 (h2.eq (by rw [zcL, List.append_assoc, List.append_assoc]))))
              · exact ⟨rfl, rfl, rfl, rfl, rfl, rfl, rfl, rfl, rfl, rfl, trivial⟩
              · unfold zcR
                repeat' (first | rw [if_pos (by omega)] | rw [if_neg (by omega)])
                simp only [List.append_assoc, List.nil_append, List.append_nil]
            · refine w_aload_n (pc' := 232) ⟨rfl, rfl⟩ rfl ?_
              refine w_ldc (pc' := 234) (v := .ref (zSTR + 19)) ⟨rfl, rfl⟩ rfl ?_
              refine w_aload (pc' := 236) ⟨rfl, rfl⟩ rfl ?_
              refine w_cs3 (pc' := 239) ⟨rfl, rfl⟩ (by decide) (Nat.le_of_ble_eq_true rfl) (Nat.le_of_ble_eq_true rfl) (g_say b4 (by omega) (j := 19) (by decide) (d := 4) (by decide) (fun u5 m5 b5 => ?_))
              refine w_ifF_eq (pc' := 242) ⟨rfl, rfl⟩ (by decide) ?_
              refine w_goto (pc' := 245) (pcT := 256) ⟨rfl, rfl⟩ rfl ?_
              refine w_aload_n (pc' := 257) ⟨rfl, rfl⟩ rfl ?_
              refine w_ic (pc' := 258) ⟨rfl, rfl⟩ ?_
              refine w_iload (pc' := 260) ⟨rfl, rfl⟩ rfl ?_
              refine w_ic (pc' := 261) ⟨rfl, rfl⟩ ?_
              refine w_ishr (pc' := 262) ⟨rfl, rfl⟩ ?_
              refine w_topI (iZ_shr (k := 1) (by omega) (by decide)) ?_
              refine w_bi (pc' := 264) ⟨rfl, rfl⟩ (by decide) ?_
              refine w_iand (pc' := 265) ⟨rfl, rfl⟩ ?_
              refine w_topI (iZ_and7 _) ?_
              refine w_iaddZ (pc' := 266) ⟨rfl, rfl⟩ ?_
              refine w_aload (pc' := 268) ⟨rfl, rfl⟩ rfl ?_
              refine w_cs3 (pc' := 271) ⟨rfl, rfl⟩ (by decide) (Nat.le_of_ble_eq_true rfl) (Nat.le_of_ble_eq_true rfl) (g_number b5 (by omega) (by omega) (fun u6 m6 b6 => ?_))
              refine w_ifT_ne (pc' := 274) (pcT := 276) ⟨rfl, rfl⟩ rfl (by decide) ?_
              refine w_iload (pc' := 278) ⟨rfl, rfl⟩ rfl ?_
              refine w_ic (pc' := 279) ⟨rfl, rfl⟩ ?_
              refine w_icT_ne (pc' := 282) (pcT := 340) ⟨rfl, rfl⟩ rfl (by omega) ?_
              refine w_iincZ (pc' := 343) ⟨rfl, rfl⟩ rfl rfl ?_
              refine w_goto (pc' := 346) (pcT := 79) ⟨rfl, rfl⟩ rfl ?_
              refine w_at (ls2 := [(0, .ref 0), (1, .int (iZ u)), (2, .int (iZ v)), (3, .int (iZ a)), (4, .int (iZ b)), (5, .int (iZ x)), (6, .ref 164), (7, .int (iZ (zmy b))), (8, .int (iZ (zmy a))), (9, .int (iZ ((f + 1 : Nat) : Int)))]) ?_ (ih (f + 1) (l ++ zcR a b (zY x (5 * f)) f) _ (by omega) ((((((hf.trans m1).trans m2).trans m3).trans m4).trans m5).trans m6) ((b6.le (by omega)).eq ?_) (fun σ2 h1 h2 => k σ2 h1 (h2.eq (by rw [zcL, List.append_assoc, List.append_assoc]))))
              · exact ⟨rfl, rfl, rfl, rfl, rfl, rfl, rfl, rfl, rfl, rfl, trivial⟩
              · unfold zcR
                repeat' (first | rw [if_pos (by omega)] | rw [if_neg (by omega)])
                simp only [List.append_assoc, List.nil_append, List.append_nil]
          · refine w_ifT_eq (pc' := 224) (pcT := 276) ⟨rfl, rfl⟩ rfl (by decide) ?_
            refine w_iload (pc' := 278) ⟨rfl, rfl⟩ rfl ?_
            refine w_ic (pc' := 279) ⟨rfl, rfl⟩ ?_
            refine w_icT_ne (pc' := 282) (pcT := 340) ⟨rfl, rfl⟩ rfl (by omega) ?_
            refine w_iincZ (pc' := 343) ⟨rfl, rfl⟩ rfl rfl ?_
            refine w_goto (pc' := 346) (pcT := 79) ⟨rfl, rfl⟩ rfl ?_
            refine w_at (ls2 := [(0, .ref 0), (1, .int (iZ u)), (2, .int (iZ v)), (3, .int (iZ a)), (4, .int (iZ b)), (5, .int (iZ x)), (6, .ref 164), (7, .int (iZ (zmy b))), (8, .int (iZ (zmy a))), (9, .int (iZ ((f + 1 : Nat) : Int)))]) ?_ (ih (f + 1) (l ++ zcR a b (zY x (5 * f)) f) _ (by omega) ((((hf.trans m1).trans m2).trans m3).trans m4) ((b4.le (by omega)).eq ?_) (fun σ2 h1 h2 => k σ2 h1 (h2.eq (by rw [zcL, List.append_assoc, List.append_assoc]))))
            · exact ⟨rfl, rfl, rfl, rfl, rfl, rfl, rfl, rfl, rfl, rfl, trivial⟩
            · unfold zcR
              repeat' (first | rw [if_pos (by omega)] | rw [if_neg (by omega)])
              simp only [List.append_assoc, List.nil_append, List.append_nil]
      · refine w_iload (pc' := 166) ⟨rfl, rfl⟩ rfl ?_
        refine w_iload (pc' := 168) ⟨rfl, rfl⟩ rfl ?_
        refine w_cs2 (pc' := 171) ⟨rfl, rfl⟩ (by decide) (Nat.le_of_ble_eq_true rfl) (Nat.le_of_ble_eq_true rfl) (f_kindOf hb (by omega) ?_)
        refine w_if_eq (pc' := 174) (pcT := 193) ⟨rfl, rfl⟩ rfl (by omega) (fun h2 => ?_) (fun h2 => ?_)
        · refine w_aload_n (pc' := 194) ⟨rfl, rfl⟩ rfl ?_
          refine w_iload (pc' := 196) ⟨rfl, rfl⟩ rfl ?_
          refine w_aload (pc' := 198) ⟨rfl, rfl⟩ rfl ?_
          refine w_cs3 (pc' := 201) ⟨rfl, rfl⟩ (by decide) (Nat.le_of_ble_eq_true rfl) (Nat.le_of_ble_eq_true rfl) (g_field b3 (by omega) (by omega) (fun u4 m4 b4 => ?_))
          refine w_ifT_ne (pc' := 204) (pcT := 206) ⟨rfl, rfl⟩ rfl (by decide) ?_
          refine w_iload (pc' := 208) ⟨rfl, rfl⟩ rfl ?_
          refine w_ic (pc' := 209) ⟨rfl, rfl⟩ ?_
          refine w_icT_ne (pc' := 212) (pcT := 276) ⟨rfl, rfl⟩ rfl (by omega) ?_
          refine w_iload (pc' := 278) ⟨rfl, rfl⟩ rfl ?_
          refine w_ic (pc' := 279) ⟨rfl, rfl⟩ ?_
          refine w_icT_ne (pc' := 282) (pcT := 340) ⟨rfl, rfl⟩ rfl (by omega) ?_
          refine w_iincZ (pc' := 343) ⟨rfl, rfl⟩ rfl rfl ?_
          refine w_goto (pc' := 346) (pcT := 79) ⟨rfl, rfl⟩ rfl ?_
          refine w_at (ls2 := [(0, .ref 0), (1, .int (iZ u)), (2, .int (iZ v)), (3, .int (iZ a)), (4, .int (iZ b)), (5, .int (iZ x)), (6, .ref 164), (7, .int (iZ (zmy b))), (8, .int (iZ (zmy a))), (9, .int (iZ ((f + 1 : Nat) : Int)))]) ?_ (ih (f + 1) (l ++ zcR a b (zY x (5 * f)) f) _ (by omega) ((((hf.trans m1).trans m2).trans m3).trans m4) ((b4.le (by omega)).eq ?_) (fun σ2 h1 h2 => k σ2 h1 (h2.eq (by rw [zcL, List.append_assoc, List.append_assoc]))))
          · exact ⟨rfl, rfl, rfl, rfl, rfl, rfl, rfl, rfl, rfl, rfl, trivial⟩
          · unfold zcR
            repeat' (first | rw [if_pos (by omega)] | rw [if_neg (by omega)])
            simp only [List.append_assoc, List.nil_append, List.append_nil]
        · refine w_aload_n (pc' := 175) ⟨rfl, rfl⟩ rfl ?_
          refine w_bi (pc' := 177) ⟨rfl, rfl⟩ (by decide) ?_
          refine w_iload (pc' := 179) ⟨rfl, rfl⟩ rfl ?_
          refine w_bi (pc' := 181) ⟨rfl, rfl⟩ (by decide) ?_
          refine w_iand (pc' := 182) ⟨rfl, rfl⟩ ?_
          refine w_topI (iZ_and7 _) ?_
          refine w_imulZ (pc' := 183) ⟨rfl, rfl⟩ ?_
          refine w_aload (pc' := 185) ⟨rfl, rfl⟩ rfl ?_
          refine w_cs3 (pc' := 188) ⟨rfl, rfl⟩ (by decide) (Nat.le_of_ble_eq_true rfl) (Nat.le_of_ble_eq_true rfl) (g_number b3 (by omega) (by omega) (fun u4 m4 b4 => ?_))
          refine w_ifT_ne (pc' := 191) (pcT := 340) ⟨rfl, rfl⟩ rfl (by decide) ?_
          refine w_iincZ (pc' := 343) ⟨rfl, rfl⟩ rfl rfl ?_
          refine w_goto (pc' := 346) (pcT := 79) ⟨rfl, rfl⟩ rfl ?_
          refine w_at (ls2 := [(0, .ref 0), (1, .int (iZ u)), (2, .int (iZ v)), (3, .int (iZ a)), (4, .int (iZ b)), (5, .int (iZ x)), (6, .ref 164), (7, .int (iZ (zmy b))), (8, .int (iZ (zmy a))), (9, .int (iZ ((f + 1 : Nat) : Int)))]) ?_ (ih (f + 1) (l ++ zcR a b (zY x (5 * f)) f) _ (by omega) ((((hf.trans m1).trans m2).trans m3).trans m4) ((b4.le (by omega)).eq ?_) (fun σ2 h1 h2 => k σ2 h1 (h2.eq (by rw [zcL, List.append_assoc, List.append_assoc]))))
          · exact ⟨rfl, rfl, rfl, rfl, rfl, rfl, rfl, rfl, rfl, rfl, trivial⟩
          · unfold zcR
            repeat' (first | rw [if_pos (by omega)] | rw [if_neg (by omega)])
            simp only [List.append_assoc, List.nil_append, List.append_nil]
theorem f_cross {σ : zSt} {l : List Int} {n : Nat} (hs : zBe σ l n) (hn : n + 160 ≤ 1600) {u v a b x : Int} (hu : 0 ≤ u ∧ u ≤ 2) (hv : 0 ≤ v ∧ v ≤ 2) (ha : -2147483648 ≤ a ∧ a ≤ 2147483647) (hb : -2147483648 ≤ b ∧ b ≤ 2147483647) (hx : -2147483648 ≤ x ∧ x ≤ 2147483647) {Q : zSt → Option Value → Prop} (k : ∀ σ1, zFm [3, 4, 164] σ σ1 → zBe σ1 (l ++ zcT u v a b x) (n + 116) → Q σ1 (some (.int (iZ 1)))) : zCa 129 [.ref 0, .int (iZ u), .int (iZ v), .int (iZ a), .int (iZ b), .int (iZ x), .ref 164] σ Q := by
  refine w_enter (c := zk_L_cross) (ls2 := [(0, .ref 0), (1, .int (iZ u)), (2, .int (iZ v)), (3, .int (iZ a)), (4, .int (iZ b)), (5, .int (iZ x)), (6, .ref 164)]) rfl ⟨rfl, rfl, rfl, rfl, rfl, rfl, rfl, trivial⟩ ?_
  refine w_aload_n (pc' := 1) ⟨rfl, rfl⟩ rfl ?_
  refine w_ldc (pc' := 3) (v := .ref (zSTR + 16)) ⟨rfl, rfl⟩ rfl ?_
  refine w_aload (pc' := 5) ⟨rfl, rfl⟩ rfl ?_
  refine w_cs3 (pc' := 8) ⟨rfl, rfl⟩ (by decide) (Nat.le_of_ble_eq_true rfl) (Nat.le_of_ble_eq_true rfl) (g_say hs (by omega) (j := 16) (by decide) (d := 7) (by decide) (fun u1 m1 b1 => ?_))
  refine w_ifF_eq (pc' := 11) ⟨rfl, rfl⟩ (by decide) ?_
  refine w_aload_n (pc' := 12) ⟨rfl, rfl⟩ rfl ?_
  refine w_bi (pc' := 14) ⟨rfl, rfl⟩ (by decide) ?_
  refine w_iload_n (pc' := 15) ⟨rfl, rfl⟩ rfl ?_
  refine w_iaddZ (pc' := 16) ⟨rfl, rfl⟩ ?_
  refine w_aload (pc' := 18) ⟨rfl, rfl⟩ rfl ?_
  refine w_cs3 (pc' := 21) ⟨rfl, rfl⟩ (by decide) (Nat.le_of_ble_eq_true rfl) (Nat.le_of_ble_eq_true rfl) (g_sign b1 (by omega) (by omega) (fun u2 m2 b2 => ?_))
  refine w_ifF_eq (pc' := 24) ⟨rfl, rfl⟩ (by decide) ?_
  refine w_aload_n (pc' := 25) ⟨rfl, rfl⟩ rfl ?_
  refine w_ldc (pc' := 27) (v := .ref (zSTR + 17)) ⟨rfl, rfl⟩ rfl ?_
  refine w_aload (pc' := 29) ⟨rfl, rfl⟩ rfl ?_
  refine w_cs3 (pc' := 32) ⟨rfl, rfl⟩ (by decide) (Nat.le_of_ble_eq_true rfl) (Nat.le_of_ble_eq_true rfl) (g_say b2 (by omega) (j := 17) (by decide) (d := 5) (by decide) (fun u3 m3 b3 => ?_))
  refine w_ifF_eq (pc' := 35) ⟨rfl, rfl⟩ (by decide) ?_
  refine w_aload_n (pc' := 36) ⟨rfl, rfl⟩ rfl ?_
  refine w_bi (pc' := 38) ⟨rfl, rfl⟩ (by decide) ?_
  refine w_iload_n (pc' := 39) ⟨rfl, rfl⟩ rfl ?_
  refine w_iaddZ (pc' := 40) ⟨rfl, rfl⟩ ?_
  refine w_aload (pc' := 42) ⟨rfl, rfl⟩ rfl ?_
  refine w_cs3 (pc' := 45) ⟨rfl, rfl⟩ (by decide) (Nat.le_of_ble_eq_true rfl) (Nat.le_of_ble_eq_true rfl) (g_sign b3 (by omega) (by omega) (fun u4 m4 b4 => ?_))
  refine w_ifF_eq (pc' := 48) ⟨rfl, rfl⟩ (by decide) ?_
  refine w_aload_n (pc' := 49) ⟨rfl, rfl⟩ rfl ?_
  refine w_ldc (pc' := 51) (v := .ref (zSTR + 2)) ⟨rfl, rfl⟩ rfl ?_
  refine w_aload (pc' := 53) ⟨rfl, rfl⟩ rfl ?_
  refine w_cs3 (pc' := 56) ⟨rfl, rfl⟩ (by decide) (Nat.le_of_ble_eq_true rfl) (Nat.le_of_ble_eq_true rfl) (g_say b4 (by omega) (j := 2) (by decide) (d := 1) (by decide) (fun u5 m5 b5 => ?_))
  refine w_ifT_ne (pc' := 59) (pcT := 61) ⟨rfl, rfl⟩ rfl (by decide) ?_
  refine w_ic (pc' := 62) ⟨rfl, rfl⟩ ?_
  refine w_iload (pc' := 64) ⟨rfl, rfl⟩ rfl ?_
  refine w_ic (pc' := 65) ⟨rfl, rfl⟩ ?_
  refine w_iand (pc' := 66) ⟨rfl, rfl⟩ ?_
  refine w_topI (iZ_and3 _) ?_
  refine w_iaddZ (pc' := 67) ⟨rfl, rfl⟩ ?_
  refine w_topI (show _ = iZ (zmy b) from rfl) ?_
  refine w_istore (pc' := 69) ⟨rfl, rfl⟩ rfl ?_
  refine w_ic (pc' := 70) ⟨rfl, rfl⟩ ?_
  refine w_iload_n (pc' := 71) ⟨rfl, rfl⟩ rfl ?_
  refine w_ic (pc' := 72) ⟨rfl, rfl⟩ ?_
  refine w_iand (pc' := 73) ⟨rfl, rfl⟩ ?_
  refine w_topI (iZ_and3 _) ?_
  refine w_iaddZ (pc' := 74) ⟨rfl, rfl⟩ ?_
  refine w_topI (show _ = iZ (zmy a) from rfl) ?_
  refine w_istore (pc' := 76) ⟨rfl, rfl⟩ rfl ?_
  refine w_ic (pc' := 77) ⟨rfl, rfl⟩ ?_
  refine w_istore (pc' := 79) ⟨rfl, rfl⟩ rfl ?_
  have hma : zmy a = 2 + a % 4 := rfl
  have hmb : zmy b = 2 + b % 4 := rfl
  refine w_at (ls2 := [(0, .ref 0), (1, .int (iZ u)), (2, .int (iZ v)), (3, .int (iZ a)), (4, .int (iZ b)), (5, .int (iZ x)), (6, .ref 164), (7, .int (iZ (zmy b))), (8, .int (iZ (zmy a))), (9, .int (iZ ((0 : Nat) : Int)))]) ?_ (l_cross (n := n + 15) ha hb hx (by omega) (zmy b).toNat 0 _ _ (by omega) ((((m1.trans m2).trans m3).trans m4).trans m5) (b5.le (by omega)) (fun σ2 h1 h2 => k σ2 h1 ((h2.le (by omega)).eq (by unfold zcT; simp only [List.append_assoc]))))
  exact ⟨rfl, rfl, rfl, rfl, rfl, rfl, rfl, rfl, rfl, rfl, trivial⟩
