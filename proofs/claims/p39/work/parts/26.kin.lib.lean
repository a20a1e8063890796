/-! of whole, what this claim takes: 26.kin.lean.txt -/
theorem c_isReal {σ : zSt} {a : Int} (ha : -2147483648 ≤ a ∧ a ≤ 2147483647) {Q : zSt → Option Value → Prop} (k1 : a = 6 ∨ a = 7 → Q σ (some (.int (iZ 1)))) (k0 : ¬ (a = 6 ∨ a = 7) → Q σ (some (.int (iZ 0)))) : zCa 28 [.int (iZ a)] σ Q := by
  refine w_enter (c := zk_X2_isReal) (ls2 := [(0, .int (iZ a))]) rfl ⟨rfl, trivial⟩ ?_
  refine w_iload_n (pc' := 1) ⟨rfl, rfl⟩ rfl ?_
  refine w_bi (pc' := 3) ⟨rfl, rfl⟩ (by decide) ?_
  refine w_ic_eq (pc' := 6) (pcT := 12) ⟨rfl, rfl⟩ rfl (by omega) (by omega) (fun h1 => ?_) (fun h1 => ?_)
  · refine w_ic (pc' := 13) ⟨rfl, rfl⟩ ?_
    refine w_goto (pc' := 16) (pcT := 17) ⟨rfl, rfl⟩ rfl ?_
    refine w_ireturn (pc' := 18) ⟨rfl, rfl⟩ (by decide) ?_
    first | exact k1 (by omega) | exact k0 (by omega)
  · refine w_iload_n (pc' := 7) ⟨rfl, rfl⟩ rfl ?_
    refine w_bi (pc' := 9) ⟨rfl, rfl⟩ (by decide) ?_
    refine w_ic_ne (pc' := 12) (pcT := 16) ⟨rfl, rfl⟩ rfl (by omega) (by omega) (fun h2 => ?_) (fun h2 => ?_)
    · refine w_ic (pc' := 17) ⟨rfl, rfl⟩ ?_
      refine w_ireturn (pc' := 18) ⟨rfl, rfl⟩ (by decide) ?_
      first | exact k1 (by omega) | exact k0 (by omega)
    · refine w_ic (pc' := 13) ⟨rfl, rfl⟩ ?_
      refine w_goto (pc' := 16) (pcT := 17) ⟨rfl, rfl⟩ rfl ?_
      refine w_ireturn (pc' := 18) ⟨rfl, rfl⟩ (by decide) ?_
      first | exact k1 (by omega) | exact k0 (by omega)
theorem c_goesInto {σ : zSt} {a b : Int} (ha : -2147483648 ≤ a ∧ a ≤ 2147483647) (hb : -2147483648 ≤ b ∧ b ≤ 2147483647) {Q : zSt → Option Value → Prop} (k1 : zgi a b → Q σ (some (.int (iZ 1)))) (k0 : ¬ zgi a b → Q σ (some (.int (iZ 0)))) : zCa 29 [.int (iZ a), .int (iZ b)] σ Q := by
  refine w_enter (c := zk_X2_goesInto) (ls2 := [(0, .int (iZ a)), (1, .int (iZ b))]) rfl ⟨rfl, rfl, trivial⟩ ?_
  refine w_iload_n (pc' := 1) ⟨rfl, rfl⟩ rfl ?_
  refine w_iload_n (pc' := 2) ⟨rfl, rfl⟩ rfl ?_
  refine w_ic_ne (pc' := 5) (pcT := 7) ⟨rfl, rfl⟩ rfl (by omega) (by omega) (fun h1 => ?_) (fun h1 => ?_)
  · refine w_iload_n (pc' := 8) ⟨rfl, rfl⟩ rfl ?_
    refine w_bi (pc' := 10) ⟨rfl, rfl⟩ (by decide) ?_
    refine w_ic_le (pc' := 13) (pcT := 15) ⟨rfl, rfl⟩ rfl (by omega) (by omega) (fun h2 => ?_) (fun h2 => ?_)
    · refine w_iload_n (pc' := 16) ⟨rfl, rfl⟩ rfl ?_
      rcases Classical.em (a < 1 ∨ 6 < a) with hs | hs
      · refine w_tsOutZ (pc' := 56) (pcT := 89) ⟨rfl, rfl⟩ rfl (by omega) ?_
        refine w_ic (pc' := 90) ⟨rfl, rfl⟩ ?_
        refine w_ireturn (pc' := 91) ⟨rfl, rfl⟩ (by decide) ?_
        first | exact k1 (by omega) | exact k0 (by omega)
      · rcases (show a = 1 ∨ a = 2 ∨ a = 3 ∨ a = 4 ∨ a = 5 ∨ a = 6 by omega) with hj | hj | hj | hj | hj | hj
        · refine w_tsInZ (pc' := 56) (pcT := 56) 0 ⟨rfl, rfl⟩ (by omega) (by decide) rfl rfl ?_
          refine w_iload_n (pc' := 57) ⟨rfl, rfl⟩ rfl ?_
          refine w_ic (pc' := 58) ⟨rfl, rfl⟩ ?_
          refine w_ic_lt (pc' := 61) (pcT := 65) ⟨rfl, rfl⟩ rfl (by omega) (by omega) (fun h3 => ?_) (fun h3 => ?_)
          · refine w_ic (pc' := 66) ⟨rfl, rfl⟩ ?_
            refine w_ireturn (pc' := 67) ⟨rfl, rfl⟩ (by decide) ?_
            first | exact k1 (by omega) | exact k0 (by omega)
          · refine w_ic (pc' := 62) ⟨rfl, rfl⟩ ?_
            refine w_goto (pc' := 65) (pcT := 66) ⟨rfl, rfl⟩ rfl ?_
            refine w_ireturn (pc' := 67) ⟨rfl, rfl⟩ (by decide) ?_
            first | exact k1 (by omega) | exact k0 (by omega)
        · refine w_tsInZ (pc' := 56) (pcT := 67) 1 ⟨rfl, rfl⟩ (by omega) (by decide) rfl rfl ?_
          refine w_iload_n (pc' := 68) ⟨rfl, rfl⟩ rfl ?_
          refine w_ic (pc' := 69) ⟨rfl, rfl⟩ ?_
          refine w_ic_lt (pc' := 72) (pcT := 76) ⟨rfl, rfl⟩ rfl (by omega) (by omega) (fun h3 => ?_) (fun h3 => ?_)
          · refine w_ic (pc' := 77) ⟨rfl, rfl⟩ ?_
            refine w_ireturn (pc' := 78) ⟨rfl, rfl⟩ (by decide) ?_
            first | exact k1 (by omega) | exact k0 (by omega)
          · refine w_ic (pc' := 73) ⟨rfl, rfl⟩ ?_
            refine w_goto (pc' := 76) (pcT := 77) ⟨rfl, rfl⟩ rfl ?_
            refine w_ireturn (pc' := 78) ⟨rfl, rfl⟩ (by decide) ?_
            first | exact k1 (by omega) | exact k0 (by omega)
        · refine w_tsInZ (pc' := 56) (pcT := 67) 2 ⟨rfl, rfl⟩ (by omega) (by decide) rfl rfl ?_
          refine w_iload_n (pc' := 68) ⟨rfl, rfl⟩ rfl ?_
          refine w_ic (pc' := 69) ⟨rfl, rfl⟩ ?_
          refine w_ic_lt (pc' := 72) (pcT := 76) ⟨rfl, rfl⟩ rfl (by omega) (by omega) (fun h3 => ?_) (fun h3 => ?_)
          · refine w_ic (pc' := 77) ⟨rfl, rfl⟩ ?_
            refine w_ireturn (pc' := 78) ⟨rfl, rfl⟩ (by decide) ?_
            first | exact k1 (by omega) | exact k0 (by omega)
          · refine w_ic (pc' := 73) ⟨rfl, rfl⟩ ?_
            refine w_goto (pc' := 76) (pcT := 77) ⟨rfl, rfl⟩ rfl ?_
            refine w_ireturn (pc' := 78) ⟨rfl, rfl⟩ (by decide) ?_
            first | exact k1 (by omega) | exact k0 (by omega)
        · refine w_tsInZ (pc' := 56) (pcT := 78) 3 ⟨rfl, rfl⟩ (by omega) (by decide) rfl rfl ?_
          refine w_iload_n (pc' := 79) ⟨rfl, rfl⟩ rfl ?_
          refine w_iload_n (pc' := 80) ⟨rfl, rfl⟩ rfl ?_
          refine w_ic_le (pc' := 83) (pcT := 87) ⟨rfl, rfl⟩ rfl (by omega) (by omega) (fun h3 => ?_) (fun h3 => ?_)
          · refine w_ic (pc' := 88) ⟨rfl, rfl⟩ ?_
            refine w_ireturn (pc' := 89) ⟨rfl, rfl⟩ (by decide) ?_
            first | exact k1 (by omega) | exact k0 (by omega)
          · refine w_ic (pc' := 84) ⟨rfl, rfl⟩ ?_
            refine w_goto (pc' := 87) (pcT := 88) ⟨rfl, rfl⟩ rfl ?_
            refine w_ireturn (pc' := 89) ⟨rfl, rfl⟩ (by decide) ?_
            first | exact k1 (by omega) | exact k0 (by omega)
        · refine w_tsInZ (pc' := 56) (pcT := 78) 4 ⟨rfl, rfl⟩ (by omega) (by decide) rfl rfl ?_
          refine w_iload_n (pc' := 79) ⟨rfl, rfl⟩ rfl ?_
          refine w_iload_n (pc' := 80) ⟨rfl, rfl⟩ rfl ?_
          refine w_ic_le (pc' := 83) (pcT := 87) ⟨rfl, rfl⟩ rfl (by omega) (by omega) (fun h3 => ?_) (fun h3 => ?_)
          · refine w_ic (pc' := 88) ⟨rfl, rfl⟩ ?_
            refine w_ireturn (pc' := 89) ⟨rfl, rfl⟩ (by decide) ?_
            first | exact k1 (by omega) | exact k0 (by omega)
          · refine w_ic (pc' := 84) ⟨rfl, rfl⟩ ?_
            refine w_goto (pc' := 87) (pcT := 88) ⟨rfl, rfl⟩ rfl ?_
            refine w_ireturn (pc' := 89) ⟨rfl, rfl⟩ (by decide) ?_
            first | exact k1 (by omega) | exact k0 (by omega)
        · refine w_tsInZ (pc' := 56) (pcT := 78) 5 ⟨rfl, rfl⟩ (by omega) (by decide) rfl rfl ?_
          refine w_iload_n (pc' := 79) ⟨rfl, rfl⟩ rfl ?_
          refine w_iload_n (pc' := 80) ⟨rfl, rfl⟩ rfl ?_
          refine w_ic_le (pc' := 83) (pcT := 87) ⟨rfl, rfl⟩ rfl (by omega) (by omega) (fun h3 => ?_) (fun h3 => ?_)
          · refine w_ic (pc' := 88) ⟨rfl, rfl⟩ ?_
            refine w_ireturn (pc' := 89) ⟨rfl, rfl⟩ (by decide) ?_
            first | exact k1 (by omega) | exact k0 (by omega)
          · refine w_ic (pc' := 84) ⟨rfl, rfl⟩ ?_
            refine w_goto (pc' := 87) (pcT := 88) ⟨rfl, rfl⟩ rfl ?_
            refine w_ireturn (pc' := 89) ⟨rfl, rfl⟩ (by decide) ?_
            first | exact k1 (by omega) | exact k0 (by omega)
    · refine w_ic (pc' := 14) ⟨rfl, rfl⟩ ?_
      refine w_ireturn (pc' := 15) ⟨rfl, rfl⟩ (by decide) ?_
      first | exact k1 (by omega) | exact k0 (by omega)
  · refine w_ic (pc' := 6) ⟨rfl, rfl⟩ ?_
    refine w_ireturn (pc' := 7) ⟨rfl, rfl⟩ (by decide) ?_
    first | exact k1 (by omega) | exact k0 (by omega)
theorem j_min {σ : zSt} {a b : Int} (ha : -2147483648 ≤ a ∧ a ≤ 2147483647) (hb : -2147483648 ≤ b ∧ b ≤ 2147483647) {Q : zSt → Option Value → Prop} (k : Q σ (some (.int (iZ (min a b))))) : zCa 117 [.int (iZ a), .int (iZ b)] σ Q := by
  refine w_enter (c := zk_J9_min_7cf53) (ls2 := [(0, .int (iZ a)), (1, .int (iZ b))]) rfl ⟨rfl, rfl, trivial⟩ ?_
  refine w_iload_n (pc' := 1) ⟨rfl, rfl⟩ rfl ?_
  refine w_iload_n (pc' := 2) ⟨rfl, rfl⟩ rfl ?_
  refine w_ic_gt (pc' := 5) (pcT := 9) ⟨rfl, rfl⟩ rfl (by omega) (by omega) (fun h1 => ?_) (fun h1 => ?_)
  · refine w_iload_n (pc' := 10) ⟨rfl, rfl⟩ rfl ?_
    refine w_ireturn (pc' := 11) ⟨rfl, rfl⟩ (Or.inl rfl) ?_
    exact zQi k (by omega)
  · refine w_iload_n (pc' := 6) ⟨rfl, rfl⟩ rfl ?_
    refine w_goto (pc' := 9) (pcT := 10) ⟨rfl, rfl⟩ rfl ?_
    refine w_ireturn (pc' := 11) ⟨rfl, rfl⟩ (Or.inl rfl) ?_
    exact zQi k (by omega)
def zwo (a : Int) : Nat → Int → Int
  | 0, w => w
  | j + 1, w => zwo a j (if 1 ≤ zdt a j ∧ zdt a j ≤ 26 then 32 * w + zdt a j else w)
theorem zushr5 {a : Int} {q : Nat} (hq : q < 8) : ((lZ a).toUInt64 >>> ((iZ (5 * (q : Int))).toInt64.toUInt64 &&& Int64.toUInt64 63)).toInt64 &&& lZ 31 = lZ (zdt a q) := by
  rw [show 5 * (q : Int) = ((5 * q : Nat) : Int) by omega, zushr (by omega), zdt_pow]
theorem zpw5 {q : Nat} (hq : q < 8) : (2 : Int) ^ (40 - 5 * q) = 32 * 2 ^ (40 - 5 * (q + 1)) := by
  rw [show 40 - 5 * q = 5 + (40 - 5 * (q + 1)) by omega, Int.pow_add]; rfl
theorem zpw5_le {q : Nat} : (2 : Int) ^ (40 - 5 * q) ≤ 2 ^ 40 := by
  have : 2 ^ (40 - 5 * q) ≤ 2 ^ 40 := Nat.pow_le_pow_right (by omega) (by omega)
  exact_mod_cast this
theorem l_toldWord {σ : zSt} {a : Int} (ha : -9223372036854775808 ≤ a ∧ a ≤ 9223372036854775807) {Q : zSt → Option Value → Prop} : ∀ (j : Nat) (z w : Int), j ≤ 8 → z = 5 * j - 5 → (0 ≤ w ∧ w < 2 ^ (40 - 5 * j)) → (Q σ (some (.long (lZ (zwo a j w))))) → zP zk_X2_toldWord 6 [(0, .long (lZ a)), (2, .long (lZ w)), (4, .int (iZ z))] [] σ Q := by
  intro j
  induction j with
  | zero =>
    intro z w hj hz hw k
    refine w_iload (pc' := 8) ⟨rfl, rfl⟩ rfl ?_
    refine w_ifT_lt (pc' := 11) (pcT := 50) ⟨rfl, rfl⟩ rfl (by omega) ?_
    refine w_lload_n (pc' := 51) ⟨rfl, rfl⟩ rfl ?_
    refine w_lreturn (pc' := 52) ⟨rfl, rfl⟩ ?_
    exact k
  | succ j ih =>
    intro z w hj hz hw k
    obtain rfl : z = 5 * (j : Int) := by omega
    refine w_iload (pc' := 8) ⟨rfl, rfl⟩ rfl ?_
    refine w_ifF_lt (pc' := 11) ⟨rfl, rfl⟩ (by omega) ?_
    refine w_lload_n (pc' := 12) ⟨rfl, rfl⟩ rfl ?_
    refine w_iload (pc' := 14) ⟨rfl, rfl⟩ rfl ?_
    refine w_lushr (pc' := 15) ⟨rfl, rfl⟩ ?_
    refine w_ldc2Y (pc' := 18) (z := 31) ⟨rfl, rfl⟩ rfl ?_
    refine w_land ⟨rfl, rfl⟩ ?_
    refine w_topL (zushr5 (by omega)) ?_
    have hd := zdt_rng a j
    refine w_lstore (pc' := 21) ⟨rfl, rfl⟩ rfl rfl ?_
    refine w_lload (pc' := 23) ⟨rfl, rfl⟩ rfl ?_
    refine w_lc (pc' := 24) (z := 1) ⟨rfl, rfl⟩ rfl ?_
    refine w_lcmp (pc' := 25) ⟨rfl, rfl⟩ ?_
    refine w_ify_lt (pc' := 28) (pcT := 44) ⟨rfl, rfl⟩ rfl (by omega) (by omega) (fun h1 => ?_) (fun h1 => ?_)
    · refine w_iincZ (pc' := 47) ⟨rfl, rfl⟩ rfl rfl ?_
      refine w_goto (pc' := 50) (pcT := 6) ⟨rfl, rfl⟩ rfl ?_
      refine w_at ?_ (ih (5 * (j : Int) - 5) w (by omega) (by omega) (by have := zpw5 (q := j) (by omega); omega) (by rw [zwo] at k; first | (rw [if_pos (by omega)] at k; exact k) | (rw [if_neg (by omega)] at k; exact k)))
      exact ⟨rfl, rfl, rfl, trivial⟩
    · refine w_lload (pc' := 30) ⟨rfl, rfl⟩ rfl ?_
      refine w_ldc2Y (pc' := 33) (z := 26) ⟨rfl, rfl⟩ rfl ?_
      refine w_lcmp (pc' := 34) ⟨rfl, rfl⟩ ?_
      refine w_ify_gt (pc' := 37) (pcT := 44) ⟨rfl, rfl⟩ rfl (by omega) (by omega) (fun h2 => ?_) (fun h2 => ?_)
      · refine w_iincZ (pc' := 47) ⟨rfl, rfl⟩ rfl rfl ?_
        refine w_goto (pc' := 50) (pcT := 6) ⟨rfl, rfl⟩ rfl ?_
        refine w_at ?_ (ih (5 * (j : Int) - 5) w (by omega) (by omega) (by have := zpw5 (q := j) (by omega); omega) (by rw [zwo] at k; first | (rw [if_pos (by omega)] at k; exact k) | (rw [if_neg (by omega)] at k; exact k)))
        exact ⟨rfl, rfl, rfl, trivial⟩
      · refine w_lload_n (pc' := 38) ⟨rfl, rfl⟩ rfl ?_
        refine w_ic (pc' := 39) ⟨rfl, rfl⟩ ?_
        refine w_lshl (pc' := 40) ⟨rfl, rfl⟩ ?_
        refine w_lload (pc' := 42) ⟨rfl, rfl⟩ rfl ?_
        refine w_lor ⟨rfl, rfl⟩ ?_
        refine w_topL (y := lZ (32 * w + zdt a j)) ?_ ?_
        · have h40 := zpw5_le (q := j + 1)
          rw [show (iZ 5) = iZ ((5 : Nat) : Int) from rfl, lZ_shl _ (by omega), lZ_or (by omega) (by omega) (by omega)]
          congr 1
          omega
        refine w_lstore_n (pc' := 44) ⟨rfl, rfl⟩ rfl rfl ?_
        refine w_iincZ (pc' := 47) ⟨rfl, rfl⟩ rfl rfl ?_
        refine w_goto (pc' := 50) (pcT := 6) ⟨rfl, rfl⟩ rfl ?_
        refine w_at ?_ (ih (5 * (j : Int) - 5) (32 * w + zdt a j) (by omega) (by omega) (by have := zpw5 (q := j) (by omega); omega) (by rw [zwo] at k; first | (rw [if_pos (by omega)] at k; exact k) | (rw [if_neg (by omega)] at k; exact k)))
        exact ⟨rfl, rfl, rfl, trivial⟩
theorem c_toldWord {σ : zSt} {a : Int} (ha : -9223372036854775808 ≤ a ∧ a ≤ 9223372036854775807) {Q : zSt → Option Value → Prop} (k : Q σ (some (.long (lZ (zwo a 8 0))))) : zCa 31 [.long (lZ a)] σ Q := by
  refine w_enter (c := zk_X2_toldWord) (ls2 := [(0, .long (lZ a))]) rfl ⟨rfl, trivial⟩ ?_
  refine w_lc (pc' := 1) (z := 0) ⟨rfl, rfl⟩ rfl ?_
  refine w_lstore_n (pc' := 2) ⟨rfl, rfl⟩ rfl rfl ?_
  refine w_bi (pc' := 4) ⟨rfl, rfl⟩ (by decide) ?_
  refine w_istore (pc' := 6) ⟨rfl, rfl⟩ rfl ?_
  refine w_at ?_ (l_toldWord ha 8 35 0 (by omega) (by omega) (by decide) k)
  exact ⟨rfl, rfl, rfl, trivial⟩
