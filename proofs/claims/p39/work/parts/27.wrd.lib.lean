/-! of whole, what this claim takes: 27.wrd.lean.txt -/
def zrd (a : Int) : Nat → Int → Int
  | 0, v => v
  | j + 1, v => zrd a j (if 1 ≤ zdt a j ∧ zdt a j ≤ 10 then 10 * v + zdt a j - 1 else v)
def ztp (a : Int) : Nat → Int
  | 0 => 0
  | j + 1 => if zdt a j = 0 then ztp a j else zdt a j
def zread (a : Int) : Int := if ztp a 8 = 26 then -(zrd a 8 0) else zrd a 8 0
theorem zrd_s (a : Int) (j : Nat) (v : Int) : (1 ≤ zdt a j ∧ zdt a j ≤ 10 → zrd a (j + 1) v = zrd a j (10 * v + zdt a j - 1)) ∧ (¬ (1 ≤ zdt a j ∧ zdt a j ≤ 10) → zrd a (j + 1) v = zrd a j v) := ⟨fun h => by rw [zrd, if_pos h], fun h => by rw [zrd, if_neg h]⟩
theorem ztp_s (a : Int) (j : Nat) : (zdt a j = 0 → ztp a (j + 1) = ztp a j) ∧ (zdt a j ≠ 0 → ztp a (j + 1) = zdt a j) := ⟨fun h => by rw [ztp, if_pos h], fun h => by rw [ztp, if_neg h]⟩
def zwf : Nat → Int → Prop
  | 0, a => a = 0
  | n + 1, a => (1 ≤ a % 32 ∧ a % 32 ≤ 26) ∧ zwf n (a / 32)
theorem zwf_pos : ∀ {n : Nat} {a : Int}, zwf n a → 0 ≤ a
  | 0, a, h => by rw [show a = 0 from h]; omega
  | n + 1, a, h => by have := zwf_pos h.2; omega
theorem lZ_neg (a : Int) : -lZ a = lZ (-a) := (Int64.ofInt_neg a).symm
theorem w_lnegY {c : zCode} {pc pc' t : Nat} {ls : zLv} {r : List Value} {σ : zSt} {Q : zSt → Option Value → Prop} {a : Int} (hk : zat c pc .lneg 1 t pc') (k : zP c pc' ls (.long (lZ (-a)) :: r) σ Q) : zP c pc ls (.long (lZ a) :: r) σ Q := w_lneg hk (lZ_neg a ▸ k)
theorem lZ_divn {a b : Int} (ha : -9223372036854775808 ≤ a ∧ a ≤ 9223372036854775807) (hb : 1 < b ∧ b ≤ 9223372036854775807) : lZ a / lZ b = lZ (a.tdiv b) ∧ lZ a - lZ a / lZ b * lZ b = lZ (a.tmod b) ∧ (-9223372036854775808 ≤ a.tdiv b ∧ a.tdiv b ≤ 9223372036854775807) := by
  have hq : -9223372036854775808 ≤ a.tdiv b ∧ a.tdiv b ≤ 9223372036854775807 := by
    rcases Int.le_total 0 a with h | h
    · have := Int.tdiv_le_self b h
      have := Int.tdiv_nonneg h (show 0 ≤ b by omega)
      omega
    · have h1 := Int.tdiv_le_self b (show 0 ≤ -a by omega)
      have h2 := Int.tdiv_nonneg (show 0 ≤ -a by omega) (show 0 ≤ b by omega)
      rw [Int.neg_tdiv] at h1 h2
      omega
  have e : lZ a / lZ b = lZ (a.tdiv b) := by
    apply Int64.toInt_inj.mp
    rw [Int64.toInt_div_of_ne_right _ _ (fun h => by have := congrArg Int64.toInt h; rw [lZ_to (by omega)] at this; have e : (-1 : Int64).toInt = -1 := rfl; rw [e] at this; omega), lZ_to ha, lZ_to (by omega), lZ_to hq]
  refine ⟨e, ?_, hq⟩
  rw [e, lZ_mul, lZ_sub]
  congr 1
  have := Int.tmod_add_mul_tdiv a b
  rw [Int.mul_comm] at this
  omega
theorem lZ_nz {b : Int} (hb : 1 < b ∧ b ≤ 9223372036854775807) : ¬ lZ b = 0 := fun q => by have := (lZ_inj (a := b) (b := 0) (by omega) (by omega)).mp q; omega
theorem l_wholeOfWord {σ : zSt} {a : Int} (ha : -9223372036854775808 ≤ a ∧ a ≤ 9223372036854775807) {Q : zSt → Option Value → Prop} : ∀ (j : Nat) (z v g l : Int), j ≤ 8 → z = 5 * j - 5 → (0 ≤ g ∧ g ≤ 1) → (0 ≤ l ∧ l ≤ 1) → (g = 0 → l = 0) → (∀ r : Int, (((g = 1 ∧ l = 1) ∨ (g = 0 ∧ ztp a j = 26)) → r = -(zrd a j v)) → (¬ ((g = 1 ∧ l = 1) ∨ (g = 0 ∧ ztp a j = 26)) → r = zrd a j v) → Q σ (some (.long (lZ r)))) → zP zk_X2_wholeOfWord 12 [(0, .long (lZ a)), (2, .long (lZ v)), (4, .int (iZ g)), (5, .int (iZ l)), (6, .int (iZ z))] [] σ Q := by
  intro j
  induction j with
  | zero =>
    intro z v g l hj hz hg hl hgl k
    have hz0 : ztp a 0 = 0 := rfl
    refine w_iload (pc' := 14) ⟨rfl, rfl⟩ rfl ?_
    refine w_ifT_lt (pc' := 17) (pcT := 91) ⟨rfl, rfl⟩ rfl (by omega) ?_
    refine w_iload (pc' := 93) ⟨rfl, rfl⟩ rfl ?_
    refine w_if_eq (pc' := 96) (pcT := 101) ⟨rfl, rfl⟩ rfl (by omega) (fun h1 => ?_) (fun h1 => ?_)
    · refine w_lload_n (pc' := 102) ⟨rfl, rfl⟩ rfl ?_
      refine w_lreturn (pc' := 103) ⟨rfl, rfl⟩ ?_
      exact k _ (fun hp => by omega) (fun hp => rfl)
    · refine w_lload_n (pc' := 97) ⟨rfl, rfl⟩ rfl ?_
      refine w_lnegY (pc' := 98) ⟨rfl, rfl⟩ ?_
      refine w_goto (pc' := 101) (pcT := 102) ⟨rfl, rfl⟩ rfl ?_
      refine w_lreturn (pc' := 103) ⟨rfl, rfl⟩ ?_
      exact k _ (fun hp => rfl) (fun hp => by omega)
  | succ j ih =>
    intro z v g l hj hz hg hl hgl k
    obtain rfl : z = 5 * (j : Int) := by omega
    refine w_iload (pc' := 14) ⟨rfl, rfl⟩ rfl ?_
    refine w_ifF_lt (pc' := 17) ⟨rfl, rfl⟩ (by omega) ?_
    refine w_lload_n (pc' := 18) ⟨rfl, rfl⟩ rfl ?_
    refine w_iload (pc' := 20) ⟨rfl, rfl⟩ rfl ?_
    refine w_lushr (pc' := 21) ⟨rfl, rfl⟩ ?_
    refine w_ldc2Y (pc' := 24) (z := 31) ⟨rfl, rfl⟩ rfl ?_
    refine w_land ⟨rfl, rfl⟩ ?_
    refine w_topL (zushr5 (by omega)) ?_
    have hd := zdt_rng a j
    have hr := zrd_s a j v
    have ht := ztp_s a j
    refine w_lstore (pc' := 27) ⟨rfl, rfl⟩ rfl rfl ?_
    refine w_lload (pc' := 29) ⟨rfl, rfl⟩ rfl ?_
    refine w_lc (pc' := 30) (z := 0) ⟨rfl, rfl⟩ rfl ?_
    refine w_lcmp (pc' := 31) ⟨rfl, rfl⟩ ?_
    refine w_ify_eq (pc' := 34) (pcT := 58) ⟨rfl, rfl⟩ rfl (by omega) (by omega) (fun h1 => ?_) (fun h1 => ?_)
    · refine w_lload (pc' := 60) ⟨rfl, rfl⟩ rfl ?_
      refine w_lc (pc' := 61) (z := 1) ⟨rfl, rfl⟩ rfl ?_
      refine w_lcmp (pc' := 62) ⟨rfl, rfl⟩ ?_
      refine w_ify_lt (pc' := 65) (pcT := 85) ⟨rfl, rfl⟩ rfl (by omega) (by omega) (fun h2 => ?_) (fun h2 => ?_)
      · refine w_iincZ (pc' := 88) ⟨rfl, rfl⟩ rfl rfl ?_
        refine w_goto (pc' := 91) (pcT := 12) ⟨rfl, rfl⟩ rfl ?_
        refine w_at ?_ (ih (5 * (j : Int) - 5) v g l (by omega) (by omega) (by omega) (by omega) (by omega) (fun r h1 h2 => k r (fun hp => by omega) (fun hp => by omega)))
        exact ⟨rfl, rfl, rfl, rfl, rfl, trivial⟩
      · refine w_lload (pc' := 67) ⟨rfl, rfl⟩ rfl ?_
        refine w_ldc2Y (pc' := 70) (z := 10) ⟨rfl, rfl⟩ rfl ?_
        refine w_lcmp (pc' := 71) ⟨rfl, rfl⟩ ?_
        refine w_ify_gt (pc' := 74) (pcT := 85) ⟨rfl, rfl⟩ rfl (by omega) (by omega) (fun h3 => ?_) (fun h3 => ?_)
        · refine w_iincZ (pc' := 88) ⟨rfl, rfl⟩ rfl rfl ?_
          refine w_goto (pc' := 91) (pcT := 12) ⟨rfl, rfl⟩ rfl ?_
          refine w_at ?_ (ih (5 * (j : Int) - 5) v g l (by omega) (by omega) (by omega) (by omega) (by omega) (fun r h1 h2 => k r (fun hp => by omega) (fun hp => by omega)))
          exact ⟨rfl, rfl, rfl, rfl, rfl, trivial⟩
        · refine w_ldc2Y (pc' := 77) (z := 10) ⟨rfl, rfl⟩ rfl ?_
          refine w_lload_n (pc' := 78) ⟨rfl, rfl⟩ rfl ?_
          refine w_lmulY (pc' := 79) ⟨rfl, rfl⟩ ?_
          refine w_lload (pc' := 81) ⟨rfl, rfl⟩ rfl ?_
          refine w_laddY (pc' := 82) ⟨rfl, rfl⟩ ?_
          refine w_lc (pc' := 83) (z := 1) ⟨rfl, rfl⟩ rfl ?_
          refine w_lsubY (pc' := 84) ⟨rfl, rfl⟩ ?_
          refine w_lstore_n (pc' := 85) ⟨rfl, rfl⟩ rfl rfl ?_
          refine w_iincZ (pc' := 88) ⟨rfl, rfl⟩ rfl rfl ?_
          refine w_goto (pc' := 91) (pcT := 12) ⟨rfl, rfl⟩ rfl ?_
          refine w_at ?_ (ih (5 * (j : Int) - 5) (10 * v + zdt a j - 1) g l (by omega) (by omega) (by omega) (by omega) (by omega) (fun r h1 h2 => k r (fun hp => by omega) (fun hp => by omega)))
          exact ⟨rfl, rfl, rfl, rfl, rfl, trivial⟩
    · refine w_iload (pc' := 36) ⟨rfl, rfl⟩ rfl ?_
      refine w_if_ne (pc' := 39) (pcT := 58) ⟨rfl, rfl⟩ rfl (by omega) (fun h2 => ?_) (fun h2 => ?_)
      · refine w_lload (pc' := 60) ⟨rfl, rfl⟩ rfl ?_
        refine w_lc (pc' := 61) (z := 1) ⟨rfl, rfl⟩ rfl ?_
        refine w_lcmp (pc' := 62) ⟨rfl, rfl⟩ ?_
        refine w_ify_lt (pc' := 65) (pcT := 85) ⟨rfl, rfl⟩ rfl (by omega) (by omega) (fun h3 => ?_) (fun h3 => ?_)
        · refine w_iincZ (pc' := 88) ⟨rfl, rfl⟩ rfl rfl ?_
          refine w_goto (pc' := 91) (pcT := 12) ⟨rfl, rfl⟩ rfl ?_
          refine w_at ?_ (ih (5 * (j : Int) - 5) v g l (by omega) (by omega) (by omega) (by omega) (by omega) (fun r h1 h2 => k r (fun hp => by omega) (fun hp => by omega)))
          exact ⟨rfl, rfl, rfl, rfl, rfl, trivial⟩
        · refine w_lload (pc' := 67) ⟨rfl, rfl⟩ rfl ?_
          refine w_ldc2Y (pc' := 70) (z := 10) ⟨rfl, rfl⟩ rfl ?_
          refine w_lcmp (pc' := 71) ⟨rfl, rfl⟩ ?_
          refine w_ify_gt (pc' := 74) (pcT := 85) ⟨rfl, rfl⟩ rfl (by omega) (by omega) (fun h4 => ?_) (fun h4 => ?_)
          · refine w_iincZ (pc' := 88) ⟨rfl, rfl⟩ rfl rfl ?_
            refine w_goto (pc' := 91) (pcT := 12) ⟨rfl, rfl⟩ rfl ?_
            refine w_at ?_ (ih (5 * (j : Int) - 5) v g l (by omega) (by omega) (by omega) (by omega) (by omega) (fun r h1 h2 => k r (fun hp => by omega) (fun hp => by omega)))
            exact ⟨rfl, rfl, rfl, rfl, rfl, trivial⟩
          · refine w_ldc2Y (pc' := 77) (z := 10) ⟨rfl, rfl⟩ rfl ?_
            refine w_lload_n (pc' := 78) ⟨rfl, rfl⟩ rfl ?_
            refine w_lmulY (pc' := 79) ⟨rfl, rfl⟩ ?_
            refine w_lload (pc' := 81) ⟨rfl, rfl⟩ rfl ?_
            refine w_laddY (pc' := 82) ⟨rfl, rfl⟩ ?_
            refine w_lc (pc' := 83) (z := 1) ⟨rfl, rfl⟩ rfl ?_
            refine w_lsubY (pc' := 84) ⟨rfl, rfl⟩ ?_
            refine w_lstore_n (pc' := 85) ⟨rfl, rfl⟩ rfl rfl ?_
            refine w_iincZ (pc' := 88) ⟨rfl, rfl⟩ rfl rfl ?_
            refine w_goto (pc' := 91) (pcT := 12) ⟨rfl, rfl⟩ rfl ?_
            refine w_at ?_ (ih (5 * (j : Int) - 5) (10 * v + zdt a j - 1) g l (by omega) (by omega) (by omega) (by omega) (by omega) (fun r h1 h2 => k r (fun hp => by omega) (fun hp => by omega)))
            exact ⟨rfl, rfl, rfl, rfl, rfl, trivial⟩
      · refine w_ic (pc' := 40) ⟨rfl, rfl⟩ ?_
        refine w_istore (pc' := 42) ⟨rfl, rfl⟩ rfl ?_
        refine w_lload (pc' := 44) ⟨rfl, rfl⟩ rfl ?_
        refine w_ldc2Y (pc' := 47) (z := 26) ⟨rfl, rfl⟩ rfl ?_
        refine w_lcmp (pc' := 48) ⟨rfl, rfl⟩ ?_
        refine w_ify_ne (pc' := 51) (pcT := 55) ⟨rfl, rfl⟩ rfl (by omega) (by omega) (fun h3 => ?_) (fun h3 => ?_)
        · refine w_ic (pc' := 56) ⟨rfl, rfl⟩ ?_
          refine w_istore (pc' := 58) ⟨rfl, rfl⟩ rfl ?_
          refine w_lload (pc' := 60) ⟨rfl, rfl⟩ rfl ?_
          refine w_lc (pc' := 61) (z := 1) ⟨rfl, rfl⟩ rfl ?_
          refine w_lcmp (pc' := 62) ⟨rfl, rfl⟩ ?_
          refine w_ify_lt (pc' := 65) (pcT := 85) ⟨rfl, rfl⟩ rfl (by omega) (by omega) (fun h4 => ?_) (fun h4 => ?_)
          · refine w_iincZ (pc' := 88) ⟨rfl, rfl⟩ rfl rfl ?_
            refine w_goto (pc' := 91) (pcT := 12) ⟨rfl, rfl⟩ rfl ?_
            refine w_at ?_ (ih (5 * (j : Int) - 5) v 1 0 (by omega) (by omega) (by omega) (by omega) (by omega) (fun r h1 h2 => k r (fun hp => by omega) (fun hp => by omega)))
            exact ⟨rfl, rfl, rfl, rfl, rfl, trivial⟩
          · refine w_lload (pc' := 67) ⟨rfl, rfl⟩ rfl ?_
            refine w_ldc2Y (pc' := 70) (z := 10) ⟨rfl, rfl⟩ rfl ?_
            refine w_lcmp (pc' := 71) ⟨rfl, rfl⟩ ?_
            refine w_ify_gt (pc' := 74) (pcT := 85) ⟨rfl, rfl⟩ rfl (by omega) (by omega) (fun h5 => ?_) (fun h5 => ?_)
            · refine w_iincZ (pc' := 88) ⟨rfl, rfl⟩ rfl rfl ?_
              refine w_goto (pc' := 91) (pcT := 12) ⟨rfl, rfl⟩ rfl ?_
              refine w_at ?_ (ih (5 * (j : Int) - 5) v 1 0 (by omega) (by omega) (by omega) (by omega) (by omega) (fun r h1 h2 => k r (fun hp => by omega) (fun hp => by omega)))
              exact ⟨rfl, rfl, rfl, rfl, rfl, trivial⟩
            · refine w_ldc2Y (pc' := 77) (z := 10) ⟨rfl, rfl⟩ rfl ?_
              refine w_lload_n (pc' := 78) ⟨rfl, rfl⟩ rfl ?_
              refine w_lmulY (pc' := 79) ⟨rfl, rfl⟩ ?_
              refine w_lload (pc' := 81) ⟨rfl, rfl⟩ rfl ?_
              refine w_laddY (pc' := 82) ⟨rfl, rfl⟩ ?_
              refine w_lc (pc' := 83) (z := 1) ⟨rfl, rfl⟩ rfl ?_
              refine w_lsubY (pc' := 84) ⟨rfl, rfl⟩ ?_
              refine w_lstore_n (pc' := 85) ⟨rfl, rfl⟩ rfl rfl ?_
              refine w_iincZ (pc' := 88) ⟨rfl, rfl⟩ rfl rfl ?_
              refine w_goto (pc' := 91) (pcT := 12) ⟨rfl, rfl⟩ rfl ?_
              refine w_at ?_ (ih (5 * (j : Int) - 5) (10 * v + zdt a j - 1) 1 0 (by omega) (by omega) (by omega) (by omega) (by omega) (fun r h1 h2 => k r (fun hp => by omega) (fun hp => by omega)))
              exact ⟨rfl, rfl, rfl, rfl, rfl, trivial⟩
        · refine w_ic (pc' := 52) ⟨rfl, rfl⟩ ?_
          refine w_goto (pc' := 55) (pcT := 56) ⟨rfl, rfl⟩ rfl ?_
          refine w_istore (pc' := 58) ⟨rfl, rfl⟩ rfl ?_
          refine w_lload (pc' := 60) ⟨rfl, rfl⟩ rfl ?_
          refine w_lc (pc' := 61) (z := 1) ⟨rfl, rfl⟩ rfl ?_
          refine w_lcmp (pc' := 62) ⟨rfl, rfl⟩ ?_
          refine w_ify_lt (pc' := 65) (pcT := 85) ⟨rfl, rfl⟩ rfl (by omega) (by omega) (fun h4 => ?_) (fun h4 => ?_)
          · refine w_iincZ (pc' := 88) ⟨rfl, rfl⟩ rfl rfl ?_
            refine w_goto (pc' := 91) (pcT := 12) ⟨rfl, rfl⟩ rfl ?_
            refine w_at ?_ (ih (5 * (j : Int) - 5) v 1 1 (by omega) (by omega) (by omega) (by omega) (by omega) (fun r h1 h2 => k r (fun hp => by omega) (fun hp => by omega)))
            exact ⟨rfl, rfl, rfl, rfl, rfl, trivial⟩
          · refine w_lload (pc' := 67) ⟨rfl, rfl⟩ rfl ?_
            refine w_ldc2Y (pc' := 70) (z := 10) ⟨rfl, rfl⟩ rfl ?_
            refine w_lcmp (pc' := 71) ⟨rfl, rfl⟩ ?_
            refine w_ify_gt (pc' := 74) (pcT := 85) ⟨rfl, rfl⟩ rfl (by omega) (by omega) (fun h5 => ?_) (fun h5 => ?_)
            · refine w_iincZ (pc' := 88) ⟨rfl, rfl⟩ rfl rfl ?_
              refine w_goto (pc' := 91) (pcT := 12) ⟨rfl, rfl⟩ rfl ?_
              refine w_at ?_ (ih (5 * (j : Int) - 5) v 1 1 (by omega) (by omega) (by omega) (by omega) (by omega) (fun r h1 h2 => k r (fun hp => by omega) (fun hp => by omega)))
              exact ⟨rfl, rfl, rfl, rfl, rfl, trivial⟩
            · refine w_ldc2Y (pc' := 77) (z := 10) ⟨rfl, rfl⟩ rfl ?_
              refine w_lload_n (pc' := 78) ⟨rfl, rfl⟩ rfl ?_
              refine w_lmulY (pc' := 79) ⟨rfl, rfl⟩ ?_
              refine w_lload (pc' := 81) ⟨rfl, rfl⟩ rfl ?_
              refine w_laddY (pc' := 82) ⟨rfl, rfl⟩ ?_
              refine w_lc (pc' := 83) (z := 1) ⟨rfl, rfl⟩ rfl ?_
              refine w_lsubY (pc' := 84) ⟨rfl, rfl⟩ ?_
              refine w_lstore_n (pc' := 85) ⟨rfl, rfl⟩ rfl rfl ?_
              refine w_iincZ (pc' := 88) ⟨rfl, rfl⟩ rfl rfl ?_
              refine w_goto (pc' := 91) (pcT := 12) ⟨rfl, rfl⟩ rfl ?_
              refine w_at ?_ (ih (5 * (j : Int) - 5) (10 * v + zdt a j - 1) 1 1 (by omega) (by omega) (by omega) (by omega) (by omega) (fun r h1 h2 => k r (fun hp => by omega) (fun hp => by omega)))
              exact ⟨rfl, rfl, rfl, rfl, rfl, trivial⟩
theorem c_wholeOfWord {σ : zSt} {a : Int} (ha : -9223372036854775808 ≤ a ∧ a ≤ 9223372036854775807) {Q : zSt → Option Value → Prop} (k : Q σ (some (.long (lZ (zread a))))) : zCa 33 [.long (lZ a)] σ Q := by
  refine w_enter (c := zk_X2_wholeOfWord) (ls2 := [(0, .long (lZ a))]) rfl ⟨rfl, trivial⟩ ?_
  refine w_lc (pc' := 1) (z := 0) ⟨rfl, rfl⟩ rfl ?_
  refine w_lstore_n (pc' := 2) ⟨rfl, rfl⟩ rfl rfl ?_
  refine w_ic (pc' := 3) ⟨rfl, rfl⟩ ?_
  refine w_istore (pc' := 5) ⟨rfl, rfl⟩ rfl ?_
  refine w_ic (pc' := 6) ⟨rfl, rfl⟩ ?_
  refine w_istore (pc' := 8) ⟨rfl, rfl⟩ rfl ?_
  refine w_bi (pc' := 10) ⟨rfl, rfl⟩ (by decide) ?_
  refine w_istore (pc' := 12) ⟨rfl, rfl⟩ rfl ?_
  refine w_at ?_ (l_wholeOfWord ha 8 35 0 0 0 (by omega) (by omega) (by omega) (by omega) (by omega) (fun r h1 h2 => by rw [show r = zread a by unfold zread; split <;> omega]; exact k))
  exact ⟨rfl, rfl, rfl, rfl, rfl, trivial⟩
def zsp : Nat → Nat → Int → Int → Int × Nat
  | 0, i, _, w => (w, i)
  | f + 1, i, u, w => if u / 10 = 0 then ((u % 10 + 1) * 2 ^ (5 * i) + w, i + 1) else zsp f (i + 1) (u / 10) ((u % 10 + 1) * 2 ^ (5 * i) + w)
def zab (a : Int) : Int := if a < 0 then -a else a
def zspell (a : Int) : Int := if a < 0 ∧ (zsp 8 0 (zab a) 0).2 < 8 then 26 * 2 ^ (5 * (zsp 8 0 (zab a) 0).2) + (zsp 8 0 (zab a) 0).1 else (zsp 8 0 (zab a) 0).1
theorem zt10 {r : Int} (hr : -9223372036854775808 ≤ r ∧ r ≤ 9223372036854775807) : ∃ q m : Int, lZ r / lZ 10 = lZ q ∧ lZ r - lZ r / lZ 10 * lZ 10 = lZ m ∧ (m < 0 → -m = zab r % 10 ∧ -9 ≤ m) ∧ (0 ≤ m → m = zab r % 10 ∧ m ≤ 9) ∧ zab q = zab r / 10 ∧ (-9223372036854775808 ≤ q ∧ q ≤ 9223372036854775807) ∧ (q = 0 ↔ zab r / 10 = 0) := by
  have hd := lZ_divn (b := 10) hr (by omega)
  refine ⟨_, _, hd.1, hd.2.1, ?_⟩
  rcases Int.lt_or_le r 0 with h | h
  · have e1 : r.tdiv 10 = -((-r) / 10) := by
      rw [← Int.tdiv_eq_ediv_of_nonneg (show 0 ≤ -r by omega), Int.neg_tdiv, Int.neg_neg]
    have e2 : r.tmod 10 = -((-r) % 10) := by
      rw [← Int.tmod_eq_emod_of_nonneg (show 0 ≤ -r by omega), Int.neg_tmod, Int.neg_neg]
    rw [e1] at hd
    rw [e1, e2]
    have : zab r = -r := by unfold zab; rw [if_pos h]
    rw [this]
    have : zab (-((-r) / 10)) = (-r) / 10 := by unfold zab; split <;> omega
    rw [this]
    omega
  · have e1 : r.tdiv 10 = r / 10 := Int.tdiv_eq_ediv_of_nonneg h
    have e2 : r.tmod 10 = r % 10 := Int.tmod_eq_emod_of_nonneg h
    rw [e1] at hd
    rw [e1, e2]
    have : zab r = r := by unfold zab; rw [if_neg (by omega)]
    rw [this]
    have : zab (r / 10) = r / 10 := by unfold zab; rw [if_neg (by omega)]
    rw [this]
    omega
theorem zorw {w m : Int} {i : Nat} (hi : i < 8) (hw : 0 ≤ w ∧ w < 2 ^ (5 * i)) (hm : 0 ≤ m ∧ m < 32) : lZ w ||| (lZ m <<< ((iZ (5 * (i : Int))).toInt64 &&& 63)) = lZ (m * 2 ^ (5 * i) + w) ∧ 0 ≤ m * 2 ^ (5 * i) + w ∧ m * 2 ^ (5 * i) + w < 2 ^ (5 * (i + 1)) := by
  have h1 : (2 : Int) ^ (5 * (i + 1)) = 32 * 2 ^ (5 * i) := by rw [show 5 * (i + 1) = 5 + 5 * i by omega, Int.pow_add]; rfl
  have h2 : (2 : Int) ^ (5 * (i + 1)) ≤ 2 ^ 40 := by
    have : 2 ^ (5 * (i + 1)) ≤ 2 ^ 40 := Nat.pow_le_pow_right (by omega) (by omega)
    exact_mod_cast this
  have h3 : 0 ≤ m * 2 ^ (5 * i) := Int.mul_nonneg hm.1 (by omega)
  have h4 : m * 2 ^ (5 * i) ≤ 31 * 2 ^ (5 * i) := Int.mul_le_mul_of_nonneg_right (by omega) (by omega)
  refine ⟨?_, by omega, by omega⟩
  rw [show 5 * (i : Int) = ((5 * i : Nat) : Int) by omega, lZ_shl _ (by omega), lZ_or' hm.1 hw (by omega)]
theorem l_digitsWord {σ : zSt} {a : Int} (ha : -9223372036854775808 ≤ a ∧ a ≤ 9223372036854775807) {Q : zSt → Option Value → Prop} : ∀ (f : Nat) (i : Nat) (r w : Int), i + f = 8 → 1 ≤ f → (-9223372036854775808 ≤ r ∧ r ≤ 9223372036854775807) → (0 ≤ w ∧ w < 2 ^ (5 * i)) → (zP zk_X2_digitsWord 66 [(0, .long (lZ a)), (2, .long (lZ (zsp f i (zab r) w).1)), (6, .int (iZ (zsp f i (zab r) w).2))] [] σ Q) → zP zk_X2_digitsWord 8 [(0, .long (lZ a)), (2, .long (lZ w)), (4, .long (lZ r)), (6, .int (iZ i))] [] σ Q := by
  intro f
  induction f with
  | zero =>
    intro i r w hi hf hr hw k
    exfalso; omega
  | succ f ih =>
    intro i r w hi hf hr hw k
    obtain ⟨q, m, e1, e2, hm1, hm2, hq, hqr, hq0⟩ := zt10 hr
    refine w_lload (pc' := 10) ⟨rfl, rfl⟩ rfl ?_
    refine w_ldc2Y (pc' := 13) (z := 10) ⟨rfl, rfl⟩ rfl ?_
    refine w_lrem ⟨rfl, rfl⟩ (lZ_nz (by omega)) ?_
    refine w_topL e2 ?_
    refine w_lstore (pc' := 16) ⟨rfl, rfl⟩ rfl rfl ?_
    refine w_lload_n (pc' := 17) ⟨rfl, rfl⟩ rfl ?_
    refine w_lload (pc' := 19) ⟨rfl, rfl⟩ rfl ?_
    refine w_lc (pc' := 20) (z := 0) ⟨rfl, rfl⟩ rfl ?_
    refine w_lcmp (pc' := 21) ⟨rfl, rfl⟩ ?_
    refine w_ify_ge (pc' := 24) (pcT := 30) ⟨rfl, rfl⟩ rfl (by omega) (by omega) (fun h1 => ?_) (fun h1 => ?_)
    · refine w_lload (pc' := 32) ⟨rfl, rfl⟩ rfl ?_
      refine w_lc (pc' := 33) (z := 1) ⟨rfl, rfl⟩ rfl ?_
      refine w_laddY (pc' := 34) ⟨rfl, rfl⟩ ?_
      refine w_ic (pc' := 35) ⟨rfl, rfl⟩ ?_
      refine w_iload (pc' := 37) ⟨rfl, rfl⟩ rfl ?_
      refine w_imulZ (pc' := 38) ⟨rfl, rfl⟩ ?_
      refine w_lshl (pc' := 39) ⟨rfl, rfl⟩ ?_
      have ho := zorw (i := i) (m := zab r % 10 + 1) (by omega) hw (by omega)
      refine w_lor ⟨rfl, rfl⟩ ?_
      refine w_topL (y := lZ ((zab r % 10 + 1) * 2 ^ (5 * i) + w)) (by rw [← ho.1]; congr 3; omega) ?_
      refine w_lstore_n (pc' := 41) ⟨rfl, rfl⟩ rfl rfl ?_
      refine w_lload (pc' := 43) ⟨rfl, rfl⟩ rfl ?_
      refine w_ldc2Y (pc' := 46) (z := 10) ⟨rfl, rfl⟩ rfl ?_
      refine w_ldiv ⟨rfl, rfl⟩ (lZ_nz (by omega)) ?_
      refine w_topL e1 ?_
      refine w_lstore (pc' := 49) ⟨rfl, rfl⟩ rfl rfl ?_
      refine w_iincZ (pc' := 52) ⟨rfl, rfl⟩ rfl rfl ?_
      refine w_iload (pc' := 54) ⟨rfl, rfl⟩ rfl ?_
      refine w_bi (pc' := 56) ⟨rfl, rfl⟩ (by decide) ?_
      refine w_ic_ge (pc' := 59) (pcT := 66) ⟨rfl, rfl⟩ rfl (by omega) (by omega) (fun h2 => ?_) (fun h2 => ?_)
      · rw [zsp] at k
        by_cases hz : zab r / 10 = 0
        · rw [if_pos hz] at k; refine w_at ?_ k; exact ⟨rfl, rfl, rfl, trivial⟩
        · rw [if_neg hz] at k
          obtain rfl : f = 0 := by omega
          rw [zsp] at k; refine w_at ?_ k; exact ⟨rfl, rfl, rfl, trivial⟩
      · refine w_lload (pc' := 61) ⟨rfl, rfl⟩ rfl ?_
        refine w_lc (pc' := 62) (z := 0) ⟨rfl, rfl⟩ rfl ?_
        refine w_lcmp (pc' := 63) ⟨rfl, rfl⟩ ?_
        refine w_ify_ne (pc' := 66) (pcT := 8) ⟨rfl, rfl⟩ rfl (by omega) (by omega) (fun h3 => ?_) (fun h3 => ?_)
        · rw [zsp, if_neg (by omega)] at k
          refine w_at ?_ (ih (i + 1) q ((zab r % 10 + 1) * 2 ^ (5 * i) + w) (by omega) (by omega) hqr ho.2 (by rw [hq]; exact k))
          exact ⟨rfl, rfl, rfl, rfl, trivial⟩
        · rw [zsp] at k
          by_cases hz : zab r / 10 = 0
          · rw [if_pos hz] at k; refine w_at ?_ k; exact ⟨rfl, rfl, rfl, trivial⟩
          · rw [if_neg hz] at k
            obtain rfl : f = 0 := by omega
            rw [zsp] at k; refine w_at ?_ k; exact ⟨rfl, rfl, rfl, trivial⟩
    · refine w_lload (pc' := 26) ⟨rfl, rfl⟩ rfl ?_
      refine w_lnegY (pc' := 27) ⟨rfl, rfl⟩ ?_
      refine w_goto (pc' := 30) (pcT := 32) ⟨rfl, rfl⟩ rfl ?_
      refine w_lc (pc' := 33) (z := 1) ⟨rfl, rfl⟩ rfl ?_
      refine w_laddY (pc' := 34) ⟨rfl, rfl⟩ ?_
      refine w_ic (pc' := 35) ⟨rfl, rfl⟩ ?_
      refine w_iload (pc' := 37) ⟨rfl, rfl⟩ rfl ?_
      refine w_imulZ (pc' := 38) ⟨rfl, rfl⟩ ?_
      refine w_lshl (pc' := 39) ⟨rfl, rfl⟩ ?_
      have ho := zorw (i := i) (m := zab r % 10 + 1) (by omega) hw (by omega)
      refine w_lor ⟨rfl, rfl⟩ ?_
      refine w_topL (y := lZ ((zab r % 10 + 1) * 2 ^ (5 * i) + w)) (by rw [← ho.1]; congr 3; omega) ?_
      refine w_lstore_n (pc' := 41) ⟨rfl, rfl⟩ rfl rfl ?_
      refine w_lload (pc' := 43) ⟨rfl, rfl⟩ rfl ?_
      refine w_ldc2Y (pc' := 46) (z := 10) ⟨rfl, rfl⟩ rfl ?_
      refine w_ldiv ⟨rfl, rfl⟩ (lZ_nz (by omega)) ?_
      refine w_topL e1 ?_
      refine w_lstore (pc' := 49) ⟨rfl, rfl⟩ rfl rfl ?_
      refine w_iincZ (pc' := 52) ⟨rfl, rfl⟩ rfl rfl ?_
      refine w_iload (pc' := 54) ⟨rfl, rfl⟩ rfl ?_
      refine w_bi (pc' := 56) ⟨rfl, rfl⟩ (by decide) ?_
      refine w_ic_ge (pc' := 59) (pcT := 66) ⟨rfl, rfl⟩ rfl (by omega) (by omega) (fun h2 => ?_) (fun h2 => ?_)
      · rw [zsp] at k
        by_cases hz : zab r / 10 = 0
        · rw [if_pos hz] at k; refine w_at ?_ k; exact ⟨rfl, rfl, rfl, trivial⟩
        · rw [if_neg hz] at k
          obtain rfl : f = 0 := by omega
          rw [zsp] at k; refine w_at ?_ k; exact ⟨rfl, rfl, rfl, trivial⟩
      · refine w_lload (pc' := 61) ⟨rfl, rfl⟩ rfl ?_
        refine w_lc (pc' := 62) (z := 0) ⟨rfl, rfl⟩ rfl ?_
        refine w_lcmp (pc' := 63) ⟨rfl, rfl⟩ ?_
        refine w_ify_ne (pc' := 66) (pcT := 8) ⟨rfl, rfl⟩ rfl (by omega) (by omega) (fun h3 => ?_) (fun h3 => ?_)
        · rw [zsp, if_neg (by omega)] at k
          refine w_at ?_ (ih (i + 1) q ((zab r % 10 + 1) * 2 ^ (5 * i) + w) (by omega) (by omega) hqr ho.2 (by rw [hq]; exact k))
          exact ⟨rfl, rfl, rfl, rfl, trivial⟩
        · rw [zsp] at k
          by_cases hz : zab r / 10 = 0
          · rw [if_pos hz] at k; refine w_at ?_ k; exact ⟨rfl, rfl, rfl, trivial⟩
          · rw [if_neg hz] at k
            obtain rfl : f = 0 := by omega
            rw [zsp] at k; refine w_at ?_ k; exact ⟨rfl, rfl, rfl, trivial⟩
theorem zsp_rng : ∀ (f i : Nat) (u w : Int), i + f = 8 → 0 ≤ u → (0 ≤ w ∧ w < 2 ^ (5 * i)) → (i ≤ (zsp f i u w).2 ∧ (zsp f i u w).2 ≤ 8) ∧ 0 ≤ (zsp f i u w).1 ∧ (zsp f i u w).1 < 2 ^ (5 * (zsp f i u w).2)
  | 0, i, u, w, h, hu, hw => ⟨⟨Nat.le_refl _, by show i ≤ 8; omega⟩, hw⟩
  | f + 1, i, u, w, h, hu, hw => by
    have ho := (zorw (i := i) (m := u % 10 + 1) (by omega) hw (by omega)).2
    rw [zsp]
    split
    · exact ⟨⟨by show i ≤ i + 1; omega, by show i + 1 ≤ 8; omega⟩, ho⟩
    · have := zsp_rng f (i + 1) (u / 10) _ (by omega) (by omega) ho
      exact ⟨⟨by omega, this.1.2⟩, this.2⟩
theorem zab_nn (a : Int) : 0 ≤ zab a := by unfold zab; split <;> omega
theorem c_digitsWord {σ : zSt} {a : Int} (ha : -9223372036854775808 ≤ a ∧ a ≤ 9223372036854775807) {Q : zSt → Option Value → Prop} (k : Q σ (some (.long (lZ (zspell a))))) : zCa 34 [.long (lZ a)] σ Q := by
  refine w_enter (c := zk_X2_digitsWord) (ls2 := [(0, .long (lZ a))]) rfl ⟨rfl, trivial⟩ ?_
  refine w_lc (pc' := 1) (z := 0) ⟨rfl, rfl⟩ rfl ?_
  refine w_lstore_n (pc' := 2) ⟨rfl, rfl⟩ rfl rfl ?_
  refine w_lload_n (pc' := 3) ⟨rfl, rfl⟩ rfl ?_
  refine w_lstore (pc' := 5) ⟨rfl, rfl⟩ rfl rfl ?_
  refine w_ic (pc' := 6) ⟨rfl, rfl⟩ ?_
  refine w_istore (pc' := 8) ⟨rfl, rfl⟩ rfl ?_
  refine w_at (ls2 := [(0, .long (lZ a)), (2, .long (lZ 0)), (4, .long (lZ a)), (6, .int (iZ ((0 : Nat) : Int)))]) ⟨rfl, rfl, rfl, rfl, trivial⟩ (l_digitsWord ha 8 0 a 0 rfl (by omega) ha (by decide) ?_)
  have hg := zsp_rng 8 0 (zab a) 0 rfl (zab_nn a) (by decide)
  unfold zspell at k
  generalize (zsp 8 0 (zab a) 0).1 = W at k hg ⊢
  generalize (zsp 8 0 (zab a) 0).2 = I at k hg ⊢
  refine w_lload_n (pc' := 67) ⟨rfl, rfl⟩ rfl ?_
  refine w_lc (pc' := 68) (z := 0) ⟨rfl, rfl⟩ rfl ?_
  refine w_lcmp (pc' := 69) ⟨rfl, rfl⟩ ?_
  refine w_ify_ge (pc' := 72) (pcT := 90) ⟨rfl, rfl⟩ rfl (by omega) (by omega) (fun h1 => ?_) (fun h1 => ?_)
  · refine w_lload_n (pc' := 91) ⟨rfl, rfl⟩ rfl ?_
    refine w_lreturn (pc' := 92) ⟨rfl, rfl⟩ ?_
    first | (rw [if_pos (by omega)] at k; exact k) | (rw [if_neg (by omega)] at k; exact k)
  · refine w_iload (pc' := 74) ⟨rfl, rfl⟩ rfl ?_
    refine w_bi (pc' := 76) ⟨rfl, rfl⟩ (by decide) ?_
    refine w_ic_ge (pc' := 79) (pcT := 90) ⟨rfl, rfl⟩ rfl (by omega) (by omega) (fun h2 => ?_) (fun h2 => ?_)
    · refine w_lload_n (pc' := 91) ⟨rfl, rfl⟩ rfl ?_
      refine w_lreturn (pc' := 92) ⟨rfl, rfl⟩ ?_
      first | (rw [if_pos (by omega)] at k; exact k) | (rw [if_neg (by omega)] at k; exact k)
    · refine w_lload_n (pc' := 80) ⟨rfl, rfl⟩ rfl ?_
      refine w_ldc2Y (pc' := 83) (z := 26) ⟨rfl, rfl⟩ rfl ?_
      refine w_ic (pc' := 84) ⟨rfl, rfl⟩ ?_
      refine w_iload (pc' := 86) ⟨rfl, rfl⟩ rfl ?_
      refine w_imulZ (pc' := 87) ⟨rfl, rfl⟩ ?_
      refine w_lshl (pc' := 88) ⟨rfl, rfl⟩ ?_
      have ho := (zorw (i := I) (m := 26) (by omega) hg.2 (by omega)).1
      refine w_lor ⟨rfl, rfl⟩ ?_
      refine w_topL ho ?_
      refine w_lstore_n (pc' := 90) ⟨rfl, rfl⟩ rfl rfl ?_
      refine w_lload_n (pc' := 91) ⟨rfl, rfl⟩ rfl ?_
      refine w_lreturn (pc' := 92) ⟨rfl, rfl⟩ ?_
      first | (rw [if_pos (by omega)] at k; exact k) | (rw [if_neg (by omega)] at k; exact k)
