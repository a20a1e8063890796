/-! WHAT IS MADE IS A VALUE OF ITS KIND -/
theorem zwf_top : ∀ {n : Nat} {w m : Int}, zwf n w → (1 ≤ m ∧ m ≤ 26) → zwf (n + 1) (m * 2 ^ (5 * n) + w)
  | 0, w, m, h, hm => by
    rw [show w = 0 from h]
    show (1 ≤ (m * 1 + 0) % 32 ∧ (m * 1 + 0) % 32 ≤ 26) ∧ (m * 1 + 0) / 32 = 0
    omega
  | n + 1, w, m, h, hm => by
    have e : m * 2 ^ (5 * (n + 1)) = 32 * (m * 2 ^ (5 * n)) := by
      rw [show 5 * (n + 1) = 5 + 5 * n by omega, Int.pow_add, show (2 : Int) ^ 5 = 32 from rfl, Int.mul_left_comm]
    have ih := zwf_top h.2 hm
    have h1 := h.1
    refine ⟨?_, ?_⟩
    · rw [e]; omega
    · rw [e, show (32 * (m * 2 ^ (5 * n)) + w) / 32 = m * 2 ^ (5 * n) + w / 32 by omega]; exact ih
theorem zwf_zwo (a : Int) : ∀ (j n : Nat) (w : Int), zwf n w → n + j ≤ 8 → ∃ m, m ≤ 8 ∧ zwf m (zwo a j w)
  | 0, n, w, h, hn => ⟨n, by omega, h⟩
  | j + 1, n, w, h, hn => by
    rw [zwo]
    split
    · rename_i hd
      exact zwf_zwo a j (n + 1) _ ⟨by omega, by rw [show (32 * w + zdt a j) / 32 = w by omega]; exact h⟩ (by omega)
    · exact zwf_zwo a j n w h (by omega)
theorem zwf_zsp : ∀ (f i : Nat) (u w : Int), i + f = 8 → 0 ≤ u → zwf i w → zwf (zsp f i u w).2 (zsp f i u w).1
  | 0, i, u, w, h, hu, hw => hw
  | f + 1, i, u, w, h, hu, hw => by
    rw [zsp]
    split
    · exact zwf_top hw (by omega)
    · exact zwf_zsp f (i + 1) _ _ (by omega) (by omega) (zwf_top hw (by omega))
theorem zwf_zspell (a : Int) : ∃ m, m ≤ 8 ∧ zwf m (zspell a) := by
  have h := zwf_zsp 8 0 (zab a) 0 rfl (zab_nn a) rfl
  have hr := (zsp_rng 8 0 (zab a) 0 rfl (zab_nn a) (by decide)).1
  unfold zspell
  split
  · exact ⟨_, by omega, zwf_top h (by omega)⟩
  · exact ⟨_, hr.2, h⟩
theorem zok_w {n : Nat} {a : Int} (hn : n ≤ 8) (h : zwf n a) : zok 8 (lZ a) := ⟨fun q => by omega, fun q => by omega, fun q => by omega, fun _ => ⟨n, a, hn, h, rfl⟩⟩
theorem zok_f {y : UInt32} (h : zfb y) : zok 6 (zfl y) := ⟨fun q => by omega, fun _ => ⟨y, h, rfl⟩, fun q => by omega, fun q => by omega⟩
theorem zok_d {d : UInt64} (h : zdb d) : zok 7 (zdl d) := ⟨fun q => by omega, fun q => by omega, fun _ => ⟨d, h, rfl⟩, fun q => by omega⟩
theorem zok_b {v : Int64} (h : v = lZ 0 ∨ v = lZ 1) : zok 0 v := ⟨fun _ => h, fun q => by omega, fun q => by omega, fun q => by omega⟩
theorem zok_i {k : Int} {v : Int64} (h : k ≠ 0 ∧ k ≠ 6 ∧ k ≠ 7 ∧ k ≠ 8) : zok k v := ⟨fun q => by omega, fun q => by omega, fun q => by omega, fun q => by omega⟩
theorem zok_cast (x : Int64) {k : Int} (h0 : k ≠ 0) (h8 : k ≠ 8) : zok k (zcast x k) := by
  by_cases h6 : k = 6
  · subst h6; exact zok_f (zl2f x)
  · by_cases h7 : k = 7
    · subst h7; exact zok_d (zl2d x)
    · exact zok_i ⟨h0, h6, h7, h8⟩
theorem zok_W (x : Int64) (k : Int) : zok k (zoW x k) := by
  by_cases h0 : k = 0
  · subst h0
    refine zok_b ?_
    show (if x = lZ 0 then lZ 0 else lZ 1) = lZ 0 ∨ (if x = lZ 0 then lZ 0 else lZ 1) = lZ 1
    split
    · exact Or.inl rfl
    · exact Or.inr rfl
  · by_cases h8 : k = 8
    · subst h8; obtain ⟨m, h1, h2⟩ := zwf_zspell x.toInt; exact zok_w h1 h2
    · unfold zoW; rw [if_neg h0, if_neg h8]; exact zok_cast x h0 h8
theorem zok_R {d : UInt64} (hd : zdb d) (k : Int) : zok k (zoR d k) := by
  by_cases h0 : k = 0
  · subst h0
    refine zok_b ?_
    show (if znz d then lZ 1 else lZ 0) = lZ 0 ∨ (if znz d then lZ 1 else lZ 0) = lZ 1
    split
    · exact Or.inr rfl
    · exact Or.inl rfl
  · by_cases h8 : k = 8
    · subst h8; obtain ⟨m, h1, h2⟩ := zwf_zspell (FP.d2l d).toInt; exact zok_w h1 h2
    · by_cases h6 : k = 6
      · subst h6; exact zok_f (zd2f hd)
      · by_cases h7 : k = 7
        · subst h7; exact zok_d hd
        · exact zok_i ⟨h0, h6, h7, h8⟩
theorem zok_told (x : Int64) (k : Int) : zok k (ztold x k) := by
  by_cases h0 : k = 0
  · subst h0
    refine zok_b ?_
    show (if x = lZ 0 then lZ 0 else lZ 1) = lZ 0 ∨ (if x = lZ 0 then lZ 0 else lZ 1) = lZ 1
    split
    · exact Or.inl rfl
    · exact Or.inr rfl
  · by_cases h8 : k = 8
    · subst h8; obtain ⟨m, h1, h2⟩ := zwf_zwo x.toInt 8 0 0 rfl (by omega); exact zok_w h1 h2
    · by_cases h6 : k = 6
      · subst h6; exact zok_f (zl2f16 x)
      · by_cases h7 : k = 7
        · subst h7; exact zok_d (zl2d16 x)
        · exact zok_i ⟨h0, h6, h7, h8⟩
theorem zok_car {v : Int64} {a b : Int} (hv : zok a v) : zok b (zcar v a b) := by
  unfold zcar
  split
  · rename_i h; rw [← h]; exact hv
  · split
    · rename_i h; rw [h.2]
      split
      · exact zok_w (n := 1) (by omega) ⟨by decide, rfl⟩
      · exact zok_w (n := 1) (by omega) ⟨by decide, rfl⟩
    · split
      · exact zok_R (zrl_b hv) b
      · split
        · split
          · rename_i h; rw [h]; exact zok_W v 0
          · exact zok_W _ b
        · exact zok_W v b
theorem zok_0 (k : Int) : zok k (lZ 0) := ⟨fun _ => Or.inl rfl, fun _ => ⟨0, ⟨false, 0, -149, by decide +kernel, by rw [Nat.zero_mul]; exact Nat.zero_le _⟩, by decide⟩, fun _ => ⟨0, ⟨false, 0, -1074, by decide +kernel, by rw [Nat.zero_mul]; exact Nat.zero_le _⟩, by decide⟩, fun _ => ⟨0, 0, by omega, rfl, rfl⟩⟩
/-- what a cell holds: a value of its kind, or, of words, nothing -/
def zcl (k : Int) (v : Int64) : Prop := zok k v ∨ (k = 8 ∧ v = lZ (-1))
theorem zcl_v {k : Int} {v : Int64} (h : zcl k v) : zok k (zvl k v) := by
  unfold zvl
  split
  · rename_i q; rw [q.1]; exact zok_0 8
  · rename_i q
    rcases h with h | h
    · exact h
    · exact absurd h q
theorem zvl_ok {k : Int} {v : Int64} (h : zok k v) : zvl k v = v := by
  unfold zvl
  split
  · rename_i q
    obtain ⟨hk, hv⟩ := q
    subst hk
    obtain ⟨n, a, _, _, rfl, hr⟩ := zok8 h
    have := (lZ_inj (a := a) (b := -1) (by omega) (by omega)).mp hv
    omega
  · rfl
