/-! of whole, what this claim takes: 36.zok.lean.txt -/
theorem zwf_zwo (a : Int) : ∀ (j n : Nat) (w : Int), zwf n w → n + j ≤ 8 → ∃ m, m ≤ 8 ∧ zwf m (zwo a j w)
  | 0, n, w, h, hn => ⟨n, by omega, h⟩
  | j + 1, n, w, h, hn => by
    rw [zwo]
    split
    · rename_i hd
      exact zwf_zwo a j (n + 1) _ ⟨by omega, by rw [show (32 * w + zdt a j) / 32 = w by omega]; exact h⟩ (by omega)
    · exact zwf_zwo a j n w h (by omega)
theorem zok_w {n : Nat} {a : Int} (hn : n ≤ 8) (h : zwf n a) : zok 8 (lZ a) := ⟨fun q => by omega, fun q => by omega, fun q => by omega, fun _ => ⟨n, a, hn, h, rfl⟩⟩
theorem zok_f {y : UInt32} (h : zfb y) : zok 6 (zfl y) := ⟨fun q => by omega, fun _ => ⟨y, h, rfl⟩, fun q => by omega, fun q => by omega⟩
theorem zok_d {d : UInt64} (h : zdb d) : zok 7 (zdl d) := ⟨fun q => by omega, fun q => by omega, fun _ => ⟨d, h, rfl⟩, fun q => by omega⟩
theorem zok_b {v : Int64} (h : v = lZ 0 ∨ v = lZ 1) : zok 0 v := ⟨fun _ => h, fun q => by omega, fun q => by omega, fun q => by omega⟩
theorem zok_i {k : Int} {v : Int64} (h : k ≠ 0 ∧ k ≠ 6 ∧ k ≠ 7 ∧ k ≠ 8) : zok k v := ⟨fun q => by omega, fun q => by omega, fun q => by omega, fun q => by omega⟩
theorem zok_told (x : Int64) (k : Int) : zok k (ztold x k) := by
  by_cases h0 : k = 0
  · subst h0
    refine zok_b ?_
    show (if x = lZ 0 then lZ 0 else lZ 1) = lZ 0 ∨ (if x = lZ 0 then lZ 0 else lZ 1) = lZ 1
    split
    · exact Or.inl rfl
    · exact Or.inr rfl
  · by_cases h8 : k = 8
    · subst h8; obtain ⟨m, h1, h2⟩ := zwf_zwo x.toInt 8 0 0 rfl (by omega); exact zok_w h1 h2
    · by_cases h6 : k = 6
      · subst h6; exact zok_f (zl2f16 x)
      · by_cases h7 : k = 7
        · subst h7; exact zok_d (zl2d16 x)
        · exact zok_i ⟨h0, h6, h7, h8⟩
theorem zok_0 (k : Int) : zok k (lZ 0) := ⟨fun _ => Or.inl rfl, fun _ => ⟨0, ⟨false, 0, -149, by decide +kernel, by rw [Nat.zero_mul]; exact Nat.zero_le _⟩, by decide⟩, fun _ => ⟨0, ⟨false, 0, -1074, by decide +kernel, by rw [Nat.zero_mul]; exact Nat.zero_le _⟩, by decide⟩, fun _ => ⟨0, 0, by omega, rfl, rfl⟩⟩
def zcl (k : Int) (v : Int64) : Prop := zok k v ∨ (k = 8 ∧ v = lZ (-1))
theorem zcl_v {k : Int} {v : Int64} (h : zcl k v) : zok k (zvl k v) := by
  unfold zvl
  split
  · rename_i q; rw [q.1]; exact zok_0 8
  · rename_i q
    rcases h with h | h
    · exact h
    · exact absurd h q
