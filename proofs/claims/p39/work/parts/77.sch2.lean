/-! THE READER: a scheme read -/
/-- a field's text without the comma ahead of it -/
def ztx (x : Int) (f : Nat) : List Int := if ztm x f then zTs 14 ++ znu (zNx x) else []
def zsB (x : Int) (f : Nat) : List Int := zTs (zkj (zKx x f)) ++ (zfn f ++ ztx x f)
def zCx (x : Int) (f : Nat) : Int := if ztm x f then zNx x else 1
theorem zsF_0 {x : Int} : zsF x 0 = zsB x 0 := by
  unfold zsF zsB ztx
  rw [if_neg (by omega), List.nil_append]
theorem zsF_s {x : Int} {f : Nat} : zsF x (f + 1) = 44 :: zsB x (f + 1) := by
  unfold zsF zsB ztx
  rw [if_pos (by omega)]
  rfl
theorem ztx_ok (x : Int) (f : Nat) : (ztx x f = [] ∧ zCx x f = 1) ∨ ((1 ≤ zCx x f ∧ zCx x f ≤ 4) ∧ ztx x f = [32] ++ (zow2 10 ++ ([32] ++ [48 + zCx x f]))) := by
  unfold ztx zCx
  by_cases h : ztm x f
  · right
    rw [if_pos h, if_pos h]
    have hN : zNx x = 2 + x / 2 ^ 27 % 2 := rfl
    refine ⟨by omega, ?_⟩
    have e : znu (zNx x) = [48 + zNx x] := by
      unfold znu
      rw [if_neg (by omega), if_neg (by omega), show zNx x % 10 = zNx x by omega]
      rfl
    rw [e]
    rfl
  · left
    rw [if_neg h, if_neg h]
    exact ⟨rfl, rfl⟩
theorem rd_fields {σ0 : zSt} {l : List Int} (h0 : zBas σ0 l) {x : Int} {o : Nat} (hO : zIsS o) (ho : 5 ≤ o ∧ o < 50) {nm : Int} {r : List Int} {Q : zSt → Option Value → Prop} {q : Nat} : ∀ (m f p : Nat) (pre bl : List Int) (σ : zSt), f + m + 1 ≤ 6 → zAs σ0 σ p 2 → l = pre ++ (bl ++ (zsB x f ++ (zsL x m (f + 1) ++ (59 :: r)))) → pre.length = p → (bl = [] ∨ bl = [32]) → zR σ 1 10 = some o → zShp σ o nm f (zKx x) (zCx x) → q = p + bl.length + (zsB x f).length + (zsL x m (f + 1)).length + 1 → (∀ σ2, zFk [1, o, o + 1, o + 2, o + 3, o + 4] σ σ2 → zAs σ0 σ2 q 0 → zShp σ2 o nm (f + m + 1) (zKx x) (zCx x) → zGo σ2 q Q) → zGo σ p Q := by
  intro m
  induction m with
  | zero =>
    intro f p pre bl σ hf h hl hp hbl hr hS hq k
    have hK := zKx_rng x f
    have w := zkw_ok (k := (zKx x f).toNat) (by omega)
    rw [Int.toNat_of_nonneg hK.1] at w
    have hl1 : l = pre ++ (bl ++ (zkw (zKx x f).toNat ++ ([32] ++ (zfn f ++ (ztx x f ++ (59 :: r)))))) := by
      rw [hl]; unfold zsB; rw [w.1.1]; simp only [List.append_assoc, zsL, List.nil_append]
    refine rd_field h0 h (by omega) hO hr hS (by omega) ho hl1 hp hbl (Or.inr rfl) (ztx_ok x f) (q := q) ?_ (fun σ2 f2 A2 r2 s2 => k σ2 f2 A2 (s2 _ _ (fun g hg => ⟨rfl, rfl⟩) (by omega) rfl))
    rw [hq]; unfold zsB; rw [w.1.1]
    simp only [List.length_append, zsL, List.length_nil, List.length_singleton, zfn_len]
    omega
  | succ m ih =>
    intro f p pre bl σ hf h hl hp hbl hr hS hq k
    have hK := zKx_rng x f
    have w := zkw_ok (k := (zKx x f).toNat) (by omega)
    rw [Int.toNat_of_nonneg hK.1] at w
    have hl1 : l = pre ++ (bl ++ (zkw (zKx x f).toNat ++ ([32] ++ (zfn f ++ (ztx x f ++ (44 :: (zsB x (f + 1) ++ (zsL x m (f + 1 + 1) ++ (59 :: r))))))))) := by
      rw [hl]; unfold zsB; rw [w.1.1, zsL, zsF_s]; unfold zsB; simp only [List.append_assoc, List.cons_append]
    refine rd_field h0 h (by omega) hO hr hS (by omega) ho hl1 hp hbl (Or.inl rfl) (ztx_ok x f) (q := p + bl.length + (zsB x f).length + 1) ?_ (fun σ2 f2 A2 r2 s2 => ?_)
    · unfold zsB; rw [w.1.1]
      simp only [List.length_append, List.length_singleton, zfn_len]
      omega
    · refine ih (f + 1) _ (pre ++ (bl ++ (zsB x f ++ [44]))) [] σ2 (by omega) A2 ?_ ?_ (Or.inl rfl) r2 (s2 _ _ (fun g hg => ⟨rfl, rfl⟩) (by omega) rfl) ?_ (fun σ3 f3 A3 s3 => k σ3 (f2.trans f3) A3 (by rw [show f + (m + 1) + 1 = f + 1 + m + 1 by omega]; exact s3))
      · rw [hl, zsL, zsF_s]; simp only [List.append_assoc, List.cons_append, List.nil_append]
      · simp only [List.length_append, List.length_singleton]; omega
      · rw [hq, zsL, zsF_s]; simp only [List.length_append, List.length_cons, List.length_nil]; omega
