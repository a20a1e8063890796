/-! THE FRESH OBJECT -/
/-- the own words, as names -/
def zowl : List Int := [77201408, 93983744, 109103104, 646433408, 317325312, 418847744, 214402688, 150636933, 788074496, 640947621, 680957536, 120049248, 686817280, 220705792, 93323264, 526567424, 550161408]
def zow (i : Nat) : Int := zowl.getD i 0
def zfp : List (Nat × Nat × Nat) := zfxl.zipIdx.flatMap (fun p => p.1.map (fun q => (p.2, q.1, q.2)))
set_option maxRecDepth 100000 in
theorem zboot1 : zvoid zbX = true ∧ zN zS1 = 164 ∧ zR zS1 0 10 = some 114 ∧ zR zS1 1 2 = some 5 ∧ zI zS1 3 1 = iZ 0 := by decide +kernel
set_option maxRecDepth 100000 in
theorem zboot2 : ∀ q ∈ zfp, zR zS1 q.1 q.2.1 = some q.2.2 := by decide +kernel
set_option maxRecDepth 100000 in
theorem zboot3 : ∀ k : Nat, k < 17 → zI zS1 2 k = iZ (zow k) := by decide +kernel
theorem zfx_in {o k a : Nat} (h : zfx o k = some a) : (o, k, a) ∈ zfp := by
  unfold zfx at h
  cases ho : zfxl[o]? with
  | none => rw [ho] at h; cases h
  | some r =>
    rw [ho] at h
    have h' : (r.find? (fun q => q.1 == k)).map (fun q => q.2) = some a := h
    cases hq : r.find? (fun q => q.1 == k) with
    | none => rw [hq] at h'; cases h'
    | some q =>
      rw [hq] at h'
      have h1 := List.find?_some hq
      have h2 := List.mem_of_find?_eq_some hq
      have h3 : q.1 = k := by simpa using h1
      cases h'
      subst h3
      unfold zfp
      rw [List.mem_flatMap]
      exact ⟨(r, o), List.mk_mem_zipIdx_iff_getElem?.mpr ho, List.mem_map.mpr ⟨q, h2, rfl⟩⟩
/-- the own words stand -/
def zOwn (σ : zSt) : Prop := ∀ k : Nat, k < 17 → zI σ 2 k = iZ (zow k)
def zNew (σ : zSt) : Prop := zFx σ ∧ zR σ 0 10 = some 114 ∧ zR σ 1 2 = some 5 ∧ zTL σ [] ∧ zOwn σ
theorem zfresh_of {L : Nat} {xs : Nat → Int32} {σ : zSt} (h1 : zN σ = 164) (hp : zR σ 0 10 = some 114) (hb : zR σ 1 2 = some 5) (hc : zI σ 3 1 = iZ 0) (h2 : ∀ q ∈ zfp, zR σ q.1 q.2.1 = some q.2.2) (h3 : ∀ k : Nat, k < 17 → zI σ 2 k = iZ (zow k)) : zNew (zov L xs σ) ∧ zN (zov L xs σ) = 164 := by
  have hI : ∀ o k, o < 1000000 → zI (zov L xs σ) o k = zI σ o k := fun o k h => congrFun (zI_ov (by unfold zSCR; omega)) k
  have hR : ∀ o k, o < 1000000 → zR (zov L xs σ) o k = zR σ o k := fun o k h => congrFun (zR_ov (by unfold zSCR; omega)) k
  refine ⟨⟨⟨by rw [zN_ov, h1]; exact Nat.le_refl _, fun o k a e => ?_⟩, (hR _ _ (by omega)).trans hp, (hR _ _ (by omega)).trans hb, ⟨(hI _ _ (by omega)).trans hc, by simp, fun i hi => absurd hi (by simp)⟩, fun k hk => (hI _ _ (by omega)).trans (h3 k hk)⟩, h1⟩
  have hm := zfx_in e
  have hlt : ∀ q ∈ zfp, q.1 < 164 := by decide +kernel
  rw [hR o k (by have := hlt _ hm; dsimp only at this; omega)]
  exact h2 _ hm
theorem zfresh {L : Nat} {xs : Nat → Int32} : zNew (zov L xs zS1) ∧ zN (zov L xs zS1) = 164 := zfresh_of zboot1.2.1 zboot1.2.2.1 zboot1.2.2.2.1 zboot1.2.2.2.2 zboot2 zboot3
theorem zbX_eq : zbX = some (zS1, none) := zvoid_X zboot1.1
