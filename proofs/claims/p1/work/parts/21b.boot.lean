/-! THE CONSTRUCTORS, RUN: what stands in the fresh objects -/
def zbX : Option (zSt × Option Value) := zrunS 4000 (zcode 124) 0 (lv_args 0 [.ref 0]) [] (znew zst1)
def zgt (r : Option (zSt × Option Value)) : zSt := match r with
  | some q => q.1
  | none => zst1
def zS1 : zSt := zgt zbX
def zbY : Option (zSt × Option Value) := zrunS 3000 (zcode 171) 0 (lv_args 0 [.ref 164]) [] (znew zS1)
def zS2 : zSt := zgt zbY
def zvoid (r : Option (zSt × Option Value)) : Bool := match r with
  | some (_, none) => true
  | _ => false
theorem zvoid_X {r : Option (zSt × Option Value)} (h : zvoid r = true) : r = some (zgt r, none) := by
  unfold zvoid at h
  split at h
  · rfl
  · cases h
/-- the places of the ints that are told below -/
def zfo (o k : Nat) : Bool := Nat.ble (o + 1) 181 && Nat.ble (k + 1) 33 && (o == 0 && 11 ≤ k && k ≤ 13 || o == 1 && (3 ≤ k && k ≤ 9 || k == 11 || k == 13 || 17 ≤ k && k ≤ 19) || o == 3 && k == 1 || o == 5 && (k == 2 || k == 3) || o == 79 && (k == 2 || k == 3) || o == 104 && (k == 4 || k == 5) || (o == 103 || o == 109 || o == 110 || o == 166 || o == 177 || o == 174) && k ≤ 5 || o == 114 && (k == 2 || k == 3) || o == 164 && (1 ≤ k && k ≤ 8 || k == 11 || k == 14 || k == 15 || k == 18 || k == 25 || k == 30 || k == 31))
def zfi (o k : Nat) : Int := if o = 0 ∧ k = 13 then 1 else if o = 1 ∧ k = 19 then -1 else if o = 164 ∧ k = 8 then -1 else 0
def zFr1 (σ : zSt) : Prop := ∀ o k, zfo o k = true → zI σ o k = iZ (zfi o k)
def zfp : List (Nat × Nat × Nat) := zfxl.zipIdx.flatMap (fun p => p.1.map (fun q => (p.2, q.1, q.2)))
def zfos : List Nat := [0, 1, 3, 5, 79, 103, 104, 109, 110, 114, 164, 166, 174, 177]
set_option maxRecDepth 100000 in
theorem zboot1 : zvoid zbX = true ∧ zvoid zbY = true ∧ zN zS2 = 181 ∧ zR zS2 0 10 = some 114 ∧ zR zS2 1 2 = some 5 := by decide +kernel
set_option maxRecDepth 100000 in
theorem zboot2 : ∀ q ∈ zfp, zR zS2 q.1 q.2.1 = some q.2.2 := by decide +kernel
set_option maxRecDepth 100000 in
theorem zboot3 : ∀ o ∈ zfos, ∀ k : Nat, k < 33 → zfo o k = true → zI zS2 o k = iZ (zfi o k) := by decide +kernel
set_option maxRecDepth 100000 in
theorem zboot4 : (∀ i : Nat, i < 170 → zI zS2 169 i = iZ 0) ∧ (∀ a : Nat, a < 9 → ∀ b : Nat, b < 9 → zI zS2 171 (9 * a + b) = iZ (if zgi (a : Nat) (b : Nat) then 1 else 0)) := by decide +kernel
set_option maxRecDepth 100000 in
theorem zboot5 : ∀ s : Nat, s < 3 → zL zS2 80 s = lZ 0 ∧ zL zS2 170 s = lZ 0 := by decide +kernel
theorem zfx_in {o k a : Nat} (h : zfx o k = some a) : (o, k, a) ∈ zfp := by
  unfold zfx at h
  cases ho : zfxl[o]? with
  | none => rw [ho] at h; cases h
  | some r =>
    rw [ho] at h
    have h' : (r.find? (fun q => q.1 == k)).map (fun q => q.2) = some a := h
    cases hq : r.find? (fun q => q.1 == k) with
    | none => rw [hq] at h'; cases h'
    | some q =>
      rw [hq] at h'
      have h1 := List.find?_some hq
      have h2 := List.mem_of_find?_eq_some hq
      have h3 : q.1 = k := by simpa using h1
      cases h'
      subst h3
      unfold zfp
      rw [List.mem_flatMap]
      exact ⟨(r, o), List.mk_mem_zipIdx_iff_getElem?.mpr ho, List.mem_map.mpr ⟨q, h2, rfl⟩⟩
theorem zfo_in {o k : Nat} (h : zfo o k = true) : o ∈ zfos ∧ k < 33 := by
  unfold zfo at h
  rw [Bool.and_eq_true, Bool.and_eq_true] at h
  refine ⟨?_, Nat.le_of_ble_eq_true h.1.2⟩
  have h2 := h.2
  simp only [Bool.or_eq_true, Bool.and_eq_true, beq_iff_eq, decide_eq_true_eq] at h2
  have h3 : o = 0 ∨ o = 1 ∨ o = 3 ∨ o = 5 ∨ o = 79 ∨ o = 103 ∨ o = 104 ∨ o = 109 ∨ o = 110 ∨ o = 114 ∨ o = 164 ∨ o = 166 ∨ o = 174 ∨ o = 177 := by omega
  rcases h3 with rfl | rfl | rfl | rfl | rfl | rfl | rfl | rfl | rfl | rfl | rfl | rfl | rfl | rfl <;> decide
/-- the fresh state: the class's part, the reference's part -/
def zNew (σ : zSt) : Prop := zFx σ ∧ zR σ 0 10 = some 114 ∧ zR σ 1 2 = some 5 ∧ zFr1 σ ∧ zCn σ (fun _ => 0)
def zNewM (σ : zSt) : Prop := zFx σ ∧ zFr1 σ ∧ zTr σ (fun _ => 0) ∧ zWid σ
theorem zfresh_of {L : Nat} {xs : Nat → Int32} {σ : zSt} (h1 : zN σ = 181) (hp : zR σ 0 10 = some 114) (hb : zR σ 1 2 = some 5) (h2 : ∀ q ∈ zfp, zR σ q.1 q.2.1 = some q.2.2) (h3 : ∀ o ∈ zfos, ∀ k : Nat, k < 33 → zfo o k = true → zI σ o k = iZ (zfi o k))
    (h4 : (∀ i : Nat, i < 170 → zI σ 169 i = iZ 0) ∧ (∀ a : Nat, a < 9 → ∀ b : Nat, b < 9 → zI σ 171 (9 * a + b) = iZ (if zgi (a : Nat) (b : Nat) then 1 else 0))) (h5 : ∀ s : Nat, s < 3 → zL σ 80 s = lZ 0 ∧ zL σ 170 s = lZ 0) : zNew (zov L xs σ) ∧ zNewM (zov L xs σ) ∧ zN (zov L xs σ) = 181 := by
  have hI : ∀ o k, o < 1000000 → zI (zov L xs σ) o k = zI σ o k := fun o k h => congrFun (zI_ov (by unfold zSCR; omega)) k
  have hR : ∀ o k, o < 1000000 → zR (zov L xs σ) o k = zR σ o k := fun o k h => congrFun (zR_ov (by unfold zSCR; omega)) k
  have hFx : zFx (zov L xs σ) := by
    refine ⟨by rw [zN_ov, h1]; exact Nat.le_refl _, fun o k a e => ?_⟩
    have hm := zfx_in e
    have hlt : ∀ q ∈ zfp, q.1 < 181 := by decide +kernel
    rw [hR o k (by have := hlt _ hm; dsimp only at this; omega)]
    exact h2 _ hm
  have hFI : zFr1 (zov L xs σ) := fun o k e => by
    obtain ⟨ho, hk⟩ := zfo_in e
    have hlt : ∀ q ∈ zfos, q < 181 := by decide
    rw [hI o k (by have := hlt _ ho; omega)]
    exact h3 o ho k hk e
  refine ⟨⟨hFx, (hR _ _ (by omega)).trans hp, (hR _ _ (by omega)).trans hb, hFI, fun s hs => ⟨(h5 s hs).1, Int.le_refl 0, (show (0 : Int) ≤ 8 by decide)⟩⟩, ⟨hFx, hFI, ⟨fun i hi => (hI _ _ (by omega)).trans (h4.1 i hi), ?_⟩, fun a b ha hb => (hI _ _ (by omega)).trans (h4.2 a (by omega) b (by omega))⟩, h1⟩
  exact hFI 164 14 rfl
theorem zfresh {L : Nat} {xs : Nat → Int32} : zNew (zov L xs zS2) ∧ zNewM (zov L xs zS2) ∧ zN (zov L xs zS2) = 181 := zfresh_of zboot1.2.2.1 zboot1.2.2.2.1 zboot1.2.2.2.2 zboot2 zboot3 zboot4 zboot5
theorem zbX_eq : zbX = some (zS1, none) := zvoid_X zboot1.1
theorem zbY_eq : zbY = some (zS2, none) := zvoid_X zboot1.2.1
