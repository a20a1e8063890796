/-! NEW OBJECTS, all kinds -/
theorem zLY_small (o : Nat) : (zLY o).2 ≤ 11740 := by
  have key : ∀ o, o < 166 → (zLY o).2 ≤ 11740 := by decide +kernel
  by_cases ho : o < 166
  · exact key o ho
  · have h2 : zLY o = (13, 8) := by
      unfold zLY
      rw [List.getElem?_eq_none (by have : zLYl.length = 166 := by decide +kernel
                                    omega)]
      rfl
    rw [h2]; decide
theorem zSl_rows {m N K : Nat} (h0 : (zLY m).2 = N) (h : ∀ j, j < N → zLY (m + 1 + j) = (13, K)) : zSl (m + (N + 1)) = zSl m + (N + N * K) := by
  have key : ∀ j, j ≤ N → zSl (m + 1 + j) = zSl m + (N + j * K) := by
    intro j
    induction j with
    | zero => intro _; show zSl m + (zLY m).2 = _; rw [h0]; simp
    | succ j ih =>
      intro hj
      show zSl (m + 1 + j) + (zLY (m + 1 + j)).2 = _
      rw [ih (by omega), h j (by omega), Nat.succ_mul]
      omega
  rw [show m + (N + 1) = m + 1 + N by omega]
  exact key N (Nat.le_refl _)
section ZMA
variable {p : Program} {l : Launch} {e : Env} {R : Room} {s : State} {m : MethodId} {args : Array Value} {below : List Frame} {meth : Method} {c : Code} {H : Heap} {locs : List Loc} {cells slots : Nat} {Q : State → Prop}
variable {cc : ByteArray} {pc : Nat} {lsA : Array Slot} {D : va_G} {cy : Nat → ClassId} {B sc : Nat} {tx : Nat → Nat} {n : Nat} {σ σ' : zSt}
set_option maxHeartbeats 4000000 in
theorem zmak_ok (hx : p.tables.exec = Jvm.exec) (hb : c.code = cc) (hown : s.vm.findClass (zOw (zMI n).2.2.2.2.1) = some m.cls) (hts : ∀ w ∈ zWS, w.before args s = true) (hG : zGs D cy s) (hBs : B ≤ s.heap.size)
    {i : Instr} {t len : Nat} {st st' : List Value} (hd : decode cc pc = .ok (zreal i t, len)) (hl : zlenOK i len = true) (hk : zlnk n i t = true) (h : zmak i st σ = some (st', σ')) (hP : va_P D vwCl (zW (zad B sc tx) cy σ) H) (hS : va_S (fun q => B ≤ q) s.heap H locs) (hN : zN σ' ≤ 900000)
    (hr1 : cells + (zN σ' - zN σ) ≤ R.cells) (hr2 : slots + (zSl (zN σ') - zSl (zN σ)) ≤ R.slots) (hsz : s.heap.size + cells ≤ B + zN σ)
    (k : ∀ H' locs', va_P D vwCl (zW (zad B sc tx) cy σ') H' → va_S (fun q => B ≤ q) s.heap H' locs' → W p l e R s m args below meth c H' locs' (cells + (zN σ' - zN σ)) (slots + (zSl (zN σ') - zSl (zN σ))) Q (F0 m (pc + len) lsA (st'.map (zv (zad B sc tx))))) : W p l e R s m args below meth c H locs cells slots Q (F0 m pc lsA (st.map (zv (zad B sc tx)))) := by
  have one : zN (znew σ) - zN σ = 1 := by rw [zN_new]; omega
  have onS : zSl (zN (znew σ)) - zSl (zN σ) = (zLY (zN σ)).2 := by rw [zN_new]; show zSl (zN σ) + _ - zSl (zN σ) = _; omega
  have hsm := zLY_small (zN σ)
  unfold zmak at h
  split at h
  · have hl : 3 = len := eq_of_beq hl
    subst hl
    split at h
    · rename_i ci hc
      cases h
      rw [one] at hr1 k; rw [onS] at hr2 k; rw [zN_new] at hN
      exact znew_ok hx hb hown hts hG hBs hd hk hc.1 hc.2 hP hS (by omega) hr1 hr2 hsz k
    · cases h
  · have hl : 2 = len := eq_of_beq hl
    subst hl
    split at h
    · split at h
      · rename_i aty _ j r hc
        cases h
        rw [one] at hr1 k; rw [onS] at hr2 k; rw [zN_new] at hN
        exact znewa_ok hx hb hts hG hBs hd hc.2.1 hc.2.2 hP hS (by omega) (by omega) hr1 hr2 hsz hc.1 k
      · cases h
    · cases h
  · have hl : 3 = len := eq_of_beq hl
    subst hl
    split at h
    · split at h
      · rename_i ci _ j r hc
        cases h
        rw [one] at hr1 k; rw [onS] at hr2 k; rw [zN_new] at hN
        exact znewq_ok hx hb hown hts hG hBs hd hk hc.1 hc.2.1 hc.2.2 hP hS (by omega) (by omega) hr1 hr2 hsz k
      · cases h
    · cases h
  · split at h
    · split at h
      · rename_i ci di _ k0 j0 r hc
        cases h
        obtain ⟨rfl, rfl, hk0, hj0, hc1, hc2⟩ := hc
        have hl : 4 = len := eq_of_beq hl
        subst hl
        have hN2 : zN (zrR (znews (j0.toNatClampNeg + 1) σ) (zN σ) (fun j => if j < j0.toNatClampNeg then some (zN σ + 1 + j) else none)) = zN σ + (j0.toNatClampNeg + 1) := zN_news _ _
        have hS2 := zSl_rows (K := k0.toNatClampNeg) (by rw [hc1]) hc2
        rw [hN2] at hN hr1 hr2 k
        rw [hS2] at hr2 k
        have e1 : zN σ + (j0.toNatClampNeg + 1) - zN σ = 1 + j0.toNatClampNeg := by omega
        have e2 : zSl (zN σ) + (j0.toNatClampNeg + j0.toNatClampNeg * k0.toNatClampNeg) - zSl (zN σ) = j0.toNatClampNeg + j0.toNatClampNeg * k0.toNatClampNeg := by omega
        rw [e1] at hr1 k
        rw [e2] at hr2 k
        rw [← Nat.add_assoc, ← Nat.add_assoc] at k
        have hs1 : j0.toNatClampNeg ≤ 100000 := by
          have := zLY_small (zN σ)
          rw [hc1] at this
          have this : j0.toNatClampNeg ≤ 11740 := this
          omega
        have hs2 : j0.toNatClampNeg = 0 ∨ k0.toNatClampNeg ≤ 100000 := by
          rcases Nat.eq_zero_or_pos j0.toNatClampNeg with h0 | h0
          · exact Or.inl h0
          · have := zLY_small (zN σ + 1 + 0)
            rw [hc2 0 h0] at this
            have this : k0.toNatClampNeg ≤ 11740 := this
            exact Or.inr (by omega)
        rcases hs2 with h0 | hs2
        · exfalso
          have key : ∀ o, o < 166 → ¬ zLY o = (18, 0) := by decide +kernel
          rw [h0] at hc1
          by_cases ho : zN σ < 166
          · exact key _ ho hc1
          · have h7 : zLY (zN σ) = (13, 8) := by
              unfold zLY
              rw [List.getElem?_eq_none (by have : zLYl.length = 166 := by decide +kernel
                                            omega)]
              rfl
            rw [h7] at hc1
            exact absurd hc1 (by decide)
        · exact zmna_ok hx hb hown hts hG hBs hd hk hk0 hj0 rfl rfl hc1 hc2 hP hS (by omega) hs1 hs2 hr1 hr2 hsz k
      · cases h
    · cases h
  · cases h
end ZMA
