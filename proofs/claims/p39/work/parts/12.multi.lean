/-! NEW ROWS OF ROWS -/
theorem zN_news : ∀ (k : Nat) (σ : zSt), zN (znews k σ) = zN σ + k
  | 0, σ => rfl
  | k + 1, σ => by rw [znews, zN_news k, zN_new]; omega
theorem zI_news : ∀ (k : Nat) (σ : zSt) (o : Nat), zI (znews k σ) o = if zN σ ≤ o ∧ o < zN σ + k then (fun _ => 0) else zI σ o
  | 0, σ, o => by rw [if_neg (by omega)]; rfl
  | k + 1, σ, o => by
    rw [znews, zI_news k, zN_new]
    by_cases h : o = zN σ
    · subst h; rw [if_neg (by omega), if_pos (by omega), zI_new]
    · have e : zI (znew σ) o = zI σ o := by show va_up _ _ _ o = _; simp only [va_up, show ¬ o = σ.2.2.2 from h, if_false]; rfl
      rw [e]
      by_cases h2 : zN σ ≤ o ∧ o < zN σ + (k + 1)
      · rw [if_pos h2, if_pos (by omega)]
      · rw [if_neg h2, if_neg (by omega)]
theorem zL_news : ∀ (k : Nat) (σ : zSt) (o : Nat), zL (znews k σ) o = if zN σ ≤ o ∧ o < zN σ + k then (fun _ => 0) else zL σ o
  | 0, σ, o => by rw [if_neg (by omega)]; rfl
  | k + 1, σ, o => by
    rw [znews, zL_news k, zN_new]
    by_cases h : o = zN σ
    · subst h; rw [if_neg (by omega), if_pos (by omega), zL_new]
    · have e : zL (znew σ) o = zL σ o := by show va_up _ _ _ o = _; simp only [va_up, show ¬ o = σ.2.2.2 from h, if_false]; rfl
      rw [e]
      by_cases h2 : zN σ ≤ o ∧ o < zN σ + (k + 1)
      · rw [if_pos h2, if_pos (by omega)]
      · rw [if_neg h2, if_neg (by omega)]
theorem zR_news : ∀ (k : Nat) (σ : zSt) (o : Nat), zR (znews k σ) o = if zN σ ≤ o ∧ o < zN σ + k then (fun _ => none) else zR σ o
  | 0, σ, o => by rw [if_neg (by omega)]; rfl
  | k + 1, σ, o => by
    rw [znews, zR_news k, zN_new]
    by_cases h : o = zN σ
    · subst h; rw [if_neg (by omega), if_pos (by omega), zR_new]
    · have e : zR (znew σ) o = zR σ o := by show va_up _ _ _ o = _; simp only [va_up, show ¬ o = σ.2.2.2 from h, if_false]; rfl
      rw [e]
      by_cases h2 : zN σ ≤ o ∧ o < zN σ + (k + 1)
      · rw [if_pos h2, if_pos (by omega)]
      · rw [if_neg h2, if_neg (by omega)]
section ZMU
variable {p : Program} {l : Launch} {e : Env} {R : Room} {s : State} {m : MethodId} {args : Array Value} {below : List Frame} {meth : Method} {c : Code} {H : Heap} {locs : List Loc} {cells slots : Nat} {Q : State → Prop}
variable {cc : ByteArray} {pc : Nat} {lsA : Array Slot} {D : va_G} {cy : Nat → ClassId} {B sc : Nat} {tx : Nat → Nat} {n : Nat} {σ σ' : zSt}
theorem zsz_low (hBs : B ≤ s.heap.size) (hN : zN σ ≤ 1000000) (hP : va_P D vwCl (zW (zad B sc tx) cy σ) H) (hS : va_S (fun q => B ≤ q) s.heap H locs) : B + zN σ ≤ H.size := by
  rcases Nat.eq_zero_or_pos (zN σ) with h | h
  · rw [h]; exact Nat.le_trans hBs hS.1
  · have h1 := (hP (zN σ - 1) _ (zW_at _ _ _ (by omega))).lt
    have h2 : zad B sc tx (zN σ - 1) < H.size := h1
    rw [zad_lt (by omega)] at h2
    omega
set_option maxHeartbeats 4000000 in
theorem zmna_ok (hx : p.tables.exec = Jvm.exec) (hb : c.code = cc) (hown : s.vm.findClass (zOw (zMI n).2.2.2.2.1) = some m.cls) (hts : ∀ w ∈ zWS, w.before args s = true) (hG : zGs D cy s) (hBs : B ≤ s.heap.size)
    {t : Nat} {k0 j0 : Int32} {st : List Value} {N K : Nat} (hd : decode cc pc = .ok (.multianewarray t 2, 4)) (hk : zlnk n (.multianewarray 18 2) t = true) (hk0 : ¬ k0 < 0) (hj0 : ¬ j0 < 0) (hjN : j0.toNatClampNeg = N) (hkK : k0.toNatClampNeg = K) (hc1 : zLY (zN σ) = (18, N)) (hc2 : ∀ j, j < N → zLY (zN σ + 1 + j) = (13, K))
    (hP : va_P D vwCl (zW (zad B sc tx) cy σ) H) (hS : va_S (fun q => B ≤ q) s.heap H locs) (hN : zN σ + (1 + N) < 1000000) (hs1 : N ≤ 100000) (hs2 : K ≤ 100000)
    (hr1 : cells + (1 + N) ≤ R.cells) (hr2 : slots + (N + N * K) ≤ R.slots) (hsz : s.heap.size + cells ≤ B + zN σ)
    (kk : ∀ H' locs', va_P D vwCl (zW (zad B sc tx) cy (zrR (znews (N + 1) σ) (zN σ) (fun j => if j < N then some (zN σ + 1 + j) else none))) H' → va_S (fun q => B ≤ q) s.heap H' locs' → W p l e R s m args below meth c H' locs' (cells + 1 + N) (slots + N + N * K) Q (F0 m (pc + 4) lsA (.ref (zad B sc tx (zN σ)) :: st))) : W p l e R s m args below meth c H locs cells slots Q (F0 m pc lsA (.int k0 :: .int j0 :: st)) := by
  subst hjN
  subst hkK
  have hlow := zsz_low (sc := sc) (tx := tx) hBs (by omega) hP hS
  refine zW_sz (k := B + zN σ) hsz fun hup => ?_
  have hsize : H.size = B + zN σ := Nat.le_antisymm hup hlow
  simp only [zlnk, decide_eq_true_eq] at hk
  have hlink := hts _ (zwA_in hk)
  unfold zwC at hlink
  have hlink : (Cond.classLink (zOw (zMI n).2.2.2.2.1) t ("[" ++ (FieldType.array .long).toString)).before args s = true := hlink
  have hover : (Cond.arrayOver (.array .long)).before args s = true := hG.2.2.2.2.2
  intro T hT X
  obtain ⟨vm₁, cA, comp, -, fA, fC, -, -, X', step⟩ := X.multianewarray2F hx hown hlink hover (hts _ (zAr_in (by decide +kernel))) (g := F0 m pc lsA (.int k0 :: .int j0 :: st)) rfl (by rw [hb]; exact hd) rfl hj0 hk0 (by omega) (by show _ * 8 ≤ _; omega) (by omega) rfl rfl hr1 hr2
  have e18 : cy 18 = cA := Option.some.inj ((hG.1.2 7 _ rfl).2.symm.trans fA)
  have e13 : cy 13 = comp := Option.some.inj ((hG.1.2 2 _ rfl).2.symm.trans fC)
  subst e18
  subst e13
  have hTh : (T.setVm vm₁).heap = H := hT
  obtain ⟨f1, f2, -, -⟩ := Jvm.Free.Multi.fill_facts (T.setVm vm₁) (cy 18) (cy 13) j0.toNatClampNeg k0.toNatClampNeg (defaultValue .long) j0.toNatClampNeg
  rw [hTh] at f1 f2
  have hold := fun (x : Nat) (hx : x < H.size) => Jvm.Free.Multi.fill_old (T.setVm vm₁) (cy 18) (cy 13) j0.toNatClampNeg k0.toNatClampNeg (defaultValue .long) (a := x) (by rw [hTh]; exact hx) j0.toNatClampNeg
  have hrow := fun (j : Nat) (hj : j < j0.toNatClampNeg) => Jvm.Free.Multi.fill_inner (T.setVm vm₁) (cy 18) (cy 13) j0.toNatClampNeg k0.toNatClampNeg (defaultValue .long) j0.toNatClampNeg j hj
  rw [hTh] at hold hrow
  generalize Jvm.Free.Multi.fill (T.setVm vm₁) (cy 18) (cy 13) j0.toNatClampNeg k0.toNatClampNeg (defaultValue .long) j0.toNatClampNeg = F at X' step f1 f2 hold hrow
  have hres := kk F.heap locs ?_ ?_ F rfl X'
  · obtain ⟨t, a1, b1⟩ := hres
    refine ⟨t, step t ?_, b1⟩
    have e0 : zad B sc tx (zN σ) = T.heap.size := by rw [zad_lt (by omega), ← hsize, hT]
    rw [← e0]
    exact a1
  · intro o q hq
    have ho : o < zN σ + (j0.toNatClampNeg + 1) := by
      have h := (List.getElem?_eq_some_iff.mp hq).1
      rw [zW_len] at h
      have h2 : zN (zrR (znews (j0.toNatClampNeg + 1) σ) (zN σ) (fun j => if j < j0.toNatClampNeg then some (zN σ + 1 + j) else none)) = zN σ + (j0.toNatClampNeg + 1) := zN_news _ _
      omega
    rw [zW_at _ _ _ (by show o < zN (znews _ σ); rw [zN_news]; exact ho)] at hq
    cases hq
    rcases Nat.lt_trichotomy o (zN σ) with h | h | h
    · have e1 : zel (zad B sc tx) cy (zrR (znews (j0.toNatClampNeg + 1) σ) (zN σ) (fun j => if j < j0.toNatClampNeg then some (zN σ + 1 + j) else none)) o = zel (zad B sc tx) cy σ o := by
        refine zel_congr ?_ ?_ ?_
        · show zI (znews _ σ) o = _; rw [zI_news, if_neg (by omega)]
        · show zL (znews _ σ) o = _; rw [zL_news, if_neg (by omega)]
        · show va_up _ _ _ o = _
          simp only [va_up, show ¬ o = zN σ by omega, if_false]
          show zR (znews _ σ) o = _; rw [zR_news, if_neg (by omega)]
      rw [e1]
      have h3 := hP o _ (zW_at _ _ _ h)
      exact h3.kept (hold _ h3.lt)
    · subst h
      have e1 : zel (zad B sc tx) cy (zrR (znews (j0.toNatClampNeg + 1) σ) (zN σ) (fun j => if j < j0.toNatClampNeg then some (zN σ + 1 + j) else none)) (zN σ) = .inl (cy 18, (j0.toNatClampNeg, .inr (.inr (.inr (.inr (fun j => if j < j0.toNatClampNeg then some (H.size + 1 + j) else none)))))) := by
        rw [zel_q (k := 18) (by rw [hc1]) (by omega), hc1]
        refine congrArg (fun f => Sum.inl (cy 18, j0.toNatClampNeg, Sum.inr (Sum.inr (Sum.inr (Sum.inr f))))) (funext fun x => ?_)
        have e2 : zR (zrR (znews (j0.toNatClampNeg + 1) σ) (zN σ) (fun j => if j < j0.toNatClampNeg then some (zN σ + 1 + j) else none)) (zN σ) = fun j => if j < j0.toNatClampNeg then some (zN σ + 1 + j) else none := by
          show va_up _ _ _ _ = _
          simp only [va_up, if_true]
        rw [e2]
        dsimp only
        by_cases h4 : x < j0.toNatClampNeg
        · simp only [h4, if_true, Option.map_some]
          rw [zad_lt (by omega), hsize]
          congr 1; omega
        · simp only [h4, if_false, Option.map_none]
      rw [e1]
      show F.heap[zad B sc tx (zN σ)]? = some (vp_cell _ _)
      rw [zad_lt (by omega), ← hsize, f2, vp_cell_q]
      exact congrArg some (vr_outer (cy 18) j0.toNatClampNeg H.size j0.toNatClampNeg)
    · obtain ⟨j, rfl⟩ : ∃ j, o = zN σ + 1 + j := ⟨o - zN σ - 1, by omega⟩
      have hj : j < j0.toNatClampNeg := by omega
      have e1 : zel (zad B sc tx) cy (zrR (znews (j0.toNatClampNeg + 1) σ) (zN σ) (fun j => if j < j0.toNatClampNeg then some (zN σ + 1 + j) else none)) (zN σ + 1 + j) = .inl (cy 13, (k0.toNatClampNeg, .inr (.inl (fun _ => 0)))) := by
        rw [zel_l (by rw [hc2 j hj]), hc2 j hj]
        show Sum.inl (cy 13, k0.toNatClampNeg, Sum.inr (Sum.inl (zL (znews _ σ) _))) = _
        rw [zL_news, if_pos (by omega)]
      rw [e1]
      show F.heap[zad B sc tx (zN σ + 1 + j)]? = some (vp_cell _ _)
      rw [zad_lt (by omega), show B + (zN σ + 1 + j) = H.size + 1 + j by omega, hrow j hj]
      exact congrArg some (arrV_new (cy 13) k0.toNatClampNeg (.long 0))
  · refine ⟨Nat.le_trans hS.1 (by omega), fun q h1 h2 => ?_, hS.2.2⟩
    rw [hold q (Nat.lt_of_lt_of_le h1 hS.1)]
    exact hS.2.1 q h1 h2
end ZMU
