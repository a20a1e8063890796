/-! NEW OBJECTS, CONSTANTS, ANSWERS -/
section ZMK
variable {p : Program} {l : Launch} {e : Env} {R : Room} {s : State} {m : MethodId} {args : Array Value} {below : List Frame} {meth : Method} {c : Code} {H : Heap} {locs : List Loc} {cells slots : Nat} {Q : State → Prop}
variable {cc : ByteArray} {pc : Nat} {lsA : Array Slot} {D : va_G} {cy : Nat → ClassId} {B sc : Nat} {tx : Nat → Nat} {n : Nat} {σ σ' : zSt}
/-- how large the heap is, when all cells made are told -/
theorem zW_sz {k : Nat} {g : JFrame} (h0 : s.heap.size + cells ≤ k) (kk : H.size ≤ k → W p l e R s m args below meth c H locs cells slots Q g) : W p l e R s m args below meth c H locs cells slots Q g := by
  intro T hT X
  exact kk (by rw [← hT]; exact Nat.le_trans X.heapSize h0) T hT X
theorem zlow {ws : va_W} {x : va_E} {q : Nat} (hN : zN σ ≤ 1000000) (hws : ws = zW (zad B sc tx) cy σ) (hP : va_P D vwCl (ws ++ [(q, x)]) H) (hD : va_D (fun q => B ≤ q) (ws ++ [(q, x)])) (hz : H.size ≤ B + zN σ + 1) : q = B + zN σ := by
  subst hws
  have hl : (zW (zad B sc tx) cy σ ++ [(q, x)])[zN σ]? = some (q, x) := by
    rw [List.getElem?_append_right (by rw [zW_len]; exact Nat.le_refl _), zW_len, Nat.sub_self]; rfl
  have h1 : q < H.size := (hP _ _ hl).lt
  have h2 : B ≤ q := hD.2 _ _ hl
  rcases Nat.lt_or_ge q (B + zN σ) with h3 | h3
  · exfalso
    have h4 : q - B < zN σ := by omega
    have h5 : (zW (zad B sc tx) cy σ ++ [(q, x)])[q - B]? = some (zad B sc tx (q - B), zel (zad B sc tx) cy σ (q - B)) := by
      rw [List.getElem?_append_left (by rw [zW_len]; exact h4), zW_at _ _ _ h4]
    have h6 := hD.1 _ _ _ _ h5 hl (by show zad B sc tx (q - B) = q; rw [zad_lt (by omega)]; omega)
    omega
  · omega
theorem zI_new (σ : zSt) : zI (znew σ) (zN σ) = fun _ => 0 := by show va_up _ _ _ _ = _; simp only [va_up, zN, if_true]
theorem zL_new (σ : zSt) : zL (znew σ) (zN σ) = fun _ => 0 := by show va_up _ _ _ _ = _; simp only [va_up, zN, if_true]
theorem zR_new (σ : zSt) : zR (znew σ) (zN σ) = fun _ => none := by show va_up _ _ _ _ = _; simp only [va_up, zN, if_true]
/-- the array class of a kind is the one that stands in the tables -/
theorem zcy_eq {t0 : Nat} {ty : FieldType} {k : Nat} {cA : ClassId} (hG : zGs D cy s) (ht : (zty cy)[t0]? = some (cy k, ty)) (hty : ∀ C, ty ≠ .object C) (hK : va_K D vwCl (zty cy ++ [(cA, ty)]) s) : cA = cy k := by
  have h1 := (hG.1.2 t0 _ ht).2
  have h2 := (hK.2 (zty cy).length (cA, ty) (by rw [List.getElem?_append_right (Nat.le_refl _), Nat.sub_self]; rfl)).2
  cases ty with
  | object C => exact absurd rfl (hty C)
  | _ => exact Option.some.inj (h2.symm.trans h1)
theorem zcy_eqO {t0 : Nat} {C : String} {k : Nat} {cA : ClassId} (hG : zGs D cy s) (ht : (zty cy)[t0]? = some (cy k, .object C)) (hK : va_K D vwCl (zty cy ++ [(cA, .object C)]) s) : cA = cy k := by
  obtain ⟨_, _, -, -, -, h1⟩ := (hG.1.2 t0 _ ht).2
  obtain ⟨_, _, -, -, -, h2⟩ := (hK.2 (zty cy).length (cA, .object C) (by rw [List.getElem?_append_right (Nat.le_refl _), Nat.sub_self]; rfl)).2
  exact Option.some.inj (h2.symm.trans h1)
theorem zad_N (hN : zN σ < 1000000) : zad B sc tx (zN σ) = B + zN σ := zad_lt hN
theorem zAr_in {a : FieldType} (h : Cond.arrayClass a ∈ [Cond.arrayClass .int, .arrayClass .byte, .arrayClass .long]) : Cond.arrayClass a ∈ zWS := zWS_of (zsub_in _ _ zAr_all _ h) rfl
set_option maxHeartbeats 4000000 in
theorem znew_ok (hx : p.tables.exec = Jvm.exec) (hb : c.code = cc) (hown : s.vm.findClass (zOw (zMI n).2.2.2.2.1) = some m.cls) (hts : ∀ w ∈ zWS, w.before args s = true) (hG : zGs D cy s) (hBs : B ≤ s.heap.size)
    {ci t : Nat} {st : List Value} (hd : decode cc pc = .ok (.new t, 3)) (hk : zlnk n (.new ci) t = true) (hc : (zLY (zN σ)).1 = ci) (hc2 : ci ≤ 10) (hP : va_P D vwCl (zW (zad B sc tx) cy σ) H) (hS : va_S (fun q => B ≤ q) s.heap H locs) (hN : zN σ < 1000000)
    (hr1 : cells + 1 ≤ R.cells) (hr2 : slots + (zLY (zN σ)).2 ≤ R.slots) (hsz : s.heap.size + cells ≤ B + zN σ)
    (k : ∀ H' locs', va_P D vwCl (zW (zad B sc tx) cy (znew σ)) H' → va_S (fun q => B ≤ q) s.heap H' locs' → W p l e R s m args below meth c H' locs' (cells + 1) (slots + (zLY (zN σ)).2) Q (F0 m (pc + 3) lsA (.ref (zad B sc tx (zN σ)) :: st))) : W p l e R s m args below meth c H locs cells slots Q (F0 m pc lsA st) := by
  simp only [zlnk, decide_eq_true_eq] at hk
  obtain ⟨q, hq1, hnum⟩ := zLY_obj (by omega : (zLY (zN σ)).1 ≤ 10)
  rw [hc] at hq1
  obtain ⟨hC1, hC2, -, -⟩ := zCl_all _ _ hq1
  have hlink := hts _ (zwC_in hk)
  have hcn : zCN ci = q.1 := by
    unfold zCN
    rw [if_neg (by omega), if_neg (by omega), if_neg (by omega), if_neg (by omega), hq1]
  unfold zwC at hlink
  simp only [hcn] at hlink
  have hins : ∀ (ci : Nat) (q : vw_C), vwCl[ci]? = some q → (q.1, q.2.2) ∈ zoIs ∧ q.1 ∈ zoIn := by
    intro ci q h
    match ci, h with
    | 0, h => cases h; exact ⟨by decide +kernel, by decide +kernel⟩
    | 1, h => cases h; exact ⟨by decide +kernel, by decide +kernel⟩
    | 2, h => cases h; exact ⟨by decide +kernel, by decide +kernel⟩
    | 3, h => cases h; exact ⟨by decide +kernel, by decide +kernel⟩
    | 4, h => cases h; exact ⟨by decide +kernel, by decide +kernel⟩
    | 5, h => cases h; exact ⟨by decide +kernel, by decide +kernel⟩
    | 6, h => cases h; exact ⟨by decide +kernel, by decide +kernel⟩
    | 7, h => cases h; exact ⟨by decide +kernel, by decide +kernel⟩
    | 8, h => cases h; exact ⟨by decide +kernel, by decide +kernel⟩
    | 9, h => cases h; exact ⟨by decide +kernel, by decide +kernel⟩
    | n + 10, h => simp [vwCl] at h
  have hty : ∃ ty : Nat → FieldType, ∀ k, k < q.2.2 → parseFieldDescriptor (q.2.1 k).2.2.1 = some (ty k) ∧ zsrt (zft ci k) (ty k) = true := ⟨fun k => (parseFieldDescriptor (q.2.1 k).2.2.1).getD .int, fun k hk => by
    obtain ⟨t1, e1, e2⟩ := hC2 k hk
    show parseFieldDescriptor (q.2.1 k).2.2.1 = some ((parseFieldDescriptor (q.2.1 k).2.2.1).getD .int) ∧ zsrt (zft ci k) ((parseFieldDescriptor (q.2.1 k).2.2.1).getD .int) = true
    rw [e1]; exact ⟨rfl, e2⟩⟩
  obtain ⟨ty, hty⟩ := hty
  refine va_new (fs := zfs (zad B sc tx) (znew σ) (zN σ) ci q.2.2) hx hb hts hC1 ty (fun k hk => (hty k hk).1) hown hlink (hts _ (zwIs_in (hins _ _ hq1).1)) (hts _ (zwIn_in (hins _ _ hq1).2)) hG.1 hP (zW_D (Nat.le_of_lt hN)) hS (fun q h => Nat.le_trans hBs h) hq1 ?_ hr1 (by rw [hnum]; exact hr2) hd fun q0 H1 hP1 hD1 hS1 => ?_
  · intro j hj
    have h1 := (hty j hj).2
    rw [vp_V, List.getD_eq_getElem?_getD, zfs_at hj]
    show defaultValue (ty j) = zfv _ _ _ _ _
    unfold zfv
    rw [zI_new, zL_new, zR_new]
    generalize zft ci j = z at h1
    generalize ty j = y at h1
    match z, y, h1 with
    | 0, .int, _ => rfl
    | 1, .long, _ => rfl
    | 2, .object _, _ => rfl
    | 2, .array _, _ => rfl
    | 3, .boolean, _ => rfl
  · rw [hnum]
    refine zW_sz (k := B + zN σ + 1) (by omega) fun hz => ?_
    have e := zlow (Nat.le_of_lt hN) rfl hP1 hD1 hz
    subst e
    rw [← zad_N (sc := sc) (tx := tx) hN] at hP1 ⊢
    refine k H1 locs ?_ hS1
    rw [zW_new, zel_o (by omega), hc, ← hnum]
    exact hP1
set_option maxHeartbeats 4000000 in
theorem znewa_ok (hx : p.tables.exec = Jvm.exec) (hb : c.code = cc) (hts : ∀ w ∈ zWS, w.before args s = true) (hG : zGs D cy s) (hBs : B ≤ s.heap.size)
    {aty : ArrayType} {j : Int32} {st : List Value} (hd : decode cc pc = .ok (.newarray aty, 2)) (hj : ¬ j < 0) (hc : zLY (zN σ) = (zaty aty, j.toNatClampNeg)) (hP : va_P D vwCl (zW (zad B sc tx) cy σ) H) (hS : va_S (fun q => B ≤ q) s.heap H locs) (hN : zN σ < 1000000) (hsm : (zLY (zN σ)).2 ≤ 100000)
    (hr1 : cells + 1 ≤ R.cells) (hr2 : slots + (zLY (zN σ)).2 ≤ R.slots) (hsz : s.heap.size + cells ≤ B + zN σ) (h4 : zaty aty ≤ 14)
    (k : ∀ H' locs', va_P D vwCl (zW (zad B sc tx) cy (znew σ)) H' → va_S (fun q => B ≤ q) s.heap H' locs' → W p l e R s m args below meth c H' locs' (cells + 1) (slots + (zLY (zN σ)).2) Q (F0 m (pc + 2) lsA (.ref (zad B sc tx (zN σ)) :: st))) : W p l e R s m args below meth c H locs cells slots Q (F0 m pc lsA (.int j :: st)) := by
  have hlen : (zLY (zN σ)).2 = j.toNatClampNeg := by rw [hc]
  have fin : ∀ (kd : Nat) (x : vp_A) (ty : FieldType) (t0 : Nat), (zty cy)[t0]? = some (cy kd, ty) → (∀ C, ty ≠ .object C) → zel (zad B sc tx) cy (znew σ) (zN σ) = .inl (cy kd, x) → ∀ (q : Nat) (cA : ClassId) (H1 : Heap), va_K D vwCl (zty cy ++ [(cA, ty)]) s → va_P D vwCl (zW (zad B sc tx) cy σ ++ [(q, .inl (cA, x))]) H1 → va_D (fun q => B ≤ q) (zW (zad B sc tx) cy σ ++ [(q, .inl (cA, x))]) → va_S (fun q => B ≤ q) s.heap H1 locs → W p l e R s m args below meth c H1 locs (cells + 1) (slots + j.toNatClampNeg) Q (F0 m (pc + 2) lsA (.ref q :: st)) := by
    intro kd x ty t0 ht0 hno hel q cA H1 hK1 hP1 hD1 hS1
    have e1 := zcy_eq hG ht0 hno hK1
    subst e1
    refine zW_sz (k := B + zN σ + 1) (by omega) fun hz => ?_
    have e := zlow (Nat.le_of_lt hN) rfl hP1 hD1 hz
    subst e
    rw [← zad_N (sc := sc) (tx := tx) hN] at hP1 ⊢
    rw [← hlen]
    refine k H1 locs ?_ hS1
    rw [zW_new, hel]
    exact hP1
  have hkd : (zLY (zN σ)).1 = zaty aty := by rw [hc]
  cases aty <;> first | (exact absurd h4 (by decide)) | skip
  case int =>
    refine va_newa (atype := .int) (ty := .int) (a0 := (j.toNatClampNeg, .inl (fun _ => 0))) hx hb (hts _ (zAr_in (by decide +kernel))) rfl hG.1 hP (zW_D (Nat.le_of_lt hN)) hS (fun q h => Nat.le_trans hBs h) (fun cA => rfl) hj rfl (by simp only [componentBytes]; omega) hr1 (by omega) hd ?_
    exact fin 12 _ .int 1 rfl (by intro C h; cases h) (by rw [zel_i hkd (by decide), zI_new, hlen]; rfl)
  case long =>
    refine va_newa (atype := .long) (ty := .long) (a0 := (j.toNatClampNeg, .inr (.inl (fun _ => 0)))) hx hb (hts _ (zAr_in (by decide +kernel))) rfl hG.1 hP (zW_D (Nat.le_of_lt hN)) hS (fun q h => Nat.le_trans hBs h) (fun cA => rfl) hj rfl (by simp only [componentBytes]; omega) hr1 (by omega) hd ?_
    exact fin 13 _ .long 2 rfl (by intro C h; cases h) (by rw [zel_l hkd, zL_new, hlen])
set_option maxHeartbeats 4000000 in
theorem znewq_ok (hx : p.tables.exec = Jvm.exec) (hb : c.code = cc) (hown : s.vm.findClass (zOw (zMI n).2.2.2.2.1) = some m.cls) (hts : ∀ w ∈ zWS, w.before args s = true) (hG : zGs D cy s) (hBs : B ≤ s.heap.size)
    {ci t : Nat} {j : Int32} {st : List Value} (hd : decode cc pc = .ok (.anewarray t, 3)) (hk : zlnk n (.anewarray ci) t = true) (h15 : ci = 15 ∨ ci = 16 ∨ ci = 17) (hj : ¬ j < 0) (hc : zLY (zN σ) = (ci, j.toNatClampNeg)) (hP : va_P D vwCl (zW (zad B sc tx) cy σ) H) (hS : va_S (fun q => B ≤ q) s.heap H locs) (hN : zN σ < 1000000) (hsm : (zLY (zN σ)).2 ≤ 100000)
    (hr1 : cells + 1 ≤ R.cells) (hr2 : slots + (zLY (zN σ)).2 ≤ R.slots) (hsz : s.heap.size + cells ≤ B + zN σ)
    (k : ∀ H' locs', va_P D vwCl (zW (zad B sc tx) cy (znew σ)) H' → va_S (fun q => B ≤ q) s.heap H' locs' → W p l e R s m args below meth c H' locs' (cells + 1) (slots + (zLY (zN σ)).2) Q (F0 m (pc + 3) lsA (.ref (zad B sc tx (zN σ)) :: st))) : W p l e R s m args below meth c H locs cells slots Q (F0 m pc lsA (.int j :: st)) := by
  have hlen : (zLY (zN σ)).2 = j.toNatClampNeg := by rw [hc]
  have hkd : (zLY (zN σ)).1 = ci := by rw [hc]
  simp only [zlnk, decide_eq_true_eq] at hk
  have hlink := hts _ (zwA_in hk)
  unfold zwC at hlink
  have fin : ∀ (C : String) (t0 : Nat), zCN ci = C → va_AO C s → (zty cy)[t0]? = some (cy ci, .object C) → W p l e R s m args below meth c H locs cells slots Q (F0 m pc lsA (.int j :: st)) := by
    intro C t0 hC hAO ht0
    rw [hC] at hlink
    refine va_newq hx hb hown hlink hAO hG.1 hP (zW_D (Nat.le_of_lt hN)) hS (fun q h => Nat.le_trans hBs h) hj rfl (by omega) hr1 (by omega) hd fun q cA H1 hK1 hP1 hD1 hS1 => ?_
    have e1 := zcy_eqO hG ht0 hK1
    subst e1
    refine zW_sz (k := B + zN σ + 1) (by omega) fun hz => ?_
    have e := zlow (Nat.le_of_lt hN) rfl hP1 hD1 hz
    subst e
    rw [← zad_N (sc := sc) (tx := tx) hN] at hP1 ⊢
    rw [← hlen]
    refine k H1 locs ?_ hS1
    rw [zW_new, zel_q hkd (by omega), zR_new, hlen]
    exact hP1
  obtain ⟨hS1, hP2, hR1, -⟩ := hG.2.2
  rcases h15 with rfl | rfl | rfl
  · exact fin _ 4 rfl hP2 rfl
  · exact fin _ 5 rfl hR1 rfl
  · exact fin _ 6 rfl hS1 rfl
end ZMK
