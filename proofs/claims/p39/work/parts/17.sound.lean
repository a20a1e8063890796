/-! THE CONTRACT OF EVERY METHOD: what the small machine answers, the claim's machine answers -/
/-- a method's contract, out of a run -/
def zCt (l : Launch) (D : va_G) (cy : Nat → ClassId) (B sc : Nat) (tx : Nat → Nat) (y : Nat) (a : List Value) (σ σ' : zSt) (r : Option Value) : Prop :=
  Met l (zMI y).1 (zwc y :: zWS) { frames := (zMI y).2.2.2.2.2.1, cells := zN σ' - zN σ, slots := zSl (zN σ') - zSl (zN σ), locals := (zMI y).2.2.2.2.2.2 } (va_Pc (a.map (zv (zad B sc tx))) (zWd D cy B sc tx σ)) (fun _ st oc t => (oc = .returned (r.map (zv (zad B sc tx))) ∧ zWd D cy B sc tx σ' t) ∧ va_F (fun q => B ≤ q) st t) (zN σ' - zN σ) (zSl (zN σ') - zSl (zN σ)) (fun q => B ≤ q)
theorem zWd_blind {D : va_G} {cy : Nat → ClassId} {B sc : Nat} {tx : Nat → Nat} {σ : zSt} {av : List Value} : FrameBlind (va_Pc av (zWd D cy B sc tx σ)) := by
  intro a U g mk h
  obtain ⟨h0, h1, h2, h3, h4, h5, h6⟩ := h
  have hW : U.WarmedH (U.calling g mk a).vm := State.WarmedH.refl U
  exact ⟨h0, h1, h2, h3.go hW, h4.go hW (fun _ _ _ => rfl), va_X.moved (Vm.Alike.refl U.vm) h5, h6⟩
theorem zLM_ok : ∀ q ∈ zLM, q.2.2 < 137 ∨ (900 ≤ q.2.2 ∧ q.2.2 ≤ 907) := by decide +kernel
theorem zLN_ok : ∀ q ∈ zLN, q.2.2 < 137 := by decide +kernel
theorem zoT_ok : ∀ y ∈ zoT, y < 137 ∨ (900 ≤ y ∧ y ≤ 904) := by decide +kernel
theorem zoS_ok : ∀ y ∈ zoS, y < 137 ∨ y = 905 ∨ y = 906 := by decide +kernel
theorem zoN_ok : ∀ y, 900 ≤ y → y ≤ 904 → y ∈ zoN ∧ y ∈ zoT := by
  intro y h1 h2
  rcases (show y = 900 ∨ y = 901 ∨ y = 902 ∨ y = 903 ∨ y = 904 by omega) with rfl | rfl | rfl | rfl | rfl <;> exact ⟨by decide +kernel, by decide +kernel⟩
/-- what the check of a method says -/
theorem zmth_inv {n : Nat} (h : n < 138) : (zMI n).2.2.1 = zML n ∧ (parseMethodDescriptor (zMI n).1.desc).map (fun d => d.parameters.length) = some (if n ∈ zoT ∨ n = 137 then zNA n else zNA n - 1) ∧ (1 ≤ zNA n ∨ n ∈ zoT) ∧ plainFor (zMI n).1 = true ∧ (zMI n).1.cls ∈ zoIn ∧ (zMI n).1.cls = zOw (zMI n).2.2.2.2.1 ∧ (n ∈ zoT ∨ n = 137 ∨ (vwCl[zCI n]?).map (fun q => q.1) = some (zMI n).1.cls) := by
  have h1 := List.all_eq_true.mp zmth2_all n (List.mem_range.mpr h)
  unfold zmth2 at h1
  simp only [Bool.and_eq_true, Bool.or_eq_true, decide_eq_true_eq] at h1
  obtain ⟨h2, h3, h4, h5, h6, h7, h8⟩ := h1
  exact ⟨h2, h3, h4, h5, h6, h7, by rcases h8 with (h | h) | h <;> simp [h]⟩
theorem zins_inv {n pc : Nat} {i : Instr} {len t : Nat} (h : n < 138) (hq : (zcode n)[pc]? = some (some (i, len, t))) : decode (zMI n).2.1 pc = .ok (zreal i t, len) ∧ zlenOK i len = true ∧ (∀ o ∈ zoffs i, 0 ≤ (pc : Int) + o) ∧ zlocs i ≤ (zMI n).2.2.1 ∧ zlnk n i t = true ∧ zrmk n i = true := by
  have h2 := zPl_138 n h pc _ hq
  unfold zins at h2
  simp only [Bool.and_eq_true, decide_eq_true_eq, List.all_eq_true] at h2
  obtain ⟨a, b, c, d, e, f⟩ := h2
  exact ⟨a, b, c, d, e, f⟩
theorem zreal_pst {i : Instr} {t : Nat} {st st' : List Value} (h : zpst i st = some st') : zreal i t = i := by
  cases i <;> first | rfl | (cases h)
theorem zreal_br {i : Instr} {t : Nat} {st : List Value} {q : Bool × Int × List Value} (h : zbr i st = some q) : zreal i t = i := by
  cases i <;> first | rfl | (cases h)
theorem zreal_loc {i : Instr} {t : Nat} {st : List Value} {ls : zLv} {q : zLv × List Value} (h : zloc i ls st = some q) : zreal i t = i := by
  cases i <;> first | rfl | (cases h)
/-- what holds in a method's body -/
def zCtx (p : Program) (s : State) (m : MethodId) (args : Array Value) (meth : Method) (c : Code) (D : va_G) (cy : Nat → ClassId) (B sc : Nat) (tx : Nat → Nat) (n : Nat) (σ0 : zSt) : Prop :=
  p.tables.exec = Jvm.exec ∧ c.code = (zMI n).2.1 ∧ c.maxLocals = (zMI n).2.2.1 ∧ s.vm.findClass (zOw (zMI n).2.2.2.2.1) = some m.cls ∧ (∀ w ∈ zWS, w.before args s = true) ∧ ((zMI n).1.name = "<init>" → meth.name = "<init>") ∧ zWd D cy B sc tx σ0 s
theorem zinit_ret : ∀ y, y < 138 → (zMI y).1.name = "<init>" → (zMI y).2.2.2.1 = none := by
  have key : (List.range 138).all (fun y => !decide ((zMI y).1.name = "<init>") || decide ((zMI y).2.2.2.1 = none)) = true := by decide +kernel
  intro y hy h
  have h1 := List.all_eq_true.mp key y (List.mem_range.mpr hy)
  simp only [Bool.or_eq_true, Bool.not_eq_true', decide_eq_false_iff_not, decide_eq_true_eq] at h1
  exact h1.resolve_left (fun q => q h)
theorem zmem_N {i : Instr} {st st' : List Value} {σ σ' : zSt} (h : zmem i st σ = some (st', σ')) : zN σ' = zN σ := by
  unfold zmem at h
  split at h
  all_goals (repeat' (first | (cases h; done) | split at h))
  all_goals (cases h; rfl)
section ZNT
variable {p : Program} {l : Launch} {e : Env} {R : Room} {s : State} {m : MethodId} {args : Array Value} {below : List Frame} {meth : Method} {c : Code} {H : Heap} {locs : List Loc} {cells slots : Nat} {Q : State → Prop}
variable {pc : Nat} {lsA : Array Slot} {D : va_G} {cy : Nat → ClassId} {B sc : Nat} {tx : Nat → Nat} {n : Nat} {σ σ' σ0 : zSt}
theorem zsum_map (ad : Nat → Nat) (r : List Value) : ((r.map (zv ad)).map (fun v => v.category)).sum = (r.map (fun v => v.category)).sum := by
  rw [List.map_map]
  congr 1
  apply List.map_congr_left
  intro v _
  exact zv_cat ad v
set_option maxHeartbeats 4000000 in
theorem znat_ok (C0 : zCtx p s m args meth c D cy B sc tx n σ0) (hN : zN σ ≤ 900000) (hf : 1 ≤ R.frames) (hlo : 40 ≤ R.locals) {y t : Nat} {a r : List Value} {v : Option Value} (hd : decode (zMI n).2.1 pc = .ok (.invokestatic t, 3)) (hk : ((zMI n).2.2.2.2.1, t, y) ∈ zLM) (hy1 : 900 ≤ y) (hy2 : y ≤ 904) (h : znat y a σ = some (σ', v)) (hP : va_P D vwCl (zW (zad B sc tx) cy σ) H) (hS : va_S (fun q => B ≤ q) s.heap H locs) (hsum : (r.map (fun v => v.category)).sum ≤ 8) (hsz : lsA.size = (zMI n).2.2.1)
    (k : ∀ H1 locs1, va_P D vwCl (zW (zad B sc tx) cy σ') H1 → va_S (fun q => B ≤ q) s.heap H1 locs1 → W p l e R s m args below meth c H1 locs1 cells slots Q (F0 m (pc + 3) lsA ((v.toList ++ r).map (zv (zad B sc tx))))) : W p l e R s m args below meth c H locs cells slots Q (F0 m pc lsA ((a.reverse ++ r).map (zv (zad B sc tx)))) := by
  obtain ⟨hx, hb, hml, hown, hts, -, -, -, hG, -⟩ := C0
  have hlink := hts _ (zwM_in hk)
  simp only [zwM] at hlink
  have hnat := hts _ (zwNa_in (zoN_ok y hy1 hy2).1)
  have hstat := hts _ (zwT_in (zoN_ok y hy1 hy2).2)
  have hsum2 := hsum
  rw [← zsum_map (zad B sc tx)] at hsum2
  have hml2 : c.maxLocals = lsA.size := hml.trans hsz.symm
  rcases (show y = 900 ∨ y = 901 ∨ y = 902 ∨ y = 903 ∨ y = 904 by omega) with rfl | rfl | rfl | rfl | rfl
  · have hini := hts _ (zwIn_in (c := "java/lang/System") (by decide +kernel))
    have e : (zMI 900).1 = arraycopyName := by decide +kernel
    rw [e] at hlink hnat hstat
    unfold znat at h
    simp only at h
    split at h
    · rename_i x i y j k0
      split at h
      · rename_i hc
        obtain ⟨h1, h2, h3, h4, h5, h6, h7, h8⟩ := hc
        split at h
        · rename_i hkd
          cases h
          refine va_copyi (tys := zty cy) (ws := zW (zad B sc tx) cy σ) hx hb hml2 hown hlink hnat hstat hini hG.1 hP (zW_D (by omega)) hS x y 1 1 (by rw [zW_at _ _ _ h1, zel_i hkd (by omega)]) (by rw [zW_at _ _ _ h2, zel_i (h8.symm.trans hkd) (by omega)]) rfl rfl rfl h3 h4 h5 h6 h7 (fun _ _ => rfl) hf (Nat.le_trans (Nat.add_le_add_right hsum2 18) (by omega)) hd fun H1 locs1 hP1 _ hS1 => ?_
          rw [zW_set' (σ := σ) (σ' := zrI σ y (va_cpy (zI σ x) (zI σ y) i.toNatClampNeg j.toNatClampNeg k0.toNatClampNeg)) (x := .inl (cy 12, (zLY y).2, .inl (va_cpy (zI σ x) (zI σ y) i.toNatClampNeg j.toNatClampNeg k0.toNatClampNeg))) (by rw [zel_i (h8.symm.trans hkd) (by omega), zI_r]) rfl zel_rI] at hP1
          exact k H1 locs1 hP1 hS1
        · split at h
          · rename_i _ hkd
            cases h
            refine va_copyl (tys := zty cy) (ws := zW (zad B sc tx) cy σ) hx hb hml2 hown hlink hnat hstat hini hG.1 hP (zW_D (by omega)) hS x y 2 2 (by rw [zW_at _ _ _ h1, zel_l hkd]) (by rw [zW_at _ _ _ h2, zel_l (h8.symm.trans hkd)]) rfl rfl rfl h3 h4 h5 h6 h7 (fun _ _ => rfl) hf (Nat.le_trans (Nat.add_le_add_right hsum2 18) (by omega)) hd fun H1 locs1 hP1 _ hS1 => ?_
            rw [zW_set' (σ := σ) (σ' := zrL σ y (va_cpy (zL σ x) (zL σ y) i.toNatClampNeg j.toNatClampNeg k0.toNatClampNeg)) (x := .inl (cy 13, (zLY y).2, .inr (.inl (va_cpy (zL σ x) (zL σ y) i.toNatClampNeg j.toNatClampNeg k0.toNatClampNeg)))) (by rw [zel_l (h8.symm.trans hkd), zL_r]) rfl zel_rL] at hP1
            exact k H1 locs1 hP1 hS1
          · cases h
      · cases h
    · cases h
  · have hini := hts _ (zwIn_in (c := "java/lang/Double") (by decide +kernel))
    have e : (zMI 901).1 = ⟨"java/lang/Double", "doubleToRawLongBits", "(D)J"⟩ := by decide +kernel
    rw [e] at hlink hnat hstat
    unfold znat at h
    simp only at h
    split at h
    · cases h
      exact vn_d2l hx hb hml2 hown hlink hnat hstat hini hf (Nat.le_trans (Nat.add_le_add_right hsum2 15) (by omega)) hd (k H locs hP hS)
    · cases h
  · have hini := hts _ (zwIn_in (c := "java/lang/Double") (by decide +kernel))
    have e : (zMI 902).1 = ⟨"java/lang/Double", "longBitsToDouble", "(J)D"⟩ := by decide +kernel
    rw [e] at hlink hnat hstat
    unfold znat at h
    simp only at h
    split at h
    · split at h
      · rename_i hv
        cases h
        exact vn_l2d hx hb hml2 hown hlink hnat hstat hini hv hf (Nat.le_trans (Nat.add_le_add_right hsum2 15) (by omega)) hd (k H locs hP hS)
      · cases h
    · cases h
  · have hini := hts _ (zwIn_in (c := "java/lang/Float") (by decide +kernel))
    have e : (zMI 903).1 = ⟨"java/lang/Float", "floatToRawIntBits", "(F)I"⟩ := by decide +kernel
    rw [e] at hlink hnat hstat
    unfold znat at h
    simp only at h
    split at h
    · cases h
      exact vn_f2i hx hb hml2 hown hlink hnat hstat hini hf (Nat.le_trans (Nat.add_le_add_right hsum2 15) (by omega)) hd (k H locs hP hS)
    · cases h
  · have hini := hts _ (zwIn_in (c := "java/lang/Float") (by decide +kernel))
    have e : (zMI 904).1 = ⟨"java/lang/Float", "intBitsToFloat", "(I)F"⟩ := by decide +kernel
    rw [e] at hlink hnat hstat
    unfold znat at h
    simp only at h
    split at h
    · split at h
      · rename_i hv
        cases h
        exact vn_i2f hx hb hml2 hown hlink hnat hstat hini hv hf (Nat.le_trans (Nat.add_le_add_right hsum2 15) (by omega)) hd (k H locs hP hS)
      · cases h
    · cases h
end ZNT
