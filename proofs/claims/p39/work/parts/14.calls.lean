/-! WHAT STAYS FROM STATE TO STATE; ANSWERS; CALLS -/
/-- the strings, and two statics of the JDK's -/
def zSr (j : Nat) : String × Nat × String := (zSRl[j]?).getD (RL, 0, "")
def zSg (B : Nat) (tx : Nat → Nat) (U : State) : Prop := (∀ j, j < 22 → vk_R (zSr j).1 (zSr j).2.1 (zSr j).2.2 (tx j) U) ∧ (∃ ad : Nat → Nat, vk_S 22 (zTXl.map List.length) zTXl tx ad (fun q => B ≤ q) U U.heap) ∧ va_Z "java/lang/String" "COMPACT_STRINGS" "Z" (.int 1) (fun q => B ≤ q) U U.heap ∧ va_Zq "jdk/internal/util/Preconditions" "SIOOBE_FORMATTER" "Ljava/util/function/BiFunction;" (fun q => B ≤ q) U U.heap
theorem zSg.go {B : Nat} {tx : Nat → Nat} {s t : State} (hW : s.WarmedH t.vm) (hk : ∀ a : Nat, a < s.heap.size → ¬ B ≤ a → t.heap[a]? = s.heap[a]?) (h : zSg B tx s) : zSg B tx t := by
  obtain ⟨h1, ⟨ad, h2⟩, h3, h4⟩ := h
  exact ⟨fun j hj => vk_R.warm hW (h1 j hj), ⟨ad, (vk_S.moved hW.alike h2).kept hk⟩, (va_Z.moved hW.alike h3).kept hk, (va_Zq.moved hW.alike h4).kept hk⟩
/-- what a link to a string says -/
theorem zLS_ok : ∀ q ∈ zLS, ∃ k, k < 22 ∧ zCT[q.2.2]? = some (.ref (zSTR + k)) ∧ zOw q.1 = (zSr k).1 ∧ q.2.1 = (zSr k).2.1 := by
  have key : ∀ q ∈ zLS, (List.range 22).any (fun k => decide (zCT[q.2.2]? = some (.ref (zSTR + k))) && (decide (zOw q.1 = (zSr k).1) && decide (q.2.1 = (zSr k).2.1))) = true := by decide +kernel
  intro q hq
  obtain ⟨k, hk, h⟩ := List.any_eq_true.mp (key q hq)
  simp only [Bool.and_eq_true, decide_eq_true_eq] at h
  exact ⟨k, List.mem_range.mp hk, h.1, h.2.1, h.2.2⟩
/-- arrays of rows of longs: as the tables have them, in every state of this start -/
theorem zAOA_go {u U : State} (hvm : u.vm.Alike U.vm) (h : va_Nw (.arrayOver (.array .long)) u) : va_Nw (.arrayOver (.array .long)) U := by
  unfold va_Nw Cond.before Cond.holds at h ⊢
  simp only [Cond.value, beq_iff_eq] at h ⊢
  rw [hvm.findClass]
  cases hc : u.vm.findClass (FieldType.array .long).toString with
  | none => rw [hc] at h; cases h
  | some comp =>
    rw [hc, Option.bind_some] at h
    rw [Option.bind_some]
    rw [hvm.findIdx?_eq _ (fun _ => rfl)]
    generalize Array.findIdx? _ u.vm.classes = r at h ⊢
    cases r with
    | none => cases h
    | some c =>
      rw [Option.bind_some] at h ⊢
      cases hk : u.vm.classes[c]? with
      | none => rw [hk] at h; cases h
      | some k =>
        obtain ⟨k', hk', he⟩ := hvm.2.2 _ _ hk
        rw [hk] at h
        rw [hk']
        have hkind : k'.kind = k.kind := by rw [he]
        simp only [Option.map_some, hkind, hvm.findClass] at h ⊢
        exact h
theorem zGs.go {D : va_G} {cy : Nat → ClassId} {s t : State} (hW : s.WarmedH t.vm) (h : zGs D cy s) : zGs D cy t := by
  obtain ⟨h1, h2, h3, h4, h5, h6⟩ := h
  refine ⟨va_K.moved hW.alike h1, fun q hq => va_Nw.warmM hW (h2 q hq), va_AO.moved hW.alike h3, va_AO.moved hW.alike h4, va_AO.moved hW.alike h5, ?_⟩
  exact zAOA_go hW.alike h6
/-- THE WORLD of a store, in a state of the claim's machine -/
def zWd (D : va_G) (cy : Nat → ClassId) (B sc : Nat) (tx : Nat → Nat) (σ : zSt) (U : State) : Prop :=
  U.heap.size = B + zN σ ∧ va_P D vwCl (zW (zad B sc tx) cy σ) U.heap ∧ zGs D cy U ∧ zSg B tx U ∧ va_X sc ((zR σ zSCR 0).getD 0) (zI σ zSCR) U U.heap ∧ sc < B
theorem zWd.go {D : va_G} {cy : Nat → ClassId} {B sc : Nat} {tx : Nat → Nat} {σ σ' : zSt} {s t : State} {H : Heap} {locs : List Loc} (h : zWd D cy B sc tx σ s) (hW : s.WarmedH t.vm) (ht : t.heap = H) (hz : H.size = B + zN σ') (hP : va_P D vwCl (zW (zad B sc tx) cy σ') H) (hS : va_S (fun q => B ≤ q) s.heap H locs) (hk : zI σ' zSCR = zI σ zSCR ∧ zR σ' zSCR = zR σ zSCR) : zWd D cy B sc tx σ' t := by
  obtain ⟨h1, h2, h3, h4, h5, h6⟩ := h
  subst ht
  refine ⟨hz, hP, h3.go hW, h4.go hW hS.2.1, ?_, h6⟩
  rw [hk.1, hk.2]
  exact (va_X.moved hW.alike h5).kept (hS.2.1 sc (by omega) (by show ¬ B ≤ sc; omega))
section ZCL
variable {p : Program} {l : Launch} {e : Env} {R : Room} {s : State} {m : MethodId} {args : Array Value} {below : List Frame} {meth : Method} {c : Code} {H : Heap} {locs : List Loc} {cells slots : Nat} {Q : State → Prop}
variable {cc : ByteArray} {pc : Nat} {lsA : Array Slot} {D : va_G} {cy : Nat → ClassId} {B sc : Nat} {tx : Nat → Nat} {n : Nat} {σ σ' : zSt}
set_option maxHeartbeats 4000000 in
theorem zret_ok {Qc : Array Value → State → Outcome → State → Prop} {free : Addr → Prop} (hx : p.tables.exec = Jvm.exec) (hb : c.code = cc) (ad : Nat → Nat) (hr : meth.sig.returnType = (zMI n).2.2.2.1) (hlocks : meth.locks = false) {i : Instr} {t len : Nat} {st : List Value} {r : Option Value} (hd : decode cc pc = .ok (zreal i t, len)) (hl : zlenOK i len = true) (hk : zlnk n i t = true) (h : zret i t st = some r)
    (hq : ∀ t : State, t.heap = H → s.WarmedH t.vm → Qc args s (.returned (r.map (zv ad))) t) (hf : ∀ q ∈ locs, free q.base) : W p l e R s m args below meth c H locs cells slots (MQ below Qc args s cells slots free) (F0 m pc lsA (st.map (zv ad))) := by
  unfold zret at h
  split at h
  · have hl : 1 = len := eq_of_beq hl
    subst hl
    split at h
    · cases h
      simp only [zlnk, decide_eq_true_eq] at hk
      exact W.vret hx hb (hr.trans hk) hq hf hd
    · cases h
  · have hl : 1 = len := eq_of_beq hl
    subst hl
    split at h
    · split at h
      · rename_i hz
        cases h
        simp only [zlnk, Bool.or_eq_true, decide_eq_true_eq] at hk
        rcases hk with ⟨hk, e⟩ | ⟨hk, e⟩
        · exact W.iret hx hb (hr.trans hk) hq hf hd
        · rcases hz with hz | ⟨-, rfl | rfl⟩
          · omega
          · exact W.zret (ty := .boolean) hx hb (hr.trans hk) (by decide) hq hf hd
          · exact W.zret (ty := .boolean) hx hb (hr.trans hk) (by decide) hq hf hd
      · cases h
    · cases h
  · have hl : 1 = len := eq_of_beq hl
    subst hl
    split at h
    · cases h
      simp only [zlnk, decide_eq_true_eq] at hk
      exact W.lret hx hb (hr.trans hk) hq hf hd
    · cases h
  · have hl : 1 = len := eq_of_beq hl
    subst hl
    split at h
    · cases h
      simp only [zlnk, decide_eq_true_eq] at hk
      exact W.fret hx hb (hr.trans hk) hq hf hd
    · cases h
  · have hl : 1 = len := eq_of_beq hl
    subst hl
    split at h
    · cases h
      simp only [zlnk, decide_eq_true_eq] at hk
      exact W.dret hx hb (hr.trans hk) hq hf hd
    · cases h
  · have hl : 1 = len := eq_of_beq hl
    subst hl
    have hk2 : ∃ rt, (zMI n).2.2.2.1 = some rt ∧ ((∃ n, rt = .object n) ∨ ∃ t, rt = .array t) := by
      simp only [zlnk] at hk
      split at hk
      · rename_i o e; exact ⟨_, e, Or.inl ⟨_, rfl⟩⟩
      · rename_i o e; exact ⟨_, e, Or.inr ⟨_, rfl⟩⟩
      · cases hk
    obtain ⟨rt, hk3, hk4⟩ := hk2
    split at h
    · cases h
      exact W.aret hx hb (hr.trans hk3) hk4 (Or.inr ⟨_, rfl⟩) hq hf hd
    · cases h
      exact W.aret hx hb (hr.trans hk3) hk4 (Or.inl rfl) hq hf hd
    · cases h
  · cases h
theorem zldcwF (hx : p.tables.exec = Jvm.exec) (hb : c.code = cc) {ls : Array Slot} {rest : List Value} {own : String} {index : Nat} {v : UInt32} (hown : s.vm.findClass own = some m.cls) (hconst : (Jvm.Cond.constantFloat own index v).before args s = true) (hdg : decode cc pc = .ok (.ldc_w index, 3)) (k : W p l e R s m args below meth c H locs cells slots Q (F0 m (pc + 3) ls (.float v :: rest))) : W p l e R s m args below meth c H locs cells slots Q (F0 m pc ls rest) := by
  obtain ⟨kc, cf, hkc, hcf, hcp⟩ := Cond.constantFloat_spec hown hconst
  intro T hT X
  obtain ⟨t, a, b⟩ := k T hT X
  refine ⟨t, ?_, b⟩
  obtain ⟨k', hk', he⟩ := X.warmed.alike.2.2 _ _ hkc
  jvm_step X.here [hx, hb, hdg, ldc_w.wp_float (s := T) (f := F0 m pc ls rest) X.here.top hk' (by rw [he]; exact hcf) hcp]
  exact a
/-- constants -/
theorem zcst_ok (hx : p.tables.exec = Jvm.exec) (hb : c.code = cc) (hown : s.vm.findClass (zOw (zMI n).2.2.2.2.1) = some m.cls) (hts : ∀ w ∈ zWS, w.before args s = true) (hSg : zSg B tx s) {i : Instr} {t len : Nat} {st st' : List Value} (hd : decode cc pc = .ok (zreal i t, len)) (hl : zlenOK i len = true) (hk : zlnk n i t = true) (h : zcst i st = some st')
    (k : W p l e R s m args below meth c H locs cells slots Q (F0 m (pc + len) lsA (st'.map (zv (zad B sc tx))))) : W p l e R s m args below meth c H locs cells slots Q (F0 m pc lsA (st.map (zv (zad B sc tx)))) := by
  have hstr : ∀ k, zad B sc tx (zSTR + k) = tx k := fun k => by unfold zad; rw [if_neg (by unfold zSTR zSCR; omega), if_pos (by omega), show zSTR + k - zSTR = k by omega]
  unfold zcst at h
  split at h
  · rename_i j
    have hl : 2 = len := eq_of_beq hl
    subst hl
    cases hv : zCT[j]? with
    | none => rw [hv] at h; cases h
    | some v =>
      rw [hv] at h
      cases h
      simp only [zlnk, hv, Bool.or_eq_true, Bool.and_eq_true, decide_eq_true_eq] at hk
      rcases hk with hk | ⟨hk, hk2⟩
      · obtain ⟨k0, hk0, e1, e2, e3⟩ := zLS_ok _ hk
        have e1 : zCT[j]? = some (.ref (zSTR + k0)) := e1
        have e2 : zOw (zMI n).2.2.2.2.1 = (zSr k0).1 := e2
        have e3 : t = (zSr k0).2.1 := e3
        rw [hv] at e1
        cases e1
        rw [e2] at hown
        have hR := hSg.1 k0 hk0
        rw [← e3] at hR
        have k : W p l e R s m args below meth c H locs cells slots Q (F0 m (pc + 2) lsA (.ref (zad B sc tx (zSTR + k0)) :: st.map (zv (zad B sc tx)))) := k
        rw [hstr] at k
        exact va_ldcS hx hb hown hR hd k
      · have hc := hts _ (zwK_in hk)
        unfold zwK at hc
        simp only [hv, Option.getD_some] at hc hk2
        cases v <;> first | (cases hk2; done) | skip
        · exact lv_ldc hx hb hown hc hd k
        · exact lv_ldcf hx hb hown hc hd k
  · rename_i j
    have hl : 3 = len := eq_of_beq hl
    subst hl
    cases hv : zCT[j]? with
    | none => rw [hv] at h; cases h
    | some v =>
      rw [hv] at h
      cases h
      simp only [zlnk, hv, Bool.and_eq_true, decide_eq_true_eq] at hk
      have hc := hts _ (zwK_in hk.1)
      unfold zwK at hc
      have hk2 := hk.2
      simp only [hv, Option.getD_some] at hc hk2
      cases v <;> first | (cases hk2; done) | skip
      · exact lv_ldcw hx hb hown hc hd k
      · exact zldcwF hx hb hown hc hd k
  · rename_i j
    have hl : 3 = len := eq_of_beq hl
    subst hl
    cases hv : zCT[j]? with
    | none => rw [hv] at h; cases h
    | some v =>
      rw [hv] at h
      cases h
      simp only [zlnk, hv, Bool.and_eq_true, decide_eq_true_eq] at hk
      have hc := hts _ (zwK_in hk.1)
      unfold zwK at hc
      have hk2 := hk.2
      simp only [hv, Option.getD_some] at hc hk2
      cases v <;> first | (cases hk2; done) | skip
      · exact lv_ldc2 hx hb hown hc hd k
      · exact lv_ldc2d hx hb hown hc hd k
  · cases h
/-- a call, whatever it answers -/
theorem zcall_ok {Qa : State → Outcome → State → Prop} {free : Addr → Prop} {mc ms : Nat} {rest st0 : List Value} {v : Option Value} {P : Heap → Prop} (hr : va_Run p l e R s m args below meth c H locs cells slots mc ms (F0 m pc lsA st0) rest Qa free) (hQ : ∀ st o t, Qa st o t → (o = .returned v ∧ P t.heap) ∧ va_F (fun q => B ≤ q) st t) (hS : va_S (fun q => B ≤ q) s.heap H locs) (hf : ∀ q, free q → B ≤ q)
    (kk : ∀ (H1 : Heap) (locs1 : List Loc), P H1 → va_S (fun q => B ≤ q) s.heap H1 locs1 → W p l e R s m args below meth c H1 locs1 (cells + mc) (slots + ms) Q (F0 m (pc + 3) lsA (v.toList ++ rest))) : W p l e R s m args below meth c H locs cells slots Q (F0 m pc lsA st0) := by
  intro T hT X
  obtain ⟨v', st₀, t, T', L, h0, X', hL, e1, e2, hq, st⟩ := hr T hT X
  obtain ⟨⟨hv, hP⟩, hz, hk⟩ := hQ _ _ _ hq
  cases hv
  rw [h0] at hz hk
  obtain ⟨t2, a1, b1⟩ := kk T'.heap (locs ++ L) (by rw [e1]; exact hP)
    ⟨Nat.le_trans hS.1 (by rw [e1]; exact hz), fun q h1 h2 => by rw [e1, hk q (Nat.lt_of_lt_of_le h1 hS.1) h2]; exact hS.2.1 q h1 h2, fun q hq => by
      rcases List.mem_append.mp hq with h | h
      · exact hS.2.2 q h
      · exact hf _ (hL q h)⟩ T' rfl X'
  exact ⟨t2, st t2 a1, b1⟩
end ZCL
theorem zpop_inv : ∀ {n : Nat} {st a r : List Value}, zpop n st = some (a, r) → st = a.reverse ++ r ∧ a.length = n
  | 0, st, a, r, h => by cases h; exact ⟨rfl, rfl⟩
  | n + 1, [], a, r, h => by cases h
  | n + 1, v :: st, a, r, h => by
    rw [zpop] at h
    cases hz : zpop n st with
    | none => rw [hz] at h; cases h
    | some q =>
      rw [hz] at h
      cases h
      obtain ⟨h1, h2⟩ := zpop_inv (a := q.1) (r := q.2) hz
      refine ⟨?_, by simp [h2]⟩
      rw [h1]; simp
