/-! THE START: what is left is pure -/
def zst0 (L : Nat) (xs : Nat → Int32) : zSt := (fun o => if o = zSCR then xs else fun _ => 0, fun _ _ => 0, fun o k => if o = zSCR ∧ k = 0 then some L else none, 0)
/-- what is left to show -/
def zLawP : Prop := ∀ (L : Nat) (xs : Nat → Int32), L ≤ 260 → ∃ (f : Nat) (σ' : zSt), zrun f (zcode 137) 0 [(0, .ref zSCR)] [] (zst0 L xs) = some (σ', some (.int 1)) ∧ zN σ' ≤ 600000
theorem zSl_far : ∀ n, 166 ≤ n → zSl n ≤ 50000 + 8 * n := by
  intro n h
  induction h with
  | refl => decide +kernel
  | @step n h ih =>
    have h' : 166 ≤ n := h
    have h2 : zLY n = (13, 8) := by
      unfold zLY
      rw [List.getElem?_eq_none (by have : zLYl.length = 166 := by decide +kernel
                                    omega)]
      rfl
    show zSl n + (zLY n).2 ≤ _
    rw [h2]
    show zSl n + 8 ≤ _
    omega
theorem zSl_room {n : Nat} (h : n ≤ 600000) : zSl n ≤ 7302250 := by
  rcases Nat.lt_or_ge n 166 with h1 | h1
  · exact Nat.le_trans (zSl_mono (Nat.le_of_lt h1)) (Nat.le_trans (zSl_far 166 (Nat.le_refl _)) (by decide))
  · exact Nat.le_trans (zSl_far n h1) (by omega)
theorem zAC_of {s : State} {args : Array Value} {ty : FieldType} (h : (Cond.arrayClass ty).before args s = true) (hty : ∀ C, ty ≠ .object C) : ∃ cA : ClassId, ArrOfT s cA ty ∧ va_RA s cA ty := by
  obtain ⟨c, k, comp, h1, h2, h3⟩ := Cond.arrayClass_spec h
  refine ⟨c, fun n z => ⟨fun k h => (by cases h), k, h2, comp, h3⟩, ?_⟩
  cases ty with
  | object C => exact absurd rfl (hty C)
  | _ => exact h1
theorem zAO_of {s : State} {args : Array Value} {C : String} (h : (Cond.arrayOver (.object C)).before args s = true) : ∃ cA : ClassId, ArrOfT s cA (.object C) ∧ va_RA s cA (.object C) := by
  obtain ⟨comp, c, k, h1, h2, h3, h4, h5⟩ := Cond.arrayOver_spec h
  exact ⟨c, fun n z => ⟨fun k h => (by cases h), k, h3, comp, h4⟩, k, comp, h3, h4, h1, h5⟩
theorem zAA_of {s : State} {args : Array Value} (h : (Cond.arrayOver (.array .long)).before args s = true) : ∃ cA : ClassId, ArrOfT s cA (.array .long) ∧ va_RA s cA (.array .long) := by
  unfold Cond.before Cond.holds at h
  simp only [Cond.value, beq_iff_eq] at h
  cases hc : s.vm.findClass (FieldType.array .long).toString with
  | none => rw [hc] at h; cases h
  | some comp =>
    rw [hc, Option.bind_some] at h
    generalize Array.findIdx? _ s.vm.classes = r at h
    cases r with
    | none => cases h
    | some c =>
      rw [Option.bind_some] at h
      cases hk : s.vm.classes[c]? with
      | none => rw [hk] at h; cases h
      | some k =>
        rw [hk] at h
        simp only [Option.map_some, Option.some.injEq] at h
        cases hkind : k.kind with
        | array cp ty =>
          rw [hkind] at h
          simp only [Bool.and_eq_true, decide_eq_true_eq] at h
          obtain ⟨rfl, h2⟩ := h
          exact ⟨c, fun n z => ⟨fun k h => (by cases h), k, hk, cp, hkind⟩, h2⟩
        | _ => rw [hkind] at h; cases h
theorem zInst : ∀ r ∈ vwCl, (r.1, r.2.2) ∈ zoIs := by decide +kernel
def zTm (i : Nat) : Term := .string (zSr i).1 (zSr i).2.1
/-- what the Statement says of string i, in its order -/
def zSW (i : Nat) : List Cond := [Cond.exactly (zTm i) "java/lang/String", Cond.eq (.field (zTm i) "java/lang/String" "coder" "B") (.int 0), Cond.arrayOf (.field (zTm i) "java/lang/String" "value" "[B") .byte, Cond.eq (.length (.field (zTm i) "java/lang/String" "value" "[B")) (.int (Int32.ofNat ((zTXl.map List.length).getD i 0)))] ++ ((List.range ((zTXl.map List.length).getD i 0)).map (fun j => Cond.eq (.elem (.field (zTm i) "java/lang/String" "value" "[B") (.int (Int32.ofNat j))) (.int ((zTXl.getD i []).getD j 0))) ++ (List.range i).map (fun j => Cond.not (Cond.eq (zTm j) (zTm i))))
set_option maxRecDepth 100000 in
theorem zstrW : zsub ((List.range 22).flatMap zSW) (flatC (Jvm.Cond.and given_1 narrow_1)) = true := by decide +kernel
theorem zstrM {i : Nat} (hi : i < 22) {w : Cond} (h : w ∈ zSW i) : w ∈ flatC (Jvm.Cond.and given_1 narrow_1) := zsub_in _ _ zstrW _ (List.mem_flatMap.mpr ⟨i, List.mem_range.mpr hi, h⟩)
theorem zstrE : ∀ i : Nat, i < 22 → ∀ j : Nat, j < (zTXl.map List.length).getD i 0 → Cond.eq (.elem (.field (zTm i) "java/lang/String" "value" "[B") (.int (Int32.ofNat j))) (.int ((zTXl.getD i []).getD j 0)) ∈ flatC (Jvm.Cond.and given_1 narrow_1) := fun i hi j hj => zstrM hi (List.mem_append_right _ (List.mem_append_left _ (List.mem_map.mpr ⟨j, List.mem_range.mpr hj, rfl⟩)))
theorem zstr1 : ∀ i : Nat, i < 22 → Cond.exactly (zTm i) "java/lang/String" ∈ flatC (Jvm.Cond.and given_1 narrow_1) := fun i hi => zstrM hi (List.mem_append_left _ (by simp only [List.mem_cons, true_or, or_true]))
theorem zstr2 : ∀ i : Nat, i < 22 → Cond.eq (.field (zTm i) "java/lang/String" "coder" "B") (.int 0) ∈ flatC (Jvm.Cond.and given_1 narrow_1) := fun i hi => zstrM hi (List.mem_append_left _ (by simp only [List.mem_cons, true_or, or_true]))
theorem zstr3 : ∀ i : Nat, i < 22 → Cond.arrayOf (.field (zTm i) "java/lang/String" "value" "[B") .byte ∈ flatC (Jvm.Cond.and given_1 narrow_1) := fun i hi => zstrM hi (List.mem_append_left _ (by simp only [List.mem_cons, true_or, or_true]))
theorem zstr4 : ∀ i : Nat, i < 22 → Cond.eq (.length (.field (zTm i) "java/lang/String" "value" "[B")) (.int (Int32.ofNat ((zTXl.map List.length).getD i 0))) ∈ flatC (Jvm.Cond.and given_1 narrow_1) := fun i hi => zstrM hi (List.mem_append_left _ (by simp only [List.mem_cons, true_or, or_true]))
theorem zstr5 : ∀ i : Nat, i < 22 → ∀ j : Nat, j < 22 → i ≠ j → Cond.not (Cond.eq (zTm i) (zTm j)) ∈ flatC (Jvm.Cond.and given_1 narrow_1) ∨ Cond.not (Cond.eq (zTm j) (zTm i)) ∈ flatC (Jvm.Cond.and given_1 narrow_1) := fun i hi j hj hne => by
  rcases Nat.lt_or_gt_of_ne hne with h | h
  · exact Or.inl (zstrM hj (List.mem_append_right _ (List.mem_append_right _ (List.mem_map.mpr ⟨i, List.mem_range.mpr h, rfl⟩))))
  · exact Or.inr (zstrM hi (List.mem_append_right _ (List.mem_append_right _ (List.mem_map.mpr ⟨j, List.mem_range.mpr h, rfl⟩))))
theorem zstr6 : ∀ i : Nat, i < 22 → (zTXl.map List.length).getD i 0 < 2 ^ 31 := by decide +kernel
theorem zstr7 : ∀ j : Nat, j < 22 → zsub [Cond.stringRef (zSr j).1 (zSr j).2.1 (zSr j).2.2] lw_tbl = true := by decide +kernel
set_option maxRecDepth 100000 in
theorem zground {s : State} {args : Array Value} (hts : ∀ w ∈ lw_tbl, w.before args s = true) (hgv : (Jvm.Cond.and given_1 narrow_1).before args s = true) : ∃ (D : va_G) (cy : Nat → ClassId) (tx : Nat → Nat), zGs D cy s ∧ zSg s.heap.size tx s := by
  have htz : ∀ w ∈ zWS, w.before args s = true := fun w h => hts w (List.mem_filter.mp h).1
  have hfl := flat_of_before _ hgv
  have hD : ∀ c : Nat, ∃ q : ClassId × (Nat → Nat), ∀ r : vw_C, vwCl[c]? = some r → u_Kn s r.1 r.2.1 r.2.2 q.1 q.2 := by
    intro c
    cases hc : vwCl[c]? with
    | none => exact ⟨(0, fun _ => 0), fun r h => by cases h⟩
    | some r =>
      obtain ⟨cC, iS, h⟩ := u_known (C := r.1) (T := r.2.1) (N := r.2.2) htz (zCl_all c r hc).1 (htz _ (zwIs_in (zInst r (List.mem_of_getElem? hc))))
      exact ⟨(cC, iS), fun r' h' => by cases h'; exact h⟩
  obtain ⟨fD, hD⟩ := Classical.axiomOfChoice hD
  obtain ⟨k12, h12⟩ := zAC_of (htz _ (zAr_in (a := .int) (by decide +kernel))) (fun C h => by cases h)
  obtain ⟨k13, h13⟩ := zAC_of (htz _ (zAr_in (a := .long) (by decide +kernel))) (fun C h => by cases h)
  have a15 := hts _ (zsub_in _ _ zAo_all (.arrayOver (.object "RecordBridge$Passage")) (by simp))
  have a16 := hts _ (zsub_in _ _ zAo_all (.arrayOver (.object "RecordBridge$Rule")) (by simp))
  have a17 := hts _ (zsub_in _ _ zAo_all (.arrayOver (.object "RecordBridge$Shape")) (by simp))
  have a18 := hts _ (zsub_in _ _ zAo_all (.arrayOver (.array .long)) (by simp))
  obtain ⟨k15, h15⟩ := zAO_of a15
  obtain ⟨k16, h16⟩ := zAO_of a16
  obtain ⟨k17, h17⟩ := zAO_of a17
  obtain ⟨k18, h18⟩ := zAA_of a18
  have hA : ∀ a : Nat, a < s.heap.size → ¬ s.heap.size ≤ a := fun a h => Nat.not_le.mpr h
  obtain ⟨adK, adV, hS, hev⟩ := vk_Sof (N := 22) (tm := zTm) (len := zTXl.map List.length) (byt := zTXl) (A := fun q => s.heap.size ≤ q) (s := s) (args := args) zstr6
    (fun i hi => hfl _ (zstr1 i hi)) (fun i hi => hfl _ (zstr2 i hi)) (fun i hi => hfl _ (zstr3 i hi)) (fun i hi => hfl _ (zstr4 i hi)) (fun i hi j hj => hfl _ (zstrE i hi j hj)) (fun i j hi hj hne => (zstr5 i hi j hj hne).imp (fun h => hfl _ h) (fun h => hfl _ h)) hA
  refine ⟨(fun c => (fD c).1, fun c => (fD c).2), fun k => if k = 11 then k12 else if k = 12 then k12 else if k = 13 then k13 else if k = 14 then k12 else if k = 15 then k15 else if k = 16 then k16 else if k = 17 then k17 else k18, adK, ⟨⟨fun c r h => hD c r h, ?_⟩, ?_, ⟨a17, a15, a16, a18⟩⟩, ⟨fun j hj => vk_R.of (A := args) (hts _ (zsub_in _ _ (zstr7 j hj) _ List.mem_cons_self)) (hev j hj), ⟨adV, hS⟩, ?_, ?_⟩⟩
  · intro k q hq
    match k, hq with
    | 0, hq => cases hq; exact h12
    | 1, hq => cases hq; exact h12
    | 2, hq => cases hq; exact h13
    | 3, hq => cases hq; exact h12
    | 4, hq => cases hq; exact h15
    | 5, hq => cases hq; exact h16
    | 6, hq => cases hq; exact h17
    | 7, hq => cases hq; exact h18
    | k + 8, hq => simp [zty] at hq
  · intro q hq
    exact va_Nw.of rfl (hts _ (zsub_in _ _ zN_all _ (List.mem_map.mpr ⟨q, hq, rfl⟩)))
  · exact va_Zof (hts _ (zsub_in _ _ (show zsub [Cond.laysStatic "java/lang/String" "COMPACT_STRINGS" "Z"] lw_tbl = true by decide +kernel) _ List.mem_cons_self)) (htz _ (zsw 16 rfl rfl)) (va_eqt (hfl (Cond.eq (.static "java/lang/String" "COMPACT_STRINGS" "Z") (.int 1)) (by decide +kernel))) hA
  · exact va_Zqof (hts _ (zsub_in _ _ (show zsub [Cond.laysStatic "jdk/internal/util/Preconditions" "SIOOBE_FORMATTER" "Ljava/util/function/BiFunction;"] lw_tbl = true by decide +kernel) _ List.mem_cons_self)) (htz _ (zsw 18 rfl rfl)) (hfl (Cond.isRef (.static "jdk/internal/util/Preconditions" "SIOOBE_FORMATTER" "Ljava/util/function/BiFunction;")) (by decide +kernel)) hA
set_option maxRecDepth 100000 in
theorem zstart (hlaw : zLawP) {p : Program} {e : Env} {s : State} {m : MethodId} {below : List Frame} {meth : Method} {c : Code} (l : Launch) {b L : Nat} {xs : Nat → Int32} (hL : L ≤ 260) (C0 : lw_At p s m meth c b L xs) : W p l e room_1 s m #[Value.ref b] below meth c s.heap [] 0 0 (lw_Z below #[Value.ref b] s) (entryFrame m ([Value.ref b] : List Value).toArray 12) := by
  obtain ⟨hx, hb, hr, hml, hown, hts, hX, hbl, hlocks, hgv⟩ := C0
  obtain ⟨f, σ', hrun, hN⟩ := hlaw L xs hL
  obtain ⟨D, cy, tx, hG, hSg⟩ := zground hts hgv
  have hd0 := Drawn.sameBut.refl s.drawn lw_cs
  have hcode : (zMI 137).2.1 = code := rfl
  have hmx : (zMI 137).2.2.1 = 12 := rfl
  have hl := lv_entry ([.ref b] : List Value) (n := 12) (Nat.le_of_ble_eq_true rfl)
  rw [lg_entry_eq]
  generalize ((lg_sl ([.ref b] : List Value)) ++ List.replicate (12 - (lg_sl ([.ref b] : List Value)).length) Slot.unset).toArray = lsA at hl ⊢
  have hP0 : va_P D vwCl (zW (zad s.heap.size b tx) cy (zst0 L xs)) s.heap := fun k q h => by cases h
  have hX0 : va_X b ((zR (zst0 L xs) zSCR 0).getD 0) (zI (zst0 L xs) zSCR) s s.heap := by
    have e1 : (zR (zst0 L xs) zSCR 0).getD 0 = L := rfl
    have e2 : zI (zst0 L xs) zSCR = xs := by
      funext j
      show (if zSCR = zSCR then xs else fun _ => 0) j = xs j
      rw [if_pos rfl]
    rw [e1, e2]; exact hX
  have hWd : zWd D cy s.heap.size b tx (zst0 L xs) s := ⟨rfl, hP0, hG, hSg, hX0, hbl⟩
  have C1 : zCtx p s m #[Value.ref b] meth c D cy s.heap.size b tx 137 (zst0 L xs) := ⟨hx, hb.trans hcode.symm, hml.trans hmx.symm, hown, fun w h => hts w (List.mem_filter.mp h).1, fun h => absurd h (by decide +kernel), hWd⟩
  have key := zwalk (l := l) (D := D) (cy := cy) (B := s.heap.size) (sc := b) (tx := tx) f p e room_1 s m #[Value.ref b] below meth c (lw_Z below #[Value.ref b] s) 137 (zst0 L xs) σ' (some (.int 1)) 0 [(0, .ref zSCR)] [] (zst0 L xs) lsA s.heap [] C1 (by decide) (by decide +kernel) (by decide +kernel) (by omega) (by show zN σ' - 0 ≤ 600000; omega) (by show zSl (zN σ') - 0 ≤ 7302250; have := zSl_room hN; omega) ?_ hrun zKp.rfl' ?_ hP0 va_S.rf
  · exact key
  · intro pc lsA st i t len H locs hd hlen hlk hret hP hS hz hk
    have hfin : zreal i t = .ireturn ∧ st = [.int 1] ∧ len = 1 := by
      unfold zret at hret
      split at hret
      · split at hret <;> cases hret
      · have hlen : 1 = len := eq_of_beq hlen
        split at hret
        · split at hret
          · cases hret; exact ⟨rfl, rfl, hlen.symm⟩
          · cases hret
        · cases hret
      all_goals first
        | (split at hret <;> cases hret; done)
        | (cases hret; done)
    obtain ⟨e1, rfl, rfl⟩ := hfin
    rw [e1, hcode] at hd
    refine va_forget (fun q hq => hS.2.2 q hq) ?_
    refine W.widen (k := 600000) (n := 7302250) (by show zN σ' - 0 ≤ 600000; omega) (by show zSl (zN σ') - 0 ≤ 7302250; have := zSl_room hN; omega) ?_
    exact lw_ret (d0 := s.drawn) hd0 hx hb hr hlocks hd
  · rw [hmx]; exact hl
