/-! THE STORE AS CELLS of the claim's machine: object o stands at address zad o; what a cell holds is read off the store. -/
def zad (B sc : Nat) (tx : Nat → Nat) (o : Nat) : Nat := if o = zSCR then sc else if zSTR ≤ o then tx (o - zSTR) else B + o
def zv (ad : Nat → Nat) : Value → Value
  | .ref o => .ref (ad o)
  | v => v
theorem zv_cat (ad : Nat → Nat) (v : Value) : (zv ad v).category = v.category := by cases v <;> rfl
def zq (ad : Nat → Nat) (q : Nat × Value) : Nat × Value := (q.1, zv ad q.2)
theorem zv_rf (ad : Nat → Nat) (r : Option Nat) : zv ad (va_rf r) = va_rf (r.map ad) := by cases r <;> rfl
/-- the sorts of a class's places: 0 an int, 1 a long, 2 a reference, 3 a yes or no -/
def zFT : List (List Nat) := [[2, 2, 2, 0, 0, 0, 0, 0, 0, 0, 2, 0, 2, 0, 2, 2, 2, 0, 0, 0], [2], [2, 0, 0, 0], [2, 2, 0, 0], [2, 2, 0, 0], [0, 0, 0, 0, 0, 0, 0, 3], [2, 2, 2, 2, 0, 0, 0], [2, 0], [2, 2, 2, 2, 0, 0], [2, 2, 2, 2, 2, 2, 2, 2, 2, 2, 2, 3, 0, 0], [2, 0, 0, 0, 0, 0, 0, 0, 0, 2, 2, 0, 2, 2, 3, 0, 2, 2, 0, 1, 2, 2, 2, 2, 2, 3, 2, 2, 2, 2, 0, 0]]
def zft (c j : Nat) : Nat := (((zFT[c]?).getD [])[j]?).getD 0
def zfv (ad : Nat → Nat) (σ : zSt) (o j t : Nat) : Value := if t = 1 then .long (zL σ o j) else if t = 2 then va_rf ((zR σ o j).map ad) else .int (zI σ o j)
def zfs (ad : Nat → Nat) (σ : zSt) (o c n : Nat) : List Value := (List.range n).map (fun j => zfv ad σ o j (zft c j))
def zel (ad : Nat → Nat) (cy : Nat → ClassId) (σ : zSt) (o : Nat) : va_E :=
  if (zLY o).1 ≤ 10 then .inr ((zLY o).1, zfs ad σ o (zLY o).1 (zLY o).2)
  else if (zLY o).1 = 13 then .inl (cy 13, (zLY o).2, .inr (.inl (zL σ o)))
  else if 15 ≤ (zLY o).1 then .inl (cy (zLY o).1, (zLY o).2, .inr (.inr (.inr (.inr (fun j => (zR σ o j).map ad)))))
  else .inl (cy (zLY o).1, (zLY o).2, .inl (zI σ o))
def zW (ad : Nat → Nat) (cy : Nat → ClassId) (σ : zSt) : va_W := (List.range (zN σ)).map (fun o => (ad o, zel ad cy σ o))
def zty (cy : Nat → ClassId) : List (ClassId × FieldType) := [(cy 11, .int), (cy 12, .int), (cy 13, .long), (cy 14, .int), (cy 15, .object "RecordBridge$Passage"), (cy 16, .object "RecordBridge$Rule"), (cy 17, .object "RecordBridge$Shape"), (cy 18, .array .long)]
theorem zW_at (ad : Nat → Nat) (cy : Nat → ClassId) (σ : zSt) {o : Nat} (h : o < zN σ) : (zW ad cy σ)[o]? = some (ad o, zel ad cy σ o) := by
  simp [zW, List.getElem?_map, List.getElem?_range h]
theorem zW_len (ad : Nat → Nat) (cy : Nat → ClassId) (σ : zSt) : (zW ad cy σ).length = zN σ := by simp [zW]
theorem zW_out (ad : Nat → Nat) (cy : Nat → ClassId) (σ : zSt) {o : Nat} (h : zN σ ≤ o) : (zW ad cy σ)[o]? = none := by
  rw [List.getElem?_eq_none_iff, zW_len]; exact h
theorem zel_congr {ad : Nat → Nat} {cy : Nat → ClassId} {σ σ' : zSt} {o : Nat} (h1 : zI σ' o = zI σ o) (h2 : zL σ' o = zL σ o) (h3 : zR σ' o = zR σ o) : zel ad cy σ' o = zel ad cy σ o := by
  simp only [zel, zfs, zfv, h1, h2, h3]
theorem zW_set {ad : Nat → Nat} {cy : Nat → ClassId} {σ σ' : zSt} {o : Nat} (hN : zN σ' = zN σ) (h : ∀ q, q ≠ o → zel ad cy σ' q = zel ad cy σ q) : (zW ad cy σ).set o (ad o, zel ad cy σ' o) = zW ad cy σ' := by
  apply List.ext_getElem?
  intro i
  rw [List.getElem?_set]
  by_cases hi : i < zN σ
  · rw [zW_at ad cy σ' (by rw [hN]; exact hi), zW_at ad cy σ hi, zW_len]
    by_cases e : o = i
    · subst e; simp [hi]
    · rw [if_neg e, h i (fun q => e q.symm)]
  · rw [zW_out ad cy σ' (by rw [hN]; omega), zW_out ad cy σ (by omega), zW_len]
    by_cases e : o = i
    · subst e; simp [hi]
    · rw [if_neg e]
theorem zN_new (σ : zSt) : zN (znew σ) = zN σ + 1 := rfl
theorem zW_new {ad : Nat → Nat} {cy : Nat → ClassId} {σ : zSt} : zW ad cy (znew σ) = zW ad cy σ ++ [(ad (zN σ), zel ad cy (znew σ) (zN σ))] := by
  apply List.ext_getElem?
  intro i
  by_cases hi : i < zN σ
  · rw [zW_at ad cy (znew σ) (by rw [zN_new]; omega), List.getElem?_append_left (by rw [zW_len]; exact hi), zW_at ad cy σ hi]
    have hne : i ≠ σ.2.2.2 := Nat.ne_of_lt hi
    rw [zel_congr (σ := σ) (σ' := znew σ)]
    · show va_up _ _ _ i = _
      simp only [va_up, hne, if_false]
      rfl
    · show va_up _ _ _ i = _
      simp only [va_up, hne, if_false]
      rfl
    · show va_up _ _ _ i = _
      simp only [va_up, hne, if_false]
      rfl
  · rw [List.getElem?_append_right (by rw [zW_len]; omega), zW_len]
    by_cases e : i = zN σ
    · subst e
      rw [zW_at ad cy (znew σ) (by rw [zN_new]; omega)]
      simp
    · rw [zW_out ad cy (znew σ) (by rw [zN_new]; omega)]
      rw [List.getElem?_eq_none]
      simp; omega
/-- the addresses are apart, from B on -/
theorem zW_D {B sc : Nat} {tx : Nat → Nat} {cy : Nat → ClassId} {σ : zSt} (hn : zN σ ≤ 1000000) : va_D (fun q => B ≤ q) (zW (zad B sc tx) cy σ) := by
  have key : ∀ (i : Nat) (p : Nat × va_E), (zW (zad B sc tx) cy σ)[i]? = some p → i < zN σ ∧ p.1 = B + i := by
    intro i p h
    by_cases hi : i < zN σ
    · rw [zW_at _ _ _ hi] at h
      refine ⟨hi, ?_⟩
      cases h
      show zad B sc tx i = B + i
      have h1 : i ≠ zSCR := by unfold zSCR; omega
      have h2 : ¬ zSTR ≤ i := by unfold zSTR; omega
      simp [zad, h1, h2]
    · rw [zW_out _ _ _ (by omega)] at h; cases h
  refine ⟨fun i j p q hp hq e => ?_, fun k q hq => ?_⟩
  · obtain ⟨-, h1⟩ := key i p hp
    obtain ⟨-, h2⟩ := key j q hq
    omega
  · obtain ⟨-, h1⟩ := key k q hq
    show B ≤ q.1
    omega
theorem zad_lt {B sc : Nat} {tx : Nat → Nat} {o : Nat} (h : o < 1000000) : zad B sc tx o = B + o := by
  have h1 : o ≠ zSCR := by unfold zSCR; omega
  have h2 : ¬ zSTR ≤ o := by unfold zSTR; omega
  simp [zad, h1, h2]
/-! locals -/
theorem zld_mem {ls : zLv} {i : Nat} {v : Value} (h : zld ls i = some v) : (i, v) ∈ ls := by
  unfold zld at h
  cases hf : ls.find? (fun q => q.1 == i) with
  | none => rw [hf] at h; cases h
  | some q =>
    rw [hf] at h
    have h1 := List.mem_of_find?_eq_some hf
    have h2 := List.find?_some hf
    simp at h2
    obtain ⟨a, b⟩ := q
    cases h
    simp at h2
    subst h2
    exact h1
theorem zld_at {ad : Nat → Nat} {lsA : Array Slot} {nL : Nat} {ls : zLv} (hl : lv_has lsA nL (ls.map (zq ad))) {i : Nat} {v : Value} (h : zld ls i = some v) : lsA[i]? = some (.val (zv ad v)) :=
  hl.2.2 (i, zv ad v) (List.mem_map.mpr ⟨(i, v), zld_mem h, rfl⟩)
theorem zs1_map (ad : Nat → Nat) (ls : zLv) (i : Nat) (v : Value) : (i, zv ad v) :: (ls.map (zq ad)).filter (fun q => !(q.1 == i) && !(q.1 + 1 == i && q.2.category == 2)) = (zs1 ls i v).map (zq ad) := by
  simp only [zs1, List.map_cons, List.filter_map]
  congr 2
  apply List.filter_congr
  intro q _
  simp [zq, Function.comp, zv_cat]
theorem zs2_map (ad : Nat → Nat) (ls : zLv) (i : Nat) (v : Value) : (i, zv ad v) :: (ls.map (zq ad)).filter (fun q => !(q.1 == i) && (!(q.1 == i + 1) && !(q.1 + 1 == i && q.2.category == 2))) = (zs2 ls i v).map (zq ad) := by
  simp only [zs2, List.map_cons, List.filter_map]
  congr 2
  apply List.filter_congr
  intro q _
  simp [zq, Function.comp, zv_cat]
theorem lv_args_map (ad : Nat → Nat) : ∀ (vs : List Value) (i : Nat), lv_args i (vs.map (zv ad)) = (lv_args i vs).map (zq ad)
  | [], _ => rfl
  | v :: vs, i => by
    show (i, zv ad v) :: lv_args (if (zv ad v).category = 2 then i + 2 else i + 1) (vs.map (zv ad)) = zq ad (i, v) :: (lv_args (if v.category = 2 then i + 2 else i + 1) vs).map (zq ad)
    rw [zv_cat, lv_args_map ad vs]
    rfl
theorem zld_idx {ad : Nat → Nat} {ls : zLv} {i : Nat} {v : Value} (h : zld ls i = some v) : ∃ k : Nat, (ls.map (zq ad))[k]? = some (i, zv ad v) :=
  List.getElem?_of_mem (List.mem_map.mpr ⟨(i, v), zld_mem h, rfl⟩)
