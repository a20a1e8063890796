/-! FIELDS, ARRAYS, CONSTANTS, ANSWERS: the small machine's are the claim's machine's. -/
/-- the instruction as it stands in the class file -/
def zreal : Instr → Nat → Instr
  | .getfield _, t => .getfield t
  | .putfield _, t => .putfield t
  | .invokevirtual _, t => .invokevirtual t
  | .invokestatic _, t => .invokestatic t
  | .invokespecial _, t => .invokespecial t
  | .new _, t => .new t
  | .anewarray _, t => .anewarray t
  | .multianewarray _ d, t => .multianewarray t d
  | .ldc _, t => .ldc t
  | .ldc_w _, t => .ldc_w t
  | .ldc2_w _, t => .ldc2_w t
  | i, _ => i
/-- is the number of a place right: within its class, of the sort that stands there -/
def zfok (x : Nat) : Bool := match vwCl[x / 256]? with
  | some q => decide (x / 4 % 64 < q.2.2) && (x % 4 == zft (x / 256) (x / 4 % 64))
  | none => false
theorem zfok_inv {x : Nat} (h : zfok x = true) : ∃ q, vwCl[x / 256]? = some q ∧ x / 4 % 64 < q.2.2 ∧ x % 4 = zft (x / 256) (x / 4 % 64) ∧ zFI x = q.2.1 (x / 4 % 64) := by
  unfold zfok at h
  cases hq : vwCl[x / 256]? with
  | none => rw [hq] at h; cases h
  | some q =>
    rw [hq] at h
    simp only [Bool.and_eq_true, decide_eq_true_eq, beq_iff_eq] at h
    refine ⟨q, rfl, h.1, h.2, ?_⟩
    unfold zFI
    rw [hq]
theorem zvw_lt {ci : Nat} {q : vw_C} (h : vwCl[ci]? = some q) : ci ≤ 10 := by
  have h1 := (List.getElem?_eq_some_iff.mp h).1
  have h2 : vwCl.length = 10 := rfl
  omega
theorem zel_o {ad : Nat → Nat} {cy : Nat → ClassId} {σ : zSt} {o : Nat} (h : (zLY o).1 ≤ 10) : zel ad cy σ o = .inr ((zLY o).1, zfs ad σ o (zLY o).1 (zLY o).2) := by
  unfold zel; rw [if_pos h]
theorem zel_i {ad : Nat → Nat} {cy : Nat → ClassId} {σ : zSt} {o k : Nat} (h : (zLY o).1 = k) (hk : k = 11 ∨ k = 12 ∨ k = 14) : zel ad cy σ o = .inl (cy k, (zLY o).2, .inl (zI σ o)) := by
  unfold zel; rw [h, if_neg (by omega), if_neg (by omega), if_neg (by omega)]
theorem zel_l {ad : Nat → Nat} {cy : Nat → ClassId} {σ : zSt} {o : Nat} (h : (zLY o).1 = 13) : zel ad cy σ o = .inl (cy 13, (zLY o).2, .inr (.inl (zL σ o))) := by
  unfold zel; rw [h, if_neg (by omega), if_pos rfl]
theorem zel_q {ad : Nat → Nat} {cy : Nat → ClassId} {σ : zSt} {o k : Nat} (h : (zLY o).1 = k) (hk : 15 ≤ k) : zel ad cy σ o = .inl (cy k, (zLY o).2, .inr (.inr (.inr (.inr (fun j => (zR σ o j).map ad))))) := by
  unfold zel; rw [h, if_neg (by omega), if_neg (by omega), if_pos hk]
theorem zfs_at {ad : Nat → Nat} {σ : zSt} {o c n k : Nat} (h : k < n) : (zfs ad σ o c n)[k]? = some (zfv ad σ o k (zft c k)) := by
  simp [zfs, List.getElem?_map, List.getElem?_range h]
theorem zfs_len {ad : Nat → Nat} {σ : zSt} {o c n : Nat} : (zfs ad σ o c n).length = n := by simp [zfs]
theorem zfs_set {ad : Nat → Nat} {σ σ' : zSt} {o c n k : Nat} {v : Value} (h : k < n) (hv : zfv ad σ' o k (zft c k) = v) (ho : ∀ j, j ≠ k → zfv ad σ' o j (zft c j) = zfv ad σ o j (zft c j)) : (zfs ad σ o c n).set k v = zfs ad σ' o c n := by
  apply List.ext_getElem?
  intro i
  rw [List.getElem?_set]
  by_cases hi : i < n
  · rw [zfs_at hi, zfs_at hi, zfs_len]
    by_cases e : k = i
    · subst e; simp [hi, hv]
    · rw [if_neg e, ho i (fun q => e q.symm)]
  · rw [List.getElem?_eq_none (by rw [zfs_len]; omega), List.getElem?_eq_none (by rw [zfs_len]; omega), zfs_len]
    by_cases e : k = i
    · subst e; simp [hi]
    · rw [if_neg e]
theorem zget_v {ad : Nat → Nat} {σ : zSt} {o k t : Nat} : zv ad (zget σ o k t) = zfv ad σ o k t := by
  unfold zget zfv
  split
  · rfl
  · split
    · rw [zv_rf]
    · rfl
/-- where another object is written, this one stays -/
theorem zel_wI {ad : Nat → Nat} {cy : Nat → ClassId} {σ : zSt} {o k : Nat} {v : Int32} : ∀ q, q ≠ o → zel ad cy (zwI σ o k v) q = zel ad cy σ q := fun q h => zel_congr (by show va_up _ _ _ q = _; simp only [va_up, h, if_false]; rfl) rfl rfl
theorem zel_wL {ad : Nat → Nat} {cy : Nat → ClassId} {σ : zSt} {o k : Nat} {v : Int64} : ∀ q, q ≠ o → zel ad cy (zwL σ o k v) q = zel ad cy σ q := fun q h => zel_congr rfl (by show va_up _ _ _ q = _; simp only [va_up, h, if_false]; rfl) rfl
theorem zel_wR {ad : Nat → Nat} {cy : Nat → ClassId} {σ : zSt} {o k : Nat} {v : Option Nat} : ∀ q, q ≠ o → zel ad cy (zwR σ o k v) q = zel ad cy σ q := fun q h => zel_congr rfl rfl (by show va_up _ _ _ q = _; simp only [va_up, h, if_false]; rfl)
theorem zel_rI {ad : Nat → Nat} {cy : Nat → ClassId} {σ : zSt} {o : Nat} {f : Nat → Int32} : ∀ q, q ≠ o → zel ad cy (zrI σ o f) q = zel ad cy σ q := fun q h => zel_congr (by show va_up _ _ _ q = _; simp only [va_up, h, if_false]; rfl) rfl rfl
theorem zel_rL {ad : Nat → Nat} {cy : Nat → ClassId} {σ : zSt} {o : Nat} {f : Nat → Int64} : ∀ q, q ≠ o → zel ad cy (zrL σ o f) q = zel ad cy σ q := fun q h => zel_congr rfl (by show va_up _ _ _ q = _; simp only [va_up, h, if_false]; rfl) rfl
theorem zI_w (σ : zSt) (o k : Nat) (v : Int32) : zI (zwI σ o k v) o = va_up (zI σ o) k v := by show va_up _ _ _ o = _; simp only [va_up, if_true]; rfl
theorem zL_w (σ : zSt) (o k : Nat) (v : Int64) : zL (zwL σ o k v) o = va_up (zL σ o) k v := by show va_up _ _ _ o = _; simp only [va_up, if_true]; rfl
theorem zR_w (σ : zSt) (o k : Nat) (v : Option Nat) : zR (zwR σ o k v) o = va_up (zR σ o) k v := by show va_up _ _ _ o = _; simp only [va_up, if_true]; rfl
theorem zI_r (σ : zSt) (o : Nat) (f : Nat → Int32) : zI (zrI σ o f) o = f := by show va_up _ _ _ o = _; simp only [va_up, if_true]
theorem zL_r (σ : zSt) (o : Nat) (f : Nat → Int64) : zL (zrL σ o f) o = f := by show va_up _ _ _ o = _; simp only [va_up, if_true]
theorem zW_set' {ad : Nat → Nat} {cy : Nat → ClassId} {σ σ' : zSt} {o : Nat} {x : va_E} (he : zel ad cy σ' o = x) (hN : zN σ' = zN σ) (h : ∀ q, q ≠ o → zel ad cy σ' q = zel ad cy σ q) : (zW ad cy σ).set o (ad o, x) = zW ad cy σ' := by
  rw [← he]; exact zW_set hN h
/-- the links of an instruction, in method n -/
def zlnk (n : Nat) (i : Instr) (t : Nat) : Bool := match i with
  | .getfield x => decide (((zMI n).2.2.2.2.1, t, x) ∈ zLF) && zfok x
  | .putfield x => decide (((zMI n).2.2.2.2.1, t, x) ∈ zLF) && zfok x && ((zFI x).2.2.2 == false || (decide ((zMI n).1.name = "<init>") && decide ((zFI x).1 = zOw (zMI n).2.2.2.2.1)))
  | .new c => decide (((zMI n).2.2.2.2.1, t, c) ∈ zLC)
  | .anewarray c => decide (((zMI n).2.2.2.2.1, t, c) ∈ zLA)
  | .multianewarray c _ => decide (((zMI n).2.2.2.2.1, t, c) ∈ zLA)
  | .ldc j => decide (((zMI n).2.2.2.2.1, t, j) ∈ zLS) || (decide (((zMI n).2.2.2.2.1, t, j) ∈ zLK) && (match (zCT[j]?).getD .null with | .int _ => true | .float _ => true | _ => false))
  | .ldc_w j => decide (((zMI n).2.2.2.2.1, t, j) ∈ zLK) && (match (zCT[j]?).getD .null with | .int _ => true | .float _ => true | _ => false)
  | .ldc2_w j => decide (((zMI n).2.2.2.2.1, t, j) ∈ zLK) && (match (zCT[j]?).getD .null with | .long _ => true | .double _ => true | _ => false)
  | .return_ => decide ((zMI n).2.2.2.1 = none)
  | .ireturn => decide ((zMI n).2.2.2.1 = some .int ∧ t = 0) || decide ((zMI n).2.2.2.1 = some .boolean ∧ t = 1)
  | .lreturn => decide ((zMI n).2.2.2.1 = some .long)
  | .freturn => decide ((zMI n).2.2.2.1 = some .float)
  | .dreturn => decide ((zMI n).2.2.2.1 = some .double)
  | .areturn => match (zMI n).2.2.2.1 with
    | some (.object _) => true
    | some (.array _) => true
    | _ => false
  | .invokevirtual y => decide (((zMI n).2.2.2.2.1, t, y) ∈ zLM) && decide (y ∈ zoI) && decide (y ∈ zoS)
  | .invokestatic y => decide (((zMI n).2.2.2.2.1, t, y) ∈ zLM) && decide (y ∈ zoT)
  | .invokespecial y => (decide (((zMI n).2.2.2.2.1, t, y) ∈ zLM) || decide (((zMI n).2.2.2.2.1, t, y) ∈ zLN)) && decide (y ∈ zoI) && decide ((zMI y).1.name = "<init>") && (y == 907 || decide (y < 137))
  | _ => true
section ZM
variable {p : Program} {l : Launch} {e : Env} {R : Room} {s : State} {m : MethodId} {args : Array Value} {below : List Frame} {meth : Method} {c : Code} {H : Heap} {locs : List Loc} {cells slots : Nat} {Q : State → Prop}
variable {cc : ByteArray} {pc : Nat} {lsA : Array Slot} {D : va_G} {cy : Nat → ClassId} {B sc : Nat} {tx : Nat → Nat} {n : Nat} {σ σ' : zSt} {rest : List Value}
/-- an array of arrays: one of them is taken -/
theorem zald_a (hexec : p.tables.exec = Jvm.exec) (hb : c.code = cc) {cl : List vw_C} {tys : List (ClassId × FieldType)} {ws : va_W} (hK : va_K D cl tys s) (hP : va_P D cl ws H) (q0 t0 : Nat) {a : Nat} {cA : ClassId} {t : FieldType} {N : Nat} {f : Nat → Option Nat} (ha : ws[q0]? = some (a, .inl (cA, N, .inr (.inr (.inr (.inr f)))))) (ht : tys[t0]? = some (cA, .array t)) {i : Int32} (hin : vp_in i N) (hdg : decode cc pc = .ok (.aaload, 1))
    (kk : W p l e R s m args below meth c H locs cells slots Q (F0 m (pc + 1) lsA (va_rf (f i.toNatClampNeg) :: rest))) : W p l e R s m args below meth c H locs cells slots Q (F0 m pc lsA (.int i :: .ref a :: rest)) := by
  have hlt : i.toNatClampNeg < N := Nat.not_le.mp fun q => hin (Or.inr q)
  exact W.aald (v := va_rf (f i.toNatClampNeg)) (ty := .array t) hexec hb (hP q0 _ ha) ((hK.2 t0 _ ht).1 N (fun j => va_rf (f j))) rfl (fun q => by cases q) (by show ¬ (i < 0 ∨ (arrV _ _ _).slots.size ≤ _); rw [arrV_size]; exact hin) (by show (arrV _ _ _).slots[_]? = _; rw [arrV_read _ _ hlt]) rfl rfl hdg kk
set_option maxHeartbeats 4000000 in
theorem zput_ok (hx : p.tables.exec = Jvm.exec) (hb : c.code = cc) (hown : s.vm.findClass (zOw (zMI n).2.2.2.2.1) = some m.cls) (hts : ∀ w ∈ zWS, w.before args s = true) (hi0 : (zMI n).1.name = "<init>" → meth.name = "<init>") (hG : zGs D cy s)
    {x t : Nat} (hd : decode cc pc = .ok (.putfield t, 3)) (hk : zlnk n (.putfield x) t = true) (hP : va_P D vwCl (zW (zad B sc tx) cy σ) H) (hS : va_S (fun q => B ≤ q) s.heap H locs) (hN : zN σ ≤ 1000000)
    {o : Nat} (ho : o < zN σ) (hc : (zLY o).1 = x / 256) {v : Value} (hty : ∀ ty, zsrt (x % 4) ty = true → narrow ty (zv (zad B sc tx) v) = zv (zad B sc tx) v ∧ fits ty (zv (zad B sc tx) v) = true)
    (hv : zfv (zad B sc tx) σ' o (x / 4 % 64) (x % 4) = zv (zad B sc tx) v) (hj : ∀ j, j ≠ x / 4 % 64 → ∀ tt, zfv (zad B sc tx) σ' o j tt = zfv (zad B sc tx) σ o j tt) (hN' : zN σ' = zN σ) (hq : ∀ q, q ≠ o → zel (zad B sc tx) cy σ' q = zel (zad B sc tx) cy σ q)
    (k : ∀ H' locs', va_P D vwCl (zW (zad B sc tx) cy σ') H' → va_S (fun q => B ≤ q) s.heap H' locs' → W p l e R s m args below meth c H' locs' cells slots Q (F0 m (pc + 3) lsA rest)) : W p l e R s m args below meth c H locs cells slots Q (F0 m pc lsA (zv (zad B sc tx) v :: .ref (zad B sc tx o) :: rest)) := by
  simp only [zlnk, Bool.and_eq_true, decide_eq_true_eq, Bool.or_eq_true, beq_iff_eq] at hk
  obtain ⟨⟨hm, hf⟩, hfin⟩ := hk
  obtain ⟨q, hq1, hlt, hsrt, hFI⟩ := zfok_inv hf
  obtain ⟨hC1, hC2, hC3, hC4⟩ := zCl_all _ _ hq1
  have hle : (zLY o).1 ≤ 10 := by rw [hc]; exact zvw_lt hq1
  obtain ⟨q', hq2, hnum⟩ := zLY_obj hle
  rw [hc, hq1] at hq2
  cases hq2
  have hlink := hts _ (zwF_in hm)
  unfold zwF at hlink
  simp only [hFI] at hlink hfin
  have he : (zW (zad B sc tx) cy σ)[o]? = some (zad B sc tx o, .inr (x / 256, zfs (zad B sc tx) σ o (x / 256) q.2.2)) := by
    rw [zW_at _ _ _ ho, zel_o hle, hc, hnum]
  obtain ⟨ty, hp1, hp2⟩ := hC2 _ hlt
  rw [← hsrt] at hp2
  obtain ⟨hn1, hf1⟩ := hty ty hp2
  have hset : (zfs (zad B sc tx) σ o (x / 256) q.2.2).set (x / 4 % 64) (zv (zad B sc tx) v) = zfs (zad B sc tx) σ' o (x / 256) q.2.2 := zfs_set hlt (by rw [← hsrt]; exact hv) (fun j h => hj j h _)
  have hend : (zW (zad B sc tx) cy σ).set o (zad B sc tx o, .inr (x / 256, (zfs (zad B sc tx) σ o (x / 256) q.2.2).set (x / 4 % 64) (zv (zad B sc tx) v))) = zW (zad B sc tx) cy σ' := by
    rw [hset]
    exact zW_set' (by rw [zel_o hle, hc, hnum]) hN' hq
  have hty0 : ∃ ty0 : Nat → FieldType, ∀ k, k < q.2.2 → parseFieldDescriptor (q.2.1 k).2.2.1 = some (ty0 k) := ⟨fun k => (parseFieldDescriptor (q.2.1 k).2.2.1).getD .int, fun k hk => by
    obtain ⟨t1, e1, -⟩ := hC2 k hk
    show parseFieldDescriptor (q.2.1 k).2.2.1 = some ((parseFieldDescriptor (q.2.1 k).2.2.1).getD .int)
    rw [e1]; rfl⟩
  obtain ⟨ty0, hty0⟩ := hty0
  by_cases hfi : (q.2.1 (x / 4 % 64)).2.2.2 = false
  · refine va_put hx hb hts hC1 ty0 hty0 hC3 hown hG.1 hP (zW_D hN) hS o he hq1 (x / 4 % 64) hlt hlink (fun _ h => h) hfi hp1 hn1 hf1 (by rw [zfs_len]; exact hlt) hd fun H1 locs1 hP1 _ hS1 => ?_
    rw [hend] at hP1
    exact k H1 locs1 hP1 hS1
  · have hfi2 : (q.2.1 (x / 4 % 64)).2.2.2 = true := by
      cases hz : (q.2.1 (x / 4 % 64)).2.2.2 with
      | true => rfl
      | false => exact absurd hz hfi
    rcases hfin with h | h
    · exact absurd h hfi
    · refine va_putF hx hb hts hC1 ty0 hty0 hC3 hown hG.1 hP (zW_D hN) hS o he hq1 (x / 4 % 64) hlt hlink (fun _ h => h) hfi2 (hi0 h.1) h.2 hp1 hn1 hf1 (by rw [zfs_len]; exact hlt) hd fun H1 locs1 hP1 _ hS1 => ?_
      rw [hend] at hP1
      exact k H1 locs1 hP1 hS1
end ZM
