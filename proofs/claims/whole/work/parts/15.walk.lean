/-! THE WALK: a run of the small machine is a walk of the claim's -/
/-- the check of an instruction of method n at pc: it is the class file's, its links are the tables', what it calls has room -/
def zroom (n y : Nat) : Bool := if y < 900 then decide ((zMI y).2.2.2.2.2.1 + 1 ≤ (zMI n).2.2.2.2.2.1) && decide (8 + ((zMI y).2.2.1 + 11) + (zMI y).2.2.2.2.2.2 ≤ (zMI n).2.2.2.2.2.2)
  else if y = 907 then decide (1 ≤ (zMI n).2.2.2.2.2.1) && decide (40 ≤ (zMI n).2.2.2.2.2.2)
  else if y < 905 then decide (1 ≤ (zMI n).2.2.2.2.2.1) && decide (40 ≤ (zMI n).2.2.2.2.2.2)
  else decide (6 ≤ (zMI n).2.2.2.2.2.1) && decide (140 ≤ (zMI n).2.2.2.2.2.2)
def zrmk (n : Nat) (i : Instr) : Bool := match zcal i with
  | some (y, _) => zroom n y
  | none => true
def zins (n pc : Nat) (q : zIns) : Bool := decide (decode (zMI n).2.1 pc = .ok (zreal q.1 q.2.2, q.2.1)) && (zlenOK q.1 q.2.1 && ((zoffs q.1).all (fun o => decide (0 ≤ (pc : Int) + o)) && (decide (zlocs q.1 ≤ (zMI n).2.2.1) && (zlnk n q.1 q.2.2 && zrmk n q.1))))
def zinsAll (n : Nat) : Nat → zCode → Bool
  | _, [] => true
  | pc, none :: l => zinsAll n (pc + 1) l
  | pc, some q :: l => zins n pc q && zinsAll n (pc + 1) l
theorem zinsAll_at {n : Nat} : ∀ (l : zCode) (pc0 : Nat), zinsAll n pc0 l = true → ∀ (k : Nat) (q : zIns), l[k]? = some (some q) → zins n (pc0 + k) q = true
  | [], pc0, h, k, q, hk => by cases hk
  | none :: l, pc0, h, 0, q, hk => by cases hk
  | none :: l, pc0, h, k + 1, q, hk => by
    have := zinsAll_at l (pc0 + 1) h k q hk
    rw [show pc0 + (k + 1) = pc0 + 1 + k by omega]; exact this
  | some r :: l, pc0, h, 0, q, hk => by
    cases hk
    rw [zinsAll, Bool.and_eq_true] at h
    exact h.1
  | some r :: l, pc0, h, k + 1, q, hk => by
    rw [zinsAll, Bool.and_eq_true] at h
    have := zinsAll_at l (pc0 + 1) h.2 k q hk
    rw [show pc0 + (k + 1) = pc0 + 1 + k by omega]; exact this
/-- a method's own facts -/
def zmth (n : Nat) : Bool := zinsAll n 0 (zcode n) && (decide ((zMI n).2.2.1 = zML n) && (decide ((parseMethodDescriptor (zMI n).1.desc).map (fun d => d.parameters.length) = some (if n ∈ zoT ∨ n = 319 then zNA n else zNA n - 1)) && (decide (1 ≤ zNA n) || decide (n ∈ zoT)) && (plainName (zMI n).1.cls && (decide ((zMI n).1.cls ∈ zoIn) && (decide ((zMI n).1.cls = zOw (zMI n).2.2.2.2.1) && (decide (n ∈ zoT) || decide (zCI n = 99) || decide ((vwCl[zCI n]?).map (fun q => q.1) = some (zMI n).1.cls))))))
theorem zmth_0 : (List.range 16).all (fun j => zmth (16 * 0 + j)) = true := by decide +kernel
theorem zmth_1 : (List.range 16).all (fun j => zmth (16 * 1 + j)) = true := by decide +kernel
theorem zmth_2 : (List.range 16).all (fun j => zmth (16 * 2 + j)) = true := by decide +kernel
theorem zmth_3 : (List.range 16).all (fun j => zmth (16 * 3 + j)) = true := by decide +kernel
theorem zmth_4 : (List.range 16).all (fun j => zmth (16 * 4 + j)) = true := by decide +kernel
theorem zmth_5 : (List.range 16).all (fun j => zmth (16 * 5 + j)) = true := by decide +kernel
theorem zmth_6 : (List.range 16).all (fun j => zmth (16 * 6 + j)) = true := by decide +kernel
theorem zmth_7 : (List.range 16).all (fun j => zmth (16 * 7 + j)) = true := by decide +kernel
theorem zmth_8 : (List.range 16).all (fun j => zmth (16 * 8 + j)) = true := by decide +kernel
theorem zmth_9 : (List.range 16).all (fun j => zmth (16 * 9 + j)) = true := by decide +kernel
theorem zmth_10 : (List.range 16).all (fun j => zmth (16 * 10 + j)) = true := by decide +kernel
theorem zmth_11 : (List.range 16).all (fun j => zmth (16 * 11 + j)) = true := by decide +kernel
theorem zmth_12 : (List.range 16).all (fun j => zmth (16 * 12 + j)) = true := by decide +kernel
theorem zmth_13 : (List.range 16).all (fun j => zmth (16 * 13 + j)) = true := by decide +kernel
theorem zmth_14 : (List.range 16).all (fun j => zmth (16 * 14 + j)) = true := by decide +kernel
theorem zmth_15 : (List.range 16).all (fun j => zmth (16 * 15 + j)) = true := by decide +kernel
theorem zmth_16 : (List.range 16).all (fun j => zmth (16 * 16 + j)) = true := by decide +kernel
theorem zmth_17 : (List.range 16).all (fun j => zmth (16 * 17 + j)) = true := by decide +kernel
theorem zmth_18 : (List.range 16).all (fun j => zmth (16 * 18 + j)) = true := by decide +kernel
theorem zmth_19 : (List.range 16).all (fun j => zmth (16 * 19 + j)) = true := by decide +kernel
theorem zmth_all (n : Nat) (h : n < 320) : zmth n = true := by
  have key : ∀ k, k < 20 → (List.range 16).all (fun j => zmth (16 * k + j)) = true := by
    intro k hk
    match k, hk with
    | 0, _ => exact zmth_0
    | 1, _ => exact zmth_1
    | 2, _ => exact zmth_2
    | 3, _ => exact zmth_3
    | 4, _ => exact zmth_4
    | 5, _ => exact zmth_5
    | 6, _ => exact zmth_6
    | 7, _ => exact zmth_7
    | 8, _ => exact zmth_8
    | 9, _ => exact zmth_9
    | 10, _ => exact zmth_10
    | 11, _ => exact zmth_11
    | 12, _ => exact zmth_12
    | 13, _ => exact zmth_13
    | 14, _ => exact zmth_14
    | 15, _ => exact zmth_15
    | 16, _ => exact zmth_16
    | 17, _ => exact zmth_17
    | 18, _ => exact zmth_18
    | 19, _ => exact zmth_19
    | k + 20, hk => omega
  have h1 := List.all_eq_true.mp (key (n / 16) (by omega)) (n % 16) (List.mem_range.mpr (Nat.mod_lt _ (by omega)))
  rw [show 16 * (n / 16) + n % 16 = n by omega] at h1
  exact h1
