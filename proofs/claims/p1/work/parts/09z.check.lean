/-! EVERY INSTRUCTION IS CHECKED: it is the class file's, its links are the tables', what it calls has room -/
def zroom (n y : Nat) : Bool := if y < 900 then decide ((zMI y).2.2.2.2.2.1 + 1 ≤ (zMI n).2.2.2.2.2.1) && decide (8 + ((zMI y).2.2.1 + 11) + (zMI y).2.2.2.2.2.2 ≤ (zMI n).2.2.2.2.2.2)
  else if y = 905 ∨ y = 906 then decide (6 ≤ (zMI n).2.2.2.2.2.1) && decide (140 ≤ (zMI n).2.2.2.2.2.2)
  else decide (1 ≤ (zMI n).2.2.2.2.2.1) && decide (40 ≤ (zMI n).2.2.2.2.2.2)
def zrmk (n : Nat) (i : Instr) : Bool := match zcal i with
  | some (y, _) => zroom n y
  | none => true
def zins (n pc : Nat) (q : zIns) : Bool := decide (decode (zMI n).2.1 pc = .ok (zreal q.1 q.2.2, q.2.1)) && (zlenOK q.1 q.2.1 && ((zoffs q.1).all (fun o => decide (0 ≤ (pc : Int) + o)) && (decide (zlocs q.1 ≤ (zMI n).2.2.1) && (zlnk n q.1 q.2.2 && zrmk n q.1))))
def zinsAll (n : Nat) : Nat → zCode → Bool
  | _, [] => true
  | pc, none :: l => zinsAll n (pc + 1) l
  | pc, some q :: l => zins n pc q && zinsAll n (pc + 1) l
theorem zinsAll_at {n : Nat} : ∀ (l : zCode) (pc0 : Nat), zinsAll n pc0 l = true → ∀ (k : Nat) (q : zIns), l[k]? = some (some q) → zins n (pc0 + k) q = true
  | [], pc0, h, k, q, hk => by cases hk
  | none :: l, pc0, h, 0, q, hk => by cases hk
  | none :: l, pc0, h, k + 1, q, hk => by
    have := zinsAll_at l (pc0 + 1) h k q hk
    rw [show pc0 + (k + 1) = pc0 + 1 + k by omega]; exact this
  | some r :: l, pc0, h, 0, q, hk => by
    cases hk
    rw [zinsAll, Bool.and_eq_true] at h
    exact h.1
  | some r :: l, pc0, h, k + 1, q, hk => by
    rw [zinsAll, Bool.and_eq_true] at h
    have := zinsAll_at l (pc0 + 1) h.2 k q hk
    rw [show pc0 + (k + 1) = pc0 + 1 + k by omega]; exact this
def zPm (n : Nat) : Prop := ∀ (pc : Nat) (q : zIns), (zcode n)[pc]? = some (some q) → zins n pc q = true
theorem zPm_of (n step m : Nat) (hm : (zcode n).length ≤ step * m ∧ 0 < step) (h : ∀ j, j < m → zinsAll n (step * j) (((zcode n).drop (step * j)).take step) = true) : zPm n := by
  intro pc q hq
  have h1 : pc < (zcode n).length := (List.getElem?_eq_some_iff.mp hq).1
  have h2 : pc / step < m := (Nat.div_lt_iff_lt_mul hm.2).mpr (by rw [Nat.mul_comm]; omega)
  have h3 := zinsAll_at _ _ (h _ h2) (pc % step) q (by
    rw [List.getElem?_take, if_pos (Nat.mod_lt _ hm.2), List.getElem?_drop, Nat.div_add_mod]; exact hq)
  rw [Nat.div_add_mod] at h3
  exact h3
/-- a method's own facts -/
def zmth2 (n : Nat) : Bool := decide ((zMI n).2.2.1 = zML n) && (decide ((parseMethodDescriptor (zMI n).1.desc).map (fun d => d.parameters.length) = some (if n ∈ zoT ∨ n = 319 then zNA n else zNA n - 1)) && ((decide (1 ≤ zNA n) || decide (n ∈ zoT)) && (plainFor (zMI n).1 && (decide ((zMI n).1.cls ∈ zoIn) && (decide ((zMI n).1.cls = zOw (zMI n).2.2.2.2.1) && ((decide (n ∈ zoT) || decide (n = 319)) || decide ((vwCl[zCI n]?).map (fun q => q.1) = some (zMI n).1.cls)))))))

theorem zch_0_0 : zinsAll 0 0 (((zcode 0).drop 0).take 60) = true := by decide +kernel
theorem zch_0_60 : zinsAll 0 60 (((zcode 0).drop 60).take 60) = true := by decide +kernel
theorem zch_0_120 : zinsAll 0 120 (((zcode 0).drop 120).take 60) = true := by decide +kernel
theorem zPm_0 : zPm 0 := zPm_of 0 60 3 (by decide +kernel) (fun j hj => by
  match j, hj with
  | 0, _ => exact zch_0_0
  | 1, _ => exact zch_0_60
  | 2, _ => exact zch_0_120
  | j + 3, hj => omega)
theorem zch_1_0 : zinsAll 1 0 (((zcode 1).drop 0).take 60) = true := by decide +kernel
theorem zch_1_60 : zinsAll 1 60 (((zcode 1).drop 60).take 60) = true := by decide +kernel
theorem zPm_1 : zPm 1 := zPm_of 1 60 2 (by decide +kernel) (fun j hj => by
  match j, hj with
  | 0, _ => exact zch_1_0
  | 1, _ => exact zch_1_60
  | j + 2, hj => omega)
theorem zch_2_0 : zinsAll 2 0 (((zcode 2).drop 0).take 60) = true := by decide +kernel
theorem zch_2_60 : zinsAll 2 60 (((zcode 2).drop 60).take 60) = true := by decide +kernel
theorem zch_2_120 : zinsAll 2 120 (((zcode 2).drop 120).take 60) = true := by decide +kernel
theorem zPm_2 : zPm 2 := zPm_of 2 60 3 (by decide +kernel) (fun j hj => by
  match j, hj with
  | 0, _ => exact zch_2_0
  | 1, _ => exact zch_2_60
  | 2, _ => exact zch_2_120
  | j + 3, hj => omega)
theorem zch_3_0 : zinsAll 3 0 (((zcode 3).drop 0).take 60) = true := by decide +kernel
theorem zch_3_60 : zinsAll 3 60 (((zcode 3).drop 60).take 60) = true := by decide +kernel
theorem zPm_3 : zPm 3 := zPm_of 3 60 2 (by decide +kernel) (fun j hj => by
  match j, hj with
  | 0, _ => exact zch_3_0
  | 1, _ => exact zch_3_60
  | j + 2, hj => omega)
theorem zch_4_0 : zinsAll 4 0 (((zcode 4).drop 0).take 60) = true := by decide +kernel
theorem zch_4_60 : zinsAll 4 60 (((zcode 4).drop 60).take 60) = true := by decide +kernel
theorem zch_4_120 : zinsAll 4 120 (((zcode 4).drop 120).take 60) = true := by decide +kernel
theorem zch_4_180 : zinsAll 4 180 (((zcode 4).drop 180).take 60) = true := by decide +kernel
theorem zPm_4 : zPm 4 := zPm_of 4 60 4 (by decide +kernel) (fun j hj => by
  match j, hj with
  | 0, _ => exact zch_4_0
  | 1, _ => exact zch_4_60
  | 2, _ => exact zch_4_120
  | 3, _ => exact zch_4_180
  | j + 4, hj => omega)
theorem zch_5_0 : zinsAll 5 0 (((zcode 5).drop 0).take 60) = true := by decide +kernel
theorem zPm_5 : zPm 5 := zPm_of 5 60 1 (by decide +kernel) (fun j hj => by
  match j, hj with
  | 0, _ => exact zch_5_0
  | j + 1, hj => omega)
theorem zch_6_0 : zinsAll 6 0 (((zcode 6).drop 0).take 60) = true := by decide +kernel
theorem zPm_6 : zPm 6 := zPm_of 6 60 1 (by decide +kernel) (fun j hj => by
  match j, hj with
  | 0, _ => exact zch_6_0
  | j + 1, hj => omega)
theorem zch_7_0 : zinsAll 7 0 (((zcode 7).drop 0).take 60) = true := by decide +kernel
theorem zPm_7 : zPm 7 := zPm_of 7 60 1 (by decide +kernel) (fun j hj => by
  match j, hj with
  | 0, _ => exact zch_7_0
  | j + 1, hj => omega)
theorem zch_8_0 : zinsAll 8 0 (((zcode 8).drop 0).take 60) = true := by decide +kernel
theorem zch_8_60 : zinsAll 8 60 (((zcode 8).drop 60).take 60) = true := by decide +kernel
theorem zPm_8 : zPm 8 := zPm_of 8 60 2 (by decide +kernel) (fun j hj => by
  match j, hj with
  | 0, _ => exact zch_8_0
  | 1, _ => exact zch_8_60
  | j + 2, hj => omega)
theorem zch_9_0 : zinsAll 9 0 (((zcode 9).drop 0).take 60) = true := by decide +kernel
theorem zPm_9 : zPm 9 := zPm_of 9 60 1 (by decide +kernel) (fun j hj => by
  match j, hj with
  | 0, _ => exact zch_9_0
  | j + 1, hj => omega)
theorem zch_10_0 : zinsAll 10 0 (((zcode 10).drop 0).take 60) = true := by decide +kernel
theorem zPm_10 : zPm 10 := zPm_of 10 60 1 (by decide +kernel) (fun j hj => by
  match j, hj with
  | 0, _ => exact zch_10_0
  | j + 1, hj => omega)
theorem zch_11_0 : zinsAll 11 0 (((zcode 11).drop 0).take 60) = true := by decide +kernel
theorem zch_11_60 : zinsAll 11 60 (((zcode 11).drop 60).take 60) = true := by decide +kernel
theorem zch_11_120 : zinsAll 11 120 (((zcode 11).drop 120).take 60) = true := by decide +kernel
theorem zPm_11 : zPm 11 := zPm_of 11 60 3 (by decide +kernel) (fun j hj => by
  match j, hj with
  | 0, _ => exact zch_11_0
  | 1, _ => exact zch_11_60
  | 2, _ => exact zch_11_120
  | j + 3, hj => omega)
theorem zch_12_0 : zinsAll 12 0 (((zcode 12).drop 0).take 60) = true := by decide +kernel
theorem zch_12_60 : zinsAll 12 60 (((zcode 12).drop 60).take 60) = true := by decide +kernel
theorem zPm_12 : zPm 12 := zPm_of 12 60 2 (by decide +kernel) (fun j hj => by
  match j, hj with
  | 0, _ => exact zch_12_0
  | 1, _ => exact zch_12_60
  | j + 2, hj => omega)
theorem zch_13_0 : zinsAll 13 0 (((zcode 13).drop 0).take 60) = true := by decide +kernel
theorem zPm_13 : zPm 13 := zPm_of 13 60 1 (by decide +kernel) (fun j hj => by
  match j, hj with
  | 0, _ => exact zch_13_0
  | j + 1, hj => omega)
theorem zch_14_0 : zinsAll 14 0 (((zcode 14).drop 0).take 60) = true := by decide +kernel
theorem zPm_14 : zPm 14 := zPm_of 14 60 1 (by decide +kernel) (fun j hj => by
  match j, hj with
  | 0, _ => exact zch_14_0
  | j + 1, hj => omega)
theorem zch_15_0 : zinsAll 15 0 (((zcode 15).drop 0).take 60) = true := by decide +kernel
theorem zPm_15 : zPm 15 := zPm_of 15 60 1 (by decide +kernel) (fun j hj => by
  match j, hj with
  | 0, _ => exact zch_15_0
  | j + 1, hj => omega)
theorem zch_16_0 : zinsAll 16 0 (((zcode 16).drop 0).take 60) = true := by decide +kernel
theorem zPm_16 : zPm 16 := zPm_of 16 60 1 (by decide +kernel) (fun j hj => by
  match j, hj with
  | 0, _ => exact zch_16_0
  | j + 1, hj => omega)
theorem zch_17_0 : zinsAll 17 0 (((zcode 17).drop 0).take 60) = true := by decide +kernel
theorem zch_17_60 : zinsAll 17 60 (((zcode 17).drop 60).take 60) = true := by decide +kernel
theorem zPm_17 : zPm 17 := zPm_of 17 60 2 (by decide +kernel) (fun j hj => by
  match j, hj with
  | 0, _ => exact zch_17_0
  | 1, _ => exact zch_17_60
  | j + 2, hj => omega)
theorem zch_18_0 : zinsAll 18 0 (((zcode 18).drop 0).take 60) = true := by decide +kernel
theorem zch_18_60 : zinsAll 18 60 (((zcode 18).drop 60).take 60) = true := by decide +kernel
theorem zPm_18 : zPm 18 := zPm_of 18 60 2 (by decide +kernel) (fun j hj => by
  match j, hj with
  | 0, _ => exact zch_18_0
  | 1, _ => exact zch_18_60
  | j + 2, hj => omega)
theorem zch_19_0 : zinsAll 19 0 (((zcode 19).drop 0).take 60) = true := by decide +kernel
theorem zPm_19 : zPm 19 := zPm_of 19 60 1 (by decide +kernel) (fun j hj => by
  match j, hj with
  | 0, _ => exact zch_19_0
  | j + 1, hj => omega)
theorem zch_20_0 : zinsAll 20 0 (((zcode 20).drop 0).take 60) = true := by decide +kernel
theorem zPm_20 : zPm 20 := zPm_of 20 60 1 (by decide +kernel) (fun j hj => by
  match j, hj with
  | 0, _ => exact zch_20_0
  | j + 1, hj => omega)
theorem zch_21_0 : zinsAll 21 0 (((zcode 21).drop 0).take 60) = true := by decide +kernel
theorem zPm_21 : zPm 21 := zPm_of 21 60 1 (by decide +kernel) (fun j hj => by
  match j, hj with
  | 0, _ => exact zch_21_0
  | j + 1, hj => omega)
theorem zch_22_0 : zinsAll 22 0 (((zcode 22).drop 0).take 60) = true := by decide +kernel
theorem zch_22_60 : zinsAll 22 60 (((zcode 22).drop 60).take 60) = true := by decide +kernel
theorem zPm_22 : zPm 22 := zPm_of 22 60 2 (by decide +kernel) (fun j hj => by
  match j, hj with
  | 0, _ => exact zch_22_0
  | 1, _ => exact zch_22_60
  | j + 2, hj => omega)
theorem zch_23_0 : zinsAll 23 0 (((zcode 23).drop 0).take 60) = true := by decide +kernel
theorem zPm_23 : zPm 23 := zPm_of 23 60 1 (by decide +kernel) (fun j hj => by
  match j, hj with
  | 0, _ => exact zch_23_0
  | j + 1, hj => omega)
theorem zch_24_0 : zinsAll 24 0 (((zcode 24).drop 0).take 60) = true := by decide +kernel
theorem zch_24_60 : zinsAll 24 60 (((zcode 24).drop 60).take 60) = true := by decide +kernel
theorem zPm_24 : zPm 24 := zPm_of 24 60 2 (by decide +kernel) (fun j hj => by
  match j, hj with
  | 0, _ => exact zch_24_0
  | 1, _ => exact zch_24_60
  | j + 2, hj => omega)
theorem zch_25_0 : zinsAll 25 0 (((zcode 25).drop 0).take 60) = true := by decide +kernel
theorem zPm_25 : zPm 25 := zPm_of 25 60 1 (by decide +kernel) (fun j hj => by
  match j, hj with
  | 0, _ => exact zch_25_0
  | j + 1, hj => omega)
theorem zch_26_0 : zinsAll 26 0 (((zcode 26).drop 0).take 60) = true := by decide +kernel
theorem zPm_26 : zPm 26 := zPm_of 26 60 1 (by decide +kernel) (fun j hj => by
  match j, hj with
  | 0, _ => exact zch_26_0
  | j + 1, hj => omega)
theorem zch_27_0 : zinsAll 27 0 (((zcode 27).drop 0).take 60) = true := by decide +kernel
theorem zch_27_60 : zinsAll 27 60 (((zcode 27).drop 60).take 60) = true := by decide +kernel
theorem zch_27_120 : zinsAll 27 120 (((zcode 27).drop 120).take 60) = true := by decide +kernel
theorem zPm_27 : zPm 27 := zPm_of 27 60 3 (by decide +kernel) (fun j hj => by
  match j, hj with
  | 0, _ => exact zch_27_0
  | 1, _ => exact zch_27_60
  | 2, _ => exact zch_27_120
  | j + 3, hj => omega)
theorem zch_28_0 : zinsAll 28 0 (((zcode 28).drop 0).take 60) = true := by decide +kernel
theorem zch_28_60 : zinsAll 28 60 (((zcode 28).drop 60).take 60) = true := by decide +kernel
theorem zch_28_120 : zinsAll 28 120 (((zcode 28).drop 120).take 60) = true := by decide +kernel
theorem zPm_28 : zPm 28 := zPm_of 28 60 3 (by decide +kernel) (fun j hj => by
  match j, hj with
  | 0, _ => exact zch_28_0
  | 1, _ => exact zch_28_60
  | 2, _ => exact zch_28_120
  | j + 3, hj => omega)
theorem zch_29_0 : zinsAll 29 0 (((zcode 29).drop 0).take 60) = true := by decide +kernel
theorem zch_29_60 : zinsAll 29 60 (((zcode 29).drop 60).take 60) = true := by decide +kernel
theorem zch_29_120 : zinsAll 29 120 (((zcode 29).drop 120).take 60) = true := by decide +kernel
theorem zPm_29 : zPm 29 := zPm_of 29 60 3 (by decide +kernel) (fun j hj => by
  match j, hj with
  | 0, _ => exact zch_29_0
  | 1, _ => exact zch_29_60
  | 2, _ => exact zch_29_120
  | j + 3, hj => omega)
theorem zch_30_0 : zinsAll 30 0 (((zcode 30).drop 0).take 60) = true := by decide +kernel
theorem zPm_30 : zPm 30 := zPm_of 30 60 1 (by decide +kernel) (fun j hj => by
  match j, hj with
  | 0, _ => exact zch_30_0
  | j + 1, hj => omega)
theorem zch_31_0 : zinsAll 31 0 (((zcode 31).drop 0).take 60) = true := by decide +kernel
theorem zPm_31 : zPm 31 := zPm_of 31 60 1 (by decide +kernel) (fun j hj => by
  match j, hj with
  | 0, _ => exact zch_31_0
  | j + 1, hj => omega)
theorem zch_32_0 : zinsAll 32 0 (((zcode 32).drop 0).take 60) = true := by decide +kernel
theorem zch_32_60 : zinsAll 32 60 (((zcode 32).drop 60).take 60) = true := by decide +kernel
theorem zPm_32 : zPm 32 := zPm_of 32 60 2 (by decide +kernel) (fun j hj => by
  match j, hj with
  | 0, _ => exact zch_32_0
  | 1, _ => exact zch_32_60
  | j + 2, hj => omega)
theorem zch_33_0 : zinsAll 33 0 (((zcode 33).drop 0).take 60) = true := by decide +kernel
theorem zPm_33 : zPm 33 := zPm_of 33 60 1 (by decide +kernel) (fun j hj => by
  match j, hj with
  | 0, _ => exact zch_33_0
  | j + 1, hj => omega)
theorem zch_34_0 : zinsAll 34 0 (((zcode 34).drop 0).take 60) = true := by decide +kernel
theorem zPm_34 : zPm 34 := zPm_of 34 60 1 (by decide +kernel) (fun j hj => by
  match j, hj with
  | 0, _ => exact zch_34_0
  | j + 1, hj => omega)
theorem zch_35_0 : zinsAll 35 0 (((zcode 35).drop 0).take 60) = true := by decide +kernel
theorem zch_35_60 : zinsAll 35 60 (((zcode 35).drop 60).take 60) = true := by decide +kernel
theorem zPm_35 : zPm 35 := zPm_of 35 60 2 (by decide +kernel) (fun j hj => by
  match j, hj with
  | 0, _ => exact zch_35_0
  | 1, _ => exact zch_35_60
  | j + 2, hj => omega)
theorem zch_36_0 : zinsAll 36 0 (((zcode 36).drop 0).take 60) = true := by decide +kernel
theorem zPm_36 : zPm 36 := zPm_of 36 60 1 (by decide +kernel) (fun j hj => by
  match j, hj with
  | 0, _ => exact zch_36_0
  | j + 1, hj => omega)
theorem zch_37_0 : zinsAll 37 0 (((zcode 37).drop 0).take 60) = true := by decide +kernel
theorem zch_37_60 : zinsAll 37 60 (((zcode 37).drop 60).take 60) = true := by decide +kernel
theorem zPm_37 : zPm 37 := zPm_of 37 60 2 (by decide +kernel) (fun j hj => by
  match j, hj with
  | 0, _ => exact zch_37_0
  | 1, _ => exact zch_37_60
  | j + 2, hj => omega)
theorem zch_38_0 : zinsAll 38 0 (((zcode 38).drop 0).take 60) = true := by decide +kernel
theorem zPm_38 : zPm 38 := zPm_of 38 60 1 (by decide +kernel) (fun j hj => by
  match j, hj with
  | 0, _ => exact zch_38_0
  | j + 1, hj => omega)
theorem zch_39_0 : zinsAll 39 0 (((zcode 39).drop 0).take 60) = true := by decide +kernel
theorem zch_39_60 : zinsAll 39 60 (((zcode 39).drop 60).take 60) = true := by decide +kernel
theorem zPm_39 : zPm 39 := zPm_of 39 60 2 (by decide +kernel) (fun j hj => by
  match j, hj with
  | 0, _ => exact zch_39_0
  | 1, _ => exact zch_39_60
  | j + 2, hj => omega)
theorem zch_40_0 : zinsAll 40 0 (((zcode 40).drop 0).take 60) = true := by decide +kernel
theorem zPm_40 : zPm 40 := zPm_of 40 60 1 (by decide +kernel) (fun j hj => by
  match j, hj with
  | 0, _ => exact zch_40_0
  | j + 1, hj => omega)
theorem zch_41_0 : zinsAll 41 0 (((zcode 41).drop 0).take 60) = true := by decide +kernel
theorem zch_41_60 : zinsAll 41 60 (((zcode 41).drop 60).take 60) = true := by decide +kernel
theorem zPm_41 : zPm 41 := zPm_of 41 60 2 (by decide +kernel) (fun j hj => by
  match j, hj with
  | 0, _ => exact zch_41_0
  | 1, _ => exact zch_41_60
  | j + 2, hj => omega)
theorem zch_42_0 : zinsAll 42 0 (((zcode 42).drop 0).take 60) = true := by decide +kernel
theorem zch_42_60 : zinsAll 42 60 (((zcode 42).drop 60).take 60) = true := by decide +kernel
theorem zPm_42 : zPm 42 := zPm_of 42 60 2 (by decide +kernel) (fun j hj => by
  match j, hj with
  | 0, _ => exact zch_42_0
  | 1, _ => exact zch_42_60
  | j + 2, hj => omega)
theorem zch_43_0 : zinsAll 43 0 (((zcode 43).drop 0).take 60) = true := by decide +kernel
theorem zch_43_60 : zinsAll 43 60 (((zcode 43).drop 60).take 60) = true := by decide +kernel
theorem zPm_43 : zPm 43 := zPm_of 43 60 2 (by decide +kernel) (fun j hj => by
  match j, hj with
  | 0, _ => exact zch_43_0
  | 1, _ => exact zch_43_60
  | j + 2, hj => omega)
theorem zch_44_0 : zinsAll 44 0 (((zcode 44).drop 0).take 60) = true := by decide +kernel
theorem zch_44_60 : zinsAll 44 60 (((zcode 44).drop 60).take 60) = true := by decide +kernel
theorem zPm_44 : zPm 44 := zPm_of 44 60 2 (by decide +kernel) (fun j hj => by
  match j, hj with
  | 0, _ => exact zch_44_0
  | 1, _ => exact zch_44_60
  | j + 2, hj => omega)
theorem zch_45_0 : zinsAll 45 0 (((zcode 45).drop 0).take 60) = true := by decide +kernel
theorem zPm_45 : zPm 45 := zPm_of 45 60 1 (by decide +kernel) (fun j hj => by
  match j, hj with
  | 0, _ => exact zch_45_0
  | j + 1, hj => omega)
theorem zch_46_0 : zinsAll 46 0 (((zcode 46).drop 0).take 60) = true := by decide +kernel
theorem zPm_46 : zPm 46 := zPm_of 46 60 1 (by decide +kernel) (fun j hj => by
  match j, hj with
  | 0, _ => exact zch_46_0
  | j + 1, hj => omega)
theorem zch_47_0 : zinsAll 47 0 (((zcode 47).drop 0).take 60) = true := by decide +kernel
theorem zPm_47 : zPm 47 := zPm_of 47 60 1 (by decide +kernel) (fun j hj => by
  match j, hj with
  | 0, _ => exact zch_47_0
  | j + 1, hj => omega)
theorem zch_48_0 : zinsAll 48 0 (((zcode 48).drop 0).take 60) = true := by decide +kernel
theorem zPm_48 : zPm 48 := zPm_of 48 60 1 (by decide +kernel) (fun j hj => by
  match j, hj with
  | 0, _ => exact zch_48_0
  | j + 1, hj => omega)
theorem zch_49_0 : zinsAll 49 0 (((zcode 49).drop 0).take 60) = true := by decide +kernel
theorem zPm_49 : zPm 49 := zPm_of 49 60 1 (by decide +kernel) (fun j hj => by
  match j, hj with
  | 0, _ => exact zch_49_0
  | j + 1, hj => omega)
theorem zch_50_0 : zinsAll 50 0 (((zcode 50).drop 0).take 60) = true := by decide +kernel
theorem zPm_50 : zPm 50 := zPm_of 50 60 1 (by decide +kernel) (fun j hj => by
  match j, hj with
  | 0, _ => exact zch_50_0
  | j + 1, hj => omega)
theorem zch_51_0 : zinsAll 51 0 (((zcode 51).drop 0).take 60) = true := by decide +kernel
theorem zPm_51 : zPm 51 := zPm_of 51 60 1 (by decide +kernel) (fun j hj => by
  match j, hj with
  | 0, _ => exact zch_51_0
  | j + 1, hj => omega)
theorem zch_52_0 : zinsAll 52 0 (((zcode 52).drop 0).take 60) = true := by decide +kernel
theorem zch_52_60 : zinsAll 52 60 (((zcode 52).drop 60).take 60) = true := by decide +kernel
theorem zPm_52 : zPm 52 := zPm_of 52 60 2 (by decide +kernel) (fun j hj => by
  match j, hj with
  | 0, _ => exact zch_52_0
  | 1, _ => exact zch_52_60
  | j + 2, hj => omega)
theorem zch_53_0 : zinsAll 53 0 (((zcode 53).drop 0).take 60) = true := by decide +kernel
theorem zch_53_60 : zinsAll 53 60 (((zcode 53).drop 60).take 60) = true := by decide +kernel
theorem zPm_53 : zPm 53 := zPm_of 53 60 2 (by decide +kernel) (fun j hj => by
  match j, hj with
  | 0, _ => exact zch_53_0
  | 1, _ => exact zch_53_60
  | j + 2, hj => omega)
theorem zch_54_0 : zinsAll 54 0 (((zcode 54).drop 0).take 60) = true := by decide +kernel
theorem zPm_54 : zPm 54 := zPm_of 54 60 1 (by decide +kernel) (fun j hj => by
  match j, hj with
  | 0, _ => exact zch_54_0
  | j + 1, hj => omega)
theorem zch_55_0 : zinsAll 55 0 (((zcode 55).drop 0).take 60) = true := by decide +kernel
theorem zch_55_60 : zinsAll 55 60 (((zcode 55).drop 60).take 60) = true := by decide +kernel
theorem zPm_55 : zPm 55 := zPm_of 55 60 2 (by decide +kernel) (fun j hj => by
  match j, hj with
  | 0, _ => exact zch_55_0
  | 1, _ => exact zch_55_60
  | j + 2, hj => omega)
theorem zch_56_0 : zinsAll 56 0 (((zcode 56).drop 0).take 60) = true := by decide +kernel
theorem zPm_56 : zPm 56 := zPm_of 56 60 1 (by decide +kernel) (fun j hj => by
  match j, hj with
  | 0, _ => exact zch_56_0
  | j + 1, hj => omega)
theorem zch_57_0 : zinsAll 57 0 (((zcode 57).drop 0).take 60) = true := by decide +kernel
theorem zPm_57 : zPm 57 := zPm_of 57 60 1 (by decide +kernel) (fun j hj => by
  match j, hj with
  | 0, _ => exact zch_57_0
  | j + 1, hj => omega)
theorem zch_58_0 : zinsAll 58 0 (((zcode 58).drop 0).take 60) = true := by decide +kernel
theorem zPm_58 : zPm 58 := zPm_of 58 60 1 (by decide +kernel) (fun j hj => by
  match j, hj with
  | 0, _ => exact zch_58_0
  | j + 1, hj => omega)
theorem zch_59_0 : zinsAll 59 0 (((zcode 59).drop 0).take 60) = true := by decide +kernel
theorem zPm_59 : zPm 59 := zPm_of 59 60 1 (by decide +kernel) (fun j hj => by
  match j, hj with
  | 0, _ => exact zch_59_0
  | j + 1, hj => omega)
theorem zch_60_0 : zinsAll 60 0 (((zcode 60).drop 0).take 60) = true := by decide +kernel
theorem zPm_60 : zPm 60 := zPm_of 60 60 1 (by decide +kernel) (fun j hj => by
  match j, hj with
  | 0, _ => exact zch_60_0
  | j + 1, hj => omega)
theorem zch_61_0 : zinsAll 61 0 (((zcode 61).drop 0).take 60) = true := by decide +kernel
theorem zPm_61 : zPm 61 := zPm_of 61 60 1 (by decide +kernel) (fun j hj => by
  match j, hj with
  | 0, _ => exact zch_61_0
  | j + 1, hj => omega)
theorem zch_62_0 : zinsAll 62 0 (((zcode 62).drop 0).take 60) = true := by decide +kernel
theorem zch_62_60 : zinsAll 62 60 (((zcode 62).drop 60).take 60) = true := by decide +kernel
theorem zch_62_120 : zinsAll 62 120 (((zcode 62).drop 120).take 60) = true := by decide +kernel
theorem zch_62_180 : zinsAll 62 180 (((zcode 62).drop 180).take 60) = true := by decide +kernel
theorem zPm_62 : zPm 62 := zPm_of 62 60 4 (by decide +kernel) (fun j hj => by
  match j, hj with
  | 0, _ => exact zch_62_0
  | 1, _ => exact zch_62_60
  | 2, _ => exact zch_62_120
  | 3, _ => exact zch_62_180
  | j + 4, hj => omega)
theorem zch_63_0 : zinsAll 63 0 (((zcode 63).drop 0).take 60) = true := by decide +kernel
theorem zch_63_60 : zinsAll 63 60 (((zcode 63).drop 60).take 60) = true := by decide +kernel
theorem zch_63_120 : zinsAll 63 120 (((zcode 63).drop 120).take 60) = true := by decide +kernel
theorem zPm_63 : zPm 63 := zPm_of 63 60 3 (by decide +kernel) (fun j hj => by
  match j, hj with
  | 0, _ => exact zch_63_0
  | 1, _ => exact zch_63_60
  | 2, _ => exact zch_63_120
  | j + 3, hj => omega)
theorem zch_64_0 : zinsAll 64 0 (((zcode 64).drop 0).take 60) = true := by decide +kernel
theorem zPm_64 : zPm 64 := zPm_of 64 60 1 (by decide +kernel) (fun j hj => by
  match j, hj with
  | 0, _ => exact zch_64_0
  | j + 1, hj => omega)
theorem zch_65_0 : zinsAll 65 0 (((zcode 65).drop 0).take 60) = true := by decide +kernel
theorem zPm_65 : zPm 65 := zPm_of 65 60 1 (by decide +kernel) (fun j hj => by
  match j, hj with
  | 0, _ => exact zch_65_0
  | j + 1, hj => omega)
theorem zch_66_0 : zinsAll 66 0 (((zcode 66).drop 0).take 60) = true := by decide +kernel
theorem zch_66_60 : zinsAll 66 60 (((zcode 66).drop 60).take 60) = true := by decide +kernel
theorem zPm_66 : zPm 66 := zPm_of 66 60 2 (by decide +kernel) (fun j hj => by
  match j, hj with
  | 0, _ => exact zch_66_0
  | 1, _ => exact zch_66_60
  | j + 2, hj => omega)
theorem zch_67_0 : zinsAll 67 0 (((zcode 67).drop 0).take 60) = true := by decide +kernel
theorem zPm_67 : zPm 67 := zPm_of 67 60 1 (by decide +kernel) (fun j hj => by
  match j, hj with
  | 0, _ => exact zch_67_0
  | j + 1, hj => omega)
theorem zch_68_0 : zinsAll 68 0 (((zcode 68).drop 0).take 60) = true := by decide +kernel
theorem zPm_68 : zPm 68 := zPm_of 68 60 1 (by decide +kernel) (fun j hj => by
  match j, hj with
  | 0, _ => exact zch_68_0
  | j + 1, hj => omega)
theorem zch_69_0 : zinsAll 69 0 (((zcode 69).drop 0).take 60) = true := by decide +kernel
theorem zPm_69 : zPm 69 := zPm_of 69 60 1 (by decide +kernel) (fun j hj => by
  match j, hj with
  | 0, _ => exact zch_69_0
  | j + 1, hj => omega)
theorem zch_70_0 : zinsAll 70 0 (((zcode 70).drop 0).take 60) = true := by decide +kernel
theorem zPm_70 : zPm 70 := zPm_of 70 60 1 (by decide +kernel) (fun j hj => by
  match j, hj with
  | 0, _ => exact zch_70_0
  | j + 1, hj => omega)
theorem zch_71_0 : zinsAll 71 0 (((zcode 71).drop 0).take 60) = true := by decide +kernel
theorem zPm_71 : zPm 71 := zPm_of 71 60 1 (by decide +kernel) (fun j hj => by
  match j, hj with
  | 0, _ => exact zch_71_0
  | j + 1, hj => omega)
theorem zch_72_0 : zinsAll 72 0 (((zcode 72).drop 0).take 60) = true := by decide +kernel
theorem zPm_72 : zPm 72 := zPm_of 72 60 1 (by decide +kernel) (fun j hj => by
  match j, hj with
  | 0, _ => exact zch_72_0
  | j + 1, hj => omega)
theorem zch_73_0 : zinsAll 73 0 (((zcode 73).drop 0).take 60) = true := by decide +kernel
theorem zPm_73 : zPm 73 := zPm_of 73 60 1 (by decide +kernel) (fun j hj => by
  match j, hj with
  | 0, _ => exact zch_73_0
  | j + 1, hj => omega)
theorem zch_74_0 : zinsAll 74 0 (((zcode 74).drop 0).take 60) = true := by decide +kernel
theorem zPm_74 : zPm 74 := zPm_of 74 60 1 (by decide +kernel) (fun j hj => by
  match j, hj with
  | 0, _ => exact zch_74_0
  | j + 1, hj => omega)
theorem zch_75_0 : zinsAll 75 0 (((zcode 75).drop 0).take 60) = true := by decide +kernel
theorem zPm_75 : zPm 75 := zPm_of 75 60 1 (by decide +kernel) (fun j hj => by
  match j, hj with
  | 0, _ => exact zch_75_0
  | j + 1, hj => omega)
theorem zch_76_0 : zinsAll 76 0 (((zcode 76).drop 0).take 60) = true := by decide +kernel
theorem zPm_76 : zPm 76 := zPm_of 76 60 1 (by decide +kernel) (fun j hj => by
  match j, hj with
  | 0, _ => exact zch_76_0
  | j + 1, hj => omega)
theorem zch_77_0 : zinsAll 77 0 (((zcode 77).drop 0).take 60) = true := by decide +kernel
theorem zch_77_60 : zinsAll 77 60 (((zcode 77).drop 60).take 60) = true := by decide +kernel
theorem zPm_77 : zPm 77 := zPm_of 77 60 2 (by decide +kernel) (fun j hj => by
  match j, hj with
  | 0, _ => exact zch_77_0
  | 1, _ => exact zch_77_60
  | j + 2, hj => omega)
theorem zch_78_0 : zinsAll 78 0 (((zcode 78).drop 0).take 60) = true := by decide +kernel
theorem zch_78_60 : zinsAll 78 60 (((zcode 78).drop 60).take 60) = true := by decide +kernel
theorem zPm_78 : zPm 78 := zPm_of 78 60 2 (by decide +kernel) (fun j hj => by
  match j, hj with
  | 0, _ => exact zch_78_0
  | 1, _ => exact zch_78_60
  | j + 2, hj => omega)
theorem zch_79_0 : zinsAll 79 0 (((zcode 79).drop 0).take 60) = true := by decide +kernel
theorem zPm_79 : zPm 79 := zPm_of 79 60 1 (by decide +kernel) (fun j hj => by
  match j, hj with
  | 0, _ => exact zch_79_0
  | j + 1, hj => omega)
theorem zch_80_0 : zinsAll 80 0 (((zcode 80).drop 0).take 60) = true := by decide +kernel
theorem zPm_80 : zPm 80 := zPm_of 80 60 1 (by decide +kernel) (fun j hj => by
  match j, hj with
  | 0, _ => exact zch_80_0
  | j + 1, hj => omega)
theorem zch_81_0 : zinsAll 81 0 (((zcode 81).drop 0).take 60) = true := by decide +kernel
theorem zPm_81 : zPm 81 := zPm_of 81 60 1 (by decide +kernel) (fun j hj => by
  match j, hj with
  | 0, _ => exact zch_81_0
  | j + 1, hj => omega)
theorem zch_82_0 : zinsAll 82 0 (((zcode 82).drop 0).take 60) = true := by decide +kernel
theorem zPm_82 : zPm 82 := zPm_of 82 60 1 (by decide +kernel) (fun j hj => by
  match j, hj with
  | 0, _ => exact zch_82_0
  | j + 1, hj => omega)
theorem zch_83_0 : zinsAll 83 0 (((zcode 83).drop 0).take 60) = true := by decide +kernel
theorem zPm_83 : zPm 83 := zPm_of 83 60 1 (by decide +kernel) (fun j hj => by
  match j, hj with
  | 0, _ => exact zch_83_0
  | j + 1, hj => omega)
theorem zch_84_0 : zinsAll 84 0 (((zcode 84).drop 0).take 60) = true := by decide +kernel
theorem zPm_84 : zPm 84 := zPm_of 84 60 1 (by decide +kernel) (fun j hj => by
  match j, hj with
  | 0, _ => exact zch_84_0
  | j + 1, hj => omega)
theorem zch_85_0 : zinsAll 85 0 (((zcode 85).drop 0).take 60) = true := by decide +kernel
theorem zPm_85 : zPm 85 := zPm_of 85 60 1 (by decide +kernel) (fun j hj => by
  match j, hj with
  | 0, _ => exact zch_85_0
  | j + 1, hj => omega)
theorem zch_86_0 : zinsAll 86 0 (((zcode 86).drop 0).take 60) = true := by decide +kernel
theorem zch_86_60 : zinsAll 86 60 (((zcode 86).drop 60).take 60) = true := by decide +kernel
theorem zPm_86 : zPm 86 := zPm_of 86 60 2 (by decide +kernel) (fun j hj => by
  match j, hj with
  | 0, _ => exact zch_86_0
  | 1, _ => exact zch_86_60
  | j + 2, hj => omega)
theorem zch_87_0 : zinsAll 87 0 (((zcode 87).drop 0).take 60) = true := by decide +kernel
theorem zPm_87 : zPm 87 := zPm_of 87 60 1 (by decide +kernel) (fun j hj => by
  match j, hj with
  | 0, _ => exact zch_87_0
  | j + 1, hj => omega)
theorem zch_88_0 : zinsAll 88 0 (((zcode 88).drop 0).take 60) = true := by decide +kernel
theorem zch_88_60 : zinsAll 88 60 (((zcode 88).drop 60).take 60) = true := by decide +kernel
theorem zPm_88 : zPm 88 := zPm_of 88 60 2 (by decide +kernel) (fun j hj => by
  match j, hj with
  | 0, _ => exact zch_88_0
  | 1, _ => exact zch_88_60
  | j + 2, hj => omega)
theorem zch_89_0 : zinsAll 89 0 (((zcode 89).drop 0).take 60) = true := by decide +kernel
theorem zch_89_60 : zinsAll 89 60 (((zcode 89).drop 60).take 60) = true := by decide +kernel
theorem zPm_89 : zPm 89 := zPm_of 89 60 2 (by decide +kernel) (fun j hj => by
  match j, hj with
  | 0, _ => exact zch_89_0
  | 1, _ => exact zch_89_60
  | j + 2, hj => omega)
theorem zch_90_0 : zinsAll 90 0 (((zcode 90).drop 0).take 60) = true := by decide +kernel
theorem zPm_90 : zPm 90 := zPm_of 90 60 1 (by decide +kernel) (fun j hj => by
  match j, hj with
  | 0, _ => exact zch_90_0
  | j + 1, hj => omega)
theorem zch_91_0 : zinsAll 91 0 (((zcode 91).drop 0).take 60) = true := by decide +kernel
theorem zPm_91 : zPm 91 := zPm_of 91 60 1 (by decide +kernel) (fun j hj => by
  match j, hj with
  | 0, _ => exact zch_91_0
  | j + 1, hj => omega)
theorem zch_92_0 : zinsAll 92 0 (((zcode 92).drop 0).take 60) = true := by decide +kernel
theorem zch_92_60 : zinsAll 92 60 (((zcode 92).drop 60).take 60) = true := by decide +kernel
theorem zch_92_120 : zinsAll 92 120 (((zcode 92).drop 120).take 60) = true := by decide +kernel
theorem zch_92_180 : zinsAll 92 180 (((zcode 92).drop 180).take 60) = true := by decide +kernel
theorem zch_92_240 : zinsAll 92 240 (((zcode 92).drop 240).take 60) = true := by decide +kernel
theorem zPm_92 : zPm 92 := zPm_of 92 60 5 (by decide +kernel) (fun j hj => by
  match j, hj with
  | 0, _ => exact zch_92_0
  | 1, _ => exact zch_92_60
  | 2, _ => exact zch_92_120
  | 3, _ => exact zch_92_180
  | 4, _ => exact zch_92_240
  | j + 5, hj => omega)
theorem zch_93_0 : zinsAll 93 0 (((zcode 93).drop 0).take 60) = true := by decide +kernel
theorem zPm_93 : zPm 93 := zPm_of 93 60 1 (by decide +kernel) (fun j hj => by
  match j, hj with
  | 0, _ => exact zch_93_0
  | j + 1, hj => omega)
theorem zch_94_0 : zinsAll 94 0 (((zcode 94).drop 0).take 60) = true := by decide +kernel
theorem zPm_94 : zPm 94 := zPm_of 94 60 1 (by decide +kernel) (fun j hj => by
  match j, hj with
  | 0, _ => exact zch_94_0
  | j + 1, hj => omega)
theorem zch_95_0 : zinsAll 95 0 (((zcode 95).drop 0).take 60) = true := by decide +kernel
theorem zPm_95 : zPm 95 := zPm_of 95 60 1 (by decide +kernel) (fun j hj => by
  match j, hj with
  | 0, _ => exact zch_95_0
  | j + 1, hj => omega)
theorem zch_96_0 : zinsAll 96 0 (((zcode 96).drop 0).take 60) = true := by decide +kernel
theorem zPm_96 : zPm 96 := zPm_of 96 60 1 (by decide +kernel) (fun j hj => by
  match j, hj with
  | 0, _ => exact zch_96_0
  | j + 1, hj => omega)
theorem zch_97_0 : zinsAll 97 0 (((zcode 97).drop 0).take 60) = true := by decide +kernel
theorem zch_97_60 : zinsAll 97 60 (((zcode 97).drop 60).take 60) = true := by decide +kernel
theorem zPm_97 : zPm 97 := zPm_of 97 60 2 (by decide +kernel) (fun j hj => by
  match j, hj with
  | 0, _ => exact zch_97_0
  | 1, _ => exact zch_97_60
  | j + 2, hj => omega)
theorem zch_98_0 : zinsAll 98 0 (((zcode 98).drop 0).take 60) = true := by decide +kernel
theorem zPm_98 : zPm 98 := zPm_of 98 60 1 (by decide +kernel) (fun j hj => by
  match j, hj with
  | 0, _ => exact zch_98_0
  | j + 1, hj => omega)
theorem zch_99_0 : zinsAll 99 0 (((zcode 99).drop 0).take 60) = true := by decide +kernel
theorem zPm_99 : zPm 99 := zPm_of 99 60 1 (by decide +kernel) (fun j hj => by
  match j, hj with
  | 0, _ => exact zch_99_0
  | j + 1, hj => omega)
theorem zch_100_0 : zinsAll 100 0 (((zcode 100).drop 0).take 60) = true := by decide +kernel
theorem zPm_100 : zPm 100 := zPm_of 100 60 1 (by decide +kernel) (fun j hj => by
  match j, hj with
  | 0, _ => exact zch_100_0
  | j + 1, hj => omega)
theorem zch_101_0 : zinsAll 101 0 (((zcode 101).drop 0).take 60) = true := by decide +kernel
theorem zPm_101 : zPm 101 := zPm_of 101 60 1 (by decide +kernel) (fun j hj => by
  match j, hj with
  | 0, _ => exact zch_101_0
  | j + 1, hj => omega)
theorem zch_102_0 : zinsAll 102 0 (((zcode 102).drop 0).take 60) = true := by decide +kernel
theorem zPm_102 : zPm 102 := zPm_of 102 60 1 (by decide +kernel) (fun j hj => by
  match j, hj with
  | 0, _ => exact zch_102_0
  | j + 1, hj => omega)
theorem zch_103_0 : zinsAll 103 0 (((zcode 103).drop 0).take 60) = true := by decide +kernel
theorem zPm_103 : zPm 103 := zPm_of 103 60 1 (by decide +kernel) (fun j hj => by
  match j, hj with
  | 0, _ => exact zch_103_0
  | j + 1, hj => omega)
theorem zch_104_0 : zinsAll 104 0 (((zcode 104).drop 0).take 60) = true := by decide +kernel
theorem zPm_104 : zPm 104 := zPm_of 104 60 1 (by decide +kernel) (fun j hj => by
  match j, hj with
  | 0, _ => exact zch_104_0
  | j + 1, hj => omega)
theorem zch_105_0 : zinsAll 105 0 (((zcode 105).drop 0).take 60) = true := by decide +kernel
theorem zPm_105 : zPm 105 := zPm_of 105 60 1 (by decide +kernel) (fun j hj => by
  match j, hj with
  | 0, _ => exact zch_105_0
  | j + 1, hj => omega)
theorem zch_106_0 : zinsAll 106 0 (((zcode 106).drop 0).take 60) = true := by decide +kernel
theorem zPm_106 : zPm 106 := zPm_of 106 60 1 (by decide +kernel) (fun j hj => by
  match j, hj with
  | 0, _ => exact zch_106_0
  | j + 1, hj => omega)
theorem zch_107_0 : zinsAll 107 0 (((zcode 107).drop 0).take 60) = true := by decide +kernel
theorem zPm_107 : zPm 107 := zPm_of 107 60 1 (by decide +kernel) (fun j hj => by
  match j, hj with
  | 0, _ => exact zch_107_0
  | j + 1, hj => omega)
theorem zch_108_0 : zinsAll 108 0 (((zcode 108).drop 0).take 60) = true := by decide +kernel
theorem zPm_108 : zPm 108 := zPm_of 108 60 1 (by decide +kernel) (fun j hj => by
  match j, hj with
  | 0, _ => exact zch_108_0
  | j + 1, hj => omega)
theorem zch_109_0 : zinsAll 109 0 (((zcode 109).drop 0).take 60) = true := by decide +kernel
theorem zPm_109 : zPm 109 := zPm_of 109 60 1 (by decide +kernel) (fun j hj => by
  match j, hj with
  | 0, _ => exact zch_109_0
  | j + 1, hj => omega)
theorem zch_110_0 : zinsAll 110 0 (((zcode 110).drop 0).take 60) = true := by decide +kernel
theorem zPm_110 : zPm 110 := zPm_of 110 60 1 (by decide +kernel) (fun j hj => by
  match j, hj with
  | 0, _ => exact zch_110_0
  | j + 1, hj => omega)
theorem zch_111_0 : zinsAll 111 0 (((zcode 111).drop 0).take 60) = true := by decide +kernel
theorem zPm_111 : zPm 111 := zPm_of 111 60 1 (by decide +kernel) (fun j hj => by
  match j, hj with
  | 0, _ => exact zch_111_0
  | j + 1, hj => omega)
theorem zch_112_0 : zinsAll 112 0 (((zcode 112).drop 0).take 60) = true := by decide +kernel
theorem zPm_112 : zPm 112 := zPm_of 112 60 1 (by decide +kernel) (fun j hj => by
  match j, hj with
  | 0, _ => exact zch_112_0
  | j + 1, hj => omega)
theorem zch_113_0 : zinsAll 113 0 (((zcode 113).drop 0).take 60) = true := by decide +kernel
theorem zPm_113 : zPm 113 := zPm_of 113 60 1 (by decide +kernel) (fun j hj => by
  match j, hj with
  | 0, _ => exact zch_113_0
  | j + 1, hj => omega)
theorem zch_114_0 : zinsAll 114 0 (((zcode 114).drop 0).take 60) = true := by decide +kernel
theorem zPm_114 : zPm 114 := zPm_of 114 60 1 (by decide +kernel) (fun j hj => by
  match j, hj with
  | 0, _ => exact zch_114_0
  | j + 1, hj => omega)
theorem zch_115_0 : zinsAll 115 0 (((zcode 115).drop 0).take 60) = true := by decide +kernel
theorem zPm_115 : zPm 115 := zPm_of 115 60 1 (by decide +kernel) (fun j hj => by
  match j, hj with
  | 0, _ => exact zch_115_0
  | j + 1, hj => omega)
theorem zch_116_0 : zinsAll 116 0 (((zcode 116).drop 0).take 60) = true := by decide +kernel
theorem zPm_116 : zPm 116 := zPm_of 116 60 1 (by decide +kernel) (fun j hj => by
  match j, hj with
  | 0, _ => exact zch_116_0
  | j + 1, hj => omega)
theorem zch_117_0 : zinsAll 117 0 (((zcode 117).drop 0).take 60) = true := by decide +kernel
theorem zPm_117 : zPm 117 := zPm_of 117 60 1 (by decide +kernel) (fun j hj => by
  match j, hj with
  | 0, _ => exact zch_117_0
  | j + 1, hj => omega)
theorem zch_118_0 : zinsAll 118 0 (((zcode 118).drop 0).take 60) = true := by decide +kernel
theorem zPm_118 : zPm 118 := zPm_of 118 60 1 (by decide +kernel) (fun j hj => by
  match j, hj with
  | 0, _ => exact zch_118_0
  | j + 1, hj => omega)
theorem zch_119_0 : zinsAll 119 0 (((zcode 119).drop 0).take 60) = true := by decide +kernel
theorem zch_119_60 : zinsAll 119 60 (((zcode 119).drop 60).take 60) = true := by decide +kernel
theorem zPm_119 : zPm 119 := zPm_of 119 60 2 (by decide +kernel) (fun j hj => by
  match j, hj with
  | 0, _ => exact zch_119_0
  | 1, _ => exact zch_119_60
  | j + 2, hj => omega)
theorem zch_120_0 : zinsAll 120 0 (((zcode 120).drop 0).take 60) = true := by decide +kernel
theorem zch_120_60 : zinsAll 120 60 (((zcode 120).drop 60).take 60) = true := by decide +kernel
theorem zPm_120 : zPm 120 := zPm_of 120 60 2 (by decide +kernel) (fun j hj => by
  match j, hj with
  | 0, _ => exact zch_120_0
  | 1, _ => exact zch_120_60
  | j + 2, hj => omega)
theorem zch_121_0 : zinsAll 121 0 (((zcode 121).drop 0).take 60) = true := by decide +kernel
theorem zPm_121 : zPm 121 := zPm_of 121 60 1 (by decide +kernel) (fun j hj => by
  match j, hj with
  | 0, _ => exact zch_121_0
  | j + 1, hj => omega)
theorem zch_122_0 : zinsAll 122 0 (((zcode 122).drop 0).take 60) = true := by decide +kernel
theorem zch_122_60 : zinsAll 122 60 (((zcode 122).drop 60).take 60) = true := by decide +kernel
theorem zPm_122 : zPm 122 := zPm_of 122 60 2 (by decide +kernel) (fun j hj => by
  match j, hj with
  | 0, _ => exact zch_122_0
  | 1, _ => exact zch_122_60
  | j + 2, hj => omega)
theorem zch_123_0 : zinsAll 123 0 (((zcode 123).drop 0).take 60) = true := by decide +kernel
theorem zch_123_60 : zinsAll 123 60 (((zcode 123).drop 60).take 60) = true := by decide +kernel
theorem zPm_123 : zPm 123 := zPm_of 123 60 2 (by decide +kernel) (fun j hj => by
  match j, hj with
  | 0, _ => exact zch_123_0
  | 1, _ => exact zch_123_60
  | j + 2, hj => omega)
theorem zch_124_0 : zinsAll 124 0 (((zcode 124).drop 0).take 60) = true := by decide +kernel
theorem zch_124_60 : zinsAll 124 60 (((zcode 124).drop 60).take 60) = true := by decide +kernel
theorem zPm_124 : zPm 124 := zPm_of 124 60 2 (by decide +kernel) (fun j hj => by
  match j, hj with
  | 0, _ => exact zch_124_0
  | 1, _ => exact zch_124_60
  | j + 2, hj => omega)
theorem zch_125_0 : zinsAll 125 0 (((zcode 125).drop 0).take 60) = true := by decide +kernel
theorem zch_125_60 : zinsAll 125 60 (((zcode 125).drop 60).take 60) = true := by decide +kernel
theorem zPm_125 : zPm 125 := zPm_of 125 60 2 (by decide +kernel) (fun j hj => by
  match j, hj with
  | 0, _ => exact zch_125_0
  | 1, _ => exact zch_125_60
  | j + 2, hj => omega)
theorem zch_126_0 : zinsAll 126 0 (((zcode 126).drop 0).take 60) = true := by decide +kernel
theorem zPm_126 : zPm 126 := zPm_of 126 60 1 (by decide +kernel) (fun j hj => by
  match j, hj with
  | 0, _ => exact zch_126_0
  | j + 1, hj => omega)
theorem zch_127_0 : zinsAll 127 0 (((zcode 127).drop 0).take 60) = true := by decide +kernel
theorem zch_127_60 : zinsAll 127 60 (((zcode 127).drop 60).take 60) = true := by decide +kernel
theorem zPm_127 : zPm 127 := zPm_of 127 60 2 (by decide +kernel) (fun j hj => by
  match j, hj with
  | 0, _ => exact zch_127_0
  | 1, _ => exact zch_127_60
  | j + 2, hj => omega)
theorem zch_128_0 : zinsAll 128 0 (((zcode 128).drop 0).take 60) = true := by decide +kernel
theorem zPm_128 : zPm 128 := zPm_of 128 60 1 (by decide +kernel) (fun j hj => by
  match j, hj with
  | 0, _ => exact zch_128_0
  | j + 1, hj => omega)
theorem zch_129_0 : zinsAll 129 0 (((zcode 129).drop 0).take 60) = true := by decide +kernel
theorem zch_129_60 : zinsAll 129 60 (((zcode 129).drop 60).take 60) = true := by decide +kernel
theorem zPm_129 : zPm 129 := zPm_of 129 60 2 (by decide +kernel) (fun j hj => by
  match j, hj with
  | 0, _ => exact zch_129_0
  | 1, _ => exact zch_129_60
  | j + 2, hj => omega)
theorem zch_130_0 : zinsAll 130 0 (((zcode 130).drop 0).take 60) = true := by decide +kernel
theorem zch_130_60 : zinsAll 130 60 (((zcode 130).drop 60).take 60) = true := by decide +kernel
theorem zPm_130 : zPm 130 := zPm_of 130 60 2 (by decide +kernel) (fun j hj => by
  match j, hj with
  | 0, _ => exact zch_130_0
  | 1, _ => exact zch_130_60
  | j + 2, hj => omega)
theorem zch_131_0 : zinsAll 131 0 (((zcode 131).drop 0).take 60) = true := by decide +kernel
theorem zch_131_60 : zinsAll 131 60 (((zcode 131).drop 60).take 60) = true := by decide +kernel
theorem zPm_131 : zPm 131 := zPm_of 131 60 2 (by decide +kernel) (fun j hj => by
  match j, hj with
  | 0, _ => exact zch_131_0
  | 1, _ => exact zch_131_60
  | j + 2, hj => omega)
theorem zch_132_0 : zinsAll 132 0 (((zcode 132).drop 0).take 60) = true := by decide +kernel
theorem zPm_132 : zPm 132 := zPm_of 132 60 1 (by decide +kernel) (fun j hj => by
  match j, hj with
  | 0, _ => exact zch_132_0
  | j + 1, hj => omega)
theorem zch_133_0 : zinsAll 133 0 (((zcode 133).drop 0).take 60) = true := by decide +kernel
theorem zPm_133 : zPm 133 := zPm_of 133 60 1 (by decide +kernel) (fun j hj => by
  match j, hj with
  | 0, _ => exact zch_133_0
  | j + 1, hj => omega)
theorem zch_134_0 : zinsAll 134 0 (((zcode 134).drop 0).take 60) = true := by decide +kernel
theorem zch_134_60 : zinsAll 134 60 (((zcode 134).drop 60).take 60) = true := by decide +kernel
theorem zPm_134 : zPm 134 := zPm_of 134 60 2 (by decide +kernel) (fun j hj => by
  match j, hj with
  | 0, _ => exact zch_134_0
  | 1, _ => exact zch_134_60
  | j + 2, hj => omega)
theorem zch_135_0 : zinsAll 135 0 (((zcode 135).drop 0).take 60) = true := by decide +kernel
theorem zch_135_60 : zinsAll 135 60 (((zcode 135).drop 60).take 60) = true := by decide +kernel
theorem zPm_135 : zPm 135 := zPm_of 135 60 2 (by decide +kernel) (fun j hj => by
  match j, hj with
  | 0, _ => exact zch_135_0
  | 1, _ => exact zch_135_60
  | j + 2, hj => omega)
theorem zch_136_0 : zinsAll 136 0 (((zcode 136).drop 0).take 60) = true := by decide +kernel
theorem zPm_136 : zPm 136 := zPm_of 136 60 1 (by decide +kernel) (fun j hj => by
  match j, hj with
  | 0, _ => exact zch_136_0
  | j + 1, hj => omega)
theorem zch_137_0 : zinsAll 137 0 (((zcode 137).drop 0).take 60) = true := by decide +kernel
theorem zPm_137 : zPm 137 := zPm_of 137 60 1 (by decide +kernel) (fun j hj => by
  match j, hj with
  | 0, _ => exact zch_137_0
  | j + 1, hj => omega)
theorem zch_138_0 : zinsAll 138 0 (((zcode 138).drop 0).take 60) = true := by decide +kernel
theorem zch_138_60 : zinsAll 138 60 (((zcode 138).drop 60).take 60) = true := by decide +kernel
theorem zPm_138 : zPm 138 := zPm_of 138 60 2 (by decide +kernel) (fun j hj => by
  match j, hj with
  | 0, _ => exact zch_138_0
  | 1, _ => exact zch_138_60
  | j + 2, hj => omega)
theorem zch_139_0 : zinsAll 139 0 (((zcode 139).drop 0).take 60) = true := by decide +kernel
theorem zch_139_60 : zinsAll 139 60 (((zcode 139).drop 60).take 60) = true := by decide +kernel
theorem zch_139_120 : zinsAll 139 120 (((zcode 139).drop 120).take 60) = true := by decide +kernel
theorem zPm_139 : zPm 139 := zPm_of 139 60 3 (by decide +kernel) (fun j hj => by
  match j, hj with
  | 0, _ => exact zch_139_0
  | 1, _ => exact zch_139_60
  | 2, _ => exact zch_139_120
  | j + 3, hj => omega)
theorem zch_140_0 : zinsAll 140 0 (((zcode 140).drop 0).take 60) = true := by decide +kernel
theorem zch_140_60 : zinsAll 140 60 (((zcode 140).drop 60).take 60) = true := by decide +kernel
theorem zPm_140 : zPm 140 := zPm_of 140 60 2 (by decide +kernel) (fun j hj => by
  match j, hj with
  | 0, _ => exact zch_140_0
  | 1, _ => exact zch_140_60
  | j + 2, hj => omega)
theorem zch_141_0 : zinsAll 141 0 (((zcode 141).drop 0).take 60) = true := by decide +kernel
theorem zch_141_60 : zinsAll 141 60 (((zcode 141).drop 60).take 60) = true := by decide +kernel
theorem zch_141_120 : zinsAll 141 120 (((zcode 141).drop 120).take 60) = true := by decide +kernel
theorem zPm_141 : zPm 141 := zPm_of 141 60 3 (by decide +kernel) (fun j hj => by
  match j, hj with
  | 0, _ => exact zch_141_0
  | 1, _ => exact zch_141_60
  | 2, _ => exact zch_141_120
  | j + 3, hj => omega)
theorem zch_142_0 : zinsAll 142 0 (((zcode 142).drop 0).take 60) = true := by decide +kernel
theorem zPm_142 : zPm 142 := zPm_of 142 60 1 (by decide +kernel) (fun j hj => by
  match j, hj with
  | 0, _ => exact zch_142_0
  | j + 1, hj => omega)
theorem zch_143_0 : zinsAll 143 0 (((zcode 143).drop 0).take 60) = true := by decide +kernel
theorem zch_143_60 : zinsAll 143 60 (((zcode 143).drop 60).take 60) = true := by decide +kernel
theorem zPm_143 : zPm 143 := zPm_of 143 60 2 (by decide +kernel) (fun j hj => by
  match j, hj with
  | 0, _ => exact zch_143_0
  | 1, _ => exact zch_143_60
  | j + 2, hj => omega)
theorem zch_144_0 : zinsAll 144 0 (((zcode 144).drop 0).take 60) = true := by decide +kernel
theorem zch_144_60 : zinsAll 144 60 (((zcode 144).drop 60).take 60) = true := by decide +kernel
theorem zPm_144 : zPm 144 := zPm_of 144 60 2 (by decide +kernel) (fun j hj => by
  match j, hj with
  | 0, _ => exact zch_144_0
  | 1, _ => exact zch_144_60
  | j + 2, hj => omega)
theorem zch_145_0 : zinsAll 145 0 (((zcode 145).drop 0).take 60) = true := by decide +kernel
theorem zch_145_60 : zinsAll 145 60 (((zcode 145).drop 60).take 60) = true := by decide +kernel
theorem zPm_145 : zPm 145 := zPm_of 145 60 2 (by decide +kernel) (fun j hj => by
  match j, hj with
  | 0, _ => exact zch_145_0
  | 1, _ => exact zch_145_60
  | j + 2, hj => omega)
theorem zch_146_0 : zinsAll 146 0 (((zcode 146).drop 0).take 60) = true := by decide +kernel
theorem zPm_146 : zPm 146 := zPm_of 146 60 1 (by decide +kernel) (fun j hj => by
  match j, hj with
  | 0, _ => exact zch_146_0
  | j + 1, hj => omega)
theorem zch_147_0 : zinsAll 147 0 (((zcode 147).drop 0).take 60) = true := by decide +kernel
theorem zch_147_60 : zinsAll 147 60 (((zcode 147).drop 60).take 60) = true := by decide +kernel
theorem zPm_147 : zPm 147 := zPm_of 147 60 2 (by decide +kernel) (fun j hj => by
  match j, hj with
  | 0, _ => exact zch_147_0
  | 1, _ => exact zch_147_60
  | j + 2, hj => omega)
theorem zch_148_0 : zinsAll 148 0 (((zcode 148).drop 0).take 60) = true := by decide +kernel
theorem zch_148_60 : zinsAll 148 60 (((zcode 148).drop 60).take 60) = true := by decide +kernel
theorem zPm_148 : zPm 148 := zPm_of 148 60 2 (by decide +kernel) (fun j hj => by
  match j, hj with
  | 0, _ => exact zch_148_0
  | 1, _ => exact zch_148_60
  | j + 2, hj => omega)
theorem zch_149_0 : zinsAll 149 0 (((zcode 149).drop 0).take 60) = true := by decide +kernel
theorem zPm_149 : zPm 149 := zPm_of 149 60 1 (by decide +kernel) (fun j hj => by
  match j, hj with
  | 0, _ => exact zch_149_0
  | j + 1, hj => omega)
theorem zch_150_0 : zinsAll 150 0 (((zcode 150).drop 0).take 60) = true := by decide +kernel
theorem zPm_150 : zPm 150 := zPm_of 150 60 1 (by decide +kernel) (fun j hj => by
  match j, hj with
  | 0, _ => exact zch_150_0
  | j + 1, hj => omega)
theorem zch_151_0 : zinsAll 151 0 (((zcode 151).drop 0).take 60) = true := by decide +kernel
theorem zPm_151 : zPm 151 := zPm_of 151 60 1 (by decide +kernel) (fun j hj => by
  match j, hj with
  | 0, _ => exact zch_151_0
  | j + 1, hj => omega)
theorem zch_152_0 : zinsAll 152 0 (((zcode 152).drop 0).take 60) = true := by decide +kernel
theorem zch_152_60 : zinsAll 152 60 (((zcode 152).drop 60).take 60) = true := by decide +kernel
theorem zPm_152 : zPm 152 := zPm_of 152 60 2 (by decide +kernel) (fun j hj => by
  match j, hj with
  | 0, _ => exact zch_152_0
  | 1, _ => exact zch_152_60
  | j + 2, hj => omega)
theorem zch_153_0 : zinsAll 153 0 (((zcode 153).drop 0).take 60) = true := by decide +kernel
theorem zPm_153 : zPm 153 := zPm_of 153 60 1 (by decide +kernel) (fun j hj => by
  match j, hj with
  | 0, _ => exact zch_153_0
  | j + 1, hj => omega)
theorem zch_154_0 : zinsAll 154 0 (((zcode 154).drop 0).take 60) = true := by decide +kernel
theorem zch_154_60 : zinsAll 154 60 (((zcode 154).drop 60).take 60) = true := by decide +kernel
theorem zPm_154 : zPm 154 := zPm_of 154 60 2 (by decide +kernel) (fun j hj => by
  match j, hj with
  | 0, _ => exact zch_154_0
  | 1, _ => exact zch_154_60
  | j + 2, hj => omega)
theorem zch_155_0 : zinsAll 155 0 (((zcode 155).drop 0).take 60) = true := by decide +kernel
theorem zch_155_60 : zinsAll 155 60 (((zcode 155).drop 60).take 60) = true := by decide +kernel
theorem zch_155_120 : zinsAll 155 120 (((zcode 155).drop 120).take 60) = true := by decide +kernel
theorem zPm_155 : zPm 155 := zPm_of 155 60 3 (by decide +kernel) (fun j hj => by
  match j, hj with
  | 0, _ => exact zch_155_0
  | 1, _ => exact zch_155_60
  | 2, _ => exact zch_155_120
  | j + 3, hj => omega)
theorem zch_156_0 : zinsAll 156 0 (((zcode 156).drop 0).take 60) = true := by decide +kernel
theorem zPm_156 : zPm 156 := zPm_of 156 60 1 (by decide +kernel) (fun j hj => by
  match j, hj with
  | 0, _ => exact zch_156_0
  | j + 1, hj => omega)
theorem zch_157_0 : zinsAll 157 0 (((zcode 157).drop 0).take 60) = true := by decide +kernel
theorem zch_157_60 : zinsAll 157 60 (((zcode 157).drop 60).take 60) = true := by decide +kernel
theorem zch_157_120 : zinsAll 157 120 (((zcode 157).drop 120).take 60) = true := by decide +kernel
theorem zPm_157 : zPm 157 := zPm_of 157 60 3 (by decide +kernel) (fun j hj => by
  match j, hj with
  | 0, _ => exact zch_157_0
  | 1, _ => exact zch_157_60
  | 2, _ => exact zch_157_120
  | j + 3, hj => omega)
theorem zch_158_0 : zinsAll 158 0 (((zcode 158).drop 0).take 60) = true := by decide +kernel
theorem zPm_158 : zPm 158 := zPm_of 158 60 1 (by decide +kernel) (fun j hj => by
  match j, hj with
  | 0, _ => exact zch_158_0
  | j + 1, hj => omega)
theorem zch_159_0 : zinsAll 159 0 (((zcode 159).drop 0).take 60) = true := by decide +kernel
theorem zch_159_60 : zinsAll 159 60 (((zcode 159).drop 60).take 60) = true := by decide +kernel
theorem zPm_159 : zPm 159 := zPm_of 159 60 2 (by decide +kernel) (fun j hj => by
  match j, hj with
  | 0, _ => exact zch_159_0
  | 1, _ => exact zch_159_60
  | j + 2, hj => omega)
theorem zch_160_0 : zinsAll 160 0 (((zcode 160).drop 0).take 60) = true := by decide +kernel
theorem zch_160_60 : zinsAll 160 60 (((zcode 160).drop 60).take 60) = true := by decide +kernel
theorem zPm_160 : zPm 160 := zPm_of 160 60 2 (by decide +kernel) (fun j hj => by
  match j, hj with
  | 0, _ => exact zch_160_0
  | 1, _ => exact zch_160_60
  | j + 2, hj => omega)
theorem zch_161_0 : zinsAll 161 0 (((zcode 161).drop 0).take 60) = true := by decide +kernel
theorem zch_161_60 : zinsAll 161 60 (((zcode 161).drop 60).take 60) = true := by decide +kernel
theorem zPm_161 : zPm 161 := zPm_of 161 60 2 (by decide +kernel) (fun j hj => by
  match j, hj with
  | 0, _ => exact zch_161_0
  | 1, _ => exact zch_161_60
  | j + 2, hj => omega)
theorem zch_162_0 : zinsAll 162 0 (((zcode 162).drop 0).take 60) = true := by decide +kernel
theorem zch_162_60 : zinsAll 162 60 (((zcode 162).drop 60).take 60) = true := by decide +kernel
theorem zPm_162 : zPm 162 := zPm_of 162 60 2 (by decide +kernel) (fun j hj => by
  match j, hj with
  | 0, _ => exact zch_162_0
  | 1, _ => exact zch_162_60
  | j + 2, hj => omega)
theorem zch_163_0 : zinsAll 163 0 (((zcode 163).drop 0).take 60) = true := by decide +kernel
theorem zch_163_60 : zinsAll 163 60 (((zcode 163).drop 60).take 60) = true := by decide +kernel
theorem zPm_163 : zPm 163 := zPm_of 163 60 2 (by decide +kernel) (fun j hj => by
  match j, hj with
  | 0, _ => exact zch_163_0
  | 1, _ => exact zch_163_60
  | j + 2, hj => omega)
theorem zch_164_0 : zinsAll 164 0 (((zcode 164).drop 0).take 60) = true := by decide +kernel
theorem zch_164_60 : zinsAll 164 60 (((zcode 164).drop 60).take 60) = true := by decide +kernel
theorem zch_164_120 : zinsAll 164 120 (((zcode 164).drop 120).take 60) = true := by decide +kernel
theorem zPm_164 : zPm 164 := zPm_of 164 60 3 (by decide +kernel) (fun j hj => by
  match j, hj with
  | 0, _ => exact zch_164_0
  | 1, _ => exact zch_164_60
  | 2, _ => exact zch_164_120
  | j + 3, hj => omega)
theorem zch_165_0 : zinsAll 165 0 (((zcode 165).drop 0).take 60) = true := by decide +kernel
theorem zch_165_60 : zinsAll 165 60 (((zcode 165).drop 60).take 60) = true := by decide +kernel
theorem zPm_165 : zPm 165 := zPm_of 165 60 2 (by decide +kernel) (fun j hj => by
  match j, hj with
  | 0, _ => exact zch_165_0
  | 1, _ => exact zch_165_60
  | j + 2, hj => omega)
theorem zch_166_0 : zinsAll 166 0 (((zcode 166).drop 0).take 60) = true := by decide +kernel
theorem zch_166_60 : zinsAll 166 60 (((zcode 166).drop 60).take 60) = true := by decide +kernel
theorem zch_166_120 : zinsAll 166 120 (((zcode 166).drop 120).take 60) = true := by decide +kernel
theorem zPm_166 : zPm 166 := zPm_of 166 60 3 (by decide +kernel) (fun j hj => by
  match j, hj with
  | 0, _ => exact zch_166_0
  | 1, _ => exact zch_166_60
  | 2, _ => exact zch_166_120
  | j + 3, hj => omega)
theorem zch_167_0 : zinsAll 167 0 (((zcode 167).drop 0).take 60) = true := by decide +kernel
theorem zPm_167 : zPm 167 := zPm_of 167 60 1 (by decide +kernel) (fun j hj => by
  match j, hj with
  | 0, _ => exact zch_167_0
  | j + 1, hj => omega)
theorem zch_168_0 : zinsAll 168 0 (((zcode 168).drop 0).take 60) = true := by decide +kernel
theorem zPm_168 : zPm 168 := zPm_of 168 60 1 (by decide +kernel) (fun j hj => by
  match j, hj with
  | 0, _ => exact zch_168_0
  | j + 1, hj => omega)
theorem zch_169_0 : zinsAll 169 0 (((zcode 169).drop 0).take 60) = true := by decide +kernel
theorem zPm_169 : zPm 169 := zPm_of 169 60 1 (by decide +kernel) (fun j hj => by
  match j, hj with
  | 0, _ => exact zch_169_0
  | j + 1, hj => omega)
theorem zch_170_0 : zinsAll 170 0 (((zcode 170).drop 0).take 60) = true := by decide +kernel
theorem zPm_170 : zPm 170 := zPm_of 170 60 1 (by decide +kernel) (fun j hj => by
  match j, hj with
  | 0, _ => exact zch_170_0
  | j + 1, hj => omega)
theorem zch_171_0 : zinsAll 171 0 (((zcode 171).drop 0).take 40) = true := by decide +kernel
theorem zch_171_40 : zinsAll 171 40 (((zcode 171).drop 40).take 40) = true := by decide +kernel
theorem zch_171_80 : zinsAll 171 80 (((zcode 171).drop 80).take 40) = true := by decide +kernel
theorem zch_171_120 : zinsAll 171 120 (((zcode 171).drop 120).take 40) = true := by decide +kernel
theorem zch_171_160 : zinsAll 171 160 (((zcode 171).drop 160).take 40) = true := by decide +kernel
theorem zch_171_200 : zinsAll 171 200 (((zcode 171).drop 200).take 40) = true := by decide +kernel
theorem zch_171_240 : zinsAll 171 240 (((zcode 171).drop 240).take 40) = true := by decide +kernel
theorem zch_171_280 : zinsAll 171 280 (((zcode 171).drop 280).take 40) = true := by decide +kernel
theorem zch_171_320 : zinsAll 171 320 (((zcode 171).drop 320).take 40) = true := by decide +kernel
theorem zch_171_360 : zinsAll 171 360 (((zcode 171).drop 360).take 40) = true := by decide +kernel
theorem zch_171_400 : zinsAll 171 400 (((zcode 171).drop 400).take 40) = true := by decide +kernel
theorem zch_171_440 : zinsAll 171 440 (((zcode 171).drop 440).take 40) = true := by decide +kernel
theorem zch_171_480 : zinsAll 171 480 (((zcode 171).drop 480).take 40) = true := by decide +kernel
theorem zch_171_520 : zinsAll 171 520 (((zcode 171).drop 520).take 40) = true := by decide +kernel
theorem zch_171_560 : zinsAll 171 560 (((zcode 171).drop 560).take 40) = true := by decide +kernel
theorem zch_171_600 : zinsAll 171 600 (((zcode 171).drop 600).take 40) = true := by decide +kernel
theorem zch_171_640 : zinsAll 171 640 (((zcode 171).drop 640).take 40) = true := by decide +kernel
theorem zch_171_680 : zinsAll 171 680 (((zcode 171).drop 680).take 40) = true := by decide +kernel
theorem zch_171_720 : zinsAll 171 720 (((zcode 171).drop 720).take 40) = true := by decide +kernel
theorem zch_171_760 : zinsAll 171 760 (((zcode 171).drop 760).take 40) = true := by decide +kernel
theorem zch_171_800 : zinsAll 171 800 (((zcode 171).drop 800).take 40) = true := by decide +kernel
theorem zch_171_840 : zinsAll 171 840 (((zcode 171).drop 840).take 40) = true := by decide +kernel
theorem zch_171_880 : zinsAll 171 880 (((zcode 171).drop 880).take 40) = true := by decide +kernel
theorem zch_171_920 : zinsAll 171 920 (((zcode 171).drop 920).take 40) = true := by decide +kernel
theorem zch_171_960 : zinsAll 171 960 (((zcode 171).drop 960).take 40) = true := by decide +kernel
theorem zch_171_1000 : zinsAll 171 1000 (((zcode 171).drop 1000).take 40) = true := by decide +kernel
theorem zch_171_1040 : zinsAll 171 1040 (((zcode 171).drop 1040).take 40) = true := by decide +kernel
theorem zPm_171 : zPm 171 := zPm_of 171 40 27 (by decide +kernel) (fun j hj => by
  match j, hj with
  | 0, _ => exact zch_171_0
  | 1, _ => exact zch_171_40
  | 2, _ => exact zch_171_80
  | 3, _ => exact zch_171_120
  | 4, _ => exact zch_171_160
  | 5, _ => exact zch_171_200
  | 6, _ => exact zch_171_240
  | 7, _ => exact zch_171_280
  | 8, _ => exact zch_171_320
  | 9, _ => exact zch_171_360
  | 10, _ => exact zch_171_400
  | 11, _ => exact zch_171_440
  | 12, _ => exact zch_171_480
  | 13, _ => exact zch_171_520
  | 14, _ => exact zch_171_560
  | 15, _ => exact zch_171_600
  | 16, _ => exact zch_171_640
  | 17, _ => exact zch_171_680
  | 18, _ => exact zch_171_720
  | 19, _ => exact zch_171_760
  | 20, _ => exact zch_171_800
  | 21, _ => exact zch_171_840
  | 22, _ => exact zch_171_880
  | 23, _ => exact zch_171_920
  | 24, _ => exact zch_171_960
  | 25, _ => exact zch_171_1000
  | 26, _ => exact zch_171_1040
  | j + 27, hj => omega)
theorem zch_172_0 : zinsAll 172 0 (((zcode 172).drop 0).take 60) = true := by decide +kernel
theorem zPm_172 : zPm 172 := zPm_of 172 60 1 (by decide +kernel) (fun j hj => by
  match j, hj with
  | 0, _ => exact zch_172_0
  | j + 1, hj => omega)
theorem zch_173_0 : zinsAll 173 0 (((zcode 173).drop 0).take 60) = true := by decide +kernel
theorem zPm_173 : zPm 173 := zPm_of 173 60 1 (by decide +kernel) (fun j hj => by
  match j, hj with
  | 0, _ => exact zch_173_0
  | j + 1, hj => omega)
theorem zch_174_0 : zinsAll 174 0 (((zcode 174).drop 0).take 60) = true := by decide +kernel
theorem zPm_174 : zPm 174 := zPm_of 174 60 1 (by decide +kernel) (fun j hj => by
  match j, hj with
  | 0, _ => exact zch_174_0
  | j + 1, hj => omega)
theorem zch_175_0 : zinsAll 175 0 (((zcode 175).drop 0).take 60) = true := by decide +kernel
theorem zPm_175 : zPm 175 := zPm_of 175 60 1 (by decide +kernel) (fun j hj => by
  match j, hj with
  | 0, _ => exact zch_175_0
  | j + 1, hj => omega)
theorem zch_176_0 : zinsAll 176 0 (((zcode 176).drop 0).take 60) = true := by decide +kernel
theorem zPm_176 : zPm 176 := zPm_of 176 60 1 (by decide +kernel) (fun j hj => by
  match j, hj with
  | 0, _ => exact zch_176_0
  | j + 1, hj => omega)
theorem zch_177_0 : zinsAll 177 0 (((zcode 177).drop 0).take 60) = true := by decide +kernel
theorem zch_177_60 : zinsAll 177 60 (((zcode 177).drop 60).take 60) = true := by decide +kernel
theorem zch_177_120 : zinsAll 177 120 (((zcode 177).drop 120).take 60) = true := by decide +kernel
theorem zPm_177 : zPm 177 := zPm_of 177 60 3 (by decide +kernel) (fun j hj => by
  match j, hj with
  | 0, _ => exact zch_177_0
  | 1, _ => exact zch_177_60
  | 2, _ => exact zch_177_120
  | j + 3, hj => omega)
theorem zch_178_0 : zinsAll 178 0 (((zcode 178).drop 0).take 60) = true := by decide +kernel
theorem zPm_178 : zPm 178 := zPm_of 178 60 1 (by decide +kernel) (fun j hj => by
  match j, hj with
  | 0, _ => exact zch_178_0
  | j + 1, hj => omega)
theorem zch_179_0 : zinsAll 179 0 (((zcode 179).drop 0).take 60) = true := by decide +kernel
theorem zPm_179 : zPm 179 := zPm_of 179 60 1 (by decide +kernel) (fun j hj => by
  match j, hj with
  | 0, _ => exact zch_179_0
  | j + 1, hj => omega)
theorem zch_180_0 : zinsAll 180 0 (((zcode 180).drop 0).take 60) = true := by decide +kernel
theorem zPm_180 : zPm 180 := zPm_of 180 60 1 (by decide +kernel) (fun j hj => by
  match j, hj with
  | 0, _ => exact zch_180_0
  | j + 1, hj => omega)
theorem zch_181_0 : zinsAll 181 0 (((zcode 181).drop 0).take 60) = true := by decide +kernel
theorem zPm_181 : zPm 181 := zPm_of 181 60 1 (by decide +kernel) (fun j hj => by
  match j, hj with
  | 0, _ => exact zch_181_0
  | j + 1, hj => omega)
theorem zch_182_0 : zinsAll 182 0 (((zcode 182).drop 0).take 60) = true := by decide +kernel
theorem zPm_182 : zPm 182 := zPm_of 182 60 1 (by decide +kernel) (fun j hj => by
  match j, hj with
  | 0, _ => exact zch_182_0
  | j + 1, hj => omega)
theorem zch_183_0 : zinsAll 183 0 (((zcode 183).drop 0).take 60) = true := by decide +kernel
theorem zPm_183 : zPm 183 := zPm_of 183 60 1 (by decide +kernel) (fun j hj => by
  match j, hj with
  | 0, _ => exact zch_183_0
  | j + 1, hj => omega)
theorem zch_184_0 : zinsAll 184 0 (((zcode 184).drop 0).take 60) = true := by decide +kernel
theorem zch_184_60 : zinsAll 184 60 (((zcode 184).drop 60).take 60) = true := by decide +kernel
theorem zPm_184 : zPm 184 := zPm_of 184 60 2 (by decide +kernel) (fun j hj => by
  match j, hj with
  | 0, _ => exact zch_184_0
  | 1, _ => exact zch_184_60
  | j + 2, hj => omega)
theorem zch_185_0 : zinsAll 185 0 (((zcode 185).drop 0).take 60) = true := by decide +kernel
theorem zPm_185 : zPm 185 := zPm_of 185 60 1 (by decide +kernel) (fun j hj => by
  match j, hj with
  | 0, _ => exact zch_185_0
  | j + 1, hj => omega)
theorem zch_186_0 : zinsAll 186 0 (((zcode 186).drop 0).take 60) = true := by decide +kernel
theorem zPm_186 : zPm 186 := zPm_of 186 60 1 (by decide +kernel) (fun j hj => by
  match j, hj with
  | 0, _ => exact zch_186_0
  | j + 1, hj => omega)
theorem zch_187_0 : zinsAll 187 0 (((zcode 187).drop 0).take 60) = true := by decide +kernel
theorem zPm_187 : zPm 187 := zPm_of 187 60 1 (by decide +kernel) (fun j hj => by
  match j, hj with
  | 0, _ => exact zch_187_0
  | j + 1, hj => omega)
theorem zch_188_0 : zinsAll 188 0 (((zcode 188).drop 0).take 60) = true := by decide +kernel
theorem zch_188_60 : zinsAll 188 60 (((zcode 188).drop 60).take 60) = true := by decide +kernel
theorem zch_188_120 : zinsAll 188 120 (((zcode 188).drop 120).take 60) = true := by decide +kernel
theorem zPm_188 : zPm 188 := zPm_of 188 60 3 (by decide +kernel) (fun j hj => by
  match j, hj with
  | 0, _ => exact zch_188_0
  | 1, _ => exact zch_188_60
  | 2, _ => exact zch_188_120
  | j + 3, hj => omega)
theorem zch_189_0 : zinsAll 189 0 (((zcode 189).drop 0).take 60) = true := by decide +kernel
theorem zch_189_60 : zinsAll 189 60 (((zcode 189).drop 60).take 60) = true := by decide +kernel
theorem zPm_189 : zPm 189 := zPm_of 189 60 2 (by decide +kernel) (fun j hj => by
  match j, hj with
  | 0, _ => exact zch_189_0
  | 1, _ => exact zch_189_60
  | j + 2, hj => omega)
theorem zch_190_0 : zinsAll 190 0 (((zcode 190).drop 0).take 60) = true := by decide +kernel
theorem zPm_190 : zPm 190 := zPm_of 190 60 1 (by decide +kernel) (fun j hj => by
  match j, hj with
  | 0, _ => exact zch_190_0
  | j + 1, hj => omega)
theorem zch_191_0 : zinsAll 191 0 (((zcode 191).drop 0).take 60) = true := by decide +kernel
theorem zPm_191 : zPm 191 := zPm_of 191 60 1 (by decide +kernel) (fun j hj => by
  match j, hj with
  | 0, _ => exact zch_191_0
  | j + 1, hj => omega)
theorem zch_192_0 : zinsAll 192 0 (((zcode 192).drop 0).take 60) = true := by decide +kernel
theorem zPm_192 : zPm 192 := zPm_of 192 60 1 (by decide +kernel) (fun j hj => by
  match j, hj with
  | 0, _ => exact zch_192_0
  | j + 1, hj => omega)
theorem zch_193_0 : zinsAll 193 0 (((zcode 193).drop 0).take 60) = true := by decide +kernel
theorem zPm_193 : zPm 193 := zPm_of 193 60 1 (by decide +kernel) (fun j hj => by
  match j, hj with
  | 0, _ => exact zch_193_0
  | j + 1, hj => omega)
theorem zch_194_0 : zinsAll 194 0 (((zcode 194).drop 0).take 60) = true := by decide +kernel
theorem zch_194_60 : zinsAll 194 60 (((zcode 194).drop 60).take 60) = true := by decide +kernel
theorem zch_194_120 : zinsAll 194 120 (((zcode 194).drop 120).take 60) = true := by decide +kernel
theorem zPm_194 : zPm 194 := zPm_of 194 60 3 (by decide +kernel) (fun j hj => by
  match j, hj with
  | 0, _ => exact zch_194_0
  | 1, _ => exact zch_194_60
  | 2, _ => exact zch_194_120
  | j + 3, hj => omega)
theorem zch_195_0 : zinsAll 195 0 (((zcode 195).drop 0).take 60) = true := by decide +kernel
theorem zPm_195 : zPm 195 := zPm_of 195 60 1 (by decide +kernel) (fun j hj => by
  match j, hj with
  | 0, _ => exact zch_195_0
  | j + 1, hj => omega)
theorem zch_196_0 : zinsAll 196 0 (((zcode 196).drop 0).take 60) = true := by decide +kernel
theorem zPm_196 : zPm 196 := zPm_of 196 60 1 (by decide +kernel) (fun j hj => by
  match j, hj with
  | 0, _ => exact zch_196_0
  | j + 1, hj => omega)
theorem zch_197_0 : zinsAll 197 0 (((zcode 197).drop 0).take 60) = true := by decide +kernel
theorem zPm_197 : zPm 197 := zPm_of 197 60 1 (by decide +kernel) (fun j hj => by
  match j, hj with
  | 0, _ => exact zch_197_0
  | j + 1, hj => omega)
theorem zch_198_0 : zinsAll 198 0 (((zcode 198).drop 0).take 60) = true := by decide +kernel
theorem zPm_198 : zPm 198 := zPm_of 198 60 1 (by decide +kernel) (fun j hj => by
  match j, hj with
  | 0, _ => exact zch_198_0
  | j + 1, hj => omega)
theorem zch_199_0 : zinsAll 199 0 (((zcode 199).drop 0).take 60) = true := by decide +kernel
theorem zPm_199 : zPm 199 := zPm_of 199 60 1 (by decide +kernel) (fun j hj => by
  match j, hj with
  | 0, _ => exact zch_199_0
  | j + 1, hj => omega)
theorem zch_200_0 : zinsAll 200 0 (((zcode 200).drop 0).take 60) = true := by decide +kernel
theorem zPm_200 : zPm 200 := zPm_of 200 60 1 (by decide +kernel) (fun j hj => by
  match j, hj with
  | 0, _ => exact zch_200_0
  | j + 1, hj => omega)
theorem zch_201_0 : zinsAll 201 0 (((zcode 201).drop 0).take 60) = true := by decide +kernel
theorem zch_201_60 : zinsAll 201 60 (((zcode 201).drop 60).take 60) = true := by decide +kernel
theorem zch_201_120 : zinsAll 201 120 (((zcode 201).drop 120).take 60) = true := by decide +kernel
theorem zch_201_180 : zinsAll 201 180 (((zcode 201).drop 180).take 60) = true := by decide +kernel
theorem zPm_201 : zPm 201 := zPm_of 201 60 4 (by decide +kernel) (fun j hj => by
  match j, hj with
  | 0, _ => exact zch_201_0
  | 1, _ => exact zch_201_60
  | 2, _ => exact zch_201_120
  | 3, _ => exact zch_201_180
  | j + 4, hj => omega)
theorem zch_202_0 : zinsAll 202 0 (((zcode 202).drop 0).take 60) = true := by decide +kernel
theorem zch_202_60 : zinsAll 202 60 (((zcode 202).drop 60).take 60) = true := by decide +kernel
theorem zPm_202 : zPm 202 := zPm_of 202 60 2 (by decide +kernel) (fun j hj => by
  match j, hj with
  | 0, _ => exact zch_202_0
  | 1, _ => exact zch_202_60
  | j + 2, hj => omega)
theorem zch_203_0 : zinsAll 203 0 (((zcode 203).drop 0).take 60) = true := by decide +kernel
theorem zPm_203 : zPm 203 := zPm_of 203 60 1 (by decide +kernel) (fun j hj => by
  match j, hj with
  | 0, _ => exact zch_203_0
  | j + 1, hj => omega)
theorem zch_204_0 : zinsAll 204 0 (((zcode 204).drop 0).take 60) = true := by decide +kernel
theorem zch_204_60 : zinsAll 204 60 (((zcode 204).drop 60).take 60) = true := by decide +kernel
theorem zPm_204 : zPm 204 := zPm_of 204 60 2 (by decide +kernel) (fun j hj => by
  match j, hj with
  | 0, _ => exact zch_204_0
  | 1, _ => exact zch_204_60
  | j + 2, hj => omega)
theorem zch_205_0 : zinsAll 205 0 (((zcode 205).drop 0).take 60) = true := by decide +kernel
theorem zPm_205 : zPm 205 := zPm_of 205 60 1 (by decide +kernel) (fun j hj => by
  match j, hj with
  | 0, _ => exact zch_205_0
  | j + 1, hj => omega)
theorem zch_206_0 : zinsAll 206 0 (((zcode 206).drop 0).take 60) = true := by decide +kernel
theorem zPm_206 : zPm 206 := zPm_of 206 60 1 (by decide +kernel) (fun j hj => by
  match j, hj with
  | 0, _ => exact zch_206_0
  | j + 1, hj => omega)
theorem zch_207_0 : zinsAll 207 0 (((zcode 207).drop 0).take 60) = true := by decide +kernel
theorem zch_207_60 : zinsAll 207 60 (((zcode 207).drop 60).take 60) = true := by decide +kernel
theorem zch_207_120 : zinsAll 207 120 (((zcode 207).drop 120).take 60) = true := by decide +kernel
theorem zch_207_180 : zinsAll 207 180 (((zcode 207).drop 180).take 60) = true := by decide +kernel
theorem zPm_207 : zPm 207 := zPm_of 207 60 4 (by decide +kernel) (fun j hj => by
  match j, hj with
  | 0, _ => exact zch_207_0
  | 1, _ => exact zch_207_60
  | 2, _ => exact zch_207_120
  | 3, _ => exact zch_207_180
  | j + 4, hj => omega)
theorem zch_208_0 : zinsAll 208 0 (((zcode 208).drop 0).take 60) = true := by decide +kernel
theorem zPm_208 : zPm 208 := zPm_of 208 60 1 (by decide +kernel) (fun j hj => by
  match j, hj with
  | 0, _ => exact zch_208_0
  | j + 1, hj => omega)
theorem zch_209_0 : zinsAll 209 0 (((zcode 209).drop 0).take 60) = true := by decide +kernel
theorem zch_209_60 : zinsAll 209 60 (((zcode 209).drop 60).take 60) = true := by decide +kernel
theorem zch_209_120 : zinsAll 209 120 (((zcode 209).drop 120).take 60) = true := by decide +kernel
theorem zPm_209 : zPm 209 := zPm_of 209 60 3 (by decide +kernel) (fun j hj => by
  match j, hj with
  | 0, _ => exact zch_209_0
  | 1, _ => exact zch_209_60
  | 2, _ => exact zch_209_120
  | j + 3, hj => omega)
theorem zch_210_0 : zinsAll 210 0 (((zcode 210).drop 0).take 60) = true := by decide +kernel
theorem zch_210_60 : zinsAll 210 60 (((zcode 210).drop 60).take 60) = true := by decide +kernel
theorem zch_210_120 : zinsAll 210 120 (((zcode 210).drop 120).take 60) = true := by decide +kernel
theorem zPm_210 : zPm 210 := zPm_of 210 60 3 (by decide +kernel) (fun j hj => by
  match j, hj with
  | 0, _ => exact zch_210_0
  | 1, _ => exact zch_210_60
  | 2, _ => exact zch_210_120
  | j + 3, hj => omega)
theorem zch_211_0 : zinsAll 211 0 (((zcode 211).drop 0).take 60) = true := by decide +kernel
theorem zch_211_60 : zinsAll 211 60 (((zcode 211).drop 60).take 60) = true := by decide +kernel
theorem zPm_211 : zPm 211 := zPm_of 211 60 2 (by decide +kernel) (fun j hj => by
  match j, hj with
  | 0, _ => exact zch_211_0
  | 1, _ => exact zch_211_60
  | j + 2, hj => omega)
theorem zch_212_0 : zinsAll 212 0 (((zcode 212).drop 0).take 60) = true := by decide +kernel
theorem zch_212_60 : zinsAll 212 60 (((zcode 212).drop 60).take 60) = true := by decide +kernel
theorem zch_212_120 : zinsAll 212 120 (((zcode 212).drop 120).take 60) = true := by decide +kernel
theorem zPm_212 : zPm 212 := zPm_of 212 60 3 (by decide +kernel) (fun j hj => by
  match j, hj with
  | 0, _ => exact zch_212_0
  | 1, _ => exact zch_212_60
  | 2, _ => exact zch_212_120
  | j + 3, hj => omega)
theorem zch_213_0 : zinsAll 213 0 (((zcode 213).drop 0).take 60) = true := by decide +kernel
theorem zPm_213 : zPm 213 := zPm_of 213 60 1 (by decide +kernel) (fun j hj => by
  match j, hj with
  | 0, _ => exact zch_213_0
  | j + 1, hj => omega)
theorem zch_214_0 : zinsAll 214 0 (((zcode 214).drop 0).take 60) = true := by decide +kernel
theorem zPm_214 : zPm 214 := zPm_of 214 60 1 (by decide +kernel) (fun j hj => by
  match j, hj with
  | 0, _ => exact zch_214_0
  | j + 1, hj => omega)
theorem zch_215_0 : zinsAll 215 0 (((zcode 215).drop 0).take 60) = true := by decide +kernel
theorem zPm_215 : zPm 215 := zPm_of 215 60 1 (by decide +kernel) (fun j hj => by
  match j, hj with
  | 0, _ => exact zch_215_0
  | j + 1, hj => omega)
theorem zch_216_0 : zinsAll 216 0 (((zcode 216).drop 0).take 60) = true := by decide +kernel
theorem zPm_216 : zPm 216 := zPm_of 216 60 1 (by decide +kernel) (fun j hj => by
  match j, hj with
  | 0, _ => exact zch_216_0
  | j + 1, hj => omega)
theorem zch_217_0 : zinsAll 217 0 (((zcode 217).drop 0).take 60) = true := by decide +kernel
theorem zPm_217 : zPm 217 := zPm_of 217 60 1 (by decide +kernel) (fun j hj => by
  match j, hj with
  | 0, _ => exact zch_217_0
  | j + 1, hj => omega)
theorem zch_218_0 : zinsAll 218 0 (((zcode 218).drop 0).take 60) = true := by decide +kernel
theorem zPm_218 : zPm 218 := zPm_of 218 60 1 (by decide +kernel) (fun j hj => by
  match j, hj with
  | 0, _ => exact zch_218_0
  | j + 1, hj => omega)
theorem zch_219_0 : zinsAll 219 0 (((zcode 219).drop 0).take 60) = true := by decide +kernel
theorem zPm_219 : zPm 219 := zPm_of 219 60 1 (by decide +kernel) (fun j hj => by
  match j, hj with
  | 0, _ => exact zch_219_0
  | j + 1, hj => omega)
theorem zch_220_0 : zinsAll 220 0 (((zcode 220).drop 0).take 60) = true := by decide +kernel
theorem zPm_220 : zPm 220 := zPm_of 220 60 1 (by decide +kernel) (fun j hj => by
  match j, hj with
  | 0, _ => exact zch_220_0
  | j + 1, hj => omega)
theorem zch_221_0 : zinsAll 221 0 (((zcode 221).drop 0).take 60) = true := by decide +kernel
theorem zPm_221 : zPm 221 := zPm_of 221 60 1 (by decide +kernel) (fun j hj => by
  match j, hj with
  | 0, _ => exact zch_221_0
  | j + 1, hj => omega)
theorem zch_222_0 : zinsAll 222 0 (((zcode 222).drop 0).take 60) = true := by decide +kernel
theorem zPm_222 : zPm 222 := zPm_of 222 60 1 (by decide +kernel) (fun j hj => by
  match j, hj with
  | 0, _ => exact zch_222_0
  | j + 1, hj => omega)
theorem zch_223_0 : zinsAll 223 0 (((zcode 223).drop 0).take 60) = true := by decide +kernel
theorem zPm_223 : zPm 223 := zPm_of 223 60 1 (by decide +kernel) (fun j hj => by
  match j, hj with
  | 0, _ => exact zch_223_0
  | j + 1, hj => omega)
theorem zch_224_0 : zinsAll 224 0 (((zcode 224).drop 0).take 60) = true := by decide +kernel
theorem zPm_224 : zPm 224 := zPm_of 224 60 1 (by decide +kernel) (fun j hj => by
  match j, hj with
  | 0, _ => exact zch_224_0
  | j + 1, hj => omega)
theorem zch_225_0 : zinsAll 225 0 (((zcode 225).drop 0).take 60) = true := by decide +kernel
theorem zPm_225 : zPm 225 := zPm_of 225 60 1 (by decide +kernel) (fun j hj => by
  match j, hj with
  | 0, _ => exact zch_225_0
  | j + 1, hj => omega)
theorem zch_226_0 : zinsAll 226 0 (((zcode 226).drop 0).take 60) = true := by decide +kernel
theorem zch_226_60 : zinsAll 226 60 (((zcode 226).drop 60).take 60) = true := by decide +kernel
theorem zPm_226 : zPm 226 := zPm_of 226 60 2 (by decide +kernel) (fun j hj => by
  match j, hj with
  | 0, _ => exact zch_226_0
  | 1, _ => exact zch_226_60
  | j + 2, hj => omega)
theorem zch_227_0 : zinsAll 227 0 (((zcode 227).drop 0).take 60) = true := by decide +kernel
theorem zPm_227 : zPm 227 := zPm_of 227 60 1 (by decide +kernel) (fun j hj => by
  match j, hj with
  | 0, _ => exact zch_227_0
  | j + 1, hj => omega)
theorem zch_228_0 : zinsAll 228 0 (((zcode 228).drop 0).take 60) = true := by decide +kernel
theorem zPm_228 : zPm 228 := zPm_of 228 60 1 (by decide +kernel) (fun j hj => by
  match j, hj with
  | 0, _ => exact zch_228_0
  | j + 1, hj => omega)
theorem zch_229_0 : zinsAll 229 0 (((zcode 229).drop 0).take 60) = true := by decide +kernel
theorem zPm_229 : zPm 229 := zPm_of 229 60 1 (by decide +kernel) (fun j hj => by
  match j, hj with
  | 0, _ => exact zch_229_0
  | j + 1, hj => omega)
theorem zch_230_0 : zinsAll 230 0 (((zcode 230).drop 0).take 60) = true := by decide +kernel
theorem zch_230_60 : zinsAll 230 60 (((zcode 230).drop 60).take 60) = true := by decide +kernel
theorem zPm_230 : zPm 230 := zPm_of 230 60 2 (by decide +kernel) (fun j hj => by
  match j, hj with
  | 0, _ => exact zch_230_0
  | 1, _ => exact zch_230_60
  | j + 2, hj => omega)
theorem zch_231_0 : zinsAll 231 0 (((zcode 231).drop 0).take 60) = true := by decide +kernel
theorem zch_231_60 : zinsAll 231 60 (((zcode 231).drop 60).take 60) = true := by decide +kernel
theorem zPm_231 : zPm 231 := zPm_of 231 60 2 (by decide +kernel) (fun j hj => by
  match j, hj with
  | 0, _ => exact zch_231_0
  | 1, _ => exact zch_231_60
  | j + 2, hj => omega)
theorem zch_232_0 : zinsAll 232 0 (((zcode 232).drop 0).take 60) = true := by decide +kernel
theorem zPm_232 : zPm 232 := zPm_of 232 60 1 (by decide +kernel) (fun j hj => by
  match j, hj with
  | 0, _ => exact zch_232_0
  | j + 1, hj => omega)
theorem zch_233_0 : zinsAll 233 0 (((zcode 233).drop 0).take 60) = true := by decide +kernel
theorem zPm_233 : zPm 233 := zPm_of 233 60 1 (by decide +kernel) (fun j hj => by
  match j, hj with
  | 0, _ => exact zch_233_0
  | j + 1, hj => omega)
theorem zch_234_0 : zinsAll 234 0 (((zcode 234).drop 0).take 60) = true := by decide +kernel
theorem zch_234_60 : zinsAll 234 60 (((zcode 234).drop 60).take 60) = true := by decide +kernel
theorem zPm_234 : zPm 234 := zPm_of 234 60 2 (by decide +kernel) (fun j hj => by
  match j, hj with
  | 0, _ => exact zch_234_0
  | 1, _ => exact zch_234_60
  | j + 2, hj => omega)
theorem zch_235_0 : zinsAll 235 0 (((zcode 235).drop 0).take 60) = true := by decide +kernel
theorem zPm_235 : zPm 235 := zPm_of 235 60 1 (by decide +kernel) (fun j hj => by
  match j, hj with
  | 0, _ => exact zch_235_0
  | j + 1, hj => omega)
theorem zch_236_0 : zinsAll 236 0 (((zcode 236).drop 0).take 60) = true := by decide +kernel
theorem zch_236_60 : zinsAll 236 60 (((zcode 236).drop 60).take 60) = true := by decide +kernel
theorem zPm_236 : zPm 236 := zPm_of 236 60 2 (by decide +kernel) (fun j hj => by
  match j, hj with
  | 0, _ => exact zch_236_0
  | 1, _ => exact zch_236_60
  | j + 2, hj => omega)
theorem zch_237_0 : zinsAll 237 0 (((zcode 237).drop 0).take 60) = true := by decide +kernel
theorem zPm_237 : zPm 237 := zPm_of 237 60 1 (by decide +kernel) (fun j hj => by
  match j, hj with
  | 0, _ => exact zch_237_0
  | j + 1, hj => omega)
theorem zch_238_0 : zinsAll 238 0 (((zcode 238).drop 0).take 60) = true := by decide +kernel
theorem zch_238_60 : zinsAll 238 60 (((zcode 238).drop 60).take 60) = true := by decide +kernel
theorem zPm_238 : zPm 238 := zPm_of 238 60 2 (by decide +kernel) (fun j hj => by
  match j, hj with
  | 0, _ => exact zch_238_0
  | 1, _ => exact zch_238_60
  | j + 2, hj => omega)
theorem zch_239_0 : zinsAll 239 0 (((zcode 239).drop 0).take 60) = true := by decide +kernel
theorem zPm_239 : zPm 239 := zPm_of 239 60 1 (by decide +kernel) (fun j hj => by
  match j, hj with
  | 0, _ => exact zch_239_0
  | j + 1, hj => omega)
theorem zch_240_0 : zinsAll 240 0 (((zcode 240).drop 0).take 60) = true := by decide +kernel
theorem zch_240_60 : zinsAll 240 60 (((zcode 240).drop 60).take 60) = true := by decide +kernel
theorem zch_240_120 : zinsAll 240 120 (((zcode 240).drop 120).take 60) = true := by decide +kernel
theorem zPm_240 : zPm 240 := zPm_of 240 60 3 (by decide +kernel) (fun j hj => by
  match j, hj with
  | 0, _ => exact zch_240_0
  | 1, _ => exact zch_240_60
  | 2, _ => exact zch_240_120
  | j + 3, hj => omega)
theorem zch_241_0 : zinsAll 241 0 (((zcode 241).drop 0).take 60) = true := by decide +kernel
theorem zPm_241 : zPm 241 := zPm_of 241 60 1 (by decide +kernel) (fun j hj => by
  match j, hj with
  | 0, _ => exact zch_241_0
  | j + 1, hj => omega)
theorem zch_242_0 : zinsAll 242 0 (((zcode 242).drop 0).take 60) = true := by decide +kernel
theorem zch_242_60 : zinsAll 242 60 (((zcode 242).drop 60).take 60) = true := by decide +kernel
theorem zch_242_120 : zinsAll 242 120 (((zcode 242).drop 120).take 60) = true := by decide +kernel
theorem zPm_242 : zPm 242 := zPm_of 242 60 3 (by decide +kernel) (fun j hj => by
  match j, hj with
  | 0, _ => exact zch_242_0
  | 1, _ => exact zch_242_60
  | 2, _ => exact zch_242_120
  | j + 3, hj => omega)
theorem zch_243_0 : zinsAll 243 0 (((zcode 243).drop 0).take 60) = true := by decide +kernel
theorem zch_243_60 : zinsAll 243 60 (((zcode 243).drop 60).take 60) = true := by decide +kernel
theorem zch_243_120 : zinsAll 243 120 (((zcode 243).drop 120).take 60) = true := by decide +kernel
theorem zPm_243 : zPm 243 := zPm_of 243 60 3 (by decide +kernel) (fun j hj => by
  match j, hj with
  | 0, _ => exact zch_243_0
  | 1, _ => exact zch_243_60
  | 2, _ => exact zch_243_120
  | j + 3, hj => omega)
theorem zch_244_0 : zinsAll 244 0 (((zcode 244).drop 0).take 60) = true := by decide +kernel
theorem zch_244_60 : zinsAll 244 60 (((zcode 244).drop 60).take 60) = true := by decide +kernel
theorem zPm_244 : zPm 244 := zPm_of 244 60 2 (by decide +kernel) (fun j hj => by
  match j, hj with
  | 0, _ => exact zch_244_0
  | 1, _ => exact zch_244_60
  | j + 2, hj => omega)
theorem zch_245_0 : zinsAll 245 0 (((zcode 245).drop 0).take 60) = true := by decide +kernel
theorem zPm_245 : zPm 245 := zPm_of 245 60 1 (by decide +kernel) (fun j hj => by
  match j, hj with
  | 0, _ => exact zch_245_0
  | j + 1, hj => omega)
theorem zch_246_0 : zinsAll 246 0 (((zcode 246).drop 0).take 60) = true := by decide +kernel
theorem zch_246_60 : zinsAll 246 60 (((zcode 246).drop 60).take 60) = true := by decide +kernel
theorem zPm_246 : zPm 246 := zPm_of 246 60 2 (by decide +kernel) (fun j hj => by
  match j, hj with
  | 0, _ => exact zch_246_0
  | 1, _ => exact zch_246_60
  | j + 2, hj => omega)
theorem zch_247_0 : zinsAll 247 0 (((zcode 247).drop 0).take 60) = true := by decide +kernel
theorem zPm_247 : zPm 247 := zPm_of 247 60 1 (by decide +kernel) (fun j hj => by
  match j, hj with
  | 0, _ => exact zch_247_0
  | j + 1, hj => omega)
theorem zch_248_0 : zinsAll 248 0 (((zcode 248).drop 0).take 60) = true := by decide +kernel
theorem zch_248_60 : zinsAll 248 60 (((zcode 248).drop 60).take 60) = true := by decide +kernel
theorem zPm_248 : zPm 248 := zPm_of 248 60 2 (by decide +kernel) (fun j hj => by
  match j, hj with
  | 0, _ => exact zch_248_0
  | 1, _ => exact zch_248_60
  | j + 2, hj => omega)
theorem zch_249_0 : zinsAll 249 0 (((zcode 249).drop 0).take 60) = true := by decide +kernel
theorem zch_249_60 : zinsAll 249 60 (((zcode 249).drop 60).take 60) = true := by decide +kernel
theorem zPm_249 : zPm 249 := zPm_of 249 60 2 (by decide +kernel) (fun j hj => by
  match j, hj with
  | 0, _ => exact zch_249_0
  | 1, _ => exact zch_249_60
  | j + 2, hj => omega)
theorem zch_250_0 : zinsAll 250 0 (((zcode 250).drop 0).take 60) = true := by decide +kernel
theorem zPm_250 : zPm 250 := zPm_of 250 60 1 (by decide +kernel) (fun j hj => by
  match j, hj with
  | 0, _ => exact zch_250_0
  | j + 1, hj => omega)
theorem zch_251_0 : zinsAll 251 0 (((zcode 251).drop 0).take 60) = true := by decide +kernel
theorem zch_251_60 : zinsAll 251 60 (((zcode 251).drop 60).take 60) = true := by decide +kernel
theorem zPm_251 : zPm 251 := zPm_of 251 60 2 (by decide +kernel) (fun j hj => by
  match j, hj with
  | 0, _ => exact zch_251_0
  | 1, _ => exact zch_251_60
  | j + 2, hj => omega)
theorem zch_252_0 : zinsAll 252 0 (((zcode 252).drop 0).take 60) = true := by decide +kernel
theorem zPm_252 : zPm 252 := zPm_of 252 60 1 (by decide +kernel) (fun j hj => by
  match j, hj with
  | 0, _ => exact zch_252_0
  | j + 1, hj => omega)
theorem zch_253_0 : zinsAll 253 0 (((zcode 253).drop 0).take 60) = true := by decide +kernel
theorem zch_253_60 : zinsAll 253 60 (((zcode 253).drop 60).take 60) = true := by decide +kernel
theorem zPm_253 : zPm 253 := zPm_of 253 60 2 (by decide +kernel) (fun j hj => by
  match j, hj with
  | 0, _ => exact zch_253_0
  | 1, _ => exact zch_253_60
  | j + 2, hj => omega)
theorem zch_254_0 : zinsAll 254 0 (((zcode 254).drop 0).take 60) = true := by decide +kernel
theorem zPm_254 : zPm 254 := zPm_of 254 60 1 (by decide +kernel) (fun j hj => by
  match j, hj with
  | 0, _ => exact zch_254_0
  | j + 1, hj => omega)
theorem zch_255_0 : zinsAll 255 0 (((zcode 255).drop 0).take 60) = true := by decide +kernel
theorem zPm_255 : zPm 255 := zPm_of 255 60 1 (by decide +kernel) (fun j hj => by
  match j, hj with
  | 0, _ => exact zch_255_0
  | j + 1, hj => omega)
theorem zch_256_0 : zinsAll 256 0 (((zcode 256).drop 0).take 60) = true := by decide +kernel
theorem zPm_256 : zPm 256 := zPm_of 256 60 1 (by decide +kernel) (fun j hj => by
  match j, hj with
  | 0, _ => exact zch_256_0
  | j + 1, hj => omega)
theorem zch_257_0 : zinsAll 257 0 (((zcode 257).drop 0).take 60) = true := by decide +kernel
theorem zch_257_60 : zinsAll 257 60 (((zcode 257).drop 60).take 60) = true := by decide +kernel
theorem zPm_257 : zPm 257 := zPm_of 257 60 2 (by decide +kernel) (fun j hj => by
  match j, hj with
  | 0, _ => exact zch_257_0
  | 1, _ => exact zch_257_60
  | j + 2, hj => omega)
theorem zch_258_0 : zinsAll 258 0 (((zcode 258).drop 0).take 60) = true := by decide +kernel
theorem zPm_258 : zPm 258 := zPm_of 258 60 1 (by decide +kernel) (fun j hj => by
  match j, hj with
  | 0, _ => exact zch_258_0
  | j + 1, hj => omega)
theorem zch_259_0 : zinsAll 259 0 (((zcode 259).drop 0).take 60) = true := by decide +kernel
theorem zch_259_60 : zinsAll 259 60 (((zcode 259).drop 60).take 60) = true := by decide +kernel
theorem zch_259_120 : zinsAll 259 120 (((zcode 259).drop 120).take 60) = true := by decide +kernel
theorem zPm_259 : zPm 259 := zPm_of 259 60 3 (by decide +kernel) (fun j hj => by
  match j, hj with
  | 0, _ => exact zch_259_0
  | 1, _ => exact zch_259_60
  | 2, _ => exact zch_259_120
  | j + 3, hj => omega)
theorem zch_260_0 : zinsAll 260 0 (((zcode 260).drop 0).take 60) = true := by decide +kernel
theorem zPm_260 : zPm 260 := zPm_of 260 60 1 (by decide +kernel) (fun j hj => by
  match j, hj with
  | 0, _ => exact zch_260_0
  | j + 1, hj => omega)
theorem zch_261_0 : zinsAll 261 0 (((zcode 261).drop 0).take 60) = true := by decide +kernel
theorem zch_261_60 : zinsAll 261 60 (((zcode 261).drop 60).take 60) = true := by decide +kernel
theorem zch_261_120 : zinsAll 261 120 (((zcode 261).drop 120).take 60) = true := by decide +kernel
theorem zPm_261 : zPm 261 := zPm_of 261 60 3 (by decide +kernel) (fun j hj => by
  match j, hj with
  | 0, _ => exact zch_261_0
  | 1, _ => exact zch_261_60
  | 2, _ => exact zch_261_120
  | j + 3, hj => omega)
theorem zch_262_0 : zinsAll 262 0 (((zcode 262).drop 0).take 60) = true := by decide +kernel
theorem zch_262_60 : zinsAll 262 60 (((zcode 262).drop 60).take 60) = true := by decide +kernel
theorem zch_262_120 : zinsAll 262 120 (((zcode 262).drop 120).take 60) = true := by decide +kernel
theorem zPm_262 : zPm 262 := zPm_of 262 60 3 (by decide +kernel) (fun j hj => by
  match j, hj with
  | 0, _ => exact zch_262_0
  | 1, _ => exact zch_262_60
  | 2, _ => exact zch_262_120
  | j + 3, hj => omega)
theorem zch_263_0 : zinsAll 263 0 (((zcode 263).drop 0).take 60) = true := by decide +kernel
theorem zPm_263 : zPm 263 := zPm_of 263 60 1 (by decide +kernel) (fun j hj => by
  match j, hj with
  | 0, _ => exact zch_263_0
  | j + 1, hj => omega)
theorem zch_264_0 : zinsAll 264 0 (((zcode 264).drop 0).take 60) = true := by decide +kernel
theorem zPm_264 : zPm 264 := zPm_of 264 60 1 (by decide +kernel) (fun j hj => by
  match j, hj with
  | 0, _ => exact zch_264_0
  | j + 1, hj => omega)
theorem zch_265_0 : zinsAll 265 0 (((zcode 265).drop 0).take 60) = true := by decide +kernel
theorem zPm_265 : zPm 265 := zPm_of 265 60 1 (by decide +kernel) (fun j hj => by
  match j, hj with
  | 0, _ => exact zch_265_0
  | j + 1, hj => omega)
theorem zch_266_0 : zinsAll 266 0 (((zcode 266).drop 0).take 60) = true := by decide +kernel
theorem zPm_266 : zPm 266 := zPm_of 266 60 1 (by decide +kernel) (fun j hj => by
  match j, hj with
  | 0, _ => exact zch_266_0
  | j + 1, hj => omega)
theorem zch_267_0 : zinsAll 267 0 (((zcode 267).drop 0).take 60) = true := by decide +kernel
theorem zch_267_60 : zinsAll 267 60 (((zcode 267).drop 60).take 60) = true := by decide +kernel
theorem zPm_267 : zPm 267 := zPm_of 267 60 2 (by decide +kernel) (fun j hj => by
  match j, hj with
  | 0, _ => exact zch_267_0
  | 1, _ => exact zch_267_60
  | j + 2, hj => omega)
theorem zch_268_0 : zinsAll 268 0 (((zcode 268).drop 0).take 60) = true := by decide +kernel
theorem zPm_268 : zPm 268 := zPm_of 268 60 1 (by decide +kernel) (fun j hj => by
  match j, hj with
  | 0, _ => exact zch_268_0
  | j + 1, hj => omega)
theorem zch_269_0 : zinsAll 269 0 (((zcode 269).drop 0).take 60) = true := by decide +kernel
theorem zch_269_60 : zinsAll 269 60 (((zcode 269).drop 60).take 60) = true := by decide +kernel
theorem zPm_269 : zPm 269 := zPm_of 269 60 2 (by decide +kernel) (fun j hj => by
  match j, hj with
  | 0, _ => exact zch_269_0
  | 1, _ => exact zch_269_60
  | j + 2, hj => omega)
theorem zch_270_0 : zinsAll 270 0 (((zcode 270).drop 0).take 60) = true := by decide +kernel
theorem zPm_270 : zPm 270 := zPm_of 270 60 1 (by decide +kernel) (fun j hj => by
  match j, hj with
  | 0, _ => exact zch_270_0
  | j + 1, hj => omega)
theorem zch_271_0 : zinsAll 271 0 (((zcode 271).drop 0).take 60) = true := by decide +kernel
theorem zPm_271 : zPm 271 := zPm_of 271 60 1 (by decide +kernel) (fun j hj => by
  match j, hj with
  | 0, _ => exact zch_271_0
  | j + 1, hj => omega)
theorem zch_272_0 : zinsAll 272 0 (((zcode 272).drop 0).take 60) = true := by decide +kernel
theorem zPm_272 : zPm 272 := zPm_of 272 60 1 (by decide +kernel) (fun j hj => by
  match j, hj with
  | 0, _ => exact zch_272_0
  | j + 1, hj => omega)
theorem zch_273_0 : zinsAll 273 0 (((zcode 273).drop 0).take 60) = true := by decide +kernel
theorem zch_273_60 : zinsAll 273 60 (((zcode 273).drop 60).take 60) = true := by decide +kernel
theorem zPm_273 : zPm 273 := zPm_of 273 60 2 (by decide +kernel) (fun j hj => by
  match j, hj with
  | 0, _ => exact zch_273_0
  | 1, _ => exact zch_273_60
  | j + 2, hj => omega)
theorem zch_274_0 : zinsAll 274 0 (((zcode 274).drop 0).take 60) = true := by decide +kernel
theorem zPm_274 : zPm 274 := zPm_of 274 60 1 (by decide +kernel) (fun j hj => by
  match j, hj with
  | 0, _ => exact zch_274_0
  | j + 1, hj => omega)
theorem zch_275_0 : zinsAll 275 0 (((zcode 275).drop 0).take 60) = true := by decide +kernel
theorem zPm_275 : zPm 275 := zPm_of 275 60 1 (by decide +kernel) (fun j hj => by
  match j, hj with
  | 0, _ => exact zch_275_0
  | j + 1, hj => omega)
theorem zch_276_0 : zinsAll 276 0 (((zcode 276).drop 0).take 60) = true := by decide +kernel
theorem zch_276_60 : zinsAll 276 60 (((zcode 276).drop 60).take 60) = true := by decide +kernel
theorem zch_276_120 : zinsAll 276 120 (((zcode 276).drop 120).take 60) = true := by decide +kernel
theorem zPm_276 : zPm 276 := zPm_of 276 60 3 (by decide +kernel) (fun j hj => by
  match j, hj with
  | 0, _ => exact zch_276_0
  | 1, _ => exact zch_276_60
  | 2, _ => exact zch_276_120
  | j + 3, hj => omega)
theorem zch_277_0 : zinsAll 277 0 (((zcode 277).drop 0).take 60) = true := by decide +kernel
theorem zPm_277 : zPm 277 := zPm_of 277 60 1 (by decide +kernel) (fun j hj => by
  match j, hj with
  | 0, _ => exact zch_277_0
  | j + 1, hj => omega)
theorem zch_278_0 : zinsAll 278 0 (((zcode 278).drop 0).take 60) = true := by decide +kernel
theorem zPm_278 : zPm 278 := zPm_of 278 60 1 (by decide +kernel) (fun j hj => by
  match j, hj with
  | 0, _ => exact zch_278_0
  | j + 1, hj => omega)
theorem zch_279_0 : zinsAll 279 0 (((zcode 279).drop 0).take 60) = true := by decide +kernel
theorem zch_279_60 : zinsAll 279 60 (((zcode 279).drop 60).take 60) = true := by decide +kernel
theorem zch_279_120 : zinsAll 279 120 (((zcode 279).drop 120).take 60) = true := by decide +kernel
theorem zch_279_180 : zinsAll 279 180 (((zcode 279).drop 180).take 60) = true := by decide +kernel
theorem zPm_279 : zPm 279 := zPm_of 279 60 4 (by decide +kernel) (fun j hj => by
  match j, hj with
  | 0, _ => exact zch_279_0
  | 1, _ => exact zch_279_60
  | 2, _ => exact zch_279_120
  | 3, _ => exact zch_279_180
  | j + 4, hj => omega)
theorem zch_280_0 : zinsAll 280 0 (((zcode 280).drop 0).take 60) = true := by decide +kernel
theorem zch_280_60 : zinsAll 280 60 (((zcode 280).drop 60).take 60) = true := by decide +kernel
theorem zPm_280 : zPm 280 := zPm_of 280 60 2 (by decide +kernel) (fun j hj => by
  match j, hj with
  | 0, _ => exact zch_280_0
  | 1, _ => exact zch_280_60
  | j + 2, hj => omega)
theorem zch_281_0 : zinsAll 281 0 (((zcode 281).drop 0).take 60) = true := by decide +kernel
theorem zch_281_60 : zinsAll 281 60 (((zcode 281).drop 60).take 60) = true := by decide +kernel
theorem zPm_281 : zPm 281 := zPm_of 281 60 2 (by decide +kernel) (fun j hj => by
  match j, hj with
  | 0, _ => exact zch_281_0
  | 1, _ => exact zch_281_60
  | j + 2, hj => omega)
theorem zch_282_0 : zinsAll 282 0 (((zcode 282).drop 0).take 60) = true := by decide +kernel
theorem zch_282_60 : zinsAll 282 60 (((zcode 282).drop 60).take 60) = true := by decide +kernel
theorem zPm_282 : zPm 282 := zPm_of 282 60 2 (by decide +kernel) (fun j hj => by
  match j, hj with
  | 0, _ => exact zch_282_0
  | 1, _ => exact zch_282_60
  | j + 2, hj => omega)
theorem zch_283_0 : zinsAll 283 0 (((zcode 283).drop 0).take 60) = true := by decide +kernel
theorem zch_283_60 : zinsAll 283 60 (((zcode 283).drop 60).take 60) = true := by decide +kernel
theorem zPm_283 : zPm 283 := zPm_of 283 60 2 (by decide +kernel) (fun j hj => by
  match j, hj with
  | 0, _ => exact zch_283_0
  | 1, _ => exact zch_283_60
  | j + 2, hj => omega)
theorem zch_284_0 : zinsAll 284 0 (((zcode 284).drop 0).take 60) = true := by decide +kernel
theorem zch_284_60 : zinsAll 284 60 (((zcode 284).drop 60).take 60) = true := by decide +kernel
theorem zch_284_120 : zinsAll 284 120 (((zcode 284).drop 120).take 60) = true := by decide +kernel
theorem zch_284_180 : zinsAll 284 180 (((zcode 284).drop 180).take 60) = true := by decide +kernel
theorem zPm_284 : zPm 284 := zPm_of 284 60 4 (by decide +kernel) (fun j hj => by
  match j, hj with
  | 0, _ => exact zch_284_0
  | 1, _ => exact zch_284_60
  | 2, _ => exact zch_284_120
  | 3, _ => exact zch_284_180
  | j + 4, hj => omega)
theorem zch_285_0 : zinsAll 285 0 (((zcode 285).drop 0).take 60) = true := by decide +kernel
theorem zPm_285 : zPm 285 := zPm_of 285 60 1 (by decide +kernel) (fun j hj => by
  match j, hj with
  | 0, _ => exact zch_285_0
  | j + 1, hj => omega)
theorem zch_286_0 : zinsAll 286 0 (((zcode 286).drop 0).take 60) = true := by decide +kernel
theorem zch_286_60 : zinsAll 286 60 (((zcode 286).drop 60).take 60) = true := by decide +kernel
theorem zch_286_120 : zinsAll 286 120 (((zcode 286).drop 120).take 60) = true := by decide +kernel
theorem zch_286_180 : zinsAll 286 180 (((zcode 286).drop 180).take 60) = true := by decide +kernel
theorem zPm_286 : zPm 286 := zPm_of 286 60 4 (by decide +kernel) (fun j hj => by
  match j, hj with
  | 0, _ => exact zch_286_0
  | 1, _ => exact zch_286_60
  | 2, _ => exact zch_286_120
  | 3, _ => exact zch_286_180
  | j + 4, hj => omega)
theorem zch_287_0 : zinsAll 287 0 (((zcode 287).drop 0).take 60) = true := by decide +kernel
theorem zPm_287 : zPm 287 := zPm_of 287 60 1 (by decide +kernel) (fun j hj => by
  match j, hj with
  | 0, _ => exact zch_287_0
  | j + 1, hj => omega)
theorem zch_288_0 : zinsAll 288 0 (((zcode 288).drop 0).take 60) = true := by decide +kernel
theorem zPm_288 : zPm 288 := zPm_of 288 60 1 (by decide +kernel) (fun j hj => by
  match j, hj with
  | 0, _ => exact zch_288_0
  | j + 1, hj => omega)
theorem zch_289_0 : zinsAll 289 0 (((zcode 289).drop 0).take 60) = true := by decide +kernel
theorem zPm_289 : zPm 289 := zPm_of 289 60 1 (by decide +kernel) (fun j hj => by
  match j, hj with
  | 0, _ => exact zch_289_0
  | j + 1, hj => omega)
theorem zch_290_0 : zinsAll 290 0 (((zcode 290).drop 0).take 60) = true := by decide +kernel
theorem zPm_290 : zPm 290 := zPm_of 290 60 1 (by decide +kernel) (fun j hj => by
  match j, hj with
  | 0, _ => exact zch_290_0
  | j + 1, hj => omega)
theorem zch_291_0 : zinsAll 291 0 (((zcode 291).drop 0).take 60) = true := by decide +kernel
theorem zch_291_60 : zinsAll 291 60 (((zcode 291).drop 60).take 60) = true := by decide +kernel
theorem zPm_291 : zPm 291 := zPm_of 291 60 2 (by decide +kernel) (fun j hj => by
  match j, hj with
  | 0, _ => exact zch_291_0
  | 1, _ => exact zch_291_60
  | j + 2, hj => omega)
theorem zch_292_0 : zinsAll 292 0 (((zcode 292).drop 0).take 60) = true := by decide +kernel
theorem zPm_292 : zPm 292 := zPm_of 292 60 1 (by decide +kernel) (fun j hj => by
  match j, hj with
  | 0, _ => exact zch_292_0
  | j + 1, hj => omega)
theorem zch_293_0 : zinsAll 293 0 (((zcode 293).drop 0).take 60) = true := by decide +kernel
theorem zPm_293 : zPm 293 := zPm_of 293 60 1 (by decide +kernel) (fun j hj => by
  match j, hj with
  | 0, _ => exact zch_293_0
  | j + 1, hj => omega)
theorem zch_294_0 : zinsAll 294 0 (((zcode 294).drop 0).take 60) = true := by decide +kernel
theorem zPm_294 : zPm 294 := zPm_of 294 60 1 (by decide +kernel) (fun j hj => by
  match j, hj with
  | 0, _ => exact zch_294_0
  | j + 1, hj => omega)
theorem zch_295_0 : zinsAll 295 0 (((zcode 295).drop 0).take 60) = true := by decide +kernel
theorem zch_295_60 : zinsAll 295 60 (((zcode 295).drop 60).take 60) = true := by decide +kernel
theorem zPm_295 : zPm 295 := zPm_of 295 60 2 (by decide +kernel) (fun j hj => by
  match j, hj with
  | 0, _ => exact zch_295_0
  | 1, _ => exact zch_295_60
  | j + 2, hj => omega)
theorem zch_296_0 : zinsAll 296 0 (((zcode 296).drop 0).take 60) = true := by decide +kernel
theorem zch_296_60 : zinsAll 296 60 (((zcode 296).drop 60).take 60) = true := by decide +kernel
theorem zPm_296 : zPm 296 := zPm_of 296 60 2 (by decide +kernel) (fun j hj => by
  match j, hj with
  | 0, _ => exact zch_296_0
  | 1, _ => exact zch_296_60
  | j + 2, hj => omega)
theorem zch_297_0 : zinsAll 297 0 (((zcode 297).drop 0).take 60) = true := by decide +kernel
theorem zch_297_60 : zinsAll 297 60 (((zcode 297).drop 60).take 60) = true := by decide +kernel
theorem zch_297_120 : zinsAll 297 120 (((zcode 297).drop 120).take 60) = true := by decide +kernel
theorem zPm_297 : zPm 297 := zPm_of 297 60 3 (by decide +kernel) (fun j hj => by
  match j, hj with
  | 0, _ => exact zch_297_0
  | 1, _ => exact zch_297_60
  | 2, _ => exact zch_297_120
  | j + 3, hj => omega)
theorem zch_298_0 : zinsAll 298 0 (((zcode 298).drop 0).take 60) = true := by decide +kernel
theorem zPm_298 : zPm 298 := zPm_of 298 60 1 (by decide +kernel) (fun j hj => by
  match j, hj with
  | 0, _ => exact zch_298_0
  | j + 1, hj => omega)
theorem zch_299_0 : zinsAll 299 0 (((zcode 299).drop 0).take 60) = true := by decide +kernel
theorem zch_299_60 : zinsAll 299 60 (((zcode 299).drop 60).take 60) = true := by decide +kernel
theorem zPm_299 : zPm 299 := zPm_of 299 60 2 (by decide +kernel) (fun j hj => by
  match j, hj with
  | 0, _ => exact zch_299_0
  | 1, _ => exact zch_299_60
  | j + 2, hj => omega)
theorem zch_300_0 : zinsAll 300 0 (((zcode 300).drop 0).take 60) = true := by decide +kernel
theorem zPm_300 : zPm 300 := zPm_of 300 60 1 (by decide +kernel) (fun j hj => by
  match j, hj with
  | 0, _ => exact zch_300_0
  | j + 1, hj => omega)
theorem zch_301_0 : zinsAll 301 0 (((zcode 301).drop 0).take 60) = true := by decide +kernel
theorem zch_301_60 : zinsAll 301 60 (((zcode 301).drop 60).take 60) = true := by decide +kernel
theorem zch_301_120 : zinsAll 301 120 (((zcode 301).drop 120).take 60) = true := by decide +kernel
theorem zch_301_180 : zinsAll 301 180 (((zcode 301).drop 180).take 60) = true := by decide +kernel
theorem zPm_301 : zPm 301 := zPm_of 301 60 4 (by decide +kernel) (fun j hj => by
  match j, hj with
  | 0, _ => exact zch_301_0
  | 1, _ => exact zch_301_60
  | 2, _ => exact zch_301_120
  | 3, _ => exact zch_301_180
  | j + 4, hj => omega)
theorem zch_302_0 : zinsAll 302 0 (((zcode 302).drop 0).take 60) = true := by decide +kernel
theorem zch_302_60 : zinsAll 302 60 (((zcode 302).drop 60).take 60) = true := by decide +kernel
theorem zPm_302 : zPm 302 := zPm_of 302 60 2 (by decide +kernel) (fun j hj => by
  match j, hj with
  | 0, _ => exact zch_302_0
  | 1, _ => exact zch_302_60
  | j + 2, hj => omega)
theorem zch_303_0 : zinsAll 303 0 (((zcode 303).drop 0).take 60) = true := by decide +kernel
theorem zPm_303 : zPm 303 := zPm_of 303 60 1 (by decide +kernel) (fun j hj => by
  match j, hj with
  | 0, _ => exact zch_303_0
  | j + 1, hj => omega)
theorem zch_304_0 : zinsAll 304 0 (((zcode 304).drop 0).take 60) = true := by decide +kernel
theorem zch_304_60 : zinsAll 304 60 (((zcode 304).drop 60).take 60) = true := by decide +kernel
theorem zPm_304 : zPm 304 := zPm_of 304 60 2 (by decide +kernel) (fun j hj => by
  match j, hj with
  | 0, _ => exact zch_304_0
  | 1, _ => exact zch_304_60
  | j + 2, hj => omega)
theorem zch_305_0 : zinsAll 305 0 (((zcode 305).drop 0).take 60) = true := by decide +kernel
theorem zch_305_60 : zinsAll 305 60 (((zcode 305).drop 60).take 60) = true := by decide +kernel
theorem zPm_305 : zPm 305 := zPm_of 305 60 2 (by decide +kernel) (fun j hj => by
  match j, hj with
  | 0, _ => exact zch_305_0
  | 1, _ => exact zch_305_60
  | j + 2, hj => omega)
theorem zch_306_0 : zinsAll 306 0 (((zcode 306).drop 0).take 60) = true := by decide +kernel
theorem zch_306_60 : zinsAll 306 60 (((zcode 306).drop 60).take 60) = true := by decide +kernel
theorem zPm_306 : zPm 306 := zPm_of 306 60 2 (by decide +kernel) (fun j hj => by
  match j, hj with
  | 0, _ => exact zch_306_0
  | 1, _ => exact zch_306_60
  | j + 2, hj => omega)
theorem zch_307_0 : zinsAll 307 0 (((zcode 307).drop 0).take 60) = true := by decide +kernel
theorem zch_307_60 : zinsAll 307 60 (((zcode 307).drop 60).take 60) = true := by decide +kernel
theorem zPm_307 : zPm 307 := zPm_of 307 60 2 (by decide +kernel) (fun j hj => by
  match j, hj with
  | 0, _ => exact zch_307_0
  | 1, _ => exact zch_307_60
  | j + 2, hj => omega)
theorem zch_308_0 : zinsAll 308 0 (((zcode 308).drop 0).take 60) = true := by decide +kernel
theorem zch_308_60 : zinsAll 308 60 (((zcode 308).drop 60).take 60) = true := by decide +kernel
theorem zPm_308 : zPm 308 := zPm_of 308 60 2 (by decide +kernel) (fun j hj => by
  match j, hj with
  | 0, _ => exact zch_308_0
  | 1, _ => exact zch_308_60
  | j + 2, hj => omega)
theorem zch_309_0 : zinsAll 309 0 (((zcode 309).drop 0).take 60) = true := by decide +kernel
theorem zPm_309 : zPm 309 := zPm_of 309 60 1 (by decide +kernel) (fun j hj => by
  match j, hj with
  | 0, _ => exact zch_309_0
  | j + 1, hj => omega)
theorem zch_310_0 : zinsAll 310 0 (((zcode 310).drop 0).take 60) = true := by decide +kernel
theorem zPm_310 : zPm 310 := zPm_of 310 60 1 (by decide +kernel) (fun j hj => by
  match j, hj with
  | 0, _ => exact zch_310_0
  | j + 1, hj => omega)
theorem zch_311_0 : zinsAll 311 0 (((zcode 311).drop 0).take 60) = true := by decide +kernel
theorem zPm_311 : zPm 311 := zPm_of 311 60 1 (by decide +kernel) (fun j hj => by
  match j, hj with
  | 0, _ => exact zch_311_0
  | j + 1, hj => omega)
theorem zch_312_0 : zinsAll 312 0 (((zcode 312).drop 0).take 60) = true := by decide +kernel
theorem zPm_312 : zPm 312 := zPm_of 312 60 1 (by decide +kernel) (fun j hj => by
  match j, hj with
  | 0, _ => exact zch_312_0
  | j + 1, hj => omega)
theorem zch_313_0 : zinsAll 313 0 (((zcode 313).drop 0).take 60) = true := by decide +kernel
theorem zPm_313 : zPm 313 := zPm_of 313 60 1 (by decide +kernel) (fun j hj => by
  match j, hj with
  | 0, _ => exact zch_313_0
  | j + 1, hj => omega)
theorem zch_314_0 : zinsAll 314 0 (((zcode 314).drop 0).take 60) = true := by decide +kernel
theorem zPm_314 : zPm 314 := zPm_of 314 60 1 (by decide +kernel) (fun j hj => by
  match j, hj with
  | 0, _ => exact zch_314_0
  | j + 1, hj => omega)
theorem zch_315_0 : zinsAll 315 0 (((zcode 315).drop 0).take 60) = true := by decide +kernel
theorem zPm_315 : zPm 315 := zPm_of 315 60 1 (by decide +kernel) (fun j hj => by
  match j, hj with
  | 0, _ => exact zch_315_0
  | j + 1, hj => omega)
theorem zch_316_0 : zinsAll 316 0 (((zcode 316).drop 0).take 60) = true := by decide +kernel
theorem zPm_316 : zPm 316 := zPm_of 316 60 1 (by decide +kernel) (fun j hj => by
  match j, hj with
  | 0, _ => exact zch_316_0
  | j + 1, hj => omega)
theorem zch_317_0 : zinsAll 317 0 (((zcode 317).drop 0).take 60) = true := by decide +kernel
theorem zPm_317 : zPm 317 := zPm_of 317 60 1 (by decide +kernel) (fun j hj => by
  match j, hj with
  | 0, _ => exact zch_317_0
  | j + 1, hj => omega)
theorem zch_318_0 : zinsAll 318 0 (((zcode 318).drop 0).take 60) = true := by decide +kernel
theorem zPm_318 : zPm 318 := zPm_of 318 60 1 (by decide +kernel) (fun j hj => by
  match j, hj with
  | 0, _ => exact zch_318_0
  | j + 1, hj => omega)
theorem zch_319_0 : zinsAll 319 0 (((zcode 319).drop 0).take 40) = true := by decide +kernel
theorem zch_319_40 : zinsAll 319 40 (((zcode 319).drop 40).take 40) = true := by decide +kernel
theorem zch_319_80 : zinsAll 319 80 (((zcode 319).drop 80).take 40) = true := by decide +kernel
theorem zch_319_120 : zinsAll 319 120 (((zcode 319).drop 120).take 40) = true := by decide +kernel
theorem zch_319_160 : zinsAll 319 160 (((zcode 319).drop 160).take 40) = true := by decide +kernel
theorem zch_319_200 : zinsAll 319 200 (((zcode 319).drop 200).take 40) = true := by decide +kernel
theorem zch_319_240 : zinsAll 319 240 (((zcode 319).drop 240).take 40) = true := by decide +kernel
theorem zch_319_280 : zinsAll 319 280 (((zcode 319).drop 280).take 40) = true := by decide +kernel
theorem zch_319_320 : zinsAll 319 320 (((zcode 319).drop 320).take 40) = true := by decide +kernel
theorem zch_319_360 : zinsAll 319 360 (((zcode 319).drop 360).take 40) = true := by decide +kernel
theorem zch_319_400 : zinsAll 319 400 (((zcode 319).drop 400).take 40) = true := by decide +kernel
theorem zch_319_440 : zinsAll 319 440 (((zcode 319).drop 440).take 40) = true := by decide +kernel
theorem zch_319_480 : zinsAll 319 480 (((zcode 319).drop 480).take 40) = true := by decide +kernel
theorem zch_319_520 : zinsAll 319 520 (((zcode 319).drop 520).take 40) = true := by decide +kernel
theorem zch_319_560 : zinsAll 319 560 (((zcode 319).drop 560).take 40) = true := by decide +kernel
theorem zch_319_600 : zinsAll 319 600 (((zcode 319).drop 600).take 40) = true := by decide +kernel
theorem zch_319_640 : zinsAll 319 640 (((zcode 319).drop 640).take 40) = true := by decide +kernel
theorem zch_319_680 : zinsAll 319 680 (((zcode 319).drop 680).take 40) = true := by decide +kernel
theorem zch_319_720 : zinsAll 319 720 (((zcode 319).drop 720).take 40) = true := by decide +kernel
theorem zch_319_760 : zinsAll 319 760 (((zcode 319).drop 760).take 40) = true := by decide +kernel
theorem zch_319_800 : zinsAll 319 800 (((zcode 319).drop 800).take 40) = true := by decide +kernel
theorem zch_319_840 : zinsAll 319 840 (((zcode 319).drop 840).take 40) = true := by decide +kernel
theorem zch_319_880 : zinsAll 319 880 (((zcode 319).drop 880).take 40) = true := by decide +kernel
theorem zch_319_920 : zinsAll 319 920 (((zcode 319).drop 920).take 40) = true := by decide +kernel
theorem zch_319_960 : zinsAll 319 960 (((zcode 319).drop 960).take 40) = true := by decide +kernel
theorem zch_319_1000 : zinsAll 319 1000 (((zcode 319).drop 1000).take 40) = true := by decide +kernel
theorem zch_319_1040 : zinsAll 319 1040 (((zcode 319).drop 1040).take 40) = true := by decide +kernel
theorem zch_319_1080 : zinsAll 319 1080 (((zcode 319).drop 1080).take 40) = true := by decide +kernel
theorem zch_319_1120 : zinsAll 319 1120 (((zcode 319).drop 1120).take 40) = true := by decide +kernel
theorem zch_319_1160 : zinsAll 319 1160 (((zcode 319).drop 1160).take 40) = true := by decide +kernel
theorem zch_319_1200 : zinsAll 319 1200 (((zcode 319).drop 1200).take 40) = true := by decide +kernel
theorem zch_319_1240 : zinsAll 319 1240 (((zcode 319).drop 1240).take 40) = true := by decide +kernel
theorem zch_319_1280 : zinsAll 319 1280 (((zcode 319).drop 1280).take 40) = true := by decide +kernel
theorem zch_319_1320 : zinsAll 319 1320 (((zcode 319).drop 1320).take 40) = true := by decide +kernel
theorem zch_319_1360 : zinsAll 319 1360 (((zcode 319).drop 1360).take 40) = true := by decide +kernel
theorem zch_319_1400 : zinsAll 319 1400 (((zcode 319).drop 1400).take 40) = true := by decide +kernel
theorem zch_319_1440 : zinsAll 319 1440 (((zcode 319).drop 1440).take 40) = true := by decide +kernel
theorem zch_319_1480 : zinsAll 319 1480 (((zcode 319).drop 1480).take 40) = true := by decide +kernel
theorem zch_319_1520 : zinsAll 319 1520 (((zcode 319).drop 1520).take 40) = true := by decide +kernel
theorem zPm_319 : zPm 319 := zPm_of 319 40 39 (by decide +kernel) (fun j hj => by
  match j, hj with
  | 0, _ => exact zch_319_0
  | 1, _ => exact zch_319_40
  | 2, _ => exact zch_319_80
  | 3, _ => exact zch_319_120
  | 4, _ => exact zch_319_160
  | 5, _ => exact zch_319_200
  | 6, _ => exact zch_319_240
  | 7, _ => exact zch_319_280
  | 8, _ => exact zch_319_320
  | 9, _ => exact zch_319_360
  | 10, _ => exact zch_319_400
  | 11, _ => exact zch_319_440
  | 12, _ => exact zch_319_480
  | 13, _ => exact zch_319_520
  | 14, _ => exact zch_319_560
  | 15, _ => exact zch_319_600
  | 16, _ => exact zch_319_640
  | 17, _ => exact zch_319_680
  | 18, _ => exact zch_319_720
  | 19, _ => exact zch_319_760
  | 20, _ => exact zch_319_800
  | 21, _ => exact zch_319_840
  | 22, _ => exact zch_319_880
  | 23, _ => exact zch_319_920
  | 24, _ => exact zch_319_960
  | 25, _ => exact zch_319_1000
  | 26, _ => exact zch_319_1040
  | 27, _ => exact zch_319_1080
  | 28, _ => exact zch_319_1120
  | 29, _ => exact zch_319_1160
  | 30, _ => exact zch_319_1200
  | 31, _ => exact zch_319_1240
  | 32, _ => exact zch_319_1280
  | 33, _ => exact zch_319_1320
  | 34, _ => exact zch_319_1360
  | 35, _ => exact zch_319_1400
  | 36, _ => exact zch_319_1440
  | 37, _ => exact zch_319_1480
  | 38, _ => exact zch_319_1520
  | j + 39, hj => omega)
theorem zPl_16 : ∀ n, n < 16 → zPm n := (lt_s (lt_s (lt_s (lt_s (lt_s (lt_s (lt_s (lt_s (lt_s (lt_s (lt_s (lt_s (lt_s (lt_s (lt_s (lt_s lt_0 zPm_0) zPm_1) zPm_2) zPm_3) zPm_4) zPm_5) zPm_6) zPm_7) zPm_8) zPm_9) zPm_10) zPm_11) zPm_12) zPm_13) zPm_14) zPm_15)
theorem zPl_32 : ∀ n, n < 32 → zPm n := (lt_s (lt_s (lt_s (lt_s (lt_s (lt_s (lt_s (lt_s (lt_s (lt_s (lt_s (lt_s (lt_s (lt_s (lt_s (lt_s zPl_16 zPm_16) zPm_17) zPm_18) zPm_19) zPm_20) zPm_21) zPm_22) zPm_23) zPm_24) zPm_25) zPm_26) zPm_27) zPm_28) zPm_29) zPm_30) zPm_31)
theorem zPl_48 : ∀ n, n < 48 → zPm n := (lt_s (lt_s (lt_s (lt_s (lt_s (lt_s (lt_s (lt_s (lt_s (lt_s (lt_s (lt_s (lt_s (lt_s (lt_s (lt_s zPl_32 zPm_32) zPm_33) zPm_34) zPm_35) zPm_36) zPm_37) zPm_38) zPm_39) zPm_40) zPm_41) zPm_42) zPm_43) zPm_44) zPm_45) zPm_46) zPm_47)
theorem zPl_64 : ∀ n, n < 64 → zPm n := (lt_s (lt_s (lt_s (lt_s (lt_s (lt_s (lt_s (lt_s (lt_s (lt_s (lt_s (lt_s (lt_s (lt_s (lt_s (lt_s zPl_48 zPm_48) zPm_49) zPm_50) zPm_51) zPm_52) zPm_53) zPm_54) zPm_55) zPm_56) zPm_57) zPm_58) zPm_59) zPm_60) zPm_61) zPm_62) zPm_63)
theorem zPl_80 : ∀ n, n < 80 → zPm n := (lt_s (lt_s (lt_s (lt_s (lt_s (lt_s (lt_s (lt_s (lt_s (lt_s (lt_s (lt_s (lt_s (lt_s (lt_s (lt_s zPl_64 zPm_64) zPm_65) zPm_66) zPm_67) zPm_68) zPm_69) zPm_70) zPm_71) zPm_72) zPm_73) zPm_74) zPm_75) zPm_76) zPm_77) zPm_78) zPm_79)
theorem zPl_96 : ∀ n, n < 96 → zPm n := (lt_s (lt_s (lt_s (lt_s (lt_s (lt_s (lt_s (lt_s (lt_s (lt_s (lt_s (lt_s (lt_s (lt_s (lt_s (lt_s zPl_80 zPm_80) zPm_81) zPm_82) zPm_83) zPm_84) zPm_85) zPm_86) zPm_87) zPm_88) zPm_89) zPm_90) zPm_91) zPm_92) zPm_93) zPm_94) zPm_95)
theorem zPl_112 : ∀ n, n < 112 → zPm n := (lt_s (lt_s (lt_s (lt_s (lt_s (lt_s (lt_s (lt_s (lt_s (lt_s (lt_s (lt_s (lt_s (lt_s (lt_s (lt_s zPl_96 zPm_96) zPm_97) zPm_98) zPm_99) zPm_100) zPm_101) zPm_102) zPm_103) zPm_104) zPm_105) zPm_106) zPm_107) zPm_108) zPm_109) zPm_110) zPm_111)
theorem zPl_128 : ∀ n, n < 128 → zPm n := (lt_s (lt_s (lt_s (lt_s (lt_s (lt_s (lt_s (lt_s (lt_s (lt_s (lt_s (lt_s (lt_s (lt_s (lt_s (lt_s zPl_112 zPm_112) zPm_113) zPm_114) zPm_115) zPm_116) zPm_117) zPm_118) zPm_119) zPm_120) zPm_121) zPm_122) zPm_123) zPm_124) zPm_125) zPm_126) zPm_127)
theorem zPl_144 : ∀ n, n < 144 → zPm n := (lt_s (lt_s (lt_s (lt_s (lt_s (lt_s (lt_s (lt_s (lt_s (lt_s (lt_s (lt_s (lt_s (lt_s (lt_s (lt_s zPl_128 zPm_128) zPm_129) zPm_130) zPm_131) zPm_132) zPm_133) zPm_134) zPm_135) zPm_136) zPm_137) zPm_138) zPm_139) zPm_140) zPm_141) zPm_142) zPm_143)
theorem zPl_160 : ∀ n, n < 160 → zPm n := (lt_s (lt_s (lt_s (lt_s (lt_s (lt_s (lt_s (lt_s (lt_s (lt_s (lt_s (lt_s (lt_s (lt_s (lt_s (lt_s zPl_144 zPm_144) zPm_145) zPm_146) zPm_147) zPm_148) zPm_149) zPm_150) zPm_151) zPm_152) zPm_153) zPm_154) zPm_155) zPm_156) zPm_157) zPm_158) zPm_159)
theorem zPl_176 : ∀ n, n < 176 → zPm n := (lt_s (lt_s (lt_s (lt_s (lt_s (lt_s (lt_s (lt_s (lt_s (lt_s (lt_s (lt_s (lt_s (lt_s (lt_s (lt_s zPl_160 zPm_160) zPm_161) zPm_162) zPm_163) zPm_164) zPm_165) zPm_166) zPm_167) zPm_168) zPm_169) zPm_170) zPm_171) zPm_172) zPm_173) zPm_174) zPm_175)
theorem zPl_192 : ∀ n, n < 192 → zPm n := (lt_s (lt_s (lt_s (lt_s (lt_s (lt_s (lt_s (lt_s (lt_s (lt_s (lt_s (lt_s (lt_s (lt_s (lt_s (lt_s zPl_176 zPm_176) zPm_177) zPm_178) zPm_179) zPm_180) zPm_181) zPm_182) zPm_183) zPm_184) zPm_185) zPm_186) zPm_187) zPm_188) zPm_189) zPm_190) zPm_191)
theorem zPl_208 : ∀ n, n < 208 → zPm n := (lt_s (lt_s (lt_s (lt_s (lt_s (lt_s (lt_s (lt_s (lt_s (lt_s (lt_s (lt_s (lt_s (lt_s (lt_s (lt_s zPl_192 zPm_192) zPm_193) zPm_194) zPm_195) zPm_196) zPm_197) zPm_198) zPm_199) zPm_200) zPm_201) zPm_202) zPm_203) zPm_204) zPm_205) zPm_206) zPm_207)
theorem zPl_224 : ∀ n, n < 224 → zPm n := (lt_s (lt_s (lt_s (lt_s (lt_s (lt_s (lt_s (lt_s (lt_s (lt_s (lt_s (lt_s (lt_s (lt_s (lt_s (lt_s zPl_208 zPm_208) zPm_209) zPm_210) zPm_211) zPm_212) zPm_213) zPm_214) zPm_215) zPm_216) zPm_217) zPm_218) zPm_219) zPm_220) zPm_221) zPm_222) zPm_223)
theorem zPl_240 : ∀ n, n < 240 → zPm n := (lt_s (lt_s (lt_s (lt_s (lt_s (lt_s (lt_s (lt_s (lt_s (lt_s (lt_s (lt_s (lt_s (lt_s (lt_s (lt_s zPl_224 zPm_224) zPm_225) zPm_226) zPm_227) zPm_228) zPm_229) zPm_230) zPm_231) zPm_232) zPm_233) zPm_234) zPm_235) zPm_236) zPm_237) zPm_238) zPm_239)
theorem zPl_256 : ∀ n, n < 256 → zPm n := (lt_s (lt_s (lt_s (lt_s (lt_s (lt_s (lt_s (lt_s (lt_s (lt_s (lt_s (lt_s (lt_s (lt_s (lt_s (lt_s zPl_240 zPm_240) zPm_241) zPm_242) zPm_243) zPm_244) zPm_245) zPm_246) zPm_247) zPm_248) zPm_249) zPm_250) zPm_251) zPm_252) zPm_253) zPm_254) zPm_255)
theorem zPl_272 : ∀ n, n < 272 → zPm n := (lt_s (lt_s (lt_s (lt_s (lt_s (lt_s (lt_s (lt_s (lt_s (lt_s (lt_s (lt_s (lt_s (lt_s (lt_s (lt_s zPl_256 zPm_256) zPm_257) zPm_258) zPm_259) zPm_260) zPm_261) zPm_262) zPm_263) zPm_264) zPm_265) zPm_266) zPm_267) zPm_268) zPm_269) zPm_270) zPm_271)
theorem zPl_288 : ∀ n, n < 288 → zPm n := (lt_s (lt_s (lt_s (lt_s (lt_s (lt_s (lt_s (lt_s (lt_s (lt_s (lt_s (lt_s (lt_s (lt_s (lt_s (lt_s zPl_272 zPm_272) zPm_273) zPm_274) zPm_275) zPm_276) zPm_277) zPm_278) zPm_279) zPm_280) zPm_281) zPm_282) zPm_283) zPm_284) zPm_285) zPm_286) zPm_287)
theorem zPl_304 : ∀ n, n < 304 → zPm n := (lt_s (lt_s (lt_s (lt_s (lt_s (lt_s (lt_s (lt_s (lt_s (lt_s (lt_s (lt_s (lt_s (lt_s (lt_s (lt_s zPl_288 zPm_288) zPm_289) zPm_290) zPm_291) zPm_292) zPm_293) zPm_294) zPm_295) zPm_296) zPm_297) zPm_298) zPm_299) zPm_300) zPm_301) zPm_302) zPm_303)
theorem zPl_320 : ∀ n, n < 320 → zPm n := (lt_s (lt_s (lt_s (lt_s (lt_s (lt_s (lt_s (lt_s (lt_s (lt_s (lt_s (lt_s (lt_s (lt_s (lt_s (lt_s zPl_304 zPm_304) zPm_305) zPm_306) zPm_307) zPm_308) zPm_309) zPm_310) zPm_311) zPm_312) zPm_313) zPm_314) zPm_315) zPm_316) zPm_317) zPm_318) zPm_319)
theorem zmth2_all : (List.range 320).all zmth2 = true := by decide +kernel
