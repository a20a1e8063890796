/-! EVERY INSTRUCTION IS CHECKED: it is the class file's, its links are the tables', what it calls has room -/
def zroom (n y : Nat) : Bool := if y < 900 then decide ((zMI y).2.2.2.2.2.1 + 1 ≤ (zMI n).2.2.2.2.2.1) && decide (8 + ((zMI y).2.2.1 + 11) + (zMI y).2.2.2.2.2.2 ≤ (zMI n).2.2.2.2.2.2)
  else if y = 905 ∨ y = 906 then decide (6 ≤ (zMI n).2.2.2.2.2.1) && decide (140 ≤ (zMI n).2.2.2.2.2.2)
  else decide (1 ≤ (zMI n).2.2.2.2.2.1) && decide (40 ≤ (zMI n).2.2.2.2.2.2)
def zrmk (n : Nat) (i : Instr) : Bool := match zcal i with
  | some (y, _) => zroom n y
  | none => true
def zins (n pc : Nat) (q : zIns) : Bool := decide (decode (zMI n).2.1 pc = .ok (zreal q.1 q.2.2, q.2.1)) && (zlenOK q.1 q.2.1 && ((zoffs q.1).all (fun o => decide (0 ≤ (pc : Int) + o)) && (decide (zlocs q.1 ≤ (zMI n).2.2.1) && (zlnk n q.1 q.2.2 && zrmk n q.1))))
def zinsAll (n : Nat) : Nat → zCode → Bool
  | _, [] => true
  | pc, none :: l => zinsAll n (pc + 1) l
  | pc, some q :: l => zins n pc q && zinsAll n (pc + 1) l
theorem zinsAll_at {n : Nat} : ∀ (l : zCode) (pc0 : Nat), zinsAll n pc0 l = true → ∀ (k : Nat) (q : zIns), l[k]? = some (some q) → zins n (pc0 + k) q = true
  | [], pc0, h, k, q, hk => by cases hk
  | none :: l, pc0, h, 0, q, hk => by cases hk
  | none :: l, pc0, h, k + 1, q, hk => by
    have := zinsAll_at l (pc0 + 1) h k q hk
    rw [show pc0 + (k + 1) = pc0 + 1 + k by omega]; exact this
  | some r :: l, pc0, h, 0, q, hk => by
    cases hk
    rw [zinsAll, Bool.and_eq_true] at h
    exact h.1
  | some r :: l, pc0, h, k + 1, q, hk => by
    rw [zinsAll, Bool.and_eq_true] at h
    have := zinsAll_at l (pc0 + 1) h.2 k q hk
    rw [show pc0 + (k + 1) = pc0 + 1 + k by omega]; exact this
def zPm (n : Nat) : Prop := ∀ (pc : Nat) (q : zIns), (zcode n)[pc]? = some (some q) → zins n pc q = true
theorem zPm_of (n step m : Nat) (hm : (zcode n).length ≤ step * m ∧ 0 < step) (h : ∀ j, j < m → zinsAll n (step * j) (((zcode n).drop (step * j)).take step) = true) : zPm n := by
  intro pc q hq
  have h1 : pc < (zcode n).length := (List.getElem?_eq_some_iff.mp hq).1
  have h2 : pc / step < m := (Nat.div_lt_iff_lt_mul hm.2).mpr (by rw [Nat.mul_comm]; omega)
  have h3 := zinsAll_at _ _ (h _ h2) (pc % step) q (by
    rw [List.getElem?_take, if_pos (Nat.mod_lt _ hm.2), List.getElem?_drop, Nat.div_add_mod]; exact hq)
  rw [Nat.div_add_mod] at h3
  exact h3
/-- a method's own facts -/
def zmth2 (n : Nat) : Bool := decide ((zMI n).2.2.1 = zML n) && (decide ((parseMethodDescriptor (zMI n).1.desc).map (fun d => d.parameters.length) = some (if n ∈ zoT ∨ n = 137 then zNA n else zNA n - 1)) && ((decide (1 ≤ zNA n) || decide (n ∈ zoT)) && (plainFor (zMI n).1 && (decide ((zMI n).1.cls ∈ zoIn) && (decide ((zMI n).1.cls = zOw (zMI n).2.2.2.2.1) && ((decide (n ∈ zoT) || decide (n = 137)) || decide ((vwCl[zCI n]?).map (fun q => q.1) = some (zMI n).1.cls)))))))

theorem zch_0_0 : zinsAll 0 0 (((zcode 0).drop 0).take 60) = true := by decide +kernel
theorem zch_0_60 : zinsAll 0 60 (((zcode 0).drop 60).take 60) = true := by decide +kernel
theorem zch_0_120 : zinsAll 0 120 (((zcode 0).drop 120).take 60) = true := by decide +kernel
theorem zPm_0 : zPm 0 := zPm_of 0 60 3 (by decide +kernel) (fun j hj => by
  match j, hj with
  | 0, _ => exact zch_0_0
  | 1, _ => exact zch_0_60
  | 2, _ => exact zch_0_120
  | j + 3, hj => omega)
theorem zch_1_0 : zinsAll 1 0 (((zcode 1).drop 0).take 60) = true := by decide +kernel
theorem zch_1_60 : zinsAll 1 60 (((zcode 1).drop 60).take 60) = true := by decide +kernel
theorem zPm_1 : zPm 1 := zPm_of 1 60 2 (by decide +kernel) (fun j hj => by
  match j, hj with
  | 0, _ => exact zch_1_0
  | 1, _ => exact zch_1_60
  | j + 2, hj => omega)
theorem zch_2_0 : zinsAll 2 0 (((zcode 2).drop 0).take 60) = true := by decide +kernel
theorem zch_2_60 : zinsAll 2 60 (((zcode 2).drop 60).take 60) = true := by decide +kernel
theorem zch_2_120 : zinsAll 2 120 (((zcode 2).drop 120).take 60) = true := by decide +kernel
theorem zPm_2 : zPm 2 := zPm_of 2 60 3 (by decide +kernel) (fun j hj => by
  match j, hj with
  | 0, _ => exact zch_2_0
  | 1, _ => exact zch_2_60
  | 2, _ => exact zch_2_120
  | j + 3, hj => omega)
theorem zch_3_0 : zinsAll 3 0 (((zcode 3).drop 0).take 60) = true := by decide +kernel
theorem zch_3_60 : zinsAll 3 60 (((zcode 3).drop 60).take 60) = true := by decide +kernel
theorem zPm_3 : zPm 3 := zPm_of 3 60 2 (by decide +kernel) (fun j hj => by
  match j, hj with
  | 0, _ => exact zch_3_0
  | 1, _ => exact zch_3_60
  | j + 2, hj => omega)
theorem zch_4_0 : zinsAll 4 0 (((zcode 4).drop 0).take 60) = true := by decide +kernel
theorem zch_4_60 : zinsAll 4 60 (((zcode 4).drop 60).take 60) = true := by decide +kernel
theorem zch_4_120 : zinsAll 4 120 (((zcode 4).drop 120).take 60) = true := by decide +kernel
theorem zch_4_180 : zinsAll 4 180 (((zcode 4).drop 180).take 60) = true := by decide +kernel
theorem zPm_4 : zPm 4 := zPm_of 4 60 4 (by decide +kernel) (fun j hj => by
  match j, hj with
  | 0, _ => exact zch_4_0
  | 1, _ => exact zch_4_60
  | 2, _ => exact zch_4_120
  | 3, _ => exact zch_4_180
  | j + 4, hj => omega)
theorem zch_5_0 : zinsAll 5 0 (((zcode 5).drop 0).take 60) = true := by decide +kernel
theorem zPm_5 : zPm 5 := zPm_of 5 60 1 (by decide +kernel) (fun j hj => by
  match j, hj with
  | 0, _ => exact zch_5_0
  | j + 1, hj => omega)
theorem zch_6_0 : zinsAll 6 0 (((zcode 6).drop 0).take 60) = true := by decide +kernel
theorem zPm_6 : zPm 6 := zPm_of 6 60 1 (by decide +kernel) (fun j hj => by
  match j, hj with
  | 0, _ => exact zch_6_0
  | j + 1, hj => omega)
theorem zch_7_0 : zinsAll 7 0 (((zcode 7).drop 0).take 60) = true := by decide +kernel
theorem zPm_7 : zPm 7 := zPm_of 7 60 1 (by decide +kernel) (fun j hj => by
  match j, hj with
  | 0, _ => exact zch_7_0
  | j + 1, hj => omega)
theorem zch_8_0 : zinsAll 8 0 (((zcode 8).drop 0).take 60) = true := by decide +kernel
theorem zch_8_60 : zinsAll 8 60 (((zcode 8).drop 60).take 60) = true := by decide +kernel
theorem zPm_8 : zPm 8 := zPm_of 8 60 2 (by decide +kernel) (fun j hj => by
  match j, hj with
  | 0, _ => exact zch_8_0
  | 1, _ => exact zch_8_60
  | j + 2, hj => omega)
theorem zch_9_0 : zinsAll 9 0 (((zcode 9).drop 0).take 60) = true := by decide +kernel
theorem zPm_9 : zPm 9 := zPm_of 9 60 1 (by decide +kernel) (fun j hj => by
  match j, hj with
  | 0, _ => exact zch_9_0
  | j + 1, hj => omega)
theorem zch_10_0 : zinsAll 10 0 (((zcode 10).drop 0).take 60) = true := by decide +kernel
theorem zPm_10 : zPm 10 := zPm_of 10 60 1 (by decide +kernel) (fun j hj => by
  match j, hj with
  | 0, _ => exact zch_10_0
  | j + 1, hj => omega)
theorem zch_11_0 : zinsAll 11 0 (((zcode 11).drop 0).take 60) = true := by decide +kernel
theorem zch_11_60 : zinsAll 11 60 (((zcode 11).drop 60).take 60) = true := by decide +kernel
theorem zch_11_120 : zinsAll 11 120 (((zcode 11).drop 120).take 60) = true := by decide +kernel
theorem zPm_11 : zPm 11 := zPm_of 11 60 3 (by decide +kernel) (fun j hj => by
  match j, hj with
  | 0, _ => exact zch_11_0
  | 1, _ => exact zch_11_60
  | 2, _ => exact zch_11_120
  | j + 3, hj => omega)
theorem zch_12_0 : zinsAll 12 0 (((zcode 12).drop 0).take 60) = true := by decide +kernel
theorem zch_12_60 : zinsAll 12 60 (((zcode 12).drop 60).take 60) = true := by decide +kernel
theorem zPm_12 : zPm 12 := zPm_of 12 60 2 (by decide +kernel) (fun j hj => by
  match j, hj with
  | 0, _ => exact zch_12_0
  | 1, _ => exact zch_12_60
  | j + 2, hj => omega)
theorem zch_13_0 : zinsAll 13 0 (((zcode 13).drop 0).take 60) = true := by decide +kernel
theorem zPm_13 : zPm 13 := zPm_of 13 60 1 (by decide +kernel) (fun j hj => by
  match j, hj with
  | 0, _ => exact zch_13_0
  | j + 1, hj => omega)
theorem zch_14_0 : zinsAll 14 0 (((zcode 14).drop 0).take 60) = true := by decide +kernel
theorem zPm_14 : zPm 14 := zPm_of 14 60 1 (by decide +kernel) (fun j hj => by
  match j, hj with
  | 0, _ => exact zch_14_0
  | j + 1, hj => omega)
theorem zch_15_0 : zinsAll 15 0 (((zcode 15).drop 0).take 60) = true := by decide +kernel
theorem zPm_15 : zPm 15 := zPm_of 15 60 1 (by decide +kernel) (fun j hj => by
  match j, hj with
  | 0, _ => exact zch_15_0
  | j + 1, hj => omega)
theorem zch_16_0 : zinsAll 16 0 (((zcode 16).drop 0).take 60) = true := by decide +kernel
theorem zPm_16 : zPm 16 := zPm_of 16 60 1 (by decide +kernel) (fun j hj => by
  match j, hj with
  | 0, _ => exact zch_16_0
  | j + 1, hj => omega)
theorem zch_17_0 : zinsAll 17 0 (((zcode 17).drop 0).take 60) = true := by decide +kernel
theorem zch_17_60 : zinsAll 17 60 (((zcode 17).drop 60).take 60) = true := by decide +kernel
theorem zPm_17 : zPm 17 := zPm_of 17 60 2 (by decide +kernel) (fun j hj => by
  match j, hj with
  | 0, _ => exact zch_17_0
  | 1, _ => exact zch_17_60
  | j + 2, hj => omega)
theorem zch_18_0 : zinsAll 18 0 (((zcode 18).drop 0).take 60) = true := by decide +kernel
theorem zch_18_60 : zinsAll 18 60 (((zcode 18).drop 60).take 60) = true := by decide +kernel
theorem zPm_18 : zPm 18 := zPm_of 18 60 2 (by decide +kernel) (fun j hj => by
  match j, hj with
  | 0, _ => exact zch_18_0
  | 1, _ => exact zch_18_60
  | j + 2, hj => omega)
theorem zch_19_0 : zinsAll 19 0 (((zcode 19).drop 0).take 60) = true := by decide +kernel
theorem zPm_19 : zPm 19 := zPm_of 19 60 1 (by decide +kernel) (fun j hj => by
  match j, hj with
  | 0, _ => exact zch_19_0
  | j + 1, hj => omega)
theorem zch_20_0 : zinsAll 20 0 (((zcode 20).drop 0).take 60) = true := by decide +kernel
theorem zPm_20 : zPm 20 := zPm_of 20 60 1 (by decide +kernel) (fun j hj => by
  match j, hj with
  | 0, _ => exact zch_20_0
  | j + 1, hj => omega)
theorem zch_21_0 : zinsAll 21 0 (((zcode 21).drop 0).take 60) = true := by decide +kernel
theorem zPm_21 : zPm 21 := zPm_of 21 60 1 (by decide +kernel) (fun j hj => by
  match j, hj with
  | 0, _ => exact zch_21_0
  | j + 1, hj => omega)
theorem zch_22_0 : zinsAll 22 0 (((zcode 22).drop 0).take 60) = true := by decide +kernel
theorem zch_22_60 : zinsAll 22 60 (((zcode 22).drop 60).take 60) = true := by decide +kernel
theorem zPm_22 : zPm 22 := zPm_of 22 60 2 (by decide +kernel) (fun j hj => by
  match j, hj with
  | 0, _ => exact zch_22_0
  | 1, _ => exact zch_22_60
  | j + 2, hj => omega)
theorem zch_23_0 : zinsAll 23 0 (((zcode 23).drop 0).take 60) = true := by decide +kernel
theorem zPm_23 : zPm 23 := zPm_of 23 60 1 (by decide +kernel) (fun j hj => by
  match j, hj with
  | 0, _ => exact zch_23_0
  | j + 1, hj => omega)
theorem zch_24_0 : zinsAll 24 0 (((zcode 24).drop 0).take 60) = true := by decide +kernel
theorem zch_24_60 : zinsAll 24 60 (((zcode 24).drop 60).take 60) = true := by decide +kernel
theorem zPm_24 : zPm 24 := zPm_of 24 60 2 (by decide +kernel) (fun j hj => by
  match j, hj with
  | 0, _ => exact zch_24_0
  | 1, _ => exact zch_24_60
  | j + 2, hj => omega)
theorem zch_25_0 : zinsAll 25 0 (((zcode 25).drop 0).take 60) = true := by decide +kernel
theorem zPm_25 : zPm 25 := zPm_of 25 60 1 (by decide +kernel) (fun j hj => by
  match j, hj with
  | 0, _ => exact zch_25_0
  | j + 1, hj => omega)
theorem zch_26_0 : zinsAll 26 0 (((zcode 26).drop 0).take 60) = true := by decide +kernel
theorem zPm_26 : zPm 26 := zPm_of 26 60 1 (by decide +kernel) (fun j hj => by
  match j, hj with
  | 0, _ => exact zch_26_0
  | j + 1, hj => omega)
theorem zch_27_0 : zinsAll 27 0 (((zcode 27).drop 0).take 60) = true := by decide +kernel
theorem zPm_27 : zPm 27 := zPm_of 27 60 1 (by decide +kernel) (fun j hj => by
  match j, hj with
  | 0, _ => exact zch_27_0
  | j + 1, hj => omega)
theorem zch_28_0 : zinsAll 28 0 (((zcode 28).drop 0).take 60) = true := by decide +kernel
theorem zPm_28 : zPm 28 := zPm_of 28 60 1 (by decide +kernel) (fun j hj => by
  match j, hj with
  | 0, _ => exact zch_28_0
  | j + 1, hj => omega)
theorem zch_29_0 : zinsAll 29 0 (((zcode 29).drop 0).take 60) = true := by decide +kernel
theorem zch_29_60 : zinsAll 29 60 (((zcode 29).drop 60).take 60) = true := by decide +kernel
theorem zPm_29 : zPm 29 := zPm_of 29 60 2 (by decide +kernel) (fun j hj => by
  match j, hj with
  | 0, _ => exact zch_29_0
  | 1, _ => exact zch_29_60
  | j + 2, hj => omega)
theorem zch_30_0 : zinsAll 30 0 (((zcode 30).drop 0).take 60) = true := by decide +kernel
theorem zch_30_60 : zinsAll 30 60 (((zcode 30).drop 60).take 60) = true := by decide +kernel
theorem zPm_30 : zPm 30 := zPm_of 30 60 2 (by decide +kernel) (fun j hj => by
  match j, hj with
  | 0, _ => exact zch_30_0
  | 1, _ => exact zch_30_60
  | j + 2, hj => omega)
theorem zch_31_0 : zinsAll 31 0 (((zcode 31).drop 0).take 60) = true := by decide +kernel
theorem zPm_31 : zPm 31 := zPm_of 31 60 1 (by decide +kernel) (fun j hj => by
  match j, hj with
  | 0, _ => exact zch_31_0
  | j + 1, hj => omega)
theorem zch_32_0 : zinsAll 32 0 (((zcode 32).drop 0).take 60) = true := by decide +kernel
theorem zch_32_60 : zinsAll 32 60 (((zcode 32).drop 60).take 60) = true := by decide +kernel
theorem zPm_32 : zPm 32 := zPm_of 32 60 2 (by decide +kernel) (fun j hj => by
  match j, hj with
  | 0, _ => exact zch_32_0
  | 1, _ => exact zch_32_60
  | j + 2, hj => omega)
theorem zch_33_0 : zinsAll 33 0 (((zcode 33).drop 0).take 60) = true := by decide +kernel
theorem zch_33_60 : zinsAll 33 60 (((zcode 33).drop 60).take 60) = true := by decide +kernel
theorem zPm_33 : zPm 33 := zPm_of 33 60 2 (by decide +kernel) (fun j hj => by
  match j, hj with
  | 0, _ => exact zch_33_0
  | 1, _ => exact zch_33_60
  | j + 2, hj => omega)
theorem zch_34_0 : zinsAll 34 0 (((zcode 34).drop 0).take 60) = true := by decide +kernel
theorem zch_34_60 : zinsAll 34 60 (((zcode 34).drop 60).take 60) = true := by decide +kernel
theorem zPm_34 : zPm 34 := zPm_of 34 60 2 (by decide +kernel) (fun j hj => by
  match j, hj with
  | 0, _ => exact zch_34_0
  | 1, _ => exact zch_34_60
  | j + 2, hj => omega)
theorem zch_35_0 : zinsAll 35 0 (((zcode 35).drop 0).take 60) = true := by decide +kernel
theorem zch_35_60 : zinsAll 35 60 (((zcode 35).drop 60).take 60) = true := by decide +kernel
theorem zPm_35 : zPm 35 := zPm_of 35 60 2 (by decide +kernel) (fun j hj => by
  match j, hj with
  | 0, _ => exact zch_35_0
  | 1, _ => exact zch_35_60
  | j + 2, hj => omega)
theorem zch_36_0 : zinsAll 36 0 (((zcode 36).drop 0).take 60) = true := by decide +kernel
theorem zch_36_60 : zinsAll 36 60 (((zcode 36).drop 60).take 60) = true := by decide +kernel
theorem zPm_36 : zPm 36 := zPm_of 36 60 2 (by decide +kernel) (fun j hj => by
  match j, hj with
  | 0, _ => exact zch_36_0
  | 1, _ => exact zch_36_60
  | j + 2, hj => omega)
theorem zch_37_0 : zinsAll 37 0 (((zcode 37).drop 0).take 60) = true := by decide +kernel
theorem zPm_37 : zPm 37 := zPm_of 37 60 1 (by decide +kernel) (fun j hj => by
  match j, hj with
  | 0, _ => exact zch_37_0
  | j + 1, hj => omega)
theorem zch_38_0 : zinsAll 38 0 (((zcode 38).drop 0).take 60) = true := by decide +kernel
theorem zPm_38 : zPm 38 := zPm_of 38 60 1 (by decide +kernel) (fun j hj => by
  match j, hj with
  | 0, _ => exact zch_38_0
  | j + 1, hj => omega)
theorem zch_39_0 : zinsAll 39 0 (((zcode 39).drop 0).take 60) = true := by decide +kernel
theorem zPm_39 : zPm 39 := zPm_of 39 60 1 (by decide +kernel) (fun j hj => by
  match j, hj with
  | 0, _ => exact zch_39_0
  | j + 1, hj => omega)
theorem zch_40_0 : zinsAll 40 0 (((zcode 40).drop 0).take 60) = true := by decide +kernel
theorem zPm_40 : zPm 40 := zPm_of 40 60 1 (by decide +kernel) (fun j hj => by
  match j, hj with
  | 0, _ => exact zch_40_0
  | j + 1, hj => omega)
theorem zch_41_0 : zinsAll 41 0 (((zcode 41).drop 0).take 60) = true := by decide +kernel
theorem zPm_41 : zPm 41 := zPm_of 41 60 1 (by decide +kernel) (fun j hj => by
  match j, hj with
  | 0, _ => exact zch_41_0
  | j + 1, hj => omega)
theorem zch_42_0 : zinsAll 42 0 (((zcode 42).drop 0).take 60) = true := by decide +kernel
theorem zch_42_60 : zinsAll 42 60 (((zcode 42).drop 60).take 60) = true := by decide +kernel
theorem zPm_42 : zPm 42 := zPm_of 42 60 2 (by decide +kernel) (fun j hj => by
  match j, hj with
  | 0, _ => exact zch_42_0
  | 1, _ => exact zch_42_60
  | j + 2, hj => omega)
theorem zch_43_0 : zinsAll 43 0 (((zcode 43).drop 0).take 60) = true := by decide +kernel
theorem zPm_43 : zPm 43 := zPm_of 43 60 1 (by decide +kernel) (fun j hj => by
  match j, hj with
  | 0, _ => exact zch_43_0
  | j + 1, hj => omega)
theorem zch_44_0 : zinsAll 44 0 (((zcode 44).drop 0).take 60) = true := by decide +kernel
theorem zPm_44 : zPm 44 := zPm_of 44 60 1 (by decide +kernel) (fun j hj => by
  match j, hj with
  | 0, _ => exact zch_44_0
  | j + 1, hj => omega)
theorem zch_45_0 : zinsAll 45 0 (((zcode 45).drop 0).take 60) = true := by decide +kernel
theorem zPm_45 : zPm 45 := zPm_of 45 60 1 (by decide +kernel) (fun j hj => by
  match j, hj with
  | 0, _ => exact zch_45_0
  | j + 1, hj => omega)
theorem zch_46_0 : zinsAll 46 0 (((zcode 46).drop 0).take 60) = true := by decide +kernel
theorem zPm_46 : zPm 46 := zPm_of 46 60 1 (by decide +kernel) (fun j hj => by
  match j, hj with
  | 0, _ => exact zch_46_0
  | j + 1, hj => omega)
theorem zch_47_0 : zinsAll 47 0 (((zcode 47).drop 0).take 60) = true := by decide +kernel
theorem zPm_47 : zPm 47 := zPm_of 47 60 1 (by decide +kernel) (fun j hj => by
  match j, hj with
  | 0, _ => exact zch_47_0
  | j + 1, hj => omega)
theorem zch_48_0 : zinsAll 48 0 (((zcode 48).drop 0).take 60) = true := by decide +kernel
theorem zPm_48 : zPm 48 := zPm_of 48 60 1 (by decide +kernel) (fun j hj => by
  match j, hj with
  | 0, _ => exact zch_48_0
  | j + 1, hj => omega)
theorem zch_49_0 : zinsAll 49 0 (((zcode 49).drop 0).take 60) = true := by decide +kernel
theorem zch_49_60 : zinsAll 49 60 (((zcode 49).drop 60).take 60) = true := by decide +kernel
theorem zch_49_120 : zinsAll 49 120 (((zcode 49).drop 120).take 60) = true := by decide +kernel
theorem zch_49_180 : zinsAll 49 180 (((zcode 49).drop 180).take 60) = true := by decide +kernel
theorem zPm_49 : zPm 49 := zPm_of 49 60 4 (by decide +kernel) (fun j hj => by
  match j, hj with
  | 0, _ => exact zch_49_0
  | 1, _ => exact zch_49_60
  | 2, _ => exact zch_49_120
  | 3, _ => exact zch_49_180
  | j + 4, hj => omega)
theorem zch_50_0 : zinsAll 50 0 (((zcode 50).drop 0).take 60) = true := by decide +kernel
theorem zch_50_60 : zinsAll 50 60 (((zcode 50).drop 60).take 60) = true := by decide +kernel
theorem zch_50_120 : zinsAll 50 120 (((zcode 50).drop 120).take 60) = true := by decide +kernel
theorem zPm_50 : zPm 50 := zPm_of 50 60 3 (by decide +kernel) (fun j hj => by
  match j, hj with
  | 0, _ => exact zch_50_0
  | 1, _ => exact zch_50_60
  | 2, _ => exact zch_50_120
  | j + 3, hj => omega)
theorem zch_51_0 : zinsAll 51 0 (((zcode 51).drop 0).take 60) = true := by decide +kernel
theorem zPm_51 : zPm 51 := zPm_of 51 60 1 (by decide +kernel) (fun j hj => by
  match j, hj with
  | 0, _ => exact zch_51_0
  | j + 1, hj => omega)
theorem zch_52_0 : zinsAll 52 0 (((zcode 52).drop 0).take 60) = true := by decide +kernel
theorem zPm_52 : zPm 52 := zPm_of 52 60 1 (by decide +kernel) (fun j hj => by
  match j, hj with
  | 0, _ => exact zch_52_0
  | j + 1, hj => omega)
theorem zch_53_0 : zinsAll 53 0 (((zcode 53).drop 0).take 60) = true := by decide +kernel
theorem zch_53_60 : zinsAll 53 60 (((zcode 53).drop 60).take 60) = true := by decide +kernel
theorem zPm_53 : zPm 53 := zPm_of 53 60 2 (by decide +kernel) (fun j hj => by
  match j, hj with
  | 0, _ => exact zch_53_0
  | 1, _ => exact zch_53_60
  | j + 2, hj => omega)
theorem zch_54_0 : zinsAll 54 0 (((zcode 54).drop 0).take 60) = true := by decide +kernel
theorem zPm_54 : zPm 54 := zPm_of 54 60 1 (by decide +kernel) (fun j hj => by
  match j, hj with
  | 0, _ => exact zch_54_0
  | j + 1, hj => omega)
theorem zch_55_0 : zinsAll 55 0 (((zcode 55).drop 0).take 60) = true := by decide +kernel
theorem zPm_55 : zPm 55 := zPm_of 55 60 1 (by decide +kernel) (fun j hj => by
  match j, hj with
  | 0, _ => exact zch_55_0
  | j + 1, hj => omega)
theorem zch_56_0 : zinsAll 56 0 (((zcode 56).drop 0).take 60) = true := by decide +kernel
theorem zPm_56 : zPm 56 := zPm_of 56 60 1 (by decide +kernel) (fun j hj => by
  match j, hj with
  | 0, _ => exact zch_56_0
  | j + 1, hj => omega)
theorem zch_57_0 : zinsAll 57 0 (((zcode 57).drop 0).take 60) = true := by decide +kernel
theorem zPm_57 : zPm 57 := zPm_of 57 60 1 (by decide +kernel) (fun j hj => by
  match j, hj with
  | 0, _ => exact zch_57_0
  | j + 1, hj => omega)
theorem zch_58_0 : zinsAll 58 0 (((zcode 58).drop 0).take 60) = true := by decide +kernel
theorem zch_58_60 : zinsAll 58 60 (((zcode 58).drop 60).take 60) = true := by decide +kernel
theorem zPm_58 : zPm 58 := zPm_of 58 60 2 (by decide +kernel) (fun j hj => by
  match j, hj with
  | 0, _ => exact zch_58_0
  | 1, _ => exact zch_58_60
  | j + 2, hj => omega)
theorem zch_59_0 : zinsAll 59 0 (((zcode 59).drop 0).take 60) = true := by decide +kernel
theorem zPm_59 : zPm 59 := zPm_of 59 60 1 (by decide +kernel) (fun j hj => by
  match j, hj with
  | 0, _ => exact zch_59_0
  | j + 1, hj => omega)
theorem zch_60_0 : zinsAll 60 0 (((zcode 60).drop 0).take 60) = true := by decide +kernel
theorem zPm_60 : zPm 60 := zPm_of 60 60 1 (by decide +kernel) (fun j hj => by
  match j, hj with
  | 0, _ => exact zch_60_0
  | j + 1, hj => omega)
theorem zch_61_0 : zinsAll 61 0 (((zcode 61).drop 0).take 60) = true := by decide +kernel
theorem zPm_61 : zPm 61 := zPm_of 61 60 1 (by decide +kernel) (fun j hj => by
  match j, hj with
  | 0, _ => exact zch_61_0
  | j + 1, hj => omega)
theorem zch_62_0 : zinsAll 62 0 (((zcode 62).drop 0).take 60) = true := by decide +kernel
theorem zPm_62 : zPm 62 := zPm_of 62 60 1 (by decide +kernel) (fun j hj => by
  match j, hj with
  | 0, _ => exact zch_62_0
  | j + 1, hj => omega)
theorem zch_63_0 : zinsAll 63 0 (((zcode 63).drop 0).take 60) = true := by decide +kernel
theorem zPm_63 : zPm 63 := zPm_of 63 60 1 (by decide +kernel) (fun j hj => by
  match j, hj with
  | 0, _ => exact zch_63_0
  | j + 1, hj => omega)
theorem zch_64_0 : zinsAll 64 0 (((zcode 64).drop 0).take 60) = true := by decide +kernel
theorem zPm_64 : zPm 64 := zPm_of 64 60 1 (by decide +kernel) (fun j hj => by
  match j, hj with
  | 0, _ => exact zch_64_0
  | j + 1, hj => omega)
theorem zch_65_0 : zinsAll 65 0 (((zcode 65).drop 0).take 60) = true := by decide +kernel
theorem zPm_65 : zPm 65 := zPm_of 65 60 1 (by decide +kernel) (fun j hj => by
  match j, hj with
  | 0, _ => exact zch_65_0
  | j + 1, hj => omega)
theorem zch_66_0 : zinsAll 66 0 (((zcode 66).drop 0).take 60) = true := by decide +kernel
theorem zPm_66 : zPm 66 := zPm_of 66 60 1 (by decide +kernel) (fun j hj => by
  match j, hj with
  | 0, _ => exact zch_66_0
  | j + 1, hj => omega)
theorem zch_67_0 : zinsAll 67 0 (((zcode 67).drop 0).take 60) = true := by decide +kernel
theorem zPm_67 : zPm 67 := zPm_of 67 60 1 (by decide +kernel) (fun j hj => by
  match j, hj with
  | 0, _ => exact zch_67_0
  | j + 1, hj => omega)
theorem zch_68_0 : zinsAll 68 0 (((zcode 68).drop 0).take 60) = true := by decide +kernel
theorem zch_68_60 : zinsAll 68 60 (((zcode 68).drop 60).take 60) = true := by decide +kernel
theorem zch_68_120 : zinsAll 68 120 (((zcode 68).drop 120).take 60) = true := by decide +kernel
theorem zch_68_180 : zinsAll 68 180 (((zcode 68).drop 180).take 60) = true := by decide +kernel
theorem zch_68_240 : zinsAll 68 240 (((zcode 68).drop 240).take 60) = true := by decide +kernel
theorem zPm_68 : zPm 68 := zPm_of 68 60 5 (by decide +kernel) (fun j hj => by
  match j, hj with
  | 0, _ => exact zch_68_0
  | 1, _ => exact zch_68_60
  | 2, _ => exact zch_68_120
  | 3, _ => exact zch_68_180
  | 4, _ => exact zch_68_240
  | j + 5, hj => omega)
theorem zch_69_0 : zinsAll 69 0 (((zcode 69).drop 0).take 60) = true := by decide +kernel
theorem zPm_69 : zPm 69 := zPm_of 69 60 1 (by decide +kernel) (fun j hj => by
  match j, hj with
  | 0, _ => exact zch_69_0
  | j + 1, hj => omega)
theorem zch_70_0 : zinsAll 70 0 (((zcode 70).drop 0).take 60) = true := by decide +kernel
theorem zPm_70 : zPm 70 := zPm_of 70 60 1 (by decide +kernel) (fun j hj => by
  match j, hj with
  | 0, _ => exact zch_70_0
  | j + 1, hj => omega)
theorem zch_71_0 : zinsAll 71 0 (((zcode 71).drop 0).take 60) = true := by decide +kernel
theorem zPm_71 : zPm 71 := zPm_of 71 60 1 (by decide +kernel) (fun j hj => by
  match j, hj with
  | 0, _ => exact zch_71_0
  | j + 1, hj => omega)
theorem zch_72_0 : zinsAll 72 0 (((zcode 72).drop 0).take 60) = true := by decide +kernel
theorem zch_72_60 : zinsAll 72 60 (((zcode 72).drop 60).take 60) = true := by decide +kernel
theorem zPm_72 : zPm 72 := zPm_of 72 60 2 (by decide +kernel) (fun j hj => by
  match j, hj with
  | 0, _ => exact zch_72_0
  | 1, _ => exact zch_72_60
  | j + 2, hj => omega)
theorem zch_73_0 : zinsAll 73 0 (((zcode 73).drop 0).take 60) = true := by decide +kernel
theorem zPm_73 : zPm 73 := zPm_of 73 60 1 (by decide +kernel) (fun j hj => by
  match j, hj with
  | 0, _ => exact zch_73_0
  | j + 1, hj => omega)
theorem zch_74_0 : zinsAll 74 0 (((zcode 74).drop 0).take 60) = true := by decide +kernel
theorem zPm_74 : zPm 74 := zPm_of 74 60 1 (by decide +kernel) (fun j hj => by
  match j, hj with
  | 0, _ => exact zch_74_0
  | j + 1, hj => omega)
theorem zch_75_0 : zinsAll 75 0 (((zcode 75).drop 0).take 60) = true := by decide +kernel
theorem zPm_75 : zPm 75 := zPm_of 75 60 1 (by decide +kernel) (fun j hj => by
  match j, hj with
  | 0, _ => exact zch_75_0
  | j + 1, hj => omega)
theorem zch_76_0 : zinsAll 76 0 (((zcode 76).drop 0).take 60) = true := by decide +kernel
theorem zPm_76 : zPm 76 := zPm_of 76 60 1 (by decide +kernel) (fun j hj => by
  match j, hj with
  | 0, _ => exact zch_76_0
  | j + 1, hj => omega)
theorem zch_77_0 : zinsAll 77 0 (((zcode 77).drop 0).take 60) = true := by decide +kernel
theorem zPm_77 : zPm 77 := zPm_of 77 60 1 (by decide +kernel) (fun j hj => by
  match j, hj with
  | 0, _ => exact zch_77_0
  | j + 1, hj => omega)
theorem zch_78_0 : zinsAll 78 0 (((zcode 78).drop 0).take 60) = true := by decide +kernel
theorem zPm_78 : zPm 78 := zPm_of 78 60 1 (by decide +kernel) (fun j hj => by
  match j, hj with
  | 0, _ => exact zch_78_0
  | j + 1, hj => omega)
theorem zch_79_0 : zinsAll 79 0 (((zcode 79).drop 0).take 60) = true := by decide +kernel
theorem zPm_79 : zPm 79 := zPm_of 79 60 1 (by decide +kernel) (fun j hj => by
  match j, hj with
  | 0, _ => exact zch_79_0
  | j + 1, hj => omega)
theorem zch_80_0 : zinsAll 80 0 (((zcode 80).drop 0).take 60) = true := by decide +kernel
theorem zPm_80 : zPm 80 := zPm_of 80 60 1 (by decide +kernel) (fun j hj => by
  match j, hj with
  | 0, _ => exact zch_80_0
  | j + 1, hj => omega)
theorem zch_81_0 : zinsAll 81 0 (((zcode 81).drop 0).take 60) = true := by decide +kernel
theorem zPm_81 : zPm 81 := zPm_of 81 60 1 (by decide +kernel) (fun j hj => by
  match j, hj with
  | 0, _ => exact zch_81_0
  | j + 1, hj => omega)
theorem zch_82_0 : zinsAll 82 0 (((zcode 82).drop 0).take 60) = true := by decide +kernel
theorem zPm_82 : zPm 82 := zPm_of 82 60 1 (by decide +kernel) (fun j hj => by
  match j, hj with
  | 0, _ => exact zch_82_0
  | j + 1, hj => omega)
theorem zch_83_0 : zinsAll 83 0 (((zcode 83).drop 0).take 60) = true := by decide +kernel
theorem zPm_83 : zPm 83 := zPm_of 83 60 1 (by decide +kernel) (fun j hj => by
  match j, hj with
  | 0, _ => exact zch_83_0
  | j + 1, hj => omega)
theorem zch_84_0 : zinsAll 84 0 (((zcode 84).drop 0).take 60) = true := by decide +kernel
theorem zPm_84 : zPm 84 := zPm_of 84 60 1 (by decide +kernel) (fun j hj => by
  match j, hj with
  | 0, _ => exact zch_84_0
  | j + 1, hj => omega)
theorem zch_85_0 : zinsAll 85 0 (((zcode 85).drop 0).take 60) = true := by decide +kernel
theorem zPm_85 : zPm 85 := zPm_of 85 60 1 (by decide +kernel) (fun j hj => by
  match j, hj with
  | 0, _ => exact zch_85_0
  | j + 1, hj => omega)
theorem zch_86_0 : zinsAll 86 0 (((zcode 86).drop 0).take 60) = true := by decide +kernel
theorem zPm_86 : zPm 86 := zPm_of 86 60 1 (by decide +kernel) (fun j hj => by
  match j, hj with
  | 0, _ => exact zch_86_0
  | j + 1, hj => omega)
theorem zch_87_0 : zinsAll 87 0 (((zcode 87).drop 0).take 60) = true := by decide +kernel
theorem zPm_87 : zPm 87 := zPm_of 87 60 1 (by decide +kernel) (fun j hj => by
  match j, hj with
  | 0, _ => exact zch_87_0
  | j + 1, hj => omega)
theorem zch_88_0 : zinsAll 88 0 (((zcode 88).drop 0).take 60) = true := by decide +kernel
theorem zPm_88 : zPm 88 := zPm_of 88 60 1 (by decide +kernel) (fun j hj => by
  match j, hj with
  | 0, _ => exact zch_88_0
  | j + 1, hj => omega)
theorem zch_89_0 : zinsAll 89 0 (((zcode 89).drop 0).take 60) = true := by decide +kernel
theorem zPm_89 : zPm 89 := zPm_of 89 60 1 (by decide +kernel) (fun j hj => by
  match j, hj with
  | 0, _ => exact zch_89_0
  | j + 1, hj => omega)
theorem zch_90_0 : zinsAll 90 0 (((zcode 90).drop 0).take 60) = true := by decide +kernel
theorem zPm_90 : zPm 90 := zPm_of 90 60 1 (by decide +kernel) (fun j hj => by
  match j, hj with
  | 0, _ => exact zch_90_0
  | j + 1, hj => omega)
theorem zch_91_0 : zinsAll 91 0 (((zcode 91).drop 0).take 60) = true := by decide +kernel
theorem zch_91_60 : zinsAll 91 60 (((zcode 91).drop 60).take 60) = true := by decide +kernel
theorem zPm_91 : zPm 91 := zPm_of 91 60 2 (by decide +kernel) (fun j hj => by
  match j, hj with
  | 0, _ => exact zch_91_0
  | 1, _ => exact zch_91_60
  | j + 2, hj => omega)
theorem zch_92_0 : zinsAll 92 0 (((zcode 92).drop 0).take 60) = true := by decide +kernel
theorem zch_92_60 : zinsAll 92 60 (((zcode 92).drop 60).take 60) = true := by decide +kernel
theorem zPm_92 : zPm 92 := zPm_of 92 60 2 (by decide +kernel) (fun j hj => by
  match j, hj with
  | 0, _ => exact zch_92_0
  | 1, _ => exact zch_92_60
  | j + 2, hj => omega)
theorem zch_93_0 : zinsAll 93 0 (((zcode 93).drop 0).take 60) = true := by decide +kernel
theorem zPm_93 : zPm 93 := zPm_of 93 60 1 (by decide +kernel) (fun j hj => by
  match j, hj with
  | 0, _ => exact zch_93_0
  | j + 1, hj => omega)
theorem zch_94_0 : zinsAll 94 0 (((zcode 94).drop 0).take 60) = true := by decide +kernel
theorem zch_94_60 : zinsAll 94 60 (((zcode 94).drop 60).take 60) = true := by decide +kernel
theorem zPm_94 : zPm 94 := zPm_of 94 60 2 (by decide +kernel) (fun j hj => by
  match j, hj with
  | 0, _ => exact zch_94_0
  | 1, _ => exact zch_94_60
  | j + 2, hj => omega)
theorem zch_95_0 : zinsAll 95 0 (((zcode 95).drop 0).take 60) = true := by decide +kernel
theorem zch_95_60 : zinsAll 95 60 (((zcode 95).drop 60).take 60) = true := by decide +kernel
theorem zPm_95 : zPm 95 := zPm_of 95 60 2 (by decide +kernel) (fun j hj => by
  match j, hj with
  | 0, _ => exact zch_95_0
  | 1, _ => exact zch_95_60
  | j + 2, hj => omega)
theorem zch_96_0 : zinsAll 96 0 (((zcode 96).drop 0).take 60) = true := by decide +kernel
theorem zch_96_60 : zinsAll 96 60 (((zcode 96).drop 60).take 60) = true := by decide +kernel
theorem zPm_96 : zPm 96 := zPm_of 96 60 2 (by decide +kernel) (fun j hj => by
  match j, hj with
  | 0, _ => exact zch_96_0
  | 1, _ => exact zch_96_60
  | j + 2, hj => omega)
theorem zch_97_0 : zinsAll 97 0 (((zcode 97).drop 0).take 60) = true := by decide +kernel
theorem zPm_97 : zPm 97 := zPm_of 97 60 1 (by decide +kernel) (fun j hj => by
  match j, hj with
  | 0, _ => exact zch_97_0
  | j + 1, hj => omega)
theorem zch_98_0 : zinsAll 98 0 (((zcode 98).drop 0).take 60) = true := by decide +kernel
theorem zPm_98 : zPm 98 := zPm_of 98 60 1 (by decide +kernel) (fun j hj => by
  match j, hj with
  | 0, _ => exact zch_98_0
  | j + 1, hj => omega)
theorem zch_99_0 : zinsAll 99 0 (((zcode 99).drop 0).take 60) = true := by decide +kernel
theorem zPm_99 : zPm 99 := zPm_of 99 60 1 (by decide +kernel) (fun j hj => by
  match j, hj with
  | 0, _ => exact zch_99_0
  | j + 1, hj => omega)
theorem zch_100_0 : zinsAll 100 0 (((zcode 100).drop 0).take 60) = true := by decide +kernel
theorem zch_100_60 : zinsAll 100 60 (((zcode 100).drop 60).take 60) = true := by decide +kernel
theorem zPm_100 : zPm 100 := zPm_of 100 60 2 (by decide +kernel) (fun j hj => by
  match j, hj with
  | 0, _ => exact zch_100_0
  | 1, _ => exact zch_100_60
  | j + 2, hj => omega)
theorem zch_101_0 : zinsAll 101 0 (((zcode 101).drop 0).take 60) = true := by decide +kernel
theorem zch_101_60 : zinsAll 101 60 (((zcode 101).drop 60).take 60) = true := by decide +kernel
theorem zch_101_120 : zinsAll 101 120 (((zcode 101).drop 120).take 60) = true := by decide +kernel
theorem zPm_101 : zPm 101 := zPm_of 101 60 3 (by decide +kernel) (fun j hj => by
  match j, hj with
  | 0, _ => exact zch_101_0
  | 1, _ => exact zch_101_60
  | 2, _ => exact zch_101_120
  | j + 3, hj => omega)
theorem zch_102_0 : zinsAll 102 0 (((zcode 102).drop 0).take 60) = true := by decide +kernel
theorem zch_102_60 : zinsAll 102 60 (((zcode 102).drop 60).take 60) = true := by decide +kernel
theorem zPm_102 : zPm 102 := zPm_of 102 60 2 (by decide +kernel) (fun j hj => by
  match j, hj with
  | 0, _ => exact zch_102_0
  | 1, _ => exact zch_102_60
  | j + 2, hj => omega)
theorem zch_103_0 : zinsAll 103 0 (((zcode 103).drop 0).take 60) = true := by decide +kernel
theorem zch_103_60 : zinsAll 103 60 (((zcode 103).drop 60).take 60) = true := by decide +kernel
theorem zch_103_120 : zinsAll 103 120 (((zcode 103).drop 120).take 60) = true := by decide +kernel
theorem zPm_103 : zPm 103 := zPm_of 103 60 3 (by decide +kernel) (fun j hj => by
  match j, hj with
  | 0, _ => exact zch_103_0
  | 1, _ => exact zch_103_60
  | 2, _ => exact zch_103_120
  | j + 3, hj => omega)
theorem zch_104_0 : zinsAll 104 0 (((zcode 104).drop 0).take 60) = true := by decide +kernel
theorem zPm_104 : zPm 104 := zPm_of 104 60 1 (by decide +kernel) (fun j hj => by
  match j, hj with
  | 0, _ => exact zch_104_0
  | j + 1, hj => omega)
theorem zch_105_0 : zinsAll 105 0 (((zcode 105).drop 0).take 60) = true := by decide +kernel
theorem zch_105_60 : zinsAll 105 60 (((zcode 105).drop 60).take 60) = true := by decide +kernel
theorem zPm_105 : zPm 105 := zPm_of 105 60 2 (by decide +kernel) (fun j hj => by
  match j, hj with
  | 0, _ => exact zch_105_0
  | 1, _ => exact zch_105_60
  | j + 2, hj => omega)
theorem zch_106_0 : zinsAll 106 0 (((zcode 106).drop 0).take 60) = true := by decide +kernel
theorem zPm_106 : zPm 106 := zPm_of 106 60 1 (by decide +kernel) (fun j hj => by
  match j, hj with
  | 0, _ => exact zch_106_0
  | j + 1, hj => omega)
theorem zch_107_0 : zinsAll 107 0 (((zcode 107).drop 0).take 60) = true := by decide +kernel
theorem zch_107_60 : zinsAll 107 60 (((zcode 107).drop 60).take 60) = true := by decide +kernel
theorem zPm_107 : zPm 107 := zPm_of 107 60 2 (by decide +kernel) (fun j hj => by
  match j, hj with
  | 0, _ => exact zch_107_0
  | 1, _ => exact zch_107_60
  | j + 2, hj => omega)
theorem zch_108_0 : zinsAll 108 0 (((zcode 108).drop 0).take 60) = true := by decide +kernel
theorem zch_108_60 : zinsAll 108 60 (((zcode 108).drop 60).take 60) = true := by decide +kernel
theorem zPm_108 : zPm 108 := zPm_of 108 60 2 (by decide +kernel) (fun j hj => by
  match j, hj with
  | 0, _ => exact zch_108_0
  | 1, _ => exact zch_108_60
  | j + 2, hj => omega)
theorem zch_109_0 : zinsAll 109 0 (((zcode 109).drop 0).take 60) = true := by decide +kernel
theorem zPm_109 : zPm 109 := zPm_of 109 60 1 (by decide +kernel) (fun j hj => by
  match j, hj with
  | 0, _ => exact zch_109_0
  | j + 1, hj => omega)
theorem zch_110_0 : zinsAll 110 0 (((zcode 110).drop 0).take 60) = true := by decide +kernel
theorem zPm_110 : zPm 110 := zPm_of 110 60 1 (by decide +kernel) (fun j hj => by
  match j, hj with
  | 0, _ => exact zch_110_0
  | j + 1, hj => omega)
theorem zch_111_0 : zinsAll 111 0 (((zcode 111).drop 0).take 60) = true := by decide +kernel
theorem zPm_111 : zPm 111 := zPm_of 111 60 1 (by decide +kernel) (fun j hj => by
  match j, hj with
  | 0, _ => exact zch_111_0
  | j + 1, hj => omega)
theorem zch_112_0 : zinsAll 112 0 (((zcode 112).drop 0).take 60) = true := by decide +kernel
theorem zPm_112 : zPm 112 := zPm_of 112 60 1 (by decide +kernel) (fun j hj => by
  match j, hj with
  | 0, _ => exact zch_112_0
  | j + 1, hj => omega)
theorem zch_113_0 : zinsAll 113 0 (((zcode 113).drop 0).take 60) = true := by decide +kernel
theorem zPm_113 : zPm 113 := zPm_of 113 60 1 (by decide +kernel) (fun j hj => by
  match j, hj with
  | 0, _ => exact zch_113_0
  | j + 1, hj => omega)
theorem zch_114_0 : zinsAll 114 0 (((zcode 114).drop 0).take 60) = true := by decide +kernel
theorem zPm_114 : zPm 114 := zPm_of 114 60 1 (by decide +kernel) (fun j hj => by
  match j, hj with
  | 0, _ => exact zch_114_0
  | j + 1, hj => omega)
theorem zch_115_0 : zinsAll 115 0 (((zcode 115).drop 0).take 60) = true := by decide +kernel
theorem zPm_115 : zPm 115 := zPm_of 115 60 1 (by decide +kernel) (fun j hj => by
  match j, hj with
  | 0, _ => exact zch_115_0
  | j + 1, hj => omega)
theorem zch_116_0 : zinsAll 116 0 (((zcode 116).drop 0).take 60) = true := by decide +kernel
theorem zPm_116 : zPm 116 := zPm_of 116 60 1 (by decide +kernel) (fun j hj => by
  match j, hj with
  | 0, _ => exact zch_116_0
  | j + 1, hj => omega)
theorem zch_117_0 : zinsAll 117 0 (((zcode 117).drop 0).take 60) = true := by decide +kernel
theorem zPm_117 : zPm 117 := zPm_of 117 60 1 (by decide +kernel) (fun j hj => by
  match j, hj with
  | 0, _ => exact zch_117_0
  | j + 1, hj => omega)
theorem zch_118_0 : zinsAll 118 0 (((zcode 118).drop 0).take 60) = true := by decide +kernel
theorem zPm_118 : zPm 118 := zPm_of 118 60 1 (by decide +kernel) (fun j hj => by
  match j, hj with
  | 0, _ => exact zch_118_0
  | j + 1, hj => omega)
theorem zch_119_0 : zinsAll 119 0 (((zcode 119).drop 0).take 60) = true := by decide +kernel
theorem zPm_119 : zPm 119 := zPm_of 119 60 1 (by decide +kernel) (fun j hj => by
  match j, hj with
  | 0, _ => exact zch_119_0
  | j + 1, hj => omega)
theorem zch_120_0 : zinsAll 120 0 (((zcode 120).drop 0).take 60) = true := by decide +kernel
theorem zPm_120 : zPm 120 := zPm_of 120 60 1 (by decide +kernel) (fun j hj => by
  match j, hj with
  | 0, _ => exact zch_120_0
  | j + 1, hj => omega)
theorem zch_121_0 : zinsAll 121 0 (((zcode 121).drop 0).take 60) = true := by decide +kernel
theorem zch_121_60 : zinsAll 121 60 (((zcode 121).drop 60).take 60) = true := by decide +kernel
theorem zPm_121 : zPm 121 := zPm_of 121 60 2 (by decide +kernel) (fun j hj => by
  match j, hj with
  | 0, _ => exact zch_121_0
  | 1, _ => exact zch_121_60
  | j + 2, hj => omega)
theorem zch_122_0 : zinsAll 122 0 (((zcode 122).drop 0).take 60) = true := by decide +kernel
theorem zPm_122 : zPm 122 := zPm_of 122 60 1 (by decide +kernel) (fun j hj => by
  match j, hj with
  | 0, _ => exact zch_122_0
  | j + 1, hj => omega)
theorem zch_123_0 : zinsAll 123 0 (((zcode 123).drop 0).take 60) = true := by decide +kernel
theorem zch_123_60 : zinsAll 123 60 (((zcode 123).drop 60).take 60) = true := by decide +kernel
theorem zPm_123 : zPm 123 := zPm_of 123 60 2 (by decide +kernel) (fun j hj => by
  match j, hj with
  | 0, _ => exact zch_123_0
  | 1, _ => exact zch_123_60
  | j + 2, hj => omega)
theorem zch_124_0 : zinsAll 124 0 (((zcode 124).drop 0).take 60) = true := by decide +kernel
theorem zch_124_60 : zinsAll 124 60 (((zcode 124).drop 60).take 60) = true := by decide +kernel
theorem zPm_124 : zPm 124 := zPm_of 124 60 2 (by decide +kernel) (fun j hj => by
  match j, hj with
  | 0, _ => exact zch_124_0
  | 1, _ => exact zch_124_60
  | j + 2, hj => omega)
theorem zch_125_0 : zinsAll 125 0 (((zcode 125).drop 0).take 60) = true := by decide +kernel
theorem zch_125_60 : zinsAll 125 60 (((zcode 125).drop 60).take 60) = true := by decide +kernel
theorem zch_125_120 : zinsAll 125 120 (((zcode 125).drop 120).take 60) = true := by decide +kernel
theorem zPm_125 : zPm 125 := zPm_of 125 60 3 (by decide +kernel) (fun j hj => by
  match j, hj with
  | 0, _ => exact zch_125_0
  | 1, _ => exact zch_125_60
  | 2, _ => exact zch_125_120
  | j + 3, hj => omega)
theorem zch_126_0 : zinsAll 126 0 (((zcode 126).drop 0).take 60) = true := by decide +kernel
theorem zPm_126 : zPm 126 := zPm_of 126 60 1 (by decide +kernel) (fun j hj => by
  match j, hj with
  | 0, _ => exact zch_126_0
  | j + 1, hj => omega)
theorem zch_127_0 : zinsAll 127 0 (((zcode 127).drop 0).take 60) = true := by decide +kernel
theorem zPm_127 : zPm 127 := zPm_of 127 60 1 (by decide +kernel) (fun j hj => by
  match j, hj with
  | 0, _ => exact zch_127_0
  | j + 1, hj => omega)
theorem zch_128_0 : zinsAll 128 0 (((zcode 128).drop 0).take 60) = true := by decide +kernel
theorem zPm_128 : zPm 128 := zPm_of 128 60 1 (by decide +kernel) (fun j hj => by
  match j, hj with
  | 0, _ => exact zch_128_0
  | j + 1, hj => omega)
theorem zch_129_0 : zinsAll 129 0 (((zcode 129).drop 0).take 60) = true := by decide +kernel
theorem zch_129_60 : zinsAll 129 60 (((zcode 129).drop 60).take 60) = true := by decide +kernel
theorem zch_129_120 : zinsAll 129 120 (((zcode 129).drop 120).take 60) = true := by decide +kernel
theorem zch_129_180 : zinsAll 129 180 (((zcode 129).drop 180).take 60) = true := by decide +kernel
theorem zch_129_240 : zinsAll 129 240 (((zcode 129).drop 240).take 60) = true := by decide +kernel
theorem zch_129_300 : zinsAll 129 300 (((zcode 129).drop 300).take 60) = true := by decide +kernel
theorem zPm_129 : zPm 129 := zPm_of 129 60 6 (by decide +kernel) (fun j hj => by
  match j, hj with
  | 0, _ => exact zch_129_0
  | 1, _ => exact zch_129_60
  | 2, _ => exact zch_129_120
  | 3, _ => exact zch_129_180
  | 4, _ => exact zch_129_240
  | 5, _ => exact zch_129_300
  | j + 6, hj => omega)
theorem zch_130_0 : zinsAll 130 0 (((zcode 130).drop 0).take 60) = true := by decide +kernel
theorem zch_130_60 : zinsAll 130 60 (((zcode 130).drop 60).take 60) = true := by decide +kernel
theorem zch_130_120 : zinsAll 130 120 (((zcode 130).drop 120).take 60) = true := by decide +kernel
theorem zch_130_180 : zinsAll 130 180 (((zcode 130).drop 180).take 60) = true := by decide +kernel
theorem zch_130_240 : zinsAll 130 240 (((zcode 130).drop 240).take 60) = true := by decide +kernel
theorem zPm_130 : zPm 130 := zPm_of 130 60 5 (by decide +kernel) (fun j hj => by
  match j, hj with
  | 0, _ => exact zch_130_0
  | 1, _ => exact zch_130_60
  | 2, _ => exact zch_130_120
  | 3, _ => exact zch_130_180
  | 4, _ => exact zch_130_240
  | j + 5, hj => omega)
theorem zch_131_0 : zinsAll 131 0 (((zcode 131).drop 0).take 60) = true := by decide +kernel
theorem zPm_131 : zPm 131 := zPm_of 131 60 1 (by decide +kernel) (fun j hj => by
  match j, hj with
  | 0, _ => exact zch_131_0
  | j + 1, hj => omega)
theorem zch_132_0 : zinsAll 132 0 (((zcode 132).drop 0).take 60) = true := by decide +kernel
theorem zch_132_60 : zinsAll 132 60 (((zcode 132).drop 60).take 60) = true := by decide +kernel
theorem zch_132_120 : zinsAll 132 120 (((zcode 132).drop 120).take 60) = true := by decide +kernel
theorem zch_132_180 : zinsAll 132 180 (((zcode 132).drop 180).take 60) = true := by decide +kernel
theorem zPm_132 : zPm 132 := zPm_of 132 60 4 (by decide +kernel) (fun j hj => by
  match j, hj with
  | 0, _ => exact zch_132_0
  | 1, _ => exact zch_132_60
  | 2, _ => exact zch_132_120
  | 3, _ => exact zch_132_180
  | j + 4, hj => omega)
theorem zch_133_0 : zinsAll 133 0 (((zcode 133).drop 0).take 60) = true := by decide +kernel
theorem zch_133_60 : zinsAll 133 60 (((zcode 133).drop 60).take 60) = true := by decide +kernel
theorem zch_133_120 : zinsAll 133 120 (((zcode 133).drop 120).take 60) = true := by decide +kernel
theorem zPm_133 : zPm 133 := zPm_of 133 60 3 (by decide +kernel) (fun j hj => by
  match j, hj with
  | 0, _ => exact zch_133_0
  | 1, _ => exact zch_133_60
  | 2, _ => exact zch_133_120
  | j + 3, hj => omega)
theorem zch_134_0 : zinsAll 134 0 (((zcode 134).drop 0).take 60) = true := by decide +kernel
theorem zPm_134 : zPm 134 := zPm_of 134 60 1 (by decide +kernel) (fun j hj => by
  match j, hj with
  | 0, _ => exact zch_134_0
  | j + 1, hj => omega)
theorem zch_135_0 : zinsAll 135 0 (((zcode 135).drop 0).take 60) = true := by decide +kernel
theorem zch_135_60 : zinsAll 135 60 (((zcode 135).drop 60).take 60) = true := by decide +kernel
theorem zch_135_120 : zinsAll 135 120 (((zcode 135).drop 120).take 60) = true := by decide +kernel
theorem zch_135_180 : zinsAll 135 180 (((zcode 135).drop 180).take 60) = true := by decide +kernel
theorem zch_135_240 : zinsAll 135 240 (((zcode 135).drop 240).take 60) = true := by decide +kernel
theorem zPm_135 : zPm 135 := zPm_of 135 60 5 (by decide +kernel) (fun j hj => by
  match j, hj with
  | 0, _ => exact zch_135_0
  | 1, _ => exact zch_135_60
  | 2, _ => exact zch_135_120
  | 3, _ => exact zch_135_180
  | 4, _ => exact zch_135_240
  | j + 5, hj => omega)
theorem zch_136_0 : zinsAll 136 0 (((zcode 136).drop 0).take 60) = true := by decide +kernel
theorem zch_136_60 : zinsAll 136 60 (((zcode 136).drop 60).take 60) = true := by decide +kernel
theorem zch_136_120 : zinsAll 136 120 (((zcode 136).drop 120).take 60) = true := by decide +kernel
theorem zch_136_180 : zinsAll 136 180 (((zcode 136).drop 180).take 60) = true := by decide +kernel
theorem zch_136_240 : zinsAll 136 240 (((zcode 136).drop 240).take 60) = true := by decide +kernel
theorem zch_136_300 : zinsAll 136 300 (((zcode 136).drop 300).take 60) = true := by decide +kernel
theorem zch_136_360 : zinsAll 136 360 (((zcode 136).drop 360).take 60) = true := by decide +kernel
theorem zch_136_420 : zinsAll 136 420 (((zcode 136).drop 420).take 60) = true := by decide +kernel
theorem zPm_136 : zPm 136 := zPm_of 136 60 8 (by decide +kernel) (fun j hj => by
  match j, hj with
  | 0, _ => exact zch_136_0
  | 1, _ => exact zch_136_60
  | 2, _ => exact zch_136_120
  | 3, _ => exact zch_136_180
  | 4, _ => exact zch_136_240
  | 5, _ => exact zch_136_300
  | 6, _ => exact zch_136_360
  | 7, _ => exact zch_136_420
  | j + 8, hj => omega)
theorem zch_137_0 : zinsAll 137 0 (((zcode 137).drop 0).take 60) = true := by decide +kernel
theorem zch_137_60 : zinsAll 137 60 (((zcode 137).drop 60).take 60) = true := by decide +kernel
theorem zch_137_120 : zinsAll 137 120 (((zcode 137).drop 120).take 60) = true := by decide +kernel
theorem zch_137_180 : zinsAll 137 180 (((zcode 137).drop 180).take 60) = true := by decide +kernel
theorem zch_137_240 : zinsAll 137 240 (((zcode 137).drop 240).take 60) = true := by decide +kernel
theorem zch_137_300 : zinsAll 137 300 (((zcode 137).drop 300).take 60) = true := by decide +kernel
theorem zch_137_360 : zinsAll 137 360 (((zcode 137).drop 360).take 60) = true := by decide +kernel
theorem zch_137_420 : zinsAll 137 420 (((zcode 137).drop 420).take 60) = true := by decide +kernel
theorem zch_137_480 : zinsAll 137 480 (((zcode 137).drop 480).take 60) = true := by decide +kernel
theorem zPm_137 : zPm 137 := zPm_of 137 60 9 (by decide +kernel) (fun j hj => by
  match j, hj with
  | 0, _ => exact zch_137_0
  | 1, _ => exact zch_137_60
  | 2, _ => exact zch_137_120
  | 3, _ => exact zch_137_180
  | 4, _ => exact zch_137_240
  | 5, _ => exact zch_137_300
  | 6, _ => exact zch_137_360
  | 7, _ => exact zch_137_420
  | 8, _ => exact zch_137_480
  | j + 9, hj => omega)
theorem zPl_16 : ∀ n, n < 16 → zPm n := (lt_s (lt_s (lt_s (lt_s (lt_s (lt_s (lt_s (lt_s (lt_s (lt_s (lt_s (lt_s (lt_s (lt_s (lt_s (lt_s lt_0 zPm_0) zPm_1) zPm_2) zPm_3) zPm_4) zPm_5) zPm_6) zPm_7) zPm_8) zPm_9) zPm_10) zPm_11) zPm_12) zPm_13) zPm_14) zPm_15)
theorem zPl_32 : ∀ n, n < 32 → zPm n := (lt_s (lt_s (lt_s (lt_s (lt_s (lt_s (lt_s (lt_s (lt_s (lt_s (lt_s (lt_s (lt_s (lt_s (lt_s (lt_s zPl_16 zPm_16) zPm_17) zPm_18) zPm_19) zPm_20) zPm_21) zPm_22) zPm_23) zPm_24) zPm_25) zPm_26) zPm_27) zPm_28) zPm_29) zPm_30) zPm_31)
theorem zPl_48 : ∀ n, n < 48 → zPm n := (lt_s (lt_s (lt_s (lt_s (lt_s (lt_s (lt_s (lt_s (lt_s (lt_s (lt_s (lt_s (lt_s (lt_s (lt_s (lt_s zPl_32 zPm_32) zPm_33) zPm_34) zPm_35) zPm_36) zPm_37) zPm_38) zPm_39) zPm_40) zPm_41) zPm_42) zPm_43) zPm_44) zPm_45) zPm_46) zPm_47)
theorem zPl_64 : ∀ n, n < 64 → zPm n := (lt_s (lt_s (lt_s (lt_s (lt_s (lt_s (lt_s (lt_s (lt_s (lt_s (lt_s (lt_s (lt_s (lt_s (lt_s (lt_s zPl_48 zPm_48) zPm_49) zPm_50) zPm_51) zPm_52) zPm_53) zPm_54) zPm_55) zPm_56) zPm_57) zPm_58) zPm_59) zPm_60) zPm_61) zPm_62) zPm_63)
theorem zPl_80 : ∀ n, n < 80 → zPm n := (lt_s (lt_s (lt_s (lt_s (lt_s (lt_s (lt_s (lt_s (lt_s (lt_s (lt_s (lt_s (lt_s (lt_s (lt_s (lt_s zPl_64 zPm_64) zPm_65) zPm_66) zPm_67) zPm_68) zPm_69) zPm_70) zPm_71) zPm_72) zPm_73) zPm_74) zPm_75) zPm_76) zPm_77) zPm_78) zPm_79)
theorem zPl_96 : ∀ n, n < 96 → zPm n := (lt_s (lt_s (lt_s (lt_s (lt_s (lt_s (lt_s (lt_s (lt_s (lt_s (lt_s (lt_s (lt_s (lt_s (lt_s (lt_s zPl_80 zPm_80) zPm_81) zPm_82) zPm_83) zPm_84) zPm_85) zPm_86) zPm_87) zPm_88) zPm_89) zPm_90) zPm_91) zPm_92) zPm_93) zPm_94) zPm_95)
theorem zPl_112 : ∀ n, n < 112 → zPm n := (lt_s (lt_s (lt_s (lt_s (lt_s (lt_s (lt_s (lt_s (lt_s (lt_s (lt_s (lt_s (lt_s (lt_s (lt_s (lt_s zPl_96 zPm_96) zPm_97) zPm_98) zPm_99) zPm_100) zPm_101) zPm_102) zPm_103) zPm_104) zPm_105) zPm_106) zPm_107) zPm_108) zPm_109) zPm_110) zPm_111)
theorem zPl_128 : ∀ n, n < 128 → zPm n := (lt_s (lt_s (lt_s (lt_s (lt_s (lt_s (lt_s (lt_s (lt_s (lt_s (lt_s (lt_s (lt_s (lt_s (lt_s (lt_s zPl_112 zPm_112) zPm_113) zPm_114) zPm_115) zPm_116) zPm_117) zPm_118) zPm_119) zPm_120) zPm_121) zPm_122) zPm_123) zPm_124) zPm_125) zPm_126) zPm_127)
theorem zPl_138 : ∀ n, n < 138 → zPm n := (lt_s (lt_s (lt_s (lt_s (lt_s (lt_s (lt_s (lt_s (lt_s (lt_s zPl_128 zPm_128) zPm_129) zPm_130) zPm_131) zPm_132) zPm_133) zPm_134) zPm_135) zPm_136) zPm_137)
theorem zmth2_all : (List.range 138).all zmth2 = true := by decide +kernel
