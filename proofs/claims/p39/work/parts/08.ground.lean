/-! THE GROUND: the tables' good words, what they say of the classes, what stays from call to call. -/
def zWS : List Cond := lw_tbl.filter goodWord
theorem zWS_of {w : Cond} (h : w ∈ lw_tbl) (g : goodWord w = true) : w ∈ zWS := List.mem_filter.mpr ⟨h, g⟩
theorem zWS_good (w0 : Cond) : GoodIn (w0 :: zWS) zWS := fun w hw => ⟨List.mem_cons_of_mem _ hw, good_of_word (List.mem_filter.mp hw).2⟩
theorem zwF_in {q : Nat × Nat × Nat} (h : q ∈ zLF) : zwF q ∈ zWS := zWS_of (zsub_in _ _ zF_all _ (List.mem_map.mpr ⟨q, h, rfl⟩)) rfl
theorem zwM_in {q : Nat × Nat × Nat} (h : q ∈ zLM) : zwM q ∈ zWS := zWS_of (zsub_in _ _ zM_all _ (List.mem_map.mpr ⟨q, h, rfl⟩)) rfl
theorem zwC_in {q : Nat × Nat × Nat} (h : q ∈ zLC) : zwC q ∈ zWS := zWS_of (zsub_in _ _ zC_all _ (List.mem_map.mpr ⟨q, h, rfl⟩)) rfl
theorem zwA_in {q : Nat × Nat × Nat} (h : q ∈ zLA) : zwC q ∈ zWS := zWS_of (zsub_in _ _ zA_all _ (List.mem_map.mpr ⟨q, h, rfl⟩)) rfl
theorem zwK_in {q : Nat × Nat × Nat} (h : q ∈ zLK) : zwK q ∈ zWS := zWS_of (zsub_in _ _ zK_all _ (List.mem_map.mpr ⟨q, h, rfl⟩)) (by
  unfold zwK
  split <;> rfl)
theorem zwI_in {n : Nat} (h : n ∈ zoI) : Cond.instanceMethod (zMI n).1 ∈ zWS := zWS_of (zsub_in _ _ zI_all _ (List.mem_map.mpr ⟨n, h, rfl⟩)) rfl
theorem zwS_in {n : Nat} (h : n ∈ zoS) : Cond.selects (zMI n).1.cls (zMI n).1 (zMI n).1 ∈ zWS := zWS_of (zsub_in _ _ zS_all _ (List.mem_map.mpr ⟨n, h, rfl⟩)) rfl
theorem zwT_in {n : Nat} (h : n ∈ zoT) : Cond.static (zMI n).1 ∈ zWS := zWS_of (zsub_in _ _ zT_all _ (List.mem_map.mpr ⟨n, h, rfl⟩)) rfl
theorem zwNa_in {n : Nat} (h : n ∈ zoN) : Cond.native (zMI n).1 ∈ zWS := zWS_of (zsub_in _ _ zNa_all _ (List.mem_map.mpr ⟨n, h, rfl⟩)) rfl
theorem zwIn_in {c : String} (h : c ∈ zoIn) : Cond.initialized c ∈ zWS := zWS_of (zsub_in _ _ zIn_all _ (List.mem_map.mpr ⟨c, h, rfl⟩)) rfl
theorem zwIs_in {q : String × Nat} (h : q ∈ zoIs) : Cond.instantiable q.1 q.2 ∈ zWS := zWS_of (zsub_in _ _ zIs_all _ (List.mem_map.mpr ⟨q, h, rfl⟩)) rfl
theorem zwc_in {n : Nat} (h : n < 137) : zwc n ∈ zWS := by
  refine zWS_of ?_ rfl
  have key : ∀ n, n < 137 → (n ∈ [91, 0, 78, 42, 70, 37, 66, 89] ∨ n ∈ [51, 52, 118, 65, 26, 90, 95, 55, 96, 44, 97, 74, 98, 29, 99, 105, 106, 100, 107, 61, 59, 58, 57, 56] ∨ n ∈ [76, 75, 32, 28, 50, 36, 49, 34, 35, 33, 101, 63, 64, 60, 104, 110, 54, 115, 119, 130, 125, 121, 117, 120, 92, 79, 80, 93, 122, 124, 123, 129, 128, 126, 127, 94, 1, 43, 2, 84, 81, 85, 82, 86, 83, 87, 88, 3, 11, 5, 6, 116, 12, 7, 48, 46] ∨ n ∈ [71, 13, 9, 14, 77, 72, 10, 15, 8, 73, 4, 16, 17, 47, 45, 38, 18, 41, 39, 19, 21, 40, 67, 20, 22, 27, 25, 68, 69, 23, 24, 131, 136, 135, 103, 108, 109, 53, 30, 31, 62, 102, 133, 114, 113, 112, 111, 132, 134]) := by decide +kernel
  have in1 : ∀ w ∈ tables_1, w ∈ lw_tbl := fun w hw => List.mem_append_right _ hw
  refine in1 _ ?_
  unfold tables_1
  simp only [List.mem_append]
  rcases key n h with q | q | q | q
  · exact Or.inl (zc_1 n q)
  · exact Or.inr (Or.inl (zc_2 n q))
  · exact Or.inr (Or.inr (Or.inl (zc_3 n q)))
  · exact Or.inr (Or.inr (Or.inr ((zc_4 n q))))
/-- a sort and a type -/
def zsrt : Nat → FieldType → Bool
  | 0, .int => true
  | 1, .long => true
  | 2, .object _ => true
  | 2, .array _ => true
  | 3, .boolean => true
  | _, _ => false
/-- what is known of a class of the world -/
def zCl (ci : Nat) (q : vw_C) : Prop := (∀ w ∈ u_ws q.1 q.2.1 q.2.2, w ∈ zWS) ∧ (∀ k, k < q.2.2 → ∃ ty, parseFieldDescriptor (q.2.1 k).2.2.1 = some ty ∧ zsrt (zft ci k) ty = true) ∧ (∀ a, a < q.2.2 → ∀ b, b < q.2.2 → a ≠ b → (q.2.1 a).2.1 ≠ (q.2.1 b).2.1) ∧ (∀ k, k < q.2.2 → (q.2.1 k).1 = q.1)
theorem zU_in {ws : List Cond} (h : zsub ws lw_tbl = true) (g : ws.all goodWord = true) : ∀ w ∈ ws, w ∈ zWS := fun w hw => zWS_of (zsub_in _ _ h w hw) (List.all_eq_true.mp g w hw)
theorem zck_sort {ci N : Nat} {T : u_T} (h : (List.range N).all (fun k => match parseFieldDescriptor (T k).2.2.1 with | some ty => zsrt (zft ci k) ty | none => false) = true) : ∀ k, k < N → ∃ ty, parseFieldDescriptor (T k).2.2.1 = some ty ∧ zsrt (zft ci k) ty = true := by
  intro k hk
  have h1 := List.all_eq_true.mp h k (List.mem_range.mpr hk)
  cases hp : parseFieldDescriptor (T k).2.2.1 with
  | none => rw [hp] at h1; cases h1
  | some ty => rw [hp] at h1; exact ⟨ty, rfl, h1⟩
theorem zCl_0 : zCl 0 (RX0, TX0, 20) := ⟨zU_in zU_0 (by decide +kernel), zck_sort (by decide +kernel), nmX0, by decide +kernel⟩
theorem zCl_1 : zCl 1 (RX1, TX1, 1) := ⟨zU_in zU_1 (by decide +kernel), zck_sort (by decide +kernel), nmX1, by decide +kernel⟩
theorem zCl_2 : zCl 2 (RX3, TX3, 4) := ⟨zU_in zU_2 (by decide +kernel), zck_sort (by decide +kernel), nmX3, by decide +kernel⟩
theorem zCl_3 : zCl 3 (RX4, TX4, 4) := ⟨zU_in zU_3 (by decide +kernel), zck_sort (by decide +kernel), nmX4, by decide +kernel⟩
theorem zCl_4 : zCl 4 (RX6, TX6, 4) := ⟨zU_in zU_4 (by decide +kernel), zck_sort (by decide +kernel), nmX6, by decide +kernel⟩
theorem zCl_5 : zCl 5 (RX7, TX7, 8) := ⟨zU_in zU_5 (by decide +kernel), zck_sort (by decide +kernel), nmX7, by decide +kernel⟩
theorem zCl_6 : zCl 6 (RX8, TX8, 7) := ⟨zU_in zU_6 (by decide +kernel), zck_sort (by decide +kernel), nmX8, by decide +kernel⟩
theorem zCl_7 : zCl 7 (RX9, TX9, 2) := ⟨zU_in zU_7 (by decide +kernel), zck_sort (by decide +kernel), nmX9, by decide +kernel⟩
theorem zCl_8 : zCl 8 (RX10, TX10, 6) := ⟨zU_in zU_8 (by decide +kernel), zck_sort (by decide +kernel), nmX10, by decide +kernel⟩
theorem zCl_9 : zCl 9 (RX11, TX11, 14) := ⟨zU_in zU_9 (by decide +kernel), zck_sort (by decide +kernel), nmX11, by decide +kernel⟩
theorem zCl_all : ∀ (ci : Nat) (q : vw_C), vwCl[ci]? = some q → zCl ci q := by
  intro ci q h
  match ci, h with
  | 0, h => cases h; exact zCl_0
  | 1, h => cases h; exact zCl_1
  | 2, h => cases h; exact zCl_2
  | 3, h => cases h; exact zCl_3
  | 4, h => cases h; exact zCl_4
  | 5, h => cases h; exact zCl_5
  | 6, h => cases h; exact zCl_6
  | 7, h => cases h; exact zCl_7
  | 8, h => cases h; exact zCl_8
  | 9, h => cases h; exact zCl_9
  | n + 10, h => simp [vwCl] at h
/-- the kinds of the layout: an object's class, how many places it has -/
theorem zLY_obj {o : Nat} (h : (zLY o).1 ≤ 10) : ∃ q, vwCl[(zLY o).1]? = some q ∧ q.2.2 = (zLY o).2 := by
  have key : ∀ o, o < 166 → (zLY o).1 ≤ 10 → (vwCl[(zLY o).1]?.map (fun q => q.2.2)) = some (zLY o).2 := by decide +kernel
  by_cases ho : o < 166
  · have h1 := key o ho h
    cases hq : vwCl[(zLY o).1]? with
    | none => rw [hq] at h1; cases h1
    | some q => rw [hq] at h1; exact ⟨q, rfl, Option.some.inj h1⟩
  · have h2 : zLY o = (13, 8) := by
      unfold zLY
      rw [List.getElem?_eq_none (by have : zLYl.length = 166 := by decide +kernel
                                    omega)]
      rfl
    rw [h2] at h
    exact absurd h (by decide)
/-- how many places all objects below n have -/
def zSl : Nat → Nat
  | 0 => 0
  | n + 1 => zSl n + (zLY n).2
theorem zSl_mono {a b : Nat} (h : a ≤ b) : zSl a ≤ zSl b := by
  induction h with
  | refl => exact Nat.le_refl _
  | step _ ih => exact Nat.le_trans ih (Nat.le_add_right _ _)
/-- WHAT STAYS: the classes and array classes, the links among nest mates, arrays of references, the string, the script -/
def zGs (D : va_G) (cy : Nat → ClassId) (U : State) : Prop :=
  va_K D vwCl (zty cy) U ∧ (∀ q ∈ zLN, va_Nw (zwN q) U) ∧ (va_AO "RecordBridge$Shape" U ∧ va_AO "RecordBridge$Passage" U ∧ va_AO "RecordBridge$Rule" U ∧ va_Nw (.arrayOver (.array .long)) U)
