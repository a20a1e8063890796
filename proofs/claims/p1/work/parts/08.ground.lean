/-! THE GROUND: the tables' good words, what they say of the classes, what stays from call to call. -/
def zWS : List Cond := lw_tbl.filter goodWord
theorem zWS_of {w : Cond} (h : w ∈ lw_tbl) (g : goodWord w = true) : w ∈ zWS := List.mem_filter.mpr ⟨h, g⟩
theorem zWS_good (w0 : Cond) : GoodIn (w0 :: zWS) zWS := fun w hw => ⟨List.mem_cons_of_mem _ hw, good_of_word (List.mem_filter.mp hw).2⟩
theorem zwF_in {q : Nat × Nat × Nat} (h : q ∈ zLF) : zwF q ∈ zWS := zWS_of (zsub_in _ _ zF_all _ (List.mem_map.mpr ⟨q, h, rfl⟩)) rfl
theorem zwM_in {q : Nat × Nat × Nat} (h : q ∈ zLM) : zwM q ∈ zWS := zWS_of (zsub_in _ _ zM_all _ (List.mem_map.mpr ⟨q, h, rfl⟩)) rfl
theorem zwC_in {q : Nat × Nat × Nat} (h : q ∈ zLC) : zwC q ∈ zWS := zWS_of (zsub_in _ _ zC_all _ (List.mem_map.mpr ⟨q, h, rfl⟩)) rfl
theorem zwA_in {q : Nat × Nat × Nat} (h : q ∈ zLA) : zwC q ∈ zWS := zWS_of (zsub_in _ _ zA_all _ (List.mem_map.mpr ⟨q, h, rfl⟩)) rfl
theorem zwK_in {q : Nat × Nat × Nat} (h : q ∈ zLK) : zwK q ∈ zWS := zWS_of (zsub_in _ _ zK_all _ (List.mem_map.mpr ⟨q, h, rfl⟩)) (by
  unfold zwK
  split <;> rfl)
theorem zwI_in {n : Nat} (h : n ∈ zoI) : Cond.instanceMethod (zMI n).1 ∈ zWS := zWS_of (zsub_in _ _ zI_all _ (List.mem_map.mpr ⟨n, h, rfl⟩)) rfl
theorem zwS_in {n : Nat} (h : n ∈ zoS) : Cond.selects (zMI n).1.cls (zMI n).1 (zMI n).1 ∈ zWS := zWS_of (zsub_in _ _ zS_all _ (List.mem_map.mpr ⟨n, h, rfl⟩)) rfl
theorem zwT_in {n : Nat} (h : n ∈ zoT) : Cond.static (zMI n).1 ∈ zWS := zWS_of (zsub_in _ _ zT_all _ (List.mem_map.mpr ⟨n, h, rfl⟩)) rfl
theorem zwNa_in {n : Nat} (h : n ∈ zoN) : Cond.native (zMI n).1 ∈ zWS := zWS_of (zsub_in _ _ zNa_all _ (List.mem_map.mpr ⟨n, h, rfl⟩)) rfl
theorem zwIn_in {c : String} (h : c ∈ zoIn) : Cond.initialized c ∈ zWS := zWS_of (zsub_in _ _ zIn_all _ (List.mem_map.mpr ⟨c, h, rfl⟩)) rfl
theorem zwIs_in {q : String × Nat} (h : q ∈ zoIs) : Cond.instantiable q.1 q.2 ∈ zWS := zWS_of (zsub_in _ _ zIs_all _ (List.mem_map.mpr ⟨q, h, rfl⟩)) rfl
theorem zwc_in {n : Nat} (h : n < 319) : zwc n ∈ zWS := by
  refine zWS_of ?_ rfl
  have key : ∀ n, n < 319 → (n ∈ [124, 0, 103, 55, 95, 45, 90] ∨ n ∈ [115, 64, 65, 317, 85, 26, 117, 125, 104, 105, 126, 127, 1, 56] ∨ n ∈ [2, 109, 106, 110, 107, 111, 108, 316, 112, 113, 3, 11, 5, 6, 315, 12, 7, 61, 57, 59, 96, 13, 9, 14, 102, 97, 10, 15, 8, 98, 99, 4, 16, 17, 60, 58, 46, 18, 50, 47, 19, 100, 21, 48, 91, 20, 22, 33, 25, 92, 93, 34, 35, 23, 24, 128, 129, 68, 130] ∨ n ∈ [131, 116, 132, 114, 133, 134, 49, 135, 136, 137, 145, 146, 138, 147, 81, 79, 78, 72, 71, 101, 39, 63, 44, 62, 42, 43, 41, 139, 83, 84, 80, 140, 66, 37, 38, 82, 141, 148, 149, 142, 143, 69, 144, 86, 150, 151, 70, 75, 73, 152, 76, 74, 153, 77, 154, 155] ∨ n ∈ [156, 157, 167, 27, 318, 28, 29, 30, 31, 40, 32, 313, 87, 158, 159, 160, 51, 161, 52, 53, 36, 54, 94, 162, 119, 122, 121, 118, 163, 120, 123, 164, 165, 88, 89, 166, 168, 67, 314, 169, 170, 171] ∨ n ∈ [177, 175, 178, 176, 179, 172, 180, 212, 184, 181, 211, 192, 189, 185, 182, 190, 191, 202, 194, 199, 195, 201, 200, 196, 188, 183, 186, 210, 203, 193, 197, 207, 204, 198, 206, 208, 209, 205, 187, 226, 242, 213, 224, 214, 243, 215, 244, 245, 216, 217] ∨ n ∈ [248, 218, 219, 220, 221, 246, 222, 247, 251, 249, 250, 232, 174, 252, 255, 253, 254, 258, 257, 256, 223, 235, 234, 230, 228, 312, 311, 229, 310, 309, 233, 259, 239, 260, 307, 231, 227, 262, 261, 263, 266, 225, 265, 264, 267, 270, 271, 268, 272, 269, 273, 274, 276, 275, 286, 277, 284] ∨ n ∈ [280, 173, 279, 278, 241, 240, 236, 238, 237, 281, 282, 283, 287, 289, 288, 292, 290, 285, 291, 296, 295, 294, 293, 299, 298, 297, 301, 300, 302, 305, 304, 303, 306, 308]) := by decide +kernel
  have in1 : ∀ w ∈ tables_1, w ∈ lw_tbl := fun w hw => List.mem_append_right _ hw
  refine in1 _ ?_
  unfold tables_1
  simp only [List.mem_append]
  rcases key n h with q | q | q | q | q | q | q | q
  · exact Or.inl (zc_1 n q)
  · exact Or.inr (Or.inl (zc_2 n q))
  · exact Or.inr (Or.inr (Or.inl (zc_3 n q)))
  · exact Or.inr (Or.inr (Or.inr (Or.inl (zc_4 n q))))
  · exact Or.inr (Or.inr (Or.inr (Or.inr (Or.inl (zc_5 n q)))))
  · exact Or.inr (Or.inr (Or.inr (Or.inr (Or.inr (Or.inl (zc_6 n q))))))
  · exact Or.inr (Or.inr (Or.inr (Or.inr (Or.inr (Or.inr (Or.inl (zc_7 n q)))))))
  · exact Or.inr (Or.inr (Or.inr (Or.inr (Or.inr (Or.inr (Or.inr (zc_8 n q)))))))
/-- a sort and a type -/
def zsrt : Nat → FieldType → Bool
  | 0, .int => true
  | 1, .long => true
  | 2, .object _ => true
  | 2, .array _ => true
  | 3, .boolean => true
  | _, _ => false
/-- what is known of a class of the world -/
def zCl (ci : Nat) (q : vw_C) : Prop := (∀ w ∈ u_ws q.1 q.2.1 q.2.2, w ∈ zWS) ∧ (∀ k, k < q.2.2 → ∃ ty, parseFieldDescriptor (q.2.1 k).2.2.1 = some ty ∧ zsrt (zft ci k) ty = true) ∧ (∀ a, a < q.2.2 → ∀ b, b < q.2.2 → a ≠ b → (q.2.1 a).2.1 ≠ (q.2.1 b).2.1) ∧ (∀ k, k < q.2.2 → (q.2.1 k).1 = q.1)
theorem zU_in {ws : List Cond} (h : zsub ws lw_tbl = true) (g : ws.all goodWord = true) : ∀ w ∈ ws, w ∈ zWS := fun w hw => zWS_of (zsub_in _ _ h w hw) (List.all_eq_true.mp g w hw)
theorem zck_sort {ci N : Nat} {T : u_T} (h : (List.range N).all (fun k => match parseFieldDescriptor (T k).2.2.1 with | some ty => zsrt (zft ci k) ty | none => false) = true) : ∀ k, k < N → ∃ ty, parseFieldDescriptor (T k).2.2.1 = some ty ∧ zsrt (zft ci k) ty = true := by
  intro k hk
  have h1 := List.all_eq_true.mp h k (List.mem_range.mpr hk)
  cases hp : parseFieldDescriptor (T k).2.2.1 with
  | none => rw [hp] at h1; cases h1
  | some ty => rw [hp] at h1; exact ⟨ty, rfl, h1⟩
theorem zCl_0 : zCl 0 (RX0, TX0, 20) := ⟨zU_in zU_0 (by decide +kernel), zck_sort (by decide +kernel), nmX0, by decide +kernel⟩
theorem zCl_1 : zCl 1 (RX1, TX1, 1) := ⟨zU_in zU_1 (by decide +kernel), zck_sort (by decide +kernel), nmX1, by decide +kernel⟩
theorem zCl_2 : zCl 2 (RX3, TX3, 4) := ⟨zU_in zU_2 (by decide +kernel), zck_sort (by decide +kernel), nmX3, by decide +kernel⟩
theorem zCl_3 : zCl 3 (RX4, TX4, 4) := ⟨zU_in zU_3 (by decide +kernel), zck_sort (by decide +kernel), nmX4, by decide +kernel⟩
theorem zCl_4 : zCl 4 (RX6, TX6, 4) := ⟨zU_in zU_4 (by decide +kernel), zck_sort (by decide +kernel), nmX6, by decide +kernel⟩
theorem zCl_5 : zCl 5 (RX7, TX7, 8) := ⟨zU_in zU_5 (by decide +kernel), zck_sort (by decide +kernel), nmX7, by decide +kernel⟩
theorem zCl_6 : zCl 6 (RX8, TX8, 7) := ⟨zU_in zU_6 (by decide +kernel), zck_sort (by decide +kernel), nmX8, by decide +kernel⟩
theorem zCl_7 : zCl 7 (RX9, TX9, 2) := ⟨zU_in zU_7 (by decide +kernel), zck_sort (by decide +kernel), nmX9, by decide +kernel⟩
theorem zCl_8 : zCl 8 (RX10, TX10, 6) := ⟨zU_in zU_8 (by decide +kernel), zck_sort (by decide +kernel), nmX10, by decide +kernel⟩
theorem zCl_9 : zCl 9 (RX11, TX11, 14) := ⟨zU_in zU_9 (by decide +kernel), zck_sort (by decide +kernel), nmX11, by decide +kernel⟩
theorem zCl_10 : zCl 10 (RX12, TX12, 32) := ⟨zU_in zU_10 (by decide +kernel), zck_sort (by decide +kernel), nmX12, by decide +kernel⟩
theorem zCl_all : ∀ (ci : Nat) (q : vw_C), vwCl[ci]? = some q → zCl ci q := by
  intro ci q h
  match ci, h with
  | 0, h => cases h; exact zCl_0
  | 1, h => cases h; exact zCl_1
  | 2, h => cases h; exact zCl_2
  | 3, h => cases h; exact zCl_3
  | 4, h => cases h; exact zCl_4
  | 5, h => cases h; exact zCl_5
  | 6, h => cases h; exact zCl_6
  | 7, h => cases h; exact zCl_7
  | 8, h => cases h; exact zCl_8
  | 9, h => cases h; exact zCl_9
  | 10, h => cases h; exact zCl_10
  | n + 11, h => simp [vwCl] at h
/-- the kinds of the layout: an object's class, how many places it has -/
theorem zLY_obj {o : Nat} (h : (zLY o).1 ≤ 10) : ∃ q, vwCl[(zLY o).1]? = some q ∧ q.2.2 = (zLY o).2 := by
  have key : ∀ o, o < 181 → (zLY o).1 ≤ 10 → (vwCl[(zLY o).1]?.map (fun q => q.2.2)) = some (zLY o).2 := by decide +kernel
  by_cases ho : o < 181
  · have h1 := key o ho h
    cases hq : vwCl[(zLY o).1]? with
    | none => rw [hq] at h1; cases h1
    | some q => rw [hq] at h1; exact ⟨q, rfl, Option.some.inj h1⟩
  · have h2 : zLY o = (13, 8) := by
      unfold zLY
      rw [List.getElem?_eq_none (by have : zLYl.length = 181 := by decide +kernel
                                    omega)]
      rfl
    rw [h2] at h
    exact absurd h (by decide)
/-- how many places all objects below n have -/
def zSl : Nat → Nat
  | 0 => 0
  | n + 1 => zSl n + (zLY n).2
theorem zSl_mono {a b : Nat} (h : a ≤ b) : zSl a ≤ zSl b := by
  induction h with
  | refl => exact Nat.le_refl _
  | step _ ih => exact Nat.le_trans ih (Nat.le_add_right _ _)
/-- WHAT STAYS: the classes and array classes, the links among nest mates, arrays of references, the string, the script -/
def zGs (D : va_G) (cy : Nat → ClassId) (U : State) : Prop :=
  va_K D vwCl (zty cy) U ∧ (∀ q ∈ zLN, va_Nw (zwN q) U) ∧ (va_AO "RecordBridge$Shape" U ∧ va_AO "RecordBridge$Passage" U ∧ va_AO "RecordBridge$Rule" U ∧ va_Nw (.arrayOver (.array .long)) U)
