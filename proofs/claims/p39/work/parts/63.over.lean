/-! A RUN THAT NEVER LOOKS AT THE SCRIPT is the same over every script: so a run of the constructors can be computed once, over closed numbers. -/
def zov (L : Nat) (xs : Nat → Int32) (σ : zSt) : zSt := (fun o => if o = zSCR then xs else σ.1 o, σ.2.1, fun o => if o = zSCR then (fun k => if k = 0 then some L else none) else σ.2.2.1 o, σ.2.2.2)
def zst1 : zSt := (fun _ _ => 0, fun _ _ => 0, fun _ _ => none, 0)
/-- looks at the script, or may have left the numbers below it -/
def zscr (i : Instr) (st : List Value) (σ : zSt) : Bool := decide (1000000 < zN σ) || (match i, st with
  | .iaload, _ :: .ref a :: _ => a == zSCR
  | .arraylength, .ref a :: _ => a == zSCR
  | .multianewarray _ _, _ :: .int n :: _ => decide (1000000 < zN σ + n.toNatClampNeg + 1)
  | _, _ => false)
theorem zscr_n {i : Instr} {st : List Value} {σ : zSt} (h : zscr i st σ = false) : zN σ ≤ 1000000 := by
  unfold zscr at h
  rw [Bool.or_eq_false_iff] at h
  have := of_decide_eq_false h.1
  omega
section ZOV
variable {L : Nat} {xs : Nat → Int32} {σ : zSt}
theorem zN_ov : zN (zov L xs σ) = zN σ := rfl
theorem zI_ov {o : Nat} (h : o ≠ zSCR) : zI (zov L xs σ) o = zI σ o := if_neg h
theorem zL_ov {o : Nat} : zL (zov L xs σ) o = zL σ o := rfl
theorem zR_ov {o : Nat} (h : o ≠ zSCR) : zR (zov L xs σ) o = zR σ o := if_neg h
theorem zov_1 : zst0 L xs = zov L xs zst1 := by
  unfold zst0 zov zst1
  refine congr (congrArg Prod.mk ?_) (congr (congrArg Prod.mk ?_) (congr (congrArg Prod.mk ?_) rfl))
  · rfl
  · rfl
  · funext o k
    by_cases h : o = zSCR
    · by_cases h2 : k = 0
      · simp [h, h2]
      · simp [h, h2]
    · simp [h]
theorem zov_I {f : Nat → Int32} {o : Nat} (h : o ≠ zSCR) : zrI (zov L xs σ) o f = zov L xs (zrI σ o f) := by
  unfold zrI zov
  refine congr (congrArg Prod.mk ?_) rfl
  funext o'
  by_cases h1 : o' = o
  · subst h1; simp [va_up, h]
  · by_cases h2 : o' = zSCR
    · subst h2; simp [va_up, h1]
    · simp [va_up, h1, h2]
theorem zov_R {f : Nat → Option Nat} {o : Nat} (h : o ≠ zSCR) : zrR (zov L xs σ) o f = zov L xs (zrR σ o f) := by
  unfold zrR zov
  refine congr (congrArg Prod.mk rfl) (congr (congrArg Prod.mk rfl) (congr (congrArg Prod.mk ?_) rfl))
  funext o'
  by_cases h1 : o' = o
  · subst h1; simp [va_up, h]
  · by_cases h2 : o' = zSCR
    · subst h2; simp [va_up, h1]
    · simp [va_up, h1, h2]
theorem zov_L {f : Nat → Int64} {o : Nat} : zrL (zov L xs σ) o f = zov L xs (zrL σ o f) := rfl
theorem zov_wI {o k : Nat} {v : Int32} (h : o ≠ zSCR) : zwI (zov L xs σ) o k v = zov L xs (zwI σ o k v) := by
  have e1 : zwI (zov L xs σ) o k v = zrI (zov L xs σ) o (va_up (zI (zov L xs σ) o) k v) := rfl
  have e2 : zwI σ o k v = zrI σ o (va_up (zI σ o) k v) := rfl
  rw [e1, e2, zI_ov h, zov_I h]
theorem zov_wL {o k : Nat} {v : Int64} : zwL (zov L xs σ) o k v = zov L xs (zwL σ o k v) := rfl
theorem zov_wR {o k : Nat} {v : Option Nat} (h : o ≠ zSCR) : zwR (zov L xs σ) o k v = zov L xs (zwR σ o k v) := by
  have e1 : zwR (zov L xs σ) o k v = zrR (zov L xs σ) o (va_up (zR (zov L xs σ) o) k v) := rfl
  have e2 : zwR σ o k v = zrR σ o (va_up (zR σ o) k v) := rfl
  rw [e1, e2, zR_ov h, zov_R h]
theorem zov_new (h : zN σ ≠ zSCR) : znew (zov L xs σ) = zov L xs (znew σ) := by
  have h' : σ.2.2.2 ≠ zSCR := h
  unfold znew zov
  refine congr (congrArg Prod.mk ?_) (congr (congrArg Prod.mk rfl) (congr (congrArg Prod.mk ?_) rfl))
  · funext o'
    by_cases h1 : o' = σ.2.2.2
    · subst h1; simp [va_up, h']
    · by_cases h2 : o' = zSCR
      · subst h2; simp [va_up, h1]
      · simp [va_up, h1, h2]
  · funext o'
    by_cases h1 : o' = σ.2.2.2
    · subst h1; simp [va_up, h']
    · by_cases h2 : o' = zSCR
      · subst h2; simp [va_up, h1]
      · simp [va_up, h1, h2]
theorem zov_news : ∀ (k : Nat) (σ : zSt), zN σ + k ≤ 1000000 → znews k (zov L xs σ) = zov L xs (znews k σ)
  | 0, σ, _ => rfl
  | k + 1, σ, h => by
    show znews k (znew (zov L xs σ)) = zov L xs (znews k (znew σ))
    rw [zov_new (by unfold zSCR; omega)]
    exact zov_news k (znew σ) (by rw [zN_new]; omega)
theorem zget_ov {o k t : Nat} (h : o ≠ zSCR) : zget (zov L xs σ) o k t = zget σ o k t := by
  unfold zget
  rw [zI_ov h, zL_ov, zR_ov h]
theorem zov_none {α β : Type} {a : Option α} {b : Option β} {f : β → α} (h1 : a = none) (h2 : b = none) : a = b.map f := by rw [h1, h2]; rfl
theorem zov_some {α β : Type} {a : Option α} {b : Option β} {f : β → α} {x : α} {y : β} (h1 : a = some x) (h2 : b = some y) (h : x = f y) : a = b.map f := by rw [h1, h2, h]; rfl
theorem zmem_ov {i : Instr} {st : List Value} (h : zscr i st σ = false) : zmem i st (zov L xs σ) = (zmem i st σ).map (fun q => (q.1, zov L xs q.2)) := by
  have hn := zscr_n h
  have ne : ∀ {o : Nat}, o < zN σ → o ≠ zSCR := fun {o} ho => by unfold zSCR; omega
  cases i <;> try rfl
  case getfield x =>
    rcases st with _ | ⟨v, st⟩ <;> try rfl
    cases v <;> try rfl
    rename_i o
    by_cases hc : o < zN σ ∧ (zLY o).1 = x / 256
    · simp only [zmem, zN_ov, if_pos hc, zget_ov (ne hc.1), Option.map_some]
    · exact zov_none (if_neg hc) (if_neg hc)
  case putfield x =>
    rcases st with _ | ⟨v, _ | ⟨w, st⟩⟩ <;> try rfl
    cases w <;> try rfl
    rename_i o
    by_cases hc : o < zN σ ∧ (zLY o).1 = x / 256
    · cases v
      case int n =>
        by_cases h2 : x % 4 = 0 ∨ (x % 4 = 3 ∧ (n = 0 ∨ n = 1))
        · simp only [zmem, zN_ov, if_pos hc, if_pos h2, zov_wI (ne hc.1), Option.map_some]
        · exact zov_none ((if_pos hc).trans (if_neg h2)) ((if_pos hc).trans (if_neg h2))
      case long n =>
        by_cases h2 : x % 4 = 1
        · simp only [zmem, zN_ov, if_pos hc, if_pos h2, zov_wL, Option.map_some]
        · exact zov_none ((if_pos hc).trans (if_neg h2)) ((if_pos hc).trans (if_neg h2))
      case ref n =>
        by_cases h2 : x % 4 = 2
        · simp only [zmem, zN_ov, if_pos hc, if_pos h2, zov_wR (ne hc.1), Option.map_some]
        · exact zov_none ((if_pos hc).trans (if_neg h2)) ((if_pos hc).trans (if_neg h2))
      case null =>
        by_cases h2 : x % 4 = 2
        · simp only [zmem, zN_ov, if_pos hc, if_pos h2, zov_wR (ne hc.1), Option.map_some]
        · exact zov_none ((if_pos hc).trans (if_neg h2)) ((if_pos hc).trans (if_neg h2))
      all_goals exact zov_none (if_pos hc) (if_pos hc)
    · exact zov_none (if_neg hc) (if_neg hc)
  case iaload =>
    rcases st with _ | ⟨v, _ | ⟨w, st⟩⟩ <;> try rfl
    · cases v <;> rfl
    cases v <;> cases w <;> try rfl
    rename_i k a
    have hz : ¬ a = zSCR := by
      unfold zscr at h
      rw [Bool.or_eq_false_iff] at h
      simpa using h.2
    by_cases hc : a < zN σ ∧ (zLY a).1 = 12 ∧ zin k (zLY a).2
    · simp only [zmem, zN_ov, if_neg hz, if_pos hc, zI_ov hz, Option.map_some]
    · exact zov_none ((if_neg hz).trans (if_neg hc)) ((if_neg hz).trans (if_neg hc))
  case laload =>
    rcases st with _ | ⟨v, _ | ⟨w, st⟩⟩ <;> try rfl
    · cases v <;> rfl
    cases v <;> cases w <;> try rfl
    rename_i k a
    by_cases hc : a < zN σ ∧ (zLY a).1 = 13 ∧ zin k (zLY a).2
    · exact zov_some (if_pos hc) (if_pos hc) rfl
    · exact zov_none (if_neg hc) (if_neg hc)
  case aaload =>
    rcases st with _ | ⟨v, _ | ⟨w, st⟩⟩ <;> try rfl
    · cases v <;> rfl
    cases v <;> cases w <;> try rfl
    rename_i k a
    by_cases hc : a < zN σ ∧ (15 ≤ (zLY a).1 ∧ (zLY a).1 ≤ 18) ∧ zin k (zLY a).2
    · simp only [zmem, zN_ov, if_pos hc, zR_ov (ne hc.1), Option.map_some]
    · exact zov_none (if_neg hc) (if_neg hc)
  case iastore =>
    rcases st with _ | ⟨u, _ | ⟨v, _ | ⟨w, st⟩⟩⟩ <;> try rfl
    · cases u <;> rfl
    · cases u <;> cases v <;> rfl
    cases u <;> cases v <;> cases w <;> try rfl
    rename_i y k a
    by_cases hc : a < zN σ ∧ (zLY a).1 = 12 ∧ zin k (zLY a).2
    · simp only [zmem, zN_ov, if_pos hc, zov_wI (ne hc.1), Option.map_some]
    · exact zov_none (if_neg hc) (if_neg hc)
  case lastore =>
    rcases st with _ | ⟨u, _ | ⟨v, _ | ⟨w, st⟩⟩⟩ <;> try rfl
    · cases u <;> rfl
    · cases u <;> cases v <;> rfl
    cases u <;> cases v <;> cases w <;> try rfl
    rename_i y k a
    by_cases hc : a < zN σ ∧ (zLY a).1 = 13 ∧ zin k (zLY a).2
    · exact zov_some (if_pos hc) (if_pos hc) rfl
    · exact zov_none (if_neg hc) (if_neg hc)
  case aastore =>
    rcases st with _ | ⟨u, _ | ⟨v, _ | ⟨w, st⟩⟩⟩ <;> try rfl
    · cases u <;> rfl
    · cases u <;> cases v <;> rfl
    cases u <;> cases v <;> cases w <;> try rfl
    rename_i y k a
    by_cases hc : a < zN σ ∧ y < zN σ ∧ ((zLY a).1, (zLY y).1) ∈ [(15, 2), (16, 5), (17, 6)] ∧ zin k (zLY a).2
    · simp only [zmem, zN_ov, if_pos hc, zov_wR (ne hc.1), Option.map_some]
    · exact zov_none (if_neg hc) (if_neg hc)
  case arraylength =>
    rcases st with _ | ⟨v, st⟩ <;> try rfl
    cases v <;> try rfl
    rename_i a
    have hz : ¬ a = zSCR := by
      unfold zscr at h
      rw [Bool.or_eq_false_iff] at h
      simpa using h.2
    by_cases hc : a < zN σ ∧ 11 ≤ (zLY a).1 ∧ (zLY a).1 ≤ 18
    · exact zov_some ((if_neg hz).trans (if_pos hc)) ((if_neg hz).trans (if_pos hc)) rfl
    · exact zov_none ((if_neg hz).trans (if_neg hc)) ((if_neg hz).trans (if_neg hc))
theorem zmak_ov {i : Instr} {st : List Value} (h : zscr i st σ = false) : zmak i st (zov L xs σ) = (zmak i st σ).map (fun q => (q.1, zov L xs q.2)) := by
  have hn := zscr_n h
  have ne : zN σ ≠ zSCR := by unfold zSCR; omega
  cases i <;> try rfl
  case new c =>
    by_cases hc : (zLY (zN σ)).1 = c ∧ c ≤ 10
    · simp only [zmak, zN_ov, if_pos hc, zov_new ne, Option.map_some]
    · exact zov_none (if_neg hc) (if_neg hc)
  case newarray ty =>
    rcases st with _ | ⟨v, st⟩ <;> try rfl
    cases v <;> try rfl
    rename_i n
    by_cases hc : zaty ty ≤ 14 ∧ ¬ n < 0 ∧ zLY (zN σ) = (zaty ty, n.toNatClampNeg)
    · simp only [zmak, zN_ov, if_pos hc, zov_new ne, Option.map_some]
    · exact zov_none (if_neg hc) (if_neg hc)
  case anewarray c =>
    rcases st with _ | ⟨v, st⟩ <;> try rfl
    cases v <;> try rfl
    rename_i n
    by_cases hc : (c = 15 ∨ c = 16 ∨ c = 17) ∧ ¬ n < 0 ∧ zLY (zN σ) = (c, n.toNatClampNeg)
    · simp only [zmak, zN_ov, if_pos hc, zov_new ne, Option.map_some]
    · exact zov_none (if_neg hc) (if_neg hc)
  case multianewarray c d =>
    rcases st with _ | ⟨v, _ | ⟨w, st⟩⟩ <;> try rfl
    · cases v <;> rfl
    cases v <;> cases w <;> try rfl
    rename_i k n
    have hb : zN σ + (n.toNatClampNeg + 1) ≤ 1000000 := by
      unfold zscr at h
      rw [Bool.or_eq_false_iff] at h
      have := of_decide_eq_false h.2
      omega
    by_cases hc : c = 18 ∧ d = 2 ∧ ¬ k < 0 ∧ ¬ n < 0 ∧ zLY (zN σ) = (18, n.toNatClampNeg) ∧ (∀ j, j < n.toNatClampNeg → zLY (zN σ + 1 + j) = (13, k.toNatClampNeg))
    · simp only [zmak, zN_ov, if_pos hc, zov_news _ _ hb, zov_R ne, Option.map_some]
    · exact zov_none (if_neg hc) (if_neg hc)
theorem znat_ov {n : Nat} {a : List Value} (h : zN σ ≤ 1000000) : znat n a (zov L xs σ) = (znat n a σ).map (fun q => (zov L xs q.1, q.2)) := by
  have ne : ∀ {o : Nat}, o < zN σ → o ≠ zSCR := fun {o} ho => by unfold zSCR; omega
  unfold znat
  split
  · split
    · rename_i x i y j k
      by_cases hc : x < zN σ ∧ y < zN σ ∧ ¬ i < 0 ∧ ¬ j < 0 ∧ ¬ k < 0 ∧ i.toNatClampNeg + k.toNatClampNeg ≤ (zLY x).2 ∧ j.toNatClampNeg + k.toNatClampNeg ≤ (zLY y).2 ∧ (zLY x).1 = (zLY y).1
      · by_cases h2 : (zLY x).1 = 12
        · simp only [zN_ov, if_pos hc, if_pos h2, zI_ov (ne hc.1), zI_ov (ne hc.2.1), zov_I (ne hc.2.1), Option.map_some]
        · by_cases h3 : (zLY x).1 = 13
          · simp only [zN_ov, if_pos hc, if_neg h2, if_pos h3, zL_ov, zov_L, Option.map_some]
          · simp only [zN_ov, if_pos hc, if_neg h2, if_neg h3, Option.map_none]
      · exact zov_none (if_neg hc) (if_neg hc)
    · rfl
  all_goals first | rfl | (split <;> first | rfl | (split <;> rfl))
end ZOV
def zovR (L : Nat) (xs : Nat → Int32) : zRes → zRes := fun r => r.map (fun q => match q with
  | .inl q => .inl (q.1, q.2.1, q.2.2.1, zov L xs q.2.2.2)
  | .inr q => .inr (zov L xs q.1, q.2))
theorem zstp_ov {L : Nat} {xs : Nat → Int32} {σ : zSt} {i : Instr} {len t pc : Nat} {ls : zLv} {st : List Value} (h : zscr i st σ = false) : zstp i len t pc ls st (zov L xs σ) = zovR L xs (zstp i len t pc ls st σ) := by
  unfold zstp
  cases zpst i st with
  | some _ => rfl
  | none =>
    cases zbr i st with
    | some _ => rfl
    | none =>
      cases zloc i ls st with
      | some _ => rfl
      | none =>
        dsimp only
        rw [zmem_ov h]
        cases zmem i st σ with
        | some _ => rfl
        | none =>
          dsimp only [Option.map]
          rw [zmak_ov h]
          cases zmak i st σ with
          | some _ => rfl
          | none =>
            dsimp only [Option.map]
            cases zcst i st with
            | some _ => rfl
            | none =>
              dsimp only
              cases zret i t st with
              | some _ => rfl
              | none => rfl
/-- code in pieces of pieces, for the kernel's sake -/
def zch {α : Type} (k : Nat) : Nat → List α → List (List α)
  | 0, _ => []
  | n + 1, l => match l with
    | [] => []
    | _ :: _ => l.take k :: zch k n (l.drop k)
theorem zch_at {α : Type} {k : Nat} : ∀ (n : Nat) (l : List α) (q : Nat) (m : List α), (zch k n l)[q]? = some m → m = (l.drop (k * q)).take k
  | 0, l, q, m, h => by simp [zch] at h
  | n + 1, [], q, m, h => by simp [zch] at h
  | n + 1, a :: t, 0, m, h => by
    have h' : some ((a :: t).take k) = some m := h
    cases h'
    rfl
  | n + 1, a :: t, q + 1, m, h => by
    have h' : (zch k n ((a :: t).drop k))[q]? = some m := h
    rw [zch_at n _ q m h', List.drop_drop, Nat.mul_succ, Nat.add_comm]
theorem zch_in {α : Type} {k n : Nat} {l : List α} {q r : Nat} {m : List α} {x : α} (h : (zch k n l)[q]? = some m) (h2 : m[r]? = some x) : l[k * q + r]? = some x := by
  rw [zch_at n l q m h, List.getElem?_take] at h2
  split at h2
  · rw [List.getElem?_drop] at h2; exact h2
  · cases h2
def zlk (c : zCode) (pc : Nat) : Option (Option zIns) := (((((zch 12 200 (zch 12 200 c))[pc / 144]?).getD [])[pc / 12 % 12]?).getD [])[pc % 12]?
theorem zlk_at {c : zCode} {pc : Nat} {i : Option zIns} (h : zlk c pc = some i) : c[pc]? = some i := by
  unfold zlk at h
  cases h1 : (zch 12 200 (zch 12 200 c))[pc / 144]? with
  | none => rw [h1] at h; simp at h
  | some m =>
    rw [h1] at h
    have h : ((m[pc / 12 % 12]?).getD [])[pc % 12]? = some i := h
    cases h2 : m[pc / 12 % 12]? with
    | none => rw [h2] at h; simp at h
    | some x =>
      rw [h2] at h
      have h : x[pc % 12]? = some i := h
      have h3 := zch_in (zch_in h1 h2) h
      rw [show 12 * (12 * (pc / 144) + pc / 12 % 12) + pc % 12 = pc by omega] at h3
      exact h3
/-- Arrays.fill, at once -/
def zfL2 (a : List Value) (σ : zSt) : Option (zSt × Option Value) := match a with
  | [.ref o, .long v] => if o < zN σ ∧ (zLY o).1 = 13 ∧ (zLY o).2 ≤ 1000000 ∧ o < 1000000 then some (zrL σ o (zfil (zLY o).2 v (zL σ o)), none) else none
  | _ => none
theorem zfl_ov {L : Nat} {xs : Nat → Int32} {a : List Value} {σ : zSt} : zfL2 a (zov L xs σ) = (zfL2 a σ).map (fun q => (zov L xs q.1, q.2)) := by
  unfold zfL2
  split
  · rename_i o v
    by_cases hc : o < zN σ ∧ (zLY o).1 = 13 ∧ (zLY o).2 ≤ 1000000 ∧ o < 1000000
    · exact zov_some (if_pos hc) (if_pos hc) rfl
    · exact zov_none (if_neg hc) (if_neg hc)
  · rfl
theorem zfl_run {a : List Value} {σ : zSt} {q : zSt × Option Value} (h : zfL2 a σ = some q) : ∃ g, zrun g (zcode 118) 0 (lv_args 0 a) [] σ = some q := by
  unfold zfL2 at h
  split at h
  · rename_i o v
    split at h
    · rename_i hc
      cases h
      have hA : zA σ o 13 (zLY o).2 := ⟨hc.1, Prod.ext hc.2.1 rfl, hc.2.2.2⟩
      obtain ⟨g, σ', r, h1, h2, h3⟩ := j_fill (v := v) (Q := fun s r => s = zrL σ o (zfil (zLY o).2 v (zL σ o)) ∧ r = none) hA hc.2.2.1 ⟨rfl, rfl⟩ _ zref.rfl'
      subst h2; subst h3
      exact ⟨g, h1⟩
    · cases h
  · cases h
/-- the run that stops at the script -/
def zrunS : Nat → zCode → Nat → zLv → List Value → zSt → Option (zSt × Option Value)
  | 0, _, _, _, _, _ => none
  | n + 1, c, pc, ls, st, σ => match zlk c pc with
    | some (some (i, len, t)) => if zscr i st σ = true then none else match zcal i with
      | some (y, vt) => match zpop (zNA y) st with
        | some (a, r) => if (r.map (fun v => v.category)).sum ≤ 8 ∧ (900 ≤ y ∨ ((a.map (fun v => v.category)).sum ≤ zML y ∧ (vt = true → zrcv y a σ = true))) then
            (match (if 900 ≤ y then znat y a σ else if y = 118 then zfL2 a σ else zrunS n (zcode y) 0 (lv_args 0 a) [] σ) with
              | some (σ', v) => zrunS n c (pc + 3) ls (v.toList ++ r) σ'
              | none => none) else none
        | none => none
      | none => match zstp i len t pc ls st σ with
        | some (.inl (pc', ls', st', σ')) => zrunS n c pc' ls' st' σ'
        | some (.inr q) => some q
        | none => none
    | _ => none
theorem zrunS_ov {L : Nat} {xs : Nat → Int32} : ∀ (f : Nat) (c : zCode) (pc : Nat) (ls : zLv) (st : List Value) (σ σ' : zSt) (v : Option Value), zrunS f c pc ls st σ = some (σ', v) → ∃ g, zrun g c pc ls st (zov L xs σ) = some (zov L xs σ', v)
  | 0, c, pc, ls, st, σ, σ', v, h => by cases h
  | f + 1, c, pc, ls, st, σ, σ', v, h => by
    rw [zrunS] at h
    rcases hq : zlk c pc with _ | (_ | ⟨i, len, t⟩)
    · rw [hq] at h; cases h
    · rw [hq] at h; cases h
    · rw [hq] at h
      dsimp only at h
      split at h
      · cases h
      · rename_i hs
        have hs : zscr i st σ = false := Bool.not_eq_true _ ▸ hs
        rcases hz : zcal i with _ | ⟨y, vt⟩
        · rw [hz] at h
          dsimp only at h
          rcases hp : zstp i len t pc ls st σ with _ | (⟨pc', ls', st', σ1⟩ | q')
          · rw [hp] at h; cases h
          · rw [hp] at h
            obtain ⟨g, hg⟩ := zrunS_ov f _ _ _ _ _ _ _ h
            refine ⟨g + 1, ?_⟩
            rw [zrun, zlk_at hq]
            dsimp only
            rw [hz]
            dsimp only
            rw [zstp_ov hs, hp]
            exact hg
          · rw [hp] at h
            refine ⟨1, ?_⟩
            rw [zrun, zlk_at hq]
            dsimp only
            rw [hz]
            dsimp only
            rw [zstp_ov hs, hp]
            cases h; rfl
        · rw [hz] at h
          dsimp only at h
          rcases hp : zpop (zNA y) st with _ | ⟨a, r⟩
          · rw [hp] at h; cases h
          · rw [hp] at h
            dsimp only at h
            have hrc : zrcv y a (zov L xs σ) = zrcv y a σ := rfl
            split at h
            · rename_i hc
              split at h
              · rename_i σ1 w hr
                have hr2 : ∃ g, (if 900 ≤ y then znat y a (zov L xs σ) else zrun g (zcode y) 0 (lv_args 0 a) [] (zov L xs σ)) = some (zov L xs σ1, w) := by
                  split at hr
                  · rename_i h9; exact ⟨0, by rw [if_pos h9, znat_ov (zscr_n hs), hr]; rfl⟩
                  · rename_i h9
                    split at hr
                    · rename_i h3
                      subst h3
                      obtain ⟨g, hg⟩ := zfl_run (σ := zov L xs σ) (show zfL2 a (zov L xs σ) = some (zov L xs σ1, w) by rw [zfl_ov, hr]; rfl)
                      exact ⟨g, by rw [if_neg h9]; exact hg⟩
                    · obtain ⟨g, hg⟩ := zrunS_ov f _ _ _ _ _ _ _ hr
                      exact ⟨g, by rw [if_neg h9]; exact hg⟩
                obtain ⟨g1, hg1⟩ := hr2
                obtain ⟨g2, hg2⟩ := zrunS_ov f _ _ _ _ _ _ _ h
                refine ⟨max g1 g2 + 1, ?_⟩
                rw [zrun, zlk_at hq]
                dsimp only
                rw [hz]
                dsimp only
                rw [hp]
                dsimp only
                rw [hrc, if_pos hc]
                have hg1' : (if 900 ≤ y then znat y a (zov L xs σ) else zrun (max g1 g2) (zcode y) 0 (lv_args 0 a) [] (zov L xs σ)) = some (zov L xs σ1, w) := by
                  split at hg1
                  · rename_i h9; rw [if_pos h9]; exact hg1
                  · rename_i h9; rw [if_neg h9]; exact zrun_le (Nat.le_max_left g1 g2) hg1
                rw [hg1']
                exact zrun_le (Nat.le_max_right g1 g2) hg2
              · cases h
            · cases h
/-- a call whose run is known -/
theorem w_callS {L : Nat} {xs : Nat → Int32} {c : zCode} {pc pc' t f y : Nat} {i : Instr} {ls : zLv} {st r : List Value} {σ σ1 : zSt} {v1 : Option Value} {Q : zSt → Option Value → Prop} {vt : Bool} {a : List Value} (hk : zat c pc i 3 t pc') (hcal : zcal i = some (y, vt)) (hp : zpop (zNA y) st = some (a, r)) (hc : (r.map (fun v => v.category)).sum ≤ 8 ∧ (900 ≤ y ∨ ((a.map (fun v => v.category)).sum ≤ zML y ∧ (vt = true → zrcv y a σ = true)))) (hy : y < 900) (hrun : zrunS f (zcode y) 0 (lv_args 0 a) [] σ = some (σ1, v1)) (k : zP c pc' ls (v1.toList ++ r) (zov L xs σ1) Q) : zP c pc ls st (zov L xs σ) Q := by
  intro ls' hr
  obtain ⟨g, h1⟩ := zrunS_ov (L := L) (xs := xs) _ _ _ _ _ _ _ _ hrun
  obtain ⟨f2, σ2, v2, h3, h4⟩ := k ls' hr
  refine ⟨max g f2 + 1, σ2, v2, ?_, h4⟩
  rw [zrun, hk.1]
  simp only [hcal, hp]
  have hrc : zrcv y a (zov L xs σ) = zrcv y a σ := rfl
  rw [hrc, if_pos hc, if_neg (by omega)]
  have e1 := zrun_le (Nat.le_max_left g f2) h1
  rw [e1]
  show zrun (max g f2) c (pc + 3) ls' _ (zov L xs σ1) = _
  rw [hk.2]
  exact zrun_le (Nat.le_max_right g f2) h3
/-! THE CONSTRUCTOR, RUN: what stands in the fresh object -/
def zbX : Option (zSt × Option Value) := zrunS 4000 (zcode 91) 0 (lv_args 0 [.ref 0]) [] (znew zst1)
def zgt (r : Option (zSt × Option Value)) : zSt := match r with
  | some q => q.1
  | none => zst1
def zS1 : zSt := zgt zbX
def zvoid (r : Option (zSt × Option Value)) : Bool := match r with
  | some (_, none) => true
  | _ => false
theorem zvoid_X {r : Option (zSt × Option Value)} (h : zvoid r = true) : r = some (zgt r, none) := by
  unfold zvoid at h
  split at h
  · rfl
  · cases h
