/-! FIXED POINTERS, FRAMES: what a part of a state hangs on. -/
def zfxl : List (List (Nat × Nat)) := [[(0, 3), (1, 1), (2, 79), (3, 102), (4, 104), (5, 109), (6, 110), (7, 111), (8, 112), (9, 113)], [(0, 2), (1, 3)], [], [(0, 4)], [], [(0, 6), (1, 7)], [(0, 8), (1, 13), (2, 18)], [(0, 23), (1, 31), (2, 39), (3, 47)], [(0, 9), (1, 10), (2, 11), (3, 12)], [], [], [], [], [(0, 14), (1, 15), (2, 16), (3, 17)], [], [], [], [], [(0, 19), (1, 20), (2, 21), (3, 22)], [], [], [], [], [(0, 24)], [(0, 25), (1, 26), (2, 27), (3, 28), (4, 29), (5, 30)], [], [], [], [], [], [], [(0, 32)], [(0, 33), (1, 34), (2, 35), (3, 36), (4, 37), (5, 38)], [], [], [], [], [], [], [(0, 40)], [(0, 41), (1, 42), (2, 43), (3, 44), (4, 45), (5, 46)], [], [], [], [], [], [], [(0, 48)], [(0, 49), (1, 50), (2, 51), (3, 52), (4, 53), (5, 54)], [], [], [], [], [], [], [(0, 56), (1, 57), (2, 58), (3, 59)], [], [], [], [], [(0, 61)], [(0, 62), (1, 63), (2, 64), (3, 65), (4, 66), (5, 67)], [], [], [], [], [], [], [(0, 69), (1, 70), (2, 71), (3, 72)], [], [], [], [], [(0, 74), (1, 75), (2, 76), (3, 77)], [], [], [], [], [], [(0, 80), (1, 81)], [], [(0, 82), (1, 83), (2, 84), (3, 85), (4, 86), (5, 87), (6, 88), (7, 89), (8, 90), (9, 91), (10, 92), (11, 93), (12, 94), (13, 95), (14, 96), (15, 97), (16, 98), (17, 99), (18, 100), (19, 101)], [], [], [], [], [], [], [], [], [], [], [], [], [], [], [], [], [], [], [], [], [(0, 103)], [], [(0, 105), (1, 106), (2, 107), (3, 108)], [], [], [], [], [], [], [], [], [], [(0, 115), (1, 116)], [(0, 117), (1, 122), (2, 127)], [(0, 132), (1, 140), (2, 148), (3, 156)], [(0, 118), (1, 119), (2, 120), (3, 121)], [], [], [], [], [(0, 123), (1, 124), (2, 125), (3, 126)], [], [], [], [], [(0, 128), (1, 129), (2, 130), (3, 131)], [], [], [], [], [(0, 133)], [(0, 134), (1, 135), (2, 136), (3, 137), (4, 138), (5, 139)], [], [], [], [], [], [], [(0, 141)], [(0, 142), (1, 143), (2, 144), (3, 145), (4, 146), (5, 147)], [], [], [], [], [], [], [(0, 149)], [(0, 150), (1, 151), (2, 152), (3, 153), (4, 154), (5, 155)], [], [], [], [], [], [], [(0, 157)], [(0, 158), (1, 159), (2, 160), (3, 161), (4, 162), (5, 163)], [], [], [], [], [], []]
def zfx (o k : Nat) : Option Nat := (((zfxl[o]?).getD []).find? (fun q => q.1 == k)).map (fun q => q.2)
/-- all objects are there, what points always points -/
def zFx (σ : zSt) : Prop := 164 ≤ zN σ ∧ ∀ o k a, zfx o k = some a → zR σ o k = some a
theorem zOl {σ : zSt} {o cl : Nat} (h : zFx σ) (e : (Nat.ble (o + 1) 164, (zLY o).1) = (true, cl)) : zO σ o cl := by
  have e1 := congrArg Prod.fst e
  exact ⟨Nat.lt_of_lt_of_le (Nat.le_of_ble_eq_true e1) h.1, congrArg Prod.snd e⟩
theorem zAl {σ : zSt} {a kd n : Nat} (h : zFx σ) (e : (Nat.ble (a + 1) 164, zLY a) = (true, kd, n)) : zA σ a kd n := by
  have e1 := Nat.le_of_ble_eq_true (congrArg Prod.fst e)
  exact ⟨Nat.lt_of_lt_of_le e1 h.1, congrArg Prod.snd e, by omega⟩
/-- ints, longs alone have changed, and these in the objects of w at the most -/
def zFm (w : List Nat) (σ σ' : zSt) : Prop := zN σ' = zN σ ∧ (∀ o k, zR σ' o k = zR σ o k) ∧ ∀ o, o ∉ w → (∀ k, zI σ' o k = zI σ o k) ∧ ∀ k, zL σ' o k = zL σ o k
theorem zFm.refl {w : List Nat} {σ : zSt} : zFm w σ σ := ⟨rfl, fun _ _ => rfl, fun _ _ => ⟨fun _ => rfl, fun _ => rfl⟩⟩
theorem zFm.trans {w : List Nat} {σ σ1 σ2 : zSt} (a : zFm w σ σ1) (b : zFm w σ1 σ2) : zFm w σ σ2 := ⟨b.1.trans a.1, fun o k => (b.2.1 o k).trans (a.2.1 o k), fun o h => ⟨fun k => ((b.2.2 o h).1 k).trans ((a.2.2 o h).1 k), fun k => ((b.2.2 o h).2 k).trans ((a.2.2 o h).2 k)⟩⟩
theorem zFm.mono {w v : List Nat} {σ σ1 : zSt} (a : zFm w σ σ1) (h : ∀ o, o ∈ w → o ∈ v) : zFm v σ σ1 := ⟨a.1, a.2.1, fun o ho => a.2.2 o (fun q => ho (h o q))⟩
theorem zFm.fx {w : List Nat} {σ σ' : zSt} (h : zFm w σ σ') (f : zFx σ) : zFx σ' := ⟨by rw [h.1]; exact f.1, fun o k a e => by rw [h.2.1]; exact f.2 o k a e⟩
theorem zI_wI {σ : zSt} {o k : Nat} {v : Int32} {o' k' : Nat} : zI (zwI σ o k v) o' k' = if o' = o ∧ k' = k then v else zI σ o' k' := by
  show va_up σ.1 o (va_up (σ.1 o) k v) o' k' = _
  unfold va_up
  by_cases h : o' = o
  · subst h
    by_cases h2 : k' = k
    · simp [h2]
    · simp [h2, zI]
  · simp [h, zI]
theorem zL_wL {σ : zSt} {o k : Nat} {v : Int64} {o' k' : Nat} : zL (zwL σ o k v) o' k' = if o' = o ∧ k' = k then v else zL σ o' k' := by
  show va_up σ.2.1 o (va_up (σ.2.1 o) k v) o' k' = _
  unfold va_up
  by_cases h : o' = o
  · subst h
    by_cases h2 : k' = k
    · simp [h2]
    · simp [h2, zL]
  · simp [h, zL]
theorem zR_wR {σ : zSt} {o k : Nat} {v : Option Nat} {o' k' : Nat} : zR (zwR σ o k v) o' k' = if o' = o ∧ k' = k then v else zR σ o' k' := by
  show va_up σ.2.2.1 o (va_up (σ.2.2.1 o) k v) o' k' = _
  unfold va_up
  by_cases h : o' = o
  · subst h
    by_cases h2 : k' = k
    · simp [h2]
    · simp [h2, zR]
  · simp [h, zR]
theorem zI_rI {σ : zSt} {o : Nat} {f : Nat → Int32} {o' k' : Nat} : zI (zrI σ o f) o' k' = if o' = o then f k' else zI σ o' k' := by
  show va_up σ.1 o f o' k' = _
  unfold va_up
  by_cases h : o' = o <;> simp [h, zI]
theorem zL_rL {σ : zSt} {o : Nat} {f : Nat → Int64} {o' k' : Nat} : zL (zrL σ o f) o' k' = if o' = o then f k' else zL σ o' k' := by
  show va_up σ.2.1 o f o' k' = _
  unfold va_up
  by_cases h : o' = o <;> simp [h, zL]
theorem zI_wI_s {σ : zSt} {o k : Nat} {v : Int32} : zI (zwI σ o k v) o k = v := by rw [zI_wI, if_pos ⟨rfl, rfl⟩]
theorem zL_wL_s {σ : zSt} {o k : Nat} {v : Int64} : zL (zwL σ o k v) o k = v := by rw [zL_wL, if_pos ⟨rfl, rfl⟩]
theorem zI_wI_n {σ : zSt} {o k : Nat} {v : Int32} {o' k' : Nat} (h : o' ≠ o ∨ k' ≠ k) : zI (zwI σ o k v) o' k' = zI σ o' k' := by rw [zI_wI, if_neg (by omega)]
theorem zL_wL_n {σ : zSt} {o k : Nat} {v : Int64} {o' k' : Nat} (h : o' ≠ o ∨ k' ≠ k) : zL (zwL σ o k v) o' k' = zL σ o' k' := by rw [zL_wL, if_neg (by omega)]
theorem zFm.wI {w : List Nat} {σ : zSt} {o k : Nat} {v : Int32} (h : o ∈ w) : zFm w σ (zwI σ o k v) := ⟨rfl, fun _ _ => rfl, fun o' ho => ⟨fun k' => zI_wI_n (Or.inl (fun e => ho (e ▸ h))), fun _ => rfl⟩⟩
theorem zFm.wL {w : List Nat} {σ : zSt} {o k : Nat} {v : Int64} (h : o ∈ w) : zFm w σ (zwL σ o k v) := ⟨rfl, fun _ _ => rfl, fun o' ho => ⟨fun _ => rfl, fun k' => zL_wL_n (Or.inl (fun e => ho (e ▸ h)))⟩⟩
theorem zFm.rI {w : List Nat} {σ : zSt} {o : Nat} {f : Nat → Int32} (h : o ∈ w) : zFm w σ (zrI σ o f) := ⟨rfl, fun _ _ => rfl, fun o' ho => ⟨fun k' => by rw [zI_rI, if_neg (fun e : o' = o => ho (e ▸ h))], fun _ => rfl⟩⟩
theorem zFm.rL {w : List Nat} {σ : zSt} {o : Nat} {f : Nat → Int64} (h : o ∈ w) : zFm w σ (zrL σ o f) := ⟨rfl, fun _ _ => rfl, fun o' ho => ⟨fun _ => rfl, fun k' => by rw [zL_rL, if_neg (fun e : o' = o => ho (e ▸ h))]⟩⟩
/-! THE TAPE: n bytes; b their numbers -/
def zTp (σ : zSt) (n : Nat) (b : Nat → Int) : Prop := zI σ 3 1 = iZ n ∧ n ≤ 1600 ∧ ∀ i, i < n → zI σ 4 i = iZ (b i) ∧ 0 ≤ b i ∧ b i ≤ 255
theorem zTp.fr {w : List Nat} {σ σ' : zSt} {n : Nat} {b : Nat → Int} (h : zTp σ n b) (f : zFm w σ σ') (h3 : 3 ∉ w) (h4 : 4 ∉ w) : zTp σ' n b := ⟨((f.2.2 3 h3).1 1).trans h.1, h.2.1, fun i hi => ⟨((f.2.2 4 h4).1 i).trans (h.2.2 i hi).1, (h.2.2 i hi).2⟩⟩
/-- the byte at a place; -1 where there is none -/
def zby (n : Nat) (b : Nat → Int) (z : Int) : Int := if 0 ≤ z ∧ z < n then b z.toNat else -1
theorem zby_rng {σ : zSt} {n : Nat} {b : Nat → Int} (h : zTp σ n b) (z : Int) : -1 ≤ zby n b z ∧ zby n b z ≤ 255 := by
  unfold zby
  split
  · have := (h.2.2 z.toNat (by omega)).2; omega
  · omega
theorem zby_in {n : Nat} {b : Nat → Int} {i : Nat} (h : i < n) : zby n b i = b i := by
  unfold zby
  rw [if_pos (by omega)]; rfl
theorem zby_out {n : Nat} {b : Nat → Int} {z : Int} (h : z < 0 ∨ n ≤ z) : zby n b z = -1 := by
  unfold zby
  rw [if_neg (by omega)]
abbrev zlt (n : Nat) (b : Nat → Int) (z : Int) : Prop := 97 ≤ zby n b z ∧ zby n b z ≤ 122
abbrev zdg (n : Nat) (b : Nat → Int) (z : Int) : Prop := 48 ≤ zby n b z ∧ zby n b z ≤ 57
abbrev zbl (n : Nat) (b : Nat → Int) (z : Int) : Prop := zby n b z = 10 ∨ zby n b z = 32
theorem zlt_in {n : Nat} {b : Nat → Int} {z : Int} (h : zlt n b z) : 0 ≤ z ∧ z < n := by
  unfold zlt zby at h
  split at h
  · assumption
  · omega
theorem zdg_in {n : Nat} {b : Nat → Int} {z : Int} (h : zdg n b z) : 0 ≤ z ∧ z < n := by
  unfold zdg zby at h
  split at h
  · assumption
  · omega
theorem zbl_in {n : Nat} {b : Nat → Int} {z : Int} (h : zbl n b z) : 0 ≤ z ∧ z < n := by
  unfold zbl zby at h
  split at h
  · assumption
  · omega
/-- how many places from z on are so, f at the most -/
def zcnt (p : Int → Prop) [DecidablePred p] : Nat → Int → Nat
  | 0, _ => 0
  | f + 1, z => if p z then zcnt p f (z + 1) + 1 else 0
theorem zcnt_t {p : Int → Prop} [DecidablePred p] {f : Nat} {z : Int} (h : p z) (hf : 0 < f) : zcnt p f z = zcnt p (f - 1) (z + 1) + 1 := by
  cases f with
  | zero => omega
  | succ f => rw [zcnt, if_pos h]; rfl
theorem zcnt_f {p : Int → Prop} [DecidablePred p] {f : Nat} {z : Int} (h : ¬ p z ∨ f = 0) : zcnt p f z = 0 := by
  cases f with
  | zero => rfl
  | succ f => rw [zcnt, if_neg (h.resolve_right (Nat.succ_ne_zero f))]
theorem zQi {Q : zSt → Option Value → Prop} {σ : zSt} {a b : Int} (h : Q σ (some (.int (iZ a)))) (e : b = a) : Q σ (some (.int (iZ b))) := e ▸ h
/-! A BOOK as the row that the reference keeps of it: t. Schemes, their fields; crossings, their rules. -/
abbrev zBk : Type := Nat → Int
def zNM (t : zBk) (s : Nat) : Int := t (2 + 20 * s)
def zNF (t : zBk) (s : Nat) : Int := t (3 + 20 * s)
def zFN (t : zBk) (s f : Nat) : Int := t (4 + 20 * s + 3 * f)
def zKD (t : zBk) (s f : Nat) : Int := t (5 + 20 * s + 3 * f)
def zCE (t : zBk) (s f : Nat) : Int := t (6 + 20 * s + 3 * f)
def zFO (t : zBk) (c : Nat) : Int := t (62 + 27 * c)
def zTO (t : zBk) (c : Nat) : Int := t (63 + 27 * c)
def zNU (t : zBk) (c : Nat) : Int := t (64 + 27 * c)
def zRT (t : zBk) (c r : Nat) : Int := t (65 + 27 * c + 4 * r)
def zRS (t : zBk) (c r : Nat) : Int := t (66 + 27 * c + 4 * r)
def zR1 (t : zBk) (c r : Nat) : Int := t (67 + 27 * c + 4 * r)
def zR2 (t : zBk) (c r : Nat) : Int := t (68 + 27 * c + 4 * r)
/-- where a field's cells begin in a record -/
def zst (t : zBk) (s : Nat) : Nat → Int
  | 0 => 0
  | f + 1 => zst t s f + zCE t s f
/-- a scheme that can be -/
def zVs (t : zBk) (s : Nat) : Prop := (0 ≤ zNF t s ∧ zNF t s ≤ 6) ∧ ∀ f : Nat, f < zNF t s → (0 ≤ zKD t s f ∧ zKD t s f ≤ 8) ∧ 1 ≤ zCE t s f ∧ zCE t s f ≤ 4
theorem zst_rng {t : zBk} {s : Nat} (h : zVs t s) : ∀ f : Nat, f ≤ zNF t s → f ≤ zst t s f ∧ zst t s f ≤ 4 * f
  | 0, _ => by unfold zst; omega
  | f + 1, hf => by
    have := zst_rng h f (by omega)
    have := (h.2 f (by omega)).2
    unfold zst
    omega
theorem zst_mono {t : zBk} {s : Nat} (h : zVs t s) {f : Nat} : ∀ g : Nat, f < g → g ≤ zNF t s → zst t s f + zCE t s f ≤ zst t s g
  | 0, hg, _ => by omega
  | g + 1, hg, hn => by
    show _ ≤ zst t s g + zCE t s g
    rcases Nat.lt_or_ge f g with h1 | h1
    · have := zst_mono h g h1 (by omega)
      have := (h.2 g (by omega)).2
      omega
    · rw [show f = g by omega]; omega
theorem zst_24 {t : zBk} {s f : Nat} (h : zVs t s) (hf : (f : Int) < zNF t s) : (0 ≤ zst t s f ∧ zst t s f + zCE t s f ≤ 24) ∧ 1 ≤ zCE t s f ∧ zCE t s f ≤ 4 := by
  have h1 := zst_rng h f (by omega)
  have h2 := (h.2 f hf).2
  have h3 := zst_mono h (zNF t s).toNat (f := f) (by omega) (by omega)
  have h4 := zst_rng h (zNF t s).toNat (by omega)
  have := h.1
  omega
/-- the place of a record's cell among the class's, the reference's cells -/
def zpq (t : zBk) (s f r i : Nat) : Nat := 11 + (s * 8 + r) * 24 + (zst t s f).toNat + i
def zpr (t : zBk) (s f r i : Nat) : Nat := 11 + 32 * (6 * s + f) + (zCE t s f).toNat * r + i
theorem zdivm {a b : Int} {r i : Nat} (h : a = r * b + i) (hi : (i : Int) < b) : a / b = r ∧ a % b = i := by
  subst h
  have e1 : ((r : Int) * b + i) = i + b * r := by rw [Int.mul_comm]; omega
  rw [e1]
  refine ⟨?_, ?_⟩
  · rw [Int.add_mul_ediv_left _ _ (by omega), Int.ediv_eq_zero_of_lt (by omega) hi]; omega
  · rw [Int.add_mul_emod_self_left, Int.emod_eq_of_lt (by omega) hi]
/-- a rule, a crossing, a book that can be -/
def zVr (t : zBk) (c r : Nat) : Prop := (0 ≤ zRT t c r ∧ zRT t c r < zNF t (zTO t c).toNat) ∧ (0 ≤ zRS t c r ∧ zRS t c r ≤ 4) ∧ (zRS t c r ≠ 4 → (0 ≤ zR1 t c r ∧ zR1 t c r < zNF t (zFO t c).toNat)) ∧ (zRS t c r = 4 → zR1 t c r = -1 ∧ zKD t (zTO t c).toNat (zRT t c r).toNat ≠ 0) ∧ (zRS t c r = 3 → (0 ≤ zR2 t c r ∧ zR2 t c r < zNF t (zFO t c).toNat) ∧ 1 ≤ zKD t (zFO t c).toNat (zR2 t c r).toNat ∧ zKD t (zFO t c).toNat (zR2 t c r).toNat ≤ 7) ∧ (zRS t c r = 1 ∨ zRS t c r = 2 → 1 ≤ zR2 t c r) ∧ (0 ≤ zR2 t c r ∧ zR2 t c r ≤ 999) ∧ (zRS t c r = 0 → zR2 t c r = 0) ∧ (zRS t c r ≠ 0 ∧ zRS t c r ≠ 4 → 1 ≤ zKD t (zFO t c).toNat (zR1 t c r).toNat ∧ zKD t (zFO t c).toNat (zR1 t c r).toNat ≤ 7)
def zVc (t : zBk) (c : Nat) : Prop := (0 ≤ zFO t c ∧ zFO t c < t 0) ∧ (0 ≤ zTO t c ∧ zTO t c < t 0) ∧ zFO t c ≠ zTO t c ∧ (1 ≤ zNU t c ∧ zNU t c ≤ 6) ∧ (∀ r : Nat, r < zNU t c → zVr t c r) ∧ ∀ r q : Nat, r < zNU t c → q < zNU t c → zRT t c r = zRT t c q → r = q
def zVt (t : zBk) : Prop := (0 ≤ t 0 ∧ t 0 ≤ 3) ∧ (0 ≤ t 1 ∧ t 1 ≤ 4) ∧ (∀ s : Nat, s < t 0 → zVs t s ∧ 1 ≤ zNF t s) ∧ True
/-- what widens to what -/
abbrev zgi (a b : Int) : Prop := a = b ∨ (b ≤ 7 ∧ ((a = 1 ∧ 3 ≤ b) ∨ ((a = 2 ∨ a = 3) ∧ 4 ≤ b) ∨ ((a = 4 ∨ a = 5 ∨ a = 6) ∧ a < b)))
/-- what a rule makes, through how many cells it goes -/
def zMK (t : zBk) (c r : Nat) : Int := if zRS t c r = 4 then 4 else if zRS t c r = 0 then zKD t (zFO t c).toNat (zR1 t c r).toNat else if zRS t c r = 3 ∧ 5 < zKD t (zFO t c).toNat (zR2 t c r).toNat then 7 else if 5 < zKD t (zFO t c).toNat (zR1 t c r).toNat then 7 else 5
def zTK (t : zBk) (c r : Nat) : Int := zKD t (zTO t c).toNat (zRT t c r).toNat
def zLR (t : zBk) (c r : Nat) : Int := if zRS t c r = 4 then zCE t (zTO t c).toNat (zRT t c r).toNat else if zRS t c r = 3 then min (min (zCE t (zTO t c).toNat (zRT t c r).toNat) (zCE t (zFO t c).toNat (zR1 t c r).toNat)) (zCE t (zFO t c).toNat (zR2 t c r).toNat) else min (zCE t (zTO t c).toNat (zRT t c r).toNat) (zCE t (zFO t c).toNat (zR1 t c r).toNat)
/-- the class's scheme object o holds scheme s of t -/
def zSh (σ : zSt) (o : Nat) (t : zBk) (s : Nat) : Prop := zI σ o 5 = iZ (zNF t s) ∧ zI σ o 6 = iZ (zst t s (zNF t s).toNat) ∧ ∀ f : Nat, f < zNF t s → zI σ (o + 2) f = iZ (zKD t s f) ∧ zI σ (o + 3) f = iZ (zCE t s f) ∧ zI σ (o + 4) f = iZ (zst t s f)
def zIsS (o : Nat) : Prop := o = 8 ∨ o = 13 ∨ o = 18 ∨ o = 117 ∨ o = 122 ∨ o = 127
def zIsG (o : Nat) : Prop := o = 23 ∨ o = 31 ∨ o = 39 ∨ o = 47 ∨ o = 132 ∨ o = 140 ∨ o = 148 ∨ o = 156
theorem zIsS.o {σ : zSt} {o : Nat} (h : zIsS o) (hF : zFx σ) : zO σ o 6 := by rcases h with rfl | rfl | rfl | rfl | rfl | rfl <;> exact zOl hF rfl
theorem zIsS.p {σ : zSt} {o : Nat} (h : zIsS o) (hF : zFx σ) : zR σ o 0 = some (o + 1) ∧ zR σ o 1 = some (o + 2) ∧ zR σ o 2 = some (o + 3) ∧ zR σ o 3 = some (o + 4) := by rcases h with rfl | rfl | rfl | rfl | rfl | rfl <;> exact ⟨hF.2 _ _ _ rfl, hF.2 _ _ _ rfl, hF.2 _ _ _ rfl, hF.2 _ _ _ rfl⟩
theorem zIsS.a {σ : zSt} {o : Nat} (h : zIsS o) (hF : zFx σ) : zA σ (o + 1) 12 6 ∧ zA σ (o + 2) 12 6 ∧ zA σ (o + 3) 12 6 ∧ zA σ (o + 4) 12 6 := by rcases h with rfl | rfl | rfl | rfl | rfl | rfl <;> exact ⟨zAl hF rfl, zAl hF rfl, zAl hF rfl, zAl hF rfl⟩
theorem zIsG.o {σ : zSt} {o : Nat} (h : zIsG o) (hF : zFx σ) : zO σ o 2 := by rcases h with rfl | rfl | rfl | rfl | rfl | rfl | rfl | rfl <;> exact zOl hF rfl
theorem zIsG.p {σ : zSt} {o : Nat} (h : zIsG o) (hF : zFx σ) : zR σ o 0 = some (o + 1) := by rcases h with rfl | rfl | rfl | rfl | rfl | rfl | rfl | rfl <;> exact hF.2 _ _ _ rfl
theorem zIsG.a {σ : zSt} {o : Nat} (h : zIsG o) (hF : zFx σ) : zA σ (o + 1) 16 6 := by rcases h with rfl | rfl | rfl | rfl | rfl | rfl | rfl | rfl <;> exact zAl hF rfl
theorem zr6 {r : Nat} (h : r < 6) : r = 0 ∨ r = 1 ∨ r = 2 ∨ r = 3 ∨ r = 4 ∨ r = 5 := by omega
theorem zIsG.r {σ : zSt} {o : Nat} (h : zIsG o) (hF : zFx σ) {r : Nat} (hr : r < 6) : zR σ (o + 1) r = some (o + 2 + r) ∧ zO σ (o + 2 + r) 5 := by
  rcases h with rfl | rfl | rfl | rfl | rfl | rfl | rfl | rfl <;> rcases zr6 hr with rfl | rfl | rfl | rfl | rfl | rfl <;> exact ⟨hF.2 _ _ _ rfl, zOl hF rfl⟩
def zIsB (p : Nat) : Prop := p = 5 ∨ p = 114
theorem zIsB.o {σ : zSt} {p : Nat} (h : zIsB p) (hF : zFx σ) : zO σ p 3 ∧ zR σ p 0 = some (p + 1) ∧ zR σ p 1 = some (p + 2) ∧ zA σ (p + 1) 17 3 ∧ zA σ (p + 2) 15 4 := by rcases h with rfl | rfl <;> exact ⟨zOl hF rfl, hF.2 _ _ _ rfl, hF.2 _ _ _ rfl, zAl hF rfl, zAl hF rfl⟩
theorem zIsB.s {σ : zSt} {p : Nat} (h : zIsB p) (hF : zFx σ) {s : Nat} (hs : s < 3) : zR σ (p + 1) s = some (p + 3 + 5 * s) ∧ zIsS (p + 3 + 5 * s) := by
  rcases h with rfl | rfl <;> rcases (show s = 0 ∨ s = 1 ∨ s = 2 by omega) with rfl | rfl | rfl <;> exact ⟨hF.2 _ _ _ rfl, by unfold zIsS; omega⟩
theorem zIsB.g {σ : zSt} {p : Nat} (h : zIsB p) (hF : zFx σ) {c : Nat} (hc : c < 4) : zR σ (p + 2) c = some (p + 18 + 8 * c) ∧ zIsG (p + 18 + 8 * c) := by
  rcases h with rfl | rfl <;> rcases (show c = 0 ∨ c = 1 ∨ c = 2 ∨ c = 3 by omega) with rfl | rfl | rfl | rfl <;> exact ⟨hF.2 _ _ _ rfl, by unfold zIsG; omega⟩
/-- a value as it is read: nothing is an empty word -/
def zvl (kd : Int) (x : Int64) : Int64 := if kd = 8 ∧ x = lZ (-1) then lZ 0 else x
/-- how many records of each scheme there are -/
def zCn (σ : zSt) (c : Nat → Int) : Prop := ∀ s, s < 3 → zL σ 80 s = lZ (c s) ∧ 0 ≤ c s ∧ c s ≤ 8
