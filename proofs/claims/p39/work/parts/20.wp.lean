/-! WHAT IT NEEDS to come from a place to the end: zP; one row an instruction. Locals are known in part: (slot, value). -/
def zref (ls ls' : zLv) : Prop := ∀ i v, zld ls i = some v → zld ls' i = some v
theorem zref.rfl' {ls : zLv} : zref ls ls := fun _ _ h => h
def zP (c : zCode) (pc : Nat) (ls : zLv) (st : List Value) (σ : zSt) (Q : zSt → Option Value → Prop) : Prop := ∀ ls', zref ls ls' → ∃ (f : Nat) (σ' : zSt) (r : Option Value), zrun f c pc ls' st σ = some (σ', r) ∧ Q σ' r
/-- a call of a listed method -/
def zCa (y : Nat) (a : List Value) (σ : zSt) (Q : zSt → Option Value → Prop) : Prop := zP (zcode y) 0 (lv_args 0 a) [] σ Q
def zat (c : zCode) (pc : Nat) (i : Instr) (len t pc' : Nat) : Prop := c[pc]? = some (some (i, len, t)) ∧ pc + len = pc'
theorem zrun_up : ∀ (f : Nat) (c : zCode) (pc : Nat) (ls : zLv) (st : List Value) (σ : zSt) (q : zSt × Option Value), zrun f c pc ls st σ = some q → zrun (f + 1) c pc ls st σ = some q
  | 0, c, pc, ls, st, σ, q, h => by cases h
  | f + 1, c, pc, ls, st, σ, q, h => by
    rw [zrun] at h ⊢
    rcases hq : c[pc]? with _ | (_ | ⟨i, len, t⟩)
    · rw [hq] at h; cases h
    · rw [hq] at h; cases h
    · rw [hq] at h
      dsimp only at h ⊢
      rcases hz : zcal i with _ | ⟨y, vt⟩
      · rw [hz] at h
        dsimp only at h ⊢
        rcases hs : zstp i len t pc ls st σ with _ | (⟨pc', ls', st', σ'⟩ | q')
        · rw [hs] at h; cases h
        · rw [hs] at h; exact zrun_up f _ _ _ _ _ _ h
        · rw [hs] at h; exact h
      · rw [hz] at h
        dsimp only at h ⊢
        rcases hp : zpop (zNA y) st with _ | ⟨a, r⟩
        · rw [hp] at h; cases h
        · rw [hp] at h
          dsimp only at h ⊢
          split at h
          · rename_i hc
            rw [if_pos hc]
            split at h
            · rename_i σ' v hr
              have hr2 : (if 900 ≤ y then znat y a σ else zrun (f + 1) (zcode y) 0 (lv_args 0 a) [] σ) = some (σ', v) := by
                split at hr
                · rename_i h9; rw [if_pos h9]; exact hr
                · rename_i h9; rw [if_neg h9]; exact zrun_up f _ _ _ _ _ _ hr
              rw [hr2]
              exact zrun_up f _ _ _ _ _ _ h
            · cases h
          · cases h
theorem zrun_le {f g : Nat} (hfg : f ≤ g) {c : zCode} {pc : Nat} {ls : zLv} {st : List Value} {σ : zSt} {q : zSt × Option Value} (h : zrun f c pc ls st σ = some q) : zrun g c pc ls st σ = some q := by
  induction hfg with
  | refl => exact h
  | step _ ih => exact zrun_up _ _ _ _ _ _ _ ih
section ZWP
variable {c : zCode} {pc pc' len t : Nat} {ls : zLv} {st r : List Value} {σ : zSt} {Q : zSt → Option Value → Prop} {i : Instr}
theorem w_step {pc1 : Nat} {ls2 : zLv} {st' : List Value} {σ' : zSt} (hk : zat c pc i len t pc') (hcal : zcal i = none) (h : ∀ ls', zref ls ls' → ∃ ls2', zstp i len t pc ls' st σ = some (.inl (pc1, ls2', st', σ')) ∧ zref ls2 ls2') (k : zP c pc1 ls2 st' σ' Q) : zP c pc ls st σ Q := by
  intro ls' hr
  obtain ⟨ls2', h1, h2⟩ := h ls' hr
  obtain ⟨f, σ1, v, h3, h4⟩ := k ls2' h2
  refine ⟨f + 1, σ1, v, ?_, h4⟩
  rw [zrun, hk.1]
  simp only [hcal, h1]
  exact h3
theorem w_end {v : Option Value} (hk : zat c pc i len t pc') (hcal : zcal i = none) (h : ∀ ls', zstp i len t pc ls' st σ = some (.inr (σ, v))) (k : Q σ v) : zP c pc ls st σ Q := by
  intro ls' hr
  refine ⟨1, σ, v, ?_, k⟩
  rw [zrun, hk.1]
  simp only [hcal, h ls']
theorem w_callG {y : Nat} {vt : Bool} {a : List Value} (hk : zat c pc i 3 t pc') (hcal : zcal i = some (y, vt)) (hp : zpop (zNA y) st = some (a, r)) (hc : (r.map (fun v => v.category)).sum ≤ 8 ∧ (900 ≤ y ∨ ((a.map (fun v => v.category)).sum ≤ zML y ∧ (vt = true → zrcv y a σ = true)))) (hy : y < 900) (k : zCa y a σ (fun σ' v => zP c pc' ls (v.toList ++ r) σ' Q)) : zP c pc ls st σ Q := by
  intro ls' hr
  obtain ⟨f1, σ1, v1, h1, h2⟩ := k _ zref.rfl'
  obtain ⟨f2, σ2, v2, h3, h4⟩ := h2 ls' hr
  refine ⟨max f1 f2 + 1, σ2, v2, ?_, h4⟩
  rw [zrun, hk.1]
  simp only [hcal, hp]
  rw [if_pos hc, if_neg (by omega)]
  have e1 := zrun_le (Nat.le_max_left f1 f2) h1
  rw [e1]
  show zrun (max f1 f2) c (pc + 3) ls' _ σ1 = _
  rw [hk.2]
  exact zrun_le (Nat.le_max_right f1 f2) h3
theorem w_natG {y : Nat} {vt : Bool} {a : List Value} {σ1 : zSt} {v1 : Option Value} (hk : zat c pc i 3 t pc') (hcal : zcal i = some (y, vt)) (hp : zpop (zNA y) st = some (a, r)) (hc : (r.map (fun v => v.category)).sum ≤ 8) (hy : 900 ≤ y) (hn : znat y a σ = some (σ1, v1)) (k : zP c pc' ls (v1.toList ++ r) σ1 Q) : zP c pc ls st σ Q := by
  intro ls' hr
  obtain ⟨f2, σ2, v2, h3, h4⟩ := k ls' hr
  refine ⟨f2 + 1, σ2, v2, ?_, h4⟩
  rw [zrun, hk.1]
  simp only [hcal, hp]
  rw [if_pos ⟨hc, Or.inl hy⟩, if_pos hy, hn]
  show zrun f2 c (pc + 3) ls' _ σ1 = _
  rw [hk.2]
  exact h3
/-- to a known place, by less of the locals -/
def zlok : zLv → zLv → Prop
  | [], _ => True
  | q :: l, ls => zld ls q.1 = some q.2 ∧ zlok l ls
theorem zlok_ref : ∀ {l ls : zLv}, zlok l ls → zref l ls
  | [], ls, _ => fun i v h => by cases h
  | q :: l, ls, h => fun i v hv => by
    unfold zld at hv
    rw [List.find?_cons] at hv
    split at hv
    · rename_i he
      have he : q.1 = i := by simpa using he
      cases hv
      rw [← he]; exact h.1
    · exact zlok_ref h.2 i v hv
theorem w_at {ls2 : zLv} (h : zlok ls2 ls) (k : zP c pc ls2 st σ Q) : zP c pc ls st σ Q := fun ls' hr => k ls' (fun i v hv => hr i v (zlok_ref h i v hv))
theorem w_Q {Q2 : zSt → Option Value → Prop} (h : zP c pc ls st σ Q2) (hq : ∀ σ' v, Q2 σ' v → Q σ' v) : zP c pc ls st σ Q := fun ls' hr => by
  obtain ⟨f, σ', v, h1, h2⟩ := h ls' hr
  exact ⟨f, σ', v, h1, hq _ _ h2⟩
theorem w_enter {y : Nat} {a : List Value} {ls2 : zLv} (h : zcode y = c) (hl : zlok ls2 (lv_args 0 a)) (k : zP c 0 ls2 [] σ Q) : zCa y a σ Q := by
  unfold zCa
  rw [h]
  exact w_at hl k
/-- stores of locals -/
def zok1 (ls : zLv) : Nat → Bool
  | 0 => true
  | k + 1 => match zld ls k with
    | some v => v.category != 2
    | none => true
theorem zld_cons (q : Nat × Value) (l : zLv) (i : Nat) : zld (q :: l) i = if q.1 = i then some q.2 else zld l i := by
  unfold zld
  rw [List.find?_cons]
  by_cases h : q.1 = i
  · have e : (q.1 == i) = true := by simpa using h
    rw [e, if_pos h]; rfl
  · have e : (q.1 == i) = false := by simpa using h
    rw [e, if_neg h]
theorem zld_filter {ls : zLv} {p : Nat × Value → Bool} {i : Nat} {v : Value} (h : zld ls i = some v) (hp : p (i, v) = true) : zld (ls.filter p) i = some v := by
  induction ls with
  | nil => cases h
  | cons q l ih =>
    rw [zld_cons] at h
    rw [List.filter_cons]
    by_cases hq : q.1 = i
    · rw [if_pos hq] at h
      cases h
      subst hq
      rw [if_pos hp, zld_cons, if_pos rfl]
    · rw [if_neg hq] at h
      split
      · rw [zld_cons, if_neg hq]; exact ih h
      · exact ih h
theorem zs1_ref {ls ls' : zLv} {k : Nat} {v : Value} (h : zref ls ls') (hk : zok1 ls k = true) : zref ((k, v) :: ls) (zs1 ls' k v) := by
  intro i x hx
  rw [zld_cons] at hx
  show zld ((k, v) :: _) i = some x
  rw [zld_cons]
  by_cases e : k = i
  · rw [if_pos e] at hx ⊢; exact hx
  · rw [if_neg e] at hx ⊢
    refine zld_filter (h i x hx) ?_
    have e1 : (i == k) = false := by simpa using fun q => e q.symm
    show (!(i == k) && !(i + 1 == k && x.category == 2)) = true
    rw [e1]
    cases k with
    | zero => simp
    | succ k =>
      by_cases e2 : i = k
      · subst e2
        have hk2 : (match zld ls i with
          | some v => v.category != 2
          | none => true) = true := hk
        rw [hx] at hk2
        have : x.category ≠ 2 := by simpa using hk2
        simp [this]
      · simp [e2]
theorem zs2_ref {ls ls' : zLv} {k : Nat} {v : Value} (h : zref ls ls') (hk : zok1 ls k = true) (h2 : zld ls (k + 1) = none) : zref ((k, v) :: ls) (zs2 ls' k v) := by
  intro i x hx
  rw [zld_cons] at hx
  show zld ((k, v) :: _) i = some x
  rw [zld_cons]
  by_cases e : k = i
  · rw [if_pos e] at hx ⊢; exact hx
  · rw [if_neg e] at hx ⊢
    have e3 : ¬ i = k + 1 := fun q => by rw [q, h2] at hx; cases hx
    refine zld_filter (h i x hx) ?_
    have e1 : (i == k) = false := by simpa using fun q => e q.symm
    show (!(i == k) && (!(i == k + 1) && !(i + 1 == k && x.category == 2))) = true
    rw [e1]
    cases k with
    | zero => simp [e3]
    | succ k =>
      by_cases e2 : i = k
      · subst e2
        have hk2 : (match zld ls i with
          | some v => v.category != 2
          | none => true) = true := hk
        rw [hx] at hk2
        have : x.category ≠ 2 := by simpa using hk2
        simp [this]; omega
      · simp [e2, e3]

theorem w_null (hk : zat c pc (.aconst_null) 1 t pc') (k : zP c pc' ls (.null :: st) σ Q) : zP c pc ls (st) σ Q := w_step hk rfl (fun ls' hr => ⟨ls', by simp only [zstp, zpst, zii, zi1, zll, zl1, zli, zdd, zd1, zgo, hk.2], hr⟩) k
theorem w_iconst {n : Int} (hk : zat c pc (.iconst n) 1 t pc') (k : zP c pc' ls (.int (Int32.ofInt n) :: st) σ Q) : zP c pc ls (st) σ Q := w_step hk rfl (fun ls' hr => ⟨ls', by simp only [zstp, zpst, zii, zi1, zll, zl1, zli, zdd, zd1, zgo, hk.2], hr⟩) k
theorem w_bipush {n : Int} (hk : zat c pc (.bipush n) 2 t pc') (k : zP c pc' ls (.int (Int8.ofInt n).toInt32 :: st) σ Q) : zP c pc ls (st) σ Q := w_step hk rfl (fun ls' hr => ⟨ls', by simp only [zstp, zpst, zii, zi1, zll, zl1, zli, zdd, zd1, zgo, hk.2], hr⟩) k
theorem w_sipush {n : Int} (hk : zat c pc (.sipush n) 3 t pc') (k : zP c pc' ls (.int (Int16.ofInt n).toInt32 :: st) σ Q) : zP c pc ls (st) σ Q := w_step hk rfl (fun ls' hr => ⟨ls', by simp only [zstp, zpst, zii, zi1, zll, zl1, zli, zdd, zd1, zgo, hk.2], hr⟩) k
theorem w_iadd {x y : Int32} (hk : zat c pc (.iadd) 1 t pc') (k : zP c pc' ls (.int (x + y) :: r) σ Q) : zP c pc ls (.int y :: .int x :: r) σ Q := w_step hk rfl (fun ls' hr => ⟨ls', by simp only [zstp, zpst, zii, zi1, zll, zl1, zli, zdd, zd1, zgo, hk.2], hr⟩) k
theorem w_isub {x y : Int32} (hk : zat c pc (.isub) 1 t pc') (k : zP c pc' ls (.int (x - y) :: r) σ Q) : zP c pc ls (.int y :: .int x :: r) σ Q := w_step hk rfl (fun ls' hr => ⟨ls', by simp only [zstp, zpst, zii, zi1, zll, zl1, zli, zdd, zd1, zgo, hk.2], hr⟩) k
theorem w_imul {x y : Int32} (hk : zat c pc (.imul) 1 t pc') (k : zP c pc' ls (.int (x * y) :: r) σ Q) : zP c pc ls (.int y :: .int x :: r) σ Q := w_step hk rfl (fun ls' hr => ⟨ls', by simp only [zstp, zpst, zii, zi1, zll, zl1, zli, zdd, zd1, zgo, hk.2], hr⟩) k
theorem w_iand {x y : Int32} (hk : zat c pc (.iand) 1 t pc') (k : zP c pc' ls (.int (x &&& y) :: r) σ Q) : zP c pc ls (.int y :: .int x :: r) σ Q := w_step hk rfl (fun ls' hr => ⟨ls', by simp only [zstp, zpst, zii, zi1, zll, zl1, zli, zdd, zd1, zgo, hk.2], hr⟩) k
theorem w_ior {x y : Int32} (hk : zat c pc (.ior) 1 t pc') (k : zP c pc' ls (.int (x ||| y) :: r) σ Q) : zP c pc ls (.int y :: .int x :: r) σ Q := w_step hk rfl (fun ls' hr => ⟨ls', by simp only [zstp, zpst, zii, zi1, zll, zl1, zli, zdd, zd1, zgo, hk.2], hr⟩) k
theorem w_ixor {x y : Int32} (hk : zat c pc (.ixor) 1 t pc') (k : zP c pc' ls (.int (x ^^^ y) :: r) σ Q) : zP c pc ls (.int y :: .int x :: r) σ Q := w_step hk rfl (fun ls' hr => ⟨ls', by simp only [zstp, zpst, zii, zi1, zll, zl1, zli, zdd, zd1, zgo, hk.2], hr⟩) k
theorem w_ishl {x y : Int32} (hk : zat c pc (.ishl) 1 t pc') (k : zP c pc' ls (.int (x <<< (y &&& 31)) :: r) σ Q) : zP c pc ls (.int y :: .int x :: r) σ Q := w_step hk rfl (fun ls' hr => ⟨ls', by simp only [zstp, zpst, zii, zi1, zll, zl1, zli, zdd, zd1, zgo, hk.2], hr⟩) k
theorem w_ishr {x y : Int32} (hk : zat c pc (.ishr) 1 t pc') (k : zP c pc' ls (.int (x >>> (y &&& 31)) :: r) σ Q) : zP c pc ls (.int y :: .int x :: r) σ Q := w_step hk rfl (fun ls' hr => ⟨ls', by simp only [zstp, zpst, zii, zi1, zll, zl1, zli, zdd, zd1, zgo, hk.2], hr⟩) k
theorem w_iushr {x y : Int32} (hk : zat c pc (.iushr) 1 t pc') (k : zP c pc' ls (.int ((x.toUInt32 >>> (y.toUInt32 &&& Int32.toUInt32 31)).toInt32) :: r) σ Q) : zP c pc ls (.int y :: .int x :: r) σ Q := w_step hk rfl (fun ls' hr => ⟨ls', by simp only [zstp, zpst, zii, zi1, zll, zl1, zli, zdd, zd1, zgo, hk.2], hr⟩) k
theorem w_idiv {x y : Int32} (hk : zat c pc (.idiv) 1 t pc') (hy : ¬ y = 0) (k : zP c pc' ls (.int (x / y) :: r) σ Q) : zP c pc ls (.int y :: .int x :: r) σ Q := w_step hk rfl (fun ls' hr => ⟨ls', by simp only [zstp, zpst, zii, zi1, zll, zl1, zli, zdd, zd1, zgo, hk.2, if_neg hy], hr⟩) k
theorem w_irem {x y : Int32} (hk : zat c pc (.irem) 1 t pc') (hy : ¬ y = 0) (k : zP c pc' ls (.int (x - x / y * y) :: r) σ Q) : zP c pc ls (.int y :: .int x :: r) σ Q := w_step hk rfl (fun ls' hr => ⟨ls', by simp only [zstp, zpst, zii, zi1, zll, zl1, zli, zdd, zd1, zgo, hk.2, if_neg hy], hr⟩) k
theorem w_ladd {x y : Int64} (hk : zat c pc (.ladd) 1 t pc') (k : zP c pc' ls (.long (x + y) :: r) σ Q) : zP c pc ls (.long y :: .long x :: r) σ Q := w_step hk rfl (fun ls' hr => ⟨ls', by simp only [zstp, zpst, zii, zi1, zll, zl1, zli, zdd, zd1, zgo, hk.2], hr⟩) k
theorem w_lsub {x y : Int64} (hk : zat c pc (.lsub) 1 t pc') (k : zP c pc' ls (.long (x - y) :: r) σ Q) : zP c pc ls (.long y :: .long x :: r) σ Q := w_step hk rfl (fun ls' hr => ⟨ls', by simp only [zstp, zpst, zii, zi1, zll, zl1, zli, zdd, zd1, zgo, hk.2], hr⟩) k
theorem w_lmul {x y : Int64} (hk : zat c pc (.lmul) 1 t pc') (k : zP c pc' ls (.long (x * y) :: r) σ Q) : zP c pc ls (.long y :: .long x :: r) σ Q := w_step hk rfl (fun ls' hr => ⟨ls', by simp only [zstp, zpst, zii, zi1, zll, zl1, zli, zdd, zd1, zgo, hk.2], hr⟩) k
theorem w_land {x y : Int64} (hk : zat c pc (.land) 1 t pc') (k : zP c pc' ls (.long (x &&& y) :: r) σ Q) : zP c pc ls (.long y :: .long x :: r) σ Q := w_step hk rfl (fun ls' hr => ⟨ls', by simp only [zstp, zpst, zii, zi1, zll, zl1, zli, zdd, zd1, zgo, hk.2], hr⟩) k
theorem w_lor {x y : Int64} (hk : zat c pc (.lor) 1 t pc') (k : zP c pc' ls (.long (x ||| y) :: r) σ Q) : zP c pc ls (.long y :: .long x :: r) σ Q := w_step hk rfl (fun ls' hr => ⟨ls', by simp only [zstp, zpst, zii, zi1, zll, zl1, zli, zdd, zd1, zgo, hk.2], hr⟩) k
theorem w_lxor {x y : Int64} (hk : zat c pc (.lxor) 1 t pc') (k : zP c pc' ls (.long (x ^^^ y) :: r) σ Q) : zP c pc ls (.long y :: .long x :: r) σ Q := w_step hk rfl (fun ls' hr => ⟨ls', by simp only [zstp, zpst, zii, zi1, zll, zl1, zli, zdd, zd1, zgo, hk.2], hr⟩) k
theorem w_ldiv {x y : Int64} (hk : zat c pc (.ldiv) 1 t pc') (hy : ¬ y = 0) (k : zP c pc' ls (.long (x / y) :: r) σ Q) : zP c pc ls (.long y :: .long x :: r) σ Q := w_step hk rfl (fun ls' hr => ⟨ls', by simp only [zstp, zpst, zii, zi1, zll, zl1, zli, zdd, zd1, zgo, hk.2, if_neg hy], hr⟩) k
theorem w_lrem {x y : Int64} (hk : zat c pc (.lrem) 1 t pc') (hy : ¬ y = 0) (k : zP c pc' ls (.long (x - x / y * y) :: r) σ Q) : zP c pc ls (.long y :: .long x :: r) σ Q := w_step hk rfl (fun ls' hr => ⟨ls', by simp only [zstp, zpst, zii, zi1, zll, zl1, zli, zdd, zd1, zgo, hk.2, if_neg hy], hr⟩) k
theorem w_lcmp {x y : Int64} (hk : zat c pc (.lcmp) 1 t pc') (k : zP c pc' ls (.int (lg_cmp x y) :: r) σ Q) : zP c pc ls (.long y :: .long x :: r) σ Q := w_step hk rfl (fun ls' hr => ⟨ls', by simp only [zstp, zpst, zii, zi1, zll, zl1, zli, zdd, zd1, zgo, hk.2], hr⟩) k
theorem w_lshl {x : Int64} {y : Int32} (hk : zat c pc (.lshl) 1 t pc') (k : zP c pc' ls (.long (x <<< (y.toInt64 &&& 63)) :: r) σ Q) : zP c pc ls (.int y :: .long x :: r) σ Q := w_step hk rfl (fun ls' hr => ⟨ls', by simp only [zstp, zpst, zii, zi1, zll, zl1, zli, zdd, zd1, zgo, hk.2], hr⟩) k
theorem w_lshr {x : Int64} {y : Int32} (hk : zat c pc (.lshr) 1 t pc') (k : zP c pc' ls (.long (x >>> (y.toInt64 &&& 63)) :: r) σ Q) : zP c pc ls (.int y :: .long x :: r) σ Q := w_step hk rfl (fun ls' hr => ⟨ls', by simp only [zstp, zpst, zii, zi1, zll, zl1, zli, zdd, zd1, zgo, hk.2], hr⟩) k
theorem w_lushr {x : Int64} {y : Int32} (hk : zat c pc (.lushr) 1 t pc') (k : zP c pc' ls (.long ((x.toUInt64 >>> (y.toInt64.toUInt64 &&& Int64.toUInt64 63)).toInt64) :: r) σ Q) : zP c pc ls (.int y :: .long x :: r) σ Q := w_step hk rfl (fun ls' hr => ⟨ls', by simp only [zstp, zpst, zii, zi1, zll, zl1, zli, zdd, zd1, zgo, hk.2], hr⟩) k
theorem w_ineg {x : Int32} (hk : zat c pc (.ineg) 1 t pc') (k : zP c pc' ls (.int (-x) :: r) σ Q) : zP c pc ls (.int x :: r) σ Q := w_step hk rfl (fun ls' hr => ⟨ls', by simp only [zstp, zpst, zii, zi1, zll, zl1, zli, zdd, zd1, zgo, hk.2], hr⟩) k
theorem w_i2l {x : Int32} (hk : zat c pc (.i2l) 1 t pc') (k : zP c pc' ls (.long x.toInt64 :: r) σ Q) : zP c pc ls (.int x :: r) σ Q := w_step hk rfl (fun ls' hr => ⟨ls', by simp only [zstp, zpst, zii, zi1, zll, zl1, zli, zdd, zd1, zgo, hk.2], hr⟩) k
theorem w_i2b {x : Int32} (hk : zat c pc (.i2b) 1 t pc') (k : zP c pc' ls (.int x.toInt8.toInt32 :: r) σ Q) : zP c pc ls (.int x :: r) σ Q := w_step hk rfl (fun ls' hr => ⟨ls', by simp only [zstp, zpst, zii, zi1, zll, zl1, zli, zdd, zd1, zgo, hk.2], hr⟩) k
theorem w_i2s {x : Int32} (hk : zat c pc (.i2s) 1 t pc') (k : zP c pc' ls (.int x.toInt16.toInt32 :: r) σ Q) : zP c pc ls (.int x :: r) σ Q := w_step hk rfl (fun ls' hr => ⟨ls', by simp only [zstp, zpst, zii, zi1, zll, zl1, zli, zdd, zd1, zgo, hk.2], hr⟩) k
theorem w_i2c {x : Int32} (hk : zat c pc (.i2c) 1 t pc') (k : zP c pc' ls (.int (x.toUInt32 % 65536).toInt32 :: r) σ Q) : zP c pc ls (.int x :: r) σ Q := w_step hk rfl (fun ls' hr => ⟨ls', by simp only [zstp, zpst, zii, zi1, zll, zl1, zli, zdd, zd1, zgo, hk.2], hr⟩) k
theorem w_i2d {x : Int32} (hk : zat c pc (.i2d) 1 t pc') (k : zP c pc' ls (.double (FP.i2d x) :: r) σ Q) : zP c pc ls (.int x :: r) σ Q := w_step hk rfl (fun ls' hr => ⟨ls', by simp only [zstp, zpst, zii, zi1, zll, zl1, zli, zdd, zd1, zgo, hk.2], hr⟩) k
theorem w_lneg {x : Int64} (hk : zat c pc (.lneg) 1 t pc') (k : zP c pc' ls (.long (-x) :: r) σ Q) : zP c pc ls (.long x :: r) σ Q := w_step hk rfl (fun ls' hr => ⟨ls', by simp only [zstp, zpst, zii, zi1, zll, zl1, zli, zdd, zd1, zgo, hk.2], hr⟩) k
theorem w_l2i {x : Int64} (hk : zat c pc (.l2i) 1 t pc') (k : zP c pc' ls (.int x.toInt32 :: r) σ Q) : zP c pc ls (.long x :: r) σ Q := w_step hk rfl (fun ls' hr => ⟨ls', by simp only [zstp, zpst, zii, zi1, zll, zl1, zli, zdd, zd1, zgo, hk.2], hr⟩) k
theorem w_l2f {x : Int64} (hk : zat c pc (.l2f) 1 t pc') (k : zP c pc' ls (.float (FP.l2f x) :: r) σ Q) : zP c pc ls (.long x :: r) σ Q := w_step hk rfl (fun ls' hr => ⟨ls', by simp only [zstp, zpst, zii, zi1, zll, zl1, zli, zdd, zd1, zgo, hk.2], hr⟩) k
theorem w_l2d {x : Int64} (hk : zat c pc (.l2d) 1 t pc') (k : zP c pc' ls (.double (FP.l2d x) :: r) σ Q) : zP c pc ls (.long x :: r) σ Q := w_step hk rfl (fun ls' hr => ⟨ls', by simp only [zstp, zpst, zii, zi1, zll, zl1, zli, zdd, zd1, zgo, hk.2], hr⟩) k
theorem w_dneg {x : UInt64} (hk : zat c pc (.dneg) 1 t pc') (k : zP c pc' ls (.double (FP.dneg x) :: r) σ Q) : zP c pc ls (.double x :: r) σ Q := w_step hk rfl (fun ls' hr => ⟨ls', by simp only [zstp, zpst, zii, zi1, zll, zl1, zli, zdd, zd1, zgo, hk.2, Option.map_some], hr⟩) k
theorem w_d2i {x : UInt64} (hk : zat c pc (.d2i) 1 t pc') (k : zP c pc' ls (.int (FP.d2i x) :: r) σ Q) : zP c pc ls (.double x :: r) σ Q := w_step hk rfl (fun ls' hr => ⟨ls', by simp only [zstp, zpst, zii, zi1, zll, zl1, zli, zdd, zd1, zgo, hk.2, Option.map_some], hr⟩) k
theorem w_d2l {x : UInt64} (hk : zat c pc (.d2l) 1 t pc') (k : zP c pc' ls (.long (FP.d2l x) :: r) σ Q) : zP c pc ls (.double x :: r) σ Q := w_step hk rfl (fun ls' hr => ⟨ls', by simp only [zstp, zpst, zii, zi1, zll, zl1, zli, zdd, zd1, zgo, hk.2, Option.map_some], hr⟩) k
theorem w_d2f {x : UInt64} {v : Value} (hk : zat c pc (.d2f) 1 t pc') (hv : zF (FP.d2f x) = some v) (k : zP c pc' ls (v :: r) σ Q) : zP c pc ls (.double x :: r) σ Q := w_step hk rfl (fun ls' hr => ⟨ls', by simp only [zstp, zpst, zii, zi1, zll, zl1, zli, zdd, zd1, zgo, hk.2, hv, Option.map_some], hr⟩) k
theorem w_f2d {x : UInt32} {v : Value} (hk : zat c pc (.f2d) 1 t pc') (hv : zD (FP.f2d x) = some v) (k : zP c pc' ls (v :: r) σ Q) : zP c pc ls (.float x :: r) σ Q := w_step hk rfl (fun ls' hr => ⟨ls', by simp only [zstp, zpst, zii, zi1, zll, zl1, zli, zdd, zd1, zgo, hk.2, hv, Option.map_some], hr⟩) k
theorem w_dadd {x y : UInt64} {v : Value} (hk : zat c pc (.dadd) 1 t pc') (hv : zD (FP.dadd x y) = some v) (k : zP c pc' ls (v :: r) σ Q) : zP c pc ls (.double y :: .double x :: r) σ Q := w_step hk rfl (fun ls' hr => ⟨ls', by simp only [zstp, zpst, zii, zi1, zll, zl1, zli, zdd, zd1, zgo, hk.2, hv, Option.map_some], hr⟩) k
theorem w_dmul {x y : UInt64} {v : Value} (hk : zat c pc (.dmul) 1 t pc') (hv : zD (FP.dmul x y) = some v) (k : zP c pc' ls (v :: r) σ Q) : zP c pc ls (.double y :: .double x :: r) σ Q := w_step hk rfl (fun ls' hr => ⟨ls', by simp only [zstp, zpst, zii, zi1, zll, zl1, zli, zdd, zd1, zgo, hk.2, hv, Option.map_some], hr⟩) k
theorem w_ddiv {x y : UInt64} {v : Value} (hk : zat c pc (.ddiv) 1 t pc') (hv : zD (FP.ddiv x y) = some v) (k : zP c pc' ls (v :: r) σ Q) : zP c pc ls (.double y :: .double x :: r) σ Q := w_step hk rfl (fun ls' hr => ⟨ls', by simp only [zstp, zpst, zii, zi1, zll, zl1, zli, zdd, zd1, zgo, hk.2, hv, Option.map_some], hr⟩) k
theorem w_fdiv {x y : UInt32} {v : Value} (hk : zat c pc (.fdiv) 1 t pc') (hv : zF (FP.fdiv x y) = some v) (k : zP c pc' ls (v :: r) σ Q) : zP c pc ls (.float y :: .float x :: r) σ Q := w_step hk rfl (fun ls' hr => ⟨ls', by simp only [zstp, zpst, zii, zi1, zll, zl1, zli, zdd, zd1, zgo, hk.2, hv, Option.map_some], hr⟩) k
theorem w_dcmp {x y : UInt64} {op : _} (hk : zat c pc (.dcmp op) 1 t pc') (k : zP c pc' ls (.int (Op.cmpValue (FP.dcmp x y) op) :: r) σ Q) : zP c pc ls (.double y :: .double x :: r) σ Q := w_step hk rfl (fun ls' hr => ⟨ls', by simp only [zstp, zpst, zdd, zgo, hk.2, Option.map_some], hr⟩) k
theorem w_fcmp {x y : UInt32} {op : _} (hk : zat c pc (.fcmp op) 1 t pc') (k : zP c pc' ls (.int (Op.cmpValue (FP.fcmp x y) op) :: r) σ Q) : zP c pc ls (.float y :: .float x :: r) σ Q := w_step hk rfl (fun ls' hr => ⟨ls', by simp only [zstp, zpst, zgo, hk.2], hr⟩) k
theorem w_lconst {n : _} (hk : zat c pc (.lconst n) 1 t pc') (k : zP c pc' ls (.long (Int64.ofNat (n : Nat)) :: st) σ Q) : zP c pc ls st σ Q := w_step hk rfl (fun ls' hr => ⟨ls', by simp only [zstp, zpst, zgo, hk.2], hr⟩) k
theorem w_dconst0 (hk : zat c pc (.dconst 0) 1 t pc') (k : zP c pc' ls (.double 0 :: st) σ Q) : zP c pc ls st σ Q := w_step hk rfl (fun ls' hr => ⟨ls', by simp only [zstp, zpst, zgo, hk.2], hr⟩) k
theorem w_dconst1 (hk : zat c pc (.dconst 1) 1 t pc') (k : zP c pc' ls (.double 0x3ff0000000000000 :: st) σ Q) : zP c pc ls st σ Q := w_step hk rfl (fun ls' hr => ⟨ls', by simp only [zstp, zpst, zgo, hk.2], hr⟩) k
theorem w_dupI {x : Int32} (hk : zat c pc .dup 1 t pc') (k : zP c pc' ls (.int x :: .int x :: r) σ Q) : zP c pc ls (.int x :: r) σ Q := w_step hk rfl (fun ls' hr => ⟨ls', by simp only [zstp, zpst, zgo, hk.2], hr⟩) k
theorem w_popI {x : Int32} (hk : zat c pc .pop 1 t pc') (k : zP c pc' ls r σ Q) : zP c pc ls (.int x :: r) σ Q := w_step hk rfl (fun ls' hr => ⟨ls', by simp only [zstp, zpst, zgo, hk.2], hr⟩) k
theorem w_dupR {x : Nat} (hk : zat c pc .dup 1 t pc') (k : zP c pc' ls (.ref x :: .ref x :: r) σ Q) : zP c pc ls (.ref x :: r) σ Q := w_step hk rfl (fun ls' hr => ⟨ls', by simp only [zstp, zpst, zgo, hk.2], hr⟩) k
theorem w_popR {x : Nat} (hk : zat c pc .pop 1 t pc') (k : zP c pc' ls r σ Q) : zP c pc ls (.ref x :: r) σ Q := w_step hk rfl (fun ls' hr => ⟨ls', by simp only [zstp, zpst, zgo, hk.2], hr⟩) k
theorem w_dup2L {x : Int64} (hk : zat c pc .dup2 1 t pc') (k : zP c pc' ls (.long x :: .long x :: r) σ Q) : zP c pc ls (.long x :: r) σ Q := w_step hk rfl (fun ls' hr => ⟨ls', by simp only [zstp, zpst, zgo, hk.2], hr⟩) k
theorem w_dup2 {y : Int32} {x : Nat} (hk : zat c pc .dup2 1 t pc') (k : zP c pc' ls (.int y :: .ref x :: .int y :: .ref x :: r) σ Q) : zP c pc ls (.int y :: .ref x :: r) σ Q := w_step hk rfl (fun ls' hr => ⟨ls', by simp only [zstp, zpst, zgo, hk.2], hr⟩) k
theorem w_goto {off : Int} {pcT : Nat} (hk : zat c pc (.goto off) 3 t pc') (ht : zjp pc off = pcT) (k : zP c pcT ls st σ Q) : zP c pc ls st σ Q := w_step hk rfl (fun ls' hr => ⟨ls', by simp only [zstp, zpst, zbr, zgo, ht, if_true], hr⟩) k
theorem w_br {st' : List Value} {b : Bool} {off : Int} {pcT : Nat} (hk : zat c pc i len t pc') (hcal : zcal i = none) (hp : zpst i st = none) (hb : zbr i st = some (b, off, st')) (ht : zjp pc off = pcT) (k1 : b = true → zP c pcT ls st' σ Q) (k2 : b = false → zP c pc' ls st' σ Q) : zP c pc ls st σ Q := by
  cases b with
  | true => exact w_step hk hcal (fun ls' hr => ⟨ls', by simp only [zstp, hp, hb, zgo, ht, if_true], hr⟩) (k1 rfl)
  | false => exact w_step hk hcal (fun ls' hr => ⟨ls', by simp only [zstp, hp, hb, zgo, hk.2, Bool.false_eq_true, if_false], hr⟩) (k2 rfl)
end ZWP
/-- ints, longs by whole numbers -/
def iZ (z : Int) : Int32 := Int32.ofInt z
def lZ (z : Int) : Int64 := Int64.ofInt z
theorem iZ_to {a : Int} (h : -2147483648 ≤ a ∧ a ≤ 2147483647) : (iZ a).toInt = a := Int32.toInt_ofInt_of_le (by omega) (by omega)
theorem lZ_to {a : Int} (h : -9223372036854775808 ≤ a ∧ a ≤ 9223372036854775807) : (lZ a).toInt = a := Int64.toInt_ofInt_of_le (by omega) (by omega)
theorem iZ_of (x : Int32) : x = iZ x.toInt := (Int32.ofInt_toInt x).symm
theorem lZ_of (x : Int64) : x = lZ x.toInt := (Int64.ofInt_toInt x).symm
theorem iZ_rng (x : Int32) : -2147483648 ≤ x.toInt ∧ x.toInt ≤ 2147483647 := ⟨x.le_toInt, by have := x.toInt_lt; omega⟩
theorem iZ_inj {a b : Int} (ha : -2147483648 ≤ a ∧ a ≤ 2147483647) (hb : -2147483648 ≤ b ∧ b ≤ 2147483647) : iZ a = iZ b ↔ a = b := ⟨fun h => by rw [← iZ_to ha, h, iZ_to hb], fun h => by rw [h]⟩
theorem iZ_lt {a b : Int} (ha : -2147483648 ≤ a ∧ a ≤ 2147483647) (hb : -2147483648 ≤ b ∧ b ≤ 2147483647) : iZ a < iZ b ↔ a < b := by rw [Int32.lt_iff_toInt_lt, iZ_to ha, iZ_to hb]
theorem iZ_le {a b : Int} (ha : -2147483648 ≤ a ∧ a ≤ 2147483647) (hb : -2147483648 ≤ b ∧ b ≤ 2147483647) : iZ a ≤ iZ b ↔ a ≤ b := by rw [Int32.le_iff_toInt_le, iZ_to ha, iZ_to hb]
theorem lZ_inj {a b : Int} (ha : -9223372036854775808 ≤ a ∧ a ≤ 9223372036854775807) (hb : -9223372036854775808 ≤ b ∧ b ≤ 9223372036854775807) : lZ a = lZ b ↔ a = b := ⟨fun h => by rw [← lZ_to ha, h, lZ_to hb], fun h => by rw [h]⟩
theorem lZ_lt {a b : Int} (ha : -9223372036854775808 ≤ a ∧ a ≤ 9223372036854775807) (hb : -9223372036854775808 ≤ b ∧ b ≤ 9223372036854775807) : lZ a < lZ b ↔ a < b := by rw [Int64.lt_iff_toInt_lt, lZ_to ha, lZ_to hb]
theorem lZ_le {a b : Int} (ha : -9223372036854775808 ≤ a ∧ a ≤ 9223372036854775807) (hb : -9223372036854775808 ≤ b ∧ b ≤ 9223372036854775807) : lZ a ≤ lZ b ↔ a ≤ b := by rw [Int64.le_iff_toInt_le, lZ_to ha, lZ_to hb]
theorem iZ_add (a b : Int) : iZ a + iZ b = iZ (a + b) := (Int32.ofInt_add a b).symm
theorem iZ_sub (a b : Int) : iZ a - iZ b = iZ (a - b) := (Int32.ofInt_sub a b).symm
theorem iZ_mul (a b : Int) : iZ a * iZ b = iZ (a * b) := (Int32.ofInt_mul a b).symm
theorem lZ_add (a b : Int) : lZ a + lZ b = lZ (a + b) := (Int64.ofInt_add a b).symm
theorem lZ_sub (a b : Int) : lZ a - lZ b = lZ (a - b) := (Int64.ofInt_sub a b).symm
theorem lZ_mul (a b : Int) : lZ a * lZ b = lZ (a * b) := (Int64.ofInt_mul a b).symm
theorem iZ_clamp {j : Nat} (h : j ≤ 2147483647) : (iZ j).toNatClampNeg = j := by
  show (iZ j).toInt.toNat = j
  rw [iZ_to (by omega)]; rfl
theorem iZ_l {a : Int} (h : -2147483648 ≤ a ∧ a ≤ 2147483647) : (iZ a).toInt64 = lZ a := by
  apply Int64.toInt_inj.mp
  rw [Int32.toInt_toInt64, iZ_to h, lZ_to (by omega)]
theorem lZ_i (a : Int) : (lZ a).toInt32 = iZ a := Int64.toInt32_ofInt
theorem iZ_div {a b : Int} (ha : 0 ≤ a ∧ a ≤ 2147483647) (hb : 0 < b ∧ b ≤ 2147483647) : iZ a / iZ b = iZ (a / b) := by
  have h1 : a / b ≤ a := Int.ediv_le_self _ ha.1
  have h2 : 0 ≤ a / b := Int.ediv_nonneg ha.1 (by omega)
  apply Int32.toInt_inj.mp
  rw [Int32.toInt_div_of_ne_right _ _ (fun h => by have := congrArg Int32.toInt h; rw [iZ_to (by omega)] at this; have e : (-1 : Int32).toInt = -1 := rfl; rw [e] at this; omega), iZ_to (by omega), iZ_to (by omega), iZ_to (by omega), Int.tdiv_eq_ediv_of_nonneg ha.1]
theorem iZ_mod {a b : Int} (ha : 0 ≤ a ∧ a ≤ 2147483647) (hb : 0 < b ∧ b ≤ 2147483647) : iZ a - iZ a / iZ b * iZ b = iZ (a % b) := by
  rw [iZ_div ha hb, iZ_mul, iZ_sub, Int.emod_def, Int.mul_comm]
/-- yes or no -/
def iB (p : Prop) [Decidable p] : Int32 := if p then iZ 1 else iZ 0
section ZWP
variable {c : zCode} {pc pc' len t : Nat} {ls : zLv} {st r : List Value} {σ : zSt} {Q : zSt → Option Value → Prop} {i : Instr}
theorem w_ifI_eq {x : Int32} {off : Int} {pcT : Nat} (hk : zat c pc (.ifCond .eq off) 3 t pc') (ht : zjp pc off = pcT) (k1 : x = 0 → zP c pcT ls r σ Q) (k2 : ¬ (x = 0) → zP c pc' ls r σ Q) : zP c pc ls (.int x :: r) σ Q := w_br hk rfl rfl rfl ht (fun h => k1 (of_decide_eq_true h)) (fun h => k2 ((of_decide_eq_false h)))
theorem w_icI_eq {x y : Int32} {off : Int} {pcT : Nat} (hk : zat c pc (.if_icmp .eq off) 3 t pc') (ht : zjp pc off = pcT) (k1 : x = y → zP c pcT ls r σ Q) (k2 : ¬ (x = y) → zP c pc' ls r σ Q) : zP c pc ls (.int y :: .int x :: r) σ Q := w_br hk rfl rfl rfl ht (fun h => k1 (of_decide_eq_true h)) (fun h => k2 ((of_decide_eq_false h)))
theorem w_ic_eq {a b : Int} {off : Int} {pcT : Nat} (hk : zat c pc (.if_icmp .eq off) 3 t pc') (ht : zjp pc off = pcT) (ha : -2147483648 ≤ a ∧ a ≤ 2147483647) (hb : -2147483648 ≤ b ∧ b ≤ 2147483647) (k1 : a = b → zP c pcT ls r σ Q) (k2 : ¬ a = b → zP c pc' ls r σ Q) : zP c pc ls (.int (iZ b) :: .int (iZ a) :: r) σ Q := w_icI_eq hk ht (fun h => k1 ((iZ_inj ha hb).mp h)) (fun h => k2 ((show ¬ (a = b) → ¬ a = b from id) (fun q => h ((iZ_inj ha hb).mpr q))))
theorem w_if_eq {a : Int} {off : Int} {pcT : Nat} (hk : zat c pc (.ifCond .eq off) 3 t pc') (ht : zjp pc off = pcT) (ha : -2147483648 ≤ a ∧ a ≤ 2147483647) (k1 : a = 0 → zP c pcT ls r σ Q) (k2 : ¬ a = 0 → zP c pc' ls r σ Q) : zP c pc ls (.int (iZ a) :: r) σ Q := by
  have hb : -2147483648 ≤ (0 : Int) ∧ (0 : Int) ≤ 2147483647 := by decide
  exact w_ifI_eq hk ht (fun h => k1 ((show _ ↔ a = 0 from iZ_inj ha hb).mp h)) (fun h => k2 ((show ¬ (a = 0) → ¬ a = 0 from id) (fun q => h ((show _ ↔ a = 0 from iZ_inj ha hb).mpr q))))
theorem w_icT_eq {a b : Int} {off : Int} {pcT : Nat} (hk : zat c pc (.if_icmp .eq off) 3 t pc') (ht : zjp pc off = pcT) (hab : (-2147483648 ≤ a ∧ a ≤ 2147483647) ∧ (-2147483648 ≤ b ∧ b ≤ 2147483647) ∧ a = b) (k1 : zP c pcT ls r σ Q) : zP c pc ls (.int (iZ b) :: .int (iZ a) :: r) σ Q := w_ic_eq hk ht hab.1 hab.2.1 (fun _ => k1) (fun h => by have := hab.2.2; exact absurd this h)
theorem w_icF_eq {a b : Int} {off : Int} (hk : zat c pc (.if_icmp .eq off) 3 t pc') (hab : (-2147483648 ≤ a ∧ a ≤ 2147483647) ∧ (-2147483648 ≤ b ∧ b ≤ 2147483647) ∧ ¬ a = b) (k1 : zP c pc' ls r σ Q) : zP c pc ls (.int (iZ b) :: .int (iZ a) :: r) σ Q := w_ic_eq hk rfl hab.1 hab.2.1 (fun h => by have := hab.2.2; exact absurd h this) (fun _ => k1)
theorem w_ifT_eq {a : Int} {off : Int} {pcT : Nat} (hk : zat c pc (.ifCond .eq off) 3 t pc') (ht : zjp pc off = pcT) (hab : (-2147483648 ≤ a ∧ a ≤ 2147483647) ∧ a = 0) (k1 : zP c pcT ls r σ Q) : zP c pc ls (.int (iZ a) :: r) σ Q := w_if_eq hk ht hab.1 (fun _ => k1) (fun h => by have := hab.2; exact absurd this h)
theorem w_ifF_eq {a : Int} {off : Int} (hk : zat c pc (.ifCond .eq off) 3 t pc') (hab : (-2147483648 ≤ a ∧ a ≤ 2147483647) ∧ ¬ a = 0) (k1 : zP c pc' ls r σ Q) : zP c pc ls (.int (iZ a) :: r) σ Q := w_if_eq hk rfl hab.1 (fun h => by have := hab.2; exact absurd h this) (fun _ => k1)
theorem zc_eq (x y : Int64) : (lg_cmp x y = 0) ↔ x = y := by
  unfold lg_cmp
  simp only [gt_iff_lt, Int64.lt_iff_toInt_lt, Int64.le_iff_toInt_le, ← Int64.toInt_inj]
  repeat' split
  all_goals (constructor <;> intro hh <;> first | omega | decide | exact absurd hh (by decide))
theorem w_ifc_eq {x y : Int64} {off : Int} {pcT : Nat} (hk : zat c pc (.ifCond .eq off) 3 t pc') (ht : zjp pc off = pcT) (k1 : x = y → zP c pcT ls r σ Q) (k2 : ¬ x = y → zP c pc' ls r σ Q) : zP c pc ls (.int (lg_cmp x y) :: r) σ Q := w_ifI_eq hk ht (fun h => k1 ((zc_eq x y).mp h)) (fun h => k2 ((show ¬ (x = y) → ¬ x = y from id) (fun q => h ((zc_eq x y).mpr q))))
theorem w_ify_eq {a b : Int} {off : Int} {pcT : Nat} (hk : zat c pc (.ifCond .eq off) 3 t pc') (ht : zjp pc off = pcT) (ha : -9223372036854775808 ≤ a ∧ a ≤ 9223372036854775807) (hb : -9223372036854775808 ≤ b ∧ b ≤ 9223372036854775807) (k1 : a = b → zP c pcT ls r σ Q) (k2 : ¬ a = b → zP c pc' ls r σ Q) : zP c pc ls (.int (lg_cmp (lZ a) (lZ b)) :: r) σ Q := w_ifI_eq hk ht (fun h => k1 ((lZ_inj ha hb).mp ((zc_eq _ _).mp h))) (fun h => k2 ((show ¬ (a = b) → ¬ a = b from id) (fun q => h ((zc_eq _ _).mpr ((lZ_inj ha hb).mpr q)))))
theorem w_ifI_ne {x : Int32} {off : Int} {pcT : Nat} (hk : zat c pc (.ifCond .ne off) 3 t pc') (ht : zjp pc off = pcT) (k1 : ¬ x = 0 → zP c pcT ls r σ Q) (k2 : x = 0 → zP c pc' ls r σ Q) : zP c pc ls (.int x :: r) σ Q := w_br hk rfl rfl rfl ht (fun h => k1 (of_decide_eq_true h)) (fun h => k2 (Classical.not_not.mp (of_decide_eq_false h)))
theorem w_icI_ne {x y : Int32} {off : Int} {pcT : Nat} (hk : zat c pc (.if_icmp .ne off) 3 t pc') (ht : zjp pc off = pcT) (k1 : ¬ x = y → zP c pcT ls r σ Q) (k2 : x = y → zP c pc' ls r σ Q) : zP c pc ls (.int y :: .int x :: r) σ Q := w_br hk rfl rfl rfl ht (fun h => k1 (of_decide_eq_true h)) (fun h => k2 (Classical.not_not.mp (of_decide_eq_false h)))
theorem w_ic_ne {a b : Int} {off : Int} {pcT : Nat} (hk : zat c pc (.if_icmp .ne off) 3 t pc') (ht : zjp pc off = pcT) (ha : -2147483648 ≤ a ∧ a ≤ 2147483647) (hb : -2147483648 ≤ b ∧ b ≤ 2147483647) (k1 : ¬ a = b → zP c pcT ls r σ Q) (k2 : a = b → zP c pc' ls r σ Q) : zP c pc ls (.int (iZ b) :: .int (iZ a) :: r) σ Q := w_icI_ne hk ht (fun h => k1 ((not_congr (iZ_inj ha hb)).mp h)) (fun h => k2 ((iZ_inj ha hb).mp h))
theorem w_if_ne {a : Int} {off : Int} {pcT : Nat} (hk : zat c pc (.ifCond .ne off) 3 t pc') (ht : zjp pc off = pcT) (ha : -2147483648 ≤ a ∧ a ≤ 2147483647) (k1 : ¬ a = 0 → zP c pcT ls r σ Q) (k2 : a = 0 → zP c pc' ls r σ Q) : zP c pc ls (.int (iZ a) :: r) σ Q := by
  have hb : -2147483648 ≤ (0 : Int) ∧ (0 : Int) ≤ 2147483647 := by decide
  exact w_ifI_ne hk ht (fun h => k1 ((show _ ↔ ¬ a = 0 from not_congr (iZ_inj ha hb)).mp h)) (fun h => k2 ((show _ ↔ a = 0 from iZ_inj ha hb).mp h))
theorem w_icT_ne {a b : Int} {off : Int} {pcT : Nat} (hk : zat c pc (.if_icmp .ne off) 3 t pc') (ht : zjp pc off = pcT) (hab : (-2147483648 ≤ a ∧ a ≤ 2147483647) ∧ (-2147483648 ≤ b ∧ b ≤ 2147483647) ∧ ¬ a = b) (k1 : zP c pcT ls r σ Q) : zP c pc ls (.int (iZ b) :: .int (iZ a) :: r) σ Q := w_ic_ne hk ht hab.1 hab.2.1 (fun _ => k1) (fun h => by have := hab.2.2; exact absurd h this)
theorem w_icF_ne {a b : Int} {off : Int} (hk : zat c pc (.if_icmp .ne off) 3 t pc') (hab : (-2147483648 ≤ a ∧ a ≤ 2147483647) ∧ (-2147483648 ≤ b ∧ b ≤ 2147483647) ∧ a = b) (k1 : zP c pc' ls r σ Q) : zP c pc ls (.int (iZ b) :: .int (iZ a) :: r) σ Q := w_ic_ne hk rfl hab.1 hab.2.1 (fun h => by have := hab.2.2; exact absurd this h) (fun _ => k1)
theorem w_ifT_ne {a : Int} {off : Int} {pcT : Nat} (hk : zat c pc (.ifCond .ne off) 3 t pc') (ht : zjp pc off = pcT) (hab : (-2147483648 ≤ a ∧ a ≤ 2147483647) ∧ ¬ a = 0) (k1 : zP c pcT ls r σ Q) : zP c pc ls (.int (iZ a) :: r) σ Q := w_if_ne hk ht hab.1 (fun _ => k1) (fun h => by have := hab.2; exact absurd h this)
theorem w_ifF_ne {a : Int} {off : Int} (hk : zat c pc (.ifCond .ne off) 3 t pc') (hab : (-2147483648 ≤ a ∧ a ≤ 2147483647) ∧ a = 0) (k1 : zP c pc' ls r σ Q) : zP c pc ls (.int (iZ a) :: r) σ Q := w_if_ne hk rfl hab.1 (fun h => by have := hab.2; exact absurd this h) (fun _ => k1)
theorem zc_ne (x y : Int64) : (¬ lg_cmp x y = 0) ↔ ¬ x = y := by
  unfold lg_cmp
  simp only [gt_iff_lt, Int64.lt_iff_toInt_lt, Int64.le_iff_toInt_le, ← Int64.toInt_inj]
  repeat' split
  all_goals (constructor <;> intro hh <;> first | omega | decide | exact absurd hh (by decide))
theorem w_ifc_ne {x y : Int64} {off : Int} {pcT : Nat} (hk : zat c pc (.ifCond .ne off) 3 t pc') (ht : zjp pc off = pcT) (k1 : ¬ x = y → zP c pcT ls r σ Q) (k2 : x = y → zP c pc' ls r σ Q) : zP c pc ls (.int (lg_cmp x y) :: r) σ Q := w_ifI_ne hk ht (fun h => k1 ((zc_ne x y).mp h)) (fun h => k2 ((zc_eq x y).mp h))
theorem w_ify_ne {a b : Int} {off : Int} {pcT : Nat} (hk : zat c pc (.ifCond .ne off) 3 t pc') (ht : zjp pc off = pcT) (ha : -9223372036854775808 ≤ a ∧ a ≤ 9223372036854775807) (hb : -9223372036854775808 ≤ b ∧ b ≤ 9223372036854775807) (k1 : ¬ a = b → zP c pcT ls r σ Q) (k2 : a = b → zP c pc' ls r σ Q) : zP c pc ls (.int (lg_cmp (lZ a) (lZ b)) :: r) σ Q := w_ifI_ne hk ht (fun h => k1 ((not_congr (lZ_inj ha hb)).mp ((zc_ne _ _).mp h))) (fun h => k2 ((lZ_inj ha hb).mp ((zc_eq _ _).mp h)))
theorem w_ifI_lt {x : Int32} {off : Int} {pcT : Nat} (hk : zat c pc (.ifCond .lt off) 3 t pc') (ht : zjp pc off = pcT) (k1 : x < 0 → zP c pcT ls r σ Q) (k2 : ¬ (x < 0) → zP c pc' ls r σ Q) : zP c pc ls (.int x :: r) σ Q := w_br hk rfl rfl rfl ht (fun h => k1 (of_decide_eq_true h)) (fun h => k2 ((of_decide_eq_false h)))
theorem w_icI_lt {x y : Int32} {off : Int} {pcT : Nat} (hk : zat c pc (.if_icmp .lt off) 3 t pc') (ht : zjp pc off = pcT) (k1 : x < y → zP c pcT ls r σ Q) (k2 : ¬ (x < y) → zP c pc' ls r σ Q) : zP c pc ls (.int y :: .int x :: r) σ Q := w_br hk rfl rfl rfl ht (fun h => k1 (of_decide_eq_true h)) (fun h => k2 ((of_decide_eq_false h)))
theorem w_ic_lt {a b : Int} {off : Int} {pcT : Nat} (hk : zat c pc (.if_icmp .lt off) 3 t pc') (ht : zjp pc off = pcT) (ha : -2147483648 ≤ a ∧ a ≤ 2147483647) (hb : -2147483648 ≤ b ∧ b ≤ 2147483647) (k1 : a < b → zP c pcT ls r σ Q) (k2 : b ≤ a → zP c pc' ls r σ Q) : zP c pc ls (.int (iZ b) :: .int (iZ a) :: r) σ Q := w_icI_lt hk ht (fun h => k1 ((iZ_lt ha hb).mp h)) (fun h => k2 ((show ¬ (a < b) → b ≤ a from fun q => by omega) (fun q => h ((iZ_lt ha hb).mpr q))))
theorem w_if_lt {a : Int} {off : Int} {pcT : Nat} (hk : zat c pc (.ifCond .lt off) 3 t pc') (ht : zjp pc off = pcT) (ha : -2147483648 ≤ a ∧ a ≤ 2147483647) (k1 : a < 0 → zP c pcT ls r σ Q) (k2 : 0 ≤ a → zP c pc' ls r σ Q) : zP c pc ls (.int (iZ a) :: r) σ Q := by
  have hb : -2147483648 ≤ (0 : Int) ∧ (0 : Int) ≤ 2147483647 := by decide
  exact w_ifI_lt hk ht (fun h => k1 ((show _ ↔ a < 0 from iZ_lt ha hb).mp h)) (fun h => k2 ((show ¬ (a < 0) → 0 ≤ a from fun q => by omega) (fun q => h ((show _ ↔ a < 0 from iZ_lt ha hb).mpr q))))
theorem w_icT_lt {a b : Int} {off : Int} {pcT : Nat} (hk : zat c pc (.if_icmp .lt off) 3 t pc') (ht : zjp pc off = pcT) (hab : (-2147483648 ≤ a ∧ a ≤ 2147483647) ∧ (-2147483648 ≤ b ∧ b ≤ 2147483647) ∧ a < b) (k1 : zP c pcT ls r σ Q) : zP c pc ls (.int (iZ b) :: .int (iZ a) :: r) σ Q := w_ic_lt hk ht hab.1 hab.2.1 (fun _ => k1) (fun h => by have := hab.2.2; omega)
theorem w_icF_lt {a b : Int} {off : Int} (hk : zat c pc (.if_icmp .lt off) 3 t pc') (hab : (-2147483648 ≤ a ∧ a ≤ 2147483647) ∧ (-2147483648 ≤ b ∧ b ≤ 2147483647) ∧ b ≤ a) (k1 : zP c pc' ls r σ Q) : zP c pc ls (.int (iZ b) :: .int (iZ a) :: r) σ Q := w_ic_lt hk rfl hab.1 hab.2.1 (fun h => by have := hab.2.2; omega) (fun _ => k1)
theorem w_ifT_lt {a : Int} {off : Int} {pcT : Nat} (hk : zat c pc (.ifCond .lt off) 3 t pc') (ht : zjp pc off = pcT) (hab : (-2147483648 ≤ a ∧ a ≤ 2147483647) ∧ a < 0) (k1 : zP c pcT ls r σ Q) : zP c pc ls (.int (iZ a) :: r) σ Q := w_if_lt hk ht hab.1 (fun _ => k1) (fun h => by have := hab.2; omega)
theorem w_ifF_lt {a : Int} {off : Int} (hk : zat c pc (.ifCond .lt off) 3 t pc') (hab : (-2147483648 ≤ a ∧ a ≤ 2147483647) ∧ 0 ≤ a) (k1 : zP c pc' ls r σ Q) : zP c pc ls (.int (iZ a) :: r) σ Q := w_if_lt hk rfl hab.1 (fun h => by have := hab.2; omega) (fun _ => k1)
theorem zc_lt (x y : Int64) : (lg_cmp x y < 0) ↔ x < y := by
  unfold lg_cmp
  simp only [gt_iff_lt, Int64.lt_iff_toInt_lt, Int64.le_iff_toInt_le, ← Int64.toInt_inj]
  repeat' split
  all_goals (constructor <;> intro hh <;> first | omega | decide | exact absurd hh (by decide))
theorem w_ifc_lt {x y : Int64} {off : Int} {pcT : Nat} (hk : zat c pc (.ifCond .lt off) 3 t pc') (ht : zjp pc off = pcT) (k1 : x < y → zP c pcT ls r σ Q) (k2 : y ≤ x → zP c pc' ls r σ Q) : zP c pc ls (.int (lg_cmp x y) :: r) σ Q := w_ifI_lt hk ht (fun h => k1 ((zc_lt x y).mp h)) (fun h => k2 ((show ¬ (x < y) → y ≤ x from (fun q => Int64.not_lt.mp q)) (fun q => h ((zc_lt x y).mpr q))))
theorem w_ify_lt {a b : Int} {off : Int} {pcT : Nat} (hk : zat c pc (.ifCond .lt off) 3 t pc') (ht : zjp pc off = pcT) (ha : -9223372036854775808 ≤ a ∧ a ≤ 9223372036854775807) (hb : -9223372036854775808 ≤ b ∧ b ≤ 9223372036854775807) (k1 : a < b → zP c pcT ls r σ Q) (k2 : b ≤ a → zP c pc' ls r σ Q) : zP c pc ls (.int (lg_cmp (lZ a) (lZ b)) :: r) σ Q := w_ifI_lt hk ht (fun h => k1 ((lZ_lt ha hb).mp ((zc_lt _ _).mp h))) (fun h => k2 ((show ¬ (a < b) → b ≤ a from fun q => by omega) (fun q => h ((zc_lt _ _).mpr ((lZ_lt ha hb).mpr q)))))
theorem w_ifI_ge {x : Int32} {off : Int} {pcT : Nat} (hk : zat c pc (.ifCond .ge off) 3 t pc') (ht : zjp pc off = pcT) (k1 : 0 ≤ x → zP c pcT ls r σ Q) (k2 : ¬ (0 ≤ x) → zP c pc' ls r σ Q) : zP c pc ls (.int x :: r) σ Q := w_br hk rfl rfl rfl ht (fun h => k1 (of_decide_eq_true h)) (fun h => k2 ((of_decide_eq_false h)))
theorem w_icI_ge {x y : Int32} {off : Int} {pcT : Nat} (hk : zat c pc (.if_icmp .ge off) 3 t pc') (ht : zjp pc off = pcT) (k1 : y ≤ x → zP c pcT ls r σ Q) (k2 : ¬ (y ≤ x) → zP c pc' ls r σ Q) : zP c pc ls (.int y :: .int x :: r) σ Q := w_br hk rfl rfl rfl ht (fun h => k1 (of_decide_eq_true h)) (fun h => k2 ((of_decide_eq_false h)))
theorem w_ic_ge {a b : Int} {off : Int} {pcT : Nat} (hk : zat c pc (.if_icmp .ge off) 3 t pc') (ht : zjp pc off = pcT) (ha : -2147483648 ≤ a ∧ a ≤ 2147483647) (hb : -2147483648 ≤ b ∧ b ≤ 2147483647) (k1 : b ≤ a → zP c pcT ls r σ Q) (k2 : a < b → zP c pc' ls r σ Q) : zP c pc ls (.int (iZ b) :: .int (iZ a) :: r) σ Q := w_icI_ge hk ht (fun h => k1 ((iZ_le hb ha).mp h)) (fun h => k2 ((show ¬ (b ≤ a) → a < b from fun q => by omega) (fun q => h ((iZ_le hb ha).mpr q))))
theorem w_if_ge {a : Int} {off : Int} {pcT : Nat} (hk : zat c pc (.ifCond .ge off) 3 t pc') (ht : zjp pc off = pcT) (ha : -2147483648 ≤ a ∧ a ≤ 2147483647) (k1 : 0 ≤ a → zP c pcT ls r σ Q) (k2 : a < 0 → zP c pc' ls r σ Q) : zP c pc ls (.int (iZ a) :: r) σ Q := by
  have hb : -2147483648 ≤ (0 : Int) ∧ (0 : Int) ≤ 2147483647 := by decide
  exact w_ifI_ge hk ht (fun h => k1 ((show _ ↔ 0 ≤ a from iZ_le hb ha).mp h)) (fun h => k2 ((show ¬ (0 ≤ a) → a < 0 from fun q => by omega) (fun q => h ((show _ ↔ 0 ≤ a from iZ_le hb ha).mpr q))))
theorem w_icT_ge {a b : Int} {off : Int} {pcT : Nat} (hk : zat c pc (.if_icmp .ge off) 3 t pc') (ht : zjp pc off = pcT) (hab : (-2147483648 ≤ a ∧ a ≤ 2147483647) ∧ (-2147483648 ≤ b ∧ b ≤ 2147483647) ∧ b ≤ a) (k1 : zP c pcT ls r σ Q) : zP c pc ls (.int (iZ b) :: .int (iZ a) :: r) σ Q := w_ic_ge hk ht hab.1 hab.2.1 (fun _ => k1) (fun h => by have := hab.2.2; omega)
theorem w_icF_ge {a b : Int} {off : Int} (hk : zat c pc (.if_icmp .ge off) 3 t pc') (hab : (-2147483648 ≤ a ∧ a ≤ 2147483647) ∧ (-2147483648 ≤ b ∧ b ≤ 2147483647) ∧ a < b) (k1 : zP c pc' ls r σ Q) : zP c pc ls (.int (iZ b) :: .int (iZ a) :: r) σ Q := w_ic_ge hk rfl hab.1 hab.2.1 (fun h => by have := hab.2.2; omega) (fun _ => k1)
theorem w_ifT_ge {a : Int} {off : Int} {pcT : Nat} (hk : zat c pc (.ifCond .ge off) 3 t pc') (ht : zjp pc off = pcT) (hab : (-2147483648 ≤ a ∧ a ≤ 2147483647) ∧ 0 ≤ a) (k1 : zP c pcT ls r σ Q) : zP c pc ls (.int (iZ a) :: r) σ Q := w_if_ge hk ht hab.1 (fun _ => k1) (fun h => by have := hab.2; omega)
theorem w_ifF_ge {a : Int} {off : Int} (hk : zat c pc (.ifCond .ge off) 3 t pc') (hab : (-2147483648 ≤ a ∧ a ≤ 2147483647) ∧ a < 0) (k1 : zP c pc' ls r σ Q) : zP c pc ls (.int (iZ a) :: r) σ Q := w_if_ge hk rfl hab.1 (fun h => by have := hab.2; omega) (fun _ => k1)
theorem zc_ge (x y : Int64) : (0 ≤ lg_cmp x y) ↔ y ≤ x := by
  unfold lg_cmp
  simp only [gt_iff_lt, Int64.lt_iff_toInt_lt, Int64.le_iff_toInt_le, ← Int64.toInt_inj]
  repeat' split
  all_goals (constructor <;> intro hh <;> first | omega | decide | exact absurd hh (by decide))
theorem w_ifc_ge {x y : Int64} {off : Int} {pcT : Nat} (hk : zat c pc (.ifCond .ge off) 3 t pc') (ht : zjp pc off = pcT) (k1 : y ≤ x → zP c pcT ls r σ Q) (k2 : x < y → zP c pc' ls r σ Q) : zP c pc ls (.int (lg_cmp x y) :: r) σ Q := w_ifI_ge hk ht (fun h => k1 ((zc_ge x y).mp h)) (fun h => k2 ((show ¬ (y ≤ x) → x < y from (fun q => Int64.not_le.mp q)) (fun q => h ((zc_ge x y).mpr q))))
theorem w_ify_ge {a b : Int} {off : Int} {pcT : Nat} (hk : zat c pc (.ifCond .ge off) 3 t pc') (ht : zjp pc off = pcT) (ha : -9223372036854775808 ≤ a ∧ a ≤ 9223372036854775807) (hb : -9223372036854775808 ≤ b ∧ b ≤ 9223372036854775807) (k1 : b ≤ a → zP c pcT ls r σ Q) (k2 : a < b → zP c pc' ls r σ Q) : zP c pc ls (.int (lg_cmp (lZ a) (lZ b)) :: r) σ Q := w_ifI_ge hk ht (fun h => k1 ((lZ_le hb ha).mp ((zc_ge _ _).mp h))) (fun h => k2 ((show ¬ (b ≤ a) → a < b from fun q => by omega) (fun q => h ((zc_ge _ _).mpr ((lZ_le hb ha).mpr q)))))
theorem w_ifI_gt {x : Int32} {off : Int} {pcT : Nat} (hk : zat c pc (.ifCond .gt off) 3 t pc') (ht : zjp pc off = pcT) (k1 : 0 < x → zP c pcT ls r σ Q) (k2 : ¬ (0 < x) → zP c pc' ls r σ Q) : zP c pc ls (.int x :: r) σ Q := w_br hk rfl rfl rfl ht (fun h => k1 (of_decide_eq_true h)) (fun h => k2 ((of_decide_eq_false h)))
theorem w_icI_gt {x y : Int32} {off : Int} {pcT : Nat} (hk : zat c pc (.if_icmp .gt off) 3 t pc') (ht : zjp pc off = pcT) (k1 : y < x → zP c pcT ls r σ Q) (k2 : ¬ (y < x) → zP c pc' ls r σ Q) : zP c pc ls (.int y :: .int x :: r) σ Q := w_br hk rfl rfl rfl ht (fun h => k1 (of_decide_eq_true h)) (fun h => k2 ((of_decide_eq_false h)))
theorem w_ic_gt {a b : Int} {off : Int} {pcT : Nat} (hk : zat c pc (.if_icmp .gt off) 3 t pc') (ht : zjp pc off = pcT) (ha : -2147483648 ≤ a ∧ a ≤ 2147483647) (hb : -2147483648 ≤ b ∧ b ≤ 2147483647) (k1 : b < a → zP c pcT ls r σ Q) (k2 : a ≤ b → zP c pc' ls r σ Q) : zP c pc ls (.int (iZ b) :: .int (iZ a) :: r) σ Q := w_icI_gt hk ht (fun h => k1 ((iZ_lt hb ha).mp h)) (fun h => k2 ((show ¬ (b < a) → a ≤ b from fun q => by omega) (fun q => h ((iZ_lt hb ha).mpr q))))
theorem w_if_gt {a : Int} {off : Int} {pcT : Nat} (hk : zat c pc (.ifCond .gt off) 3 t pc') (ht : zjp pc off = pcT) (ha : -2147483648 ≤ a ∧ a ≤ 2147483647) (k1 : 0 < a → zP c pcT ls r σ Q) (k2 : a ≤ 0 → zP c pc' ls r σ Q) : zP c pc ls (.int (iZ a) :: r) σ Q := by
  have hb : -2147483648 ≤ (0 : Int) ∧ (0 : Int) ≤ 2147483647 := by decide
  exact w_ifI_gt hk ht (fun h => k1 ((show _ ↔ 0 < a from iZ_lt hb ha).mp h)) (fun h => k2 ((show ¬ (0 < a) → a ≤ 0 from fun q => by omega) (fun q => h ((show _ ↔ 0 < a from iZ_lt hb ha).mpr q))))
theorem w_icT_gt {a b : Int} {off : Int} {pcT : Nat} (hk : zat c pc (.if_icmp .gt off) 3 t pc') (ht : zjp pc off = pcT) (hab : (-2147483648 ≤ a ∧ a ≤ 2147483647) ∧ (-2147483648 ≤ b ∧ b ≤ 2147483647) ∧ b < a) (k1 : zP c pcT ls r σ Q) : zP c pc ls (.int (iZ b) :: .int (iZ a) :: r) σ Q := w_ic_gt hk ht hab.1 hab.2.1 (fun _ => k1) (fun h => by have := hab.2.2; omega)
theorem w_icF_gt {a b : Int} {off : Int} (hk : zat c pc (.if_icmp .gt off) 3 t pc') (hab : (-2147483648 ≤ a ∧ a ≤ 2147483647) ∧ (-2147483648 ≤ b ∧ b ≤ 2147483647) ∧ a ≤ b) (k1 : zP c pc' ls r σ Q) : zP c pc ls (.int (iZ b) :: .int (iZ a) :: r) σ Q := w_ic_gt hk rfl hab.1 hab.2.1 (fun h => by have := hab.2.2; omega) (fun _ => k1)
theorem w_ifT_gt {a : Int} {off : Int} {pcT : Nat} (hk : zat c pc (.ifCond .gt off) 3 t pc') (ht : zjp pc off = pcT) (hab : (-2147483648 ≤ a ∧ a ≤ 2147483647) ∧ 0 < a) (k1 : zP c pcT ls r σ Q) : zP c pc ls (.int (iZ a) :: r) σ Q := w_if_gt hk ht hab.1 (fun _ => k1) (fun h => by have := hab.2; omega)
theorem w_ifF_gt {a : Int} {off : Int} (hk : zat c pc (.ifCond .gt off) 3 t pc') (hab : (-2147483648 ≤ a ∧ a ≤ 2147483647) ∧ a ≤ 0) (k1 : zP c pc' ls r σ Q) : zP c pc ls (.int (iZ a) :: r) σ Q := w_if_gt hk rfl hab.1 (fun h => by have := hab.2; omega) (fun _ => k1)
theorem zc_gt (x y : Int64) : (0 < lg_cmp x y) ↔ y < x := by
  unfold lg_cmp
  simp only [gt_iff_lt, Int64.lt_iff_toInt_lt, Int64.le_iff_toInt_le, ← Int64.toInt_inj]
  repeat' split
  all_goals (constructor <;> intro hh <;> first | omega | decide | exact absurd hh (by decide))
theorem w_ifc_gt {x y : Int64} {off : Int} {pcT : Nat} (hk : zat c pc (.ifCond .gt off) 3 t pc') (ht : zjp pc off = pcT) (k1 : y < x → zP c pcT ls r σ Q) (k2 : x ≤ y → zP c pc' ls r σ Q) : zP c pc ls (.int (lg_cmp x y) :: r) σ Q := w_ifI_gt hk ht (fun h => k1 ((zc_gt x y).mp h)) (fun h => k2 ((show ¬ (y < x) → x ≤ y from (fun q => Int64.not_lt.mp q)) (fun q => h ((zc_gt x y).mpr q))))
theorem w_ify_gt {a b : Int} {off : Int} {pcT : Nat} (hk : zat c pc (.ifCond .gt off) 3 t pc') (ht : zjp pc off = pcT) (ha : -9223372036854775808 ≤ a ∧ a ≤ 9223372036854775807) (hb : -9223372036854775808 ≤ b ∧ b ≤ 9223372036854775807) (k1 : b < a → zP c pcT ls r σ Q) (k2 : a ≤ b → zP c pc' ls r σ Q) : zP c pc ls (.int (lg_cmp (lZ a) (lZ b)) :: r) σ Q := w_ifI_gt hk ht (fun h => k1 ((lZ_lt hb ha).mp ((zc_gt _ _).mp h))) (fun h => k2 ((show ¬ (b < a) → a ≤ b from fun q => by omega) (fun q => h ((zc_gt _ _).mpr ((lZ_lt hb ha).mpr q)))))
theorem w_ifI_le {x : Int32} {off : Int} {pcT : Nat} (hk : zat c pc (.ifCond .le off) 3 t pc') (ht : zjp pc off = pcT) (k1 : x ≤ 0 → zP c pcT ls r σ Q) (k2 : ¬ (x ≤ 0) → zP c pc' ls r σ Q) : zP c pc ls (.int x :: r) σ Q := w_br hk rfl rfl rfl ht (fun h => k1 (of_decide_eq_true h)) (fun h => k2 ((of_decide_eq_false h)))
theorem w_icI_le {x y : Int32} {off : Int} {pcT : Nat} (hk : zat c pc (.if_icmp .le off) 3 t pc') (ht : zjp pc off = pcT) (k1 : x ≤ y → zP c pcT ls r σ Q) (k2 : ¬ (x ≤ y) → zP c pc' ls r σ Q) : zP c pc ls (.int y :: .int x :: r) σ Q := w_br hk rfl rfl rfl ht (fun h => k1 (of_decide_eq_true h)) (fun h => k2 ((of_decide_eq_false h)))
theorem w_ic_le {a b : Int} {off : Int} {pcT : Nat} (hk : zat c pc (.if_icmp .le off) 3 t pc') (ht : zjp pc off = pcT) (ha : -2147483648 ≤ a ∧ a ≤ 2147483647) (hb : -2147483648 ≤ b ∧ b ≤ 2147483647) (k1 : a ≤ b → zP c pcT ls r σ Q) (k2 : b < a → zP c pc' ls r σ Q) : zP c pc ls (.int (iZ b) :: .int (iZ a) :: r) σ Q := w_icI_le hk ht (fun h => k1 ((iZ_le ha hb).mp h)) (fun h => k2 ((show ¬ (a ≤ b) → b < a from fun q => by omega) (fun q => h ((iZ_le ha hb).mpr q))))
theorem w_if_le {a : Int} {off : Int} {pcT : Nat} (hk : zat c pc (.ifCond .le off) 3 t pc') (ht : zjp pc off = pcT) (ha : -2147483648 ≤ a ∧ a ≤ 2147483647) (k1 : a ≤ 0 → zP c pcT ls r σ Q) (k2 : 0 < a → zP c pc' ls r σ Q) : zP c pc ls (.int (iZ a) :: r) σ Q := by
  have hb : -2147483648 ≤ (0 : Int) ∧ (0 : Int) ≤ 2147483647 := by decide
  exact w_ifI_le hk ht (fun h => k1 ((show _ ↔ a ≤ 0 from iZ_le ha hb).mp h)) (fun h => k2 ((show ¬ (a ≤ 0) → 0 < a from fun q => by omega) (fun q => h ((show _ ↔ a ≤ 0 from iZ_le ha hb).mpr q))))
theorem w_icT_le {a b : Int} {off : Int} {pcT : Nat} (hk : zat c pc (.if_icmp .le off) 3 t pc') (ht : zjp pc off = pcT) (hab : (-2147483648 ≤ a ∧ a ≤ 2147483647) ∧ (-2147483648 ≤ b ∧ b ≤ 2147483647) ∧ a ≤ b) (k1 : zP c pcT ls r σ Q) : zP c pc ls (.int (iZ b) :: .int (iZ a) :: r) σ Q := w_ic_le hk ht hab.1 hab.2.1 (fun _ => k1) (fun h => by have := hab.2.2; omega)
theorem w_icF_le {a b : Int} {off : Int} (hk : zat c pc (.if_icmp .le off) 3 t pc') (hab : (-2147483648 ≤ a ∧ a ≤ 2147483647) ∧ (-2147483648 ≤ b ∧ b ≤ 2147483647) ∧ b < a) (k1 : zP c pc' ls r σ Q) : zP c pc ls (.int (iZ b) :: .int (iZ a) :: r) σ Q := w_ic_le hk rfl hab.1 hab.2.1 (fun h => by have := hab.2.2; omega) (fun _ => k1)
theorem w_ifT_le {a : Int} {off : Int} {pcT : Nat} (hk : zat c pc (.ifCond .le off) 3 t pc') (ht : zjp pc off = pcT) (hab : (-2147483648 ≤ a ∧ a ≤ 2147483647) ∧ a ≤ 0) (k1 : zP c pcT ls r σ Q) : zP c pc ls (.int (iZ a) :: r) σ Q := w_if_le hk ht hab.1 (fun _ => k1) (fun h => by have := hab.2; omega)
theorem w_ifF_le {a : Int} {off : Int} (hk : zat c pc (.ifCond .le off) 3 t pc') (hab : (-2147483648 ≤ a ∧ a ≤ 2147483647) ∧ 0 < a) (k1 : zP c pc' ls r σ Q) : zP c pc ls (.int (iZ a) :: r) σ Q := w_if_le hk rfl hab.1 (fun h => by have := hab.2; omega) (fun _ => k1)
theorem zc_le (x y : Int64) : (lg_cmp x y ≤ 0) ↔ x ≤ y := by
  unfold lg_cmp
  simp only [gt_iff_lt, Int64.lt_iff_toInt_lt, Int64.le_iff_toInt_le, ← Int64.toInt_inj]
  repeat' split
  all_goals (constructor <;> intro hh <;> first | omega | decide | exact absurd hh (by decide))
theorem w_ifc_le {x y : Int64} {off : Int} {pcT : Nat} (hk : zat c pc (.ifCond .le off) 3 t pc') (ht : zjp pc off = pcT) (k1 : x ≤ y → zP c pcT ls r σ Q) (k2 : y < x → zP c pc' ls r σ Q) : zP c pc ls (.int (lg_cmp x y) :: r) σ Q := w_ifI_le hk ht (fun h => k1 ((zc_le x y).mp h)) (fun h => k2 ((show ¬ (x ≤ y) → y < x from (fun q => Int64.not_le.mp q)) (fun q => h ((zc_le x y).mpr q))))
theorem w_ify_le {a b : Int} {off : Int} {pcT : Nat} (hk : zat c pc (.ifCond .le off) 3 t pc') (ht : zjp pc off = pcT) (ha : -9223372036854775808 ≤ a ∧ a ≤ 9223372036854775807) (hb : -9223372036854775808 ≤ b ∧ b ≤ 9223372036854775807) (k1 : a ≤ b → zP c pcT ls r σ Q) (k2 : b < a → zP c pc' ls r σ Q) : zP c pc ls (.int (lg_cmp (lZ a) (lZ b)) :: r) σ Q := w_ifI_le hk ht (fun h => k1 ((lZ_le ha hb).mp ((zc_le _ _).mp h))) (fun h => k2 ((show ¬ (a ≤ b) → b < a from fun q => by omega) (fun q => h ((zc_le _ _).mpr ((lZ_le ha hb).mpr q)))))
theorem w_ifB_eq {p : Prop} [Decidable p] {off : Int} {pcT : Nat} (hk : zat c pc (.ifCond .eq off) 3 t pc') (ht : zjp pc off = pcT) (k1 : ¬ p → zP c pcT ls r σ Q) (k2 : p → zP c pc' ls r σ Q) : zP c pc ls (.int (iB p) :: r) σ Q := w_ifI_eq hk ht (fun h => k1 (fun q => by unfold iB at h; rw [if_pos q] at h; exact absurd h (by decide))) (fun h => k2 (Classical.byContradiction fun q => h (by unfold iB; rw [if_neg q]; rfl)))
theorem w_ifB_ne {p : Prop} [Decidable p] {off : Int} {pcT : Nat} (hk : zat c pc (.ifCond .ne off) 3 t pc') (ht : zjp pc off = pcT) (k1 : p → zP c pcT ls r σ Q) (k2 : ¬ p → zP c pc' ls r σ Q) : zP c pc ls (.int (iB p) :: r) σ Q := w_ifI_ne hk ht (fun h => k1 (Classical.byContradiction fun q => h (by unfold iB; rw [if_neg q]; rfl))) (fun h => k2 (fun q => by unfold iB at h; rw [if_pos q] at h; exact absurd h (by decide)))
theorem w_topI {x y : Int32} (h : x = y) (k : zP c pc ls (.int y :: r) σ Q) : zP c pc ls (.int x :: r) σ Q := h ▸ k
theorem w_topL {x y : Int64} (h : x = y) (k : zP c pc ls (.long y :: r) σ Q) : zP c pc ls (.long x :: r) σ Q := h ▸ k
theorem w_sto {σ' : zSt} (h : σ = σ') (k : zP c pc ls st σ' Q) : zP c pc ls st σ Q := h ▸ k
theorem w_ifnullN {off : Int} {pcT : Nat} (hk : zat c pc (.ifnull off) 3 t pc') (ht : zjp pc off = pcT) (k : zP c pcT ls r σ Q) : zP c pc ls (.null :: r) σ Q := w_step hk rfl (fun ls' hr => ⟨ls', by simp only [zstp, zpst, zbr, zgo, ht, if_true], hr⟩) k
theorem w_ifnullR {x : Nat} {off : Int} {pcT : Nat} (hk : zat c pc (.ifnull off) 3 t pc') (ht : zjp pc off = pcT) (k : zP c pc' ls r σ Q) : zP c pc ls (.ref x :: r) σ Q := w_step hk rfl (fun ls' hr => ⟨ls', by simp only [zstp, zpst, zbr, zgo, hk.2, Bool.false_eq_true, if_false], hr⟩) k
theorem w_ifnonnullN {off : Int} {pcT : Nat} (hk : zat c pc (.ifnonnull off) 3 t pc') (ht : zjp pc off = pcT) (k : zP c pc' ls r σ Q) : zP c pc ls (.null :: r) σ Q := w_step hk rfl (fun ls' hr => ⟨ls', by simp only [zstp, zpst, zbr, zgo, hk.2, Bool.false_eq_true, if_false], hr⟩) k
theorem w_ifnonnullR {x : Nat} {off : Int} {pcT : Nat} (hk : zat c pc (.ifnonnull off) 3 t pc') (ht : zjp pc off = pcT) (k : zP c pcT ls r σ Q) : zP c pc ls (.ref x :: r) σ Q := w_step hk rfl (fun ls' hr => ⟨ls', by simp only [zstp, zpst, zbr, zgo, ht, if_true], hr⟩) k
theorem w_tsOut {x : Int32} {dflt lo hi : Int} {offs : Array Int} {pcT : Nat} (hk : zat c pc (.tableswitch dflt lo hi offs) len t pc') (ht : zjp pc dflt = pcT) (hx : x.toInt < lo ∨ hi < x.toInt) (k : zP c pcT ls r σ Q) : zP c pc ls (.int x :: r) σ Q := w_step hk rfl (fun ls' hr => ⟨ls', by simp only [zstp, zpst, zbr, zgo, ht, if_pos hx, if_true], hr⟩) k
theorem w_tsIn {x : Int32} {dflt lo hi off : Int} {offs : Array Int} {pcT : Nat} (j : Nat) (hk : zat c pc (.tableswitch dflt lo hi offs) len t pc') (hx : x.toInt = lo + j) (hj : lo + j ≤ hi) (ho : offs[j]? = some off) (ht : zjp pc off = pcT) (k : zP c pcT ls r σ Q) : zP c pc ls (.int x :: r) σ Q := w_step hk rfl (fun ls' hr => ⟨ls', by
  have h1 : ¬ (x.toInt < lo ∨ hi < x.toInt) := by omega
  have h2 : (x.toInt - lo).toNat = j := by omega
  simp only [zstp, zpst, zbr, zgo, if_neg h1, h2, ho, Option.map_some, ht, if_true], hr⟩) k
theorem w_iload {k : Nat} {x : Int32} (hk : zat c pc (.iload k) 2 t pc') (h : zld ls k = some (.int x)) (kk : zP c pc' ls (.int x :: st) σ Q) : zP c pc ls st σ Q := w_step hk rfl (fun ls' hr => ⟨ls', by simp only [zstp, zpst, zbr, zloc, hr _ _ h, zgo, hk.2], hr⟩) kk
theorem w_lload {k : Nat} {x : Int64} (hk : zat c pc (.lload k) 2 t pc') (h : zld ls k = some (.long x)) (kk : zP c pc' ls (.long x :: st) σ Q) : zP c pc ls st σ Q := w_step hk rfl (fun ls' hr => ⟨ls', by simp only [zstp, zpst, zbr, zloc, hr _ _ h, zgo, hk.2], hr⟩) kk
theorem w_dload {k : Nat} {x : UInt64} (hk : zat c pc (.dload k) 2 t pc') (h : zld ls k = some (.double x)) (kk : zP c pc' ls (.double x :: st) σ Q) : zP c pc ls st σ Q := w_step hk rfl (fun ls' hr => ⟨ls', by simp only [zstp, zpst, zbr, zloc, hr _ _ h, zgo, hk.2], hr⟩) kk
theorem w_aload {k : Nat} {x : Nat} (hk : zat c pc (.aload k) 2 t pc') (h : zld ls k = some (.ref x)) (kk : zP c pc' ls (.ref x :: st) σ Q) : zP c pc ls st σ Q := w_step hk rfl (fun ls' hr => ⟨ls', by simp only [zstp, zpst, zbr, zloc, hr _ _ h, zgo, hk.2], hr⟩) kk
theorem w_iload_n {k : Fin 4} {x : Int32} (hk : zat c pc (.iload_n k) 1 t pc') (h : zld ls k = some (.int x)) (kk : zP c pc' ls (.int x :: st) σ Q) : zP c pc ls st σ Q := w_step hk rfl (fun ls' hr => ⟨ls', by simp only [zstp, zpst, zbr, zloc, hr _ _ h, zgo, hk.2], hr⟩) kk
theorem w_lload_n {k : Fin 4} {x : Int64} (hk : zat c pc (.lload_n k) 1 t pc') (h : zld ls k = some (.long x)) (kk : zP c pc' ls (.long x :: st) σ Q) : zP c pc ls st σ Q := w_step hk rfl (fun ls' hr => ⟨ls', by simp only [zstp, zpst, zbr, zloc, hr _ _ h, zgo, hk.2], hr⟩) kk
theorem w_dload_n {k : Fin 4} {x : UInt64} (hk : zat c pc (.dload_n k) 1 t pc') (h : zld ls k = some (.double x)) (kk : zP c pc' ls (.double x :: st) σ Q) : zP c pc ls st σ Q := w_step hk rfl (fun ls' hr => ⟨ls', by simp only [zstp, zpst, zbr, zloc, hr _ _ h, zgo, hk.2], hr⟩) kk
theorem w_fload_n {k : Fin 4} {x : UInt32} (hk : zat c pc (.fload_n k) 1 t pc') (h : zld ls k = some (.float x)) (kk : zP c pc' ls (.float x :: st) σ Q) : zP c pc ls st σ Q := w_step hk rfl (fun ls' hr => ⟨ls', by simp only [zstp, zpst, zbr, zloc, hr _ _ h, zgo, hk.2], hr⟩) kk
theorem w_aload_n {k : Fin 4} {x : Nat} (hk : zat c pc (.aload_n k) 1 t pc') (h : zld ls k = some (.ref x)) (kk : zP c pc' ls (.ref x :: st) σ Q) : zP c pc ls st σ Q := w_step hk rfl (fun ls' hr => ⟨ls', by simp only [zstp, zpst, zbr, zloc, hr _ _ h, zgo, hk.2], hr⟩) kk
theorem w_aloadN {k : Nat} (hk : zat c pc (.aload k) 2 t pc') (h : zld ls k = some .null) (kk : zP c pc' ls (.null :: st) σ Q) : zP c pc ls st σ Q := w_step hk rfl (fun ls' hr => ⟨ls', by simp only [zstp, zpst, zbr, zloc, hr _ _ h, zgo, hk.2], hr⟩) kk
theorem w_aload_nN {k : Fin 4} (hk : zat c pc (.aload_n k) 1 t pc') (h : zld ls k = some .null) (kk : zP c pc' ls (.null :: st) σ Q) : zP c pc ls st σ Q := w_step hk rfl (fun ls' hr => ⟨ls', by simp only [zstp, zpst, zbr, zloc, hr _ _ h, zgo, hk.2], hr⟩) kk
theorem w_istore {k : Nat} {x : Int32} (hk : zat c pc (.istore k) 2 t pc') (h : zok1 ls k = true) (kk : zP c pc' (((k : Nat), .int x) :: ls) st σ Q) : zP c pc ls (.int x :: st) σ Q := w_step hk rfl (fun ls' hr => ⟨zs1 ls' k (.int x), by simp only [zstp, zpst, zbr, zloc, zgo, hk.2], zs1_ref hr h⟩) kk
theorem w_istore_n {k : Fin 4} {x : Int32} (hk : zat c pc (.istore_n k) 1 t pc') (h : zok1 ls k = true) (kk : zP c pc' (((k : Nat), .int x) :: ls) st σ Q) : zP c pc ls (.int x :: st) σ Q := w_step hk rfl (fun ls' hr => ⟨zs1 ls' k (.int x), by simp only [zstp, zpst, zbr, zloc, zgo, hk.2], zs1_ref hr h⟩) kk
theorem w_astore {k : Nat} {x : Nat} (hk : zat c pc (.astore k) 2 t pc') (h : zok1 ls k = true) (kk : zP c pc' (((k : Nat), .ref x) :: ls) st σ Q) : zP c pc ls (.ref x :: st) σ Q := w_step hk rfl (fun ls' hr => ⟨zs1 ls' k (.ref x), by simp only [zstp, zpst, zbr, zloc, zgo, hk.2], zs1_ref hr h⟩) kk
theorem w_astoreN {k : Nat} (hk : zat c pc (.astore k) 2 t pc') (h : zok1 ls k = true) (kk : zP c pc' (((k : Nat), .null) :: ls) st σ Q) : zP c pc ls (.null :: st) σ Q := w_step hk rfl (fun ls' hr => ⟨zs1 ls' k .null, by simp only [zstp, zpst, zbr, zloc, zgo, hk.2], zs1_ref hr h⟩) kk
theorem w_astore_n {k : Fin 4} {x : Nat} (hk : zat c pc (.astore_n k) 1 t pc') (h : zok1 ls k = true) (kk : zP c pc' (((k : Nat), .ref x) :: ls) st σ Q) : zP c pc ls (.ref x :: st) σ Q := w_step hk rfl (fun ls' hr => ⟨zs1 ls' k (.ref x), by simp only [zstp, zpst, zbr, zloc, zgo, hk.2], zs1_ref hr h⟩) kk
theorem w_astore_nN {k : Fin 4} (hk : zat c pc (.astore_n k) 1 t pc') (h : zok1 ls k = true) (kk : zP c pc' (((k : Nat), .null) :: ls) st σ Q) : zP c pc ls (.null :: st) σ Q := w_step hk rfl (fun ls' hr => ⟨zs1 ls' k .null, by simp only [zstp, zpst, zbr, zloc, zgo, hk.2], zs1_ref hr h⟩) kk
theorem w_lstore {k : Nat} {x : Int64} (hk : zat c pc (.lstore k) 2 t pc') (h : zok1 ls k = true) (h2 : zld ls ((k : Nat) + 1) = none) (kk : zP c pc' (((k : Nat), .long x) :: ls) st σ Q) : zP c pc ls (.long x :: st) σ Q := w_step hk rfl (fun ls' hr => ⟨zs2 ls' k (.long x), by simp only [zstp, zpst, zbr, zloc, zgo, hk.2], zs2_ref hr h h2⟩) kk
theorem w_lstore_n {k : Fin 4} {x : Int64} (hk : zat c pc (.lstore_n k) 1 t pc') (h : zok1 ls k = true) (h2 : zld ls ((k : Nat) + 1) = none) (kk : zP c pc' (((k : Nat), .long x) :: ls) st σ Q) : zP c pc ls (.long x :: st) σ Q := w_step hk rfl (fun ls' hr => ⟨zs2 ls' k (.long x), by simp only [zstp, zpst, zbr, zloc, zgo, hk.2], zs2_ref hr h h2⟩) kk
theorem w_dstore {k : Nat} {x : UInt64} (hk : zat c pc (.dstore k) 2 t pc') (h : zok1 ls k = true) (h2 : zld ls ((k : Nat) + 1) = none) (kk : zP c pc' (((k : Nat), .double x) :: ls) st σ Q) : zP c pc ls (.double x :: st) σ Q := w_step hk rfl (fun ls' hr => ⟨zs2 ls' k (.double x), by simp only [zstp, zpst, zbr, zloc, zgo, hk.2], zs2_ref hr h h2⟩) kk
theorem w_iinc {k : Nat} {n : Int} {x : Int32} (hk : zat c pc (.iinc k n) 3 t pc') (h : zld ls k = some (.int x)) (h1 : zok1 ls k = true) (kk : zP c pc' ((k, .int (x + Int32.ofInt n)) :: ls) st σ Q) : zP c pc ls st σ Q := w_step hk rfl (fun ls' hr => ⟨zs1 ls' k (.int (x + Int32.ofInt n)), by simp only [zstp, zpst, zbr, zloc, hr _ _ h, zgo, hk.2], zs1_ref hr h1⟩) kk
theorem w_ldc {j : Nat} {v : Value} (hk : zat c pc (.ldc j) 2 t pc') (h : zCT[j]? = some v) (kk : zP c pc' ls (v :: st) σ Q) : zP c pc ls st σ Q := w_step hk rfl (fun ls' hr => ⟨ls', by simp only [zstp, zpst, zbr, zloc, zmem, zmak, zcst, h, Option.map_some, zgo, hk.2], hr⟩) kk
theorem w_ldc_w {j : Nat} {v : Value} (hk : zat c pc (.ldc_w j) 3 t pc') (h : zCT[j]? = some v) (kk : zP c pc' ls (v :: st) σ Q) : zP c pc ls st σ Q := w_step hk rfl (fun ls' hr => ⟨ls', by simp only [zstp, zpst, zbr, zloc, zmem, zmak, zcst, h, Option.map_some, zgo, hk.2], hr⟩) kk
theorem w_ldc2_w {j : Nat} {v : Value} (hk : zat c pc (.ldc2_w j) 3 t pc') (h : zCT[j]? = some v) (kk : zP c pc' ls (v :: st) σ Q) : zP c pc ls st σ Q := w_step hk rfl (fun ls' hr => ⟨ls', by simp only [zstp, zpst, zbr, zloc, zmem, zmak, zcst, h, Option.map_some, zgo, hk.2], hr⟩) kk
/-- object o is there, of class cl; array a is there, of kind kd, of length n; index k is j, within -/
def zO (σ : zSt) (o cl : Nat) : Prop := o < zN σ ∧ (zLY o).1 = cl
def zA (σ : zSt) (a kd n : Nat) : Prop := a < zN σ ∧ zLY a = (kd, n) ∧ a < 1000000
def zix (k : Int32) (n j : Nat) : Prop := ¬ k < 0 ∧ k.toNatClampNeg = j ∧ j < n
theorem zix.zin {k : Int32} {n j : Nat} (h : zix k n j) : zin k n := by
  intro q
  rcases q with q | q
  · exact h.1 q
  · have := h.2.1; have := h.2.2; omega
theorem w_getI {v : Int32} {o cl q : Nat} {x : Nat} (hk : zat c pc (.getfield x) 3 t pc') (hx : x = 256 * cl + 4 * q + 0 ∧ q < 64) (ho : zO σ o cl) (hv : zI σ o q = v) (kk : zP c pc' ls (.int v :: r) (σ) Q) : zP c pc ls (.ref o :: r) σ Q := w_step hk rfl (fun ls' hr => ⟨ls', by
  obtain ⟨rfl, hq⟩ := hx
  have e1 : (256 * cl + 4 * q + 0) / 256 = cl := by omega
  have e2 : (256 * cl + 4 * q + 0) / 4 % 64 = q := by omega
  have e3 : (256 * cl + 4 * q + 0) % 4 = 0 := by omega
  have ho' : o < zN σ ∧ (zLY o).1 = (256 * cl + 4 * q + 0) / 256 := ⟨ho.1, ho.2.trans e1.symm⟩
  simp only [zstp, zpst, zbr, zloc, zmem]
  rw [if_pos ho']
  simp only [e2, e3, zget, zgo, hk.2, if_false, hv, show ¬ (0:Nat) = 1 by decide, show ¬ (0:Nat) = 2 by decide]
  try rfl, hr⟩) kk
theorem w_getZ {v : Int32} {o cl q : Nat} {x : Nat} (hk : zat c pc (.getfield x) 3 t pc') (hx : x = 256 * cl + 4 * q + 3 ∧ q < 64) (ho : zO σ o cl) (hv : zI σ o q = v) (kk : zP c pc' ls (.int v :: r) (σ) Q) : zP c pc ls (.ref o :: r) σ Q := w_step hk rfl (fun ls' hr => ⟨ls', by
  obtain ⟨rfl, hq⟩ := hx
  have e1 : (256 * cl + 4 * q + 3) / 256 = cl := by omega
  have e2 : (256 * cl + 4 * q + 3) / 4 % 64 = q := by omega
  have e3 : (256 * cl + 4 * q + 3) % 4 = 3 := by omega
  have ho' : o < zN σ ∧ (zLY o).1 = (256 * cl + 4 * q + 3) / 256 := ⟨ho.1, ho.2.trans e1.symm⟩
  simp only [zstp, zpst, zbr, zloc, zmem]
  rw [if_pos ho']
  simp only [e2, e3, zget, zgo, hk.2, if_false, hv, show ¬ (3:Nat) = 1 by decide, show ¬ (3:Nat) = 2 by decide]
  try rfl, hr⟩) kk
theorem w_getL {v : Int64} {o cl q : Nat} {x : Nat} (hk : zat c pc (.getfield x) 3 t pc') (hx : x = 256 * cl + 4 * q + 1 ∧ q < 64) (ho : zO σ o cl) (hv : zL σ o q = v) (kk : zP c pc' ls (.long v :: r) (σ) Q) : zP c pc ls (.ref o :: r) σ Q := w_step hk rfl (fun ls' hr => ⟨ls', by
  obtain ⟨rfl, hq⟩ := hx
  have e1 : (256 * cl + 4 * q + 1) / 256 = cl := by omega
  have e2 : (256 * cl + 4 * q + 1) / 4 % 64 = q := by omega
  have e3 : (256 * cl + 4 * q + 1) % 4 = 1 := by omega
  have ho' : o < zN σ ∧ (zLY o).1 = (256 * cl + 4 * q + 1) / 256 := ⟨ho.1, ho.2.trans e1.symm⟩
  simp only [zstp, zpst, zbr, zloc, zmem]
  rw [if_pos ho']
  simp only [e2, e3, zget, zgo, hk.2, if_true, hv]
  try rfl, hr⟩) kk
theorem w_getR {a : Nat} {o cl q : Nat} {x : Nat} (hk : zat c pc (.getfield x) 3 t pc') (hx : x = 256 * cl + 4 * q + 2 ∧ q < 64) (ho : zO σ o cl) (hr0 : zR σ o q = some a) (kk : zP c pc' ls (.ref a :: r) (σ) Q) : zP c pc ls (.ref o :: r) σ Q := w_step hk rfl (fun ls' hr => ⟨ls', by
  obtain ⟨rfl, hq⟩ := hx
  have e1 : (256 * cl + 4 * q + 2) / 256 = cl := by omega
  have e2 : (256 * cl + 4 * q + 2) / 4 % 64 = q := by omega
  have e3 : (256 * cl + 4 * q + 2) % 4 = 2 := by omega
  have ho' : o < zN σ ∧ (zLY o).1 = (256 * cl + 4 * q + 2) / 256 := ⟨ho.1, ho.2.trans e1.symm⟩
  simp only [zstp, zpst, zbr, zloc, zmem]
  rw [if_pos ho']
  simp only [e2, e3, zget, zgo, hk.2, if_false, if_true, show ¬ (2:Nat) = 1 by decide, hr0, va_rf]
  try rfl, hr⟩) kk
theorem w_getN {o cl q : Nat} {x : Nat} (hk : zat c pc (.getfield x) 3 t pc') (hx : x = 256 * cl + 4 * q + 2 ∧ q < 64) (ho : zO σ o cl) (hr0 : zR σ o q = none) (kk : zP c pc' ls (.null :: r) (σ) Q) : zP c pc ls (.ref o :: r) σ Q := w_step hk rfl (fun ls' hr => ⟨ls', by
  obtain ⟨rfl, hq⟩ := hx
  have e1 : (256 * cl + 4 * q + 2) / 256 = cl := by omega
  have e2 : (256 * cl + 4 * q + 2) / 4 % 64 = q := by omega
  have e3 : (256 * cl + 4 * q + 2) % 4 = 2 := by omega
  have ho' : o < zN σ ∧ (zLY o).1 = (256 * cl + 4 * q + 2) / 256 := ⟨ho.1, ho.2.trans e1.symm⟩
  simp only [zstp, zpst, zbr, zloc, zmem]
  rw [if_pos ho']
  simp only [e2, e3, zget, zgo, hk.2, if_false, if_true, show ¬ (2:Nat) = 1 by decide, hr0, va_rf]
  try rfl, hr⟩) kk
theorem w_putI {v : Int32} {o cl q : Nat} {x : Nat} (hk : zat c pc (.putfield x) 3 t pc') (hx : x = 256 * cl + 4 * q + 0 ∧ q < 64) (ho : zO σ o cl) (kk : zP c pc' ls (r) (zwI σ o q v) Q) : zP c pc ls (.int v :: .ref o :: r) σ Q := w_step hk rfl (fun ls' hr => ⟨ls', by
  obtain ⟨rfl, hq⟩ := hx
  have e1 : (256 * cl + 4 * q + 0) / 256 = cl := by omega
  have e2 : (256 * cl + 4 * q + 0) / 4 % 64 = q := by omega
  have e3 : (256 * cl + 4 * q + 0) % 4 = 0 := by omega
  have ho' : o < zN σ ∧ (zLY o).1 = (256 * cl + 4 * q + 0) / 256 := ⟨ho.1, ho.2.trans e1.symm⟩
  simp only [zstp, zpst, zbr, zloc, zmem]
  rw [if_pos ho']
  simp only [e2, e3, zget, zgo, hk.2, true_or, if_true]
  try rfl, hr⟩) kk
theorem w_putZ {v : Int32} {o cl q : Nat} {x : Nat} (hk : zat c pc (.putfield x) 3 t pc') (hx : x = 256 * cl + 4 * q + 3 ∧ q < 64) (ho : zO σ o cl) (hv : v = 0 ∨ v = 1) (kk : zP c pc' ls (r) (zwI σ o q v) Q) : zP c pc ls (.int v :: .ref o :: r) σ Q := w_step hk rfl (fun ls' hr => ⟨ls', by
  obtain ⟨rfl, hq⟩ := hx
  have e1 : (256 * cl + 4 * q + 3) / 256 = cl := by omega
  have e2 : (256 * cl + 4 * q + 3) / 4 % 64 = q := by omega
  have e3 : (256 * cl + 4 * q + 3) % 4 = 3 := by omega
  have ho' : o < zN σ ∧ (zLY o).1 = (256 * cl + 4 * q + 3) / 256 := ⟨ho.1, ho.2.trans e1.symm⟩
  simp only [zstp, zpst, zbr, zloc, zmem]
  rw [if_pos ho']
  simp only [e2, e3, zget, zgo, hk.2, hv, and_self, or_true, if_true]
  try rfl, hr⟩) kk
theorem w_putL {v : Int64} {o cl q : Nat} {x : Nat} (hk : zat c pc (.putfield x) 3 t pc') (hx : x = 256 * cl + 4 * q + 1 ∧ q < 64) (ho : zO σ o cl) (kk : zP c pc' ls (r) (zwL σ o q v) Q) : zP c pc ls (.long v :: .ref o :: r) σ Q := w_step hk rfl (fun ls' hr => ⟨ls', by
  obtain ⟨rfl, hq⟩ := hx
  have e1 : (256 * cl + 4 * q + 1) / 256 = cl := by omega
  have e2 : (256 * cl + 4 * q + 1) / 4 % 64 = q := by omega
  have e3 : (256 * cl + 4 * q + 1) % 4 = 1 := by omega
  have ho' : o < zN σ ∧ (zLY o).1 = (256 * cl + 4 * q + 1) / 256 := ⟨ho.1, ho.2.trans e1.symm⟩
  simp only [zstp, zpst, zbr, zloc, zmem]
  rw [if_pos ho']
  simp only [e2, e3, zget, zgo, hk.2, if_true]
  try rfl, hr⟩) kk
theorem w_putR {v : Nat} {o cl q : Nat} {x : Nat} (hk : zat c pc (.putfield x) 3 t pc') (hx : x = 256 * cl + 4 * q + 2 ∧ q < 64) (ho : zO σ o cl) (kk : zP c pc' ls (r) (zwR σ o q (some v)) Q) : zP c pc ls (.ref v :: .ref o :: r) σ Q := w_step hk rfl (fun ls' hr => ⟨ls', by
  obtain ⟨rfl, hq⟩ := hx
  have e1 : (256 * cl + 4 * q + 2) / 256 = cl := by omega
  have e2 : (256 * cl + 4 * q + 2) / 4 % 64 = q := by omega
  have e3 : (256 * cl + 4 * q + 2) % 4 = 2 := by omega
  have ho' : o < zN σ ∧ (zLY o).1 = (256 * cl + 4 * q + 2) / 256 := ⟨ho.1, ho.2.trans e1.symm⟩
  simp only [zstp, zpst, zbr, zloc, zmem]
  rw [if_pos ho']
  simp only [e2, e3, zget, zgo, hk.2, if_true]
  try rfl, hr⟩) kk
theorem w_putN {o cl q : Nat} {x : Nat} (hk : zat c pc (.putfield x) 3 t pc') (hx : x = 256 * cl + 4 * q + 2 ∧ q < 64) (ho : zO σ o cl) (kk : zP c pc' ls (r) (zwR σ o q none) Q) : zP c pc ls (.null :: .ref o :: r) σ Q := w_step hk rfl (fun ls' hr => ⟨ls', by
  obtain ⟨rfl, hq⟩ := hx
  have e1 : (256 * cl + 4 * q + 2) / 256 = cl := by omega
  have e2 : (256 * cl + 4 * q + 2) / 4 % 64 = q := by omega
  have e3 : (256 * cl + 4 * q + 2) % 4 = 2 := by omega
  have ho' : o < zN σ ∧ (zLY o).1 = (256 * cl + 4 * q + 2) / 256 := ⟨ho.1, ho.2.trans e1.symm⟩
  simp only [zstp, zpst, zbr, zloc, zmem]
  rw [if_pos ho']
  simp only [e2, e3, zget, zgo, hk.2, if_true]
  try rfl, hr⟩) kk
theorem w_iald {a n j : Nat} {k : Int32} {v : Int32} (hk : zat c pc .iaload 1 t pc') (ha : zA σ a 12 n) (hi : zix k n j) (hv : zI σ a j = v) (kk : zP c pc' ls (.int v :: r) σ Q) : zP c pc ls (.int k :: .ref a :: r) σ Q := w_step hk rfl (fun ls' hr => ⟨ls', by
  have hc : a < zN σ ∧ (zLY a).1 = 12 ∧ zin k (zLY a).2 := ⟨ha.1, by rw [ha.2.1], by rw [ha.2.1]; exact hi.zin⟩
  simp only [zstp, zpst, zbr, zloc, zmem]
  rw [if_neg (show ¬ a = zSCR by have := ha.2.2; unfold zSCR; omega)]
  rw [if_pos hc]
  simp only [zgo, hk.2, hi.2.1, hv], hr⟩) kk
theorem w_lald {a n j : Nat} {k : Int32} {v : Int64} (hk : zat c pc .laload 1 t pc') (ha : zA σ a 13 n) (hi : zix k n j) (hv : zL σ a j = v) (kk : zP c pc' ls (.long v :: r) σ Q) : zP c pc ls (.int k :: .ref a :: r) σ Q := w_step hk rfl (fun ls' hr => ⟨ls', by
  have hc : a < zN σ ∧ (zLY a).1 = 13 ∧ zin k (zLY a).2 := ⟨ha.1, by rw [ha.2.1], by rw [ha.2.1]; exact hi.zin⟩
  simp only [zstp, zpst, zbr, zloc, zmem]
  rw [if_pos hc]
  simp only [zgo, hk.2, hi.2.1, hv], hr⟩) kk
theorem w_sald {j L : Nat} {k : Int32} (hk : zat c pc .iaload 1 t pc') (hL : zR σ zSCR 0 = some L) (hi : zix k L j) (kk : zP c pc' ls (.int (zI σ zSCR j) :: r) σ Q) : zP c pc ls (.int k :: .ref zSCR :: r) σ Q := w_step hk rfl (fun ls' hr => ⟨ls', by
  simp only [zstp, zpst, zbr, zloc, zmem, if_true, hL, Option.getD_some]
  rw [if_pos hi.zin]
  simp only [zgo, hk.2, hi.2.1], hr⟩) kk
theorem w_slen {L : Nat} (hk : zat c pc .arraylength 1 t pc') (hL : zR σ zSCR 0 = some L) (kk : zP c pc' ls (.int (Int32.ofNat L) :: r) σ Q) : zP c pc ls (.ref zSCR :: r) σ Q := w_step hk rfl (fun ls' hr => ⟨ls', by
  simp only [zstp, zpst, zbr, zloc, zmem, if_true, hL, Option.getD_some, zgo, hk.2], hr⟩) kk
theorem w_alen {a kd n : Nat} (hk : zat c pc .arraylength 1 t pc') (ha : zA σ a kd n) (hkd : 11 ≤ kd ∧ kd ≤ 18) (kk : zP c pc' ls (.int (Int32.ofNat n) :: r) σ Q) : zP c pc ls (.ref a :: r) σ Q := w_step hk rfl (fun ls' hr => ⟨ls', by
  have hc : a < zN σ ∧ 11 ≤ (zLY a).1 ∧ (zLY a).1 ≤ 18 := ⟨ha.1, by rw [ha.2.1]; exact hkd.1, by rw [ha.2.1]; exact hkd.2⟩
  simp only [zstp, zpst, zbr, zloc, zmem]
  rw [if_neg (show ¬ a = zSCR by have := ha.2.2; unfold zSCR; omega), if_pos hc]
  simp only [zgo, hk.2, ha.2.1], hr⟩) kk
theorem w_aald {a b kd n j : Nat} {k : Int32} (hk : zat c pc .aaload 1 t pc') (ha : zA σ a kd n) (hkd : 15 ≤ kd ∧ kd ≤ 18) (hi : zix k n j) (hb : zR σ a j = some b) (kk : zP c pc' ls (.ref b :: r) σ Q) : zP c pc ls (.int k :: .ref a :: r) σ Q := w_step hk rfl (fun ls' hr => ⟨ls', by
  have hc : a < zN σ ∧ (15 ≤ (zLY a).1 ∧ (zLY a).1 ≤ 18) ∧ zin k (zLY a).2 := ⟨ha.1, ⟨by rw [ha.2.1]; exact hkd.1, by rw [ha.2.1]; exact hkd.2⟩, by rw [ha.2.1]; exact hi.zin⟩
  simp only [zstp, zpst, zbr, zloc, zmem]
  rw [if_pos hc]
  simp only [zgo, hk.2, hi.2.1, hb, va_rf], hr⟩) kk
theorem w_aast {a v kd cv n j : Nat} {k : Int32} (hk : zat c pc .aastore 1 t pc') (ha : zA σ a kd n) (hv : zO σ v cv) (hkd : (kd, cv) ∈ [(15, 2), (16, 5), (17, 6)]) (hi : zix k n j) (kk : zP c pc' ls r (zwR σ a j (some v)) Q) : zP c pc ls (.ref v :: .int k :: .ref a :: r) σ Q := w_step hk rfl (fun ls' hr => ⟨ls', by
  have hc : a < zN σ ∧ v < zN σ ∧ ((zLY a).1, (zLY v).1) ∈ [(15, 2), (16, 5), (17, 6)] ∧ zin k (zLY a).2 := ⟨ha.1, hv.1, by rw [ha.2.1, hv.2]; exact hkd, by rw [ha.2.1]; exact hi.zin⟩
  simp only [zstp, zpst, zbr, zloc, zmem]
  rw [if_pos hc]
  simp only [zgo, hk.2, hi.2.1], hr⟩) kk
theorem w_iast {a n j : Nat} {k : Int32} {v : Int32} (hk : zat c pc .iastore 1 t pc') (ha : zA σ a 12 n) (hi : zix k n j) (kk : zP c pc' ls r (zwI σ a j v) Q) : zP c pc ls (.int v :: .int k :: .ref a :: r) σ Q := w_step hk rfl (fun ls' hr => ⟨ls', by
  have hc : a < zN σ ∧ (zLY a).1 = 12 ∧ zin k (zLY a).2 := ⟨ha.1, by rw [ha.2.1], by rw [ha.2.1]; exact hi.zin⟩
  simp only [zstp, zpst, zbr, zloc, zmem]
  rw [if_pos hc]
  simp only [zgo, hk.2, hi.2.1], hr⟩) kk
theorem w_last {a n j : Nat} {k : Int32} {v : Int64} (hk : zat c pc .lastore 1 t pc') (ha : zA σ a 13 n) (hi : zix k n j) (kk : zP c pc' ls r (zwL σ a j v) Q) : zP c pc ls (.long v :: .int k :: .ref a :: r) σ Q := w_step hk rfl (fun ls' hr => ⟨ls', by
  have hc : a < zN σ ∧ (zLY a).1 = 13 ∧ zin k (zLY a).2 := ⟨ha.1, by rw [ha.2.1], by rw [ha.2.1]; exact hi.zin⟩
  simp only [zstp, zpst, zbr, zloc, zmem]
  rw [if_pos hc]
  simp only [zgo, hk.2, hi.2.1], hr⟩) kk
theorem w_new {cl : Nat} (hk : zat c pc (.new cl) 3 t pc') (h : (zLY (zN σ)).1 = cl ∧ cl ≤ 10) (kk : zP c pc' ls (.ref (zN σ) :: st) (znew σ) Q) : zP c pc ls st σ Q := w_step hk rfl (fun ls' hr => ⟨ls', by
  simp only [zstp, zpst, zbr, zloc, zmem, zmak]
  rw [if_pos h]
  simp only [zgo, hk.2], hr⟩) kk
theorem w_newa {ty : ArrayType} {n : Nat} {k : Int32} (hk : zat c pc (.newarray ty) 2 t pc') (h : zaty ty ≤ 14 ∧ zLY (zN σ) = (zaty ty, n)) (hn : ¬ k < 0 ∧ k.toNatClampNeg = n) (kk : zP c pc' ls (.ref (zN σ) :: r) (znew σ) Q) : zP c pc ls (.int k :: r) σ Q := w_step hk rfl (fun ls' hr => ⟨ls', by
  have hc : zaty ty ≤ 14 ∧ ¬ k < 0 ∧ zLY (zN σ) = (zaty ty, k.toNatClampNeg) := ⟨h.1, hn.1, by rw [hn.2]; exact h.2⟩
  simp only [zstp, zpst, zbr, zloc, zmem, zmak]
  rw [if_pos hc]
  simp only [zgo, hk.2], hr⟩) kk
theorem w_newq {kd n : Nat} {k : Int32} (hk : zat c pc (.anewarray kd) 3 t pc') (h : (kd = 15 ∨ kd = 16 ∨ kd = 17) ∧ zLY (zN σ) = (kd, n)) (hn : ¬ k < 0 ∧ k.toNatClampNeg = n) (kk : zP c pc' ls (.ref (zN σ) :: r) (znew σ) Q) : zP c pc ls (.int k :: r) σ Q := w_step hk rfl (fun ls' hr => ⟨ls', by
  have hc : (kd = 15 ∨ kd = 16 ∨ kd = 17) ∧ ¬ k < 0 ∧ zLY (zN σ) = (kd, k.toNatClampNeg) := ⟨h.1, hn.1, by rw [hn.2]; exact h.2⟩
  simp only [zstp, zpst, zbr, zloc, zmem, zmak]
  rw [if_pos hc]
  simp only [zgo, hk.2], hr⟩) kk
theorem w_newm {k n : Int32} {N K : Nat} (hk : zat c pc (.multianewarray 18 2) 4 t pc') (hn : ¬ n < 0 ∧ n.toNatClampNeg = N) (hkk : ¬ k < 0 ∧ k.toNatClampNeg = K) (h : zLY (zN σ) = (18, N)) (h2 : ∀ j, j < N → zLY (zN σ + 1 + j) = (13, K)) (kk : zP c pc' ls (.ref (zN σ) :: r) (zrR (znews (N + 1) σ) (zN σ) (fun j => if j < N then some (zN σ + 1 + j) else none)) Q) : zP c pc ls (.int k :: .int n :: r) σ Q := w_step hk rfl (fun ls' hr => ⟨ls', by
  have hc : 18 = 18 ∧ 2 = 2 ∧ ¬ k < 0 ∧ ¬ n < 0 ∧ zLY (zN σ) = (18, n.toNatClampNeg) ∧ (∀ j, j < n.toNatClampNeg → zLY (zN σ + 1 + j) = (13, k.toNatClampNeg)) := ⟨rfl, rfl, hkk.1, hn.1, by rw [hn.2]; exact h, by rw [hn.2, hkk.2]; exact h2⟩
  have e : zmak (.multianewarray 18 2) (.int k :: .int n :: r) σ = some (.ref (zN σ) :: r, zrR (znews (n.toNatClampNeg + 1) σ) (zN σ) (fun j => if j < n.toNatClampNeg then some (zN σ + 1 + j) else none)) := if_pos hc
  simp only [zstp, zpst, zbr, zloc, zmem, e]
  simp only [zgo, hk.2, hn.2], hr⟩) kk
theorem w_return (hk : zat c pc .return_ 1 t pc') (kk : Q σ none) : zP c pc ls [] σ Q := w_end hk rfl (fun ls' => by simp only [zstp, zpst, zbr, zloc, zmem, zmak, zcst, zret]) kk
theorem w_ireturn {x : Int32} (hk : zat c pc .ireturn 1 t pc') (ht : t = 0 ∨ (t = 1 ∧ (x = 0 ∨ x = 1))) (kk : Q σ (some (.int x))) : zP c pc ls [.int x] σ Q := w_end hk rfl (fun ls' => by simp only [zstp, zpst, zbr, zloc, zmem, zmak, zcst, zret, if_pos ht]) kk
theorem w_lreturn {x : Int64} (hk : zat c pc .lreturn 1 t pc') (kk : Q σ (some (.long x))) : zP c pc ls [.long x] σ Q := w_end hk rfl (fun ls' => by simp only [zstp, zpst, zbr, zloc, zmem, zmak, zcst, zret]) kk
theorem w_dreturn {x : UInt64} (hk : zat c pc .dreturn 1 t pc') (kk : Q σ (some (.double x))) : zP c pc ls [.double x] σ Q := w_end hk rfl (fun ls' => by simp only [zstp, zpst, zbr, zloc, zmem, zmak, zcst, zret]) kk
theorem w_areturn {x : Nat} (hk : zat c pc .areturn 1 t pc') (kk : Q σ (some (.ref x))) : zP c pc ls [.ref x] σ Q := w_end hk rfl (fun ls' => by simp only [zstp, zpst, zbr, zloc, zmem, zmak, zcst, zret]) kk
theorem w_areturnN (hk : zat c pc .areturn 1 t pc') (kk : Q σ (some .null)) : zP c pc ls [.null] σ Q := w_end hk rfl (fun ls' => by simp only [zstp, zpst, zbr, zloc, zmem, zmak, zcst, zret]) kk
theorem w_cs0 {y : Nat} (hk : zat c pc (.invokestatic y) 3 t pc') (hy : y < 900 ∧ zNA y = 0) (hc : (r.map (fun v => v.category)).sum ≤ 8) (hm : (([] : List Value).map (fun v => v.category)).sum ≤ zML y) (k : zCa y [] σ (fun σ' v => zP c pc' ls (v.toList ++ r) σ' Q)) : zP c pc ls (r) σ Q := w_callG hk rfl (by rw [hy.2]; rfl) ⟨hc, Or.inr ⟨hm, fun h => by cases h⟩⟩ hy.1 k
theorem w_cs1 {a0 : Value} {y : Nat} (hk : zat c pc (.invokestatic y) 3 t pc') (hy : y < 900 ∧ zNA y = 1) (hc : (r.map (fun v => v.category)).sum ≤ 8) (hm : (([a0] : List Value).map (fun v => v.category)).sum ≤ zML y) (k : zCa y [a0] σ (fun σ' v => zP c pc' ls (v.toList ++ r) σ' Q)) : zP c pc ls (a0 :: r) σ Q := w_callG hk rfl (by rw [hy.2]; rfl) ⟨hc, Or.inr ⟨hm, fun h => by cases h⟩⟩ hy.1 k
theorem w_cv1 {y o : Nat} (hk : zat c pc (.invokevirtual y) 3 t pc') (hy : y < 900 ∧ zNA y = 1) (ho : zO σ o (zCI y)) (hc : (r.map (fun v => v.category)).sum ≤ 8) (hm : (([.ref o] : List Value).map (fun v => v.category)).sum ≤ zML y) (k : zCa y [.ref o] σ (fun σ' v => zP c pc' ls (v.toList ++ r) σ' Q)) : zP c pc ls (.ref o :: r) σ Q := w_callG hk rfl (by rw [hy.2]; rfl) ⟨hc, Or.inr ⟨hm, fun _ => by simp only [zrcv, Bool.and_eq_true, decide_eq_true_eq, beq_iff_eq]; exact ho⟩⟩ hy.1 k
theorem w_cp1 {y o : Nat} (hk : zat c pc (.invokespecial y) 3 t pc') (hy : y < 900 ∧ zNA y = 1) (ho : zO σ o (zCI y)) (hc : (r.map (fun v => v.category)).sum ≤ 8) (hm : (([.ref o] : List Value).map (fun v => v.category)).sum ≤ zML y) (k : zCa y [.ref o] σ (fun σ' v => zP c pc' ls (v.toList ++ r) σ' Q)) : zP c pc ls (.ref o :: r) σ Q := w_callG hk rfl (by rw [hy.2]; rfl) ⟨hc, Or.inr ⟨hm, fun _ => by simp only [zrcv, Bool.and_eq_true, decide_eq_true_eq, beq_iff_eq]; exact ho⟩⟩ hy.1 k
theorem w_cs2 {a0 a1 : Value} {y : Nat} (hk : zat c pc (.invokestatic y) 3 t pc') (hy : y < 900 ∧ zNA y = 2) (hc : (r.map (fun v => v.category)).sum ≤ 8) (hm : (([a0, a1] : List Value).map (fun v => v.category)).sum ≤ zML y) (k : zCa y [a0, a1] σ (fun σ' v => zP c pc' ls (v.toList ++ r) σ' Q)) : zP c pc ls (a1 :: a0 :: r) σ Q := w_callG hk rfl (by rw [hy.2]; rfl) ⟨hc, Or.inr ⟨hm, fun h => by cases h⟩⟩ hy.1 k
theorem w_cv2 {a1 : Value} {y o : Nat} (hk : zat c pc (.invokevirtual y) 3 t pc') (hy : y < 900 ∧ zNA y = 2) (ho : zO σ o (zCI y)) (hc : (r.map (fun v => v.category)).sum ≤ 8) (hm : (([.ref o, a1] : List Value).map (fun v => v.category)).sum ≤ zML y) (k : zCa y [.ref o, a1] σ (fun σ' v => zP c pc' ls (v.toList ++ r) σ' Q)) : zP c pc ls (a1 :: .ref o :: r) σ Q := w_callG hk rfl (by rw [hy.2]; rfl) ⟨hc, Or.inr ⟨hm, fun _ => by simp only [zrcv, Bool.and_eq_true, decide_eq_true_eq, beq_iff_eq]; exact ho⟩⟩ hy.1 k
theorem w_cp2 {a1 : Value} {y o : Nat} (hk : zat c pc (.invokespecial y) 3 t pc') (hy : y < 900 ∧ zNA y = 2) (ho : zO σ o (zCI y)) (hc : (r.map (fun v => v.category)).sum ≤ 8) (hm : (([.ref o, a1] : List Value).map (fun v => v.category)).sum ≤ zML y) (k : zCa y [.ref o, a1] σ (fun σ' v => zP c pc' ls (v.toList ++ r) σ' Q)) : zP c pc ls (a1 :: .ref o :: r) σ Q := w_callG hk rfl (by rw [hy.2]; rfl) ⟨hc, Or.inr ⟨hm, fun _ => by simp only [zrcv, Bool.and_eq_true, decide_eq_true_eq, beq_iff_eq]; exact ho⟩⟩ hy.1 k
theorem w_cs3 {a0 a1 a2 : Value} {y : Nat} (hk : zat c pc (.invokestatic y) 3 t pc') (hy : y < 900 ∧ zNA y = 3) (hc : (r.map (fun v => v.category)).sum ≤ 8) (hm : (([a0, a1, a2] : List Value).map (fun v => v.category)).sum ≤ zML y) (k : zCa y [a0, a1, a2] σ (fun σ' v => zP c pc' ls (v.toList ++ r) σ' Q)) : zP c pc ls (a2 :: a1 :: a0 :: r) σ Q := w_callG hk rfl (by rw [hy.2]; rfl) ⟨hc, Or.inr ⟨hm, fun h => by cases h⟩⟩ hy.1 k
theorem w_cv3 {a1 a2 : Value} {y o : Nat} (hk : zat c pc (.invokevirtual y) 3 t pc') (hy : y < 900 ∧ zNA y = 3) (ho : zO σ o (zCI y)) (hc : (r.map (fun v => v.category)).sum ≤ 8) (hm : (([.ref o, a1, a2] : List Value).map (fun v => v.category)).sum ≤ zML y) (k : zCa y [.ref o, a1, a2] σ (fun σ' v => zP c pc' ls (v.toList ++ r) σ' Q)) : zP c pc ls (a2 :: a1 :: .ref o :: r) σ Q := w_callG hk rfl (by rw [hy.2]; rfl) ⟨hc, Or.inr ⟨hm, fun _ => by simp only [zrcv, Bool.and_eq_true, decide_eq_true_eq, beq_iff_eq]; exact ho⟩⟩ hy.1 k
theorem w_cp3 {a1 a2 : Value} {y o : Nat} (hk : zat c pc (.invokespecial y) 3 t pc') (hy : y < 900 ∧ zNA y = 3) (ho : zO σ o (zCI y)) (hc : (r.map (fun v => v.category)).sum ≤ 8) (hm : (([.ref o, a1, a2] : List Value).map (fun v => v.category)).sum ≤ zML y) (k : zCa y [.ref o, a1, a2] σ (fun σ' v => zP c pc' ls (v.toList ++ r) σ' Q)) : zP c pc ls (a2 :: a1 :: .ref o :: r) σ Q := w_callG hk rfl (by rw [hy.2]; rfl) ⟨hc, Or.inr ⟨hm, fun _ => by simp only [zrcv, Bool.and_eq_true, decide_eq_true_eq, beq_iff_eq]; exact ho⟩⟩ hy.1 k
theorem w_cs4 {a0 a1 a2 a3 : Value} {y : Nat} (hk : zat c pc (.invokestatic y) 3 t pc') (hy : y < 900 ∧ zNA y = 4) (hc : (r.map (fun v => v.category)).sum ≤ 8) (hm : (([a0, a1, a2, a3] : List Value).map (fun v => v.category)).sum ≤ zML y) (k : zCa y [a0, a1, a2, a3] σ (fun σ' v => zP c pc' ls (v.toList ++ r) σ' Q)) : zP c pc ls (a3 :: a2 :: a1 :: a0 :: r) σ Q := w_callG hk rfl (by rw [hy.2]; rfl) ⟨hc, Or.inr ⟨hm, fun h => by cases h⟩⟩ hy.1 k
theorem w_cv4 {a1 a2 a3 : Value} {y o : Nat} (hk : zat c pc (.invokevirtual y) 3 t pc') (hy : y < 900 ∧ zNA y = 4) (ho : zO σ o (zCI y)) (hc : (r.map (fun v => v.category)).sum ≤ 8) (hm : (([.ref o, a1, a2, a3] : List Value).map (fun v => v.category)).sum ≤ zML y) (k : zCa y [.ref o, a1, a2, a3] σ (fun σ' v => zP c pc' ls (v.toList ++ r) σ' Q)) : zP c pc ls (a3 :: a2 :: a1 :: .ref o :: r) σ Q := w_callG hk rfl (by rw [hy.2]; rfl) ⟨hc, Or.inr ⟨hm, fun _ => by simp only [zrcv, Bool.and_eq_true, decide_eq_true_eq, beq_iff_eq]; exact ho⟩⟩ hy.1 k
theorem w_cp4 {a1 a2 a3 : Value} {y o : Nat} (hk : zat c pc (.invokespecial y) 3 t pc') (hy : y < 900 ∧ zNA y = 4) (ho : zO σ o (zCI y)) (hc : (r.map (fun v => v.category)).sum ≤ 8) (hm : (([.ref o, a1, a2, a3] : List Value).map (fun v => v.category)).sum ≤ zML y) (k : zCa y [.ref o, a1, a2, a3] σ (fun σ' v => zP c pc' ls (v.toList ++ r) σ' Q)) : zP c pc ls (a3 :: a2 :: a1 :: .ref o :: r) σ Q := w_callG hk rfl (by rw [hy.2]; rfl) ⟨hc, Or.inr ⟨hm, fun _ => by simp only [zrcv, Bool.and_eq_true, decide_eq_true_eq, beq_iff_eq]; exact ho⟩⟩ hy.1 k
theorem w_cs5 {a0 a1 a2 a3 a4 : Value} {y : Nat} (hk : zat c pc (.invokestatic y) 3 t pc') (hy : y < 900 ∧ zNA y = 5) (hc : (r.map (fun v => v.category)).sum ≤ 8) (hm : (([a0, a1, a2, a3, a4] : List Value).map (fun v => v.category)).sum ≤ zML y) (k : zCa y [a0, a1, a2, a3, a4] σ (fun σ' v => zP c pc' ls (v.toList ++ r) σ' Q)) : zP c pc ls (a4 :: a3 :: a2 :: a1 :: a0 :: r) σ Q := w_callG hk rfl (by rw [hy.2]; rfl) ⟨hc, Or.inr ⟨hm, fun h => by cases h⟩⟩ hy.1 k
theorem w_cv5 {a1 a2 a3 a4 : Value} {y o : Nat} (hk : zat c pc (.invokevirtual y) 3 t pc') (hy : y < 900 ∧ zNA y = 5) (ho : zO σ o (zCI y)) (hc : (r.map (fun v => v.category)).sum ≤ 8) (hm : (([.ref o, a1, a2, a3, a4] : List Value).map (fun v => v.category)).sum ≤ zML y) (k : zCa y [.ref o, a1, a2, a3, a4] σ (fun σ' v => zP c pc' ls (v.toList ++ r) σ' Q)) : zP c pc ls (a4 :: a3 :: a2 :: a1 :: .ref o :: r) σ Q := w_callG hk rfl (by rw [hy.2]; rfl) ⟨hc, Or.inr ⟨hm, fun _ => by simp only [zrcv, Bool.and_eq_true, decide_eq_true_eq, beq_iff_eq]; exact ho⟩⟩ hy.1 k
theorem w_cp5 {a1 a2 a3 a4 : Value} {y o : Nat} (hk : zat c pc (.invokespecial y) 3 t pc') (hy : y < 900 ∧ zNA y = 5) (ho : zO σ o (zCI y)) (hc : (r.map (fun v => v.category)).sum ≤ 8) (hm : (([.ref o, a1, a2, a3, a4] : List Value).map (fun v => v.category)).sum ≤ zML y) (k : zCa y [.ref o, a1, a2, a3, a4] σ (fun σ' v => zP c pc' ls (v.toList ++ r) σ' Q)) : zP c pc ls (a4 :: a3 :: a2 :: a1 :: .ref o :: r) σ Q := w_callG hk rfl (by rw [hy.2]; rfl) ⟨hc, Or.inr ⟨hm, fun _ => by simp only [zrcv, Bool.and_eq_true, decide_eq_true_eq, beq_iff_eq]; exact ho⟩⟩ hy.1 k
theorem w_cs6 {a0 a1 a2 a3 a4 a5 : Value} {y : Nat} (hk : zat c pc (.invokestatic y) 3 t pc') (hy : y < 900 ∧ zNA y = 6) (hc : (r.map (fun v => v.category)).sum ≤ 8) (hm : (([a0, a1, a2, a3, a4, a5] : List Value).map (fun v => v.category)).sum ≤ zML y) (k : zCa y [a0, a1, a2, a3, a4, a5] σ (fun σ' v => zP c pc' ls (v.toList ++ r) σ' Q)) : zP c pc ls (a5 :: a4 :: a3 :: a2 :: a1 :: a0 :: r) σ Q := w_callG hk rfl (by rw [hy.2]; rfl) ⟨hc, Or.inr ⟨hm, fun h => by cases h⟩⟩ hy.1 k
theorem w_cv6 {a1 a2 a3 a4 a5 : Value} {y o : Nat} (hk : zat c pc (.invokevirtual y) 3 t pc') (hy : y < 900 ∧ zNA y = 6) (ho : zO σ o (zCI y)) (hc : (r.map (fun v => v.category)).sum ≤ 8) (hm : (([.ref o, a1, a2, a3, a4, a5] : List Value).map (fun v => v.category)).sum ≤ zML y) (k : zCa y [.ref o, a1, a2, a3, a4, a5] σ (fun σ' v => zP c pc' ls (v.toList ++ r) σ' Q)) : zP c pc ls (a5 :: a4 :: a3 :: a2 :: a1 :: .ref o :: r) σ Q := w_callG hk rfl (by rw [hy.2]; rfl) ⟨hc, Or.inr ⟨hm, fun _ => by simp only [zrcv, Bool.and_eq_true, decide_eq_true_eq, beq_iff_eq]; exact ho⟩⟩ hy.1 k
theorem w_cp6 {a1 a2 a3 a4 a5 : Value} {y o : Nat} (hk : zat c pc (.invokespecial y) 3 t pc') (hy : y < 900 ∧ zNA y = 6) (ho : zO σ o (zCI y)) (hc : (r.map (fun v => v.category)).sum ≤ 8) (hm : (([.ref o, a1, a2, a3, a4, a5] : List Value).map (fun v => v.category)).sum ≤ zML y) (k : zCa y [.ref o, a1, a2, a3, a4, a5] σ (fun σ' v => zP c pc' ls (v.toList ++ r) σ' Q)) : zP c pc ls (a5 :: a4 :: a3 :: a2 :: a1 :: .ref o :: r) σ Q := w_callG hk rfl (by rw [hy.2]; rfl) ⟨hc, Or.inr ⟨hm, fun _ => by simp only [zrcv, Bool.and_eq_true, decide_eq_true_eq, beq_iff_eq]; exact ho⟩⟩ hy.1 k
theorem w_cs7 {a0 a1 a2 a3 a4 a5 a6 : Value} {y : Nat} (hk : zat c pc (.invokestatic y) 3 t pc') (hy : y < 900 ∧ zNA y = 7) (hc : (r.map (fun v => v.category)).sum ≤ 8) (hm : (([a0, a1, a2, a3, a4, a5, a6] : List Value).map (fun v => v.category)).sum ≤ zML y) (k : zCa y [a0, a1, a2, a3, a4, a5, a6] σ (fun σ' v => zP c pc' ls (v.toList ++ r) σ' Q)) : zP c pc ls (a6 :: a5 :: a4 :: a3 :: a2 :: a1 :: a0 :: r) σ Q := w_callG hk rfl (by rw [hy.2]; rfl) ⟨hc, Or.inr ⟨hm, fun h => by cases h⟩⟩ hy.1 k
theorem w_cv7 {a1 a2 a3 a4 a5 a6 : Value} {y o : Nat} (hk : zat c pc (.invokevirtual y) 3 t pc') (hy : y < 900 ∧ zNA y = 7) (ho : zO σ o (zCI y)) (hc : (r.map (fun v => v.category)).sum ≤ 8) (hm : (([.ref o, a1, a2, a3, a4, a5, a6] : List Value).map (fun v => v.category)).sum ≤ zML y) (k : zCa y [.ref o, a1, a2, a3, a4, a5, a6] σ (fun σ' v => zP c pc' ls (v.toList ++ r) σ' Q)) : zP c pc ls (a6 :: a5 :: a4 :: a3 :: a2 :: a1 :: .ref o :: r) σ Q := w_callG hk rfl (by rw [hy.2]; rfl) ⟨hc, Or.inr ⟨hm, fun _ => by simp only [zrcv, Bool.and_eq_true, decide_eq_true_eq, beq_iff_eq]; exact ho⟩⟩ hy.1 k
theorem w_cp7 {a1 a2 a3 a4 a5 a6 : Value} {y o : Nat} (hk : zat c pc (.invokespecial y) 3 t pc') (hy : y < 900 ∧ zNA y = 7) (ho : zO σ o (zCI y)) (hc : (r.map (fun v => v.category)).sum ≤ 8) (hm : (([.ref o, a1, a2, a3, a4, a5, a6] : List Value).map (fun v => v.category)).sum ≤ zML y) (k : zCa y [.ref o, a1, a2, a3, a4, a5, a6] σ (fun σ' v => zP c pc' ls (v.toList ++ r) σ' Q)) : zP c pc ls (a6 :: a5 :: a4 :: a3 :: a2 :: a1 :: .ref o :: r) σ Q := w_callG hk rfl (by rw [hy.2]; rfl) ⟨hc, Or.inr ⟨hm, fun _ => by simp only [zrcv, Bool.and_eq_true, decide_eq_true_eq, beq_iff_eq]; exact ho⟩⟩ hy.1 k
theorem w_cs8 {a0 a1 a2 a3 a4 a5 a6 a7 : Value} {y : Nat} (hk : zat c pc (.invokestatic y) 3 t pc') (hy : y < 900 ∧ zNA y = 8) (hc : (r.map (fun v => v.category)).sum ≤ 8) (hm : (([a0, a1, a2, a3, a4, a5, a6, a7] : List Value).map (fun v => v.category)).sum ≤ zML y) (k : zCa y [a0, a1, a2, a3, a4, a5, a6, a7] σ (fun σ' v => zP c pc' ls (v.toList ++ r) σ' Q)) : zP c pc ls (a7 :: a6 :: a5 :: a4 :: a3 :: a2 :: a1 :: a0 :: r) σ Q := w_callG hk rfl (by rw [hy.2]; rfl) ⟨hc, Or.inr ⟨hm, fun h => by cases h⟩⟩ hy.1 k
theorem w_cv8 {a1 a2 a3 a4 a5 a6 a7 : Value} {y o : Nat} (hk : zat c pc (.invokevirtual y) 3 t pc') (hy : y < 900 ∧ zNA y = 8) (ho : zO σ o (zCI y)) (hc : (r.map (fun v => v.category)).sum ≤ 8) (hm : (([.ref o, a1, a2, a3, a4, a5, a6, a7] : List Value).map (fun v => v.category)).sum ≤ zML y) (k : zCa y [.ref o, a1, a2, a3, a4, a5, a6, a7] σ (fun σ' v => zP c pc' ls (v.toList ++ r) σ' Q)) : zP c pc ls (a7 :: a6 :: a5 :: a4 :: a3 :: a2 :: a1 :: .ref o :: r) σ Q := w_callG hk rfl (by rw [hy.2]; rfl) ⟨hc, Or.inr ⟨hm, fun _ => by simp only [zrcv, Bool.and_eq_true, decide_eq_true_eq, beq_iff_eq]; exact ho⟩⟩ hy.1 k
theorem w_cp8 {a1 a2 a3 a4 a5 a6 a7 : Value} {y o : Nat} (hk : zat c pc (.invokespecial y) 3 t pc') (hy : y < 900 ∧ zNA y = 8) (ho : zO σ o (zCI y)) (hc : (r.map (fun v => v.category)).sum ≤ 8) (hm : (([.ref o, a1, a2, a3, a4, a5, a6, a7] : List Value).map (fun v => v.category)).sum ≤ zML y) (k : zCa y [.ref o, a1, a2, a3, a4, a5, a6, a7] σ (fun σ' v => zP c pc' ls (v.toList ++ r) σ' Q)) : zP c pc ls (a7 :: a6 :: a5 :: a4 :: a3 :: a2 :: a1 :: .ref o :: r) σ Q := w_callG hk rfl (by rw [hy.2]; rfl) ⟨hc, Or.inr ⟨hm, fun _ => by simp only [zrcv, Bool.and_eq_true, decide_eq_true_eq, beq_iff_eq]; exact ho⟩⟩ hy.1 k
theorem w_cs9 {a0 a1 a2 a3 a4 a5 a6 a7 a8 : Value} {y : Nat} (hk : zat c pc (.invokestatic y) 3 t pc') (hy : y < 900 ∧ zNA y = 9) (hc : (r.map (fun v => v.category)).sum ≤ 8) (hm : (([a0, a1, a2, a3, a4, a5, a6, a7, a8] : List Value).map (fun v => v.category)).sum ≤ zML y) (k : zCa y [a0, a1, a2, a3, a4, a5, a6, a7, a8] σ (fun σ' v => zP c pc' ls (v.toList ++ r) σ' Q)) : zP c pc ls (a8 :: a7 :: a6 :: a5 :: a4 :: a3 :: a2 :: a1 :: a0 :: r) σ Q := w_callG hk rfl (by rw [hy.2]; rfl) ⟨hc, Or.inr ⟨hm, fun h => by cases h⟩⟩ hy.1 k
theorem w_cv9 {a1 a2 a3 a4 a5 a6 a7 a8 : Value} {y o : Nat} (hk : zat c pc (.invokevirtual y) 3 t pc') (hy : y < 900 ∧ zNA y = 9) (ho : zO σ o (zCI y)) (hc : (r.map (fun v => v.category)).sum ≤ 8) (hm : (([.ref o, a1, a2, a3, a4, a5, a6, a7, a8] : List Value).map (fun v => v.category)).sum ≤ zML y) (k : zCa y [.ref o, a1, a2, a3, a4, a5, a6, a7, a8] σ (fun σ' v => zP c pc' ls (v.toList ++ r) σ' Q)) : zP c pc ls (a8 :: a7 :: a6 :: a5 :: a4 :: a3 :: a2 :: a1 :: .ref o :: r) σ Q := w_callG hk rfl (by rw [hy.2]; rfl) ⟨hc, Or.inr ⟨hm, fun _ => by simp only [zrcv, Bool.and_eq_true, decide_eq_true_eq, beq_iff_eq]; exact ho⟩⟩ hy.1 k
theorem w_cp9 {a1 a2 a3 a4 a5 a6 a7 a8 : Value} {y o : Nat} (hk : zat c pc (.invokespecial y) 3 t pc') (hy : y < 900 ∧ zNA y = 9) (ho : zO σ o (zCI y)) (hc : (r.map (fun v => v.category)).sum ≤ 8) (hm : (([.ref o, a1, a2, a3, a4, a5, a6, a7, a8] : List Value).map (fun v => v.category)).sum ≤ zML y) (k : zCa y [.ref o, a1, a2, a3, a4, a5, a6, a7, a8] σ (fun σ' v => zP c pc' ls (v.toList ++ r) σ' Q)) : zP c pc ls (a8 :: a7 :: a6 :: a5 :: a4 :: a3 :: a2 :: a1 :: .ref o :: r) σ Q := w_callG hk rfl (by rw [hy.2]; rfl) ⟨hc, Or.inr ⟨hm, fun _ => by simp only [zrcv, Bool.and_eq_true, decide_eq_true_eq, beq_iff_eq]; exact ho⟩⟩ hy.1 k
theorem w_obj {o : Nat} (hk : zat c pc (.invokespecial 907) 3 t pc') (hc : (r.map (fun v => v.category)).sum ≤ 8) (k : zP c pc' ls r σ Q) : zP c pc ls (.ref o :: r) σ Q := w_natG (a := [.ref o]) (v1 := none) hk rfl rfl hc (by decide) rfl k
theorem zixZ {n j : Nat} (h : j < n ∧ n ≤ 2147483647) : zix (iZ j) n j := ⟨fun q => by have := (iZ_lt (a := j) (b := 0) (by omega) (by omega)).mp q; omega, iZ_clamp (by omega), h.1⟩
theorem zixA {a : Int} {n j : Nat} (h : a = j ∧ j < n ∧ n ≤ 2147483647) : zix (iZ a) n j := by
  obtain ⟨rfl, h⟩ := h
  exact zixZ h
theorem w_ic {n : Int} (hk : zat c pc (.iconst n) 1 t pc') (k : zP c pc' ls (.int (iZ n) :: st) σ Q) : zP c pc ls st σ Q := w_iconst hk k
theorem w_bi {n : Int} (hk : zat c pc (.bipush n) 2 t pc') (h : (Int8.ofInt n).toInt32 = iZ n) (k : zP c pc' ls (.int (iZ n) :: st) σ Q) : zP c pc ls st σ Q := w_bipush hk (h ▸ k)
theorem w_si {n : Int} (hk : zat c pc (.sipush n) 3 t pc') (h : (Int16.ofInt n).toInt32 = iZ n) (k : zP c pc' ls (.int (iZ n) :: st) σ Q) : zP c pc ls st σ Q := w_sipush hk (h ▸ k)
theorem w_iaddZ {a b : Int} (hk : zat c pc .iadd 1 t pc') (k : zP c pc' ls (.int (iZ (a + b)) :: r) σ Q) : zP c pc ls (.int (iZ b) :: .int (iZ a) :: r) σ Q := w_iadd hk (iZ_add a b ▸ k)
theorem w_isubZ {a b : Int} (hk : zat c pc .isub 1 t pc') (k : zP c pc' ls (.int (iZ (a - b)) :: r) σ Q) : zP c pc ls (.int (iZ b) :: .int (iZ a) :: r) σ Q := w_isub hk (iZ_sub a b ▸ k)
theorem w_imulZ {a b : Int} (hk : zat c pc .imul 1 t pc') (k : zP c pc' ls (.int (iZ (a * b)) :: r) σ Q) : zP c pc ls (.int (iZ b) :: .int (iZ a) :: r) σ Q := w_imul hk (iZ_mul a b ▸ k)
theorem w_idivZ {a b : Int} (hk : zat c pc .idiv 1 t pc') (h : (0 ≤ a ∧ a ≤ 2147483647) ∧ 0 < b ∧ b ≤ 2147483647) (k : zP c pc' ls (.int (iZ (a / b)) :: r) σ Q) : zP c pc ls (.int (iZ b) :: .int (iZ a) :: r) σ Q := w_idiv hk (fun q => by have := (iZ_inj (b := 0) (by omega) (by omega)).mp q; omega) (iZ_div h.1 h.2 ▸ k)
theorem w_iremZ {a b : Int} (hk : zat c pc .irem 1 t pc') (h : (0 ≤ a ∧ a ≤ 2147483647) ∧ 0 < b ∧ b ≤ 2147483647) (k : zP c pc' ls (.int (iZ (a % b)) :: r) σ Q) : zP c pc ls (.int (iZ b) :: .int (iZ a) :: r) σ Q := w_irem hk (fun q => by have := (iZ_inj (b := 0) (by omega) (by omega)).mp q; omega) (iZ_mod h.1 h.2 ▸ k)
theorem w_inegZ {a : Int} (hk : zat c pc .ineg 1 t pc') (k : zP c pc' ls (.int (iZ (-a)) :: r) σ Q) : zP c pc ls (.int (iZ a) :: r) σ Q := w_ineg hk (by rw [show -iZ a = iZ (-a) from (Int32.ofInt_neg a).symm]; exact k)
theorem w_laddY {a b : Int} (hk : zat c pc .ladd 1 t pc') (k : zP c pc' ls (.long (lZ (a + b)) :: r) σ Q) : zP c pc ls (.long (lZ b) :: .long (lZ a) :: r) σ Q := w_ladd hk (lZ_add a b ▸ k)
theorem w_lsubY {a b : Int} (hk : zat c pc .lsub 1 t pc') (k : zP c pc' ls (.long (lZ (a - b)) :: r) σ Q) : zP c pc ls (.long (lZ b) :: .long (lZ a) :: r) σ Q := w_lsub hk (lZ_sub a b ▸ k)
theorem w_lmulY {a b : Int} (hk : zat c pc .lmul 1 t pc') (k : zP c pc' ls (.long (lZ (a * b)) :: r) σ Q) : zP c pc ls (.long (lZ b) :: .long (lZ a) :: r) σ Q := w_lmul hk (lZ_mul a b ▸ k)
theorem w_i2lZ {a : Int} (hk : zat c pc .i2l 1 t pc') (h : -2147483648 ≤ a ∧ a ≤ 2147483647) (k : zP c pc' ls (.long (lZ a) :: r) σ Q) : zP c pc ls (.int (iZ a) :: r) σ Q := w_i2l hk (iZ_l h ▸ k)
theorem w_l2iY {a : Int} (hk : zat c pc .l2i 1 t pc') (k : zP c pc' ls (.int (iZ a) :: r) σ Q) : zP c pc ls (.long (lZ a) :: r) σ Q := w_l2i hk (lZ_i a ▸ k)
theorem w_iincZ {k : Nat} {n a : Int} (hk : zat c pc (.iinc k n) 3 t pc') (h : zld ls k = some (.int (iZ a))) (h1 : zok1 ls k = true) (kk : zP c pc' ((k, .int (iZ (a + n))) :: ls) st σ Q) : zP c pc ls st σ Q := w_iinc hk h h1 (by rw [show Int32.ofInt n = iZ n from rfl, iZ_add]; exact kk)
theorem w_ldcZ {j : Nat} {z : Int} (hk : zat c pc (.ldc j) 2 t pc') (h : zCT[j]? = some (.int (iZ z))) (kk : zP c pc' ls (.int (iZ z) :: st) σ Q) : zP c pc ls st σ Q := w_ldc hk h kk
theorem w_ldc2Y {j : Nat} {z : Int} (hk : zat c pc (.ldc2_w j) 3 t pc') (h : zCT[j]? = some (.long (lZ z))) (kk : zP c pc' ls (.long (lZ z) :: st) σ Q) : zP c pc ls st σ Q := w_ldc2_w hk h kk
theorem w_lc {n : Fin 2} {z : Int} (hk : zat c pc (.lconst n) 1 t pc') (h : Int64.ofNat (n : Nat) = lZ z) (k : zP c pc' ls (.long (lZ z) :: st) σ Q) : zP c pc ls st σ Q := w_lconst hk (h ▸ k)
theorem w_tsInZ {a dflt lo hi off : Int} {offs : Array Int} {pcT : Nat} (j : Nat) (hk : zat c pc (.tableswitch dflt lo hi offs) len t pc') (hx : a = lo + j ∧ -2147483648 ≤ a ∧ a ≤ 2147483647) (hj : lo + j ≤ hi) (ho : offs[j]? = some off) (ht : zjp pc off = pcT) (k : zP c pcT ls r σ Q) : zP c pc ls (.int (iZ a) :: r) σ Q := w_tsIn j hk (by rw [iZ_to hx.2]; exact hx.1) hj ho ht k
theorem w_tsOutZ {a dflt lo hi : Int} {offs : Array Int} {pcT : Nat} (hk : zat c pc (.tableswitch dflt lo hi offs) len t pc') (ht : zjp pc dflt = pcT) (hx : (a < lo ∨ hi < a) ∧ -2147483648 ≤ a ∧ a ≤ 2147483647) (k : zP c pcT ls r σ Q) : zP c pc ls (.int (iZ a) :: r) σ Q := w_tsOut hk ht (by rw [iZ_to hx.2]; exact hx.1) k
end ZWP
