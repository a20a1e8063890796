/-! WHAT A STEP LEAVES: objects are only added; the script stays. -/
def zKp (σ σ' : zSt) : Prop := zN σ ≤ zN σ' ∧ (zN σ' ≤ 900000 → zI σ' zSCR = zI σ zSCR ∧ zR σ' zSCR = zR σ zSCR)
theorem zKp.rfl' {σ : zSt} : zKp σ σ := ⟨Nat.le_refl _, fun _ => ⟨rfl, rfl⟩⟩
theorem zKp.trans {a b c : zSt} (h1 : zKp a b) (h2 : zKp b c) : zKp a c := ⟨Nat.le_trans h1.1 h2.1, fun h => by
  obtain ⟨x1, x2⟩ := h2.2 h
  obtain ⟨y1, y2⟩ := h1.2 (Nat.le_trans h2.1 h)
  exact ⟨x1.trans y1, x2.trans y2⟩⟩
theorem zKp_wI {σ : zSt} {o k : Nat} {v : Int32} (ho : o < zN σ) : zKp σ (zwI σ o k v) := ⟨Nat.le_refl _, fun h => ⟨by
  have h : zN σ ≤ 900000 := h
  show va_up _ _ _ zSCR = _
  simp only [va_up, show ¬ zSCR = o by unfold zSCR; omega, if_false]; rfl, rfl⟩⟩
theorem zKp_wL {σ : zSt} {o k : Nat} {v : Int64} : zKp σ (zwL σ o k v) := ⟨Nat.le_refl _, fun _ => ⟨rfl, rfl⟩⟩
theorem zKp_wR {σ : zSt} {o k : Nat} {v : Option Nat} (ho : o < zN σ) : zKp σ (zwR σ o k v) := ⟨Nat.le_refl _, fun h => ⟨rfl, by
  have h : zN σ ≤ 900000 := h
  show va_up _ _ _ zSCR = _
  simp only [va_up, show ¬ zSCR = o by unfold zSCR; omega, if_false]; rfl⟩⟩
theorem zKp_rI {σ : zSt} {o : Nat} {f : Nat → Int32} (ho : o < zN σ) : zKp σ (zrI σ o f) := ⟨Nat.le_refl _, fun h => ⟨by
  have h : zN σ ≤ 900000 := h
  show va_up _ _ _ zSCR = _
  simp only [va_up, show ¬ zSCR = o by unfold zSCR; omega, if_false]; rfl, rfl⟩⟩
theorem zKp_rL {σ : zSt} {o : Nat} {f : Nat → Int64} : zKp σ (zrL σ o f) := ⟨Nat.le_refl _, fun _ => ⟨rfl, rfl⟩⟩
theorem zKp_new {σ : zSt} : zKp σ (znew σ) := ⟨Nat.le_succ _, fun h => by
  have h : zN σ + 1 ≤ 900000 := h
  have hne : ¬ zSCR = σ.2.2.2 := by
    have : σ.2.2.2 = zN σ := rfl
    unfold zSCR; omega
  constructor
  · show va_up _ _ _ zSCR = _
    simp only [va_up, hne, if_false]; rfl
  · show va_up _ _ _ zSCR = _
    simp only [va_up, hne, if_false]; rfl⟩
theorem zmem_kp {i : Instr} {st st' : List Value} {σ σ' : zSt} (h : zmem i st σ = some (st', σ')) : zKp σ σ' := by
  unfold zmem at h
  split at h
  all_goals (repeat' (first | (cases h; done) | split at h))
  all_goals first
    | (cases h; exact zKp.rfl')
    | (rename_i hc; cases h; exact zKp_wI hc.1)
    | (cases h; exact zKp_wL)
    | (rename_i hc; cases h; exact zKp_wR hc.1)
    | (rename_i hc _ _ _; cases h; exact zKp_wI hc.1)
    | (rename_i hc _ _; cases h; exact zKp_wI hc.1)
    | (rename_i hc _ _ _; cases h; exact zKp_wR hc.1)
    | (rename_i hc _ _; cases h; exact zKp_wR hc.1)
    | (rename_i hc _; cases h; exact zKp_wR hc.1)
theorem zmak_kp {i : Instr} {st st' : List Value} {σ σ' : zSt} (h : zmak i st σ = some (st', σ')) : zKp σ σ' := by
  unfold zmak at h
  split at h
  all_goals (repeat' (first | (cases h; done) | split at h))
  all_goals first
    | (cases h; exact zKp_new)
    | skip
  rename_i k n r hc
  cases h
  refine ⟨by show zN σ ≤ zN (znews _ σ); rw [zN_news]; omega, fun h9 => ?_⟩
  have h9 : zN (znews (n.toNatClampNeg + 1) σ) ≤ 900000 := h9
  rw [zN_news] at h9
  constructor
  · show zI (znews _ σ) zSCR = _
    rw [zI_news, if_neg (by unfold zSCR; omega)]
  · show va_up _ _ _ zSCR = _
    simp only [va_up, show ¬ zSCR = zN σ by unfold zSCR; omega, if_false]
    show zR (znews _ σ) zSCR = _
    rw [zR_news, if_neg (by unfold zSCR; omega)]
theorem zstp_kp {i : Instr} {len t pc pc' : Nat} {ls ls' : zLv} {st st' : List Value} {σ σ' : zSt} (h : zstp i len t pc ls st σ = some (.inl (pc', ls', st', σ'))) : zKp σ σ' := by
  unfold zstp zgo at h
  split at h
  · cases h; exact zKp.rfl'
  · split at h
    · cases h; exact zKp.rfl'
    · split at h
      · cases h; exact zKp.rfl'
      · split at h
        · rename_i hm; cases h; exact zmem_kp hm
        · split at h
          · rename_i hm; cases h; exact zmak_kp hm
          · split at h
            · cases h; exact zKp.rfl'
            · split at h <;> cases h
theorem zstp_kpR {i : Instr} {len t pc : Nat} {ls : zLv} {st : List Value} {σ : zSt} {q : zSt × Option Value} (h : zstp i len t pc ls st σ = some (.inr q)) : zKp σ q.1 := by
  unfold zstp zgo at h
  split at h
  · cases h
  · split at h
    · cases h
    · split at h
      · cases h
      · split at h
        · cases h
        · split at h
          · cases h
          · split at h
            · cases h
            · split at h
              · cases h; exact zKp.rfl'
              · cases h
theorem znat_kp {n : Nat} {a : List Value} {σ : zSt} {q : zSt × Option Value} (h : znat n a σ = some q) : zKp σ q.1 := by
  unfold znat at h
  split at h
  all_goals (repeat' (first | (cases h; done) | split at h))
  all_goals first
    | (cases h; exact zKp.rfl')
    | (cases h; exact zKp_rL)
    | (rename_i hc _; cases h; exact zKp_rI hc.2.1)
theorem zrun_kp : ∀ (f : Nat) (c : zCode) (pc : Nat) (ls : zLv) (st : List Value) (σ : zSt) (q : zSt × Option Value), zrun f c pc ls st σ = some q → zKp σ q.1
  | 0, c, pc, ls, st, σ, q, h => by cases h
  | f + 1, c, pc, ls, st, σ, q, h => by
    rw [zrun] at h
    split at h
    · split at h
      · split at h
        · split at h
          · split at h
            · rename_i hr
              refine zKp.trans ?_ (zrun_kp f _ _ _ _ _ _ h)
              split at hr
              · exact znat_kp hr
              · exact zrun_kp f _ _ _ _ _ _ hr
            · cases h
          · cases h
        · cases h
      · split at h
        · rename_i hs
          exact zKp.trans (zstp_kp hs) (zrun_kp f _ _ _ _ _ _ h)
        · rename_i hs
          cases h
          exact zstp_kpR hs
        · cases h
    · cases h
