/-! of whole, what this claim takes: 42.mad2.lean.txt -/
def zbn (P : Nat → Bool) : Nat → Nat
  | 0 => 0
  | k + 1 => zbn P k + if P k then 2 ^ k else 0
def zrp (t : zBk) (c r : Nat) (j : Nat) : Bool := (decide (zRS t c r ≠ 4) && decide ((zst t (zFO t c).toNat (zR1 t c r).toNat).toNat ≤ j) && decide (j < (zst t (zFO t c).toNat (zR1 t c r).toNat).toNat + (zLR t c r).toNat)) || (decide (zRS t c r = 3) && decide ((zst t (zFO t c).toNat (zR2 t c r).toNat).toNat ≤ j) && decide (j < (zst t (zFO t c).toNat (zR2 t c r).toNat).toNat + (zLR t c r).toNat))
def zRu (σ : zSt) (o : Nat) (t : zBk) (c r : Nat) : Prop := zI σ o 0 = iZ (zRT t c r) ∧ zI σ o 1 = iZ (zRS t c r) ∧ zI σ o 2 = iZ (zR1 t c r) ∧ zI σ o 3 = iZ (zR2 t c r) ∧ zI σ o 4 = iZ (zMK t c r) ∧ zI σ o 5 = iZ (zLR t c r) ∧ zI σ o 6 = iZ (zbn (zrp t c r) 24 : Nat) ∧ zI σ o 7 = iZ (if zgi (zMK t c r) (zTK t c r) then 1 else 0)
def zPl (σ : zSt) (p : Nat) (t : zBk) : Prop := zI σ p 2 = iZ (t 0) ∧ zI σ p 3 = iZ (t 1) ∧ (∀ s : Nat, s < t 0 → zSh σ (p + 3 + 5 * s) t s) ∧ True
