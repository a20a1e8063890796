/-! of whole, what this claim takes: 42.mad2.lean.txt -/
def zPl (σ : zSt) (p : Nat) (t : zBk) : Prop := zI σ p 2 = iZ (t 0) ∧ zI σ p 3 = iZ (t 1) ∧ (∀ s : Nat, s < t 0 → zSh σ (p + 3 + 5 * s) t s) ∧ True
