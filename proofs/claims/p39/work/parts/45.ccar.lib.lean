/-! of whole, what this claim takes: 45.ccar.lean.txt -/
def zIsV (a : Nat) : Prop := a = 107 ∨ a = 108 ∨ a = 111 ∨ a = 112 ∨ a = 113
theorem zIsV.a {σ : zSt} {a : Nat} (h : zIsV a) (hF : zFx σ) : zA σ a 13 24 := by rcases h with rfl | rfl | rfl | rfl | rfl <;> exact zAl hF rfl
