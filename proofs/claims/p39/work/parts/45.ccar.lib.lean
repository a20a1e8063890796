/-! of whole, what this claim takes: 45.ccar.lean.txt -/
def zIsV (a : Nat) : Prop := a = 107 ∨ a = 108 ∨ a = 111 ∨ a = 112 ∨ a = 113
theorem zIsV.a {σ : zSt} {a : Nat} (h : zIsV a) (hF : zFx σ) : zA σ a 13 24 := by rcases h with rfl | rfl | rfl | rfl | rfl <;> exact zAl hF rfl
theorem zIsS.v {o a : Nat} (h : zIsS o) (ha : zIsV a) : o ≠ a ∧ o + 1 ≠ a ∧ o + 2 ≠ a ∧ o + 3 ≠ a ∧ o + 4 ≠ a ∧ o ≠ 103 ∧ o + 1 ≠ 103 ∧ o + 2 ≠ 103 ∧ o + 3 ≠ 103 ∧ o + 4 ≠ 103 := by unfold zIsS at h; unfold zIsV at ha; omega
theorem zIsG.v {o a k : Nat} (h : zIsG o) (ha : zIsV a) (hk : k ≤ 7) : o + k ≠ a ∧ o + k ≠ 103 := by unfold zIsG at h; unfold zIsV at ha; omega
