/-! of whole, what this claim takes: 51.pro2.lean.txt -/
theorem zVt.u {t : zBk} (h : zVt t) (h0 : t 0 = 0 → t 1 = 0) : (0 ≤ t 0 ∧ t 0 ≤ 3) ∧ (0 ≤ t 1 ∧ t 1 ≤ 4) ∧ (t 0 = 0 → t 1 = 0) := ⟨h.1, h.2.1, h0⟩
