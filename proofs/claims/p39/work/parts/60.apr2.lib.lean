/-! of whole, what this claim takes: 60.apr2.lean.txt -/
def zgr (t : zBk) (s row pl w : Int) : Int := if w < 0 ∨ 1 < w then -4 else if zrk t s row < 0 then zrk t s row else if pl < 0 ∨ zlo t s row ≤ pl then -1 else 0
