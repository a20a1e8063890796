/-! of whole, what this claim takes: 55.rel.lean.txt -/
abbrev zClF (t : zBk) (s f i : Nat) : Prop := (f : Int) < zNF t s ∧ (i : Int) < zCE t s f
