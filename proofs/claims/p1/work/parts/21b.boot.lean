/-! THE CONSTRUCTORS, RUN -/
def zbX : Option (zSt × Option Value) := zrunS 9000 (zcode 124) 0 (lv_args 0 [.ref 0]) [] (znew zst1)
set_option maxRecDepth 100000 in
theorem zbX_ok : zbX.isSome = true := by decide +kernel
