set_option maxRecDepth 100000 in
theorem zboot6 : zN zS1 = 164 := by decide +kernel
