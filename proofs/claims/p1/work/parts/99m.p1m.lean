/-! ===== the dear ones ===== -/
theorem v_bests : zySameB 24 26 245 [] = true := by decide +kernel
theorem q_bests {O : zOm} (hO : zWld O) (hS : zS O = zmS zC0) : zSame O 26 245 [] (zmM zC0) := zy_same hO hS rfl v_bests
theorem v_make_0 : zySameB 24 13 249 [(0, 0)] = true := by decide +kernel
theorem v_make_1 : zySameB 24 13 249 [(0, 1)] = true := by decide +kernel
theorem v_make_4 : zySameB 24 13 249 [(0, 4)] = true := by decide +kernel
