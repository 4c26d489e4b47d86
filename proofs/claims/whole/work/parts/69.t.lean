theorem t11 : (zmNew 11).isSome = true := by decide +kernel
theorem t0 : (zmNew 0).isSome = true := by decide +kernel
