theorem t1 : (zmNew 8).isSome = true := by decide +kernel
