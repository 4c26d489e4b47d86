theorem zz_test : (1:Nat) = 1 := rfl
theorem zz_test2 : (2:Nat) = 2 := rfl
