theorem zz_try : 1 + 1 = 2 := rfl
theorem zz_try2 : 1 + 1 = 2 := rfl
