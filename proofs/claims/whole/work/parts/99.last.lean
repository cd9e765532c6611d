theorem zz_one : 1 + 1 = 2 := rfl
