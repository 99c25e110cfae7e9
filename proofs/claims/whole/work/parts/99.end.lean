theorem zz_end : 1 + 1 = 2 := rfl
