theorem wr_0 : wr 0 = 0 := by decide
