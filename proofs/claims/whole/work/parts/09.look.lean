theorem nb_len : NB.length = 13 := by decide +kernel
theorem tb_len : TB.length = 0 := by decide +kernel
