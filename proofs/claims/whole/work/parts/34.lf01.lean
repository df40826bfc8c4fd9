theorem lf_7 : tb_7.all leafE = true := by decide +kernel
theorem lf_8 : tb_8.all leafE = true := by decide +kernel
theorem lf_9 : tb_9.all leafE = true := by decide +kernel
theorem lf_10 : tb_10.all leafE = true := by decide +kernel
theorem lf_11 : tb_11.all leafE = true := by decide +kernel
theorem lf_12 : tb_12.all leafE = true := by decide +kernel
