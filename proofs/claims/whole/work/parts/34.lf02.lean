theorem lf_13 : tb_13.all leafE = true := by decide +kernel
theorem lf_14 : tb_14.all leafE = true := by decide +kernel
theorem lf_15 : tb_15.all leafE = true := by decide +kernel
theorem lf_16 : tb_16.all leafE = true := by decide +kernel
theorem lf_17 : tb_17.all leafE = true := by decide +kernel
theorem lf_18 : tb_18.all leafE = true := by decide +kernel
