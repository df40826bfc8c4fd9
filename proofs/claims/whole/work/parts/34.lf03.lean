theorem lf_19 : tb_19.all leafE = true := by decide +kernel
theorem lf_20 : tb_20.all leafE = true := by decide +kernel
theorem lf_21 : tb_21.all leafE = true := by decide +kernel
