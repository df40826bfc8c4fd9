theorem lf_1 : tb_1.all leafE = true := by decide +kernel
theorem lf_2 : tb_2.all leafE = true := by decide +kernel
theorem lf_3 : tb_3.all leafE = true := by decide +kernel
theorem lf_4 : tb_4.all leafE = true := by decide +kernel
theorem lf_5 : tb_5.all leafE = true := by decide +kernel
theorem lf_6 : tb_6.all leafE = true := by decide +kernel
