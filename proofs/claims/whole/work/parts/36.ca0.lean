theorem ca_0 : caK 400 3 [] = true := by decide +kernel
theorem ca_1 : caK 400 803 [] = true := by decide +kernel
theorem ca_2 : caK 400 1603 [] = true := by decide +kernel
theorem ca_3 : caK 400 2403 [] = true := by decide +kernel
theorem ca_4 : caK 400 3203 [(3665, [43969])] = true := by decide +kernel
theorem ca_5 : caK 400 4003 [] = true := by decide +kernel
theorem ca_6 : caK 400 4803 [] = true := by decide +kernel
theorem ca_7 : caK 400 5603 [] = true := by decide +kernel
