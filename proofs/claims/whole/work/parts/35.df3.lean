theorem df_3 : ((t1.drop 75).take 35).all (topE 30 t1) = true := by decide +kernel
