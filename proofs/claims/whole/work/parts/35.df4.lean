theorem df_4 : ((t1.drop 110).take 55).all (topE 30 t1) = true := by decide +kernel
