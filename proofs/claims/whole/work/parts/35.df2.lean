theorem df_2 : ((t1.drop 45).take 30).all (topE 30 t1) = true := by decide +kernel
