theorem df_1 : ((t1.drop 20).take 25).all (topE 30 t1) = true := by decide +kernel
