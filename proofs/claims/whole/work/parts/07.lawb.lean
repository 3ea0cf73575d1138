theorem mk_250_4 : mc_250_4.all (mRow code 250) = true := by decide +kernel
theorem mk_250_5 : mc_250_5.all (mRow code 250) = true := by decide +kernel
theorem mk_250_6 : mc_250_6.all (mRow code 250) = true := by decide +kernel
theorem mk_250_7 : mc_250_7.all (mRow code 250) = true := by decide +kernel
