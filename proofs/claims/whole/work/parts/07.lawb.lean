theorem mk_248_4 : mc_248_4.all (mRow code 248) = true := by decide +kernel
theorem mk_248_5 : mc_248_5.all (mRow code 248) = true := by decide +kernel
theorem mk_248_6 : mc_248_6.all (mRow code 248) = true := by decide +kernel
theorem mk_248_7 : mc_248_7.all (mRow code 248) = true := by decide +kernel
