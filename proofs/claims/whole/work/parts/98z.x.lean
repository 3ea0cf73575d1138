/-! ===== the start and the loop ===== -/
theorem zz_ok : 1 = 1 := rfl
