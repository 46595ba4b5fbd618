/-! each method's code rows are its class file's bytes: the kernel runs the decoder -/
def okM (r : Mr) : Bool := okC r.2.1 r.2.2.2.2.2.2.2.1
theorem okM_0 : mR_0.all okM = true := by decide +kernel
theorem okM_1 : mR_1.all okM = true := by decide +kernel
theorem okM_2 : mR_2.all okM = true := by decide +kernel
theorem okM_3 : mR_3.all okM = true := by decide +kernel
theorem okM_4 : mR_4.all okM = true := by decide +kernel
theorem okM_5 : mR_5.all okM = true := by decide +kernel
theorem okM_6 : mR_6.all okM = true := by decide +kernel
theorem okM_7 : mR_7.all okM = true := by decide +kernel
theorem okM_8 : mR_8.all okM = true := by decide +kernel
theorem okM_9 : (mR_9.take 9).all okM = true := by decide +kernel
