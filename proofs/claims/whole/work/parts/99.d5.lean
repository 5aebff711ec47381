theorem y_chk6 : y_chk 6 = true := by decide +kernel
theorem y_chk7 : y_chk 7 = true := by decide +kernel
