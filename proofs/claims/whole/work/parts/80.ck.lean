/-! the checks, by evaluation -/
theorem ck185_0 : chkR 185 0 160 = true := by decide +kernel
theorem ck185_160 : chkR 185 160 160 = true := by decide +kernel
theorem ck185_320 : chkR 185 320 160 = true := by decide +kernel
theorem ck185_480 : chkR 185 480 160 = true := by decide +kernel
theorem ck185_640 : chkR 185 640 160 = true := by decide +kernel
theorem ck185_800 : chkR 185 800 160 = true := by decide +kernel
theorem ck185_960 : chkR 185 960 32 = true := by decide +kernel
