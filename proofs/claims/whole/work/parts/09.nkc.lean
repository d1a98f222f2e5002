theorem pm_ck_7 : ((List.range 12).all fun k => pm_mchk (k + 79)) = true := by decide +kernel
theorem pm_ck_8 : ((List.range 12).all fun k => pm_mchk (k + 91)) = true := by decide +kernel
theorem pm_ck_9 : ((List.range 12).all fun k => pm_mchk (k + 103)) = true := by decide +kernel
theorem pm_ck_10 : ((List.range 12).all fun k => pm_mchk (k + 115)) = true := by decide +kernel
