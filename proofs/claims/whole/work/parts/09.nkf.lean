theorem pm_ck_16 : ((List.range 12).all fun k => pm_mchk (k + 175)) = true := by decide +kernel
theorem pm_ck_17 : ((List.range 1).all fun k => pm_mchk (k + 187)) = true := by decide +kernel
theorem pm_ck_18 : ((List.range 2).all fun k => pm_mchk (k + 188)) = true := by decide +kernel
