theorem pm_ck_14 : ((List.range 10).all fun k => pm_mchk (k + 140)) = true := by decide +kernel
theorem pm_ck_15 : ((List.range 10).all fun k => pm_mchk (k + 150)) = true := by decide +kernel
