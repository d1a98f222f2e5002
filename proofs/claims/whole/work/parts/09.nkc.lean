theorem pm_ck_4 : ((List.range 10).all fun k => pm_mchk (k + 40)) = true := by decide +kernel
theorem pm_ck_5 : ((List.range 10).all fun k => pm_mchk (k + 50)) = true := by decide +kernel
