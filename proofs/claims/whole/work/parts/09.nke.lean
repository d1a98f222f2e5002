theorem pm_ck_8 : ((List.range 10).all fun k => pm_mchk (k + 80)) = true := by decide +kernel
theorem pm_ck_9 : ((List.range 10).all fun k => pm_mchk (k + 90)) = true := by decide +kernel
