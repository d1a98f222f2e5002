theorem pm_ck_10 : ((List.range 10).all fun k => pm_mchk (k + 100)) = true := by decide +kernel
theorem pm_ck_11 : ((List.range 10).all fun k => pm_mchk (k + 110)) = true := by decide +kernel
