theorem pm_ck_0 : ((List.range 10).all fun k => pm_mchk (k + 0)) = true := by decide +kernel
theorem pm_ck_1 : ((List.range 10).all fun k => pm_mchk (k + 10)) = true := by decide +kernel
