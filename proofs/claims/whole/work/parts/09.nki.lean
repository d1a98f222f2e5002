theorem pm_ck_16 : ((List.range 10).all fun k => pm_mchk (k + 160)) = true := by decide +kernel
theorem pm_ck_17 : ((List.range 10).all fun k => pm_mchk (k + 170)) = true := by decide +kernel
