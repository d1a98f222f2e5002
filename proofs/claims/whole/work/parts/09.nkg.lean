theorem pm_ck_12 : ((List.range 10).all fun k => pm_mchk (k + 120)) = true := by decide +kernel
theorem pm_ck_13 : ((List.range 10).all fun k => pm_mchk (k + 130)) = true := by decide +kernel
