theorem pm_ck_22 : ((List.range 10).all fun k => pm_mchk (k + 193)) = true := by decide +kernel
theorem pm_ck_23 : ((List.range 3).all fun k => pm_mchk (k + 203)) = true := by decide +kernel
theorem pm_ck_24 : ((List.range 2).all fun k => pm_mchk (k + 206)) = true := by decide +kernel
