theorem pm_ck_4 : ((List.range 12).all fun k => pm_mchk (k + 47)) = true := by decide +kernel
theorem pm_ck_5 : ((List.range 12).all fun k => pm_mchk (k + 59)) = true := by decide +kernel
theorem pm_ck_6 : ((List.range 8).all fun k => pm_mchk (k + 71)) = true := by decide +kernel
