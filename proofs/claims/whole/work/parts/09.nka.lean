theorem pm_ck_0 : ((List.range 12).all fun k => pm_mchk (k + 0)) = true := by decide +kernel
theorem pm_ck_1 : ((List.range 12).all fun k => pm_mchk (k + 12)) = true := by decide +kernel
theorem pm_ck_2 : ((List.range 11).all fun k => pm_mchk (k + 24)) = true := by decide +kernel
theorem pm_ck_3 : ((List.range 12).all fun k => pm_mchk (k + 35)) = true := by decide +kernel
