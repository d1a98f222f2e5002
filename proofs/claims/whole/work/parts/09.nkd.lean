theorem pm_ck_6 : ((List.range 10).all fun k => pm_mchk (k + 60)) = true := by decide +kernel
theorem pm_ck_7 : ((List.range 10).all fun k => pm_mchk (k + 70)) = true := by decide +kernel
