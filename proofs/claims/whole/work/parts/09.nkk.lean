theorem pm_ck_20 : ((List.range 10).all fun k => pm_mchk (k + 200)) = true := by decide +kernel
theorem pm_ck_21 : ((List.range 10).all fun k => pm_mchk (k + 210)) = true := by decide +kernel
