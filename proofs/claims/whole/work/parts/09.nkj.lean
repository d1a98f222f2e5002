theorem pm_ck_18 : ((List.range 10).all fun k => pm_mchk (k + 180)) = true := by decide +kernel
theorem pm_ck_19 : ((List.range 10).all fun k => pm_mchk (k + 190)) = true := by decide +kernel
