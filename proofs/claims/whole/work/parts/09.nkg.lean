theorem pm_ck_19 : ((List.range 1).all fun k => pm_mchk (k + 190)) = true := by decide +kernel
theorem pm_ck_20 : ((List.range 1).all fun k => pm_mchk (k + 191)) = true := by decide +kernel
