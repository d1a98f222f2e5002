theorem pm_ck_26 : ((List.range 12).all fun k => pm_mchk (k + 209)) = true := by decide +kernel
theorem pm_ck_27 : ((List.range 3).all fun k => pm_mchk (k + 221)) = true := by decide +kernel
