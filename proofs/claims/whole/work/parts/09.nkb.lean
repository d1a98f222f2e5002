theorem pm_ck_2 : ((List.range 10).all fun k => pm_mchk (k + 20)) = true := by decide +kernel
theorem pm_ck_3 : ((List.range 10).all fun k => pm_mchk (k + 30)) = true := by decide +kernel
