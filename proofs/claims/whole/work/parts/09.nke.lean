theorem pm_ck_15 : ((List.range 1).all fun k => pm_mchk (k + 174)) = true := by decide +kernel
