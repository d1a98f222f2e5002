theorem pm_ck_21 : ((List.range 1).all fun k => pm_mchk (k + 192)) = true := by decide +kernel
