theorem pm_ck_22 : ((List.range 4).all fun k => pm_mchk (k + 220)) = true := by decide +kernel
