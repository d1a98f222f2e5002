theorem pm_ck_25 : ((List.range 1).all fun k => pm_mchk (k + 208)) = true := by decide +kernel
