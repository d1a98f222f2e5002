theorem pm_ck_11 : ((List.range 12).all fun k => pm_mchk (k + 127)) = true := by decide +kernel
theorem pm_ck_12 : ((List.range 12).all fun k => pm_mchk (k + 139)) = true := by decide +kernel
theorem pm_ck_13 : ((List.range 12).all fun k => pm_mchk (k + 151)) = true := by decide +kernel
theorem pm_ck_14 : ((List.range 11).all fun k => pm_mchk (k + 163)) = true := by decide +kernel
