theorem pm_mw_18 : ((List.range 2).all fun k => pm_mwc (k + 188)) = true := by decide +kernel
theorem pm_mw_19 : ((List.range 1).all fun k => pm_mwc (k + 190)) = true := by decide +kernel
theorem pm_mw_20 : ((List.range 1).all fun k => pm_mwc (k + 191)) = true := by decide +kernel
theorem pm_mw_21 : ((List.range 1).all fun k => pm_mwc (k + 192)) = true := by decide +kernel
theorem pm_mw_22 : ((List.range 10).all fun k => pm_mwc (k + 193)) = true := by decide +kernel
theorem pm_mw_23 : ((List.range 3).all fun k => pm_mwc (k + 203)) = true := by decide +kernel
