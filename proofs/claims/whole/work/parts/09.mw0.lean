theorem pm_mw_0 : ((List.range 12).all fun k => pm_mwc (k + 0)) = true := by decide +kernel
theorem pm_mw_1 : ((List.range 12).all fun k => pm_mwc (k + 12)) = true := by decide +kernel
theorem pm_mw_2 : ((List.range 11).all fun k => pm_mwc (k + 24)) = true := by decide +kernel
theorem pm_mw_3 : ((List.range 12).all fun k => pm_mwc (k + 35)) = true := by decide +kernel
theorem pm_mw_4 : ((List.range 12).all fun k => pm_mwc (k + 47)) = true := by decide +kernel
theorem pm_mw_5 : ((List.range 12).all fun k => pm_mwc (k + 59)) = true := by decide +kernel
