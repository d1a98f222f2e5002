theorem pm_mw_6 : ((List.range 8).all fun k => pm_mwc (k + 71)) = true := by decide +kernel
theorem pm_mw_7 : ((List.range 12).all fun k => pm_mwc (k + 79)) = true := by decide +kernel
theorem pm_mw_8 : ((List.range 12).all fun k => pm_mwc (k + 91)) = true := by decide +kernel
theorem pm_mw_9 : ((List.range 12).all fun k => pm_mwc (k + 103)) = true := by decide +kernel
theorem pm_mw_10 : ((List.range 12).all fun k => pm_mwc (k + 115)) = true := by decide +kernel
theorem pm_mw_11 : ((List.range 12).all fun k => pm_mwc (k + 127)) = true := by decide +kernel
