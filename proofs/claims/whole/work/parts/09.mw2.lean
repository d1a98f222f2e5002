theorem pm_mw_12 : ((List.range 10).all fun k => pm_mwc (k + 120)) = true := by decide +kernel
theorem pm_mw_13 : ((List.range 10).all fun k => pm_mwc (k + 130)) = true := by decide +kernel
theorem pm_mw_14 : ((List.range 10).all fun k => pm_mwc (k + 140)) = true := by decide +kernel
theorem pm_mw_15 : ((List.range 10).all fun k => pm_mwc (k + 150)) = true := by decide +kernel
theorem pm_mw_16 : ((List.range 10).all fun k => pm_mwc (k + 160)) = true := by decide +kernel
theorem pm_mw_17 : ((List.range 10).all fun k => pm_mwc (k + 170)) = true := by decide +kernel
