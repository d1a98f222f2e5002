theorem pm_mw_24 : ((List.range 2).all fun k => pm_mwc (k + 206)) = true := by decide +kernel
theorem pm_mw_25 : ((List.range 1).all fun k => pm_mwc (k + 208)) = true := by decide +kernel
theorem pm_mw_26 : ((List.range 12).all fun k => pm_mwc (k + 209)) = true := by decide +kernel
theorem pm_mw_27 : ((List.range 3).all fun k => pm_mwc (k + 221)) = true := by decide +kernel
