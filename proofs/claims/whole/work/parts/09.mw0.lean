theorem pm_mw_0 : ((List.range 10).all fun k => pm_mwc (k + 0)) = true := by decide +kernel
theorem pm_mw_1 : ((List.range 10).all fun k => pm_mwc (k + 10)) = true := by decide +kernel
theorem pm_mw_2 : ((List.range 10).all fun k => pm_mwc (k + 20)) = true := by decide +kernel
theorem pm_mw_3 : ((List.range 10).all fun k => pm_mwc (k + 30)) = true := by decide +kernel
theorem pm_mw_4 : ((List.range 10).all fun k => pm_mwc (k + 40)) = true := by decide +kernel
theorem pm_mw_5 : ((List.range 10).all fun k => pm_mwc (k + 50)) = true := by decide +kernel
