theorem pm_mw_6 : ((List.range 10).all fun k => pm_mwc (k + 60)) = true := by decide +kernel
theorem pm_mw_7 : ((List.range 10).all fun k => pm_mwc (k + 70)) = true := by decide +kernel
theorem pm_mw_8 : ((List.range 10).all fun k => pm_mwc (k + 80)) = true := by decide +kernel
theorem pm_mw_9 : ((List.range 10).all fun k => pm_mwc (k + 90)) = true := by decide +kernel
theorem pm_mw_10 : ((List.range 10).all fun k => pm_mwc (k + 100)) = true := by decide +kernel
theorem pm_mw_11 : ((List.range 10).all fun k => pm_mwc (k + 110)) = true := by decide +kernel
