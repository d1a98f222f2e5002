theorem pm_mw_18 : ((List.range 10).all fun k => pm_mwc (k + 180)) = true := by decide +kernel
theorem pm_mw_19 : ((List.range 10).all fun k => pm_mwc (k + 190)) = true := by decide +kernel
theorem pm_mw_20 : ((List.range 10).all fun k => pm_mwc (k + 200)) = true := by decide +kernel
theorem pm_mw_21 : ((List.range 10).all fun k => pm_mwc (k + 210)) = true := by decide +kernel
theorem pm_mw_22 : ((List.range 4).all fun k => pm_mwc (k + 220)) = true := by decide +kernel
