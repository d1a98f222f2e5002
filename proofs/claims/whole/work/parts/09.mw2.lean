theorem pm_mw_12 : ((List.range 12).all fun k => pm_mwc (k + 139)) = true := by decide +kernel
theorem pm_mw_13 : ((List.range 12).all fun k => pm_mwc (k + 151)) = true := by decide +kernel
theorem pm_mw_14 : ((List.range 11).all fun k => pm_mwc (k + 163)) = true := by decide +kernel
theorem pm_mw_15 : ((List.range 1).all fun k => pm_mwc (k + 174)) = true := by decide +kernel
theorem pm_mw_16 : ((List.range 12).all fun k => pm_mwc (k + 175)) = true := by decide +kernel
theorem pm_mw_17 : ((List.range 1).all fun k => pm_mwc (k + 187)) = true := by decide +kernel
