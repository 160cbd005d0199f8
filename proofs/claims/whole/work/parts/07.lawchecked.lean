set_option maxRecDepth 100000 in
theorem e_L_law : (zi mL_law).all (zent mL_law) = true := by decide +kernel
theorem zMlen : zM.length = 122 := by decide +kernel
