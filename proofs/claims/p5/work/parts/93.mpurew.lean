abbrev mX7_isIn : qq_M := (yX7_isIn, cX7_isIn, 3, some .boolean, [], 1)
abbrev mX7_isNoCell : qq_M := (yX7_isNoCell, cX7_isNoCell, 1, some .boolean, [], 2)
theorem kc_X7_isIn : qq_cw mX7_isIn ∈ lw_gd := qq_in 1185 (by decide +kernel) (by decide +kernel)
theorem kl_X7_113 : Cond.methodLink RX7 113 yX7_isIn ∈ lw_gd := qq_in 1183 (by decide +kernel) (by decide +kernel)
theorem ks_X7_isIn : Cond.static yX7_isIn ∈ lw_gd := qq_in 1184 (by decide +kernel) (by decide +kernel)
theorem kd_X7_isIn : qq_hd yX7_isIn 3 := by decide +kernel
theorem kc_X7_isNoCell : qq_cw mX7_isNoCell ∈ lw_gd := qq_in 1182 (by decide +kernel) (by decide +kernel)
