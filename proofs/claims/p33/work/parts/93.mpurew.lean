abbrev mX7_isIn : qq_M := (yX7_isIn, cX7_isIn, 3, some .boolean, [], 1)
abbrev mX7_isNoCell : qq_M := (yX7_isNoCell, cX7_isNoCell, 1, some .boolean, [], 2)
theorem kc_X7_isIn : qq_cw mX7_isIn ∈ lw_gd := qq_ic lwI_5_11 9 rfl (by decide +kernel)
theorem kl_X7_113 : Cond.methodLink RX7 113 yX7_isIn ∈ lw_gd := qq_ic lwI_5_11 7 rfl rfl
theorem ks_X7_isIn : Cond.static yX7_isIn ∈ lw_gd := qq_ic lwI_5_11 8 rfl rfl
theorem pd_31 : (parseMethodDescriptor "(III)Z").map (fun d => d.parameters.length) = some 3 := by decide +kernel
theorem kd_X7_isIn : qq_hd yX7_isIn 3 := ⟨hc_X7.1, hc_X7.2, pd_31⟩
theorem kc_X7_isNoCell : qq_cw mX7_isNoCell ∈ lw_gd := qq_ic lwI_5_11 6 rfl (by decide +kernel)
