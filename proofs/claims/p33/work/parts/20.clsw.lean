abbrev mX3_take : qq_M := (yX3_take, cX3_take, 2, some .long, [], 1)
theorem ku_X5 : ∀ w ∈ u_ws RX5 TX5 6, w ∈ lw_gd := by decide +kernel
theorem kc_X3_take : qq_cw mX3_take ∈ lw_gd := qq_ic lwI_1_3 14 rfl (by decide +kernel)
