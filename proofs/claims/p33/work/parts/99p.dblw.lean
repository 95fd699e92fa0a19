abbrev mX1_asDouble : qq_M := (yX1_asDouble, cX1_asDouble, 6, some .double, [], 2)
abbrev mX1_stepsFromOne : qq_M := (yX1_stepsFromOne, cX1_stepsFromOne, 4, some .double, [], 1)
theorem kl_X1_71 : Cond.constantDouble RX1 71 4611686018427387904 ∈ lw_gd := qq_ic lwI_5_5 6 rfl rfl
theorem kc_X1_asDouble : qq_cw mX1_asDouble ∈ lw_gd := qq_ic lwI_5_5 5 rfl (by decide +kernel)
theorem kl_X1_73 : Cond.constantDouble RX1 73 4841369599423283200 ∈ lw_gd := qq_ic lwI_5_5 10 rfl rfl
theorem kl_X1_75 : Cond.constantDouble RX1 75 4845873199050653696 ∈ lw_gd := qq_ic lwI_5_5 11 rfl rfl
theorem kc_X1_stepsFromOne : qq_cw mX1_stepsFromOne ∈ lw_gd := qq_ic lwI_5_5 9 rfl (by decide +kernel)
