abbrev mX5_opposite : qq_M := (yX5_opposite, cX5_opposite, 6, some .boolean, [], 4)
abbrev mX5_init : qq_M := (yX5_init, cX5_init, 2, none, [], 4)
theorem kl_X5_189 : Cond.methodLink RX5 189 yX1_asDouble ∈ lw_gd := qq_ic lwI_5_5 3 rfl rfl
theorem ks_X1_asDouble : Cond.static yX1_asDouble ∈ lw_gd := qq_ic lwI_5_5 4 rfl rfl
theorem pd_46 : (parseMethodDescriptor "(J)D").map (fun d => d.parameters.length) = some 1 := by decide +kernel
theorem kd_X1_asDouble : qq_hd yX1_asDouble 1 := ⟨hc_X1.1, hc_X1.2, pd_46⟩
theorem kl_X5_193 : Cond.methodLink RX5 193 yX1_stepsFromOne ∈ lw_gd := qq_ic lwI_5_5 7 rfl rfl
theorem ks_X1_stepsFromOne : Cond.static yX1_stepsFromOne ∈ lw_gd := qq_ic lwI_5_5 8 rfl rfl
theorem pd_47 : (parseMethodDescriptor "(D)D").map (fun d => d.parameters.length) = some 1 := by decide +kernel
theorem kd_X1_stepsFromOne : qq_hd yX1_stepsFromOne 1 := ⟨hc_X1.1, hc_X1.2, pd_47⟩
theorem kl_X5_197 : Cond.constantDouble RX5 197 4611686018427387904 ∈ lw_gd := qq_ic lwI_5_5 12 rfl rfl
theorem kc_X5_opposite : qq_cw mX5_opposite ∈ lw_gd := qq_ic lwI_5_5 2 rfl (by decide +kernel)
theorem kc_X5_init : qq_cw mX5_init ∈ lw_gd := qq_ic lwI_1_1 15 rfl (by decide +kernel)
theorem kl_X5_1 : Cond.methodLink RX5 1 objectInit ∈ lw_gd := qq_ic lwI_1_2 0 rfl rfl
theorem ka_long : Cond.arrayClass (newarray.typeOf .long) ∈ lw_gd := qq_ic lwI_1_5 12 rfl rfl
