abbrev mX7_lay : qq_M := (yX7_lay, cX7_lay, 7, some .int, [], 2)
abbrev mX7_row : qq_M := (yX7_row, cX7_row, 3, some .int, [], 3)
abbrev mX7_wipe : qq_M := (yX7_wipe, cX7_wipe, 1, some .int, [], 3)
theorem ka_boolean : Cond.arrayClass (newarray.typeOf .boolean) ∈ lw_gd := qq_ic lwI_5_10 11 rfl rfl
theorem kl_X7_140 : Cond.methodLink RX7 140 yX7_others ∈ lw_gd := qq_ic lwI_5_13 6 rfl rfl
theorem kn_X7_others : Cond.instanceMethod yX7_others ∈ lw_gd := qq_ic lwI_5_13 8 rfl rfl
theorem ke_X7_others : Cond.selects RX7 yX7_others yX7_others ∈ lw_gd := qq_ic lwI_0_1 6 rfl rfl
theorem pd_43 : (parseMethodDescriptor "([I[I[Z)I").map (fun d => d.parameters.length) = some 3 := by decide +kernel
theorem kd_X7_others : qq_hd yX7_others 3 := ⟨hc_X7.1, hc_X7.2, pd_43⟩
theorem kc_X7_lay : qq_cw mX7_lay ∈ lw_gd := qq_ic lwI_5_13 5 rfl (by decide +kernel)
theorem kl_X7_137 : Cond.methodLink RX7 137 yX7_lay ∈ lw_gd := qq_ic lwI_5_13 2 rfl rfl
theorem kn_X7_lay : Cond.instanceMethod yX7_lay ∈ lw_gd := qq_ic lwI_5_13 4 rfl rfl
theorem ke_X7_lay : Cond.selects RX7 yX7_lay yX7_lay ∈ lw_gd := qq_ic lwI_0_1 5 rfl rfl
theorem kd_X7_lay : qq_hd yX7_lay 2 := ⟨hc_X7.1, hc_X7.2, pd_1⟩
theorem kc_X7_row : qq_cw mX7_row ∈ lw_gd := qq_ic lwI_5_12 13 rfl (by decide +kernel)
theorem kc_X7_wipe : qq_cw mX7_wipe ∈ lw_gd := qq_ic lwI_5_13 13 rfl (by decide +kernel)
