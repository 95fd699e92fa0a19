abbrev mX7_init : qq_M := (yX7_init, cX7_init, 4, none, [], 4)
theorem kl_X7_46 : Cond.methodLink RX7 46 yX7_times ∈ lw_gd := qq_ic lwI_5_8 5 rfl rfl
theorem kn_X7_times : Cond.instanceMethod yX7_times ∈ lw_gd := qq_ic lwI_5_8 7 rfl rfl
theorem ke_X7_times : Cond.selects RX7 yX7_times yX7_times ∈ lw_gd := qq_ic lwI_0_1 1 rfl rfl
theorem pd_44 : (parseMethodDescriptor "([I[I)[I").map (fun d => d.parameters.length) = some 2 := by decide +kernel
theorem kd_X7_times : qq_hd yX7_times 2 := ⟨hc_X7.1, hc_X7.2, pd_44⟩
theorem kl_X7_1 : Cond.methodLink RX7 1 objectInit ∈ lw_gd := qq_ic lwI_5_6 6 rfl rfl
theorem kn_obj : Cond.instanceMethod objectInit ∈ lw_gd := qq_ic lwI_1_2 1 rfl rfl
theorem kc_obj : Cond.code objectInit ⟨#[0xb1]⟩ 1 none ∈ lw_gd := qq_ic lwI_1_2 2 rfl rfl
theorem kl_X7_9 : Cond.classLink RX7 9 "[I" ∈ lw_gd := qq_ic lwI_5_6 7 rfl rfl
theorem kl_X7_42 : Cond.methodLink RX7 42 yX7_root ∈ lw_gd := qq_ic lwI_5_8 2 rfl rfl
theorem ks_X7_root : Cond.static yX7_root ∈ lw_gd := qq_ic lwI_5_8 3 rfl rfl
theorem pd_45 : (parseMethodDescriptor "(Z)[I").map (fun d => d.parameters.length) = some 1 := by decide +kernel
theorem kd_X7_root : qq_hd yX7_root 1 := ⟨hc_X7.1, hc_X7.2, pd_45⟩
theorem kc_X7_init : qq_cw mX7_init ∈ lw_gd := qq_ic lwI_5_6 5 rfl (by decide +kernel)
