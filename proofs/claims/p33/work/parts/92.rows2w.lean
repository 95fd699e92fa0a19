abbrev mX7_root : qq_M := (yX7_root, cX7_root, 4, some (.array .int), [], 3)
abbrev mX7_ratioLog : qq_M := (yX7_ratioLog, cX7_ratioLog, 7, some (.array .int), [], 3)
theorem kl_X7_38 : Cond.methodLink RX7 38 yX7_quarterOf ∈ lw_gd := qq_ic lwI_5_6 15 rfl rfl
theorem ks_X7_quarterOf : Cond.static yX7_quarterOf ∈ lw_gd := qq_ic lwI_5_7 0 rfl rfl
theorem pd_27 : (parseMethodDescriptor "(I)[I").map (fun d => d.parameters.length) = some 1 := by decide +kernel
theorem kd_X7_quarterOf : qq_hd yX7_quarterOf 1 := ⟨hc_X7.1, hc_X7.2, pd_27⟩
theorem kl_X7_60 : Cond.methodLink RX7 60 yX7_isNothing ∈ lw_gd := qq_ic lwI_5_7 9 rfl rfl
theorem ks_X7_isNothing : Cond.static yX7_isNothing ∈ lw_gd := qq_ic lwI_5_7 10 rfl rfl
theorem pd_28 : (parseMethodDescriptor "([I)Z").map (fun d => d.parameters.length) = some 1 := by decide +kernel
theorem kd_X7_isNothing : qq_hd yX7_isNothing 1 := ⟨hc_X7.1, hc_X7.2, pd_28⟩
theorem kl_X7_64 : Cond.methodLink RX7 64 yX7_divide ∈ lw_gd := qq_ic lwI_5_7 5 rfl rfl
theorem ks_X7_divide : Cond.static yX7_divide ∈ lw_gd := qq_ic lwI_5_7 6 rfl rfl
theorem pd_29 : (parseMethodDescriptor "([II[I)V").map (fun d => d.parameters.length) = some 3 := by decide +kernel
theorem kd_X7_divide : qq_hd yX7_divide 3 := ⟨hc_X7.1, hc_X7.2, pd_29⟩
theorem kc_X7_root : qq_cw mX7_root ∈ lw_gd := qq_ic lwI_5_8 4 rfl (by decide +kernel)
theorem kl_X7_68 : Cond.methodLink RX7 68 yJ9_abs_0f7a4 ∈ lw_gd := qq_ic lwI_5_6 12 rfl rfl
theorem ks_J9_abs_0f7a4 : Cond.static yJ9_abs_0f7a4 ∈ lw_gd := qq_ic lwI_5_6 13 rfl rfl
theorem hc_J9 : RJ9 ≠ "java/lang/invoke/MethodHandle" ∧ RJ9 ≠ "java/lang/invoke/VarHandle" := by decide +kernel
theorem kd_J9_abs_0f7a4 : qq_hd yJ9_abs_0f7a4 1 := ⟨hc_J9.1, hc_J9.2, pd_2⟩
theorem kl_X7_74 : Cond.methodLink RX7 74 yX7_multiply ∈ lw_gd := qq_ic lwI_5_7 15 rfl rfl
theorem ks_X7_multiply : Cond.static yX7_multiply ∈ lw_gd := qq_ic lwI_5_8 0 rfl rfl
theorem pd_30 : (parseMethodDescriptor "([II)V").map (fun d => d.parameters.length) = some 2 := by decide +kernel
theorem kd_X7_multiply : qq_hd yX7_multiply 2 := ⟨hc_X7.1, hc_X7.2, pd_30⟩
theorem kc_X7_ratioLog : qq_cw mX7_ratioLog ∈ lw_gd := qq_ic lwI_5_6 11 rfl (by decide +kernel)
