abbrev mX2_nameOf : qq_M := (yX2_nameOf, cX2_nameOf, 1, some (.object "java/lang/String"), [], 1)
abbrev mX2_textOf : qq_M := (yX2_textOf, cX2_textOf, 2, some (.object "java/lang/String"), [], 11)
theorem kc_X2_nameOf : qq_cw mX2_nameOf ∈ lw_gd := qq_ic lwI_4_11 0 rfl (by decide +kernel)
theorem kx_J4 : Cond.instantiable RJ4 4 ∈ lw_gd := qq_ic lwI_3_10 8 rfl rfl
theorem kl_X2_37 : Cond.classLink RX2 37 "java/lang/StringBuilder" ∈ lw_gd := qq_ic lwI_3_10 7 rfl rfl
theorem kl_X2_39 : Cond.methodLink RX2 39 yJ4_init_da8c8 ∈ lw_gd := qq_ic lwI_3_10 9 rfl rfl
theorem kn_J4_init_da8c8 : Cond.instanceMethod yJ4_init_da8c8 ∈ lw_gd := qq_ic lwI_3_10 10 rfl rfl
theorem hc_J4 : RJ4 ≠ "java/lang/invoke/MethodHandle" ∧ RJ4 ≠ "java/lang/invoke/VarHandle" := by decide +kernel
theorem kd_J4_init_da8c8 : qq_hd yJ4_init_da8c8 0 := ⟨hc_J4.1, hc_J4.2, pd_21⟩
theorem kl_X2_44 : Cond.methodLink RX2 44 yJ4_append_15ec4 ∈ lw_gd := qq_ic lwI_3_12 8 rfl rfl
theorem kn_J4_append_15ec4 : Cond.instanceMethod yJ4_append_15ec4 ∈ lw_gd := qq_ic lwI_3_12 9 rfl rfl
theorem ke_J4_append_15ec4 : Cond.selects RJ4 yJ4_append_15ec4 yJ4_append_15ec4 ∈ lw_gd := qq_ic lwI_3_12 10 rfl rfl
theorem pd_62 : (parseMethodDescriptor "(Ljava/lang/String;)Ljava/lang/StringBuilder;").map (fun d => d.parameters.length) = some 1 := by decide +kernel
theorem kd_J4_append_15ec4 : qq_hd yJ4_append_15ec4 1 := ⟨hc_J4.1, hc_J4.2, pd_62⟩
theorem kl_X2_52 : Cond.methodLink RX2 52 yJ4_toString_0e30d ∈ lw_gd := qq_ic lwI_4_5 2 rfl rfl
theorem kn_J4_toString_0e30d : Cond.instanceMethod yJ4_toString_0e30d ∈ lw_gd := qq_ic lwI_4_5 3 rfl rfl
theorem ke_J4_toString_0e30d : Cond.selects RJ4 yJ4_toString_0e30d yJ4_toString_0e30d ∈ lw_gd := qq_ic lwI_4_5 4 rfl rfl
theorem pd_63 : (parseMethodDescriptor "()Ljava/lang/String;").map (fun d => d.parameters.length) = some 0 := by decide +kernel
theorem kd_J4_toString_0e30d : qq_hd yJ4_toString_0e30d 0 := ⟨hc_J4.1, hc_J4.2, pd_63⟩
theorem kl_X2_56 : Cond.methodLink RX2 56 yX2_nameOf ∈ lw_gd := qq_ic lwI_4_10 14 rfl rfl
theorem ks_X2_nameOf : Cond.static yX2_nameOf ∈ lw_gd := qq_ic lwI_4_10 15 rfl rfl
theorem pd_64 : (parseMethodDescriptor "(I)Ljava/lang/String;").map (fun d => d.parameters.length) = some 1 := by decide +kernel
theorem kd_X2_nameOf : qq_hd yX2_nameOf 1 := ⟨hc_X2.1, hc_X2.2, pd_64⟩
theorem kl_X2_60 : Cond.methodLink RX2 60 yJ4_append_cf468 ∈ lw_gd := qq_ic lwI_4_11 7 rfl rfl
theorem kn_J4_append_cf468 : Cond.instanceMethod yJ4_append_cf468 ∈ lw_gd := qq_ic lwI_4_11 8 rfl rfl
theorem ke_J4_append_cf468 : Cond.selects RJ4 yJ4_append_cf468 yJ4_append_cf468 ∈ lw_gd := qq_ic lwI_4_11 9 rfl rfl
theorem pd_65 : (parseMethodDescriptor "(C)Ljava/lang/StringBuilder;").map (fun d => d.parameters.length) = some 1 := by decide +kernel
theorem kd_J4_append_cf468 : qq_hd yJ4_append_cf468 1 := ⟨hc_J4.1, hc_J4.2, pd_65⟩
theorem kl_X2_63 : Cond.methodLink RX2 63 yJ4_append_bf812 ∈ lw_gd := qq_ic lwI_4_12 13 rfl rfl
theorem kn_J4_append_bf812 : Cond.instanceMethod yJ4_append_bf812 ∈ lw_gd := qq_ic lwI_4_7 10 rfl rfl
theorem ke_J4_append_bf812 : Cond.selects RJ4 yJ4_append_bf812 yJ4_append_bf812 ∈ lw_gd := qq_ic lwI_4_7 11 rfl rfl
theorem pd_66 : (parseMethodDescriptor "(I)Ljava/lang/StringBuilder;").map (fun d => d.parameters.length) = some 1 := by decide +kernel
theorem kd_J4_append_bf812 : qq_hd yJ4_append_bf812 1 := ⟨hc_J4.1, hc_J4.2, pd_66⟩
theorem kc_X2_textOf : qq_cw mX2_textOf ∈ lw_gd := qq_ic lwI_3_10 6 rfl (by decide +kernel)
