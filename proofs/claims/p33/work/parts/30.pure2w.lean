abbrev mX1_ofKind : qq_M := (yX1_ofKind, cX1_ofKind, 5, some .long, [], 2)
abbrev mX1_digitsOf : qq_M := (yX1_digitsOf, cX1_digitsOf, 1, some .long, [], 3)
abbrev mX4_digitsAt : qq_M := (yX4_digitsAt, cX4_digitsAt, 2, some .long, [], 3)
abbrev mX4_countAhead : qq_M := (yX4_countAhead, cX4_countAhead, 8, some .int, [], 4)
abbrev mX5_areWithin : qq_M := (yX5_areWithin, cX5_areWithin, 2, some .boolean, [], 4)
abbrev mX5_liesBetween : qq_M := (yX5_liesBetween, cX5_liesBetween, 3, some .boolean, [], 4)
abbrev mX5_liesUnderQuarter : qq_M := (yX5_liesUnderQuarter, cX5_liesUnderQuarter, 1, some .boolean, [], 4)
abbrev mX5_isInItsPlace : qq_M := (yX5_isInItsPlace, cX5_isInItsPlace, 2, some .boolean, [], 5)
theorem kl_X1_28 : Cond.constantLong RX1 28 9218868437227405312 ∈ lw_gd := qq_ic lwI_1_3 9 rfl rfl
theorem kl_X1_36 : Cond.methodLink RX1 36 yX3_take ∈ lw_gd := qq_ic lwI_1_3 12 rfl rfl
theorem ks_X3_take : Cond.static yX3_take ∈ lw_gd := qq_ic lwI_1_3 13 rfl rfl
theorem ki_X3 : Cond.initialized RX3 ∈ lw_gd := qq_ic lwI_1_0 4 rfl rfl
theorem pd_8 : (parseMethodDescriptor "([JI)J").map (fun d => d.parameters.length) = some 2 := by decide +kernel
theorem hc_X3 : RX3 ≠ "java/lang/invoke/MethodHandle" ∧ RX3 ≠ "java/lang/invoke/VarHandle" := by decide +kernel
theorem kd_X3_take : qq_hd yX3_take 2 := ⟨hc_X3.1, hc_X3.2, pd_8⟩
theorem kl_X1_46 : Cond.methodLink RX1 46 yX1_scaled ∈ lw_gd := qq_ic lwI_1_4 3 rfl rfl
theorem ks_X1_scaled : Cond.static yX1_scaled ∈ lw_gd := qq_ic lwI_1_4 4 rfl rfl
theorem pd_9 : (parseMethodDescriptor "(JI)J").map (fun d => d.parameters.length) = some 2 := by decide +kernel
theorem kd_X1_scaled : qq_hd yX1_scaled 2 := ⟨hc_X1.1, hc_X1.2, pd_9⟩
theorem kc_X1_ofKind : qq_cw mX1_ofKind ∈ lw_gd := qq_ic lwI_1_3 7 rfl (by decide +kernel)
theorem kl_X1_9 : Cond.methodLink RX1 9 yX2_kindOf ∈ lw_gd := qq_ic lwI_1_2 12 rfl rfl
theorem kl_X1_15 : Cond.methodLink RX1 15 yX2_qOf ∈ lw_gd := qq_ic lwI_1_2 15 rfl rfl
theorem kl_X1_18 : Cond.methodLink RX1 18 yX2_isUnder ∈ lw_gd := qq_ic lwI_1_3 2 rfl rfl
theorem kl_X1_22 : Cond.methodLink RX1 22 yX1_ofKind ∈ lw_gd := qq_ic lwI_1_3 5 rfl rfl
theorem ks_X1_ofKind : Cond.static yX1_ofKind ∈ lw_gd := qq_ic lwI_1_3 6 rfl rfl
theorem pd_10 : (parseMethodDescriptor "(IIZ)J").map (fun d => d.parameters.length) = some 3 := by decide +kernel
theorem kd_X1_ofKind : qq_hd yX1_ofKind 3 := ⟨hc_X1.1, hc_X1.2, pd_10⟩
theorem kc_X1_digitsOf : qq_cw mX1_digitsOf ∈ lw_gd := qq_ic lwI_1_2 11 rfl (by decide +kernel)
theorem kl_X4_22 : Cond.methodLink RX4 22 yX1_ofKind ∈ lw_gd := qq_ic lwI_1_8 15 rfl rfl
theorem kl_X4_28 : Cond.methodLink RX4 28 yX1_scaled ∈ lw_gd := qq_ic lwI_1_9 0 rfl rfl
theorem kc_X4_digitsAt : qq_cw mX4_digitsAt ∈ lw_gd := qq_ic lwI_1_8 14 rfl (by decide +kernel)
theorem kl_X4_40 : Cond.constantLong RX4 40 (-9223372036854775808) ∈ lw_gd := qq_ic lwI_2_8 14 rfl rfl
theorem kl_X4_36 : Cond.methodLink RX4 36 yX1_compare ∈ lw_gd := qq_ic lwI_2_8 13 rfl rfl
theorem ks_X1_compare : Cond.static yX1_compare ∈ lw_gd := qq_ic lwI_1_7 10 rfl rfl
theorem pd_11 : (parseMethodDescriptor "(JJ)I").map (fun d => d.parameters.length) = some 2 := by decide +kernel
theorem kd_X1_compare : qq_hd yX1_compare 2 := ⟨hc_X1.1, hc_X1.2, pd_11⟩
theorem kl_X4_32 : Cond.methodLink RX4 32 yX4_digitsAt ∈ lw_gd := qq_ic lwI_2_8 12 rfl rfl
theorem ks_X4_digitsAt : Cond.static yX4_digitsAt ∈ lw_gd := qq_ic lwI_1_8 13 rfl rfl
theorem pd_12 : (parseMethodDescriptor "(II)J").map (fun d => d.parameters.length) = some 2 := by decide +kernel
theorem kd_X4_digitsAt : qq_hd yX4_digitsAt 2 := ⟨hc_X4.1, hc_X4.2, pd_12⟩
theorem kc_X4_countAhead : qq_cw mX4_countAhead ∈ lw_gd := qq_ic lwI_2_8 5 rfl (by decide +kernel)
theorem kl_X5_26 : Cond.methodLink RX5 26 yX1_digitsOf ∈ lw_gd := qq_ic lwI_1_2 9 rfl rfl
theorem ks_X1_digitsOf : Cond.static yX1_digitsOf ∈ lw_gd := qq_ic lwI_1_2 10 rfl rfl
theorem pd_13 : (parseMethodDescriptor "(I)J").map (fun d => d.parameters.length) = some 1 := by decide +kernel
theorem kd_X1_digitsOf : qq_hd yX1_digitsOf 1 := ⟨hc_X1.1, hc_X1.2, pd_13⟩
theorem kl_X5_183 : Cond.methodLink RX5 183 yX1_steps ∈ lw_gd := qq_ic lwI_1_10 5 rfl rfl
theorem ks_X1_steps : Cond.static yX1_steps ∈ lw_gd := qq_ic lwI_1_10 6 rfl rfl
theorem pd_14 : (parseMethodDescriptor "(JJ)J").map (fun d => d.parameters.length) = some 2 := by decide +kernel
theorem kd_X1_steps : qq_hd yX1_steps 2 := ⟨hc_X1.1, hc_X1.2, pd_14⟩
theorem kl_X5_72 : Cond.methodLink RX5 72 yX2_qOf ∈ lw_gd := qq_ic lwI_1_8 7 rfl rfl
theorem kl_X5_140 : Cond.methodLink RX5 140 yX2_mostSteps ∈ lw_gd := qq_ic lwI_1_10 11 rfl rfl
theorem ks_X2_mostSteps : Cond.static yX2_mostSteps ∈ lw_gd := qq_ic lwI_1_10 12 rfl rfl
theorem kd_X2_mostSteps : qq_hd yX2_mostSteps 1 := ⟨hc_X2.1, hc_X2.2, pd_2⟩
theorem kc_X5_areWithin : qq_cw mX5_areWithin ∈ lw_gd := qq_ic lwI_1_10 4 rfl (by decide +kernel)
theorem kl_X5_161 : Cond.methodLink RX5 161 yX4_digitsAt ∈ lw_gd := qq_ic lwI_1_8 12 rfl rfl
theorem kl_X5_241 : Cond.constantLong RX5 241 (-1) ∈ lw_gd := qq_ic lwI_1_9 1 rfl rfl
theorem kl_X5_167 : Cond.methodLink RX5 167 yX1_scaled ∈ lw_gd := qq_ic lwI_1_9 2 rfl rfl
theorem kl_X5_170 : Cond.methodLink RX5 170 yX1_compare ∈ lw_gd := qq_ic lwI_1_7 9 rfl rfl
theorem kc_X5_liesBetween : qq_cw mX5_liesBetween ∈ lw_gd := qq_ic lwI_1_8 11 rfl (by decide +kernel)
theorem kc_X5_liesUnderQuarter : qq_cw mX5_liesUnderQuarter ∈ lw_gd := qq_ic lwI_1_9 5 rfl (by decide +kernel)
theorem kl_X5_75 : Cond.methodLink RX5 75 yX2_kindOf ∈ lw_gd := qq_ic lwI_1_8 8 rfl rfl
theorem kl_X5_20 : Cond.methodLink RX5 20 yX2_nought ∈ lw_gd := qq_ic lwI_1_2 3 rfl rfl
theorem kl_X5_174 : Cond.methodLink RX5 174 yX5_liesBetween ∈ lw_gd := qq_ic lwI_1_8 9 rfl rfl
theorem ks_X5_liesBetween : Cond.static yX5_liesBetween ∈ lw_gd := qq_ic lwI_1_8 10 rfl rfl
theorem ki_X5 : Cond.initialized RX5 ∈ lw_gd := qq_ic lwI_1_0 1 rfl rfl
theorem hc_X5 : RX5 ≠ "java/lang/invoke/MethodHandle" ∧ RX5 ≠ "java/lang/invoke/VarHandle" := by decide +kernel
theorem kd_X5_liesBetween : qq_hd yX5_liesBetween 1 := ⟨hc_X5.1, hc_X5.2, pd_3⟩
theorem kl_X5_177 : Cond.methodLink RX5 177 yX5_liesUnderQuarter ∈ lw_gd := qq_ic lwI_1_9 3 rfl rfl
theorem ks_X5_liesUnderQuarter : Cond.static yX5_liesUnderQuarter ∈ lw_gd := qq_ic lwI_1_9 4 rfl rfl
theorem kd_X5_liesUnderQuarter : qq_hd yX5_liesUnderQuarter 1 := ⟨hc_X5.1, hc_X5.2, pd_3⟩
theorem kc_X5_isInItsPlace : qq_cw mX5_isInItsPlace ∈ lw_gd := qq_ic lwI_1_8 6 rfl (by decide +kernel)
