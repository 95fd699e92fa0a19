abbrev mX7_logOf : qq_M := (yX7_logOf, cX7_logOf, 6, some (.array .int), [], 4)
theorem kl_X7_15 : Cond.fieldLink RX7 15 "QuarterpowersModel" "logs" "[[I" ∈ lw_gd := qq_ic lwI_5_8 10 rfl rfl
theorem kl_X7_22 : Cond.fieldLink RX7 22 "QuarterpowersModel" "two" "[I" ∈ lw_gd := qq_ic lwI_5_8 11 rfl rfl
theorem kc_X7_logOf : qq_cw mX7_logOf ∈ lw_gd := qq_ic lwI_6_3 8 rfl (by decide +kernel)
theorem kl_X7_18 : Cond.methodLink RX7 18 yX7_ratioLog ∈ lw_gd := qq_ic lwI_5_6 9 rfl rfl
theorem ks_X7_ratioLog : Cond.static yX7_ratioLog ∈ lw_gd := qq_ic lwI_5_6 10 rfl rfl
theorem kd_X7_ratioLog : qq_hd yX7_ratioLog 2 := ⟨hc_X7.1, hc_X7.2, pd_25⟩
