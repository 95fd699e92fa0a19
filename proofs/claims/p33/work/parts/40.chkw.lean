abbrev mX5_checkCell : qq_M := (yX5_checkCell, cX5_checkCell, 1, none, [], 1)
abbrev mX5_checkRange : qq_M := (yX5_checkRange, cX5_checkRange, 3, none, [], 1)
abbrev mX5_checkSeries : qq_M := (yX5_checkSeries, cX5_checkSeries, 1, none, [], 2)
abbrev mX5_checkHeight : qq_M := (yX5_checkHeight, cX5_checkHeight, 2, none, [], 4)
abbrev mX5_checkToldDigits : qq_M := (yX5_checkToldDigits, cX5_checkToldDigits, 2, none, [], 3)
abbrev mX5_checkNear : qq_M := (yX5_checkNear, cX5_checkNear, 3, none, [], 4)
abbrev mX5_checkedInt : qq_M := (yX5_checkedInt, cX5_checkedInt, 2, some .int, [], 1)
theorem kl_X5_280 : Cond.classLink RX5 280 "java/lang/IndexOutOfBoundsException" ∈ lw_gd := qq_ic lwI_1_12 3 rfl rfl
theorem ki_java_lang_IndexOutOfBoundsException : Cond.initialized "java/lang/IndexOutOfBoundsException" ∈ lw_gd := qq_ic lwI_1_0 11 rfl rfl
theorem th_X5_284_1 : ∀ w ∈ (vx_atS RX5 284 "java/lang/IndexOutOfBoundsException" ["java/lang/RuntimeException", "java/lang/Exception"]).filter goodWord, w ∈ lw_gd := by decide +kernel
theorem th_X5_284_2 : ∀ w ∈ (vx_atS RX5 284 "java/lang/IndexOutOfBoundsException" ["java/lang/RuntimeException", "java/lang/Exception"]).filter (fun w => !goodWord w), w ∈ qq_xw := by decide +kernel
theorem th_X5_284_3 : ∀ w ∈ Cond.classLink RX5 280 "java/lang/IndexOutOfBoundsException" :: Cond.initialized "java/lang/IndexOutOfBoundsException" :: vx_atS RX5 284 "java/lang/IndexOutOfBoundsException" ["java/lang/RuntimeException", "java/lang/Exception"], vx_ot w = true := by decide +kernel
theorem kc_X5_checkCell : qq_cw mX5_checkCell ∈ lw_gd := qq_ic lwI_1_12 2 rfl (by decide +kernel)
theorem kl_X5_285 : Cond.classLink RX5 285 "java/lang/IllegalArgumentException" ∈ lw_gd := qq_ic lwI_2_7 3 rfl rfl
theorem ki_java_lang_IllegalArgumentException : Cond.initialized "java/lang/IllegalArgumentException" ∈ lw_gd := qq_ic lwI_1_0 12 rfl rfl
theorem th_X5_289_1 : ∀ w ∈ (vx_atS RX5 289 "java/lang/IllegalArgumentException" ["java/lang/RuntimeException", "java/lang/Exception"]).filter goodWord, w ∈ lw_gd := by decide +kernel
theorem th_X5_289_2 : ∀ w ∈ (vx_atS RX5 289 "java/lang/IllegalArgumentException" ["java/lang/RuntimeException", "java/lang/Exception"]).filter (fun w => !goodWord w), w ∈ qq_xw := by decide +kernel
theorem th_X5_289_3 : ∀ w ∈ Cond.classLink RX5 285 "java/lang/IllegalArgumentException" :: Cond.initialized "java/lang/IllegalArgumentException" :: vx_atS RX5 289 "java/lang/IllegalArgumentException" ["java/lang/RuntimeException", "java/lang/Exception"], vx_ot w = true := by decide +kernel
theorem kc_X5_checkRange : qq_cw mX5_checkRange ∈ lw_gd := qq_ic lwI_2_7 2 rfl (by decide +kernel)
theorem kl_X5_36 : Cond.methodLink RX5 36 yX5_checkRange ∈ lw_gd := qq_ic lwI_2_7 0 rfl rfl
theorem ks_X5_checkRange : Cond.static yX5_checkRange ∈ lw_gd := qq_ic lwI_2_7 1 rfl rfl
theorem pd_15 : (parseMethodDescriptor "(III)V").map (fun d => d.parameters.length) = some 3 := by decide +kernel
theorem kd_X5_checkRange : qq_hd yX5_checkRange 3 := ⟨hc_X5.1, hc_X5.2, pd_15⟩
theorem kc_X5_checkSeries : qq_cw mX5_checkSeries ∈ lw_gd := qq_ic lwI_2_6 15 rfl (by decide +kernel)
theorem kl_X5_9 : Cond.fieldLink RX5 9 "Quarterpowers" "cells" "[I" ∈ lw_gd := qq_ic lwI_1_4 8 rfl rfl
theorem kl_X5_252 : Cond.methodLink RX5 252 yX2_hasHeight ∈ lw_gd := qq_ic lwI_2_2 0 rfl rfl
theorem ks_X2_hasHeight : Cond.static yX2_hasHeight ∈ lw_gd := qq_ic lwI_2_2 1 rfl rfl
theorem kd_X2_hasHeight : qq_hd yX2_hasHeight 1 := ⟨hc_X2.1, hc_X2.2, pd_3⟩
theorem kl_X5_102 : Cond.classLink RX5 102 "java/lang/IllegalStateException" ∈ lw_gd := qq_ic lwI_2_3 1 rfl rfl
theorem ki_java_lang_IllegalStateException : Cond.initialized "java/lang/IllegalStateException" ∈ lw_gd := qq_ic lwI_1_1 1 rfl rfl
theorem th_X5_106_1 : ∀ w ∈ (vx_atS RX5 106 "java/lang/IllegalStateException" ["java/lang/RuntimeException", "java/lang/Exception"]).filter goodWord, w ∈ lw_gd := by decide +kernel
theorem th_X5_106_2 : ∀ w ∈ (vx_atS RX5 106 "java/lang/IllegalStateException" ["java/lang/RuntimeException", "java/lang/Exception"]).filter (fun w => !goodWord w), w ∈ qq_xw := by decide +kernel
theorem th_X5_106_3 : ∀ w ∈ Cond.classLink RX5 102 "java/lang/IllegalStateException" :: Cond.initialized "java/lang/IllegalStateException" :: vx_atS RX5 106 "java/lang/IllegalStateException" ["java/lang/RuntimeException", "java/lang/Exception"], vx_ot w = true := by decide +kernel
theorem kc_X5_checkHeight : qq_cw mX5_checkHeight ∈ lw_gd := qq_ic lwI_2_3 0 rfl (by decide +kernel)
theorem kl_X5_261 : Cond.methodLink RX5 261 yX2_hasToldDigits ∈ lw_gd := qq_ic lwI_2_5 1 rfl rfl
theorem ks_X2_hasToldDigits : Cond.static yX2_hasToldDigits ∈ lw_gd := qq_ic lwI_2_5 2 rfl rfl
theorem kd_X2_hasToldDigits : qq_hd yX2_hasToldDigits 1 := ⟨hc_X2.1, hc_X2.2, pd_3⟩
theorem kc_X5_checkToldDigits : qq_cw mX5_checkToldDigits ∈ lw_gd := qq_ic lwI_2_5 11 rfl (by decide +kernel)
theorem kl_X5_133 : Cond.methodLink RX5 133 yX2_areNear ∈ lw_gd := qq_ic lwI_1_9 10 rfl rfl
theorem ks_X2_areNear : Cond.static yX2_areNear ∈ lw_gd := qq_ic lwI_1_9 11 rfl rfl
theorem kd_X2_areNear : qq_hd yX2_areNear 2 := ⟨hc_X2.1, hc_X2.2, pd_7⟩
theorem kc_X5_checkNear : qq_cw mX5_checkNear ∈ lw_gd := qq_ic lwI_4_14 10 rfl (by decide +kernel)
theorem kl_X5_296 : Cond.constantLong RX5 296 (-2147483648) ∈ lw_gd := qq_ic lwI_3_8 10 rfl rfl
theorem kl_X5_298 : Cond.constantLong RX5 298 2147483647 ∈ lw_gd := qq_ic lwI_3_8 11 rfl rfl
theorem kc_X5_checkedInt : qq_cw mX5_checkedInt ∈ lw_gd := qq_ic lwI_3_8 9 rfl (by decide +kernel)
