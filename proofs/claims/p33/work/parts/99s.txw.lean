abbrev mJ9_min_7cf53 : qq_M := (yJ9_min_7cf53, cJ9_min_7cf53, 2, some .int, [], 1)
abbrev mJ6_stringSize_0f7a4 : qq_M := (yJ6_stringSize_0f7a4, cJ6_stringSize_0f7a4, 4, some .int, [], 1)
theorem kc_J9_min_7cf53 : qq_cw mJ9_min_7cf53 ∈ lw_gd := qq_ic lwI_4_0 2 rfl (by decide +kernel)
theorem kc_J6_stringSize_0f7a4 : qq_cw mJ6_stringSize_0f7a4 ∈ lw_gd := qq_ic lwI_4_8 2 rfl (by decide +kernel)
