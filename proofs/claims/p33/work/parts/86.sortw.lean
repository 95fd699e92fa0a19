abbrev mX5_sort : qq_M := (yX5_sort, cX5_sort, 4, some .int, [], 5)
theorem kc_X5_sort : qq_cw mX5_sort ∈ lw_gd := qq_ic lwI_1_7 4 rfl (by decide +kernel)
