abbrev mX5_sort : qq_M := (yX5_sort, cX5_sort, 4, some .int, [], 5)
theorem kc_X5_sort : qq_cw mX5_sort ∈ lw_gd := qq_in 156 (by decide +kernel) (by decide +kernel)
