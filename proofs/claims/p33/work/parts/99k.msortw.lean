abbrev mX7_sort : qq_M := (yX7_sort, cX7_sort, 8, some .int, [], 7)
theorem kc_X7_sort : qq_cw mX7_sort ∈ lw_gd := qq_ic lwI_6_5 2 rfl (by decide +kernel)
