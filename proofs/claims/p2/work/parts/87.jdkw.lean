abbrev mJ13_compare_74951 : qq_M := (yJ13_compare_74951, cJ13_compare_74951, 4, some .int, [], 1)
abbrev mJ6_compare_7cf53 : qq_M := (yJ6_compare_7cf53, cJ6_compare_7cf53, 2, some .int, [], 1)
theorem kc_J13_compare_74951 : qq_cw mJ13_compare_74951 ∈ lw_gd := qq_in 1302 (by decide +kernel) (by decide +kernel)
theorem kc_J6_compare_7cf53 : qq_cw mJ6_compare_7cf53 ∈ lw_gd := qq_in 1285 (by decide +kernel) (by decide +kernel)
