theorem dL_law_43 : decode cL_law 43 = .ok (.tableswitch 1947 0 48 #[209, 249, 305, 361, 401, 414, 454, 494, 534, 562, 602, 642, 682, 710, 762, 814, 870, 883, 911, 939, 967, 995, 1023, 1063, 1091, 1119, 1147, 1175, 1203, 1243, 1283, 1323, 1392, 1432, 1488, 1516, 1556, 1608, 1660, 1712, 1740, 1768, 1796, 1824, 1852, 1880, 1908, 1921, 1934], 209) := by decide +kernel
theorem dTL_0 : dQ cL_law [[(0, zop187, 0, 8), (3, zop89, 0, 0), (4, zop183, 0, 166), (7, zop76, 0, 0), (8, zop187, 0, 167), (11, zop89, 0, 0), (12, zop183, 0, 169), (15, zop77, 0, 0), (16, zop187, 0, 14), (19, zop89, 0, 0)], [(20, zop183, 0, 170), (23, zop78, 0, 0), (24, zop3, 0, 0), (25, zop54, 4, 0), (27, zop21, 4, 0), (29, zop42, 0, 0), (30, zop190, 0, 0), (31, zop7, 0, 0), (32, zop100, 0, 0), (33, zop163, 7, 171)], [(36, zop42, 0, 0), (37, zop21, 4, 0), (39, zop46, 0, 0), (40, zop16, 63, 0), (42, zop126, 0, 0), (252, zop43, 0, 0), (253, zop42, 0, 0), (254, zop21, 4, 0), (256, zop4, 0, 0), (257, zop96, 0, 0)], [(258, zop46, 0, 0), (259, zop42, 0, 0), (260, zop21, 4, 0), (262, zop5, 0, 0), (263, zop96, 0, 0), (264, zop46, 0, 0), (265, zop45, 0, 0), (266, zop184, 0, 171), (269, zop54, 5, 0), (271, zop44, 0, 0)], [(272, zop42, 0, 0), (273, zop21, 4, 0), (275, zop4, 0, 0), (276, zop96, 0, 0), (277, zop46, 0, 0), (278, zop42, 0, 0), (279, zop21, 4, 0), (281, zop5, 0, 0), (282, zop96, 0, 0), (283, zop46, 0, 0)], [(284, zop182, 0, 176), (287, zop54, 6, 0), (289, zop167, 6, 165), (292, zop43, 0, 0), (293, zop42, 0, 0), (294, zop21, 4, 0), (296, zop4, 0, 0), (297, zop96, 0, 0), (298, zop46, 0, 0), (299, zop42, 0, 0)]] := dQ_of _ _ (by decide +kernel)
theorem dL_law_0 : decode cL_law 0 = .ok (.new 8, 3) := dTL_0.1.1
theorem dL_law_3 : decode cL_law 3 = .ok (.dup, 1) := dTL_0.1.2.1
theorem dL_law_4 : decode cL_law 4 = .ok (.invokespecial 166, 3) := dTL_0.1.2.2.1
theorem dL_law_7 : decode cL_law 7 = .ok (.astore_n 1, 1) := dTL_0.1.2.2.2.1
theorem dL_law_8 : decode cL_law 8 = .ok (.new 167, 3) := dTL_0.1.2.2.2.2.1
theorem dL_law_11 : decode cL_law 11 = .ok (.dup, 1) := dTL_0.1.2.2.2.2.2.1
theorem dL_law_12 : decode cL_law 12 = .ok (.invokespecial 169, 3) := dTL_0.1.2.2.2.2.2.2.1
theorem dL_law_15 : decode cL_law 15 = .ok (.astore_n 2, 1) := dTL_0.1.2.2.2.2.2.2.2.1
theorem dL_law_16 : decode cL_law 16 = .ok (.new 14, 3) := dTL_0.1.2.2.2.2.2.2.2.2.1
theorem dL_law_19 : decode cL_law 19 = .ok (.dup, 1) := dTL_0.1.2.2.2.2.2.2.2.2.2.1
theorem dL_law_20 : decode cL_law 20 = .ok (.invokespecial 170, 3) := dTL_0.2.1.1
theorem dL_law_23 : decode cL_law 23 = .ok (.astore_n 3, 1) := dTL_0.2.1.2.1
theorem dL_law_24 : decode cL_law 24 = .ok (.iconst 0, 1) := dTL_0.2.1.2.2.1
theorem dL_law_25 : decode cL_law 25 = .ok (.istore 4, 2) := dTL_0.2.1.2.2.2.1
theorem dL_law_27 : decode cL_law 27 = .ok (.iload 4, 2) := dTL_0.2.1.2.2.2.2.1
theorem dL_law_29 : decode cL_law 29 = .ok (.aload_n 0, 1) := dTL_0.2.1.2.2.2.2.2.1
theorem dL_law_30 : decode cL_law 30 = .ok (.arraylength, 1) := dTL_0.2.1.2.2.2.2.2.2.1
theorem dL_law_31 : decode cL_law 31 = .ok (.iconst 4, 1) := dTL_0.2.1.2.2.2.2.2.2.2.1
theorem dL_law_32 : decode cL_law 32 = .ok (.isub, 1) := dTL_0.2.1.2.2.2.2.2.2.2.2.1
theorem dL_law_33 : decode cL_law 33 = .ok (.if_icmp .gt 1963, 3) := dTL_0.2.1.2.2.2.2.2.2.2.2.2.1
theorem dL_law_36 : decode cL_law 36 = .ok (.aload_n 0, 1) := dTL_0.2.2.1.1
theorem dL_law_37 : decode cL_law 37 = .ok (.iload 4, 2) := dTL_0.2.2.1.2.1
theorem dL_law_39 : decode cL_law 39 = .ok (.iaload, 1) := dTL_0.2.2.1.2.2.1
theorem dL_law_40 : decode cL_law 40 = .ok (.bipush 63, 2) := dTL_0.2.2.1.2.2.2.1
theorem dL_law_42 : decode cL_law 42 = .ok (.iand, 1) := dTL_0.2.2.1.2.2.2.2.1
theorem dL_law_252 : decode cL_law 252 = .ok (.aload_n 1, 1) := dTL_0.2.2.1.2.2.2.2.2.1
theorem dL_law_253 : decode cL_law 253 = .ok (.aload_n 0, 1) := dTL_0.2.2.1.2.2.2.2.2.2.1
theorem dL_law_254 : decode cL_law 254 = .ok (.iload 4, 2) := dTL_0.2.2.1.2.2.2.2.2.2.2.1
theorem dL_law_256 : decode cL_law 256 = .ok (.iconst 1, 1) := dTL_0.2.2.1.2.2.2.2.2.2.2.2.1
theorem dL_law_257 : decode cL_law 257 = .ok (.iadd, 1) := dTL_0.2.2.1.2.2.2.2.2.2.2.2.2.1
theorem dL_law_258 : decode cL_law 258 = .ok (.iaload, 1) := dTL_0.2.2.2.1.1
theorem dL_law_259 : decode cL_law 259 = .ok (.aload_n 0, 1) := dTL_0.2.2.2.1.2.1
theorem dL_law_260 : decode cL_law 260 = .ok (.iload 4, 2) := dTL_0.2.2.2.1.2.2.1
theorem dL_law_262 : decode cL_law 262 = .ok (.iconst 2, 1) := dTL_0.2.2.2.1.2.2.2.1
theorem dL_law_263 : decode cL_law 263 = .ok (.iadd, 1) := dTL_0.2.2.2.1.2.2.2.2.1
theorem dL_law_264 : decode cL_law 264 = .ok (.iaload, 1) := dTL_0.2.2.2.1.2.2.2.2.2.1
theorem dL_law_265 : decode cL_law 265 = .ok (.aload_n 3, 1) := dTL_0.2.2.2.1.2.2.2.2.2.2.1
theorem dL_law_266 : decode cL_law 266 = .ok (.invokestatic 171, 3) := dTL_0.2.2.2.1.2.2.2.2.2.2.2.1
theorem dL_law_269 : decode cL_law 269 = .ok (.istore 5, 2) := dTL_0.2.2.2.1.2.2.2.2.2.2.2.2.1
theorem dL_law_271 : decode cL_law 271 = .ok (.aload_n 2, 1) := dTL_0.2.2.2.1.2.2.2.2.2.2.2.2.2.1
theorem dL_law_272 : decode cL_law 272 = .ok (.aload_n 0, 1) := dTL_0.2.2.2.2.1.1
theorem dL_law_273 : decode cL_law 273 = .ok (.iload 4, 2) := dTL_0.2.2.2.2.1.2.1
theorem dL_law_275 : decode cL_law 275 = .ok (.iconst 1, 1) := dTL_0.2.2.2.2.1.2.2.1
theorem dL_law_276 : decode cL_law 276 = .ok (.iadd, 1) := dTL_0.2.2.2.2.1.2.2.2.1
theorem dL_law_277 : decode cL_law 277 = .ok (.iaload, 1) := dTL_0.2.2.2.2.1.2.2.2.2.1
theorem dL_law_278 : decode cL_law 278 = .ok (.aload_n 0, 1) := dTL_0.2.2.2.2.1.2.2.2.2.2.1
theorem dL_law_279 : decode cL_law 279 = .ok (.iload 4, 2) := dTL_0.2.2.2.2.1.2.2.2.2.2.2.1
theorem dL_law_281 : decode cL_law 281 = .ok (.iconst 2, 1) := dTL_0.2.2.2.2.1.2.2.2.2.2.2.2.1
theorem dL_law_282 : decode cL_law 282 = .ok (.iadd, 1) := dTL_0.2.2.2.2.1.2.2.2.2.2.2.2.2.1
theorem dL_law_283 : decode cL_law 283 = .ok (.iaload, 1) := dTL_0.2.2.2.2.1.2.2.2.2.2.2.2.2.2.1
theorem dL_law_284 : decode cL_law 284 = .ok (.invokevirtual 176, 3) := dTL_0.2.2.2.2.2.1.1
theorem dL_law_287 : decode cL_law 287 = .ok (.istore 6, 2) := dTL_0.2.2.2.2.2.1.2.1
theorem dL_law_289 : decode cL_law 289 = .ok (.goto 1701, 3) := dTL_0.2.2.2.2.2.1.2.2.1
theorem dL_law_292 : decode cL_law 292 = .ok (.aload_n 1, 1) := dTL_0.2.2.2.2.2.1.2.2.2.1
theorem dL_law_293 : decode cL_law 293 = .ok (.aload_n 0, 1) := dTL_0.2.2.2.2.2.1.2.2.2.2.1
theorem dL_law_294 : decode cL_law 294 = .ok (.iload 4, 2) := dTL_0.2.2.2.2.2.1.2.2.2.2.2.1
theorem dL_law_296 : decode cL_law 296 = .ok (.iconst 1, 1) := dTL_0.2.2.2.2.2.1.2.2.2.2.2.2.1
theorem dL_law_297 : decode cL_law 297 = .ok (.iadd, 1) := dTL_0.2.2.2.2.2.1.2.2.2.2.2.2.2.1
theorem dL_law_298 : decode cL_law 298 = .ok (.iaload, 1) := dTL_0.2.2.2.2.2.1.2.2.2.2.2.2.2.2.1
theorem dL_law_299 : decode cL_law 299 = .ok (.aload_n 0, 1) := dTL_0.2.2.2.2.2.1.2.2.2.2.2.2.2.2.2.1
theorem dTL_1 : dQ cL_law [[(300, zop21, 4, 0), (302, zop5, 0, 0), (303, zop96, 0, 0), (304, zop46, 0, 0), (305, zop153, 0, 7), (308, zop4, 0, 0), (309, zop167, 0, 4), (312, zop3, 0, 0), (313, zop45, 0, 0), (314, zop184, 0, 177)], [(317, zop54, 5, 0), (319, zop44, 0, 0), (320, zop42, 0, 0), (321, zop21, 4, 0), (323, zop4, 0, 0), (324, zop96, 0, 0), (325, zop46, 0, 0), (326, zop42, 0, 0), (327, zop21, 4, 0), (329, zop5, 0, 0)], [(330, zop96, 0, 0), (331, zop46, 0, 0), (332, zop153, 0, 7), (335, zop4, 0, 0), (336, zop167, 0, 4), (339, zop3, 0, 0), (340, zop182, 0, 180), (343, zop54, 6, 0), (345, zop167, 6, 109), (348, zop43, 0, 0)], [(349, zop42, 0, 0), (350, zop21, 4, 0), (352, zop4, 0, 0), (353, zop96, 0, 0), (354, zop46, 0, 0), (355, zop42, 0, 0), (356, zop21, 4, 0), (358, zop5, 0, 0), (359, zop96, 0, 0), (360, zop46, 0, 0)], [(361, zop153, 0, 7), (364, zop4, 0, 0), (365, zop167, 0, 4), (368, zop3, 0, 0), (369, zop45, 0, 0), (370, zop184, 0, 181), (373, zop54, 5, 0), (375, zop44, 0, 0), (376, zop42, 0, 0), (377, zop21, 4, 0)], [(379, zop4, 0, 0), (380, zop96, 0, 0), (381, zop46, 0, 0), (382, zop42, 0, 0), (383, zop21, 4, 0), (385, zop5, 0, 0), (386, zop96, 0, 0), (387, zop46, 0, 0), (388, zop153, 0, 7), (391, zop4, 0, 0)]] := dQ_of _ _ (by decide +kernel)
theorem dL_law_300 : decode cL_law 300 = .ok (.iload 4, 2) := dTL_1.1.1
theorem dL_law_302 : decode cL_law 302 = .ok (.iconst 2, 1) := dTL_1.1.2.1
theorem dL_law_303 : decode cL_law 303 = .ok (.iadd, 1) := dTL_1.1.2.2.1
theorem dL_law_304 : decode cL_law 304 = .ok (.iaload, 1) := dTL_1.1.2.2.2.1
theorem dL_law_305 : decode cL_law 305 = .ok (.ifCond .eq 7, 3) := dTL_1.1.2.2.2.2.1
theorem dL_law_308 : decode cL_law 308 = .ok (.iconst 1, 1) := dTL_1.1.2.2.2.2.2.1
theorem dL_law_309 : decode cL_law 309 = .ok (.goto 4, 3) := dTL_1.1.2.2.2.2.2.2.1
theorem dL_law_312 : decode cL_law 312 = .ok (.iconst 0, 1) := dTL_1.1.2.2.2.2.2.2.2.1
theorem dL_law_313 : decode cL_law 313 = .ok (.aload_n 3, 1) := dTL_1.1.2.2.2.2.2.2.2.2.1
theorem dL_law_314 : decode cL_law 314 = .ok (.invokestatic 177, 3) := dTL_1.1.2.2.2.2.2.2.2.2.2.1
theorem dL_law_317 : decode cL_law 317 = .ok (.istore 5, 2) := dTL_1.2.1.1
theorem dL_law_319 : decode cL_law 319 = .ok (.aload_n 2, 1) := dTL_1.2.1.2.1
theorem dL_law_320 : decode cL_law 320 = .ok (.aload_n 0, 1) := dTL_1.2.1.2.2.1
theorem dL_law_321 : decode cL_law 321 = .ok (.iload 4, 2) := dTL_1.2.1.2.2.2.1
theorem dL_law_323 : decode cL_law 323 = .ok (.iconst 1, 1) := dTL_1.2.1.2.2.2.2.1
theorem dL_law_324 : decode cL_law 324 = .ok (.iadd, 1) := dTL_1.2.1.2.2.2.2.2.1
theorem dL_law_325 : decode cL_law 325 = .ok (.iaload, 1) := dTL_1.2.1.2.2.2.2.2.2.1
theorem dL_law_326 : decode cL_law 326 = .ok (.aload_n 0, 1) := dTL_1.2.1.2.2.2.2.2.2.2.1
theorem dL_law_327 : decode cL_law 327 = .ok (.iload 4, 2) := dTL_1.2.1.2.2.2.2.2.2.2.2.1
theorem dL_law_329 : decode cL_law 329 = .ok (.iconst 2, 1) := dTL_1.2.1.2.2.2.2.2.2.2.2.2.1
theorem dL_law_330 : decode cL_law 330 = .ok (.iadd, 1) := dTL_1.2.2.1.1
theorem dL_law_331 : decode cL_law 331 = .ok (.iaload, 1) := dTL_1.2.2.1.2.1
theorem dL_law_332 : decode cL_law 332 = .ok (.ifCond .eq 7, 3) := dTL_1.2.2.1.2.2.1
theorem dL_law_335 : decode cL_law 335 = .ok (.iconst 1, 1) := dTL_1.2.2.1.2.2.2.1
theorem dL_law_336 : decode cL_law 336 = .ok (.goto 4, 3) := dTL_1.2.2.1.2.2.2.2.1
theorem dL_law_339 : decode cL_law 339 = .ok (.iconst 0, 1) := dTL_1.2.2.1.2.2.2.2.2.1
theorem dL_law_340 : decode cL_law 340 = .ok (.invokevirtual 180, 3) := dTL_1.2.2.1.2.2.2.2.2.2.1
theorem dL_law_343 : decode cL_law 343 = .ok (.istore 6, 2) := dTL_1.2.2.1.2.2.2.2.2.2.2.1
theorem dL_law_345 : decode cL_law 345 = .ok (.goto 1645, 3) := dTL_1.2.2.1.2.2.2.2.2.2.2.2.1
theorem dL_law_348 : decode cL_law 348 = .ok (.aload_n 1, 1) := dTL_1.2.2.1.2.2.2.2.2.2.2.2.2.1
theorem dL_law_349 : decode cL_law 349 = .ok (.aload_n 0, 1) := dTL_1.2.2.2.1.1
theorem dL_law_350 : decode cL_law 350 = .ok (.iload 4, 2) := dTL_1.2.2.2.1.2.1
theorem dL_law_352 : decode cL_law 352 = .ok (.iconst 1, 1) := dTL_1.2.2.2.1.2.2.1
theorem dL_law_353 : decode cL_law 353 = .ok (.iadd, 1) := dTL_1.2.2.2.1.2.2.2.1
theorem dL_law_354 : decode cL_law 354 = .ok (.iaload, 1) := dTL_1.2.2.2.1.2.2.2.2.1
theorem dL_law_355 : decode cL_law 355 = .ok (.aload_n 0, 1) := dTL_1.2.2.2.1.2.2.2.2.2.1
theorem dL_law_356 : decode cL_law 356 = .ok (.iload 4, 2) := dTL_1.2.2.2.1.2.2.2.2.2.2.1
theorem dL_law_358 : decode cL_law 358 = .ok (.iconst 2, 1) := dTL_1.2.2.2.1.2.2.2.2.2.2.2.1
theorem dL_law_359 : decode cL_law 359 = .ok (.iadd, 1) := dTL_1.2.2.2.1.2.2.2.2.2.2.2.2.1
theorem dL_law_360 : decode cL_law 360 = .ok (.iaload, 1) := dTL_1.2.2.2.1.2.2.2.2.2.2.2.2.2.1
theorem dL_law_361 : decode cL_law 361 = .ok (.ifCond .eq 7, 3) := dTL_1.2.2.2.2.1.1
theorem dL_law_364 : decode cL_law 364 = .ok (.iconst 1, 1) := dTL_1.2.2.2.2.1.2.1
theorem dL_law_365 : decode cL_law 365 = .ok (.goto 4, 3) := dTL_1.2.2.2.2.1.2.2.1
theorem dL_law_368 : decode cL_law 368 = .ok (.iconst 0, 1) := dTL_1.2.2.2.2.1.2.2.2.1
theorem dL_law_369 : decode cL_law 369 = .ok (.aload_n 3, 1) := dTL_1.2.2.2.2.1.2.2.2.2.1
theorem dL_law_370 : decode cL_law 370 = .ok (.invokestatic 181, 3) := dTL_1.2.2.2.2.1.2.2.2.2.2.1
theorem dL_law_373 : decode cL_law 373 = .ok (.istore 5, 2) := dTL_1.2.2.2.2.1.2.2.2.2.2.2.1
theorem dL_law_375 : decode cL_law 375 = .ok (.aload_n 2, 1) := dTL_1.2.2.2.2.1.2.2.2.2.2.2.2.1
theorem dL_law_376 : decode cL_law 376 = .ok (.aload_n 0, 1) := dTL_1.2.2.2.2.1.2.2.2.2.2.2.2.2.1
theorem dL_law_377 : decode cL_law 377 = .ok (.iload 4, 2) := dTL_1.2.2.2.2.1.2.2.2.2.2.2.2.2.2.1
theorem dL_law_379 : decode cL_law 379 = .ok (.iconst 1, 1) := dTL_1.2.2.2.2.2.1.1
theorem dL_law_380 : decode cL_law 380 = .ok (.iadd, 1) := dTL_1.2.2.2.2.2.1.2.1
theorem dL_law_381 : decode cL_law 381 = .ok (.iaload, 1) := dTL_1.2.2.2.2.2.1.2.2.1
theorem dL_law_382 : decode cL_law 382 = .ok (.aload_n 0, 1) := dTL_1.2.2.2.2.2.1.2.2.2.1
theorem dL_law_383 : decode cL_law 383 = .ok (.iload 4, 2) := dTL_1.2.2.2.2.2.1.2.2.2.2.1
theorem dL_law_385 : decode cL_law 385 = .ok (.iconst 2, 1) := dTL_1.2.2.2.2.2.1.2.2.2.2.2.1
theorem dL_law_386 : decode cL_law 386 = .ok (.iadd, 1) := dTL_1.2.2.2.2.2.1.2.2.2.2.2.2.1
theorem dL_law_387 : decode cL_law 387 = .ok (.iaload, 1) := dTL_1.2.2.2.2.2.1.2.2.2.2.2.2.2.1
theorem dL_law_388 : decode cL_law 388 = .ok (.ifCond .eq 7, 3) := dTL_1.2.2.2.2.2.1.2.2.2.2.2.2.2.2.1
theorem dL_law_391 : decode cL_law 391 = .ok (.iconst 1, 1) := dTL_1.2.2.2.2.2.1.2.2.2.2.2.2.2.2.2.1
theorem dTL_2 : dQ cL_law [[(392, zop167, 0, 4), (395, zop3, 0, 0), (396, zop182, 0, 183), (399, zop54, 6, 0), (401, zop167, 6, 53), (404, zop43, 0, 0), (405, zop42, 0, 0), (406, zop21, 4, 0), (408, zop4, 0, 0), (409, zop96, 0, 0)], [(410, zop46, 0, 0), (411, zop42, 0, 0), (412, zop21, 4, 0), (414, zop5, 0, 0), (415, zop96, 0, 0), (416, zop46, 0, 0), (417, zop45, 0, 0), (418, zop184, 0, 184), (421, zop54, 5, 0), (423, zop44, 0, 0)], [(424, zop42, 0, 0), (425, zop21, 4, 0), (427, zop4, 0, 0), (428, zop96, 0, 0), (429, zop46, 0, 0), (430, zop42, 0, 0), (431, zop21, 4, 0), (433, zop5, 0, 0), (434, zop96, 0, 0), (435, zop46, 0, 0)], [(436, zop182, 0, 186), (439, zop54, 6, 0), (441, zop167, 6, 13), (444, zop43, 0, 0), (445, zop182, 0, 187), (448, zop87, 0, 0), (449, zop44, 0, 0), (450, zop182, 0, 191), (453, zop87, 0, 0), (454, zop167, 6, 0)], [(457, zop43, 0, 0), (458, zop42, 0, 0), (459, zop21, 4, 0), (461, zop4, 0, 0), (462, zop96, 0, 0), (463, zop46, 0, 0), (464, zop42, 0, 0), (465, zop21, 4, 0), (467, zop5, 0, 0), (468, zop96, 0, 0)], [(469, zop46, 0, 0), (470, zop45, 0, 0), (471, zop184, 0, 192), (474, zop54, 5, 0), (476, zop44, 0, 0), (477, zop42, 0, 0), (478, zop21, 4, 0), (480, zop4, 0, 0), (481, zop96, 0, 0), (482, zop46, 0, 0)]] := dQ_of _ _ (by decide +kernel)
theorem dL_law_392 : decode cL_law 392 = .ok (.goto 4, 3) := dTL_2.1.1
theorem dL_law_395 : decode cL_law 395 = .ok (.iconst 0, 1) := dTL_2.1.2.1
theorem dL_law_396 : decode cL_law 396 = .ok (.invokevirtual 183, 3) := dTL_2.1.2.2.1
theorem dL_law_399 : decode cL_law 399 = .ok (.istore 6, 2) := dTL_2.1.2.2.2.1
theorem dL_law_401 : decode cL_law 401 = .ok (.goto 1589, 3) := dTL_2.1.2.2.2.2.1
theorem dL_law_404 : decode cL_law 404 = .ok (.aload_n 1, 1) := dTL_2.1.2.2.2.2.2.1
theorem dL_law_405 : decode cL_law 405 = .ok (.aload_n 0, 1) := dTL_2.1.2.2.2.2.2.2.1
theorem dL_law_406 : decode cL_law 406 = .ok (.iload 4, 2) := dTL_2.1.2.2.2.2.2.2.2.1
theorem dL_law_408 : decode cL_law 408 = .ok (.iconst 1, 1) := dTL_2.1.2.2.2.2.2.2.2.2.1
theorem dL_law_409 : decode cL_law 409 = .ok (.iadd, 1) := dTL_2.1.2.2.2.2.2.2.2.2.2.1
theorem dL_law_410 : decode cL_law 410 = .ok (.iaload, 1) := dTL_2.2.1.1
theorem dL_law_411 : decode cL_law 411 = .ok (.aload_n 0, 1) := dTL_2.2.1.2.1
theorem dL_law_412 : decode cL_law 412 = .ok (.iload 4, 2) := dTL_2.2.1.2.2.1
theorem dL_law_414 : decode cL_law 414 = .ok (.iconst 2, 1) := dTL_2.2.1.2.2.2.1
theorem dL_law_415 : decode cL_law 415 = .ok (.iadd, 1) := dTL_2.2.1.2.2.2.2.1
theorem dL_law_416 : decode cL_law 416 = .ok (.iaload, 1) := dTL_2.2.1.2.2.2.2.2.1
theorem dL_law_417 : decode cL_law 417 = .ok (.aload_n 3, 1) := dTL_2.2.1.2.2.2.2.2.2.1
theorem dL_law_418 : decode cL_law 418 = .ok (.invokestatic 184, 3) := dTL_2.2.1.2.2.2.2.2.2.2.1
theorem dL_law_421 : decode cL_law 421 = .ok (.istore 5, 2) := dTL_2.2.1.2.2.2.2.2.2.2.2.1
theorem dL_law_423 : decode cL_law 423 = .ok (.aload_n 2, 1) := dTL_2.2.1.2.2.2.2.2.2.2.2.2.1
theorem dL_law_424 : decode cL_law 424 = .ok (.aload_n 0, 1) := dTL_2.2.2.1.1
theorem dL_law_425 : decode cL_law 425 = .ok (.iload 4, 2) := dTL_2.2.2.1.2.1
theorem dL_law_427 : decode cL_law 427 = .ok (.iconst 1, 1) := dTL_2.2.2.1.2.2.1
theorem dL_law_428 : decode cL_law 428 = .ok (.iadd, 1) := dTL_2.2.2.1.2.2.2.1
theorem dL_law_429 : decode cL_law 429 = .ok (.iaload, 1) := dTL_2.2.2.1.2.2.2.2.1
theorem dL_law_430 : decode cL_law 430 = .ok (.aload_n 0, 1) := dTL_2.2.2.1.2.2.2.2.2.1
theorem dL_law_431 : decode cL_law 431 = .ok (.iload 4, 2) := dTL_2.2.2.1.2.2.2.2.2.2.1
theorem dL_law_433 : decode cL_law 433 = .ok (.iconst 2, 1) := dTL_2.2.2.1.2.2.2.2.2.2.2.1
theorem dL_law_434 : decode cL_law 434 = .ok (.iadd, 1) := dTL_2.2.2.1.2.2.2.2.2.2.2.2.1
theorem dL_law_435 : decode cL_law 435 = .ok (.iaload, 1) := dTL_2.2.2.1.2.2.2.2.2.2.2.2.2.1
theorem dL_law_436 : decode cL_law 436 = .ok (.invokevirtual 186, 3) := dTL_2.2.2.2.1.1
theorem dL_law_439 : decode cL_law 439 = .ok (.istore 6, 2) := dTL_2.2.2.2.1.2.1
theorem dL_law_441 : decode cL_law 441 = .ok (.goto 1549, 3) := dTL_2.2.2.2.1.2.2.1
theorem dL_law_444 : decode cL_law 444 = .ok (.aload_n 1, 1) := dTL_2.2.2.2.1.2.2.2.1
theorem dL_law_445 : decode cL_law 445 = .ok (.invokevirtual 187, 3) := dTL_2.2.2.2.1.2.2.2.2.1
theorem dL_law_448 : decode cL_law 448 = .ok (.pop, 1) := dTL_2.2.2.2.1.2.2.2.2.2.1
theorem dL_law_449 : decode cL_law 449 = .ok (.aload_n 2, 1) := dTL_2.2.2.2.1.2.2.2.2.2.2.1
theorem dL_law_450 : decode cL_law 450 = .ok (.invokevirtual 191, 3) := dTL_2.2.2.2.1.2.2.2.2.2.2.2.1
theorem dL_law_453 : decode cL_law 453 = .ok (.pop, 1) := dTL_2.2.2.2.1.2.2.2.2.2.2.2.2.1
theorem dL_law_454 : decode cL_law 454 = .ok (.goto 1536, 3) := dTL_2.2.2.2.1.2.2.2.2.2.2.2.2.2.1
theorem dL_law_457 : decode cL_law 457 = .ok (.aload_n 1, 1) := dTL_2.2.2.2.2.1.1
theorem dL_law_458 : decode cL_law 458 = .ok (.aload_n 0, 1) := dTL_2.2.2.2.2.1.2.1
theorem dL_law_459 : decode cL_law 459 = .ok (.iload 4, 2) := dTL_2.2.2.2.2.1.2.2.1
theorem dL_law_461 : decode cL_law 461 = .ok (.iconst 1, 1) := dTL_2.2.2.2.2.1.2.2.2.1
theorem dL_law_462 : decode cL_law 462 = .ok (.iadd, 1) := dTL_2.2.2.2.2.1.2.2.2.2.1
theorem dL_law_463 : decode cL_law 463 = .ok (.iaload, 1) := dTL_2.2.2.2.2.1.2.2.2.2.2.1
theorem dL_law_464 : decode cL_law 464 = .ok (.aload_n 0, 1) := dTL_2.2.2.2.2.1.2.2.2.2.2.2.1
theorem dL_law_465 : decode cL_law 465 = .ok (.iload 4, 2) := dTL_2.2.2.2.2.1.2.2.2.2.2.2.2.1
theorem dL_law_467 : decode cL_law 467 = .ok (.iconst 2, 1) := dTL_2.2.2.2.2.1.2.2.2.2.2.2.2.2.1
theorem dL_law_468 : decode cL_law 468 = .ok (.iadd, 1) := dTL_2.2.2.2.2.1.2.2.2.2.2.2.2.2.2.1
theorem dL_law_469 : decode cL_law 469 = .ok (.iaload, 1) := dTL_2.2.2.2.2.2.1.1
theorem dL_law_470 : decode cL_law 470 = .ok (.aload_n 3, 1) := dTL_2.2.2.2.2.2.1.2.1
theorem dL_law_471 : decode cL_law 471 = .ok (.invokestatic 192, 3) := dTL_2.2.2.2.2.2.1.2.2.1
theorem dL_law_474 : decode cL_law 474 = .ok (.istore 5, 2) := dTL_2.2.2.2.2.2.1.2.2.2.1
theorem dL_law_476 : decode cL_law 476 = .ok (.aload_n 2, 1) := dTL_2.2.2.2.2.2.1.2.2.2.2.1
theorem dL_law_477 : decode cL_law 477 = .ok (.aload_n 0, 1) := dTL_2.2.2.2.2.2.1.2.2.2.2.2.1
theorem dL_law_478 : decode cL_law 478 = .ok (.iload 4, 2) := dTL_2.2.2.2.2.2.1.2.2.2.2.2.2.1
theorem dL_law_480 : decode cL_law 480 = .ok (.iconst 1, 1) := dTL_2.2.2.2.2.2.1.2.2.2.2.2.2.2.1
theorem dL_law_481 : decode cL_law 481 = .ok (.iadd, 1) := dTL_2.2.2.2.2.2.1.2.2.2.2.2.2.2.2.1
theorem dL_law_482 : decode cL_law 482 = .ok (.iaload, 1) := dTL_2.2.2.2.2.2.1.2.2.2.2.2.2.2.2.2.1
theorem dTL_3 : dQ cL_law [[(483, zop42, 0, 0), (484, zop21, 4, 0), (486, zop5, 0, 0), (487, zop96, 0, 0), (488, zop46, 0, 0), (489, zop182, 0, 194), (492, zop54, 6, 0), (494, zop167, 5, 216), (497, zop43, 0, 0), (498, zop42, 0, 0)], [(499, zop21, 4, 0), (501, zop4, 0, 0), (502, zop96, 0, 0), (503, zop46, 0, 0), (504, zop42, 0, 0), (505, zop21, 4, 0), (507, zop5, 0, 0), (508, zop96, 0, 0), (509, zop46, 0, 0), (510, zop45, 0, 0)], [(511, zop184, 0, 195), (514, zop54, 5, 0), (516, zop44, 0, 0), (517, zop42, 0, 0), (518, zop21, 4, 0), (520, zop4, 0, 0), (521, zop96, 0, 0), (522, zop46, 0, 0), (523, zop42, 0, 0), (524, zop21, 4, 0)], [(526, zop5, 0, 0), (527, zop96, 0, 0), (528, zop46, 0, 0), (529, zop182, 0, 197), (532, zop54, 6, 0), (534, zop167, 5, 176), (537, zop43, 0, 0), (538, zop42, 0, 0), (539, zop21, 4, 0), (541, zop4, 0, 0)], [(542, zop96, 0, 0), (543, zop46, 0, 0), (544, zop42, 0, 0), (545, zop21, 4, 0), (547, zop5, 0, 0), (548, zop96, 0, 0), (549, zop46, 0, 0), (550, zop45, 0, 0), (551, zop184, 0, 198), (554, zop54, 5, 0)], [(556, zop44, 0, 0), (557, zop42, 0, 0), (558, zop21, 4, 0), (560, zop4, 0, 0), (561, zop96, 0, 0), (562, zop46, 0, 0), (563, zop42, 0, 0), (564, zop21, 4, 0), (566, zop5, 0, 0), (567, zop96, 0, 0)]] := dQ_of _ _ (by decide +kernel)
theorem dL_law_483 : decode cL_law 483 = .ok (.aload_n 0, 1) := dTL_3.1.1
theorem dL_law_484 : decode cL_law 484 = .ok (.iload 4, 2) := dTL_3.1.2.1
theorem dL_law_486 : decode cL_law 486 = .ok (.iconst 2, 1) := dTL_3.1.2.2.1
theorem dL_law_487 : decode cL_law 487 = .ok (.iadd, 1) := dTL_3.1.2.2.2.1
theorem dL_law_488 : decode cL_law 488 = .ok (.iaload, 1) := dTL_3.1.2.2.2.2.1
theorem dL_law_489 : decode cL_law 489 = .ok (.invokevirtual 194, 3) := dTL_3.1.2.2.2.2.2.1
theorem dL_law_492 : decode cL_law 492 = .ok (.istore 6, 2) := dTL_3.1.2.2.2.2.2.2.1
theorem dL_law_494 : decode cL_law 494 = .ok (.goto 1496, 3) := dTL_3.1.2.2.2.2.2.2.2.1
theorem dL_law_497 : decode cL_law 497 = .ok (.aload_n 1, 1) := dTL_3.1.2.2.2.2.2.2.2.2.1
theorem dL_law_498 : decode cL_law 498 = .ok (.aload_n 0, 1) := dTL_3.1.2.2.2.2.2.2.2.2.2.1
theorem dL_law_499 : decode cL_law 499 = .ok (.iload 4, 2) := dTL_3.2.1.1
theorem dL_law_501 : decode cL_law 501 = .ok (.iconst 1, 1) := dTL_3.2.1.2.1
theorem dL_law_502 : decode cL_law 502 = .ok (.iadd, 1) := dTL_3.2.1.2.2.1
theorem dL_law_503 : decode cL_law 503 = .ok (.iaload, 1) := dTL_3.2.1.2.2.2.1
theorem dL_law_504 : decode cL_law 504 = .ok (.aload_n 0, 1) := dTL_3.2.1.2.2.2.2.1
theorem dL_law_505 : decode cL_law 505 = .ok (.iload 4, 2) := dTL_3.2.1.2.2.2.2.2.1
theorem dL_law_507 : decode cL_law 507 = .ok (.iconst 2, 1) := dTL_3.2.1.2.2.2.2.2.2.1
theorem dL_law_508 : decode cL_law 508 = .ok (.iadd, 1) := dTL_3.2.1.2.2.2.2.2.2.2.1
theorem dL_law_509 : decode cL_law 509 = .ok (.iaload, 1) := dTL_3.2.1.2.2.2.2.2.2.2.2.1
theorem dL_law_510 : decode cL_law 510 = .ok (.aload_n 3, 1) := dTL_3.2.1.2.2.2.2.2.2.2.2.2.1
theorem dL_law_511 : decode cL_law 511 = .ok (.invokestatic 195, 3) := dTL_3.2.2.1.1
theorem dL_law_514 : decode cL_law 514 = .ok (.istore 5, 2) := dTL_3.2.2.1.2.1
theorem dL_law_516 : decode cL_law 516 = .ok (.aload_n 2, 1) := dTL_3.2.2.1.2.2.1
theorem dL_law_517 : decode cL_law 517 = .ok (.aload_n 0, 1) := dTL_3.2.2.1.2.2.2.1
theorem dL_law_518 : decode cL_law 518 = .ok (.iload 4, 2) := dTL_3.2.2.1.2.2.2.2.1
theorem dL_law_520 : decode cL_law 520 = .ok (.iconst 1, 1) := dTL_3.2.2.1.2.2.2.2.2.1
theorem dL_law_521 : decode cL_law 521 = .ok (.iadd, 1) := dTL_3.2.2.1.2.2.2.2.2.2.1
theorem dL_law_522 : decode cL_law 522 = .ok (.iaload, 1) := dTL_3.2.2.1.2.2.2.2.2.2.2.1
theorem dL_law_523 : decode cL_law 523 = .ok (.aload_n 0, 1) := dTL_3.2.2.1.2.2.2.2.2.2.2.2.1
theorem dL_law_524 : decode cL_law 524 = .ok (.iload 4, 2) := dTL_3.2.2.1.2.2.2.2.2.2.2.2.2.1
theorem dL_law_526 : decode cL_law 526 = .ok (.iconst 2, 1) := dTL_3.2.2.2.1.1
theorem dL_law_527 : decode cL_law 527 = .ok (.iadd, 1) := dTL_3.2.2.2.1.2.1
theorem dL_law_528 : decode cL_law 528 = .ok (.iaload, 1) := dTL_3.2.2.2.1.2.2.1
theorem dL_law_529 : decode cL_law 529 = .ok (.invokevirtual 197, 3) := dTL_3.2.2.2.1.2.2.2.1
theorem dL_law_532 : decode cL_law 532 = .ok (.istore 6, 2) := dTL_3.2.2.2.1.2.2.2.2.1
theorem dL_law_534 : decode cL_law 534 = .ok (.goto 1456, 3) := dTL_3.2.2.2.1.2.2.2.2.2.1
theorem dL_law_537 : decode cL_law 537 = .ok (.aload_n 1, 1) := dTL_3.2.2.2.1.2.2.2.2.2.2.1
theorem dL_law_538 : decode cL_law 538 = .ok (.aload_n 0, 1) := dTL_3.2.2.2.1.2.2.2.2.2.2.2.1
theorem dL_law_539 : decode cL_law 539 = .ok (.iload 4, 2) := dTL_3.2.2.2.1.2.2.2.2.2.2.2.2.1
theorem dL_law_541 : decode cL_law 541 = .ok (.iconst 1, 1) := dTL_3.2.2.2.1.2.2.2.2.2.2.2.2.2.1
theorem dL_law_542 : decode cL_law 542 = .ok (.iadd, 1) := dTL_3.2.2.2.2.1.1
theorem dL_law_543 : decode cL_law 543 = .ok (.iaload, 1) := dTL_3.2.2.2.2.1.2.1
theorem dL_law_544 : decode cL_law 544 = .ok (.aload_n 0, 1) := dTL_3.2.2.2.2.1.2.2.1
theorem dL_law_545 : decode cL_law 545 = .ok (.iload 4, 2) := dTL_3.2.2.2.2.1.2.2.2.1
theorem dL_law_547 : decode cL_law 547 = .ok (.iconst 2, 1) := dTL_3.2.2.2.2.1.2.2.2.2.1
theorem dL_law_548 : decode cL_law 548 = .ok (.iadd, 1) := dTL_3.2.2.2.2.1.2.2.2.2.2.1
theorem dL_law_549 : decode cL_law 549 = .ok (.iaload, 1) := dTL_3.2.2.2.2.1.2.2.2.2.2.2.1
theorem dL_law_550 : decode cL_law 550 = .ok (.aload_n 3, 1) := dTL_3.2.2.2.2.1.2.2.2.2.2.2.2.1
theorem dL_law_551 : decode cL_law 551 = .ok (.invokestatic 198, 3) := dTL_3.2.2.2.2.1.2.2.2.2.2.2.2.2.1
theorem dL_law_554 : decode cL_law 554 = .ok (.istore 5, 2) := dTL_3.2.2.2.2.1.2.2.2.2.2.2.2.2.2.1
theorem dL_law_556 : decode cL_law 556 = .ok (.aload_n 2, 1) := dTL_3.2.2.2.2.2.1.1
theorem dL_law_557 : decode cL_law 557 = .ok (.aload_n 0, 1) := dTL_3.2.2.2.2.2.1.2.1
theorem dL_law_558 : decode cL_law 558 = .ok (.iload 4, 2) := dTL_3.2.2.2.2.2.1.2.2.1
theorem dL_law_560 : decode cL_law 560 = .ok (.iconst 1, 1) := dTL_3.2.2.2.2.2.1.2.2.2.1
theorem dL_law_561 : decode cL_law 561 = .ok (.iadd, 1) := dTL_3.2.2.2.2.2.1.2.2.2.2.1
theorem dL_law_562 : decode cL_law 562 = .ok (.iaload, 1) := dTL_3.2.2.2.2.2.1.2.2.2.2.2.1
theorem dL_law_563 : decode cL_law 563 = .ok (.aload_n 0, 1) := dTL_3.2.2.2.2.2.1.2.2.2.2.2.2.1
theorem dL_law_564 : decode cL_law 564 = .ok (.iload 4, 2) := dTL_3.2.2.2.2.2.1.2.2.2.2.2.2.2.1
theorem dL_law_566 : decode cL_law 566 = .ok (.iconst 2, 1) := dTL_3.2.2.2.2.2.1.2.2.2.2.2.2.2.2.1
theorem dL_law_567 : decode cL_law 567 = .ok (.iadd, 1) := dTL_3.2.2.2.2.2.1.2.2.2.2.2.2.2.2.2.1
theorem dTL_4 : dQ cL_law [[(568, zop46, 0, 0), (569, zop182, 0, 200), (572, zop54, 6, 0), (574, zop167, 5, 136), (577, zop43, 0, 0), (578, zop42, 0, 0), (579, zop21, 4, 0), (581, zop4, 0, 0), (582, zop96, 0, 0), (583, zop46, 0, 0)], [(584, zop45, 0, 0), (585, zop184, 0, 201), (588, zop54, 5, 0), (590, zop44, 0, 0), (591, zop42, 0, 0), (592, zop21, 4, 0), (594, zop4, 0, 0), (595, zop96, 0, 0), (596, zop46, 0, 0), (597, zop182, 0, 204)], [(600, zop54, 6, 0), (602, zop167, 5, 108), (605, zop43, 0, 0), (606, zop42, 0, 0), (607, zop21, 4, 0), (609, zop4, 0, 0), (610, zop96, 0, 0), (611, zop46, 0, 0), (612, zop42, 0, 0), (613, zop21, 4, 0)], [(615, zop5, 0, 0), (616, zop96, 0, 0), (617, zop46, 0, 0), (618, zop45, 0, 0), (619, zop184, 0, 205), (622, zop54, 5, 0), (624, zop44, 0, 0), (625, zop42, 0, 0), (626, zop21, 4, 0), (628, zop4, 0, 0)], [(629, zop96, 0, 0), (630, zop46, 0, 0), (631, zop42, 0, 0), (632, zop21, 4, 0), (634, zop5, 0, 0), (635, zop96, 0, 0), (636, zop46, 0, 0), (637, zop182, 0, 207), (640, zop54, 6, 0), (642, zop167, 5, 68)], [(645, zop43, 0, 0), (646, zop42, 0, 0), (647, zop21, 4, 0), (649, zop4, 0, 0), (650, zop96, 0, 0), (651, zop46, 0, 0), (652, zop42, 0, 0), (653, zop21, 4, 0), (655, zop5, 0, 0), (656, zop96, 0, 0)]] := dQ_of _ _ (by decide +kernel)
theorem dL_law_568 : decode cL_law 568 = .ok (.iaload, 1) := dTL_4.1.1
theorem dL_law_569 : decode cL_law 569 = .ok (.invokevirtual 200, 3) := dTL_4.1.2.1
theorem dL_law_572 : decode cL_law 572 = .ok (.istore 6, 2) := dTL_4.1.2.2.1
theorem dL_law_574 : decode cL_law 574 = .ok (.goto 1416, 3) := dTL_4.1.2.2.2.1
theorem dL_law_577 : decode cL_law 577 = .ok (.aload_n 1, 1) := dTL_4.1.2.2.2.2.1
theorem dL_law_578 : decode cL_law 578 = .ok (.aload_n 0, 1) := dTL_4.1.2.2.2.2.2.1
theorem dL_law_579 : decode cL_law 579 = .ok (.iload 4, 2) := dTL_4.1.2.2.2.2.2.2.1
theorem dL_law_581 : decode cL_law 581 = .ok (.iconst 1, 1) := dTL_4.1.2.2.2.2.2.2.2.1
theorem dL_law_582 : decode cL_law 582 = .ok (.iadd, 1) := dTL_4.1.2.2.2.2.2.2.2.2.1
theorem dL_law_583 : decode cL_law 583 = .ok (.iaload, 1) := dTL_4.1.2.2.2.2.2.2.2.2.2.1
theorem dL_law_584 : decode cL_law 584 = .ok (.aload_n 3, 1) := dTL_4.2.1.1
theorem dL_law_585 : decode cL_law 585 = .ok (.invokestatic 201, 3) := dTL_4.2.1.2.1
theorem dL_law_588 : decode cL_law 588 = .ok (.istore 5, 2) := dTL_4.2.1.2.2.1
theorem dL_law_590 : decode cL_law 590 = .ok (.aload_n 2, 1) := dTL_4.2.1.2.2.2.1
theorem dL_law_591 : decode cL_law 591 = .ok (.aload_n 0, 1) := dTL_4.2.1.2.2.2.2.1
theorem dL_law_592 : decode cL_law 592 = .ok (.iload 4, 2) := dTL_4.2.1.2.2.2.2.2.1
theorem dL_law_594 : decode cL_law 594 = .ok (.iconst 1, 1) := dTL_4.2.1.2.2.2.2.2.2.1
theorem dL_law_595 : decode cL_law 595 = .ok (.iadd, 1) := dTL_4.2.1.2.2.2.2.2.2.2.1
theorem dL_law_596 : decode cL_law 596 = .ok (.iaload, 1) := dTL_4.2.1.2.2.2.2.2.2.2.2.1
theorem dL_law_597 : decode cL_law 597 = .ok (.invokevirtual 204, 3) := dTL_4.2.1.2.2.2.2.2.2.2.2.2.1
theorem dL_law_600 : decode cL_law 600 = .ok (.istore 6, 2) := dTL_4.2.2.1.1
theorem dL_law_602 : decode cL_law 602 = .ok (.goto 1388, 3) := dTL_4.2.2.1.2.1
theorem dL_law_605 : decode cL_law 605 = .ok (.aload_n 1, 1) := dTL_4.2.2.1.2.2.1
theorem dL_law_606 : decode cL_law 606 = .ok (.aload_n 0, 1) := dTL_4.2.2.1.2.2.2.1
theorem dL_law_607 : decode cL_law 607 = .ok (.iload 4, 2) := dTL_4.2.2.1.2.2.2.2.1
theorem dL_law_609 : decode cL_law 609 = .ok (.iconst 1, 1) := dTL_4.2.2.1.2.2.2.2.2.1
theorem dL_law_610 : decode cL_law 610 = .ok (.iadd, 1) := dTL_4.2.2.1.2.2.2.2.2.2.1
theorem dL_law_611 : decode cL_law 611 = .ok (.iaload, 1) := dTL_4.2.2.1.2.2.2.2.2.2.2.1
theorem dL_law_612 : decode cL_law 612 = .ok (.aload_n 0, 1) := dTL_4.2.2.1.2.2.2.2.2.2.2.2.1
theorem dL_law_613 : decode cL_law 613 = .ok (.iload 4, 2) := dTL_4.2.2.1.2.2.2.2.2.2.2.2.2.1
theorem dL_law_615 : decode cL_law 615 = .ok (.iconst 2, 1) := dTL_4.2.2.2.1.1
theorem dL_law_616 : decode cL_law 616 = .ok (.iadd, 1) := dTL_4.2.2.2.1.2.1
theorem dL_law_617 : decode cL_law 617 = .ok (.iaload, 1) := dTL_4.2.2.2.1.2.2.1
theorem dL_law_618 : decode cL_law 618 = .ok (.aload_n 3, 1) := dTL_4.2.2.2.1.2.2.2.1
theorem dL_law_619 : decode cL_law 619 = .ok (.invokestatic 205, 3) := dTL_4.2.2.2.1.2.2.2.2.1
theorem dL_law_622 : decode cL_law 622 = .ok (.istore 5, 2) := dTL_4.2.2.2.1.2.2.2.2.2.1
theorem dL_law_624 : decode cL_law 624 = .ok (.aload_n 2, 1) := dTL_4.2.2.2.1.2.2.2.2.2.2.1
theorem dL_law_625 : decode cL_law 625 = .ok (.aload_n 0, 1) := dTL_4.2.2.2.1.2.2.2.2.2.2.2.1
theorem dL_law_626 : decode cL_law 626 = .ok (.iload 4, 2) := dTL_4.2.2.2.1.2.2.2.2.2.2.2.2.1
theorem dL_law_628 : decode cL_law 628 = .ok (.iconst 1, 1) := dTL_4.2.2.2.1.2.2.2.2.2.2.2.2.2.1
theorem dL_law_629 : decode cL_law 629 = .ok (.iadd, 1) := dTL_4.2.2.2.2.1.1
theorem dL_law_630 : decode cL_law 630 = .ok (.iaload, 1) := dTL_4.2.2.2.2.1.2.1
theorem dL_law_631 : decode cL_law 631 = .ok (.aload_n 0, 1) := dTL_4.2.2.2.2.1.2.2.1
theorem dL_law_632 : decode cL_law 632 = .ok (.iload 4, 2) := dTL_4.2.2.2.2.1.2.2.2.1
theorem dL_law_634 : decode cL_law 634 = .ok (.iconst 2, 1) := dTL_4.2.2.2.2.1.2.2.2.2.1
theorem dL_law_635 : decode cL_law 635 = .ok (.iadd, 1) := dTL_4.2.2.2.2.1.2.2.2.2.2.1
theorem dL_law_636 : decode cL_law 636 = .ok (.iaload, 1) := dTL_4.2.2.2.2.1.2.2.2.2.2.2.1
theorem dL_law_637 : decode cL_law 637 = .ok (.invokevirtual 207, 3) := dTL_4.2.2.2.2.1.2.2.2.2.2.2.2.1
theorem dL_law_640 : decode cL_law 640 = .ok (.istore 6, 2) := dTL_4.2.2.2.2.1.2.2.2.2.2.2.2.2.1
theorem dL_law_642 : decode cL_law 642 = .ok (.goto 1348, 3) := dTL_4.2.2.2.2.1.2.2.2.2.2.2.2.2.2.1
theorem dL_law_645 : decode cL_law 645 = .ok (.aload_n 1, 1) := dTL_4.2.2.2.2.2.1.1
theorem dL_law_646 : decode cL_law 646 = .ok (.aload_n 0, 1) := dTL_4.2.2.2.2.2.1.2.1
theorem dL_law_647 : decode cL_law 647 = .ok (.iload 4, 2) := dTL_4.2.2.2.2.2.1.2.2.1
theorem dL_law_649 : decode cL_law 649 = .ok (.iconst 1, 1) := dTL_4.2.2.2.2.2.1.2.2.2.1
theorem dL_law_650 : decode cL_law 650 = .ok (.iadd, 1) := dTL_4.2.2.2.2.2.1.2.2.2.2.1
theorem dL_law_651 : decode cL_law 651 = .ok (.iaload, 1) := dTL_4.2.2.2.2.2.1.2.2.2.2.2.1
theorem dL_law_652 : decode cL_law 652 = .ok (.aload_n 0, 1) := dTL_4.2.2.2.2.2.1.2.2.2.2.2.2.1
theorem dL_law_653 : decode cL_law 653 = .ok (.iload 4, 2) := dTL_4.2.2.2.2.2.1.2.2.2.2.2.2.2.1
theorem dL_law_655 : decode cL_law 655 = .ok (.iconst 2, 1) := dTL_4.2.2.2.2.2.1.2.2.2.2.2.2.2.2.1
theorem dL_law_656 : decode cL_law 656 = .ok (.iadd, 1) := dTL_4.2.2.2.2.2.1.2.2.2.2.2.2.2.2.2.1
theorem dTL_5 : dQ cL_law [[(657, zop46, 0, 0), (658, zop45, 0, 0), (659, zop184, 0, 208), (662, zop54, 5, 0), (664, zop44, 0, 0), (665, zop42, 0, 0), (666, zop21, 4, 0), (668, zop4, 0, 0), (669, zop96, 0, 0), (670, zop46, 0, 0)], [(671, zop42, 0, 0), (672, zop21, 4, 0), (674, zop5, 0, 0), (675, zop96, 0, 0), (676, zop46, 0, 0), (677, zop182, 0, 210), (680, zop54, 6, 0), (682, zop167, 5, 28), (685, zop43, 0, 0), (686, zop42, 0, 0)], [(687, zop21, 4, 0), (689, zop4, 0, 0), (690, zop96, 0, 0), (691, zop46, 0, 0), (692, zop42, 0, 0), (693, zop21, 4, 0), (695, zop5, 0, 0), (696, zop96, 0, 0), (697, zop46, 0, 0), (698, zop45, 0, 0)], [(699, zop184, 0, 211), (702, zop54, 5, 0), (704, zop44, 0, 0), (705, zop42, 0, 0), (706, zop21, 4, 0), (708, zop4, 0, 0), (709, zop96, 0, 0), (710, zop46, 0, 0), (711, zop42, 0, 0), (712, zop21, 4, 0)], [(714, zop5, 0, 0), (715, zop96, 0, 0), (716, zop46, 0, 0), (717, zop182, 0, 213), (720, zop54, 6, 0), (722, zop167, 4, 244), (725, zop43, 0, 0), (726, zop42, 0, 0), (727, zop21, 4, 0), (729, zop4, 0, 0)], [(730, zop96, 0, 0), (731, zop46, 0, 0), (732, zop45, 0, 0), (733, zop184, 0, 214), (736, zop54, 5, 0), (738, zop44, 0, 0), (739, zop42, 0, 0), (740, zop21, 4, 0), (742, zop4, 0, 0), (743, zop96, 0, 0)]] := dQ_of _ _ (by decide +kernel)
theorem dL_law_657 : decode cL_law 657 = .ok (.iaload, 1) := dTL_5.1.1
theorem dL_law_658 : decode cL_law 658 = .ok (.aload_n 3, 1) := dTL_5.1.2.1
theorem dL_law_659 : decode cL_law 659 = .ok (.invokestatic 208, 3) := dTL_5.1.2.2.1
theorem dL_law_662 : decode cL_law 662 = .ok (.istore 5, 2) := dTL_5.1.2.2.2.1
theorem dL_law_664 : decode cL_law 664 = .ok (.aload_n 2, 1) := dTL_5.1.2.2.2.2.1
theorem dL_law_665 : decode cL_law 665 = .ok (.aload_n 0, 1) := dTL_5.1.2.2.2.2.2.1
theorem dL_law_666 : decode cL_law 666 = .ok (.iload 4, 2) := dTL_5.1.2.2.2.2.2.2.1
theorem dL_law_668 : decode cL_law 668 = .ok (.iconst 1, 1) := dTL_5.1.2.2.2.2.2.2.2.1
theorem dL_law_669 : decode cL_law 669 = .ok (.iadd, 1) := dTL_5.1.2.2.2.2.2.2.2.2.1
theorem dL_law_670 : decode cL_law 670 = .ok (.iaload, 1) := dTL_5.1.2.2.2.2.2.2.2.2.2.1
theorem dL_law_671 : decode cL_law 671 = .ok (.aload_n 0, 1) := dTL_5.2.1.1
theorem dL_law_672 : decode cL_law 672 = .ok (.iload 4, 2) := dTL_5.2.1.2.1
theorem dL_law_674 : decode cL_law 674 = .ok (.iconst 2, 1) := dTL_5.2.1.2.2.1
theorem dL_law_675 : decode cL_law 675 = .ok (.iadd, 1) := dTL_5.2.1.2.2.2.1
theorem dL_law_676 : decode cL_law 676 = .ok (.iaload, 1) := dTL_5.2.1.2.2.2.2.1
theorem dL_law_677 : decode cL_law 677 = .ok (.invokevirtual 210, 3) := dTL_5.2.1.2.2.2.2.2.1
theorem dL_law_680 : decode cL_law 680 = .ok (.istore 6, 2) := dTL_5.2.1.2.2.2.2.2.2.1
theorem dL_law_682 : decode cL_law 682 = .ok (.goto 1308, 3) := dTL_5.2.1.2.2.2.2.2.2.2.1
theorem dL_law_685 : decode cL_law 685 = .ok (.aload_n 1, 1) := dTL_5.2.1.2.2.2.2.2.2.2.2.1
theorem dL_law_686 : decode cL_law 686 = .ok (.aload_n 0, 1) := dTL_5.2.1.2.2.2.2.2.2.2.2.2.1
theorem dL_law_687 : decode cL_law 687 = .ok (.iload 4, 2) := dTL_5.2.2.1.1
theorem dL_law_689 : decode cL_law 689 = .ok (.iconst 1, 1) := dTL_5.2.2.1.2.1
theorem dL_law_690 : decode cL_law 690 = .ok (.iadd, 1) := dTL_5.2.2.1.2.2.1
theorem dL_law_691 : decode cL_law 691 = .ok (.iaload, 1) := dTL_5.2.2.1.2.2.2.1
theorem dL_law_692 : decode cL_law 692 = .ok (.aload_n 0, 1) := dTL_5.2.2.1.2.2.2.2.1
theorem dL_law_693 : decode cL_law 693 = .ok (.iload 4, 2) := dTL_5.2.2.1.2.2.2.2.2.1
theorem dL_law_695 : decode cL_law 695 = .ok (.iconst 2, 1) := dTL_5.2.2.1.2.2.2.2.2.2.1
theorem dL_law_696 : decode cL_law 696 = .ok (.iadd, 1) := dTL_5.2.2.1.2.2.2.2.2.2.2.1
theorem dL_law_697 : decode cL_law 697 = .ok (.iaload, 1) := dTL_5.2.2.1.2.2.2.2.2.2.2.2.1
theorem dL_law_698 : decode cL_law 698 = .ok (.aload_n 3, 1) := dTL_5.2.2.1.2.2.2.2.2.2.2.2.2.1
theorem dL_law_699 : decode cL_law 699 = .ok (.invokestatic 211, 3) := dTL_5.2.2.2.1.1
theorem dL_law_702 : decode cL_law 702 = .ok (.istore 5, 2) := dTL_5.2.2.2.1.2.1
theorem dL_law_704 : decode cL_law 704 = .ok (.aload_n 2, 1) := dTL_5.2.2.2.1.2.2.1
theorem dL_law_705 : decode cL_law 705 = .ok (.aload_n 0, 1) := dTL_5.2.2.2.1.2.2.2.1
theorem dL_law_706 : decode cL_law 706 = .ok (.iload 4, 2) := dTL_5.2.2.2.1.2.2.2.2.1
theorem dL_law_708 : decode cL_law 708 = .ok (.iconst 1, 1) := dTL_5.2.2.2.1.2.2.2.2.2.1
theorem dL_law_709 : decode cL_law 709 = .ok (.iadd, 1) := dTL_5.2.2.2.1.2.2.2.2.2.2.1
theorem dL_law_710 : decode cL_law 710 = .ok (.iaload, 1) := dTL_5.2.2.2.1.2.2.2.2.2.2.2.1
theorem dL_law_711 : decode cL_law 711 = .ok (.aload_n 0, 1) := dTL_5.2.2.2.1.2.2.2.2.2.2.2.2.1
theorem dL_law_712 : decode cL_law 712 = .ok (.iload 4, 2) := dTL_5.2.2.2.1.2.2.2.2.2.2.2.2.2.1
theorem dL_law_714 : decode cL_law 714 = .ok (.iconst 2, 1) := dTL_5.2.2.2.2.1.1
theorem dL_law_715 : decode cL_law 715 = .ok (.iadd, 1) := dTL_5.2.2.2.2.1.2.1
theorem dL_law_716 : decode cL_law 716 = .ok (.iaload, 1) := dTL_5.2.2.2.2.1.2.2.1
theorem dL_law_717 : decode cL_law 717 = .ok (.invokevirtual 213, 3) := dTL_5.2.2.2.2.1.2.2.2.1
theorem dL_law_720 : decode cL_law 720 = .ok (.istore 6, 2) := dTL_5.2.2.2.2.1.2.2.2.2.1
theorem dL_law_722 : decode cL_law 722 = .ok (.goto 1268, 3) := dTL_5.2.2.2.2.1.2.2.2.2.2.1
theorem dL_law_725 : decode cL_law 725 = .ok (.aload_n 1, 1) := dTL_5.2.2.2.2.1.2.2.2.2.2.2.1
theorem dL_law_726 : decode cL_law 726 = .ok (.aload_n 0, 1) := dTL_5.2.2.2.2.1.2.2.2.2.2.2.2.1
theorem dL_law_727 : decode cL_law 727 = .ok (.iload 4, 2) := dTL_5.2.2.2.2.1.2.2.2.2.2.2.2.2.1
theorem dL_law_729 : decode cL_law 729 = .ok (.iconst 1, 1) := dTL_5.2.2.2.2.1.2.2.2.2.2.2.2.2.2.1
theorem dL_law_730 : decode cL_law 730 = .ok (.iadd, 1) := dTL_5.2.2.2.2.2.1.1
theorem dL_law_731 : decode cL_law 731 = .ok (.iaload, 1) := dTL_5.2.2.2.2.2.1.2.1
theorem dL_law_732 : decode cL_law 732 = .ok (.aload_n 3, 1) := dTL_5.2.2.2.2.2.1.2.2.1
theorem dL_law_733 : decode cL_law 733 = .ok (.invokestatic 214, 3) := dTL_5.2.2.2.2.2.1.2.2.2.1
theorem dL_law_736 : decode cL_law 736 = .ok (.istore 5, 2) := dTL_5.2.2.2.2.2.1.2.2.2.2.1
theorem dL_law_738 : decode cL_law 738 = .ok (.aload_n 2, 1) := dTL_5.2.2.2.2.2.1.2.2.2.2.2.1
theorem dL_law_739 : decode cL_law 739 = .ok (.aload_n 0, 1) := dTL_5.2.2.2.2.2.1.2.2.2.2.2.2.1
theorem dL_law_740 : decode cL_law 740 = .ok (.iload 4, 2) := dTL_5.2.2.2.2.2.1.2.2.2.2.2.2.2.1
theorem dL_law_742 : decode cL_law 742 = .ok (.iconst 1, 1) := dTL_5.2.2.2.2.2.1.2.2.2.2.2.2.2.2.1
theorem dL_law_743 : decode cL_law 743 = .ok (.iadd, 1) := dTL_5.2.2.2.2.2.1.2.2.2.2.2.2.2.2.2.1
theorem dTL_6 : dQ cL_law [[(744, zop46, 0, 0), (745, zop182, 0, 216), (748, zop54, 6, 0), (750, zop167, 4, 216), (753, zop43, 0, 0), (754, zop42, 0, 0), (755, zop21, 4, 0), (757, zop4, 0, 0), (758, zop96, 0, 0), (759, zop46, 0, 0)], [(760, zop42, 0, 0), (761, zop21, 4, 0), (763, zop5, 0, 0), (764, zop96, 0, 0), (765, zop46, 0, 0), (766, zop42, 0, 0), (767, zop21, 4, 0), (769, zop6, 0, 0), (770, zop96, 0, 0), (771, zop46, 0, 0)], [(772, zop45, 0, 0), (773, zop184, 0, 217), (776, zop54, 5, 0), (778, zop44, 0, 0), (779, zop42, 0, 0), (780, zop21, 4, 0), (782, zop4, 0, 0), (783, zop96, 0, 0), (784, zop46, 0, 0), (785, zop42, 0, 0)], [(786, zop21, 4, 0), (788, zop5, 0, 0), (789, zop96, 0, 0), (790, zop46, 0, 0), (791, zop42, 0, 0), (792, zop21, 4, 0), (794, zop6, 0, 0), (795, zop96, 0, 0), (796, zop46, 0, 0), (797, zop182, 0, 220)], [(800, zop54, 6, 0), (802, zop167, 4, 164), (805, zop43, 0, 0), (806, zop42, 0, 0), (807, zop21, 4, 0), (809, zop4, 0, 0), (810, zop96, 0, 0), (811, zop46, 0, 0), (812, zop42, 0, 0), (813, zop21, 4, 0)], [(815, zop5, 0, 0), (816, zop96, 0, 0), (817, zop46, 0, 0), (818, zop42, 0, 0), (819, zop21, 4, 0), (821, zop6, 0, 0), (822, zop96, 0, 0), (823, zop46, 0, 0), (824, zop45, 0, 0), (825, zop184, 0, 221)]] := dQ_of _ _ (by decide +kernel)
theorem dL_law_744 : decode cL_law 744 = .ok (.iaload, 1) := dTL_6.1.1
theorem dL_law_745 : decode cL_law 745 = .ok (.invokevirtual 216, 3) := dTL_6.1.2.1
theorem dL_law_748 : decode cL_law 748 = .ok (.istore 6, 2) := dTL_6.1.2.2.1
theorem dL_law_750 : decode cL_law 750 = .ok (.goto 1240, 3) := dTL_6.1.2.2.2.1
theorem dL_law_753 : decode cL_law 753 = .ok (.aload_n 1, 1) := dTL_6.1.2.2.2.2.1
theorem dL_law_754 : decode cL_law 754 = .ok (.aload_n 0, 1) := dTL_6.1.2.2.2.2.2.1
theorem dL_law_755 : decode cL_law 755 = .ok (.iload 4, 2) := dTL_6.1.2.2.2.2.2.2.1
theorem dL_law_757 : decode cL_law 757 = .ok (.iconst 1, 1) := dTL_6.1.2.2.2.2.2.2.2.1
theorem dL_law_758 : decode cL_law 758 = .ok (.iadd, 1) := dTL_6.1.2.2.2.2.2.2.2.2.1
theorem dL_law_759 : decode cL_law 759 = .ok (.iaload, 1) := dTL_6.1.2.2.2.2.2.2.2.2.2.1
theorem dL_law_760 : decode cL_law 760 = .ok (.aload_n 0, 1) := dTL_6.2.1.1
theorem dL_law_761 : decode cL_law 761 = .ok (.iload 4, 2) := dTL_6.2.1.2.1
theorem dL_law_763 : decode cL_law 763 = .ok (.iconst 2, 1) := dTL_6.2.1.2.2.1
theorem dL_law_764 : decode cL_law 764 = .ok (.iadd, 1) := dTL_6.2.1.2.2.2.1
theorem dL_law_765 : decode cL_law 765 = .ok (.iaload, 1) := dTL_6.2.1.2.2.2.2.1
theorem dL_law_766 : decode cL_law 766 = .ok (.aload_n 0, 1) := dTL_6.2.1.2.2.2.2.2.1
theorem dL_law_767 : decode cL_law 767 = .ok (.iload 4, 2) := dTL_6.2.1.2.2.2.2.2.2.1
theorem dL_law_769 : decode cL_law 769 = .ok (.iconst 3, 1) := dTL_6.2.1.2.2.2.2.2.2.2.1
theorem dL_law_770 : decode cL_law 770 = .ok (.iadd, 1) := dTL_6.2.1.2.2.2.2.2.2.2.2.1
theorem dL_law_771 : decode cL_law 771 = .ok (.iaload, 1) := dTL_6.2.1.2.2.2.2.2.2.2.2.2.1
theorem dL_law_772 : decode cL_law 772 = .ok (.aload_n 3, 1) := dTL_6.2.2.1.1
theorem dL_law_773 : decode cL_law 773 = .ok (.invokestatic 217, 3) := dTL_6.2.2.1.2.1
theorem dL_law_776 : decode cL_law 776 = .ok (.istore 5, 2) := dTL_6.2.2.1.2.2.1
theorem dL_law_778 : decode cL_law 778 = .ok (.aload_n 2, 1) := dTL_6.2.2.1.2.2.2.1
theorem dL_law_779 : decode cL_law 779 = .ok (.aload_n 0, 1) := dTL_6.2.2.1.2.2.2.2.1
theorem dL_law_780 : decode cL_law 780 = .ok (.iload 4, 2) := dTL_6.2.2.1.2.2.2.2.2.1
theorem dL_law_782 : decode cL_law 782 = .ok (.iconst 1, 1) := dTL_6.2.2.1.2.2.2.2.2.2.1
theorem dL_law_783 : decode cL_law 783 = .ok (.iadd, 1) := dTL_6.2.2.1.2.2.2.2.2.2.2.1
theorem dL_law_784 : decode cL_law 784 = .ok (.iaload, 1) := dTL_6.2.2.1.2.2.2.2.2.2.2.2.1
theorem dL_law_785 : decode cL_law 785 = .ok (.aload_n 0, 1) := dTL_6.2.2.1.2.2.2.2.2.2.2.2.2.1
theorem dL_law_786 : decode cL_law 786 = .ok (.iload 4, 2) := dTL_6.2.2.2.1.1
theorem dL_law_788 : decode cL_law 788 = .ok (.iconst 2, 1) := dTL_6.2.2.2.1.2.1
theorem dL_law_789 : decode cL_law 789 = .ok (.iadd, 1) := dTL_6.2.2.2.1.2.2.1
theorem dL_law_790 : decode cL_law 790 = .ok (.iaload, 1) := dTL_6.2.2.2.1.2.2.2.1
theorem dL_law_791 : decode cL_law 791 = .ok (.aload_n 0, 1) := dTL_6.2.2.2.1.2.2.2.2.1
theorem dL_law_792 : decode cL_law 792 = .ok (.iload 4, 2) := dTL_6.2.2.2.1.2.2.2.2.2.1
theorem dL_law_794 : decode cL_law 794 = .ok (.iconst 3, 1) := dTL_6.2.2.2.1.2.2.2.2.2.2.1
theorem dL_law_795 : decode cL_law 795 = .ok (.iadd, 1) := dTL_6.2.2.2.1.2.2.2.2.2.2.2.1
theorem dL_law_796 : decode cL_law 796 = .ok (.iaload, 1) := dTL_6.2.2.2.1.2.2.2.2.2.2.2.2.1
theorem dL_law_797 : decode cL_law 797 = .ok (.invokevirtual 220, 3) := dTL_6.2.2.2.1.2.2.2.2.2.2.2.2.2.1
theorem dL_law_800 : decode cL_law 800 = .ok (.istore 6, 2) := dTL_6.2.2.2.2.1.1
theorem dL_law_802 : decode cL_law 802 = .ok (.goto 1188, 3) := dTL_6.2.2.2.2.1.2.1
theorem dL_law_805 : decode cL_law 805 = .ok (.aload_n 1, 1) := dTL_6.2.2.2.2.1.2.2.1
theorem dL_law_806 : decode cL_law 806 = .ok (.aload_n 0, 1) := dTL_6.2.2.2.2.1.2.2.2.1
theorem dL_law_807 : decode cL_law 807 = .ok (.iload 4, 2) := dTL_6.2.2.2.2.1.2.2.2.2.1
theorem dL_law_809 : decode cL_law 809 = .ok (.iconst 1, 1) := dTL_6.2.2.2.2.1.2.2.2.2.2.1
theorem dL_law_810 : decode cL_law 810 = .ok (.iadd, 1) := dTL_6.2.2.2.2.1.2.2.2.2.2.2.1
theorem dL_law_811 : decode cL_law 811 = .ok (.iaload, 1) := dTL_6.2.2.2.2.1.2.2.2.2.2.2.2.1
theorem dL_law_812 : decode cL_law 812 = .ok (.aload_n 0, 1) := dTL_6.2.2.2.2.1.2.2.2.2.2.2.2.2.1
theorem dL_law_813 : decode cL_law 813 = .ok (.iload 4, 2) := dTL_6.2.2.2.2.1.2.2.2.2.2.2.2.2.2.1
theorem dL_law_815 : decode cL_law 815 = .ok (.iconst 2, 1) := dTL_6.2.2.2.2.2.1.1
theorem dL_law_816 : decode cL_law 816 = .ok (.iadd, 1) := dTL_6.2.2.2.2.2.1.2.1
theorem dL_law_817 : decode cL_law 817 = .ok (.iaload, 1) := dTL_6.2.2.2.2.2.1.2.2.1
theorem dL_law_818 : decode cL_law 818 = .ok (.aload_n 0, 1) := dTL_6.2.2.2.2.2.1.2.2.2.1
theorem dL_law_819 : decode cL_law 819 = .ok (.iload 4, 2) := dTL_6.2.2.2.2.2.1.2.2.2.2.1
theorem dL_law_821 : decode cL_law 821 = .ok (.iconst 3, 1) := dTL_6.2.2.2.2.2.1.2.2.2.2.2.1
theorem dL_law_822 : decode cL_law 822 = .ok (.iadd, 1) := dTL_6.2.2.2.2.2.1.2.2.2.2.2.2.1
theorem dL_law_823 : decode cL_law 823 = .ok (.iaload, 1) := dTL_6.2.2.2.2.2.1.2.2.2.2.2.2.2.1
theorem dL_law_824 : decode cL_law 824 = .ok (.aload_n 3, 1) := dTL_6.2.2.2.2.2.1.2.2.2.2.2.2.2.2.1
theorem dL_law_825 : decode cL_law 825 = .ok (.invokestatic 221, 3) := dTL_6.2.2.2.2.2.1.2.2.2.2.2.2.2.2.2.1
theorem dTL_7 : dQ cL_law [[(828, zop54, 5, 0), (830, zop44, 0, 0), (831, zop42, 0, 0), (832, zop21, 4, 0), (834, zop4, 0, 0), (835, zop96, 0, 0), (836, zop46, 0, 0), (837, zop42, 0, 0), (838, zop21, 4, 0), (840, zop5, 0, 0)], [(841, zop96, 0, 0), (842, zop46, 0, 0), (843, zop42, 0, 0), (844, zop21, 4, 0), (846, zop6, 0, 0), (847, zop96, 0, 0), (848, zop46, 0, 0), (849, zop182, 0, 223), (852, zop54, 6, 0), (854, zop167, 4, 112)], [(857, zop43, 0, 0), (858, zop42, 0, 0), (859, zop21, 4, 0), (861, zop4, 0, 0), (862, zop96, 0, 0), (863, zop46, 0, 0), (864, zop153, 0, 7), (867, zop4, 0, 0), (868, zop167, 0, 4), (871, zop3, 0, 0)], [(872, zop42, 0, 0), (873, zop21, 4, 0), (875, zop5, 0, 0), (876, zop96, 0, 0), (877, zop46, 0, 0), (878, zop45, 0, 0), (879, zop184, 0, 224), (882, zop54, 5, 0), (884, zop44, 0, 0), (885, zop42, 0, 0)], [(886, zop21, 4, 0), (888, zop4, 0, 0), (889, zop96, 0, 0), (890, zop46, 0, 0), (891, zop153, 0, 7), (894, zop4, 0, 0), (895, zop167, 0, 4), (898, zop3, 0, 0), (899, zop42, 0, 0), (900, zop21, 4, 0)], [(902, zop5, 0, 0), (903, zop96, 0, 0), (904, zop46, 0, 0), (905, zop182, 0, 227), (908, zop54, 6, 0), (910, zop167, 4, 56), (913, zop43, 0, 0), (914, zop182, 0, 228), (917, zop87, 0, 0), (918, zop44, 0, 0)]] := dQ_of _ _ (by decide +kernel)
theorem dL_law_828 : decode cL_law 828 = .ok (.istore 5, 2) := dTL_7.1.1
theorem dL_law_830 : decode cL_law 830 = .ok (.aload_n 2, 1) := dTL_7.1.2.1
theorem dL_law_831 : decode cL_law 831 = .ok (.aload_n 0, 1) := dTL_7.1.2.2.1
theorem dL_law_832 : decode cL_law 832 = .ok (.iload 4, 2) := dTL_7.1.2.2.2.1
theorem dL_law_834 : decode cL_law 834 = .ok (.iconst 1, 1) := dTL_7.1.2.2.2.2.1
theorem dL_law_835 : decode cL_law 835 = .ok (.iadd, 1) := dTL_7.1.2.2.2.2.2.1
theorem dL_law_836 : decode cL_law 836 = .ok (.iaload, 1) := dTL_7.1.2.2.2.2.2.2.1
theorem dL_law_837 : decode cL_law 837 = .ok (.aload_n 0, 1) := dTL_7.1.2.2.2.2.2.2.2.1
theorem dL_law_838 : decode cL_law 838 = .ok (.iload 4, 2) := dTL_7.1.2.2.2.2.2.2.2.2.1
theorem dL_law_840 : decode cL_law 840 = .ok (.iconst 2, 1) := dTL_7.1.2.2.2.2.2.2.2.2.2.1
theorem dL_law_841 : decode cL_law 841 = .ok (.iadd, 1) := dTL_7.2.1.1
theorem dL_law_842 : decode cL_law 842 = .ok (.iaload, 1) := dTL_7.2.1.2.1
theorem dL_law_843 : decode cL_law 843 = .ok (.aload_n 0, 1) := dTL_7.2.1.2.2.1
theorem dL_law_844 : decode cL_law 844 = .ok (.iload 4, 2) := dTL_7.2.1.2.2.2.1
theorem dL_law_846 : decode cL_law 846 = .ok (.iconst 3, 1) := dTL_7.2.1.2.2.2.2.1
theorem dL_law_847 : decode cL_law 847 = .ok (.iadd, 1) := dTL_7.2.1.2.2.2.2.2.1
theorem dL_law_848 : decode cL_law 848 = .ok (.iaload, 1) := dTL_7.2.1.2.2.2.2.2.2.1
theorem dL_law_849 : decode cL_law 849 = .ok (.invokevirtual 223, 3) := dTL_7.2.1.2.2.2.2.2.2.2.1
theorem dL_law_852 : decode cL_law 852 = .ok (.istore 6, 2) := dTL_7.2.1.2.2.2.2.2.2.2.2.1
theorem dL_law_854 : decode cL_law 854 = .ok (.goto 1136, 3) := dTL_7.2.1.2.2.2.2.2.2.2.2.2.1
theorem dL_law_857 : decode cL_law 857 = .ok (.aload_n 1, 1) := dTL_7.2.2.1.1
theorem dL_law_858 : decode cL_law 858 = .ok (.aload_n 0, 1) := dTL_7.2.2.1.2.1
theorem dL_law_859 : decode cL_law 859 = .ok (.iload 4, 2) := dTL_7.2.2.1.2.2.1
theorem dL_law_861 : decode cL_law 861 = .ok (.iconst 1, 1) := dTL_7.2.2.1.2.2.2.1
theorem dL_law_862 : decode cL_law 862 = .ok (.iadd, 1) := dTL_7.2.2.1.2.2.2.2.1
theorem dL_law_863 : decode cL_law 863 = .ok (.iaload, 1) := dTL_7.2.2.1.2.2.2.2.2.1
theorem dL_law_864 : decode cL_law 864 = .ok (.ifCond .eq 7, 3) := dTL_7.2.2.1.2.2.2.2.2.2.1
theorem dL_law_867 : decode cL_law 867 = .ok (.iconst 1, 1) := dTL_7.2.2.1.2.2.2.2.2.2.2.1
theorem dL_law_868 : decode cL_law 868 = .ok (.goto 4, 3) := dTL_7.2.2.1.2.2.2.2.2.2.2.2.1
theorem dL_law_871 : decode cL_law 871 = .ok (.iconst 0, 1) := dTL_7.2.2.1.2.2.2.2.2.2.2.2.2.1
theorem dL_law_872 : decode cL_law 872 = .ok (.aload_n 0, 1) := dTL_7.2.2.2.1.1
theorem dL_law_873 : decode cL_law 873 = .ok (.iload 4, 2) := dTL_7.2.2.2.1.2.1
theorem dL_law_875 : decode cL_law 875 = .ok (.iconst 2, 1) := dTL_7.2.2.2.1.2.2.1
theorem dL_law_876 : decode cL_law 876 = .ok (.iadd, 1) := dTL_7.2.2.2.1.2.2.2.1
theorem dL_law_877 : decode cL_law 877 = .ok (.iaload, 1) := dTL_7.2.2.2.1.2.2.2.2.1
theorem dL_law_878 : decode cL_law 878 = .ok (.aload_n 3, 1) := dTL_7.2.2.2.1.2.2.2.2.2.1
theorem dL_law_879 : decode cL_law 879 = .ok (.invokestatic 224, 3) := dTL_7.2.2.2.1.2.2.2.2.2.2.1
theorem dL_law_882 : decode cL_law 882 = .ok (.istore 5, 2) := dTL_7.2.2.2.1.2.2.2.2.2.2.2.1
theorem dL_law_884 : decode cL_law 884 = .ok (.aload_n 2, 1) := dTL_7.2.2.2.1.2.2.2.2.2.2.2.2.1
theorem dL_law_885 : decode cL_law 885 = .ok (.aload_n 0, 1) := dTL_7.2.2.2.1.2.2.2.2.2.2.2.2.2.1
theorem dL_law_886 : decode cL_law 886 = .ok (.iload 4, 2) := dTL_7.2.2.2.2.1.1
theorem dL_law_888 : decode cL_law 888 = .ok (.iconst 1, 1) := dTL_7.2.2.2.2.1.2.1
theorem dL_law_889 : decode cL_law 889 = .ok (.iadd, 1) := dTL_7.2.2.2.2.1.2.2.1
theorem dL_law_890 : decode cL_law 890 = .ok (.iaload, 1) := dTL_7.2.2.2.2.1.2.2.2.1
theorem dL_law_891 : decode cL_law 891 = .ok (.ifCond .eq 7, 3) := dTL_7.2.2.2.2.1.2.2.2.2.1
theorem dL_law_894 : decode cL_law 894 = .ok (.iconst 1, 1) := dTL_7.2.2.2.2.1.2.2.2.2.2.1
theorem dL_law_895 : decode cL_law 895 = .ok (.goto 4, 3) := dTL_7.2.2.2.2.1.2.2.2.2.2.2.1
theorem dL_law_898 : decode cL_law 898 = .ok (.iconst 0, 1) := dTL_7.2.2.2.2.1.2.2.2.2.2.2.2.1
theorem dL_law_899 : decode cL_law 899 = .ok (.aload_n 0, 1) := dTL_7.2.2.2.2.1.2.2.2.2.2.2.2.2.1
theorem dL_law_900 : decode cL_law 900 = .ok (.iload 4, 2) := dTL_7.2.2.2.2.1.2.2.2.2.2.2.2.2.2.1
theorem dL_law_902 : decode cL_law 902 = .ok (.iconst 2, 1) := dTL_7.2.2.2.2.2.1.1
theorem dL_law_903 : decode cL_law 903 = .ok (.iadd, 1) := dTL_7.2.2.2.2.2.1.2.1
theorem dL_law_904 : decode cL_law 904 = .ok (.iaload, 1) := dTL_7.2.2.2.2.2.1.2.2.1
theorem dL_law_905 : decode cL_law 905 = .ok (.invokevirtual 227, 3) := dTL_7.2.2.2.2.2.1.2.2.2.1
theorem dL_law_908 : decode cL_law 908 = .ok (.istore 6, 2) := dTL_7.2.2.2.2.2.1.2.2.2.2.1
theorem dL_law_910 : decode cL_law 910 = .ok (.goto 1080, 3) := dTL_7.2.2.2.2.2.1.2.2.2.2.2.1
theorem dL_law_913 : decode cL_law 913 = .ok (.aload_n 1, 1) := dTL_7.2.2.2.2.2.1.2.2.2.2.2.2.1
theorem dL_law_914 : decode cL_law 914 = .ok (.invokevirtual 228, 3) := dTL_7.2.2.2.2.2.1.2.2.2.2.2.2.2.1
theorem dL_law_917 : decode cL_law 917 = .ok (.pop, 1) := dTL_7.2.2.2.2.2.1.2.2.2.2.2.2.2.2.1
theorem dL_law_918 : decode cL_law 918 = .ok (.aload_n 2, 1) := dTL_7.2.2.2.2.2.1.2.2.2.2.2.2.2.2.2.1
theorem dTL_8 : dQ cL_law [[(919, zop182, 0, 231), (922, zop87, 0, 0), (923, zop167, 4, 43), (926, zop43, 0, 0), (927, zop42, 0, 0), (928, zop21, 4, 0), (930, zop4, 0, 0), (931, zop96, 0, 0), (932, zop46, 0, 0), (933, zop45, 0, 0)], [(934, zop184, 0, 232), (937, zop54, 5, 0), (939, zop44, 0, 0), (940, zop42, 0, 0), (941, zop21, 4, 0), (943, zop4, 0, 0), (944, zop96, 0, 0), (945, zop46, 0, 0), (946, zop182, 0, 234), (949, zop54, 6, 0)], [(951, zop167, 4, 15), (954, zop43, 0, 0), (955, zop42, 0, 0), (956, zop21, 4, 0), (958, zop4, 0, 0), (959, zop96, 0, 0), (960, zop46, 0, 0), (961, zop45, 0, 0), (962, zop184, 0, 235), (965, zop54, 5, 0)], [(967, zop44, 0, 0), (968, zop42, 0, 0), (969, zop21, 4, 0), (971, zop4, 0, 0), (972, zop96, 0, 0), (973, zop46, 0, 0), (974, zop182, 0, 237), (977, zop54, 6, 0), (979, zop167, 3, 243), (982, zop43, 0, 0)], [(983, zop42, 0, 0), (984, zop21, 4, 0), (986, zop4, 0, 0), (987, zop96, 0, 0), (988, zop46, 0, 0), (989, zop45, 0, 0), (990, zop184, 0, 238), (993, zop54, 5, 0), (995, zop44, 0, 0), (996, zop42, 0, 0)], [(997, zop21, 4, 0), (999, zop4, 0, 0), (1000, zop96, 0, 0), (1001, zop46, 0, 0), (1002, zop182, 0, 240), (1005, zop54, 6, 0), (1007, zop167, 3, 215), (1010, zop43, 0, 0), (1011, zop42, 0, 0), (1012, zop21, 4, 0)]] := dQ_of _ _ (by decide +kernel)
theorem dL_law_919 : decode cL_law 919 = .ok (.invokevirtual 231, 3) := dTL_8.1.1
theorem dL_law_922 : decode cL_law 922 = .ok (.pop, 1) := dTL_8.1.2.1
theorem dL_law_923 : decode cL_law 923 = .ok (.goto 1067, 3) := dTL_8.1.2.2.1
theorem dL_law_926 : decode cL_law 926 = .ok (.aload_n 1, 1) := dTL_8.1.2.2.2.1
theorem dL_law_927 : decode cL_law 927 = .ok (.aload_n 0, 1) := dTL_8.1.2.2.2.2.1
theorem dL_law_928 : decode cL_law 928 = .ok (.iload 4, 2) := dTL_8.1.2.2.2.2.2.1
theorem dL_law_930 : decode cL_law 930 = .ok (.iconst 1, 1) := dTL_8.1.2.2.2.2.2.2.1
theorem dL_law_931 : decode cL_law 931 = .ok (.iadd, 1) := dTL_8.1.2.2.2.2.2.2.2.1
theorem dL_law_932 : decode cL_law 932 = .ok (.iaload, 1) := dTL_8.1.2.2.2.2.2.2.2.2.1
theorem dL_law_933 : decode cL_law 933 = .ok (.aload_n 3, 1) := dTL_8.1.2.2.2.2.2.2.2.2.2.1
theorem dL_law_934 : decode cL_law 934 = .ok (.invokestatic 232, 3) := dTL_8.2.1.1
theorem dL_law_937 : decode cL_law 937 = .ok (.istore 5, 2) := dTL_8.2.1.2.1
theorem dL_law_939 : decode cL_law 939 = .ok (.aload_n 2, 1) := dTL_8.2.1.2.2.1
theorem dL_law_940 : decode cL_law 940 = .ok (.aload_n 0, 1) := dTL_8.2.1.2.2.2.1
theorem dL_law_941 : decode cL_law 941 = .ok (.iload 4, 2) := dTL_8.2.1.2.2.2.2.1
theorem dL_law_943 : decode cL_law 943 = .ok (.iconst 1, 1) := dTL_8.2.1.2.2.2.2.2.1
theorem dL_law_944 : decode cL_law 944 = .ok (.iadd, 1) := dTL_8.2.1.2.2.2.2.2.2.1
theorem dL_law_945 : decode cL_law 945 = .ok (.iaload, 1) := dTL_8.2.1.2.2.2.2.2.2.2.1
theorem dL_law_946 : decode cL_law 946 = .ok (.invokevirtual 234, 3) := dTL_8.2.1.2.2.2.2.2.2.2.2.1
theorem dL_law_949 : decode cL_law 949 = .ok (.istore 6, 2) := dTL_8.2.1.2.2.2.2.2.2.2.2.2.1
theorem dL_law_951 : decode cL_law 951 = .ok (.goto 1039, 3) := dTL_8.2.2.1.1
theorem dL_law_954 : decode cL_law 954 = .ok (.aload_n 1, 1) := dTL_8.2.2.1.2.1
theorem dL_law_955 : decode cL_law 955 = .ok (.aload_n 0, 1) := dTL_8.2.2.1.2.2.1
theorem dL_law_956 : decode cL_law 956 = .ok (.iload 4, 2) := dTL_8.2.2.1.2.2.2.1
theorem dL_law_958 : decode cL_law 958 = .ok (.iconst 1, 1) := dTL_8.2.2.1.2.2.2.2.1
theorem dL_law_959 : decode cL_law 959 = .ok (.iadd, 1) := dTL_8.2.2.1.2.2.2.2.2.1
theorem dL_law_960 : decode cL_law 960 = .ok (.iaload, 1) := dTL_8.2.2.1.2.2.2.2.2.2.1
theorem dL_law_961 : decode cL_law 961 = .ok (.aload_n 3, 1) := dTL_8.2.2.1.2.2.2.2.2.2.2.1
theorem dL_law_962 : decode cL_law 962 = .ok (.invokestatic 235, 3) := dTL_8.2.2.1.2.2.2.2.2.2.2.2.1
theorem dL_law_965 : decode cL_law 965 = .ok (.istore 5, 2) := dTL_8.2.2.1.2.2.2.2.2.2.2.2.2.1
theorem dL_law_967 : decode cL_law 967 = .ok (.aload_n 2, 1) := dTL_8.2.2.2.1.1
theorem dL_law_968 : decode cL_law 968 = .ok (.aload_n 0, 1) := dTL_8.2.2.2.1.2.1
theorem dL_law_969 : decode cL_law 969 = .ok (.iload 4, 2) := dTL_8.2.2.2.1.2.2.1
theorem dL_law_971 : decode cL_law 971 = .ok (.iconst 1, 1) := dTL_8.2.2.2.1.2.2.2.1
theorem dL_law_972 : decode cL_law 972 = .ok (.iadd, 1) := dTL_8.2.2.2.1.2.2.2.2.1
theorem dL_law_973 : decode cL_law 973 = .ok (.iaload, 1) := dTL_8.2.2.2.1.2.2.2.2.2.1
theorem dL_law_974 : decode cL_law 974 = .ok (.invokevirtual 237, 3) := dTL_8.2.2.2.1.2.2.2.2.2.2.1
theorem dL_law_977 : decode cL_law 977 = .ok (.istore 6, 2) := dTL_8.2.2.2.1.2.2.2.2.2.2.2.1
theorem dL_law_979 : decode cL_law 979 = .ok (.goto 1011, 3) := dTL_8.2.2.2.1.2.2.2.2.2.2.2.2.1
theorem dL_law_982 : decode cL_law 982 = .ok (.aload_n 1, 1) := dTL_8.2.2.2.1.2.2.2.2.2.2.2.2.2.1
theorem dL_law_983 : decode cL_law 983 = .ok (.aload_n 0, 1) := dTL_8.2.2.2.2.1.1
theorem dL_law_984 : decode cL_law 984 = .ok (.iload 4, 2) := dTL_8.2.2.2.2.1.2.1
theorem dL_law_986 : decode cL_law 986 = .ok (.iconst 1, 1) := dTL_8.2.2.2.2.1.2.2.1
theorem dL_law_987 : decode cL_law 987 = .ok (.iadd, 1) := dTL_8.2.2.2.2.1.2.2.2.1
theorem dL_law_988 : decode cL_law 988 = .ok (.iaload, 1) := dTL_8.2.2.2.2.1.2.2.2.2.1
theorem dL_law_989 : decode cL_law 989 = .ok (.aload_n 3, 1) := dTL_8.2.2.2.2.1.2.2.2.2.2.1
theorem dL_law_990 : decode cL_law 990 = .ok (.invokestatic 238, 3) := dTL_8.2.2.2.2.1.2.2.2.2.2.2.1
theorem dL_law_993 : decode cL_law 993 = .ok (.istore 5, 2) := dTL_8.2.2.2.2.1.2.2.2.2.2.2.2.1
theorem dL_law_995 : decode cL_law 995 = .ok (.aload_n 2, 1) := dTL_8.2.2.2.2.1.2.2.2.2.2.2.2.2.1
theorem dL_law_996 : decode cL_law 996 = .ok (.aload_n 0, 1) := dTL_8.2.2.2.2.1.2.2.2.2.2.2.2.2.2.1
theorem dL_law_997 : decode cL_law 997 = .ok (.iload 4, 2) := dTL_8.2.2.2.2.2.1.1
theorem dL_law_999 : decode cL_law 999 = .ok (.iconst 1, 1) := dTL_8.2.2.2.2.2.1.2.1
theorem dL_law_1000 : decode cL_law 1000 = .ok (.iadd, 1) := dTL_8.2.2.2.2.2.1.2.2.1
theorem dL_law_1001 : decode cL_law 1001 = .ok (.iaload, 1) := dTL_8.2.2.2.2.2.1.2.2.2.1
theorem dL_law_1002 : decode cL_law 1002 = .ok (.invokevirtual 240, 3) := dTL_8.2.2.2.2.2.1.2.2.2.2.1
theorem dL_law_1005 : decode cL_law 1005 = .ok (.istore 6, 2) := dTL_8.2.2.2.2.2.1.2.2.2.2.2.1
theorem dL_law_1007 : decode cL_law 1007 = .ok (.goto 983, 3) := dTL_8.2.2.2.2.2.1.2.2.2.2.2.2.1
theorem dL_law_1010 : decode cL_law 1010 = .ok (.aload_n 1, 1) := dTL_8.2.2.2.2.2.1.2.2.2.2.2.2.2.1
theorem dL_law_1011 : decode cL_law 1011 = .ok (.aload_n 0, 1) := dTL_8.2.2.2.2.2.1.2.2.2.2.2.2.2.2.1
theorem dL_law_1012 : decode cL_law 1012 = .ok (.iload 4, 2) := dTL_8.2.2.2.2.2.1.2.2.2.2.2.2.2.2.2.1
theorem dTL_9 : dQ cL_law [[(1014, zop4, 0, 0), (1015, zop96, 0, 0), (1016, zop46, 0, 0), (1017, zop45, 0, 0), (1018, zop184, 0, 241), (1021, zop54, 5, 0), (1023, zop44, 0, 0), (1024, zop42, 0, 0), (1025, zop21, 4, 0), (1027, zop4, 0, 0)], [(1028, zop96, 0, 0), (1029, zop46, 0, 0), (1030, zop182, 0, 243), (1033, zop54, 6, 0), (1035, zop167, 3, 187), (1038, zop43, 0, 0), (1039, zop42, 0, 0), (1040, zop21, 4, 0), (1042, zop4, 0, 0), (1043, zop96, 0, 0)], [(1044, zop46, 0, 0), (1045, zop45, 0, 0), (1046, zop184, 0, 244), (1049, zop54, 5, 0), (1051, zop44, 0, 0), (1052, zop42, 0, 0), (1053, zop21, 4, 0), (1055, zop4, 0, 0), (1056, zop96, 0, 0), (1057, zop46, 0, 0)], [(1058, zop182, 0, 246), (1061, zop54, 6, 0), (1063, zop167, 3, 159), (1066, zop43, 0, 0), (1067, zop42, 0, 0), (1068, zop21, 4, 0), (1070, zop4, 0, 0), (1071, zop96, 0, 0), (1072, zop46, 0, 0), (1073, zop42, 0, 0)], [(1074, zop21, 4, 0), (1076, zop5, 0, 0), (1077, zop96, 0, 0), (1078, zop46, 0, 0), (1079, zop45, 0, 0), (1080, zop184, 0, 247), (1083, zop54, 5, 0), (1085, zop44, 0, 0), (1086, zop42, 0, 0), (1087, zop21, 4, 0)], [(1089, zop4, 0, 0), (1090, zop96, 0, 0), (1091, zop46, 0, 0), (1092, zop42, 0, 0), (1093, zop21, 4, 0), (1095, zop5, 0, 0), (1096, zop96, 0, 0), (1097, zop46, 0, 0), (1098, zop182, 0, 249), (1101, zop54, 6, 0)]] := dQ_of _ _ (by decide +kernel)
theorem dL_law_1014 : decode cL_law 1014 = .ok (.iconst 1, 1) := dTL_9.1.1
theorem dL_law_1015 : decode cL_law 1015 = .ok (.iadd, 1) := dTL_9.1.2.1
theorem dL_law_1016 : decode cL_law 1016 = .ok (.iaload, 1) := dTL_9.1.2.2.1
theorem dL_law_1017 : decode cL_law 1017 = .ok (.aload_n 3, 1) := dTL_9.1.2.2.2.1
theorem dL_law_1018 : decode cL_law 1018 = .ok (.invokestatic 241, 3) := dTL_9.1.2.2.2.2.1
theorem dL_law_1021 : decode cL_law 1021 = .ok (.istore 5, 2) := dTL_9.1.2.2.2.2.2.1
theorem dL_law_1023 : decode cL_law 1023 = .ok (.aload_n 2, 1) := dTL_9.1.2.2.2.2.2.2.1
theorem dL_law_1024 : decode cL_law 1024 = .ok (.aload_n 0, 1) := dTL_9.1.2.2.2.2.2.2.2.1
theorem dL_law_1025 : decode cL_law 1025 = .ok (.iload 4, 2) := dTL_9.1.2.2.2.2.2.2.2.2.1
theorem dL_law_1027 : decode cL_law 1027 = .ok (.iconst 1, 1) := dTL_9.1.2.2.2.2.2.2.2.2.2.1
theorem dL_law_1028 : decode cL_law 1028 = .ok (.iadd, 1) := dTL_9.2.1.1
theorem dL_law_1029 : decode cL_law 1029 = .ok (.iaload, 1) := dTL_9.2.1.2.1
theorem dL_law_1030 : decode cL_law 1030 = .ok (.invokevirtual 243, 3) := dTL_9.2.1.2.2.1
theorem dL_law_1033 : decode cL_law 1033 = .ok (.istore 6, 2) := dTL_9.2.1.2.2.2.1
theorem dL_law_1035 : decode cL_law 1035 = .ok (.goto 955, 3) := dTL_9.2.1.2.2.2.2.1
theorem dL_law_1038 : decode cL_law 1038 = .ok (.aload_n 1, 1) := dTL_9.2.1.2.2.2.2.2.1
theorem dL_law_1039 : decode cL_law 1039 = .ok (.aload_n 0, 1) := dTL_9.2.1.2.2.2.2.2.2.1
theorem dL_law_1040 : decode cL_law 1040 = .ok (.iload 4, 2) := dTL_9.2.1.2.2.2.2.2.2.2.1
theorem dL_law_1042 : decode cL_law 1042 = .ok (.iconst 1, 1) := dTL_9.2.1.2.2.2.2.2.2.2.2.1
theorem dL_law_1043 : decode cL_law 1043 = .ok (.iadd, 1) := dTL_9.2.1.2.2.2.2.2.2.2.2.2.1
theorem dL_law_1044 : decode cL_law 1044 = .ok (.iaload, 1) := dTL_9.2.2.1.1
theorem dL_law_1045 : decode cL_law 1045 = .ok (.aload_n 3, 1) := dTL_9.2.2.1.2.1
theorem dL_law_1046 : decode cL_law 1046 = .ok (.invokestatic 244, 3) := dTL_9.2.2.1.2.2.1
theorem dL_law_1049 : decode cL_law 1049 = .ok (.istore 5, 2) := dTL_9.2.2.1.2.2.2.1
theorem dL_law_1051 : decode cL_law 1051 = .ok (.aload_n 2, 1) := dTL_9.2.2.1.2.2.2.2.1
theorem dL_law_1052 : decode cL_law 1052 = .ok (.aload_n 0, 1) := dTL_9.2.2.1.2.2.2.2.2.1
theorem dL_law_1053 : decode cL_law 1053 = .ok (.iload 4, 2) := dTL_9.2.2.1.2.2.2.2.2.2.1
theorem dL_law_1055 : decode cL_law 1055 = .ok (.iconst 1, 1) := dTL_9.2.2.1.2.2.2.2.2.2.2.1
theorem dL_law_1056 : decode cL_law 1056 = .ok (.iadd, 1) := dTL_9.2.2.1.2.2.2.2.2.2.2.2.1
theorem dL_law_1057 : decode cL_law 1057 = .ok (.iaload, 1) := dTL_9.2.2.1.2.2.2.2.2.2.2.2.2.1
theorem dL_law_1058 : decode cL_law 1058 = .ok (.invokevirtual 246, 3) := dTL_9.2.2.2.1.1
theorem dL_law_1061 : decode cL_law 1061 = .ok (.istore 6, 2) := dTL_9.2.2.2.1.2.1
theorem dL_law_1063 : decode cL_law 1063 = .ok (.goto 927, 3) := dTL_9.2.2.2.1.2.2.1
theorem dL_law_1066 : decode cL_law 1066 = .ok (.aload_n 1, 1) := dTL_9.2.2.2.1.2.2.2.1
theorem dL_law_1067 : decode cL_law 1067 = .ok (.aload_n 0, 1) := dTL_9.2.2.2.1.2.2.2.2.1
theorem dL_law_1068 : decode cL_law 1068 = .ok (.iload 4, 2) := dTL_9.2.2.2.1.2.2.2.2.2.1
theorem dL_law_1070 : decode cL_law 1070 = .ok (.iconst 1, 1) := dTL_9.2.2.2.1.2.2.2.2.2.2.1
theorem dL_law_1071 : decode cL_law 1071 = .ok (.iadd, 1) := dTL_9.2.2.2.1.2.2.2.2.2.2.2.1
theorem dL_law_1072 : decode cL_law 1072 = .ok (.iaload, 1) := dTL_9.2.2.2.1.2.2.2.2.2.2.2.2.1
theorem dL_law_1073 : decode cL_law 1073 = .ok (.aload_n 0, 1) := dTL_9.2.2.2.1.2.2.2.2.2.2.2.2.2.1
theorem dL_law_1074 : decode cL_law 1074 = .ok (.iload 4, 2) := dTL_9.2.2.2.2.1.1
theorem dL_law_1076 : decode cL_law 1076 = .ok (.iconst 2, 1) := dTL_9.2.2.2.2.1.2.1
theorem dL_law_1077 : decode cL_law 1077 = .ok (.iadd, 1) := dTL_9.2.2.2.2.1.2.2.1
theorem dL_law_1078 : decode cL_law 1078 = .ok (.iaload, 1) := dTL_9.2.2.2.2.1.2.2.2.1
theorem dL_law_1079 : decode cL_law 1079 = .ok (.aload_n 3, 1) := dTL_9.2.2.2.2.1.2.2.2.2.1
theorem dL_law_1080 : decode cL_law 1080 = .ok (.invokestatic 247, 3) := dTL_9.2.2.2.2.1.2.2.2.2.2.1
theorem dL_law_1083 : decode cL_law 1083 = .ok (.istore 5, 2) := dTL_9.2.2.2.2.1.2.2.2.2.2.2.1
theorem dL_law_1085 : decode cL_law 1085 = .ok (.aload_n 2, 1) := dTL_9.2.2.2.2.1.2.2.2.2.2.2.2.1
theorem dL_law_1086 : decode cL_law 1086 = .ok (.aload_n 0, 1) := dTL_9.2.2.2.2.1.2.2.2.2.2.2.2.2.1
theorem dL_law_1087 : decode cL_law 1087 = .ok (.iload 4, 2) := dTL_9.2.2.2.2.1.2.2.2.2.2.2.2.2.2.1
theorem dL_law_1089 : decode cL_law 1089 = .ok (.iconst 1, 1) := dTL_9.2.2.2.2.2.1.1
theorem dL_law_1090 : decode cL_law 1090 = .ok (.iadd, 1) := dTL_9.2.2.2.2.2.1.2.1
theorem dL_law_1091 : decode cL_law 1091 = .ok (.iaload, 1) := dTL_9.2.2.2.2.2.1.2.2.1
theorem dL_law_1092 : decode cL_law 1092 = .ok (.aload_n 0, 1) := dTL_9.2.2.2.2.2.1.2.2.2.1
theorem dL_law_1093 : decode cL_law 1093 = .ok (.iload 4, 2) := dTL_9.2.2.2.2.2.1.2.2.2.2.1
theorem dL_law_1095 : decode cL_law 1095 = .ok (.iconst 2, 1) := dTL_9.2.2.2.2.2.1.2.2.2.2.2.1
theorem dL_law_1096 : decode cL_law 1096 = .ok (.iadd, 1) := dTL_9.2.2.2.2.2.1.2.2.2.2.2.2.1
theorem dL_law_1097 : decode cL_law 1097 = .ok (.iaload, 1) := dTL_9.2.2.2.2.2.1.2.2.2.2.2.2.2.1
theorem dL_law_1098 : decode cL_law 1098 = .ok (.invokevirtual 249, 3) := dTL_9.2.2.2.2.2.1.2.2.2.2.2.2.2.2.1
theorem dL_law_1101 : decode cL_law 1101 = .ok (.istore 6, 2) := dTL_9.2.2.2.2.2.1.2.2.2.2.2.2.2.2.2.1
theorem dTL_10 : dQ cL_law [[(1103, zop167, 3, 119), (1106, zop43, 0, 0), (1107, zop42, 0, 0), (1108, zop21, 4, 0), (1110, zop4, 0, 0), (1111, zop96, 0, 0), (1112, zop46, 0, 0), (1113, zop45, 0, 0), (1114, zop184, 0, 250), (1117, zop54, 5, 0)], [(1119, zop44, 0, 0), (1120, zop42, 0, 0), (1121, zop21, 4, 0), (1123, zop4, 0, 0), (1124, zop96, 0, 0), (1125, zop46, 0, 0), (1126, zop182, 0, 252), (1129, zop54, 6, 0), (1131, zop167, 3, 91), (1134, zop43, 0, 0)], [(1135, zop42, 0, 0), (1136, zop21, 4, 0), (1138, zop4, 0, 0), (1139, zop96, 0, 0), (1140, zop46, 0, 0), (1141, zop45, 0, 0), (1142, zop184, 0, 253), (1145, zop54, 5, 0), (1147, zop44, 0, 0), (1148, zop42, 0, 0)], [(1149, zop21, 4, 0), (1151, zop4, 0, 0), (1152, zop96, 0, 0), (1153, zop46, 0, 0), (1154, zop182, 0, 255), (1157, zop54, 6, 0), (1159, zop167, 3, 63), (1162, zop43, 0, 0), (1163, zop42, 0, 0), (1164, zop21, 4, 0)], [(1166, zop4, 0, 0), (1167, zop96, 0, 0), (1168, zop46, 0, 0), (1169, zop45, 0, 0), (1170, zop184, 1, 0), (1173, zop54, 5, 0), (1175, zop44, 0, 0), (1176, zop42, 0, 0), (1177, zop21, 4, 0), (1179, zop4, 0, 0)], [(1180, zop96, 0, 0), (1181, zop46, 0, 0), (1182, zop182, 1, 2), (1185, zop54, 6, 0), (1187, zop167, 3, 35), (1190, zop43, 0, 0), (1191, zop42, 0, 0), (1192, zop21, 4, 0), (1194, zop4, 0, 0), (1195, zop96, 0, 0)]] := dQ_of _ _ (by decide +kernel)
theorem dL_law_1103 : decode cL_law 1103 = .ok (.goto 887, 3) := dTL_10.1.1
theorem dL_law_1106 : decode cL_law 1106 = .ok (.aload_n 1, 1) := dTL_10.1.2.1
theorem dL_law_1107 : decode cL_law 1107 = .ok (.aload_n 0, 1) := dTL_10.1.2.2.1
theorem dL_law_1108 : decode cL_law 1108 = .ok (.iload 4, 2) := dTL_10.1.2.2.2.1
theorem dL_law_1110 : decode cL_law 1110 = .ok (.iconst 1, 1) := dTL_10.1.2.2.2.2.1
theorem dL_law_1111 : decode cL_law 1111 = .ok (.iadd, 1) := dTL_10.1.2.2.2.2.2.1
theorem dL_law_1112 : decode cL_law 1112 = .ok (.iaload, 1) := dTL_10.1.2.2.2.2.2.2.1
theorem dL_law_1113 : decode cL_law 1113 = .ok (.aload_n 3, 1) := dTL_10.1.2.2.2.2.2.2.2.1
theorem dL_law_1114 : decode cL_law 1114 = .ok (.invokestatic 250, 3) := dTL_10.1.2.2.2.2.2.2.2.2.1
theorem dL_law_1117 : decode cL_law 1117 = .ok (.istore 5, 2) := dTL_10.1.2.2.2.2.2.2.2.2.2.1
theorem dL_law_1119 : decode cL_law 1119 = .ok (.aload_n 2, 1) := dTL_10.2.1.1
theorem dL_law_1120 : decode cL_law 1120 = .ok (.aload_n 0, 1) := dTL_10.2.1.2.1
theorem dL_law_1121 : decode cL_law 1121 = .ok (.iload 4, 2) := dTL_10.2.1.2.2.1
theorem dL_law_1123 : decode cL_law 1123 = .ok (.iconst 1, 1) := dTL_10.2.1.2.2.2.1
theorem dL_law_1124 : decode cL_law 1124 = .ok (.iadd, 1) := dTL_10.2.1.2.2.2.2.1
theorem dL_law_1125 : decode cL_law 1125 = .ok (.iaload, 1) := dTL_10.2.1.2.2.2.2.2.1
theorem dL_law_1126 : decode cL_law 1126 = .ok (.invokevirtual 252, 3) := dTL_10.2.1.2.2.2.2.2.2.1
theorem dL_law_1129 : decode cL_law 1129 = .ok (.istore 6, 2) := dTL_10.2.1.2.2.2.2.2.2.2.1
theorem dL_law_1131 : decode cL_law 1131 = .ok (.goto 859, 3) := dTL_10.2.1.2.2.2.2.2.2.2.2.1
theorem dL_law_1134 : decode cL_law 1134 = .ok (.aload_n 1, 1) := dTL_10.2.1.2.2.2.2.2.2.2.2.2.1
theorem dL_law_1135 : decode cL_law 1135 = .ok (.aload_n 0, 1) := dTL_10.2.2.1.1
theorem dL_law_1136 : decode cL_law 1136 = .ok (.iload 4, 2) := dTL_10.2.2.1.2.1
theorem dL_law_1138 : decode cL_law 1138 = .ok (.iconst 1, 1) := dTL_10.2.2.1.2.2.1
theorem dL_law_1139 : decode cL_law 1139 = .ok (.iadd, 1) := dTL_10.2.2.1.2.2.2.1
theorem dL_law_1140 : decode cL_law 1140 = .ok (.iaload, 1) := dTL_10.2.2.1.2.2.2.2.1
theorem dL_law_1141 : decode cL_law 1141 = .ok (.aload_n 3, 1) := dTL_10.2.2.1.2.2.2.2.2.1
theorem dL_law_1142 : decode cL_law 1142 = .ok (.invokestatic 253, 3) := dTL_10.2.2.1.2.2.2.2.2.2.1
theorem dL_law_1145 : decode cL_law 1145 = .ok (.istore 5, 2) := dTL_10.2.2.1.2.2.2.2.2.2.2.1
theorem dL_law_1147 : decode cL_law 1147 = .ok (.aload_n 2, 1) := dTL_10.2.2.1.2.2.2.2.2.2.2.2.1
theorem dL_law_1148 : decode cL_law 1148 = .ok (.aload_n 0, 1) := dTL_10.2.2.1.2.2.2.2.2.2.2.2.2.1
theorem dL_law_1149 : decode cL_law 1149 = .ok (.iload 4, 2) := dTL_10.2.2.2.1.1
theorem dL_law_1151 : decode cL_law 1151 = .ok (.iconst 1, 1) := dTL_10.2.2.2.1.2.1
theorem dL_law_1152 : decode cL_law 1152 = .ok (.iadd, 1) := dTL_10.2.2.2.1.2.2.1
theorem dL_law_1153 : decode cL_law 1153 = .ok (.iaload, 1) := dTL_10.2.2.2.1.2.2.2.1
theorem dL_law_1154 : decode cL_law 1154 = .ok (.invokevirtual 255, 3) := dTL_10.2.2.2.1.2.2.2.2.1
theorem dL_law_1157 : decode cL_law 1157 = .ok (.istore 6, 2) := dTL_10.2.2.2.1.2.2.2.2.2.1
theorem dL_law_1159 : decode cL_law 1159 = .ok (.goto 831, 3) := dTL_10.2.2.2.1.2.2.2.2.2.2.1
theorem dL_law_1162 : decode cL_law 1162 = .ok (.aload_n 1, 1) := dTL_10.2.2.2.1.2.2.2.2.2.2.2.1
theorem dL_law_1163 : decode cL_law 1163 = .ok (.aload_n 0, 1) := dTL_10.2.2.2.1.2.2.2.2.2.2.2.2.1
theorem dL_law_1164 : decode cL_law 1164 = .ok (.iload 4, 2) := dTL_10.2.2.2.1.2.2.2.2.2.2.2.2.2.1
theorem dL_law_1166 : decode cL_law 1166 = .ok (.iconst 1, 1) := dTL_10.2.2.2.2.1.1
theorem dL_law_1167 : decode cL_law 1167 = .ok (.iadd, 1) := dTL_10.2.2.2.2.1.2.1
theorem dL_law_1168 : decode cL_law 1168 = .ok (.iaload, 1) := dTL_10.2.2.2.2.1.2.2.1
theorem dL_law_1169 : decode cL_law 1169 = .ok (.aload_n 3, 1) := dTL_10.2.2.2.2.1.2.2.2.1
theorem dL_law_1170 : decode cL_law 1170 = .ok (.invokestatic 256, 3) := dTL_10.2.2.2.2.1.2.2.2.2.1
theorem dL_law_1173 : decode cL_law 1173 = .ok (.istore 5, 2) := dTL_10.2.2.2.2.1.2.2.2.2.2.1
theorem dL_law_1175 : decode cL_law 1175 = .ok (.aload_n 2, 1) := dTL_10.2.2.2.2.1.2.2.2.2.2.2.1
theorem dL_law_1176 : decode cL_law 1176 = .ok (.aload_n 0, 1) := dTL_10.2.2.2.2.1.2.2.2.2.2.2.2.1
theorem dL_law_1177 : decode cL_law 1177 = .ok (.iload 4, 2) := dTL_10.2.2.2.2.1.2.2.2.2.2.2.2.2.1
theorem dL_law_1179 : decode cL_law 1179 = .ok (.iconst 1, 1) := dTL_10.2.2.2.2.1.2.2.2.2.2.2.2.2.2.1
theorem dL_law_1180 : decode cL_law 1180 = .ok (.iadd, 1) := dTL_10.2.2.2.2.2.1.1
theorem dL_law_1181 : decode cL_law 1181 = .ok (.iaload, 1) := dTL_10.2.2.2.2.2.1.2.1
theorem dL_law_1182 : decode cL_law 1182 = .ok (.invokevirtual 258, 3) := dTL_10.2.2.2.2.2.1.2.2.1
theorem dL_law_1185 : decode cL_law 1185 = .ok (.istore 6, 2) := dTL_10.2.2.2.2.2.1.2.2.2.1
theorem dL_law_1187 : decode cL_law 1187 = .ok (.goto 803, 3) := dTL_10.2.2.2.2.2.1.2.2.2.2.1
theorem dL_law_1190 : decode cL_law 1190 = .ok (.aload_n 1, 1) := dTL_10.2.2.2.2.2.1.2.2.2.2.2.1
theorem dL_law_1191 : decode cL_law 1191 = .ok (.aload_n 0, 1) := dTL_10.2.2.2.2.2.1.2.2.2.2.2.2.1
theorem dL_law_1192 : decode cL_law 1192 = .ok (.iload 4, 2) := dTL_10.2.2.2.2.2.1.2.2.2.2.2.2.2.1
theorem dL_law_1194 : decode cL_law 1194 = .ok (.iconst 1, 1) := dTL_10.2.2.2.2.2.1.2.2.2.2.2.2.2.2.1
theorem dL_law_1195 : decode cL_law 1195 = .ok (.iadd, 1) := dTL_10.2.2.2.2.2.1.2.2.2.2.2.2.2.2.2.1
theorem dTL_11 : dQ cL_law [[(1196, zop46, 0, 0), (1197, zop45, 0, 0), (1198, zop184, 1, 3), (1201, zop54, 5, 0), (1203, zop44, 0, 0), (1204, zop42, 0, 0), (1205, zop21, 4, 0), (1207, zop4, 0, 0), (1208, zop96, 0, 0), (1209, zop46, 0, 0)], [(1210, zop182, 1, 5), (1213, zop54, 6, 0), (1215, zop167, 3, 7), (1218, zop43, 0, 0), (1219, zop42, 0, 0), (1220, zop21, 4, 0), (1222, zop4, 0, 0), (1223, zop96, 0, 0), (1224, zop46, 0, 0), (1225, zop45, 0, 0)], [(1226, zop184, 1, 6), (1229, zop54, 5, 0), (1231, zop44, 0, 0), (1232, zop42, 0, 0), (1233, zop21, 4, 0), (1235, zop4, 0, 0), (1236, zop96, 0, 0), (1237, zop46, 0, 0), (1238, zop182, 1, 8), (1241, zop58, 6, 0)], [(1243, zop167, 2, 235), (1246, zop43, 0, 0), (1247, zop42, 0, 0), (1248, zop21, 4, 0), (1250, zop4, 0, 0), (1251, zop96, 0, 0), (1252, zop46, 0, 0), (1253, zop42, 0, 0), (1254, zop21, 4, 0), (1256, zop5, 0, 0)], [(1257, zop96, 0, 0), (1258, zop46, 0, 0), (1259, zop45, 0, 0), (1260, zop184, 1, 9), (1263, zop54, 5, 0), (1265, zop44, 0, 0), (1266, zop42, 0, 0), (1267, zop21, 4, 0), (1269, zop4, 0, 0), (1270, zop96, 0, 0)], [(1271, zop46, 0, 0), (1272, zop42, 0, 0), (1273, zop21, 4, 0), (1275, zop5, 0, 0), (1276, zop96, 0, 0), (1277, zop46, 0, 0), (1278, zop182, 1, 11), (1281, zop54, 6, 0), (1283, zop167, 2, 195), (1286, zop43, 0, 0)]] := dQ_of _ _ (by decide +kernel)
theorem dL_law_1196 : decode cL_law 1196 = .ok (.iaload, 1) := dTL_11.1.1
theorem dL_law_1197 : decode cL_law 1197 = .ok (.aload_n 3, 1) := dTL_11.1.2.1
theorem dL_law_1198 : decode cL_law 1198 = .ok (.invokestatic 259, 3) := dTL_11.1.2.2.1
theorem dL_law_1201 : decode cL_law 1201 = .ok (.istore 5, 2) := dTL_11.1.2.2.2.1
theorem dL_law_1203 : decode cL_law 1203 = .ok (.aload_n 2, 1) := dTL_11.1.2.2.2.2.1
theorem dL_law_1204 : decode cL_law 1204 = .ok (.aload_n 0, 1) := dTL_11.1.2.2.2.2.2.1
theorem dL_law_1205 : decode cL_law 1205 = .ok (.iload 4, 2) := dTL_11.1.2.2.2.2.2.2.1
theorem dL_law_1207 : decode cL_law 1207 = .ok (.iconst 1, 1) := dTL_11.1.2.2.2.2.2.2.2.1
theorem dL_law_1208 : decode cL_law 1208 = .ok (.iadd, 1) := dTL_11.1.2.2.2.2.2.2.2.2.1
theorem dL_law_1209 : decode cL_law 1209 = .ok (.iaload, 1) := dTL_11.1.2.2.2.2.2.2.2.2.2.1
theorem dL_law_1210 : decode cL_law 1210 = .ok (.invokevirtual 261, 3) := dTL_11.2.1.1
theorem dL_law_1213 : decode cL_law 1213 = .ok (.istore 6, 2) := dTL_11.2.1.2.1
theorem dL_law_1215 : decode cL_law 1215 = .ok (.goto 775, 3) := dTL_11.2.1.2.2.1
theorem dL_law_1218 : decode cL_law 1218 = .ok (.aload_n 1, 1) := dTL_11.2.1.2.2.2.1
theorem dL_law_1219 : decode cL_law 1219 = .ok (.aload_n 0, 1) := dTL_11.2.1.2.2.2.2.1
theorem dL_law_1220 : decode cL_law 1220 = .ok (.iload 4, 2) := dTL_11.2.1.2.2.2.2.2.1
theorem dL_law_1222 : decode cL_law 1222 = .ok (.iconst 1, 1) := dTL_11.2.1.2.2.2.2.2.2.1
theorem dL_law_1223 : decode cL_law 1223 = .ok (.iadd, 1) := dTL_11.2.1.2.2.2.2.2.2.2.1
theorem dL_law_1224 : decode cL_law 1224 = .ok (.iaload, 1) := dTL_11.2.1.2.2.2.2.2.2.2.2.1
theorem dL_law_1225 : decode cL_law 1225 = .ok (.aload_n 3, 1) := dTL_11.2.1.2.2.2.2.2.2.2.2.2.1
theorem dL_law_1226 : decode cL_law 1226 = .ok (.invokestatic 262, 3) := dTL_11.2.2.1.1
theorem dL_law_1229 : decode cL_law 1229 = .ok (.istore 5, 2) := dTL_11.2.2.1.2.1
theorem dL_law_1231 : decode cL_law 1231 = .ok (.aload_n 2, 1) := dTL_11.2.2.1.2.2.1
theorem dL_law_1232 : decode cL_law 1232 = .ok (.aload_n 0, 1) := dTL_11.2.2.1.2.2.2.1
theorem dL_law_1233 : decode cL_law 1233 = .ok (.iload 4, 2) := dTL_11.2.2.1.2.2.2.2.1
theorem dL_law_1235 : decode cL_law 1235 = .ok (.iconst 1, 1) := dTL_11.2.2.1.2.2.2.2.2.1
theorem dL_law_1236 : decode cL_law 1236 = .ok (.iadd, 1) := dTL_11.2.2.1.2.2.2.2.2.2.1
theorem dL_law_1237 : decode cL_law 1237 = .ok (.iaload, 1) := dTL_11.2.2.1.2.2.2.2.2.2.2.1
theorem dL_law_1238 : decode cL_law 1238 = .ok (.invokevirtual 264, 3) := dTL_11.2.2.1.2.2.2.2.2.2.2.2.1
theorem dL_law_1241 : decode cL_law 1241 = .ok (.astore 6, 2) := dTL_11.2.2.1.2.2.2.2.2.2.2.2.2.1
theorem dL_law_1243 : decode cL_law 1243 = .ok (.goto 747, 3) := dTL_11.2.2.2.1.1
theorem dL_law_1246 : decode cL_law 1246 = .ok (.aload_n 1, 1) := dTL_11.2.2.2.1.2.1
theorem dL_law_1247 : decode cL_law 1247 = .ok (.aload_n 0, 1) := dTL_11.2.2.2.1.2.2.1
theorem dL_law_1248 : decode cL_law 1248 = .ok (.iload 4, 2) := dTL_11.2.2.2.1.2.2.2.1
theorem dL_law_1250 : decode cL_law 1250 = .ok (.iconst 1, 1) := dTL_11.2.2.2.1.2.2.2.2.1
theorem dL_law_1251 : decode cL_law 1251 = .ok (.iadd, 1) := dTL_11.2.2.2.1.2.2.2.2.2.1
theorem dL_law_1252 : decode cL_law 1252 = .ok (.iaload, 1) := dTL_11.2.2.2.1.2.2.2.2.2.2.1
theorem dL_law_1253 : decode cL_law 1253 = .ok (.aload_n 0, 1) := dTL_11.2.2.2.1.2.2.2.2.2.2.2.1
theorem dL_law_1254 : decode cL_law 1254 = .ok (.iload 4, 2) := dTL_11.2.2.2.1.2.2.2.2.2.2.2.2.1
theorem dL_law_1256 : decode cL_law 1256 = .ok (.iconst 2, 1) := dTL_11.2.2.2.1.2.2.2.2.2.2.2.2.2.1
theorem dL_law_1257 : decode cL_law 1257 = .ok (.iadd, 1) := dTL_11.2.2.2.2.1.1
theorem dL_law_1258 : decode cL_law 1258 = .ok (.iaload, 1) := dTL_11.2.2.2.2.1.2.1
theorem dL_law_1259 : decode cL_law 1259 = .ok (.aload_n 3, 1) := dTL_11.2.2.2.2.1.2.2.1
theorem dL_law_1260 : decode cL_law 1260 = .ok (.invokestatic 265, 3) := dTL_11.2.2.2.2.1.2.2.2.1
theorem dL_law_1263 : decode cL_law 1263 = .ok (.istore 5, 2) := dTL_11.2.2.2.2.1.2.2.2.2.1
theorem dL_law_1265 : decode cL_law 1265 = .ok (.aload_n 2, 1) := dTL_11.2.2.2.2.1.2.2.2.2.2.1
theorem dL_law_1266 : decode cL_law 1266 = .ok (.aload_n 0, 1) := dTL_11.2.2.2.2.1.2.2.2.2.2.2.1
theorem dL_law_1267 : decode cL_law 1267 = .ok (.iload 4, 2) := dTL_11.2.2.2.2.1.2.2.2.2.2.2.2.1
theorem dL_law_1269 : decode cL_law 1269 = .ok (.iconst 1, 1) := dTL_11.2.2.2.2.1.2.2.2.2.2.2.2.2.1
theorem dL_law_1270 : decode cL_law 1270 = .ok (.iadd, 1) := dTL_11.2.2.2.2.1.2.2.2.2.2.2.2.2.2.1
theorem dL_law_1271 : decode cL_law 1271 = .ok (.iaload, 1) := dTL_11.2.2.2.2.2.1.1
theorem dL_law_1272 : decode cL_law 1272 = .ok (.aload_n 0, 1) := dTL_11.2.2.2.2.2.1.2.1
theorem dL_law_1273 : decode cL_law 1273 = .ok (.iload 4, 2) := dTL_11.2.2.2.2.2.1.2.2.1
theorem dL_law_1275 : decode cL_law 1275 = .ok (.iconst 2, 1) := dTL_11.2.2.2.2.2.1.2.2.2.1
theorem dL_law_1276 : decode cL_law 1276 = .ok (.iadd, 1) := dTL_11.2.2.2.2.2.1.2.2.2.2.1
theorem dL_law_1277 : decode cL_law 1277 = .ok (.iaload, 1) := dTL_11.2.2.2.2.2.1.2.2.2.2.2.1
theorem dL_law_1278 : decode cL_law 1278 = .ok (.invokevirtual 267, 3) := dTL_11.2.2.2.2.2.1.2.2.2.2.2.2.1
theorem dL_law_1281 : decode cL_law 1281 = .ok (.istore 6, 2) := dTL_11.2.2.2.2.2.1.2.2.2.2.2.2.2.1
theorem dL_law_1283 : decode cL_law 1283 = .ok (.goto 707, 3) := dTL_11.2.2.2.2.2.1.2.2.2.2.2.2.2.2.1
theorem dL_law_1286 : decode cL_law 1286 = .ok (.aload_n 1, 1) := dTL_11.2.2.2.2.2.1.2.2.2.2.2.2.2.2.2.1
theorem dTL_12 : dQ cL_law [[(1287, zop42, 0, 0), (1288, zop21, 4, 0), (1290, zop4, 0, 0), (1291, zop96, 0, 0), (1292, zop46, 0, 0), (1293, zop42, 0, 0), (1294, zop21, 4, 0), (1296, zop5, 0, 0), (1297, zop96, 0, 0), (1298, zop46, 0, 0)], [(1299, zop45, 0, 0), (1300, zop184, 1, 12), (1303, zop54, 5, 0), (1305, zop44, 0, 0), (1306, zop42, 0, 0), (1307, zop21, 4, 0), (1309, zop4, 0, 0), (1310, zop96, 0, 0), (1311, zop46, 0, 0), (1312, zop42, 0, 0)], [(1313, zop21, 4, 0), (1315, zop5, 0, 0), (1316, zop96, 0, 0), (1317, zop46, 0, 0), (1318, zop182, 1, 14), (1321, zop54, 6, 0), (1323, zop167, 2, 155), (1326, zop43, 0, 0), (1327, zop42, 0, 0), (1328, zop21, 4, 0)], [(1330, zop4, 0, 0), (1331, zop96, 0, 0), (1332, zop46, 0, 0), (1333, zop42, 0, 0), (1334, zop21, 4, 0), (1336, zop5, 0, 0), (1337, zop96, 0, 0), (1338, zop46, 0, 0), (1339, zop45, 0, 0), (1340, zop184, 1, 15)], [(1343, zop54, 5, 0), (1345, zop44, 0, 0), (1346, zop42, 0, 0), (1347, zop21, 4, 0), (1349, zop4, 0, 0), (1350, zop96, 0, 0), (1351, zop46, 0, 0), (1352, zop42, 0, 0), (1353, zop21, 4, 0), (1355, zop5, 0, 0)], [(1356, zop96, 0, 0), (1357, zop46, 0, 0), (1358, zop182, 1, 17), (1361, zop54, 6, 0), (1363, zop167, 2, 115), (1366, zop43, 0, 0), (1367, zop42, 0, 0), (1368, zop21, 4, 0), (1370, zop4, 0, 0), (1371, zop96, 0, 0)]] := dQ_of _ _ (by decide +kernel)
theorem dL_law_1287 : decode cL_law 1287 = .ok (.aload_n 0, 1) := dTL_12.1.1
theorem dL_law_1288 : decode cL_law 1288 = .ok (.iload 4, 2) := dTL_12.1.2.1
theorem dL_law_1290 : decode cL_law 1290 = .ok (.iconst 1, 1) := dTL_12.1.2.2.1
theorem dL_law_1291 : decode cL_law 1291 = .ok (.iadd, 1) := dTL_12.1.2.2.2.1
theorem dL_law_1292 : decode cL_law 1292 = .ok (.iaload, 1) := dTL_12.1.2.2.2.2.1
theorem dL_law_1293 : decode cL_law 1293 = .ok (.aload_n 0, 1) := dTL_12.1.2.2.2.2.2.1
theorem dL_law_1294 : decode cL_law 1294 = .ok (.iload 4, 2) := dTL_12.1.2.2.2.2.2.2.1
theorem dL_law_1296 : decode cL_law 1296 = .ok (.iconst 2, 1) := dTL_12.1.2.2.2.2.2.2.2.1
theorem dL_law_1297 : decode cL_law 1297 = .ok (.iadd, 1) := dTL_12.1.2.2.2.2.2.2.2.2.1
theorem dL_law_1298 : decode cL_law 1298 = .ok (.iaload, 1) := dTL_12.1.2.2.2.2.2.2.2.2.2.1
theorem dL_law_1299 : decode cL_law 1299 = .ok (.aload_n 3, 1) := dTL_12.2.1.1
theorem dL_law_1300 : decode cL_law 1300 = .ok (.invokestatic 268, 3) := dTL_12.2.1.2.1
theorem dL_law_1303 : decode cL_law 1303 = .ok (.istore 5, 2) := dTL_12.2.1.2.2.1
theorem dL_law_1305 : decode cL_law 1305 = .ok (.aload_n 2, 1) := dTL_12.2.1.2.2.2.1
theorem dL_law_1306 : decode cL_law 1306 = .ok (.aload_n 0, 1) := dTL_12.2.1.2.2.2.2.1
theorem dL_law_1307 : decode cL_law 1307 = .ok (.iload 4, 2) := dTL_12.2.1.2.2.2.2.2.1
theorem dL_law_1309 : decode cL_law 1309 = .ok (.iconst 1, 1) := dTL_12.2.1.2.2.2.2.2.2.1
theorem dL_law_1310 : decode cL_law 1310 = .ok (.iadd, 1) := dTL_12.2.1.2.2.2.2.2.2.2.1
theorem dL_law_1311 : decode cL_law 1311 = .ok (.iaload, 1) := dTL_12.2.1.2.2.2.2.2.2.2.2.1
theorem dL_law_1312 : decode cL_law 1312 = .ok (.aload_n 0, 1) := dTL_12.2.1.2.2.2.2.2.2.2.2.2.1
theorem dL_law_1313 : decode cL_law 1313 = .ok (.iload 4, 2) := dTL_12.2.2.1.1
theorem dL_law_1315 : decode cL_law 1315 = .ok (.iconst 2, 1) := dTL_12.2.2.1.2.1
theorem dL_law_1316 : decode cL_law 1316 = .ok (.iadd, 1) := dTL_12.2.2.1.2.2.1
theorem dL_law_1317 : decode cL_law 1317 = .ok (.iaload, 1) := dTL_12.2.2.1.2.2.2.1
theorem dL_law_1318 : decode cL_law 1318 = .ok (.invokevirtual 270, 3) := dTL_12.2.2.1.2.2.2.2.1
theorem dL_law_1321 : decode cL_law 1321 = .ok (.istore 6, 2) := dTL_12.2.2.1.2.2.2.2.2.1
theorem dL_law_1323 : decode cL_law 1323 = .ok (.goto 667, 3) := dTL_12.2.2.1.2.2.2.2.2.2.1
theorem dL_law_1326 : decode cL_law 1326 = .ok (.aload_n 1, 1) := dTL_12.2.2.1.2.2.2.2.2.2.2.1
theorem dL_law_1327 : decode cL_law 1327 = .ok (.aload_n 0, 1) := dTL_12.2.2.1.2.2.2.2.2.2.2.2.1
theorem dL_law_1328 : decode cL_law 1328 = .ok (.iload 4, 2) := dTL_12.2.2.1.2.2.2.2.2.2.2.2.2.1
theorem dL_law_1330 : decode cL_law 1330 = .ok (.iconst 1, 1) := dTL_12.2.2.2.1.1
theorem dL_law_1331 : decode cL_law 1331 = .ok (.iadd, 1) := dTL_12.2.2.2.1.2.1
theorem dL_law_1332 : decode cL_law 1332 = .ok (.iaload, 1) := dTL_12.2.2.2.1.2.2.1
theorem dL_law_1333 : decode cL_law 1333 = .ok (.aload_n 0, 1) := dTL_12.2.2.2.1.2.2.2.1
theorem dL_law_1334 : decode cL_law 1334 = .ok (.iload 4, 2) := dTL_12.2.2.2.1.2.2.2.2.1
theorem dL_law_1336 : decode cL_law 1336 = .ok (.iconst 2, 1) := dTL_12.2.2.2.1.2.2.2.2.2.1
theorem dL_law_1337 : decode cL_law 1337 = .ok (.iadd, 1) := dTL_12.2.2.2.1.2.2.2.2.2.2.1
theorem dL_law_1338 : decode cL_law 1338 = .ok (.iaload, 1) := dTL_12.2.2.2.1.2.2.2.2.2.2.2.1
theorem dL_law_1339 : decode cL_law 1339 = .ok (.aload_n 3, 1) := dTL_12.2.2.2.1.2.2.2.2.2.2.2.2.1
theorem dL_law_1340 : decode cL_law 1340 = .ok (.invokestatic 271, 3) := dTL_12.2.2.2.1.2.2.2.2.2.2.2.2.2.1
theorem dL_law_1343 : decode cL_law 1343 = .ok (.istore 5, 2) := dTL_12.2.2.2.2.1.1
theorem dL_law_1345 : decode cL_law 1345 = .ok (.aload_n 2, 1) := dTL_12.2.2.2.2.1.2.1
theorem dL_law_1346 : decode cL_law 1346 = .ok (.aload_n 0, 1) := dTL_12.2.2.2.2.1.2.2.1
theorem dL_law_1347 : decode cL_law 1347 = .ok (.iload 4, 2) := dTL_12.2.2.2.2.1.2.2.2.1
theorem dL_law_1349 : decode cL_law 1349 = .ok (.iconst 1, 1) := dTL_12.2.2.2.2.1.2.2.2.2.1
theorem dL_law_1350 : decode cL_law 1350 = .ok (.iadd, 1) := dTL_12.2.2.2.2.1.2.2.2.2.2.1
theorem dL_law_1351 : decode cL_law 1351 = .ok (.iaload, 1) := dTL_12.2.2.2.2.1.2.2.2.2.2.2.1
theorem dL_law_1352 : decode cL_law 1352 = .ok (.aload_n 0, 1) := dTL_12.2.2.2.2.1.2.2.2.2.2.2.2.1
theorem dL_law_1353 : decode cL_law 1353 = .ok (.iload 4, 2) := dTL_12.2.2.2.2.1.2.2.2.2.2.2.2.2.1
theorem dL_law_1355 : decode cL_law 1355 = .ok (.iconst 2, 1) := dTL_12.2.2.2.2.1.2.2.2.2.2.2.2.2.2.1
theorem dL_law_1356 : decode cL_law 1356 = .ok (.iadd, 1) := dTL_12.2.2.2.2.2.1.1
theorem dL_law_1357 : decode cL_law 1357 = .ok (.iaload, 1) := dTL_12.2.2.2.2.2.1.2.1
theorem dL_law_1358 : decode cL_law 1358 = .ok (.invokevirtual 273, 3) := dTL_12.2.2.2.2.2.1.2.2.1
theorem dL_law_1361 : decode cL_law 1361 = .ok (.istore 6, 2) := dTL_12.2.2.2.2.2.1.2.2.2.1
theorem dL_law_1363 : decode cL_law 1363 = .ok (.goto 627, 3) := dTL_12.2.2.2.2.2.1.2.2.2.2.1
theorem dL_law_1366 : decode cL_law 1366 = .ok (.aload_n 1, 1) := dTL_12.2.2.2.2.2.1.2.2.2.2.2.1
theorem dL_law_1367 : decode cL_law 1367 = .ok (.aload_n 0, 1) := dTL_12.2.2.2.2.2.1.2.2.2.2.2.2.1
theorem dL_law_1368 : decode cL_law 1368 = .ok (.iload 4, 2) := dTL_12.2.2.2.2.2.1.2.2.2.2.2.2.2.1
theorem dL_law_1370 : decode cL_law 1370 = .ok (.iconst 1, 1) := dTL_12.2.2.2.2.2.1.2.2.2.2.2.2.2.2.1
theorem dL_law_1371 : decode cL_law 1371 = .ok (.iadd, 1) := dTL_12.2.2.2.2.2.1.2.2.2.2.2.2.2.2.2.1
theorem dTL_13 : dQ cL_law [[(1372, zop46, 0, 0), (1373, zop42, 0, 0), (1374, zop21, 4, 0), (1376, zop5, 0, 0), (1377, zop96, 0, 0), (1378, zop46, 0, 0), (1379, zop45, 0, 0), (1380, zop184, 1, 18), (1383, zop54, 5, 0), (1385, zop44, 0, 0)], [(1386, zop42, 0, 0), (1387, zop21, 4, 0), (1389, zop4, 0, 0), (1390, zop96, 0, 0), (1391, zop46, 0, 0), (1392, zop42, 0, 0), (1393, zop21, 4, 0), (1395, zop5, 0, 0), (1396, zop96, 0, 0), (1397, zop46, 0, 0)], [(1398, zop182, 1, 20), (1401, zop54, 6, 0), (1403, zop44, 0, 0), (1404, zop182, 1, 21), (1407, zop21, 5, 0), (1409, zop159, 0, 5), (1412, zop3, 0, 0), (1413, zop172, 0, 0), (1414, zop21, 5, 0), (1416, zop154, 0, 16)], [(1419, zop45, 0, 0), (1420, zop180, 0, 13), (1423, zop21, 6, 0), (1425, zop133, 0, 0), (1426, zop148, 0, 0), (1427, zop153, 0, 5), (1430, zop3, 0, 0), (1431, zop172, 0, 0), (1432, zop167, 2, 46), (1435, zop43, 0, 0)], [(1436, zop42, 0, 0), (1437, zop21, 4, 0), (1439, zop4, 0, 0), (1440, zop96, 0, 0), (1441, zop46, 0, 0), (1442, zop42, 0, 0), (1443, zop21, 4, 0), (1445, zop5, 0, 0), (1446, zop96, 0, 0), (1447, zop46, 0, 0)], [(1448, zop45, 0, 0), (1449, zop184, 1, 24), (1452, zop54, 5, 0), (1454, zop44, 0, 0), (1455, zop42, 0, 0), (1456, zop21, 4, 0), (1458, zop4, 0, 0), (1459, zop96, 0, 0), (1460, zop46, 0, 0), (1461, zop42, 0, 0)]] := dQ_of _ _ (by decide +kernel)
theorem dL_law_1372 : decode cL_law 1372 = .ok (.iaload, 1) := dTL_13.1.1
theorem dL_law_1373 : decode cL_law 1373 = .ok (.aload_n 0, 1) := dTL_13.1.2.1
theorem dL_law_1374 : decode cL_law 1374 = .ok (.iload 4, 2) := dTL_13.1.2.2.1
theorem dL_law_1376 : decode cL_law 1376 = .ok (.iconst 2, 1) := dTL_13.1.2.2.2.1
theorem dL_law_1377 : decode cL_law 1377 = .ok (.iadd, 1) := dTL_13.1.2.2.2.2.1
theorem dL_law_1378 : decode cL_law 1378 = .ok (.iaload, 1) := dTL_13.1.2.2.2.2.2.1
theorem dL_law_1379 : decode cL_law 1379 = .ok (.aload_n 3, 1) := dTL_13.1.2.2.2.2.2.2.1
theorem dL_law_1380 : decode cL_law 1380 = .ok (.invokestatic 274, 3) := dTL_13.1.2.2.2.2.2.2.2.1
theorem dL_law_1383 : decode cL_law 1383 = .ok (.istore 5, 2) := dTL_13.1.2.2.2.2.2.2.2.2.1
theorem dL_law_1385 : decode cL_law 1385 = .ok (.aload_n 2, 1) := dTL_13.1.2.2.2.2.2.2.2.2.2.1
theorem dL_law_1386 : decode cL_law 1386 = .ok (.aload_n 0, 1) := dTL_13.2.1.1
theorem dL_law_1387 : decode cL_law 1387 = .ok (.iload 4, 2) := dTL_13.2.1.2.1
theorem dL_law_1389 : decode cL_law 1389 = .ok (.iconst 1, 1) := dTL_13.2.1.2.2.1
theorem dL_law_1390 : decode cL_law 1390 = .ok (.iadd, 1) := dTL_13.2.1.2.2.2.1
theorem dL_law_1391 : decode cL_law 1391 = .ok (.iaload, 1) := dTL_13.2.1.2.2.2.2.1
theorem dL_law_1392 : decode cL_law 1392 = .ok (.aload_n 0, 1) := dTL_13.2.1.2.2.2.2.2.1
theorem dL_law_1393 : decode cL_law 1393 = .ok (.iload 4, 2) := dTL_13.2.1.2.2.2.2.2.2.1
theorem dL_law_1395 : decode cL_law 1395 = .ok (.iconst 2, 1) := dTL_13.2.1.2.2.2.2.2.2.2.1
theorem dL_law_1396 : decode cL_law 1396 = .ok (.iadd, 1) := dTL_13.2.1.2.2.2.2.2.2.2.2.1
theorem dL_law_1397 : decode cL_law 1397 = .ok (.iaload, 1) := dTL_13.2.1.2.2.2.2.2.2.2.2.2.1
theorem dL_law_1398 : decode cL_law 1398 = .ok (.invokevirtual 276, 3) := dTL_13.2.2.1.1
theorem dL_law_1401 : decode cL_law 1401 = .ok (.istore 6, 2) := dTL_13.2.2.1.2.1
theorem dL_law_1403 : decode cL_law 1403 = .ok (.aload_n 2, 1) := dTL_13.2.2.1.2.2.1
theorem dL_law_1404 : decode cL_law 1404 = .ok (.invokevirtual 277, 3) := dTL_13.2.2.1.2.2.2.1
theorem dL_law_1407 : decode cL_law 1407 = .ok (.iload 5, 2) := dTL_13.2.2.1.2.2.2.2.1
theorem dL_law_1409 : decode cL_law 1409 = .ok (.if_icmp .eq 5, 3) := dTL_13.2.2.1.2.2.2.2.2.1
theorem dL_law_1412 : decode cL_law 1412 = .ok (.iconst 0, 1) := dTL_13.2.2.1.2.2.2.2.2.2.1
theorem dL_law_1413 : decode cL_law 1413 = .ok (.ireturn, 1) := dTL_13.2.2.1.2.2.2.2.2.2.2.1
theorem dL_law_1414 : decode cL_law 1414 = .ok (.iload 5, 2) := dTL_13.2.2.1.2.2.2.2.2.2.2.2.1
theorem dL_law_1416 : decode cL_law 1416 = .ok (.ifCond .ne 16, 3) := dTL_13.2.2.1.2.2.2.2.2.2.2.2.2.1
theorem dL_law_1419 : decode cL_law 1419 = .ok (.aload_n 3, 1) := dTL_13.2.2.2.1.1
theorem dL_law_1420 : decode cL_law 1420 = .ok (.getfield 13, 3) := dTL_13.2.2.2.1.2.1
theorem dL_law_1423 : decode cL_law 1423 = .ok (.iload 6, 2) := dTL_13.2.2.2.1.2.2.1
theorem dL_law_1425 : decode cL_law 1425 = .ok (.i2l, 1) := dTL_13.2.2.2.1.2.2.2.1
theorem dL_law_1426 : decode cL_law 1426 = .ok (.lcmp, 1) := dTL_13.2.2.2.1.2.2.2.2.1
theorem dL_law_1427 : decode cL_law 1427 = .ok (.ifCond .eq 5, 3) := dTL_13.2.2.2.1.2.2.2.2.2.1
theorem dL_law_1430 : decode cL_law 1430 = .ok (.iconst 0, 1) := dTL_13.2.2.2.1.2.2.2.2.2.2.1
theorem dL_law_1431 : decode cL_law 1431 = .ok (.ireturn, 1) := dTL_13.2.2.2.1.2.2.2.2.2.2.2.1
theorem dL_law_1432 : decode cL_law 1432 = .ok (.goto 558, 3) := dTL_13.2.2.2.1.2.2.2.2.2.2.2.2.1
theorem dL_law_1435 : decode cL_law 1435 = .ok (.aload_n 1, 1) := dTL_13.2.2.2.1.2.2.2.2.2.2.2.2.2.1
theorem dL_law_1436 : decode cL_law 1436 = .ok (.aload_n 0, 1) := dTL_13.2.2.2.2.1.1
theorem dL_law_1437 : decode cL_law 1437 = .ok (.iload 4, 2) := dTL_13.2.2.2.2.1.2.1
theorem dL_law_1439 : decode cL_law 1439 = .ok (.iconst 1, 1) := dTL_13.2.2.2.2.1.2.2.1
theorem dL_law_1440 : decode cL_law 1440 = .ok (.iadd, 1) := dTL_13.2.2.2.2.1.2.2.2.1
theorem dL_law_1441 : decode cL_law 1441 = .ok (.iaload, 1) := dTL_13.2.2.2.2.1.2.2.2.2.1
theorem dL_law_1442 : decode cL_law 1442 = .ok (.aload_n 0, 1) := dTL_13.2.2.2.2.1.2.2.2.2.2.1
theorem dL_law_1443 : decode cL_law 1443 = .ok (.iload 4, 2) := dTL_13.2.2.2.2.1.2.2.2.2.2.2.1
theorem dL_law_1445 : decode cL_law 1445 = .ok (.iconst 2, 1) := dTL_13.2.2.2.2.1.2.2.2.2.2.2.2.1
theorem dL_law_1446 : decode cL_law 1446 = .ok (.iadd, 1) := dTL_13.2.2.2.2.1.2.2.2.2.2.2.2.2.1
theorem dL_law_1447 : decode cL_law 1447 = .ok (.iaload, 1) := dTL_13.2.2.2.2.1.2.2.2.2.2.2.2.2.2.1
theorem dL_law_1448 : decode cL_law 1448 = .ok (.aload_n 3, 1) := dTL_13.2.2.2.2.2.1.1
theorem dL_law_1449 : decode cL_law 1449 = .ok (.invokestatic 280, 3) := dTL_13.2.2.2.2.2.1.2.1
theorem dL_law_1452 : decode cL_law 1452 = .ok (.istore 5, 2) := dTL_13.2.2.2.2.2.1.2.2.1
theorem dL_law_1454 : decode cL_law 1454 = .ok (.aload_n 2, 1) := dTL_13.2.2.2.2.2.1.2.2.2.1
theorem dL_law_1455 : decode cL_law 1455 = .ok (.aload_n 0, 1) := dTL_13.2.2.2.2.2.1.2.2.2.2.1
theorem dL_law_1456 : decode cL_law 1456 = .ok (.iload 4, 2) := dTL_13.2.2.2.2.2.1.2.2.2.2.2.1
theorem dL_law_1458 : decode cL_law 1458 = .ok (.iconst 1, 1) := dTL_13.2.2.2.2.2.1.2.2.2.2.2.2.1
theorem dL_law_1459 : decode cL_law 1459 = .ok (.iadd, 1) := dTL_13.2.2.2.2.2.1.2.2.2.2.2.2.2.1
theorem dL_law_1460 : decode cL_law 1460 = .ok (.iaload, 1) := dTL_13.2.2.2.2.2.1.2.2.2.2.2.2.2.2.1
theorem dL_law_1461 : decode cL_law 1461 = .ok (.aload_n 0, 1) := dTL_13.2.2.2.2.2.1.2.2.2.2.2.2.2.2.2.1
theorem dTL_14 : dQ cL_law [[(1462, zop21, 4, 0), (1464, zop5, 0, 0), (1465, zop96, 0, 0), (1466, zop46, 0, 0), (1467, zop182, 1, 26), (1470, zop54, 6, 0), (1472, zop167, 2, 6), (1475, zop43, 0, 0), (1476, zop42, 0, 0), (1477, zop21, 4, 0)], [(1479, zop4, 0, 0), (1480, zop96, 0, 0), (1481, zop46, 0, 0), (1482, zop42, 0, 0), (1483, zop21, 4, 0), (1485, zop5, 0, 0), (1486, zop96, 0, 0), (1487, zop46, 0, 0), (1488, zop153, 0, 7), (1491, zop4, 0, 0)], [(1492, zop167, 0, 4), (1495, zop3, 0, 0), (1496, zop45, 0, 0), (1497, zop184, 1, 27), (1500, zop54, 5, 0), (1502, zop44, 0, 0), (1503, zop42, 0, 0), (1504, zop21, 4, 0), (1506, zop4, 0, 0), (1507, zop96, 0, 0)], [(1508, zop46, 0, 0), (1509, zop42, 0, 0), (1510, zop21, 4, 0), (1512, zop5, 0, 0), (1513, zop96, 0, 0), (1514, zop46, 0, 0), (1515, zop153, 0, 7), (1518, zop4, 0, 0), (1519, zop167, 0, 4), (1522, zop3, 0, 0)], [(1523, zop182, 1, 29), (1526, zop54, 6, 0), (1528, zop167, 1, 206), (1531, zop43, 0, 0), (1532, zop42, 0, 0), (1533, zop21, 4, 0), (1535, zop4, 0, 0), (1536, zop96, 0, 0), (1537, zop46, 0, 0), (1538, zop45, 0, 0)], [(1539, zop184, 1, 30), (1542, zop54, 5, 0), (1544, zop44, 0, 0), (1545, zop42, 0, 0), (1546, zop21, 4, 0), (1548, zop4, 0, 0), (1549, zop96, 0, 0), (1550, zop46, 0, 0), (1551, zop182, 1, 32), (1554, zop54, 6, 0)]] := dQ_of _ _ (by decide +kernel)
theorem dL_law_1462 : decode cL_law 1462 = .ok (.iload 4, 2) := dTL_14.1.1
theorem dL_law_1464 : decode cL_law 1464 = .ok (.iconst 2, 1) := dTL_14.1.2.1
theorem dL_law_1465 : decode cL_law 1465 = .ok (.iadd, 1) := dTL_14.1.2.2.1
theorem dL_law_1466 : decode cL_law 1466 = .ok (.iaload, 1) := dTL_14.1.2.2.2.1
theorem dL_law_1467 : decode cL_law 1467 = .ok (.invokevirtual 282, 3) := dTL_14.1.2.2.2.2.1
theorem dL_law_1470 : decode cL_law 1470 = .ok (.istore 6, 2) := dTL_14.1.2.2.2.2.2.1
theorem dL_law_1472 : decode cL_law 1472 = .ok (.goto 518, 3) := dTL_14.1.2.2.2.2.2.2.1
theorem dL_law_1475 : decode cL_law 1475 = .ok (.aload_n 1, 1) := dTL_14.1.2.2.2.2.2.2.2.1
theorem dL_law_1476 : decode cL_law 1476 = .ok (.aload_n 0, 1) := dTL_14.1.2.2.2.2.2.2.2.2.1
theorem dL_law_1477 : decode cL_law 1477 = .ok (.iload 4, 2) := dTL_14.1.2.2.2.2.2.2.2.2.2.1
theorem dL_law_1479 : decode cL_law 1479 = .ok (.iconst 1, 1) := dTL_14.2.1.1
theorem dL_law_1480 : decode cL_law 1480 = .ok (.iadd, 1) := dTL_14.2.1.2.1
theorem dL_law_1481 : decode cL_law 1481 = .ok (.iaload, 1) := dTL_14.2.1.2.2.1
theorem dL_law_1482 : decode cL_law 1482 = .ok (.aload_n 0, 1) := dTL_14.2.1.2.2.2.1
theorem dL_law_1483 : decode cL_law 1483 = .ok (.iload 4, 2) := dTL_14.2.1.2.2.2.2.1
theorem dL_law_1485 : decode cL_law 1485 = .ok (.iconst 2, 1) := dTL_14.2.1.2.2.2.2.2.1
theorem dL_law_1486 : decode cL_law 1486 = .ok (.iadd, 1) := dTL_14.2.1.2.2.2.2.2.2.1
theorem dL_law_1487 : decode cL_law 1487 = .ok (.iaload, 1) := dTL_14.2.1.2.2.2.2.2.2.2.1
theorem dL_law_1488 : decode cL_law 1488 = .ok (.ifCond .eq 7, 3) := dTL_14.2.1.2.2.2.2.2.2.2.2.1
theorem dL_law_1491 : decode cL_law 1491 = .ok (.iconst 1, 1) := dTL_14.2.1.2.2.2.2.2.2.2.2.2.1
theorem dL_law_1492 : decode cL_law 1492 = .ok (.goto 4, 3) := dTL_14.2.2.1.1
theorem dL_law_1495 : decode cL_law 1495 = .ok (.iconst 0, 1) := dTL_14.2.2.1.2.1
theorem dL_law_1496 : decode cL_law 1496 = .ok (.aload_n 3, 1) := dTL_14.2.2.1.2.2.1
theorem dL_law_1497 : decode cL_law 1497 = .ok (.invokestatic 283, 3) := dTL_14.2.2.1.2.2.2.1
theorem dL_law_1500 : decode cL_law 1500 = .ok (.istore 5, 2) := dTL_14.2.2.1.2.2.2.2.1
theorem dL_law_1502 : decode cL_law 1502 = .ok (.aload_n 2, 1) := dTL_14.2.2.1.2.2.2.2.2.1
theorem dL_law_1503 : decode cL_law 1503 = .ok (.aload_n 0, 1) := dTL_14.2.2.1.2.2.2.2.2.2.1
theorem dL_law_1504 : decode cL_law 1504 = .ok (.iload 4, 2) := dTL_14.2.2.1.2.2.2.2.2.2.2.1
theorem dL_law_1506 : decode cL_law 1506 = .ok (.iconst 1, 1) := dTL_14.2.2.1.2.2.2.2.2.2.2.2.1
theorem dL_law_1507 : decode cL_law 1507 = .ok (.iadd, 1) := dTL_14.2.2.1.2.2.2.2.2.2.2.2.2.1
theorem dL_law_1508 : decode cL_law 1508 = .ok (.iaload, 1) := dTL_14.2.2.2.1.1
theorem dL_law_1509 : decode cL_law 1509 = .ok (.aload_n 0, 1) := dTL_14.2.2.2.1.2.1
theorem dL_law_1510 : decode cL_law 1510 = .ok (.iload 4, 2) := dTL_14.2.2.2.1.2.2.1
theorem dL_law_1512 : decode cL_law 1512 = .ok (.iconst 2, 1) := dTL_14.2.2.2.1.2.2.2.1
theorem dL_law_1513 : decode cL_law 1513 = .ok (.iadd, 1) := dTL_14.2.2.2.1.2.2.2.2.1
theorem dL_law_1514 : decode cL_law 1514 = .ok (.iaload, 1) := dTL_14.2.2.2.1.2.2.2.2.2.1
theorem dL_law_1515 : decode cL_law 1515 = .ok (.ifCond .eq 7, 3) := dTL_14.2.2.2.1.2.2.2.2.2.2.1
theorem dL_law_1518 : decode cL_law 1518 = .ok (.iconst 1, 1) := dTL_14.2.2.2.1.2.2.2.2.2.2.2.1
theorem dL_law_1519 : decode cL_law 1519 = .ok (.goto 4, 3) := dTL_14.2.2.2.1.2.2.2.2.2.2.2.2.1
theorem dL_law_1522 : decode cL_law 1522 = .ok (.iconst 0, 1) := dTL_14.2.2.2.1.2.2.2.2.2.2.2.2.2.1
theorem dL_law_1523 : decode cL_law 1523 = .ok (.invokevirtual 285, 3) := dTL_14.2.2.2.2.1.1
theorem dL_law_1526 : decode cL_law 1526 = .ok (.istore 6, 2) := dTL_14.2.2.2.2.1.2.1
theorem dL_law_1528 : decode cL_law 1528 = .ok (.goto 462, 3) := dTL_14.2.2.2.2.1.2.2.1
theorem dL_law_1531 : decode cL_law 1531 = .ok (.aload_n 1, 1) := dTL_14.2.2.2.2.1.2.2.2.1
theorem dL_law_1532 : decode cL_law 1532 = .ok (.aload_n 0, 1) := dTL_14.2.2.2.2.1.2.2.2.2.1
theorem dL_law_1533 : decode cL_law 1533 = .ok (.iload 4, 2) := dTL_14.2.2.2.2.1.2.2.2.2.2.1
theorem dL_law_1535 : decode cL_law 1535 = .ok (.iconst 1, 1) := dTL_14.2.2.2.2.1.2.2.2.2.2.2.1
theorem dL_law_1536 : decode cL_law 1536 = .ok (.iadd, 1) := dTL_14.2.2.2.2.1.2.2.2.2.2.2.2.1
theorem dL_law_1537 : decode cL_law 1537 = .ok (.iaload, 1) := dTL_14.2.2.2.2.1.2.2.2.2.2.2.2.2.1
theorem dL_law_1538 : decode cL_law 1538 = .ok (.aload_n 3, 1) := dTL_14.2.2.2.2.1.2.2.2.2.2.2.2.2.2.1
theorem dL_law_1539 : decode cL_law 1539 = .ok (.invokestatic 286, 3) := dTL_14.2.2.2.2.2.1.1
theorem dL_law_1542 : decode cL_law 1542 = .ok (.istore 5, 2) := dTL_14.2.2.2.2.2.1.2.1
theorem dL_law_1544 : decode cL_law 1544 = .ok (.aload_n 2, 1) := dTL_14.2.2.2.2.2.1.2.2.1
theorem dL_law_1545 : decode cL_law 1545 = .ok (.aload_n 0, 1) := dTL_14.2.2.2.2.2.1.2.2.2.1
theorem dL_law_1546 : decode cL_law 1546 = .ok (.iload 4, 2) := dTL_14.2.2.2.2.2.1.2.2.2.2.1
theorem dL_law_1548 : decode cL_law 1548 = .ok (.iconst 1, 1) := dTL_14.2.2.2.2.2.1.2.2.2.2.2.1
theorem dL_law_1549 : decode cL_law 1549 = .ok (.iadd, 1) := dTL_14.2.2.2.2.2.1.2.2.2.2.2.2.1
theorem dL_law_1550 : decode cL_law 1550 = .ok (.iaload, 1) := dTL_14.2.2.2.2.2.1.2.2.2.2.2.2.2.1
theorem dL_law_1551 : decode cL_law 1551 = .ok (.invokevirtual 288, 3) := dTL_14.2.2.2.2.2.1.2.2.2.2.2.2.2.2.1
theorem dL_law_1554 : decode cL_law 1554 = .ok (.istore 6, 2) := dTL_14.2.2.2.2.2.1.2.2.2.2.2.2.2.2.2.1
theorem dTL_15 : dQ cL_law [[(1556, zop167, 1, 178), (1559, zop43, 0, 0), (1560, zop42, 0, 0), (1561, zop21, 4, 0), (1563, zop4, 0, 0), (1564, zop96, 0, 0), (1565, zop46, 0, 0), (1566, zop42, 0, 0), (1567, zop21, 4, 0), (1569, zop5, 0, 0)], [(1570, zop96, 0, 0), (1571, zop46, 0, 0), (1572, zop45, 0, 0), (1573, zop184, 1, 33), (1576, zop54, 5, 0), (1578, zop44, 0, 0), (1579, zop42, 0, 0), (1580, zop21, 4, 0), (1582, zop4, 0, 0), (1583, zop96, 0, 0)], [(1584, zop46, 0, 0), (1585, zop42, 0, 0), (1586, zop21, 4, 0), (1588, zop5, 0, 0), (1589, zop96, 0, 0), (1590, zop46, 0, 0), (1591, zop182, 1, 35), (1594, zop54, 6, 0), (1596, zop167, 1, 138), (1599, zop43, 0, 0)], [(1600, zop42, 0, 0), (1601, zop21, 4, 0), (1603, zop4, 0, 0), (1604, zop96, 0, 0), (1605, zop46, 0, 0), (1606, zop42, 0, 0), (1607, zop21, 4, 0), (1609, zop5, 0, 0), (1610, zop96, 0, 0), (1611, zop46, 0, 0)], [(1612, zop42, 0, 0), (1613, zop21, 4, 0), (1615, zop6, 0, 0), (1616, zop96, 0, 0), (1617, zop46, 0, 0), (1618, zop45, 0, 0), (1619, zop184, 1, 36), (1622, zop54, 5, 0), (1624, zop44, 0, 0), (1625, zop42, 0, 0)], [(1626, zop21, 4, 0), (1628, zop4, 0, 0), (1629, zop96, 0, 0), (1630, zop46, 0, 0), (1631, zop42, 0, 0), (1632, zop21, 4, 0), (1634, zop5, 0, 0), (1635, zop96, 0, 0), (1636, zop46, 0, 0), (1637, zop42, 0, 0)]] := dQ_of _ _ (by decide +kernel)
theorem dL_law_1556 : decode cL_law 1556 = .ok (.goto 434, 3) := dTL_15.1.1
theorem dL_law_1559 : decode cL_law 1559 = .ok (.aload_n 1, 1) := dTL_15.1.2.1
theorem dL_law_1560 : decode cL_law 1560 = .ok (.aload_n 0, 1) := dTL_15.1.2.2.1
theorem dL_law_1561 : decode cL_law 1561 = .ok (.iload 4, 2) := dTL_15.1.2.2.2.1
theorem dL_law_1563 : decode cL_law 1563 = .ok (.iconst 1, 1) := dTL_15.1.2.2.2.2.1
theorem dL_law_1564 : decode cL_law 1564 = .ok (.iadd, 1) := dTL_15.1.2.2.2.2.2.1
theorem dL_law_1565 : decode cL_law 1565 = .ok (.iaload, 1) := dTL_15.1.2.2.2.2.2.2.1
theorem dL_law_1566 : decode cL_law 1566 = .ok (.aload_n 0, 1) := dTL_15.1.2.2.2.2.2.2.2.1
theorem dL_law_1567 : decode cL_law 1567 = .ok (.iload 4, 2) := dTL_15.1.2.2.2.2.2.2.2.2.1
theorem dL_law_1569 : decode cL_law 1569 = .ok (.iconst 2, 1) := dTL_15.1.2.2.2.2.2.2.2.2.2.1
theorem dL_law_1570 : decode cL_law 1570 = .ok (.iadd, 1) := dTL_15.2.1.1
theorem dL_law_1571 : decode cL_law 1571 = .ok (.iaload, 1) := dTL_15.2.1.2.1
theorem dL_law_1572 : decode cL_law 1572 = .ok (.aload_n 3, 1) := dTL_15.2.1.2.2.1
theorem dL_law_1573 : decode cL_law 1573 = .ok (.invokestatic 289, 3) := dTL_15.2.1.2.2.2.1
theorem dL_law_1576 : decode cL_law 1576 = .ok (.istore 5, 2) := dTL_15.2.1.2.2.2.2.1
theorem dL_law_1578 : decode cL_law 1578 = .ok (.aload_n 2, 1) := dTL_15.2.1.2.2.2.2.2.1
theorem dL_law_1579 : decode cL_law 1579 = .ok (.aload_n 0, 1) := dTL_15.2.1.2.2.2.2.2.2.1
theorem dL_law_1580 : decode cL_law 1580 = .ok (.iload 4, 2) := dTL_15.2.1.2.2.2.2.2.2.2.1
theorem dL_law_1582 : decode cL_law 1582 = .ok (.iconst 1, 1) := dTL_15.2.1.2.2.2.2.2.2.2.2.1
theorem dL_law_1583 : decode cL_law 1583 = .ok (.iadd, 1) := dTL_15.2.1.2.2.2.2.2.2.2.2.2.1
theorem dL_law_1584 : decode cL_law 1584 = .ok (.iaload, 1) := dTL_15.2.2.1.1
theorem dL_law_1585 : decode cL_law 1585 = .ok (.aload_n 0, 1) := dTL_15.2.2.1.2.1
theorem dL_law_1586 : decode cL_law 1586 = .ok (.iload 4, 2) := dTL_15.2.2.1.2.2.1
theorem dL_law_1588 : decode cL_law 1588 = .ok (.iconst 2, 1) := dTL_15.2.2.1.2.2.2.1
theorem dL_law_1589 : decode cL_law 1589 = .ok (.iadd, 1) := dTL_15.2.2.1.2.2.2.2.1
theorem dL_law_1590 : decode cL_law 1590 = .ok (.iaload, 1) := dTL_15.2.2.1.2.2.2.2.2.1
theorem dL_law_1591 : decode cL_law 1591 = .ok (.invokevirtual 291, 3) := dTL_15.2.2.1.2.2.2.2.2.2.1
theorem dL_law_1594 : decode cL_law 1594 = .ok (.istore 6, 2) := dTL_15.2.2.1.2.2.2.2.2.2.2.1
theorem dL_law_1596 : decode cL_law 1596 = .ok (.goto 394, 3) := dTL_15.2.2.1.2.2.2.2.2.2.2.2.1
theorem dL_law_1599 : decode cL_law 1599 = .ok (.aload_n 1, 1) := dTL_15.2.2.1.2.2.2.2.2.2.2.2.2.1
theorem dL_law_1600 : decode cL_law 1600 = .ok (.aload_n 0, 1) := dTL_15.2.2.2.1.1
theorem dL_law_1601 : decode cL_law 1601 = .ok (.iload 4, 2) := dTL_15.2.2.2.1.2.1
theorem dL_law_1603 : decode cL_law 1603 = .ok (.iconst 1, 1) := dTL_15.2.2.2.1.2.2.1
theorem dL_law_1604 : decode cL_law 1604 = .ok (.iadd, 1) := dTL_15.2.2.2.1.2.2.2.1
theorem dL_law_1605 : decode cL_law 1605 = .ok (.iaload, 1) := dTL_15.2.2.2.1.2.2.2.2.1
theorem dL_law_1606 : decode cL_law 1606 = .ok (.aload_n 0, 1) := dTL_15.2.2.2.1.2.2.2.2.2.1
theorem dL_law_1607 : decode cL_law 1607 = .ok (.iload 4, 2) := dTL_15.2.2.2.1.2.2.2.2.2.2.1
theorem dL_law_1609 : decode cL_law 1609 = .ok (.iconst 2, 1) := dTL_15.2.2.2.1.2.2.2.2.2.2.2.1
theorem dL_law_1610 : decode cL_law 1610 = .ok (.iadd, 1) := dTL_15.2.2.2.1.2.2.2.2.2.2.2.2.1
theorem dL_law_1611 : decode cL_law 1611 = .ok (.iaload, 1) := dTL_15.2.2.2.1.2.2.2.2.2.2.2.2.2.1
theorem dL_law_1612 : decode cL_law 1612 = .ok (.aload_n 0, 1) := dTL_15.2.2.2.2.1.1
theorem dL_law_1613 : decode cL_law 1613 = .ok (.iload 4, 2) := dTL_15.2.2.2.2.1.2.1
theorem dL_law_1615 : decode cL_law 1615 = .ok (.iconst 3, 1) := dTL_15.2.2.2.2.1.2.2.1
theorem dL_law_1616 : decode cL_law 1616 = .ok (.iadd, 1) := dTL_15.2.2.2.2.1.2.2.2.1
theorem dL_law_1617 : decode cL_law 1617 = .ok (.iaload, 1) := dTL_15.2.2.2.2.1.2.2.2.2.1
theorem dL_law_1618 : decode cL_law 1618 = .ok (.aload_n 3, 1) := dTL_15.2.2.2.2.1.2.2.2.2.2.1
theorem dL_law_1619 : decode cL_law 1619 = .ok (.invokestatic 292, 3) := dTL_15.2.2.2.2.1.2.2.2.2.2.2.1
theorem dL_law_1622 : decode cL_law 1622 = .ok (.istore 5, 2) := dTL_15.2.2.2.2.1.2.2.2.2.2.2.2.1
theorem dL_law_1624 : decode cL_law 1624 = .ok (.aload_n 2, 1) := dTL_15.2.2.2.2.1.2.2.2.2.2.2.2.2.1
theorem dL_law_1625 : decode cL_law 1625 = .ok (.aload_n 0, 1) := dTL_15.2.2.2.2.1.2.2.2.2.2.2.2.2.2.1
theorem dL_law_1626 : decode cL_law 1626 = .ok (.iload 4, 2) := dTL_15.2.2.2.2.2.1.1
theorem dL_law_1628 : decode cL_law 1628 = .ok (.iconst 1, 1) := dTL_15.2.2.2.2.2.1.2.1
theorem dL_law_1629 : decode cL_law 1629 = .ok (.iadd, 1) := dTL_15.2.2.2.2.2.1.2.2.1
theorem dL_law_1630 : decode cL_law 1630 = .ok (.iaload, 1) := dTL_15.2.2.2.2.2.1.2.2.2.1
theorem dL_law_1631 : decode cL_law 1631 = .ok (.aload_n 0, 1) := dTL_15.2.2.2.2.2.1.2.2.2.2.1
theorem dL_law_1632 : decode cL_law 1632 = .ok (.iload 4, 2) := dTL_15.2.2.2.2.2.1.2.2.2.2.2.1
theorem dL_law_1634 : decode cL_law 1634 = .ok (.iconst 2, 1) := dTL_15.2.2.2.2.2.1.2.2.2.2.2.2.1
theorem dL_law_1635 : decode cL_law 1635 = .ok (.iadd, 1) := dTL_15.2.2.2.2.2.1.2.2.2.2.2.2.2.1
theorem dL_law_1636 : decode cL_law 1636 = .ok (.iaload, 1) := dTL_15.2.2.2.2.2.1.2.2.2.2.2.2.2.2.1
theorem dL_law_1637 : decode cL_law 1637 = .ok (.aload_n 0, 1) := dTL_15.2.2.2.2.2.1.2.2.2.2.2.2.2.2.2.1
theorem dTL_16 : dQ cL_law [[(1638, zop21, 4, 0), (1640, zop6, 0, 0), (1641, zop96, 0, 0), (1642, zop46, 0, 0), (1643, zop182, 1, 38), (1646, zop54, 6, 0), (1648, zop167, 1, 86), (1651, zop43, 0, 0), (1652, zop42, 0, 0), (1653, zop21, 4, 0)], [(1655, zop4, 0, 0), (1656, zop96, 0, 0), (1657, zop46, 0, 0), (1658, zop42, 0, 0), (1659, zop21, 4, 0), (1661, zop5, 0, 0), (1662, zop96, 0, 0), (1663, zop46, 0, 0), (1664, zop42, 0, 0), (1665, zop21, 4, 0)], [(1667, zop6, 0, 0), (1668, zop96, 0, 0), (1669, zop46, 0, 0), (1670, zop45, 0, 0), (1671, zop184, 1, 39), (1674, zop54, 5, 0), (1676, zop44, 0, 0), (1677, zop42, 0, 0), (1678, zop21, 4, 0), (1680, zop4, 0, 0)], [(1681, zop96, 0, 0), (1682, zop46, 0, 0), (1683, zop42, 0, 0), (1684, zop21, 4, 0), (1686, zop5, 0, 0), (1687, zop96, 0, 0), (1688, zop46, 0, 0), (1689, zop42, 0, 0), (1690, zop21, 4, 0), (1692, zop6, 0, 0)], [(1693, zop96, 0, 0), (1694, zop46, 0, 0), (1695, zop182, 1, 41), (1698, zop54, 6, 0), (1700, zop167, 1, 34), (1703, zop43, 0, 0), (1704, zop42, 0, 0), (1705, zop21, 4, 0), (1707, zop4, 0, 0), (1708, zop96, 0, 0)], [(1709, zop46, 0, 0), (1710, zop42, 0, 0), (1711, zop21, 4, 0), (1713, zop5, 0, 0), (1714, zop96, 0, 0), (1715, zop46, 0, 0), (1716, zop42, 0, 0), (1717, zop21, 4, 0), (1719, zop6, 0, 0), (1720, zop96, 0, 0)]] := dQ_of _ _ (by decide +kernel)
theorem dL_law_1638 : decode cL_law 1638 = .ok (.iload 4, 2) := dTL_16.1.1
theorem dL_law_1640 : decode cL_law 1640 = .ok (.iconst 3, 1) := dTL_16.1.2.1
theorem dL_law_1641 : decode cL_law 1641 = .ok (.iadd, 1) := dTL_16.1.2.2.1
theorem dL_law_1642 : decode cL_law 1642 = .ok (.iaload, 1) := dTL_16.1.2.2.2.1
theorem dL_law_1643 : decode cL_law 1643 = .ok (.invokevirtual 294, 3) := dTL_16.1.2.2.2.2.1
theorem dL_law_1646 : decode cL_law 1646 = .ok (.istore 6, 2) := dTL_16.1.2.2.2.2.2.1
theorem dL_law_1648 : decode cL_law 1648 = .ok (.goto 342, 3) := dTL_16.1.2.2.2.2.2.2.1
theorem dL_law_1651 : decode cL_law 1651 = .ok (.aload_n 1, 1) := dTL_16.1.2.2.2.2.2.2.2.1
theorem dL_law_1652 : decode cL_law 1652 = .ok (.aload_n 0, 1) := dTL_16.1.2.2.2.2.2.2.2.2.1
theorem dL_law_1653 : decode cL_law 1653 = .ok (.iload 4, 2) := dTL_16.1.2.2.2.2.2.2.2.2.2.1
theorem dL_law_1655 : decode cL_law 1655 = .ok (.iconst 1, 1) := dTL_16.2.1.1
theorem dL_law_1656 : decode cL_law 1656 = .ok (.iadd, 1) := dTL_16.2.1.2.1
theorem dL_law_1657 : decode cL_law 1657 = .ok (.iaload, 1) := dTL_16.2.1.2.2.1
theorem dL_law_1658 : decode cL_law 1658 = .ok (.aload_n 0, 1) := dTL_16.2.1.2.2.2.1
theorem dL_law_1659 : decode cL_law 1659 = .ok (.iload 4, 2) := dTL_16.2.1.2.2.2.2.1
theorem dL_law_1661 : decode cL_law 1661 = .ok (.iconst 2, 1) := dTL_16.2.1.2.2.2.2.2.1
theorem dL_law_1662 : decode cL_law 1662 = .ok (.iadd, 1) := dTL_16.2.1.2.2.2.2.2.2.1
theorem dL_law_1663 : decode cL_law 1663 = .ok (.iaload, 1) := dTL_16.2.1.2.2.2.2.2.2.2.1
theorem dL_law_1664 : decode cL_law 1664 = .ok (.aload_n 0, 1) := dTL_16.2.1.2.2.2.2.2.2.2.2.1
theorem dL_law_1665 : decode cL_law 1665 = .ok (.iload 4, 2) := dTL_16.2.1.2.2.2.2.2.2.2.2.2.1
theorem dL_law_1667 : decode cL_law 1667 = .ok (.iconst 3, 1) := dTL_16.2.2.1.1
theorem dL_law_1668 : decode cL_law 1668 = .ok (.iadd, 1) := dTL_16.2.2.1.2.1
theorem dL_law_1669 : decode cL_law 1669 = .ok (.iaload, 1) := dTL_16.2.2.1.2.2.1
theorem dL_law_1670 : decode cL_law 1670 = .ok (.aload_n 3, 1) := dTL_16.2.2.1.2.2.2.1
theorem dL_law_1671 : decode cL_law 1671 = .ok (.invokestatic 295, 3) := dTL_16.2.2.1.2.2.2.2.1
theorem dL_law_1674 : decode cL_law 1674 = .ok (.istore 5, 2) := dTL_16.2.2.1.2.2.2.2.2.1
theorem dL_law_1676 : decode cL_law 1676 = .ok (.aload_n 2, 1) := dTL_16.2.2.1.2.2.2.2.2.2.1
theorem dL_law_1677 : decode cL_law 1677 = .ok (.aload_n 0, 1) := dTL_16.2.2.1.2.2.2.2.2.2.2.1
theorem dL_law_1678 : decode cL_law 1678 = .ok (.iload 4, 2) := dTL_16.2.2.1.2.2.2.2.2.2.2.2.1
theorem dL_law_1680 : decode cL_law 1680 = .ok (.iconst 1, 1) := dTL_16.2.2.1.2.2.2.2.2.2.2.2.2.1
theorem dL_law_1681 : decode cL_law 1681 = .ok (.iadd, 1) := dTL_16.2.2.2.1.1
theorem dL_law_1682 : decode cL_law 1682 = .ok (.iaload, 1) := dTL_16.2.2.2.1.2.1
theorem dL_law_1683 : decode cL_law 1683 = .ok (.aload_n 0, 1) := dTL_16.2.2.2.1.2.2.1
theorem dL_law_1684 : decode cL_law 1684 = .ok (.iload 4, 2) := dTL_16.2.2.2.1.2.2.2.1
theorem dL_law_1686 : decode cL_law 1686 = .ok (.iconst 2, 1) := dTL_16.2.2.2.1.2.2.2.2.1
theorem dL_law_1687 : decode cL_law 1687 = .ok (.iadd, 1) := dTL_16.2.2.2.1.2.2.2.2.2.1
theorem dL_law_1688 : decode cL_law 1688 = .ok (.iaload, 1) := dTL_16.2.2.2.1.2.2.2.2.2.2.1
theorem dL_law_1689 : decode cL_law 1689 = .ok (.aload_n 0, 1) := dTL_16.2.2.2.1.2.2.2.2.2.2.2.1
theorem dL_law_1690 : decode cL_law 1690 = .ok (.iload 4, 2) := dTL_16.2.2.2.1.2.2.2.2.2.2.2.2.1
theorem dL_law_1692 : decode cL_law 1692 = .ok (.iconst 3, 1) := dTL_16.2.2.2.1.2.2.2.2.2.2.2.2.2.1
theorem dL_law_1693 : decode cL_law 1693 = .ok (.iadd, 1) := dTL_16.2.2.2.2.1.1
theorem dL_law_1694 : decode cL_law 1694 = .ok (.iaload, 1) := dTL_16.2.2.2.2.1.2.1
theorem dL_law_1695 : decode cL_law 1695 = .ok (.invokevirtual 297, 3) := dTL_16.2.2.2.2.1.2.2.1
theorem dL_law_1698 : decode cL_law 1698 = .ok (.istore 6, 2) := dTL_16.2.2.2.2.1.2.2.2.1
theorem dL_law_1700 : decode cL_law 1700 = .ok (.goto 290, 3) := dTL_16.2.2.2.2.1.2.2.2.2.1
theorem dL_law_1703 : decode cL_law 1703 = .ok (.aload_n 1, 1) := dTL_16.2.2.2.2.1.2.2.2.2.2.1
theorem dL_law_1704 : decode cL_law 1704 = .ok (.aload_n 0, 1) := dTL_16.2.2.2.2.1.2.2.2.2.2.2.1
theorem dL_law_1705 : decode cL_law 1705 = .ok (.iload 4, 2) := dTL_16.2.2.2.2.1.2.2.2.2.2.2.2.1
theorem dL_law_1707 : decode cL_law 1707 = .ok (.iconst 1, 1) := dTL_16.2.2.2.2.1.2.2.2.2.2.2.2.2.1
theorem dL_law_1708 : decode cL_law 1708 = .ok (.iadd, 1) := dTL_16.2.2.2.2.1.2.2.2.2.2.2.2.2.2.1
theorem dL_law_1709 : decode cL_law 1709 = .ok (.iaload, 1) := dTL_16.2.2.2.2.2.1.1
theorem dL_law_1710 : decode cL_law 1710 = .ok (.aload_n 0, 1) := dTL_16.2.2.2.2.2.1.2.1
theorem dL_law_1711 : decode cL_law 1711 = .ok (.iload 4, 2) := dTL_16.2.2.2.2.2.1.2.2.1
theorem dL_law_1713 : decode cL_law 1713 = .ok (.iconst 2, 1) := dTL_16.2.2.2.2.2.1.2.2.2.1
theorem dL_law_1714 : decode cL_law 1714 = .ok (.iadd, 1) := dTL_16.2.2.2.2.2.1.2.2.2.2.1
theorem dL_law_1715 : decode cL_law 1715 = .ok (.iaload, 1) := dTL_16.2.2.2.2.2.1.2.2.2.2.2.1
theorem dL_law_1716 : decode cL_law 1716 = .ok (.aload_n 0, 1) := dTL_16.2.2.2.2.2.1.2.2.2.2.2.2.1
theorem dL_law_1717 : decode cL_law 1717 = .ok (.iload 4, 2) := dTL_16.2.2.2.2.2.1.2.2.2.2.2.2.2.1
theorem dL_law_1719 : decode cL_law 1719 = .ok (.iconst 3, 1) := dTL_16.2.2.2.2.2.1.2.2.2.2.2.2.2.2.1
theorem dL_law_1720 : decode cL_law 1720 = .ok (.iadd, 1) := dTL_16.2.2.2.2.2.1.2.2.2.2.2.2.2.2.2.1
theorem dTL_17 : dQ cL_law [[(1721, zop46, 0, 0), (1722, zop45, 0, 0), (1723, zop184, 1, 42), (1726, zop54, 5, 0), (1728, zop44, 0, 0), (1729, zop42, 0, 0), (1730, zop21, 4, 0), (1732, zop4, 0, 0), (1733, zop96, 0, 0), (1734, zop46, 0, 0)], [(1735, zop42, 0, 0), (1736, zop21, 4, 0), (1738, zop5, 0, 0), (1739, zop96, 0, 0), (1740, zop46, 0, 0), (1741, zop42, 0, 0), (1742, zop21, 4, 0), (1744, zop6, 0, 0), (1745, zop96, 0, 0), (1746, zop46, 0, 0)], [(1747, zop182, 1, 44), (1750, zop54, 6, 0), (1752, zop167, 0, 238), (1755, zop43, 0, 0), (1756, zop42, 0, 0), (1757, zop21, 4, 0), (1759, zop4, 0, 0), (1760, zop96, 0, 0), (1761, zop46, 0, 0), (1762, zop45, 0, 0)], [(1763, zop184, 1, 45), (1766, zop54, 5, 0), (1768, zop44, 0, 0), (1769, zop42, 0, 0), (1770, zop21, 4, 0), (1772, zop4, 0, 0), (1773, zop96, 0, 0), (1774, zop46, 0, 0), (1775, zop182, 1, 47), (1778, zop54, 6, 0)], [(1780, zop167, 0, 210), (1783, zop43, 0, 0), (1784, zop42, 0, 0), (1785, zop21, 4, 0), (1787, zop4, 0, 0), (1788, zop96, 0, 0), (1789, zop46, 0, 0), (1790, zop45, 0, 0), (1791, zop184, 1, 48), (1794, zop54, 5, 0)], [(1796, zop44, 0, 0), (1797, zop42, 0, 0), (1798, zop21, 4, 0), (1800, zop4, 0, 0), (1801, zop96, 0, 0), (1802, zop46, 0, 0), (1803, zop182, 1, 50), (1806, zop54, 6, 0), (1808, zop167, 0, 182), (1811, zop43, 0, 0)]] := dQ_of _ _ (by decide +kernel)
theorem dL_law_1721 : decode cL_law 1721 = .ok (.iaload, 1) := dTL_17.1.1
theorem dL_law_1722 : decode cL_law 1722 = .ok (.aload_n 3, 1) := dTL_17.1.2.1
theorem dL_law_1723 : decode cL_law 1723 = .ok (.invokestatic 298, 3) := dTL_17.1.2.2.1
theorem dL_law_1726 : decode cL_law 1726 = .ok (.istore 5, 2) := dTL_17.1.2.2.2.1
theorem dL_law_1728 : decode cL_law 1728 = .ok (.aload_n 2, 1) := dTL_17.1.2.2.2.2.1
theorem dL_law_1729 : decode cL_law 1729 = .ok (.aload_n 0, 1) := dTL_17.1.2.2.2.2.2.1
theorem dL_law_1730 : decode cL_law 1730 = .ok (.iload 4, 2) := dTL_17.1.2.2.2.2.2.2.1
theorem dL_law_1732 : decode cL_law 1732 = .ok (.iconst 1, 1) := dTL_17.1.2.2.2.2.2.2.2.1
theorem dL_law_1733 : decode cL_law 1733 = .ok (.iadd, 1) := dTL_17.1.2.2.2.2.2.2.2.2.1
theorem dL_law_1734 : decode cL_law 1734 = .ok (.iaload, 1) := dTL_17.1.2.2.2.2.2.2.2.2.2.1
theorem dL_law_1735 : decode cL_law 1735 = .ok (.aload_n 0, 1) := dTL_17.2.1.1
theorem dL_law_1736 : decode cL_law 1736 = .ok (.iload 4, 2) := dTL_17.2.1.2.1
theorem dL_law_1738 : decode cL_law 1738 = .ok (.iconst 2, 1) := dTL_17.2.1.2.2.1
theorem dL_law_1739 : decode cL_law 1739 = .ok (.iadd, 1) := dTL_17.2.1.2.2.2.1
theorem dL_law_1740 : decode cL_law 1740 = .ok (.iaload, 1) := dTL_17.2.1.2.2.2.2.1
theorem dL_law_1741 : decode cL_law 1741 = .ok (.aload_n 0, 1) := dTL_17.2.1.2.2.2.2.2.1
theorem dL_law_1742 : decode cL_law 1742 = .ok (.iload 4, 2) := dTL_17.2.1.2.2.2.2.2.2.1
theorem dL_law_1744 : decode cL_law 1744 = .ok (.iconst 3, 1) := dTL_17.2.1.2.2.2.2.2.2.2.1
theorem dL_law_1745 : decode cL_law 1745 = .ok (.iadd, 1) := dTL_17.2.1.2.2.2.2.2.2.2.2.1
theorem dL_law_1746 : decode cL_law 1746 = .ok (.iaload, 1) := dTL_17.2.1.2.2.2.2.2.2.2.2.2.1
theorem dL_law_1747 : decode cL_law 1747 = .ok (.invokevirtual 300, 3) := dTL_17.2.2.1.1
theorem dL_law_1750 : decode cL_law 1750 = .ok (.istore 6, 2) := dTL_17.2.2.1.2.1
theorem dL_law_1752 : decode cL_law 1752 = .ok (.goto 238, 3) := dTL_17.2.2.1.2.2.1
theorem dL_law_1755 : decode cL_law 1755 = .ok (.aload_n 1, 1) := dTL_17.2.2.1.2.2.2.1
theorem dL_law_1756 : decode cL_law 1756 = .ok (.aload_n 0, 1) := dTL_17.2.2.1.2.2.2.2.1
theorem dL_law_1757 : decode cL_law 1757 = .ok (.iload 4, 2) := dTL_17.2.2.1.2.2.2.2.2.1
theorem dL_law_1759 : decode cL_law 1759 = .ok (.iconst 1, 1) := dTL_17.2.2.1.2.2.2.2.2.2.1
theorem dL_law_1760 : decode cL_law 1760 = .ok (.iadd, 1) := dTL_17.2.2.1.2.2.2.2.2.2.2.1
theorem dL_law_1761 : decode cL_law 1761 = .ok (.iaload, 1) := dTL_17.2.2.1.2.2.2.2.2.2.2.2.1
theorem dL_law_1762 : decode cL_law 1762 = .ok (.aload_n 3, 1) := dTL_17.2.2.1.2.2.2.2.2.2.2.2.2.1
theorem dL_law_1763 : decode cL_law 1763 = .ok (.invokestatic 301, 3) := dTL_17.2.2.2.1.1
theorem dL_law_1766 : decode cL_law 1766 = .ok (.istore 5, 2) := dTL_17.2.2.2.1.2.1
theorem dL_law_1768 : decode cL_law 1768 = .ok (.aload_n 2, 1) := dTL_17.2.2.2.1.2.2.1
theorem dL_law_1769 : decode cL_law 1769 = .ok (.aload_n 0, 1) := dTL_17.2.2.2.1.2.2.2.1
theorem dL_law_1770 : decode cL_law 1770 = .ok (.iload 4, 2) := dTL_17.2.2.2.1.2.2.2.2.1
theorem dL_law_1772 : decode cL_law 1772 = .ok (.iconst 1, 1) := dTL_17.2.2.2.1.2.2.2.2.2.1
theorem dL_law_1773 : decode cL_law 1773 = .ok (.iadd, 1) := dTL_17.2.2.2.1.2.2.2.2.2.2.1
theorem dL_law_1774 : decode cL_law 1774 = .ok (.iaload, 1) := dTL_17.2.2.2.1.2.2.2.2.2.2.2.1
theorem dL_law_1775 : decode cL_law 1775 = .ok (.invokevirtual 303, 3) := dTL_17.2.2.2.1.2.2.2.2.2.2.2.2.1
theorem dL_law_1778 : decode cL_law 1778 = .ok (.istore 6, 2) := dTL_17.2.2.2.1.2.2.2.2.2.2.2.2.2.1
theorem dL_law_1780 : decode cL_law 1780 = .ok (.goto 210, 3) := dTL_17.2.2.2.2.1.1
theorem dL_law_1783 : decode cL_law 1783 = .ok (.aload_n 1, 1) := dTL_17.2.2.2.2.1.2.1
theorem dL_law_1784 : decode cL_law 1784 = .ok (.aload_n 0, 1) := dTL_17.2.2.2.2.1.2.2.1
theorem dL_law_1785 : decode cL_law 1785 = .ok (.iload 4, 2) := dTL_17.2.2.2.2.1.2.2.2.1
theorem dL_law_1787 : decode cL_law 1787 = .ok (.iconst 1, 1) := dTL_17.2.2.2.2.1.2.2.2.2.1
theorem dL_law_1788 : decode cL_law 1788 = .ok (.iadd, 1) := dTL_17.2.2.2.2.1.2.2.2.2.2.1
theorem dL_law_1789 : decode cL_law 1789 = .ok (.iaload, 1) := dTL_17.2.2.2.2.1.2.2.2.2.2.2.1
theorem dL_law_1790 : decode cL_law 1790 = .ok (.aload_n 3, 1) := dTL_17.2.2.2.2.1.2.2.2.2.2.2.2.1
theorem dL_law_1791 : decode cL_law 1791 = .ok (.invokestatic 304, 3) := dTL_17.2.2.2.2.1.2.2.2.2.2.2.2.2.1
theorem dL_law_1794 : decode cL_law 1794 = .ok (.istore 5, 2) := dTL_17.2.2.2.2.1.2.2.2.2.2.2.2.2.2.1
theorem dL_law_1796 : decode cL_law 1796 = .ok (.aload_n 2, 1) := dTL_17.2.2.2.2.2.1.1
theorem dL_law_1797 : decode cL_law 1797 = .ok (.aload_n 0, 1) := dTL_17.2.2.2.2.2.1.2.1
theorem dL_law_1798 : decode cL_law 1798 = .ok (.iload 4, 2) := dTL_17.2.2.2.2.2.1.2.2.1
theorem dL_law_1800 : decode cL_law 1800 = .ok (.iconst 1, 1) := dTL_17.2.2.2.2.2.1.2.2.2.1
theorem dL_law_1801 : decode cL_law 1801 = .ok (.iadd, 1) := dTL_17.2.2.2.2.2.1.2.2.2.2.1
theorem dL_law_1802 : decode cL_law 1802 = .ok (.iaload, 1) := dTL_17.2.2.2.2.2.1.2.2.2.2.2.1
theorem dL_law_1803 : decode cL_law 1803 = .ok (.invokevirtual 306, 3) := dTL_17.2.2.2.2.2.1.2.2.2.2.2.2.1
theorem dL_law_1806 : decode cL_law 1806 = .ok (.istore 6, 2) := dTL_17.2.2.2.2.2.1.2.2.2.2.2.2.2.1
theorem dL_law_1808 : decode cL_law 1808 = .ok (.goto 182, 3) := dTL_17.2.2.2.2.2.1.2.2.2.2.2.2.2.2.1
theorem dL_law_1811 : decode cL_law 1811 = .ok (.aload_n 1, 1) := dTL_17.2.2.2.2.2.1.2.2.2.2.2.2.2.2.2.1
theorem dTL_18 : dQ cL_law [[(1812, zop42, 0, 0), (1813, zop21, 4, 0), (1815, zop4, 0, 0), (1816, zop96, 0, 0), (1817, zop46, 0, 0), (1818, zop45, 0, 0), (1819, zop184, 1, 51), (1822, zop54, 5, 0), (1824, zop44, 0, 0), (1825, zop42, 0, 0)], [(1826, zop21, 4, 0), (1828, zop4, 0, 0), (1829, zop96, 0, 0), (1830, zop46, 0, 0), (1831, zop182, 1, 53), (1834, zop54, 6, 0), (1836, zop167, 0, 154), (1839, zop43, 0, 0), (1840, zop42, 0, 0), (1841, zop21, 4, 0)], [(1843, zop4, 0, 0), (1844, zop96, 0, 0), (1845, zop46, 0, 0), (1846, zop45, 0, 0), (1847, zop184, 1, 54), (1850, zop54, 5, 0), (1852, zop44, 0, 0), (1853, zop42, 0, 0), (1854, zop21, 4, 0), (1856, zop4, 0, 0)], [(1857, zop96, 0, 0), (1858, zop46, 0, 0), (1859, zop182, 1, 56), (1862, zop54, 6, 0), (1864, zop167, 0, 126), (1867, zop43, 0, 0), (1868, zop42, 0, 0), (1869, zop21, 4, 0), (1871, zop4, 0, 0), (1872, zop96, 0, 0)], [(1873, zop46, 0, 0), (1874, zop45, 0, 0), (1875, zop184, 1, 57), (1878, zop54, 5, 0), (1880, zop44, 0, 0), (1881, zop42, 0, 0), (1882, zop21, 4, 0), (1884, zop4, 0, 0), (1885, zop96, 0, 0), (1886, zop46, 0, 0)], [(1887, zop182, 1, 59), (1890, zop54, 6, 0), (1892, zop167, 0, 98), (1895, zop43, 0, 0), (1896, zop42, 0, 0), (1897, zop21, 4, 0), (1899, zop4, 0, 0), (1900, zop96, 0, 0), (1901, zop46, 0, 0), (1902, zop45, 0, 0)]] := dQ_of _ _ (by decide +kernel)
theorem dL_law_1812 : decode cL_law 1812 = .ok (.aload_n 0, 1) := dTL_18.1.1
theorem dL_law_1813 : decode cL_law 1813 = .ok (.iload 4, 2) := dTL_18.1.2.1
theorem dL_law_1815 : decode cL_law 1815 = .ok (.iconst 1, 1) := dTL_18.1.2.2.1
theorem dL_law_1816 : decode cL_law 1816 = .ok (.iadd, 1) := dTL_18.1.2.2.2.1
theorem dL_law_1817 : decode cL_law 1817 = .ok (.iaload, 1) := dTL_18.1.2.2.2.2.1
theorem dL_law_1818 : decode cL_law 1818 = .ok (.aload_n 3, 1) := dTL_18.1.2.2.2.2.2.1
theorem dL_law_1819 : decode cL_law 1819 = .ok (.invokestatic 307, 3) := dTL_18.1.2.2.2.2.2.2.1
theorem dL_law_1822 : decode cL_law 1822 = .ok (.istore 5, 2) := dTL_18.1.2.2.2.2.2.2.2.1
theorem dL_law_1824 : decode cL_law 1824 = .ok (.aload_n 2, 1) := dTL_18.1.2.2.2.2.2.2.2.2.1
theorem dL_law_1825 : decode cL_law 1825 = .ok (.aload_n 0, 1) := dTL_18.1.2.2.2.2.2.2.2.2.2.1
theorem dL_law_1826 : decode cL_law 1826 = .ok (.iload 4, 2) := dTL_18.2.1.1
theorem dL_law_1828 : decode cL_law 1828 = .ok (.iconst 1, 1) := dTL_18.2.1.2.1
theorem dL_law_1829 : decode cL_law 1829 = .ok (.iadd, 1) := dTL_18.2.1.2.2.1
theorem dL_law_1830 : decode cL_law 1830 = .ok (.iaload, 1) := dTL_18.2.1.2.2.2.1
theorem dL_law_1831 : decode cL_law 1831 = .ok (.invokevirtual 309, 3) := dTL_18.2.1.2.2.2.2.1
theorem dL_law_1834 : decode cL_law 1834 = .ok (.istore 6, 2) := dTL_18.2.1.2.2.2.2.2.1
theorem dL_law_1836 : decode cL_law 1836 = .ok (.goto 154, 3) := dTL_18.2.1.2.2.2.2.2.2.1
theorem dL_law_1839 : decode cL_law 1839 = .ok (.aload_n 1, 1) := dTL_18.2.1.2.2.2.2.2.2.2.1
theorem dL_law_1840 : decode cL_law 1840 = .ok (.aload_n 0, 1) := dTL_18.2.1.2.2.2.2.2.2.2.2.1
theorem dL_law_1841 : decode cL_law 1841 = .ok (.iload 4, 2) := dTL_18.2.1.2.2.2.2.2.2.2.2.2.1
theorem dL_law_1843 : decode cL_law 1843 = .ok (.iconst 1, 1) := dTL_18.2.2.1.1
theorem dL_law_1844 : decode cL_law 1844 = .ok (.iadd, 1) := dTL_18.2.2.1.2.1
theorem dL_law_1845 : decode cL_law 1845 = .ok (.iaload, 1) := dTL_18.2.2.1.2.2.1
theorem dL_law_1846 : decode cL_law 1846 = .ok (.aload_n 3, 1) := dTL_18.2.2.1.2.2.2.1
theorem dL_law_1847 : decode cL_law 1847 = .ok (.invokestatic 310, 3) := dTL_18.2.2.1.2.2.2.2.1
theorem dL_law_1850 : decode cL_law 1850 = .ok (.istore 5, 2) := dTL_18.2.2.1.2.2.2.2.2.1
theorem dL_law_1852 : decode cL_law 1852 = .ok (.aload_n 2, 1) := dTL_18.2.2.1.2.2.2.2.2.2.1
theorem dL_law_1853 : decode cL_law 1853 = .ok (.aload_n 0, 1) := dTL_18.2.2.1.2.2.2.2.2.2.2.1
theorem dL_law_1854 : decode cL_law 1854 = .ok (.iload 4, 2) := dTL_18.2.2.1.2.2.2.2.2.2.2.2.1
theorem dL_law_1856 : decode cL_law 1856 = .ok (.iconst 1, 1) := dTL_18.2.2.1.2.2.2.2.2.2.2.2.2.1
theorem dL_law_1857 : decode cL_law 1857 = .ok (.iadd, 1) := dTL_18.2.2.2.1.1
theorem dL_law_1858 : decode cL_law 1858 = .ok (.iaload, 1) := dTL_18.2.2.2.1.2.1
theorem dL_law_1859 : decode cL_law 1859 = .ok (.invokevirtual 312, 3) := dTL_18.2.2.2.1.2.2.1
theorem dL_law_1862 : decode cL_law 1862 = .ok (.istore 6, 2) := dTL_18.2.2.2.1.2.2.2.1
theorem dL_law_1864 : decode cL_law 1864 = .ok (.goto 126, 3) := dTL_18.2.2.2.1.2.2.2.2.1
theorem dL_law_1867 : decode cL_law 1867 = .ok (.aload_n 1, 1) := dTL_18.2.2.2.1.2.2.2.2.2.1
theorem dL_law_1868 : decode cL_law 1868 = .ok (.aload_n 0, 1) := dTL_18.2.2.2.1.2.2.2.2.2.2.1
theorem dL_law_1869 : decode cL_law 1869 = .ok (.iload 4, 2) := dTL_18.2.2.2.1.2.2.2.2.2.2.2.1
theorem dL_law_1871 : decode cL_law 1871 = .ok (.iconst 1, 1) := dTL_18.2.2.2.1.2.2.2.2.2.2.2.2.1
theorem dL_law_1872 : decode cL_law 1872 = .ok (.iadd, 1) := dTL_18.2.2.2.1.2.2.2.2.2.2.2.2.2.1
theorem dL_law_1873 : decode cL_law 1873 = .ok (.iaload, 1) := dTL_18.2.2.2.2.1.1
theorem dL_law_1874 : decode cL_law 1874 = .ok (.aload_n 3, 1) := dTL_18.2.2.2.2.1.2.1
theorem dL_law_1875 : decode cL_law 1875 = .ok (.invokestatic 313, 3) := dTL_18.2.2.2.2.1.2.2.1
theorem dL_law_1878 : decode cL_law 1878 = .ok (.istore 5, 2) := dTL_18.2.2.2.2.1.2.2.2.1
theorem dL_law_1880 : decode cL_law 1880 = .ok (.aload_n 2, 1) := dTL_18.2.2.2.2.1.2.2.2.2.1
theorem dL_law_1881 : decode cL_law 1881 = .ok (.aload_n 0, 1) := dTL_18.2.2.2.2.1.2.2.2.2.2.1
theorem dL_law_1882 : decode cL_law 1882 = .ok (.iload 4, 2) := dTL_18.2.2.2.2.1.2.2.2.2.2.2.1
theorem dL_law_1884 : decode cL_law 1884 = .ok (.iconst 1, 1) := dTL_18.2.2.2.2.1.2.2.2.2.2.2.2.1
theorem dL_law_1885 : decode cL_law 1885 = .ok (.iadd, 1) := dTL_18.2.2.2.2.1.2.2.2.2.2.2.2.2.1
theorem dL_law_1886 : decode cL_law 1886 = .ok (.iaload, 1) := dTL_18.2.2.2.2.1.2.2.2.2.2.2.2.2.2.1
theorem dL_law_1887 : decode cL_law 1887 = .ok (.invokevirtual 315, 3) := dTL_18.2.2.2.2.2.1.1
theorem dL_law_1890 : decode cL_law 1890 = .ok (.istore 6, 2) := dTL_18.2.2.2.2.2.1.2.1
theorem dL_law_1892 : decode cL_law 1892 = .ok (.goto 98, 3) := dTL_18.2.2.2.2.2.1.2.2.1
theorem dL_law_1895 : decode cL_law 1895 = .ok (.aload_n 1, 1) := dTL_18.2.2.2.2.2.1.2.2.2.1
theorem dL_law_1896 : decode cL_law 1896 = .ok (.aload_n 0, 1) := dTL_18.2.2.2.2.2.1.2.2.2.2.1
theorem dL_law_1897 : decode cL_law 1897 = .ok (.iload 4, 2) := dTL_18.2.2.2.2.2.1.2.2.2.2.2.1
theorem dL_law_1899 : decode cL_law 1899 = .ok (.iconst 1, 1) := dTL_18.2.2.2.2.2.1.2.2.2.2.2.2.1
theorem dL_law_1900 : decode cL_law 1900 = .ok (.iadd, 1) := dTL_18.2.2.2.2.2.1.2.2.2.2.2.2.2.1
theorem dL_law_1901 : decode cL_law 1901 = .ok (.iaload, 1) := dTL_18.2.2.2.2.2.1.2.2.2.2.2.2.2.2.1
theorem dL_law_1902 : decode cL_law 1902 = .ok (.aload_n 3, 1) := dTL_18.2.2.2.2.2.1.2.2.2.2.2.2.2.2.2.1
theorem dTL_19 : dQ cL_law [[(1903, zop184, 1, 60), (1906, zop54, 5, 0), (1908, zop44, 0, 0), (1909, zop42, 0, 0), (1910, zop21, 4, 0), (1912, zop4, 0, 0), (1913, zop96, 0, 0), (1914, zop46, 0, 0), (1915, zop182, 1, 62), (1918, zop54, 6, 0)], [(1920, zop167, 0, 70), (1923, zop43, 0, 0), (1924, zop42, 0, 0), (1925, zop21, 4, 0), (1927, zop4, 0, 0), (1928, zop96, 0, 0), (1929, zop46, 0, 0), (1930, zop45, 0, 0), (1931, zop184, 1, 63), (1934, zop54, 5, 0)], [(1936, zop44, 0, 0), (1937, zop42, 0, 0), (1938, zop21, 4, 0), (1940, zop4, 0, 0), (1941, zop96, 0, 0), (1942, zop46, 0, 0), (1943, zop182, 1, 65), (1946, zop54, 6, 0), (1948, zop167, 0, 42), (1951, zop43, 0, 0)], [(1952, zop182, 1, 66), (1955, zop87, 0, 0), (1956, zop44, 0, 0), (1957, zop182, 1, 69), (1960, zop87, 0, 0), (1961, zop167, 0, 29), (1964, zop43, 0, 0), (1965, zop182, 1, 70), (1968, zop87, 0, 0), (1969, zop44, 0, 0)], [(1970, zop182, 1, 74), (1973, zop87, 0, 0), (1974, zop167, 0, 16), (1977, zop43, 0, 0), (1978, zop182, 1, 75), (1981, zop88, 0, 0), (1982, zop44, 0, 0), (1983, zop182, 1, 79), (1986, zop88, 0, 0), (1987, zop167, 0, 3)], [(1990, zop132, 4, 4), (1993, zop167, 248, 82), (1996, zop4, 0, 0), (1997, zop172, 0, 0)]] := dQ_of _ _ (by decide +kernel)
theorem dL_law_1903 : decode cL_law 1903 = .ok (.invokestatic 316, 3) := dTL_19.1.1
theorem dL_law_1906 : decode cL_law 1906 = .ok (.istore 5, 2) := dTL_19.1.2.1
theorem dL_law_1908 : decode cL_law 1908 = .ok (.aload_n 2, 1) := dTL_19.1.2.2.1
theorem dL_law_1909 : decode cL_law 1909 = .ok (.aload_n 0, 1) := dTL_19.1.2.2.2.1
theorem dL_law_1910 : decode cL_law 1910 = .ok (.iload 4, 2) := dTL_19.1.2.2.2.2.1
theorem dL_law_1912 : decode cL_law 1912 = .ok (.iconst 1, 1) := dTL_19.1.2.2.2.2.2.1
theorem dL_law_1913 : decode cL_law 1913 = .ok (.iadd, 1) := dTL_19.1.2.2.2.2.2.2.1
theorem dL_law_1914 : decode cL_law 1914 = .ok (.iaload, 1) := dTL_19.1.2.2.2.2.2.2.2.1
theorem dL_law_1915 : decode cL_law 1915 = .ok (.invokevirtual 318, 3) := dTL_19.1.2.2.2.2.2.2.2.2.1
theorem dL_law_1918 : decode cL_law 1918 = .ok (.istore 6, 2) := dTL_19.1.2.2.2.2.2.2.2.2.2.1
theorem dL_law_1920 : decode cL_law 1920 = .ok (.goto 70, 3) := dTL_19.2.1.1
theorem dL_law_1923 : decode cL_law 1923 = .ok (.aload_n 1, 1) := dTL_19.2.1.2.1
theorem dL_law_1924 : decode cL_law 1924 = .ok (.aload_n 0, 1) := dTL_19.2.1.2.2.1
theorem dL_law_1925 : decode cL_law 1925 = .ok (.iload 4, 2) := dTL_19.2.1.2.2.2.1
theorem dL_law_1927 : decode cL_law 1927 = .ok (.iconst 1, 1) := dTL_19.2.1.2.2.2.2.1
theorem dL_law_1928 : decode cL_law 1928 = .ok (.iadd, 1) := dTL_19.2.1.2.2.2.2.2.1
theorem dL_law_1929 : decode cL_law 1929 = .ok (.iaload, 1) := dTL_19.2.1.2.2.2.2.2.2.1
theorem dL_law_1930 : decode cL_law 1930 = .ok (.aload_n 3, 1) := dTL_19.2.1.2.2.2.2.2.2.2.1
theorem dL_law_1931 : decode cL_law 1931 = .ok (.invokestatic 319, 3) := dTL_19.2.1.2.2.2.2.2.2.2.2.1
theorem dL_law_1934 : decode cL_law 1934 = .ok (.istore 5, 2) := dTL_19.2.1.2.2.2.2.2.2.2.2.2.1
theorem dL_law_1936 : decode cL_law 1936 = .ok (.aload_n 2, 1) := dTL_19.2.2.1.1
theorem dL_law_1937 : decode cL_law 1937 = .ok (.aload_n 0, 1) := dTL_19.2.2.1.2.1
theorem dL_law_1938 : decode cL_law 1938 = .ok (.iload 4, 2) := dTL_19.2.2.1.2.2.1
theorem dL_law_1940 : decode cL_law 1940 = .ok (.iconst 1, 1) := dTL_19.2.2.1.2.2.2.1
theorem dL_law_1941 : decode cL_law 1941 = .ok (.iadd, 1) := dTL_19.2.2.1.2.2.2.2.1
theorem dL_law_1942 : decode cL_law 1942 = .ok (.iaload, 1) := dTL_19.2.2.1.2.2.2.2.2.1
theorem dL_law_1943 : decode cL_law 1943 = .ok (.invokevirtual 321, 3) := dTL_19.2.2.1.2.2.2.2.2.2.1
theorem dL_law_1946 : decode cL_law 1946 = .ok (.istore 6, 2) := dTL_19.2.2.1.2.2.2.2.2.2.2.1
theorem dL_law_1948 : decode cL_law 1948 = .ok (.goto 42, 3) := dTL_19.2.2.1.2.2.2.2.2.2.2.2.1
theorem dL_law_1951 : decode cL_law 1951 = .ok (.aload_n 1, 1) := dTL_19.2.2.1.2.2.2.2.2.2.2.2.2.1
theorem dL_law_1952 : decode cL_law 1952 = .ok (.invokevirtual 322, 3) := dTL_19.2.2.2.1.1
theorem dL_law_1955 : decode cL_law 1955 = .ok (.pop, 1) := dTL_19.2.2.2.1.2.1
theorem dL_law_1956 : decode cL_law 1956 = .ok (.aload_n 2, 1) := dTL_19.2.2.2.1.2.2.1
theorem dL_law_1957 : decode cL_law 1957 = .ok (.invokevirtual 325, 3) := dTL_19.2.2.2.1.2.2.2.1
theorem dL_law_1960 : decode cL_law 1960 = .ok (.pop, 1) := dTL_19.2.2.2.1.2.2.2.2.1
theorem dL_law_1961 : decode cL_law 1961 = .ok (.goto 29, 3) := dTL_19.2.2.2.1.2.2.2.2.2.1
theorem dL_law_1964 : decode cL_law 1964 = .ok (.aload_n 1, 1) := dTL_19.2.2.2.1.2.2.2.2.2.2.1
theorem dL_law_1965 : decode cL_law 1965 = .ok (.invokevirtual 326, 3) := dTL_19.2.2.2.1.2.2.2.2.2.2.2.1
theorem dL_law_1968 : decode cL_law 1968 = .ok (.pop, 1) := dTL_19.2.2.2.1.2.2.2.2.2.2.2.2.1
theorem dL_law_1969 : decode cL_law 1969 = .ok (.aload_n 2, 1) := dTL_19.2.2.2.1.2.2.2.2.2.2.2.2.2.1
theorem dL_law_1970 : decode cL_law 1970 = .ok (.invokevirtual 330, 3) := dTL_19.2.2.2.2.1.1
theorem dL_law_1973 : decode cL_law 1973 = .ok (.pop, 1) := dTL_19.2.2.2.2.1.2.1
theorem dL_law_1974 : decode cL_law 1974 = .ok (.goto 16, 3) := dTL_19.2.2.2.2.1.2.2.1
theorem dL_law_1977 : decode cL_law 1977 = .ok (.aload_n 1, 1) := dTL_19.2.2.2.2.1.2.2.2.1
theorem dL_law_1978 : decode cL_law 1978 = .ok (.invokevirtual 331, 3) := dTL_19.2.2.2.2.1.2.2.2.2.1
theorem dL_law_1981 : decode cL_law 1981 = .ok (.pop2, 1) := dTL_19.2.2.2.2.1.2.2.2.2.2.1
theorem dL_law_1982 : decode cL_law 1982 = .ok (.aload_n 2, 1) := dTL_19.2.2.2.2.1.2.2.2.2.2.2.1
theorem dL_law_1983 : decode cL_law 1983 = .ok (.invokevirtual 335, 3) := dTL_19.2.2.2.2.1.2.2.2.2.2.2.2.1
theorem dL_law_1986 : decode cL_law 1986 = .ok (.pop2, 1) := dTL_19.2.2.2.2.1.2.2.2.2.2.2.2.2.1
theorem dL_law_1987 : decode cL_law 1987 = .ok (.goto 3, 3) := dTL_19.2.2.2.2.1.2.2.2.2.2.2.2.2.2.1
theorem dL_law_1990 : decode cL_law 1990 = .ok (.iinc 4 4, 3) := dTL_19.2.2.2.2.2.1.1
theorem dL_law_1993 : decode cL_law 1993 = .ok (.goto (-1966), 3) := dTL_19.2.2.2.2.2.1.2.1
theorem dL_law_1996 : decode cL_law 1996 = .ok (.iconst 1, 1) := dTL_19.2.2.2.2.2.1.2.2.1
theorem dL_law_1997 : decode cL_law 1997 = .ok (.ireturn, 1) := dTL_19.2.2.2.2.2.1.2.2.2.1
