theorem dTL_0 : dQ cL_law [[(0, .new 8, 3), (3, .dup, 1), (4, .invokespecial 166, 3), (7, .astore_n 1, 1), (8, .new 167, 3), (11, .dup, 1), (12, .invokespecial 169, 3), (15, .astore_n 2, 1), (16, .new 14, 3), (19, .dup, 1)], [(20, .invokespecial 170, 3), (23, .astore_n 3, 1), (24, .iconst 0, 1), (25, .istore 4, 2), (27, .iload 4, 2), (29, .aload_n 0, 1), (30, .arraylength, 1), (31, .iconst 4, 1), (32, .isub, 1), (33, .if_icmp .gt 1963, 3)], [(36, .aload_n 0, 1), (37, .iload 4, 2), (39, .iaload, 1), (40, .bipush 63, 2), (42, .iand, 1), (43, .tableswitch 1947 0 48 #[209, 249, 334, 390, 430, 443, 483, 523, 563, 591, 631, 671, 711, 739, 791, 843, 899, 912, 940, 968, 996, 1024, 1052, 1092, 1120, 1148, 1176, 1204, 1232, 1272, 1312, 1352, 1392, 1432, 1488, 1516, 1556, 1608, 1660, 1712, 1740, 1768, 1796, 1824, 1852, 1880, 1908, 1921, 1934], 209), (252, .aload_n 1, 1), (253, .aload_n 0, 1), (254, .iload 4, 2), (256, .iconst 1, 1)], [(257, .iadd, 1), (258, .iaload, 1), (259, .aload_n 0, 1), (260, .iload 4, 2), (262, .iconst 2, 1), (263, .iadd, 1), (264, .iaload, 1), (265, .aload_n 3, 1), (266, .invokestatic 171, 3), (269, .istore 5, 2)], [(271, .aload_n 2, 1), (272, .aload_n 0, 1), (273, .iload 4, 2), (275, .iconst 1, 1), (276, .iadd, 1), (277, .iaload, 1), (278, .aload_n 0, 1), (279, .iload 4, 2), (281, .iconst 2, 1), (282, .iadd, 1)], [(283, .iaload, 1), (284, .invokevirtual 176, 3), (287, .istore 6, 2), (289, .goto 1701, 3), (292, .aload_n 1, 1), (293, .aload_n 0, 1), (294, .iload 4, 2), (296, .iconst 1, 1), (297, .iadd, 1), (298, .iaload, 1)]] := dQ_of _ _ (by decide +kernel)
theorem dL_law_0 : decode cL_law 0 = .ok (.new 8, 3) := dTL_0.1.1
theorem dL_law_3 : decode cL_law 3 = .ok (.dup, 1) := dTL_0.1.2.1
theorem dL_law_4 : decode cL_law 4 = .ok (.invokespecial 166, 3) := dTL_0.1.2.2.1
theorem dL_law_7 : decode cL_law 7 = .ok (.astore_n 1, 1) := dTL_0.1.2.2.2.1
theorem dL_law_8 : decode cL_law 8 = .ok (.new 167, 3) := dTL_0.1.2.2.2.2.1
theorem dL_law_11 : decode cL_law 11 = .ok (.dup, 1) := dTL_0.1.2.2.2.2.2.1
theorem dL_law_12 : decode cL_law 12 = .ok (.invokespecial 169, 3) := dTL_0.1.2.2.2.2.2.2.1
theorem dL_law_15 : decode cL_law 15 = .ok (.astore_n 2, 1) := dTL_0.1.2.2.2.2.2.2.2.1
theorem dL_law_16 : decode cL_law 16 = .ok (.new 14, 3) := dTL_0.1.2.2.2.2.2.2.2.2.1
theorem dL_law_19 : decode cL_law 19 = .ok (.dup, 1) := dTL_0.1.2.2.2.2.2.2.2.2.2.1
theorem dL_law_20 : decode cL_law 20 = .ok (.invokespecial 170, 3) := dTL_0.2.1.1
theorem dL_law_23 : decode cL_law 23 = .ok (.astore_n 3, 1) := dTL_0.2.1.2.1
theorem dL_law_24 : decode cL_law 24 = .ok (.iconst 0, 1) := dTL_0.2.1.2.2.1
theorem dL_law_25 : decode cL_law 25 = .ok (.istore 4, 2) := dTL_0.2.1.2.2.2.1
theorem dL_law_27 : decode cL_law 27 = .ok (.iload 4, 2) := dTL_0.2.1.2.2.2.2.1
theorem dL_law_29 : decode cL_law 29 = .ok (.aload_n 0, 1) := dTL_0.2.1.2.2.2.2.2.1
theorem dL_law_30 : decode cL_law 30 = .ok (.arraylength, 1) := dTL_0.2.1.2.2.2.2.2.2.1
theorem dL_law_31 : decode cL_law 31 = .ok (.iconst 4, 1) := dTL_0.2.1.2.2.2.2.2.2.2.1
theorem dL_law_32 : decode cL_law 32 = .ok (.isub, 1) := dTL_0.2.1.2.2.2.2.2.2.2.2.1
theorem dL_law_33 : decode cL_law 33 = .ok (.if_icmp .gt 1963, 3) := dTL_0.2.1.2.2.2.2.2.2.2.2.2.1
theorem dL_law_36 : decode cL_law 36 = .ok (.aload_n 0, 1) := dTL_0.2.2.1.1
theorem dL_law_37 : decode cL_law 37 = .ok (.iload 4, 2) := dTL_0.2.2.1.2.1
theorem dL_law_39 : decode cL_law 39 = .ok (.iaload, 1) := dTL_0.2.2.1.2.2.1
theorem dL_law_40 : decode cL_law 40 = .ok (.bipush 63, 2) := dTL_0.2.2.1.2.2.2.1
theorem dL_law_42 : decode cL_law 42 = .ok (.iand, 1) := dTL_0.2.2.1.2.2.2.2.1
theorem dL_law_43 : decode cL_law 43 = .ok (.tableswitch 1947 0 48 #[209, 249, 334, 390, 430, 443, 483, 523, 563, 591, 631, 671, 711, 739, 791, 843, 899, 912, 940, 968, 996, 1024, 1052, 1092, 1120, 1148, 1176, 1204, 1232, 1272, 1312, 1352, 1392, 1432, 1488, 1516, 1556, 1608, 1660, 1712, 1740, 1768, 1796, 1824, 1852, 1880, 1908, 1921, 1934], 209) := dTL_0.2.2.1.2.2.2.2.2.1
theorem dL_law_252 : decode cL_law 252 = .ok (.aload_n 1, 1) := dTL_0.2.2.1.2.2.2.2.2.2.1
theorem dL_law_253 : decode cL_law 253 = .ok (.aload_n 0, 1) := dTL_0.2.2.1.2.2.2.2.2.2.2.1
theorem dL_law_254 : decode cL_law 254 = .ok (.iload 4, 2) := dTL_0.2.2.1.2.2.2.2.2.2.2.2.1
theorem dL_law_256 : decode cL_law 256 = .ok (.iconst 1, 1) := dTL_0.2.2.1.2.2.2.2.2.2.2.2.2.1
theorem dL_law_257 : decode cL_law 257 = .ok (.iadd, 1) := dTL_0.2.2.2.1.1
theorem dL_law_258 : decode cL_law 258 = .ok (.iaload, 1) := dTL_0.2.2.2.1.2.1
theorem dL_law_259 : decode cL_law 259 = .ok (.aload_n 0, 1) := dTL_0.2.2.2.1.2.2.1
theorem dL_law_260 : decode cL_law 260 = .ok (.iload 4, 2) := dTL_0.2.2.2.1.2.2.2.1
theorem dL_law_262 : decode cL_law 262 = .ok (.iconst 2, 1) := dTL_0.2.2.2.1.2.2.2.2.1
theorem dL_law_263 : decode cL_law 263 = .ok (.iadd, 1) := dTL_0.2.2.2.1.2.2.2.2.2.1
theorem dL_law_264 : decode cL_law 264 = .ok (.iaload, 1) := dTL_0.2.2.2.1.2.2.2.2.2.2.1
theorem dL_law_265 : decode cL_law 265 = .ok (.aload_n 3, 1) := dTL_0.2.2.2.1.2.2.2.2.2.2.2.1
theorem dL_law_266 : decode cL_law 266 = .ok (.invokestatic 171, 3) := dTL_0.2.2.2.1.2.2.2.2.2.2.2.2.1
theorem dL_law_269 : decode cL_law 269 = .ok (.istore 5, 2) := dTL_0.2.2.2.1.2.2.2.2.2.2.2.2.2.1
theorem dL_law_271 : decode cL_law 271 = .ok (.aload_n 2, 1) := dTL_0.2.2.2.2.1.1
theorem dL_law_272 : decode cL_law 272 = .ok (.aload_n 0, 1) := dTL_0.2.2.2.2.1.2.1
theorem dL_law_273 : decode cL_law 273 = .ok (.iload 4, 2) := dTL_0.2.2.2.2.1.2.2.1
theorem dL_law_275 : decode cL_law 275 = .ok (.iconst 1, 1) := dTL_0.2.2.2.2.1.2.2.2.1
theorem dL_law_276 : decode cL_law 276 = .ok (.iadd, 1) := dTL_0.2.2.2.2.1.2.2.2.2.1
theorem dL_law_277 : decode cL_law 277 = .ok (.iaload, 1) := dTL_0.2.2.2.2.1.2.2.2.2.2.1
theorem dL_law_278 : decode cL_law 278 = .ok (.aload_n 0, 1) := dTL_0.2.2.2.2.1.2.2.2.2.2.2.1
theorem dL_law_279 : decode cL_law 279 = .ok (.iload 4, 2) := dTL_0.2.2.2.2.1.2.2.2.2.2.2.2.1
theorem dL_law_281 : decode cL_law 281 = .ok (.iconst 2, 1) := dTL_0.2.2.2.2.1.2.2.2.2.2.2.2.2.1
theorem dL_law_282 : decode cL_law 282 = .ok (.iadd, 1) := dTL_0.2.2.2.2.1.2.2.2.2.2.2.2.2.2.1
theorem dL_law_283 : decode cL_law 283 = .ok (.iaload, 1) := dTL_0.2.2.2.2.2.1.1
theorem dL_law_284 : decode cL_law 284 = .ok (.invokevirtual 176, 3) := dTL_0.2.2.2.2.2.1.2.1
theorem dL_law_287 : decode cL_law 287 = .ok (.istore 6, 2) := dTL_0.2.2.2.2.2.1.2.2.1
theorem dL_law_289 : decode cL_law 289 = .ok (.goto 1701, 3) := dTL_0.2.2.2.2.2.1.2.2.2.1
theorem dL_law_292 : decode cL_law 292 = .ok (.aload_n 1, 1) := dTL_0.2.2.2.2.2.1.2.2.2.2.1
theorem dL_law_293 : decode cL_law 293 = .ok (.aload_n 0, 1) := dTL_0.2.2.2.2.2.1.2.2.2.2.2.1
theorem dL_law_294 : decode cL_law 294 = .ok (.iload 4, 2) := dTL_0.2.2.2.2.2.1.2.2.2.2.2.2.1
theorem dL_law_296 : decode cL_law 296 = .ok (.iconst 1, 1) := dTL_0.2.2.2.2.2.1.2.2.2.2.2.2.2.1
theorem dL_law_297 : decode cL_law 297 = .ok (.iadd, 1) := dTL_0.2.2.2.2.2.1.2.2.2.2.2.2.2.2.1
theorem dL_law_298 : decode cL_law 298 = .ok (.iaload, 1) := dTL_0.2.2.2.2.2.1.2.2.2.2.2.2.2.2.2.1
theorem dTL_1 : dQ cL_law [[(299, .aload_n 0, 1), (300, .iload 4, 2), (302, .iconst 2, 1), (303, .iadd, 1), (304, .iaload, 1), (305, .ifCond .eq 7, 3), (308, .iconst 1, 1), (309, .goto 4, 3), (312, .iconst 0, 1), (313, .aload_n 3, 1)], [(314, .invokestatic 177, 3), (317, .istore 5, 2), (319, .aload_n 2, 1), (320, .aload_n 0, 1), (321, .iload 4, 2), (323, .iconst 1, 1), (324, .iadd, 1), (325, .iaload, 1), (326, .aload_n 0, 1), (327, .iload 4, 2)], [(329, .iconst 2, 1), (330, .iadd, 1), (331, .iaload, 1), (332, .ifCond .eq 7, 3), (335, .iconst 1, 1), (336, .goto 4, 3), (339, .iconst 0, 1), (340, .invokevirtual 180, 3), (343, .istore 6, 2), (345, .aload_n 2, 1)], [(346, .invokevirtual 181, 3), (349, .iload 5, 2), (351, .if_icmp .eq 5, 3), (354, .iconst 0, 1), (355, .ireturn, 1), (356, .iload 5, 2), (358, .ifCond .ne 16, 3), (361, .aload_n 3, 1), (362, .getfield 13, 3), (365, .iload 6, 2)], [(367, .i2l, 1), (368, .lcmp, 1), (369, .ifCond .eq 5, 3), (372, .iconst 0, 1), (373, .ireturn, 1), (374, .goto 1616, 3), (377, .aload_n 1, 1), (378, .aload_n 0, 1), (379, .iload 4, 2), (381, .iconst 1, 1)], [(382, .iadd, 1), (383, .iaload, 1), (384, .aload_n 0, 1), (385, .iload 4, 2), (387, .iconst 2, 1), (388, .iadd, 1), (389, .iaload, 1), (390, .ifCond .eq 7, 3), (393, .iconst 1, 1), (394, .goto 4, 3)]] := dQ_of _ _ (by decide +kernel)
theorem dL_law_299 : decode cL_law 299 = .ok (.aload_n 0, 1) := dTL_1.1.1
theorem dL_law_300 : decode cL_law 300 = .ok (.iload 4, 2) := dTL_1.1.2.1
theorem dL_law_302 : decode cL_law 302 = .ok (.iconst 2, 1) := dTL_1.1.2.2.1
theorem dL_law_303 : decode cL_law 303 = .ok (.iadd, 1) := dTL_1.1.2.2.2.1
theorem dL_law_304 : decode cL_law 304 = .ok (.iaload, 1) := dTL_1.1.2.2.2.2.1
theorem dL_law_305 : decode cL_law 305 = .ok (.ifCond .eq 7, 3) := dTL_1.1.2.2.2.2.2.1
theorem dL_law_308 : decode cL_law 308 = .ok (.iconst 1, 1) := dTL_1.1.2.2.2.2.2.2.1
theorem dL_law_309 : decode cL_law 309 = .ok (.goto 4, 3) := dTL_1.1.2.2.2.2.2.2.2.1
theorem dL_law_312 : decode cL_law 312 = .ok (.iconst 0, 1) := dTL_1.1.2.2.2.2.2.2.2.2.1
theorem dL_law_313 : decode cL_law 313 = .ok (.aload_n 3, 1) := dTL_1.1.2.2.2.2.2.2.2.2.2.1
theorem dL_law_314 : decode cL_law 314 = .ok (.invokestatic 177, 3) := dTL_1.2.1.1
theorem dL_law_317 : decode cL_law 317 = .ok (.istore 5, 2) := dTL_1.2.1.2.1
theorem dL_law_319 : decode cL_law 319 = .ok (.aload_n 2, 1) := dTL_1.2.1.2.2.1
theorem dL_law_320 : decode cL_law 320 = .ok (.aload_n 0, 1) := dTL_1.2.1.2.2.2.1
theorem dL_law_321 : decode cL_law 321 = .ok (.iload 4, 2) := dTL_1.2.1.2.2.2.2.1
theorem dL_law_323 : decode cL_law 323 = .ok (.iconst 1, 1) := dTL_1.2.1.2.2.2.2.2.1
theorem dL_law_324 : decode cL_law 324 = .ok (.iadd, 1) := dTL_1.2.1.2.2.2.2.2.2.1
theorem dL_law_325 : decode cL_law 325 = .ok (.iaload, 1) := dTL_1.2.1.2.2.2.2.2.2.2.1
theorem dL_law_326 : decode cL_law 326 = .ok (.aload_n 0, 1) := dTL_1.2.1.2.2.2.2.2.2.2.2.1
theorem dL_law_327 : decode cL_law 327 = .ok (.iload 4, 2) := dTL_1.2.1.2.2.2.2.2.2.2.2.2.1
theorem dL_law_329 : decode cL_law 329 = .ok (.iconst 2, 1) := dTL_1.2.2.1.1
theorem dL_law_330 : decode cL_law 330 = .ok (.iadd, 1) := dTL_1.2.2.1.2.1
theorem dL_law_331 : decode cL_law 331 = .ok (.iaload, 1) := dTL_1.2.2.1.2.2.1
theorem dL_law_332 : decode cL_law 332 = .ok (.ifCond .eq 7, 3) := dTL_1.2.2.1.2.2.2.1
theorem dL_law_335 : decode cL_law 335 = .ok (.iconst 1, 1) := dTL_1.2.2.1.2.2.2.2.1
theorem dL_law_336 : decode cL_law 336 = .ok (.goto 4, 3) := dTL_1.2.2.1.2.2.2.2.2.1
theorem dL_law_339 : decode cL_law 339 = .ok (.iconst 0, 1) := dTL_1.2.2.1.2.2.2.2.2.2.1
theorem dL_law_340 : decode cL_law 340 = .ok (.invokevirtual 180, 3) := dTL_1.2.2.1.2.2.2.2.2.2.2.1
theorem dL_law_343 : decode cL_law 343 = .ok (.istore 6, 2) := dTL_1.2.2.1.2.2.2.2.2.2.2.2.1
theorem dL_law_345 : decode cL_law 345 = .ok (.aload_n 2, 1) := dTL_1.2.2.1.2.2.2.2.2.2.2.2.2.1
theorem dL_law_346 : decode cL_law 346 = .ok (.invokevirtual 181, 3) := dTL_1.2.2.2.1.1
theorem dL_law_349 : decode cL_law 349 = .ok (.iload 5, 2) := dTL_1.2.2.2.1.2.1
theorem dL_law_351 : decode cL_law 351 = .ok (.if_icmp .eq 5, 3) := dTL_1.2.2.2.1.2.2.1
theorem dL_law_354 : decode cL_law 354 = .ok (.iconst 0, 1) := dTL_1.2.2.2.1.2.2.2.1
theorem dL_law_355 : decode cL_law 355 = .ok (.ireturn, 1) := dTL_1.2.2.2.1.2.2.2.2.1
theorem dL_law_356 : decode cL_law 356 = .ok (.iload 5, 2) := dTL_1.2.2.2.1.2.2.2.2.2.1
theorem dL_law_358 : decode cL_law 358 = .ok (.ifCond .ne 16, 3) := dTL_1.2.2.2.1.2.2.2.2.2.2.1
theorem dL_law_361 : decode cL_law 361 = .ok (.aload_n 3, 1) := dTL_1.2.2.2.1.2.2.2.2.2.2.2.1
theorem dL_law_362 : decode cL_law 362 = .ok (.getfield 13, 3) := dTL_1.2.2.2.1.2.2.2.2.2.2.2.2.1
theorem dL_law_365 : decode cL_law 365 = .ok (.iload 6, 2) := dTL_1.2.2.2.1.2.2.2.2.2.2.2.2.2.1
theorem dL_law_367 : decode cL_law 367 = .ok (.i2l, 1) := dTL_1.2.2.2.2.1.1
theorem dL_law_368 : decode cL_law 368 = .ok (.lcmp, 1) := dTL_1.2.2.2.2.1.2.1
theorem dL_law_369 : decode cL_law 369 = .ok (.ifCond .eq 5, 3) := dTL_1.2.2.2.2.1.2.2.1
theorem dL_law_372 : decode cL_law 372 = .ok (.iconst 0, 1) := dTL_1.2.2.2.2.1.2.2.2.1
theorem dL_law_373 : decode cL_law 373 = .ok (.ireturn, 1) := dTL_1.2.2.2.2.1.2.2.2.2.1
theorem dL_law_374 : decode cL_law 374 = .ok (.goto 1616, 3) := dTL_1.2.2.2.2.1.2.2.2.2.2.1
theorem dL_law_377 : decode cL_law 377 = .ok (.aload_n 1, 1) := dTL_1.2.2.2.2.1.2.2.2.2.2.2.1
theorem dL_law_378 : decode cL_law 378 = .ok (.aload_n 0, 1) := dTL_1.2.2.2.2.1.2.2.2.2.2.2.2.1
theorem dL_law_379 : decode cL_law 379 = .ok (.iload 4, 2) := dTL_1.2.2.2.2.1.2.2.2.2.2.2.2.2.1
theorem dL_law_381 : decode cL_law 381 = .ok (.iconst 1, 1) := dTL_1.2.2.2.2.1.2.2.2.2.2.2.2.2.2.1
theorem dL_law_382 : decode cL_law 382 = .ok (.iadd, 1) := dTL_1.2.2.2.2.2.1.1
theorem dL_law_383 : decode cL_law 383 = .ok (.iaload, 1) := dTL_1.2.2.2.2.2.1.2.1
theorem dL_law_384 : decode cL_law 384 = .ok (.aload_n 0, 1) := dTL_1.2.2.2.2.2.1.2.2.1
theorem dL_law_385 : decode cL_law 385 = .ok (.iload 4, 2) := dTL_1.2.2.2.2.2.1.2.2.2.1
theorem dL_law_387 : decode cL_law 387 = .ok (.iconst 2, 1) := dTL_1.2.2.2.2.2.1.2.2.2.2.1
theorem dL_law_388 : decode cL_law 388 = .ok (.iadd, 1) := dTL_1.2.2.2.2.2.1.2.2.2.2.2.1
theorem dL_law_389 : decode cL_law 389 = .ok (.iaload, 1) := dTL_1.2.2.2.2.2.1.2.2.2.2.2.2.1
theorem dL_law_390 : decode cL_law 390 = .ok (.ifCond .eq 7, 3) := dTL_1.2.2.2.2.2.1.2.2.2.2.2.2.2.1
theorem dL_law_393 : decode cL_law 393 = .ok (.iconst 1, 1) := dTL_1.2.2.2.2.2.1.2.2.2.2.2.2.2.2.1
theorem dL_law_394 : decode cL_law 394 = .ok (.goto 4, 3) := dTL_1.2.2.2.2.2.1.2.2.2.2.2.2.2.2.2.1
theorem dTL_2 : dQ cL_law [[(397, .iconst 0, 1), (398, .aload_n 3, 1), (399, .invokestatic 185, 3), (402, .istore 5, 2), (404, .aload_n 2, 1), (405, .aload_n 0, 1), (406, .iload 4, 2), (408, .iconst 1, 1), (409, .iadd, 1), (410, .iaload, 1)], [(411, .aload_n 0, 1), (412, .iload 4, 2), (414, .iconst 2, 1), (415, .iadd, 1), (416, .iaload, 1), (417, .ifCond .eq 7, 3), (420, .iconst 1, 1), (421, .goto 4, 3), (424, .iconst 0, 1), (425, .invokevirtual 187, 3)], [(428, .istore 6, 2), (430, .goto 1560, 3), (433, .aload_n 1, 1), (434, .aload_n 0, 1), (435, .iload 4, 2), (437, .iconst 1, 1), (438, .iadd, 1), (439, .iaload, 1), (440, .aload_n 0, 1), (441, .iload 4, 2)], [(443, .iconst 2, 1), (444, .iadd, 1), (445, .iaload, 1), (446, .aload_n 3, 1), (447, .invokestatic 188, 3), (450, .istore 5, 2), (452, .aload_n 2, 1), (453, .aload_n 0, 1), (454, .iload 4, 2), (456, .iconst 1, 1)], [(457, .iadd, 1), (458, .iaload, 1), (459, .aload_n 0, 1), (460, .iload 4, 2), (462, .iconst 2, 1), (463, .iadd, 1), (464, .iaload, 1), (465, .invokevirtual 190, 3), (468, .istore 6, 2), (470, .goto 1520, 3)], [(473, .aload_n 1, 1), (474, .invokevirtual 191, 3), (477, .pop, 1), (478, .aload_n 2, 1), (479, .invokevirtual 194, 3), (482, .pop, 1), (483, .goto 1507, 3), (486, .aload_n 1, 1), (487, .aload_n 0, 1), (488, .iload 4, 2)]] := dQ_of _ _ (by decide +kernel)
theorem dL_law_397 : decode cL_law 397 = .ok (.iconst 0, 1) := dTL_2.1.1
theorem dL_law_398 : decode cL_law 398 = .ok (.aload_n 3, 1) := dTL_2.1.2.1
theorem dL_law_399 : decode cL_law 399 = .ok (.invokestatic 185, 3) := dTL_2.1.2.2.1
theorem dL_law_402 : decode cL_law 402 = .ok (.istore 5, 2) := dTL_2.1.2.2.2.1
theorem dL_law_404 : decode cL_law 404 = .ok (.aload_n 2, 1) := dTL_2.1.2.2.2.2.1
theorem dL_law_405 : decode cL_law 405 = .ok (.aload_n 0, 1) := dTL_2.1.2.2.2.2.2.1
theorem dL_law_406 : decode cL_law 406 = .ok (.iload 4, 2) := dTL_2.1.2.2.2.2.2.2.1
theorem dL_law_408 : decode cL_law 408 = .ok (.iconst 1, 1) := dTL_2.1.2.2.2.2.2.2.2.1
theorem dL_law_409 : decode cL_law 409 = .ok (.iadd, 1) := dTL_2.1.2.2.2.2.2.2.2.2.1
theorem dL_law_410 : decode cL_law 410 = .ok (.iaload, 1) := dTL_2.1.2.2.2.2.2.2.2.2.2.1
theorem dL_law_411 : decode cL_law 411 = .ok (.aload_n 0, 1) := dTL_2.2.1.1
theorem dL_law_412 : decode cL_law 412 = .ok (.iload 4, 2) := dTL_2.2.1.2.1
theorem dL_law_414 : decode cL_law 414 = .ok (.iconst 2, 1) := dTL_2.2.1.2.2.1
theorem dL_law_415 : decode cL_law 415 = .ok (.iadd, 1) := dTL_2.2.1.2.2.2.1
theorem dL_law_416 : decode cL_law 416 = .ok (.iaload, 1) := dTL_2.2.1.2.2.2.2.1
theorem dL_law_417 : decode cL_law 417 = .ok (.ifCond .eq 7, 3) := dTL_2.2.1.2.2.2.2.2.1
theorem dL_law_420 : decode cL_law 420 = .ok (.iconst 1, 1) := dTL_2.2.1.2.2.2.2.2.2.1
theorem dL_law_421 : decode cL_law 421 = .ok (.goto 4, 3) := dTL_2.2.1.2.2.2.2.2.2.2.1
theorem dL_law_424 : decode cL_law 424 = .ok (.iconst 0, 1) := dTL_2.2.1.2.2.2.2.2.2.2.2.1
theorem dL_law_425 : decode cL_law 425 = .ok (.invokevirtual 187, 3) := dTL_2.2.1.2.2.2.2.2.2.2.2.2.1
theorem dL_law_428 : decode cL_law 428 = .ok (.istore 6, 2) := dTL_2.2.2.1.1
theorem dL_law_430 : decode cL_law 430 = .ok (.goto 1560, 3) := dTL_2.2.2.1.2.1
theorem dL_law_433 : decode cL_law 433 = .ok (.aload_n 1, 1) := dTL_2.2.2.1.2.2.1
theorem dL_law_434 : decode cL_law 434 = .ok (.aload_n 0, 1) := dTL_2.2.2.1.2.2.2.1
theorem dL_law_435 : decode cL_law 435 = .ok (.iload 4, 2) := dTL_2.2.2.1.2.2.2.2.1
theorem dL_law_437 : decode cL_law 437 = .ok (.iconst 1, 1) := dTL_2.2.2.1.2.2.2.2.2.1
theorem dL_law_438 : decode cL_law 438 = .ok (.iadd, 1) := dTL_2.2.2.1.2.2.2.2.2.2.1
theorem dL_law_439 : decode cL_law 439 = .ok (.iaload, 1) := dTL_2.2.2.1.2.2.2.2.2.2.2.1
theorem dL_law_440 : decode cL_law 440 = .ok (.aload_n 0, 1) := dTL_2.2.2.1.2.2.2.2.2.2.2.2.1
theorem dL_law_441 : decode cL_law 441 = .ok (.iload 4, 2) := dTL_2.2.2.1.2.2.2.2.2.2.2.2.2.1
theorem dL_law_443 : decode cL_law 443 = .ok (.iconst 2, 1) := dTL_2.2.2.2.1.1
theorem dL_law_444 : decode cL_law 444 = .ok (.iadd, 1) := dTL_2.2.2.2.1.2.1
theorem dL_law_445 : decode cL_law 445 = .ok (.iaload, 1) := dTL_2.2.2.2.1.2.2.1
theorem dL_law_446 : decode cL_law 446 = .ok (.aload_n 3, 1) := dTL_2.2.2.2.1.2.2.2.1
theorem dL_law_447 : decode cL_law 447 = .ok (.invokestatic 188, 3) := dTL_2.2.2.2.1.2.2.2.2.1
theorem dL_law_450 : decode cL_law 450 = .ok (.istore 5, 2) := dTL_2.2.2.2.1.2.2.2.2.2.1
theorem dL_law_452 : decode cL_law 452 = .ok (.aload_n 2, 1) := dTL_2.2.2.2.1.2.2.2.2.2.2.1
theorem dL_law_453 : decode cL_law 453 = .ok (.aload_n 0, 1) := dTL_2.2.2.2.1.2.2.2.2.2.2.2.1
theorem dL_law_454 : decode cL_law 454 = .ok (.iload 4, 2) := dTL_2.2.2.2.1.2.2.2.2.2.2.2.2.1
theorem dL_law_456 : decode cL_law 456 = .ok (.iconst 1, 1) := dTL_2.2.2.2.1.2.2.2.2.2.2.2.2.2.1
theorem dL_law_457 : decode cL_law 457 = .ok (.iadd, 1) := dTL_2.2.2.2.2.1.1
theorem dL_law_458 : decode cL_law 458 = .ok (.iaload, 1) := dTL_2.2.2.2.2.1.2.1
theorem dL_law_459 : decode cL_law 459 = .ok (.aload_n 0, 1) := dTL_2.2.2.2.2.1.2.2.1
theorem dL_law_460 : decode cL_law 460 = .ok (.iload 4, 2) := dTL_2.2.2.2.2.1.2.2.2.1
theorem dL_law_462 : decode cL_law 462 = .ok (.iconst 2, 1) := dTL_2.2.2.2.2.1.2.2.2.2.1
theorem dL_law_463 : decode cL_law 463 = .ok (.iadd, 1) := dTL_2.2.2.2.2.1.2.2.2.2.2.1
theorem dL_law_464 : decode cL_law 464 = .ok (.iaload, 1) := dTL_2.2.2.2.2.1.2.2.2.2.2.2.1
theorem dL_law_465 : decode cL_law 465 = .ok (.invokevirtual 190, 3) := dTL_2.2.2.2.2.1.2.2.2.2.2.2.2.1
theorem dL_law_468 : decode cL_law 468 = .ok (.istore 6, 2) := dTL_2.2.2.2.2.1.2.2.2.2.2.2.2.2.1
theorem dL_law_470 : decode cL_law 470 = .ok (.goto 1520, 3) := dTL_2.2.2.2.2.1.2.2.2.2.2.2.2.2.2.1
theorem dL_law_473 : decode cL_law 473 = .ok (.aload_n 1, 1) := dTL_2.2.2.2.2.2.1.1
theorem dL_law_474 : decode cL_law 474 = .ok (.invokevirtual 191, 3) := dTL_2.2.2.2.2.2.1.2.1
theorem dL_law_477 : decode cL_law 477 = .ok (.pop, 1) := dTL_2.2.2.2.2.2.1.2.2.1
theorem dL_law_478 : decode cL_law 478 = .ok (.aload_n 2, 1) := dTL_2.2.2.2.2.2.1.2.2.2.1
theorem dL_law_479 : decode cL_law 479 = .ok (.invokevirtual 194, 3) := dTL_2.2.2.2.2.2.1.2.2.2.2.1
theorem dL_law_482 : decode cL_law 482 = .ok (.pop, 1) := dTL_2.2.2.2.2.2.1.2.2.2.2.2.1
theorem dL_law_483 : decode cL_law 483 = .ok (.goto 1507, 3) := dTL_2.2.2.2.2.2.1.2.2.2.2.2.2.1
theorem dL_law_486 : decode cL_law 486 = .ok (.aload_n 1, 1) := dTL_2.2.2.2.2.2.1.2.2.2.2.2.2.2.1
theorem dL_law_487 : decode cL_law 487 = .ok (.aload_n 0, 1) := dTL_2.2.2.2.2.2.1.2.2.2.2.2.2.2.2.1
theorem dL_law_488 : decode cL_law 488 = .ok (.iload 4, 2) := dTL_2.2.2.2.2.2.1.2.2.2.2.2.2.2.2.2.1
theorem dTL_3 : dQ cL_law [[(490, .iconst 1, 1), (491, .iadd, 1), (492, .iaload, 1), (493, .aload_n 0, 1), (494, .iload 4, 2), (496, .iconst 2, 1), (497, .iadd, 1), (498, .iaload, 1), (499, .aload_n 3, 1), (500, .invokestatic 195, 3)], [(503, .istore 5, 2), (505, .aload_n 2, 1), (506, .aload_n 0, 1), (507, .iload 4, 2), (509, .iconst 1, 1), (510, .iadd, 1), (511, .iaload, 1), (512, .aload_n 0, 1), (513, .iload 4, 2), (515, .iconst 2, 1)], [(516, .iadd, 1), (517, .iaload, 1), (518, .invokevirtual 197, 3), (521, .istore 6, 2), (523, .goto 1467, 3), (526, .aload_n 1, 1), (527, .aload_n 0, 1), (528, .iload 4, 2), (530, .iconst 1, 1), (531, .iadd, 1)], [(532, .iaload, 1), (533, .aload_n 0, 1), (534, .iload 4, 2), (536, .iconst 2, 1), (537, .iadd, 1), (538, .iaload, 1), (539, .aload_n 3, 1), (540, .invokestatic 198, 3), (543, .istore 5, 2), (545, .aload_n 2, 1)], [(546, .aload_n 0, 1), (547, .iload 4, 2), (549, .iconst 1, 1), (550, .iadd, 1), (551, .iaload, 1), (552, .aload_n 0, 1), (553, .iload 4, 2), (555, .iconst 2, 1), (556, .iadd, 1), (557, .iaload, 1)], [(558, .invokevirtual 200, 3), (561, .istore 6, 2), (563, .goto 1427, 3), (566, .aload_n 1, 1), (567, .aload_n 0, 1), (568, .iload 4, 2), (570, .iconst 1, 1), (571, .iadd, 1), (572, .iaload, 1), (573, .aload_n 0, 1)]] := dQ_of _ _ (by decide +kernel)
theorem dL_law_490 : decode cL_law 490 = .ok (.iconst 1, 1) := dTL_3.1.1
theorem dL_law_491 : decode cL_law 491 = .ok (.iadd, 1) := dTL_3.1.2.1
theorem dL_law_492 : decode cL_law 492 = .ok (.iaload, 1) := dTL_3.1.2.2.1
theorem dL_law_493 : decode cL_law 493 = .ok (.aload_n 0, 1) := dTL_3.1.2.2.2.1
theorem dL_law_494 : decode cL_law 494 = .ok (.iload 4, 2) := dTL_3.1.2.2.2.2.1
theorem dL_law_496 : decode cL_law 496 = .ok (.iconst 2, 1) := dTL_3.1.2.2.2.2.2.1
theorem dL_law_497 : decode cL_law 497 = .ok (.iadd, 1) := dTL_3.1.2.2.2.2.2.2.1
theorem dL_law_498 : decode cL_law 498 = .ok (.iaload, 1) := dTL_3.1.2.2.2.2.2.2.2.1
theorem dL_law_499 : decode cL_law 499 = .ok (.aload_n 3, 1) := dTL_3.1.2.2.2.2.2.2.2.2.1
theorem dL_law_500 : decode cL_law 500 = .ok (.invokestatic 195, 3) := dTL_3.1.2.2.2.2.2.2.2.2.2.1
theorem dL_law_503 : decode cL_law 503 = .ok (.istore 5, 2) := dTL_3.2.1.1
theorem dL_law_505 : decode cL_law 505 = .ok (.aload_n 2, 1) := dTL_3.2.1.2.1
theorem dL_law_506 : decode cL_law 506 = .ok (.aload_n 0, 1) := dTL_3.2.1.2.2.1
theorem dL_law_507 : decode cL_law 507 = .ok (.iload 4, 2) := dTL_3.2.1.2.2.2.1
theorem dL_law_509 : decode cL_law 509 = .ok (.iconst 1, 1) := dTL_3.2.1.2.2.2.2.1
theorem dL_law_510 : decode cL_law 510 = .ok (.iadd, 1) := dTL_3.2.1.2.2.2.2.2.1
theorem dL_law_511 : decode cL_law 511 = .ok (.iaload, 1) := dTL_3.2.1.2.2.2.2.2.2.1
theorem dL_law_512 : decode cL_law 512 = .ok (.aload_n 0, 1) := dTL_3.2.1.2.2.2.2.2.2.2.1
theorem dL_law_513 : decode cL_law 513 = .ok (.iload 4, 2) := dTL_3.2.1.2.2.2.2.2.2.2.2.1
theorem dL_law_515 : decode cL_law 515 = .ok (.iconst 2, 1) := dTL_3.2.1.2.2.2.2.2.2.2.2.2.1
theorem dL_law_516 : decode cL_law 516 = .ok (.iadd, 1) := dTL_3.2.2.1.1
theorem dL_law_517 : decode cL_law 517 = .ok (.iaload, 1) := dTL_3.2.2.1.2.1
theorem dL_law_518 : decode cL_law 518 = .ok (.invokevirtual 197, 3) := dTL_3.2.2.1.2.2.1
theorem dL_law_521 : decode cL_law 521 = .ok (.istore 6, 2) := dTL_3.2.2.1.2.2.2.1
theorem dL_law_523 : decode cL_law 523 = .ok (.goto 1467, 3) := dTL_3.2.2.1.2.2.2.2.1
theorem dL_law_526 : decode cL_law 526 = .ok (.aload_n 1, 1) := dTL_3.2.2.1.2.2.2.2.2.1
theorem dL_law_527 : decode cL_law 527 = .ok (.aload_n 0, 1) := dTL_3.2.2.1.2.2.2.2.2.2.1
theorem dL_law_528 : decode cL_law 528 = .ok (.iload 4, 2) := dTL_3.2.2.1.2.2.2.2.2.2.2.1
theorem dL_law_530 : decode cL_law 530 = .ok (.iconst 1, 1) := dTL_3.2.2.1.2.2.2.2.2.2.2.2.1
theorem dL_law_531 : decode cL_law 531 = .ok (.iadd, 1) := dTL_3.2.2.1.2.2.2.2.2.2.2.2.2.1
theorem dL_law_532 : decode cL_law 532 = .ok (.iaload, 1) := dTL_3.2.2.2.1.1
theorem dL_law_533 : decode cL_law 533 = .ok (.aload_n 0, 1) := dTL_3.2.2.2.1.2.1
theorem dL_law_534 : decode cL_law 534 = .ok (.iload 4, 2) := dTL_3.2.2.2.1.2.2.1
theorem dL_law_536 : decode cL_law 536 = .ok (.iconst 2, 1) := dTL_3.2.2.2.1.2.2.2.1
theorem dL_law_537 : decode cL_law 537 = .ok (.iadd, 1) := dTL_3.2.2.2.1.2.2.2.2.1
theorem dL_law_538 : decode cL_law 538 = .ok (.iaload, 1) := dTL_3.2.2.2.1.2.2.2.2.2.1
theorem dL_law_539 : decode cL_law 539 = .ok (.aload_n 3, 1) := dTL_3.2.2.2.1.2.2.2.2.2.2.1
theorem dL_law_540 : decode cL_law 540 = .ok (.invokestatic 198, 3) := dTL_3.2.2.2.1.2.2.2.2.2.2.2.1
theorem dL_law_543 : decode cL_law 543 = .ok (.istore 5, 2) := dTL_3.2.2.2.1.2.2.2.2.2.2.2.2.1
theorem dL_law_545 : decode cL_law 545 = .ok (.aload_n 2, 1) := dTL_3.2.2.2.1.2.2.2.2.2.2.2.2.2.1
theorem dL_law_546 : decode cL_law 546 = .ok (.aload_n 0, 1) := dTL_3.2.2.2.2.1.1
theorem dL_law_547 : decode cL_law 547 = .ok (.iload 4, 2) := dTL_3.2.2.2.2.1.2.1
theorem dL_law_549 : decode cL_law 549 = .ok (.iconst 1, 1) := dTL_3.2.2.2.2.1.2.2.1
theorem dL_law_550 : decode cL_law 550 = .ok (.iadd, 1) := dTL_3.2.2.2.2.1.2.2.2.1
theorem dL_law_551 : decode cL_law 551 = .ok (.iaload, 1) := dTL_3.2.2.2.2.1.2.2.2.2.1
theorem dL_law_552 : decode cL_law 552 = .ok (.aload_n 0, 1) := dTL_3.2.2.2.2.1.2.2.2.2.2.1
theorem dL_law_553 : decode cL_law 553 = .ok (.iload 4, 2) := dTL_3.2.2.2.2.1.2.2.2.2.2.2.1
theorem dL_law_555 : decode cL_law 555 = .ok (.iconst 2, 1) := dTL_3.2.2.2.2.1.2.2.2.2.2.2.2.1
theorem dL_law_556 : decode cL_law 556 = .ok (.iadd, 1) := dTL_3.2.2.2.2.1.2.2.2.2.2.2.2.2.1
theorem dL_law_557 : decode cL_law 557 = .ok (.iaload, 1) := dTL_3.2.2.2.2.1.2.2.2.2.2.2.2.2.2.1
theorem dL_law_558 : decode cL_law 558 = .ok (.invokevirtual 200, 3) := dTL_3.2.2.2.2.2.1.1
theorem dL_law_561 : decode cL_law 561 = .ok (.istore 6, 2) := dTL_3.2.2.2.2.2.1.2.1
theorem dL_law_563 : decode cL_law 563 = .ok (.goto 1427, 3) := dTL_3.2.2.2.2.2.1.2.2.1
theorem dL_law_566 : decode cL_law 566 = .ok (.aload_n 1, 1) := dTL_3.2.2.2.2.2.1.2.2.2.1
theorem dL_law_567 : decode cL_law 567 = .ok (.aload_n 0, 1) := dTL_3.2.2.2.2.2.1.2.2.2.2.1
theorem dL_law_568 : decode cL_law 568 = .ok (.iload 4, 2) := dTL_3.2.2.2.2.2.1.2.2.2.2.2.1
theorem dL_law_570 : decode cL_law 570 = .ok (.iconst 1, 1) := dTL_3.2.2.2.2.2.1.2.2.2.2.2.2.1
theorem dL_law_571 : decode cL_law 571 = .ok (.iadd, 1) := dTL_3.2.2.2.2.2.1.2.2.2.2.2.2.2.1
theorem dL_law_572 : decode cL_law 572 = .ok (.iaload, 1) := dTL_3.2.2.2.2.2.1.2.2.2.2.2.2.2.2.1
theorem dL_law_573 : decode cL_law 573 = .ok (.aload_n 0, 1) := dTL_3.2.2.2.2.2.1.2.2.2.2.2.2.2.2.2.1
theorem dTL_4 : dQ cL_law [[(574, .iload 4, 2), (576, .iconst 2, 1), (577, .iadd, 1), (578, .iaload, 1), (579, .aload_n 3, 1), (580, .invokestatic 201, 3), (583, .istore 5, 2), (585, .aload_n 2, 1), (586, .aload_n 0, 1), (587, .iload 4, 2)], [(589, .iconst 1, 1), (590, .iadd, 1), (591, .iaload, 1), (592, .aload_n 0, 1), (593, .iload 4, 2), (595, .iconst 2, 1), (596, .iadd, 1), (597, .iaload, 1), (598, .invokevirtual 203, 3), (601, .istore 6, 2)], [(603, .goto 1387, 3), (606, .aload_n 1, 1), (607, .aload_n 0, 1), (608, .iload 4, 2), (610, .iconst 1, 1), (611, .iadd, 1), (612, .iaload, 1), (613, .aload_n 3, 1), (614, .invokestatic 204, 3), (617, .istore 5, 2)], [(619, .aload_n 2, 1), (620, .aload_n 0, 1), (621, .iload 4, 2), (623, .iconst 1, 1), (624, .iadd, 1), (625, .iaload, 1), (626, .invokevirtual 207, 3), (629, .istore 6, 2), (631, .goto 1359, 3), (634, .aload_n 1, 1)], [(635, .aload_n 0, 1), (636, .iload 4, 2), (638, .iconst 1, 1), (639, .iadd, 1), (640, .iaload, 1), (641, .aload_n 0, 1), (642, .iload 4, 2), (644, .iconst 2, 1), (645, .iadd, 1), (646, .iaload, 1)], [(647, .aload_n 3, 1), (648, .invokestatic 208, 3), (651, .istore 5, 2), (653, .aload_n 2, 1), (654, .aload_n 0, 1), (655, .iload 4, 2), (657, .iconst 1, 1), (658, .iadd, 1), (659, .iaload, 1), (660, .aload_n 0, 1)]] := dQ_of _ _ (by decide +kernel)
theorem dL_law_574 : decode cL_law 574 = .ok (.iload 4, 2) := dTL_4.1.1
theorem dL_law_576 : decode cL_law 576 = .ok (.iconst 2, 1) := dTL_4.1.2.1
theorem dL_law_577 : decode cL_law 577 = .ok (.iadd, 1) := dTL_4.1.2.2.1
theorem dL_law_578 : decode cL_law 578 = .ok (.iaload, 1) := dTL_4.1.2.2.2.1
theorem dL_law_579 : decode cL_law 579 = .ok (.aload_n 3, 1) := dTL_4.1.2.2.2.2.1
theorem dL_law_580 : decode cL_law 580 = .ok (.invokestatic 201, 3) := dTL_4.1.2.2.2.2.2.1
theorem dL_law_583 : decode cL_law 583 = .ok (.istore 5, 2) := dTL_4.1.2.2.2.2.2.2.1
theorem dL_law_585 : decode cL_law 585 = .ok (.aload_n 2, 1) := dTL_4.1.2.2.2.2.2.2.2.1
theorem dL_law_586 : decode cL_law 586 = .ok (.aload_n 0, 1) := dTL_4.1.2.2.2.2.2.2.2.2.1
theorem dL_law_587 : decode cL_law 587 = .ok (.iload 4, 2) := dTL_4.1.2.2.2.2.2.2.2.2.2.1
theorem dL_law_589 : decode cL_law 589 = .ok (.iconst 1, 1) := dTL_4.2.1.1
theorem dL_law_590 : decode cL_law 590 = .ok (.iadd, 1) := dTL_4.2.1.2.1
theorem dL_law_591 : decode cL_law 591 = .ok (.iaload, 1) := dTL_4.2.1.2.2.1
theorem dL_law_592 : decode cL_law 592 = .ok (.aload_n 0, 1) := dTL_4.2.1.2.2.2.1
theorem dL_law_593 : decode cL_law 593 = .ok (.iload 4, 2) := dTL_4.2.1.2.2.2.2.1
theorem dL_law_595 : decode cL_law 595 = .ok (.iconst 2, 1) := dTL_4.2.1.2.2.2.2.2.1
theorem dL_law_596 : decode cL_law 596 = .ok (.iadd, 1) := dTL_4.2.1.2.2.2.2.2.2.1
theorem dL_law_597 : decode cL_law 597 = .ok (.iaload, 1) := dTL_4.2.1.2.2.2.2.2.2.2.1
theorem dL_law_598 : decode cL_law 598 = .ok (.invokevirtual 203, 3) := dTL_4.2.1.2.2.2.2.2.2.2.2.1
theorem dL_law_601 : decode cL_law 601 = .ok (.istore 6, 2) := dTL_4.2.1.2.2.2.2.2.2.2.2.2.1
theorem dL_law_603 : decode cL_law 603 = .ok (.goto 1387, 3) := dTL_4.2.2.1.1
theorem dL_law_606 : decode cL_law 606 = .ok (.aload_n 1, 1) := dTL_4.2.2.1.2.1
theorem dL_law_607 : decode cL_law 607 = .ok (.aload_n 0, 1) := dTL_4.2.2.1.2.2.1
theorem dL_law_608 : decode cL_law 608 = .ok (.iload 4, 2) := dTL_4.2.2.1.2.2.2.1
theorem dL_law_610 : decode cL_law 610 = .ok (.iconst 1, 1) := dTL_4.2.2.1.2.2.2.2.1
theorem dL_law_611 : decode cL_law 611 = .ok (.iadd, 1) := dTL_4.2.2.1.2.2.2.2.2.1
theorem dL_law_612 : decode cL_law 612 = .ok (.iaload, 1) := dTL_4.2.2.1.2.2.2.2.2.2.1
theorem dL_law_613 : decode cL_law 613 = .ok (.aload_n 3, 1) := dTL_4.2.2.1.2.2.2.2.2.2.2.1
theorem dL_law_614 : decode cL_law 614 = .ok (.invokestatic 204, 3) := dTL_4.2.2.1.2.2.2.2.2.2.2.2.1
theorem dL_law_617 : decode cL_law 617 = .ok (.istore 5, 2) := dTL_4.2.2.1.2.2.2.2.2.2.2.2.2.1
theorem dL_law_619 : decode cL_law 619 = .ok (.aload_n 2, 1) := dTL_4.2.2.2.1.1
theorem dL_law_620 : decode cL_law 620 = .ok (.aload_n 0, 1) := dTL_4.2.2.2.1.2.1
theorem dL_law_621 : decode cL_law 621 = .ok (.iload 4, 2) := dTL_4.2.2.2.1.2.2.1
theorem dL_law_623 : decode cL_law 623 = .ok (.iconst 1, 1) := dTL_4.2.2.2.1.2.2.2.1
theorem dL_law_624 : decode cL_law 624 = .ok (.iadd, 1) := dTL_4.2.2.2.1.2.2.2.2.1
theorem dL_law_625 : decode cL_law 625 = .ok (.iaload, 1) := dTL_4.2.2.2.1.2.2.2.2.2.1
theorem dL_law_626 : decode cL_law 626 = .ok (.invokevirtual 207, 3) := dTL_4.2.2.2.1.2.2.2.2.2.2.1
theorem dL_law_629 : decode cL_law 629 = .ok (.istore 6, 2) := dTL_4.2.2.2.1.2.2.2.2.2.2.2.1
theorem dL_law_631 : decode cL_law 631 = .ok (.goto 1359, 3) := dTL_4.2.2.2.1.2.2.2.2.2.2.2.2.1
theorem dL_law_634 : decode cL_law 634 = .ok (.aload_n 1, 1) := dTL_4.2.2.2.1.2.2.2.2.2.2.2.2.2.1
theorem dL_law_635 : decode cL_law 635 = .ok (.aload_n 0, 1) := dTL_4.2.2.2.2.1.1
theorem dL_law_636 : decode cL_law 636 = .ok (.iload 4, 2) := dTL_4.2.2.2.2.1.2.1
theorem dL_law_638 : decode cL_law 638 = .ok (.iconst 1, 1) := dTL_4.2.2.2.2.1.2.2.1
theorem dL_law_639 : decode cL_law 639 = .ok (.iadd, 1) := dTL_4.2.2.2.2.1.2.2.2.1
theorem dL_law_640 : decode cL_law 640 = .ok (.iaload, 1) := dTL_4.2.2.2.2.1.2.2.2.2.1
theorem dL_law_641 : decode cL_law 641 = .ok (.aload_n 0, 1) := dTL_4.2.2.2.2.1.2.2.2.2.2.1
theorem dL_law_642 : decode cL_law 642 = .ok (.iload 4, 2) := dTL_4.2.2.2.2.1.2.2.2.2.2.2.1
theorem dL_law_644 : decode cL_law 644 = .ok (.iconst 2, 1) := dTL_4.2.2.2.2.1.2.2.2.2.2.2.2.1
theorem dL_law_645 : decode cL_law 645 = .ok (.iadd, 1) := dTL_4.2.2.2.2.1.2.2.2.2.2.2.2.2.1
theorem dL_law_646 : decode cL_law 646 = .ok (.iaload, 1) := dTL_4.2.2.2.2.1.2.2.2.2.2.2.2.2.2.1
theorem dL_law_647 : decode cL_law 647 = .ok (.aload_n 3, 1) := dTL_4.2.2.2.2.2.1.1
theorem dL_law_648 : decode cL_law 648 = .ok (.invokestatic 208, 3) := dTL_4.2.2.2.2.2.1.2.1
theorem dL_law_651 : decode cL_law 651 = .ok (.istore 5, 2) := dTL_4.2.2.2.2.2.1.2.2.1
theorem dL_law_653 : decode cL_law 653 = .ok (.aload_n 2, 1) := dTL_4.2.2.2.2.2.1.2.2.2.1
theorem dL_law_654 : decode cL_law 654 = .ok (.aload_n 0, 1) := dTL_4.2.2.2.2.2.1.2.2.2.2.1
theorem dL_law_655 : decode cL_law 655 = .ok (.iload 4, 2) := dTL_4.2.2.2.2.2.1.2.2.2.2.2.1
theorem dL_law_657 : decode cL_law 657 = .ok (.iconst 1, 1) := dTL_4.2.2.2.2.2.1.2.2.2.2.2.2.1
theorem dL_law_658 : decode cL_law 658 = .ok (.iadd, 1) := dTL_4.2.2.2.2.2.1.2.2.2.2.2.2.2.1
theorem dL_law_659 : decode cL_law 659 = .ok (.iaload, 1) := dTL_4.2.2.2.2.2.1.2.2.2.2.2.2.2.2.1
theorem dL_law_660 : decode cL_law 660 = .ok (.aload_n 0, 1) := dTL_4.2.2.2.2.2.1.2.2.2.2.2.2.2.2.2.1
theorem dTL_5 : dQ cL_law [[(661, .iload 4, 2), (663, .iconst 2, 1), (664, .iadd, 1), (665, .iaload, 1), (666, .invokevirtual 210, 3), (669, .istore 6, 2), (671, .goto 1319, 3), (674, .aload_n 1, 1), (675, .aload_n 0, 1), (676, .iload 4, 2)], [(678, .iconst 1, 1), (679, .iadd, 1), (680, .iaload, 1), (681, .aload_n 0, 1), (682, .iload 4, 2), (684, .iconst 2, 1), (685, .iadd, 1), (686, .iaload, 1), (687, .aload_n 3, 1), (688, .invokestatic 211, 3)], [(691, .istore 5, 2), (693, .aload_n 2, 1), (694, .aload_n 0, 1), (695, .iload 4, 2), (697, .iconst 1, 1), (698, .iadd, 1), (699, .iaload, 1), (700, .aload_n 0, 1), (701, .iload 4, 2), (703, .iconst 2, 1)], [(704, .iadd, 1), (705, .iaload, 1), (706, .invokevirtual 213, 3), (709, .istore 6, 2), (711, .goto 1279, 3), (714, .aload_n 1, 1), (715, .aload_n 0, 1), (716, .iload 4, 2), (718, .iconst 1, 1), (719, .iadd, 1)], [(720, .iaload, 1), (721, .aload_n 0, 1), (722, .iload 4, 2), (724, .iconst 2, 1), (725, .iadd, 1), (726, .iaload, 1), (727, .aload_n 3, 1), (728, .invokestatic 214, 3), (731, .istore 5, 2), (733, .aload_n 2, 1)], [(734, .aload_n 0, 1), (735, .iload 4, 2), (737, .iconst 1, 1), (738, .iadd, 1), (739, .iaload, 1), (740, .aload_n 0, 1), (741, .iload 4, 2), (743, .iconst 2, 1), (744, .iadd, 1), (745, .iaload, 1)]] := dQ_of _ _ (by decide +kernel)
theorem dL_law_661 : decode cL_law 661 = .ok (.iload 4, 2) := dTL_5.1.1
theorem dL_law_663 : decode cL_law 663 = .ok (.iconst 2, 1) := dTL_5.1.2.1
theorem dL_law_664 : decode cL_law 664 = .ok (.iadd, 1) := dTL_5.1.2.2.1
theorem dL_law_665 : decode cL_law 665 = .ok (.iaload, 1) := dTL_5.1.2.2.2.1
theorem dL_law_666 : decode cL_law 666 = .ok (.invokevirtual 210, 3) := dTL_5.1.2.2.2.2.1
theorem dL_law_669 : decode cL_law 669 = .ok (.istore 6, 2) := dTL_5.1.2.2.2.2.2.1
theorem dL_law_671 : decode cL_law 671 = .ok (.goto 1319, 3) := dTL_5.1.2.2.2.2.2.2.1
theorem dL_law_674 : decode cL_law 674 = .ok (.aload_n 1, 1) := dTL_5.1.2.2.2.2.2.2.2.1
theorem dL_law_675 : decode cL_law 675 = .ok (.aload_n 0, 1) := dTL_5.1.2.2.2.2.2.2.2.2.1
theorem dL_law_676 : decode cL_law 676 = .ok (.iload 4, 2) := dTL_5.1.2.2.2.2.2.2.2.2.2.1
theorem dL_law_678 : decode cL_law 678 = .ok (.iconst 1, 1) := dTL_5.2.1.1
theorem dL_law_679 : decode cL_law 679 = .ok (.iadd, 1) := dTL_5.2.1.2.1
theorem dL_law_680 : decode cL_law 680 = .ok (.iaload, 1) := dTL_5.2.1.2.2.1
theorem dL_law_681 : decode cL_law 681 = .ok (.aload_n 0, 1) := dTL_5.2.1.2.2.2.1
theorem dL_law_682 : decode cL_law 682 = .ok (.iload 4, 2) := dTL_5.2.1.2.2.2.2.1
theorem dL_law_684 : decode cL_law 684 = .ok (.iconst 2, 1) := dTL_5.2.1.2.2.2.2.2.1
theorem dL_law_685 : decode cL_law 685 = .ok (.iadd, 1) := dTL_5.2.1.2.2.2.2.2.2.1
theorem dL_law_686 : decode cL_law 686 = .ok (.iaload, 1) := dTL_5.2.1.2.2.2.2.2.2.2.1
theorem dL_law_687 : decode cL_law 687 = .ok (.aload_n 3, 1) := dTL_5.2.1.2.2.2.2.2.2.2.2.1
theorem dL_law_688 : decode cL_law 688 = .ok (.invokestatic 211, 3) := dTL_5.2.1.2.2.2.2.2.2.2.2.2.1
theorem dL_law_691 : decode cL_law 691 = .ok (.istore 5, 2) := dTL_5.2.2.1.1
theorem dL_law_693 : decode cL_law 693 = .ok (.aload_n 2, 1) := dTL_5.2.2.1.2.1
theorem dL_law_694 : decode cL_law 694 = .ok (.aload_n 0, 1) := dTL_5.2.2.1.2.2.1
theorem dL_law_695 : decode cL_law 695 = .ok (.iload 4, 2) := dTL_5.2.2.1.2.2.2.1
theorem dL_law_697 : decode cL_law 697 = .ok (.iconst 1, 1) := dTL_5.2.2.1.2.2.2.2.1
theorem dL_law_698 : decode cL_law 698 = .ok (.iadd, 1) := dTL_5.2.2.1.2.2.2.2.2.1
theorem dL_law_699 : decode cL_law 699 = .ok (.iaload, 1) := dTL_5.2.2.1.2.2.2.2.2.2.1
theorem dL_law_700 : decode cL_law 700 = .ok (.aload_n 0, 1) := dTL_5.2.2.1.2.2.2.2.2.2.2.1
theorem dL_law_701 : decode cL_law 701 = .ok (.iload 4, 2) := dTL_5.2.2.1.2.2.2.2.2.2.2.2.1
theorem dL_law_703 : decode cL_law 703 = .ok (.iconst 2, 1) := dTL_5.2.2.1.2.2.2.2.2.2.2.2.2.1
theorem dL_law_704 : decode cL_law 704 = .ok (.iadd, 1) := dTL_5.2.2.2.1.1
theorem dL_law_705 : decode cL_law 705 = .ok (.iaload, 1) := dTL_5.2.2.2.1.2.1
theorem dL_law_706 : decode cL_law 706 = .ok (.invokevirtual 213, 3) := dTL_5.2.2.2.1.2.2.1
theorem dL_law_709 : decode cL_law 709 = .ok (.istore 6, 2) := dTL_5.2.2.2.1.2.2.2.1
theorem dL_law_711 : decode cL_law 711 = .ok (.goto 1279, 3) := dTL_5.2.2.2.1.2.2.2.2.1
theorem dL_law_714 : decode cL_law 714 = .ok (.aload_n 1, 1) := dTL_5.2.2.2.1.2.2.2.2.2.1
theorem dL_law_715 : decode cL_law 715 = .ok (.aload_n 0, 1) := dTL_5.2.2.2.1.2.2.2.2.2.2.1
theorem dL_law_716 : decode cL_law 716 = .ok (.iload 4, 2) := dTL_5.2.2.2.1.2.2.2.2.2.2.2.1
theorem dL_law_718 : decode cL_law 718 = .ok (.iconst 1, 1) := dTL_5.2.2.2.1.2.2.2.2.2.2.2.2.1
theorem dL_law_719 : decode cL_law 719 = .ok (.iadd, 1) := dTL_5.2.2.2.1.2.2.2.2.2.2.2.2.2.1
theorem dL_law_720 : decode cL_law 720 = .ok (.iaload, 1) := dTL_5.2.2.2.2.1.1
theorem dL_law_721 : decode cL_law 721 = .ok (.aload_n 0, 1) := dTL_5.2.2.2.2.1.2.1
theorem dL_law_722 : decode cL_law 722 = .ok (.iload 4, 2) := dTL_5.2.2.2.2.1.2.2.1
theorem dL_law_724 : decode cL_law 724 = .ok (.iconst 2, 1) := dTL_5.2.2.2.2.1.2.2.2.1
theorem dL_law_725 : decode cL_law 725 = .ok (.iadd, 1) := dTL_5.2.2.2.2.1.2.2.2.2.1
theorem dL_law_726 : decode cL_law 726 = .ok (.iaload, 1) := dTL_5.2.2.2.2.1.2.2.2.2.2.1
theorem dL_law_727 : decode cL_law 727 = .ok (.aload_n 3, 1) := dTL_5.2.2.2.2.1.2.2.2.2.2.2.1
theorem dL_law_728 : decode cL_law 728 = .ok (.invokestatic 214, 3) := dTL_5.2.2.2.2.1.2.2.2.2.2.2.2.1
theorem dL_law_731 : decode cL_law 731 = .ok (.istore 5, 2) := dTL_5.2.2.2.2.1.2.2.2.2.2.2.2.2.1
theorem dL_law_733 : decode cL_law 733 = .ok (.aload_n 2, 1) := dTL_5.2.2.2.2.1.2.2.2.2.2.2.2.2.2.1
theorem dL_law_734 : decode cL_law 734 = .ok (.aload_n 0, 1) := dTL_5.2.2.2.2.2.1.1
theorem dL_law_735 : decode cL_law 735 = .ok (.iload 4, 2) := dTL_5.2.2.2.2.2.1.2.1
theorem dL_law_737 : decode cL_law 737 = .ok (.iconst 1, 1) := dTL_5.2.2.2.2.2.1.2.2.1
theorem dL_law_738 : decode cL_law 738 = .ok (.iadd, 1) := dTL_5.2.2.2.2.2.1.2.2.2.1
theorem dL_law_739 : decode cL_law 739 = .ok (.iaload, 1) := dTL_5.2.2.2.2.2.1.2.2.2.2.1
theorem dL_law_740 : decode cL_law 740 = .ok (.aload_n 0, 1) := dTL_5.2.2.2.2.2.1.2.2.2.2.2.1
theorem dL_law_741 : decode cL_law 741 = .ok (.iload 4, 2) := dTL_5.2.2.2.2.2.1.2.2.2.2.2.2.1
theorem dL_law_743 : decode cL_law 743 = .ok (.iconst 2, 1) := dTL_5.2.2.2.2.2.1.2.2.2.2.2.2.2.1
theorem dL_law_744 : decode cL_law 744 = .ok (.iadd, 1) := dTL_5.2.2.2.2.2.1.2.2.2.2.2.2.2.2.1
theorem dL_law_745 : decode cL_law 745 = .ok (.iaload, 1) := dTL_5.2.2.2.2.2.1.2.2.2.2.2.2.2.2.2.1
theorem dTL_6 : dQ cL_law [[(746, .invokevirtual 216, 3), (749, .istore 6, 2), (751, .goto 1239, 3), (754, .aload_n 1, 1), (755, .aload_n 0, 1), (756, .iload 4, 2), (758, .iconst 1, 1), (759, .iadd, 1), (760, .iaload, 1), (761, .aload_n 3, 1)], [(762, .invokestatic 217, 3), (765, .istore 5, 2), (767, .aload_n 2, 1), (768, .aload_n 0, 1), (769, .iload 4, 2), (771, .iconst 1, 1), (772, .iadd, 1), (773, .iaload, 1), (774, .invokevirtual 219, 3), (777, .istore 6, 2)], [(779, .goto 1211, 3), (782, .aload_n 1, 1), (783, .aload_n 0, 1), (784, .iload 4, 2), (786, .iconst 1, 1), (787, .iadd, 1), (788, .iaload, 1), (789, .aload_n 0, 1), (790, .iload 4, 2), (792, .iconst 2, 1)], [(793, .iadd, 1), (794, .iaload, 1), (795, .aload_n 0, 1), (796, .iload 4, 2), (798, .iconst 3, 1), (799, .iadd, 1), (800, .iaload, 1), (801, .aload_n 3, 1), (802, .invokestatic 220, 3), (805, .istore 5, 2)], [(807, .aload_n 2, 1), (808, .aload_n 0, 1), (809, .iload 4, 2), (811, .iconst 1, 1), (812, .iadd, 1), (813, .iaload, 1), (814, .aload_n 0, 1), (815, .iload 4, 2), (817, .iconst 2, 1), (818, .iadd, 1)], [(819, .iaload, 1), (820, .aload_n 0, 1), (821, .iload 4, 2), (823, .iconst 3, 1), (824, .iadd, 1), (825, .iaload, 1), (826, .invokevirtual 223, 3), (829, .istore 6, 2), (831, .goto 1159, 3), (834, .aload_n 1, 1)]] := dQ_of _ _ (by decide +kernel)
theorem dL_law_746 : decode cL_law 746 = .ok (.invokevirtual 216, 3) := dTL_6.1.1
theorem dL_law_749 : decode cL_law 749 = .ok (.istore 6, 2) := dTL_6.1.2.1
theorem dL_law_751 : decode cL_law 751 = .ok (.goto 1239, 3) := dTL_6.1.2.2.1
theorem dL_law_754 : decode cL_law 754 = .ok (.aload_n 1, 1) := dTL_6.1.2.2.2.1
theorem dL_law_755 : decode cL_law 755 = .ok (.aload_n 0, 1) := dTL_6.1.2.2.2.2.1
theorem dL_law_756 : decode cL_law 756 = .ok (.iload 4, 2) := dTL_6.1.2.2.2.2.2.1
theorem dL_law_758 : decode cL_law 758 = .ok (.iconst 1, 1) := dTL_6.1.2.2.2.2.2.2.1
theorem dL_law_759 : decode cL_law 759 = .ok (.iadd, 1) := dTL_6.1.2.2.2.2.2.2.2.1
theorem dL_law_760 : decode cL_law 760 = .ok (.iaload, 1) := dTL_6.1.2.2.2.2.2.2.2.2.1
theorem dL_law_761 : decode cL_law 761 = .ok (.aload_n 3, 1) := dTL_6.1.2.2.2.2.2.2.2.2.2.1
theorem dL_law_762 : decode cL_law 762 = .ok (.invokestatic 217, 3) := dTL_6.2.1.1
theorem dL_law_765 : decode cL_law 765 = .ok (.istore 5, 2) := dTL_6.2.1.2.1
theorem dL_law_767 : decode cL_law 767 = .ok (.aload_n 2, 1) := dTL_6.2.1.2.2.1
theorem dL_law_768 : decode cL_law 768 = .ok (.aload_n 0, 1) := dTL_6.2.1.2.2.2.1
theorem dL_law_769 : decode cL_law 769 = .ok (.iload 4, 2) := dTL_6.2.1.2.2.2.2.1
theorem dL_law_771 : decode cL_law 771 = .ok (.iconst 1, 1) := dTL_6.2.1.2.2.2.2.2.1
theorem dL_law_772 : decode cL_law 772 = .ok (.iadd, 1) := dTL_6.2.1.2.2.2.2.2.2.1
theorem dL_law_773 : decode cL_law 773 = .ok (.iaload, 1) := dTL_6.2.1.2.2.2.2.2.2.2.1
theorem dL_law_774 : decode cL_law 774 = .ok (.invokevirtual 219, 3) := dTL_6.2.1.2.2.2.2.2.2.2.2.1
theorem dL_law_777 : decode cL_law 777 = .ok (.istore 6, 2) := dTL_6.2.1.2.2.2.2.2.2.2.2.2.1
theorem dL_law_779 : decode cL_law 779 = .ok (.goto 1211, 3) := dTL_6.2.2.1.1
theorem dL_law_782 : decode cL_law 782 = .ok (.aload_n 1, 1) := dTL_6.2.2.1.2.1
theorem dL_law_783 : decode cL_law 783 = .ok (.aload_n 0, 1) := dTL_6.2.2.1.2.2.1
theorem dL_law_784 : decode cL_law 784 = .ok (.iload 4, 2) := dTL_6.2.2.1.2.2.2.1
theorem dL_law_786 : decode cL_law 786 = .ok (.iconst 1, 1) := dTL_6.2.2.1.2.2.2.2.1
theorem dL_law_787 : decode cL_law 787 = .ok (.iadd, 1) := dTL_6.2.2.1.2.2.2.2.2.1
theorem dL_law_788 : decode cL_law 788 = .ok (.iaload, 1) := dTL_6.2.2.1.2.2.2.2.2.2.1
theorem dL_law_789 : decode cL_law 789 = .ok (.aload_n 0, 1) := dTL_6.2.2.1.2.2.2.2.2.2.2.1
theorem dL_law_790 : decode cL_law 790 = .ok (.iload 4, 2) := dTL_6.2.2.1.2.2.2.2.2.2.2.2.1
theorem dL_law_792 : decode cL_law 792 = .ok (.iconst 2, 1) := dTL_6.2.2.1.2.2.2.2.2.2.2.2.2.1
theorem dL_law_793 : decode cL_law 793 = .ok (.iadd, 1) := dTL_6.2.2.2.1.1
theorem dL_law_794 : decode cL_law 794 = .ok (.iaload, 1) := dTL_6.2.2.2.1.2.1
theorem dL_law_795 : decode cL_law 795 = .ok (.aload_n 0, 1) := dTL_6.2.2.2.1.2.2.1
theorem dL_law_796 : decode cL_law 796 = .ok (.iload 4, 2) := dTL_6.2.2.2.1.2.2.2.1
theorem dL_law_798 : decode cL_law 798 = .ok (.iconst 3, 1) := dTL_6.2.2.2.1.2.2.2.2.1
theorem dL_law_799 : decode cL_law 799 = .ok (.iadd, 1) := dTL_6.2.2.2.1.2.2.2.2.2.1
theorem dL_law_800 : decode cL_law 800 = .ok (.iaload, 1) := dTL_6.2.2.2.1.2.2.2.2.2.2.1
theorem dL_law_801 : decode cL_law 801 = .ok (.aload_n 3, 1) := dTL_6.2.2.2.1.2.2.2.2.2.2.2.1
theorem dL_law_802 : decode cL_law 802 = .ok (.invokestatic 220, 3) := dTL_6.2.2.2.1.2.2.2.2.2.2.2.2.1
theorem dL_law_805 : decode cL_law 805 = .ok (.istore 5, 2) := dTL_6.2.2.2.1.2.2.2.2.2.2.2.2.2.1
theorem dL_law_807 : decode cL_law 807 = .ok (.aload_n 2, 1) := dTL_6.2.2.2.2.1.1
theorem dL_law_808 : decode cL_law 808 = .ok (.aload_n 0, 1) := dTL_6.2.2.2.2.1.2.1
theorem dL_law_809 : decode cL_law 809 = .ok (.iload 4, 2) := dTL_6.2.2.2.2.1.2.2.1
theorem dL_law_811 : decode cL_law 811 = .ok (.iconst 1, 1) := dTL_6.2.2.2.2.1.2.2.2.1
theorem dL_law_812 : decode cL_law 812 = .ok (.iadd, 1) := dTL_6.2.2.2.2.1.2.2.2.2.1
theorem dL_law_813 : decode cL_law 813 = .ok (.iaload, 1) := dTL_6.2.2.2.2.1.2.2.2.2.2.1
theorem dL_law_814 : decode cL_law 814 = .ok (.aload_n 0, 1) := dTL_6.2.2.2.2.1.2.2.2.2.2.2.1
theorem dL_law_815 : decode cL_law 815 = .ok (.iload 4, 2) := dTL_6.2.2.2.2.1.2.2.2.2.2.2.2.1
theorem dL_law_817 : decode cL_law 817 = .ok (.iconst 2, 1) := dTL_6.2.2.2.2.1.2.2.2.2.2.2.2.2.1
theorem dL_law_818 : decode cL_law 818 = .ok (.iadd, 1) := dTL_6.2.2.2.2.1.2.2.2.2.2.2.2.2.2.1
theorem dL_law_819 : decode cL_law 819 = .ok (.iaload, 1) := dTL_6.2.2.2.2.2.1.1
theorem dL_law_820 : decode cL_law 820 = .ok (.aload_n 0, 1) := dTL_6.2.2.2.2.2.1.2.1
theorem dL_law_821 : decode cL_law 821 = .ok (.iload 4, 2) := dTL_6.2.2.2.2.2.1.2.2.1
theorem dL_law_823 : decode cL_law 823 = .ok (.iconst 3, 1) := dTL_6.2.2.2.2.2.1.2.2.2.1
theorem dL_law_824 : decode cL_law 824 = .ok (.iadd, 1) := dTL_6.2.2.2.2.2.1.2.2.2.2.1
theorem dL_law_825 : decode cL_law 825 = .ok (.iaload, 1) := dTL_6.2.2.2.2.2.1.2.2.2.2.2.1
theorem dL_law_826 : decode cL_law 826 = .ok (.invokevirtual 223, 3) := dTL_6.2.2.2.2.2.1.2.2.2.2.2.2.1
theorem dL_law_829 : decode cL_law 829 = .ok (.istore 6, 2) := dTL_6.2.2.2.2.2.1.2.2.2.2.2.2.2.1
theorem dL_law_831 : decode cL_law 831 = .ok (.goto 1159, 3) := dTL_6.2.2.2.2.2.1.2.2.2.2.2.2.2.2.1
theorem dL_law_834 : decode cL_law 834 = .ok (.aload_n 1, 1) := dTL_6.2.2.2.2.2.1.2.2.2.2.2.2.2.2.2.1
theorem dTL_7 : dQ cL_law [[(835, .aload_n 0, 1), (836, .iload 4, 2), (838, .iconst 1, 1), (839, .iadd, 1), (840, .iaload, 1), (841, .aload_n 0, 1), (842, .iload 4, 2), (844, .iconst 2, 1), (845, .iadd, 1), (846, .iaload, 1)], [(847, .aload_n 0, 1), (848, .iload 4, 2), (850, .iconst 3, 1), (851, .iadd, 1), (852, .iaload, 1), (853, .aload_n 3, 1), (854, .invokestatic 224, 3), (857, .istore 5, 2), (859, .aload_n 2, 1), (860, .aload_n 0, 1)], [(861, .iload 4, 2), (863, .iconst 1, 1), (864, .iadd, 1), (865, .iaload, 1), (866, .aload_n 0, 1), (867, .iload 4, 2), (869, .iconst 2, 1), (870, .iadd, 1), (871, .iaload, 1), (872, .aload_n 0, 1)], [(873, .iload 4, 2), (875, .iconst 3, 1), (876, .iadd, 1), (877, .iaload, 1), (878, .invokevirtual 226, 3), (881, .istore 6, 2), (883, .goto 1107, 3), (886, .aload_n 1, 1), (887, .aload_n 0, 1), (888, .iload 4, 2)], [(890, .iconst 1, 1), (891, .iadd, 1), (892, .iaload, 1), (893, .ifCond .eq 7, 3), (896, .iconst 1, 1), (897, .goto 4, 3), (900, .iconst 0, 1), (901, .aload_n 0, 1), (902, .iload 4, 2), (904, .iconst 2, 1)], [(905, .iadd, 1), (906, .iaload, 1), (907, .aload_n 3, 1), (908, .invokestatic 227, 3), (911, .istore 5, 2), (913, .aload_n 2, 1), (914, .aload_n 0, 1), (915, .iload 4, 2), (917, .iconst 1, 1), (918, .iadd, 1)]] := dQ_of _ _ (by decide +kernel)
theorem dL_law_835 : decode cL_law 835 = .ok (.aload_n 0, 1) := dTL_7.1.1
theorem dL_law_836 : decode cL_law 836 = .ok (.iload 4, 2) := dTL_7.1.2.1
theorem dL_law_838 : decode cL_law 838 = .ok (.iconst 1, 1) := dTL_7.1.2.2.1
theorem dL_law_839 : decode cL_law 839 = .ok (.iadd, 1) := dTL_7.1.2.2.2.1
theorem dL_law_840 : decode cL_law 840 = .ok (.iaload, 1) := dTL_7.1.2.2.2.2.1
theorem dL_law_841 : decode cL_law 841 = .ok (.aload_n 0, 1) := dTL_7.1.2.2.2.2.2.1
theorem dL_law_842 : decode cL_law 842 = .ok (.iload 4, 2) := dTL_7.1.2.2.2.2.2.2.1
theorem dL_law_844 : decode cL_law 844 = .ok (.iconst 2, 1) := dTL_7.1.2.2.2.2.2.2.2.1
theorem dL_law_845 : decode cL_law 845 = .ok (.iadd, 1) := dTL_7.1.2.2.2.2.2.2.2.2.1
theorem dL_law_846 : decode cL_law 846 = .ok (.iaload, 1) := dTL_7.1.2.2.2.2.2.2.2.2.2.1
theorem dL_law_847 : decode cL_law 847 = .ok (.aload_n 0, 1) := dTL_7.2.1.1
theorem dL_law_848 : decode cL_law 848 = .ok (.iload 4, 2) := dTL_7.2.1.2.1
theorem dL_law_850 : decode cL_law 850 = .ok (.iconst 3, 1) := dTL_7.2.1.2.2.1
theorem dL_law_851 : decode cL_law 851 = .ok (.iadd, 1) := dTL_7.2.1.2.2.2.1
theorem dL_law_852 : decode cL_law 852 = .ok (.iaload, 1) := dTL_7.2.1.2.2.2.2.1
theorem dL_law_853 : decode cL_law 853 = .ok (.aload_n 3, 1) := dTL_7.2.1.2.2.2.2.2.1
theorem dL_law_854 : decode cL_law 854 = .ok (.invokestatic 224, 3) := dTL_7.2.1.2.2.2.2.2.2.1
theorem dL_law_857 : decode cL_law 857 = .ok (.istore 5, 2) := dTL_7.2.1.2.2.2.2.2.2.2.1
theorem dL_law_859 : decode cL_law 859 = .ok (.aload_n 2, 1) := dTL_7.2.1.2.2.2.2.2.2.2.2.1
theorem dL_law_860 : decode cL_law 860 = .ok (.aload_n 0, 1) := dTL_7.2.1.2.2.2.2.2.2.2.2.2.1
theorem dL_law_861 : decode cL_law 861 = .ok (.iload 4, 2) := dTL_7.2.2.1.1
theorem dL_law_863 : decode cL_law 863 = .ok (.iconst 1, 1) := dTL_7.2.2.1.2.1
theorem dL_law_864 : decode cL_law 864 = .ok (.iadd, 1) := dTL_7.2.2.1.2.2.1
theorem dL_law_865 : decode cL_law 865 = .ok (.iaload, 1) := dTL_7.2.2.1.2.2.2.1
theorem dL_law_866 : decode cL_law 866 = .ok (.aload_n 0, 1) := dTL_7.2.2.1.2.2.2.2.1
theorem dL_law_867 : decode cL_law 867 = .ok (.iload 4, 2) := dTL_7.2.2.1.2.2.2.2.2.1
theorem dL_law_869 : decode cL_law 869 = .ok (.iconst 2, 1) := dTL_7.2.2.1.2.2.2.2.2.2.1
theorem dL_law_870 : decode cL_law 870 = .ok (.iadd, 1) := dTL_7.2.2.1.2.2.2.2.2.2.2.1
theorem dL_law_871 : decode cL_law 871 = .ok (.iaload, 1) := dTL_7.2.2.1.2.2.2.2.2.2.2.2.1
theorem dL_law_872 : decode cL_law 872 = .ok (.aload_n 0, 1) := dTL_7.2.2.1.2.2.2.2.2.2.2.2.2.1
theorem dL_law_873 : decode cL_law 873 = .ok (.iload 4, 2) := dTL_7.2.2.2.1.1
theorem dL_law_875 : decode cL_law 875 = .ok (.iconst 3, 1) := dTL_7.2.2.2.1.2.1
theorem dL_law_876 : decode cL_law 876 = .ok (.iadd, 1) := dTL_7.2.2.2.1.2.2.1
theorem dL_law_877 : decode cL_law 877 = .ok (.iaload, 1) := dTL_7.2.2.2.1.2.2.2.1
theorem dL_law_878 : decode cL_law 878 = .ok (.invokevirtual 226, 3) := dTL_7.2.2.2.1.2.2.2.2.1
theorem dL_law_881 : decode cL_law 881 = .ok (.istore 6, 2) := dTL_7.2.2.2.1.2.2.2.2.2.1
theorem dL_law_883 : decode cL_law 883 = .ok (.goto 1107, 3) := dTL_7.2.2.2.1.2.2.2.2.2.2.1
theorem dL_law_886 : decode cL_law 886 = .ok (.aload_n 1, 1) := dTL_7.2.2.2.1.2.2.2.2.2.2.2.1
theorem dL_law_887 : decode cL_law 887 = .ok (.aload_n 0, 1) := dTL_7.2.2.2.1.2.2.2.2.2.2.2.2.1
theorem dL_law_888 : decode cL_law 888 = .ok (.iload 4, 2) := dTL_7.2.2.2.1.2.2.2.2.2.2.2.2.2.1
theorem dL_law_890 : decode cL_law 890 = .ok (.iconst 1, 1) := dTL_7.2.2.2.2.1.1
theorem dL_law_891 : decode cL_law 891 = .ok (.iadd, 1) := dTL_7.2.2.2.2.1.2.1
theorem dL_law_892 : decode cL_law 892 = .ok (.iaload, 1) := dTL_7.2.2.2.2.1.2.2.1
theorem dL_law_893 : decode cL_law 893 = .ok (.ifCond .eq 7, 3) := dTL_7.2.2.2.2.1.2.2.2.1
theorem dL_law_896 : decode cL_law 896 = .ok (.iconst 1, 1) := dTL_7.2.2.2.2.1.2.2.2.2.1
theorem dL_law_897 : decode cL_law 897 = .ok (.goto 4, 3) := dTL_7.2.2.2.2.1.2.2.2.2.2.1
theorem dL_law_900 : decode cL_law 900 = .ok (.iconst 0, 1) := dTL_7.2.2.2.2.1.2.2.2.2.2.2.1
theorem dL_law_901 : decode cL_law 901 = .ok (.aload_n 0, 1) := dTL_7.2.2.2.2.1.2.2.2.2.2.2.2.1
theorem dL_law_902 : decode cL_law 902 = .ok (.iload 4, 2) := dTL_7.2.2.2.2.1.2.2.2.2.2.2.2.2.1
theorem dL_law_904 : decode cL_law 904 = .ok (.iconst 2, 1) := dTL_7.2.2.2.2.1.2.2.2.2.2.2.2.2.2.1
theorem dL_law_905 : decode cL_law 905 = .ok (.iadd, 1) := dTL_7.2.2.2.2.2.1.1
theorem dL_law_906 : decode cL_law 906 = .ok (.iaload, 1) := dTL_7.2.2.2.2.2.1.2.1
theorem dL_law_907 : decode cL_law 907 = .ok (.aload_n 3, 1) := dTL_7.2.2.2.2.2.1.2.2.1
theorem dL_law_908 : decode cL_law 908 = .ok (.invokestatic 227, 3) := dTL_7.2.2.2.2.2.1.2.2.2.1
theorem dL_law_911 : decode cL_law 911 = .ok (.istore 5, 2) := dTL_7.2.2.2.2.2.1.2.2.2.2.1
theorem dL_law_913 : decode cL_law 913 = .ok (.aload_n 2, 1) := dTL_7.2.2.2.2.2.1.2.2.2.2.2.1
theorem dL_law_914 : decode cL_law 914 = .ok (.aload_n 0, 1) := dTL_7.2.2.2.2.2.1.2.2.2.2.2.2.1
theorem dL_law_915 : decode cL_law 915 = .ok (.iload 4, 2) := dTL_7.2.2.2.2.2.1.2.2.2.2.2.2.2.1
theorem dL_law_917 : decode cL_law 917 = .ok (.iconst 1, 1) := dTL_7.2.2.2.2.2.1.2.2.2.2.2.2.2.2.1
theorem dL_law_918 : decode cL_law 918 = .ok (.iadd, 1) := dTL_7.2.2.2.2.2.1.2.2.2.2.2.2.2.2.2.1
theorem dTL_8 : dQ cL_law [[(919, .iaload, 1), (920, .ifCond .eq 7, 3), (923, .iconst 1, 1), (924, .goto 4, 3), (927, .iconst 0, 1), (928, .aload_n 0, 1), (929, .iload 4, 2), (931, .iconst 2, 1), (932, .iadd, 1), (933, .iaload, 1)], [(934, .invokevirtual 230, 3), (937, .istore 6, 2), (939, .goto 1051, 3), (942, .aload_n 1, 1), (943, .invokevirtual 231, 3), (946, .pop, 1), (947, .aload_n 2, 1), (948, .invokevirtual 234, 3), (951, .pop, 1), (952, .goto 1038, 3)], [(955, .aload_n 1, 1), (956, .aload_n 0, 1), (957, .iload 4, 2), (959, .iconst 1, 1), (960, .iadd, 1), (961, .iaload, 1), (962, .aload_n 3, 1), (963, .invokestatic 235, 3), (966, .istore 5, 2), (968, .aload_n 2, 1)], [(969, .aload_n 0, 1), (970, .iload 4, 2), (972, .iconst 1, 1), (973, .iadd, 1), (974, .iaload, 1), (975, .invokevirtual 237, 3), (978, .istore 6, 2), (980, .goto 1010, 3), (983, .aload_n 1, 1), (984, .aload_n 0, 1)], [(985, .iload 4, 2), (987, .iconst 1, 1), (988, .iadd, 1), (989, .iaload, 1), (990, .aload_n 3, 1), (991, .invokestatic 238, 3), (994, .istore 5, 2), (996, .aload_n 2, 1), (997, .aload_n 0, 1), (998, .iload 4, 2)], [(1000, .iconst 1, 1), (1001, .iadd, 1), (1002, .iaload, 1), (1003, .invokevirtual 240, 3), (1006, .istore 6, 2), (1008, .goto 982, 3), (1011, .aload_n 1, 1), (1012, .aload_n 0, 1), (1013, .iload 4, 2), (1015, .iconst 1, 1)]] := dQ_of _ _ (by decide +kernel)
theorem dL_law_919 : decode cL_law 919 = .ok (.iaload, 1) := dTL_8.1.1
theorem dL_law_920 : decode cL_law 920 = .ok (.ifCond .eq 7, 3) := dTL_8.1.2.1
theorem dL_law_923 : decode cL_law 923 = .ok (.iconst 1, 1) := dTL_8.1.2.2.1
theorem dL_law_924 : decode cL_law 924 = .ok (.goto 4, 3) := dTL_8.1.2.2.2.1
theorem dL_law_927 : decode cL_law 927 = .ok (.iconst 0, 1) := dTL_8.1.2.2.2.2.1
theorem dL_law_928 : decode cL_law 928 = .ok (.aload_n 0, 1) := dTL_8.1.2.2.2.2.2.1
theorem dL_law_929 : decode cL_law 929 = .ok (.iload 4, 2) := dTL_8.1.2.2.2.2.2.2.1
theorem dL_law_931 : decode cL_law 931 = .ok (.iconst 2, 1) := dTL_8.1.2.2.2.2.2.2.2.1
theorem dL_law_932 : decode cL_law 932 = .ok (.iadd, 1) := dTL_8.1.2.2.2.2.2.2.2.2.1
theorem dL_law_933 : decode cL_law 933 = .ok (.iaload, 1) := dTL_8.1.2.2.2.2.2.2.2.2.2.1
theorem dL_law_934 : decode cL_law 934 = .ok (.invokevirtual 230, 3) := dTL_8.2.1.1
theorem dL_law_937 : decode cL_law 937 = .ok (.istore 6, 2) := dTL_8.2.1.2.1
theorem dL_law_939 : decode cL_law 939 = .ok (.goto 1051, 3) := dTL_8.2.1.2.2.1
theorem dL_law_942 : decode cL_law 942 = .ok (.aload_n 1, 1) := dTL_8.2.1.2.2.2.1
theorem dL_law_943 : decode cL_law 943 = .ok (.invokevirtual 231, 3) := dTL_8.2.1.2.2.2.2.1
theorem dL_law_946 : decode cL_law 946 = .ok (.pop, 1) := dTL_8.2.1.2.2.2.2.2.1
theorem dL_law_947 : decode cL_law 947 = .ok (.aload_n 2, 1) := dTL_8.2.1.2.2.2.2.2.2.1
theorem dL_law_948 : decode cL_law 948 = .ok (.invokevirtual 234, 3) := dTL_8.2.1.2.2.2.2.2.2.2.1
theorem dL_law_951 : decode cL_law 951 = .ok (.pop, 1) := dTL_8.2.1.2.2.2.2.2.2.2.2.1
theorem dL_law_952 : decode cL_law 952 = .ok (.goto 1038, 3) := dTL_8.2.1.2.2.2.2.2.2.2.2.2.1
theorem dL_law_955 : decode cL_law 955 = .ok (.aload_n 1, 1) := dTL_8.2.2.1.1
theorem dL_law_956 : decode cL_law 956 = .ok (.aload_n 0, 1) := dTL_8.2.2.1.2.1
theorem dL_law_957 : decode cL_law 957 = .ok (.iload 4, 2) := dTL_8.2.2.1.2.2.1
theorem dL_law_959 : decode cL_law 959 = .ok (.iconst 1, 1) := dTL_8.2.2.1.2.2.2.1
theorem dL_law_960 : decode cL_law 960 = .ok (.iadd, 1) := dTL_8.2.2.1.2.2.2.2.1
theorem dL_law_961 : decode cL_law 961 = .ok (.iaload, 1) := dTL_8.2.2.1.2.2.2.2.2.1
theorem dL_law_962 : decode cL_law 962 = .ok (.aload_n 3, 1) := dTL_8.2.2.1.2.2.2.2.2.2.1
theorem dL_law_963 : decode cL_law 963 = .ok (.invokestatic 235, 3) := dTL_8.2.2.1.2.2.2.2.2.2.2.1
theorem dL_law_966 : decode cL_law 966 = .ok (.istore 5, 2) := dTL_8.2.2.1.2.2.2.2.2.2.2.2.1
theorem dL_law_968 : decode cL_law 968 = .ok (.aload_n 2, 1) := dTL_8.2.2.1.2.2.2.2.2.2.2.2.2.1
theorem dL_law_969 : decode cL_law 969 = .ok (.aload_n 0, 1) := dTL_8.2.2.2.1.1
theorem dL_law_970 : decode cL_law 970 = .ok (.iload 4, 2) := dTL_8.2.2.2.1.2.1
theorem dL_law_972 : decode cL_law 972 = .ok (.iconst 1, 1) := dTL_8.2.2.2.1.2.2.1
theorem dL_law_973 : decode cL_law 973 = .ok (.iadd, 1) := dTL_8.2.2.2.1.2.2.2.1
theorem dL_law_974 : decode cL_law 974 = .ok (.iaload, 1) := dTL_8.2.2.2.1.2.2.2.2.1
theorem dL_law_975 : decode cL_law 975 = .ok (.invokevirtual 237, 3) := dTL_8.2.2.2.1.2.2.2.2.2.1
theorem dL_law_978 : decode cL_law 978 = .ok (.istore 6, 2) := dTL_8.2.2.2.1.2.2.2.2.2.2.1
theorem dL_law_980 : decode cL_law 980 = .ok (.goto 1010, 3) := dTL_8.2.2.2.1.2.2.2.2.2.2.2.1
theorem dL_law_983 : decode cL_law 983 = .ok (.aload_n 1, 1) := dTL_8.2.2.2.1.2.2.2.2.2.2.2.2.1
theorem dL_law_984 : decode cL_law 984 = .ok (.aload_n 0, 1) := dTL_8.2.2.2.1.2.2.2.2.2.2.2.2.2.1
theorem dL_law_985 : decode cL_law 985 = .ok (.iload 4, 2) := dTL_8.2.2.2.2.1.1
theorem dL_law_987 : decode cL_law 987 = .ok (.iconst 1, 1) := dTL_8.2.2.2.2.1.2.1
theorem dL_law_988 : decode cL_law 988 = .ok (.iadd, 1) := dTL_8.2.2.2.2.1.2.2.1
theorem dL_law_989 : decode cL_law 989 = .ok (.iaload, 1) := dTL_8.2.2.2.2.1.2.2.2.1
theorem dL_law_990 : decode cL_law 990 = .ok (.aload_n 3, 1) := dTL_8.2.2.2.2.1.2.2.2.2.1
theorem dL_law_991 : decode cL_law 991 = .ok (.invokestatic 238, 3) := dTL_8.2.2.2.2.1.2.2.2.2.2.1
theorem dL_law_994 : decode cL_law 994 = .ok (.istore 5, 2) := dTL_8.2.2.2.2.1.2.2.2.2.2.2.1
theorem dL_law_996 : decode cL_law 996 = .ok (.aload_n 2, 1) := dTL_8.2.2.2.2.1.2.2.2.2.2.2.2.1
theorem dL_law_997 : decode cL_law 997 = .ok (.aload_n 0, 1) := dTL_8.2.2.2.2.1.2.2.2.2.2.2.2.2.1
theorem dL_law_998 : decode cL_law 998 = .ok (.iload 4, 2) := dTL_8.2.2.2.2.1.2.2.2.2.2.2.2.2.2.1
theorem dL_law_1000 : decode cL_law 1000 = .ok (.iconst 1, 1) := dTL_8.2.2.2.2.2.1.1
theorem dL_law_1001 : decode cL_law 1001 = .ok (.iadd, 1) := dTL_8.2.2.2.2.2.1.2.1
theorem dL_law_1002 : decode cL_law 1002 = .ok (.iaload, 1) := dTL_8.2.2.2.2.2.1.2.2.1
theorem dL_law_1003 : decode cL_law 1003 = .ok (.invokevirtual 240, 3) := dTL_8.2.2.2.2.2.1.2.2.2.1
theorem dL_law_1006 : decode cL_law 1006 = .ok (.istore 6, 2) := dTL_8.2.2.2.2.2.1.2.2.2.2.1
theorem dL_law_1008 : decode cL_law 1008 = .ok (.goto 982, 3) := dTL_8.2.2.2.2.2.1.2.2.2.2.2.1
theorem dL_law_1011 : decode cL_law 1011 = .ok (.aload_n 1, 1) := dTL_8.2.2.2.2.2.1.2.2.2.2.2.2.1
theorem dL_law_1012 : decode cL_law 1012 = .ok (.aload_n 0, 1) := dTL_8.2.2.2.2.2.1.2.2.2.2.2.2.2.1
theorem dL_law_1013 : decode cL_law 1013 = .ok (.iload 4, 2) := dTL_8.2.2.2.2.2.1.2.2.2.2.2.2.2.2.1
theorem dL_law_1015 : decode cL_law 1015 = .ok (.iconst 1, 1) := dTL_8.2.2.2.2.2.1.2.2.2.2.2.2.2.2.2.1
theorem dTL_9 : dQ cL_law [[(1016, .iadd, 1), (1017, .iaload, 1), (1018, .aload_n 3, 1), (1019, .invokestatic 241, 3), (1022, .istore 5, 2), (1024, .aload_n 2, 1), (1025, .aload_n 0, 1), (1026, .iload 4, 2), (1028, .iconst 1, 1), (1029, .iadd, 1)], [(1030, .iaload, 1), (1031, .invokevirtual 243, 3), (1034, .istore 6, 2), (1036, .goto 954, 3), (1039, .aload_n 1, 1), (1040, .aload_n 0, 1), (1041, .iload 4, 2), (1043, .iconst 1, 1), (1044, .iadd, 1), (1045, .iaload, 1)], [(1046, .aload_n 3, 1), (1047, .invokestatic 244, 3), (1050, .istore 5, 2), (1052, .aload_n 2, 1), (1053, .aload_n 0, 1), (1054, .iload 4, 2), (1056, .iconst 1, 1), (1057, .iadd, 1), (1058, .iaload, 1), (1059, .invokevirtual 246, 3)], [(1062, .istore 6, 2), (1064, .goto 926, 3), (1067, .aload_n 1, 1), (1068, .aload_n 0, 1), (1069, .iload 4, 2), (1071, .iconst 1, 1), (1072, .iadd, 1), (1073, .iaload, 1), (1074, .aload_n 3, 1), (1075, .invokestatic 247, 3)], [(1078, .istore 5, 2), (1080, .aload_n 2, 1), (1081, .aload_n 0, 1), (1082, .iload 4, 2), (1084, .iconst 1, 1), (1085, .iadd, 1), (1086, .iaload, 1), (1087, .invokevirtual 249, 3), (1090, .istore 6, 2), (1092, .goto 898, 3)], [(1095, .aload_n 1, 1), (1096, .aload_n 0, 1), (1097, .iload 4, 2), (1099, .iconst 1, 1), (1100, .iadd, 1), (1101, .iaload, 1), (1102, .aload_n 0, 1), (1103, .iload 4, 2), (1105, .iconst 2, 1), (1106, .iadd, 1)]] := dQ_of _ _ (by decide +kernel)
theorem dL_law_1016 : decode cL_law 1016 = .ok (.iadd, 1) := dTL_9.1.1
theorem dL_law_1017 : decode cL_law 1017 = .ok (.iaload, 1) := dTL_9.1.2.1
theorem dL_law_1018 : decode cL_law 1018 = .ok (.aload_n 3, 1) := dTL_9.1.2.2.1
theorem dL_law_1019 : decode cL_law 1019 = .ok (.invokestatic 241, 3) := dTL_9.1.2.2.2.1
theorem dL_law_1022 : decode cL_law 1022 = .ok (.istore 5, 2) := dTL_9.1.2.2.2.2.1
theorem dL_law_1024 : decode cL_law 1024 = .ok (.aload_n 2, 1) := dTL_9.1.2.2.2.2.2.1
theorem dL_law_1025 : decode cL_law 1025 = .ok (.aload_n 0, 1) := dTL_9.1.2.2.2.2.2.2.1
theorem dL_law_1026 : decode cL_law 1026 = .ok (.iload 4, 2) := dTL_9.1.2.2.2.2.2.2.2.1
theorem dL_law_1028 : decode cL_law 1028 = .ok (.iconst 1, 1) := dTL_9.1.2.2.2.2.2.2.2.2.1
theorem dL_law_1029 : decode cL_law 1029 = .ok (.iadd, 1) := dTL_9.1.2.2.2.2.2.2.2.2.2.1
theorem dL_law_1030 : decode cL_law 1030 = .ok (.iaload, 1) := dTL_9.2.1.1
theorem dL_law_1031 : decode cL_law 1031 = .ok (.invokevirtual 243, 3) := dTL_9.2.1.2.1
theorem dL_law_1034 : decode cL_law 1034 = .ok (.istore 6, 2) := dTL_9.2.1.2.2.1
theorem dL_law_1036 : decode cL_law 1036 = .ok (.goto 954, 3) := dTL_9.2.1.2.2.2.1
theorem dL_law_1039 : decode cL_law 1039 = .ok (.aload_n 1, 1) := dTL_9.2.1.2.2.2.2.1
theorem dL_law_1040 : decode cL_law 1040 = .ok (.aload_n 0, 1) := dTL_9.2.1.2.2.2.2.2.1
theorem dL_law_1041 : decode cL_law 1041 = .ok (.iload 4, 2) := dTL_9.2.1.2.2.2.2.2.2.1
theorem dL_law_1043 : decode cL_law 1043 = .ok (.iconst 1, 1) := dTL_9.2.1.2.2.2.2.2.2.2.1
theorem dL_law_1044 : decode cL_law 1044 = .ok (.iadd, 1) := dTL_9.2.1.2.2.2.2.2.2.2.2.1
theorem dL_law_1045 : decode cL_law 1045 = .ok (.iaload, 1) := dTL_9.2.1.2.2.2.2.2.2.2.2.2.1
theorem dL_law_1046 : decode cL_law 1046 = .ok (.aload_n 3, 1) := dTL_9.2.2.1.1
theorem dL_law_1047 : decode cL_law 1047 = .ok (.invokestatic 244, 3) := dTL_9.2.2.1.2.1
theorem dL_law_1050 : decode cL_law 1050 = .ok (.istore 5, 2) := dTL_9.2.2.1.2.2.1
theorem dL_law_1052 : decode cL_law 1052 = .ok (.aload_n 2, 1) := dTL_9.2.2.1.2.2.2.1
theorem dL_law_1053 : decode cL_law 1053 = .ok (.aload_n 0, 1) := dTL_9.2.2.1.2.2.2.2.1
theorem dL_law_1054 : decode cL_law 1054 = .ok (.iload 4, 2) := dTL_9.2.2.1.2.2.2.2.2.1
theorem dL_law_1056 : decode cL_law 1056 = .ok (.iconst 1, 1) := dTL_9.2.2.1.2.2.2.2.2.2.1
theorem dL_law_1057 : decode cL_law 1057 = .ok (.iadd, 1) := dTL_9.2.2.1.2.2.2.2.2.2.2.1
theorem dL_law_1058 : decode cL_law 1058 = .ok (.iaload, 1) := dTL_9.2.2.1.2.2.2.2.2.2.2.2.1
theorem dL_law_1059 : decode cL_law 1059 = .ok (.invokevirtual 246, 3) := dTL_9.2.2.1.2.2.2.2.2.2.2.2.2.1
theorem dL_law_1062 : decode cL_law 1062 = .ok (.istore 6, 2) := dTL_9.2.2.2.1.1
theorem dL_law_1064 : decode cL_law 1064 = .ok (.goto 926, 3) := dTL_9.2.2.2.1.2.1
theorem dL_law_1067 : decode cL_law 1067 = .ok (.aload_n 1, 1) := dTL_9.2.2.2.1.2.2.1
theorem dL_law_1068 : decode cL_law 1068 = .ok (.aload_n 0, 1) := dTL_9.2.2.2.1.2.2.2.1
theorem dL_law_1069 : decode cL_law 1069 = .ok (.iload 4, 2) := dTL_9.2.2.2.1.2.2.2.2.1
theorem dL_law_1071 : decode cL_law 1071 = .ok (.iconst 1, 1) := dTL_9.2.2.2.1.2.2.2.2.2.1
theorem dL_law_1072 : decode cL_law 1072 = .ok (.iadd, 1) := dTL_9.2.2.2.1.2.2.2.2.2.2.1
theorem dL_law_1073 : decode cL_law 1073 = .ok (.iaload, 1) := dTL_9.2.2.2.1.2.2.2.2.2.2.2.1
theorem dL_law_1074 : decode cL_law 1074 = .ok (.aload_n 3, 1) := dTL_9.2.2.2.1.2.2.2.2.2.2.2.2.1
theorem dL_law_1075 : decode cL_law 1075 = .ok (.invokestatic 247, 3) := dTL_9.2.2.2.1.2.2.2.2.2.2.2.2.2.1
theorem dL_law_1078 : decode cL_law 1078 = .ok (.istore 5, 2) := dTL_9.2.2.2.2.1.1
theorem dL_law_1080 : decode cL_law 1080 = .ok (.aload_n 2, 1) := dTL_9.2.2.2.2.1.2.1
theorem dL_law_1081 : decode cL_law 1081 = .ok (.aload_n 0, 1) := dTL_9.2.2.2.2.1.2.2.1
theorem dL_law_1082 : decode cL_law 1082 = .ok (.iload 4, 2) := dTL_9.2.2.2.2.1.2.2.2.1
theorem dL_law_1084 : decode cL_law 1084 = .ok (.iconst 1, 1) := dTL_9.2.2.2.2.1.2.2.2.2.1
theorem dL_law_1085 : decode cL_law 1085 = .ok (.iadd, 1) := dTL_9.2.2.2.2.1.2.2.2.2.2.1
theorem dL_law_1086 : decode cL_law 1086 = .ok (.iaload, 1) := dTL_9.2.2.2.2.1.2.2.2.2.2.2.1
theorem dL_law_1087 : decode cL_law 1087 = .ok (.invokevirtual 249, 3) := dTL_9.2.2.2.2.1.2.2.2.2.2.2.2.1
theorem dL_law_1090 : decode cL_law 1090 = .ok (.istore 6, 2) := dTL_9.2.2.2.2.1.2.2.2.2.2.2.2.2.1
theorem dL_law_1092 : decode cL_law 1092 = .ok (.goto 898, 3) := dTL_9.2.2.2.2.1.2.2.2.2.2.2.2.2.2.1
theorem dL_law_1095 : decode cL_law 1095 = .ok (.aload_n 1, 1) := dTL_9.2.2.2.2.2.1.1
theorem dL_law_1096 : decode cL_law 1096 = .ok (.aload_n 0, 1) := dTL_9.2.2.2.2.2.1.2.1
theorem dL_law_1097 : decode cL_law 1097 = .ok (.iload 4, 2) := dTL_9.2.2.2.2.2.1.2.2.1
theorem dL_law_1099 : decode cL_law 1099 = .ok (.iconst 1, 1) := dTL_9.2.2.2.2.2.1.2.2.2.1
theorem dL_law_1100 : decode cL_law 1100 = .ok (.iadd, 1) := dTL_9.2.2.2.2.2.1.2.2.2.2.1
theorem dL_law_1101 : decode cL_law 1101 = .ok (.iaload, 1) := dTL_9.2.2.2.2.2.1.2.2.2.2.2.1
theorem dL_law_1102 : decode cL_law 1102 = .ok (.aload_n 0, 1) := dTL_9.2.2.2.2.2.1.2.2.2.2.2.2.1
theorem dL_law_1103 : decode cL_law 1103 = .ok (.iload 4, 2) := dTL_9.2.2.2.2.2.1.2.2.2.2.2.2.2.1
theorem dL_law_1105 : decode cL_law 1105 = .ok (.iconst 2, 1) := dTL_9.2.2.2.2.2.1.2.2.2.2.2.2.2.2.1
theorem dL_law_1106 : decode cL_law 1106 = .ok (.iadd, 1) := dTL_9.2.2.2.2.2.1.2.2.2.2.2.2.2.2.2.1
theorem dTL_10 : dQ cL_law [[(1107, .iaload, 1), (1108, .aload_n 3, 1), (1109, .invokestatic 250, 3), (1112, .istore 5, 2), (1114, .aload_n 2, 1), (1115, .aload_n 0, 1), (1116, .iload 4, 2), (1118, .iconst 1, 1), (1119, .iadd, 1), (1120, .iaload, 1)], [(1121, .aload_n 0, 1), (1122, .iload 4, 2), (1124, .iconst 2, 1), (1125, .iadd, 1), (1126, .iaload, 1), (1127, .invokevirtual 252, 3), (1130, .istore 6, 2), (1132, .goto 858, 3), (1135, .aload_n 1, 1), (1136, .aload_n 0, 1)], [(1137, .iload 4, 2), (1139, .iconst 1, 1), (1140, .iadd, 1), (1141, .iaload, 1), (1142, .aload_n 3, 1), (1143, .invokestatic 253, 3), (1146, .istore 5, 2), (1148, .aload_n 2, 1), (1149, .aload_n 0, 1), (1150, .iload 4, 2)], [(1152, .iconst 1, 1), (1153, .iadd, 1), (1154, .iaload, 1), (1155, .invokevirtual 255, 3), (1158, .istore 6, 2), (1160, .goto 830, 3), (1163, .aload_n 1, 1), (1164, .aload_n 0, 1), (1165, .iload 4, 2), (1167, .iconst 1, 1)], [(1168, .iadd, 1), (1169, .iaload, 1), (1170, .aload_n 3, 1), (1171, .invokestatic 256, 3), (1174, .istore 5, 2), (1176, .aload_n 2, 1), (1177, .aload_n 0, 1), (1178, .iload 4, 2), (1180, .iconst 1, 1), (1181, .iadd, 1)], [(1182, .iaload, 1), (1183, .invokevirtual 258, 3), (1186, .istore 6, 2), (1188, .goto 802, 3), (1191, .aload_n 1, 1), (1192, .aload_n 0, 1), (1193, .iload 4, 2), (1195, .iconst 1, 1), (1196, .iadd, 1), (1197, .iaload, 1)]] := dQ_of _ _ (by decide +kernel)
theorem dL_law_1107 : decode cL_law 1107 = .ok (.iaload, 1) := dTL_10.1.1
theorem dL_law_1108 : decode cL_law 1108 = .ok (.aload_n 3, 1) := dTL_10.1.2.1
theorem dL_law_1109 : decode cL_law 1109 = .ok (.invokestatic 250, 3) := dTL_10.1.2.2.1
theorem dL_law_1112 : decode cL_law 1112 = .ok (.istore 5, 2) := dTL_10.1.2.2.2.1
theorem dL_law_1114 : decode cL_law 1114 = .ok (.aload_n 2, 1) := dTL_10.1.2.2.2.2.1
theorem dL_law_1115 : decode cL_law 1115 = .ok (.aload_n 0, 1) := dTL_10.1.2.2.2.2.2.1
theorem dL_law_1116 : decode cL_law 1116 = .ok (.iload 4, 2) := dTL_10.1.2.2.2.2.2.2.1
theorem dL_law_1118 : decode cL_law 1118 = .ok (.iconst 1, 1) := dTL_10.1.2.2.2.2.2.2.2.1
theorem dL_law_1119 : decode cL_law 1119 = .ok (.iadd, 1) := dTL_10.1.2.2.2.2.2.2.2.2.1
theorem dL_law_1120 : decode cL_law 1120 = .ok (.iaload, 1) := dTL_10.1.2.2.2.2.2.2.2.2.2.1
theorem dL_law_1121 : decode cL_law 1121 = .ok (.aload_n 0, 1) := dTL_10.2.1.1
theorem dL_law_1122 : decode cL_law 1122 = .ok (.iload 4, 2) := dTL_10.2.1.2.1
theorem dL_law_1124 : decode cL_law 1124 = .ok (.iconst 2, 1) := dTL_10.2.1.2.2.1
theorem dL_law_1125 : decode cL_law 1125 = .ok (.iadd, 1) := dTL_10.2.1.2.2.2.1
theorem dL_law_1126 : decode cL_law 1126 = .ok (.iaload, 1) := dTL_10.2.1.2.2.2.2.1
theorem dL_law_1127 : decode cL_law 1127 = .ok (.invokevirtual 252, 3) := dTL_10.2.1.2.2.2.2.2.1
theorem dL_law_1130 : decode cL_law 1130 = .ok (.istore 6, 2) := dTL_10.2.1.2.2.2.2.2.2.1
theorem dL_law_1132 : decode cL_law 1132 = .ok (.goto 858, 3) := dTL_10.2.1.2.2.2.2.2.2.2.1
theorem dL_law_1135 : decode cL_law 1135 = .ok (.aload_n 1, 1) := dTL_10.2.1.2.2.2.2.2.2.2.2.1
theorem dL_law_1136 : decode cL_law 1136 = .ok (.aload_n 0, 1) := dTL_10.2.1.2.2.2.2.2.2.2.2.2.1
theorem dL_law_1137 : decode cL_law 1137 = .ok (.iload 4, 2) := dTL_10.2.2.1.1
theorem dL_law_1139 : decode cL_law 1139 = .ok (.iconst 1, 1) := dTL_10.2.2.1.2.1
theorem dL_law_1140 : decode cL_law 1140 = .ok (.iadd, 1) := dTL_10.2.2.1.2.2.1
theorem dL_law_1141 : decode cL_law 1141 = .ok (.iaload, 1) := dTL_10.2.2.1.2.2.2.1
theorem dL_law_1142 : decode cL_law 1142 = .ok (.aload_n 3, 1) := dTL_10.2.2.1.2.2.2.2.1
theorem dL_law_1143 : decode cL_law 1143 = .ok (.invokestatic 253, 3) := dTL_10.2.2.1.2.2.2.2.2.1
theorem dL_law_1146 : decode cL_law 1146 = .ok (.istore 5, 2) := dTL_10.2.2.1.2.2.2.2.2.2.1
theorem dL_law_1148 : decode cL_law 1148 = .ok (.aload_n 2, 1) := dTL_10.2.2.1.2.2.2.2.2.2.2.1
theorem dL_law_1149 : decode cL_law 1149 = .ok (.aload_n 0, 1) := dTL_10.2.2.1.2.2.2.2.2.2.2.2.1
theorem dL_law_1150 : decode cL_law 1150 = .ok (.iload 4, 2) := dTL_10.2.2.1.2.2.2.2.2.2.2.2.2.1
theorem dL_law_1152 : decode cL_law 1152 = .ok (.iconst 1, 1) := dTL_10.2.2.2.1.1
theorem dL_law_1153 : decode cL_law 1153 = .ok (.iadd, 1) := dTL_10.2.2.2.1.2.1
theorem dL_law_1154 : decode cL_law 1154 = .ok (.iaload, 1) := dTL_10.2.2.2.1.2.2.1
theorem dL_law_1155 : decode cL_law 1155 = .ok (.invokevirtual 255, 3) := dTL_10.2.2.2.1.2.2.2.1
theorem dL_law_1158 : decode cL_law 1158 = .ok (.istore 6, 2) := dTL_10.2.2.2.1.2.2.2.2.1
theorem dL_law_1160 : decode cL_law 1160 = .ok (.goto 830, 3) := dTL_10.2.2.2.1.2.2.2.2.2.1
theorem dL_law_1163 : decode cL_law 1163 = .ok (.aload_n 1, 1) := dTL_10.2.2.2.1.2.2.2.2.2.2.1
theorem dL_law_1164 : decode cL_law 1164 = .ok (.aload_n 0, 1) := dTL_10.2.2.2.1.2.2.2.2.2.2.2.1
theorem dL_law_1165 : decode cL_law 1165 = .ok (.iload 4, 2) := dTL_10.2.2.2.1.2.2.2.2.2.2.2.2.1
theorem dL_law_1167 : decode cL_law 1167 = .ok (.iconst 1, 1) := dTL_10.2.2.2.1.2.2.2.2.2.2.2.2.2.1
theorem dL_law_1168 : decode cL_law 1168 = .ok (.iadd, 1) := dTL_10.2.2.2.2.1.1
theorem dL_law_1169 : decode cL_law 1169 = .ok (.iaload, 1) := dTL_10.2.2.2.2.1.2.1
theorem dL_law_1170 : decode cL_law 1170 = .ok (.aload_n 3, 1) := dTL_10.2.2.2.2.1.2.2.1
theorem dL_law_1171 : decode cL_law 1171 = .ok (.invokestatic 256, 3) := dTL_10.2.2.2.2.1.2.2.2.1
theorem dL_law_1174 : decode cL_law 1174 = .ok (.istore 5, 2) := dTL_10.2.2.2.2.1.2.2.2.2.1
theorem dL_law_1176 : decode cL_law 1176 = .ok (.aload_n 2, 1) := dTL_10.2.2.2.2.1.2.2.2.2.2.1
theorem dL_law_1177 : decode cL_law 1177 = .ok (.aload_n 0, 1) := dTL_10.2.2.2.2.1.2.2.2.2.2.2.1
theorem dL_law_1178 : decode cL_law 1178 = .ok (.iload 4, 2) := dTL_10.2.2.2.2.1.2.2.2.2.2.2.2.1
theorem dL_law_1180 : decode cL_law 1180 = .ok (.iconst 1, 1) := dTL_10.2.2.2.2.1.2.2.2.2.2.2.2.2.1
theorem dL_law_1181 : decode cL_law 1181 = .ok (.iadd, 1) := dTL_10.2.2.2.2.1.2.2.2.2.2.2.2.2.2.1
theorem dL_law_1182 : decode cL_law 1182 = .ok (.iaload, 1) := dTL_10.2.2.2.2.2.1.1
theorem dL_law_1183 : decode cL_law 1183 = .ok (.invokevirtual 258, 3) := dTL_10.2.2.2.2.2.1.2.1
theorem dL_law_1186 : decode cL_law 1186 = .ok (.istore 6, 2) := dTL_10.2.2.2.2.2.1.2.2.1
theorem dL_law_1188 : decode cL_law 1188 = .ok (.goto 802, 3) := dTL_10.2.2.2.2.2.1.2.2.2.1
theorem dL_law_1191 : decode cL_law 1191 = .ok (.aload_n 1, 1) := dTL_10.2.2.2.2.2.1.2.2.2.2.1
theorem dL_law_1192 : decode cL_law 1192 = .ok (.aload_n 0, 1) := dTL_10.2.2.2.2.2.1.2.2.2.2.2.1
theorem dL_law_1193 : decode cL_law 1193 = .ok (.iload 4, 2) := dTL_10.2.2.2.2.2.1.2.2.2.2.2.2.1
theorem dL_law_1195 : decode cL_law 1195 = .ok (.iconst 1, 1) := dTL_10.2.2.2.2.2.1.2.2.2.2.2.2.2.1
theorem dL_law_1196 : decode cL_law 1196 = .ok (.iadd, 1) := dTL_10.2.2.2.2.2.1.2.2.2.2.2.2.2.2.1
theorem dL_law_1197 : decode cL_law 1197 = .ok (.iaload, 1) := dTL_10.2.2.2.2.2.1.2.2.2.2.2.2.2.2.2.1
theorem dTL_11 : dQ cL_law [[(1198, .aload_n 3, 1), (1199, .invokestatic 259, 3), (1202, .istore 5, 2), (1204, .aload_n 2, 1), (1205, .aload_n 0, 1), (1206, .iload 4, 2), (1208, .iconst 1, 1), (1209, .iadd, 1), (1210, .iaload, 1), (1211, .invokevirtual 261, 3)], [(1214, .istore 6, 2), (1216, .goto 774, 3), (1219, .aload_n 1, 1), (1220, .aload_n 0, 1), (1221, .iload 4, 2), (1223, .iconst 1, 1), (1224, .iadd, 1), (1225, .iaload, 1), (1226, .aload_n 3, 1), (1227, .invokestatic 262, 3)], [(1230, .istore 5, 2), (1232, .aload_n 2, 1), (1233, .aload_n 0, 1), (1234, .iload 4, 2), (1236, .iconst 1, 1), (1237, .iadd, 1), (1238, .iaload, 1), (1239, .invokevirtual 264, 3), (1242, .istore 6, 2), (1244, .goto 746, 3)], [(1247, .aload_n 1, 1), (1248, .aload_n 0, 1), (1249, .iload 4, 2), (1251, .iconst 1, 1), (1252, .iadd, 1), (1253, .iaload, 1), (1254, .aload_n 3, 1), (1255, .invokestatic 265, 3), (1258, .istore 5, 2), (1260, .aload_n 2, 1)], [(1261, .aload_n 0, 1), (1262, .iload 4, 2), (1264, .iconst 1, 1), (1265, .iadd, 1), (1266, .iaload, 1), (1267, .invokevirtual 267, 3), (1270, .astore 6, 2), (1272, .goto 718, 3), (1275, .aload_n 1, 1), (1276, .aload_n 0, 1)], [(1277, .iload 4, 2), (1279, .iconst 1, 1), (1280, .iadd, 1), (1281, .iaload, 1), (1282, .aload_n 0, 1), (1283, .iload 4, 2), (1285, .iconst 2, 1), (1286, .iadd, 1), (1287, .iaload, 1), (1288, .aload_n 3, 1)]] := dQ_of _ _ (by decide +kernel)
theorem dL_law_1198 : decode cL_law 1198 = .ok (.aload_n 3, 1) := dTL_11.1.1
theorem dL_law_1199 : decode cL_law 1199 = .ok (.invokestatic 259, 3) := dTL_11.1.2.1
theorem dL_law_1202 : decode cL_law 1202 = .ok (.istore 5, 2) := dTL_11.1.2.2.1
theorem dL_law_1204 : decode cL_law 1204 = .ok (.aload_n 2, 1) := dTL_11.1.2.2.2.1
theorem dL_law_1205 : decode cL_law 1205 = .ok (.aload_n 0, 1) := dTL_11.1.2.2.2.2.1
theorem dL_law_1206 : decode cL_law 1206 = .ok (.iload 4, 2) := dTL_11.1.2.2.2.2.2.1
theorem dL_law_1208 : decode cL_law 1208 = .ok (.iconst 1, 1) := dTL_11.1.2.2.2.2.2.2.1
theorem dL_law_1209 : decode cL_law 1209 = .ok (.iadd, 1) := dTL_11.1.2.2.2.2.2.2.2.1
theorem dL_law_1210 : decode cL_law 1210 = .ok (.iaload, 1) := dTL_11.1.2.2.2.2.2.2.2.2.1
theorem dL_law_1211 : decode cL_law 1211 = .ok (.invokevirtual 261, 3) := dTL_11.1.2.2.2.2.2.2.2.2.2.1
theorem dL_law_1214 : decode cL_law 1214 = .ok (.istore 6, 2) := dTL_11.2.1.1
theorem dL_law_1216 : decode cL_law 1216 = .ok (.goto 774, 3) := dTL_11.2.1.2.1
theorem dL_law_1219 : decode cL_law 1219 = .ok (.aload_n 1, 1) := dTL_11.2.1.2.2.1
theorem dL_law_1220 : decode cL_law 1220 = .ok (.aload_n 0, 1) := dTL_11.2.1.2.2.2.1
theorem dL_law_1221 : decode cL_law 1221 = .ok (.iload 4, 2) := dTL_11.2.1.2.2.2.2.1
theorem dL_law_1223 : decode cL_law 1223 = .ok (.iconst 1, 1) := dTL_11.2.1.2.2.2.2.2.1
theorem dL_law_1224 : decode cL_law 1224 = .ok (.iadd, 1) := dTL_11.2.1.2.2.2.2.2.2.1
theorem dL_law_1225 : decode cL_law 1225 = .ok (.iaload, 1) := dTL_11.2.1.2.2.2.2.2.2.2.1
theorem dL_law_1226 : decode cL_law 1226 = .ok (.aload_n 3, 1) := dTL_11.2.1.2.2.2.2.2.2.2.2.1
theorem dL_law_1227 : decode cL_law 1227 = .ok (.invokestatic 262, 3) := dTL_11.2.1.2.2.2.2.2.2.2.2.2.1
theorem dL_law_1230 : decode cL_law 1230 = .ok (.istore 5, 2) := dTL_11.2.2.1.1
theorem dL_law_1232 : decode cL_law 1232 = .ok (.aload_n 2, 1) := dTL_11.2.2.1.2.1
theorem dL_law_1233 : decode cL_law 1233 = .ok (.aload_n 0, 1) := dTL_11.2.2.1.2.2.1
theorem dL_law_1234 : decode cL_law 1234 = .ok (.iload 4, 2) := dTL_11.2.2.1.2.2.2.1
theorem dL_law_1236 : decode cL_law 1236 = .ok (.iconst 1, 1) := dTL_11.2.2.1.2.2.2.2.1
theorem dL_law_1237 : decode cL_law 1237 = .ok (.iadd, 1) := dTL_11.2.2.1.2.2.2.2.2.1
theorem dL_law_1238 : decode cL_law 1238 = .ok (.iaload, 1) := dTL_11.2.2.1.2.2.2.2.2.2.1
theorem dL_law_1239 : decode cL_law 1239 = .ok (.invokevirtual 264, 3) := dTL_11.2.2.1.2.2.2.2.2.2.2.1
theorem dL_law_1242 : decode cL_law 1242 = .ok (.istore 6, 2) := dTL_11.2.2.1.2.2.2.2.2.2.2.2.1
theorem dL_law_1244 : decode cL_law 1244 = .ok (.goto 746, 3) := dTL_11.2.2.1.2.2.2.2.2.2.2.2.2.1
theorem dL_law_1247 : decode cL_law 1247 = .ok (.aload_n 1, 1) := dTL_11.2.2.2.1.1
theorem dL_law_1248 : decode cL_law 1248 = .ok (.aload_n 0, 1) := dTL_11.2.2.2.1.2.1
theorem dL_law_1249 : decode cL_law 1249 = .ok (.iload 4, 2) := dTL_11.2.2.2.1.2.2.1
theorem dL_law_1251 : decode cL_law 1251 = .ok (.iconst 1, 1) := dTL_11.2.2.2.1.2.2.2.1
theorem dL_law_1252 : decode cL_law 1252 = .ok (.iadd, 1) := dTL_11.2.2.2.1.2.2.2.2.1
theorem dL_law_1253 : decode cL_law 1253 = .ok (.iaload, 1) := dTL_11.2.2.2.1.2.2.2.2.2.1
theorem dL_law_1254 : decode cL_law 1254 = .ok (.aload_n 3, 1) := dTL_11.2.2.2.1.2.2.2.2.2.2.1
theorem dL_law_1255 : decode cL_law 1255 = .ok (.invokestatic 265, 3) := dTL_11.2.2.2.1.2.2.2.2.2.2.2.1
theorem dL_law_1258 : decode cL_law 1258 = .ok (.istore 5, 2) := dTL_11.2.2.2.1.2.2.2.2.2.2.2.2.1
theorem dL_law_1260 : decode cL_law 1260 = .ok (.aload_n 2, 1) := dTL_11.2.2.2.1.2.2.2.2.2.2.2.2.2.1
theorem dL_law_1261 : decode cL_law 1261 = .ok (.aload_n 0, 1) := dTL_11.2.2.2.2.1.1
theorem dL_law_1262 : decode cL_law 1262 = .ok (.iload 4, 2) := dTL_11.2.2.2.2.1.2.1
theorem dL_law_1264 : decode cL_law 1264 = .ok (.iconst 1, 1) := dTL_11.2.2.2.2.1.2.2.1
theorem dL_law_1265 : decode cL_law 1265 = .ok (.iadd, 1) := dTL_11.2.2.2.2.1.2.2.2.1
theorem dL_law_1266 : decode cL_law 1266 = .ok (.iaload, 1) := dTL_11.2.2.2.2.1.2.2.2.2.1
theorem dL_law_1267 : decode cL_law 1267 = .ok (.invokevirtual 267, 3) := dTL_11.2.2.2.2.1.2.2.2.2.2.1
theorem dL_law_1270 : decode cL_law 1270 = .ok (.astore 6, 2) := dTL_11.2.2.2.2.1.2.2.2.2.2.2.1
theorem dL_law_1272 : decode cL_law 1272 = .ok (.goto 718, 3) := dTL_11.2.2.2.2.1.2.2.2.2.2.2.2.1
theorem dL_law_1275 : decode cL_law 1275 = .ok (.aload_n 1, 1) := dTL_11.2.2.2.2.1.2.2.2.2.2.2.2.2.1
theorem dL_law_1276 : decode cL_law 1276 = .ok (.aload_n 0, 1) := dTL_11.2.2.2.2.1.2.2.2.2.2.2.2.2.2.1
theorem dL_law_1277 : decode cL_law 1277 = .ok (.iload 4, 2) := dTL_11.2.2.2.2.2.1.1
theorem dL_law_1279 : decode cL_law 1279 = .ok (.iconst 1, 1) := dTL_11.2.2.2.2.2.1.2.1
theorem dL_law_1280 : decode cL_law 1280 = .ok (.iadd, 1) := dTL_11.2.2.2.2.2.1.2.2.1
theorem dL_law_1281 : decode cL_law 1281 = .ok (.iaload, 1) := dTL_11.2.2.2.2.2.1.2.2.2.1
theorem dL_law_1282 : decode cL_law 1282 = .ok (.aload_n 0, 1) := dTL_11.2.2.2.2.2.1.2.2.2.2.1
theorem dL_law_1283 : decode cL_law 1283 = .ok (.iload 4, 2) := dTL_11.2.2.2.2.2.1.2.2.2.2.2.1
theorem dL_law_1285 : decode cL_law 1285 = .ok (.iconst 2, 1) := dTL_11.2.2.2.2.2.1.2.2.2.2.2.2.1
theorem dL_law_1286 : decode cL_law 1286 = .ok (.iadd, 1) := dTL_11.2.2.2.2.2.1.2.2.2.2.2.2.2.1
theorem dL_law_1287 : decode cL_law 1287 = .ok (.iaload, 1) := dTL_11.2.2.2.2.2.1.2.2.2.2.2.2.2.2.1
theorem dL_law_1288 : decode cL_law 1288 = .ok (.aload_n 3, 1) := dTL_11.2.2.2.2.2.1.2.2.2.2.2.2.2.2.2.1
theorem dTL_12 : dQ cL_law [[(1289, .invokestatic 268, 3), (1292, .istore 5, 2), (1294, .aload_n 2, 1), (1295, .aload_n 0, 1), (1296, .iload 4, 2), (1298, .iconst 1, 1), (1299, .iadd, 1), (1300, .iaload, 1), (1301, .aload_n 0, 1), (1302, .iload 4, 2)], [(1304, .iconst 2, 1), (1305, .iadd, 1), (1306, .iaload, 1), (1307, .invokevirtual 270, 3), (1310, .istore 6, 2), (1312, .goto 678, 3), (1315, .aload_n 1, 1), (1316, .aload_n 0, 1), (1317, .iload 4, 2), (1319, .iconst 1, 1)], [(1320, .iadd, 1), (1321, .iaload, 1), (1322, .aload_n 0, 1), (1323, .iload 4, 2), (1325, .iconst 2, 1), (1326, .iadd, 1), (1327, .iaload, 1), (1328, .aload_n 3, 1), (1329, .invokestatic 271, 3), (1332, .istore 5, 2)], [(1334, .aload_n 2, 1), (1335, .aload_n 0, 1), (1336, .iload 4, 2), (1338, .iconst 1, 1), (1339, .iadd, 1), (1340, .iaload, 1), (1341, .aload_n 0, 1), (1342, .iload 4, 2), (1344, .iconst 2, 1), (1345, .iadd, 1)], [(1346, .iaload, 1), (1347, .invokevirtual 273, 3), (1350, .istore 6, 2), (1352, .goto 638, 3), (1355, .aload_n 1, 1), (1356, .aload_n 0, 1), (1357, .iload 4, 2), (1359, .iconst 1, 1), (1360, .iadd, 1), (1361, .iaload, 1)], [(1362, .aload_n 0, 1), (1363, .iload 4, 2), (1365, .iconst 2, 1), (1366, .iadd, 1), (1367, .iaload, 1), (1368, .aload_n 3, 1), (1369, .invokestatic 274, 3), (1372, .istore 5, 2), (1374, .aload_n 2, 1), (1375, .aload_n 0, 1)]] := dQ_of _ _ (by decide +kernel)
theorem dL_law_1289 : decode cL_law 1289 = .ok (.invokestatic 268, 3) := dTL_12.1.1
theorem dL_law_1292 : decode cL_law 1292 = .ok (.istore 5, 2) := dTL_12.1.2.1
theorem dL_law_1294 : decode cL_law 1294 = .ok (.aload_n 2, 1) := dTL_12.1.2.2.1
theorem dL_law_1295 : decode cL_law 1295 = .ok (.aload_n 0, 1) := dTL_12.1.2.2.2.1
theorem dL_law_1296 : decode cL_law 1296 = .ok (.iload 4, 2) := dTL_12.1.2.2.2.2.1
theorem dL_law_1298 : decode cL_law 1298 = .ok (.iconst 1, 1) := dTL_12.1.2.2.2.2.2.1
theorem dL_law_1299 : decode cL_law 1299 = .ok (.iadd, 1) := dTL_12.1.2.2.2.2.2.2.1
theorem dL_law_1300 : decode cL_law 1300 = .ok (.iaload, 1) := dTL_12.1.2.2.2.2.2.2.2.1
theorem dL_law_1301 : decode cL_law 1301 = .ok (.aload_n 0, 1) := dTL_12.1.2.2.2.2.2.2.2.2.1
theorem dL_law_1302 : decode cL_law 1302 = .ok (.iload 4, 2) := dTL_12.1.2.2.2.2.2.2.2.2.2.1
theorem dL_law_1304 : decode cL_law 1304 = .ok (.iconst 2, 1) := dTL_12.2.1.1
theorem dL_law_1305 : decode cL_law 1305 = .ok (.iadd, 1) := dTL_12.2.1.2.1
theorem dL_law_1306 : decode cL_law 1306 = .ok (.iaload, 1) := dTL_12.2.1.2.2.1
theorem dL_law_1307 : decode cL_law 1307 = .ok (.invokevirtual 270, 3) := dTL_12.2.1.2.2.2.1
theorem dL_law_1310 : decode cL_law 1310 = .ok (.istore 6, 2) := dTL_12.2.1.2.2.2.2.1
theorem dL_law_1312 : decode cL_law 1312 = .ok (.goto 678, 3) := dTL_12.2.1.2.2.2.2.2.1
theorem dL_law_1315 : decode cL_law 1315 = .ok (.aload_n 1, 1) := dTL_12.2.1.2.2.2.2.2.2.1
theorem dL_law_1316 : decode cL_law 1316 = .ok (.aload_n 0, 1) := dTL_12.2.1.2.2.2.2.2.2.2.1
theorem dL_law_1317 : decode cL_law 1317 = .ok (.iload 4, 2) := dTL_12.2.1.2.2.2.2.2.2.2.2.1
theorem dL_law_1319 : decode cL_law 1319 = .ok (.iconst 1, 1) := dTL_12.2.1.2.2.2.2.2.2.2.2.2.1
theorem dL_law_1320 : decode cL_law 1320 = .ok (.iadd, 1) := dTL_12.2.2.1.1
theorem dL_law_1321 : decode cL_law 1321 = .ok (.iaload, 1) := dTL_12.2.2.1.2.1
theorem dL_law_1322 : decode cL_law 1322 = .ok (.aload_n 0, 1) := dTL_12.2.2.1.2.2.1
theorem dL_law_1323 : decode cL_law 1323 = .ok (.iload 4, 2) := dTL_12.2.2.1.2.2.2.1
theorem dL_law_1325 : decode cL_law 1325 = .ok (.iconst 2, 1) := dTL_12.2.2.1.2.2.2.2.1
theorem dL_law_1326 : decode cL_law 1326 = .ok (.iadd, 1) := dTL_12.2.2.1.2.2.2.2.2.1
theorem dL_law_1327 : decode cL_law 1327 = .ok (.iaload, 1) := dTL_12.2.2.1.2.2.2.2.2.2.1
theorem dL_law_1328 : decode cL_law 1328 = .ok (.aload_n 3, 1) := dTL_12.2.2.1.2.2.2.2.2.2.2.1
theorem dL_law_1329 : decode cL_law 1329 = .ok (.invokestatic 271, 3) := dTL_12.2.2.1.2.2.2.2.2.2.2.2.1
theorem dL_law_1332 : decode cL_law 1332 = .ok (.istore 5, 2) := dTL_12.2.2.1.2.2.2.2.2.2.2.2.2.1
theorem dL_law_1334 : decode cL_law 1334 = .ok (.aload_n 2, 1) := dTL_12.2.2.2.1.1
theorem dL_law_1335 : decode cL_law 1335 = .ok (.aload_n 0, 1) := dTL_12.2.2.2.1.2.1
theorem dL_law_1336 : decode cL_law 1336 = .ok (.iload 4, 2) := dTL_12.2.2.2.1.2.2.1
theorem dL_law_1338 : decode cL_law 1338 = .ok (.iconst 1, 1) := dTL_12.2.2.2.1.2.2.2.1
theorem dL_law_1339 : decode cL_law 1339 = .ok (.iadd, 1) := dTL_12.2.2.2.1.2.2.2.2.1
theorem dL_law_1340 : decode cL_law 1340 = .ok (.iaload, 1) := dTL_12.2.2.2.1.2.2.2.2.2.1
theorem dL_law_1341 : decode cL_law 1341 = .ok (.aload_n 0, 1) := dTL_12.2.2.2.1.2.2.2.2.2.2.1
theorem dL_law_1342 : decode cL_law 1342 = .ok (.iload 4, 2) := dTL_12.2.2.2.1.2.2.2.2.2.2.2.1
theorem dL_law_1344 : decode cL_law 1344 = .ok (.iconst 2, 1) := dTL_12.2.2.2.1.2.2.2.2.2.2.2.2.1
theorem dL_law_1345 : decode cL_law 1345 = .ok (.iadd, 1) := dTL_12.2.2.2.1.2.2.2.2.2.2.2.2.2.1
theorem dL_law_1346 : decode cL_law 1346 = .ok (.iaload, 1) := dTL_12.2.2.2.2.1.1
theorem dL_law_1347 : decode cL_law 1347 = .ok (.invokevirtual 273, 3) := dTL_12.2.2.2.2.1.2.1
theorem dL_law_1350 : decode cL_law 1350 = .ok (.istore 6, 2) := dTL_12.2.2.2.2.1.2.2.1
theorem dL_law_1352 : decode cL_law 1352 = .ok (.goto 638, 3) := dTL_12.2.2.2.2.1.2.2.2.1
theorem dL_law_1355 : decode cL_law 1355 = .ok (.aload_n 1, 1) := dTL_12.2.2.2.2.1.2.2.2.2.1
theorem dL_law_1356 : decode cL_law 1356 = .ok (.aload_n 0, 1) := dTL_12.2.2.2.2.1.2.2.2.2.2.1
theorem dL_law_1357 : decode cL_law 1357 = .ok (.iload 4, 2) := dTL_12.2.2.2.2.1.2.2.2.2.2.2.1
theorem dL_law_1359 : decode cL_law 1359 = .ok (.iconst 1, 1) := dTL_12.2.2.2.2.1.2.2.2.2.2.2.2.1
theorem dL_law_1360 : decode cL_law 1360 = .ok (.iadd, 1) := dTL_12.2.2.2.2.1.2.2.2.2.2.2.2.2.1
theorem dL_law_1361 : decode cL_law 1361 = .ok (.iaload, 1) := dTL_12.2.2.2.2.1.2.2.2.2.2.2.2.2.2.1
theorem dL_law_1362 : decode cL_law 1362 = .ok (.aload_n 0, 1) := dTL_12.2.2.2.2.2.1.1
theorem dL_law_1363 : decode cL_law 1363 = .ok (.iload 4, 2) := dTL_12.2.2.2.2.2.1.2.1
theorem dL_law_1365 : decode cL_law 1365 = .ok (.iconst 2, 1) := dTL_12.2.2.2.2.2.1.2.2.1
theorem dL_law_1366 : decode cL_law 1366 = .ok (.iadd, 1) := dTL_12.2.2.2.2.2.1.2.2.2.1
theorem dL_law_1367 : decode cL_law 1367 = .ok (.iaload, 1) := dTL_12.2.2.2.2.2.1.2.2.2.2.1
theorem dL_law_1368 : decode cL_law 1368 = .ok (.aload_n 3, 1) := dTL_12.2.2.2.2.2.1.2.2.2.2.2.1
theorem dL_law_1369 : decode cL_law 1369 = .ok (.invokestatic 274, 3) := dTL_12.2.2.2.2.2.1.2.2.2.2.2.2.1
theorem dL_law_1372 : decode cL_law 1372 = .ok (.istore 5, 2) := dTL_12.2.2.2.2.2.1.2.2.2.2.2.2.2.1
theorem dL_law_1374 : decode cL_law 1374 = .ok (.aload_n 2, 1) := dTL_12.2.2.2.2.2.1.2.2.2.2.2.2.2.2.1
theorem dL_law_1375 : decode cL_law 1375 = .ok (.aload_n 0, 1) := dTL_12.2.2.2.2.2.1.2.2.2.2.2.2.2.2.2.1
theorem dTL_13 : dQ cL_law [[(1376, .iload 4, 2), (1378, .iconst 1, 1), (1379, .iadd, 1), (1380, .iaload, 1), (1381, .aload_n 0, 1), (1382, .iload 4, 2), (1384, .iconst 2, 1), (1385, .iadd, 1), (1386, .iaload, 1), (1387, .invokevirtual 276, 3)], [(1390, .istore 6, 2), (1392, .goto 598, 3), (1395, .aload_n 1, 1), (1396, .aload_n 0, 1), (1397, .iload 4, 2), (1399, .iconst 1, 1), (1400, .iadd, 1), (1401, .iaload, 1), (1402, .aload_n 0, 1), (1403, .iload 4, 2)], [(1405, .iconst 2, 1), (1406, .iadd, 1), (1407, .iaload, 1), (1408, .aload_n 3, 1), (1409, .invokestatic 277, 3), (1412, .istore 5, 2), (1414, .aload_n 2, 1), (1415, .aload_n 0, 1), (1416, .iload 4, 2), (1418, .iconst 1, 1)], [(1419, .iadd, 1), (1420, .iaload, 1), (1421, .aload_n 0, 1), (1422, .iload 4, 2), (1424, .iconst 2, 1), (1425, .iadd, 1), (1426, .iaload, 1), (1427, .invokevirtual 279, 3), (1430, .istore 6, 2), (1432, .goto 558, 3)], [(1435, .aload_n 1, 1), (1436, .aload_n 0, 1), (1437, .iload 4, 2), (1439, .iconst 1, 1), (1440, .iadd, 1), (1441, .iaload, 1), (1442, .aload_n 0, 1), (1443, .iload 4, 2), (1445, .iconst 2, 1), (1446, .iadd, 1)], [(1447, .iaload, 1), (1448, .aload_n 3, 1), (1449, .invokestatic 280, 3), (1452, .istore 5, 2), (1454, .aload_n 2, 1), (1455, .aload_n 0, 1), (1456, .iload 4, 2), (1458, .iconst 1, 1), (1459, .iadd, 1), (1460, .iaload, 1)]] := dQ_of _ _ (by decide +kernel)
theorem dL_law_1376 : decode cL_law 1376 = .ok (.iload 4, 2) := dTL_13.1.1
theorem dL_law_1378 : decode cL_law 1378 = .ok (.iconst 1, 1) := dTL_13.1.2.1
theorem dL_law_1379 : decode cL_law 1379 = .ok (.iadd, 1) := dTL_13.1.2.2.1
theorem dL_law_1380 : decode cL_law 1380 = .ok (.iaload, 1) := dTL_13.1.2.2.2.1
theorem dL_law_1381 : decode cL_law 1381 = .ok (.aload_n 0, 1) := dTL_13.1.2.2.2.2.1
theorem dL_law_1382 : decode cL_law 1382 = .ok (.iload 4, 2) := dTL_13.1.2.2.2.2.2.1
theorem dL_law_1384 : decode cL_law 1384 = .ok (.iconst 2, 1) := dTL_13.1.2.2.2.2.2.2.1
theorem dL_law_1385 : decode cL_law 1385 = .ok (.iadd, 1) := dTL_13.1.2.2.2.2.2.2.2.1
theorem dL_law_1386 : decode cL_law 1386 = .ok (.iaload, 1) := dTL_13.1.2.2.2.2.2.2.2.2.1
theorem dL_law_1387 : decode cL_law 1387 = .ok (.invokevirtual 276, 3) := dTL_13.1.2.2.2.2.2.2.2.2.2.1
theorem dL_law_1390 : decode cL_law 1390 = .ok (.istore 6, 2) := dTL_13.2.1.1
theorem dL_law_1392 : decode cL_law 1392 = .ok (.goto 598, 3) := dTL_13.2.1.2.1
theorem dL_law_1395 : decode cL_law 1395 = .ok (.aload_n 1, 1) := dTL_13.2.1.2.2.1
theorem dL_law_1396 : decode cL_law 1396 = .ok (.aload_n 0, 1) := dTL_13.2.1.2.2.2.1
theorem dL_law_1397 : decode cL_law 1397 = .ok (.iload 4, 2) := dTL_13.2.1.2.2.2.2.1
theorem dL_law_1399 : decode cL_law 1399 = .ok (.iconst 1, 1) := dTL_13.2.1.2.2.2.2.2.1
theorem dL_law_1400 : decode cL_law 1400 = .ok (.iadd, 1) := dTL_13.2.1.2.2.2.2.2.2.1
theorem dL_law_1401 : decode cL_law 1401 = .ok (.iaload, 1) := dTL_13.2.1.2.2.2.2.2.2.2.1
theorem dL_law_1402 : decode cL_law 1402 = .ok (.aload_n 0, 1) := dTL_13.2.1.2.2.2.2.2.2.2.2.1
theorem dL_law_1403 : decode cL_law 1403 = .ok (.iload 4, 2) := dTL_13.2.1.2.2.2.2.2.2.2.2.2.1
theorem dL_law_1405 : decode cL_law 1405 = .ok (.iconst 2, 1) := dTL_13.2.2.1.1
theorem dL_law_1406 : decode cL_law 1406 = .ok (.iadd, 1) := dTL_13.2.2.1.2.1
theorem dL_law_1407 : decode cL_law 1407 = .ok (.iaload, 1) := dTL_13.2.2.1.2.2.1
theorem dL_law_1408 : decode cL_law 1408 = .ok (.aload_n 3, 1) := dTL_13.2.2.1.2.2.2.1
theorem dL_law_1409 : decode cL_law 1409 = .ok (.invokestatic 277, 3) := dTL_13.2.2.1.2.2.2.2.1
theorem dL_law_1412 : decode cL_law 1412 = .ok (.istore 5, 2) := dTL_13.2.2.1.2.2.2.2.2.1
theorem dL_law_1414 : decode cL_law 1414 = .ok (.aload_n 2, 1) := dTL_13.2.2.1.2.2.2.2.2.2.1
theorem dL_law_1415 : decode cL_law 1415 = .ok (.aload_n 0, 1) := dTL_13.2.2.1.2.2.2.2.2.2.2.1
theorem dL_law_1416 : decode cL_law 1416 = .ok (.iload 4, 2) := dTL_13.2.2.1.2.2.2.2.2.2.2.2.1
theorem dL_law_1418 : decode cL_law 1418 = .ok (.iconst 1, 1) := dTL_13.2.2.1.2.2.2.2.2.2.2.2.2.1
theorem dL_law_1419 : decode cL_law 1419 = .ok (.iadd, 1) := dTL_13.2.2.2.1.1
theorem dL_law_1420 : decode cL_law 1420 = .ok (.iaload, 1) := dTL_13.2.2.2.1.2.1
theorem dL_law_1421 : decode cL_law 1421 = .ok (.aload_n 0, 1) := dTL_13.2.2.2.1.2.2.1
theorem dL_law_1422 : decode cL_law 1422 = .ok (.iload 4, 2) := dTL_13.2.2.2.1.2.2.2.1
theorem dL_law_1424 : decode cL_law 1424 = .ok (.iconst 2, 1) := dTL_13.2.2.2.1.2.2.2.2.1
theorem dL_law_1425 : decode cL_law 1425 = .ok (.iadd, 1) := dTL_13.2.2.2.1.2.2.2.2.2.1
theorem dL_law_1426 : decode cL_law 1426 = .ok (.iaload, 1) := dTL_13.2.2.2.1.2.2.2.2.2.2.1
theorem dL_law_1427 : decode cL_law 1427 = .ok (.invokevirtual 279, 3) := dTL_13.2.2.2.1.2.2.2.2.2.2.2.1
theorem dL_law_1430 : decode cL_law 1430 = .ok (.istore 6, 2) := dTL_13.2.2.2.1.2.2.2.2.2.2.2.2.1
theorem dL_law_1432 : decode cL_law 1432 = .ok (.goto 558, 3) := dTL_13.2.2.2.1.2.2.2.2.2.2.2.2.2.1
theorem dL_law_1435 : decode cL_law 1435 = .ok (.aload_n 1, 1) := dTL_13.2.2.2.2.1.1
theorem dL_law_1436 : decode cL_law 1436 = .ok (.aload_n 0, 1) := dTL_13.2.2.2.2.1.2.1
theorem dL_law_1437 : decode cL_law 1437 = .ok (.iload 4, 2) := dTL_13.2.2.2.2.1.2.2.1
theorem dL_law_1439 : decode cL_law 1439 = .ok (.iconst 1, 1) := dTL_13.2.2.2.2.1.2.2.2.1
theorem dL_law_1440 : decode cL_law 1440 = .ok (.iadd, 1) := dTL_13.2.2.2.2.1.2.2.2.2.1
theorem dL_law_1441 : decode cL_law 1441 = .ok (.iaload, 1) := dTL_13.2.2.2.2.1.2.2.2.2.2.1
theorem dL_law_1442 : decode cL_law 1442 = .ok (.aload_n 0, 1) := dTL_13.2.2.2.2.1.2.2.2.2.2.2.1
theorem dL_law_1443 : decode cL_law 1443 = .ok (.iload 4, 2) := dTL_13.2.2.2.2.1.2.2.2.2.2.2.2.1
theorem dL_law_1445 : decode cL_law 1445 = .ok (.iconst 2, 1) := dTL_13.2.2.2.2.1.2.2.2.2.2.2.2.2.1
theorem dL_law_1446 : decode cL_law 1446 = .ok (.iadd, 1) := dTL_13.2.2.2.2.1.2.2.2.2.2.2.2.2.2.1
theorem dL_law_1447 : decode cL_law 1447 = .ok (.iaload, 1) := dTL_13.2.2.2.2.2.1.1
theorem dL_law_1448 : decode cL_law 1448 = .ok (.aload_n 3, 1) := dTL_13.2.2.2.2.2.1.2.1
theorem dL_law_1449 : decode cL_law 1449 = .ok (.invokestatic 280, 3) := dTL_13.2.2.2.2.2.1.2.2.1
theorem dL_law_1452 : decode cL_law 1452 = .ok (.istore 5, 2) := dTL_13.2.2.2.2.2.1.2.2.2.1
theorem dL_law_1454 : decode cL_law 1454 = .ok (.aload_n 2, 1) := dTL_13.2.2.2.2.2.1.2.2.2.2.1
theorem dL_law_1455 : decode cL_law 1455 = .ok (.aload_n 0, 1) := dTL_13.2.2.2.2.2.1.2.2.2.2.2.1
theorem dL_law_1456 : decode cL_law 1456 = .ok (.iload 4, 2) := dTL_13.2.2.2.2.2.1.2.2.2.2.2.2.1
theorem dL_law_1458 : decode cL_law 1458 = .ok (.iconst 1, 1) := dTL_13.2.2.2.2.2.1.2.2.2.2.2.2.2.1
theorem dL_law_1459 : decode cL_law 1459 = .ok (.iadd, 1) := dTL_13.2.2.2.2.2.1.2.2.2.2.2.2.2.2.1
theorem dL_law_1460 : decode cL_law 1460 = .ok (.iaload, 1) := dTL_13.2.2.2.2.2.1.2.2.2.2.2.2.2.2.2.1
theorem dTL_14 : dQ cL_law [[(1461, .aload_n 0, 1), (1462, .iload 4, 2), (1464, .iconst 2, 1), (1465, .iadd, 1), (1466, .iaload, 1), (1467, .invokevirtual 282, 3), (1470, .istore 6, 2), (1472, .goto 518, 3), (1475, .aload_n 1, 1), (1476, .aload_n 0, 1)], [(1477, .iload 4, 2), (1479, .iconst 1, 1), (1480, .iadd, 1), (1481, .iaload, 1), (1482, .aload_n 0, 1), (1483, .iload 4, 2), (1485, .iconst 2, 1), (1486, .iadd, 1), (1487, .iaload, 1), (1488, .ifCond .eq 7, 3)], [(1491, .iconst 1, 1), (1492, .goto 4, 3), (1495, .iconst 0, 1), (1496, .aload_n 3, 1), (1497, .invokestatic 283, 3), (1500, .istore 5, 2), (1502, .aload_n 2, 1), (1503, .aload_n 0, 1), (1504, .iload 4, 2), (1506, .iconst 1, 1)], [(1507, .iadd, 1), (1508, .iaload, 1), (1509, .aload_n 0, 1), (1510, .iload 4, 2), (1512, .iconst 2, 1), (1513, .iadd, 1), (1514, .iaload, 1), (1515, .ifCond .eq 7, 3), (1518, .iconst 1, 1), (1519, .goto 4, 3)], [(1522, .iconst 0, 1), (1523, .invokevirtual 285, 3), (1526, .istore 6, 2), (1528, .goto 462, 3), (1531, .aload_n 1, 1), (1532, .aload_n 0, 1), (1533, .iload 4, 2), (1535, .iconst 1, 1), (1536, .iadd, 1), (1537, .iaload, 1)], [(1538, .aload_n 3, 1), (1539, .invokestatic 286, 3), (1542, .istore 5, 2), (1544, .aload_n 2, 1), (1545, .aload_n 0, 1), (1546, .iload 4, 2), (1548, .iconst 1, 1), (1549, .iadd, 1), (1550, .iaload, 1), (1551, .invokevirtual 288, 3)]] := dQ_of _ _ (by decide +kernel)
theorem dL_law_1461 : decode cL_law 1461 = .ok (.aload_n 0, 1) := dTL_14.1.1
theorem dL_law_1462 : decode cL_law 1462 = .ok (.iload 4, 2) := dTL_14.1.2.1
theorem dL_law_1464 : decode cL_law 1464 = .ok (.iconst 2, 1) := dTL_14.1.2.2.1
theorem dL_law_1465 : decode cL_law 1465 = .ok (.iadd, 1) := dTL_14.1.2.2.2.1
theorem dL_law_1466 : decode cL_law 1466 = .ok (.iaload, 1) := dTL_14.1.2.2.2.2.1
theorem dL_law_1467 : decode cL_law 1467 = .ok (.invokevirtual 282, 3) := dTL_14.1.2.2.2.2.2.1
theorem dL_law_1470 : decode cL_law 1470 = .ok (.istore 6, 2) := dTL_14.1.2.2.2.2.2.2.1
theorem dL_law_1472 : decode cL_law 1472 = .ok (.goto 518, 3) := dTL_14.1.2.2.2.2.2.2.2.1
theorem dL_law_1475 : decode cL_law 1475 = .ok (.aload_n 1, 1) := dTL_14.1.2.2.2.2.2.2.2.2.1
theorem dL_law_1476 : decode cL_law 1476 = .ok (.aload_n 0, 1) := dTL_14.1.2.2.2.2.2.2.2.2.2.1
theorem dL_law_1477 : decode cL_law 1477 = .ok (.iload 4, 2) := dTL_14.2.1.1
theorem dL_law_1479 : decode cL_law 1479 = .ok (.iconst 1, 1) := dTL_14.2.1.2.1
theorem dL_law_1480 : decode cL_law 1480 = .ok (.iadd, 1) := dTL_14.2.1.2.2.1
theorem dL_law_1481 : decode cL_law 1481 = .ok (.iaload, 1) := dTL_14.2.1.2.2.2.1
theorem dL_law_1482 : decode cL_law 1482 = .ok (.aload_n 0, 1) := dTL_14.2.1.2.2.2.2.1
theorem dL_law_1483 : decode cL_law 1483 = .ok (.iload 4, 2) := dTL_14.2.1.2.2.2.2.2.1
theorem dL_law_1485 : decode cL_law 1485 = .ok (.iconst 2, 1) := dTL_14.2.1.2.2.2.2.2.2.1
theorem dL_law_1486 : decode cL_law 1486 = .ok (.iadd, 1) := dTL_14.2.1.2.2.2.2.2.2.2.1
theorem dL_law_1487 : decode cL_law 1487 = .ok (.iaload, 1) := dTL_14.2.1.2.2.2.2.2.2.2.2.1
theorem dL_law_1488 : decode cL_law 1488 = .ok (.ifCond .eq 7, 3) := dTL_14.2.1.2.2.2.2.2.2.2.2.2.1
theorem dL_law_1491 : decode cL_law 1491 = .ok (.iconst 1, 1) := dTL_14.2.2.1.1
theorem dL_law_1492 : decode cL_law 1492 = .ok (.goto 4, 3) := dTL_14.2.2.1.2.1
theorem dL_law_1495 : decode cL_law 1495 = .ok (.iconst 0, 1) := dTL_14.2.2.1.2.2.1
theorem dL_law_1496 : decode cL_law 1496 = .ok (.aload_n 3, 1) := dTL_14.2.2.1.2.2.2.1
theorem dL_law_1497 : decode cL_law 1497 = .ok (.invokestatic 283, 3) := dTL_14.2.2.1.2.2.2.2.1
theorem dL_law_1500 : decode cL_law 1500 = .ok (.istore 5, 2) := dTL_14.2.2.1.2.2.2.2.2.1
theorem dL_law_1502 : decode cL_law 1502 = .ok (.aload_n 2, 1) := dTL_14.2.2.1.2.2.2.2.2.2.1
theorem dL_law_1503 : decode cL_law 1503 = .ok (.aload_n 0, 1) := dTL_14.2.2.1.2.2.2.2.2.2.2.1
theorem dL_law_1504 : decode cL_law 1504 = .ok (.iload 4, 2) := dTL_14.2.2.1.2.2.2.2.2.2.2.2.1
theorem dL_law_1506 : decode cL_law 1506 = .ok (.iconst 1, 1) := dTL_14.2.2.1.2.2.2.2.2.2.2.2.2.1
theorem dL_law_1507 : decode cL_law 1507 = .ok (.iadd, 1) := dTL_14.2.2.2.1.1
theorem dL_law_1508 : decode cL_law 1508 = .ok (.iaload, 1) := dTL_14.2.2.2.1.2.1
theorem dL_law_1509 : decode cL_law 1509 = .ok (.aload_n 0, 1) := dTL_14.2.2.2.1.2.2.1
theorem dL_law_1510 : decode cL_law 1510 = .ok (.iload 4, 2) := dTL_14.2.2.2.1.2.2.2.1
theorem dL_law_1512 : decode cL_law 1512 = .ok (.iconst 2, 1) := dTL_14.2.2.2.1.2.2.2.2.1
theorem dL_law_1513 : decode cL_law 1513 = .ok (.iadd, 1) := dTL_14.2.2.2.1.2.2.2.2.2.1
theorem dL_law_1514 : decode cL_law 1514 = .ok (.iaload, 1) := dTL_14.2.2.2.1.2.2.2.2.2.2.1
theorem dL_law_1515 : decode cL_law 1515 = .ok (.ifCond .eq 7, 3) := dTL_14.2.2.2.1.2.2.2.2.2.2.2.1
theorem dL_law_1518 : decode cL_law 1518 = .ok (.iconst 1, 1) := dTL_14.2.2.2.1.2.2.2.2.2.2.2.2.1
theorem dL_law_1519 : decode cL_law 1519 = .ok (.goto 4, 3) := dTL_14.2.2.2.1.2.2.2.2.2.2.2.2.2.1
theorem dL_law_1522 : decode cL_law 1522 = .ok (.iconst 0, 1) := dTL_14.2.2.2.2.1.1
theorem dL_law_1523 : decode cL_law 1523 = .ok (.invokevirtual 285, 3) := dTL_14.2.2.2.2.1.2.1
theorem dL_law_1526 : decode cL_law 1526 = .ok (.istore 6, 2) := dTL_14.2.2.2.2.1.2.2.1
theorem dL_law_1528 : decode cL_law 1528 = .ok (.goto 462, 3) := dTL_14.2.2.2.2.1.2.2.2.1
theorem dL_law_1531 : decode cL_law 1531 = .ok (.aload_n 1, 1) := dTL_14.2.2.2.2.1.2.2.2.2.1
theorem dL_law_1532 : decode cL_law 1532 = .ok (.aload_n 0, 1) := dTL_14.2.2.2.2.1.2.2.2.2.2.1
theorem dL_law_1533 : decode cL_law 1533 = .ok (.iload 4, 2) := dTL_14.2.2.2.2.1.2.2.2.2.2.2.1
theorem dL_law_1535 : decode cL_law 1535 = .ok (.iconst 1, 1) := dTL_14.2.2.2.2.1.2.2.2.2.2.2.2.1
theorem dL_law_1536 : decode cL_law 1536 = .ok (.iadd, 1) := dTL_14.2.2.2.2.1.2.2.2.2.2.2.2.2.1
theorem dL_law_1537 : decode cL_law 1537 = .ok (.iaload, 1) := dTL_14.2.2.2.2.1.2.2.2.2.2.2.2.2.2.1
theorem dL_law_1538 : decode cL_law 1538 = .ok (.aload_n 3, 1) := dTL_14.2.2.2.2.2.1.1
theorem dL_law_1539 : decode cL_law 1539 = .ok (.invokestatic 286, 3) := dTL_14.2.2.2.2.2.1.2.1
theorem dL_law_1542 : decode cL_law 1542 = .ok (.istore 5, 2) := dTL_14.2.2.2.2.2.1.2.2.1
theorem dL_law_1544 : decode cL_law 1544 = .ok (.aload_n 2, 1) := dTL_14.2.2.2.2.2.1.2.2.2.1
theorem dL_law_1545 : decode cL_law 1545 = .ok (.aload_n 0, 1) := dTL_14.2.2.2.2.2.1.2.2.2.2.1
theorem dL_law_1546 : decode cL_law 1546 = .ok (.iload 4, 2) := dTL_14.2.2.2.2.2.1.2.2.2.2.2.1
theorem dL_law_1548 : decode cL_law 1548 = .ok (.iconst 1, 1) := dTL_14.2.2.2.2.2.1.2.2.2.2.2.2.1
theorem dL_law_1549 : decode cL_law 1549 = .ok (.iadd, 1) := dTL_14.2.2.2.2.2.1.2.2.2.2.2.2.2.1
theorem dL_law_1550 : decode cL_law 1550 = .ok (.iaload, 1) := dTL_14.2.2.2.2.2.1.2.2.2.2.2.2.2.2.1
theorem dL_law_1551 : decode cL_law 1551 = .ok (.invokevirtual 288, 3) := dTL_14.2.2.2.2.2.1.2.2.2.2.2.2.2.2.2.1
theorem dTL_15 : dQ cL_law [[(1554, .istore 6, 2), (1556, .goto 434, 3), (1559, .aload_n 1, 1), (1560, .aload_n 0, 1), (1561, .iload 4, 2), (1563, .iconst 1, 1), (1564, .iadd, 1), (1565, .iaload, 1), (1566, .aload_n 0, 1), (1567, .iload 4, 2)], [(1569, .iconst 2, 1), (1570, .iadd, 1), (1571, .iaload, 1), (1572, .aload_n 3, 1), (1573, .invokestatic 289, 3), (1576, .istore 5, 2), (1578, .aload_n 2, 1), (1579, .aload_n 0, 1), (1580, .iload 4, 2), (1582, .iconst 1, 1)], [(1583, .iadd, 1), (1584, .iaload, 1), (1585, .aload_n 0, 1), (1586, .iload 4, 2), (1588, .iconst 2, 1), (1589, .iadd, 1), (1590, .iaload, 1), (1591, .invokevirtual 291, 3), (1594, .istore 6, 2), (1596, .goto 394, 3)], [(1599, .aload_n 1, 1), (1600, .aload_n 0, 1), (1601, .iload 4, 2), (1603, .iconst 1, 1), (1604, .iadd, 1), (1605, .iaload, 1), (1606, .aload_n 0, 1), (1607, .iload 4, 2), (1609, .iconst 2, 1), (1610, .iadd, 1)], [(1611, .iaload, 1), (1612, .aload_n 0, 1), (1613, .iload 4, 2), (1615, .iconst 3, 1), (1616, .iadd, 1), (1617, .iaload, 1), (1618, .aload_n 3, 1), (1619, .invokestatic 292, 3), (1622, .istore 5, 2), (1624, .aload_n 2, 1)], [(1625, .aload_n 0, 1), (1626, .iload 4, 2), (1628, .iconst 1, 1), (1629, .iadd, 1), (1630, .iaload, 1), (1631, .aload_n 0, 1), (1632, .iload 4, 2), (1634, .iconst 2, 1), (1635, .iadd, 1), (1636, .iaload, 1)]] := dQ_of _ _ (by decide +kernel)
theorem dL_law_1554 : decode cL_law 1554 = .ok (.istore 6, 2) := dTL_15.1.1
theorem dL_law_1556 : decode cL_law 1556 = .ok (.goto 434, 3) := dTL_15.1.2.1
theorem dL_law_1559 : decode cL_law 1559 = .ok (.aload_n 1, 1) := dTL_15.1.2.2.1
theorem dL_law_1560 : decode cL_law 1560 = .ok (.aload_n 0, 1) := dTL_15.1.2.2.2.1
theorem dL_law_1561 : decode cL_law 1561 = .ok (.iload 4, 2) := dTL_15.1.2.2.2.2.1
theorem dL_law_1563 : decode cL_law 1563 = .ok (.iconst 1, 1) := dTL_15.1.2.2.2.2.2.1
theorem dL_law_1564 : decode cL_law 1564 = .ok (.iadd, 1) := dTL_15.1.2.2.2.2.2.2.1
theorem dL_law_1565 : decode cL_law 1565 = .ok (.iaload, 1) := dTL_15.1.2.2.2.2.2.2.2.1
theorem dL_law_1566 : decode cL_law 1566 = .ok (.aload_n 0, 1) := dTL_15.1.2.2.2.2.2.2.2.2.1
theorem dL_law_1567 : decode cL_law 1567 = .ok (.iload 4, 2) := dTL_15.1.2.2.2.2.2.2.2.2.2.1
theorem dL_law_1569 : decode cL_law 1569 = .ok (.iconst 2, 1) := dTL_15.2.1.1
theorem dL_law_1570 : decode cL_law 1570 = .ok (.iadd, 1) := dTL_15.2.1.2.1
theorem dL_law_1571 : decode cL_law 1571 = .ok (.iaload, 1) := dTL_15.2.1.2.2.1
theorem dL_law_1572 : decode cL_law 1572 = .ok (.aload_n 3, 1) := dTL_15.2.1.2.2.2.1
theorem dL_law_1573 : decode cL_law 1573 = .ok (.invokestatic 289, 3) := dTL_15.2.1.2.2.2.2.1
theorem dL_law_1576 : decode cL_law 1576 = .ok (.istore 5, 2) := dTL_15.2.1.2.2.2.2.2.1
theorem dL_law_1578 : decode cL_law 1578 = .ok (.aload_n 2, 1) := dTL_15.2.1.2.2.2.2.2.2.1
theorem dL_law_1579 : decode cL_law 1579 = .ok (.aload_n 0, 1) := dTL_15.2.1.2.2.2.2.2.2.2.1
theorem dL_law_1580 : decode cL_law 1580 = .ok (.iload 4, 2) := dTL_15.2.1.2.2.2.2.2.2.2.2.1
theorem dL_law_1582 : decode cL_law 1582 = .ok (.iconst 1, 1) := dTL_15.2.1.2.2.2.2.2.2.2.2.2.1
theorem dL_law_1583 : decode cL_law 1583 = .ok (.iadd, 1) := dTL_15.2.2.1.1
theorem dL_law_1584 : decode cL_law 1584 = .ok (.iaload, 1) := dTL_15.2.2.1.2.1
theorem dL_law_1585 : decode cL_law 1585 = .ok (.aload_n 0, 1) := dTL_15.2.2.1.2.2.1
theorem dL_law_1586 : decode cL_law 1586 = .ok (.iload 4, 2) := dTL_15.2.2.1.2.2.2.1
theorem dL_law_1588 : decode cL_law 1588 = .ok (.iconst 2, 1) := dTL_15.2.2.1.2.2.2.2.1
theorem dL_law_1589 : decode cL_law 1589 = .ok (.iadd, 1) := dTL_15.2.2.1.2.2.2.2.2.1
theorem dL_law_1590 : decode cL_law 1590 = .ok (.iaload, 1) := dTL_15.2.2.1.2.2.2.2.2.2.1
theorem dL_law_1591 : decode cL_law 1591 = .ok (.invokevirtual 291, 3) := dTL_15.2.2.1.2.2.2.2.2.2.2.1
theorem dL_law_1594 : decode cL_law 1594 = .ok (.istore 6, 2) := dTL_15.2.2.1.2.2.2.2.2.2.2.2.1
theorem dL_law_1596 : decode cL_law 1596 = .ok (.goto 394, 3) := dTL_15.2.2.1.2.2.2.2.2.2.2.2.2.1
theorem dL_law_1599 : decode cL_law 1599 = .ok (.aload_n 1, 1) := dTL_15.2.2.2.1.1
theorem dL_law_1600 : decode cL_law 1600 = .ok (.aload_n 0, 1) := dTL_15.2.2.2.1.2.1
theorem dL_law_1601 : decode cL_law 1601 = .ok (.iload 4, 2) := dTL_15.2.2.2.1.2.2.1
theorem dL_law_1603 : decode cL_law 1603 = .ok (.iconst 1, 1) := dTL_15.2.2.2.1.2.2.2.1
theorem dL_law_1604 : decode cL_law 1604 = .ok (.iadd, 1) := dTL_15.2.2.2.1.2.2.2.2.1
theorem dL_law_1605 : decode cL_law 1605 = .ok (.iaload, 1) := dTL_15.2.2.2.1.2.2.2.2.2.1
theorem dL_law_1606 : decode cL_law 1606 = .ok (.aload_n 0, 1) := dTL_15.2.2.2.1.2.2.2.2.2.2.1
theorem dL_law_1607 : decode cL_law 1607 = .ok (.iload 4, 2) := dTL_15.2.2.2.1.2.2.2.2.2.2.2.1
theorem dL_law_1609 : decode cL_law 1609 = .ok (.iconst 2, 1) := dTL_15.2.2.2.1.2.2.2.2.2.2.2.2.1
theorem dL_law_1610 : decode cL_law 1610 = .ok (.iadd, 1) := dTL_15.2.2.2.1.2.2.2.2.2.2.2.2.2.1
theorem dL_law_1611 : decode cL_law 1611 = .ok (.iaload, 1) := dTL_15.2.2.2.2.1.1
theorem dL_law_1612 : decode cL_law 1612 = .ok (.aload_n 0, 1) := dTL_15.2.2.2.2.1.2.1
theorem dL_law_1613 : decode cL_law 1613 = .ok (.iload 4, 2) := dTL_15.2.2.2.2.1.2.2.1
theorem dL_law_1615 : decode cL_law 1615 = .ok (.iconst 3, 1) := dTL_15.2.2.2.2.1.2.2.2.1
theorem dL_law_1616 : decode cL_law 1616 = .ok (.iadd, 1) := dTL_15.2.2.2.2.1.2.2.2.2.1
theorem dL_law_1617 : decode cL_law 1617 = .ok (.iaload, 1) := dTL_15.2.2.2.2.1.2.2.2.2.2.1
theorem dL_law_1618 : decode cL_law 1618 = .ok (.aload_n 3, 1) := dTL_15.2.2.2.2.1.2.2.2.2.2.2.1
theorem dL_law_1619 : decode cL_law 1619 = .ok (.invokestatic 292, 3) := dTL_15.2.2.2.2.1.2.2.2.2.2.2.2.1
theorem dL_law_1622 : decode cL_law 1622 = .ok (.istore 5, 2) := dTL_15.2.2.2.2.1.2.2.2.2.2.2.2.2.1
theorem dL_law_1624 : decode cL_law 1624 = .ok (.aload_n 2, 1) := dTL_15.2.2.2.2.1.2.2.2.2.2.2.2.2.2.1
theorem dL_law_1625 : decode cL_law 1625 = .ok (.aload_n 0, 1) := dTL_15.2.2.2.2.2.1.1
theorem dL_law_1626 : decode cL_law 1626 = .ok (.iload 4, 2) := dTL_15.2.2.2.2.2.1.2.1
theorem dL_law_1628 : decode cL_law 1628 = .ok (.iconst 1, 1) := dTL_15.2.2.2.2.2.1.2.2.1
theorem dL_law_1629 : decode cL_law 1629 = .ok (.iadd, 1) := dTL_15.2.2.2.2.2.1.2.2.2.1
theorem dL_law_1630 : decode cL_law 1630 = .ok (.iaload, 1) := dTL_15.2.2.2.2.2.1.2.2.2.2.1
theorem dL_law_1631 : decode cL_law 1631 = .ok (.aload_n 0, 1) := dTL_15.2.2.2.2.2.1.2.2.2.2.2.1
theorem dL_law_1632 : decode cL_law 1632 = .ok (.iload 4, 2) := dTL_15.2.2.2.2.2.1.2.2.2.2.2.2.1
theorem dL_law_1634 : decode cL_law 1634 = .ok (.iconst 2, 1) := dTL_15.2.2.2.2.2.1.2.2.2.2.2.2.2.1
theorem dL_law_1635 : decode cL_law 1635 = .ok (.iadd, 1) := dTL_15.2.2.2.2.2.1.2.2.2.2.2.2.2.2.1
theorem dL_law_1636 : decode cL_law 1636 = .ok (.iaload, 1) := dTL_15.2.2.2.2.2.1.2.2.2.2.2.2.2.2.2.1
theorem dTL_16 : dQ cL_law [[(1637, .aload_n 0, 1), (1638, .iload 4, 2), (1640, .iconst 3, 1), (1641, .iadd, 1), (1642, .iaload, 1), (1643, .invokevirtual 294, 3), (1646, .istore 6, 2), (1648, .goto 342, 3), (1651, .aload_n 1, 1), (1652, .aload_n 0, 1)], [(1653, .iload 4, 2), (1655, .iconst 1, 1), (1656, .iadd, 1), (1657, .iaload, 1), (1658, .aload_n 0, 1), (1659, .iload 4, 2), (1661, .iconst 2, 1), (1662, .iadd, 1), (1663, .iaload, 1), (1664, .aload_n 0, 1)], [(1665, .iload 4, 2), (1667, .iconst 3, 1), (1668, .iadd, 1), (1669, .iaload, 1), (1670, .aload_n 3, 1), (1671, .invokestatic 295, 3), (1674, .istore 5, 2), (1676, .aload_n 2, 1), (1677, .aload_n 0, 1), (1678, .iload 4, 2)], [(1680, .iconst 1, 1), (1681, .iadd, 1), (1682, .iaload, 1), (1683, .aload_n 0, 1), (1684, .iload 4, 2), (1686, .iconst 2, 1), (1687, .iadd, 1), (1688, .iaload, 1), (1689, .aload_n 0, 1), (1690, .iload 4, 2)], [(1692, .iconst 3, 1), (1693, .iadd, 1), (1694, .iaload, 1), (1695, .invokevirtual 297, 3), (1698, .istore 6, 2), (1700, .goto 290, 3), (1703, .aload_n 1, 1), (1704, .aload_n 0, 1), (1705, .iload 4, 2), (1707, .iconst 1, 1)], [(1708, .iadd, 1), (1709, .iaload, 1), (1710, .aload_n 0, 1), (1711, .iload 4, 2), (1713, .iconst 2, 1), (1714, .iadd, 1), (1715, .iaload, 1), (1716, .aload_n 0, 1), (1717, .iload 4, 2), (1719, .iconst 3, 1)]] := dQ_of _ _ (by decide +kernel)
theorem dL_law_1637 : decode cL_law 1637 = .ok (.aload_n 0, 1) := dTL_16.1.1
theorem dL_law_1638 : decode cL_law 1638 = .ok (.iload 4, 2) := dTL_16.1.2.1
theorem dL_law_1640 : decode cL_law 1640 = .ok (.iconst 3, 1) := dTL_16.1.2.2.1
theorem dL_law_1641 : decode cL_law 1641 = .ok (.iadd, 1) := dTL_16.1.2.2.2.1
theorem dL_law_1642 : decode cL_law 1642 = .ok (.iaload, 1) := dTL_16.1.2.2.2.2.1
theorem dL_law_1643 : decode cL_law 1643 = .ok (.invokevirtual 294, 3) := dTL_16.1.2.2.2.2.2.1
theorem dL_law_1646 : decode cL_law 1646 = .ok (.istore 6, 2) := dTL_16.1.2.2.2.2.2.2.1
theorem dL_law_1648 : decode cL_law 1648 = .ok (.goto 342, 3) := dTL_16.1.2.2.2.2.2.2.2.1
theorem dL_law_1651 : decode cL_law 1651 = .ok (.aload_n 1, 1) := dTL_16.1.2.2.2.2.2.2.2.2.1
theorem dL_law_1652 : decode cL_law 1652 = .ok (.aload_n 0, 1) := dTL_16.1.2.2.2.2.2.2.2.2.2.1
theorem dL_law_1653 : decode cL_law 1653 = .ok (.iload 4, 2) := dTL_16.2.1.1
theorem dL_law_1655 : decode cL_law 1655 = .ok (.iconst 1, 1) := dTL_16.2.1.2.1
theorem dL_law_1656 : decode cL_law 1656 = .ok (.iadd, 1) := dTL_16.2.1.2.2.1
theorem dL_law_1657 : decode cL_law 1657 = .ok (.iaload, 1) := dTL_16.2.1.2.2.2.1
theorem dL_law_1658 : decode cL_law 1658 = .ok (.aload_n 0, 1) := dTL_16.2.1.2.2.2.2.1
theorem dL_law_1659 : decode cL_law 1659 = .ok (.iload 4, 2) := dTL_16.2.1.2.2.2.2.2.1
theorem dL_law_1661 : decode cL_law 1661 = .ok (.iconst 2, 1) := dTL_16.2.1.2.2.2.2.2.2.1
theorem dL_law_1662 : decode cL_law 1662 = .ok (.iadd, 1) := dTL_16.2.1.2.2.2.2.2.2.2.1
theorem dL_law_1663 : decode cL_law 1663 = .ok (.iaload, 1) := dTL_16.2.1.2.2.2.2.2.2.2.2.1
theorem dL_law_1664 : decode cL_law 1664 = .ok (.aload_n 0, 1) := dTL_16.2.1.2.2.2.2.2.2.2.2.2.1
theorem dL_law_1665 : decode cL_law 1665 = .ok (.iload 4, 2) := dTL_16.2.2.1.1
theorem dL_law_1667 : decode cL_law 1667 = .ok (.iconst 3, 1) := dTL_16.2.2.1.2.1
theorem dL_law_1668 : decode cL_law 1668 = .ok (.iadd, 1) := dTL_16.2.2.1.2.2.1
theorem dL_law_1669 : decode cL_law 1669 = .ok (.iaload, 1) := dTL_16.2.2.1.2.2.2.1
theorem dL_law_1670 : decode cL_law 1670 = .ok (.aload_n 3, 1) := dTL_16.2.2.1.2.2.2.2.1
theorem dL_law_1671 : decode cL_law 1671 = .ok (.invokestatic 295, 3) := dTL_16.2.2.1.2.2.2.2.2.1
theorem dL_law_1674 : decode cL_law 1674 = .ok (.istore 5, 2) := dTL_16.2.2.1.2.2.2.2.2.2.1
theorem dL_law_1676 : decode cL_law 1676 = .ok (.aload_n 2, 1) := dTL_16.2.2.1.2.2.2.2.2.2.2.1
theorem dL_law_1677 : decode cL_law 1677 = .ok (.aload_n 0, 1) := dTL_16.2.2.1.2.2.2.2.2.2.2.2.1
theorem dL_law_1678 : decode cL_law 1678 = .ok (.iload 4, 2) := dTL_16.2.2.1.2.2.2.2.2.2.2.2.2.1
theorem dL_law_1680 : decode cL_law 1680 = .ok (.iconst 1, 1) := dTL_16.2.2.2.1.1
theorem dL_law_1681 : decode cL_law 1681 = .ok (.iadd, 1) := dTL_16.2.2.2.1.2.1
theorem dL_law_1682 : decode cL_law 1682 = .ok (.iaload, 1) := dTL_16.2.2.2.1.2.2.1
theorem dL_law_1683 : decode cL_law 1683 = .ok (.aload_n 0, 1) := dTL_16.2.2.2.1.2.2.2.1
theorem dL_law_1684 : decode cL_law 1684 = .ok (.iload 4, 2) := dTL_16.2.2.2.1.2.2.2.2.1
theorem dL_law_1686 : decode cL_law 1686 = .ok (.iconst 2, 1) := dTL_16.2.2.2.1.2.2.2.2.2.1
theorem dL_law_1687 : decode cL_law 1687 = .ok (.iadd, 1) := dTL_16.2.2.2.1.2.2.2.2.2.2.1
theorem dL_law_1688 : decode cL_law 1688 = .ok (.iaload, 1) := dTL_16.2.2.2.1.2.2.2.2.2.2.2.1
theorem dL_law_1689 : decode cL_law 1689 = .ok (.aload_n 0, 1) := dTL_16.2.2.2.1.2.2.2.2.2.2.2.2.1
theorem dL_law_1690 : decode cL_law 1690 = .ok (.iload 4, 2) := dTL_16.2.2.2.1.2.2.2.2.2.2.2.2.2.1
theorem dL_law_1692 : decode cL_law 1692 = .ok (.iconst 3, 1) := dTL_16.2.2.2.2.1.1
theorem dL_law_1693 : decode cL_law 1693 = .ok (.iadd, 1) := dTL_16.2.2.2.2.1.2.1
theorem dL_law_1694 : decode cL_law 1694 = .ok (.iaload, 1) := dTL_16.2.2.2.2.1.2.2.1
theorem dL_law_1695 : decode cL_law 1695 = .ok (.invokevirtual 297, 3) := dTL_16.2.2.2.2.1.2.2.2.1
theorem dL_law_1698 : decode cL_law 1698 = .ok (.istore 6, 2) := dTL_16.2.2.2.2.1.2.2.2.2.1
theorem dL_law_1700 : decode cL_law 1700 = .ok (.goto 290, 3) := dTL_16.2.2.2.2.1.2.2.2.2.2.1
theorem dL_law_1703 : decode cL_law 1703 = .ok (.aload_n 1, 1) := dTL_16.2.2.2.2.1.2.2.2.2.2.2.1
theorem dL_law_1704 : decode cL_law 1704 = .ok (.aload_n 0, 1) := dTL_16.2.2.2.2.1.2.2.2.2.2.2.2.1
theorem dL_law_1705 : decode cL_law 1705 = .ok (.iload 4, 2) := dTL_16.2.2.2.2.1.2.2.2.2.2.2.2.2.1
theorem dL_law_1707 : decode cL_law 1707 = .ok (.iconst 1, 1) := dTL_16.2.2.2.2.1.2.2.2.2.2.2.2.2.2.1
theorem dL_law_1708 : decode cL_law 1708 = .ok (.iadd, 1) := dTL_16.2.2.2.2.2.1.1
theorem dL_law_1709 : decode cL_law 1709 = .ok (.iaload, 1) := dTL_16.2.2.2.2.2.1.2.1
theorem dL_law_1710 : decode cL_law 1710 = .ok (.aload_n 0, 1) := dTL_16.2.2.2.2.2.1.2.2.1
theorem dL_law_1711 : decode cL_law 1711 = .ok (.iload 4, 2) := dTL_16.2.2.2.2.2.1.2.2.2.1
theorem dL_law_1713 : decode cL_law 1713 = .ok (.iconst 2, 1) := dTL_16.2.2.2.2.2.1.2.2.2.2.1
theorem dL_law_1714 : decode cL_law 1714 = .ok (.iadd, 1) := dTL_16.2.2.2.2.2.1.2.2.2.2.2.1
theorem dL_law_1715 : decode cL_law 1715 = .ok (.iaload, 1) := dTL_16.2.2.2.2.2.1.2.2.2.2.2.2.1
theorem dL_law_1716 : decode cL_law 1716 = .ok (.aload_n 0, 1) := dTL_16.2.2.2.2.2.1.2.2.2.2.2.2.2.1
theorem dL_law_1717 : decode cL_law 1717 = .ok (.iload 4, 2) := dTL_16.2.2.2.2.2.1.2.2.2.2.2.2.2.2.1
theorem dL_law_1719 : decode cL_law 1719 = .ok (.iconst 3, 1) := dTL_16.2.2.2.2.2.1.2.2.2.2.2.2.2.2.2.1
theorem dTL_17 : dQ cL_law [[(1720, .iadd, 1), (1721, .iaload, 1), (1722, .aload_n 3, 1), (1723, .invokestatic 298, 3), (1726, .istore 5, 2), (1728, .aload_n 2, 1), (1729, .aload_n 0, 1), (1730, .iload 4, 2), (1732, .iconst 1, 1), (1733, .iadd, 1)], [(1734, .iaload, 1), (1735, .aload_n 0, 1), (1736, .iload 4, 2), (1738, .iconst 2, 1), (1739, .iadd, 1), (1740, .iaload, 1), (1741, .aload_n 0, 1), (1742, .iload 4, 2), (1744, .iconst 3, 1), (1745, .iadd, 1)], [(1746, .iaload, 1), (1747, .invokevirtual 300, 3), (1750, .istore 6, 2), (1752, .goto 238, 3), (1755, .aload_n 1, 1), (1756, .aload_n 0, 1), (1757, .iload 4, 2), (1759, .iconst 1, 1), (1760, .iadd, 1), (1761, .iaload, 1)], [(1762, .aload_n 3, 1), (1763, .invokestatic 301, 3), (1766, .istore 5, 2), (1768, .aload_n 2, 1), (1769, .aload_n 0, 1), (1770, .iload 4, 2), (1772, .iconst 1, 1), (1773, .iadd, 1), (1774, .iaload, 1), (1775, .invokevirtual 303, 3)], [(1778, .istore 6, 2), (1780, .goto 210, 3), (1783, .aload_n 1, 1), (1784, .aload_n 0, 1), (1785, .iload 4, 2), (1787, .iconst 1, 1), (1788, .iadd, 1), (1789, .iaload, 1), (1790, .aload_n 3, 1), (1791, .invokestatic 304, 3)], [(1794, .istore 5, 2), (1796, .aload_n 2, 1), (1797, .aload_n 0, 1), (1798, .iload 4, 2), (1800, .iconst 1, 1), (1801, .iadd, 1), (1802, .iaload, 1), (1803, .invokevirtual 306, 3), (1806, .istore 6, 2), (1808, .goto 182, 3)]] := dQ_of _ _ (by decide +kernel)
theorem dL_law_1720 : decode cL_law 1720 = .ok (.iadd, 1) := dTL_17.1.1
theorem dL_law_1721 : decode cL_law 1721 = .ok (.iaload, 1) := dTL_17.1.2.1
theorem dL_law_1722 : decode cL_law 1722 = .ok (.aload_n 3, 1) := dTL_17.1.2.2.1
theorem dL_law_1723 : decode cL_law 1723 = .ok (.invokestatic 298, 3) := dTL_17.1.2.2.2.1
theorem dL_law_1726 : decode cL_law 1726 = .ok (.istore 5, 2) := dTL_17.1.2.2.2.2.1
theorem dL_law_1728 : decode cL_law 1728 = .ok (.aload_n 2, 1) := dTL_17.1.2.2.2.2.2.1
theorem dL_law_1729 : decode cL_law 1729 = .ok (.aload_n 0, 1) := dTL_17.1.2.2.2.2.2.2.1
theorem dL_law_1730 : decode cL_law 1730 = .ok (.iload 4, 2) := dTL_17.1.2.2.2.2.2.2.2.1
theorem dL_law_1732 : decode cL_law 1732 = .ok (.iconst 1, 1) := dTL_17.1.2.2.2.2.2.2.2.2.1
theorem dL_law_1733 : decode cL_law 1733 = .ok (.iadd, 1) := dTL_17.1.2.2.2.2.2.2.2.2.2.1
theorem dL_law_1734 : decode cL_law 1734 = .ok (.iaload, 1) := dTL_17.2.1.1
theorem dL_law_1735 : decode cL_law 1735 = .ok (.aload_n 0, 1) := dTL_17.2.1.2.1
theorem dL_law_1736 : decode cL_law 1736 = .ok (.iload 4, 2) := dTL_17.2.1.2.2.1
theorem dL_law_1738 : decode cL_law 1738 = .ok (.iconst 2, 1) := dTL_17.2.1.2.2.2.1
theorem dL_law_1739 : decode cL_law 1739 = .ok (.iadd, 1) := dTL_17.2.1.2.2.2.2.1
theorem dL_law_1740 : decode cL_law 1740 = .ok (.iaload, 1) := dTL_17.2.1.2.2.2.2.2.1
theorem dL_law_1741 : decode cL_law 1741 = .ok (.aload_n 0, 1) := dTL_17.2.1.2.2.2.2.2.2.1
theorem dL_law_1742 : decode cL_law 1742 = .ok (.iload 4, 2) := dTL_17.2.1.2.2.2.2.2.2.2.1
theorem dL_law_1744 : decode cL_law 1744 = .ok (.iconst 3, 1) := dTL_17.2.1.2.2.2.2.2.2.2.2.1
theorem dL_law_1745 : decode cL_law 1745 = .ok (.iadd, 1) := dTL_17.2.1.2.2.2.2.2.2.2.2.2.1
theorem dL_law_1746 : decode cL_law 1746 = .ok (.iaload, 1) := dTL_17.2.2.1.1
theorem dL_law_1747 : decode cL_law 1747 = .ok (.invokevirtual 300, 3) := dTL_17.2.2.1.2.1
theorem dL_law_1750 : decode cL_law 1750 = .ok (.istore 6, 2) := dTL_17.2.2.1.2.2.1
theorem dL_law_1752 : decode cL_law 1752 = .ok (.goto 238, 3) := dTL_17.2.2.1.2.2.2.1
theorem dL_law_1755 : decode cL_law 1755 = .ok (.aload_n 1, 1) := dTL_17.2.2.1.2.2.2.2.1
theorem dL_law_1756 : decode cL_law 1756 = .ok (.aload_n 0, 1) := dTL_17.2.2.1.2.2.2.2.2.1
theorem dL_law_1757 : decode cL_law 1757 = .ok (.iload 4, 2) := dTL_17.2.2.1.2.2.2.2.2.2.1
theorem dL_law_1759 : decode cL_law 1759 = .ok (.iconst 1, 1) := dTL_17.2.2.1.2.2.2.2.2.2.2.1
theorem dL_law_1760 : decode cL_law 1760 = .ok (.iadd, 1) := dTL_17.2.2.1.2.2.2.2.2.2.2.2.1
theorem dL_law_1761 : decode cL_law 1761 = .ok (.iaload, 1) := dTL_17.2.2.1.2.2.2.2.2.2.2.2.2.1
theorem dL_law_1762 : decode cL_law 1762 = .ok (.aload_n 3, 1) := dTL_17.2.2.2.1.1
theorem dL_law_1763 : decode cL_law 1763 = .ok (.invokestatic 301, 3) := dTL_17.2.2.2.1.2.1
theorem dL_law_1766 : decode cL_law 1766 = .ok (.istore 5, 2) := dTL_17.2.2.2.1.2.2.1
theorem dL_law_1768 : decode cL_law 1768 = .ok (.aload_n 2, 1) := dTL_17.2.2.2.1.2.2.2.1
theorem dL_law_1769 : decode cL_law 1769 = .ok (.aload_n 0, 1) := dTL_17.2.2.2.1.2.2.2.2.1
theorem dL_law_1770 : decode cL_law 1770 = .ok (.iload 4, 2) := dTL_17.2.2.2.1.2.2.2.2.2.1
theorem dL_law_1772 : decode cL_law 1772 = .ok (.iconst 1, 1) := dTL_17.2.2.2.1.2.2.2.2.2.2.1
theorem dL_law_1773 : decode cL_law 1773 = .ok (.iadd, 1) := dTL_17.2.2.2.1.2.2.2.2.2.2.2.1
theorem dL_law_1774 : decode cL_law 1774 = .ok (.iaload, 1) := dTL_17.2.2.2.1.2.2.2.2.2.2.2.2.1
theorem dL_law_1775 : decode cL_law 1775 = .ok (.invokevirtual 303, 3) := dTL_17.2.2.2.1.2.2.2.2.2.2.2.2.2.1
theorem dL_law_1778 : decode cL_law 1778 = .ok (.istore 6, 2) := dTL_17.2.2.2.2.1.1
theorem dL_law_1780 : decode cL_law 1780 = .ok (.goto 210, 3) := dTL_17.2.2.2.2.1.2.1
theorem dL_law_1783 : decode cL_law 1783 = .ok (.aload_n 1, 1) := dTL_17.2.2.2.2.1.2.2.1
theorem dL_law_1784 : decode cL_law 1784 = .ok (.aload_n 0, 1) := dTL_17.2.2.2.2.1.2.2.2.1
theorem dL_law_1785 : decode cL_law 1785 = .ok (.iload 4, 2) := dTL_17.2.2.2.2.1.2.2.2.2.1
theorem dL_law_1787 : decode cL_law 1787 = .ok (.iconst 1, 1) := dTL_17.2.2.2.2.1.2.2.2.2.2.1
theorem dL_law_1788 : decode cL_law 1788 = .ok (.iadd, 1) := dTL_17.2.2.2.2.1.2.2.2.2.2.2.1
theorem dL_law_1789 : decode cL_law 1789 = .ok (.iaload, 1) := dTL_17.2.2.2.2.1.2.2.2.2.2.2.2.1
theorem dL_law_1790 : decode cL_law 1790 = .ok (.aload_n 3, 1) := dTL_17.2.2.2.2.1.2.2.2.2.2.2.2.2.1
theorem dL_law_1791 : decode cL_law 1791 = .ok (.invokestatic 304, 3) := dTL_17.2.2.2.2.1.2.2.2.2.2.2.2.2.2.1
theorem dL_law_1794 : decode cL_law 1794 = .ok (.istore 5, 2) := dTL_17.2.2.2.2.2.1.1
theorem dL_law_1796 : decode cL_law 1796 = .ok (.aload_n 2, 1) := dTL_17.2.2.2.2.2.1.2.1
theorem dL_law_1797 : decode cL_law 1797 = .ok (.aload_n 0, 1) := dTL_17.2.2.2.2.2.1.2.2.1
theorem dL_law_1798 : decode cL_law 1798 = .ok (.iload 4, 2) := dTL_17.2.2.2.2.2.1.2.2.2.1
theorem dL_law_1800 : decode cL_law 1800 = .ok (.iconst 1, 1) := dTL_17.2.2.2.2.2.1.2.2.2.2.1
theorem dL_law_1801 : decode cL_law 1801 = .ok (.iadd, 1) := dTL_17.2.2.2.2.2.1.2.2.2.2.2.1
theorem dL_law_1802 : decode cL_law 1802 = .ok (.iaload, 1) := dTL_17.2.2.2.2.2.1.2.2.2.2.2.2.1
theorem dL_law_1803 : decode cL_law 1803 = .ok (.invokevirtual 306, 3) := dTL_17.2.2.2.2.2.1.2.2.2.2.2.2.2.1
theorem dL_law_1806 : decode cL_law 1806 = .ok (.istore 6, 2) := dTL_17.2.2.2.2.2.1.2.2.2.2.2.2.2.2.1
theorem dL_law_1808 : decode cL_law 1808 = .ok (.goto 182, 3) := dTL_17.2.2.2.2.2.1.2.2.2.2.2.2.2.2.2.1
theorem dTL_18 : dQ cL_law [[(1811, .aload_n 1, 1), (1812, .aload_n 0, 1), (1813, .iload 4, 2), (1815, .iconst 1, 1), (1816, .iadd, 1), (1817, .iaload, 1), (1818, .aload_n 3, 1), (1819, .invokestatic 307, 3), (1822, .istore 5, 2), (1824, .aload_n 2, 1)], [(1825, .aload_n 0, 1), (1826, .iload 4, 2), (1828, .iconst 1, 1), (1829, .iadd, 1), (1830, .iaload, 1), (1831, .invokevirtual 309, 3), (1834, .istore 6, 2), (1836, .goto 154, 3), (1839, .aload_n 1, 1), (1840, .aload_n 0, 1)], [(1841, .iload 4, 2), (1843, .iconst 1, 1), (1844, .iadd, 1), (1845, .iaload, 1), (1846, .aload_n 3, 1), (1847, .invokestatic 310, 3), (1850, .istore 5, 2), (1852, .aload_n 2, 1), (1853, .aload_n 0, 1), (1854, .iload 4, 2)], [(1856, .iconst 1, 1), (1857, .iadd, 1), (1858, .iaload, 1), (1859, .invokevirtual 312, 3), (1862, .istore 6, 2), (1864, .goto 126, 3), (1867, .aload_n 1, 1), (1868, .aload_n 0, 1), (1869, .iload 4, 2), (1871, .iconst 1, 1)], [(1872, .iadd, 1), (1873, .iaload, 1), (1874, .aload_n 3, 1), (1875, .invokestatic 313, 3), (1878, .istore 5, 2), (1880, .aload_n 2, 1), (1881, .aload_n 0, 1), (1882, .iload 4, 2), (1884, .iconst 1, 1), (1885, .iadd, 1)], [(1886, .iaload, 1), (1887, .invokevirtual 315, 3), (1890, .istore 6, 2), (1892, .goto 98, 3), (1895, .aload_n 1, 1), (1896, .aload_n 0, 1), (1897, .iload 4, 2), (1899, .iconst 1, 1), (1900, .iadd, 1), (1901, .iaload, 1)]] := dQ_of _ _ (by decide +kernel)
theorem dL_law_1811 : decode cL_law 1811 = .ok (.aload_n 1, 1) := dTL_18.1.1
theorem dL_law_1812 : decode cL_law 1812 = .ok (.aload_n 0, 1) := dTL_18.1.2.1
theorem dL_law_1813 : decode cL_law 1813 = .ok (.iload 4, 2) := dTL_18.1.2.2.1
theorem dL_law_1815 : decode cL_law 1815 = .ok (.iconst 1, 1) := dTL_18.1.2.2.2.1
theorem dL_law_1816 : decode cL_law 1816 = .ok (.iadd, 1) := dTL_18.1.2.2.2.2.1
theorem dL_law_1817 : decode cL_law 1817 = .ok (.iaload, 1) := dTL_18.1.2.2.2.2.2.1
theorem dL_law_1818 : decode cL_law 1818 = .ok (.aload_n 3, 1) := dTL_18.1.2.2.2.2.2.2.1
theorem dL_law_1819 : decode cL_law 1819 = .ok (.invokestatic 307, 3) := dTL_18.1.2.2.2.2.2.2.2.1
theorem dL_law_1822 : decode cL_law 1822 = .ok (.istore 5, 2) := dTL_18.1.2.2.2.2.2.2.2.2.1
theorem dL_law_1824 : decode cL_law 1824 = .ok (.aload_n 2, 1) := dTL_18.1.2.2.2.2.2.2.2.2.2.1
theorem dL_law_1825 : decode cL_law 1825 = .ok (.aload_n 0, 1) := dTL_18.2.1.1
theorem dL_law_1826 : decode cL_law 1826 = .ok (.iload 4, 2) := dTL_18.2.1.2.1
theorem dL_law_1828 : decode cL_law 1828 = .ok (.iconst 1, 1) := dTL_18.2.1.2.2.1
theorem dL_law_1829 : decode cL_law 1829 = .ok (.iadd, 1) := dTL_18.2.1.2.2.2.1
theorem dL_law_1830 : decode cL_law 1830 = .ok (.iaload, 1) := dTL_18.2.1.2.2.2.2.1
theorem dL_law_1831 : decode cL_law 1831 = .ok (.invokevirtual 309, 3) := dTL_18.2.1.2.2.2.2.2.1
theorem dL_law_1834 : decode cL_law 1834 = .ok (.istore 6, 2) := dTL_18.2.1.2.2.2.2.2.2.1
theorem dL_law_1836 : decode cL_law 1836 = .ok (.goto 154, 3) := dTL_18.2.1.2.2.2.2.2.2.2.1
theorem dL_law_1839 : decode cL_law 1839 = .ok (.aload_n 1, 1) := dTL_18.2.1.2.2.2.2.2.2.2.2.1
theorem dL_law_1840 : decode cL_law 1840 = .ok (.aload_n 0, 1) := dTL_18.2.1.2.2.2.2.2.2.2.2.2.1
theorem dL_law_1841 : decode cL_law 1841 = .ok (.iload 4, 2) := dTL_18.2.2.1.1
theorem dL_law_1843 : decode cL_law 1843 = .ok (.iconst 1, 1) := dTL_18.2.2.1.2.1
theorem dL_law_1844 : decode cL_law 1844 = .ok (.iadd, 1) := dTL_18.2.2.1.2.2.1
theorem dL_law_1845 : decode cL_law 1845 = .ok (.iaload, 1) := dTL_18.2.2.1.2.2.2.1
theorem dL_law_1846 : decode cL_law 1846 = .ok (.aload_n 3, 1) := dTL_18.2.2.1.2.2.2.2.1
theorem dL_law_1847 : decode cL_law 1847 = .ok (.invokestatic 310, 3) := dTL_18.2.2.1.2.2.2.2.2.1
theorem dL_law_1850 : decode cL_law 1850 = .ok (.istore 5, 2) := dTL_18.2.2.1.2.2.2.2.2.2.1
theorem dL_law_1852 : decode cL_law 1852 = .ok (.aload_n 2, 1) := dTL_18.2.2.1.2.2.2.2.2.2.2.1
theorem dL_law_1853 : decode cL_law 1853 = .ok (.aload_n 0, 1) := dTL_18.2.2.1.2.2.2.2.2.2.2.2.1
theorem dL_law_1854 : decode cL_law 1854 = .ok (.iload 4, 2) := dTL_18.2.2.1.2.2.2.2.2.2.2.2.2.1
theorem dL_law_1856 : decode cL_law 1856 = .ok (.iconst 1, 1) := dTL_18.2.2.2.1.1
theorem dL_law_1857 : decode cL_law 1857 = .ok (.iadd, 1) := dTL_18.2.2.2.1.2.1
theorem dL_law_1858 : decode cL_law 1858 = .ok (.iaload, 1) := dTL_18.2.2.2.1.2.2.1
theorem dL_law_1859 : decode cL_law 1859 = .ok (.invokevirtual 312, 3) := dTL_18.2.2.2.1.2.2.2.1
theorem dL_law_1862 : decode cL_law 1862 = .ok (.istore 6, 2) := dTL_18.2.2.2.1.2.2.2.2.1
theorem dL_law_1864 : decode cL_law 1864 = .ok (.goto 126, 3) := dTL_18.2.2.2.1.2.2.2.2.2.1
theorem dL_law_1867 : decode cL_law 1867 = .ok (.aload_n 1, 1) := dTL_18.2.2.2.1.2.2.2.2.2.2.1
theorem dL_law_1868 : decode cL_law 1868 = .ok (.aload_n 0, 1) := dTL_18.2.2.2.1.2.2.2.2.2.2.2.1
theorem dL_law_1869 : decode cL_law 1869 = .ok (.iload 4, 2) := dTL_18.2.2.2.1.2.2.2.2.2.2.2.2.1
theorem dL_law_1871 : decode cL_law 1871 = .ok (.iconst 1, 1) := dTL_18.2.2.2.1.2.2.2.2.2.2.2.2.2.1
theorem dL_law_1872 : decode cL_law 1872 = .ok (.iadd, 1) := dTL_18.2.2.2.2.1.1
theorem dL_law_1873 : decode cL_law 1873 = .ok (.iaload, 1) := dTL_18.2.2.2.2.1.2.1
theorem dL_law_1874 : decode cL_law 1874 = .ok (.aload_n 3, 1) := dTL_18.2.2.2.2.1.2.2.1
theorem dL_law_1875 : decode cL_law 1875 = .ok (.invokestatic 313, 3) := dTL_18.2.2.2.2.1.2.2.2.1
theorem dL_law_1878 : decode cL_law 1878 = .ok (.istore 5, 2) := dTL_18.2.2.2.2.1.2.2.2.2.1
theorem dL_law_1880 : decode cL_law 1880 = .ok (.aload_n 2, 1) := dTL_18.2.2.2.2.1.2.2.2.2.2.1
theorem dL_law_1881 : decode cL_law 1881 = .ok (.aload_n 0, 1) := dTL_18.2.2.2.2.1.2.2.2.2.2.2.1
theorem dL_law_1882 : decode cL_law 1882 = .ok (.iload 4, 2) := dTL_18.2.2.2.2.1.2.2.2.2.2.2.2.1
theorem dL_law_1884 : decode cL_law 1884 = .ok (.iconst 1, 1) := dTL_18.2.2.2.2.1.2.2.2.2.2.2.2.2.1
theorem dL_law_1885 : decode cL_law 1885 = .ok (.iadd, 1) := dTL_18.2.2.2.2.1.2.2.2.2.2.2.2.2.2.1
theorem dL_law_1886 : decode cL_law 1886 = .ok (.iaload, 1) := dTL_18.2.2.2.2.2.1.1
theorem dL_law_1887 : decode cL_law 1887 = .ok (.invokevirtual 315, 3) := dTL_18.2.2.2.2.2.1.2.1
theorem dL_law_1890 : decode cL_law 1890 = .ok (.istore 6, 2) := dTL_18.2.2.2.2.2.1.2.2.1
theorem dL_law_1892 : decode cL_law 1892 = .ok (.goto 98, 3) := dTL_18.2.2.2.2.2.1.2.2.2.1
theorem dL_law_1895 : decode cL_law 1895 = .ok (.aload_n 1, 1) := dTL_18.2.2.2.2.2.1.2.2.2.2.1
theorem dL_law_1896 : decode cL_law 1896 = .ok (.aload_n 0, 1) := dTL_18.2.2.2.2.2.1.2.2.2.2.2.1
theorem dL_law_1897 : decode cL_law 1897 = .ok (.iload 4, 2) := dTL_18.2.2.2.2.2.1.2.2.2.2.2.2.1
theorem dL_law_1899 : decode cL_law 1899 = .ok (.iconst 1, 1) := dTL_18.2.2.2.2.2.1.2.2.2.2.2.2.2.1
theorem dL_law_1900 : decode cL_law 1900 = .ok (.iadd, 1) := dTL_18.2.2.2.2.2.1.2.2.2.2.2.2.2.2.1
theorem dL_law_1901 : decode cL_law 1901 = .ok (.iaload, 1) := dTL_18.2.2.2.2.2.1.2.2.2.2.2.2.2.2.2.1
theorem dTL_19 : dQ cL_law [[(1902, .aload_n 3, 1), (1903, .invokestatic 316, 3), (1906, .istore 5, 2), (1908, .aload_n 2, 1), (1909, .aload_n 0, 1), (1910, .iload 4, 2), (1912, .iconst 1, 1), (1913, .iadd, 1), (1914, .iaload, 1), (1915, .invokevirtual 318, 3)], [(1918, .istore 6, 2), (1920, .goto 70, 3), (1923, .aload_n 1, 1), (1924, .aload_n 0, 1), (1925, .iload 4, 2), (1927, .iconst 1, 1), (1928, .iadd, 1), (1929, .iaload, 1), (1930, .aload_n 3, 1), (1931, .invokestatic 319, 3)], [(1934, .istore 5, 2), (1936, .aload_n 2, 1), (1937, .aload_n 0, 1), (1938, .iload 4, 2), (1940, .iconst 1, 1), (1941, .iadd, 1), (1942, .iaload, 1), (1943, .invokevirtual 321, 3), (1946, .istore 6, 2), (1948, .goto 42, 3)], [(1951, .aload_n 1, 1), (1952, .invokevirtual 322, 3), (1955, .pop, 1), (1956, .aload_n 2, 1), (1957, .invokevirtual 325, 3), (1960, .pop, 1), (1961, .goto 29, 3), (1964, .aload_n 1, 1), (1965, .invokevirtual 326, 3), (1968, .pop, 1)], [(1969, .aload_n 2, 1), (1970, .invokevirtual 330, 3), (1973, .pop, 1), (1974, .goto 16, 3), (1977, .aload_n 1, 1), (1978, .invokevirtual 331, 3), (1981, .pop2, 1), (1982, .aload_n 2, 1), (1983, .invokevirtual 335, 3), (1986, .pop2, 1)], [(1987, .goto 3, 3), (1990, .iinc 4 4, 3), (1993, .goto (-1966), 3), (1996, .iconst 1, 1), (1997, .ireturn, 1)]] := dQ_of _ _ (by decide +kernel)
theorem dL_law_1902 : decode cL_law 1902 = .ok (.aload_n 3, 1) := dTL_19.1.1
theorem dL_law_1903 : decode cL_law 1903 = .ok (.invokestatic 316, 3) := dTL_19.1.2.1
theorem dL_law_1906 : decode cL_law 1906 = .ok (.istore 5, 2) := dTL_19.1.2.2.1
theorem dL_law_1908 : decode cL_law 1908 = .ok (.aload_n 2, 1) := dTL_19.1.2.2.2.1
theorem dL_law_1909 : decode cL_law 1909 = .ok (.aload_n 0, 1) := dTL_19.1.2.2.2.2.1
theorem dL_law_1910 : decode cL_law 1910 = .ok (.iload 4, 2) := dTL_19.1.2.2.2.2.2.1
theorem dL_law_1912 : decode cL_law 1912 = .ok (.iconst 1, 1) := dTL_19.1.2.2.2.2.2.2.1
theorem dL_law_1913 : decode cL_law 1913 = .ok (.iadd, 1) := dTL_19.1.2.2.2.2.2.2.2.1
theorem dL_law_1914 : decode cL_law 1914 = .ok (.iaload, 1) := dTL_19.1.2.2.2.2.2.2.2.2.1
theorem dL_law_1915 : decode cL_law 1915 = .ok (.invokevirtual 318, 3) := dTL_19.1.2.2.2.2.2.2.2.2.2.1
theorem dL_law_1918 : decode cL_law 1918 = .ok (.istore 6, 2) := dTL_19.2.1.1
theorem dL_law_1920 : decode cL_law 1920 = .ok (.goto 70, 3) := dTL_19.2.1.2.1
theorem dL_law_1923 : decode cL_law 1923 = .ok (.aload_n 1, 1) := dTL_19.2.1.2.2.1
theorem dL_law_1924 : decode cL_law 1924 = .ok (.aload_n 0, 1) := dTL_19.2.1.2.2.2.1
theorem dL_law_1925 : decode cL_law 1925 = .ok (.iload 4, 2) := dTL_19.2.1.2.2.2.2.1
theorem dL_law_1927 : decode cL_law 1927 = .ok (.iconst 1, 1) := dTL_19.2.1.2.2.2.2.2.1
theorem dL_law_1928 : decode cL_law 1928 = .ok (.iadd, 1) := dTL_19.2.1.2.2.2.2.2.2.1
theorem dL_law_1929 : decode cL_law 1929 = .ok (.iaload, 1) := dTL_19.2.1.2.2.2.2.2.2.2.1
theorem dL_law_1930 : decode cL_law 1930 = .ok (.aload_n 3, 1) := dTL_19.2.1.2.2.2.2.2.2.2.2.1
theorem dL_law_1931 : decode cL_law 1931 = .ok (.invokestatic 319, 3) := dTL_19.2.1.2.2.2.2.2.2.2.2.2.1
theorem dL_law_1934 : decode cL_law 1934 = .ok (.istore 5, 2) := dTL_19.2.2.1.1
theorem dL_law_1936 : decode cL_law 1936 = .ok (.aload_n 2, 1) := dTL_19.2.2.1.2.1
theorem dL_law_1937 : decode cL_law 1937 = .ok (.aload_n 0, 1) := dTL_19.2.2.1.2.2.1
theorem dL_law_1938 : decode cL_law 1938 = .ok (.iload 4, 2) := dTL_19.2.2.1.2.2.2.1
theorem dL_law_1940 : decode cL_law 1940 = .ok (.iconst 1, 1) := dTL_19.2.2.1.2.2.2.2.1
theorem dL_law_1941 : decode cL_law 1941 = .ok (.iadd, 1) := dTL_19.2.2.1.2.2.2.2.2.1
theorem dL_law_1942 : decode cL_law 1942 = .ok (.iaload, 1) := dTL_19.2.2.1.2.2.2.2.2.2.1
theorem dL_law_1943 : decode cL_law 1943 = .ok (.invokevirtual 321, 3) := dTL_19.2.2.1.2.2.2.2.2.2.2.1
theorem dL_law_1946 : decode cL_law 1946 = .ok (.istore 6, 2) := dTL_19.2.2.1.2.2.2.2.2.2.2.2.1
theorem dL_law_1948 : decode cL_law 1948 = .ok (.goto 42, 3) := dTL_19.2.2.1.2.2.2.2.2.2.2.2.2.1
theorem dL_law_1951 : decode cL_law 1951 = .ok (.aload_n 1, 1) := dTL_19.2.2.2.1.1
theorem dL_law_1952 : decode cL_law 1952 = .ok (.invokevirtual 322, 3) := dTL_19.2.2.2.1.2.1
theorem dL_law_1955 : decode cL_law 1955 = .ok (.pop, 1) := dTL_19.2.2.2.1.2.2.1
theorem dL_law_1956 : decode cL_law 1956 = .ok (.aload_n 2, 1) := dTL_19.2.2.2.1.2.2.2.1
theorem dL_law_1957 : decode cL_law 1957 = .ok (.invokevirtual 325, 3) := dTL_19.2.2.2.1.2.2.2.2.1
theorem dL_law_1960 : decode cL_law 1960 = .ok (.pop, 1) := dTL_19.2.2.2.1.2.2.2.2.2.1
theorem dL_law_1961 : decode cL_law 1961 = .ok (.goto 29, 3) := dTL_19.2.2.2.1.2.2.2.2.2.2.1
theorem dL_law_1964 : decode cL_law 1964 = .ok (.aload_n 1, 1) := dTL_19.2.2.2.1.2.2.2.2.2.2.2.1
theorem dL_law_1965 : decode cL_law 1965 = .ok (.invokevirtual 326, 3) := dTL_19.2.2.2.1.2.2.2.2.2.2.2.2.1
theorem dL_law_1968 : decode cL_law 1968 = .ok (.pop, 1) := dTL_19.2.2.2.1.2.2.2.2.2.2.2.2.2.1
theorem dL_law_1969 : decode cL_law 1969 = .ok (.aload_n 2, 1) := dTL_19.2.2.2.2.1.1
theorem dL_law_1970 : decode cL_law 1970 = .ok (.invokevirtual 330, 3) := dTL_19.2.2.2.2.1.2.1
theorem dL_law_1973 : decode cL_law 1973 = .ok (.pop, 1) := dTL_19.2.2.2.2.1.2.2.1
theorem dL_law_1974 : decode cL_law 1974 = .ok (.goto 16, 3) := dTL_19.2.2.2.2.1.2.2.2.1
theorem dL_law_1977 : decode cL_law 1977 = .ok (.aload_n 1, 1) := dTL_19.2.2.2.2.1.2.2.2.2.1
theorem dL_law_1978 : decode cL_law 1978 = .ok (.invokevirtual 331, 3) := dTL_19.2.2.2.2.1.2.2.2.2.2.1
theorem dL_law_1981 : decode cL_law 1981 = .ok (.pop2, 1) := dTL_19.2.2.2.2.1.2.2.2.2.2.2.1
theorem dL_law_1982 : decode cL_law 1982 = .ok (.aload_n 2, 1) := dTL_19.2.2.2.2.1.2.2.2.2.2.2.2.1
theorem dL_law_1983 : decode cL_law 1983 = .ok (.invokevirtual 335, 3) := dTL_19.2.2.2.2.1.2.2.2.2.2.2.2.2.1
theorem dL_law_1986 : decode cL_law 1986 = .ok (.pop2, 1) := dTL_19.2.2.2.2.1.2.2.2.2.2.2.2.2.2.1
theorem dL_law_1987 : decode cL_law 1987 = .ok (.goto 3, 3) := dTL_19.2.2.2.2.2.1.1
theorem dL_law_1990 : decode cL_law 1990 = .ok (.iinc 4 4, 3) := dTL_19.2.2.2.2.2.1.2.1
theorem dL_law_1993 : decode cL_law 1993 = .ok (.goto (-1966), 3) := dTL_19.2.2.2.2.2.1.2.2.1
theorem dL_law_1996 : decode cL_law 1996 = .ok (.iconst 1, 1) := dTL_19.2.2.2.2.2.1.2.2.2.1
theorem dL_law_1997 : decode cL_law 1997 = .ok (.ireturn, 1) := dTL_19.2.2.2.2.2.1.2.2.2.2.1
