theorem dTo1_0 : dQ cX7_add [[(69, zop167, 255, 200), (72, zop177, 0, 0)]] := dQ_of _ _ (by decide +kernel)
theorem dX7_add_69 : decode cX7_add 69 = .ok (.goto (-56), 3) := dTo1_0.1.1
theorem dX7_add_72 : decode cX7_add 72 = .ok (.return_, 1) := dTo1_0.1.2.1
theorem dX7_sum_2 : decode cX7_sum 2 = .ok (.newarray .int, 2) := by decide +kernel
theorem dTo1_1 : dQ cX7_sum [[(0, zop16, 11, 0), (4, zop78, 0, 0), (5, zop3, 0, 0), (6, zop54, 4, 0), (8, zop21, 4, 0), (10, zop16, 11, 0), (12, zop162, 0, 17), (15, zop45, 0, 0), (16, zop21, 4, 0), (18, zop42, 0, 0)], [(19, zop21, 4, 0), (21, zop46, 0, 0), (22, zop79, 0, 0), (23, zop132, 4, 1), (26, zop167, 255, 238), (29, zop45, 0, 0), (30, zop43, 0, 0), (31, zop28, 0, 0), (32, zop184, 0, 56), (35, zop45, 0, 0)], [(36, zop176, 0, 0)]] := dQ_of _ _ (by decide +kernel)
theorem dX7_sum_0 : decode cX7_sum 0 = .ok (.bipush 11, 2) := dTo1_1.1.1
theorem dX7_sum_4 : decode cX7_sum 4 = .ok (.astore_n 3, 1) := dTo1_1.1.2.1
theorem dX7_sum_5 : decode cX7_sum 5 = .ok (.iconst 0, 1) := dTo1_1.1.2.2.1
theorem dX7_sum_6 : decode cX7_sum 6 = .ok (.istore 4, 2) := dTo1_1.1.2.2.2.1
theorem dX7_sum_8 : decode cX7_sum 8 = .ok (.iload 4, 2) := dTo1_1.1.2.2.2.2.1
theorem dX7_sum_10 : decode cX7_sum 10 = .ok (.bipush 11, 2) := dTo1_1.1.2.2.2.2.2.1
theorem dX7_sum_12 : decode cX7_sum 12 = .ok (.if_icmp .ge 17, 3) := dTo1_1.1.2.2.2.2.2.2.1
theorem dX7_sum_15 : decode cX7_sum 15 = .ok (.aload_n 3, 1) := dTo1_1.1.2.2.2.2.2.2.2.1
theorem dX7_sum_16 : decode cX7_sum 16 = .ok (.iload 4, 2) := dTo1_1.1.2.2.2.2.2.2.2.2.1
theorem dX7_sum_18 : decode cX7_sum 18 = .ok (.aload_n 0, 1) := dTo1_1.1.2.2.2.2.2.2.2.2.2.1
theorem dX7_sum_19 : decode cX7_sum 19 = .ok (.iload 4, 2) := dTo1_1.2.1.1
theorem dX7_sum_21 : decode cX7_sum 21 = .ok (.iaload, 1) := dTo1_1.2.1.2.1
theorem dX7_sum_22 : decode cX7_sum 22 = .ok (.iastore, 1) := dTo1_1.2.1.2.2.1
theorem dX7_sum_23 : decode cX7_sum 23 = .ok (.iinc 4 1, 3) := dTo1_1.2.1.2.2.2.1
theorem dX7_sum_26 : decode cX7_sum 26 = .ok (.goto (-18), 3) := dTo1_1.2.1.2.2.2.2.1
theorem dX7_sum_29 : decode cX7_sum 29 = .ok (.aload_n 3, 1) := dTo1_1.2.1.2.2.2.2.2.1
theorem dX7_sum_30 : decode cX7_sum 30 = .ok (.aload_n 1, 1) := dTo1_1.2.1.2.2.2.2.2.2.1
theorem dX7_sum_31 : decode cX7_sum 31 = .ok (.iload_n 2, 1) := dTo1_1.2.1.2.2.2.2.2.2.2.1
theorem dX7_sum_32 : decode cX7_sum 32 = .ok (.invokestatic 56, 3) := dTo1_1.2.1.2.2.2.2.2.2.2.2.1
theorem dX7_sum_35 : decode cX7_sum 35 = .ok (.aload_n 3, 1) := dTo1_1.2.1.2.2.2.2.2.2.2.2.2.1
theorem dX7_sum_36 : decode cX7_sum 36 = .ok (.areturn, 1) := dTo1_1.2.2.1.1
theorem dTo1_2 : dQ cX7_divide [[(0, zop9, 0, 0), (1, zop66, 0, 0), (2, zop16, 10, 0), (4, zop54, 5, 0), (6, zop21, 5, 0), (8, zop155, 0, 38), (11, zop33, 0, 0), (12, zop16, 32, 0), (14, zop121, 0, 0), (15, zop42, 0, 0)], [(16, zop21, 5, 0), (18, zop46, 0, 0), (19, zop133, 0, 0), (20, zop20, 0, 54), (23, zop127, 0, 0), (24, zop129, 0, 0), (25, zop66, 0, 0), (26, zop44, 0, 0), (27, zop21, 5, 0), (29, zop33, 0, 0)], [(30, zop27, 0, 0), (31, zop133, 0, 0), (32, zop109, 0, 0), (33, zop136, 0, 0), (34, zop79, 0, 0), (35, zop33, 0, 0), (36, zop27, 0, 0), (37, zop133, 0, 0), (38, zop113, 0, 0), (39, zop66, 0, 0)], [(40, zop132, 5, 255), (43, zop167, 255, 219), (46, zop177, 0, 0)]] := dQ_of _ _ (by decide +kernel)
theorem dX7_divide_0 : decode cX7_divide 0 = .ok (.lconst 0, 1) := dTo1_2.1.1
theorem dX7_divide_1 : decode cX7_divide 1 = .ok (.lstore_n 3, 1) := dTo1_2.1.2.1
theorem dX7_divide_2 : decode cX7_divide 2 = .ok (.bipush 10, 2) := dTo1_2.1.2.2.1
theorem dX7_divide_4 : decode cX7_divide 4 = .ok (.istore 5, 2) := dTo1_2.1.2.2.2.1
theorem dX7_divide_6 : decode cX7_divide 6 = .ok (.iload 5, 2) := dTo1_2.1.2.2.2.2.1
theorem dX7_divide_8 : decode cX7_divide 8 = .ok (.ifCond .lt 38, 3) := dTo1_2.1.2.2.2.2.2.1
theorem dX7_divide_11 : decode cX7_divide 11 = .ok (.lload_n 3, 1) := dTo1_2.1.2.2.2.2.2.2.1
theorem dX7_divide_12 : decode cX7_divide 12 = .ok (.bipush 32, 2) := dTo1_2.1.2.2.2.2.2.2.2.1
theorem dX7_divide_14 : decode cX7_divide 14 = .ok (.lshl, 1) := dTo1_2.1.2.2.2.2.2.2.2.2.1
theorem dX7_divide_15 : decode cX7_divide 15 = .ok (.aload_n 0, 1) := dTo1_2.1.2.2.2.2.2.2.2.2.2.1
theorem dX7_divide_16 : decode cX7_divide 16 = .ok (.iload 5, 2) := dTo1_2.2.1.1
theorem dX7_divide_18 : decode cX7_divide 18 = .ok (.iaload, 1) := dTo1_2.2.1.2.1
theorem dX7_divide_19 : decode cX7_divide 19 = .ok (.i2l, 1) := dTo1_2.2.1.2.2.1
theorem dX7_divide_20 : decode cX7_divide 20 = .ok (.ldc2_w 54, 3) := dTo1_2.2.1.2.2.2.1
theorem dX7_divide_23 : decode cX7_divide 23 = .ok (.land, 1) := dTo1_2.2.1.2.2.2.2.1
theorem dX7_divide_24 : decode cX7_divide 24 = .ok (.lor, 1) := dTo1_2.2.1.2.2.2.2.2.1
theorem dX7_divide_25 : decode cX7_divide 25 = .ok (.lstore_n 3, 1) := dTo1_2.2.1.2.2.2.2.2.2.1
theorem dX7_divide_26 : decode cX7_divide 26 = .ok (.aload_n 2, 1) := dTo1_2.2.1.2.2.2.2.2.2.2.1
theorem dX7_divide_27 : decode cX7_divide 27 = .ok (.iload 5, 2) := dTo1_2.2.1.2.2.2.2.2.2.2.2.1
theorem dX7_divide_29 : decode cX7_divide 29 = .ok (.lload_n 3, 1) := dTo1_2.2.1.2.2.2.2.2.2.2.2.2.1
theorem dX7_divide_30 : decode cX7_divide 30 = .ok (.iload_n 1, 1) := dTo1_2.2.2.1.1
theorem dX7_divide_31 : decode cX7_divide 31 = .ok (.i2l, 1) := dTo1_2.2.2.1.2.1
theorem dX7_divide_32 : decode cX7_divide 32 = .ok (.ldiv, 1) := dTo1_2.2.2.1.2.2.1
theorem dX7_divide_33 : decode cX7_divide 33 = .ok (.l2i, 1) := dTo1_2.2.2.1.2.2.2.1
theorem dX7_divide_34 : decode cX7_divide 34 = .ok (.iastore, 1) := dTo1_2.2.2.1.2.2.2.2.1
theorem dX7_divide_35 : decode cX7_divide 35 = .ok (.lload_n 3, 1) := dTo1_2.2.2.1.2.2.2.2.2.1
theorem dX7_divide_36 : decode cX7_divide 36 = .ok (.iload_n 1, 1) := dTo1_2.2.2.1.2.2.2.2.2.2.1
theorem dX7_divide_37 : decode cX7_divide 37 = .ok (.i2l, 1) := dTo1_2.2.2.1.2.2.2.2.2.2.2.1
theorem dX7_divide_38 : decode cX7_divide 38 = .ok (.lrem, 1) := dTo1_2.2.2.1.2.2.2.2.2.2.2.2.1
theorem dX7_divide_39 : decode cX7_divide 39 = .ok (.lstore_n 3, 1) := dTo1_2.2.2.1.2.2.2.2.2.2.2.2.2.1
theorem dX7_divide_40 : decode cX7_divide 40 = .ok (.iinc 5 (-1), 3) := dTo1_2.2.2.2.1.1
theorem dX7_divide_43 : decode cX7_divide 43 = .ok (.goto (-37), 3) := dTo1_2.2.2.2.1.2.1
theorem dX7_divide_46 : decode cX7_divide 46 = .ok (.return_, 1) := dTo1_2.2.2.2.1.2.2.1
theorem dTo1_3 : dQ cX7_multiply [[(0, zop9, 0, 0), (1, zop65, 0, 0), (2, zop3, 0, 0), (3, zop54, 4, 0), (5, zop21, 4, 0), (7, zop16, 11, 0), (9, zop162, 0, 35), (12, zop32, 0, 0), (13, zop42, 0, 0), (14, zop21, 4, 0)], [(16, zop46, 0, 0), (17, zop133, 0, 0), (18, zop20, 0, 54), (21, zop127, 0, 0), (22, zop27, 0, 0), (23, zop133, 0, 0), (24, zop105, 0, 0), (25, zop97, 0, 0), (26, zop65, 0, 0), (27, zop42, 0, 0)], [(28, zop21, 4, 0), (30, zop32, 0, 0), (31, zop136, 0, 0), (32, zop79, 0, 0), (33, zop32, 0, 0), (34, zop16, 32, 0), (36, zop125, 0, 0), (37, zop65, 0, 0), (38, zop132, 4, 1), (41, zop167, 255, 220)], [(44, zop177, 0, 0)]] := dQ_of _ _ (by decide +kernel)
theorem dX7_multiply_0 : decode cX7_multiply 0 = .ok (.lconst 0, 1) := dTo1_3.1.1
theorem dX7_multiply_1 : decode cX7_multiply 1 = .ok (.lstore_n 2, 1) := dTo1_3.1.2.1
theorem dX7_multiply_2 : decode cX7_multiply 2 = .ok (.iconst 0, 1) := dTo1_3.1.2.2.1
theorem dX7_multiply_3 : decode cX7_multiply 3 = .ok (.istore 4, 2) := dTo1_3.1.2.2.2.1
theorem dX7_multiply_5 : decode cX7_multiply 5 = .ok (.iload 4, 2) := dTo1_3.1.2.2.2.2.1
theorem dX7_multiply_7 : decode cX7_multiply 7 = .ok (.bipush 11, 2) := dTo1_3.1.2.2.2.2.2.1
theorem dX7_multiply_9 : decode cX7_multiply 9 = .ok (.if_icmp .ge 35, 3) := dTo1_3.1.2.2.2.2.2.2.1
theorem dX7_multiply_12 : decode cX7_multiply 12 = .ok (.lload_n 2, 1) := dTo1_3.1.2.2.2.2.2.2.2.1
theorem dX7_multiply_13 : decode cX7_multiply 13 = .ok (.aload_n 0, 1) := dTo1_3.1.2.2.2.2.2.2.2.2.1
theorem dX7_multiply_14 : decode cX7_multiply 14 = .ok (.iload 4, 2) := dTo1_3.1.2.2.2.2.2.2.2.2.2.1
theorem dX7_multiply_16 : decode cX7_multiply 16 = .ok (.iaload, 1) := dTo1_3.2.1.1
theorem dX7_multiply_17 : decode cX7_multiply 17 = .ok (.i2l, 1) := dTo1_3.2.1.2.1
theorem dX7_multiply_18 : decode cX7_multiply 18 = .ok (.ldc2_w 54, 3) := dTo1_3.2.1.2.2.1
theorem dX7_multiply_21 : decode cX7_multiply 21 = .ok (.land, 1) := dTo1_3.2.1.2.2.2.1
theorem dX7_multiply_22 : decode cX7_multiply 22 = .ok (.iload_n 1, 1) := dTo1_3.2.1.2.2.2.2.1
theorem dX7_multiply_23 : decode cX7_multiply 23 = .ok (.i2l, 1) := dTo1_3.2.1.2.2.2.2.2.1
theorem dX7_multiply_24 : decode cX7_multiply 24 = .ok (.lmul, 1) := dTo1_3.2.1.2.2.2.2.2.2.1
theorem dX7_multiply_25 : decode cX7_multiply 25 = .ok (.ladd, 1) := dTo1_3.2.1.2.2.2.2.2.2.2.1
theorem dX7_multiply_26 : decode cX7_multiply 26 = .ok (.lstore_n 2, 1) := dTo1_3.2.1.2.2.2.2.2.2.2.2.1
theorem dX7_multiply_27 : decode cX7_multiply 27 = .ok (.aload_n 0, 1) := dTo1_3.2.1.2.2.2.2.2.2.2.2.2.1
theorem dX7_multiply_28 : decode cX7_multiply 28 = .ok (.iload 4, 2) := dTo1_3.2.2.1.1
theorem dX7_multiply_30 : decode cX7_multiply 30 = .ok (.lload_n 2, 1) := dTo1_3.2.2.1.2.1
theorem dX7_multiply_31 : decode cX7_multiply 31 = .ok (.l2i, 1) := dTo1_3.2.2.1.2.2.1
theorem dX7_multiply_32 : decode cX7_multiply 32 = .ok (.iastore, 1) := dTo1_3.2.2.1.2.2.2.1
theorem dX7_multiply_33 : decode cX7_multiply 33 = .ok (.lload_n 2, 1) := dTo1_3.2.2.1.2.2.2.2.1
theorem dX7_multiply_34 : decode cX7_multiply 34 = .ok (.bipush 32, 2) := dTo1_3.2.2.1.2.2.2.2.2.1
theorem dX7_multiply_36 : decode cX7_multiply 36 = .ok (.lushr, 1) := dTo1_3.2.2.1.2.2.2.2.2.2.1
theorem dX7_multiply_37 : decode cX7_multiply 37 = .ok (.lstore_n 2, 1) := dTo1_3.2.2.1.2.2.2.2.2.2.2.1
theorem dX7_multiply_38 : decode cX7_multiply 38 = .ok (.iinc 4 1, 3) := dTo1_3.2.2.1.2.2.2.2.2.2.2.2.1
theorem dX7_multiply_41 : decode cX7_multiply 41 = .ok (.goto (-36), 3) := dTo1_3.2.2.1.2.2.2.2.2.2.2.2.2.1
theorem dX7_multiply_44 : decode cX7_multiply 44 = .ok (.return_, 1) := dTo1_3.2.2.2.1.1
theorem dTo1_4 : dQ cX7_isNothing [[(0, zop42, 0, 0), (1, zop76, 0, 0), (2, zop43, 0, 0), (3, zop190, 0, 0), (4, zop61, 0, 0), (5, zop3, 0, 0), (6, zop62, 0, 0), (7, zop29, 0, 0), (8, zop28, 0, 0), (9, zop162, 0, 21)], [(12, zop43, 0, 0), (13, zop29, 0, 0), (14, zop46, 0, 0), (15, zop54, 4, 0), (17, zop21, 4, 0), (19, zop153, 0, 5), (22, zop3, 0, 0), (23, zop172, 0, 0), (24, zop132, 3, 1), (27, zop167, 255, 236)], [(30, zop4, 0, 0), (31, zop172, 0, 0)]] := dQ_of _ _ (by decide +kernel)
theorem dX7_isNothing_0 : decode cX7_isNothing 0 = .ok (.aload_n 0, 1) := dTo1_4.1.1
theorem dX7_isNothing_1 : decode cX7_isNothing 1 = .ok (.astore_n 1, 1) := dTo1_4.1.2.1
theorem dX7_isNothing_2 : decode cX7_isNothing 2 = .ok (.aload_n 1, 1) := dTo1_4.1.2.2.1
theorem dX7_isNothing_3 : decode cX7_isNothing 3 = .ok (.arraylength, 1) := dTo1_4.1.2.2.2.1
theorem dX7_isNothing_4 : decode cX7_isNothing 4 = .ok (.istore_n 2, 1) := dTo1_4.1.2.2.2.2.1
theorem dX7_isNothing_5 : decode cX7_isNothing 5 = .ok (.iconst 0, 1) := dTo1_4.1.2.2.2.2.2.1
theorem dX7_isNothing_6 : decode cX7_isNothing 6 = .ok (.istore_n 3, 1) := dTo1_4.1.2.2.2.2.2.2.1
theorem dX7_isNothing_7 : decode cX7_isNothing 7 = .ok (.iload_n 3, 1) := dTo1_4.1.2.2.2.2.2.2.2.1
theorem dX7_isNothing_8 : decode cX7_isNothing 8 = .ok (.iload_n 2, 1) := dTo1_4.1.2.2.2.2.2.2.2.2.1
theorem dX7_isNothing_9 : decode cX7_isNothing 9 = .ok (.if_icmp .ge 21, 3) := dTo1_4.1.2.2.2.2.2.2.2.2.2.1
theorem dX7_isNothing_12 : decode cX7_isNothing 12 = .ok (.aload_n 1, 1) := dTo1_4.2.1.1
theorem dX7_isNothing_13 : decode cX7_isNothing 13 = .ok (.iload_n 3, 1) := dTo1_4.2.1.2.1
theorem dX7_isNothing_14 : decode cX7_isNothing 14 = .ok (.iaload, 1) := dTo1_4.2.1.2.2.1
theorem dX7_isNothing_15 : decode cX7_isNothing 15 = .ok (.istore 4, 2) := dTo1_4.2.1.2.2.2.1
theorem dX7_isNothing_17 : decode cX7_isNothing 17 = .ok (.iload 4, 2) := dTo1_4.2.1.2.2.2.2.1
theorem dX7_isNothing_19 : decode cX7_isNothing 19 = .ok (.ifCond .eq 5, 3) := dTo1_4.2.1.2.2.2.2.2.1
theorem dX7_isNothing_22 : decode cX7_isNothing 22 = .ok (.iconst 0, 1) := dTo1_4.2.1.2.2.2.2.2.2.1
theorem dX7_isNothing_23 : decode cX7_isNothing 23 = .ok (.ireturn, 1) := dTo1_4.2.1.2.2.2.2.2.2.2.1
theorem dX7_isNothing_24 : decode cX7_isNothing 24 = .ok (.iinc 3 1, 3) := dTo1_4.2.1.2.2.2.2.2.2.2.2.1
theorem dX7_isNothing_27 : decode cX7_isNothing 27 = .ok (.goto (-20), 3) := dTo1_4.2.1.2.2.2.2.2.2.2.2.2.1
theorem dX7_isNothing_30 : decode cX7_isNothing 30 = .ok (.iconst 1, 1) := dTo1_4.2.2.1.1
theorem dX7_isNothing_31 : decode cX7_isNothing 31 = .ok (.ireturn, 1) := dTo1_4.2.2.1.2.1
theorem dTo1_5 : dQ cX7_times [[(0, zop3, 0, 0), (1, zop62, 0, 0), (2, zop29, 0, 0), (3, zop16, 22, 0), (5, zop162, 0, 16), (8, zop42, 0, 0), (9, zop180, 0, 25), (12, zop29, 0, 0), (13, zop3, 0, 0), (14, zop79, 0, 0)], [(15, zop132, 3, 1), (18, zop167, 255, 240), (21, zop3, 0, 0), (22, zop62, 0, 0), (23, zop29, 0, 0), (24, zop16, 11, 0), (26, zop162, 0, 97), (29, zop9, 0, 0), (30, zop55, 4, 0), (32, zop3, 0, 0)], [(33, zop54, 6, 0), (35, zop21, 6, 0), (37, zop16, 11, 0), (39, zop162, 0, 66), (42, zop22, 4, 0), (44, zop43, 0, 0), (45, zop29, 0, 0), (46, zop46, 0, 0), (47, zop133, 0, 0), (48, zop20, 0, 54)], [(51, zop127, 0, 0), (52, zop44, 0, 0), (53, zop21, 6, 0), (55, zop46, 0, 0), (56, zop133, 0, 0), (57, zop20, 0, 54), (60, zop127, 0, 0), (61, zop105, 0, 0), (62, zop42, 0, 0), (63, zop180, 0, 25)], [(66, zop29, 0, 0), (67, zop21, 6, 0), (69, zop96, 0, 0), (70, zop46, 0, 0), (71, zop133, 0, 0), (72, zop20, 0, 54), (75, zop127, 0, 0), (76, zop97, 0, 0), (77, zop97, 0, 0), (78, zop55, 4, 0)], [(80, zop42, 0, 0), (81, zop180, 0, 25), (84, zop29, 0, 0), (85, zop21, 6, 0), (87, zop96, 0, 0), (88, zop22, 4, 0), (90, zop136, 0, 0), (91, zop79, 0, 0), (92, zop22, 4, 0), (94, zop16, 32, 0)]] := dQ_of _ _ (by decide +kernel)
theorem dX7_times_0 : decode cX7_times 0 = .ok (.iconst 0, 1) := dTo1_5.1.1
theorem dX7_times_1 : decode cX7_times 1 = .ok (.istore_n 3, 1) := dTo1_5.1.2.1
theorem dX7_times_2 : decode cX7_times 2 = .ok (.iload_n 3, 1) := dTo1_5.1.2.2.1
theorem dX7_times_3 : decode cX7_times 3 = .ok (.bipush 22, 2) := dTo1_5.1.2.2.2.1
theorem dX7_times_5 : decode cX7_times 5 = .ok (.if_icmp .ge 16, 3) := dTo1_5.1.2.2.2.2.1
theorem dX7_times_8 : decode cX7_times 8 = .ok (.aload_n 0, 1) := dTo1_5.1.2.2.2.2.2.1
theorem dX7_times_9 : decode cX7_times 9 = .ok (.getfield 25, 3) := dTo1_5.1.2.2.2.2.2.2.1
theorem dX7_times_12 : decode cX7_times 12 = .ok (.iload_n 3, 1) := dTo1_5.1.2.2.2.2.2.2.2.1
theorem dX7_times_13 : decode cX7_times 13 = .ok (.iconst 0, 1) := dTo1_5.1.2.2.2.2.2.2.2.2.1
theorem dX7_times_14 : decode cX7_times 14 = .ok (.iastore, 1) := dTo1_5.1.2.2.2.2.2.2.2.2.2.1
theorem dX7_times_15 : decode cX7_times 15 = .ok (.iinc 3 1, 3) := dTo1_5.2.1.1
theorem dX7_times_18 : decode cX7_times 18 = .ok (.goto (-16), 3) := dTo1_5.2.1.2.1
theorem dX7_times_21 : decode cX7_times 21 = .ok (.iconst 0, 1) := dTo1_5.2.1.2.2.1
theorem dX7_times_22 : decode cX7_times 22 = .ok (.istore_n 3, 1) := dTo1_5.2.1.2.2.2.1
theorem dX7_times_23 : decode cX7_times 23 = .ok (.iload_n 3, 1) := dTo1_5.2.1.2.2.2.2.1
theorem dX7_times_24 : decode cX7_times 24 = .ok (.bipush 11, 2) := dTo1_5.2.1.2.2.2.2.2.1
theorem dX7_times_26 : decode cX7_times 26 = .ok (.if_icmp .ge 97, 3) := dTo1_5.2.1.2.2.2.2.2.2.1
theorem dX7_times_29 : decode cX7_times 29 = .ok (.lconst 0, 1) := dTo1_5.2.1.2.2.2.2.2.2.2.1
theorem dX7_times_30 : decode cX7_times 30 = .ok (.lstore 4, 2) := dTo1_5.2.1.2.2.2.2.2.2.2.2.1
theorem dX7_times_32 : decode cX7_times 32 = .ok (.iconst 0, 1) := dTo1_5.2.1.2.2.2.2.2.2.2.2.2.1
theorem dX7_times_33 : decode cX7_times 33 = .ok (.istore 6, 2) := dTo1_5.2.2.1.1
theorem dX7_times_35 : decode cX7_times 35 = .ok (.iload 6, 2) := dTo1_5.2.2.1.2.1
theorem dX7_times_37 : decode cX7_times 37 = .ok (.bipush 11, 2) := dTo1_5.2.2.1.2.2.1
theorem dX7_times_39 : decode cX7_times 39 = .ok (.if_icmp .ge 66, 3) := dTo1_5.2.2.1.2.2.2.1
theorem dX7_times_42 : decode cX7_times 42 = .ok (.lload 4, 2) := dTo1_5.2.2.1.2.2.2.2.1
theorem dX7_times_44 : decode cX7_times 44 = .ok (.aload_n 1, 1) := dTo1_5.2.2.1.2.2.2.2.2.1
theorem dX7_times_45 : decode cX7_times 45 = .ok (.iload_n 3, 1) := dTo1_5.2.2.1.2.2.2.2.2.2.1
theorem dX7_times_46 : decode cX7_times 46 = .ok (.iaload, 1) := dTo1_5.2.2.1.2.2.2.2.2.2.2.1
theorem dX7_times_47 : decode cX7_times 47 = .ok (.i2l, 1) := dTo1_5.2.2.1.2.2.2.2.2.2.2.2.1
theorem dX7_times_48 : decode cX7_times 48 = .ok (.ldc2_w 54, 3) := dTo1_5.2.2.1.2.2.2.2.2.2.2.2.2.1
theorem dX7_times_51 : decode cX7_times 51 = .ok (.land, 1) := dTo1_5.2.2.2.1.1
theorem dX7_times_52 : decode cX7_times 52 = .ok (.aload_n 2, 1) := dTo1_5.2.2.2.1.2.1
theorem dX7_times_53 : decode cX7_times 53 = .ok (.iload 6, 2) := dTo1_5.2.2.2.1.2.2.1
theorem dX7_times_55 : decode cX7_times 55 = .ok (.iaload, 1) := dTo1_5.2.2.2.1.2.2.2.1
theorem dX7_times_56 : decode cX7_times 56 = .ok (.i2l, 1) := dTo1_5.2.2.2.1.2.2.2.2.1
theorem dX7_times_57 : decode cX7_times 57 = .ok (.ldc2_w 54, 3) := dTo1_5.2.2.2.1.2.2.2.2.2.1
theorem dX7_times_60 : decode cX7_times 60 = .ok (.land, 1) := dTo1_5.2.2.2.1.2.2.2.2.2.2.1
theorem dX7_times_61 : decode cX7_times 61 = .ok (.lmul, 1) := dTo1_5.2.2.2.1.2.2.2.2.2.2.2.1
theorem dX7_times_62 : decode cX7_times 62 = .ok (.aload_n 0, 1) := dTo1_5.2.2.2.1.2.2.2.2.2.2.2.2.1
theorem dX7_times_63 : decode cX7_times 63 = .ok (.getfield 25, 3) := dTo1_5.2.2.2.1.2.2.2.2.2.2.2.2.2.1
theorem dX7_times_66 : decode cX7_times 66 = .ok (.iload_n 3, 1) := dTo1_5.2.2.2.2.1.1
theorem dX7_times_67 : decode cX7_times 67 = .ok (.iload 6, 2) := dTo1_5.2.2.2.2.1.2.1
theorem dX7_times_69 : decode cX7_times 69 = .ok (.iadd, 1) := dTo1_5.2.2.2.2.1.2.2.1
theorem dX7_times_70 : decode cX7_times 70 = .ok (.iaload, 1) := dTo1_5.2.2.2.2.1.2.2.2.1
theorem dX7_times_71 : decode cX7_times 71 = .ok (.i2l, 1) := dTo1_5.2.2.2.2.1.2.2.2.2.1
theorem dX7_times_72 : decode cX7_times 72 = .ok (.ldc2_w 54, 3) := dTo1_5.2.2.2.2.1.2.2.2.2.2.1
theorem dX7_times_75 : decode cX7_times 75 = .ok (.land, 1) := dTo1_5.2.2.2.2.1.2.2.2.2.2.2.1
theorem dX7_times_76 : decode cX7_times 76 = .ok (.ladd, 1) := dTo1_5.2.2.2.2.1.2.2.2.2.2.2.2.1
theorem dX7_times_77 : decode cX7_times 77 = .ok (.ladd, 1) := dTo1_5.2.2.2.2.1.2.2.2.2.2.2.2.2.1
theorem dX7_times_78 : decode cX7_times 78 = .ok (.lstore 4, 2) := dTo1_5.2.2.2.2.1.2.2.2.2.2.2.2.2.2.1
theorem dX7_times_80 : decode cX7_times 80 = .ok (.aload_n 0, 1) := dTo1_5.2.2.2.2.2.1.1
theorem dX7_times_81 : decode cX7_times 81 = .ok (.getfield 25, 3) := dTo1_5.2.2.2.2.2.1.2.1
theorem dX7_times_84 : decode cX7_times 84 = .ok (.iload_n 3, 1) := dTo1_5.2.2.2.2.2.1.2.2.1
theorem dX7_times_85 : decode cX7_times 85 = .ok (.iload 6, 2) := dTo1_5.2.2.2.2.2.1.2.2.2.1
theorem dX7_times_87 : decode cX7_times 87 = .ok (.iadd, 1) := dTo1_5.2.2.2.2.2.1.2.2.2.2.1
theorem dX7_times_88 : decode cX7_times 88 = .ok (.lload 4, 2) := dTo1_5.2.2.2.2.2.1.2.2.2.2.2.1
theorem dX7_times_90 : decode cX7_times 90 = .ok (.l2i, 1) := dTo1_5.2.2.2.2.2.1.2.2.2.2.2.2.1
theorem dX7_times_91 : decode cX7_times 91 = .ok (.iastore, 1) := dTo1_5.2.2.2.2.2.1.2.2.2.2.2.2.2.1
theorem dX7_times_92 : decode cX7_times 92 = .ok (.lload 4, 2) := dTo1_5.2.2.2.2.2.1.2.2.2.2.2.2.2.2.1
theorem dX7_times_94 : decode cX7_times 94 = .ok (.bipush 32, 2) := dTo1_5.2.2.2.2.2.1.2.2.2.2.2.2.2.2.2.1
theorem dX7_times_125 : decode cX7_times 125 = .ok (.newarray .int, 2) := by decide +kernel
theorem dTo1_6 : dQ cX7_times [[(96, zop125, 0, 0), (97, zop55, 4, 0), (99, zop132, 6, 1), (102, zop167, 255, 189), (105, zop42, 0, 0), (106, zop180, 0, 25), (109, zop29, 0, 0), (110, zop16, 11, 0), (112, zop96, 0, 0), (113, zop22, 4, 0)], [(115, zop136, 0, 0), (116, zop79, 0, 0), (117, zop132, 3, 1), (120, zop167, 255, 159), (123, zop16, 11, 0), (127, zop78, 0, 0), (128, zop3, 0, 0), (129, zop54, 4, 0), (131, zop21, 4, 0), (133, zop16, 11, 0)], [(135, zop162, 0, 23), (138, zop45, 0, 0), (139, zop21, 4, 0), (141, zop42, 0, 0), (142, zop180, 0, 25), (145, zop21, 4, 0), (147, zop16, 8, 0), (149, zop96, 0, 0), (150, zop46, 0, 0), (151, zop79, 0, 0)], [(152, zop132, 4, 1), (155, zop167, 255, 232), (158, zop45, 0, 0), (159, zop176, 0, 0)]] := dQ_of _ _ (by decide +kernel)
theorem dX7_times_96 : decode cX7_times 96 = .ok (.lushr, 1) := dTo1_6.1.1
theorem dX7_times_97 : decode cX7_times 97 = .ok (.lstore 4, 2) := dTo1_6.1.2.1
theorem dX7_times_99 : decode cX7_times 99 = .ok (.iinc 6 1, 3) := dTo1_6.1.2.2.1
theorem dX7_times_102 : decode cX7_times 102 = .ok (.goto (-67), 3) := dTo1_6.1.2.2.2.1
theorem dX7_times_105 : decode cX7_times 105 = .ok (.aload_n 0, 1) := dTo1_6.1.2.2.2.2.1
theorem dX7_times_106 : decode cX7_times 106 = .ok (.getfield 25, 3) := dTo1_6.1.2.2.2.2.2.1
theorem dX7_times_109 : decode cX7_times 109 = .ok (.iload_n 3, 1) := dTo1_6.1.2.2.2.2.2.2.1
theorem dX7_times_110 : decode cX7_times 110 = .ok (.bipush 11, 2) := dTo1_6.1.2.2.2.2.2.2.2.1
theorem dX7_times_112 : decode cX7_times 112 = .ok (.iadd, 1) := dTo1_6.1.2.2.2.2.2.2.2.2.1
theorem dX7_times_113 : decode cX7_times 113 = .ok (.lload 4, 2) := dTo1_6.1.2.2.2.2.2.2.2.2.2.1
theorem dX7_times_115 : decode cX7_times 115 = .ok (.l2i, 1) := dTo1_6.2.1.1
theorem dX7_times_116 : decode cX7_times 116 = .ok (.iastore, 1) := dTo1_6.2.1.2.1
theorem dX7_times_117 : decode cX7_times 117 = .ok (.iinc 3 1, 3) := dTo1_6.2.1.2.2.1
theorem dX7_times_120 : decode cX7_times 120 = .ok (.goto (-97), 3) := dTo1_6.2.1.2.2.2.1
theorem dX7_times_123 : decode cX7_times 123 = .ok (.bipush 11, 2) := dTo1_6.2.1.2.2.2.2.1
theorem dX7_times_127 : decode cX7_times 127 = .ok (.astore_n 3, 1) := dTo1_6.2.1.2.2.2.2.2.1
theorem dX7_times_128 : decode cX7_times 128 = .ok (.iconst 0, 1) := dTo1_6.2.1.2.2.2.2.2.2.1
theorem dX7_times_129 : decode cX7_times 129 = .ok (.istore 4, 2) := dTo1_6.2.1.2.2.2.2.2.2.2.1
theorem dX7_times_131 : decode cX7_times 131 = .ok (.iload 4, 2) := dTo1_6.2.1.2.2.2.2.2.2.2.2.1
theorem dX7_times_133 : decode cX7_times 133 = .ok (.bipush 11, 2) := dTo1_6.2.1.2.2.2.2.2.2.2.2.2.1
theorem dX7_times_135 : decode cX7_times 135 = .ok (.if_icmp .ge 23, 3) := dTo1_6.2.2.1.1
theorem dX7_times_138 : decode cX7_times 138 = .ok (.aload_n 3, 1) := dTo1_6.2.2.1.2.1
theorem dX7_times_139 : decode cX7_times 139 = .ok (.iload 4, 2) := dTo1_6.2.2.1.2.2.1
theorem dX7_times_141 : decode cX7_times 141 = .ok (.aload_n 0, 1) := dTo1_6.2.2.1.2.2.2.1
theorem dX7_times_142 : decode cX7_times 142 = .ok (.getfield 25, 3) := dTo1_6.2.2.1.2.2.2.2.1
theorem dX7_times_145 : decode cX7_times 145 = .ok (.iload 4, 2) := dTo1_6.2.2.1.2.2.2.2.2.1
theorem dX7_times_147 : decode cX7_times 147 = .ok (.bipush 8, 2) := dTo1_6.2.2.1.2.2.2.2.2.2.1
theorem dX7_times_149 : decode cX7_times 149 = .ok (.iadd, 1) := dTo1_6.2.2.1.2.2.2.2.2.2.2.1
theorem dX7_times_150 : decode cX7_times 150 = .ok (.iaload, 1) := dTo1_6.2.2.1.2.2.2.2.2.2.2.2.1
theorem dX7_times_151 : decode cX7_times 151 = .ok (.iastore, 1) := dTo1_6.2.2.1.2.2.2.2.2.2.2.2.2.1
theorem dX7_times_152 : decode cX7_times 152 = .ok (.iinc 4 1, 3) := dTo1_6.2.2.2.1.1
theorem dX7_times_155 : decode cX7_times 155 = .ok (.goto (-24), 3) := dTo1_6.2.2.2.1.2.1
theorem dX7_times_158 : decode cX7_times 158 = .ok (.aload_n 3, 1) := dTo1_6.2.2.2.1.2.2.1
theorem dX7_times_159 : decode cX7_times 159 = .ok (.areturn, 1) := dTo1_6.2.2.2.1.2.2.2.1
theorem dTo1_7 : dQ cX7_root [[(0, zop7, 0, 0), (1, zop184, 0, 38), (4, zop76, 0, 0), (5, zop7, 0, 0), (6, zop184, 0, 38), (9, zop77, 0, 0), (10, zop4, 0, 0), (11, zop62, 0, 0), (12, zop44, 0, 0), (13, zop184, 0, 60)], [(16, zop154, 0, 38), (19, zop44, 0, 0), (20, zop7, 0, 0), (21, zop29, 0, 0), (22, zop104, 0, 0), (23, zop44, 0, 0), (24, zop184, 0, 64), (27, zop43, 0, 0), (28, zop44, 0, 0), (29, zop26, 0, 0)], [(30, zop153, 0, 14), (33, zop29, 0, 0), (34, zop5, 0, 0), (35, zop112, 0, 0), (36, zop4, 0, 0), (37, zop160, 0, 7), (40, zop4, 0, 0), (41, zop167, 0, 4), (44, zop3, 0, 0), (45, zop184, 0, 56)], [(48, zop132, 3, 1), (51, zop167, 255, 217), (54, zop43, 0, 0), (55, zop176, 0, 0)]] := dQ_of _ _ (by decide +kernel)
theorem dX7_root_0 : decode cX7_root 0 = .ok (.iconst 4, 1) := dTo1_7.1.1
theorem dX7_root_1 : decode cX7_root 1 = .ok (.invokestatic 38, 3) := dTo1_7.1.2.1
theorem dX7_root_4 : decode cX7_root 4 = .ok (.astore_n 1, 1) := dTo1_7.1.2.2.1
theorem dX7_root_5 : decode cX7_root 5 = .ok (.iconst 4, 1) := dTo1_7.1.2.2.2.1
theorem dX7_root_6 : decode cX7_root 6 = .ok (.invokestatic 38, 3) := dTo1_7.1.2.2.2.2.1
theorem dX7_root_9 : decode cX7_root 9 = .ok (.astore_n 2, 1) := dTo1_7.1.2.2.2.2.2.1
theorem dX7_root_10 : decode cX7_root 10 = .ok (.iconst 1, 1) := dTo1_7.1.2.2.2.2.2.2.1
theorem dX7_root_11 : decode cX7_root 11 = .ok (.istore_n 3, 1) := dTo1_7.1.2.2.2.2.2.2.2.1
theorem dX7_root_12 : decode cX7_root 12 = .ok (.aload_n 2, 1) := dTo1_7.1.2.2.2.2.2.2.2.2.1
theorem dX7_root_13 : decode cX7_root 13 = .ok (.invokestatic 60, 3) := dTo1_7.1.2.2.2.2.2.2.2.2.2.1
theorem dX7_root_16 : decode cX7_root 16 = .ok (.ifCond .ne 38, 3) := dTo1_7.2.1.1
theorem dX7_root_19 : decode cX7_root 19 = .ok (.aload_n 2, 1) := dTo1_7.2.1.2.1
theorem dX7_root_20 : decode cX7_root 20 = .ok (.iconst 4, 1) := dTo1_7.2.1.2.2.1
theorem dX7_root_21 : decode cX7_root 21 = .ok (.iload_n 3, 1) := dTo1_7.2.1.2.2.2.1
theorem dX7_root_22 : decode cX7_root 22 = .ok (.imul, 1) := dTo1_7.2.1.2.2.2.2.1
theorem dX7_root_23 : decode cX7_root 23 = .ok (.aload_n 2, 1) := dTo1_7.2.1.2.2.2.2.2.1
theorem dX7_root_24 : decode cX7_root 24 = .ok (.invokestatic 64, 3) := dTo1_7.2.1.2.2.2.2.2.2.1
theorem dX7_root_27 : decode cX7_root 27 = .ok (.aload_n 1, 1) := dTo1_7.2.1.2.2.2.2.2.2.2.1
theorem dX7_root_28 : decode cX7_root 28 = .ok (.aload_n 2, 1) := dTo1_7.2.1.2.2.2.2.2.2.2.2.1
theorem dX7_root_29 : decode cX7_root 29 = .ok (.iload_n 0, 1) := dTo1_7.2.1.2.2.2.2.2.2.2.2.2.1
theorem dX7_root_30 : decode cX7_root 30 = .ok (.ifCond .eq 14, 3) := dTo1_7.2.2.1.1
theorem dX7_root_33 : decode cX7_root 33 = .ok (.iload_n 3, 1) := dTo1_7.2.2.1.2.1
theorem dX7_root_34 : decode cX7_root 34 = .ok (.iconst 2, 1) := dTo1_7.2.2.1.2.2.1
theorem dX7_root_35 : decode cX7_root 35 = .ok (.irem, 1) := dTo1_7.2.2.1.2.2.2.1
theorem dX7_root_36 : decode cX7_root 36 = .ok (.iconst 1, 1) := dTo1_7.2.2.1.2.2.2.2.1
theorem dX7_root_37 : decode cX7_root 37 = .ok (.if_icmp .ne 7, 3) := dTo1_7.2.2.1.2.2.2.2.2.1
theorem dX7_root_40 : decode cX7_root 40 = .ok (.iconst 1, 1) := dTo1_7.2.2.1.2.2.2.2.2.2.1
theorem dX7_root_41 : decode cX7_root 41 = .ok (.goto 4, 3) := dTo1_7.2.2.1.2.2.2.2.2.2.2.1
theorem dX7_root_44 : decode cX7_root 44 = .ok (.iconst 0, 1) := dTo1_7.2.2.1.2.2.2.2.2.2.2.2.1
theorem dX7_root_45 : decode cX7_root 45 = .ok (.invokestatic 56, 3) := dTo1_7.2.2.1.2.2.2.2.2.2.2.2.2.1
theorem dX7_root_48 : decode cX7_root 48 = .ok (.iinc 3 1, 3) := dTo1_7.2.2.2.1.1
theorem dX7_root_51 : decode cX7_root 51 = .ok (.goto (-39), 3) := dTo1_7.2.2.2.1.2.1
theorem dX7_root_54 : decode cX7_root 54 = .ok (.aload_n 1, 1) := dTo1_7.2.2.2.1.2.2.1
theorem dX7_root_55 : decode cX7_root 55 = .ok (.areturn, 1) := dTo1_7.2.2.2.1.2.2.2.1
theorem dX7_ratioLog_14 : decode cX7_ratioLog 14 = .ok (.newarray .int, 2) := by decide +kernel
theorem dX7_ratioLog_20 : decode cX7_ratioLog 20 = .ok (.newarray .int, 2) := by decide +kernel
theorem dTo1_8 : dQ cX7_ratioLog [[(0, zop26, 0, 0), (1, zop184, 0, 68), (4, zop61, 0, 0), (5, zop7, 0, 0), (6, zop28, 0, 0), (7, zop104, 0, 0), (8, zop184, 0, 38), (11, zop78, 0, 0), (12, zop16, 11, 0), (16, zop58, 4, 0)], [(18, zop16, 11, 0), (22, zop58, 5, 0), (24, zop45, 0, 0), (25, zop27, 0, 0), (26, zop45, 0, 0), (27, zop184, 0, 64), (30, zop4, 0, 0), (31, zop54, 6, 0), (33, zop45, 0, 0), (34, zop184, 0, 60)], [(37, zop154, 0, 48), (40, zop45, 0, 0), (41, zop21, 6, 0), (43, zop25, 4, 0), (45, zop184, 0, 64), (48, zop25, 5, 0), (50, zop25, 4, 0), (52, zop26, 0, 0), (53, zop156, 0, 7), (56, zop4, 0, 0)], [(57, zop167, 0, 4), (60, zop3, 0, 0), (61, zop184, 0, 56), (64, zop45, 0, 0), (65, zop28, 0, 0), (66, zop28, 0, 0), (67, zop104, 0, 0), (68, zop184, 0, 74), (71, zop45, 0, 0), (72, zop27, 0, 0)], [(73, zop27, 0, 0), (74, zop104, 0, 0), (75, zop45, 0, 0), (76, zop184, 0, 64), (79, zop132, 6, 2), (82, zop167, 255, 207), (85, zop25, 5, 0), (87, zop25, 5, 0), (89, zop3, 0, 0), (90, zop184, 0, 56)], [(93, zop25, 5, 0), (95, zop176, 0, 0)]] := dQ_of _ _ (by decide +kernel)
theorem dX7_ratioLog_0 : decode cX7_ratioLog 0 = .ok (.iload_n 0, 1) := dTo1_8.1.1
theorem dX7_ratioLog_1 : decode cX7_ratioLog 1 = .ok (.invokestatic 68, 3) := dTo1_8.1.2.1
theorem dX7_ratioLog_4 : decode cX7_ratioLog 4 = .ok (.istore_n 2, 1) := dTo1_8.1.2.2.1
theorem dX7_ratioLog_5 : decode cX7_ratioLog 5 = .ok (.iconst 4, 1) := dTo1_8.1.2.2.2.1
theorem dX7_ratioLog_6 : decode cX7_ratioLog 6 = .ok (.iload_n 2, 1) := dTo1_8.1.2.2.2.2.1
theorem dX7_ratioLog_7 : decode cX7_ratioLog 7 = .ok (.imul, 1) := dTo1_8.1.2.2.2.2.2.1
theorem dX7_ratioLog_8 : decode cX7_ratioLog 8 = .ok (.invokestatic 38, 3) := dTo1_8.1.2.2.2.2.2.2.1
theorem dX7_ratioLog_11 : decode cX7_ratioLog 11 = .ok (.astore_n 3, 1) := dTo1_8.1.2.2.2.2.2.2.2.1
theorem dX7_ratioLog_12 : decode cX7_ratioLog 12 = .ok (.bipush 11, 2) := dTo1_8.1.2.2.2.2.2.2.2.2.1
theorem dX7_ratioLog_16 : decode cX7_ratioLog 16 = .ok (.astore 4, 2) := dTo1_8.1.2.2.2.2.2.2.2.2.2.1
theorem dX7_ratioLog_18 : decode cX7_ratioLog 18 = .ok (.bipush 11, 2) := dTo1_8.2.1.1
theorem dX7_ratioLog_22 : decode cX7_ratioLog 22 = .ok (.astore 5, 2) := dTo1_8.2.1.2.1
theorem dX7_ratioLog_24 : decode cX7_ratioLog 24 = .ok (.aload_n 3, 1) := dTo1_8.2.1.2.2.1
theorem dX7_ratioLog_25 : decode cX7_ratioLog 25 = .ok (.iload_n 1, 1) := dTo1_8.2.1.2.2.2.1
theorem dX7_ratioLog_26 : decode cX7_ratioLog 26 = .ok (.aload_n 3, 1) := dTo1_8.2.1.2.2.2.2.1
theorem dX7_ratioLog_27 : decode cX7_ratioLog 27 = .ok (.invokestatic 64, 3) := dTo1_8.2.1.2.2.2.2.2.1
theorem dX7_ratioLog_30 : decode cX7_ratioLog 30 = .ok (.iconst 1, 1) := dTo1_8.2.1.2.2.2.2.2.2.1
theorem dX7_ratioLog_31 : decode cX7_ratioLog 31 = .ok (.istore 6, 2) := dTo1_8.2.1.2.2.2.2.2.2.2.1
theorem dX7_ratioLog_33 : decode cX7_ratioLog 33 = .ok (.aload_n 3, 1) := dTo1_8.2.1.2.2.2.2.2.2.2.2.1
theorem dX7_ratioLog_34 : decode cX7_ratioLog 34 = .ok (.invokestatic 60, 3) := dTo1_8.2.1.2.2.2.2.2.2.2.2.2.1
theorem dX7_ratioLog_37 : decode cX7_ratioLog 37 = .ok (.ifCond .ne 48, 3) := dTo1_8.2.2.1.1
theorem dX7_ratioLog_40 : decode cX7_ratioLog 40 = .ok (.aload_n 3, 1) := dTo1_8.2.2.1.2.1
theorem dX7_ratioLog_41 : decode cX7_ratioLog 41 = .ok (.iload 6, 2) := dTo1_8.2.2.1.2.2.1
theorem dX7_ratioLog_43 : decode cX7_ratioLog 43 = .ok (.aload 4, 2) := dTo1_8.2.2.1.2.2.2.1
theorem dX7_ratioLog_45 : decode cX7_ratioLog 45 = .ok (.invokestatic 64, 3) := dTo1_8.2.2.1.2.2.2.2.1
theorem dX7_ratioLog_48 : decode cX7_ratioLog 48 = .ok (.aload 5, 2) := dTo1_8.2.2.1.2.2.2.2.2.1
theorem dX7_ratioLog_50 : decode cX7_ratioLog 50 = .ok (.aload 4, 2) := dTo1_8.2.2.1.2.2.2.2.2.2.1
theorem dX7_ratioLog_52 : decode cX7_ratioLog 52 = .ok (.iload_n 0, 1) := dTo1_8.2.2.1.2.2.2.2.2.2.2.1
theorem dX7_ratioLog_53 : decode cX7_ratioLog 53 = .ok (.ifCond .ge 7, 3) := dTo1_8.2.2.1.2.2.2.2.2.2.2.2.1
theorem dX7_ratioLog_56 : decode cX7_ratioLog 56 = .ok (.iconst 1, 1) := dTo1_8.2.2.1.2.2.2.2.2.2.2.2.2.1
theorem dX7_ratioLog_57 : decode cX7_ratioLog 57 = .ok (.goto 4, 3) := dTo1_8.2.2.2.1.1
theorem dX7_ratioLog_60 : decode cX7_ratioLog 60 = .ok (.iconst 0, 1) := dTo1_8.2.2.2.1.2.1
theorem dX7_ratioLog_61 : decode cX7_ratioLog 61 = .ok (.invokestatic 56, 3) := dTo1_8.2.2.2.1.2.2.1
theorem dX7_ratioLog_64 : decode cX7_ratioLog 64 = .ok (.aload_n 3, 1) := dTo1_8.2.2.2.1.2.2.2.1
theorem dX7_ratioLog_65 : decode cX7_ratioLog 65 = .ok (.iload_n 2, 1) := dTo1_8.2.2.2.1.2.2.2.2.1
theorem dX7_ratioLog_66 : decode cX7_ratioLog 66 = .ok (.iload_n 2, 1) := dTo1_8.2.2.2.1.2.2.2.2.2.1
theorem dX7_ratioLog_67 : decode cX7_ratioLog 67 = .ok (.imul, 1) := dTo1_8.2.2.2.1.2.2.2.2.2.2.1
theorem dX7_ratioLog_68 : decode cX7_ratioLog 68 = .ok (.invokestatic 74, 3) := dTo1_8.2.2.2.1.2.2.2.2.2.2.2.1
theorem dX7_ratioLog_71 : decode cX7_ratioLog 71 = .ok (.aload_n 3, 1) := dTo1_8.2.2.2.1.2.2.2.2.2.2.2.2.1
theorem dX7_ratioLog_72 : decode cX7_ratioLog 72 = .ok (.iload_n 1, 1) := dTo1_8.2.2.2.1.2.2.2.2.2.2.2.2.2.1
theorem dX7_ratioLog_73 : decode cX7_ratioLog 73 = .ok (.iload_n 1, 1) := dTo1_8.2.2.2.2.1.1
theorem dX7_ratioLog_74 : decode cX7_ratioLog 74 = .ok (.imul, 1) := dTo1_8.2.2.2.2.1.2.1
theorem dX7_ratioLog_75 : decode cX7_ratioLog 75 = .ok (.aload_n 3, 1) := dTo1_8.2.2.2.2.1.2.2.1
theorem dX7_ratioLog_76 : decode cX7_ratioLog 76 = .ok (.invokestatic 64, 3) := dTo1_8.2.2.2.2.1.2.2.2.1
theorem dX7_ratioLog_79 : decode cX7_ratioLog 79 = .ok (.iinc 6 2, 3) := dTo1_8.2.2.2.2.1.2.2.2.2.1
theorem dX7_ratioLog_82 : decode cX7_ratioLog 82 = .ok (.goto (-49), 3) := dTo1_8.2.2.2.2.1.2.2.2.2.2.1
theorem dX7_ratioLog_85 : decode cX7_ratioLog 85 = .ok (.aload 5, 2) := dTo1_8.2.2.2.2.1.2.2.2.2.2.2.1
theorem dX7_ratioLog_87 : decode cX7_ratioLog 87 = .ok (.aload 5, 2) := dTo1_8.2.2.2.2.1.2.2.2.2.2.2.2.1
theorem dX7_ratioLog_89 : decode cX7_ratioLog 89 = .ok (.iconst 0, 1) := dTo1_8.2.2.2.2.1.2.2.2.2.2.2.2.2.1
theorem dX7_ratioLog_90 : decode cX7_ratioLog 90 = .ok (.invokestatic 56, 3) := dTo1_8.2.2.2.2.1.2.2.2.2.2.2.2.2.2.1
theorem dX7_ratioLog_93 : decode cX7_ratioLog 93 = .ok (.aload 5, 2) := dTo1_8.2.2.2.2.2.1.1
theorem dX7_ratioLog_95 : decode cX7_ratioLog 95 = .ok (.areturn, 1) := dTo1_8.2.2.2.2.2.1.2.1
theorem dTo1_9 : dQ cX7_logOf [[(0, zop42, 0, 0), (1, zop180, 0, 15), (4, zop27, 0, 0), (5, zop6, 0, 0), (6, zop96, 0, 0), (7, zop50, 0, 0), (8, zop199, 0, 92), (11, zop7, 0, 0), (12, zop27, 0, 0), (13, zop96, 0, 0)], [(14, zop61, 0, 0), (15, zop3, 0, 0), (16, zop62, 0, 0), (17, zop6, 0, 0), (18, zop28, 0, 0), (19, zop104, 0, 0), (20, zop7, 0, 0), (21, zop29, 0, 0), (22, zop120, 0, 0), (23, zop164, 0, 9)], [(26, zop132, 3, 1), (29, zop167, 255, 244), (32, zop4, 0, 0), (33, zop29, 0, 0), (34, zop120, 0, 0), (35, zop54, 4, 0), (37, zop42, 0, 0), (38, zop180, 0, 15), (41, zop27, 0, 0), (42, zop6, 0, 0)], [(43, zop96, 0, 0), (44, zop28, 0, 0), (45, zop21, 4, 0), (47, zop100, 0, 0), (48, zop28, 0, 0), (49, zop21, 4, 0), (51, zop96, 0, 0), (52, zop184, 0, 18), (55, zop83, 0, 0), (56, zop29, 0, 0)], [(57, zop5, 0, 0), (58, zop100, 0, 0), (59, zop184, 0, 68), (62, zop54, 5, 0), (64, zop21, 5, 0), (66, zop158, 0, 34), (69, zop42, 0, 0), (70, zop180, 0, 15), (73, zop27, 0, 0), (74, zop6, 0, 0)], [(75, zop96, 0, 0), (76, zop50, 0, 0), (77, zop42, 0, 0), (78, zop180, 0, 22), (81, zop29, 0, 0), (82, zop5, 0, 0), (83, zop162, 0, 7), (86, zop4, 0, 0), (87, zop167, 0, 4), (90, zop3, 0, 0)]] := dQ_of _ _ (by decide +kernel)
theorem dX7_logOf_0 : decode cX7_logOf 0 = .ok (.aload_n 0, 1) := dTo1_9.1.1
theorem dX7_logOf_1 : decode cX7_logOf 1 = .ok (.getfield 15, 3) := dTo1_9.1.2.1
theorem dX7_logOf_4 : decode cX7_logOf 4 = .ok (.iload_n 1, 1) := dTo1_9.1.2.2.1
theorem dX7_logOf_5 : decode cX7_logOf 5 = .ok (.iconst 3, 1) := dTo1_9.1.2.2.2.1
theorem dX7_logOf_6 : decode cX7_logOf 6 = .ok (.iadd, 1) := dTo1_9.1.2.2.2.2.1
theorem dX7_logOf_7 : decode cX7_logOf 7 = .ok (.aaload, 1) := dTo1_9.1.2.2.2.2.2.1
theorem dX7_logOf_8 : decode cX7_logOf 8 = .ok (.ifnonnull 92, 3) := dTo1_9.1.2.2.2.2.2.2.1
theorem dX7_logOf_11 : decode cX7_logOf 11 = .ok (.iconst 4, 1) := dTo1_9.1.2.2.2.2.2.2.2.1
theorem dX7_logOf_12 : decode cX7_logOf 12 = .ok (.iload_n 1, 1) := dTo1_9.1.2.2.2.2.2.2.2.2.1
theorem dX7_logOf_13 : decode cX7_logOf 13 = .ok (.iadd, 1) := dTo1_9.1.2.2.2.2.2.2.2.2.2.1
theorem dX7_logOf_14 : decode cX7_logOf 14 = .ok (.istore_n 2, 1) := dTo1_9.2.1.1
theorem dX7_logOf_15 : decode cX7_logOf 15 = .ok (.iconst 0, 1) := dTo1_9.2.1.2.1
theorem dX7_logOf_16 : decode cX7_logOf 16 = .ok (.istore_n 3, 1) := dTo1_9.2.1.2.2.1
theorem dX7_logOf_17 : decode cX7_logOf 17 = .ok (.iconst 3, 1) := dTo1_9.2.1.2.2.2.1
theorem dX7_logOf_18 : decode cX7_logOf 18 = .ok (.iload_n 2, 1) := dTo1_9.2.1.2.2.2.2.1
theorem dX7_logOf_19 : decode cX7_logOf 19 = .ok (.imul, 1) := dTo1_9.2.1.2.2.2.2.2.1
theorem dX7_logOf_20 : decode cX7_logOf 20 = .ok (.iconst 4, 1) := dTo1_9.2.1.2.2.2.2.2.2.1
theorem dX7_logOf_21 : decode cX7_logOf 21 = .ok (.iload_n 3, 1) := dTo1_9.2.1.2.2.2.2.2.2.2.1
theorem dX7_logOf_22 : decode cX7_logOf 22 = .ok (.ishl, 1) := dTo1_9.2.1.2.2.2.2.2.2.2.2.1
theorem dX7_logOf_23 : decode cX7_logOf 23 = .ok (.if_icmp .le 9, 3) := dTo1_9.2.1.2.2.2.2.2.2.2.2.2.1
theorem dX7_logOf_26 : decode cX7_logOf 26 = .ok (.iinc 3 1, 3) := dTo1_9.2.2.1.1
theorem dX7_logOf_29 : decode cX7_logOf 29 = .ok (.goto (-12), 3) := dTo1_9.2.2.1.2.1
theorem dX7_logOf_32 : decode cX7_logOf 32 = .ok (.iconst 1, 1) := dTo1_9.2.2.1.2.2.1
theorem dX7_logOf_33 : decode cX7_logOf 33 = .ok (.iload_n 3, 1) := dTo1_9.2.2.1.2.2.2.1
theorem dX7_logOf_34 : decode cX7_logOf 34 = .ok (.ishl, 1) := dTo1_9.2.2.1.2.2.2.2.1
theorem dX7_logOf_35 : decode cX7_logOf 35 = .ok (.istore 4, 2) := dTo1_9.2.2.1.2.2.2.2.2.1
theorem dX7_logOf_37 : decode cX7_logOf 37 = .ok (.aload_n 0, 1) := dTo1_9.2.2.1.2.2.2.2.2.2.1
theorem dX7_logOf_38 : decode cX7_logOf 38 = .ok (.getfield 15, 3) := dTo1_9.2.2.1.2.2.2.2.2.2.2.1
theorem dX7_logOf_41 : decode cX7_logOf 41 = .ok (.iload_n 1, 1) := dTo1_9.2.2.1.2.2.2.2.2.2.2.2.1
theorem dX7_logOf_42 : decode cX7_logOf 42 = .ok (.iconst 3, 1) := dTo1_9.2.2.1.2.2.2.2.2.2.2.2.2.1
theorem dX7_logOf_43 : decode cX7_logOf 43 = .ok (.iadd, 1) := dTo1_9.2.2.2.1.1
theorem dX7_logOf_44 : decode cX7_logOf 44 = .ok (.iload_n 2, 1) := dTo1_9.2.2.2.1.2.1
theorem dX7_logOf_45 : decode cX7_logOf 45 = .ok (.iload 4, 2) := dTo1_9.2.2.2.1.2.2.1
theorem dX7_logOf_47 : decode cX7_logOf 47 = .ok (.isub, 1) := dTo1_9.2.2.2.1.2.2.2.1
theorem dX7_logOf_48 : decode cX7_logOf 48 = .ok (.iload_n 2, 1) := dTo1_9.2.2.2.1.2.2.2.2.1
theorem dX7_logOf_49 : decode cX7_logOf 49 = .ok (.iload 4, 2) := dTo1_9.2.2.2.1.2.2.2.2.2.1
theorem dX7_logOf_51 : decode cX7_logOf 51 = .ok (.iadd, 1) := dTo1_9.2.2.2.1.2.2.2.2.2.2.1
theorem dX7_logOf_52 : decode cX7_logOf 52 = .ok (.invokestatic 18, 3) := dTo1_9.2.2.2.1.2.2.2.2.2.2.2.1
theorem dX7_logOf_55 : decode cX7_logOf 55 = .ok (.aastore, 1) := dTo1_9.2.2.2.1.2.2.2.2.2.2.2.2.1
theorem dX7_logOf_56 : decode cX7_logOf 56 = .ok (.iload_n 3, 1) := dTo1_9.2.2.2.1.2.2.2.2.2.2.2.2.2.1
theorem dX7_logOf_57 : decode cX7_logOf 57 = .ok (.iconst 2, 1) := dTo1_9.2.2.2.2.1.1
theorem dX7_logOf_58 : decode cX7_logOf 58 = .ok (.isub, 1) := dTo1_9.2.2.2.2.1.2.1
theorem dX7_logOf_59 : decode cX7_logOf 59 = .ok (.invokestatic 68, 3) := dTo1_9.2.2.2.2.1.2.2.1
theorem dX7_logOf_62 : decode cX7_logOf 62 = .ok (.istore 5, 2) := dTo1_9.2.2.2.2.1.2.2.2.1
theorem dX7_logOf_64 : decode cX7_logOf 64 = .ok (.iload 5, 2) := dTo1_9.2.2.2.2.1.2.2.2.2.1
theorem dX7_logOf_66 : decode cX7_logOf 66 = .ok (.ifCond .le 34, 3) := dTo1_9.2.2.2.2.1.2.2.2.2.2.1
theorem dX7_logOf_69 : decode cX7_logOf 69 = .ok (.aload_n 0, 1) := dTo1_9.2.2.2.2.1.2.2.2.2.2.2.1
theorem dX7_logOf_70 : decode cX7_logOf 70 = .ok (.getfield 15, 3) := dTo1_9.2.2.2.2.1.2.2.2.2.2.2.2.1
theorem dX7_logOf_73 : decode cX7_logOf 73 = .ok (.iload_n 1, 1) := dTo1_9.2.2.2.2.1.2.2.2.2.2.2.2.2.1
theorem dX7_logOf_74 : decode cX7_logOf 74 = .ok (.iconst 3, 1) := dTo1_9.2.2.2.2.1.2.2.2.2.2.2.2.2.2.1
theorem dX7_logOf_75 : decode cX7_logOf 75 = .ok (.iadd, 1) := dTo1_9.2.2.2.2.2.1.1
theorem dX7_logOf_76 : decode cX7_logOf 76 = .ok (.aaload, 1) := dTo1_9.2.2.2.2.2.1.2.1
theorem dX7_logOf_77 : decode cX7_logOf 77 = .ok (.aload_n 0, 1) := dTo1_9.2.2.2.2.2.1.2.2.1
theorem dX7_logOf_78 : decode cX7_logOf 78 = .ok (.getfield 22, 3) := dTo1_9.2.2.2.2.2.1.2.2.2.1
theorem dX7_logOf_81 : decode cX7_logOf 81 = .ok (.iload_n 3, 1) := dTo1_9.2.2.2.2.2.1.2.2.2.2.1
theorem dX7_logOf_82 : decode cX7_logOf 82 = .ok (.iconst 2, 1) := dTo1_9.2.2.2.2.2.1.2.2.2.2.2.1
theorem dX7_logOf_83 : decode cX7_logOf 83 = .ok (.if_icmp .ge 7, 3) := dTo1_9.2.2.2.2.2.1.2.2.2.2.2.2.1
theorem dX7_logOf_86 : decode cX7_logOf 86 = .ok (.iconst 1, 1) := dTo1_9.2.2.2.2.2.1.2.2.2.2.2.2.2.1
theorem dX7_logOf_87 : decode cX7_logOf 87 = .ok (.goto 4, 3) := dTo1_9.2.2.2.2.2.1.2.2.2.2.2.2.2.2.1
theorem dX7_logOf_90 : decode cX7_logOf 90 = .ok (.iconst 0, 1) := dTo1_9.2.2.2.2.2.1.2.2.2.2.2.2.2.2.2.1
theorem dTo1_10 : dQ cX7_logOf [[(91, zop184, 0, 56), (94, zop132, 5, 255), (97, zop167, 255, 223), (100, zop42, 0, 0), (101, zop180, 0, 15), (104, zop27, 0, 0), (105, zop6, 0, 0), (106, zop96, 0, 0), (107, zop50, 0, 0), (108, zop176, 0, 0)]] := dQ_of _ _ (by decide +kernel)
theorem dX7_logOf_91 : decode cX7_logOf 91 = .ok (.invokestatic 56, 3) := dTo1_10.1.1
theorem dX7_logOf_94 : decode cX7_logOf 94 = .ok (.iinc 5 (-1), 3) := dTo1_10.1.2.1
theorem dX7_logOf_97 : decode cX7_logOf 97 = .ok (.goto (-33), 3) := dTo1_10.1.2.2.1
theorem dX7_logOf_100 : decode cX7_logOf 100 = .ok (.aload_n 0, 1) := dTo1_10.1.2.2.2.1
theorem dX7_logOf_101 : decode cX7_logOf 101 = .ok (.getfield 15, 3) := dTo1_10.1.2.2.2.2.1
theorem dX7_logOf_104 : decode cX7_logOf 104 = .ok (.iload_n 1, 1) := dTo1_10.1.2.2.2.2.2.1
theorem dX7_logOf_105 : decode cX7_logOf 105 = .ok (.iconst 3, 1) := dTo1_10.1.2.2.2.2.2.2.1
theorem dX7_logOf_106 : decode cX7_logOf 106 = .ok (.iadd, 1) := dTo1_10.1.2.2.2.2.2.2.2.1
theorem dX7_logOf_107 : decode cX7_logOf 107 = .ok (.aaload, 1) := dTo1_10.1.2.2.2.2.2.2.2.2.1
theorem dX7_logOf_108 : decode cX7_logOf 108 = .ok (.areturn, 1) := dTo1_10.1.2.2.2.2.2.2.2.2.2.1
theorem dX7_placed_2 : decode cX7_placed 2 = .ok (.newarray .int, 2) := by decide +kernel
theorem dTo1_11 : dQ cX7_placed [[(0, zop16, 11, 0), (4, zop77, 0, 0), (5, zop26, 0, 0), (6, zop133, 0, 0), (7, zop27, 0, 0), (8, zop16, 32, 0), (10, zop112, 0, 0), (11, zop121, 0, 0), (12, zop66, 0, 0), (13, zop27, 0, 0)], [(14, zop16, 32, 0), (16, zop108, 0, 0), (17, zop54, 5, 0), (19, zop21, 5, 0), (21, zop16, 11, 0), (23, zop162, 0, 20), (26, zop44, 0, 0), (27, zop21, 5, 0), (29, zop33, 0, 0), (30, zop136, 0, 0)], [(31, zop79, 0, 0), (32, zop33, 0, 0), (33, zop16, 32, 0), (35, zop123, 0, 0), (36, zop66, 0, 0), (37, zop132, 5, 1), (40, zop167, 255, 235), (43, zop44, 0, 0), (44, zop176, 0, 0)]] := dQ_of _ _ (by decide +kernel)
theorem dX7_placed_0 : decode cX7_placed 0 = .ok (.bipush 11, 2) := dTo1_11.1.1
theorem dX7_placed_4 : decode cX7_placed 4 = .ok (.astore_n 2, 1) := dTo1_11.1.2.1
theorem dX7_placed_5 : decode cX7_placed 5 = .ok (.iload_n 0, 1) := dTo1_11.1.2.2.1
theorem dX7_placed_6 : decode cX7_placed 6 = .ok (.i2l, 1) := dTo1_11.1.2.2.2.1
theorem dX7_placed_7 : decode cX7_placed 7 = .ok (.iload_n 1, 1) := dTo1_11.1.2.2.2.2.1
theorem dX7_placed_8 : decode cX7_placed 8 = .ok (.bipush 32, 2) := dTo1_11.1.2.2.2.2.2.1
theorem dX7_placed_10 : decode cX7_placed 10 = .ok (.irem, 1) := dTo1_11.1.2.2.2.2.2.2.1
theorem dX7_placed_11 : decode cX7_placed 11 = .ok (.lshl, 1) := dTo1_11.1.2.2.2.2.2.2.2.1
theorem dX7_placed_12 : decode cX7_placed 12 = .ok (.lstore_n 3, 1) := dTo1_11.1.2.2.2.2.2.2.2.2.1
theorem dX7_placed_13 : decode cX7_placed 13 = .ok (.iload_n 1, 1) := dTo1_11.1.2.2.2.2.2.2.2.2.2.1
theorem dX7_placed_14 : decode cX7_placed 14 = .ok (.bipush 32, 2) := dTo1_11.2.1.1
theorem dX7_placed_16 : decode cX7_placed 16 = .ok (.idiv, 1) := dTo1_11.2.1.2.1
theorem dX7_placed_17 : decode cX7_placed 17 = .ok (.istore 5, 2) := dTo1_11.2.1.2.2.1
theorem dX7_placed_19 : decode cX7_placed 19 = .ok (.iload 5, 2) := dTo1_11.2.1.2.2.2.1
theorem dX7_placed_21 : decode cX7_placed 21 = .ok (.bipush 11, 2) := dTo1_11.2.1.2.2.2.2.1
theorem dX7_placed_23 : decode cX7_placed 23 = .ok (.if_icmp .ge 20, 3) := dTo1_11.2.1.2.2.2.2.2.1
theorem dX7_placed_26 : decode cX7_placed 26 = .ok (.aload_n 2, 1) := dTo1_11.2.1.2.2.2.2.2.2.1
theorem dX7_placed_27 : decode cX7_placed 27 = .ok (.iload 5, 2) := dTo1_11.2.1.2.2.2.2.2.2.2.1
theorem dX7_placed_29 : decode cX7_placed 29 = .ok (.lload_n 3, 1) := dTo1_11.2.1.2.2.2.2.2.2.2.2.1
theorem dX7_placed_30 : decode cX7_placed 30 = .ok (.l2i, 1) := dTo1_11.2.1.2.2.2.2.2.2.2.2.2.1
theorem dX7_placed_31 : decode cX7_placed 31 = .ok (.iastore, 1) := dTo1_11.2.2.1.1
theorem dX7_placed_32 : decode cX7_placed 32 = .ok (.lload_n 3, 1) := dTo1_11.2.2.1.2.1
theorem dX7_placed_33 : decode cX7_placed 33 = .ok (.bipush 32, 2) := dTo1_11.2.2.1.2.2.1
theorem dX7_placed_35 : decode cX7_placed 35 = .ok (.lshr, 1) := dTo1_11.2.2.1.2.2.2.1
theorem dX7_placed_36 : decode cX7_placed 36 = .ok (.lstore_n 3, 1) := dTo1_11.2.2.1.2.2.2.2.1
theorem dX7_placed_37 : decode cX7_placed 37 = .ok (.iinc 5 1, 3) := dTo1_11.2.2.1.2.2.2.2.2.1
theorem dX7_placed_40 : decode cX7_placed 40 = .ok (.goto (-21), 3) := dTo1_11.2.2.1.2.2.2.2.2.2.1
theorem dX7_placed_43 : decode cX7_placed 43 = .ok (.aload_n 2, 1) := dTo1_11.2.2.1.2.2.2.2.2.2.2.1
theorem dX7_placed_44 : decode cX7_placed 44 = .ok (.areturn, 1) := dTo1_11.2.2.1.2.2.2.2.2.2.2.2.1
theorem dTo1_12 : dQ cX7_quarterOf [[(0, zop26, 0, 0), (1, zop17, 0, 254), (4, zop184, 0, 78), (7, zop176, 0, 0)]] := dQ_of _ _ (by decide +kernel)
theorem dX7_quarterOf_0 : decode cX7_quarterOf 0 = .ok (.iload_n 0, 1) := dTo1_12.1.1
theorem dX7_quarterOf_1 : decode cX7_quarterOf 1 = .ok (.sipush 254, 3) := dTo1_12.1.2.1
theorem dX7_quarterOf_4 : decode cX7_quarterOf 4 = .ok (.invokestatic 78, 3) := dTo1_12.1.2.2.1
theorem dX7_quarterOf_7 : decode cX7_quarterOf 7 = .ok (.areturn, 1) := dTo1_12.1.2.2.2.1
theorem dX7_trueOf_1 : decode cX7_trueOf 1 = .ok (.tableswitch 78 2 4 #[27, 38, 61], 27) := by decide +kernel
theorem dTo1_13 : dQ cX7_trueOf [[(0, zop27, 0, 0), (28, zop42, 0, 0), (29, zop180, 0, 11), (32, zop28, 0, 0), (33, zop17, 0, 160), (36, zop96, 0, 0), (37, zop50, 0, 0), (38, zop176, 0, 0), (39, zop42, 0, 0), (40, zop180, 0, 11)], [(43, zop28, 0, 0), (44, zop17, 0, 160), (47, zop96, 0, 0), (48, zop50, 0, 0), (49, zop42, 0, 0), (50, zop180, 0, 11), (53, zop17, 0, 160), (56, zop50, 0, 0), (57, zop4, 0, 0), (58, zop184, 0, 81)], [(61, zop176, 0, 0), (62, zop28, 0, 0), (63, zop154, 0, 10), (66, zop3, 0, 0), (67, zop184, 0, 38), (70, zop167, 0, 8), (73, zop42, 0, 0), (74, zop28, 0, 0), (75, zop182, 0, 85), (78, zop176, 0, 0)], [(79, zop28, 0, 0), (80, zop184, 0, 38), (83, zop176, 0, 0)]] := dQ_of _ _ (by decide +kernel)
theorem dX7_trueOf_0 : decode cX7_trueOf 0 = .ok (.iload_n 1, 1) := dTo1_13.1.1
theorem dX7_trueOf_28 : decode cX7_trueOf 28 = .ok (.aload_n 0, 1) := dTo1_13.1.2.1
theorem dX7_trueOf_29 : decode cX7_trueOf 29 = .ok (.getfield 11, 3) := dTo1_13.1.2.2.1
theorem dX7_trueOf_32 : decode cX7_trueOf 32 = .ok (.iload_n 2, 1) := dTo1_13.1.2.2.2.1
theorem dX7_trueOf_33 : decode cX7_trueOf 33 = .ok (.sipush 160, 3) := dTo1_13.1.2.2.2.2.1
theorem dX7_trueOf_36 : decode cX7_trueOf 36 = .ok (.iadd, 1) := dTo1_13.1.2.2.2.2.2.1
theorem dX7_trueOf_37 : decode cX7_trueOf 37 = .ok (.aaload, 1) := dTo1_13.1.2.2.2.2.2.2.1
theorem dX7_trueOf_38 : decode cX7_trueOf 38 = .ok (.areturn, 1) := dTo1_13.1.2.2.2.2.2.2.2.1
theorem dX7_trueOf_39 : decode cX7_trueOf 39 = .ok (.aload_n 0, 1) := dTo1_13.1.2.2.2.2.2.2.2.2.1
theorem dX7_trueOf_40 : decode cX7_trueOf 40 = .ok (.getfield 11, 3) := dTo1_13.1.2.2.2.2.2.2.2.2.2.1
theorem dX7_trueOf_43 : decode cX7_trueOf 43 = .ok (.iload_n 2, 1) := dTo1_13.2.1.1
theorem dX7_trueOf_44 : decode cX7_trueOf 44 = .ok (.sipush 160, 3) := dTo1_13.2.1.2.1
theorem dX7_trueOf_47 : decode cX7_trueOf 47 = .ok (.iadd, 1) := dTo1_13.2.1.2.2.1
theorem dX7_trueOf_48 : decode cX7_trueOf 48 = .ok (.aaload, 1) := dTo1_13.2.1.2.2.2.1
theorem dX7_trueOf_49 : decode cX7_trueOf 49 = .ok (.aload_n 0, 1) := dTo1_13.2.1.2.2.2.2.1
theorem dX7_trueOf_50 : decode cX7_trueOf 50 = .ok (.getfield 11, 3) := dTo1_13.2.1.2.2.2.2.2.1
theorem dX7_trueOf_53 : decode cX7_trueOf 53 = .ok (.sipush 160, 3) := dTo1_13.2.1.2.2.2.2.2.2.1
theorem dX7_trueOf_56 : decode cX7_trueOf 56 = .ok (.aaload, 1) := dTo1_13.2.1.2.2.2.2.2.2.2.1
theorem dX7_trueOf_57 : decode cX7_trueOf 57 = .ok (.iconst 1, 1) := dTo1_13.2.1.2.2.2.2.2.2.2.2.1
theorem dX7_trueOf_58 : decode cX7_trueOf 58 = .ok (.invokestatic 81, 3) := dTo1_13.2.1.2.2.2.2.2.2.2.2.2.1
theorem dX7_trueOf_61 : decode cX7_trueOf 61 = .ok (.areturn, 1) := dTo1_13.2.2.1.1
theorem dX7_trueOf_62 : decode cX7_trueOf 62 = .ok (.iload_n 2, 1) := dTo1_13.2.2.1.2.1
theorem dX7_trueOf_63 : decode cX7_trueOf 63 = .ok (.ifCond .ne 10, 3) := dTo1_13.2.2.1.2.2.1
theorem dX7_trueOf_66 : decode cX7_trueOf 66 = .ok (.iconst 0, 1) := dTo1_13.2.2.1.2.2.2.1
theorem dX7_trueOf_67 : decode cX7_trueOf 67 = .ok (.invokestatic 38, 3) := dTo1_13.2.2.1.2.2.2.2.1
theorem dX7_trueOf_70 : decode cX7_trueOf 70 = .ok (.goto 8, 3) := dTo1_13.2.2.1.2.2.2.2.2.1
theorem dX7_trueOf_73 : decode cX7_trueOf 73 = .ok (.aload_n 0, 1) := dTo1_13.2.2.1.2.2.2.2.2.2.1
theorem dX7_trueOf_74 : decode cX7_trueOf 74 = .ok (.iload_n 2, 1) := dTo1_13.2.2.1.2.2.2.2.2.2.2.1
theorem dX7_trueOf_75 : decode cX7_trueOf 75 = .ok (.invokevirtual 85, 3) := dTo1_13.2.2.1.2.2.2.2.2.2.2.2.1
theorem dX7_trueOf_78 : decode cX7_trueOf 78 = .ok (.areturn, 1) := dTo1_13.2.2.1.2.2.2.2.2.2.2.2.2.1
theorem dX7_trueOf_79 : decode cX7_trueOf 79 = .ok (.iload_n 2, 1) := dTo1_13.2.2.2.1.1
theorem dX7_trueOf_80 : decode cX7_trueOf 80 = .ok (.invokestatic 38, 3) := dTo1_13.2.2.2.1.2.1
theorem dX7_trueOf_83 : decode cX7_trueOf 83 = .ok (.areturn, 1) := dTo1_13.2.2.2.1.2.2.1
theorem dTo1_14 : dQ cX7_trueIn [[(0, zop42, 0, 0), (1, zop27, 0, 0), (2, zop154, 0, 7), (5, zop3, 0, 0), (6, zop167, 0, 6), (9, zop27, 0, 0), (10, zop4, 0, 0), (11, zop96, 0, 0), (12, zop28, 0, 0), (13, zop182, 0, 88)], [(16, zop176, 0, 0)]] := dQ_of _ _ (by decide +kernel)
theorem dX7_trueIn_0 : decode cX7_trueIn 0 = .ok (.aload_n 0, 1) := dTo1_14.1.1
theorem dX7_trueIn_1 : decode cX7_trueIn 1 = .ok (.iload_n 1, 1) := dTo1_14.1.2.1
theorem dX7_trueIn_2 : decode cX7_trueIn 2 = .ok (.ifCond .ne 7, 3) := dTo1_14.1.2.2.1
theorem dX7_trueIn_5 : decode cX7_trueIn 5 = .ok (.iconst 0, 1) := dTo1_14.1.2.2.2.1
theorem dX7_trueIn_6 : decode cX7_trueIn 6 = .ok (.goto 6, 3) := dTo1_14.1.2.2.2.2.1
theorem dX7_trueIn_9 : decode cX7_trueIn 9 = .ok (.iload_n 1, 1) := dTo1_14.1.2.2.2.2.2.1
theorem dX7_trueIn_10 : decode cX7_trueIn 10 = .ok (.iconst 1, 1) := dTo1_14.1.2.2.2.2.2.2.1
theorem dX7_trueIn_11 : decode cX7_trueIn 11 = .ok (.iadd, 1) := dTo1_14.1.2.2.2.2.2.2.2.1
theorem dX7_trueIn_12 : decode cX7_trueIn 12 = .ok (.iload_n 2, 1) := dTo1_14.1.2.2.2.2.2.2.2.2.1
theorem dX7_trueIn_13 : decode cX7_trueIn 13 = .ok (.invokevirtual 88, 3) := dTo1_14.1.2.2.2.2.2.2.2.2.2.1
theorem dX7_trueIn_16 : decode cX7_trueIn 16 = .ok (.areturn, 1) := dTo1_14.2.1.1
theorem dTo1_15 : dQ cX7_compare [[(0, zop16, 10, 0), (2, zop61, 0, 0), (3, zop42, 0, 0), (4, zop28, 0, 0), (5, zop46, 0, 0), (6, zop43, 0, 0), (7, zop28, 0, 0), (8, zop46, 0, 0), (9, zop159, 0, 18), (12, zop42, 0, 0)], [(13, zop28, 0, 0), (14, zop46, 0, 0), (15, zop43, 0, 0), (16, zop28, 0, 0), (17, zop46, 0, 0), (18, zop162, 0, 7), (21, zop2, 0, 0), (22, zop167, 0, 4), (25, zop4, 0, 0), (26, zop172, 0, 0)], [(27, zop28, 0, 0), (28, zop158, 0, 18), (31, zop42, 0, 0), (32, zop28, 0, 0), (33, zop46, 0, 0), (34, zop43, 0, 0), (35, zop28, 0, 0), (36, zop46, 0, 0), (37, zop160, 0, 9), (40, zop132, 2, 255)], [(43, zop167, 255, 240), (46, zop42, 0, 0), (47, zop28, 0, 0), (48, zop46, 0, 0), (49, zop133, 0, 0), (50, zop20, 0, 54), (53, zop127, 0, 0), (54, zop43, 0, 0), (55, zop28, 0, 0), (56, zop46, 0, 0)], [(57, zop133, 0, 0), (58, zop20, 0, 54), (61, zop127, 0, 0), (62, zop184, 0, 91), (65, zop172, 0, 0)]] := dQ_of _ _ (by decide +kernel)
theorem dX7_compare_0 : decode cX7_compare 0 = .ok (.bipush 10, 2) := dTo1_15.1.1
theorem dX7_compare_2 : decode cX7_compare 2 = .ok (.istore_n 2, 1) := dTo1_15.1.2.1
theorem dX7_compare_3 : decode cX7_compare 3 = .ok (.aload_n 0, 1) := dTo1_15.1.2.2.1
theorem dX7_compare_4 : decode cX7_compare 4 = .ok (.iload_n 2, 1) := dTo1_15.1.2.2.2.1
theorem dX7_compare_5 : decode cX7_compare 5 = .ok (.iaload, 1) := dTo1_15.1.2.2.2.2.1
theorem dX7_compare_6 : decode cX7_compare 6 = .ok (.aload_n 1, 1) := dTo1_15.1.2.2.2.2.2.1
theorem dX7_compare_7 : decode cX7_compare 7 = .ok (.iload_n 2, 1) := dTo1_15.1.2.2.2.2.2.2.1
theorem dX7_compare_8 : decode cX7_compare 8 = .ok (.iaload, 1) := dTo1_15.1.2.2.2.2.2.2.2.1
theorem dX7_compare_9 : decode cX7_compare 9 = .ok (.if_icmp .eq 18, 3) := dTo1_15.1.2.2.2.2.2.2.2.2.1
theorem dX7_compare_12 : decode cX7_compare 12 = .ok (.aload_n 0, 1) := dTo1_15.1.2.2.2.2.2.2.2.2.2.1
theorem dX7_compare_13 : decode cX7_compare 13 = .ok (.iload_n 2, 1) := dTo1_15.2.1.1
theorem dX7_compare_14 : decode cX7_compare 14 = .ok (.iaload, 1) := dTo1_15.2.1.2.1
theorem dX7_compare_15 : decode cX7_compare 15 = .ok (.aload_n 1, 1) := dTo1_15.2.1.2.2.1
theorem dX7_compare_16 : decode cX7_compare 16 = .ok (.iload_n 2, 1) := dTo1_15.2.1.2.2.2.1
theorem dX7_compare_17 : decode cX7_compare 17 = .ok (.iaload, 1) := dTo1_15.2.1.2.2.2.2.1
theorem dX7_compare_18 : decode cX7_compare 18 = .ok (.if_icmp .ge 7, 3) := dTo1_15.2.1.2.2.2.2.2.1
theorem dX7_compare_21 : decode cX7_compare 21 = .ok (.iconst (-1), 1) := dTo1_15.2.1.2.2.2.2.2.2.1
theorem dX7_compare_22 : decode cX7_compare 22 = .ok (.goto 4, 3) := dTo1_15.2.1.2.2.2.2.2.2.2.1
theorem dX7_compare_25 : decode cX7_compare 25 = .ok (.iconst 1, 1) := dTo1_15.2.1.2.2.2.2.2.2.2.2.1
theorem dX7_compare_26 : decode cX7_compare 26 = .ok (.ireturn, 1) := dTo1_15.2.1.2.2.2.2.2.2.2.2.2.1
theorem dX7_compare_27 : decode cX7_compare 27 = .ok (.iload_n 2, 1) := dTo1_15.2.2.1.1
theorem dX7_compare_28 : decode cX7_compare 28 = .ok (.ifCond .le 18, 3) := dTo1_15.2.2.1.2.1
theorem dX7_compare_31 : decode cX7_compare 31 = .ok (.aload_n 0, 1) := dTo1_15.2.2.1.2.2.1
theorem dX7_compare_32 : decode cX7_compare 32 = .ok (.iload_n 2, 1) := dTo1_15.2.2.1.2.2.2.1
theorem dX7_compare_33 : decode cX7_compare 33 = .ok (.iaload, 1) := dTo1_15.2.2.1.2.2.2.2.1
theorem dX7_compare_34 : decode cX7_compare 34 = .ok (.aload_n 1, 1) := dTo1_15.2.2.1.2.2.2.2.2.1
theorem dX7_compare_35 : decode cX7_compare 35 = .ok (.iload_n 2, 1) := dTo1_15.2.2.1.2.2.2.2.2.2.1
theorem dX7_compare_36 : decode cX7_compare 36 = .ok (.iaload, 1) := dTo1_15.2.2.1.2.2.2.2.2.2.2.1
theorem dX7_compare_37 : decode cX7_compare 37 = .ok (.if_icmp .ne 9, 3) := dTo1_15.2.2.1.2.2.2.2.2.2.2.2.1
theorem dX7_compare_40 : decode cX7_compare 40 = .ok (.iinc 2 (-1), 3) := dTo1_15.2.2.1.2.2.2.2.2.2.2.2.2.1
theorem dX7_compare_43 : decode cX7_compare 43 = .ok (.goto (-16), 3) := dTo1_15.2.2.2.1.1
theorem dX7_compare_46 : decode cX7_compare 46 = .ok (.aload_n 0, 1) := dTo1_15.2.2.2.1.2.1
theorem dX7_compare_47 : decode cX7_compare 47 = .ok (.iload_n 2, 1) := dTo1_15.2.2.2.1.2.2.1
theorem dX7_compare_48 : decode cX7_compare 48 = .ok (.iaload, 1) := dTo1_15.2.2.2.1.2.2.2.1
theorem dX7_compare_49 : decode cX7_compare 49 = .ok (.i2l, 1) := dTo1_15.2.2.2.1.2.2.2.2.1
theorem dX7_compare_50 : decode cX7_compare 50 = .ok (.ldc2_w 54, 3) := dTo1_15.2.2.2.1.2.2.2.2.2.1
theorem dX7_compare_53 : decode cX7_compare 53 = .ok (.land, 1) := dTo1_15.2.2.2.1.2.2.2.2.2.2.1
theorem dX7_compare_54 : decode cX7_compare 54 = .ok (.aload_n 1, 1) := dTo1_15.2.2.2.1.2.2.2.2.2.2.2.1
theorem dX7_compare_55 : decode cX7_compare 55 = .ok (.iload_n 2, 1) := dTo1_15.2.2.2.1.2.2.2.2.2.2.2.2.1
theorem dX7_compare_56 : decode cX7_compare 56 = .ok (.iaload, 1) := dTo1_15.2.2.2.1.2.2.2.2.2.2.2.2.2.1
theorem dX7_compare_57 : decode cX7_compare 57 = .ok (.i2l, 1) := dTo1_15.2.2.2.2.1.1
theorem dX7_compare_58 : decode cX7_compare 58 = .ok (.ldc2_w 54, 3) := dTo1_15.2.2.2.2.1.2.1
theorem dX7_compare_61 : decode cX7_compare 61 = .ok (.land, 1) := dTo1_15.2.2.2.2.1.2.2.1
theorem dX7_compare_62 : decode cX7_compare 62 = .ok (.invokestatic 91, 3) := dTo1_15.2.2.2.2.1.2.2.2.1
theorem dX7_compare_65 : decode cX7_compare 65 = .ok (.ireturn, 1) := dTo1_15.2.2.2.2.1.2.2.2.2.1
theorem dTo1_16 : dQ cX7_digitAt [[(0, zop27, 0, 0), (1, zop17, 1, 96), (4, zop162, 0, 19), (7, zop42, 0, 0), (8, zop27, 0, 0), (9, zop16, 32, 0), (11, zop108, 0, 0), (12, zop46, 0, 0), (13, zop27, 0, 0), (14, zop16, 32, 0)], [(16, zop112, 0, 0), (17, zop122, 0, 0), (18, zop4, 0, 0), (19, zop126, 0, 0), (20, zop167, 0, 15), (23, zop42, 0, 0), (24, zop16, 10, 0), (26, zop46, 0, 0), (27, zop156, 0, 7), (30, zop4, 0, 0)], [(31, zop167, 0, 4), (34, zop3, 0, 0), (35, zop172, 0, 0)]] := dQ_of _ _ (by decide +kernel)
theorem dX7_digitAt_0 : decode cX7_digitAt 0 = .ok (.iload_n 1, 1) := dTo1_16.1.1
theorem dX7_digitAt_1 : decode cX7_digitAt 1 = .ok (.sipush 352, 3) := dTo1_16.1.2.1
theorem dX7_digitAt_4 : decode cX7_digitAt 4 = .ok (.if_icmp .ge 19, 3) := dTo1_16.1.2.2.1
theorem dX7_digitAt_7 : decode cX7_digitAt 7 = .ok (.aload_n 0, 1) := dTo1_16.1.2.2.2.1
theorem dX7_digitAt_8 : decode cX7_digitAt 8 = .ok (.iload_n 1, 1) := dTo1_16.1.2.2.2.2.1
theorem dX7_digitAt_9 : decode cX7_digitAt 9 = .ok (.bipush 32, 2) := dTo1_16.1.2.2.2.2.2.1
theorem dX7_digitAt_11 : decode cX7_digitAt 11 = .ok (.idiv, 1) := dTo1_16.1.2.2.2.2.2.2.1
theorem dX7_digitAt_12 : decode cX7_digitAt 12 = .ok (.iaload, 1) := dTo1_16.1.2.2.2.2.2.2.2.1
theorem dX7_digitAt_13 : decode cX7_digitAt 13 = .ok (.iload_n 1, 1) := dTo1_16.1.2.2.2.2.2.2.2.2.1
theorem dX7_digitAt_14 : decode cX7_digitAt 14 = .ok (.bipush 32, 2) := dTo1_16.1.2.2.2.2.2.2.2.2.2.1
theorem dX7_digitAt_16 : decode cX7_digitAt 16 = .ok (.irem, 1) := dTo1_16.2.1.1
theorem dX7_digitAt_17 : decode cX7_digitAt 17 = .ok (.ishr, 1) := dTo1_16.2.1.2.1
theorem dX7_digitAt_18 : decode cX7_digitAt 18 = .ok (.iconst 1, 1) := dTo1_16.2.1.2.2.1
theorem dX7_digitAt_19 : decode cX7_digitAt 19 = .ok (.iand, 1) := dTo1_16.2.1.2.2.2.1
theorem dX7_digitAt_20 : decode cX7_digitAt 20 = .ok (.goto 15, 3) := dTo1_16.2.1.2.2.2.2.1
theorem dX7_digitAt_23 : decode cX7_digitAt 23 = .ok (.aload_n 0, 1) := dTo1_16.2.1.2.2.2.2.2.1
theorem dX7_digitAt_24 : decode cX7_digitAt 24 = .ok (.bipush 10, 2) := dTo1_16.2.1.2.2.2.2.2.2.1
theorem dX7_digitAt_26 : decode cX7_digitAt 26 = .ok (.iaload, 1) := dTo1_16.2.1.2.2.2.2.2.2.2.1
theorem dX7_digitAt_27 : decode cX7_digitAt 27 = .ok (.ifCond .ge 7, 3) := dTo1_16.2.1.2.2.2.2.2.2.2.2.1
theorem dX7_digitAt_30 : decode cX7_digitAt 30 = .ok (.iconst 1, 1) := dTo1_16.2.1.2.2.2.2.2.2.2.2.2.1
theorem dX7_digitAt_31 : decode cX7_digitAt 31 = .ok (.goto 4, 3) := dTo1_16.2.2.1.1
theorem dX7_digitAt_34 : decode cX7_digitAt 34 = .ok (.iconst 0, 1) := dTo1_16.2.2.1.2.1
theorem dX7_digitAt_35 : decode cX7_digitAt 35 = .ok (.ireturn, 1) := dTo1_16.2.2.1.2.2.1
theorem dTo1_17 : dQ cX7_digitsFrom [[(0, zop3, 0, 0), (1, zop61, 0, 0), (2, zop16, 31, 0), (4, zop62, 0, 0), (5, zop29, 0, 0), (6, zop155, 0, 21), (9, zop5, 0, 0), (10, zop28, 0, 0), (11, zop104, 0, 0), (12, zop42, 0, 0)], [(13, zop27, 0, 0), (14, zop29, 0, 0), (15, zop96, 0, 0), (16, zop184, 0, 97), (19, zop96, 0, 0), (20, zop61, 0, 0), (21, zop132, 3, 255), (24, zop167, 255, 237), (27, zop28, 0, 0), (28, zop172, 0, 0)]] := dQ_of _ _ (by decide +kernel)
theorem dX7_digitsFrom_0 : decode cX7_digitsFrom 0 = .ok (.iconst 0, 1) := dTo1_17.1.1
theorem dX7_digitsFrom_1 : decode cX7_digitsFrom 1 = .ok (.istore_n 2, 1) := dTo1_17.1.2.1
theorem dX7_digitsFrom_2 : decode cX7_digitsFrom 2 = .ok (.bipush 31, 2) := dTo1_17.1.2.2.1
theorem dX7_digitsFrom_4 : decode cX7_digitsFrom 4 = .ok (.istore_n 3, 1) := dTo1_17.1.2.2.2.1
theorem dX7_digitsFrom_5 : decode cX7_digitsFrom 5 = .ok (.iload_n 3, 1) := dTo1_17.1.2.2.2.2.1
theorem dX7_digitsFrom_6 : decode cX7_digitsFrom 6 = .ok (.ifCond .lt 21, 3) := dTo1_17.1.2.2.2.2.2.1
theorem dX7_digitsFrom_9 : decode cX7_digitsFrom 9 = .ok (.iconst 2, 1) := dTo1_17.1.2.2.2.2.2.2.1
theorem dX7_digitsFrom_10 : decode cX7_digitsFrom 10 = .ok (.iload_n 2, 1) := dTo1_17.1.2.2.2.2.2.2.2.1
theorem dX7_digitsFrom_11 : decode cX7_digitsFrom 11 = .ok (.imul, 1) := dTo1_17.1.2.2.2.2.2.2.2.2.1
theorem dX7_digitsFrom_12 : decode cX7_digitsFrom 12 = .ok (.aload_n 0, 1) := dTo1_17.1.2.2.2.2.2.2.2.2.2.1
theorem dX7_digitsFrom_13 : decode cX7_digitsFrom 13 = .ok (.iload_n 1, 1) := dTo1_17.2.1.1
theorem dX7_digitsFrom_14 : decode cX7_digitsFrom 14 = .ok (.iload_n 3, 1) := dTo1_17.2.1.2.1
theorem dX7_digitsFrom_15 : decode cX7_digitsFrom 15 = .ok (.iadd, 1) := dTo1_17.2.1.2.2.1
theorem dX7_digitsFrom_16 : decode cX7_digitsFrom 16 = .ok (.invokestatic 97, 3) := dTo1_17.2.1.2.2.2.1
theorem dX7_digitsFrom_19 : decode cX7_digitsFrom 19 = .ok (.iadd, 1) := dTo1_17.2.1.2.2.2.2.1
theorem dX7_digitsFrom_20 : decode cX7_digitsFrom 20 = .ok (.istore_n 2, 1) := dTo1_17.2.1.2.2.2.2.2.1
theorem dX7_digitsFrom_21 : decode cX7_digitsFrom 21 = .ok (.iinc 3 (-1), 3) := dTo1_17.2.1.2.2.2.2.2.2.1
theorem dX7_digitsFrom_24 : decode cX7_digitsFrom 24 = .ok (.goto (-19), 3) := dTo1_17.2.1.2.2.2.2.2.2.2.1
theorem dX7_digitsFrom_27 : decode cX7_digitsFrom 27 = .ok (.iload_n 2, 1) := dTo1_17.2.1.2.2.2.2.2.2.2.2.1
theorem dX7_digitsFrom_28 : decode cX7_digitsFrom 28 = .ok (.ireturn, 1) := dTo1_17.2.1.2.2.2.2.2.2.2.2.2.1
theorem dTo1_18 : dQ cX7_isInt [[(0, zop27, 0, 0), (1, zop16, 31, 0), (3, zop96, 0, 0), (4, zop61, 0, 0), (5, zop28, 0, 0), (6, zop17, 1, 96), (9, zop162, 0, 26), (12, zop42, 0, 0), (13, zop28, 0, 0), (14, zop184, 0, 97)], [(17, zop42, 0, 0), (18, zop17, 1, 96), (21, zop184, 0, 97), (24, zop159, 0, 5), (27, zop3, 0, 0), (28, zop172, 0, 0), (29, zop132, 2, 1), (32, zop167, 255, 229), (35, zop4, 0, 0), (36, zop172, 0, 0)]] := dQ_of _ _ (by decide +kernel)
theorem dX7_isInt_0 : decode cX7_isInt 0 = .ok (.iload_n 1, 1) := dTo1_18.1.1
theorem dX7_isInt_1 : decode cX7_isInt 1 = .ok (.bipush 31, 2) := dTo1_18.1.2.1
theorem dX7_isInt_3 : decode cX7_isInt 3 = .ok (.iadd, 1) := dTo1_18.1.2.2.1
theorem dX7_isInt_4 : decode cX7_isInt 4 = .ok (.istore_n 2, 1) := dTo1_18.1.2.2.2.1
theorem dX7_isInt_5 : decode cX7_isInt 5 = .ok (.iload_n 2, 1) := dTo1_18.1.2.2.2.2.1
theorem dX7_isInt_6 : decode cX7_isInt 6 = .ok (.sipush 352, 3) := dTo1_18.1.2.2.2.2.2.1
theorem dX7_isInt_9 : decode cX7_isInt 9 = .ok (.if_icmp .ge 26, 3) := dTo1_18.1.2.2.2.2.2.2.1
theorem dX7_isInt_12 : decode cX7_isInt 12 = .ok (.aload_n 0, 1) := dTo1_18.1.2.2.2.2.2.2.2.1
theorem dX7_isInt_13 : decode cX7_isInt 13 = .ok (.iload_n 2, 1) := dTo1_18.1.2.2.2.2.2.2.2.2.1
theorem dX7_isInt_14 : decode cX7_isInt 14 = .ok (.invokestatic 97, 3) := dTo1_18.1.2.2.2.2.2.2.2.2.2.1
theorem dX7_isInt_17 : decode cX7_isInt 17 = .ok (.aload_n 0, 1) := dTo1_18.2.1.1
theorem dX7_isInt_18 : decode cX7_isInt 18 = .ok (.sipush 352, 3) := dTo1_18.2.1.2.1
theorem dX7_isInt_21 : decode cX7_isInt 21 = .ok (.invokestatic 97, 3) := dTo1_18.2.1.2.2.1
theorem dX7_isInt_24 : decode cX7_isInt 24 = .ok (.if_icmp .eq 5, 3) := dTo1_18.2.1.2.2.2.1
theorem dX7_isInt_27 : decode cX7_isInt 27 = .ok (.iconst 0, 1) := dTo1_18.2.1.2.2.2.2.1
theorem dX7_isInt_28 : decode cX7_isInt 28 = .ok (.ireturn, 1) := dTo1_18.2.1.2.2.2.2.2.1
theorem dX7_isInt_29 : decode cX7_isInt 29 = .ok (.iinc 2 1, 3) := dTo1_18.2.1.2.2.2.2.2.2.1
theorem dX7_isInt_32 : decode cX7_isInt 32 = .ok (.goto (-27), 3) := dTo1_18.2.1.2.2.2.2.2.2.2.1
theorem dX7_isInt_35 : decode cX7_isInt 35 = .ok (.iconst 1, 1) := dTo1_18.2.1.2.2.2.2.2.2.2.2.1
theorem dX7_isInt_36 : decode cX7_isInt 36 = .ok (.ireturn, 1) := dTo1_18.2.1.2.2.2.2.2.2.2.2.2.1
theorem dTo1_19 : dQ cX7_placeOf [[(0, zop17, 1, 95), (3, zop60, 0, 0), (4, zop42, 0, 0), (5, zop27, 0, 0), (6, zop184, 0, 97), (9, zop154, 0, 9), (12, zop132, 1, 255), (15, zop167, 255, 245), (18, zop27, 0, 0), (19, zop172, 0, 0)]] := dQ_of _ _ (by decide +kernel)
theorem dX7_placeOf_0 : decode cX7_placeOf 0 = .ok (.sipush 351, 3) := dTo1_19.1.1
theorem dX7_placeOf_3 : decode cX7_placeOf 3 = .ok (.istore_n 1, 1) := dTo1_19.1.2.1
theorem dX7_placeOf_4 : decode cX7_placeOf 4 = .ok (.aload_n 0, 1) := dTo1_19.1.2.2.1
theorem dX7_placeOf_5 : decode cX7_placeOf 5 = .ok (.iload_n 1, 1) := dTo1_19.1.2.2.2.1
theorem dX7_placeOf_6 : decode cX7_placeOf 6 = .ok (.invokestatic 97, 3) := dTo1_19.1.2.2.2.2.1
theorem dX7_placeOf_9 : decode cX7_placeOf 9 = .ok (.ifCond .ne 9, 3) := dTo1_19.1.2.2.2.2.2.1
theorem dX7_placeOf_12 : decode cX7_placeOf 12 = .ok (.iinc 1 (-1), 3) := dTo1_19.1.2.2.2.2.2.2.1
theorem dX7_placeOf_15 : decode cX7_placeOf 15 = .ok (.goto (-11), 3) := dTo1_19.1.2.2.2.2.2.2.2.1
theorem dX7_placeOf_18 : decode cX7_placeOf 18 = .ok (.iload_n 1, 1) := dTo1_19.1.2.2.2.2.2.2.2.2.1
theorem dX7_placeOf_19 : decode cX7_placeOf 19 = .ok (.ireturn, 1) := dTo1_19.1.2.2.2.2.2.2.2.2.2.1
theorem dTo1_20 : dQ cX7_sizeOf [[(0, zop42, 0, 0), (1, zop16, 10, 0), (3, zop46, 0, 0), (4, zop156, 0, 15), (7, zop3, 0, 0), (8, zop184, 0, 38), (11, zop42, 0, 0), (12, zop4, 0, 0), (13, zop184, 0, 81), (16, zop167, 0, 4)], [(19, zop42, 0, 0), (20, zop176, 0, 0)]] := dQ_of _ _ (by decide +kernel)
theorem dX7_sizeOf_0 : decode cX7_sizeOf 0 = .ok (.aload_n 0, 1) := dTo1_20.1.1
theorem dX7_sizeOf_1 : decode cX7_sizeOf 1 = .ok (.bipush 10, 2) := dTo1_20.1.2.1
theorem dX7_sizeOf_3 : decode cX7_sizeOf 3 = .ok (.iaload, 1) := dTo1_20.1.2.2.1
theorem dX7_sizeOf_4 : decode cX7_sizeOf 4 = .ok (.ifCond .ge 15, 3) := dTo1_20.1.2.2.2.1
theorem dX7_sizeOf_7 : decode cX7_sizeOf 7 = .ok (.iconst 0, 1) := dTo1_20.1.2.2.2.2.1
theorem dX7_sizeOf_8 : decode cX7_sizeOf 8 = .ok (.invokestatic 38, 3) := dTo1_20.1.2.2.2.2.2.1
theorem dX7_sizeOf_11 : decode cX7_sizeOf 11 = .ok (.aload_n 0, 1) := dTo1_20.1.2.2.2.2.2.2.1
theorem dX7_sizeOf_12 : decode cX7_sizeOf 12 = .ok (.iconst 1, 1) := dTo1_20.1.2.2.2.2.2.2.2.1
theorem dX7_sizeOf_13 : decode cX7_sizeOf 13 = .ok (.invokestatic 81, 3) := dTo1_20.1.2.2.2.2.2.2.2.2.1
theorem dX7_sizeOf_16 : decode cX7_sizeOf 16 = .ok (.goto 4, 3) := dTo1_20.1.2.2.2.2.2.2.2.2.2.1
theorem dX7_sizeOf_19 : decode cX7_sizeOf 19 = .ok (.aload_n 0, 1) := dTo1_20.2.1.1
theorem dX7_sizeOf_20 : decode cX7_sizeOf 20 = .ok (.areturn, 1) := dTo1_20.2.1.2.1
theorem dTo1_21 : dQ cX7_orderOf [[(0, zop42, 0, 0), (1, zop180, 0, 28), (4, zop27, 0, 0), (5, zop46, 0, 0), (6, zop4, 0, 0), (7, zop160, 0, 20), (10, zop42, 0, 0), (11, zop180, 0, 34), (14, zop27, 0, 0), (15, zop51, 0, 0)], [(16, zop153, 0, 7), (19, zop2, 0, 0), (20, zop167, 0, 8), (23, zop4, 0, 0), (24, zop167, 0, 4), (27, zop3, 0, 0), (28, zop62, 0, 0), (29, zop42, 0, 0), (30, zop180, 0, 28), (33, zop28, 0, 0)], [(34, zop46, 0, 0), (35, zop4, 0, 0), (36, zop160, 0, 20), (39, zop42, 0, 0), (40, zop180, 0, 34), (43, zop28, 0, 0), (44, zop51, 0, 0), (45, zop153, 0, 7), (48, zop2, 0, 0), (49, zop167, 0, 8)], [(52, zop4, 0, 0), (53, zop167, 0, 4), (56, zop3, 0, 0), (57, zop54, 4, 0), (59, zop29, 0, 0), (60, zop154, 0, 8), (63, zop21, 4, 0), (65, zop153, 0, 10), (68, zop29, 0, 0), (69, zop21, 4, 0)], [(71, zop184, 0, 101), (74, zop172, 0, 0), (75, zop42, 0, 0), (76, zop42, 0, 0), (77, zop180, 0, 28), (80, zop27, 0, 0), (81, zop46, 0, 0), (82, zop42, 0, 0), (83, zop180, 0, 31), (86, zop27, 0, 0)], [(87, zop46, 0, 0), (88, zop182, 0, 88), (91, zop42, 0, 0), (92, zop42, 0, 0), (93, zop180, 0, 28), (96, zop28, 0, 0), (97, zop46, 0, 0), (98, zop42, 0, 0), (99, zop180, 0, 31), (102, zop28, 0, 0)]] := dQ_of _ _ (by decide +kernel)
theorem dX7_orderOf_0 : decode cX7_orderOf 0 = .ok (.aload_n 0, 1) := dTo1_21.1.1
theorem dX7_orderOf_1 : decode cX7_orderOf 1 = .ok (.getfield 28, 3) := dTo1_21.1.2.1
theorem dX7_orderOf_4 : decode cX7_orderOf 4 = .ok (.iload_n 1, 1) := dTo1_21.1.2.2.1
theorem dX7_orderOf_5 : decode cX7_orderOf 5 = .ok (.iaload, 1) := dTo1_21.1.2.2.2.1
theorem dX7_orderOf_6 : decode cX7_orderOf 6 = .ok (.iconst 1, 1) := dTo1_21.1.2.2.2.2.1
theorem dX7_orderOf_7 : decode cX7_orderOf 7 = .ok (.if_icmp .ne 20, 3) := dTo1_21.1.2.2.2.2.2.1
theorem dX7_orderOf_10 : decode cX7_orderOf 10 = .ok (.aload_n 0, 1) := dTo1_21.1.2.2.2.2.2.2.1
theorem dX7_orderOf_11 : decode cX7_orderOf 11 = .ok (.getfield 34, 3) := dTo1_21.1.2.2.2.2.2.2.2.1
theorem dX7_orderOf_14 : decode cX7_orderOf 14 = .ok (.iload_n 1, 1) := dTo1_21.1.2.2.2.2.2.2.2.2.1
theorem dX7_orderOf_15 : decode cX7_orderOf 15 = .ok (.baload, 1) := dTo1_21.1.2.2.2.2.2.2.2.2.2.1
theorem dX7_orderOf_16 : decode cX7_orderOf 16 = .ok (.ifCond .eq 7, 3) := dTo1_21.2.1.1
theorem dX7_orderOf_19 : decode cX7_orderOf 19 = .ok (.iconst (-1), 1) := dTo1_21.2.1.2.1
theorem dX7_orderOf_20 : decode cX7_orderOf 20 = .ok (.goto 8, 3) := dTo1_21.2.1.2.2.1
theorem dX7_orderOf_23 : decode cX7_orderOf 23 = .ok (.iconst 1, 1) := dTo1_21.2.1.2.2.2.1
theorem dX7_orderOf_24 : decode cX7_orderOf 24 = .ok (.goto 4, 3) := dTo1_21.2.1.2.2.2.2.1
theorem dX7_orderOf_27 : decode cX7_orderOf 27 = .ok (.iconst 0, 1) := dTo1_21.2.1.2.2.2.2.2.1
theorem dX7_orderOf_28 : decode cX7_orderOf 28 = .ok (.istore_n 3, 1) := dTo1_21.2.1.2.2.2.2.2.2.1
theorem dX7_orderOf_29 : decode cX7_orderOf 29 = .ok (.aload_n 0, 1) := dTo1_21.2.1.2.2.2.2.2.2.2.1
theorem dX7_orderOf_30 : decode cX7_orderOf 30 = .ok (.getfield 28, 3) := dTo1_21.2.1.2.2.2.2.2.2.2.2.1
theorem dX7_orderOf_33 : decode cX7_orderOf 33 = .ok (.iload_n 2, 1) := dTo1_21.2.1.2.2.2.2.2.2.2.2.2.1
theorem dX7_orderOf_34 : decode cX7_orderOf 34 = .ok (.iaload, 1) := dTo1_21.2.2.1.1
theorem dX7_orderOf_35 : decode cX7_orderOf 35 = .ok (.iconst 1, 1) := dTo1_21.2.2.1.2.1
theorem dX7_orderOf_36 : decode cX7_orderOf 36 = .ok (.if_icmp .ne 20, 3) := dTo1_21.2.2.1.2.2.1
theorem dX7_orderOf_39 : decode cX7_orderOf 39 = .ok (.aload_n 0, 1) := dTo1_21.2.2.1.2.2.2.1
theorem dX7_orderOf_40 : decode cX7_orderOf 40 = .ok (.getfield 34, 3) := dTo1_21.2.2.1.2.2.2.2.1
theorem dX7_orderOf_43 : decode cX7_orderOf 43 = .ok (.iload_n 2, 1) := dTo1_21.2.2.1.2.2.2.2.2.1
theorem dX7_orderOf_44 : decode cX7_orderOf 44 = .ok (.baload, 1) := dTo1_21.2.2.1.2.2.2.2.2.2.1
theorem dX7_orderOf_45 : decode cX7_orderOf 45 = .ok (.ifCond .eq 7, 3) := dTo1_21.2.2.1.2.2.2.2.2.2.2.1
theorem dX7_orderOf_48 : decode cX7_orderOf 48 = .ok (.iconst (-1), 1) := dTo1_21.2.2.1.2.2.2.2.2.2.2.2.1
theorem dX7_orderOf_49 : decode cX7_orderOf 49 = .ok (.goto 8, 3) := dTo1_21.2.2.1.2.2.2.2.2.2.2.2.2.1
theorem dX7_orderOf_52 : decode cX7_orderOf 52 = .ok (.iconst 1, 1) := dTo1_21.2.2.2.1.1
theorem dX7_orderOf_53 : decode cX7_orderOf 53 = .ok (.goto 4, 3) := dTo1_21.2.2.2.1.2.1
theorem dX7_orderOf_56 : decode cX7_orderOf 56 = .ok (.iconst 0, 1) := dTo1_21.2.2.2.1.2.2.1
theorem dX7_orderOf_57 : decode cX7_orderOf 57 = .ok (.istore 4, 2) := dTo1_21.2.2.2.1.2.2.2.1
theorem dX7_orderOf_59 : decode cX7_orderOf 59 = .ok (.iload_n 3, 1) := dTo1_21.2.2.2.1.2.2.2.2.1
theorem dX7_orderOf_60 : decode cX7_orderOf 60 = .ok (.ifCond .ne 8, 3) := dTo1_21.2.2.2.1.2.2.2.2.2.1
theorem dX7_orderOf_63 : decode cX7_orderOf 63 = .ok (.iload 4, 2) := dTo1_21.2.2.2.1.2.2.2.2.2.2.1
theorem dX7_orderOf_65 : decode cX7_orderOf 65 = .ok (.ifCond .eq 10, 3) := dTo1_21.2.2.2.1.2.2.2.2.2.2.2.1
theorem dX7_orderOf_68 : decode cX7_orderOf 68 = .ok (.iload_n 3, 1) := dTo1_21.2.2.2.1.2.2.2.2.2.2.2.2.1
theorem dX7_orderOf_69 : decode cX7_orderOf 69 = .ok (.iload 4, 2) := dTo1_21.2.2.2.1.2.2.2.2.2.2.2.2.2.1
theorem dX7_orderOf_71 : decode cX7_orderOf 71 = .ok (.invokestatic 101, 3) := dTo1_21.2.2.2.2.1.1
theorem dX7_orderOf_74 : decode cX7_orderOf 74 = .ok (.ireturn, 1) := dTo1_21.2.2.2.2.1.2.1
theorem dX7_orderOf_75 : decode cX7_orderOf 75 = .ok (.aload_n 0, 1) := dTo1_21.2.2.2.2.1.2.2.1
theorem dX7_orderOf_76 : decode cX7_orderOf 76 = .ok (.aload_n 0, 1) := dTo1_21.2.2.2.2.1.2.2.2.1
theorem dX7_orderOf_77 : decode cX7_orderOf 77 = .ok (.getfield 28, 3) := dTo1_21.2.2.2.2.1.2.2.2.2.1
theorem dX7_orderOf_80 : decode cX7_orderOf 80 = .ok (.iload_n 1, 1) := dTo1_21.2.2.2.2.1.2.2.2.2.2.1
theorem dX7_orderOf_81 : decode cX7_orderOf 81 = .ok (.iaload, 1) := dTo1_21.2.2.2.2.1.2.2.2.2.2.2.1
theorem dX7_orderOf_82 : decode cX7_orderOf 82 = .ok (.aload_n 0, 1) := dTo1_21.2.2.2.2.1.2.2.2.2.2.2.2.1
theorem dX7_orderOf_83 : decode cX7_orderOf 83 = .ok (.getfield 31, 3) := dTo1_21.2.2.2.2.1.2.2.2.2.2.2.2.2.1
theorem dX7_orderOf_86 : decode cX7_orderOf 86 = .ok (.iload_n 1, 1) := dTo1_21.2.2.2.2.1.2.2.2.2.2.2.2.2.2.1
theorem dX7_orderOf_87 : decode cX7_orderOf 87 = .ok (.iaload, 1) := dTo1_21.2.2.2.2.2.1.1
theorem dX7_orderOf_88 : decode cX7_orderOf 88 = .ok (.invokevirtual 88, 3) := dTo1_21.2.2.2.2.2.1.2.1
theorem dX7_orderOf_91 : decode cX7_orderOf 91 = .ok (.aload_n 0, 1) := dTo1_21.2.2.2.2.2.1.2.2.1
theorem dX7_orderOf_92 : decode cX7_orderOf 92 = .ok (.aload_n 0, 1) := dTo1_21.2.2.2.2.2.1.2.2.2.1
theorem dX7_orderOf_93 : decode cX7_orderOf 93 = .ok (.getfield 28, 3) := dTo1_21.2.2.2.2.2.1.2.2.2.2.1
theorem dX7_orderOf_96 : decode cX7_orderOf 96 = .ok (.iload_n 2, 1) := dTo1_21.2.2.2.2.2.1.2.2.2.2.2.1
theorem dX7_orderOf_97 : decode cX7_orderOf 97 = .ok (.iaload, 1) := dTo1_21.2.2.2.2.2.1.2.2.2.2.2.2.1
theorem dX7_orderOf_98 : decode cX7_orderOf 98 = .ok (.aload_n 0, 1) := dTo1_21.2.2.2.2.2.1.2.2.2.2.2.2.2.1
theorem dX7_orderOf_99 : decode cX7_orderOf 99 = .ok (.getfield 31, 3) := dTo1_21.2.2.2.2.2.1.2.2.2.2.2.2.2.2.1
theorem dX7_orderOf_102 : decode cX7_orderOf 102 = .ok (.iload_n 2, 1) := dTo1_21.2.2.2.2.2.1.2.2.2.2.2.2.2.2.2.1
theorem dTo1_22 : dQ cX7_orderOf [[(103, zop46, 0, 0), (104, zop182, 0, 88), (107, zop184, 0, 106), (110, zop54, 5, 0), (112, zop21, 5, 0), (114, zop154, 0, 34), (117, zop42, 0, 0), (118, zop27, 0, 0), (119, zop182, 0, 109), (122, zop153, 0, 26)], [(125, zop42, 0, 0), (126, zop28, 0, 0), (127, zop182, 0, 109), (130, zop153, 0, 18), (133, zop42, 0, 0), (134, zop180, 0, 34), (137, zop27, 0, 0), (138, zop51, 0, 0), (139, zop42, 0, 0), (140, zop180, 0, 34)], [(143, zop28, 0, 0), (144, zop51, 0, 0), (145, zop160, 0, 6), (148, zop21, 5, 0), (150, zop172, 0, 0), (151, zop42, 0, 0), (152, zop180, 0, 34), (155, zop27, 0, 0), (156, zop51, 0, 0), (157, zop153, 0, 7)], [(160, zop2, 0, 0), (161, zop167, 0, 4), (164, zop4, 0, 0), (165, zop172, 0, 0)]] := dQ_of _ _ (by decide +kernel)
theorem dX7_orderOf_103 : decode cX7_orderOf 103 = .ok (.iaload, 1) := dTo1_22.1.1
theorem dX7_orderOf_104 : decode cX7_orderOf 104 = .ok (.invokevirtual 88, 3) := dTo1_22.1.2.1
theorem dX7_orderOf_107 : decode cX7_orderOf 107 = .ok (.invokestatic 106, 3) := dTo1_22.1.2.2.1
theorem dX7_orderOf_110 : decode cX7_orderOf 110 = .ok (.istore 5, 2) := dTo1_22.1.2.2.2.1
theorem dX7_orderOf_112 : decode cX7_orderOf 112 = .ok (.iload 5, 2) := dTo1_22.1.2.2.2.2.1
theorem dX7_orderOf_114 : decode cX7_orderOf 114 = .ok (.ifCond .ne 34, 3) := dTo1_22.1.2.2.2.2.2.1
theorem dX7_orderOf_117 : decode cX7_orderOf 117 = .ok (.aload_n 0, 1) := dTo1_22.1.2.2.2.2.2.2.1
theorem dX7_orderOf_118 : decode cX7_orderOf 118 = .ok (.iload_n 1, 1) := dTo1_22.1.2.2.2.2.2.2.2.1
theorem dX7_orderOf_119 : decode cX7_orderOf 119 = .ok (.invokevirtual 109, 3) := dTo1_22.1.2.2.2.2.2.2.2.2.1
theorem dX7_orderOf_122 : decode cX7_orderOf 122 = .ok (.ifCond .eq 26, 3) := dTo1_22.1.2.2.2.2.2.2.2.2.2.1
theorem dX7_orderOf_125 : decode cX7_orderOf 125 = .ok (.aload_n 0, 1) := dTo1_22.2.1.1
theorem dX7_orderOf_126 : decode cX7_orderOf 126 = .ok (.iload_n 2, 1) := dTo1_22.2.1.2.1
theorem dX7_orderOf_127 : decode cX7_orderOf 127 = .ok (.invokevirtual 109, 3) := dTo1_22.2.1.2.2.1
theorem dX7_orderOf_130 : decode cX7_orderOf 130 = .ok (.ifCond .eq 18, 3) := dTo1_22.2.1.2.2.2.1
theorem dX7_orderOf_133 : decode cX7_orderOf 133 = .ok (.aload_n 0, 1) := dTo1_22.2.1.2.2.2.2.1
theorem dX7_orderOf_134 : decode cX7_orderOf 134 = .ok (.getfield 34, 3) := dTo1_22.2.1.2.2.2.2.2.1
theorem dX7_orderOf_137 : decode cX7_orderOf 137 = .ok (.iload_n 1, 1) := dTo1_22.2.1.2.2.2.2.2.2.1
theorem dX7_orderOf_138 : decode cX7_orderOf 138 = .ok (.baload, 1) := dTo1_22.2.1.2.2.2.2.2.2.2.1
theorem dX7_orderOf_139 : decode cX7_orderOf 139 = .ok (.aload_n 0, 1) := dTo1_22.2.1.2.2.2.2.2.2.2.2.1
theorem dX7_orderOf_140 : decode cX7_orderOf 140 = .ok (.getfield 34, 3) := dTo1_22.2.1.2.2.2.2.2.2.2.2.2.1
theorem dX7_orderOf_143 : decode cX7_orderOf 143 = .ok (.iload_n 2, 1) := dTo1_22.2.2.1.1
theorem dX7_orderOf_144 : decode cX7_orderOf 144 = .ok (.baload, 1) := dTo1_22.2.2.1.2.1
theorem dX7_orderOf_145 : decode cX7_orderOf 145 = .ok (.if_icmp .ne 6, 3) := dTo1_22.2.2.1.2.2.1
theorem dX7_orderOf_148 : decode cX7_orderOf 148 = .ok (.iload 5, 2) := dTo1_22.2.2.1.2.2.2.1
theorem dX7_orderOf_150 : decode cX7_orderOf 150 = .ok (.ireturn, 1) := dTo1_22.2.2.1.2.2.2.2.1
theorem dX7_orderOf_151 : decode cX7_orderOf 151 = .ok (.aload_n 0, 1) := dTo1_22.2.2.1.2.2.2.2.2.1
theorem dX7_orderOf_152 : decode cX7_orderOf 152 = .ok (.getfield 34, 3) := dTo1_22.2.2.1.2.2.2.2.2.2.1
theorem dX7_orderOf_155 : decode cX7_orderOf 155 = .ok (.iload_n 1, 1) := dTo1_22.2.2.1.2.2.2.2.2.2.2.1
theorem dX7_orderOf_156 : decode cX7_orderOf 156 = .ok (.baload, 1) := dTo1_22.2.2.1.2.2.2.2.2.2.2.2.1
theorem dX7_orderOf_157 : decode cX7_orderOf 157 = .ok (.ifCond .eq 7, 3) := dTo1_22.2.2.1.2.2.2.2.2.2.2.2.2.1
theorem dX7_orderOf_160 : decode cX7_orderOf 160 = .ok (.iconst (-1), 1) := dTo1_22.2.2.2.1.1
theorem dX7_orderOf_161 : decode cX7_orderOf 161 = .ok (.goto 4, 3) := dTo1_22.2.2.2.1.2.1
theorem dX7_orderOf_164 : decode cX7_orderOf 164 = .ok (.iconst 1, 1) := dTo1_22.2.2.2.1.2.2.1
theorem dX7_orderOf_165 : decode cX7_orderOf 165 = .ok (.ireturn, 1) := dTo1_22.2.2.2.1.2.2.2.1
theorem dTo1_23 : dQ cX7_isNought [[(0, zop42, 0, 0), (1, zop180, 0, 28), (4, zop27, 0, 0), (5, zop46, 0, 0), (6, zop154, 0, 16), (9, zop42, 0, 0), (10, zop180, 0, 31), (13, zop27, 0, 0), (14, zop46, 0, 0), (15, zop154, 0, 7)], [(18, zop4, 0, 0), (19, zop167, 0, 4), (22, zop3, 0, 0), (23, zop172, 0, 0)]] := dQ_of _ _ (by decide +kernel)
theorem dX7_isNought_0 : decode cX7_isNought 0 = .ok (.aload_n 0, 1) := dTo1_23.1.1
theorem dX7_isNought_1 : decode cX7_isNought 1 = .ok (.getfield 28, 3) := dTo1_23.1.2.1
theorem dX7_isNought_4 : decode cX7_isNought 4 = .ok (.iload_n 1, 1) := dTo1_23.1.2.2.1
theorem dX7_isNought_5 : decode cX7_isNought 5 = .ok (.iaload, 1) := dTo1_23.1.2.2.2.1
theorem dX7_isNought_6 : decode cX7_isNought 6 = .ok (.ifCond .ne 16, 3) := dTo1_23.1.2.2.2.2.1
theorem dX7_isNought_9 : decode cX7_isNought 9 = .ok (.aload_n 0, 1) := dTo1_23.1.2.2.2.2.2.1
theorem dX7_isNought_10 : decode cX7_isNought 10 = .ok (.getfield 31, 3) := dTo1_23.1.2.2.2.2.2.2.1
theorem dX7_isNought_13 : decode cX7_isNought 13 = .ok (.iload_n 1, 1) := dTo1_23.1.2.2.2.2.2.2.2.1
theorem dX7_isNought_14 : decode cX7_isNought 14 = .ok (.iaload, 1) := dTo1_23.1.2.2.2.2.2.2.2.2.1
theorem dX7_isNought_15 : decode cX7_isNought 15 = .ok (.ifCond .ne 7, 3) := dTo1_23.1.2.2.2.2.2.2.2.2.2.1
theorem dX7_isNought_18 : decode cX7_isNought 18 = .ok (.iconst 1, 1) := dTo1_23.2.1.1
theorem dX7_isNought_19 : decode cX7_isNought 19 = .ok (.goto 4, 3) := dTo1_23.2.1.2.1
theorem dX7_isNought_22 : decode cX7_isNought 22 = .ok (.iconst 0, 1) := dTo1_23.2.1.2.2.1
theorem dX7_isNought_23 : decode cX7_isNought 23 = .ok (.ireturn, 1) := dTo1_23.2.1.2.2.2.1
theorem dTo1_24 : dQ cX7_areAlike [[(0, zop42, 0, 0), (1, zop180, 0, 28), (4, zop27, 0, 0), (5, zop46, 0, 0), (6, zop42, 0, 0), (7, zop180, 0, 28), (10, zop28, 0, 0), (11, zop46, 0, 0), (12, zop160, 0, 37), (15, zop42, 0, 0)], [(16, zop180, 0, 31), (19, zop27, 0, 0), (20, zop46, 0, 0), (21, zop42, 0, 0), (22, zop180, 0, 31), (25, zop28, 0, 0), (26, zop46, 0, 0), (27, zop160, 0, 22), (30, zop42, 0, 0), (31, zop180, 0, 34)], [(34, zop27, 0, 0), (35, zop51, 0, 0), (36, zop42, 0, 0), (37, zop180, 0, 34), (40, zop28, 0, 0), (41, zop51, 0, 0), (42, zop160, 0, 7), (45, zop4, 0, 0), (46, zop167, 0, 4), (49, zop3, 0, 0)], [(50, zop172, 0, 0)]] := dQ_of _ _ (by decide +kernel)
theorem dX7_areAlike_0 : decode cX7_areAlike 0 = .ok (.aload_n 0, 1) := dTo1_24.1.1
theorem dX7_areAlike_1 : decode cX7_areAlike 1 = .ok (.getfield 28, 3) := dTo1_24.1.2.1
theorem dX7_areAlike_4 : decode cX7_areAlike 4 = .ok (.iload_n 1, 1) := dTo1_24.1.2.2.1
theorem dX7_areAlike_5 : decode cX7_areAlike 5 = .ok (.iaload, 1) := dTo1_24.1.2.2.2.1
theorem dX7_areAlike_6 : decode cX7_areAlike 6 = .ok (.aload_n 0, 1) := dTo1_24.1.2.2.2.2.1
theorem dX7_areAlike_7 : decode cX7_areAlike 7 = .ok (.getfield 28, 3) := dTo1_24.1.2.2.2.2.2.1
theorem dX7_areAlike_10 : decode cX7_areAlike 10 = .ok (.iload_n 2, 1) := dTo1_24.1.2.2.2.2.2.2.1
theorem dX7_areAlike_11 : decode cX7_areAlike 11 = .ok (.iaload, 1) := dTo1_24.1.2.2.2.2.2.2.2.1
theorem dX7_areAlike_12 : decode cX7_areAlike 12 = .ok (.if_icmp .ne 37, 3) := dTo1_24.1.2.2.2.2.2.2.2.2.1
theorem dX7_areAlike_15 : decode cX7_areAlike 15 = .ok (.aload_n 0, 1) := dTo1_24.1.2.2.2.2.2.2.2.2.2.1
theorem dX7_areAlike_16 : decode cX7_areAlike 16 = .ok (.getfield 31, 3) := dTo1_24.2.1.1
theorem dX7_areAlike_19 : decode cX7_areAlike 19 = .ok (.iload_n 1, 1) := dTo1_24.2.1.2.1
theorem dX7_areAlike_20 : decode cX7_areAlike 20 = .ok (.iaload, 1) := dTo1_24.2.1.2.2.1
theorem dX7_areAlike_21 : decode cX7_areAlike 21 = .ok (.aload_n 0, 1) := dTo1_24.2.1.2.2.2.1
theorem dX7_areAlike_22 : decode cX7_areAlike 22 = .ok (.getfield 31, 3) := dTo1_24.2.1.2.2.2.2.1
theorem dX7_areAlike_25 : decode cX7_areAlike 25 = .ok (.iload_n 2, 1) := dTo1_24.2.1.2.2.2.2.2.1
theorem dX7_areAlike_26 : decode cX7_areAlike 26 = .ok (.iaload, 1) := dTo1_24.2.1.2.2.2.2.2.2.1
theorem dX7_areAlike_27 : decode cX7_areAlike 27 = .ok (.if_icmp .ne 22, 3) := dTo1_24.2.1.2.2.2.2.2.2.2.1
theorem dX7_areAlike_30 : decode cX7_areAlike 30 = .ok (.aload_n 0, 1) := dTo1_24.2.1.2.2.2.2.2.2.2.2.1
theorem dX7_areAlike_31 : decode cX7_areAlike 31 = .ok (.getfield 34, 3) := dTo1_24.2.1.2.2.2.2.2.2.2.2.2.1
theorem dX7_areAlike_34 : decode cX7_areAlike 34 = .ok (.iload_n 1, 1) := dTo1_24.2.2.1.1
theorem dX7_areAlike_35 : decode cX7_areAlike 35 = .ok (.baload, 1) := dTo1_24.2.2.1.2.1
theorem dX7_areAlike_36 : decode cX7_areAlike 36 = .ok (.aload_n 0, 1) := dTo1_24.2.2.1.2.2.1
theorem dX7_areAlike_37 : decode cX7_areAlike 37 = .ok (.getfield 34, 3) := dTo1_24.2.2.1.2.2.2.1
theorem dX7_areAlike_40 : decode cX7_areAlike 40 = .ok (.iload_n 2, 1) := dTo1_24.2.2.1.2.2.2.2.1
theorem dX7_areAlike_41 : decode cX7_areAlike 41 = .ok (.baload, 1) := dTo1_24.2.2.1.2.2.2.2.2.1
theorem dX7_areAlike_42 : decode cX7_areAlike 42 = .ok (.if_icmp .ne 7, 3) := dTo1_24.2.2.1.2.2.2.2.2.2.1
theorem dX7_areAlike_45 : decode cX7_areAlike 45 = .ok (.iconst 1, 1) := dTo1_24.2.2.1.2.2.2.2.2.2.2.1
theorem dX7_areAlike_46 : decode cX7_areAlike 46 = .ok (.goto 4, 3) := dTo1_24.2.2.1.2.2.2.2.2.2.2.2.1
theorem dX7_areAlike_49 : decode cX7_areAlike 49 = .ok (.iconst 0, 1) := dTo1_24.2.2.1.2.2.2.2.2.2.2.2.2.1
theorem dX7_areAlike_50 : decode cX7_areAlike 50 = .ok (.ireturn, 1) := dTo1_24.2.2.2.1.1
theorem dTo1_25 : dQ cX7_areNear [[(0, zop42, 0, 0), (1, zop180, 0, 28), (4, zop27, 0, 0), (5, zop46, 0, 0), (6, zop154, 0, 17), (9, zop42, 0, 0), (10, zop180, 0, 28), (13, zop28, 0, 0), (14, zop46, 0, 0), (15, zop7, 0, 0)], [(16, zop164, 0, 7), (19, zop4, 0, 0), (20, zop167, 0, 4), (23, zop3, 0, 0), (24, zop62, 0, 0), (25, zop42, 0, 0), (26, zop180, 0, 28), (29, zop28, 0, 0), (30, zop46, 0, 0), (31, zop154, 0, 17)], [(34, zop42, 0, 0), (35, zop180, 0, 28), (38, zop27, 0, 0), (39, zop46, 0, 0), (40, zop7, 0, 0), (41, zop164, 0, 7), (44, zop4, 0, 0), (45, zop167, 0, 4), (48, zop3, 0, 0), (49, zop54, 4, 0)], [(51, zop29, 0, 0), (52, zop154, 0, 8), (55, zop21, 4, 0), (57, zop153, 0, 22), (60, zop42, 0, 0), (61, zop180, 0, 31), (64, zop27, 0, 0), (65, zop46, 0, 0), (66, zop42, 0, 0), (67, zop180, 0, 31)], [(70, zop28, 0, 0), (71, zop46, 0, 0), (72, zop160, 0, 7), (75, zop4, 0, 0), (76, zop167, 0, 4), (79, zop3, 0, 0), (80, zop172, 0, 0)]] := dQ_of _ _ (by decide +kernel)
theorem dX7_areNear_0 : decode cX7_areNear 0 = .ok (.aload_n 0, 1) := dTo1_25.1.1
theorem dX7_areNear_1 : decode cX7_areNear 1 = .ok (.getfield 28, 3) := dTo1_25.1.2.1
theorem dX7_areNear_4 : decode cX7_areNear 4 = .ok (.iload_n 1, 1) := dTo1_25.1.2.2.1
theorem dX7_areNear_5 : decode cX7_areNear 5 = .ok (.iaload, 1) := dTo1_25.1.2.2.2.1
theorem dX7_areNear_6 : decode cX7_areNear 6 = .ok (.ifCond .ne 17, 3) := dTo1_25.1.2.2.2.2.1
theorem dX7_areNear_9 : decode cX7_areNear 9 = .ok (.aload_n 0, 1) := dTo1_25.1.2.2.2.2.2.1
theorem dX7_areNear_10 : decode cX7_areNear 10 = .ok (.getfield 28, 3) := dTo1_25.1.2.2.2.2.2.2.1
theorem dX7_areNear_13 : decode cX7_areNear 13 = .ok (.iload_n 2, 1) := dTo1_25.1.2.2.2.2.2.2.2.1
theorem dX7_areNear_14 : decode cX7_areNear 14 = .ok (.iaload, 1) := dTo1_25.1.2.2.2.2.2.2.2.2.1
theorem dX7_areNear_15 : decode cX7_areNear 15 = .ok (.iconst 4, 1) := dTo1_25.1.2.2.2.2.2.2.2.2.2.1
theorem dX7_areNear_16 : decode cX7_areNear 16 = .ok (.if_icmp .le 7, 3) := dTo1_25.2.1.1
theorem dX7_areNear_19 : decode cX7_areNear 19 = .ok (.iconst 1, 1) := dTo1_25.2.1.2.1
theorem dX7_areNear_20 : decode cX7_areNear 20 = .ok (.goto 4, 3) := dTo1_25.2.1.2.2.1
theorem dX7_areNear_23 : decode cX7_areNear 23 = .ok (.iconst 0, 1) := dTo1_25.2.1.2.2.2.1
theorem dX7_areNear_24 : decode cX7_areNear 24 = .ok (.istore_n 3, 1) := dTo1_25.2.1.2.2.2.2.1
theorem dX7_areNear_25 : decode cX7_areNear 25 = .ok (.aload_n 0, 1) := dTo1_25.2.1.2.2.2.2.2.1
theorem dX7_areNear_26 : decode cX7_areNear 26 = .ok (.getfield 28, 3) := dTo1_25.2.1.2.2.2.2.2.2.1
theorem dX7_areNear_29 : decode cX7_areNear 29 = .ok (.iload_n 2, 1) := dTo1_25.2.1.2.2.2.2.2.2.2.1
theorem dX7_areNear_30 : decode cX7_areNear 30 = .ok (.iaload, 1) := dTo1_25.2.1.2.2.2.2.2.2.2.2.1
theorem dX7_areNear_31 : decode cX7_areNear 31 = .ok (.ifCond .ne 17, 3) := dTo1_25.2.1.2.2.2.2.2.2.2.2.2.1
theorem dX7_areNear_34 : decode cX7_areNear 34 = .ok (.aload_n 0, 1) := dTo1_25.2.2.1.1
theorem dX7_areNear_35 : decode cX7_areNear 35 = .ok (.getfield 28, 3) := dTo1_25.2.2.1.2.1
theorem dX7_areNear_38 : decode cX7_areNear 38 = .ok (.iload_n 1, 1) := dTo1_25.2.2.1.2.2.1
theorem dX7_areNear_39 : decode cX7_areNear 39 = .ok (.iaload, 1) := dTo1_25.2.2.1.2.2.2.1
theorem dX7_areNear_40 : decode cX7_areNear 40 = .ok (.iconst 4, 1) := dTo1_25.2.2.1.2.2.2.2.1
theorem dX7_areNear_41 : decode cX7_areNear 41 = .ok (.if_icmp .le 7, 3) := dTo1_25.2.2.1.2.2.2.2.2.1
theorem dX7_areNear_44 : decode cX7_areNear 44 = .ok (.iconst 1, 1) := dTo1_25.2.2.1.2.2.2.2.2.2.1
theorem dX7_areNear_45 : decode cX7_areNear 45 = .ok (.goto 4, 3) := dTo1_25.2.2.1.2.2.2.2.2.2.2.1
theorem dX7_areNear_48 : decode cX7_areNear 48 = .ok (.iconst 0, 1) := dTo1_25.2.2.1.2.2.2.2.2.2.2.2.1
theorem dX7_areNear_49 : decode cX7_areNear 49 = .ok (.istore 4, 2) := dTo1_25.2.2.1.2.2.2.2.2.2.2.2.2.1
theorem dX7_areNear_51 : decode cX7_areNear 51 = .ok (.iload_n 3, 1) := dTo1_25.2.2.2.1.1
theorem dX7_areNear_52 : decode cX7_areNear 52 = .ok (.ifCond .ne 8, 3) := dTo1_25.2.2.2.1.2.1
theorem dX7_areNear_55 : decode cX7_areNear 55 = .ok (.iload 4, 2) := dTo1_25.2.2.2.1.2.2.1
theorem dX7_areNear_57 : decode cX7_areNear 57 = .ok (.ifCond .eq 22, 3) := dTo1_25.2.2.2.1.2.2.2.1
theorem dX7_areNear_60 : decode cX7_areNear 60 = .ok (.aload_n 0, 1) := dTo1_25.2.2.2.1.2.2.2.2.1
theorem dX7_areNear_61 : decode cX7_areNear 61 = .ok (.getfield 31, 3) := dTo1_25.2.2.2.1.2.2.2.2.2.1
theorem dX7_areNear_64 : decode cX7_areNear 64 = .ok (.iload_n 1, 1) := dTo1_25.2.2.2.1.2.2.2.2.2.2.1
theorem dX7_areNear_65 : decode cX7_areNear 65 = .ok (.iaload, 1) := dTo1_25.2.2.2.1.2.2.2.2.2.2.2.1
theorem dX7_areNear_66 : decode cX7_areNear 66 = .ok (.aload_n 0, 1) := dTo1_25.2.2.2.1.2.2.2.2.2.2.2.2.1
theorem dX7_areNear_67 : decode cX7_areNear 67 = .ok (.getfield 31, 3) := dTo1_25.2.2.2.1.2.2.2.2.2.2.2.2.2.1
theorem dX7_areNear_70 : decode cX7_areNear 70 = .ok (.iload_n 2, 1) := dTo1_25.2.2.2.2.1.1
theorem dX7_areNear_71 : decode cX7_areNear 71 = .ok (.iaload, 1) := dTo1_25.2.2.2.2.1.2.1
theorem dX7_areNear_72 : decode cX7_areNear 72 = .ok (.if_icmp .ne 7, 3) := dTo1_25.2.2.2.2.1.2.2.1
theorem dX7_areNear_75 : decode cX7_areNear 75 = .ok (.iconst 1, 1) := dTo1_25.2.2.2.2.1.2.2.2.1
theorem dX7_areNear_76 : decode cX7_areNear 76 = .ok (.goto 4, 3) := dTo1_25.2.2.2.2.1.2.2.2.2.1
theorem dX7_areNear_79 : decode cX7_areNear 79 = .ok (.iconst 0, 1) := dTo1_25.2.2.2.2.1.2.2.2.2.2.1
theorem dX7_areNear_80 : decode cX7_areNear 80 = .ok (.ireturn, 1) := dTo1_25.2.2.2.2.1.2.2.2.2.2.2.1
theorem dTo1_26 : dQ cX7_isIn [[(0, zop26, 0, 0), (1, zop27, 0, 0), (2, zop161, 0, 12), (5, zop26, 0, 0), (6, zop28, 0, 0), (7, zop163, 0, 7), (10, zop4, 0, 0), (11, zop167, 0, 4), (14, zop3, 0, 0), (15, zop172, 0, 0)]] := dQ_of _ _ (by decide +kernel)
theorem dX7_isIn_0 : decode cX7_isIn 0 = .ok (.iload_n 0, 1) := dTo1_26.1.1
theorem dX7_isIn_1 : decode cX7_isIn 1 = .ok (.iload_n 1, 1) := dTo1_26.1.2.1
theorem dX7_isIn_2 : decode cX7_isIn 2 = .ok (.if_icmp .lt 12, 3) := dTo1_26.1.2.2.1
theorem dX7_isIn_5 : decode cX7_isIn 5 = .ok (.iload_n 0, 1) := dTo1_26.1.2.2.2.1
theorem dX7_isIn_6 : decode cX7_isIn 6 = .ok (.iload_n 2, 1) := dTo1_26.1.2.2.2.2.1
theorem dX7_isIn_7 : decode cX7_isIn 7 = .ok (.if_icmp .gt 7, 3) := dTo1_26.1.2.2.2.2.2.1
theorem dX7_isIn_10 : decode cX7_isIn 10 = .ok (.iconst 1, 1) := dTo1_26.1.2.2.2.2.2.2.1
theorem dX7_isIn_11 : decode cX7_isIn 11 = .ok (.goto 4, 3) := dTo1_26.1.2.2.2.2.2.2.2.1
theorem dX7_isIn_14 : decode cX7_isIn 14 = .ok (.iconst 0, 1) := dTo1_26.1.2.2.2.2.2.2.2.2.1
theorem dX7_isIn_15 : decode cX7_isIn 15 = .ok (.ireturn, 1) := dTo1_26.1.2.2.2.2.2.2.2.2.2.1
theorem dTo1_27 : dQ cX7_isRefused [[(0, zop42, 0, 0), (1, zop27, 0, 0), (2, zop153, 0, 7), (5, zop4, 0, 0), (6, zop167, 0, 12), (9, zop28, 0, 0), (10, zop153, 0, 7), (13, zop5, 0, 0), (14, zop167, 0, 4), (17, zop3, 0, 0)], [(18, zop181, 0, 50), (21, zop42, 0, 0), (22, zop180, 0, 50), (25, zop153, 0, 7), (28, zop4, 0, 0), (29, zop167, 0, 4), (32, zop3, 0, 0), (33, zop172, 0, 0)]] := dQ_of _ _ (by decide +kernel)
theorem dX7_isRefused_0 : decode cX7_isRefused 0 = .ok (.aload_n 0, 1) := dTo1_27.1.1
theorem dX7_isRefused_1 : decode cX7_isRefused 1 = .ok (.iload_n 1, 1) := dTo1_27.1.2.1
theorem dX7_isRefused_2 : decode cX7_isRefused 2 = .ok (.ifCond .eq 7, 3) := dTo1_27.1.2.2.1
theorem dX7_isRefused_5 : decode cX7_isRefused 5 = .ok (.iconst 1, 1) := dTo1_27.1.2.2.2.1
theorem dX7_isRefused_6 : decode cX7_isRefused 6 = .ok (.goto 12, 3) := dTo1_27.1.2.2.2.2.1
theorem dX7_isRefused_9 : decode cX7_isRefused 9 = .ok (.iload_n 2, 1) := dTo1_27.1.2.2.2.2.2.1
theorem dX7_isRefused_10 : decode cX7_isRefused 10 = .ok (.ifCond .eq 7, 3) := dTo1_27.1.2.2.2.2.2.2.1
theorem dX7_isRefused_13 : decode cX7_isRefused 13 = .ok (.iconst 2, 1) := dTo1_27.1.2.2.2.2.2.2.2.1
theorem dX7_isRefused_14 : decode cX7_isRefused 14 = .ok (.goto 4, 3) := dTo1_27.1.2.2.2.2.2.2.2.2.1
theorem dX7_isRefused_17 : decode cX7_isRefused 17 = .ok (.iconst 0, 1) := dTo1_27.1.2.2.2.2.2.2.2.2.2.1
theorem dX7_isRefused_18 : decode cX7_isRefused 18 = .ok (.putfield 50, 3) := dTo1_27.2.1.1
theorem dX7_isRefused_21 : decode cX7_isRefused 21 = .ok (.aload_n 0, 1) := dTo1_27.2.1.2.1
theorem dX7_isRefused_22 : decode cX7_isRefused 22 = .ok (.getfield 50, 3) := dTo1_27.2.1.2.2.1
theorem dX7_isRefused_25 : decode cX7_isRefused 25 = .ok (.ifCond .eq 7, 3) := dTo1_27.2.1.2.2.2.1
theorem dX7_isRefused_28 : decode cX7_isRefused 28 = .ok (.iconst 1, 1) := dTo1_27.2.1.2.2.2.2.1
theorem dX7_isRefused_29 : decode cX7_isRefused 29 = .ok (.goto 4, 3) := dTo1_27.2.1.2.2.2.2.2.1
theorem dX7_isRefused_32 : decode cX7_isRefused 32 = .ok (.iconst 0, 1) := dTo1_27.2.1.2.2.2.2.2.2.1
theorem dX7_isRefused_33 : decode cX7_isRefused 33 = .ok (.ireturn, 1) := dTo1_27.2.1.2.2.2.2.2.2.2.1
theorem dTo1_28 : dQ cX7_isNoCell [[(0, zop26, 0, 0), (1, zop3, 0, 0), (2, zop16, 7, 0), (4, zop184, 0, 113), (7, zop154, 0, 7), (10, zop4, 0, 0), (11, zop167, 0, 4), (14, zop3, 0, 0), (15, zop172, 0, 0)]] := dQ_of _ _ (by decide +kernel)
theorem dX7_isNoCell_0 : decode cX7_isNoCell 0 = .ok (.iload_n 0, 1) := dTo1_28.1.1
theorem dX7_isNoCell_1 : decode cX7_isNoCell 1 = .ok (.iconst 0, 1) := dTo1_28.1.2.1
theorem dX7_isNoCell_2 : decode cX7_isNoCell 2 = .ok (.bipush 7, 2) := dTo1_28.1.2.2.1
theorem dX7_isNoCell_4 : decode cX7_isNoCell 4 = .ok (.invokestatic 113, 3) := dTo1_28.1.2.2.2.1
theorem dX7_isNoCell_7 : decode cX7_isNoCell 7 = .ok (.ifCond .ne 7, 3) := dTo1_28.1.2.2.2.2.1
theorem dX7_isNoCell_10 : decode cX7_isNoCell 10 = .ok (.iconst 1, 1) := dTo1_28.1.2.2.2.2.2.1
theorem dX7_isNoCell_11 : decode cX7_isNoCell 11 = .ok (.goto 4, 3) := dTo1_28.1.2.2.2.2.2.2.1
theorem dX7_isNoCell_14 : decode cX7_isNoCell 14 = .ok (.iconst 0, 1) := dTo1_28.1.2.2.2.2.2.2.2.1
theorem dX7_isNoCell_15 : decode cX7_isNoCell 15 = .ok (.ireturn, 1) := dTo1_28.1.2.2.2.2.2.2.2.2.1
theorem dTo1_29 : dQ cX7_come [[(0, zop42, 0, 0), (1, zop180, 0, 28), (4, zop27, 0, 0), (5, zop46, 0, 0), (6, zop28, 0, 0), (7, zop160, 0, 28), (10, zop42, 0, 0), (11, zop180, 0, 31), (14, zop27, 0, 0), (15, zop46, 0, 0)], [(16, zop29, 0, 0), (17, zop160, 0, 18), (20, zop42, 0, 0), (21, zop180, 0, 34), (24, zop27, 0, 0), (25, zop51, 0, 0), (26, zop21, 4, 0), (28, zop160, 0, 7), (31, zop4, 0, 0), (32, zop167, 0, 4)], [(35, zop3, 0, 0), (36, zop54, 5, 0), (38, zop42, 0, 0), (39, zop180, 0, 28), (42, zop27, 0, 0), (43, zop28, 0, 0), (44, zop79, 0, 0), (45, zop42, 0, 0), (46, zop180, 0, 31), (49, zop27, 0, 0)], [(50, zop29, 0, 0), (51, zop79, 0, 0), (52, zop42, 0, 0), (53, zop180, 0, 34), (56, zop27, 0, 0), (57, zop21, 4, 0), (59, zop84, 0, 0), (60, zop42, 0, 0), (61, zop89, 0, 0), (62, zop180, 0, 117)], [(65, zop4, 0, 0), (66, zop96, 0, 0), (67, zop181, 0, 117), (70, zop21, 5, 0), (72, zop153, 0, 7), (75, zop3, 0, 0), (76, zop167, 0, 4), (79, zop4, 0, 0), (80, zop172, 0, 0)]] := dQ_of _ _ (by decide +kernel)
theorem dX7_come_0 : decode cX7_come 0 = .ok (.aload_n 0, 1) := dTo1_29.1.1
theorem dX7_come_1 : decode cX7_come 1 = .ok (.getfield 28, 3) := dTo1_29.1.2.1
theorem dX7_come_4 : decode cX7_come 4 = .ok (.iload_n 1, 1) := dTo1_29.1.2.2.1
theorem dX7_come_5 : decode cX7_come 5 = .ok (.iaload, 1) := dTo1_29.1.2.2.2.1
theorem dX7_come_6 : decode cX7_come 6 = .ok (.iload_n 2, 1) := dTo1_29.1.2.2.2.2.1
theorem dX7_come_7 : decode cX7_come 7 = .ok (.if_icmp .ne 28, 3) := dTo1_29.1.2.2.2.2.2.1
theorem dX7_come_10 : decode cX7_come 10 = .ok (.aload_n 0, 1) := dTo1_29.1.2.2.2.2.2.2.1
theorem dX7_come_11 : decode cX7_come 11 = .ok (.getfield 31, 3) := dTo1_29.1.2.2.2.2.2.2.2.1
theorem dX7_come_14 : decode cX7_come 14 = .ok (.iload_n 1, 1) := dTo1_29.1.2.2.2.2.2.2.2.2.1
theorem dX7_come_15 : decode cX7_come 15 = .ok (.iaload, 1) := dTo1_29.1.2.2.2.2.2.2.2.2.2.1
theorem dX7_come_16 : decode cX7_come 16 = .ok (.iload_n 3, 1) := dTo1_29.2.1.1
theorem dX7_come_17 : decode cX7_come 17 = .ok (.if_icmp .ne 18, 3) := dTo1_29.2.1.2.1
theorem dX7_come_20 : decode cX7_come 20 = .ok (.aload_n 0, 1) := dTo1_29.2.1.2.2.1
theorem dX7_come_21 : decode cX7_come 21 = .ok (.getfield 34, 3) := dTo1_29.2.1.2.2.2.1
theorem dX7_come_24 : decode cX7_come 24 = .ok (.iload_n 1, 1) := dTo1_29.2.1.2.2.2.2.1
theorem dX7_come_25 : decode cX7_come 25 = .ok (.baload, 1) := dTo1_29.2.1.2.2.2.2.2.1
theorem dX7_come_26 : decode cX7_come 26 = .ok (.iload 4, 2) := dTo1_29.2.1.2.2.2.2.2.2.1
theorem dX7_come_28 : decode cX7_come 28 = .ok (.if_icmp .ne 7, 3) := dTo1_29.2.1.2.2.2.2.2.2.2.1
theorem dX7_come_31 : decode cX7_come 31 = .ok (.iconst 1, 1) := dTo1_29.2.1.2.2.2.2.2.2.2.2.1
theorem dX7_come_32 : decode cX7_come 32 = .ok (.goto 4, 3) := dTo1_29.2.1.2.2.2.2.2.2.2.2.2.1
theorem dX7_come_35 : decode cX7_come 35 = .ok (.iconst 0, 1) := dTo1_29.2.2.1.1
theorem dX7_come_36 : decode cX7_come 36 = .ok (.istore 5, 2) := dTo1_29.2.2.1.2.1
theorem dX7_come_38 : decode cX7_come 38 = .ok (.aload_n 0, 1) := dTo1_29.2.2.1.2.2.1
theorem dX7_come_39 : decode cX7_come 39 = .ok (.getfield 28, 3) := dTo1_29.2.2.1.2.2.2.1
theorem dX7_come_42 : decode cX7_come 42 = .ok (.iload_n 1, 1) := dTo1_29.2.2.1.2.2.2.2.1
theorem dX7_come_43 : decode cX7_come 43 = .ok (.iload_n 2, 1) := dTo1_29.2.2.1.2.2.2.2.2.1
theorem dX7_come_44 : decode cX7_come 44 = .ok (.iastore, 1) := dTo1_29.2.2.1.2.2.2.2.2.2.1
theorem dX7_come_45 : decode cX7_come 45 = .ok (.aload_n 0, 1) := dTo1_29.2.2.1.2.2.2.2.2.2.2.1
theorem dX7_come_46 : decode cX7_come 46 = .ok (.getfield 31, 3) := dTo1_29.2.2.1.2.2.2.2.2.2.2.2.1
theorem dX7_come_49 : decode cX7_come 49 = .ok (.iload_n 1, 1) := dTo1_29.2.2.1.2.2.2.2.2.2.2.2.2.1
theorem dX7_come_50 : decode cX7_come 50 = .ok (.iload_n 3, 1) := dTo1_29.2.2.2.1.1
theorem dX7_come_51 : decode cX7_come 51 = .ok (.iastore, 1) := dTo1_29.2.2.2.1.2.1
theorem dX7_come_52 : decode cX7_come 52 = .ok (.aload_n 0, 1) := dTo1_29.2.2.2.1.2.2.1
theorem dX7_come_53 : decode cX7_come 53 = .ok (.getfield 34, 3) := dTo1_29.2.2.2.1.2.2.2.1
theorem dX7_come_56 : decode cX7_come 56 = .ok (.iload_n 1, 1) := dTo1_29.2.2.2.1.2.2.2.2.1
theorem dX7_come_57 : decode cX7_come 57 = .ok (.iload 4, 2) := dTo1_29.2.2.2.1.2.2.2.2.2.1
theorem dX7_come_59 : decode cX7_come 59 = .ok (.bastore, 1) := dTo1_29.2.2.2.1.2.2.2.2.2.2.1
theorem dX7_come_60 : decode cX7_come 60 = .ok (.aload_n 0, 1) := dTo1_29.2.2.2.1.2.2.2.2.2.2.2.1
theorem dX7_come_61 : decode cX7_come 61 = .ok (.dup, 1) := dTo1_29.2.2.2.1.2.2.2.2.2.2.2.2.1
theorem dX7_come_62 : decode cX7_come 62 = .ok (.getfield 117, 3) := dTo1_29.2.2.2.1.2.2.2.2.2.2.2.2.2.1
theorem dX7_come_65 : decode cX7_come 65 = .ok (.iconst 1, 1) := dTo1_29.2.2.2.2.1.1
theorem dX7_come_66 : decode cX7_come 66 = .ok (.iadd, 1) := dTo1_29.2.2.2.2.1.2.1
theorem dX7_come_67 : decode cX7_come 67 = .ok (.putfield 117, 3) := dTo1_29.2.2.2.2.1.2.2.1
theorem dX7_come_70 : decode cX7_come 70 = .ok (.iload 5, 2) := dTo1_29.2.2.2.2.1.2.2.2.1
theorem dX7_come_72 : decode cX7_come 72 = .ok (.ifCond .eq 7, 3) := dTo1_29.2.2.2.2.1.2.2.2.2.1
theorem dX7_come_75 : decode cX7_come 75 = .ok (.iconst 0, 1) := dTo1_29.2.2.2.2.1.2.2.2.2.2.1
theorem dX7_come_76 : decode cX7_come 76 = .ok (.goto 4, 3) := dTo1_29.2.2.2.2.1.2.2.2.2.2.2.1
theorem dX7_come_79 : decode cX7_come 79 = .ok (.iconst 1, 1) := dTo1_29.2.2.2.2.1.2.2.2.2.2.2.2.1
theorem dX7_come_80 : decode cX7_come 80 = .ok (.ireturn, 1) := dTo1_29.2.2.2.2.1.2.2.2.2.2.2.2.2.1
theorem dTo1_30 : dQ cX7_refused [[(0, zop42, 0, 0), (1, zop89, 0, 0), (2, zop180, 0, 120), (5, zop4, 0, 0), (6, zop96, 0, 0), (7, zop181, 0, 120), (10, zop16, 247, 0), (12, zop172, 0, 0)]] := dQ_of _ _ (by decide +kernel)
theorem dX7_refused_0 : decode cX7_refused 0 = .ok (.aload_n 0, 1) := dTo1_30.1.1
theorem dX7_refused_1 : decode cX7_refused 1 = .ok (.dup, 1) := dTo1_30.1.2.1
theorem dX7_refused_2 : decode cX7_refused 2 = .ok (.getfield 120, 3) := dTo1_30.1.2.2.1
theorem dX7_refused_5 : decode cX7_refused 5 = .ok (.iconst 1, 1) := dTo1_30.1.2.2.2.1
theorem dX7_refused_6 : decode cX7_refused 6 = .ok (.iadd, 1) := dTo1_30.1.2.2.2.2.1
theorem dX7_refused_7 : decode cX7_refused 7 = .ok (.putfield 120, 3) := dTo1_30.1.2.2.2.2.2.1
theorem dX7_refused_10 : decode cX7_refused 10 = .ok (.bipush (-9), 2) := dTo1_30.1.2.2.2.2.2.2.1
theorem dX7_refused_12 : decode cX7_refused 12 = .ok (.ireturn, 1) := dTo1_30.1.2.2.2.2.2.2.2.1
theorem dTo1_31 : dQ cX7_quarter [[(0, zop42, 0, 0), (1, zop27, 0, 0), (2, zop184, 0, 123), (5, zop28, 0, 0), (6, zop17, 255, 96), (9, zop17, 0, 160), (12, zop184, 0, 113), (15, zop154, 0, 7), (18, zop4, 0, 0), (19, zop167, 0, 4)], [(22, zop3, 0, 0), (23, zop182, 0, 126), (26, zop153, 0, 7), (29, zop3, 0, 0), (30, zop167, 0, 11), (33, zop42, 0, 0), (34, zop27, 0, 0), (35, zop3, 0, 0), (36, zop28, 0, 0), (37, zop3, 0, 0)], [(38, zop182, 0, 130), (41, zop172, 0, 0)]] := dQ_of _ _ (by decide +kernel)
theorem dX7_quarter_0 : decode cX7_quarter 0 = .ok (.aload_n 0, 1) := dTo1_31.1.1
theorem dX7_quarter_1 : decode cX7_quarter 1 = .ok (.iload_n 1, 1) := dTo1_31.1.2.1
theorem dX7_quarter_2 : decode cX7_quarter 2 = .ok (.invokestatic 123, 3) := dTo1_31.1.2.2.1
theorem dX7_quarter_5 : decode cX7_quarter 5 = .ok (.iload_n 2, 1) := dTo1_31.1.2.2.2.1
theorem dX7_quarter_6 : decode cX7_quarter 6 = .ok (.sipush (-160), 3) := dTo1_31.1.2.2.2.2.1
theorem dX7_quarter_9 : decode cX7_quarter 9 = .ok (.sipush 160, 3) := dTo1_31.1.2.2.2.2.2.1
theorem dX7_quarter_12 : decode cX7_quarter 12 = .ok (.invokestatic 113, 3) := dTo1_31.1.2.2.2.2.2.2.1
theorem dX7_quarter_15 : decode cX7_quarter 15 = .ok (.ifCond .ne 7, 3) := dTo1_31.1.2.2.2.2.2.2.2.1
theorem dX7_quarter_18 : decode cX7_quarter 18 = .ok (.iconst 1, 1) := dTo1_31.1.2.2.2.2.2.2.2.2.1
theorem dX7_quarter_19 : decode cX7_quarter 19 = .ok (.goto 4, 3) := dTo1_31.1.2.2.2.2.2.2.2.2.2.1
theorem dX7_quarter_22 : decode cX7_quarter 22 = .ok (.iconst 0, 1) := dTo1_31.2.1.1
theorem dX7_quarter_23 : decode cX7_quarter 23 = .ok (.invokevirtual 126, 3) := dTo1_31.2.1.2.1
theorem dX7_quarter_26 : decode cX7_quarter 26 = .ok (.ifCond .eq 7, 3) := dTo1_31.2.1.2.2.1
theorem dX7_quarter_29 : decode cX7_quarter 29 = .ok (.iconst 0, 1) := dTo1_31.2.1.2.2.2.1
theorem dX7_quarter_30 : decode cX7_quarter 30 = .ok (.goto 11, 3) := dTo1_31.2.1.2.2.2.2.1
theorem dX7_quarter_33 : decode cX7_quarter 33 = .ok (.aload_n 0, 1) := dTo1_31.2.1.2.2.2.2.2.1
theorem dX7_quarter_34 : decode cX7_quarter 34 = .ok (.iload_n 1, 1) := dTo1_31.2.1.2.2.2.2.2.2.1
theorem dX7_quarter_35 : decode cX7_quarter 35 = .ok (.iconst 0, 1) := dTo1_31.2.1.2.2.2.2.2.2.2.1
theorem dX7_quarter_36 : decode cX7_quarter 36 = .ok (.iload_n 2, 1) := dTo1_31.2.1.2.2.2.2.2.2.2.2.1
theorem dX7_quarter_37 : decode cX7_quarter 37 = .ok (.iconst 0, 1) := dTo1_31.2.1.2.2.2.2.2.2.2.2.2.1
theorem dX7_quarter_38 : decode cX7_quarter 38 = .ok (.invokevirtual 130, 3) := dTo1_31.2.2.1.1
theorem dX7_quarter_41 : decode cX7_quarter 41 = .ok (.ireturn, 1) := dTo1_31.2.2.1.2.1
theorem dTo1_32 : dQ cX7_zero [[(0, zop42, 0, 0), (1, zop27, 0, 0), (2, zop184, 0, 123), (5, zop3, 0, 0), (6, zop182, 0, 126), (9, zop153, 0, 7), (12, zop3, 0, 0), (13, zop167, 0, 11), (16, zop42, 0, 0), (17, zop27, 0, 0)], [(18, zop3, 0, 0), (19, zop3, 0, 0), (20, zop28, 0, 0), (21, zop182, 0, 130), (24, zop172, 0, 0)]] := dQ_of _ _ (by decide +kernel)
theorem dX7_zero_0 : decode cX7_zero 0 = .ok (.aload_n 0, 1) := dTo1_32.1.1
theorem dX7_zero_1 : decode cX7_zero 1 = .ok (.iload_n 1, 1) := dTo1_32.1.2.1
theorem dX7_zero_2 : decode cX7_zero 2 = .ok (.invokestatic 123, 3) := dTo1_32.1.2.2.1
theorem dX7_zero_5 : decode cX7_zero 5 = .ok (.iconst 0, 1) := dTo1_32.1.2.2.2.1
theorem dX7_zero_6 : decode cX7_zero 6 = .ok (.invokevirtual 126, 3) := dTo1_32.1.2.2.2.2.1
theorem dX7_zero_9 : decode cX7_zero 9 = .ok (.ifCond .eq 7, 3) := dTo1_32.1.2.2.2.2.2.1
theorem dX7_zero_12 : decode cX7_zero 12 = .ok (.iconst 0, 1) := dTo1_32.1.2.2.2.2.2.2.1
theorem dX7_zero_13 : decode cX7_zero 13 = .ok (.goto 11, 3) := dTo1_32.1.2.2.2.2.2.2.2.1
theorem dX7_zero_16 : decode cX7_zero 16 = .ok (.aload_n 0, 1) := dTo1_32.1.2.2.2.2.2.2.2.2.1
theorem dX7_zero_17 : decode cX7_zero 17 = .ok (.iload_n 1, 1) := dTo1_32.1.2.2.2.2.2.2.2.2.2.1
theorem dX7_zero_18 : decode cX7_zero 18 = .ok (.iconst 0, 1) := dTo1_32.2.1.1
theorem dX7_zero_19 : decode cX7_zero 19 = .ok (.iconst 0, 1) := dTo1_32.2.1.2.1
theorem dX7_zero_20 : decode cX7_zero 20 = .ok (.iload_n 2, 1) := dTo1_32.2.1.2.2.1
theorem dX7_zero_21 : decode cX7_zero 21 = .ok (.invokevirtual 130, 3) := dTo1_32.2.1.2.2.2.1
theorem dX7_zero_24 : decode cX7_zero 24 = .ok (.ireturn, 1) := dTo1_32.2.1.2.2.2.2.1
theorem dTo1_33 : dQ cX7_endless [[(0, zop42, 0, 0), (1, zop27, 0, 0), (2, zop184, 0, 123), (5, zop3, 0, 0), (6, zop182, 0, 126), (9, zop153, 0, 7), (12, zop3, 0, 0), (13, zop167, 0, 11), (16, zop42, 0, 0), (17, zop27, 0, 0)], [(18, zop4, 0, 0), (19, zop3, 0, 0), (20, zop28, 0, 0), (21, zop182, 0, 130), (24, zop172, 0, 0)]] := dQ_of _ _ (by decide +kernel)
theorem dX7_endless_0 : decode cX7_endless 0 = .ok (.aload_n 0, 1) := dTo1_33.1.1
theorem dX7_endless_1 : decode cX7_endless 1 = .ok (.iload_n 1, 1) := dTo1_33.1.2.1
theorem dX7_endless_2 : decode cX7_endless 2 = .ok (.invokestatic 123, 3) := dTo1_33.1.2.2.1
theorem dX7_endless_5 : decode cX7_endless 5 = .ok (.iconst 0, 1) := dTo1_33.1.2.2.2.1
theorem dX7_endless_6 : decode cX7_endless 6 = .ok (.invokevirtual 126, 3) := dTo1_33.1.2.2.2.2.1
theorem dX7_endless_9 : decode cX7_endless 9 = .ok (.ifCond .eq 7, 3) := dTo1_33.1.2.2.2.2.2.1
theorem dX7_endless_12 : decode cX7_endless 12 = .ok (.iconst 0, 1) := dTo1_33.1.2.2.2.2.2.2.1
theorem dX7_endless_13 : decode cX7_endless 13 = .ok (.goto 11, 3) := dTo1_33.1.2.2.2.2.2.2.2.1
theorem dX7_endless_16 : decode cX7_endless 16 = .ok (.aload_n 0, 1) := dTo1_33.1.2.2.2.2.2.2.2.2.1
theorem dX7_endless_17 : decode cX7_endless 17 = .ok (.iload_n 1, 1) := dTo1_33.1.2.2.2.2.2.2.2.2.2.1
theorem dX7_endless_18 : decode cX7_endless 18 = .ok (.iconst 1, 1) := dTo1_33.2.1.1
theorem dX7_endless_19 : decode cX7_endless 19 = .ok (.iconst 0, 1) := dTo1_33.2.1.2.1
theorem dX7_endless_20 : decode cX7_endless 20 = .ok (.iload_n 2, 1) := dTo1_33.2.1.2.2.1
theorem dX7_endless_21 : decode cX7_endless 21 = .ok (.invokevirtual 130, 3) := dTo1_33.2.1.2.2.2.1
theorem dX7_endless_24 : decode cX7_endless 24 = .ok (.ireturn, 1) := dTo1_33.2.1.2.2.2.2.1
theorem dTo1_34 : dQ cX7_others [[(0, zop3, 0, 0), (1, zop54, 4, 0), (3, zop3, 0, 0), (4, zop54, 5, 0), (6, zop21, 5, 0), (8, zop16, 8, 0), (10, zop162, 0, 61), (13, zop21, 4, 0), (15, zop42, 0, 0), (16, zop180, 0, 28)], [(19, zop21, 5, 0), (21, zop46, 0, 0), (22, zop43, 0, 0), (23, zop21, 5, 0), (25, zop46, 0, 0), (26, zop160, 0, 35), (29, zop42, 0, 0), (30, zop180, 0, 31), (33, zop21, 5, 0), (35, zop46, 0, 0)], [(36, zop44, 0, 0), (37, zop21, 5, 0), (39, zop46, 0, 0), (40, zop160, 0, 21), (43, zop42, 0, 0), (44, zop180, 0, 34), (47, zop21, 5, 0), (49, zop51, 0, 0), (50, zop45, 0, 0), (51, zop21, 5, 0)], [(53, zop51, 0, 0), (54, zop160, 0, 7), (57, zop3, 0, 0), (58, zop167, 0, 4), (61, zop4, 0, 0), (62, zop96, 0, 0), (63, zop54, 4, 0), (65, zop132, 5, 1), (68, zop167, 255, 194), (71, zop21, 4, 0)], [(73, zop172, 0, 0)]] := dQ_of _ _ (by decide +kernel)
theorem dX7_others_0 : decode cX7_others 0 = .ok (.iconst 0, 1) := dTo1_34.1.1
theorem dX7_others_1 : decode cX7_others 1 = .ok (.istore 4, 2) := dTo1_34.1.2.1
theorem dX7_others_3 : decode cX7_others 3 = .ok (.iconst 0, 1) := dTo1_34.1.2.2.1
theorem dX7_others_4 : decode cX7_others 4 = .ok (.istore 5, 2) := dTo1_34.1.2.2.2.1
theorem dX7_others_6 : decode cX7_others 6 = .ok (.iload 5, 2) := dTo1_34.1.2.2.2.2.1
theorem dX7_others_8 : decode cX7_others 8 = .ok (.bipush 8, 2) := dTo1_34.1.2.2.2.2.2.1
theorem dX7_others_10 : decode cX7_others 10 = .ok (.if_icmp .ge 61, 3) := dTo1_34.1.2.2.2.2.2.2.1
theorem dX7_others_13 : decode cX7_others 13 = .ok (.iload 4, 2) := dTo1_34.1.2.2.2.2.2.2.2.1
theorem dX7_others_15 : decode cX7_others 15 = .ok (.aload_n 0, 1) := dTo1_34.1.2.2.2.2.2.2.2.2.1
theorem dX7_others_16 : decode cX7_others 16 = .ok (.getfield 28, 3) := dTo1_34.1.2.2.2.2.2.2.2.2.2.1
theorem dX7_others_19 : decode cX7_others 19 = .ok (.iload 5, 2) := dTo1_34.2.1.1
theorem dX7_others_21 : decode cX7_others 21 = .ok (.iaload, 1) := dTo1_34.2.1.2.1
theorem dX7_others_22 : decode cX7_others 22 = .ok (.aload_n 1, 1) := dTo1_34.2.1.2.2.1
theorem dX7_others_23 : decode cX7_others 23 = .ok (.iload 5, 2) := dTo1_34.2.1.2.2.2.1
theorem dX7_others_25 : decode cX7_others 25 = .ok (.iaload, 1) := dTo1_34.2.1.2.2.2.2.1
theorem dX7_others_26 : decode cX7_others 26 = .ok (.if_icmp .ne 35, 3) := dTo1_34.2.1.2.2.2.2.2.1
theorem dX7_others_29 : decode cX7_others 29 = .ok (.aload_n 0, 1) := dTo1_34.2.1.2.2.2.2.2.2.1
theorem dX7_others_30 : decode cX7_others 30 = .ok (.getfield 31, 3) := dTo1_34.2.1.2.2.2.2.2.2.2.1
theorem dX7_others_33 : decode cX7_others 33 = .ok (.iload 5, 2) := dTo1_34.2.1.2.2.2.2.2.2.2.2.1
theorem dX7_others_35 : decode cX7_others 35 = .ok (.iaload, 1) := dTo1_34.2.1.2.2.2.2.2.2.2.2.2.1
theorem dX7_others_36 : decode cX7_others 36 = .ok (.aload_n 2, 1) := dTo1_34.2.2.1.1
theorem dX7_others_37 : decode cX7_others 37 = .ok (.iload 5, 2) := dTo1_34.2.2.1.2.1
theorem dX7_others_39 : decode cX7_others 39 = .ok (.iaload, 1) := dTo1_34.2.2.1.2.2.1
theorem dX7_others_40 : decode cX7_others 40 = .ok (.if_icmp .ne 21, 3) := dTo1_34.2.2.1.2.2.2.1
theorem dX7_others_43 : decode cX7_others 43 = .ok (.aload_n 0, 1) := dTo1_34.2.2.1.2.2.2.2.1
theorem dX7_others_44 : decode cX7_others 44 = .ok (.getfield 34, 3) := dTo1_34.2.2.1.2.2.2.2.2.1
theorem dX7_others_47 : decode cX7_others 47 = .ok (.iload 5, 2) := dTo1_34.2.2.1.2.2.2.2.2.2.1
theorem dX7_others_49 : decode cX7_others 49 = .ok (.baload, 1) := dTo1_34.2.2.1.2.2.2.2.2.2.2.1
theorem dX7_others_50 : decode cX7_others 50 = .ok (.aload_n 3, 1) := dTo1_34.2.2.1.2.2.2.2.2.2.2.2.1
theorem dX7_others_51 : decode cX7_others 51 = .ok (.iload 5, 2) := dTo1_34.2.2.1.2.2.2.2.2.2.2.2.2.1
theorem dX7_others_53 : decode cX7_others 53 = .ok (.baload, 1) := dTo1_34.2.2.2.1.1
theorem dX7_others_54 : decode cX7_others 54 = .ok (.if_icmp .ne 7, 3) := dTo1_34.2.2.2.1.2.1
theorem dX7_others_57 : decode cX7_others 57 = .ok (.iconst 0, 1) := dTo1_34.2.2.2.1.2.2.1
theorem dX7_others_58 : decode cX7_others 58 = .ok (.goto 4, 3) := dTo1_34.2.2.2.1.2.2.2.1
theorem dX7_others_61 : decode cX7_others 61 = .ok (.iconst 1, 1) := dTo1_34.2.2.2.1.2.2.2.2.1
theorem dX7_others_62 : decode cX7_others 62 = .ok (.iadd, 1) := dTo1_34.2.2.2.1.2.2.2.2.2.1
theorem dX7_others_63 : decode cX7_others 63 = .ok (.istore 4, 2) := dTo1_34.2.2.2.1.2.2.2.2.2.2.1
theorem dX7_others_65 : decode cX7_others 65 = .ok (.iinc 5 1, 3) := dTo1_34.2.2.2.1.2.2.2.2.2.2.2.1
theorem dX7_others_68 : decode cX7_others 68 = .ok (.goto (-62), 3) := dTo1_34.2.2.2.1.2.2.2.2.2.2.2.2.1
theorem dX7_others_71 : decode cX7_others 71 = .ok (.iload 4, 2) := dTo1_34.2.2.2.1.2.2.2.2.2.2.2.2.2.1
theorem dX7_others_73 : decode cX7_others 73 = .ok (.ireturn, 1) := dTo1_34.2.2.2.2.1.1
theorem dTo1_35 : dQ cX7_row [[(0, zop42, 0, 0), (1, zop27, 0, 0), (2, zop17, 255, 96), (5, zop17, 0, 160), (8, zop184, 0, 113), (11, zop153, 0, 18), (14, zop28, 0, 0), (15, zop16, 216, 0), (17, zop16, 40, 0), (19, zop184, 0, 113)], [(22, zop153, 0, 7), (25, zop3, 0, 0), (26, zop167, 0, 4), (29, zop4, 0, 0), (30, zop181, 0, 50), (33, zop42, 0, 0), (34, zop180, 0, 50), (37, zop153, 0, 5), (40, zop3, 0, 0), (41, zop172, 0, 0)], [(42, zop27, 0, 0), (43, zop16, 7, 0), (45, zop28, 0, 0), (46, zop104, 0, 0), (47, zop96, 0, 0), (48, zop17, 255, 96), (51, zop17, 0, 160), (54, zop184, 0, 113), (57, zop154, 0, 8), (60, zop42, 0, 0)], [(61, zop182, 0, 134), (64, zop172, 0, 0), (65, zop42, 0, 0), (66, zop27, 0, 0), (67, zop28, 0, 0), (68, zop182, 0, 137), (71, zop172, 0, 0)]] := dQ_of _ _ (by decide +kernel)
theorem dX7_row_0 : decode cX7_row 0 = .ok (.aload_n 0, 1) := dTo1_35.1.1
theorem dX7_row_1 : decode cX7_row 1 = .ok (.iload_n 1, 1) := dTo1_35.1.2.1
theorem dX7_row_2 : decode cX7_row 2 = .ok (.sipush (-160), 3) := dTo1_35.1.2.2.1
theorem dX7_row_5 : decode cX7_row 5 = .ok (.sipush 160, 3) := dTo1_35.1.2.2.2.1
theorem dX7_row_8 : decode cX7_row 8 = .ok (.invokestatic 113, 3) := dTo1_35.1.2.2.2.2.1
theorem dX7_row_11 : decode cX7_row 11 = .ok (.ifCond .eq 18, 3) := dTo1_35.1.2.2.2.2.2.1
theorem dX7_row_14 : decode cX7_row 14 = .ok (.iload_n 2, 1) := dTo1_35.1.2.2.2.2.2.2.1
theorem dX7_row_15 : decode cX7_row 15 = .ok (.bipush (-40), 2) := dTo1_35.1.2.2.2.2.2.2.2.1
theorem dX7_row_17 : decode cX7_row 17 = .ok (.bipush 40, 2) := dTo1_35.1.2.2.2.2.2.2.2.2.1
theorem dX7_row_19 : decode cX7_row 19 = .ok (.invokestatic 113, 3) := dTo1_35.1.2.2.2.2.2.2.2.2.2.1
theorem dX7_row_22 : decode cX7_row 22 = .ok (.ifCond .eq 7, 3) := dTo1_35.2.1.1
theorem dX7_row_25 : decode cX7_row 25 = .ok (.iconst 0, 1) := dTo1_35.2.1.2.1
theorem dX7_row_26 : decode cX7_row 26 = .ok (.goto 4, 3) := dTo1_35.2.1.2.2.1
theorem dX7_row_29 : decode cX7_row 29 = .ok (.iconst 1, 1) := dTo1_35.2.1.2.2.2.1
theorem dX7_row_30 : decode cX7_row 30 = .ok (.putfield 50, 3) := dTo1_35.2.1.2.2.2.2.1
theorem dX7_row_33 : decode cX7_row 33 = .ok (.aload_n 0, 1) := dTo1_35.2.1.2.2.2.2.2.1
theorem dX7_row_34 : decode cX7_row 34 = .ok (.getfield 50, 3) := dTo1_35.2.1.2.2.2.2.2.2.1
theorem dX7_row_37 : decode cX7_row 37 = .ok (.ifCond .eq 5, 3) := dTo1_35.2.1.2.2.2.2.2.2.2.1
theorem dX7_row_40 : decode cX7_row 40 = .ok (.iconst 0, 1) := dTo1_35.2.1.2.2.2.2.2.2.2.2.1
theorem dX7_row_41 : decode cX7_row 41 = .ok (.ireturn, 1) := dTo1_35.2.1.2.2.2.2.2.2.2.2.2.1
theorem dX7_row_42 : decode cX7_row 42 = .ok (.iload_n 1, 1) := dTo1_35.2.2.1.1
theorem dX7_row_43 : decode cX7_row 43 = .ok (.bipush 7, 2) := dTo1_35.2.2.1.2.1
theorem dX7_row_45 : decode cX7_row 45 = .ok (.iload_n 2, 1) := dTo1_35.2.2.1.2.2.1
theorem dX7_row_46 : decode cX7_row 46 = .ok (.imul, 1) := dTo1_35.2.2.1.2.2.2.1
theorem dX7_row_47 : decode cX7_row 47 = .ok (.iadd, 1) := dTo1_35.2.2.1.2.2.2.2.1
theorem dX7_row_48 : decode cX7_row 48 = .ok (.sipush (-160), 3) := dTo1_35.2.2.1.2.2.2.2.2.1
theorem dX7_row_51 : decode cX7_row 51 = .ok (.sipush 160, 3) := dTo1_35.2.2.1.2.2.2.2.2.2.1
theorem dX7_row_54 : decode cX7_row 54 = .ok (.invokestatic 113, 3) := dTo1_35.2.2.1.2.2.2.2.2.2.2.1
theorem dX7_row_57 : decode cX7_row 57 = .ok (.ifCond .ne 8, 3) := dTo1_35.2.2.1.2.2.2.2.2.2.2.2.1
theorem dX7_row_60 : decode cX7_row 60 = .ok (.aload_n 0, 1) := dTo1_35.2.2.1.2.2.2.2.2.2.2.2.2.1
theorem dX7_row_61 : decode cX7_row 61 = .ok (.invokevirtual 134, 3) := dTo1_35.2.2.2.1.1
theorem dX7_row_64 : decode cX7_row 64 = .ok (.ireturn, 1) := dTo1_35.2.2.2.1.2.1
theorem dX7_row_65 : decode cX7_row 65 = .ok (.aload_n 0, 1) := dTo1_35.2.2.2.1.2.2.1
theorem dX7_row_66 : decode cX7_row 66 = .ok (.iload_n 1, 1) := dTo1_35.2.2.2.1.2.2.2.1
theorem dX7_row_67 : decode cX7_row 67 = .ok (.iload_n 2, 1) := dTo1_35.2.2.2.1.2.2.2.2.1
theorem dX7_row_68 : decode cX7_row 68 = .ok (.invokevirtual 137, 3) := dTo1_35.2.2.2.1.2.2.2.2.2.1
theorem dX7_row_71 : decode cX7_row 71 = .ok (.ireturn, 1) := dTo1_35.2.2.2.1.2.2.2.2.2.2.1
theorem dX7_lay_20 : decode cX7_lay 20 = .ok (.newarray .int, 2) := by decide +kernel
theorem dX7_lay_28 : decode cX7_lay 28 = .ok (.newarray .int, 2) := by decide +kernel
theorem dX7_lay_36 : decode cX7_lay 36 = .ok (.newarray .boolean, 2) := by decide +kernel
theorem dTo1_36 : dQ cX7_lay [[(0, zop42, 0, 0), (1, zop180, 0, 28), (4, zop78, 0, 0), (5, zop42, 0, 0), (6, zop180, 0, 31), (9, zop58, 4, 0), (11, zop42, 0, 0), (12, zop180, 0, 34), (15, zop58, 5, 0), (17, zop42, 0, 0)], [(18, zop16, 8, 0), (22, zop181, 0, 28), (25, zop42, 0, 0), (26, zop16, 8, 0), (30, zop181, 0, 31), (33, zop42, 0, 0), (34, zop16, 8, 0), (38, zop181, 0, 34), (41, zop3, 0, 0), (42, zop54, 6, 0)], [(44, zop21, 6, 0), (46, zop16, 8, 0), (48, zop162, 0, 22), (51, zop42, 0, 0), (52, zop180, 0, 31), (55, zop21, 6, 0), (57, zop27, 0, 0), (58, zop21, 6, 0), (60, zop28, 0, 0), (61, zop104, 0, 0)], [(62, zop96, 0, 0), (63, zop79, 0, 0), (64, zop132, 6, 1), (67, zop167, 255, 233), (70, zop42, 0, 0), (71, zop89, 0, 0), (72, zop180, 0, 117), (75, zop4, 0, 0), (76, zop96, 0, 0), (77, zop181, 0, 117)], [(80, zop42, 0, 0), (81, zop45, 0, 0), (82, zop25, 4, 0), (84, zop25, 5, 0), (86, zop182, 0, 140), (89, zop172, 0, 0)]] := dQ_of _ _ (by decide +kernel)
theorem dX7_lay_0 : decode cX7_lay 0 = .ok (.aload_n 0, 1) := dTo1_36.1.1
theorem dX7_lay_1 : decode cX7_lay 1 = .ok (.getfield 28, 3) := dTo1_36.1.2.1
theorem dX7_lay_4 : decode cX7_lay 4 = .ok (.astore_n 3, 1) := dTo1_36.1.2.2.1
theorem dX7_lay_5 : decode cX7_lay 5 = .ok (.aload_n 0, 1) := dTo1_36.1.2.2.2.1
theorem dX7_lay_6 : decode cX7_lay 6 = .ok (.getfield 31, 3) := dTo1_36.1.2.2.2.2.1
theorem dX7_lay_9 : decode cX7_lay 9 = .ok (.astore 4, 2) := dTo1_36.1.2.2.2.2.2.1
theorem dX7_lay_11 : decode cX7_lay 11 = .ok (.aload_n 0, 1) := dTo1_36.1.2.2.2.2.2.2.1
theorem dX7_lay_12 : decode cX7_lay 12 = .ok (.getfield 34, 3) := dTo1_36.1.2.2.2.2.2.2.2.1
theorem dX7_lay_15 : decode cX7_lay 15 = .ok (.astore 5, 2) := dTo1_36.1.2.2.2.2.2.2.2.2.1
theorem dX7_lay_17 : decode cX7_lay 17 = .ok (.aload_n 0, 1) := dTo1_36.1.2.2.2.2.2.2.2.2.2.1
theorem dX7_lay_18 : decode cX7_lay 18 = .ok (.bipush 8, 2) := dTo1_36.2.1.1
theorem dX7_lay_22 : decode cX7_lay 22 = .ok (.putfield 28, 3) := dTo1_36.2.1.2.1
theorem dX7_lay_25 : decode cX7_lay 25 = .ok (.aload_n 0, 1) := dTo1_36.2.1.2.2.1
theorem dX7_lay_26 : decode cX7_lay 26 = .ok (.bipush 8, 2) := dTo1_36.2.1.2.2.2.1
theorem dX7_lay_30 : decode cX7_lay 30 = .ok (.putfield 31, 3) := dTo1_36.2.1.2.2.2.2.1
theorem dX7_lay_33 : decode cX7_lay 33 = .ok (.aload_n 0, 1) := dTo1_36.2.1.2.2.2.2.2.1
theorem dX7_lay_34 : decode cX7_lay 34 = .ok (.bipush 8, 2) := dTo1_36.2.1.2.2.2.2.2.2.1
theorem dX7_lay_38 : decode cX7_lay 38 = .ok (.putfield 34, 3) := dTo1_36.2.1.2.2.2.2.2.2.2.1
theorem dX7_lay_41 : decode cX7_lay 41 = .ok (.iconst 0, 1) := dTo1_36.2.1.2.2.2.2.2.2.2.2.1
theorem dX7_lay_42 : decode cX7_lay 42 = .ok (.istore 6, 2) := dTo1_36.2.1.2.2.2.2.2.2.2.2.2.1
theorem dX7_lay_44 : decode cX7_lay 44 = .ok (.iload 6, 2) := dTo1_36.2.2.1.1
theorem dX7_lay_46 : decode cX7_lay 46 = .ok (.bipush 8, 2) := dTo1_36.2.2.1.2.1
theorem dX7_lay_48 : decode cX7_lay 48 = .ok (.if_icmp .ge 22, 3) := dTo1_36.2.2.1.2.2.1
theorem dX7_lay_51 : decode cX7_lay 51 = .ok (.aload_n 0, 1) := dTo1_36.2.2.1.2.2.2.1
theorem dX7_lay_52 : decode cX7_lay 52 = .ok (.getfield 31, 3) := dTo1_36.2.2.1.2.2.2.2.1
theorem dX7_lay_55 : decode cX7_lay 55 = .ok (.iload 6, 2) := dTo1_36.2.2.1.2.2.2.2.2.1
theorem dX7_lay_57 : decode cX7_lay 57 = .ok (.iload_n 1, 1) := dTo1_36.2.2.1.2.2.2.2.2.2.1
theorem dX7_lay_58 : decode cX7_lay 58 = .ok (.iload 6, 2) := dTo1_36.2.2.1.2.2.2.2.2.2.2.1
theorem dX7_lay_60 : decode cX7_lay 60 = .ok (.iload_n 2, 1) := dTo1_36.2.2.1.2.2.2.2.2.2.2.2.1
theorem dX7_lay_61 : decode cX7_lay 61 = .ok (.imul, 1) := dTo1_36.2.2.1.2.2.2.2.2.2.2.2.2.1
theorem dX7_lay_62 : decode cX7_lay 62 = .ok (.iadd, 1) := dTo1_36.2.2.2.1.1
theorem dX7_lay_63 : decode cX7_lay 63 = .ok (.iastore, 1) := dTo1_36.2.2.2.1.2.1
theorem dX7_lay_64 : decode cX7_lay 64 = .ok (.iinc 6 1, 3) := dTo1_36.2.2.2.1.2.2.1
theorem dX7_lay_67 : decode cX7_lay 67 = .ok (.goto (-23), 3) := dTo1_36.2.2.2.1.2.2.2.1
theorem dX7_lay_70 : decode cX7_lay 70 = .ok (.aload_n 0, 1) := dTo1_36.2.2.2.1.2.2.2.2.1
theorem dX7_lay_71 : decode cX7_lay 71 = .ok (.dup, 1) := dTo1_36.2.2.2.1.2.2.2.2.2.1
theorem dX7_lay_72 : decode cX7_lay 72 = .ok (.getfield 117, 3) := dTo1_36.2.2.2.1.2.2.2.2.2.2.1
theorem dX7_lay_75 : decode cX7_lay 75 = .ok (.iconst 1, 1) := dTo1_36.2.2.2.1.2.2.2.2.2.2.2.1
theorem dX7_lay_76 : decode cX7_lay 76 = .ok (.iadd, 1) := dTo1_36.2.2.2.1.2.2.2.2.2.2.2.2.1
theorem dX7_lay_77 : decode cX7_lay 77 = .ok (.putfield 117, 3) := dTo1_36.2.2.2.1.2.2.2.2.2.2.2.2.2.1
theorem dX7_lay_80 : decode cX7_lay 80 = .ok (.aload_n 0, 1) := dTo1_36.2.2.2.2.1.1
theorem dX7_lay_81 : decode cX7_lay 81 = .ok (.aload_n 3, 1) := dTo1_36.2.2.2.2.1.2.1
theorem dX7_lay_82 : decode cX7_lay 82 = .ok (.aload 4, 2) := dTo1_36.2.2.2.2.1.2.2.1
theorem dX7_lay_84 : decode cX7_lay 84 = .ok (.aload 5, 2) := dTo1_36.2.2.2.2.1.2.2.2.1
theorem dX7_lay_86 : decode cX7_lay 86 = .ok (.invokevirtual 140, 3) := dTo1_36.2.2.2.2.1.2.2.2.2.1
theorem dX7_lay_89 : decode cX7_lay 89 = .ok (.ireturn, 1) := dTo1_36.2.2.2.2.1.2.2.2.2.2.1
theorem dTo1_37 : dQ cX7_wipe [[(0, zop42, 0, 0), (1, zop3, 0, 0), (2, zop181, 0, 50), (5, zop42, 0, 0), (6, zop3, 0, 0), (7, zop3, 0, 0), (8, zop182, 0, 137), (11, zop172, 0, 0)]] := dQ_of _ _ (by decide +kernel)
theorem dX7_wipe_0 : decode cX7_wipe 0 = .ok (.aload_n 0, 1) := dTo1_37.1.1
theorem dX7_wipe_1 : decode cX7_wipe 1 = .ok (.iconst 0, 1) := dTo1_37.1.2.1
theorem dX7_wipe_2 : decode cX7_wipe 2 = .ok (.putfield 50, 3) := dTo1_37.1.2.2.1
theorem dX7_wipe_5 : decode cX7_wipe 5 = .ok (.aload_n 0, 1) := dTo1_37.1.2.2.2.1
theorem dX7_wipe_6 : decode cX7_wipe 6 = .ok (.iconst 0, 1) := dTo1_37.1.2.2.2.2.1
theorem dX7_wipe_7 : decode cX7_wipe 7 = .ok (.iconst 0, 1) := dTo1_37.1.2.2.2.2.2.1
theorem dX7_wipe_8 : decode cX7_wipe 8 = .ok (.invokevirtual 137, 3) := dTo1_37.1.2.2.2.2.2.2.1
theorem dX7_wipe_11 : decode cX7_wipe 11 = .ok (.ireturn, 1) := dTo1_37.1.2.2.2.2.2.2.2.1
theorem dTo1_38 : dQ cX7_copy [[(0, zop42, 0, 0), (1, zop27, 0, 0), (2, zop184, 0, 123), (5, zop154, 0, 10), (8, zop28, 0, 0), (9, zop184, 0, 123), (12, zop153, 0, 7), (15, zop4, 0, 0), (16, zop167, 0, 4), (19, zop3, 0, 0)], [(20, zop3, 0, 0), (21, zop182, 0, 126), (24, zop153, 0, 7), (27, zop3, 0, 0), (28, zop167, 0, 26), (31, zop42, 0, 0), (32, zop28, 0, 0), (33, zop42, 0, 0), (34, zop180, 0, 28), (37, zop27, 0, 0)], [(38, zop46, 0, 0), (39, zop42, 0, 0), (40, zop180, 0, 31), (43, zop27, 0, 0), (44, zop46, 0, 0), (45, zop42, 0, 0), (46, zop180, 0, 34), (49, zop27, 0, 0), (50, zop51, 0, 0), (51, zop182, 0, 130)], [(54, zop172, 0, 0)]] := dQ_of _ _ (by decide +kernel)
theorem dX7_copy_0 : decode cX7_copy 0 = .ok (.aload_n 0, 1) := dTo1_38.1.1
theorem dX7_copy_1 : decode cX7_copy 1 = .ok (.iload_n 1, 1) := dTo1_38.1.2.1
theorem dX7_copy_2 : decode cX7_copy 2 = .ok (.invokestatic 123, 3) := dTo1_38.1.2.2.1
theorem dX7_copy_5 : decode cX7_copy 5 = .ok (.ifCond .ne 10, 3) := dTo1_38.1.2.2.2.1
theorem dX7_copy_8 : decode cX7_copy 8 = .ok (.iload_n 2, 1) := dTo1_38.1.2.2.2.2.1
theorem dX7_copy_9 : decode cX7_copy 9 = .ok (.invokestatic 123, 3) := dTo1_38.1.2.2.2.2.2.1
theorem dX7_copy_12 : decode cX7_copy 12 = .ok (.ifCond .eq 7, 3) := dTo1_38.1.2.2.2.2.2.2.1
theorem dX7_copy_15 : decode cX7_copy 15 = .ok (.iconst 1, 1) := dTo1_38.1.2.2.2.2.2.2.2.1
theorem dX7_copy_16 : decode cX7_copy 16 = .ok (.goto 4, 3) := dTo1_38.1.2.2.2.2.2.2.2.2.1
theorem dX7_copy_19 : decode cX7_copy 19 = .ok (.iconst 0, 1) := dTo1_38.1.2.2.2.2.2.2.2.2.2.1
theorem dX7_copy_20 : decode cX7_copy 20 = .ok (.iconst 0, 1) := dTo1_38.2.1.1
theorem dX7_copy_21 : decode cX7_copy 21 = .ok (.invokevirtual 126, 3) := dTo1_38.2.1.2.1
theorem dX7_copy_24 : decode cX7_copy 24 = .ok (.ifCond .eq 7, 3) := dTo1_38.2.1.2.2.1
theorem dX7_copy_27 : decode cX7_copy 27 = .ok (.iconst 0, 1) := dTo1_38.2.1.2.2.2.1
theorem dX7_copy_28 : decode cX7_copy 28 = .ok (.goto 26, 3) := dTo1_38.2.1.2.2.2.2.1
theorem dX7_copy_31 : decode cX7_copy 31 = .ok (.aload_n 0, 1) := dTo1_38.2.1.2.2.2.2.2.1
theorem dX7_copy_32 : decode cX7_copy 32 = .ok (.iload_n 2, 1) := dTo1_38.2.1.2.2.2.2.2.2.1
theorem dX7_copy_33 : decode cX7_copy 33 = .ok (.aload_n 0, 1) := dTo1_38.2.1.2.2.2.2.2.2.2.1
theorem dX7_copy_34 : decode cX7_copy 34 = .ok (.getfield 28, 3) := dTo1_38.2.1.2.2.2.2.2.2.2.2.1
theorem dX7_copy_37 : decode cX7_copy 37 = .ok (.iload_n 1, 1) := dTo1_38.2.1.2.2.2.2.2.2.2.2.2.1
theorem dX7_copy_38 : decode cX7_copy 38 = .ok (.iaload, 1) := dTo1_38.2.2.1.1
theorem dX7_copy_39 : decode cX7_copy 39 = .ok (.aload_n 0, 1) := dTo1_38.2.2.1.2.1
theorem dX7_copy_40 : decode cX7_copy 40 = .ok (.getfield 31, 3) := dTo1_38.2.2.1.2.2.1
theorem dX7_copy_43 : decode cX7_copy 43 = .ok (.iload_n 1, 1) := dTo1_38.2.2.1.2.2.2.1
theorem dX7_copy_44 : decode cX7_copy 44 = .ok (.iaload, 1) := dTo1_38.2.2.1.2.2.2.2.1
theorem dX7_copy_45 : decode cX7_copy 45 = .ok (.aload_n 0, 1) := dTo1_38.2.2.1.2.2.2.2.2.1
theorem dX7_copy_46 : decode cX7_copy 46 = .ok (.getfield 34, 3) := dTo1_38.2.2.1.2.2.2.2.2.2.1
theorem dX7_copy_49 : decode cX7_copy 49 = .ok (.iload_n 1, 1) := dTo1_38.2.2.1.2.2.2.2.2.2.2.1
theorem dX7_copy_50 : decode cX7_copy 50 = .ok (.baload, 1) := dTo1_38.2.2.1.2.2.2.2.2.2.2.2.1
theorem dX7_copy_51 : decode cX7_copy 51 = .ok (.invokevirtual 130, 3) := dTo1_38.2.2.1.2.2.2.2.2.2.2.2.2.1
theorem dX7_copy_54 : decode cX7_copy 54 = .ok (.ireturn, 1) := dTo1_38.2.2.2.1.1
theorem dTo1_39 : dQ cX7_swap [[(0, zop42, 0, 0), (1, zop27, 0, 0), (2, zop184, 0, 123), (5, zop154, 0, 10), (8, zop28, 0, 0), (9, zop184, 0, 123), (12, zop153, 0, 7), (15, zop4, 0, 0), (16, zop167, 0, 4), (19, zop3, 0, 0)], [(20, zop3, 0, 0), (21, zop182, 0, 126), (24, zop153, 0, 5), (27, zop3, 0, 0), (28, zop172, 0, 0), (29, zop42, 0, 0), (30, zop180, 0, 28), (33, zop27, 0, 0), (34, zop46, 0, 0), (35, zop62, 0, 0)], [(36, zop42, 0, 0), (37, zop180, 0, 31), (40, zop27, 0, 0), (41, zop46, 0, 0), (42, zop54, 4, 0), (44, zop42, 0, 0), (45, zop180, 0, 34), (48, zop27, 0, 0), (49, zop51, 0, 0), (50, zop54, 5, 0)], [(52, zop42, 0, 0), (53, zop27, 0, 0), (54, zop42, 0, 0), (55, zop180, 0, 28), (58, zop28, 0, 0), (59, zop46, 0, 0), (60, zop42, 0, 0), (61, zop180, 0, 31), (64, zop28, 0, 0), (65, zop46, 0, 0)], [(66, zop42, 0, 0), (67, zop180, 0, 34), (70, zop28, 0, 0), (71, zop51, 0, 0), (72, zop182, 0, 130), (75, zop54, 6, 0), (77, zop42, 0, 0), (78, zop28, 0, 0), (79, zop29, 0, 0), (80, zop21, 4, 0)], [(82, zop21, 5, 0), (84, zop182, 0, 130), (87, zop87, 0, 0), (88, zop42, 0, 0), (89, zop89, 0, 0), (90, zop180, 0, 117), (93, zop4, 0, 0), (94, zop100, 0, 0), (95, zop181, 0, 117), (98, zop21, 6, 0)]] := dQ_of _ _ (by decide +kernel)
theorem dX7_swap_0 : decode cX7_swap 0 = .ok (.aload_n 0, 1) := dTo1_39.1.1
theorem dX7_swap_1 : decode cX7_swap 1 = .ok (.iload_n 1, 1) := dTo1_39.1.2.1
theorem dX7_swap_2 : decode cX7_swap 2 = .ok (.invokestatic 123, 3) := dTo1_39.1.2.2.1
theorem dX7_swap_5 : decode cX7_swap 5 = .ok (.ifCond .ne 10, 3) := dTo1_39.1.2.2.2.1
theorem dX7_swap_8 : decode cX7_swap 8 = .ok (.iload_n 2, 1) := dTo1_39.1.2.2.2.2.1
theorem dX7_swap_9 : decode cX7_swap 9 = .ok (.invokestatic 123, 3) := dTo1_39.1.2.2.2.2.2.1
theorem dX7_swap_12 : decode cX7_swap 12 = .ok (.ifCond .eq 7, 3) := dTo1_39.1.2.2.2.2.2.2.1
theorem dX7_swap_15 : decode cX7_swap 15 = .ok (.iconst 1, 1) := dTo1_39.1.2.2.2.2.2.2.2.1
theorem dX7_swap_16 : decode cX7_swap 16 = .ok (.goto 4, 3) := dTo1_39.1.2.2.2.2.2.2.2.2.1
theorem dX7_swap_19 : decode cX7_swap 19 = .ok (.iconst 0, 1) := dTo1_39.1.2.2.2.2.2.2.2.2.2.1
theorem dX7_swap_20 : decode cX7_swap 20 = .ok (.iconst 0, 1) := dTo1_39.2.1.1
theorem dX7_swap_21 : decode cX7_swap 21 = .ok (.invokevirtual 126, 3) := dTo1_39.2.1.2.1
theorem dX7_swap_24 : decode cX7_swap 24 = .ok (.ifCond .eq 5, 3) := dTo1_39.2.1.2.2.1
theorem dX7_swap_27 : decode cX7_swap 27 = .ok (.iconst 0, 1) := dTo1_39.2.1.2.2.2.1
theorem dX7_swap_28 : decode cX7_swap 28 = .ok (.ireturn, 1) := dTo1_39.2.1.2.2.2.2.1
theorem dX7_swap_29 : decode cX7_swap 29 = .ok (.aload_n 0, 1) := dTo1_39.2.1.2.2.2.2.2.1
theorem dX7_swap_30 : decode cX7_swap 30 = .ok (.getfield 28, 3) := dTo1_39.2.1.2.2.2.2.2.2.1
theorem dX7_swap_33 : decode cX7_swap 33 = .ok (.iload_n 1, 1) := dTo1_39.2.1.2.2.2.2.2.2.2.1
theorem dX7_swap_34 : decode cX7_swap 34 = .ok (.iaload, 1) := dTo1_39.2.1.2.2.2.2.2.2.2.2.1
theorem dX7_swap_35 : decode cX7_swap 35 = .ok (.istore_n 3, 1) := dTo1_39.2.1.2.2.2.2.2.2.2.2.2.1
theorem dX7_swap_36 : decode cX7_swap 36 = .ok (.aload_n 0, 1) := dTo1_39.2.2.1.1
theorem dX7_swap_37 : decode cX7_swap 37 = .ok (.getfield 31, 3) := dTo1_39.2.2.1.2.1
theorem dX7_swap_40 : decode cX7_swap 40 = .ok (.iload_n 1, 1) := dTo1_39.2.2.1.2.2.1
theorem dX7_swap_41 : decode cX7_swap 41 = .ok (.iaload, 1) := dTo1_39.2.2.1.2.2.2.1
theorem dX7_swap_42 : decode cX7_swap 42 = .ok (.istore 4, 2) := dTo1_39.2.2.1.2.2.2.2.1
theorem dX7_swap_44 : decode cX7_swap 44 = .ok (.aload_n 0, 1) := dTo1_39.2.2.1.2.2.2.2.2.1
theorem dX7_swap_45 : decode cX7_swap 45 = .ok (.getfield 34, 3) := dTo1_39.2.2.1.2.2.2.2.2.2.1
theorem dX7_swap_48 : decode cX7_swap 48 = .ok (.iload_n 1, 1) := dTo1_39.2.2.1.2.2.2.2.2.2.2.1
theorem dX7_swap_49 : decode cX7_swap 49 = .ok (.baload, 1) := dTo1_39.2.2.1.2.2.2.2.2.2.2.2.1
theorem dX7_swap_50 : decode cX7_swap 50 = .ok (.istore 5, 2) := dTo1_39.2.2.1.2.2.2.2.2.2.2.2.2.1
theorem dX7_swap_52 : decode cX7_swap 52 = .ok (.aload_n 0, 1) := dTo1_39.2.2.2.1.1
theorem dX7_swap_53 : decode cX7_swap 53 = .ok (.iload_n 1, 1) := dTo1_39.2.2.2.1.2.1
theorem dX7_swap_54 : decode cX7_swap 54 = .ok (.aload_n 0, 1) := dTo1_39.2.2.2.1.2.2.1
theorem dX7_swap_55 : decode cX7_swap 55 = .ok (.getfield 28, 3) := dTo1_39.2.2.2.1.2.2.2.1
theorem dX7_swap_58 : decode cX7_swap 58 = .ok (.iload_n 2, 1) := dTo1_39.2.2.2.1.2.2.2.2.1
theorem dX7_swap_59 : decode cX7_swap 59 = .ok (.iaload, 1) := dTo1_39.2.2.2.1.2.2.2.2.2.1
theorem dX7_swap_60 : decode cX7_swap 60 = .ok (.aload_n 0, 1) := dTo1_39.2.2.2.1.2.2.2.2.2.2.1
theorem dX7_swap_61 : decode cX7_swap 61 = .ok (.getfield 31, 3) := dTo1_39.2.2.2.1.2.2.2.2.2.2.2.1
theorem dX7_swap_64 : decode cX7_swap 64 = .ok (.iload_n 2, 1) := dTo1_39.2.2.2.1.2.2.2.2.2.2.2.2.1
theorem dX7_swap_65 : decode cX7_swap 65 = .ok (.iaload, 1) := dTo1_39.2.2.2.1.2.2.2.2.2.2.2.2.2.1
theorem dX7_swap_66 : decode cX7_swap 66 = .ok (.aload_n 0, 1) := dTo1_39.2.2.2.2.1.1
theorem dX7_swap_67 : decode cX7_swap 67 = .ok (.getfield 34, 3) := dTo1_39.2.2.2.2.1.2.1
theorem dX7_swap_70 : decode cX7_swap 70 = .ok (.iload_n 2, 1) := dTo1_39.2.2.2.2.1.2.2.1
theorem dX7_swap_71 : decode cX7_swap 71 = .ok (.baload, 1) := dTo1_39.2.2.2.2.1.2.2.2.1
theorem dX7_swap_72 : decode cX7_swap 72 = .ok (.invokevirtual 130, 3) := dTo1_39.2.2.2.2.1.2.2.2.2.1
theorem dX7_swap_75 : decode cX7_swap 75 = .ok (.istore 6, 2) := dTo1_39.2.2.2.2.1.2.2.2.2.2.1
theorem dX7_swap_77 : decode cX7_swap 77 = .ok (.aload_n 0, 1) := dTo1_39.2.2.2.2.1.2.2.2.2.2.2.1
theorem dX7_swap_78 : decode cX7_swap 78 = .ok (.iload_n 2, 1) := dTo1_39.2.2.2.2.1.2.2.2.2.2.2.2.1
theorem dX7_swap_79 : decode cX7_swap 79 = .ok (.iload_n 3, 1) := dTo1_39.2.2.2.2.1.2.2.2.2.2.2.2.2.1
theorem dX7_swap_80 : decode cX7_swap 80 = .ok (.iload 4, 2) := dTo1_39.2.2.2.2.1.2.2.2.2.2.2.2.2.2.1
theorem dX7_swap_82 : decode cX7_swap 82 = .ok (.iload 5, 2) := dTo1_39.2.2.2.2.2.1.1
theorem dX7_swap_84 : decode cX7_swap 84 = .ok (.invokevirtual 130, 3) := dTo1_39.2.2.2.2.2.1.2.1
theorem dX7_swap_87 : decode cX7_swap 87 = .ok (.pop, 1) := dTo1_39.2.2.2.2.2.1.2.2.1
theorem dX7_swap_88 : decode cX7_swap 88 = .ok (.aload_n 0, 1) := dTo1_39.2.2.2.2.2.1.2.2.2.1
theorem dX7_swap_89 : decode cX7_swap 89 = .ok (.dup, 1) := dTo1_39.2.2.2.2.2.1.2.2.2.2.1
theorem dX7_swap_90 : decode cX7_swap 90 = .ok (.getfield 117, 3) := dTo1_39.2.2.2.2.2.1.2.2.2.2.2.1
theorem dX7_swap_93 : decode cX7_swap 93 = .ok (.iconst 1, 1) := dTo1_39.2.2.2.2.2.1.2.2.2.2.2.2.1
theorem dX7_swap_94 : decode cX7_swap 94 = .ok (.isub, 1) := dTo1_39.2.2.2.2.2.1.2.2.2.2.2.2.2.1
theorem dX7_swap_95 : decode cX7_swap 95 = .ok (.putfield 117, 3) := dTo1_39.2.2.2.2.2.1.2.2.2.2.2.2.2.2.1
theorem dX7_swap_98 : decode cX7_swap 98 = .ok (.iload 6, 2) := dTo1_39.2.2.2.2.2.1.2.2.2.2.2.2.2.2.2.1
theorem dTo1_40 : dQ cX7_swap [[(100, zop172, 0, 0)]] := dQ_of _ _ (by decide +kernel)
theorem dX7_swap_100 : decode cX7_swap 100 = .ok (.ireturn, 1) := dTo1_40.1.1
theorem dTo1_41 : dQ cX7_step [[(0, zop42, 0, 0), (1, zop27, 0, 0), (2, zop184, 0, 123), (5, zop28, 0, 0), (6, zop17, 254, 192), (9, zop17, 1, 64), (12, zop184, 0, 113), (15, zop154, 0, 7), (18, zop4, 0, 0), (19, zop167, 0, 4)], [(22, zop3, 0, 0), (23, zop182, 0, 126), (26, zop153, 0, 5), (29, zop3, 0, 0), (30, zop172, 0, 0), (31, zop42, 0, 0), (32, zop180, 0, 28), (35, zop27, 0, 0), (36, zop46, 0, 0), (37, zop154, 0, 23)], [(40, zop42, 0, 0), (41, zop180, 0, 31), (44, zop27, 0, 0), (45, zop46, 0, 0), (46, zop28, 0, 0), (47, zop96, 0, 0), (48, zop17, 255, 96), (51, zop17, 0, 160), (54, zop184, 0, 113), (57, zop154, 0, 10)], [(60, zop42, 0, 0), (61, zop182, 0, 134), (64, zop167, 0, 18), (67, zop42, 0, 0), (68, zop27, 0, 0), (69, zop3, 0, 0), (70, zop42, 0, 0), (71, zop180, 0, 31), (74, zop27, 0, 0), (75, zop46, 0, 0)], [(76, zop28, 0, 0), (77, zop96, 0, 0), (78, zop3, 0, 0), (79, zop182, 0, 130), (82, zop172, 0, 0)]] := dQ_of _ _ (by decide +kernel)
theorem dX7_step_0 : decode cX7_step 0 = .ok (.aload_n 0, 1) := dTo1_41.1.1
theorem dX7_step_1 : decode cX7_step 1 = .ok (.iload_n 1, 1) := dTo1_41.1.2.1
theorem dX7_step_2 : decode cX7_step 2 = .ok (.invokestatic 123, 3) := dTo1_41.1.2.2.1
theorem dX7_step_5 : decode cX7_step 5 = .ok (.iload_n 2, 1) := dTo1_41.1.2.2.2.1
theorem dX7_step_6 : decode cX7_step 6 = .ok (.sipush (-320), 3) := dTo1_41.1.2.2.2.2.1
theorem dX7_step_9 : decode cX7_step 9 = .ok (.sipush 320, 3) := dTo1_41.1.2.2.2.2.2.1
theorem dX7_step_12 : decode cX7_step 12 = .ok (.invokestatic 113, 3) := dTo1_41.1.2.2.2.2.2.2.1
theorem dX7_step_15 : decode cX7_step 15 = .ok (.ifCond .ne 7, 3) := dTo1_41.1.2.2.2.2.2.2.2.1
theorem dX7_step_18 : decode cX7_step 18 = .ok (.iconst 1, 1) := dTo1_41.1.2.2.2.2.2.2.2.2.1
theorem dX7_step_19 : decode cX7_step 19 = .ok (.goto 4, 3) := dTo1_41.1.2.2.2.2.2.2.2.2.2.1
theorem dX7_step_22 : decode cX7_step 22 = .ok (.iconst 0, 1) := dTo1_41.2.1.1
theorem dX7_step_23 : decode cX7_step 23 = .ok (.invokevirtual 126, 3) := dTo1_41.2.1.2.1
theorem dX7_step_26 : decode cX7_step 26 = .ok (.ifCond .eq 5, 3) := dTo1_41.2.1.2.2.1
theorem dX7_step_29 : decode cX7_step 29 = .ok (.iconst 0, 1) := dTo1_41.2.1.2.2.2.1
theorem dX7_step_30 : decode cX7_step 30 = .ok (.ireturn, 1) := dTo1_41.2.1.2.2.2.2.1
theorem dX7_step_31 : decode cX7_step 31 = .ok (.aload_n 0, 1) := dTo1_41.2.1.2.2.2.2.2.1
theorem dX7_step_32 : decode cX7_step 32 = .ok (.getfield 28, 3) := dTo1_41.2.1.2.2.2.2.2.2.1
theorem dX7_step_35 : decode cX7_step 35 = .ok (.iload_n 1, 1) := dTo1_41.2.1.2.2.2.2.2.2.2.1
theorem dX7_step_36 : decode cX7_step 36 = .ok (.iaload, 1) := dTo1_41.2.1.2.2.2.2.2.2.2.2.1
theorem dX7_step_37 : decode cX7_step 37 = .ok (.ifCond .ne 23, 3) := dTo1_41.2.1.2.2.2.2.2.2.2.2.2.1
theorem dX7_step_40 : decode cX7_step 40 = .ok (.aload_n 0, 1) := dTo1_41.2.2.1.1
theorem dX7_step_41 : decode cX7_step 41 = .ok (.getfield 31, 3) := dTo1_41.2.2.1.2.1
theorem dX7_step_44 : decode cX7_step 44 = .ok (.iload_n 1, 1) := dTo1_41.2.2.1.2.2.1
theorem dX7_step_45 : decode cX7_step 45 = .ok (.iaload, 1) := dTo1_41.2.2.1.2.2.2.1
theorem dX7_step_46 : decode cX7_step 46 = .ok (.iload_n 2, 1) := dTo1_41.2.2.1.2.2.2.2.1
theorem dX7_step_47 : decode cX7_step 47 = .ok (.iadd, 1) := dTo1_41.2.2.1.2.2.2.2.2.1
theorem dX7_step_48 : decode cX7_step 48 = .ok (.sipush (-160), 3) := dTo1_41.2.2.1.2.2.2.2.2.2.1
theorem dX7_step_51 : decode cX7_step 51 = .ok (.sipush 160, 3) := dTo1_41.2.2.1.2.2.2.2.2.2.2.1
theorem dX7_step_54 : decode cX7_step 54 = .ok (.invokestatic 113, 3) := dTo1_41.2.2.1.2.2.2.2.2.2.2.2.1
theorem dX7_step_57 : decode cX7_step 57 = .ok (.ifCond .ne 10, 3) := dTo1_41.2.2.1.2.2.2.2.2.2.2.2.2.1
theorem dX7_step_60 : decode cX7_step 60 = .ok (.aload_n 0, 1) := dTo1_41.2.2.2.1.1
theorem dX7_step_61 : decode cX7_step 61 = .ok (.invokevirtual 134, 3) := dTo1_41.2.2.2.1.2.1
theorem dX7_step_64 : decode cX7_step 64 = .ok (.goto 18, 3) := dTo1_41.2.2.2.1.2.2.1
theorem dX7_step_67 : decode cX7_step 67 = .ok (.aload_n 0, 1) := dTo1_41.2.2.2.1.2.2.2.1
theorem dX7_step_68 : decode cX7_step 68 = .ok (.iload_n 1, 1) := dTo1_41.2.2.2.1.2.2.2.2.1
theorem dX7_step_69 : decode cX7_step 69 = .ok (.iconst 0, 1) := dTo1_41.2.2.2.1.2.2.2.2.2.1
theorem dX7_step_70 : decode cX7_step 70 = .ok (.aload_n 0, 1) := dTo1_41.2.2.2.1.2.2.2.2.2.2.1
theorem dX7_step_71 : decode cX7_step 71 = .ok (.getfield 31, 3) := dTo1_41.2.2.2.1.2.2.2.2.2.2.2.1
theorem dX7_step_74 : decode cX7_step 74 = .ok (.iload_n 1, 1) := dTo1_41.2.2.2.1.2.2.2.2.2.2.2.2.1
theorem dX7_step_75 : decode cX7_step 75 = .ok (.iaload, 1) := dTo1_41.2.2.2.1.2.2.2.2.2.2.2.2.2.1
theorem dX7_step_76 : decode cX7_step 76 = .ok (.iload_n 2, 1) := dTo1_41.2.2.2.2.1.1
theorem dX7_step_77 : decode cX7_step 77 = .ok (.iadd, 1) := dTo1_41.2.2.2.2.1.2.1
theorem dX7_step_78 : decode cX7_step 78 = .ok (.iconst 0, 1) := dTo1_41.2.2.2.2.1.2.2.1
theorem dX7_step_79 : decode cX7_step 79 = .ok (.invokevirtual 130, 3) := dTo1_41.2.2.2.2.1.2.2.2.1
theorem dX7_step_82 : decode cX7_step 82 = .ok (.ireturn, 1) := dTo1_41.2.2.2.2.1.2.2.2.2.1
theorem dTo1_42 : dQ cX7_turn [[(0, zop42, 0, 0), (1, zop27, 0, 0), (2, zop184, 0, 123), (5, zop3, 0, 0), (6, zop182, 0, 126), (9, zop153, 0, 5), (12, zop3, 0, 0), (13, zop172, 0, 0), (14, zop42, 0, 0), (15, zop180, 0, 28)], [(18, zop27, 0, 0), (19, zop46, 0, 0), (20, zop4, 0, 0), (21, zop164, 0, 8), (24, zop42, 0, 0), (25, zop182, 0, 134), (28, zop172, 0, 0), (29, zop42, 0, 0), (30, zop180, 0, 28), (33, zop27, 0, 0)], [(34, zop46, 0, 0), (35, zop4, 0, 0), (36, zop159, 0, 12), (39, zop42, 0, 0), (40, zop180, 0, 31), (43, zop27, 0, 0), (44, zop46, 0, 0), (45, zop154, 0, 7), (48, zop4, 0, 0), (49, zop167, 0, 4)], [(52, zop3, 0, 0), (53, zop61, 0, 0), (54, zop42, 0, 0), (55, zop27, 0, 0), (56, zop42, 0, 0), (57, zop180, 0, 28), (60, zop27, 0, 0), (61, zop46, 0, 0), (62, zop42, 0, 0), (63, zop180, 0, 31)], [(66, zop27, 0, 0), (67, zop46, 0, 0), (68, zop116, 0, 0), (69, zop28, 0, 0), (70, zop153, 0, 16), (73, zop42, 0, 0), (74, zop180, 0, 34), (77, zop27, 0, 0), (78, zop51, 0, 0), (79, zop154, 0, 7)], [(82, zop4, 0, 0), (83, zop167, 0, 4), (86, zop3, 0, 0), (87, zop182, 0, 130), (90, zop172, 0, 0)]] := dQ_of _ _ (by decide +kernel)
theorem dX7_turn_0 : decode cX7_turn 0 = .ok (.aload_n 0, 1) := dTo1_42.1.1
theorem dX7_turn_1 : decode cX7_turn 1 = .ok (.iload_n 1, 1) := dTo1_42.1.2.1
theorem dX7_turn_2 : decode cX7_turn 2 = .ok (.invokestatic 123, 3) := dTo1_42.1.2.2.1
theorem dX7_turn_5 : decode cX7_turn 5 = .ok (.iconst 0, 1) := dTo1_42.1.2.2.2.1
theorem dX7_turn_6 : decode cX7_turn 6 = .ok (.invokevirtual 126, 3) := dTo1_42.1.2.2.2.2.1
theorem dX7_turn_9 : decode cX7_turn 9 = .ok (.ifCond .eq 5, 3) := dTo1_42.1.2.2.2.2.2.1
theorem dX7_turn_12 : decode cX7_turn 12 = .ok (.iconst 0, 1) := dTo1_42.1.2.2.2.2.2.2.1
theorem dX7_turn_13 : decode cX7_turn 13 = .ok (.ireturn, 1) := dTo1_42.1.2.2.2.2.2.2.2.1
theorem dX7_turn_14 : decode cX7_turn 14 = .ok (.aload_n 0, 1) := dTo1_42.1.2.2.2.2.2.2.2.2.1
theorem dX7_turn_15 : decode cX7_turn 15 = .ok (.getfield 28, 3) := dTo1_42.1.2.2.2.2.2.2.2.2.2.1
theorem dX7_turn_18 : decode cX7_turn 18 = .ok (.iload_n 1, 1) := dTo1_42.2.1.1
theorem dX7_turn_19 : decode cX7_turn 19 = .ok (.iaload, 1) := dTo1_42.2.1.2.1
theorem dX7_turn_20 : decode cX7_turn 20 = .ok (.iconst 1, 1) := dTo1_42.2.1.2.2.1
theorem dX7_turn_21 : decode cX7_turn 21 = .ok (.if_icmp .le 8, 3) := dTo1_42.2.1.2.2.2.1
theorem dX7_turn_24 : decode cX7_turn 24 = .ok (.aload_n 0, 1) := dTo1_42.2.1.2.2.2.2.1
theorem dX7_turn_25 : decode cX7_turn 25 = .ok (.invokevirtual 134, 3) := dTo1_42.2.1.2.2.2.2.2.1
theorem dX7_turn_28 : decode cX7_turn 28 = .ok (.ireturn, 1) := dTo1_42.2.1.2.2.2.2.2.2.1
theorem dX7_turn_29 : decode cX7_turn 29 = .ok (.aload_n 0, 1) := dTo1_42.2.1.2.2.2.2.2.2.2.1
theorem dX7_turn_30 : decode cX7_turn 30 = .ok (.getfield 28, 3) := dTo1_42.2.1.2.2.2.2.2.2.2.2.1
theorem dX7_turn_33 : decode cX7_turn 33 = .ok (.iload_n 1, 1) := dTo1_42.2.1.2.2.2.2.2.2.2.2.2.1
theorem dX7_turn_34 : decode cX7_turn 34 = .ok (.iaload, 1) := dTo1_42.2.2.1.1
theorem dX7_turn_35 : decode cX7_turn 35 = .ok (.iconst 1, 1) := dTo1_42.2.2.1.2.1
theorem dX7_turn_36 : decode cX7_turn 36 = .ok (.if_icmp .eq 12, 3) := dTo1_42.2.2.1.2.2.1
theorem dX7_turn_39 : decode cX7_turn 39 = .ok (.aload_n 0, 1) := dTo1_42.2.2.1.2.2.2.1
theorem dX7_turn_40 : decode cX7_turn 40 = .ok (.getfield 31, 3) := dTo1_42.2.2.1.2.2.2.2.1
theorem dX7_turn_43 : decode cX7_turn 43 = .ok (.iload_n 1, 1) := dTo1_42.2.2.1.2.2.2.2.2.1
theorem dX7_turn_44 : decode cX7_turn 44 = .ok (.iaload, 1) := dTo1_42.2.2.1.2.2.2.2.2.2.1
theorem dX7_turn_45 : decode cX7_turn 45 = .ok (.ifCond .ne 7, 3) := dTo1_42.2.2.1.2.2.2.2.2.2.2.1
theorem dX7_turn_48 : decode cX7_turn 48 = .ok (.iconst 1, 1) := dTo1_42.2.2.1.2.2.2.2.2.2.2.2.1
theorem dX7_turn_49 : decode cX7_turn 49 = .ok (.goto 4, 3) := dTo1_42.2.2.1.2.2.2.2.2.2.2.2.2.1
theorem dX7_turn_52 : decode cX7_turn 52 = .ok (.iconst 0, 1) := dTo1_42.2.2.2.1.1
theorem dX7_turn_53 : decode cX7_turn 53 = .ok (.istore_n 2, 1) := dTo1_42.2.2.2.1.2.1
theorem dX7_turn_54 : decode cX7_turn 54 = .ok (.aload_n 0, 1) := dTo1_42.2.2.2.1.2.2.1
theorem dX7_turn_55 : decode cX7_turn 55 = .ok (.iload_n 1, 1) := dTo1_42.2.2.2.1.2.2.2.1
theorem dX7_turn_56 : decode cX7_turn 56 = .ok (.aload_n 0, 1) := dTo1_42.2.2.2.1.2.2.2.2.1
theorem dX7_turn_57 : decode cX7_turn 57 = .ok (.getfield 28, 3) := dTo1_42.2.2.2.1.2.2.2.2.2.1
theorem dX7_turn_60 : decode cX7_turn 60 = .ok (.iload_n 1, 1) := dTo1_42.2.2.2.1.2.2.2.2.2.2.1
theorem dX7_turn_61 : decode cX7_turn 61 = .ok (.iaload, 1) := dTo1_42.2.2.2.1.2.2.2.2.2.2.2.1
theorem dX7_turn_62 : decode cX7_turn 62 = .ok (.aload_n 0, 1) := dTo1_42.2.2.2.1.2.2.2.2.2.2.2.2.1
theorem dX7_turn_63 : decode cX7_turn 63 = .ok (.getfield 31, 3) := dTo1_42.2.2.2.1.2.2.2.2.2.2.2.2.2.1
theorem dX7_turn_66 : decode cX7_turn 66 = .ok (.iload_n 1, 1) := dTo1_42.2.2.2.2.1.1
theorem dX7_turn_67 : decode cX7_turn 67 = .ok (.iaload, 1) := dTo1_42.2.2.2.2.1.2.1
theorem dX7_turn_68 : decode cX7_turn 68 = .ok (.ineg, 1) := dTo1_42.2.2.2.2.1.2.2.1
theorem dX7_turn_69 : decode cX7_turn 69 = .ok (.iload_n 2, 1) := dTo1_42.2.2.2.2.1.2.2.2.1
theorem dX7_turn_70 : decode cX7_turn 70 = .ok (.ifCond .eq 16, 3) := dTo1_42.2.2.2.2.1.2.2.2.2.1
theorem dX7_turn_73 : decode cX7_turn 73 = .ok (.aload_n 0, 1) := dTo1_42.2.2.2.2.1.2.2.2.2.2.1
theorem dX7_turn_74 : decode cX7_turn 74 = .ok (.getfield 34, 3) := dTo1_42.2.2.2.2.1.2.2.2.2.2.2.1
theorem dX7_turn_77 : decode cX7_turn 77 = .ok (.iload_n 1, 1) := dTo1_42.2.2.2.2.1.2.2.2.2.2.2.2.1
theorem dX7_turn_78 : decode cX7_turn 78 = .ok (.baload, 1) := dTo1_42.2.2.2.2.1.2.2.2.2.2.2.2.2.1
theorem dX7_turn_79 : decode cX7_turn 79 = .ok (.ifCond .ne 7, 3) := dTo1_42.2.2.2.2.1.2.2.2.2.2.2.2.2.2.1
theorem dX7_turn_82 : decode cX7_turn 82 = .ok (.iconst 1, 1) := dTo1_42.2.2.2.2.2.1.1
theorem dX7_turn_83 : decode cX7_turn 83 = .ok (.goto 4, 3) := dTo1_42.2.2.2.2.2.1.2.1
theorem dX7_turn_86 : decode cX7_turn 86 = .ok (.iconst 0, 1) := dTo1_42.2.2.2.2.2.1.2.2.1
theorem dX7_turn_87 : decode cX7_turn 87 = .ok (.invokevirtual 130, 3) := dTo1_42.2.2.2.2.2.1.2.2.2.1
theorem dX7_turn_90 : decode cX7_turn 90 = .ok (.ireturn, 1) := dTo1_42.2.2.2.2.2.1.2.2.2.2.1
theorem dX7_become_25 : decode cX7_become 25 = .ok (.newarray .int, 2) := by decide +kernel
theorem dX7_become_43 : decode cX7_become 43 = .ok (.newarray .int, 2) := by decide +kernel
theorem dX7_become_82 : decode cX7_become 82 = .ok (.newarray .int, 2) := by decide +kernel
theorem dTo1_43 : dQ cX7_become [[(0, zop27, 0, 0), (1, zop4, 0, 0), (2, zop160, 0, 9), (5, zop26, 0, 0), (6, zop29, 0, 0), (7, zop184, 0, 144), (10, zop176, 0, 0), (11, zop27, 0, 0), (12, zop154, 0, 54), (15, zop28, 0, 0)], [(16, zop154, 0, 50), (19, zop26, 0, 0), (20, zop4, 0, 0), (21, zop160, 0, 21), (24, zop6, 0, 0), (27, zop89, 0, 0), (28, zop3, 0, 0), (29, zop3, 0, 0), (30, zop79, 0, 0), (31, zop89, 0, 0)], [(32, zop4, 0, 0), (33, zop7, 0, 0), (34, zop79, 0, 0), (35, zop89, 0, 0), (36, zop5, 0, 0), (37, zop3, 0, 0), (38, zop79, 0, 0), (39, zop167, 0, 26), (42, zop6, 0, 0), (45, zop89, 0, 0)], [(46, zop3, 0, 0), (47, zop3, 0, 0), (48, zop79, 0, 0), (49, zop89, 0, 0), (50, zop4, 0, 0), (51, zop3, 0, 0), (52, zop79, 0, 0), (53, zop89, 0, 0), (54, zop5, 0, 0), (55, zop29, 0, 0)], [(56, zop153, 0, 7), (59, zop4, 0, 0), (60, zop167, 0, 4), (63, zop3, 0, 0), (64, zop79, 0, 0), (65, zop176, 0, 0), (66, zop27, 0, 0), (67, zop154, 0, 30), (70, zop26, 0, 0), (71, zop6, 0, 0)], [(72, zop160, 0, 25), (75, zop28, 0, 0), (76, zop16, 252, 0), (78, zop160, 0, 19), (81, zop6, 0, 0), (84, zop89, 0, 0), (85, zop3, 0, 0), (86, zop4, 0, 0), (87, zop79, 0, 0), (88, zop89, 0, 0)]] := dQ_of _ _ (by decide +kernel)
theorem dX7_become_0 : decode cX7_become 0 = .ok (.iload_n 1, 1) := dTo1_43.1.1
theorem dX7_become_1 : decode cX7_become 1 = .ok (.iconst 1, 1) := dTo1_43.1.2.1
theorem dX7_become_2 : decode cX7_become 2 = .ok (.if_icmp .ne 9, 3) := dTo1_43.1.2.2.1
theorem dX7_become_5 : decode cX7_become 5 = .ok (.iload_n 0, 1) := dTo1_43.1.2.2.2.1
theorem dX7_become_6 : decode cX7_become 6 = .ok (.iload_n 3, 1) := dTo1_43.1.2.2.2.2.1
theorem dX7_become_7 : decode cX7_become 7 = .ok (.invokestatic 144, 3) := dTo1_43.1.2.2.2.2.2.1
theorem dX7_become_10 : decode cX7_become 10 = .ok (.areturn, 1) := dTo1_43.1.2.2.2.2.2.2.1
theorem dX7_become_11 : decode cX7_become 11 = .ok (.iload_n 1, 1) := dTo1_43.1.2.2.2.2.2.2.2.1
theorem dX7_become_12 : decode cX7_become 12 = .ok (.ifCond .ne 54, 3) := dTo1_43.1.2.2.2.2.2.2.2.2.1
theorem dX7_become_15 : decode cX7_become 15 = .ok (.iload_n 2, 1) := dTo1_43.1.2.2.2.2.2.2.2.2.2.1
theorem dX7_become_16 : decode cX7_become 16 = .ok (.ifCond .ne 50, 3) := dTo1_43.2.1.1
theorem dX7_become_19 : decode cX7_become 19 = .ok (.iload_n 0, 1) := dTo1_43.2.1.2.1
theorem dX7_become_20 : decode cX7_become 20 = .ok (.iconst 1, 1) := dTo1_43.2.1.2.2.1
theorem dX7_become_21 : decode cX7_become 21 = .ok (.if_icmp .ne 21, 3) := dTo1_43.2.1.2.2.2.1
theorem dX7_become_24 : decode cX7_become 24 = .ok (.iconst 3, 1) := dTo1_43.2.1.2.2.2.2.1
theorem dX7_become_27 : decode cX7_become 27 = .ok (.dup, 1) := dTo1_43.2.1.2.2.2.2.2.1
theorem dX7_become_28 : decode cX7_become 28 = .ok (.iconst 0, 1) := dTo1_43.2.1.2.2.2.2.2.2.1
theorem dX7_become_29 : decode cX7_become 29 = .ok (.iconst 0, 1) := dTo1_43.2.1.2.2.2.2.2.2.2.1
theorem dX7_become_30 : decode cX7_become 30 = .ok (.iastore, 1) := dTo1_43.2.1.2.2.2.2.2.2.2.2.1
theorem dX7_become_31 : decode cX7_become 31 = .ok (.dup, 1) := dTo1_43.2.1.2.2.2.2.2.2.2.2.2.1
theorem dX7_become_32 : decode cX7_become 32 = .ok (.iconst 1, 1) := dTo1_43.2.2.1.1
theorem dX7_become_33 : decode cX7_become 33 = .ok (.iconst 4, 1) := dTo1_43.2.2.1.2.1
theorem dX7_become_34 : decode cX7_become 34 = .ok (.iastore, 1) := dTo1_43.2.2.1.2.2.1
theorem dX7_become_35 : decode cX7_become 35 = .ok (.dup, 1) := dTo1_43.2.2.1.2.2.2.1
theorem dX7_become_36 : decode cX7_become 36 = .ok (.iconst 2, 1) := dTo1_43.2.2.1.2.2.2.2.1
theorem dX7_become_37 : decode cX7_become 37 = .ok (.iconst 0, 1) := dTo1_43.2.2.1.2.2.2.2.2.1
theorem dX7_become_38 : decode cX7_become 38 = .ok (.iastore, 1) := dTo1_43.2.2.1.2.2.2.2.2.2.1
theorem dX7_become_39 : decode cX7_become 39 = .ok (.goto 26, 3) := dTo1_43.2.2.1.2.2.2.2.2.2.2.1
theorem dX7_become_42 : decode cX7_become 42 = .ok (.iconst 3, 1) := dTo1_43.2.2.1.2.2.2.2.2.2.2.2.1
theorem dX7_become_45 : decode cX7_become 45 = .ok (.dup, 1) := dTo1_43.2.2.1.2.2.2.2.2.2.2.2.2.1
theorem dX7_become_46 : decode cX7_become 46 = .ok (.iconst 0, 1) := dTo1_43.2.2.2.1.1
theorem dX7_become_47 : decode cX7_become 47 = .ok (.iconst 0, 1) := dTo1_43.2.2.2.1.2.1
theorem dX7_become_48 : decode cX7_become 48 = .ok (.iastore, 1) := dTo1_43.2.2.2.1.2.2.1
theorem dX7_become_49 : decode cX7_become 49 = .ok (.dup, 1) := dTo1_43.2.2.2.1.2.2.2.1
theorem dX7_become_50 : decode cX7_become 50 = .ok (.iconst 1, 1) := dTo1_43.2.2.2.1.2.2.2.2.1
theorem dX7_become_51 : decode cX7_become 51 = .ok (.iconst 0, 1) := dTo1_43.2.2.2.1.2.2.2.2.2.1
theorem dX7_become_52 : decode cX7_become 52 = .ok (.iastore, 1) := dTo1_43.2.2.2.1.2.2.2.2.2.2.1
theorem dX7_become_53 : decode cX7_become 53 = .ok (.dup, 1) := dTo1_43.2.2.2.1.2.2.2.2.2.2.2.1
theorem dX7_become_54 : decode cX7_become 54 = .ok (.iconst 2, 1) := dTo1_43.2.2.2.1.2.2.2.2.2.2.2.2.1
theorem dX7_become_55 : decode cX7_become 55 = .ok (.iload_n 3, 1) := dTo1_43.2.2.2.1.2.2.2.2.2.2.2.2.2.1
theorem dX7_become_56 : decode cX7_become 56 = .ok (.ifCond .eq 7, 3) := dTo1_43.2.2.2.2.1.1
theorem dX7_become_59 : decode cX7_become 59 = .ok (.iconst 1, 1) := dTo1_43.2.2.2.2.1.2.1
theorem dX7_become_60 : decode cX7_become 60 = .ok (.goto 4, 3) := dTo1_43.2.2.2.2.1.2.2.1
theorem dX7_become_63 : decode cX7_become 63 = .ok (.iconst 0, 1) := dTo1_43.2.2.2.2.1.2.2.2.1
theorem dX7_become_64 : decode cX7_become 64 = .ok (.iastore, 1) := dTo1_43.2.2.2.2.1.2.2.2.2.1
theorem dX7_become_65 : decode cX7_become 65 = .ok (.areturn, 1) := dTo1_43.2.2.2.2.1.2.2.2.2.2.1
theorem dX7_become_66 : decode cX7_become 66 = .ok (.iload_n 1, 1) := dTo1_43.2.2.2.2.1.2.2.2.2.2.2.1
theorem dX7_become_67 : decode cX7_become 67 = .ok (.ifCond .ne 30, 3) := dTo1_43.2.2.2.2.1.2.2.2.2.2.2.2.1
theorem dX7_become_70 : decode cX7_become 70 = .ok (.iload_n 0, 1) := dTo1_43.2.2.2.2.1.2.2.2.2.2.2.2.2.1
theorem dX7_become_71 : decode cX7_become 71 = .ok (.iconst 3, 1) := dTo1_43.2.2.2.2.1.2.2.2.2.2.2.2.2.2.1
theorem dX7_become_72 : decode cX7_become 72 = .ok (.if_icmp .ne 25, 3) := dTo1_43.2.2.2.2.2.1.1
theorem dX7_become_75 : decode cX7_become 75 = .ok (.iload_n 2, 1) := dTo1_43.2.2.2.2.2.1.2.1
theorem dX7_become_76 : decode cX7_become 76 = .ok (.bipush (-4), 2) := dTo1_43.2.2.2.2.2.1.2.2.1
theorem dX7_become_78 : decode cX7_become 78 = .ok (.if_icmp .ne 19, 3) := dTo1_43.2.2.2.2.2.1.2.2.2.1
theorem dX7_become_81 : decode cX7_become 81 = .ok (.iconst 3, 1) := dTo1_43.2.2.2.2.2.1.2.2.2.2.1
theorem dX7_become_84 : decode cX7_become 84 = .ok (.dup, 1) := dTo1_43.2.2.2.2.2.1.2.2.2.2.2.1
theorem dX7_become_85 : decode cX7_become 85 = .ok (.iconst 0, 1) := dTo1_43.2.2.2.2.2.1.2.2.2.2.2.2.1
theorem dX7_become_86 : decode cX7_become 86 = .ok (.iconst 1, 1) := dTo1_43.2.2.2.2.2.1.2.2.2.2.2.2.2.1
theorem dX7_become_87 : decode cX7_become 87 = .ok (.iastore, 1) := dTo1_43.2.2.2.2.2.1.2.2.2.2.2.2.2.2.1
theorem dX7_become_88 : decode cX7_become 88 = .ok (.dup, 1) := dTo1_43.2.2.2.2.2.1.2.2.2.2.2.2.2.2.2.1
theorem dX7_become_119 : decode cX7_become 119 = .ok (.newarray .int, 2) := by decide +kernel
theorem dX7_become_151 : decode cX7_become 151 = .ok (.newarray .int, 2) := by decide +kernel
theorem dTo1_44 : dQ cX7_become [[(89, zop4, 0, 0), (90, zop3, 0, 0), (91, zop79, 0, 0), (92, zop89, 0, 0), (93, zop5, 0, 0), (94, zop4, 0, 0), (95, zop79, 0, 0), (96, zop176, 0, 0), (97, zop27, 0, 0), (98, zop154, 0, 42)], [(101, zop28, 0, 0), (102, zop178, 0, 148), (105, zop26, 0, 0), (106, zop46, 0, 0), (107, zop178, 0, 151), (110, zop26, 0, 0), (111, zop46, 0, 0), (112, zop184, 0, 113), (115, zop153, 0, 23), (118, zop6, 0, 0)], [(121, zop89, 0, 0), (122, zop3, 0, 0), (123, zop26, 0, 0), (124, zop4, 0, 0), (125, zop96, 0, 0), (126, zop79, 0, 0), (127, zop89, 0, 0), (128, zop4, 0, 0), (129, zop28, 0, 0), (130, zop79, 0, 0)], [(131, zop89, 0, 0), (132, zop5, 0, 0), (133, zop3, 0, 0), (134, zop79, 0, 0), (135, zop167, 0, 4), (138, zop1, 0, 0), (139, zop176, 0, 0), (140, zop26, 0, 0), (141, zop5, 0, 0), (142, zop160, 0, 25)], [(145, zop27, 0, 0), (146, zop7, 0, 0), (147, zop160, 0, 20), (150, zop6, 0, 0), (153, zop89, 0, 0), (154, zop3, 0, 0), (155, zop16, 6, 0), (157, zop79, 0, 0), (158, zop89, 0, 0), (159, zop4, 0, 0)], [(160, zop28, 0, 0), (161, zop79, 0, 0), (162, zop89, 0, 0), (163, zop5, 0, 0), (164, zop3, 0, 0), (165, zop79, 0, 0), (166, zop176, 0, 0), (167, zop26, 0, 0), (168, zop6, 0, 0), (169, zop160, 0, 34)]] := dQ_of _ _ (by decide +kernel)
theorem dX7_become_89 : decode cX7_become 89 = .ok (.iconst 1, 1) := dTo1_44.1.1
theorem dX7_become_90 : decode cX7_become 90 = .ok (.iconst 0, 1) := dTo1_44.1.2.1
theorem dX7_become_91 : decode cX7_become 91 = .ok (.iastore, 1) := dTo1_44.1.2.2.1
theorem dX7_become_92 : decode cX7_become 92 = .ok (.dup, 1) := dTo1_44.1.2.2.2.1
theorem dX7_become_93 : decode cX7_become 93 = .ok (.iconst 2, 1) := dTo1_44.1.2.2.2.2.1
theorem dX7_become_94 : decode cX7_become 94 = .ok (.iconst 1, 1) := dTo1_44.1.2.2.2.2.2.1
theorem dX7_become_95 : decode cX7_become 95 = .ok (.iastore, 1) := dTo1_44.1.2.2.2.2.2.2.1
theorem dX7_become_96 : decode cX7_become 96 = .ok (.areturn, 1) := dTo1_44.1.2.2.2.2.2.2.2.1
theorem dX7_become_97 : decode cX7_become 97 = .ok (.iload_n 1, 1) := dTo1_44.1.2.2.2.2.2.2.2.2.1
theorem dX7_become_98 : decode cX7_become 98 = .ok (.ifCond .ne 42, 3) := dTo1_44.1.2.2.2.2.2.2.2.2.2.1
theorem dX7_become_101 : decode cX7_become 101 = .ok (.iload_n 2, 1) := dTo1_44.2.1.1
theorem dX7_become_102 : decode cX7_become 102 = .ok (.getstatic 148, 3) := dTo1_44.2.1.2.1
theorem dX7_become_105 : decode cX7_become 105 = .ok (.iload_n 0, 1) := dTo1_44.2.1.2.2.1
theorem dX7_become_106 : decode cX7_become 106 = .ok (.iaload, 1) := dTo1_44.2.1.2.2.2.1
theorem dX7_become_107 : decode cX7_become 107 = .ok (.getstatic 151, 3) := dTo1_44.2.1.2.2.2.2.1
theorem dX7_become_110 : decode cX7_become 110 = .ok (.iload_n 0, 1) := dTo1_44.2.1.2.2.2.2.2.1
theorem dX7_become_111 : decode cX7_become 111 = .ok (.iaload, 1) := dTo1_44.2.1.2.2.2.2.2.2.1
theorem dX7_become_112 : decode cX7_become 112 = .ok (.invokestatic 113, 3) := dTo1_44.2.1.2.2.2.2.2.2.2.1
theorem dX7_become_115 : decode cX7_become 115 = .ok (.ifCond .eq 23, 3) := dTo1_44.2.1.2.2.2.2.2.2.2.2.1
theorem dX7_become_118 : decode cX7_become 118 = .ok (.iconst 3, 1) := dTo1_44.2.1.2.2.2.2.2.2.2.2.2.1
theorem dX7_become_121 : decode cX7_become 121 = .ok (.dup, 1) := dTo1_44.2.2.1.1
theorem dX7_become_122 : decode cX7_become 122 = .ok (.iconst 0, 1) := dTo1_44.2.2.1.2.1
theorem dX7_become_123 : decode cX7_become 123 = .ok (.iload_n 0, 1) := dTo1_44.2.2.1.2.2.1
theorem dX7_become_124 : decode cX7_become 124 = .ok (.iconst 1, 1) := dTo1_44.2.2.1.2.2.2.1
theorem dX7_become_125 : decode cX7_become 125 = .ok (.iadd, 1) := dTo1_44.2.2.1.2.2.2.2.1
theorem dX7_become_126 : decode cX7_become 126 = .ok (.iastore, 1) := dTo1_44.2.2.1.2.2.2.2.2.1
theorem dX7_become_127 : decode cX7_become 127 = .ok (.dup, 1) := dTo1_44.2.2.1.2.2.2.2.2.2.1
theorem dX7_become_128 : decode cX7_become 128 = .ok (.iconst 1, 1) := dTo1_44.2.2.1.2.2.2.2.2.2.2.1
theorem dX7_become_129 : decode cX7_become 129 = .ok (.iload_n 2, 1) := dTo1_44.2.2.1.2.2.2.2.2.2.2.2.1
theorem dX7_become_130 : decode cX7_become 130 = .ok (.iastore, 1) := dTo1_44.2.2.1.2.2.2.2.2.2.2.2.2.1
theorem dX7_become_131 : decode cX7_become 131 = .ok (.dup, 1) := dTo1_44.2.2.2.1.1
theorem dX7_become_132 : decode cX7_become 132 = .ok (.iconst 2, 1) := dTo1_44.2.2.2.1.2.1
theorem dX7_become_133 : decode cX7_become 133 = .ok (.iconst 0, 1) := dTo1_44.2.2.2.1.2.2.1
theorem dX7_become_134 : decode cX7_become 134 = .ok (.iastore, 1) := dTo1_44.2.2.2.1.2.2.2.1
theorem dX7_become_135 : decode cX7_become 135 = .ok (.goto 4, 3) := dTo1_44.2.2.2.1.2.2.2.2.1
theorem dX7_become_138 : decode cX7_become 138 = .ok (.aconst_null, 1) := dTo1_44.2.2.2.1.2.2.2.2.2.1
theorem dX7_become_139 : decode cX7_become 139 = .ok (.areturn, 1) := dTo1_44.2.2.2.1.2.2.2.2.2.2.1
theorem dX7_become_140 : decode cX7_become 140 = .ok (.iload_n 0, 1) := dTo1_44.2.2.2.1.2.2.2.2.2.2.2.1
theorem dX7_become_141 : decode cX7_become 141 = .ok (.iconst 2, 1) := dTo1_44.2.2.2.1.2.2.2.2.2.2.2.2.1
theorem dX7_become_142 : decode cX7_become 142 = .ok (.if_icmp .ne 25, 3) := dTo1_44.2.2.2.1.2.2.2.2.2.2.2.2.2.1
theorem dX7_become_145 : decode cX7_become 145 = .ok (.iload_n 1, 1) := dTo1_44.2.2.2.2.1.1
theorem dX7_become_146 : decode cX7_become 146 = .ok (.iconst 4, 1) := dTo1_44.2.2.2.2.1.2.1
theorem dX7_become_147 : decode cX7_become 147 = .ok (.if_icmp .ne 20, 3) := dTo1_44.2.2.2.2.1.2.2.1
theorem dX7_become_150 : decode cX7_become 150 = .ok (.iconst 3, 1) := dTo1_44.2.2.2.2.1.2.2.2.1
theorem dX7_become_153 : decode cX7_become 153 = .ok (.dup, 1) := dTo1_44.2.2.2.2.1.2.2.2.2.1
theorem dX7_become_154 : decode cX7_become 154 = .ok (.iconst 0, 1) := dTo1_44.2.2.2.2.1.2.2.2.2.2.1
theorem dX7_become_155 : decode cX7_become 155 = .ok (.bipush 6, 2) := dTo1_44.2.2.2.2.1.2.2.2.2.2.2.1
theorem dX7_become_157 : decode cX7_become 157 = .ok (.iastore, 1) := dTo1_44.2.2.2.2.1.2.2.2.2.2.2.2.1
theorem dX7_become_158 : decode cX7_become 158 = .ok (.dup, 1) := dTo1_44.2.2.2.2.1.2.2.2.2.2.2.2.2.1
theorem dX7_become_159 : decode cX7_become 159 = .ok (.iconst 1, 1) := dTo1_44.2.2.2.2.1.2.2.2.2.2.2.2.2.2.1
theorem dX7_become_160 : decode cX7_become 160 = .ok (.iload_n 2, 1) := dTo1_44.2.2.2.2.2.1.1
theorem dX7_become_161 : decode cX7_become 161 = .ok (.iastore, 1) := dTo1_44.2.2.2.2.2.1.2.1
theorem dX7_become_162 : decode cX7_become 162 = .ok (.dup, 1) := dTo1_44.2.2.2.2.2.1.2.2.1
theorem dX7_become_163 : decode cX7_become 163 = .ok (.iconst 2, 1) := dTo1_44.2.2.2.2.2.1.2.2.2.1
theorem dX7_become_164 : decode cX7_become 164 = .ok (.iconst 0, 1) := dTo1_44.2.2.2.2.2.1.2.2.2.2.1
theorem dX7_become_165 : decode cX7_become 165 = .ok (.iastore, 1) := dTo1_44.2.2.2.2.2.1.2.2.2.2.2.1
theorem dX7_become_166 : decode cX7_become 166 = .ok (.areturn, 1) := dTo1_44.2.2.2.2.2.1.2.2.2.2.2.2.1
theorem dX7_become_167 : decode cX7_become 167 = .ok (.iload_n 0, 1) := dTo1_44.2.2.2.2.2.1.2.2.2.2.2.2.2.1
theorem dX7_become_168 : decode cX7_become 168 = .ok (.iconst 3, 1) := dTo1_44.2.2.2.2.2.1.2.2.2.2.2.2.2.2.1
theorem dX7_become_169 : decode cX7_become 169 = .ok (.if_icmp .ne 34, 3) := dTo1_44.2.2.2.2.2.1.2.2.2.2.2.2.2.2.2.1
theorem dX7_become_178 : decode cX7_become 178 = .ok (.newarray .int, 2) := by decide +kernel
theorem dTo1_45 : dQ cX7_become [[(172, zop27, 0, 0), (173, zop6, 0, 0), (174, zop160, 0, 29), (177, zop6, 0, 0), (180, zop89, 0, 0), (181, zop3, 0, 0), (182, zop28, 0, 0), (183, zop16, 252, 0), (185, zop162, 0, 7), (188, zop8, 0, 0)], [(189, zop167, 0, 4), (192, zop3, 0, 0), (193, zop79, 0, 0), (194, zop89, 0, 0), (195, zop4, 0, 0), (196, zop28, 0, 0), (197, zop79, 0, 0), (198, zop89, 0, 0), (199, zop5, 0, 0), (200, zop3, 0, 0)], [(201, zop79, 0, 0), (202, zop176, 0, 0), (203, zop1, 0, 0), (204, zop176, 0, 0)]] := dQ_of _ _ (by decide +kernel)
theorem dX7_become_172 : decode cX7_become 172 = .ok (.iload_n 1, 1) := dTo1_45.1.1
theorem dX7_become_173 : decode cX7_become 173 = .ok (.iconst 3, 1) := dTo1_45.1.2.1
theorem dX7_become_174 : decode cX7_become 174 = .ok (.if_icmp .ne 29, 3) := dTo1_45.1.2.2.1
theorem dX7_become_177 : decode cX7_become 177 = .ok (.iconst 3, 1) := dTo1_45.1.2.2.2.1
theorem dX7_become_180 : decode cX7_become 180 = .ok (.dup, 1) := dTo1_45.1.2.2.2.2.1
theorem dX7_become_181 : decode cX7_become 181 = .ok (.iconst 0, 1) := dTo1_45.1.2.2.2.2.2.1
theorem dX7_become_182 : decode cX7_become 182 = .ok (.iload_n 2, 1) := dTo1_45.1.2.2.2.2.2.2.1
theorem dX7_become_183 : decode cX7_become 183 = .ok (.bipush (-4), 2) := dTo1_45.1.2.2.2.2.2.2.2.1
theorem dX7_become_185 : decode cX7_become 185 = .ok (.if_icmp .ge 7, 3) := dTo1_45.1.2.2.2.2.2.2.2.2.1
theorem dX7_become_188 : decode cX7_become 188 = .ok (.iconst 5, 1) := dTo1_45.1.2.2.2.2.2.2.2.2.2.1
theorem dX7_become_189 : decode cX7_become 189 = .ok (.goto 4, 3) := dTo1_45.2.1.1
theorem dX7_become_192 : decode cX7_become 192 = .ok (.iconst 0, 1) := dTo1_45.2.1.2.1
theorem dX7_become_193 : decode cX7_become 193 = .ok (.iastore, 1) := dTo1_45.2.1.2.2.1
theorem dX7_become_194 : decode cX7_become 194 = .ok (.dup, 1) := dTo1_45.2.1.2.2.2.1
theorem dX7_become_195 : decode cX7_become 195 = .ok (.iconst 1, 1) := dTo1_45.2.1.2.2.2.2.1
theorem dX7_become_196 : decode cX7_become 196 = .ok (.iload_n 2, 1) := dTo1_45.2.1.2.2.2.2.2.1
theorem dX7_become_197 : decode cX7_become 197 = .ok (.iastore, 1) := dTo1_45.2.1.2.2.2.2.2.2.1
theorem dX7_become_198 : decode cX7_become 198 = .ok (.dup, 1) := dTo1_45.2.1.2.2.2.2.2.2.2.1
theorem dX7_become_199 : decode cX7_become 199 = .ok (.iconst 2, 1) := dTo1_45.2.1.2.2.2.2.2.2.2.2.1
theorem dX7_become_200 : decode cX7_become 200 = .ok (.iconst 0, 1) := dTo1_45.2.1.2.2.2.2.2.2.2.2.2.1
theorem dX7_become_201 : decode cX7_become 201 = .ok (.iastore, 1) := dTo1_45.2.2.1.1
theorem dX7_become_202 : decode cX7_become 202 = .ok (.areturn, 1) := dTo1_45.2.2.1.2.1
theorem dX7_become_203 : decode cX7_become 203 = .ok (.aconst_null, 1) := dTo1_45.2.2.1.2.2.1
theorem dX7_become_204 : decode cX7_become 204 = .ok (.areturn, 1) := dTo1_45.2.2.1.2.2.2.1
theorem dX7_ofEndless_5 : decode cX7_ofEndless 5 = .ok (.newarray .int, 2) := by decide +kernel
theorem dX7_ofEndless_26 : decode cX7_ofEndless 26 = .ok (.newarray .int, 2) := by decide +kernel
theorem dX7_ofEndless_49 : decode cX7_ofEndless 49 = .ok (.newarray .int, 2) := by decide +kernel
theorem dTo1_46 : dQ cX7_ofEndless [[(0, zop27, 0, 0), (1, zop154, 0, 19), (4, zop6, 0, 0), (7, zop89, 0, 0), (8, zop3, 0, 0), (9, zop4, 0, 0), (10, zop79, 0, 0), (11, zop89, 0, 0), (12, zop4, 0, 0), (13, zop3, 0, 0)], [(14, zop79, 0, 0), (15, zop89, 0, 0), (16, zop5, 0, 0), (17, zop3, 0, 0), (18, zop79, 0, 0), (19, zop176, 0, 0), (20, zop26, 0, 0), (21, zop4, 0, 0), (22, zop160, 0, 21), (25, zop6, 0, 0)], [(28, zop89, 0, 0), (29, zop3, 0, 0), (30, zop3, 0, 0), (31, zop79, 0, 0), (32, zop89, 0, 0), (33, zop4, 0, 0), (34, zop3, 0, 0), (35, zop79, 0, 0), (36, zop89, 0, 0), (37, zop5, 0, 0)], [(38, zop3, 0, 0), (39, zop79, 0, 0), (40, zop167, 0, 28), (43, zop26, 0, 0), (44, zop5, 0, 0), (45, zop160, 0, 22), (48, zop6, 0, 0), (51, zop89, 0, 0), (52, zop3, 0, 0), (53, zop3, 0, 0)], [(54, zop79, 0, 0), (55, zop89, 0, 0), (56, zop4, 0, 0), (57, zop16, 252, 0), (59, zop79, 0, 0), (60, zop89, 0, 0), (61, zop5, 0, 0), (62, zop3, 0, 0), (63, zop79, 0, 0), (64, zop167, 0, 4)], [(67, zop1, 0, 0), (68, zop176, 0, 0)]] := dQ_of _ _ (by decide +kernel)
theorem dX7_ofEndless_0 : decode cX7_ofEndless 0 = .ok (.iload_n 1, 1) := dTo1_46.1.1
theorem dX7_ofEndless_1 : decode cX7_ofEndless 1 = .ok (.ifCond .ne 19, 3) := dTo1_46.1.2.1
theorem dX7_ofEndless_4 : decode cX7_ofEndless 4 = .ok (.iconst 3, 1) := dTo1_46.1.2.2.1
theorem dX7_ofEndless_7 : decode cX7_ofEndless 7 = .ok (.dup, 1) := dTo1_46.1.2.2.2.1
theorem dX7_ofEndless_8 : decode cX7_ofEndless 8 = .ok (.iconst 0, 1) := dTo1_46.1.2.2.2.2.1
theorem dX7_ofEndless_9 : decode cX7_ofEndless 9 = .ok (.iconst 1, 1) := dTo1_46.1.2.2.2.2.2.1
theorem dX7_ofEndless_10 : decode cX7_ofEndless 10 = .ok (.iastore, 1) := dTo1_46.1.2.2.2.2.2.2.1
theorem dX7_ofEndless_11 : decode cX7_ofEndless 11 = .ok (.dup, 1) := dTo1_46.1.2.2.2.2.2.2.2.1
theorem dX7_ofEndless_12 : decode cX7_ofEndless 12 = .ok (.iconst 1, 1) := dTo1_46.1.2.2.2.2.2.2.2.2.1
theorem dX7_ofEndless_13 : decode cX7_ofEndless 13 = .ok (.iconst 0, 1) := dTo1_46.1.2.2.2.2.2.2.2.2.2.1
theorem dX7_ofEndless_14 : decode cX7_ofEndless 14 = .ok (.iastore, 1) := dTo1_46.2.1.1
theorem dX7_ofEndless_15 : decode cX7_ofEndless 15 = .ok (.dup, 1) := dTo1_46.2.1.2.1
theorem dX7_ofEndless_16 : decode cX7_ofEndless 16 = .ok (.iconst 2, 1) := dTo1_46.2.1.2.2.1
theorem dX7_ofEndless_17 : decode cX7_ofEndless 17 = .ok (.iconst 0, 1) := dTo1_46.2.1.2.2.2.1
theorem dX7_ofEndless_18 : decode cX7_ofEndless 18 = .ok (.iastore, 1) := dTo1_46.2.1.2.2.2.2.1
theorem dX7_ofEndless_19 : decode cX7_ofEndless 19 = .ok (.areturn, 1) := dTo1_46.2.1.2.2.2.2.2.1
theorem dX7_ofEndless_20 : decode cX7_ofEndless 20 = .ok (.iload_n 0, 1) := dTo1_46.2.1.2.2.2.2.2.2.1
theorem dX7_ofEndless_21 : decode cX7_ofEndless 21 = .ok (.iconst 1, 1) := dTo1_46.2.1.2.2.2.2.2.2.2.1
theorem dX7_ofEndless_22 : decode cX7_ofEndless 22 = .ok (.if_icmp .ne 21, 3) := dTo1_46.2.1.2.2.2.2.2.2.2.2.1
theorem dX7_ofEndless_25 : decode cX7_ofEndless 25 = .ok (.iconst 3, 1) := dTo1_46.2.1.2.2.2.2.2.2.2.2.2.1
theorem dX7_ofEndless_28 : decode cX7_ofEndless 28 = .ok (.dup, 1) := dTo1_46.2.2.1.1
theorem dX7_ofEndless_29 : decode cX7_ofEndless 29 = .ok (.iconst 0, 1) := dTo1_46.2.2.1.2.1
theorem dX7_ofEndless_30 : decode cX7_ofEndless 30 = .ok (.iconst 0, 1) := dTo1_46.2.2.1.2.2.1
theorem dX7_ofEndless_31 : decode cX7_ofEndless 31 = .ok (.iastore, 1) := dTo1_46.2.2.1.2.2.2.1
theorem dX7_ofEndless_32 : decode cX7_ofEndless 32 = .ok (.dup, 1) := dTo1_46.2.2.1.2.2.2.2.1
theorem dX7_ofEndless_33 : decode cX7_ofEndless 33 = .ok (.iconst 1, 1) := dTo1_46.2.2.1.2.2.2.2.2.1
theorem dX7_ofEndless_34 : decode cX7_ofEndless 34 = .ok (.iconst 0, 1) := dTo1_46.2.2.1.2.2.2.2.2.2.1
theorem dX7_ofEndless_35 : decode cX7_ofEndless 35 = .ok (.iastore, 1) := dTo1_46.2.2.1.2.2.2.2.2.2.2.1
theorem dX7_ofEndless_36 : decode cX7_ofEndless 36 = .ok (.dup, 1) := dTo1_46.2.2.1.2.2.2.2.2.2.2.2.1
theorem dX7_ofEndless_37 : decode cX7_ofEndless 37 = .ok (.iconst 2, 1) := dTo1_46.2.2.1.2.2.2.2.2.2.2.2.2.1
theorem dX7_ofEndless_38 : decode cX7_ofEndless 38 = .ok (.iconst 0, 1) := dTo1_46.2.2.2.1.1
theorem dX7_ofEndless_39 : decode cX7_ofEndless 39 = .ok (.iastore, 1) := dTo1_46.2.2.2.1.2.1
theorem dX7_ofEndless_40 : decode cX7_ofEndless 40 = .ok (.goto 28, 3) := dTo1_46.2.2.2.1.2.2.1
theorem dX7_ofEndless_43 : decode cX7_ofEndless 43 = .ok (.iload_n 0, 1) := dTo1_46.2.2.2.1.2.2.2.1
theorem dX7_ofEndless_44 : decode cX7_ofEndless 44 = .ok (.iconst 2, 1) := dTo1_46.2.2.2.1.2.2.2.2.1
theorem dX7_ofEndless_45 : decode cX7_ofEndless 45 = .ok (.if_icmp .ne 22, 3) := dTo1_46.2.2.2.1.2.2.2.2.2.1
theorem dX7_ofEndless_48 : decode cX7_ofEndless 48 = .ok (.iconst 3, 1) := dTo1_46.2.2.2.1.2.2.2.2.2.2.1
theorem dX7_ofEndless_51 : decode cX7_ofEndless 51 = .ok (.dup, 1) := dTo1_46.2.2.2.1.2.2.2.2.2.2.2.1
theorem dX7_ofEndless_52 : decode cX7_ofEndless 52 = .ok (.iconst 0, 1) := dTo1_46.2.2.2.1.2.2.2.2.2.2.2.2.1
theorem dX7_ofEndless_53 : decode cX7_ofEndless 53 = .ok (.iconst 0, 1) := dTo1_46.2.2.2.1.2.2.2.2.2.2.2.2.2.1
theorem dX7_ofEndless_54 : decode cX7_ofEndless 54 = .ok (.iastore, 1) := dTo1_46.2.2.2.2.1.1
theorem dX7_ofEndless_55 : decode cX7_ofEndless 55 = .ok (.dup, 1) := dTo1_46.2.2.2.2.1.2.1
theorem dX7_ofEndless_56 : decode cX7_ofEndless 56 = .ok (.iconst 1, 1) := dTo1_46.2.2.2.2.1.2.2.1
theorem dX7_ofEndless_57 : decode cX7_ofEndless 57 = .ok (.bipush (-4), 2) := dTo1_46.2.2.2.2.1.2.2.2.1
theorem dX7_ofEndless_59 : decode cX7_ofEndless 59 = .ok (.iastore, 1) := dTo1_46.2.2.2.2.1.2.2.2.2.1
theorem dX7_ofEndless_60 : decode cX7_ofEndless 60 = .ok (.dup, 1) := dTo1_46.2.2.2.2.1.2.2.2.2.2.1
theorem dX7_ofEndless_61 : decode cX7_ofEndless 61 = .ok (.iconst 2, 1) := dTo1_46.2.2.2.2.1.2.2.2.2.2.2.1
theorem dX7_ofEndless_62 : decode cX7_ofEndless 62 = .ok (.iconst 0, 1) := dTo1_46.2.2.2.2.1.2.2.2.2.2.2.2.1
theorem dX7_ofEndless_63 : decode cX7_ofEndless 63 = .ok (.iastore, 1) := dTo1_46.2.2.2.2.1.2.2.2.2.2.2.2.2.1
theorem dX7_ofEndless_64 : decode cX7_ofEndless 64 = .ok (.goto 4, 3) := dTo1_46.2.2.2.2.1.2.2.2.2.2.2.2.2.2.1
theorem dX7_ofEndless_67 : decode cX7_ofEndless 67 = .ok (.aconst_null, 1) := dTo1_46.2.2.2.2.2.1.1
theorem dX7_ofEndless_68 : decode cX7_ofEndless 68 = .ok (.areturn, 1) := dTo1_46.2.2.2.2.2.1.2.1
theorem dTo1_47 : dQ cX7_isBack [[(0, zop42, 0, 0), (1, zop198, 0, 14), (4, zop42, 0, 0), (5, zop3, 0, 0), (6, zop46, 0, 0), (7, zop8, 0, 0), (8, zop160, 0, 7), (11, zop4, 0, 0), (12, zop167, 0, 4), (15, zop3, 0, 0)], [(16, zop172, 0, 0)]] := dQ_of _ _ (by decide +kernel)
theorem dX7_isBack_0 : decode cX7_isBack 0 = .ok (.aload_n 0, 1) := dTo1_47.1.1
theorem dX7_isBack_1 : decode cX7_isBack 1 = .ok (.ifnull 14, 3) := dTo1_47.1.2.1
theorem dX7_isBack_4 : decode cX7_isBack 4 = .ok (.aload_n 0, 1) := dTo1_47.1.2.2.1
theorem dX7_isBack_5 : decode cX7_isBack 5 = .ok (.iconst 0, 1) := dTo1_47.1.2.2.2.1
theorem dX7_isBack_6 : decode cX7_isBack 6 = .ok (.iaload, 1) := dTo1_47.1.2.2.2.2.1
theorem dX7_isBack_7 : decode cX7_isBack 7 = .ok (.iconst 5, 1) := dTo1_47.1.2.2.2.2.2.1
theorem dX7_isBack_8 : decode cX7_isBack 8 = .ok (.if_icmp .ne 7, 3) := dTo1_47.1.2.2.2.2.2.2.1
theorem dX7_isBack_11 : decode cX7_isBack 11 = .ok (.iconst 1, 1) := dTo1_47.1.2.2.2.2.2.2.2.1
theorem dX7_isBack_12 : decode cX7_isBack 12 = .ok (.goto 4, 3) := dTo1_47.1.2.2.2.2.2.2.2.2.1
theorem dX7_isBack_15 : decode cX7_isBack 15 = .ok (.iconst 0, 1) := dTo1_47.1.2.2.2.2.2.2.2.2.2.1
theorem dX7_isBack_16 : decode cX7_isBack 16 = .ok (.ireturn, 1) := dTo1_47.2.1.1
theorem dTo1_48 : dQ cX7_becomes [[(0, zop27, 0, 0), (1, zop42, 0, 0), (2, zop180, 0, 28), (5, zop28, 0, 0), (6, zop46, 0, 0), (7, zop42, 0, 0), (8, zop180, 0, 31), (11, zop28, 0, 0), (12, zop46, 0, 0), (13, zop42, 0, 0)], [(14, zop180, 0, 34), (17, zop28, 0, 0), (18, zop51, 0, 0), (19, zop184, 0, 154), (22, zop78, 0, 0), (23, zop45, 0, 0), (24, zop184, 0, 158), (27, zop153, 0, 15), (30, zop45, 0, 0), (31, zop4, 0, 0)], [(32, zop46, 0, 0), (33, zop16, 224, 0), (35, zop162, 0, 7), (38, zop1, 0, 0), (39, zop167, 0, 4), (42, zop45, 0, 0), (43, zop176, 0, 0)]] := dQ_of _ _ (by decide +kernel)
theorem dX7_becomes_0 : decode cX7_becomes 0 = .ok (.iload_n 1, 1) := dTo1_48.1.1
theorem dX7_becomes_1 : decode cX7_becomes 1 = .ok (.aload_n 0, 1) := dTo1_48.1.2.1
theorem dX7_becomes_2 : decode cX7_becomes 2 = .ok (.getfield 28, 3) := dTo1_48.1.2.2.1
theorem dX7_becomes_5 : decode cX7_becomes 5 = .ok (.iload_n 2, 1) := dTo1_48.1.2.2.2.1
theorem dX7_becomes_6 : decode cX7_becomes 6 = .ok (.iaload, 1) := dTo1_48.1.2.2.2.2.1
theorem dX7_becomes_7 : decode cX7_becomes 7 = .ok (.aload_n 0, 1) := dTo1_48.1.2.2.2.2.2.1
theorem dX7_becomes_8 : decode cX7_becomes 8 = .ok (.getfield 31, 3) := dTo1_48.1.2.2.2.2.2.2.1
theorem dX7_becomes_11 : decode cX7_becomes 11 = .ok (.iload_n 2, 1) := dTo1_48.1.2.2.2.2.2.2.2.1
theorem dX7_becomes_12 : decode cX7_becomes 12 = .ok (.iaload, 1) := dTo1_48.1.2.2.2.2.2.2.2.2.1
theorem dX7_becomes_13 : decode cX7_becomes 13 = .ok (.aload_n 0, 1) := dTo1_48.1.2.2.2.2.2.2.2.2.2.1
theorem dX7_becomes_14 : decode cX7_becomes 14 = .ok (.getfield 34, 3) := dTo1_48.2.1.1
theorem dX7_becomes_17 : decode cX7_becomes 17 = .ok (.iload_n 2, 1) := dTo1_48.2.1.2.1
theorem dX7_becomes_18 : decode cX7_becomes 18 = .ok (.baload, 1) := dTo1_48.2.1.2.2.1
theorem dX7_becomes_19 : decode cX7_becomes 19 = .ok (.invokestatic 154, 3) := dTo1_48.2.1.2.2.2.1
theorem dX7_becomes_22 : decode cX7_becomes 22 = .ok (.astore_n 3, 1) := dTo1_48.2.1.2.2.2.2.1
theorem dX7_becomes_23 : decode cX7_becomes 23 = .ok (.aload_n 3, 1) := dTo1_48.2.1.2.2.2.2.2.1
theorem dX7_becomes_24 : decode cX7_becomes 24 = .ok (.invokestatic 158, 3) := dTo1_48.2.1.2.2.2.2.2.2.1
theorem dX7_becomes_27 : decode cX7_becomes 27 = .ok (.ifCond .eq 15, 3) := dTo1_48.2.1.2.2.2.2.2.2.2.1
theorem dX7_becomes_30 : decode cX7_becomes 30 = .ok (.aload_n 3, 1) := dTo1_48.2.1.2.2.2.2.2.2.2.2.1
theorem dX7_becomes_31 : decode cX7_becomes 31 = .ok (.iconst 1, 1) := dTo1_48.2.1.2.2.2.2.2.2.2.2.2.1
theorem dX7_becomes_32 : decode cX7_becomes 32 = .ok (.iaload, 1) := dTo1_48.2.2.1.1
theorem dX7_becomes_33 : decode cX7_becomes 33 = .ok (.bipush (-32), 2) := dTo1_48.2.2.1.2.1
theorem dX7_becomes_35 : decode cX7_becomes 35 = .ok (.if_icmp .ge 7, 3) := dTo1_48.2.2.1.2.2.1
theorem dX7_becomes_38 : decode cX7_becomes 38 = .ok (.aconst_null, 1) := dTo1_48.2.2.1.2.2.2.1
theorem dX7_becomes_39 : decode cX7_becomes 39 = .ok (.goto 4, 3) := dTo1_48.2.2.1.2.2.2.2.1
theorem dX7_becomes_42 : decode cX7_becomes 42 = .ok (.aload_n 3, 1) := dTo1_48.2.2.1.2.2.2.2.2.1
theorem dX7_becomes_43 : decode cX7_becomes 43 = .ok (.areturn, 1) := dTo1_48.2.2.1.2.2.2.2.2.2.1
theorem dTo1_49 : dQ cX7_made [[(0, zop42, 0, 0), (1, zop28, 0, 0), (2, zop184, 0, 123), (5, zop154, 0, 10), (8, zop29, 0, 0), (9, zop184, 0, 123), (12, zop153, 0, 7), (15, zop4, 0, 0), (16, zop167, 0, 4), (19, zop3, 0, 0)], [(20, zop3, 0, 0), (21, zop182, 0, 126), (24, zop153, 0, 5), (27, zop3, 0, 0), (28, zop172, 0, 0), (29, zop42, 0, 0), (30, zop27, 0, 0), (31, zop28, 0, 0), (32, zop182, 0, 161), (35, zop58, 4, 0)], [(37, zop25, 4, 0), (39, zop199, 0, 10), (42, zop42, 0, 0), (43, zop182, 0, 134), (46, zop167, 0, 29), (49, zop42, 0, 0), (50, zop29, 0, 0), (51, zop25, 4, 0), (53, zop3, 0, 0), (54, zop46, 0, 0)], [(55, zop25, 4, 0), (57, zop4, 0, 0), (58, zop46, 0, 0), (59, zop25, 4, 0), (61, zop5, 0, 0), (62, zop46, 0, 0), (63, zop4, 0, 0), (64, zop160, 0, 7), (67, zop4, 0, 0), (68, zop167, 0, 4)], [(71, zop3, 0, 0), (72, zop182, 0, 130), (75, zop172, 0, 0)]] := dQ_of _ _ (by decide +kernel)
theorem dX7_made_0 : decode cX7_made 0 = .ok (.aload_n 0, 1) := dTo1_49.1.1
theorem dX7_made_1 : decode cX7_made 1 = .ok (.iload_n 2, 1) := dTo1_49.1.2.1
theorem dX7_made_2 : decode cX7_made 2 = .ok (.invokestatic 123, 3) := dTo1_49.1.2.2.1
theorem dX7_made_5 : decode cX7_made 5 = .ok (.ifCond .ne 10, 3) := dTo1_49.1.2.2.2.1
theorem dX7_made_8 : decode cX7_made 8 = .ok (.iload_n 3, 1) := dTo1_49.1.2.2.2.2.1
theorem dX7_made_9 : decode cX7_made 9 = .ok (.invokestatic 123, 3) := dTo1_49.1.2.2.2.2.2.1
theorem dX7_made_12 : decode cX7_made 12 = .ok (.ifCond .eq 7, 3) := dTo1_49.1.2.2.2.2.2.2.1
theorem dX7_made_15 : decode cX7_made 15 = .ok (.iconst 1, 1) := dTo1_49.1.2.2.2.2.2.2.2.1
theorem dX7_made_16 : decode cX7_made 16 = .ok (.goto 4, 3) := dTo1_49.1.2.2.2.2.2.2.2.2.1
theorem dX7_made_19 : decode cX7_made 19 = .ok (.iconst 0, 1) := dTo1_49.1.2.2.2.2.2.2.2.2.2.1
theorem dX7_made_20 : decode cX7_made 20 = .ok (.iconst 0, 1) := dTo1_49.2.1.1
theorem dX7_made_21 : decode cX7_made 21 = .ok (.invokevirtual 126, 3) := dTo1_49.2.1.2.1
theorem dX7_made_24 : decode cX7_made 24 = .ok (.ifCond .eq 5, 3) := dTo1_49.2.1.2.2.1
theorem dX7_made_27 : decode cX7_made 27 = .ok (.iconst 0, 1) := dTo1_49.2.1.2.2.2.1
theorem dX7_made_28 : decode cX7_made 28 = .ok (.ireturn, 1) := dTo1_49.2.1.2.2.2.2.1
theorem dX7_made_29 : decode cX7_made 29 = .ok (.aload_n 0, 1) := dTo1_49.2.1.2.2.2.2.2.1
theorem dX7_made_30 : decode cX7_made 30 = .ok (.iload_n 1, 1) := dTo1_49.2.1.2.2.2.2.2.2.1
theorem dX7_made_31 : decode cX7_made 31 = .ok (.iload_n 2, 1) := dTo1_49.2.1.2.2.2.2.2.2.2.1
theorem dX7_made_32 : decode cX7_made 32 = .ok (.invokevirtual 161, 3) := dTo1_49.2.1.2.2.2.2.2.2.2.2.1
theorem dX7_made_35 : decode cX7_made 35 = .ok (.astore 4, 2) := dTo1_49.2.1.2.2.2.2.2.2.2.2.2.1
theorem dX7_made_37 : decode cX7_made 37 = .ok (.aload 4, 2) := dTo1_49.2.2.1.1
theorem dX7_made_39 : decode cX7_made 39 = .ok (.ifnonnull 10, 3) := dTo1_49.2.2.1.2.1
theorem dX7_made_42 : decode cX7_made 42 = .ok (.aload_n 0, 1) := dTo1_49.2.2.1.2.2.1
theorem dX7_made_43 : decode cX7_made 43 = .ok (.invokevirtual 134, 3) := dTo1_49.2.2.1.2.2.2.1
theorem dX7_made_46 : decode cX7_made 46 = .ok (.goto 29, 3) := dTo1_49.2.2.1.2.2.2.2.1
theorem dX7_made_49 : decode cX7_made 49 = .ok (.aload_n 0, 1) := dTo1_49.2.2.1.2.2.2.2.2.1
theorem dX7_made_50 : decode cX7_made 50 = .ok (.iload_n 3, 1) := dTo1_49.2.2.1.2.2.2.2.2.2.1
theorem dX7_made_51 : decode cX7_made 51 = .ok (.aload 4, 2) := dTo1_49.2.2.1.2.2.2.2.2.2.2.1
theorem dX7_made_53 : decode cX7_made 53 = .ok (.iconst 0, 1) := dTo1_49.2.2.1.2.2.2.2.2.2.2.2.1
theorem dX7_made_54 : decode cX7_made 54 = .ok (.iaload, 1) := dTo1_49.2.2.1.2.2.2.2.2.2.2.2.2.1
theorem dX7_made_55 : decode cX7_made 55 = .ok (.aload 4, 2) := dTo1_49.2.2.2.1.1
theorem dX7_made_57 : decode cX7_made 57 = .ok (.iconst 1, 1) := dTo1_49.2.2.2.1.2.1
theorem dX7_made_58 : decode cX7_made 58 = .ok (.iaload, 1) := dTo1_49.2.2.2.1.2.2.1
theorem dX7_made_59 : decode cX7_made 59 = .ok (.aload 4, 2) := dTo1_49.2.2.2.1.2.2.2.1
theorem dX7_made_61 : decode cX7_made 61 = .ok (.iconst 2, 1) := dTo1_49.2.2.2.1.2.2.2.2.1
theorem dX7_made_62 : decode cX7_made 62 = .ok (.iaload, 1) := dTo1_49.2.2.2.1.2.2.2.2.2.1
theorem dX7_made_63 : decode cX7_made 63 = .ok (.iconst 1, 1) := dTo1_49.2.2.2.1.2.2.2.2.2.2.1
theorem dX7_made_64 : decode cX7_made 64 = .ok (.if_icmp .ne 7, 3) := dTo1_49.2.2.2.1.2.2.2.2.2.2.2.1
theorem dX7_made_67 : decode cX7_made 67 = .ok (.iconst 1, 1) := dTo1_49.2.2.2.1.2.2.2.2.2.2.2.2.1
theorem dX7_made_68 : decode cX7_made 68 = .ok (.goto 4, 3) := dTo1_49.2.2.2.1.2.2.2.2.2.2.2.2.2.1
theorem dX7_made_71 : decode cX7_made 71 = .ok (.iconst 0, 1) := dTo1_49.2.2.2.2.1.1
theorem dX7_made_72 : decode cX7_made 72 = .ok (.invokevirtual 130, 3) := dTo1_49.2.2.2.2.1.2.1
theorem dX7_made_75 : decode cX7_made 75 = .ok (.ireturn, 1) := dTo1_49.2.2.2.2.1.2.2.1
theorem dTo1_50 : dQ cX7_power [[(0, zop42, 0, 0), (1, zop4, 0, 0), (2, zop27, 0, 0), (3, zop28, 0, 0), (4, zop182, 0, 164), (7, zop172, 0, 0)]] := dQ_of _ _ (by decide +kernel)
theorem dX7_power_0 : decode cX7_power 0 = .ok (.aload_n 0, 1) := dTo1_50.1.1
theorem dX7_power_1 : decode cX7_power 1 = .ok (.iconst 1, 1) := dTo1_50.1.2.1
theorem dX7_power_2 : decode cX7_power 2 = .ok (.iload_n 1, 1) := dTo1_50.1.2.2.1
theorem dX7_power_3 : decode cX7_power 3 = .ok (.iload_n 2, 1) := dTo1_50.1.2.2.2.1
theorem dX7_power_4 : decode cX7_power 4 = .ok (.invokevirtual 164, 3) := dTo1_50.1.2.2.2.2.1
theorem dX7_power_7 : decode cX7_power 7 = .ok (.ireturn, 1) := dTo1_50.1.2.2.2.2.2.1
theorem dTo1_51 : dQ cX7_lessen [[(0, zop42, 0, 0), (1, zop5, 0, 0), (2, zop27, 0, 0), (3, zop28, 0, 0), (4, zop182, 0, 164), (7, zop172, 0, 0)]] := dQ_of _ _ (by decide +kernel)
theorem dX7_lessen_0 : decode cX7_lessen 0 = .ok (.aload_n 0, 1) := dTo1_51.1.1
theorem dX7_lessen_1 : decode cX7_lessen 1 = .ok (.iconst 2, 1) := dTo1_51.1.2.1
theorem dX7_lessen_2 : decode cX7_lessen 2 = .ok (.iload_n 1, 1) := dTo1_51.1.2.2.1
theorem dX7_lessen_3 : decode cX7_lessen 3 = .ok (.iload_n 2, 1) := dTo1_51.1.2.2.2.1
theorem dX7_lessen_4 : decode cX7_lessen 4 = .ok (.invokevirtual 164, 3) := dTo1_51.1.2.2.2.2.1
theorem dX7_lessen_7 : decode cX7_lessen 7 = .ok (.ireturn, 1) := dTo1_51.1.2.2.2.2.2.1
theorem dTo1_52 : dQ cX7_log [[(0, zop42, 0, 0), (1, zop6, 0, 0), (2, zop27, 0, 0), (3, zop28, 0, 0), (4, zop182, 0, 164), (7, zop172, 0, 0)]] := dQ_of _ _ (by decide +kernel)
theorem dX7_log_0 : decode cX7_log 0 = .ok (.aload_n 0, 1) := dTo1_52.1.1
theorem dX7_log_1 : decode cX7_log 1 = .ok (.iconst 3, 1) := dTo1_52.1.2.1
theorem dX7_log_2 : decode cX7_log 2 = .ok (.iload_n 1, 1) := dTo1_52.1.2.2.1
theorem dX7_log_3 : decode cX7_log 3 = .ok (.iload_n 2, 1) := dTo1_52.1.2.2.2.1
theorem dX7_log_4 : decode cX7_log 4 = .ok (.invokevirtual 164, 3) := dTo1_52.1.2.2.2.2.1
theorem dX7_log_7 : decode cX7_log 7 = .ok (.ireturn, 1) := dTo1_52.1.2.2.2.2.2.1
theorem dTo1_53 : dQ cX7_all [[(0, zop42, 0, 0), (1, zop27, 0, 0), (2, zop4, 0, 0), (3, zop6, 0, 0), (4, zop184, 0, 113), (7, zop153, 0, 7), (10, zop3, 0, 0), (11, zop167, 0, 4), (14, zop4, 0, 0), (15, zop181, 0, 50)], [(18, zop42, 0, 0), (19, zop180, 0, 50), (22, zop153, 0, 5), (25, zop3, 0, 0), (26, zop172, 0, 0), (27, zop3, 0, 0), (28, zop61, 0, 0), (29, zop42, 0, 0), (30, zop180, 0, 117), (33, zop62, 0, 0)], [(34, zop3, 0, 0), (35, zop54, 4, 0), (37, zop21, 4, 0), (39, zop16, 8, 0), (41, zop162, 0, 57), (44, zop42, 0, 0), (45, zop27, 0, 0), (46, zop21, 4, 0), (48, zop182, 0, 161), (51, zop58, 5, 0)], [(53, zop25, 5, 0), (55, zop199, 0, 6), (58, zop167, 0, 34), (61, zop42, 0, 0), (62, zop21, 4, 0), (64, zop25, 5, 0), (66, zop3, 0, 0), (67, zop46, 0, 0), (68, zop25, 5, 0), (70, zop4, 0, 0)], [(71, zop46, 0, 0), (72, zop25, 5, 0), (74, zop5, 0, 0), (75, zop46, 0, 0), (76, zop4, 0, 0), (77, zop160, 0, 7), (80, zop4, 0, 0), (81, zop167, 0, 4), (84, zop3, 0, 0), (85, zop182, 0, 130)], [(88, zop87, 0, 0), (89, zop132, 2, 1), (92, zop132, 4, 1), (95, zop167, 255, 198), (98, zop42, 0, 0), (99, zop29, 0, 0), (100, zop4, 0, 0), (101, zop96, 0, 0), (102, zop181, 0, 117), (105, zop28, 0, 0)]] := dQ_of _ _ (by decide +kernel)
theorem dX7_all_0 : decode cX7_all 0 = .ok (.aload_n 0, 1) := dTo1_53.1.1
theorem dX7_all_1 : decode cX7_all 1 = .ok (.iload_n 1, 1) := dTo1_53.1.2.1
theorem dX7_all_2 : decode cX7_all 2 = .ok (.iconst 1, 1) := dTo1_53.1.2.2.1
theorem dX7_all_3 : decode cX7_all 3 = .ok (.iconst 3, 1) := dTo1_53.1.2.2.2.1
theorem dX7_all_4 : decode cX7_all 4 = .ok (.invokestatic 113, 3) := dTo1_53.1.2.2.2.2.1
theorem dX7_all_7 : decode cX7_all 7 = .ok (.ifCond .eq 7, 3) := dTo1_53.1.2.2.2.2.2.1
theorem dX7_all_10 : decode cX7_all 10 = .ok (.iconst 0, 1) := dTo1_53.1.2.2.2.2.2.2.1
theorem dX7_all_11 : decode cX7_all 11 = .ok (.goto 4, 3) := dTo1_53.1.2.2.2.2.2.2.2.1
theorem dX7_all_14 : decode cX7_all 14 = .ok (.iconst 1, 1) := dTo1_53.1.2.2.2.2.2.2.2.2.1
theorem dX7_all_15 : decode cX7_all 15 = .ok (.putfield 50, 3) := dTo1_53.1.2.2.2.2.2.2.2.2.2.1
theorem dX7_all_18 : decode cX7_all 18 = .ok (.aload_n 0, 1) := dTo1_53.2.1.1
theorem dX7_all_19 : decode cX7_all 19 = .ok (.getfield 50, 3) := dTo1_53.2.1.2.1
theorem dX7_all_22 : decode cX7_all 22 = .ok (.ifCond .eq 5, 3) := dTo1_53.2.1.2.2.1
theorem dX7_all_25 : decode cX7_all 25 = .ok (.iconst 0, 1) := dTo1_53.2.1.2.2.2.1
theorem dX7_all_26 : decode cX7_all 26 = .ok (.ireturn, 1) := dTo1_53.2.1.2.2.2.2.1
theorem dX7_all_27 : decode cX7_all 27 = .ok (.iconst 0, 1) := dTo1_53.2.1.2.2.2.2.2.1
theorem dX7_all_28 : decode cX7_all 28 = .ok (.istore_n 2, 1) := dTo1_53.2.1.2.2.2.2.2.2.1
theorem dX7_all_29 : decode cX7_all 29 = .ok (.aload_n 0, 1) := dTo1_53.2.1.2.2.2.2.2.2.2.1
theorem dX7_all_30 : decode cX7_all 30 = .ok (.getfield 117, 3) := dTo1_53.2.1.2.2.2.2.2.2.2.2.1
theorem dX7_all_33 : decode cX7_all 33 = .ok (.istore_n 3, 1) := dTo1_53.2.1.2.2.2.2.2.2.2.2.2.1
theorem dX7_all_34 : decode cX7_all 34 = .ok (.iconst 0, 1) := dTo1_53.2.2.1.1
theorem dX7_all_35 : decode cX7_all 35 = .ok (.istore 4, 2) := dTo1_53.2.2.1.2.1
theorem dX7_all_37 : decode cX7_all 37 = .ok (.iload 4, 2) := dTo1_53.2.2.1.2.2.1
theorem dX7_all_39 : decode cX7_all 39 = .ok (.bipush 8, 2) := dTo1_53.2.2.1.2.2.2.1
theorem dX7_all_41 : decode cX7_all 41 = .ok (.if_icmp .ge 57, 3) := dTo1_53.2.2.1.2.2.2.2.1
theorem dX7_all_44 : decode cX7_all 44 = .ok (.aload_n 0, 1) := dTo1_53.2.2.1.2.2.2.2.2.1
theorem dX7_all_45 : decode cX7_all 45 = .ok (.iload_n 1, 1) := dTo1_53.2.2.1.2.2.2.2.2.2.1
theorem dX7_all_46 : decode cX7_all 46 = .ok (.iload 4, 2) := dTo1_53.2.2.1.2.2.2.2.2.2.2.1
theorem dX7_all_48 : decode cX7_all 48 = .ok (.invokevirtual 161, 3) := dTo1_53.2.2.1.2.2.2.2.2.2.2.2.1
theorem dX7_all_51 : decode cX7_all 51 = .ok (.astore 5, 2) := dTo1_53.2.2.1.2.2.2.2.2.2.2.2.2.1
theorem dX7_all_53 : decode cX7_all 53 = .ok (.aload 5, 2) := dTo1_53.2.2.2.1.1
theorem dX7_all_55 : decode cX7_all 55 = .ok (.ifnonnull 6, 3) := dTo1_53.2.2.2.1.2.1
theorem dX7_all_58 : decode cX7_all 58 = .ok (.goto 34, 3) := dTo1_53.2.2.2.1.2.2.1
theorem dX7_all_61 : decode cX7_all 61 = .ok (.aload_n 0, 1) := dTo1_53.2.2.2.1.2.2.2.1
theorem dX7_all_62 : decode cX7_all 62 = .ok (.iload 4, 2) := dTo1_53.2.2.2.1.2.2.2.2.1
theorem dX7_all_64 : decode cX7_all 64 = .ok (.aload 5, 2) := dTo1_53.2.2.2.1.2.2.2.2.2.1
theorem dX7_all_66 : decode cX7_all 66 = .ok (.iconst 0, 1) := dTo1_53.2.2.2.1.2.2.2.2.2.2.1
theorem dX7_all_67 : decode cX7_all 67 = .ok (.iaload, 1) := dTo1_53.2.2.2.1.2.2.2.2.2.2.2.1
theorem dX7_all_68 : decode cX7_all 68 = .ok (.aload 5, 2) := dTo1_53.2.2.2.1.2.2.2.2.2.2.2.2.1
theorem dX7_all_70 : decode cX7_all 70 = .ok (.iconst 1, 1) := dTo1_53.2.2.2.1.2.2.2.2.2.2.2.2.2.1
theorem dX7_all_71 : decode cX7_all 71 = .ok (.iaload, 1) := dTo1_53.2.2.2.2.1.1
theorem dX7_all_72 : decode cX7_all 72 = .ok (.aload 5, 2) := dTo1_53.2.2.2.2.1.2.1
theorem dX7_all_74 : decode cX7_all 74 = .ok (.iconst 2, 1) := dTo1_53.2.2.2.2.1.2.2.1
theorem dX7_all_75 : decode cX7_all 75 = .ok (.iaload, 1) := dTo1_53.2.2.2.2.1.2.2.2.1
theorem dX7_all_76 : decode cX7_all 76 = .ok (.iconst 1, 1) := dTo1_53.2.2.2.2.1.2.2.2.2.1
theorem dX7_all_77 : decode cX7_all 77 = .ok (.if_icmp .ne 7, 3) := dTo1_53.2.2.2.2.1.2.2.2.2.2.1
theorem dX7_all_80 : decode cX7_all 80 = .ok (.iconst 1, 1) := dTo1_53.2.2.2.2.1.2.2.2.2.2.2.1
theorem dX7_all_81 : decode cX7_all 81 = .ok (.goto 4, 3) := dTo1_53.2.2.2.2.1.2.2.2.2.2.2.2.1
theorem dX7_all_84 : decode cX7_all 84 = .ok (.iconst 0, 1) := dTo1_53.2.2.2.2.1.2.2.2.2.2.2.2.2.1
theorem dX7_all_85 : decode cX7_all 85 = .ok (.invokevirtual 130, 3) := dTo1_53.2.2.2.2.1.2.2.2.2.2.2.2.2.2.1
theorem dX7_all_88 : decode cX7_all 88 = .ok (.pop, 1) := dTo1_53.2.2.2.2.2.1.1
theorem dX7_all_89 : decode cX7_all 89 = .ok (.iinc 2 1, 3) := dTo1_53.2.2.2.2.2.1.2.1
theorem dX7_all_92 : decode cX7_all 92 = .ok (.iinc 4 1, 3) := dTo1_53.2.2.2.2.2.1.2.2.1
theorem dX7_all_95 : decode cX7_all 95 = .ok (.goto (-58), 3) := dTo1_53.2.2.2.2.2.1.2.2.2.1
theorem dX7_all_98 : decode cX7_all 98 = .ok (.aload_n 0, 1) := dTo1_53.2.2.2.2.2.1.2.2.2.2.1
theorem dX7_all_99 : decode cX7_all 99 = .ok (.iload_n 3, 1) := dTo1_53.2.2.2.2.2.1.2.2.2.2.2.1
theorem dX7_all_100 : decode cX7_all 100 = .ok (.iconst 1, 1) := dTo1_53.2.2.2.2.2.1.2.2.2.2.2.2.1
theorem dX7_all_101 : decode cX7_all 101 = .ok (.iadd, 1) := dTo1_53.2.2.2.2.2.1.2.2.2.2.2.2.2.1
theorem dX7_all_102 : decode cX7_all 102 = .ok (.putfield 117, 3) := dTo1_53.2.2.2.2.2.1.2.2.2.2.2.2.2.2.1
theorem dX7_all_105 : decode cX7_all 105 = .ok (.iload_n 2, 1) := dTo1_53.2.2.2.2.2.1.2.2.2.2.2.2.2.2.2.1
theorem dTo1_54 : dQ cX7_all [[(106, zop172, 0, 0)]] := dQ_of _ _ (by decide +kernel)
theorem dX7_all_106 : decode cX7_all 106 = .ok (.ireturn, 1) := dTo1_54.1.1
theorem dTo1_55 : dQ cX7_take [[(0, zop42, 0, 0), (1, zop28, 0, 0), (2, zop42, 0, 0), (3, zop180, 0, 28), (6, zop27, 0, 0), (7, zop46, 0, 0), (8, zop42, 0, 0), (9, zop180, 0, 31), (12, zop27, 0, 0), (13, zop46, 0, 0)], [(14, zop42, 0, 0), (15, zop180, 0, 34), (18, zop27, 0, 0), (19, zop51, 0, 0), (20, zop182, 0, 130), (23, zop172, 0, 0)]] := dQ_of _ _ (by decide +kernel)
theorem dX7_take_0 : decode cX7_take 0 = .ok (.aload_n 0, 1) := dTo1_55.1.1
theorem dX7_take_1 : decode cX7_take 1 = .ok (.iload_n 2, 1) := dTo1_55.1.2.1
theorem dX7_take_2 : decode cX7_take 2 = .ok (.aload_n 0, 1) := dTo1_55.1.2.2.1
theorem dX7_take_3 : decode cX7_take 3 = .ok (.getfield 28, 3) := dTo1_55.1.2.2.2.1
theorem dX7_take_6 : decode cX7_take 6 = .ok (.iload_n 1, 1) := dTo1_55.1.2.2.2.2.1
theorem dX7_take_7 : decode cX7_take 7 = .ok (.iaload, 1) := dTo1_55.1.2.2.2.2.2.1
theorem dX7_take_8 : decode cX7_take 8 = .ok (.aload_n 0, 1) := dTo1_55.1.2.2.2.2.2.2.1
theorem dX7_take_9 : decode cX7_take 9 = .ok (.getfield 31, 3) := dTo1_55.1.2.2.2.2.2.2.2.1
theorem dX7_take_12 : decode cX7_take 12 = .ok (.iload_n 1, 1) := dTo1_55.1.2.2.2.2.2.2.2.2.1
theorem dX7_take_13 : decode cX7_take 13 = .ok (.iaload, 1) := dTo1_55.1.2.2.2.2.2.2.2.2.2.1
theorem dX7_take_14 : decode cX7_take 14 = .ok (.aload_n 0, 1) := dTo1_55.2.1.1
theorem dX7_take_15 : decode cX7_take 15 = .ok (.getfield 34, 3) := dTo1_55.2.1.2.1
theorem dX7_take_18 : decode cX7_take 18 = .ok (.iload_n 1, 1) := dTo1_55.2.1.2.2.1
theorem dX7_take_19 : decode cX7_take 19 = .ok (.baload, 1) := dTo1_55.2.1.2.2.2.1
theorem dX7_take_20 : decode cX7_take 20 = .ok (.invokevirtual 130, 3) := dTo1_55.2.1.2.2.2.2.1
theorem dX7_take_23 : decode cX7_take 23 = .ok (.ireturn, 1) := dTo1_55.2.1.2.2.2.2.2.1
theorem dTo1_56 : dQ cX7_greater [[(0, zop42, 0, 0), (1, zop27, 0, 0), (2, zop184, 0, 123), (5, zop154, 0, 17), (8, zop28, 0, 0), (9, zop184, 0, 123), (12, zop154, 0, 10), (15, zop29, 0, 0), (16, zop184, 0, 123), (19, zop153, 0, 7)], [(22, zop4, 0, 0), (23, zop167, 0, 4), (26, zop3, 0, 0), (27, zop3, 0, 0), (28, zop182, 0, 126), (31, zop153, 0, 5), (34, zop3, 0, 0), (35, zop172, 0, 0), (36, zop42, 0, 0), (37, zop42, 0, 0)], [(38, zop27, 0, 0), (39, zop28, 0, 0), (40, zop182, 0, 168), (43, zop156, 0, 7), (46, zop28, 0, 0), (47, zop167, 0, 4), (50, zop27, 0, 0), (51, zop29, 0, 0), (52, zop182, 0, 171), (55, zop172, 0, 0)]] := dQ_of _ _ (by decide +kernel)
theorem dX7_greater_0 : decode cX7_greater 0 = .ok (.aload_n 0, 1) := dTo1_56.1.1
theorem dX7_greater_1 : decode cX7_greater 1 = .ok (.iload_n 1, 1) := dTo1_56.1.2.1
theorem dX7_greater_2 : decode cX7_greater 2 = .ok (.invokestatic 123, 3) := dTo1_56.1.2.2.1
theorem dX7_greater_5 : decode cX7_greater 5 = .ok (.ifCond .ne 17, 3) := dTo1_56.1.2.2.2.1
theorem dX7_greater_8 : decode cX7_greater 8 = .ok (.iload_n 2, 1) := dTo1_56.1.2.2.2.2.1
theorem dX7_greater_9 : decode cX7_greater 9 = .ok (.invokestatic 123, 3) := dTo1_56.1.2.2.2.2.2.1
theorem dX7_greater_12 : decode cX7_greater 12 = .ok (.ifCond .ne 10, 3) := dTo1_56.1.2.2.2.2.2.2.1
theorem dX7_greater_15 : decode cX7_greater 15 = .ok (.iload_n 3, 1) := dTo1_56.1.2.2.2.2.2.2.2.1
theorem dX7_greater_16 : decode cX7_greater 16 = .ok (.invokestatic 123, 3) := dTo1_56.1.2.2.2.2.2.2.2.2.1
theorem dX7_greater_19 : decode cX7_greater 19 = .ok (.ifCond .eq 7, 3) := dTo1_56.1.2.2.2.2.2.2.2.2.2.1
theorem dX7_greater_22 : decode cX7_greater 22 = .ok (.iconst 1, 1) := dTo1_56.2.1.1
theorem dX7_greater_23 : decode cX7_greater 23 = .ok (.goto 4, 3) := dTo1_56.2.1.2.1
theorem dX7_greater_26 : decode cX7_greater 26 = .ok (.iconst 0, 1) := dTo1_56.2.1.2.2.1
theorem dX7_greater_27 : decode cX7_greater 27 = .ok (.iconst 0, 1) := dTo1_56.2.1.2.2.2.1
theorem dX7_greater_28 : decode cX7_greater 28 = .ok (.invokevirtual 126, 3) := dTo1_56.2.1.2.2.2.2.1
theorem dX7_greater_31 : decode cX7_greater 31 = .ok (.ifCond .eq 5, 3) := dTo1_56.2.1.2.2.2.2.2.1
theorem dX7_greater_34 : decode cX7_greater 34 = .ok (.iconst 0, 1) := dTo1_56.2.1.2.2.2.2.2.2.1
theorem dX7_greater_35 : decode cX7_greater 35 = .ok (.ireturn, 1) := dTo1_56.2.1.2.2.2.2.2.2.2.1
theorem dX7_greater_36 : decode cX7_greater 36 = .ok (.aload_n 0, 1) := dTo1_56.2.1.2.2.2.2.2.2.2.2.1
theorem dX7_greater_37 : decode cX7_greater 37 = .ok (.aload_n 0, 1) := dTo1_56.2.1.2.2.2.2.2.2.2.2.2.1
theorem dX7_greater_38 : decode cX7_greater 38 = .ok (.iload_n 1, 1) := dTo1_56.2.2.1.1
theorem dX7_greater_39 : decode cX7_greater 39 = .ok (.iload_n 2, 1) := dTo1_56.2.2.1.2.1
theorem dX7_greater_40 : decode cX7_greater 40 = .ok (.invokevirtual 168, 3) := dTo1_56.2.2.1.2.2.1
theorem dX7_greater_43 : decode cX7_greater 43 = .ok (.ifCond .ge 7, 3) := dTo1_56.2.2.1.2.2.2.1
theorem dX7_greater_46 : decode cX7_greater 46 = .ok (.iload_n 2, 1) := dTo1_56.2.2.1.2.2.2.2.1
theorem dX7_greater_47 : decode cX7_greater 47 = .ok (.goto 4, 3) := dTo1_56.2.2.1.2.2.2.2.2.1
theorem dX7_greater_50 : decode cX7_greater 50 = .ok (.iload_n 1, 1) := dTo1_56.2.2.1.2.2.2.2.2.2.1
theorem dX7_greater_51 : decode cX7_greater 51 = .ok (.iload_n 3, 1) := dTo1_56.2.2.1.2.2.2.2.2.2.2.1
theorem dX7_greater_52 : decode cX7_greater 52 = .ok (.invokevirtual 171, 3) := dTo1_56.2.2.1.2.2.2.2.2.2.2.2.1
theorem dX7_greater_55 : decode cX7_greater 55 = .ok (.ireturn, 1) := dTo1_56.2.2.1.2.2.2.2.2.2.2.2.2.1
theorem dTo1_57 : dQ cX7_lesser [[(0, zop42, 0, 0), (1, zop27, 0, 0), (2, zop184, 0, 123), (5, zop154, 0, 17), (8, zop28, 0, 0), (9, zop184, 0, 123), (12, zop154, 0, 10), (15, zop29, 0, 0), (16, zop184, 0, 123), (19, zop153, 0, 7)], [(22, zop4, 0, 0), (23, zop167, 0, 4), (26, zop3, 0, 0), (27, zop3, 0, 0), (28, zop182, 0, 126), (31, zop153, 0, 5), (34, zop3, 0, 0), (35, zop172, 0, 0), (36, zop42, 0, 0), (37, zop42, 0, 0)], [(38, zop28, 0, 0), (39, zop27, 0, 0), (40, zop182, 0, 168), (43, zop156, 0, 7), (46, zop28, 0, 0), (47, zop167, 0, 4), (50, zop27, 0, 0), (51, zop29, 0, 0), (52, zop182, 0, 171), (55, zop172, 0, 0)]] := dQ_of _ _ (by decide +kernel)
theorem dX7_lesser_0 : decode cX7_lesser 0 = .ok (.aload_n 0, 1) := dTo1_57.1.1
theorem dX7_lesser_1 : decode cX7_lesser 1 = .ok (.iload_n 1, 1) := dTo1_57.1.2.1
theorem dX7_lesser_2 : decode cX7_lesser 2 = .ok (.invokestatic 123, 3) := dTo1_57.1.2.2.1
theorem dX7_lesser_5 : decode cX7_lesser 5 = .ok (.ifCond .ne 17, 3) := dTo1_57.1.2.2.2.1
theorem dX7_lesser_8 : decode cX7_lesser 8 = .ok (.iload_n 2, 1) := dTo1_57.1.2.2.2.2.1
theorem dX7_lesser_9 : decode cX7_lesser 9 = .ok (.invokestatic 123, 3) := dTo1_57.1.2.2.2.2.2.1
theorem dX7_lesser_12 : decode cX7_lesser 12 = .ok (.ifCond .ne 10, 3) := dTo1_57.1.2.2.2.2.2.2.1
theorem dX7_lesser_15 : decode cX7_lesser 15 = .ok (.iload_n 3, 1) := dTo1_57.1.2.2.2.2.2.2.2.1
theorem dX7_lesser_16 : decode cX7_lesser 16 = .ok (.invokestatic 123, 3) := dTo1_57.1.2.2.2.2.2.2.2.2.1
theorem dX7_lesser_19 : decode cX7_lesser 19 = .ok (.ifCond .eq 7, 3) := dTo1_57.1.2.2.2.2.2.2.2.2.2.1
theorem dX7_lesser_22 : decode cX7_lesser 22 = .ok (.iconst 1, 1) := dTo1_57.2.1.1
theorem dX7_lesser_23 : decode cX7_lesser 23 = .ok (.goto 4, 3) := dTo1_57.2.1.2.1
theorem dX7_lesser_26 : decode cX7_lesser 26 = .ok (.iconst 0, 1) := dTo1_57.2.1.2.2.1
theorem dX7_lesser_27 : decode cX7_lesser 27 = .ok (.iconst 0, 1) := dTo1_57.2.1.2.2.2.1
theorem dX7_lesser_28 : decode cX7_lesser 28 = .ok (.invokevirtual 126, 3) := dTo1_57.2.1.2.2.2.2.1
theorem dX7_lesser_31 : decode cX7_lesser 31 = .ok (.ifCond .eq 5, 3) := dTo1_57.2.1.2.2.2.2.2.1
theorem dX7_lesser_34 : decode cX7_lesser 34 = .ok (.iconst 0, 1) := dTo1_57.2.1.2.2.2.2.2.2.1
theorem dX7_lesser_35 : decode cX7_lesser 35 = .ok (.ireturn, 1) := dTo1_57.2.1.2.2.2.2.2.2.2.1
theorem dX7_lesser_36 : decode cX7_lesser 36 = .ok (.aload_n 0, 1) := dTo1_57.2.1.2.2.2.2.2.2.2.2.1
theorem dX7_lesser_37 : decode cX7_lesser 37 = .ok (.aload_n 0, 1) := dTo1_57.2.1.2.2.2.2.2.2.2.2.2.1
theorem dX7_lesser_38 : decode cX7_lesser 38 = .ok (.iload_n 2, 1) := dTo1_57.2.2.1.1
theorem dX7_lesser_39 : decode cX7_lesser 39 = .ok (.iload_n 1, 1) := dTo1_57.2.2.1.2.1
theorem dX7_lesser_40 : decode cX7_lesser 40 = .ok (.invokevirtual 168, 3) := dTo1_57.2.2.1.2.2.1
theorem dX7_lesser_43 : decode cX7_lesser 43 = .ok (.ifCond .ge 7, 3) := dTo1_57.2.2.1.2.2.2.1
theorem dX7_lesser_46 : decode cX7_lesser 46 = .ok (.iload_n 2, 1) := dTo1_57.2.2.1.2.2.2.2.1
theorem dX7_lesser_47 : decode cX7_lesser 47 = .ok (.goto 4, 3) := dTo1_57.2.2.1.2.2.2.2.2.1
theorem dX7_lesser_50 : decode cX7_lesser 50 = .ok (.iload_n 1, 1) := dTo1_57.2.2.1.2.2.2.2.2.2.1
theorem dX7_lesser_51 : decode cX7_lesser 51 = .ok (.iload_n 3, 1) := dTo1_57.2.2.1.2.2.2.2.2.2.2.1
theorem dX7_lesser_52 : decode cX7_lesser 52 = .ok (.invokevirtual 171, 3) := dTo1_57.2.2.1.2.2.2.2.2.2.2.2.1
theorem dX7_lesser_55 : decode cX7_lesser 55 = .ok (.ireturn, 1) := dTo1_57.2.2.1.2.2.2.2.2.2.2.2.2.1
theorem dTo1_58 : dQ cX7_end [[(0, zop42, 0, 0), (1, zop28, 0, 0), (2, zop184, 0, 123), (5, zop3, 0, 0), (6, zop182, 0, 126), (9, zop153, 0, 5), (12, zop3, 0, 0), (13, zop172, 0, 0), (14, zop3, 0, 0), (15, zop62, 0, 0)], [(16, zop4, 0, 0), (17, zop54, 4, 0), (19, zop21, 4, 0), (21, zop16, 8, 0), (23, zop162, 0, 39), (26, zop27, 0, 0), (27, zop153, 0, 16), (30, zop42, 0, 0), (31, zop29, 0, 0), (32, zop21, 4, 0)], [(34, zop182, 0, 168), (37, zop156, 0, 19), (40, zop167, 0, 13), (43, zop42, 0, 0), (44, zop21, 4, 0), (46, zop29, 0, 0), (47, zop182, 0, 168), (50, zop156, 0, 6), (53, zop21, 4, 0), (55, zop62, 0, 0)], [(56, zop132, 4, 1), (59, zop167, 255, 216), (62, zop42, 0, 0), (63, zop29, 0, 0), (64, zop28, 0, 0), (65, zop182, 0, 171), (68, zop172, 0, 0)]] := dQ_of _ _ (by decide +kernel)
theorem dX7_end_0 : decode cX7_end 0 = .ok (.aload_n 0, 1) := dTo1_58.1.1
theorem dX7_end_1 : decode cX7_end 1 = .ok (.iload_n 2, 1) := dTo1_58.1.2.1
theorem dX7_end_2 : decode cX7_end 2 = .ok (.invokestatic 123, 3) := dTo1_58.1.2.2.1
theorem dX7_end_5 : decode cX7_end 5 = .ok (.iconst 0, 1) := dTo1_58.1.2.2.2.1
theorem dX7_end_6 : decode cX7_end 6 = .ok (.invokevirtual 126, 3) := dTo1_58.1.2.2.2.2.1
theorem dX7_end_9 : decode cX7_end 9 = .ok (.ifCond .eq 5, 3) := dTo1_58.1.2.2.2.2.2.1
theorem dX7_end_12 : decode cX7_end 12 = .ok (.iconst 0, 1) := dTo1_58.1.2.2.2.2.2.2.1
theorem dX7_end_13 : decode cX7_end 13 = .ok (.ireturn, 1) := dTo1_58.1.2.2.2.2.2.2.2.1
theorem dX7_end_14 : decode cX7_end 14 = .ok (.iconst 0, 1) := dTo1_58.1.2.2.2.2.2.2.2.2.1
theorem dX7_end_15 : decode cX7_end 15 = .ok (.istore_n 3, 1) := dTo1_58.1.2.2.2.2.2.2.2.2.2.1
theorem dX7_end_16 : decode cX7_end 16 = .ok (.iconst 1, 1) := dTo1_58.2.1.1
theorem dX7_end_17 : decode cX7_end 17 = .ok (.istore 4, 2) := dTo1_58.2.1.2.1
theorem dX7_end_19 : decode cX7_end 19 = .ok (.iload 4, 2) := dTo1_58.2.1.2.2.1
theorem dX7_end_21 : decode cX7_end 21 = .ok (.bipush 8, 2) := dTo1_58.2.1.2.2.2.1
theorem dX7_end_23 : decode cX7_end 23 = .ok (.if_icmp .ge 39, 3) := dTo1_58.2.1.2.2.2.2.1
theorem dX7_end_26 : decode cX7_end 26 = .ok (.iload_n 1, 1) := dTo1_58.2.1.2.2.2.2.2.1
theorem dX7_end_27 : decode cX7_end 27 = .ok (.ifCond .eq 16, 3) := dTo1_58.2.1.2.2.2.2.2.2.1
theorem dX7_end_30 : decode cX7_end 30 = .ok (.aload_n 0, 1) := dTo1_58.2.1.2.2.2.2.2.2.2.1
theorem dX7_end_31 : decode cX7_end 31 = .ok (.iload_n 3, 1) := dTo1_58.2.1.2.2.2.2.2.2.2.2.1
theorem dX7_end_32 : decode cX7_end 32 = .ok (.iload 4, 2) := dTo1_58.2.1.2.2.2.2.2.2.2.2.2.1
theorem dX7_end_34 : decode cX7_end 34 = .ok (.invokevirtual 168, 3) := dTo1_58.2.2.1.1
theorem dX7_end_37 : decode cX7_end 37 = .ok (.ifCond .ge 19, 3) := dTo1_58.2.2.1.2.1
theorem dX7_end_40 : decode cX7_end 40 = .ok (.goto 13, 3) := dTo1_58.2.2.1.2.2.1
theorem dX7_end_43 : decode cX7_end 43 = .ok (.aload_n 0, 1) := dTo1_58.2.2.1.2.2.2.1
theorem dX7_end_44 : decode cX7_end 44 = .ok (.iload 4, 2) := dTo1_58.2.2.1.2.2.2.2.1
theorem dX7_end_46 : decode cX7_end 46 = .ok (.iload_n 3, 1) := dTo1_58.2.2.1.2.2.2.2.2.1
theorem dX7_end_47 : decode cX7_end 47 = .ok (.invokevirtual 168, 3) := dTo1_58.2.2.1.2.2.2.2.2.2.1
theorem dX7_end_50 : decode cX7_end 50 = .ok (.ifCond .ge 6, 3) := dTo1_58.2.2.1.2.2.2.2.2.2.2.1
theorem dX7_end_53 : decode cX7_end 53 = .ok (.iload 4, 2) := dTo1_58.2.2.1.2.2.2.2.2.2.2.2.1
theorem dX7_end_55 : decode cX7_end 55 = .ok (.istore_n 3, 1) := dTo1_58.2.2.1.2.2.2.2.2.2.2.2.2.1
theorem dX7_end_56 : decode cX7_end 56 = .ok (.iinc 4 1, 3) := dTo1_58.2.2.2.1.1
theorem dX7_end_59 : decode cX7_end 59 = .ok (.goto (-40), 3) := dTo1_58.2.2.2.1.2.1
theorem dX7_end_62 : decode cX7_end 62 = .ok (.aload_n 0, 1) := dTo1_58.2.2.2.1.2.2.1
theorem dX7_end_63 : decode cX7_end 63 = .ok (.iload_n 3, 1) := dTo1_58.2.2.2.1.2.2.2.1
theorem dX7_end_64 : decode cX7_end 64 = .ok (.iload_n 2, 1) := dTo1_58.2.2.2.1.2.2.2.2.1
theorem dX7_end_65 : decode cX7_end 65 = .ok (.invokevirtual 171, 3) := dTo1_58.2.2.2.1.2.2.2.2.2.1
theorem dX7_end_68 : decode cX7_end 68 = .ok (.ireturn, 1) := dTo1_58.2.2.2.1.2.2.2.2.2.2.1
theorem dX7_sort_22 : decode cX7_sort 22 = .ok (.newarray .int, 2) := by decide +kernel
theorem dX7_sort_101 : decode cX7_sort 101 = .ok (.newarray .int, 2) := by decide +kernel
theorem dX7_sort_109 : decode cX7_sort 109 = .ok (.newarray .int, 2) := by decide +kernel
theorem dX7_sort_117 : decode cX7_sort 117 = .ok (.newarray .boolean, 2) := by decide +kernel
theorem dTo1_59 : dQ cX7_sort [[(0, zop42, 0, 0), (1, zop3, 0, 0), (2, zop181, 0, 50), (5, zop42, 0, 0), (6, zop180, 0, 28), (9, zop76, 0, 0), (10, zop42, 0, 0), (11, zop180, 0, 31), (14, zop77, 0, 0), (15, zop42, 0, 0)], [(16, zop180, 0, 34), (19, zop78, 0, 0), (20, zop16, 8, 0), (24, zop58, 4, 0), (26, zop3, 0, 0), (27, zop54, 5, 0), (29, zop21, 5, 0), (31, zop16, 8, 0), (33, zop162, 0, 65), (36, zop3, 0, 0)], [(37, zop54, 6, 0), (39, zop21, 6, 0), (41, zop16, 8, 0), (43, zop162, 0, 49), (46, zop42, 0, 0), (47, zop21, 6, 0), (49, zop21, 5, 0), (51, zop182, 0, 168), (54, zop54, 7, 0), (56, zop25, 4, 0)], [(58, zop21, 5, 0), (60, zop92, 0, 0), (61, zop46, 0, 0), (62, zop21, 7, 0), (64, zop155, 0, 15), (67, zop21, 7, 0), (69, zop154, 0, 14), (72, zop21, 6, 0), (74, zop21, 5, 0), (76, zop162, 0, 7)], [(79, zop4, 0, 0), (80, zop167, 0, 4), (83, zop3, 0, 0), (84, zop96, 0, 0), (85, zop79, 0, 0), (86, zop132, 6, 1), (89, zop167, 255, 206), (92, zop132, 5, 1), (95, zop167, 255, 190), (98, zop42, 0, 0)], [(99, zop16, 8, 0), (103, zop181, 0, 28), (106, zop42, 0, 0), (107, zop16, 8, 0), (111, zop181, 0, 31), (114, zop42, 0, 0), (115, zop16, 8, 0), (119, zop181, 0, 34), (122, zop3, 0, 0), (123, zop54, 5, 0)]] := dQ_of _ _ (by decide +kernel)
theorem dX7_sort_0 : decode cX7_sort 0 = .ok (.aload_n 0, 1) := dTo1_59.1.1
theorem dX7_sort_1 : decode cX7_sort 1 = .ok (.iconst 0, 1) := dTo1_59.1.2.1
theorem dX7_sort_2 : decode cX7_sort 2 = .ok (.putfield 50, 3) := dTo1_59.1.2.2.1
theorem dX7_sort_5 : decode cX7_sort 5 = .ok (.aload_n 0, 1) := dTo1_59.1.2.2.2.1
theorem dX7_sort_6 : decode cX7_sort 6 = .ok (.getfield 28, 3) := dTo1_59.1.2.2.2.2.1
theorem dX7_sort_9 : decode cX7_sort 9 = .ok (.astore_n 1, 1) := dTo1_59.1.2.2.2.2.2.1
theorem dX7_sort_10 : decode cX7_sort 10 = .ok (.aload_n 0, 1) := dTo1_59.1.2.2.2.2.2.2.1
theorem dX7_sort_11 : decode cX7_sort 11 = .ok (.getfield 31, 3) := dTo1_59.1.2.2.2.2.2.2.2.1
theorem dX7_sort_14 : decode cX7_sort 14 = .ok (.astore_n 2, 1) := dTo1_59.1.2.2.2.2.2.2.2.2.1
theorem dX7_sort_15 : decode cX7_sort 15 = .ok (.aload_n 0, 1) := dTo1_59.1.2.2.2.2.2.2.2.2.2.1
theorem dX7_sort_16 : decode cX7_sort 16 = .ok (.getfield 34, 3) := dTo1_59.2.1.1
theorem dX7_sort_19 : decode cX7_sort 19 = .ok (.astore_n 3, 1) := dTo1_59.2.1.2.1
theorem dX7_sort_20 : decode cX7_sort 20 = .ok (.bipush 8, 2) := dTo1_59.2.1.2.2.1
theorem dX7_sort_24 : decode cX7_sort 24 = .ok (.astore 4, 2) := dTo1_59.2.1.2.2.2.1
theorem dX7_sort_26 : decode cX7_sort 26 = .ok (.iconst 0, 1) := dTo1_59.2.1.2.2.2.2.1
theorem dX7_sort_27 : decode cX7_sort 27 = .ok (.istore 5, 2) := dTo1_59.2.1.2.2.2.2.2.1
theorem dX7_sort_29 : decode cX7_sort 29 = .ok (.iload 5, 2) := dTo1_59.2.1.2.2.2.2.2.2.1
theorem dX7_sort_31 : decode cX7_sort 31 = .ok (.bipush 8, 2) := dTo1_59.2.1.2.2.2.2.2.2.2.1
theorem dX7_sort_33 : decode cX7_sort 33 = .ok (.if_icmp .ge 65, 3) := dTo1_59.2.1.2.2.2.2.2.2.2.2.1
theorem dX7_sort_36 : decode cX7_sort 36 = .ok (.iconst 0, 1) := dTo1_59.2.1.2.2.2.2.2.2.2.2.2.1
theorem dX7_sort_37 : decode cX7_sort 37 = .ok (.istore 6, 2) := dTo1_59.2.2.1.1
theorem dX7_sort_39 : decode cX7_sort 39 = .ok (.iload 6, 2) := dTo1_59.2.2.1.2.1
theorem dX7_sort_41 : decode cX7_sort 41 = .ok (.bipush 8, 2) := dTo1_59.2.2.1.2.2.1
theorem dX7_sort_43 : decode cX7_sort 43 = .ok (.if_icmp .ge 49, 3) := dTo1_59.2.2.1.2.2.2.1
theorem dX7_sort_46 : decode cX7_sort 46 = .ok (.aload_n 0, 1) := dTo1_59.2.2.1.2.2.2.2.1
theorem dX7_sort_47 : decode cX7_sort 47 = .ok (.iload 6, 2) := dTo1_59.2.2.1.2.2.2.2.2.1
theorem dX7_sort_49 : decode cX7_sort 49 = .ok (.iload 5, 2) := dTo1_59.2.2.1.2.2.2.2.2.2.1
theorem dX7_sort_51 : decode cX7_sort 51 = .ok (.invokevirtual 168, 3) := dTo1_59.2.2.1.2.2.2.2.2.2.2.1
theorem dX7_sort_54 : decode cX7_sort 54 = .ok (.istore 7, 2) := dTo1_59.2.2.1.2.2.2.2.2.2.2.2.1
theorem dX7_sort_56 : decode cX7_sort 56 = .ok (.aload 4, 2) := dTo1_59.2.2.1.2.2.2.2.2.2.2.2.2.1
theorem dX7_sort_58 : decode cX7_sort 58 = .ok (.iload 5, 2) := dTo1_59.2.2.2.1.1
theorem dX7_sort_60 : decode cX7_sort 60 = .ok (.dup2, 1) := dTo1_59.2.2.2.1.2.1
theorem dX7_sort_61 : decode cX7_sort 61 = .ok (.iaload, 1) := dTo1_59.2.2.2.1.2.2.1
theorem dX7_sort_62 : decode cX7_sort 62 = .ok (.iload 7, 2) := dTo1_59.2.2.2.1.2.2.2.1
theorem dX7_sort_64 : decode cX7_sort 64 = .ok (.ifCond .lt 15, 3) := dTo1_59.2.2.2.1.2.2.2.2.1
theorem dX7_sort_67 : decode cX7_sort 67 = .ok (.iload 7, 2) := dTo1_59.2.2.2.1.2.2.2.2.2.1
theorem dX7_sort_69 : decode cX7_sort 69 = .ok (.ifCond .ne 14, 3) := dTo1_59.2.2.2.1.2.2.2.2.2.2.1
theorem dX7_sort_72 : decode cX7_sort 72 = .ok (.iload 6, 2) := dTo1_59.2.2.2.1.2.2.2.2.2.2.2.1
theorem dX7_sort_74 : decode cX7_sort 74 = .ok (.iload 5, 2) := dTo1_59.2.2.2.1.2.2.2.2.2.2.2.2.1
theorem dX7_sort_76 : decode cX7_sort 76 = .ok (.if_icmp .ge 7, 3) := dTo1_59.2.2.2.1.2.2.2.2.2.2.2.2.2.1
theorem dX7_sort_79 : decode cX7_sort 79 = .ok (.iconst 1, 1) := dTo1_59.2.2.2.2.1.1
theorem dX7_sort_80 : decode cX7_sort 80 = .ok (.goto 4, 3) := dTo1_59.2.2.2.2.1.2.1
theorem dX7_sort_83 : decode cX7_sort 83 = .ok (.iconst 0, 1) := dTo1_59.2.2.2.2.1.2.2.1
theorem dX7_sort_84 : decode cX7_sort 84 = .ok (.iadd, 1) := dTo1_59.2.2.2.2.1.2.2.2.1
theorem dX7_sort_85 : decode cX7_sort 85 = .ok (.iastore, 1) := dTo1_59.2.2.2.2.1.2.2.2.2.1
theorem dX7_sort_86 : decode cX7_sort 86 = .ok (.iinc 6 1, 3) := dTo1_59.2.2.2.2.1.2.2.2.2.2.1
theorem dX7_sort_89 : decode cX7_sort 89 = .ok (.goto (-50), 3) := dTo1_59.2.2.2.2.1.2.2.2.2.2.2.1
theorem dX7_sort_92 : decode cX7_sort 92 = .ok (.iinc 5 1, 3) := dTo1_59.2.2.2.2.1.2.2.2.2.2.2.2.1
theorem dX7_sort_95 : decode cX7_sort 95 = .ok (.goto (-66), 3) := dTo1_59.2.2.2.2.1.2.2.2.2.2.2.2.2.1
theorem dX7_sort_98 : decode cX7_sort 98 = .ok (.aload_n 0, 1) := dTo1_59.2.2.2.2.1.2.2.2.2.2.2.2.2.2.1
theorem dX7_sort_99 : decode cX7_sort 99 = .ok (.bipush 8, 2) := dTo1_59.2.2.2.2.2.1.1
theorem dX7_sort_103 : decode cX7_sort 103 = .ok (.putfield 28, 3) := dTo1_59.2.2.2.2.2.1.2.1
theorem dX7_sort_106 : decode cX7_sort 106 = .ok (.aload_n 0, 1) := dTo1_59.2.2.2.2.2.1.2.2.1
theorem dX7_sort_107 : decode cX7_sort 107 = .ok (.bipush 8, 2) := dTo1_59.2.2.2.2.2.1.2.2.2.1
theorem dX7_sort_111 : decode cX7_sort 111 = .ok (.putfield 31, 3) := dTo1_59.2.2.2.2.2.1.2.2.2.2.1
theorem dX7_sort_114 : decode cX7_sort 114 = .ok (.aload_n 0, 1) := dTo1_59.2.2.2.2.2.1.2.2.2.2.2.1
theorem dX7_sort_115 : decode cX7_sort 115 = .ok (.bipush 8, 2) := dTo1_59.2.2.2.2.2.1.2.2.2.2.2.2.1
theorem dX7_sort_119 : decode cX7_sort 119 = .ok (.putfield 34, 3) := dTo1_59.2.2.2.2.2.1.2.2.2.2.2.2.2.1
theorem dX7_sort_122 : decode cX7_sort 122 = .ok (.iconst 0, 1) := dTo1_59.2.2.2.2.2.1.2.2.2.2.2.2.2.2.1
theorem dX7_sort_123 : decode cX7_sort 123 = .ok (.istore 5, 2) := dTo1_59.2.2.2.2.2.1.2.2.2.2.2.2.2.2.2.1
theorem dTo1_60 : dQ cX7_sort [[(125, zop21, 5, 0), (127, zop16, 8, 0), (129, zop162, 0, 51), (132, zop42, 0, 0), (133, zop180, 0, 28), (136, zop25, 4, 0), (138, zop21, 5, 0), (140, zop46, 0, 0), (141, zop43, 0, 0), (142, zop21, 5, 0)], [(144, zop46, 0, 0), (145, zop79, 0, 0), (146, zop42, 0, 0), (147, zop180, 0, 31), (150, zop25, 4, 0), (152, zop21, 5, 0), (154, zop46, 0, 0), (155, zop44, 0, 0), (156, zop21, 5, 0), (158, zop46, 0, 0)], [(159, zop79, 0, 0), (160, zop42, 0, 0), (161, zop180, 0, 34), (164, zop25, 4, 0), (166, zop21, 5, 0), (168, zop46, 0, 0), (169, zop45, 0, 0), (170, zop21, 5, 0), (172, zop51, 0, 0), (173, zop84, 0, 0)], [(174, zop132, 5, 1), (177, zop167, 255, 204), (180, zop42, 0, 0), (181, zop89, 0, 0), (182, zop180, 0, 117), (185, zop4, 0, 0), (186, zop96, 0, 0), (187, zop181, 0, 117), (190, zop42, 0, 0), (191, zop43, 0, 0)], [(192, zop44, 0, 0), (193, zop45, 0, 0), (194, zop182, 0, 140), (197, zop172, 0, 0)]] := dQ_of _ _ (by decide +kernel)
theorem dX7_sort_125 : decode cX7_sort 125 = .ok (.iload 5, 2) := dTo1_60.1.1
theorem dX7_sort_127 : decode cX7_sort 127 = .ok (.bipush 8, 2) := dTo1_60.1.2.1
theorem dX7_sort_129 : decode cX7_sort 129 = .ok (.if_icmp .ge 51, 3) := dTo1_60.1.2.2.1
theorem dX7_sort_132 : decode cX7_sort 132 = .ok (.aload_n 0, 1) := dTo1_60.1.2.2.2.1
theorem dX7_sort_133 : decode cX7_sort 133 = .ok (.getfield 28, 3) := dTo1_60.1.2.2.2.2.1
theorem dX7_sort_136 : decode cX7_sort 136 = .ok (.aload 4, 2) := dTo1_60.1.2.2.2.2.2.1
theorem dX7_sort_138 : decode cX7_sort 138 = .ok (.iload 5, 2) := dTo1_60.1.2.2.2.2.2.2.1
theorem dX7_sort_140 : decode cX7_sort 140 = .ok (.iaload, 1) := dTo1_60.1.2.2.2.2.2.2.2.1
theorem dX7_sort_141 : decode cX7_sort 141 = .ok (.aload_n 1, 1) := dTo1_60.1.2.2.2.2.2.2.2.2.1
theorem dX7_sort_142 : decode cX7_sort 142 = .ok (.iload 5, 2) := dTo1_60.1.2.2.2.2.2.2.2.2.2.1
theorem dX7_sort_144 : decode cX7_sort 144 = .ok (.iaload, 1) := dTo1_60.2.1.1
theorem dX7_sort_145 : decode cX7_sort 145 = .ok (.iastore, 1) := dTo1_60.2.1.2.1
theorem dX7_sort_146 : decode cX7_sort 146 = .ok (.aload_n 0, 1) := dTo1_60.2.1.2.2.1
theorem dX7_sort_147 : decode cX7_sort 147 = .ok (.getfield 31, 3) := dTo1_60.2.1.2.2.2.1
theorem dX7_sort_150 : decode cX7_sort 150 = .ok (.aload 4, 2) := dTo1_60.2.1.2.2.2.2.1
theorem dX7_sort_152 : decode cX7_sort 152 = .ok (.iload 5, 2) := dTo1_60.2.1.2.2.2.2.2.1
theorem dX7_sort_154 : decode cX7_sort 154 = .ok (.iaload, 1) := dTo1_60.2.1.2.2.2.2.2.2.1
theorem dX7_sort_155 : decode cX7_sort 155 = .ok (.aload_n 2, 1) := dTo1_60.2.1.2.2.2.2.2.2.2.1
theorem dX7_sort_156 : decode cX7_sort 156 = .ok (.iload 5, 2) := dTo1_60.2.1.2.2.2.2.2.2.2.2.1
theorem dX7_sort_158 : decode cX7_sort 158 = .ok (.iaload, 1) := dTo1_60.2.1.2.2.2.2.2.2.2.2.2.1
theorem dX7_sort_159 : decode cX7_sort 159 = .ok (.iastore, 1) := dTo1_60.2.2.1.1
theorem dX7_sort_160 : decode cX7_sort 160 = .ok (.aload_n 0, 1) := dTo1_60.2.2.1.2.1
theorem dX7_sort_161 : decode cX7_sort 161 = .ok (.getfield 34, 3) := dTo1_60.2.2.1.2.2.1
theorem dX7_sort_164 : decode cX7_sort 164 = .ok (.aload 4, 2) := dTo1_60.2.2.1.2.2.2.1
theorem dX7_sort_166 : decode cX7_sort 166 = .ok (.iload 5, 2) := dTo1_60.2.2.1.2.2.2.2.1
theorem dX7_sort_168 : decode cX7_sort 168 = .ok (.iaload, 1) := dTo1_60.2.2.1.2.2.2.2.2.1
theorem dX7_sort_169 : decode cX7_sort 169 = .ok (.aload_n 3, 1) := dTo1_60.2.2.1.2.2.2.2.2.2.1
theorem dX7_sort_170 : decode cX7_sort 170 = .ok (.iload 5, 2) := dTo1_60.2.2.1.2.2.2.2.2.2.2.1
theorem dX7_sort_172 : decode cX7_sort 172 = .ok (.baload, 1) := dTo1_60.2.2.1.2.2.2.2.2.2.2.2.1
theorem dX7_sort_173 : decode cX7_sort 173 = .ok (.bastore, 1) := dTo1_60.2.2.1.2.2.2.2.2.2.2.2.2.1
theorem dX7_sort_174 : decode cX7_sort 174 = .ok (.iinc 5 1, 3) := dTo1_60.2.2.2.1.1
theorem dX7_sort_177 : decode cX7_sort 177 = .ok (.goto (-52), 3) := dTo1_60.2.2.2.1.2.1
theorem dX7_sort_180 : decode cX7_sort 180 = .ok (.aload_n 0, 1) := dTo1_60.2.2.2.1.2.2.1
theorem dX7_sort_181 : decode cX7_sort 181 = .ok (.dup, 1) := dTo1_60.2.2.2.1.2.2.2.1
theorem dX7_sort_182 : decode cX7_sort 182 = .ok (.getfield 117, 3) := dTo1_60.2.2.2.1.2.2.2.2.1
theorem dX7_sort_185 : decode cX7_sort 185 = .ok (.iconst 1, 1) := dTo1_60.2.2.2.1.2.2.2.2.2.1
theorem dX7_sort_186 : decode cX7_sort 186 = .ok (.iadd, 1) := dTo1_60.2.2.2.1.2.2.2.2.2.2.1
theorem dX7_sort_187 : decode cX7_sort 187 = .ok (.putfield 117, 3) := dTo1_60.2.2.2.1.2.2.2.2.2.2.2.1
theorem dX7_sort_190 : decode cX7_sort 190 = .ok (.aload_n 0, 1) := dTo1_60.2.2.2.1.2.2.2.2.2.2.2.2.1
theorem dX7_sort_191 : decode cX7_sort 191 = .ok (.aload_n 1, 1) := dTo1_60.2.2.2.1.2.2.2.2.2.2.2.2.2.1
theorem dX7_sort_192 : decode cX7_sort 192 = .ok (.aload_n 2, 1) := dTo1_60.2.2.2.2.1.1
theorem dX7_sort_193 : decode cX7_sort 193 = .ok (.aload_n 3, 1) := dTo1_60.2.2.2.2.1.2.1
theorem dX7_sort_194 : decode cX7_sort 194 = .ok (.invokevirtual 140, 3) := dTo1_60.2.2.2.2.1.2.2.1
theorem dX7_sort_197 : decode cX7_sort 197 = .ok (.ireturn, 1) := dTo1_60.2.2.2.2.1.2.2.2.1
theorem dTo1_61 : dQ cX7_kind [[(0, zop42, 0, 0), (1, zop27, 0, 0), (2, zop184, 0, 123), (5, zop3, 0, 0), (6, zop182, 0, 126), (9, zop153, 0, 7), (12, zop3, 0, 0), (13, zop167, 0, 9), (16, zop42, 0, 0), (17, zop180, 0, 28)], [(20, zop27, 0, 0), (21, zop46, 0, 0), (22, zop172, 0, 0)]] := dQ_of _ _ (by decide +kernel)
theorem dX7_kind_0 : decode cX7_kind 0 = .ok (.aload_n 0, 1) := dTo1_61.1.1
theorem dX7_kind_1 : decode cX7_kind 1 = .ok (.iload_n 1, 1) := dTo1_61.1.2.1
theorem dX7_kind_2 : decode cX7_kind 2 = .ok (.invokestatic 123, 3) := dTo1_61.1.2.2.1
theorem dX7_kind_5 : decode cX7_kind 5 = .ok (.iconst 0, 1) := dTo1_61.1.2.2.2.1
theorem dX7_kind_6 : decode cX7_kind 6 = .ok (.invokevirtual 126, 3) := dTo1_61.1.2.2.2.2.1
theorem dX7_kind_9 : decode cX7_kind 9 = .ok (.ifCond .eq 7, 3) := dTo1_61.1.2.2.2.2.2.1
theorem dX7_kind_12 : decode cX7_kind 12 = .ok (.iconst 0, 1) := dTo1_61.1.2.2.2.2.2.2.1
theorem dX7_kind_13 : decode cX7_kind 13 = .ok (.goto 9, 3) := dTo1_61.1.2.2.2.2.2.2.2.1
theorem dX7_kind_16 : decode cX7_kind 16 = .ok (.aload_n 0, 1) := dTo1_61.1.2.2.2.2.2.2.2.2.1
theorem dX7_kind_17 : decode cX7_kind 17 = .ok (.getfield 28, 3) := dTo1_61.1.2.2.2.2.2.2.2.2.2.1
theorem dX7_kind_20 : decode cX7_kind 20 = .ok (.iload_n 1, 1) := dTo1_61.2.1.1
theorem dX7_kind_21 : decode cX7_kind 21 = .ok (.iaload, 1) := dTo1_61.2.1.2.1
theorem dX7_kind_22 : decode cX7_kind 22 = .ok (.ireturn, 1) := dTo1_61.2.1.2.2.1
theorem dTo1_62 : dQ cX7_of [[(0, zop42, 0, 0), (1, zop27, 0, 0), (2, zop184, 0, 123), (5, zop3, 0, 0), (6, zop182, 0, 126), (9, zop153, 0, 5), (12, zop3, 0, 0), (13, zop172, 0, 0), (14, zop42, 0, 0), (15, zop180, 0, 28)], [(18, zop27, 0, 0), (19, zop46, 0, 0), (20, zop4, 0, 0), (21, zop159, 0, 12), (24, zop42, 0, 0), (25, zop180, 0, 31), (28, zop27, 0, 0), (29, zop46, 0, 0), (30, zop167, 0, 21), (33, zop42, 0, 0)], [(34, zop180, 0, 34), (37, zop27, 0, 0), (38, zop51, 0, 0), (39, zop153, 0, 9), (42, zop17, 252, 24), (45, zop167, 0, 6), (48, zop17, 3, 232), (51, zop172, 0, 0)]] := dQ_of _ _ (by decide +kernel)
theorem dX7_of_0 : decode cX7_of 0 = .ok (.aload_n 0, 1) := dTo1_62.1.1
theorem dX7_of_1 : decode cX7_of 1 = .ok (.iload_n 1, 1) := dTo1_62.1.2.1
theorem dX7_of_2 : decode cX7_of 2 = .ok (.invokestatic 123, 3) := dTo1_62.1.2.2.1
theorem dX7_of_5 : decode cX7_of 5 = .ok (.iconst 0, 1) := dTo1_62.1.2.2.2.1
theorem dX7_of_6 : decode cX7_of 6 = .ok (.invokevirtual 126, 3) := dTo1_62.1.2.2.2.2.1
theorem dX7_of_9 : decode cX7_of 9 = .ok (.ifCond .eq 5, 3) := dTo1_62.1.2.2.2.2.2.1
theorem dX7_of_12 : decode cX7_of 12 = .ok (.iconst 0, 1) := dTo1_62.1.2.2.2.2.2.2.1
theorem dX7_of_13 : decode cX7_of 13 = .ok (.ireturn, 1) := dTo1_62.1.2.2.2.2.2.2.2.1
theorem dX7_of_14 : decode cX7_of 14 = .ok (.aload_n 0, 1) := dTo1_62.1.2.2.2.2.2.2.2.2.1
theorem dX7_of_15 : decode cX7_of 15 = .ok (.getfield 28, 3) := dTo1_62.1.2.2.2.2.2.2.2.2.2.1
theorem dX7_of_18 : decode cX7_of 18 = .ok (.iload_n 1, 1) := dTo1_62.2.1.1
theorem dX7_of_19 : decode cX7_of 19 = .ok (.iaload, 1) := dTo1_62.2.1.2.1
theorem dX7_of_20 : decode cX7_of 20 = .ok (.iconst 1, 1) := dTo1_62.2.1.2.2.1
theorem dX7_of_21 : decode cX7_of 21 = .ok (.if_icmp .eq 12, 3) := dTo1_62.2.1.2.2.2.1
theorem dX7_of_24 : decode cX7_of 24 = .ok (.aload_n 0, 1) := dTo1_62.2.1.2.2.2.2.1
theorem dX7_of_25 : decode cX7_of 25 = .ok (.getfield 31, 3) := dTo1_62.2.1.2.2.2.2.2.1
theorem dX7_of_28 : decode cX7_of 28 = .ok (.iload_n 1, 1) := dTo1_62.2.1.2.2.2.2.2.2.1
theorem dX7_of_29 : decode cX7_of 29 = .ok (.iaload, 1) := dTo1_62.2.1.2.2.2.2.2.2.2.1
theorem dX7_of_30 : decode cX7_of 30 = .ok (.goto 21, 3) := dTo1_62.2.1.2.2.2.2.2.2.2.2.1
theorem dX7_of_33 : decode cX7_of 33 = .ok (.aload_n 0, 1) := dTo1_62.2.1.2.2.2.2.2.2.2.2.2.1
theorem dX7_of_34 : decode cX7_of 34 = .ok (.getfield 34, 3) := dTo1_62.2.2.1.1
theorem dX7_of_37 : decode cX7_of 37 = .ok (.iload_n 1, 1) := dTo1_62.2.2.1.2.1
theorem dX7_of_38 : decode cX7_of 38 = .ok (.baload, 1) := dTo1_62.2.2.1.2.2.1
theorem dX7_of_39 : decode cX7_of 39 = .ok (.ifCond .eq 9, 3) := dTo1_62.2.2.1.2.2.2.1
theorem dX7_of_42 : decode cX7_of 42 = .ok (.sipush (-1000), 3) := dTo1_62.2.2.1.2.2.2.2.1
theorem dX7_of_45 : decode cX7_of 45 = .ok (.goto 6, 3) := dTo1_62.2.2.1.2.2.2.2.2.1
theorem dX7_of_48 : decode cX7_of 48 = .ok (.sipush 1000, 3) := dTo1_62.2.2.1.2.2.2.2.2.2.1
theorem dX7_of_51 : decode cX7_of 51 = .ok (.ireturn, 1) := dTo1_62.2.2.1.2.2.2.2.2.2.2.1
theorem dTo1_63 : dQ cX7_isBelow [[(0, zop42, 0, 0), (1, zop27, 0, 0), (2, zop184, 0, 123), (5, zop3, 0, 0), (6, zop182, 0, 126), (9, zop153, 0, 5), (12, zop3, 0, 0), (13, zop172, 0, 0), (14, zop42, 0, 0), (15, zop180, 0, 34)], [(18, zop27, 0, 0), (19, zop51, 0, 0), (20, zop154, 0, 35), (23, zop42, 0, 0), (24, zop180, 0, 28), (27, zop27, 0, 0), (28, zop46, 0, 0), (29, zop4, 0, 0), (30, zop159, 0, 29), (33, zop42, 0, 0)], [(34, zop42, 0, 0), (35, zop180, 0, 28), (38, zop27, 0, 0), (39, zop46, 0, 0), (40, zop42, 0, 0), (41, zop180, 0, 31), (44, zop27, 0, 0), (45, zop46, 0, 0), (46, zop182, 0, 88), (49, zop16, 10, 0)], [(51, zop46, 0, 0), (52, zop156, 0, 7), (55, zop4, 0, 0), (56, zop167, 0, 4), (59, zop3, 0, 0), (60, zop172, 0, 0)]] := dQ_of _ _ (by decide +kernel)
theorem dX7_isBelow_0 : decode cX7_isBelow 0 = .ok (.aload_n 0, 1) := dTo1_63.1.1
theorem dX7_isBelow_1 : decode cX7_isBelow 1 = .ok (.iload_n 1, 1) := dTo1_63.1.2.1
theorem dX7_isBelow_2 : decode cX7_isBelow 2 = .ok (.invokestatic 123, 3) := dTo1_63.1.2.2.1
theorem dX7_isBelow_5 : decode cX7_isBelow 5 = .ok (.iconst 0, 1) := dTo1_63.1.2.2.2.1
theorem dX7_isBelow_6 : decode cX7_isBelow 6 = .ok (.invokevirtual 126, 3) := dTo1_63.1.2.2.2.2.1
theorem dX7_isBelow_9 : decode cX7_isBelow 9 = .ok (.ifCond .eq 5, 3) := dTo1_63.1.2.2.2.2.2.1
theorem dX7_isBelow_12 : decode cX7_isBelow 12 = .ok (.iconst 0, 1) := dTo1_63.1.2.2.2.2.2.2.1
theorem dX7_isBelow_13 : decode cX7_isBelow 13 = .ok (.ireturn, 1) := dTo1_63.1.2.2.2.2.2.2.2.1
theorem dX7_isBelow_14 : decode cX7_isBelow 14 = .ok (.aload_n 0, 1) := dTo1_63.1.2.2.2.2.2.2.2.2.1
theorem dX7_isBelow_15 : decode cX7_isBelow 15 = .ok (.getfield 34, 3) := dTo1_63.1.2.2.2.2.2.2.2.2.2.1
theorem dX7_isBelow_18 : decode cX7_isBelow 18 = .ok (.iload_n 1, 1) := dTo1_63.2.1.1
theorem dX7_isBelow_19 : decode cX7_isBelow 19 = .ok (.baload, 1) := dTo1_63.2.1.2.1
theorem dX7_isBelow_20 : decode cX7_isBelow 20 = .ok (.ifCond .ne 35, 3) := dTo1_63.2.1.2.2.1
theorem dX7_isBelow_23 : decode cX7_isBelow 23 = .ok (.aload_n 0, 1) := dTo1_63.2.1.2.2.2.1
theorem dX7_isBelow_24 : decode cX7_isBelow 24 = .ok (.getfield 28, 3) := dTo1_63.2.1.2.2.2.2.1
theorem dX7_isBelow_27 : decode cX7_isBelow 27 = .ok (.iload_n 1, 1) := dTo1_63.2.1.2.2.2.2.2.1
theorem dX7_isBelow_28 : decode cX7_isBelow 28 = .ok (.iaload, 1) := dTo1_63.2.1.2.2.2.2.2.2.1
theorem dX7_isBelow_29 : decode cX7_isBelow 29 = .ok (.iconst 1, 1) := dTo1_63.2.1.2.2.2.2.2.2.2.1
theorem dX7_isBelow_30 : decode cX7_isBelow 30 = .ok (.if_icmp .eq 29, 3) := dTo1_63.2.1.2.2.2.2.2.2.2.2.1
theorem dX7_isBelow_33 : decode cX7_isBelow 33 = .ok (.aload_n 0, 1) := dTo1_63.2.1.2.2.2.2.2.2.2.2.2.1
theorem dX7_isBelow_34 : decode cX7_isBelow 34 = .ok (.aload_n 0, 1) := dTo1_63.2.2.1.1
theorem dX7_isBelow_35 : decode cX7_isBelow 35 = .ok (.getfield 28, 3) := dTo1_63.2.2.1.2.1
theorem dX7_isBelow_38 : decode cX7_isBelow 38 = .ok (.iload_n 1, 1) := dTo1_63.2.2.1.2.2.1
theorem dX7_isBelow_39 : decode cX7_isBelow 39 = .ok (.iaload, 1) := dTo1_63.2.2.1.2.2.2.1
theorem dX7_isBelow_40 : decode cX7_isBelow 40 = .ok (.aload_n 0, 1) := dTo1_63.2.2.1.2.2.2.2.1
theorem dX7_isBelow_41 : decode cX7_isBelow 41 = .ok (.getfield 31, 3) := dTo1_63.2.2.1.2.2.2.2.2.1
theorem dX7_isBelow_44 : decode cX7_isBelow 44 = .ok (.iload_n 1, 1) := dTo1_63.2.2.1.2.2.2.2.2.2.1
theorem dX7_isBelow_45 : decode cX7_isBelow 45 = .ok (.iaload, 1) := dTo1_63.2.2.1.2.2.2.2.2.2.2.1
theorem dX7_isBelow_46 : decode cX7_isBelow 46 = .ok (.invokevirtual 88, 3) := dTo1_63.2.2.1.2.2.2.2.2.2.2.2.1
theorem dX7_isBelow_49 : decode cX7_isBelow 49 = .ok (.bipush 10, 2) := dTo1_63.2.2.1.2.2.2.2.2.2.2.2.2.1
theorem dX7_isBelow_51 : decode cX7_isBelow 51 = .ok (.iaload, 1) := dTo1_63.2.2.2.1.1
theorem dX7_isBelow_52 : decode cX7_isBelow 52 = .ok (.ifCond .ge 7, 3) := dTo1_63.2.2.2.1.2.1
theorem dX7_isBelow_55 : decode cX7_isBelow 55 = .ok (.iconst 1, 1) := dTo1_63.2.2.2.1.2.2.1
theorem dX7_isBelow_56 : decode cX7_isBelow 56 = .ok (.goto 4, 3) := dTo1_63.2.2.2.1.2.2.2.1
theorem dX7_isBelow_59 : decode cX7_isBelow 59 = .ok (.iconst 0, 1) := dTo1_63.2.2.2.1.2.2.2.2.1
theorem dX7_isBelow_60 : decode cX7_isBelow 60 = .ok (.ireturn, 1) := dTo1_63.2.2.2.1.2.2.2.2.2.1
theorem dTo1_64 : dQ cX7_isZero [[(0, zop42, 0, 0), (1, zop27, 0, 0), (2, zop184, 0, 123), (5, zop3, 0, 0), (6, zop182, 0, 126), (9, zop154, 0, 15), (12, zop42, 0, 0), (13, zop27, 0, 0), (14, zop182, 0, 109), (17, zop153, 0, 7)], [(20, zop4, 0, 0), (21, zop167, 0, 4), (24, zop3, 0, 0), (25, zop172, 0, 0)]] := dQ_of _ _ (by decide +kernel)
theorem dX7_isZero_0 : decode cX7_isZero 0 = .ok (.aload_n 0, 1) := dTo1_64.1.1
theorem dX7_isZero_1 : decode cX7_isZero 1 = .ok (.iload_n 1, 1) := dTo1_64.1.2.1
theorem dX7_isZero_2 : decode cX7_isZero 2 = .ok (.invokestatic 123, 3) := dTo1_64.1.2.2.1
theorem dX7_isZero_5 : decode cX7_isZero 5 = .ok (.iconst 0, 1) := dTo1_64.1.2.2.2.1
theorem dX7_isZero_6 : decode cX7_isZero 6 = .ok (.invokevirtual 126, 3) := dTo1_64.1.2.2.2.2.1
theorem dX7_isZero_9 : decode cX7_isZero 9 = .ok (.ifCond .ne 15, 3) := dTo1_64.1.2.2.2.2.2.1
theorem dX7_isZero_12 : decode cX7_isZero 12 = .ok (.aload_n 0, 1) := dTo1_64.1.2.2.2.2.2.2.1
theorem dX7_isZero_13 : decode cX7_isZero 13 = .ok (.iload_n 1, 1) := dTo1_64.1.2.2.2.2.2.2.2.1
theorem dX7_isZero_14 : decode cX7_isZero 14 = .ok (.invokevirtual 109, 3) := dTo1_64.1.2.2.2.2.2.2.2.2.1
theorem dX7_isZero_17 : decode cX7_isZero 17 = .ok (.ifCond .eq 7, 3) := dTo1_64.1.2.2.2.2.2.2.2.2.2.1
theorem dX7_isZero_20 : decode cX7_isZero 20 = .ok (.iconst 1, 1) := dTo1_64.2.1.1
theorem dX7_isZero_21 : decode cX7_isZero 21 = .ok (.goto 4, 3) := dTo1_64.2.1.2.1
theorem dX7_isZero_24 : decode cX7_isZero 24 = .ok (.iconst 0, 1) := dTo1_64.2.1.2.2.1
theorem dX7_isZero_25 : decode cX7_isZero 25 = .ok (.ireturn, 1) := dTo1_64.2.1.2.2.2.1
theorem dTo1_65 : dQ cX7_isEndless [[(0, zop42, 0, 0), (1, zop27, 0, 0), (2, zop184, 0, 123), (5, zop3, 0, 0), (6, zop182, 0, 126), (9, zop154, 0, 17), (12, zop42, 0, 0), (13, zop180, 0, 28), (16, zop27, 0, 0), (17, zop46, 0, 0)], [(18, zop4, 0, 0), (19, zop160, 0, 7), (22, zop4, 0, 0), (23, zop167, 0, 4), (26, zop3, 0, 0), (27, zop172, 0, 0)]] := dQ_of _ _ (by decide +kernel)
theorem dX7_isEndless_0 : decode cX7_isEndless 0 = .ok (.aload_n 0, 1) := dTo1_65.1.1
theorem dX7_isEndless_1 : decode cX7_isEndless 1 = .ok (.iload_n 1, 1) := dTo1_65.1.2.1
theorem dX7_isEndless_2 : decode cX7_isEndless 2 = .ok (.invokestatic 123, 3) := dTo1_65.1.2.2.1
theorem dX7_isEndless_5 : decode cX7_isEndless 5 = .ok (.iconst 0, 1) := dTo1_65.1.2.2.2.1
theorem dX7_isEndless_6 : decode cX7_isEndless 6 = .ok (.invokevirtual 126, 3) := dTo1_65.1.2.2.2.2.1
theorem dX7_isEndless_9 : decode cX7_isEndless 9 = .ok (.ifCond .ne 17, 3) := dTo1_65.1.2.2.2.2.2.1
theorem dX7_isEndless_12 : decode cX7_isEndless 12 = .ok (.aload_n 0, 1) := dTo1_65.1.2.2.2.2.2.2.1
theorem dX7_isEndless_13 : decode cX7_isEndless 13 = .ok (.getfield 28, 3) := dTo1_65.1.2.2.2.2.2.2.2.1
theorem dX7_isEndless_16 : decode cX7_isEndless 16 = .ok (.iload_n 1, 1) := dTo1_65.1.2.2.2.2.2.2.2.2.1
theorem dX7_isEndless_17 : decode cX7_isEndless 17 = .ok (.iaload, 1) := dTo1_65.1.2.2.2.2.2.2.2.2.2.1
theorem dX7_isEndless_18 : decode cX7_isEndless 18 = .ok (.iconst 1, 1) := dTo1_65.2.1.1
theorem dX7_isEndless_19 : decode cX7_isEndless 19 = .ok (.if_icmp .ne 7, 3) := dTo1_65.2.1.2.1
theorem dX7_isEndless_22 : decode cX7_isEndless 22 = .ok (.iconst 1, 1) := dTo1_65.2.1.2.2.1
theorem dX7_isEndless_23 : decode cX7_isEndless 23 = .ok (.goto 4, 3) := dTo1_65.2.1.2.2.2.1
theorem dX7_isEndless_26 : decode cX7_isEndless 26 = .ok (.iconst 0, 1) := dTo1_65.2.1.2.2.2.2.1
theorem dX7_isEndless_27 : decode cX7_isEndless 27 = .ok (.ireturn, 1) := dTo1_65.2.1.2.2.2.2.2.1
theorem dTo1_66 : dQ cX7_isUntold [[(0, zop42, 0, 0), (1, zop180, 0, 28), (4, zop27, 0, 0), (5, zop46, 0, 0), (6, zop4, 0, 0), (7, zop159, 0, 13), (10, zop42, 0, 0), (11, zop180, 0, 28), (14, zop27, 0, 0), (15, zop46, 0, 0)], [(16, zop7, 0, 0), (17, zop164, 0, 7), (20, zop4, 0, 0), (21, zop167, 0, 4), (24, zop3, 0, 0), (25, zop172, 0, 0)]] := dQ_of _ _ (by decide +kernel)
theorem dX7_isUntold_0 : decode cX7_isUntold 0 = .ok (.aload_n 0, 1) := dTo1_66.1.1
theorem dX7_isUntold_1 : decode cX7_isUntold 1 = .ok (.getfield 28, 3) := dTo1_66.1.2.1
theorem dX7_isUntold_4 : decode cX7_isUntold 4 = .ok (.iload_n 1, 1) := dTo1_66.1.2.2.1
theorem dX7_isUntold_5 : decode cX7_isUntold 5 = .ok (.iaload, 1) := dTo1_66.1.2.2.2.1
theorem dX7_isUntold_6 : decode cX7_isUntold 6 = .ok (.iconst 1, 1) := dTo1_66.1.2.2.2.2.1
theorem dX7_isUntold_7 : decode cX7_isUntold 7 = .ok (.if_icmp .eq 13, 3) := dTo1_66.1.2.2.2.2.2.1
theorem dX7_isUntold_10 : decode cX7_isUntold 10 = .ok (.aload_n 0, 1) := dTo1_66.1.2.2.2.2.2.2.1
theorem dX7_isUntold_11 : decode cX7_isUntold 11 = .ok (.getfield 28, 3) := dTo1_66.1.2.2.2.2.2.2.2.1
theorem dX7_isUntold_14 : decode cX7_isUntold 14 = .ok (.iload_n 1, 1) := dTo1_66.1.2.2.2.2.2.2.2.2.1
theorem dX7_isUntold_15 : decode cX7_isUntold 15 = .ok (.iaload, 1) := dTo1_66.1.2.2.2.2.2.2.2.2.2.1
theorem dX7_isUntold_16 : decode cX7_isUntold 16 = .ok (.iconst 4, 1) := dTo1_66.2.1.1
theorem dX7_isUntold_17 : decode cX7_isUntold 17 = .ok (.if_icmp .le 7, 3) := dTo1_66.2.1.2.1
theorem dX7_isUntold_20 : decode cX7_isUntold 20 = .ok (.iconst 1, 1) := dTo1_66.2.1.2.2.1
theorem dX7_isUntold_21 : decode cX7_isUntold 21 = .ok (.goto 4, 3) := dTo1_66.2.1.2.2.2.1
theorem dX7_isUntold_24 : decode cX7_isUntold 24 = .ok (.iconst 0, 1) := dTo1_66.2.1.2.2.2.2.1
theorem dX7_isUntold_25 : decode cX7_isUntold 25 = .ok (.ireturn, 1) := dTo1_66.2.1.2.2.2.2.2.1
theorem dTo1_67 : dQ cX7_whole [[(0, zop42, 0, 0), (1, zop27, 0, 0), (2, zop184, 0, 123), (5, zop28, 0, 0), (6, zop16, 194, 0), (8, zop16, 90, 0), (10, zop184, 0, 113), (13, zop154, 0, 7), (16, zop4, 0, 0), (17, zop167, 0, 4)], [(20, zop3, 0, 0), (21, zop182, 0, 126), (24, zop153, 0, 5), (27, zop3, 0, 0), (28, zop172, 0, 0), (29, zop42, 0, 0), (30, zop27, 0, 0), (31, zop182, 0, 174), (34, zop153, 0, 7), (37, zop1, 0, 0)], [(38, zop167, 0, 19), (41, zop42, 0, 0), (42, zop42, 0, 0), (43, zop180, 0, 28), (46, zop27, 0, 0), (47, zop46, 0, 0), (48, zop42, 0, 0), (49, zop180, 0, 31), (52, zop27, 0, 0), (53, zop46, 0, 0)], [(54, zop182, 0, 88), (57, zop78, 0, 0), (58, zop45, 0, 0), (59, zop198, 0, 15), (62, zop45, 0, 0), (63, zop17, 1, 0), (66, zop28, 0, 0), (67, zop100, 0, 0), (68, zop184, 0, 177), (71, zop154, 0, 10)], [(74, zop42, 0, 0), (75, zop6, 0, 0), (76, zop181, 0, 50), (79, zop3, 0, 0), (80, zop172, 0, 0), (81, zop45, 0, 0), (82, zop17, 1, 0), (85, zop28, 0, 0), (86, zop100, 0, 0), (87, zop184, 0, 181)], [(90, zop172, 0, 0)]] := dQ_of _ _ (by decide +kernel)
theorem dX7_whole_0 : decode cX7_whole 0 = .ok (.aload_n 0, 1) := dTo1_67.1.1
theorem dX7_whole_1 : decode cX7_whole 1 = .ok (.iload_n 1, 1) := dTo1_67.1.2.1
theorem dX7_whole_2 : decode cX7_whole 2 = .ok (.invokestatic 123, 3) := dTo1_67.1.2.2.1
theorem dX7_whole_5 : decode cX7_whole 5 = .ok (.iload_n 2, 1) := dTo1_67.1.2.2.2.1
theorem dX7_whole_6 : decode cX7_whole 6 = .ok (.bipush (-62), 2) := dTo1_67.1.2.2.2.2.1
theorem dX7_whole_8 : decode cX7_whole 8 = .ok (.bipush 90, 2) := dTo1_67.1.2.2.2.2.2.1
theorem dX7_whole_10 : decode cX7_whole 10 = .ok (.invokestatic 113, 3) := dTo1_67.1.2.2.2.2.2.2.1
theorem dX7_whole_13 : decode cX7_whole 13 = .ok (.ifCond .ne 7, 3) := dTo1_67.1.2.2.2.2.2.2.2.1
theorem dX7_whole_16 : decode cX7_whole 16 = .ok (.iconst 1, 1) := dTo1_67.1.2.2.2.2.2.2.2.2.1
theorem dX7_whole_17 : decode cX7_whole 17 = .ok (.goto 4, 3) := dTo1_67.1.2.2.2.2.2.2.2.2.2.1
theorem dX7_whole_20 : decode cX7_whole 20 = .ok (.iconst 0, 1) := dTo1_67.2.1.1
theorem dX7_whole_21 : decode cX7_whole 21 = .ok (.invokevirtual 126, 3) := dTo1_67.2.1.2.1
theorem dX7_whole_24 : decode cX7_whole 24 = .ok (.ifCond .eq 5, 3) := dTo1_67.2.1.2.2.1
theorem dX7_whole_27 : decode cX7_whole 27 = .ok (.iconst 0, 1) := dTo1_67.2.1.2.2.2.1
theorem dX7_whole_28 : decode cX7_whole 28 = .ok (.ireturn, 1) := dTo1_67.2.1.2.2.2.2.1
theorem dX7_whole_29 : decode cX7_whole 29 = .ok (.aload_n 0, 1) := dTo1_67.2.1.2.2.2.2.2.1
theorem dX7_whole_30 : decode cX7_whole 30 = .ok (.iload_n 1, 1) := dTo1_67.2.1.2.2.2.2.2.2.1
theorem dX7_whole_31 : decode cX7_whole 31 = .ok (.invokevirtual 174, 3) := dTo1_67.2.1.2.2.2.2.2.2.2.1
theorem dX7_whole_34 : decode cX7_whole 34 = .ok (.ifCond .eq 7, 3) := dTo1_67.2.1.2.2.2.2.2.2.2.2.1
theorem dX7_whole_37 : decode cX7_whole 37 = .ok (.aconst_null, 1) := dTo1_67.2.1.2.2.2.2.2.2.2.2.2.1
theorem dX7_whole_38 : decode cX7_whole 38 = .ok (.goto 19, 3) := dTo1_67.2.2.1.1
theorem dX7_whole_41 : decode cX7_whole 41 = .ok (.aload_n 0, 1) := dTo1_67.2.2.1.2.1
theorem dX7_whole_42 : decode cX7_whole 42 = .ok (.aload_n 0, 1) := dTo1_67.2.2.1.2.2.1
theorem dX7_whole_43 : decode cX7_whole 43 = .ok (.getfield 28, 3) := dTo1_67.2.2.1.2.2.2.1
theorem dX7_whole_46 : decode cX7_whole 46 = .ok (.iload_n 1, 1) := dTo1_67.2.2.1.2.2.2.2.1
theorem dX7_whole_47 : decode cX7_whole 47 = .ok (.iaload, 1) := dTo1_67.2.2.1.2.2.2.2.2.1
theorem dX7_whole_48 : decode cX7_whole 48 = .ok (.aload_n 0, 1) := dTo1_67.2.2.1.2.2.2.2.2.2.1
theorem dX7_whole_49 : decode cX7_whole 49 = .ok (.getfield 31, 3) := dTo1_67.2.2.1.2.2.2.2.2.2.2.1
theorem dX7_whole_52 : decode cX7_whole 52 = .ok (.iload_n 1, 1) := dTo1_67.2.2.1.2.2.2.2.2.2.2.2.1
theorem dX7_whole_53 : decode cX7_whole 53 = .ok (.iaload, 1) := dTo1_67.2.2.1.2.2.2.2.2.2.2.2.2.1
theorem dX7_whole_54 : decode cX7_whole 54 = .ok (.invokevirtual 88, 3) := dTo1_67.2.2.2.1.1
theorem dX7_whole_57 : decode cX7_whole 57 = .ok (.astore_n 3, 1) := dTo1_67.2.2.2.1.2.1
theorem dX7_whole_58 : decode cX7_whole 58 = .ok (.aload_n 3, 1) := dTo1_67.2.2.2.1.2.2.1
theorem dX7_whole_59 : decode cX7_whole 59 = .ok (.ifnull 15, 3) := dTo1_67.2.2.2.1.2.2.2.1
theorem dX7_whole_62 : decode cX7_whole 62 = .ok (.aload_n 3, 1) := dTo1_67.2.2.2.1.2.2.2.2.1
theorem dX7_whole_63 : decode cX7_whole 63 = .ok (.sipush 256, 3) := dTo1_67.2.2.2.1.2.2.2.2.2.1
theorem dX7_whole_66 : decode cX7_whole 66 = .ok (.iload_n 2, 1) := dTo1_67.2.2.2.1.2.2.2.2.2.2.1
theorem dX7_whole_67 : decode cX7_whole 67 = .ok (.isub, 1) := dTo1_67.2.2.2.1.2.2.2.2.2.2.2.1
theorem dX7_whole_68 : decode cX7_whole 68 = .ok (.invokestatic 177, 3) := dTo1_67.2.2.2.1.2.2.2.2.2.2.2.2.1
theorem dX7_whole_71 : decode cX7_whole 71 = .ok (.ifCond .ne 10, 3) := dTo1_67.2.2.2.1.2.2.2.2.2.2.2.2.2.1
theorem dX7_whole_74 : decode cX7_whole 74 = .ok (.aload_n 0, 1) := dTo1_67.2.2.2.2.1.1
theorem dX7_whole_75 : decode cX7_whole 75 = .ok (.iconst 3, 1) := dTo1_67.2.2.2.2.1.2.1
theorem dX7_whole_76 : decode cX7_whole 76 = .ok (.putfield 50, 3) := dTo1_67.2.2.2.2.1.2.2.1
theorem dX7_whole_79 : decode cX7_whole 79 = .ok (.iconst 0, 1) := dTo1_67.2.2.2.2.1.2.2.2.1
theorem dX7_whole_80 : decode cX7_whole 80 = .ok (.ireturn, 1) := dTo1_67.2.2.2.2.1.2.2.2.2.1
theorem dX7_whole_81 : decode cX7_whole 81 = .ok (.aload_n 3, 1) := dTo1_67.2.2.2.2.1.2.2.2.2.2.1
theorem dX7_whole_82 : decode cX7_whole 82 = .ok (.sipush 256, 3) := dTo1_67.2.2.2.2.1.2.2.2.2.2.2.1
theorem dX7_whole_85 : decode cX7_whole 85 = .ok (.iload_n 2, 1) := dTo1_67.2.2.2.2.1.2.2.2.2.2.2.2.1
theorem dX7_whole_86 : decode cX7_whole 86 = .ok (.isub, 1) := dTo1_67.2.2.2.2.1.2.2.2.2.2.2.2.2.1
theorem dX7_whole_87 : decode cX7_whole 87 = .ok (.invokestatic 181, 3) := dTo1_67.2.2.2.2.1.2.2.2.2.2.2.2.2.2.1
theorem dX7_whole_90 : decode cX7_whole 90 = .ok (.ireturn, 1) := dTo1_67.2.2.2.2.2.1.1
theorem dTo1_68 : dQ cX7_isLow [[(0, zop27, 0, 0), (1, zop184, 0, 123), (4, zop153, 0, 7), (7, zop3, 0, 0), (8, zop167, 0, 4), (11, zop27, 0, 0), (12, zop61, 0, 0), (13, zop42, 0, 0), (14, zop27, 0, 0), (15, zop184, 0, 123)], [(18, zop42, 0, 0), (19, zop28, 0, 0), (20, zop182, 0, 174), (23, zop154, 0, 11), (26, zop42, 0, 0), (27, zop28, 0, 0), (28, zop182, 0, 109), (31, zop153, 0, 7), (34, zop4, 0, 0), (35, zop167, 0, 4)], [(38, zop3, 0, 0), (39, zop182, 0, 126), (42, zop172, 0, 0)]] := dQ_of _ _ (by decide +kernel)
theorem dX7_isLow_0 : decode cX7_isLow 0 = .ok (.iload_n 1, 1) := dTo1_68.1.1
theorem dX7_isLow_1 : decode cX7_isLow 1 = .ok (.invokestatic 123, 3) := dTo1_68.1.2.1
theorem dX7_isLow_4 : decode cX7_isLow 4 = .ok (.ifCond .eq 7, 3) := dTo1_68.1.2.2.1
theorem dX7_isLow_7 : decode cX7_isLow 7 = .ok (.iconst 0, 1) := dTo1_68.1.2.2.2.1
theorem dX7_isLow_8 : decode cX7_isLow 8 = .ok (.goto 4, 3) := dTo1_68.1.2.2.2.2.1
theorem dX7_isLow_11 : decode cX7_isLow 11 = .ok (.iload_n 1, 1) := dTo1_68.1.2.2.2.2.2.1
theorem dX7_isLow_12 : decode cX7_isLow 12 = .ok (.istore_n 2, 1) := dTo1_68.1.2.2.2.2.2.2.1
theorem dX7_isLow_13 : decode cX7_isLow 13 = .ok (.aload_n 0, 1) := dTo1_68.1.2.2.2.2.2.2.2.1
theorem dX7_isLow_14 : decode cX7_isLow 14 = .ok (.iload_n 1, 1) := dTo1_68.1.2.2.2.2.2.2.2.2.1
theorem dX7_isLow_15 : decode cX7_isLow 15 = .ok (.invokestatic 123, 3) := dTo1_68.1.2.2.2.2.2.2.2.2.2.1
theorem dX7_isLow_18 : decode cX7_isLow 18 = .ok (.aload_n 0, 1) := dTo1_68.2.1.1
theorem dX7_isLow_19 : decode cX7_isLow 19 = .ok (.iload_n 2, 1) := dTo1_68.2.1.2.1
theorem dX7_isLow_20 : decode cX7_isLow 20 = .ok (.invokevirtual 174, 3) := dTo1_68.2.1.2.2.1
theorem dX7_isLow_23 : decode cX7_isLow 23 = .ok (.ifCond .ne 11, 3) := dTo1_68.2.1.2.2.2.1
theorem dX7_isLow_26 : decode cX7_isLow 26 = .ok (.aload_n 0, 1) := dTo1_68.2.1.2.2.2.2.1
theorem dX7_isLow_27 : decode cX7_isLow 27 = .ok (.iload_n 2, 1) := dTo1_68.2.1.2.2.2.2.2.1
theorem dX7_isLow_28 : decode cX7_isLow 28 = .ok (.invokevirtual 109, 3) := dTo1_68.2.1.2.2.2.2.2.2.1
theorem dX7_isLow_31 : decode cX7_isLow 31 = .ok (.ifCond .eq 7, 3) := dTo1_68.2.1.2.2.2.2.2.2.2.1
theorem dX7_isLow_34 : decode cX7_isLow 34 = .ok (.iconst 1, 1) := dTo1_68.2.1.2.2.2.2.2.2.2.2.1
theorem dX7_isLow_35 : decode cX7_isLow 35 = .ok (.goto 4, 3) := dTo1_68.2.1.2.2.2.2.2.2.2.2.2.1
theorem dX7_isLow_38 : decode cX7_isLow 38 = .ok (.iconst 0, 1) := dTo1_68.2.2.1.1
theorem dX7_isLow_39 : decode cX7_isLow 39 = .ok (.invokevirtual 126, 3) := dTo1_68.2.2.1.2.1
theorem dX7_isLow_42 : decode cX7_isLow 42 = .ok (.ireturn, 1) := dTo1_68.2.2.1.2.2.1
theorem dTo1_69 : dQ cX7_height [[(0, zop42, 0, 0), (1, zop27, 0, 0), (2, zop182, 0, 184), (5, zop153, 0, 7), (8, zop3, 0, 0), (9, zop167, 0, 29), (12, zop42, 0, 0), (13, zop42, 0, 0), (14, zop180, 0, 28), (17, zop27, 0, 0)], [(18, zop46, 0, 0), (19, zop42, 0, 0), (20, zop180, 0, 31), (23, zop27, 0, 0), (24, zop46, 0, 0), (25, zop182, 0, 88), (28, zop184, 0, 187), (31, zop184, 0, 191), (34, zop17, 1, 0), (37, zop100, 0, 0)], [(38, zop172, 0, 0)]] := dQ_of _ _ (by decide +kernel)
theorem dX7_height_0 : decode cX7_height 0 = .ok (.aload_n 0, 1) := dTo1_69.1.1
theorem dX7_height_1 : decode cX7_height 1 = .ok (.iload_n 1, 1) := dTo1_69.1.2.1
theorem dX7_height_2 : decode cX7_height 2 = .ok (.invokevirtual 184, 3) := dTo1_69.1.2.2.1
theorem dX7_height_5 : decode cX7_height 5 = .ok (.ifCond .eq 7, 3) := dTo1_69.1.2.2.2.1
theorem dX7_height_8 : decode cX7_height 8 = .ok (.iconst 0, 1) := dTo1_69.1.2.2.2.2.1
theorem dX7_height_9 : decode cX7_height 9 = .ok (.goto 29, 3) := dTo1_69.1.2.2.2.2.2.1
theorem dX7_height_12 : decode cX7_height 12 = .ok (.aload_n 0, 1) := dTo1_69.1.2.2.2.2.2.2.1
theorem dX7_height_13 : decode cX7_height 13 = .ok (.aload_n 0, 1) := dTo1_69.1.2.2.2.2.2.2.2.1
theorem dX7_height_14 : decode cX7_height 14 = .ok (.getfield 28, 3) := dTo1_69.1.2.2.2.2.2.2.2.2.1
theorem dX7_height_17 : decode cX7_height 17 = .ok (.iload_n 1, 1) := dTo1_69.1.2.2.2.2.2.2.2.2.2.1
theorem dX7_height_18 : decode cX7_height 18 = .ok (.iaload, 1) := dTo1_69.2.1.1
theorem dX7_height_19 : decode cX7_height 19 = .ok (.aload_n 0, 1) := dTo1_69.2.1.2.1
theorem dX7_height_20 : decode cX7_height 20 = .ok (.getfield 31, 3) := dTo1_69.2.1.2.2.1
theorem dX7_height_23 : decode cX7_height 23 = .ok (.iload_n 1, 1) := dTo1_69.2.1.2.2.2.1
theorem dX7_height_24 : decode cX7_height 24 = .ok (.iaload, 1) := dTo1_69.2.1.2.2.2.2.1
theorem dX7_height_25 : decode cX7_height 25 = .ok (.invokevirtual 88, 3) := dTo1_69.2.1.2.2.2.2.2.1
theorem dX7_height_28 : decode cX7_height 28 = .ok (.invokestatic 187, 3) := dTo1_69.2.1.2.2.2.2.2.2.1
theorem dX7_height_31 : decode cX7_height 31 = .ok (.invokestatic 191, 3) := dTo1_69.2.1.2.2.2.2.2.2.2.1
theorem dX7_height_34 : decode cX7_height 34 = .ok (.sipush 256, 3) := dTo1_69.2.1.2.2.2.2.2.2.2.2.1
theorem dX7_height_37 : decode cX7_height 37 = .ok (.isub, 1) := dTo1_69.2.1.2.2.2.2.2.2.2.2.2.1
theorem dX7_height_38 : decode cX7_height 38 = .ok (.ireturn, 1) := dTo1_69.2.2.1.1
theorem dTo1_70 : dQ cX7_digits [[(0, zop42, 0, 0), (1, zop27, 0, 0), (2, zop182, 0, 184), (5, zop153, 0, 5), (8, zop3, 0, 0), (9, zop172, 0, 0), (10, zop42, 0, 0), (11, zop42, 0, 0), (12, zop180, 0, 28), (15, zop27, 0, 0)], [(16, zop46, 0, 0), (17, zop42, 0, 0), (18, zop180, 0, 31), (21, zop27, 0, 0), (22, zop46, 0, 0), (23, zop182, 0, 88), (26, zop184, 0, 187), (29, zop77, 0, 0), (30, zop44, 0, 0), (31, zop44, 0, 0)], [(32, zop184, 0, 191), (35, zop16, 30, 0), (37, zop100, 0, 0), (38, zop184, 0, 181), (41, zop172, 0, 0)]] := dQ_of _ _ (by decide +kernel)
theorem dX7_digits_0 : decode cX7_digits 0 = .ok (.aload_n 0, 1) := dTo1_70.1.1
theorem dX7_digits_1 : decode cX7_digits 1 = .ok (.iload_n 1, 1) := dTo1_70.1.2.1
theorem dX7_digits_2 : decode cX7_digits 2 = .ok (.invokevirtual 184, 3) := dTo1_70.1.2.2.1
theorem dX7_digits_5 : decode cX7_digits 5 = .ok (.ifCond .eq 5, 3) := dTo1_70.1.2.2.2.1
theorem dX7_digits_8 : decode cX7_digits 8 = .ok (.iconst 0, 1) := dTo1_70.1.2.2.2.2.1
theorem dX7_digits_9 : decode cX7_digits 9 = .ok (.ireturn, 1) := dTo1_70.1.2.2.2.2.2.1
theorem dX7_digits_10 : decode cX7_digits 10 = .ok (.aload_n 0, 1) := dTo1_70.1.2.2.2.2.2.2.1
theorem dX7_digits_11 : decode cX7_digits 11 = .ok (.aload_n 0, 1) := dTo1_70.1.2.2.2.2.2.2.2.1
theorem dX7_digits_12 : decode cX7_digits 12 = .ok (.getfield 28, 3) := dTo1_70.1.2.2.2.2.2.2.2.2.1
theorem dX7_digits_15 : decode cX7_digits 15 = .ok (.iload_n 1, 1) := dTo1_70.1.2.2.2.2.2.2.2.2.2.1
theorem dX7_digits_16 : decode cX7_digits 16 = .ok (.iaload, 1) := dTo1_70.2.1.1
theorem dX7_digits_17 : decode cX7_digits 17 = .ok (.aload_n 0, 1) := dTo1_70.2.1.2.1
theorem dX7_digits_18 : decode cX7_digits 18 = .ok (.getfield 31, 3) := dTo1_70.2.1.2.2.1
theorem dX7_digits_21 : decode cX7_digits 21 = .ok (.iload_n 1, 1) := dTo1_70.2.1.2.2.2.1
theorem dX7_digits_22 : decode cX7_digits 22 = .ok (.iaload, 1) := dTo1_70.2.1.2.2.2.2.1
theorem dX7_digits_23 : decode cX7_digits 23 = .ok (.invokevirtual 88, 3) := dTo1_70.2.1.2.2.2.2.2.1
theorem dX7_digits_26 : decode cX7_digits 26 = .ok (.invokestatic 187, 3) := dTo1_70.2.1.2.2.2.2.2.2.1
theorem dX7_digits_29 : decode cX7_digits 29 = .ok (.astore_n 2, 1) := dTo1_70.2.1.2.2.2.2.2.2.2.1
theorem dX7_digits_30 : decode cX7_digits 30 = .ok (.aload_n 2, 1) := dTo1_70.2.1.2.2.2.2.2.2.2.2.1
theorem dX7_digits_31 : decode cX7_digits 31 = .ok (.aload_n 2, 1) := dTo1_70.2.1.2.2.2.2.2.2.2.2.2.1
theorem dX7_digits_32 : decode cX7_digits 32 = .ok (.invokestatic 191, 3) := dTo1_70.2.2.1.1
theorem dX7_digits_35 : decode cX7_digits 35 = .ok (.bipush 30, 2) := dTo1_70.2.2.1.2.1
theorem dX7_digits_37 : decode cX7_digits 37 = .ok (.isub, 1) := dTo1_70.2.2.1.2.2.1
theorem dX7_digits_38 : decode cX7_digits 38 = .ok (.invokestatic 181, 3) := dTo1_70.2.2.1.2.2.2.1
theorem dX7_digits_41 : decode cX7_digits 41 = .ok (.ireturn, 1) := dTo1_70.2.2.1.2.2.2.2.1
theorem dTo1_71 : dQ cX7_digitsOf [[(0, zop42, 0, 0), (1, zop180, 0, 31), (4, zop27, 0, 0), (5, zop46, 0, 0), (6, zop184, 0, 68), (9, zop61, 0, 0), (10, zop42, 0, 0), (11, zop180, 0, 34), (14, zop27, 0, 0), (15, zop51, 0, 0)], [(16, zop154, 0, 12), (19, zop42, 0, 0), (20, zop180, 0, 31), (23, zop27, 0, 0), (24, zop46, 0, 0), (25, zop156, 0, 7), (28, zop4, 0, 0), (29, zop167, 0, 4), (32, zop3, 0, 0), (33, zop62, 0, 0)], [(34, zop42, 0, 0), (35, zop180, 0, 28), (38, zop27, 0, 0), (39, zop46, 0, 0), (40, zop4, 0, 0), (41, zop160, 0, 9), (44, zop20, 0, 195), (47, zop167, 0, 4), (50, zop9, 0, 0), (51, zop55, 4, 0)], [(53, zop28, 0, 0), (54, zop158, 0, 45), (57, zop3, 0, 0), (58, zop54, 6, 0), (60, zop28, 0, 0), (61, zop21, 6, 0), (63, zop122, 0, 0), (64, zop4, 0, 0), (65, zop164, 0, 9), (68, zop132, 6, 1)], [(71, zop167, 255, 245), (74, zop20, 0, 197), (77, zop21, 6, 0), (79, zop133, 0, 0), (80, zop97, 0, 0), (81, zop16, 52, 0), (83, zop121, 0, 0), (84, zop28, 0, 0), (85, zop133, 0, 0), (86, zop16, 52, 0)], [(88, zop21, 6, 0), (90, zop100, 0, 0), (91, zop121, 0, 0), (92, zop97, 0, 0), (93, zop20, 0, 199), (96, zop101, 0, 0), (97, zop55, 4, 0), (99, zop29, 0, 0), (100, zop153, 0, 12), (103, zop22, 4, 0)]] := dQ_of _ _ (by decide +kernel)
theorem dX7_digitsOf_0 : decode cX7_digitsOf 0 = .ok (.aload_n 0, 1) := dTo1_71.1.1
theorem dX7_digitsOf_1 : decode cX7_digitsOf 1 = .ok (.getfield 31, 3) := dTo1_71.1.2.1
theorem dX7_digitsOf_4 : decode cX7_digitsOf 4 = .ok (.iload_n 1, 1) := dTo1_71.1.2.2.1
theorem dX7_digitsOf_5 : decode cX7_digitsOf 5 = .ok (.iaload, 1) := dTo1_71.1.2.2.2.1
theorem dX7_digitsOf_6 : decode cX7_digitsOf 6 = .ok (.invokestatic 68, 3) := dTo1_71.1.2.2.2.2.1
theorem dX7_digitsOf_9 : decode cX7_digitsOf 9 = .ok (.istore_n 2, 1) := dTo1_71.1.2.2.2.2.2.1
theorem dX7_digitsOf_10 : decode cX7_digitsOf 10 = .ok (.aload_n 0, 1) := dTo1_71.1.2.2.2.2.2.2.1
theorem dX7_digitsOf_11 : decode cX7_digitsOf 11 = .ok (.getfield 34, 3) := dTo1_71.1.2.2.2.2.2.2.2.1
theorem dX7_digitsOf_14 : decode cX7_digitsOf 14 = .ok (.iload_n 1, 1) := dTo1_71.1.2.2.2.2.2.2.2.2.1
theorem dX7_digitsOf_15 : decode cX7_digitsOf 15 = .ok (.baload, 1) := dTo1_71.1.2.2.2.2.2.2.2.2.2.1
theorem dX7_digitsOf_16 : decode cX7_digitsOf 16 = .ok (.ifCond .ne 12, 3) := dTo1_71.2.1.1
theorem dX7_digitsOf_19 : decode cX7_digitsOf 19 = .ok (.aload_n 0, 1) := dTo1_71.2.1.2.1
theorem dX7_digitsOf_20 : decode cX7_digitsOf 20 = .ok (.getfield 31, 3) := dTo1_71.2.1.2.2.1
theorem dX7_digitsOf_23 : decode cX7_digitsOf 23 = .ok (.iload_n 1, 1) := dTo1_71.2.1.2.2.2.1
theorem dX7_digitsOf_24 : decode cX7_digitsOf 24 = .ok (.iaload, 1) := dTo1_71.2.1.2.2.2.2.1
theorem dX7_digitsOf_25 : decode cX7_digitsOf 25 = .ok (.ifCond .ge 7, 3) := dTo1_71.2.1.2.2.2.2.2.1
theorem dX7_digitsOf_28 : decode cX7_digitsOf 28 = .ok (.iconst 1, 1) := dTo1_71.2.1.2.2.2.2.2.2.1
theorem dX7_digitsOf_29 : decode cX7_digitsOf 29 = .ok (.goto 4, 3) := dTo1_71.2.1.2.2.2.2.2.2.2.1
theorem dX7_digitsOf_32 : decode cX7_digitsOf 32 = .ok (.iconst 0, 1) := dTo1_71.2.1.2.2.2.2.2.2.2.2.1
theorem dX7_digitsOf_33 : decode cX7_digitsOf 33 = .ok (.istore_n 3, 1) := dTo1_71.2.1.2.2.2.2.2.2.2.2.2.1
theorem dX7_digitsOf_34 : decode cX7_digitsOf 34 = .ok (.aload_n 0, 1) := dTo1_71.2.2.1.1
theorem dX7_digitsOf_35 : decode cX7_digitsOf 35 = .ok (.getfield 28, 3) := dTo1_71.2.2.1.2.1
theorem dX7_digitsOf_38 : decode cX7_digitsOf 38 = .ok (.iload_n 1, 1) := dTo1_71.2.2.1.2.2.1
theorem dX7_digitsOf_39 : decode cX7_digitsOf 39 = .ok (.iaload, 1) := dTo1_71.2.2.1.2.2.2.1
theorem dX7_digitsOf_40 : decode cX7_digitsOf 40 = .ok (.iconst 1, 1) := dTo1_71.2.2.1.2.2.2.2.1
theorem dX7_digitsOf_41 : decode cX7_digitsOf 41 = .ok (.if_icmp .ne 9, 3) := dTo1_71.2.2.1.2.2.2.2.2.1
theorem dX7_digitsOf_44 : decode cX7_digitsOf 44 = .ok (.ldc2_w 195, 3) := dTo1_71.2.2.1.2.2.2.2.2.2.1
theorem dX7_digitsOf_47 : decode cX7_digitsOf 47 = .ok (.goto 4, 3) := dTo1_71.2.2.1.2.2.2.2.2.2.2.1
theorem dX7_digitsOf_50 : decode cX7_digitsOf 50 = .ok (.lconst 0, 1) := dTo1_71.2.2.1.2.2.2.2.2.2.2.2.1
theorem dX7_digitsOf_51 : decode cX7_digitsOf 51 = .ok (.lstore 4, 2) := dTo1_71.2.2.1.2.2.2.2.2.2.2.2.2.1
theorem dX7_digitsOf_53 : decode cX7_digitsOf 53 = .ok (.iload_n 2, 1) := dTo1_71.2.2.2.1.1
theorem dX7_digitsOf_54 : decode cX7_digitsOf 54 = .ok (.ifCond .le 45, 3) := dTo1_71.2.2.2.1.2.1
theorem dX7_digitsOf_57 : decode cX7_digitsOf 57 = .ok (.iconst 0, 1) := dTo1_71.2.2.2.1.2.2.1
theorem dX7_digitsOf_58 : decode cX7_digitsOf 58 = .ok (.istore 6, 2) := dTo1_71.2.2.2.1.2.2.2.1
theorem dX7_digitsOf_60 : decode cX7_digitsOf 60 = .ok (.iload_n 2, 1) := dTo1_71.2.2.2.1.2.2.2.2.1
theorem dX7_digitsOf_61 : decode cX7_digitsOf 61 = .ok (.iload 6, 2) := dTo1_71.2.2.2.1.2.2.2.2.2.1
theorem dX7_digitsOf_63 : decode cX7_digitsOf 63 = .ok (.ishr, 1) := dTo1_71.2.2.2.1.2.2.2.2.2.2.1
theorem dX7_digitsOf_64 : decode cX7_digitsOf 64 = .ok (.iconst 1, 1) := dTo1_71.2.2.2.1.2.2.2.2.2.2.2.1
theorem dX7_digitsOf_65 : decode cX7_digitsOf 65 = .ok (.if_icmp .le 9, 3) := dTo1_71.2.2.2.1.2.2.2.2.2.2.2.2.1
theorem dX7_digitsOf_68 : decode cX7_digitsOf 68 = .ok (.iinc 6 1, 3) := dTo1_71.2.2.2.1.2.2.2.2.2.2.2.2.2.1
theorem dX7_digitsOf_71 : decode cX7_digitsOf 71 = .ok (.goto (-11), 3) := dTo1_71.2.2.2.2.1.1
theorem dX7_digitsOf_74 : decode cX7_digitsOf 74 = .ok (.ldc2_w 197, 3) := dTo1_71.2.2.2.2.1.2.1
theorem dX7_digitsOf_77 : decode cX7_digitsOf 77 = .ok (.iload 6, 2) := dTo1_71.2.2.2.2.1.2.2.1
theorem dX7_digitsOf_79 : decode cX7_digitsOf 79 = .ok (.i2l, 1) := dTo1_71.2.2.2.2.1.2.2.2.1
theorem dX7_digitsOf_80 : decode cX7_digitsOf 80 = .ok (.ladd, 1) := dTo1_71.2.2.2.2.1.2.2.2.2.1
theorem dX7_digitsOf_81 : decode cX7_digitsOf 81 = .ok (.bipush 52, 2) := dTo1_71.2.2.2.2.1.2.2.2.2.2.1
theorem dX7_digitsOf_83 : decode cX7_digitsOf 83 = .ok (.lshl, 1) := dTo1_71.2.2.2.2.1.2.2.2.2.2.2.1
theorem dX7_digitsOf_84 : decode cX7_digitsOf 84 = .ok (.iload_n 2, 1) := dTo1_71.2.2.2.2.1.2.2.2.2.2.2.2.1
theorem dX7_digitsOf_85 : decode cX7_digitsOf 85 = .ok (.i2l, 1) := dTo1_71.2.2.2.2.1.2.2.2.2.2.2.2.2.1
theorem dX7_digitsOf_86 : decode cX7_digitsOf 86 = .ok (.bipush 52, 2) := dTo1_71.2.2.2.2.1.2.2.2.2.2.2.2.2.2.1
theorem dX7_digitsOf_88 : decode cX7_digitsOf 88 = .ok (.iload 6, 2) := dTo1_71.2.2.2.2.2.1.1
theorem dX7_digitsOf_90 : decode cX7_digitsOf 90 = .ok (.isub, 1) := dTo1_71.2.2.2.2.2.1.2.1
theorem dX7_digitsOf_91 : decode cX7_digitsOf 91 = .ok (.lshl, 1) := dTo1_71.2.2.2.2.2.1.2.2.1
theorem dX7_digitsOf_92 : decode cX7_digitsOf 92 = .ok (.ladd, 1) := dTo1_71.2.2.2.2.2.1.2.2.2.1
theorem dX7_digitsOf_93 : decode cX7_digitsOf 93 = .ok (.ldc2_w 199, 3) := dTo1_71.2.2.2.2.2.1.2.2.2.2.1
theorem dX7_digitsOf_96 : decode cX7_digitsOf 96 = .ok (.lsub, 1) := dTo1_71.2.2.2.2.2.1.2.2.2.2.2.1
theorem dX7_digitsOf_97 : decode cX7_digitsOf 97 = .ok (.lstore 4, 2) := dTo1_71.2.2.2.2.2.1.2.2.2.2.2.2.1
theorem dX7_digitsOf_99 : decode cX7_digitsOf 99 = .ok (.iload_n 3, 1) := dTo1_71.2.2.2.2.2.1.2.2.2.2.2.2.2.1
theorem dX7_digitsOf_100 : decode cX7_digitsOf 100 = .ok (.ifCond .eq 12, 3) := dTo1_71.2.2.2.2.2.1.2.2.2.2.2.2.2.2.1
theorem dX7_digitsOf_103 : decode cX7_digitsOf 103 = .ok (.lload 4, 2) := dTo1_71.2.2.2.2.2.1.2.2.2.2.2.2.2.2.2.1
theorem dTo1_72 : dQ cX7_digitsOf [[(105, zop20, 0, 201), (108, zop97, 0, 0), (109, zop167, 0, 5), (112, zop22, 4, 0), (114, zop173, 0, 0)]] := dQ_of _ _ (by decide +kernel)
theorem dX7_digitsOf_105 : decode cX7_digitsOf 105 = .ok (.ldc2_w 201, 3) := dTo1_72.1.1
theorem dX7_digitsOf_108 : decode cX7_digitsOf 108 = .ok (.ladd, 1) := dTo1_72.1.2.1
theorem dX7_digitsOf_109 : decode cX7_digitsOf 109 = .ok (.goto 5, 3) := dTo1_72.1.2.2.1
theorem dX7_digitsOf_112 : decode cX7_digitsOf 112 = .ok (.lload 4, 2) := dTo1_72.1.2.2.2.1
theorem dX7_digitsOf_114 : decode cX7_digitsOf 114 = .ok (.lreturn, 1) := dTo1_72.1.2.2.2.2.1
theorem dTo1_73 : dQ cX7_isUnkept [[(0, zop42, 0, 0), (1, zop27, 0, 0), (2, zop184, 0, 123), (5, zop42, 0, 0), (6, zop180, 0, 28), (9, zop27, 0, 0), (10, zop184, 0, 123), (13, zop153, 0, 7), (16, zop3, 0, 0), (17, zop167, 0, 4)], [(20, zop27, 0, 0), (21, zop46, 0, 0), (22, zop4, 0, 0), (23, zop164, 0, 7), (26, zop4, 0, 0), (27, zop167, 0, 4), (30, zop3, 0, 0), (31, zop182, 0, 126), (34, zop172, 0, 0)]] := dQ_of _ _ (by decide +kernel)
theorem dX7_isUnkept_0 : decode cX7_isUnkept 0 = .ok (.aload_n 0, 1) := dTo1_73.1.1
theorem dX7_isUnkept_1 : decode cX7_isUnkept 1 = .ok (.iload_n 1, 1) := dTo1_73.1.2.1
theorem dX7_isUnkept_2 : decode cX7_isUnkept 2 = .ok (.invokestatic 123, 3) := dTo1_73.1.2.2.1
theorem dX7_isUnkept_5 : decode cX7_isUnkept 5 = .ok (.aload_n 0, 1) := dTo1_73.1.2.2.2.1
theorem dX7_isUnkept_6 : decode cX7_isUnkept 6 = .ok (.getfield 28, 3) := dTo1_73.1.2.2.2.2.1
theorem dX7_isUnkept_9 : decode cX7_isUnkept 9 = .ok (.iload_n 1, 1) := dTo1_73.1.2.2.2.2.2.1
theorem dX7_isUnkept_10 : decode cX7_isUnkept 10 = .ok (.invokestatic 123, 3) := dTo1_73.1.2.2.2.2.2.2.1
theorem dX7_isUnkept_13 : decode cX7_isUnkept 13 = .ok (.ifCond .eq 7, 3) := dTo1_73.1.2.2.2.2.2.2.2.1
theorem dX7_isUnkept_16 : decode cX7_isUnkept 16 = .ok (.iconst 0, 1) := dTo1_73.1.2.2.2.2.2.2.2.2.1
theorem dX7_isUnkept_17 : decode cX7_isUnkept 17 = .ok (.goto 4, 3) := dTo1_73.1.2.2.2.2.2.2.2.2.2.1
theorem dX7_isUnkept_20 : decode cX7_isUnkept 20 = .ok (.iload_n 1, 1) := dTo1_73.2.1.1
theorem dX7_isUnkept_21 : decode cX7_isUnkept 21 = .ok (.iaload, 1) := dTo1_73.2.1.2.1
theorem dX7_isUnkept_22 : decode cX7_isUnkept 22 = .ok (.iconst 1, 1) := dTo1_73.2.1.2.2.1
theorem dX7_isUnkept_23 : decode cX7_isUnkept 23 = .ok (.if_icmp .le 7, 3) := dTo1_73.2.1.2.2.2.1
theorem dX7_isUnkept_26 : decode cX7_isUnkept 26 = .ok (.iconst 1, 1) := dTo1_73.2.1.2.2.2.2.1
theorem dX7_isUnkept_27 : decode cX7_isUnkept 27 = .ok (.goto 4, 3) := dTo1_73.2.1.2.2.2.2.2.1
theorem dX7_isUnkept_30 : decode cX7_isUnkept 30 = .ok (.iconst 0, 1) := dTo1_73.2.1.2.2.2.2.2.2.1
theorem dX7_isUnkept_31 : decode cX7_isUnkept 31 = .ok (.invokevirtual 126, 3) := dTo1_73.2.1.2.2.2.2.2.2.2.1
theorem dX7_isUnkept_34 : decode cX7_isUnkept 34 = .ok (.ireturn, 1) := dTo1_73.2.1.2.2.2.2.2.2.2.2.1
theorem dTo1_74 : dQ cX7_upper [[(0, zop42, 0, 0), (1, zop27, 0, 0), (2, zop182, 0, 203), (5, zop153, 0, 7), (8, zop3, 0, 0), (9, zop167, 0, 12), (12, zop42, 0, 0), (13, zop27, 0, 0), (14, zop182, 0, 206), (17, zop16, 32, 0)], [(19, zop123, 0, 0), (20, zop136, 0, 0), (21, zop172, 0, 0)]] := dQ_of _ _ (by decide +kernel)
theorem dX7_upper_0 : decode cX7_upper 0 = .ok (.aload_n 0, 1) := dTo1_74.1.1
theorem dX7_upper_1 : decode cX7_upper 1 = .ok (.iload_n 1, 1) := dTo1_74.1.2.1
theorem dX7_upper_2 : decode cX7_upper 2 = .ok (.invokevirtual 203, 3) := dTo1_74.1.2.2.1
theorem dX7_upper_5 : decode cX7_upper 5 = .ok (.ifCond .eq 7, 3) := dTo1_74.1.2.2.2.1
theorem dX7_upper_8 : decode cX7_upper 8 = .ok (.iconst 0, 1) := dTo1_74.1.2.2.2.2.1
theorem dX7_upper_9 : decode cX7_upper 9 = .ok (.goto 12, 3) := dTo1_74.1.2.2.2.2.2.1
theorem dX7_upper_12 : decode cX7_upper 12 = .ok (.aload_n 0, 1) := dTo1_74.1.2.2.2.2.2.2.1
theorem dX7_upper_13 : decode cX7_upper 13 = .ok (.iload_n 1, 1) := dTo1_74.1.2.2.2.2.2.2.2.1
theorem dX7_upper_14 : decode cX7_upper 14 = .ok (.invokevirtual 206, 3) := dTo1_74.1.2.2.2.2.2.2.2.2.1
theorem dX7_upper_17 : decode cX7_upper 17 = .ok (.bipush 32, 2) := dTo1_74.1.2.2.2.2.2.2.2.2.2.1
theorem dX7_upper_19 : decode cX7_upper 19 = .ok (.lshr, 1) := dTo1_74.2.1.1
theorem dX7_upper_20 : decode cX7_upper 20 = .ok (.l2i, 1) := dTo1_74.2.1.2.1
theorem dX7_upper_21 : decode cX7_upper 21 = .ok (.ireturn, 1) := dTo1_74.2.1.2.2.1
theorem dTo1_75 : dQ cX7_lower [[(0, zop42, 0, 0), (1, zop27, 0, 0), (2, zop182, 0, 203), (5, zop153, 0, 7), (8, zop3, 0, 0), (9, zop167, 0, 9), (12, zop42, 0, 0), (13, zop27, 0, 0), (14, zop182, 0, 206), (17, zop136, 0, 0)], [(18, zop172, 0, 0)]] := dQ_of _ _ (by decide +kernel)
theorem dX7_lower_0 : decode cX7_lower 0 = .ok (.aload_n 0, 1) := dTo1_75.1.1
theorem dX7_lower_1 : decode cX7_lower 1 = .ok (.iload_n 1, 1) := dTo1_75.1.2.1
theorem dX7_lower_2 : decode cX7_lower 2 = .ok (.invokevirtual 203, 3) := dTo1_75.1.2.2.1
theorem dX7_lower_5 : decode cX7_lower 5 = .ok (.ifCond .eq 7, 3) := dTo1_75.1.2.2.2.1
theorem dX7_lower_8 : decode cX7_lower 8 = .ok (.iconst 0, 1) := dTo1_75.1.2.2.2.2.1
theorem dX7_lower_9 : decode cX7_lower 9 = .ok (.goto 9, 3) := dTo1_75.1.2.2.2.2.2.1
theorem dX7_lower_12 : decode cX7_lower 12 = .ok (.aload_n 0, 1) := dTo1_75.1.2.2.2.2.2.2.1
theorem dX7_lower_13 : decode cX7_lower 13 = .ok (.iload_n 1, 1) := dTo1_75.1.2.2.2.2.2.2.2.1
theorem dX7_lower_14 : decode cX7_lower 14 = .ok (.invokevirtual 206, 3) := dTo1_75.1.2.2.2.2.2.2.2.2.1
theorem dX7_lower_17 : decode cX7_lower 17 = .ok (.l2i, 1) := dTo1_75.1.2.2.2.2.2.2.2.2.2.1
theorem dX7_lower_18 : decode cX7_lower 18 = .ok (.ireturn, 1) := dTo1_75.2.1.1
theorem dTo1_76 : dQ cX7_text [[(0, zop42, 0, 0), (1, zop27, 0, 0), (2, zop184, 0, 123), (5, zop3, 0, 0), (6, zop182, 0, 126), (9, zop153, 0, 6), (12, zop18, 210, 0), (14, zop176, 0, 0), (15, zop42, 0, 0), (16, zop180, 0, 34)], [(19, zop27, 0, 0), (20, zop51, 0, 0), (21, zop153, 0, 8), (24, zop18, 212, 0), (26, zop167, 0, 5), (29, zop18, 210, 0), (31, zop77, 0, 0), (32, zop42, 0, 0), (33, zop180, 0, 28), (36, zop27, 0, 0)], [(37, zop46, 0, 0), (38, zop4, 0, 0), (39, zop160, 0, 23), (42, zop187, 0, 214), (45, zop89, 0, 0), (46, zop183, 0, 216), (49, zop44, 0, 0), (50, zop182, 0, 217), (53, zop18, 221, 0), (55, zop182, 0, 217)], [(58, zop182, 0, 223), (61, zop176, 0, 0), (62, zop42, 0, 0), (63, zop27, 0, 0), (64, zop182, 0, 109), (67, zop153, 0, 25), (70, zop187, 0, 214), (73, zop89, 0, 0), (74, zop183, 0, 216), (77, zop44, 0, 0)], [(78, zop182, 0, 217), (81, zop18, 227, 0), (83, zop182, 0, 217), (86, zop182, 0, 223), (89, zop167, 0, 35), (92, zop187, 0, 214), (95, zop89, 0, 0), (96, zop183, 0, 216), (99, zop178, 0, 229), (102, zop42, 0, 0)], [(103, zop180, 0, 28), (106, zop27, 0, 0), (107, zop46, 0, 0), (108, zop50, 0, 0), (109, zop182, 0, 217), (112, zop42, 0, 0), (113, zop180, 0, 31), (116, zop27, 0, 0), (117, zop46, 0, 0), (118, zop182, 0, 233)]] := dQ_of _ _ (by decide +kernel)
theorem dX7_text_0 : decode cX7_text 0 = .ok (.aload_n 0, 1) := dTo1_76.1.1
theorem dX7_text_1 : decode cX7_text 1 = .ok (.iload_n 1, 1) := dTo1_76.1.2.1
theorem dX7_text_2 : decode cX7_text 2 = .ok (.invokestatic 123, 3) := dTo1_76.1.2.2.1
theorem dX7_text_5 : decode cX7_text 5 = .ok (.iconst 0, 1) := dTo1_76.1.2.2.2.1
theorem dX7_text_6 : decode cX7_text 6 = .ok (.invokevirtual 126, 3) := dTo1_76.1.2.2.2.2.1
theorem dX7_text_9 : decode cX7_text 9 = .ok (.ifCond .eq 6, 3) := dTo1_76.1.2.2.2.2.2.1
theorem dX7_text_12 : decode cX7_text 12 = .ok (.ldc 210, 2) := dTo1_76.1.2.2.2.2.2.2.1
theorem dX7_text_14 : decode cX7_text 14 = .ok (.areturn, 1) := dTo1_76.1.2.2.2.2.2.2.2.1
theorem dX7_text_15 : decode cX7_text 15 = .ok (.aload_n 0, 1) := dTo1_76.1.2.2.2.2.2.2.2.2.1
theorem dX7_text_16 : decode cX7_text 16 = .ok (.getfield 34, 3) := dTo1_76.1.2.2.2.2.2.2.2.2.2.1
theorem dX7_text_19 : decode cX7_text 19 = .ok (.iload_n 1, 1) := dTo1_76.2.1.1
theorem dX7_text_20 : decode cX7_text 20 = .ok (.baload, 1) := dTo1_76.2.1.2.1
theorem dX7_text_21 : decode cX7_text 21 = .ok (.ifCond .eq 8, 3) := dTo1_76.2.1.2.2.1
theorem dX7_text_24 : decode cX7_text 24 = .ok (.ldc 212, 2) := dTo1_76.2.1.2.2.2.1
theorem dX7_text_26 : decode cX7_text 26 = .ok (.goto 5, 3) := dTo1_76.2.1.2.2.2.2.1
theorem dX7_text_29 : decode cX7_text 29 = .ok (.ldc 210, 2) := dTo1_76.2.1.2.2.2.2.2.1
theorem dX7_text_31 : decode cX7_text 31 = .ok (.astore_n 2, 1) := dTo1_76.2.1.2.2.2.2.2.2.1
theorem dX7_text_32 : decode cX7_text 32 = .ok (.aload_n 0, 1) := dTo1_76.2.1.2.2.2.2.2.2.2.1
theorem dX7_text_33 : decode cX7_text 33 = .ok (.getfield 28, 3) := dTo1_76.2.1.2.2.2.2.2.2.2.2.1
theorem dX7_text_36 : decode cX7_text 36 = .ok (.iload_n 1, 1) := dTo1_76.2.1.2.2.2.2.2.2.2.2.2.1
theorem dX7_text_37 : decode cX7_text 37 = .ok (.iaload, 1) := dTo1_76.2.2.1.1
theorem dX7_text_38 : decode cX7_text 38 = .ok (.iconst 1, 1) := dTo1_76.2.2.1.2.1
theorem dX7_text_39 : decode cX7_text 39 = .ok (.if_icmp .ne 23, 3) := dTo1_76.2.2.1.2.2.1
theorem dX7_text_42 : decode cX7_text 42 = .ok (.new 214, 3) := dTo1_76.2.2.1.2.2.2.1
theorem dX7_text_45 : decode cX7_text 45 = .ok (.dup, 1) := dTo1_76.2.2.1.2.2.2.2.1
theorem dX7_text_46 : decode cX7_text 46 = .ok (.invokespecial 216, 3) := dTo1_76.2.2.1.2.2.2.2.2.1
theorem dX7_text_49 : decode cX7_text 49 = .ok (.aload_n 2, 1) := dTo1_76.2.2.1.2.2.2.2.2.2.1
theorem dX7_text_50 : decode cX7_text 50 = .ok (.invokevirtual 217, 3) := dTo1_76.2.2.1.2.2.2.2.2.2.2.1
theorem dX7_text_53 : decode cX7_text 53 = .ok (.ldc 221, 2) := dTo1_76.2.2.1.2.2.2.2.2.2.2.2.1
theorem dX7_text_55 : decode cX7_text 55 = .ok (.invokevirtual 217, 3) := dTo1_76.2.2.1.2.2.2.2.2.2.2.2.2.1
theorem dX7_text_58 : decode cX7_text 58 = .ok (.invokevirtual 223, 3) := dTo1_76.2.2.2.1.1
theorem dX7_text_61 : decode cX7_text 61 = .ok (.areturn, 1) := dTo1_76.2.2.2.1.2.1
theorem dX7_text_62 : decode cX7_text 62 = .ok (.aload_n 0, 1) := dTo1_76.2.2.2.1.2.2.1
theorem dX7_text_63 : decode cX7_text 63 = .ok (.iload_n 1, 1) := dTo1_76.2.2.2.1.2.2.2.1
theorem dX7_text_64 : decode cX7_text 64 = .ok (.invokevirtual 109, 3) := dTo1_76.2.2.2.1.2.2.2.2.1
theorem dX7_text_67 : decode cX7_text 67 = .ok (.ifCond .eq 25, 3) := dTo1_76.2.2.2.1.2.2.2.2.2.1
theorem dX7_text_70 : decode cX7_text 70 = .ok (.new 214, 3) := dTo1_76.2.2.2.1.2.2.2.2.2.2.1
theorem dX7_text_73 : decode cX7_text 73 = .ok (.dup, 1) := dTo1_76.2.2.2.1.2.2.2.2.2.2.2.1
theorem dX7_text_74 : decode cX7_text 74 = .ok (.invokespecial 216, 3) := dTo1_76.2.2.2.1.2.2.2.2.2.2.2.2.1
theorem dX7_text_77 : decode cX7_text 77 = .ok (.aload_n 2, 1) := dTo1_76.2.2.2.1.2.2.2.2.2.2.2.2.2.1
theorem dX7_text_78 : decode cX7_text 78 = .ok (.invokevirtual 217, 3) := dTo1_76.2.2.2.2.1.1
theorem dX7_text_81 : decode cX7_text 81 = .ok (.ldc 227, 2) := dTo1_76.2.2.2.2.1.2.1
theorem dX7_text_83 : decode cX7_text 83 = .ok (.invokevirtual 217, 3) := dTo1_76.2.2.2.2.1.2.2.1
theorem dX7_text_86 : decode cX7_text 86 = .ok (.invokevirtual 223, 3) := dTo1_76.2.2.2.2.1.2.2.2.1
theorem dX7_text_89 : decode cX7_text 89 = .ok (.goto 35, 3) := dTo1_76.2.2.2.2.1.2.2.2.2.1
theorem dX7_text_92 : decode cX7_text 92 = .ok (.new 214, 3) := dTo1_76.2.2.2.2.1.2.2.2.2.2.1
theorem dX7_text_95 : decode cX7_text 95 = .ok (.dup, 1) := dTo1_76.2.2.2.2.1.2.2.2.2.2.2.1
theorem dX7_text_96 : decode cX7_text 96 = .ok (.invokespecial 216, 3) := dTo1_76.2.2.2.2.1.2.2.2.2.2.2.2.1
theorem dX7_text_99 : decode cX7_text 99 = .ok (.getstatic 229, 3) := dTo1_76.2.2.2.2.1.2.2.2.2.2.2.2.2.1
theorem dX7_text_102 : decode cX7_text 102 = .ok (.aload_n 0, 1) := dTo1_76.2.2.2.2.1.2.2.2.2.2.2.2.2.2.1
theorem dX7_text_103 : decode cX7_text 103 = .ok (.getfield 28, 3) := dTo1_76.2.2.2.2.2.1.1
theorem dX7_text_106 : decode cX7_text 106 = .ok (.iload_n 1, 1) := dTo1_76.2.2.2.2.2.1.2.1
theorem dX7_text_107 : decode cX7_text 107 = .ok (.iaload, 1) := dTo1_76.2.2.2.2.2.1.2.2.1
theorem dX7_text_108 : decode cX7_text 108 = .ok (.aaload, 1) := dTo1_76.2.2.2.2.2.1.2.2.2.1
theorem dX7_text_109 : decode cX7_text 109 = .ok (.invokevirtual 217, 3) := dTo1_76.2.2.2.2.2.1.2.2.2.2.1
theorem dX7_text_112 : decode cX7_text 112 = .ok (.aload_n 0, 1) := dTo1_76.2.2.2.2.2.1.2.2.2.2.2.1
theorem dX7_text_113 : decode cX7_text 113 = .ok (.getfield 31, 3) := dTo1_76.2.2.2.2.2.1.2.2.2.2.2.2.1
theorem dX7_text_116 : decode cX7_text 116 = .ok (.iload_n 1, 1) := dTo1_76.2.2.2.2.2.1.2.2.2.2.2.2.2.1
theorem dX7_text_117 : decode cX7_text 117 = .ok (.iaload, 1) := dTo1_76.2.2.2.2.2.1.2.2.2.2.2.2.2.2.1
theorem dX7_text_118 : decode cX7_text 118 = .ok (.invokevirtual 233, 3) := dTo1_76.2.2.2.2.2.1.2.2.2.2.2.2.2.2.2.1
theorem dTo1_77 : dQ cX7_text [[(121, zop182, 0, 223), (124, zop176, 0, 0)]] := dQ_of _ _ (by decide +kernel)
theorem dX7_text_121 : decode cX7_text 121 = .ok (.invokevirtual 223, 3) := dTo1_77.1.1
theorem dX7_text_124 : decode cX7_text 124 = .ok (.areturn, 1) := dTo1_77.1.2.1
theorem dTo1_78 : dQ cX7_areNone [[(0, zop42, 0, 0), (1, zop27, 0, 0), (2, zop184, 0, 123), (5, zop154, 0, 10), (8, zop28, 0, 0), (9, zop184, 0, 123), (12, zop153, 0, 7), (15, zop4, 0, 0), (16, zop167, 0, 4), (19, zop3, 0, 0)], [(20, zop3, 0, 0), (21, zop182, 0, 126), (24, zop172, 0, 0)]] := dQ_of _ _ (by decide +kernel)
theorem dX7_areNone_0 : decode cX7_areNone 0 = .ok (.aload_n 0, 1) := dTo1_78.1.1
theorem dX7_areNone_1 : decode cX7_areNone 1 = .ok (.iload_n 1, 1) := dTo1_78.1.2.1
theorem dX7_areNone_2 : decode cX7_areNone 2 = .ok (.invokestatic 123, 3) := dTo1_78.1.2.2.1
theorem dX7_areNone_5 : decode cX7_areNone 5 = .ok (.ifCond .ne 10, 3) := dTo1_78.1.2.2.2.1
theorem dX7_areNone_8 : decode cX7_areNone 8 = .ok (.iload_n 2, 1) := dTo1_78.1.2.2.2.2.1
theorem dX7_areNone_9 : decode cX7_areNone 9 = .ok (.invokestatic 123, 3) := dTo1_78.1.2.2.2.2.2.1
theorem dX7_areNone_12 : decode cX7_areNone 12 = .ok (.ifCond .eq 7, 3) := dTo1_78.1.2.2.2.2.2.2.1
theorem dX7_areNone_15 : decode cX7_areNone 15 = .ok (.iconst 1, 1) := dTo1_78.1.2.2.2.2.2.2.2.1
theorem dX7_areNone_16 : decode cX7_areNone 16 = .ok (.goto 4, 3) := dTo1_78.1.2.2.2.2.2.2.2.2.1
theorem dX7_areNone_19 : decode cX7_areNone 19 = .ok (.iconst 0, 1) := dTo1_78.1.2.2.2.2.2.2.2.2.2.1
theorem dX7_areNone_20 : decode cX7_areNone 20 = .ok (.iconst 0, 1) := dTo1_78.2.1.1
theorem dX7_areNone_21 : decode cX7_areNone 21 = .ok (.invokevirtual 126, 3) := dTo1_78.2.1.2.1
theorem dX7_areNone_24 : decode cX7_areNone 24 = .ok (.ireturn, 1) := dTo1_78.2.1.2.2.1
theorem dTo1_79 : dQ cX7_order [[(0, zop42, 0, 0), (1, zop27, 0, 0), (2, zop28, 0, 0), (3, zop182, 0, 236), (6, zop153, 0, 7), (9, zop3, 0, 0), (10, zop167, 0, 22), (13, zop42, 0, 0), (14, zop27, 0, 0), (15, zop28, 0, 0)], [(16, zop182, 0, 240), (19, zop153, 0, 7), (22, zop5, 0, 0), (23, zop167, 0, 9), (26, zop42, 0, 0), (27, zop27, 0, 0), (28, zop28, 0, 0), (29, zop182, 0, 168), (32, zop172, 0, 0)]] := dQ_of _ _ (by decide +kernel)
theorem dX7_order_0 : decode cX7_order 0 = .ok (.aload_n 0, 1) := dTo1_79.1.1
theorem dX7_order_1 : decode cX7_order 1 = .ok (.iload_n 1, 1) := dTo1_79.1.2.1
theorem dX7_order_2 : decode cX7_order 2 = .ok (.iload_n 2, 1) := dTo1_79.1.2.2.1
theorem dX7_order_3 : decode cX7_order 3 = .ok (.invokevirtual 236, 3) := dTo1_79.1.2.2.2.1
theorem dX7_order_6 : decode cX7_order 6 = .ok (.ifCond .eq 7, 3) := dTo1_79.1.2.2.2.2.1
theorem dX7_order_9 : decode cX7_order 9 = .ok (.iconst 0, 1) := dTo1_79.1.2.2.2.2.2.1
theorem dX7_order_10 : decode cX7_order 10 = .ok (.goto 22, 3) := dTo1_79.1.2.2.2.2.2.2.1
theorem dX7_order_13 : decode cX7_order 13 = .ok (.aload_n 0, 1) := dTo1_79.1.2.2.2.2.2.2.2.1
theorem dX7_order_14 : decode cX7_order 14 = .ok (.iload_n 1, 1) := dTo1_79.1.2.2.2.2.2.2.2.2.1
theorem dX7_order_15 : decode cX7_order 15 = .ok (.iload_n 2, 1) := dTo1_79.1.2.2.2.2.2.2.2.2.2.1
theorem dX7_order_16 : decode cX7_order 16 = .ok (.invokevirtual 240, 3) := dTo1_79.2.1.1
theorem dX7_order_19 : decode cX7_order 19 = .ok (.ifCond .eq 7, 3) := dTo1_79.2.1.2.1
theorem dX7_order_22 : decode cX7_order 22 = .ok (.iconst 2, 1) := dTo1_79.2.1.2.2.1
theorem dX7_order_23 : decode cX7_order 23 = .ok (.goto 9, 3) := dTo1_79.2.1.2.2.2.1
theorem dX7_order_26 : decode cX7_order 26 = .ok (.aload_n 0, 1) := dTo1_79.2.1.2.2.2.2.1
theorem dX7_order_27 : decode cX7_order 27 = .ok (.iload_n 1, 1) := dTo1_79.2.1.2.2.2.2.2.1
theorem dX7_order_28 : decode cX7_order 28 = .ok (.iload_n 2, 1) := dTo1_79.2.1.2.2.2.2.2.2.1
theorem dX7_order_29 : decode cX7_order 29 = .ok (.invokevirtual 168, 3) := dTo1_79.2.1.2.2.2.2.2.2.2.1
theorem dX7_order_32 : decode cX7_order 32 = .ok (.ireturn, 1) := dTo1_79.2.1.2.2.2.2.2.2.2.2.1
theorem dTo1_80 : dQ cX7_isAlike [[(0, zop42, 0, 0), (1, zop27, 0, 0), (2, zop28, 0, 0), (3, zop182, 0, 236), (6, zop154, 0, 16), (9, zop42, 0, 0), (10, zop27, 0, 0), (11, zop28, 0, 0), (12, zop182, 0, 243), (15, zop153, 0, 7)], [(18, zop4, 0, 0), (19, zop167, 0, 4), (22, zop3, 0, 0), (23, zop172, 0, 0)]] := dQ_of _ _ (by decide +kernel)
theorem dX7_isAlike_0 : decode cX7_isAlike 0 = .ok (.aload_n 0, 1) := dTo1_80.1.1
theorem dX7_isAlike_1 : decode cX7_isAlike 1 = .ok (.iload_n 1, 1) := dTo1_80.1.2.1
theorem dX7_isAlike_2 : decode cX7_isAlike 2 = .ok (.iload_n 2, 1) := dTo1_80.1.2.2.1
theorem dX7_isAlike_3 : decode cX7_isAlike 3 = .ok (.invokevirtual 236, 3) := dTo1_80.1.2.2.2.1
theorem dX7_isAlike_6 : decode cX7_isAlike 6 = .ok (.ifCond .ne 16, 3) := dTo1_80.1.2.2.2.2.1
theorem dX7_isAlike_9 : decode cX7_isAlike 9 = .ok (.aload_n 0, 1) := dTo1_80.1.2.2.2.2.2.1
theorem dX7_isAlike_10 : decode cX7_isAlike 10 = .ok (.iload_n 1, 1) := dTo1_80.1.2.2.2.2.2.2.1
theorem dX7_isAlike_11 : decode cX7_isAlike 11 = .ok (.iload_n 2, 1) := dTo1_80.1.2.2.2.2.2.2.2.1
theorem dX7_isAlike_12 : decode cX7_isAlike 12 = .ok (.invokevirtual 243, 3) := dTo1_80.1.2.2.2.2.2.2.2.2.1
theorem dX7_isAlike_15 : decode cX7_isAlike 15 = .ok (.ifCond .eq 7, 3) := dTo1_80.1.2.2.2.2.2.2.2.2.2.1
theorem dX7_isAlike_18 : decode cX7_isAlike 18 = .ok (.iconst 1, 1) := dTo1_80.2.1.1
theorem dX7_isAlike_19 : decode cX7_isAlike 19 = .ok (.goto 4, 3) := dTo1_80.2.1.2.1
theorem dX7_isAlike_22 : decode cX7_isAlike 22 = .ok (.iconst 0, 1) := dTo1_80.2.1.2.2.1
theorem dX7_isAlike_23 : decode cX7_isAlike 23 = .ok (.ireturn, 1) := dTo1_80.2.1.2.2.2.1
theorem dTo1_81 : dQ cX7_isNear [[(0, zop42, 0, 0), (1, zop27, 0, 0), (2, zop28, 0, 0), (3, zop182, 0, 236), (6, zop154, 0, 16), (9, zop42, 0, 0), (10, zop27, 0, 0), (11, zop28, 0, 0), (12, zop182, 0, 240), (15, zop153, 0, 7)], [(18, zop4, 0, 0), (19, zop167, 0, 4), (22, zop3, 0, 0), (23, zop172, 0, 0)]] := dQ_of _ _ (by decide +kernel)
theorem dX7_isNear_0 : decode cX7_isNear 0 = .ok (.aload_n 0, 1) := dTo1_81.1.1
theorem dX7_isNear_1 : decode cX7_isNear 1 = .ok (.iload_n 1, 1) := dTo1_81.1.2.1
theorem dX7_isNear_2 : decode cX7_isNear 2 = .ok (.iload_n 2, 1) := dTo1_81.1.2.2.1
theorem dX7_isNear_3 : decode cX7_isNear 3 = .ok (.invokevirtual 236, 3) := dTo1_81.1.2.2.2.1
theorem dX7_isNear_6 : decode cX7_isNear 6 = .ok (.ifCond .ne 16, 3) := dTo1_81.1.2.2.2.2.1
theorem dX7_isNear_9 : decode cX7_isNear 9 = .ok (.aload_n 0, 1) := dTo1_81.1.2.2.2.2.2.1
theorem dX7_isNear_10 : decode cX7_isNear 10 = .ok (.iload_n 1, 1) := dTo1_81.1.2.2.2.2.2.2.1
theorem dX7_isNear_11 : decode cX7_isNear 11 = .ok (.iload_n 2, 1) := dTo1_81.1.2.2.2.2.2.2.2.1
theorem dX7_isNear_12 : decode cX7_isNear 12 = .ok (.invokevirtual 240, 3) := dTo1_81.1.2.2.2.2.2.2.2.2.1
theorem dX7_isNear_15 : decode cX7_isNear 15 = .ok (.ifCond .eq 7, 3) := dTo1_81.1.2.2.2.2.2.2.2.2.2.1
theorem dX7_isNear_18 : decode cX7_isNear 18 = .ok (.iconst 1, 1) := dTo1_81.2.1.1
theorem dX7_isNear_19 : decode cX7_isNear 19 = .ok (.goto 4, 3) := dTo1_81.2.1.2.1
theorem dX7_isNear_22 : decode cX7_isNear 22 = .ok (.iconst 0, 1) := dTo1_81.2.1.2.2.1
theorem dX7_isNear_23 : decode cX7_isNear 23 = .ok (.ireturn, 1) := dTo1_81.2.1.2.2.2.1
theorem dX7_most_29 : decode cX7_most 29 = .ok (.newarray .int, 2) := by decide +kernel
theorem dTo1_82 : dQ cX7_most [[(0, zop42, 0, 0), (1, zop27, 0, 0), (2, zop28, 0, 0), (3, zop182, 0, 236), (6, zop153, 0, 5), (9, zop3, 0, 0), (10, zop172, 0, 0), (11, zop42, 0, 0), (12, zop27, 0, 0), (13, zop28, 0, 0)], [(14, zop182, 0, 240), (17, zop154, 0, 10), (20, zop42, 0, 0), (21, zop5, 0, 0), (22, zop181, 0, 50), (25, zop3, 0, 0), (26, zop172, 0, 0), (27, zop16, 7, 0), (31, zop89, 0, 0), (32, zop3, 0, 0)], [(33, zop5, 0, 0), (34, zop79, 0, 0), (35, zop89, 0, 0), (36, zop4, 0, 0), (37, zop5, 0, 0), (38, zop79, 0, 0), (39, zop89, 0, 0), (40, zop5, 0, 0), (41, zop8, 0, 0), (42, zop79, 0, 0)], [(43, zop89, 0, 0), (44, zop6, 0, 0), (45, zop16, 6, 0), (47, zop79, 0, 0), (48, zop89, 0, 0), (49, zop7, 0, 0), (50, zop16, 10, 0), (52, zop79, 0, 0), (53, zop89, 0, 0), (54, zop8, 0, 0)], [(55, zop16, 53, 0), (57, zop79, 0, 0), (58, zop89, 0, 0), (59, zop16, 6, 0), (61, zop16, 124, 0), (63, zop79, 0, 0), (64, zop78, 0, 0), (65, zop42, 0, 0), (66, zop180, 0, 31), (69, zop27, 0, 0)], [(70, zop46, 0, 0), (71, zop54, 4, 0), (73, zop21, 4, 0), (75, zop16, 252, 0), (77, zop164, 0, 7), (80, zop5, 0, 0), (81, zop167, 0, 12), (84, zop45, 0, 0), (85, zop21, 4, 0), (87, zop116, 0, 0)]] := dQ_of _ _ (by decide +kernel)
theorem dX7_most_0 : decode cX7_most 0 = .ok (.aload_n 0, 1) := dTo1_82.1.1
theorem dX7_most_1 : decode cX7_most 1 = .ok (.iload_n 1, 1) := dTo1_82.1.2.1
theorem dX7_most_2 : decode cX7_most 2 = .ok (.iload_n 2, 1) := dTo1_82.1.2.2.1
theorem dX7_most_3 : decode cX7_most 3 = .ok (.invokevirtual 236, 3) := dTo1_82.1.2.2.2.1
theorem dX7_most_6 : decode cX7_most 6 = .ok (.ifCond .eq 5, 3) := dTo1_82.1.2.2.2.2.1
theorem dX7_most_9 : decode cX7_most 9 = .ok (.iconst 0, 1) := dTo1_82.1.2.2.2.2.2.1
theorem dX7_most_10 : decode cX7_most 10 = .ok (.ireturn, 1) := dTo1_82.1.2.2.2.2.2.2.1
theorem dX7_most_11 : decode cX7_most 11 = .ok (.aload_n 0, 1) := dTo1_82.1.2.2.2.2.2.2.2.1
theorem dX7_most_12 : decode cX7_most 12 = .ok (.iload_n 1, 1) := dTo1_82.1.2.2.2.2.2.2.2.2.1
theorem dX7_most_13 : decode cX7_most 13 = .ok (.iload_n 2, 1) := dTo1_82.1.2.2.2.2.2.2.2.2.2.1
theorem dX7_most_14 : decode cX7_most 14 = .ok (.invokevirtual 240, 3) := dTo1_82.2.1.1
theorem dX7_most_17 : decode cX7_most 17 = .ok (.ifCond .ne 10, 3) := dTo1_82.2.1.2.1
theorem dX7_most_20 : decode cX7_most 20 = .ok (.aload_n 0, 1) := dTo1_82.2.1.2.2.1
theorem dX7_most_21 : decode cX7_most 21 = .ok (.iconst 2, 1) := dTo1_82.2.1.2.2.2.1
theorem dX7_most_22 : decode cX7_most 22 = .ok (.putfield 50, 3) := dTo1_82.2.1.2.2.2.2.1
theorem dX7_most_25 : decode cX7_most 25 = .ok (.iconst 0, 1) := dTo1_82.2.1.2.2.2.2.2.1
theorem dX7_most_26 : decode cX7_most 26 = .ok (.ireturn, 1) := dTo1_82.2.1.2.2.2.2.2.2.1
theorem dX7_most_27 : decode cX7_most 27 = .ok (.bipush 7, 2) := dTo1_82.2.1.2.2.2.2.2.2.2.1
theorem dX7_most_31 : decode cX7_most 31 = .ok (.dup, 1) := dTo1_82.2.1.2.2.2.2.2.2.2.2.1
theorem dX7_most_32 : decode cX7_most 32 = .ok (.iconst 0, 1) := dTo1_82.2.1.2.2.2.2.2.2.2.2.2.1
theorem dX7_most_33 : decode cX7_most 33 = .ok (.iconst 2, 1) := dTo1_82.2.2.1.1
theorem dX7_most_34 : decode cX7_most 34 = .ok (.iastore, 1) := dTo1_82.2.2.1.2.1
theorem dX7_most_35 : decode cX7_most 35 = .ok (.dup, 1) := dTo1_82.2.2.1.2.2.1
theorem dX7_most_36 : decode cX7_most 36 = .ok (.iconst 1, 1) := dTo1_82.2.2.1.2.2.2.1
theorem dX7_most_37 : decode cX7_most 37 = .ok (.iconst 2, 1) := dTo1_82.2.2.1.2.2.2.2.1
theorem dX7_most_38 : decode cX7_most 38 = .ok (.iastore, 1) := dTo1_82.2.2.1.2.2.2.2.2.1
theorem dX7_most_39 : decode cX7_most 39 = .ok (.dup, 1) := dTo1_82.2.2.1.2.2.2.2.2.2.1
theorem dX7_most_40 : decode cX7_most 40 = .ok (.iconst 2, 1) := dTo1_82.2.2.1.2.2.2.2.2.2.2.1
theorem dX7_most_41 : decode cX7_most 41 = .ok (.iconst 5, 1) := dTo1_82.2.2.1.2.2.2.2.2.2.2.2.1
theorem dX7_most_42 : decode cX7_most 42 = .ok (.iastore, 1) := dTo1_82.2.2.1.2.2.2.2.2.2.2.2.2.1
theorem dX7_most_43 : decode cX7_most 43 = .ok (.dup, 1) := dTo1_82.2.2.2.1.1
theorem dX7_most_44 : decode cX7_most 44 = .ok (.iconst 3, 1) := dTo1_82.2.2.2.1.2.1
theorem dX7_most_45 : decode cX7_most 45 = .ok (.bipush 6, 2) := dTo1_82.2.2.2.1.2.2.1
theorem dX7_most_47 : decode cX7_most 47 = .ok (.iastore, 1) := dTo1_82.2.2.2.1.2.2.2.1
theorem dX7_most_48 : decode cX7_most 48 = .ok (.dup, 1) := dTo1_82.2.2.2.1.2.2.2.2.1
theorem dX7_most_49 : decode cX7_most 49 = .ok (.iconst 4, 1) := dTo1_82.2.2.2.1.2.2.2.2.2.1
theorem dX7_most_50 : decode cX7_most 50 = .ok (.bipush 10, 2) := dTo1_82.2.2.2.1.2.2.2.2.2.2.1
theorem dX7_most_52 : decode cX7_most 52 = .ok (.iastore, 1) := dTo1_82.2.2.2.1.2.2.2.2.2.2.2.1
theorem dX7_most_53 : decode cX7_most 53 = .ok (.dup, 1) := dTo1_82.2.2.2.1.2.2.2.2.2.2.2.2.1
theorem dX7_most_54 : decode cX7_most 54 = .ok (.iconst 5, 1) := dTo1_82.2.2.2.1.2.2.2.2.2.2.2.2.2.1
theorem dX7_most_55 : decode cX7_most 55 = .ok (.bipush 53, 2) := dTo1_82.2.2.2.2.1.1
theorem dX7_most_57 : decode cX7_most 57 = .ok (.iastore, 1) := dTo1_82.2.2.2.2.1.2.1
theorem dX7_most_58 : decode cX7_most 58 = .ok (.dup, 1) := dTo1_82.2.2.2.2.1.2.2.1
theorem dX7_most_59 : decode cX7_most 59 = .ok (.bipush 6, 2) := dTo1_82.2.2.2.2.1.2.2.2.1
theorem dX7_most_61 : decode cX7_most 61 = .ok (.bipush 124, 2) := dTo1_82.2.2.2.2.1.2.2.2.2.1
theorem dX7_most_63 : decode cX7_most 63 = .ok (.iastore, 1) := dTo1_82.2.2.2.2.1.2.2.2.2.2.1
theorem dX7_most_64 : decode cX7_most 64 = .ok (.astore_n 3, 1) := dTo1_82.2.2.2.2.1.2.2.2.2.2.2.1
theorem dX7_most_65 : decode cX7_most 65 = .ok (.aload_n 0, 1) := dTo1_82.2.2.2.2.1.2.2.2.2.2.2.2.1
theorem dX7_most_66 : decode cX7_most 66 = .ok (.getfield 31, 3) := dTo1_82.2.2.2.2.1.2.2.2.2.2.2.2.2.1
theorem dX7_most_69 : decode cX7_most 69 = .ok (.iload_n 1, 1) := dTo1_82.2.2.2.2.1.2.2.2.2.2.2.2.2.2.1
theorem dX7_most_70 : decode cX7_most 70 = .ok (.iaload, 1) := dTo1_82.2.2.2.2.2.1.1
theorem dX7_most_71 : decode cX7_most 71 = .ok (.istore 4, 2) := dTo1_82.2.2.2.2.2.1.2.1
theorem dX7_most_73 : decode cX7_most 73 = .ok (.iload 4, 2) := dTo1_82.2.2.2.2.2.1.2.2.1
theorem dX7_most_75 : decode cX7_most 75 = .ok (.bipush (-4), 2) := dTo1_82.2.2.2.2.2.1.2.2.2.1
theorem dX7_most_77 : decode cX7_most 77 = .ok (.if_icmp .le 7, 3) := dTo1_82.2.2.2.2.2.1.2.2.2.2.1
theorem dX7_most_80 : decode cX7_most 80 = .ok (.iconst 2, 1) := dTo1_82.2.2.2.2.2.1.2.2.2.2.2.1
theorem dX7_most_81 : decode cX7_most 81 = .ok (.goto 12, 3) := dTo1_82.2.2.2.2.2.1.2.2.2.2.2.2.1
theorem dX7_most_84 : decode cX7_most 84 = .ok (.aload_n 3, 1) := dTo1_82.2.2.2.2.2.1.2.2.2.2.2.2.2.1
theorem dX7_most_85 : decode cX7_most 85 = .ok (.iload 4, 2) := dTo1_82.2.2.2.2.2.1.2.2.2.2.2.2.2.2.1
theorem dX7_most_87 : decode cX7_most 87 = .ok (.ineg, 1) := dTo1_82.2.2.2.2.2.1.2.2.2.2.2.2.2.2.2.1
theorem dTo1_83 : dQ cX7_most [[(88, zop8, 0, 0), (89, zop100, 0, 0), (90, zop7, 0, 0), (91, zop108, 0, 0), (92, zop46, 0, 0), (93, zop172, 0, 0)]] := dQ_of _ _ (by decide +kernel)
theorem dX7_most_88 : decode cX7_most 88 = .ok (.iconst 5, 1) := dTo1_83.1.1
theorem dX7_most_89 : decode cX7_most 89 = .ok (.isub, 1) := dTo1_83.1.2.1
theorem dX7_most_90 : decode cX7_most 90 = .ok (.iconst 4, 1) := dTo1_83.1.2.2.1
theorem dX7_most_91 : decode cX7_most 91 = .ok (.idiv, 1) := dTo1_83.1.2.2.2.1
theorem dX7_most_92 : decode cX7_most 92 = .ok (.iaload, 1) := dTo1_83.1.2.2.2.2.1
theorem dX7_most_93 : decode cX7_most 93 = .ok (.ireturn, 1) := dTo1_83.1.2.2.2.2.2.1
theorem dTo1_84 : dQ cX7_isWithin [[(0, zop42, 0, 0), (1, zop27, 0, 0), (2, zop28, 0, 0), (3, zop182, 0, 246), (6, zop158, 0, 7), (9, zop4, 0, 0), (10, zop167, 0, 4), (13, zop3, 0, 0), (14, zop172, 0, 0)]] := dQ_of _ _ (by decide +kernel)
theorem dX7_isWithin_0 : decode cX7_isWithin 0 = .ok (.aload_n 0, 1) := dTo1_84.1.1
theorem dX7_isWithin_1 : decode cX7_isWithin 1 = .ok (.iload_n 1, 1) := dTo1_84.1.2.1
theorem dX7_isWithin_2 : decode cX7_isWithin 2 = .ok (.iload_n 2, 1) := dTo1_84.1.2.2.1
theorem dX7_isWithin_3 : decode cX7_isWithin 3 = .ok (.invokevirtual 246, 3) := dTo1_84.1.2.2.2.1
theorem dX7_isWithin_6 : decode cX7_isWithin 6 = .ok (.ifCond .le 7, 3) := dTo1_84.1.2.2.2.2.1
theorem dX7_isWithin_9 : decode cX7_isWithin 9 = .ok (.iconst 1, 1) := dTo1_84.1.2.2.2.2.2.1
theorem dX7_isWithin_10 : decode cX7_isWithin 10 = .ok (.goto 4, 3) := dTo1_84.1.2.2.2.2.2.2.1
theorem dX7_isWithin_13 : decode cX7_isWithin 13 = .ok (.iconst 0, 1) := dTo1_84.1.2.2.2.2.2.2.2.1
theorem dX7_isWithin_14 : decode cX7_isWithin 14 = .ok (.ireturn, 1) := dTo1_84.1.2.2.2.2.2.2.2.2.1
theorem dTo1_85 : dQ cX7_find [[(0, zop42, 0, 0), (1, zop27, 0, 0), (2, zop184, 0, 123), (5, zop3, 0, 0), (6, zop182, 0, 126), (9, zop153, 0, 5), (12, zop3, 0, 0), (13, zop172, 0, 0), (14, zop27, 0, 0), (15, zop62, 0, 0)], [(16, zop3, 0, 0), (17, zop54, 4, 0), (19, zop21, 4, 0), (21, zop16, 8, 0), (23, zop162, 0, 41), (26, zop42, 0, 0), (27, zop21, 4, 0), (29, zop27, 0, 0), (30, zop182, 0, 243), (33, zop153, 0, 25)], [(36, zop28, 0, 0), (37, zop153, 0, 12), (40, zop21, 4, 0), (42, zop29, 0, 0), (43, zop164, 0, 15), (46, zop167, 0, 9), (49, zop21, 4, 0), (51, zop29, 0, 0), (52, zop162, 0, 6), (55, zop21, 4, 0)], [(57, zop62, 0, 0), (58, zop132, 4, 1), (61, zop167, 255, 214), (64, zop29, 0, 0), (65, zop172, 0, 0)]] := dQ_of _ _ (by decide +kernel)
theorem dX7_find_0 : decode cX7_find 0 = .ok (.aload_n 0, 1) := dTo1_85.1.1
theorem dX7_find_1 : decode cX7_find 1 = .ok (.iload_n 1, 1) := dTo1_85.1.2.1
theorem dX7_find_2 : decode cX7_find 2 = .ok (.invokestatic 123, 3) := dTo1_85.1.2.2.1
theorem dX7_find_5 : decode cX7_find 5 = .ok (.iconst 0, 1) := dTo1_85.1.2.2.2.1
theorem dX7_find_6 : decode cX7_find 6 = .ok (.invokevirtual 126, 3) := dTo1_85.1.2.2.2.2.1
theorem dX7_find_9 : decode cX7_find 9 = .ok (.ifCond .eq 5, 3) := dTo1_85.1.2.2.2.2.2.1
theorem dX7_find_12 : decode cX7_find 12 = .ok (.iconst 0, 1) := dTo1_85.1.2.2.2.2.2.2.1
theorem dX7_find_13 : decode cX7_find 13 = .ok (.ireturn, 1) := dTo1_85.1.2.2.2.2.2.2.2.1
theorem dX7_find_14 : decode cX7_find 14 = .ok (.iload_n 1, 1) := dTo1_85.1.2.2.2.2.2.2.2.2.1
theorem dX7_find_15 : decode cX7_find 15 = .ok (.istore_n 3, 1) := dTo1_85.1.2.2.2.2.2.2.2.2.2.1
theorem dX7_find_16 : decode cX7_find 16 = .ok (.iconst 0, 1) := dTo1_85.2.1.1
theorem dX7_find_17 : decode cX7_find 17 = .ok (.istore 4, 2) := dTo1_85.2.1.2.1
theorem dX7_find_19 : decode cX7_find 19 = .ok (.iload 4, 2) := dTo1_85.2.1.2.2.1
theorem dX7_find_21 : decode cX7_find 21 = .ok (.bipush 8, 2) := dTo1_85.2.1.2.2.2.1
theorem dX7_find_23 : decode cX7_find 23 = .ok (.if_icmp .ge 41, 3) := dTo1_85.2.1.2.2.2.2.1
theorem dX7_find_26 : decode cX7_find 26 = .ok (.aload_n 0, 1) := dTo1_85.2.1.2.2.2.2.2.1
theorem dX7_find_27 : decode cX7_find 27 = .ok (.iload 4, 2) := dTo1_85.2.1.2.2.2.2.2.2.1
theorem dX7_find_29 : decode cX7_find 29 = .ok (.iload_n 1, 1) := dTo1_85.2.1.2.2.2.2.2.2.2.1
theorem dX7_find_30 : decode cX7_find 30 = .ok (.invokevirtual 243, 3) := dTo1_85.2.1.2.2.2.2.2.2.2.2.1
theorem dX7_find_33 : decode cX7_find 33 = .ok (.ifCond .eq 25, 3) := dTo1_85.2.1.2.2.2.2.2.2.2.2.2.1
theorem dX7_find_36 : decode cX7_find 36 = .ok (.iload_n 2, 1) := dTo1_85.2.2.1.1
theorem dX7_find_37 : decode cX7_find 37 = .ok (.ifCond .eq 12, 3) := dTo1_85.2.2.1.2.1
theorem dX7_find_40 : decode cX7_find 40 = .ok (.iload 4, 2) := dTo1_85.2.2.1.2.2.1
theorem dX7_find_42 : decode cX7_find 42 = .ok (.iload_n 3, 1) := dTo1_85.2.2.1.2.2.2.1
theorem dX7_find_43 : decode cX7_find 43 = .ok (.if_icmp .le 15, 3) := dTo1_85.2.2.1.2.2.2.2.1
theorem dX7_find_46 : decode cX7_find 46 = .ok (.goto 9, 3) := dTo1_85.2.2.1.2.2.2.2.2.1
theorem dX7_find_49 : decode cX7_find 49 = .ok (.iload 4, 2) := dTo1_85.2.2.1.2.2.2.2.2.2.1
theorem dX7_find_51 : decode cX7_find 51 = .ok (.iload_n 3, 1) := dTo1_85.2.2.1.2.2.2.2.2.2.2.1
theorem dX7_find_52 : decode cX7_find 52 = .ok (.if_icmp .ge 6, 3) := dTo1_85.2.2.1.2.2.2.2.2.2.2.2.1
theorem dX7_find_55 : decode cX7_find 55 = .ok (.iload 4, 2) := dTo1_85.2.2.1.2.2.2.2.2.2.2.2.2.1
theorem dX7_find_57 : decode cX7_find 57 = .ok (.istore_n 3, 1) := dTo1_85.2.2.2.1.1
theorem dX7_find_58 : decode cX7_find 58 = .ok (.iinc 4 1, 3) := dTo1_85.2.2.2.1.2.1
theorem dX7_find_61 : decode cX7_find 61 = .ok (.goto (-42), 3) := dTo1_85.2.2.2.1.2.2.1
theorem dX7_find_64 : decode cX7_find 64 = .ok (.iload_n 3, 1) := dTo1_85.2.2.2.1.2.2.2.1
theorem dX7_find_65 : decode cX7_find 65 = .ok (.ireturn, 1) := dTo1_85.2.2.2.1.2.2.2.2.1
theorem dTo1_86 : dQ cX7_rank [[(0, zop42, 0, 0), (1, zop27, 0, 0), (2, zop184, 0, 123), (5, zop3, 0, 0), (6, zop182, 0, 126), (9, zop153, 0, 5), (12, zop3, 0, 0), (13, zop172, 0, 0), (14, zop3, 0, 0), (15, zop61, 0, 0)], [(16, zop3, 0, 0), (17, zop62, 0, 0), (18, zop29, 0, 0), (19, zop16, 8, 0), (21, zop162, 0, 26), (24, zop28, 0, 0), (25, zop42, 0, 0), (26, zop29, 0, 0), (27, zop27, 0, 0), (28, zop182, 0, 168)], [(31, zop156, 0, 7), (34, zop4, 0, 0), (35, zop167, 0, 4), (38, zop3, 0, 0), (39, zop96, 0, 0), (40, zop61, 0, 0), (41, zop132, 3, 1), (44, zop167, 255, 230), (47, zop28, 0, 0), (48, zop172, 0, 0)]] := dQ_of _ _ (by decide +kernel)
theorem dX7_rank_0 : decode cX7_rank 0 = .ok (.aload_n 0, 1) := dTo1_86.1.1
theorem dX7_rank_1 : decode cX7_rank 1 = .ok (.iload_n 1, 1) := dTo1_86.1.2.1
theorem dX7_rank_2 : decode cX7_rank 2 = .ok (.invokestatic 123, 3) := dTo1_86.1.2.2.1
theorem dX7_rank_5 : decode cX7_rank 5 = .ok (.iconst 0, 1) := dTo1_86.1.2.2.2.1
theorem dX7_rank_6 : decode cX7_rank 6 = .ok (.invokevirtual 126, 3) := dTo1_86.1.2.2.2.2.1
theorem dX7_rank_9 : decode cX7_rank 9 = .ok (.ifCond .eq 5, 3) := dTo1_86.1.2.2.2.2.2.1
theorem dX7_rank_12 : decode cX7_rank 12 = .ok (.iconst 0, 1) := dTo1_86.1.2.2.2.2.2.2.1
theorem dX7_rank_13 : decode cX7_rank 13 = .ok (.ireturn, 1) := dTo1_86.1.2.2.2.2.2.2.2.1
theorem dX7_rank_14 : decode cX7_rank 14 = .ok (.iconst 0, 1) := dTo1_86.1.2.2.2.2.2.2.2.2.1
theorem dX7_rank_15 : decode cX7_rank 15 = .ok (.istore_n 2, 1) := dTo1_86.1.2.2.2.2.2.2.2.2.2.1
theorem dX7_rank_16 : decode cX7_rank 16 = .ok (.iconst 0, 1) := dTo1_86.2.1.1
theorem dX7_rank_17 : decode cX7_rank 17 = .ok (.istore_n 3, 1) := dTo1_86.2.1.2.1
theorem dX7_rank_18 : decode cX7_rank 18 = .ok (.iload_n 3, 1) := dTo1_86.2.1.2.2.1
theorem dX7_rank_19 : decode cX7_rank 19 = .ok (.bipush 8, 2) := dTo1_86.2.1.2.2.2.1
theorem dX7_rank_21 : decode cX7_rank 21 = .ok (.if_icmp .ge 26, 3) := dTo1_86.2.1.2.2.2.2.1
theorem dX7_rank_24 : decode cX7_rank 24 = .ok (.iload_n 2, 1) := dTo1_86.2.1.2.2.2.2.2.1
theorem dX7_rank_25 : decode cX7_rank 25 = .ok (.aload_n 0, 1) := dTo1_86.2.1.2.2.2.2.2.2.1
theorem dX7_rank_26 : decode cX7_rank 26 = .ok (.iload_n 3, 1) := dTo1_86.2.1.2.2.2.2.2.2.2.1
theorem dX7_rank_27 : decode cX7_rank 27 = .ok (.iload_n 1, 1) := dTo1_86.2.1.2.2.2.2.2.2.2.2.1
theorem dX7_rank_28 : decode cX7_rank 28 = .ok (.invokevirtual 168, 3) := dTo1_86.2.1.2.2.2.2.2.2.2.2.2.1
theorem dX7_rank_31 : decode cX7_rank 31 = .ok (.ifCond .ge 7, 3) := dTo1_86.2.2.1.1
theorem dX7_rank_34 : decode cX7_rank 34 = .ok (.iconst 1, 1) := dTo1_86.2.2.1.2.1
theorem dX7_rank_35 : decode cX7_rank 35 = .ok (.goto 4, 3) := dTo1_86.2.2.1.2.2.1
theorem dX7_rank_38 : decode cX7_rank 38 = .ok (.iconst 0, 1) := dTo1_86.2.2.1.2.2.2.1
theorem dX7_rank_39 : decode cX7_rank 39 = .ok (.iadd, 1) := dTo1_86.2.2.1.2.2.2.2.1
theorem dX7_rank_40 : decode cX7_rank 40 = .ok (.istore_n 2, 1) := dTo1_86.2.2.1.2.2.2.2.2.1
theorem dX7_rank_41 : decode cX7_rank 41 = .ok (.iinc 3 1, 3) := dTo1_86.2.2.1.2.2.2.2.2.2.1
theorem dX7_rank_44 : decode cX7_rank 44 = .ok (.goto (-26), 3) := dTo1_86.2.2.1.2.2.2.2.2.2.2.1
theorem dX7_rank_47 : decode cX7_rank 47 = .ok (.iload_n 2, 1) := dTo1_86.2.2.1.2.2.2.2.2.2.2.2.1
theorem dX7_rank_48 : decode cX7_rank 48 = .ok (.ireturn, 1) := dTo1_86.2.2.1.2.2.2.2.2.2.2.2.2.1
theorem dTo1_87 : dQ cX7_before [[(0, zop42, 0, 0), (1, zop28, 0, 0), (2, zop184, 0, 123), (5, zop27, 0, 0), (6, zop3, 0, 0), (7, zop6, 0, 0), (8, zop184, 0, 113), (11, zop154, 0, 7), (14, zop4, 0, 0), (15, zop167, 0, 4)], [(18, zop3, 0, 0), (19, zop182, 0, 126), (22, zop153, 0, 5), (25, zop3, 0, 0), (26, zop172, 0, 0), (27, zop42, 0, 0), (28, zop180, 0, 28), (31, zop28, 0, 0), (32, zop46, 0, 0), (33, zop4, 0, 0)], [(34, zop160, 0, 38), (37, zop42, 0, 0), (38, zop180, 0, 34), (41, zop28, 0, 0), (42, zop51, 0, 0), (43, zop153, 0, 7), (46, zop3, 0, 0), (47, zop167, 0, 24), (50, zop178, 0, 151), (53, zop27, 0, 0)], [(54, zop46, 0, 0), (55, zop178, 0, 148), (58, zop27, 0, 0), (59, zop46, 0, 0), (60, zop100, 0, 0), (61, zop27, 0, 0), (62, zop154, 0, 7), (65, zop5, 0, 0), (66, zop167, 0, 4), (69, zop4, 0, 0)], [(70, zop96, 0, 0), (71, zop172, 0, 0), (72, zop42, 0, 0), (73, zop27, 0, 0), (74, zop42, 0, 0), (75, zop42, 0, 0), (76, zop180, 0, 28), (79, zop28, 0, 0), (80, zop46, 0, 0), (81, zop42, 0, 0)], [(82, zop180, 0, 31), (85, zop28, 0, 0), (86, zop46, 0, 0), (87, zop182, 0, 88), (90, zop182, 0, 249), (93, zop27, 0, 0), (94, zop154, 0, 24), (97, zop42, 0, 0), (98, zop28, 0, 0), (99, zop182, 0, 109)]] := dQ_of _ _ (by decide +kernel)
theorem dX7_before_0 : decode cX7_before 0 = .ok (.aload_n 0, 1) := dTo1_87.1.1
theorem dX7_before_1 : decode cX7_before 1 = .ok (.iload_n 2, 1) := dTo1_87.1.2.1
theorem dX7_before_2 : decode cX7_before 2 = .ok (.invokestatic 123, 3) := dTo1_87.1.2.2.1
theorem dX7_before_5 : decode cX7_before 5 = .ok (.iload_n 1, 1) := dTo1_87.1.2.2.2.1
theorem dX7_before_6 : decode cX7_before 6 = .ok (.iconst 0, 1) := dTo1_87.1.2.2.2.2.1
theorem dX7_before_7 : decode cX7_before 7 = .ok (.iconst 3, 1) := dTo1_87.1.2.2.2.2.2.1
theorem dX7_before_8 : decode cX7_before 8 = .ok (.invokestatic 113, 3) := dTo1_87.1.2.2.2.2.2.2.1
theorem dX7_before_11 : decode cX7_before 11 = .ok (.ifCond .ne 7, 3) := dTo1_87.1.2.2.2.2.2.2.2.1
theorem dX7_before_14 : decode cX7_before 14 = .ok (.iconst 1, 1) := dTo1_87.1.2.2.2.2.2.2.2.2.1
theorem dX7_before_15 : decode cX7_before 15 = .ok (.goto 4, 3) := dTo1_87.1.2.2.2.2.2.2.2.2.2.1
theorem dX7_before_18 : decode cX7_before 18 = .ok (.iconst 0, 1) := dTo1_87.2.1.1
theorem dX7_before_19 : decode cX7_before 19 = .ok (.invokevirtual 126, 3) := dTo1_87.2.1.2.1
theorem dX7_before_22 : decode cX7_before 22 = .ok (.ifCond .eq 5, 3) := dTo1_87.2.1.2.2.1
theorem dX7_before_25 : decode cX7_before 25 = .ok (.iconst 0, 1) := dTo1_87.2.1.2.2.2.1
theorem dX7_before_26 : decode cX7_before 26 = .ok (.ireturn, 1) := dTo1_87.2.1.2.2.2.2.1
theorem dX7_before_27 : decode cX7_before 27 = .ok (.aload_n 0, 1) := dTo1_87.2.1.2.2.2.2.2.1
theorem dX7_before_28 : decode cX7_before 28 = .ok (.getfield 28, 3) := dTo1_87.2.1.2.2.2.2.2.2.1
theorem dX7_before_31 : decode cX7_before 31 = .ok (.iload_n 2, 1) := dTo1_87.2.1.2.2.2.2.2.2.2.1
theorem dX7_before_32 : decode cX7_before 32 = .ok (.iaload, 1) := dTo1_87.2.1.2.2.2.2.2.2.2.2.1
theorem dX7_before_33 : decode cX7_before 33 = .ok (.iconst 1, 1) := dTo1_87.2.1.2.2.2.2.2.2.2.2.2.1
theorem dX7_before_34 : decode cX7_before 34 = .ok (.if_icmp .ne 38, 3) := dTo1_87.2.2.1.1
theorem dX7_before_37 : decode cX7_before 37 = .ok (.aload_n 0, 1) := dTo1_87.2.2.1.2.1
theorem dX7_before_38 : decode cX7_before 38 = .ok (.getfield 34, 3) := dTo1_87.2.2.1.2.2.1
theorem dX7_before_41 : decode cX7_before 41 = .ok (.iload_n 2, 1) := dTo1_87.2.2.1.2.2.2.1
theorem dX7_before_42 : decode cX7_before 42 = .ok (.baload, 1) := dTo1_87.2.2.1.2.2.2.2.1
theorem dX7_before_43 : decode cX7_before 43 = .ok (.ifCond .eq 7, 3) := dTo1_87.2.2.1.2.2.2.2.2.1
theorem dX7_before_46 : decode cX7_before 46 = .ok (.iconst 0, 1) := dTo1_87.2.2.1.2.2.2.2.2.2.1
theorem dX7_before_47 : decode cX7_before 47 = .ok (.goto 24, 3) := dTo1_87.2.2.1.2.2.2.2.2.2.2.1
theorem dX7_before_50 : decode cX7_before 50 = .ok (.getstatic 151, 3) := dTo1_87.2.2.1.2.2.2.2.2.2.2.2.1
theorem dX7_before_53 : decode cX7_before 53 = .ok (.iload_n 1, 1) := dTo1_87.2.2.1.2.2.2.2.2.2.2.2.2.1
theorem dX7_before_54 : decode cX7_before 54 = .ok (.iaload, 1) := dTo1_87.2.2.2.1.1
theorem dX7_before_55 : decode cX7_before 55 = .ok (.getstatic 148, 3) := dTo1_87.2.2.2.1.2.1
theorem dX7_before_58 : decode cX7_before 58 = .ok (.iload_n 1, 1) := dTo1_87.2.2.2.1.2.2.1
theorem dX7_before_59 : decode cX7_before 59 = .ok (.iaload, 1) := dTo1_87.2.2.2.1.2.2.2.1
theorem dX7_before_60 : decode cX7_before 60 = .ok (.isub, 1) := dTo1_87.2.2.2.1.2.2.2.2.1
theorem dX7_before_61 : decode cX7_before 61 = .ok (.iload_n 1, 1) := dTo1_87.2.2.2.1.2.2.2.2.2.1
theorem dX7_before_62 : decode cX7_before 62 = .ok (.ifCond .ne 7, 3) := dTo1_87.2.2.2.1.2.2.2.2.2.2.1
theorem dX7_before_65 : decode cX7_before 65 = .ok (.iconst 2, 1) := dTo1_87.2.2.2.1.2.2.2.2.2.2.2.1
theorem dX7_before_66 : decode cX7_before 66 = .ok (.goto 4, 3) := dTo1_87.2.2.2.1.2.2.2.2.2.2.2.2.1
theorem dX7_before_69 : decode cX7_before 69 = .ok (.iconst 1, 1) := dTo1_87.2.2.2.1.2.2.2.2.2.2.2.2.2.1
theorem dX7_before_70 : decode cX7_before 70 = .ok (.iadd, 1) := dTo1_87.2.2.2.2.1.1
theorem dX7_before_71 : decode cX7_before 71 = .ok (.ireturn, 1) := dTo1_87.2.2.2.2.1.2.1
theorem dX7_before_72 : decode cX7_before 72 = .ok (.aload_n 0, 1) := dTo1_87.2.2.2.2.1.2.2.1
theorem dX7_before_73 : decode cX7_before 73 = .ok (.iload_n 1, 1) := dTo1_87.2.2.2.2.1.2.2.2.1
theorem dX7_before_74 : decode cX7_before 74 = .ok (.aload_n 0, 1) := dTo1_87.2.2.2.2.1.2.2.2.2.1
theorem dX7_before_75 : decode cX7_before 75 = .ok (.aload_n 0, 1) := dTo1_87.2.2.2.2.1.2.2.2.2.2.1
theorem dX7_before_76 : decode cX7_before 76 = .ok (.getfield 28, 3) := dTo1_87.2.2.2.2.1.2.2.2.2.2.2.1
theorem dX7_before_79 : decode cX7_before 79 = .ok (.iload_n 2, 1) := dTo1_87.2.2.2.2.1.2.2.2.2.2.2.2.1
theorem dX7_before_80 : decode cX7_before 80 = .ok (.iaload, 1) := dTo1_87.2.2.2.2.1.2.2.2.2.2.2.2.2.1
theorem dX7_before_81 : decode cX7_before 81 = .ok (.aload_n 0, 1) := dTo1_87.2.2.2.2.1.2.2.2.2.2.2.2.2.2.1
theorem dX7_before_82 : decode cX7_before 82 = .ok (.getfield 31, 3) := dTo1_87.2.2.2.2.2.1.1
theorem dX7_before_85 : decode cX7_before 85 = .ok (.iload_n 2, 1) := dTo1_87.2.2.2.2.2.1.2.1
theorem dX7_before_86 : decode cX7_before 86 = .ok (.iaload, 1) := dTo1_87.2.2.2.2.2.1.2.2.1
theorem dX7_before_87 : decode cX7_before 87 = .ok (.invokevirtual 88, 3) := dTo1_87.2.2.2.2.2.1.2.2.2.1
theorem dX7_before_90 : decode cX7_before 90 = .ok (.invokevirtual 249, 3) := dTo1_87.2.2.2.2.2.1.2.2.2.2.1
theorem dX7_before_93 : decode cX7_before 93 = .ok (.iload_n 1, 1) := dTo1_87.2.2.2.2.2.1.2.2.2.2.2.1
theorem dX7_before_94 : decode cX7_before 94 = .ok (.ifCond .ne 24, 3) := dTo1_87.2.2.2.2.2.1.2.2.2.2.2.2.1
theorem dX7_before_97 : decode cX7_before 97 = .ok (.aload_n 0, 1) := dTo1_87.2.2.2.2.2.1.2.2.2.2.2.2.2.1
theorem dX7_before_98 : decode cX7_before 98 = .ok (.iload_n 2, 1) := dTo1_87.2.2.2.2.2.1.2.2.2.2.2.2.2.2.1
theorem dX7_before_99 : decode cX7_before 99 = .ok (.invokevirtual 109, 3) := dTo1_87.2.2.2.2.2.1.2.2.2.2.2.2.2.2.2.1
theorem dTo1_88 : dQ cX7_before [[(102, zop153, 0, 16), (105, zop42, 0, 0), (106, zop180, 0, 34), (109, zop28, 0, 0), (110, zop51, 0, 0), (111, zop154, 0, 7), (114, zop4, 0, 0), (115, zop167, 0, 4), (118, zop3, 0, 0)]] := dQ_of _ _ (by decide +kernel)
theorem dX7_before_102 : decode cX7_before 102 = .ok (.ifCond .eq 16, 3) := dTo1_88.1.1
theorem dX7_before_105 : decode cX7_before 105 = .ok (.aload_n 0, 1) := dTo1_88.1.2.1
theorem dX7_before_106 : decode cX7_before 106 = .ok (.getfield 34, 3) := dTo1_88.1.2.2.1
theorem dX7_before_109 : decode cX7_before 109 = .ok (.iload_n 2, 1) := dTo1_88.1.2.2.2.1
theorem dX7_before_110 : decode cX7_before 110 = .ok (.baload, 1) := dTo1_88.1.2.2.2.2.1
theorem dX7_before_111 : decode cX7_before 111 = .ok (.ifCond .ne 7, 3) := dTo1_88.1.2.2.2.2.2.1
theorem dX7_before_114 : decode cX7_before 114 = .ok (.iconst 1, 1) := dTo1_88.1.2.2.2.2.2.2.1
theorem dX7_before_115 : decode cX7_before 115 = .ok (.goto 4, 3) := dTo1_88.1.2.2.2.2.2.2.2.1
theorem dX7_before_118 : decode cX7_before 118 = .ok (.iconst 0, 1) := dTo1_88.1.2.2.2.2.2.2.2.2.1
