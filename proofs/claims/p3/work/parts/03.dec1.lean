theorem dTo1_0 : dQ cX7_add [[(69, .goto (-56), 3), (72, .return_, 1)]] := dQ_of _ _ (by decide +kernel)
theorem dX7_add_69 : decode cX7_add 69 = .ok (.goto (-56), 3) := dTo1_0.1.1
theorem dX7_add_72 : decode cX7_add 72 = .ok (.return_, 1) := dTo1_0.1.2.1
theorem dTo1_1 : dQ cX7_sum [[(0, .bipush 11, 2), (2, .newarray .int, 2), (4, .astore_n 3, 1), (5, .iconst 0, 1), (6, .istore 4, 2), (8, .iload 4, 2), (10, .bipush 11, 2), (12, .if_icmp .ge 17, 3), (15, .aload_n 3, 1), (16, .iload 4, 2)], [(18, .aload_n 0, 1), (19, .iload 4, 2), (21, .iaload, 1), (22, .iastore, 1), (23, .iinc 4 1, 3), (26, .goto (-18), 3), (29, .aload_n 3, 1), (30, .aload_n 1, 1), (31, .iload_n 2, 1), (32, .invokestatic 56, 3)], [(35, .aload_n 3, 1), (36, .areturn, 1)]] := dQ_of _ _ (by decide +kernel)
theorem dX7_sum_0 : decode cX7_sum 0 = .ok (.bipush 11, 2) := dTo1_1.1.1
theorem dX7_sum_2 : decode cX7_sum 2 = .ok (.newarray .int, 2) := dTo1_1.1.2.1
theorem dX7_sum_4 : decode cX7_sum 4 = .ok (.astore_n 3, 1) := dTo1_1.1.2.2.1
theorem dX7_sum_5 : decode cX7_sum 5 = .ok (.iconst 0, 1) := dTo1_1.1.2.2.2.1
theorem dX7_sum_6 : decode cX7_sum 6 = .ok (.istore 4, 2) := dTo1_1.1.2.2.2.2.1
theorem dX7_sum_8 : decode cX7_sum 8 = .ok (.iload 4, 2) := dTo1_1.1.2.2.2.2.2.1
theorem dX7_sum_10 : decode cX7_sum 10 = .ok (.bipush 11, 2) := dTo1_1.1.2.2.2.2.2.2.1
theorem dX7_sum_12 : decode cX7_sum 12 = .ok (.if_icmp .ge 17, 3) := dTo1_1.1.2.2.2.2.2.2.2.1
theorem dX7_sum_15 : decode cX7_sum 15 = .ok (.aload_n 3, 1) := dTo1_1.1.2.2.2.2.2.2.2.2.1
theorem dX7_sum_16 : decode cX7_sum 16 = .ok (.iload 4, 2) := dTo1_1.1.2.2.2.2.2.2.2.2.2.1
theorem dX7_sum_18 : decode cX7_sum 18 = .ok (.aload_n 0, 1) := dTo1_1.2.1.1
theorem dX7_sum_19 : decode cX7_sum 19 = .ok (.iload 4, 2) := dTo1_1.2.1.2.1
theorem dX7_sum_21 : decode cX7_sum 21 = .ok (.iaload, 1) := dTo1_1.2.1.2.2.1
theorem dX7_sum_22 : decode cX7_sum 22 = .ok (.iastore, 1) := dTo1_1.2.1.2.2.2.1
theorem dX7_sum_23 : decode cX7_sum 23 = .ok (.iinc 4 1, 3) := dTo1_1.2.1.2.2.2.2.1
theorem dX7_sum_26 : decode cX7_sum 26 = .ok (.goto (-18), 3) := dTo1_1.2.1.2.2.2.2.2.1
theorem dX7_sum_29 : decode cX7_sum 29 = .ok (.aload_n 3, 1) := dTo1_1.2.1.2.2.2.2.2.2.1
theorem dX7_sum_30 : decode cX7_sum 30 = .ok (.aload_n 1, 1) := dTo1_1.2.1.2.2.2.2.2.2.2.1
theorem dX7_sum_31 : decode cX7_sum 31 = .ok (.iload_n 2, 1) := dTo1_1.2.1.2.2.2.2.2.2.2.2.1
theorem dX7_sum_32 : decode cX7_sum 32 = .ok (.invokestatic 56, 3) := dTo1_1.2.1.2.2.2.2.2.2.2.2.2.1
theorem dX7_sum_35 : decode cX7_sum 35 = .ok (.aload_n 3, 1) := dTo1_1.2.2.1.1
theorem dX7_sum_36 : decode cX7_sum 36 = .ok (.areturn, 1) := dTo1_1.2.2.1.2.1
theorem dTo1_2 : dQ cX7_divide [[(0, .lconst 0, 1), (1, .lstore_n 3, 1), (2, .bipush 10, 2), (4, .istore 5, 2), (6, .iload 5, 2), (8, .ifCond .lt 38, 3), (11, .lload_n 3, 1), (12, .bipush 32, 2), (14, .lshl, 1), (15, .aload_n 0, 1)], [(16, .iload 5, 2), (18, .iaload, 1), (19, .i2l, 1), (20, .ldc2_w 54, 3), (23, .land, 1), (24, .lor, 1), (25, .lstore_n 3, 1), (26, .aload_n 2, 1), (27, .iload 5, 2), (29, .lload_n 3, 1)], [(30, .iload_n 1, 1), (31, .i2l, 1), (32, .ldiv, 1), (33, .l2i, 1), (34, .iastore, 1), (35, .lload_n 3, 1), (36, .iload_n 1, 1), (37, .i2l, 1), (38, .lrem, 1), (39, .lstore_n 3, 1)], [(40, .iinc 5 (-1), 3), (43, .goto (-37), 3), (46, .return_, 1)]] := dQ_of _ _ (by decide +kernel)
theorem dX7_divide_0 : decode cX7_divide 0 = .ok (.lconst 0, 1) := dTo1_2.1.1
theorem dX7_divide_1 : decode cX7_divide 1 = .ok (.lstore_n 3, 1) := dTo1_2.1.2.1
theorem dX7_divide_2 : decode cX7_divide 2 = .ok (.bipush 10, 2) := dTo1_2.1.2.2.1
theorem dX7_divide_4 : decode cX7_divide 4 = .ok (.istore 5, 2) := dTo1_2.1.2.2.2.1
theorem dX7_divide_6 : decode cX7_divide 6 = .ok (.iload 5, 2) := dTo1_2.1.2.2.2.2.1
theorem dX7_divide_8 : decode cX7_divide 8 = .ok (.ifCond .lt 38, 3) := dTo1_2.1.2.2.2.2.2.1
theorem dX7_divide_11 : decode cX7_divide 11 = .ok (.lload_n 3, 1) := dTo1_2.1.2.2.2.2.2.2.1
theorem dX7_divide_12 : decode cX7_divide 12 = .ok (.bipush 32, 2) := dTo1_2.1.2.2.2.2.2.2.2.1
theorem dX7_divide_14 : decode cX7_divide 14 = .ok (.lshl, 1) := dTo1_2.1.2.2.2.2.2.2.2.2.1
theorem dX7_divide_15 : decode cX7_divide 15 = .ok (.aload_n 0, 1) := dTo1_2.1.2.2.2.2.2.2.2.2.2.1
theorem dX7_divide_16 : decode cX7_divide 16 = .ok (.iload 5, 2) := dTo1_2.2.1.1
theorem dX7_divide_18 : decode cX7_divide 18 = .ok (.iaload, 1) := dTo1_2.2.1.2.1
theorem dX7_divide_19 : decode cX7_divide 19 = .ok (.i2l, 1) := dTo1_2.2.1.2.2.1
theorem dX7_divide_20 : decode cX7_divide 20 = .ok (.ldc2_w 54, 3) := dTo1_2.2.1.2.2.2.1
theorem dX7_divide_23 : decode cX7_divide 23 = .ok (.land, 1) := dTo1_2.2.1.2.2.2.2.1
theorem dX7_divide_24 : decode cX7_divide 24 = .ok (.lor, 1) := dTo1_2.2.1.2.2.2.2.2.1
theorem dX7_divide_25 : decode cX7_divide 25 = .ok (.lstore_n 3, 1) := dTo1_2.2.1.2.2.2.2.2.2.1
theorem dX7_divide_26 : decode cX7_divide 26 = .ok (.aload_n 2, 1) := dTo1_2.2.1.2.2.2.2.2.2.2.1
theorem dX7_divide_27 : decode cX7_divide 27 = .ok (.iload 5, 2) := dTo1_2.2.1.2.2.2.2.2.2.2.2.1
theorem dX7_divide_29 : decode cX7_divide 29 = .ok (.lload_n 3, 1) := dTo1_2.2.1.2.2.2.2.2.2.2.2.2.1
theorem dX7_divide_30 : decode cX7_divide 30 = .ok (.iload_n 1, 1) := dTo1_2.2.2.1.1
theorem dX7_divide_31 : decode cX7_divide 31 = .ok (.i2l, 1) := dTo1_2.2.2.1.2.1
theorem dX7_divide_32 : decode cX7_divide 32 = .ok (.ldiv, 1) := dTo1_2.2.2.1.2.2.1
theorem dX7_divide_33 : decode cX7_divide 33 = .ok (.l2i, 1) := dTo1_2.2.2.1.2.2.2.1
theorem dX7_divide_34 : decode cX7_divide 34 = .ok (.iastore, 1) := dTo1_2.2.2.1.2.2.2.2.1
theorem dX7_divide_35 : decode cX7_divide 35 = .ok (.lload_n 3, 1) := dTo1_2.2.2.1.2.2.2.2.2.1
theorem dX7_divide_36 : decode cX7_divide 36 = .ok (.iload_n 1, 1) := dTo1_2.2.2.1.2.2.2.2.2.2.1
theorem dX7_divide_37 : decode cX7_divide 37 = .ok (.i2l, 1) := dTo1_2.2.2.1.2.2.2.2.2.2.2.1
theorem dX7_divide_38 : decode cX7_divide 38 = .ok (.lrem, 1) := dTo1_2.2.2.1.2.2.2.2.2.2.2.2.1
theorem dX7_divide_39 : decode cX7_divide 39 = .ok (.lstore_n 3, 1) := dTo1_2.2.2.1.2.2.2.2.2.2.2.2.2.1
theorem dX7_divide_40 : decode cX7_divide 40 = .ok (.iinc 5 (-1), 3) := dTo1_2.2.2.2.1.1
theorem dX7_divide_43 : decode cX7_divide 43 = .ok (.goto (-37), 3) := dTo1_2.2.2.2.1.2.1
theorem dX7_divide_46 : decode cX7_divide 46 = .ok (.return_, 1) := dTo1_2.2.2.2.1.2.2.1
theorem dTo1_3 : dQ cX7_multiply [[(0, .lconst 0, 1), (1, .lstore_n 2, 1), (2, .iconst 0, 1), (3, .istore 4, 2), (5, .iload 4, 2), (7, .bipush 11, 2), (9, .if_icmp .ge 35, 3), (12, .lload_n 2, 1), (13, .aload_n 0, 1), (14, .iload 4, 2)], [(16, .iaload, 1), (17, .i2l, 1), (18, .ldc2_w 54, 3), (21, .land, 1), (22, .iload_n 1, 1), (23, .i2l, 1), (24, .lmul, 1), (25, .ladd, 1), (26, .lstore_n 2, 1), (27, .aload_n 0, 1)], [(28, .iload 4, 2), (30, .lload_n 2, 1), (31, .l2i, 1), (32, .iastore, 1), (33, .lload_n 2, 1), (34, .bipush 32, 2), (36, .lushr, 1), (37, .lstore_n 2, 1), (38, .iinc 4 1, 3), (41, .goto (-36), 3)], [(44, .return_, 1)]] := dQ_of _ _ (by decide +kernel)
theorem dX7_multiply_0 : decode cX7_multiply 0 = .ok (.lconst 0, 1) := dTo1_3.1.1
theorem dX7_multiply_1 : decode cX7_multiply 1 = .ok (.lstore_n 2, 1) := dTo1_3.1.2.1
theorem dX7_multiply_2 : decode cX7_multiply 2 = .ok (.iconst 0, 1) := dTo1_3.1.2.2.1
theorem dX7_multiply_3 : decode cX7_multiply 3 = .ok (.istore 4, 2) := dTo1_3.1.2.2.2.1
theorem dX7_multiply_5 : decode cX7_multiply 5 = .ok (.iload 4, 2) := dTo1_3.1.2.2.2.2.1
theorem dX7_multiply_7 : decode cX7_multiply 7 = .ok (.bipush 11, 2) := dTo1_3.1.2.2.2.2.2.1
theorem dX7_multiply_9 : decode cX7_multiply 9 = .ok (.if_icmp .ge 35, 3) := dTo1_3.1.2.2.2.2.2.2.1
theorem dX7_multiply_12 : decode cX7_multiply 12 = .ok (.lload_n 2, 1) := dTo1_3.1.2.2.2.2.2.2.2.1
theorem dX7_multiply_13 : decode cX7_multiply 13 = .ok (.aload_n 0, 1) := dTo1_3.1.2.2.2.2.2.2.2.2.1
theorem dX7_multiply_14 : decode cX7_multiply 14 = .ok (.iload 4, 2) := dTo1_3.1.2.2.2.2.2.2.2.2.2.1
theorem dX7_multiply_16 : decode cX7_multiply 16 = .ok (.iaload, 1) := dTo1_3.2.1.1
theorem dX7_multiply_17 : decode cX7_multiply 17 = .ok (.i2l, 1) := dTo1_3.2.1.2.1
theorem dX7_multiply_18 : decode cX7_multiply 18 = .ok (.ldc2_w 54, 3) := dTo1_3.2.1.2.2.1
theorem dX7_multiply_21 : decode cX7_multiply 21 = .ok (.land, 1) := dTo1_3.2.1.2.2.2.1
theorem dX7_multiply_22 : decode cX7_multiply 22 = .ok (.iload_n 1, 1) := dTo1_3.2.1.2.2.2.2.1
theorem dX7_multiply_23 : decode cX7_multiply 23 = .ok (.i2l, 1) := dTo1_3.2.1.2.2.2.2.2.1
theorem dX7_multiply_24 : decode cX7_multiply 24 = .ok (.lmul, 1) := dTo1_3.2.1.2.2.2.2.2.2.1
theorem dX7_multiply_25 : decode cX7_multiply 25 = .ok (.ladd, 1) := dTo1_3.2.1.2.2.2.2.2.2.2.1
theorem dX7_multiply_26 : decode cX7_multiply 26 = .ok (.lstore_n 2, 1) := dTo1_3.2.1.2.2.2.2.2.2.2.2.1
theorem dX7_multiply_27 : decode cX7_multiply 27 = .ok (.aload_n 0, 1) := dTo1_3.2.1.2.2.2.2.2.2.2.2.2.1
theorem dX7_multiply_28 : decode cX7_multiply 28 = .ok (.iload 4, 2) := dTo1_3.2.2.1.1
theorem dX7_multiply_30 : decode cX7_multiply 30 = .ok (.lload_n 2, 1) := dTo1_3.2.2.1.2.1
theorem dX7_multiply_31 : decode cX7_multiply 31 = .ok (.l2i, 1) := dTo1_3.2.2.1.2.2.1
theorem dX7_multiply_32 : decode cX7_multiply 32 = .ok (.iastore, 1) := dTo1_3.2.2.1.2.2.2.1
theorem dX7_multiply_33 : decode cX7_multiply 33 = .ok (.lload_n 2, 1) := dTo1_3.2.2.1.2.2.2.2.1
theorem dX7_multiply_34 : decode cX7_multiply 34 = .ok (.bipush 32, 2) := dTo1_3.2.2.1.2.2.2.2.2.1
theorem dX7_multiply_36 : decode cX7_multiply 36 = .ok (.lushr, 1) := dTo1_3.2.2.1.2.2.2.2.2.2.1
theorem dX7_multiply_37 : decode cX7_multiply 37 = .ok (.lstore_n 2, 1) := dTo1_3.2.2.1.2.2.2.2.2.2.2.1
theorem dX7_multiply_38 : decode cX7_multiply 38 = .ok (.iinc 4 1, 3) := dTo1_3.2.2.1.2.2.2.2.2.2.2.2.1
theorem dX7_multiply_41 : decode cX7_multiply 41 = .ok (.goto (-36), 3) := dTo1_3.2.2.1.2.2.2.2.2.2.2.2.2.1
theorem dX7_multiply_44 : decode cX7_multiply 44 = .ok (.return_, 1) := dTo1_3.2.2.2.1.1
theorem dTo1_4 : dQ cX7_isNothing [[(0, .aload_n 0, 1), (1, .astore_n 1, 1), (2, .aload_n 1, 1), (3, .arraylength, 1), (4, .istore_n 2, 1), (5, .iconst 0, 1), (6, .istore_n 3, 1), (7, .iload_n 3, 1), (8, .iload_n 2, 1), (9, .if_icmp .ge 21, 3)], [(12, .aload_n 1, 1), (13, .iload_n 3, 1), (14, .iaload, 1), (15, .istore 4, 2), (17, .iload 4, 2), (19, .ifCond .eq 5, 3), (22, .iconst 0, 1), (23, .ireturn, 1), (24, .iinc 3 1, 3), (27, .goto (-20), 3)], [(30, .iconst 1, 1), (31, .ireturn, 1)]] := dQ_of _ _ (by decide +kernel)
theorem dX7_isNothing_0 : decode cX7_isNothing 0 = .ok (.aload_n 0, 1) := dTo1_4.1.1
theorem dX7_isNothing_1 : decode cX7_isNothing 1 = .ok (.astore_n 1, 1) := dTo1_4.1.2.1
theorem dX7_isNothing_2 : decode cX7_isNothing 2 = .ok (.aload_n 1, 1) := dTo1_4.1.2.2.1
theorem dX7_isNothing_3 : decode cX7_isNothing 3 = .ok (.arraylength, 1) := dTo1_4.1.2.2.2.1
theorem dX7_isNothing_4 : decode cX7_isNothing 4 = .ok (.istore_n 2, 1) := dTo1_4.1.2.2.2.2.1
theorem dX7_isNothing_5 : decode cX7_isNothing 5 = .ok (.iconst 0, 1) := dTo1_4.1.2.2.2.2.2.1
theorem dX7_isNothing_6 : decode cX7_isNothing 6 = .ok (.istore_n 3, 1) := dTo1_4.1.2.2.2.2.2.2.1
theorem dX7_isNothing_7 : decode cX7_isNothing 7 = .ok (.iload_n 3, 1) := dTo1_4.1.2.2.2.2.2.2.2.1
theorem dX7_isNothing_8 : decode cX7_isNothing 8 = .ok (.iload_n 2, 1) := dTo1_4.1.2.2.2.2.2.2.2.2.1
theorem dX7_isNothing_9 : decode cX7_isNothing 9 = .ok (.if_icmp .ge 21, 3) := dTo1_4.1.2.2.2.2.2.2.2.2.2.1
theorem dX7_isNothing_12 : decode cX7_isNothing 12 = .ok (.aload_n 1, 1) := dTo1_4.2.1.1
theorem dX7_isNothing_13 : decode cX7_isNothing 13 = .ok (.iload_n 3, 1) := dTo1_4.2.1.2.1
theorem dX7_isNothing_14 : decode cX7_isNothing 14 = .ok (.iaload, 1) := dTo1_4.2.1.2.2.1
theorem dX7_isNothing_15 : decode cX7_isNothing 15 = .ok (.istore 4, 2) := dTo1_4.2.1.2.2.2.1
theorem dX7_isNothing_17 : decode cX7_isNothing 17 = .ok (.iload 4, 2) := dTo1_4.2.1.2.2.2.2.1
theorem dX7_isNothing_19 : decode cX7_isNothing 19 = .ok (.ifCond .eq 5, 3) := dTo1_4.2.1.2.2.2.2.2.1
theorem dX7_isNothing_22 : decode cX7_isNothing 22 = .ok (.iconst 0, 1) := dTo1_4.2.1.2.2.2.2.2.2.1
theorem dX7_isNothing_23 : decode cX7_isNothing 23 = .ok (.ireturn, 1) := dTo1_4.2.1.2.2.2.2.2.2.2.1
theorem dX7_isNothing_24 : decode cX7_isNothing 24 = .ok (.iinc 3 1, 3) := dTo1_4.2.1.2.2.2.2.2.2.2.2.1
theorem dX7_isNothing_27 : decode cX7_isNothing 27 = .ok (.goto (-20), 3) := dTo1_4.2.1.2.2.2.2.2.2.2.2.2.1
theorem dX7_isNothing_30 : decode cX7_isNothing 30 = .ok (.iconst 1, 1) := dTo1_4.2.2.1.1
theorem dX7_isNothing_31 : decode cX7_isNothing 31 = .ok (.ireturn, 1) := dTo1_4.2.2.1.2.1
theorem dTo1_5 : dQ cX7_times [[(0, .iconst 0, 1), (1, .istore_n 3, 1), (2, .iload_n 3, 1), (3, .bipush 22, 2), (5, .if_icmp .ge 16, 3), (8, .aload_n 0, 1), (9, .getfield 25, 3), (12, .iload_n 3, 1), (13, .iconst 0, 1), (14, .iastore, 1)], [(15, .iinc 3 1, 3), (18, .goto (-16), 3), (21, .iconst 0, 1), (22, .istore_n 3, 1), (23, .iload_n 3, 1), (24, .bipush 11, 2), (26, .if_icmp .ge 97, 3), (29, .lconst 0, 1), (30, .lstore 4, 2), (32, .iconst 0, 1)], [(33, .istore 6, 2), (35, .iload 6, 2), (37, .bipush 11, 2), (39, .if_icmp .ge 66, 3), (42, .lload 4, 2), (44, .aload_n 1, 1), (45, .iload_n 3, 1), (46, .iaload, 1), (47, .i2l, 1), (48, .ldc2_w 54, 3)], [(51, .land, 1), (52, .aload_n 2, 1), (53, .iload 6, 2), (55, .iaload, 1), (56, .i2l, 1), (57, .ldc2_w 54, 3), (60, .land, 1), (61, .lmul, 1), (62, .aload_n 0, 1), (63, .getfield 25, 3)], [(66, .iload_n 3, 1), (67, .iload 6, 2), (69, .iadd, 1), (70, .iaload, 1), (71, .i2l, 1), (72, .ldc2_w 54, 3), (75, .land, 1), (76, .ladd, 1), (77, .ladd, 1), (78, .lstore 4, 2)], [(80, .aload_n 0, 1), (81, .getfield 25, 3), (84, .iload_n 3, 1), (85, .iload 6, 2), (87, .iadd, 1), (88, .lload 4, 2), (90, .l2i, 1), (91, .iastore, 1), (92, .lload 4, 2), (94, .bipush 32, 2)]] := dQ_of _ _ (by decide +kernel)
theorem dX7_times_0 : decode cX7_times 0 = .ok (.iconst 0, 1) := dTo1_5.1.1
theorem dX7_times_1 : decode cX7_times 1 = .ok (.istore_n 3, 1) := dTo1_5.1.2.1
theorem dX7_times_2 : decode cX7_times 2 = .ok (.iload_n 3, 1) := dTo1_5.1.2.2.1
theorem dX7_times_3 : decode cX7_times 3 = .ok (.bipush 22, 2) := dTo1_5.1.2.2.2.1
theorem dX7_times_5 : decode cX7_times 5 = .ok (.if_icmp .ge 16, 3) := dTo1_5.1.2.2.2.2.1
theorem dX7_times_8 : decode cX7_times 8 = .ok (.aload_n 0, 1) := dTo1_5.1.2.2.2.2.2.1
theorem dX7_times_9 : decode cX7_times 9 = .ok (.getfield 25, 3) := dTo1_5.1.2.2.2.2.2.2.1
theorem dX7_times_12 : decode cX7_times 12 = .ok (.iload_n 3, 1) := dTo1_5.1.2.2.2.2.2.2.2.1
theorem dX7_times_13 : decode cX7_times 13 = .ok (.iconst 0, 1) := dTo1_5.1.2.2.2.2.2.2.2.2.1
theorem dX7_times_14 : decode cX7_times 14 = .ok (.iastore, 1) := dTo1_5.1.2.2.2.2.2.2.2.2.2.1
theorem dX7_times_15 : decode cX7_times 15 = .ok (.iinc 3 1, 3) := dTo1_5.2.1.1
theorem dX7_times_18 : decode cX7_times 18 = .ok (.goto (-16), 3) := dTo1_5.2.1.2.1
theorem dX7_times_21 : decode cX7_times 21 = .ok (.iconst 0, 1) := dTo1_5.2.1.2.2.1
theorem dX7_times_22 : decode cX7_times 22 = .ok (.istore_n 3, 1) := dTo1_5.2.1.2.2.2.1
theorem dX7_times_23 : decode cX7_times 23 = .ok (.iload_n 3, 1) := dTo1_5.2.1.2.2.2.2.1
theorem dX7_times_24 : decode cX7_times 24 = .ok (.bipush 11, 2) := dTo1_5.2.1.2.2.2.2.2.1
theorem dX7_times_26 : decode cX7_times 26 = .ok (.if_icmp .ge 97, 3) := dTo1_5.2.1.2.2.2.2.2.2.1
theorem dX7_times_29 : decode cX7_times 29 = .ok (.lconst 0, 1) := dTo1_5.2.1.2.2.2.2.2.2.2.1
theorem dX7_times_30 : decode cX7_times 30 = .ok (.lstore 4, 2) := dTo1_5.2.1.2.2.2.2.2.2.2.2.1
theorem dX7_times_32 : decode cX7_times 32 = .ok (.iconst 0, 1) := dTo1_5.2.1.2.2.2.2.2.2.2.2.2.1
theorem dX7_times_33 : decode cX7_times 33 = .ok (.istore 6, 2) := dTo1_5.2.2.1.1
theorem dX7_times_35 : decode cX7_times 35 = .ok (.iload 6, 2) := dTo1_5.2.2.1.2.1
theorem dX7_times_37 : decode cX7_times 37 = .ok (.bipush 11, 2) := dTo1_5.2.2.1.2.2.1
theorem dX7_times_39 : decode cX7_times 39 = .ok (.if_icmp .ge 66, 3) := dTo1_5.2.2.1.2.2.2.1
theorem dX7_times_42 : decode cX7_times 42 = .ok (.lload 4, 2) := dTo1_5.2.2.1.2.2.2.2.1
theorem dX7_times_44 : decode cX7_times 44 = .ok (.aload_n 1, 1) := dTo1_5.2.2.1.2.2.2.2.2.1
theorem dX7_times_45 : decode cX7_times 45 = .ok (.iload_n 3, 1) := dTo1_5.2.2.1.2.2.2.2.2.2.1
theorem dX7_times_46 : decode cX7_times 46 = .ok (.iaload, 1) := dTo1_5.2.2.1.2.2.2.2.2.2.2.1
theorem dX7_times_47 : decode cX7_times 47 = .ok (.i2l, 1) := dTo1_5.2.2.1.2.2.2.2.2.2.2.2.1
theorem dX7_times_48 : decode cX7_times 48 = .ok (.ldc2_w 54, 3) := dTo1_5.2.2.1.2.2.2.2.2.2.2.2.2.1
theorem dX7_times_51 : decode cX7_times 51 = .ok (.land, 1) := dTo1_5.2.2.2.1.1
theorem dX7_times_52 : decode cX7_times 52 = .ok (.aload_n 2, 1) := dTo1_5.2.2.2.1.2.1
theorem dX7_times_53 : decode cX7_times 53 = .ok (.iload 6, 2) := dTo1_5.2.2.2.1.2.2.1
theorem dX7_times_55 : decode cX7_times 55 = .ok (.iaload, 1) := dTo1_5.2.2.2.1.2.2.2.1
theorem dX7_times_56 : decode cX7_times 56 = .ok (.i2l, 1) := dTo1_5.2.2.2.1.2.2.2.2.1
theorem dX7_times_57 : decode cX7_times 57 = .ok (.ldc2_w 54, 3) := dTo1_5.2.2.2.1.2.2.2.2.2.1
theorem dX7_times_60 : decode cX7_times 60 = .ok (.land, 1) := dTo1_5.2.2.2.1.2.2.2.2.2.2.1
theorem dX7_times_61 : decode cX7_times 61 = .ok (.lmul, 1) := dTo1_5.2.2.2.1.2.2.2.2.2.2.2.1
theorem dX7_times_62 : decode cX7_times 62 = .ok (.aload_n 0, 1) := dTo1_5.2.2.2.1.2.2.2.2.2.2.2.2.1
theorem dX7_times_63 : decode cX7_times 63 = .ok (.getfield 25, 3) := dTo1_5.2.2.2.1.2.2.2.2.2.2.2.2.2.1
theorem dX7_times_66 : decode cX7_times 66 = .ok (.iload_n 3, 1) := dTo1_5.2.2.2.2.1.1
theorem dX7_times_67 : decode cX7_times 67 = .ok (.iload 6, 2) := dTo1_5.2.2.2.2.1.2.1
theorem dX7_times_69 : decode cX7_times 69 = .ok (.iadd, 1) := dTo1_5.2.2.2.2.1.2.2.1
theorem dX7_times_70 : decode cX7_times 70 = .ok (.iaload, 1) := dTo1_5.2.2.2.2.1.2.2.2.1
theorem dX7_times_71 : decode cX7_times 71 = .ok (.i2l, 1) := dTo1_5.2.2.2.2.1.2.2.2.2.1
theorem dX7_times_72 : decode cX7_times 72 = .ok (.ldc2_w 54, 3) := dTo1_5.2.2.2.2.1.2.2.2.2.2.1
theorem dX7_times_75 : decode cX7_times 75 = .ok (.land, 1) := dTo1_5.2.2.2.2.1.2.2.2.2.2.2.1
theorem dX7_times_76 : decode cX7_times 76 = .ok (.ladd, 1) := dTo1_5.2.2.2.2.1.2.2.2.2.2.2.2.1
theorem dX7_times_77 : decode cX7_times 77 = .ok (.ladd, 1) := dTo1_5.2.2.2.2.1.2.2.2.2.2.2.2.2.1
theorem dX7_times_78 : decode cX7_times 78 = .ok (.lstore 4, 2) := dTo1_5.2.2.2.2.1.2.2.2.2.2.2.2.2.2.1
theorem dX7_times_80 : decode cX7_times 80 = .ok (.aload_n 0, 1) := dTo1_5.2.2.2.2.2.1.1
theorem dX7_times_81 : decode cX7_times 81 = .ok (.getfield 25, 3) := dTo1_5.2.2.2.2.2.1.2.1
theorem dX7_times_84 : decode cX7_times 84 = .ok (.iload_n 3, 1) := dTo1_5.2.2.2.2.2.1.2.2.1
theorem dX7_times_85 : decode cX7_times 85 = .ok (.iload 6, 2) := dTo1_5.2.2.2.2.2.1.2.2.2.1
theorem dX7_times_87 : decode cX7_times 87 = .ok (.iadd, 1) := dTo1_5.2.2.2.2.2.1.2.2.2.2.1
theorem dX7_times_88 : decode cX7_times 88 = .ok (.lload 4, 2) := dTo1_5.2.2.2.2.2.1.2.2.2.2.2.1
theorem dX7_times_90 : decode cX7_times 90 = .ok (.l2i, 1) := dTo1_5.2.2.2.2.2.1.2.2.2.2.2.2.1
theorem dX7_times_91 : decode cX7_times 91 = .ok (.iastore, 1) := dTo1_5.2.2.2.2.2.1.2.2.2.2.2.2.2.1
theorem dX7_times_92 : decode cX7_times 92 = .ok (.lload 4, 2) := dTo1_5.2.2.2.2.2.1.2.2.2.2.2.2.2.2.1
theorem dX7_times_94 : decode cX7_times 94 = .ok (.bipush 32, 2) := dTo1_5.2.2.2.2.2.1.2.2.2.2.2.2.2.2.2.1
theorem dTo1_6 : dQ cX7_times [[(96, .lushr, 1), (97, .lstore 4, 2), (99, .iinc 6 1, 3), (102, .goto (-67), 3), (105, .aload_n 0, 1), (106, .getfield 25, 3), (109, .iload_n 3, 1), (110, .bipush 11, 2), (112, .iadd, 1), (113, .lload 4, 2)], [(115, .l2i, 1), (116, .iastore, 1), (117, .iinc 3 1, 3), (120, .goto (-97), 3), (123, .bipush 11, 2), (125, .newarray .int, 2), (127, .astore_n 3, 1), (128, .iconst 0, 1), (129, .istore 4, 2), (131, .iload 4, 2)], [(133, .bipush 11, 2), (135, .if_icmp .ge 23, 3), (138, .aload_n 3, 1), (139, .iload 4, 2), (141, .aload_n 0, 1), (142, .getfield 25, 3), (145, .iload 4, 2), (147, .bipush 8, 2), (149, .iadd, 1), (150, .iaload, 1)], [(151, .iastore, 1), (152, .iinc 4 1, 3), (155, .goto (-24), 3), (158, .aload_n 3, 1), (159, .areturn, 1)]] := dQ_of _ _ (by decide +kernel)
theorem dX7_times_96 : decode cX7_times 96 = .ok (.lushr, 1) := dTo1_6.1.1
theorem dX7_times_97 : decode cX7_times 97 = .ok (.lstore 4, 2) := dTo1_6.1.2.1
theorem dX7_times_99 : decode cX7_times 99 = .ok (.iinc 6 1, 3) := dTo1_6.1.2.2.1
theorem dX7_times_102 : decode cX7_times 102 = .ok (.goto (-67), 3) := dTo1_6.1.2.2.2.1
theorem dX7_times_105 : decode cX7_times 105 = .ok (.aload_n 0, 1) := dTo1_6.1.2.2.2.2.1
theorem dX7_times_106 : decode cX7_times 106 = .ok (.getfield 25, 3) := dTo1_6.1.2.2.2.2.2.1
theorem dX7_times_109 : decode cX7_times 109 = .ok (.iload_n 3, 1) := dTo1_6.1.2.2.2.2.2.2.1
theorem dX7_times_110 : decode cX7_times 110 = .ok (.bipush 11, 2) := dTo1_6.1.2.2.2.2.2.2.2.1
theorem dX7_times_112 : decode cX7_times 112 = .ok (.iadd, 1) := dTo1_6.1.2.2.2.2.2.2.2.2.1
theorem dX7_times_113 : decode cX7_times 113 = .ok (.lload 4, 2) := dTo1_6.1.2.2.2.2.2.2.2.2.2.1
theorem dX7_times_115 : decode cX7_times 115 = .ok (.l2i, 1) := dTo1_6.2.1.1
theorem dX7_times_116 : decode cX7_times 116 = .ok (.iastore, 1) := dTo1_6.2.1.2.1
theorem dX7_times_117 : decode cX7_times 117 = .ok (.iinc 3 1, 3) := dTo1_6.2.1.2.2.1
theorem dX7_times_120 : decode cX7_times 120 = .ok (.goto (-97), 3) := dTo1_6.2.1.2.2.2.1
theorem dX7_times_123 : decode cX7_times 123 = .ok (.bipush 11, 2) := dTo1_6.2.1.2.2.2.2.1
theorem dX7_times_125 : decode cX7_times 125 = .ok (.newarray .int, 2) := dTo1_6.2.1.2.2.2.2.2.1
theorem dX7_times_127 : decode cX7_times 127 = .ok (.astore_n 3, 1) := dTo1_6.2.1.2.2.2.2.2.2.1
theorem dX7_times_128 : decode cX7_times 128 = .ok (.iconst 0, 1) := dTo1_6.2.1.2.2.2.2.2.2.2.1
theorem dX7_times_129 : decode cX7_times 129 = .ok (.istore 4, 2) := dTo1_6.2.1.2.2.2.2.2.2.2.2.1
theorem dX7_times_131 : decode cX7_times 131 = .ok (.iload 4, 2) := dTo1_6.2.1.2.2.2.2.2.2.2.2.2.1
theorem dX7_times_133 : decode cX7_times 133 = .ok (.bipush 11, 2) := dTo1_6.2.2.1.1
theorem dX7_times_135 : decode cX7_times 135 = .ok (.if_icmp .ge 23, 3) := dTo1_6.2.2.1.2.1
theorem dX7_times_138 : decode cX7_times 138 = .ok (.aload_n 3, 1) := dTo1_6.2.2.1.2.2.1
theorem dX7_times_139 : decode cX7_times 139 = .ok (.iload 4, 2) := dTo1_6.2.2.1.2.2.2.1
theorem dX7_times_141 : decode cX7_times 141 = .ok (.aload_n 0, 1) := dTo1_6.2.2.1.2.2.2.2.1
theorem dX7_times_142 : decode cX7_times 142 = .ok (.getfield 25, 3) := dTo1_6.2.2.1.2.2.2.2.2.1
theorem dX7_times_145 : decode cX7_times 145 = .ok (.iload 4, 2) := dTo1_6.2.2.1.2.2.2.2.2.2.1
theorem dX7_times_147 : decode cX7_times 147 = .ok (.bipush 8, 2) := dTo1_6.2.2.1.2.2.2.2.2.2.2.1
theorem dX7_times_149 : decode cX7_times 149 = .ok (.iadd, 1) := dTo1_6.2.2.1.2.2.2.2.2.2.2.2.1
theorem dX7_times_150 : decode cX7_times 150 = .ok (.iaload, 1) := dTo1_6.2.2.1.2.2.2.2.2.2.2.2.2.1
theorem dX7_times_151 : decode cX7_times 151 = .ok (.iastore, 1) := dTo1_6.2.2.2.1.1
theorem dX7_times_152 : decode cX7_times 152 = .ok (.iinc 4 1, 3) := dTo1_6.2.2.2.1.2.1
theorem dX7_times_155 : decode cX7_times 155 = .ok (.goto (-24), 3) := dTo1_6.2.2.2.1.2.2.1
theorem dX7_times_158 : decode cX7_times 158 = .ok (.aload_n 3, 1) := dTo1_6.2.2.2.1.2.2.2.1
theorem dX7_times_159 : decode cX7_times 159 = .ok (.areturn, 1) := dTo1_6.2.2.2.1.2.2.2.2.1
theorem dTo1_7 : dQ cX7_root [[(0, .iconst 4, 1), (1, .invokestatic 38, 3), (4, .astore_n 1, 1), (5, .iconst 4, 1), (6, .invokestatic 38, 3), (9, .astore_n 2, 1), (10, .iconst 1, 1), (11, .istore_n 3, 1), (12, .aload_n 2, 1), (13, .invokestatic 60, 3)], [(16, .ifCond .ne 38, 3), (19, .aload_n 2, 1), (20, .iconst 4, 1), (21, .iload_n 3, 1), (22, .imul, 1), (23, .aload_n 2, 1), (24, .invokestatic 64, 3), (27, .aload_n 1, 1), (28, .aload_n 2, 1), (29, .iload_n 0, 1)], [(30, .ifCond .eq 14, 3), (33, .iload_n 3, 1), (34, .iconst 2, 1), (35, .irem, 1), (36, .iconst 1, 1), (37, .if_icmp .ne 7, 3), (40, .iconst 1, 1), (41, .goto 4, 3), (44, .iconst 0, 1), (45, .invokestatic 56, 3)], [(48, .iinc 3 1, 3), (51, .goto (-39), 3), (54, .aload_n 1, 1), (55, .areturn, 1)]] := dQ_of _ _ (by decide +kernel)
theorem dX7_root_0 : decode cX7_root 0 = .ok (.iconst 4, 1) := dTo1_7.1.1
theorem dX7_root_1 : decode cX7_root 1 = .ok (.invokestatic 38, 3) := dTo1_7.1.2.1
theorem dX7_root_4 : decode cX7_root 4 = .ok (.astore_n 1, 1) := dTo1_7.1.2.2.1
theorem dX7_root_5 : decode cX7_root 5 = .ok (.iconst 4, 1) := dTo1_7.1.2.2.2.1
theorem dX7_root_6 : decode cX7_root 6 = .ok (.invokestatic 38, 3) := dTo1_7.1.2.2.2.2.1
theorem dX7_root_9 : decode cX7_root 9 = .ok (.astore_n 2, 1) := dTo1_7.1.2.2.2.2.2.1
theorem dX7_root_10 : decode cX7_root 10 = .ok (.iconst 1, 1) := dTo1_7.1.2.2.2.2.2.2.1
theorem dX7_root_11 : decode cX7_root 11 = .ok (.istore_n 3, 1) := dTo1_7.1.2.2.2.2.2.2.2.1
theorem dX7_root_12 : decode cX7_root 12 = .ok (.aload_n 2, 1) := dTo1_7.1.2.2.2.2.2.2.2.2.1
theorem dX7_root_13 : decode cX7_root 13 = .ok (.invokestatic 60, 3) := dTo1_7.1.2.2.2.2.2.2.2.2.2.1
theorem dX7_root_16 : decode cX7_root 16 = .ok (.ifCond .ne 38, 3) := dTo1_7.2.1.1
theorem dX7_root_19 : decode cX7_root 19 = .ok (.aload_n 2, 1) := dTo1_7.2.1.2.1
theorem dX7_root_20 : decode cX7_root 20 = .ok (.iconst 4, 1) := dTo1_7.2.1.2.2.1
theorem dX7_root_21 : decode cX7_root 21 = .ok (.iload_n 3, 1) := dTo1_7.2.1.2.2.2.1
theorem dX7_root_22 : decode cX7_root 22 = .ok (.imul, 1) := dTo1_7.2.1.2.2.2.2.1
theorem dX7_root_23 : decode cX7_root 23 = .ok (.aload_n 2, 1) := dTo1_7.2.1.2.2.2.2.2.1
theorem dX7_root_24 : decode cX7_root 24 = .ok (.invokestatic 64, 3) := dTo1_7.2.1.2.2.2.2.2.2.1
theorem dX7_root_27 : decode cX7_root 27 = .ok (.aload_n 1, 1) := dTo1_7.2.1.2.2.2.2.2.2.2.1
theorem dX7_root_28 : decode cX7_root 28 = .ok (.aload_n 2, 1) := dTo1_7.2.1.2.2.2.2.2.2.2.2.1
theorem dX7_root_29 : decode cX7_root 29 = .ok (.iload_n 0, 1) := dTo1_7.2.1.2.2.2.2.2.2.2.2.2.1
theorem dX7_root_30 : decode cX7_root 30 = .ok (.ifCond .eq 14, 3) := dTo1_7.2.2.1.1
theorem dX7_root_33 : decode cX7_root 33 = .ok (.iload_n 3, 1) := dTo1_7.2.2.1.2.1
theorem dX7_root_34 : decode cX7_root 34 = .ok (.iconst 2, 1) := dTo1_7.2.2.1.2.2.1
theorem dX7_root_35 : decode cX7_root 35 = .ok (.irem, 1) := dTo1_7.2.2.1.2.2.2.1
theorem dX7_root_36 : decode cX7_root 36 = .ok (.iconst 1, 1) := dTo1_7.2.2.1.2.2.2.2.1
theorem dX7_root_37 : decode cX7_root 37 = .ok (.if_icmp .ne 7, 3) := dTo1_7.2.2.1.2.2.2.2.2.1
theorem dX7_root_40 : decode cX7_root 40 = .ok (.iconst 1, 1) := dTo1_7.2.2.1.2.2.2.2.2.2.1
theorem dX7_root_41 : decode cX7_root 41 = .ok (.goto 4, 3) := dTo1_7.2.2.1.2.2.2.2.2.2.2.1
theorem dX7_root_44 : decode cX7_root 44 = .ok (.iconst 0, 1) := dTo1_7.2.2.1.2.2.2.2.2.2.2.2.1
theorem dX7_root_45 : decode cX7_root 45 = .ok (.invokestatic 56, 3) := dTo1_7.2.2.1.2.2.2.2.2.2.2.2.2.1
theorem dX7_root_48 : decode cX7_root 48 = .ok (.iinc 3 1, 3) := dTo1_7.2.2.2.1.1
theorem dX7_root_51 : decode cX7_root 51 = .ok (.goto (-39), 3) := dTo1_7.2.2.2.1.2.1
theorem dX7_root_54 : decode cX7_root 54 = .ok (.aload_n 1, 1) := dTo1_7.2.2.2.1.2.2.1
theorem dX7_root_55 : decode cX7_root 55 = .ok (.areturn, 1) := dTo1_7.2.2.2.1.2.2.2.1
theorem dTo1_8 : dQ cX7_ratioLog [[(0, .iload_n 0, 1), (1, .invokestatic 68, 3), (4, .istore_n 2, 1), (5, .iconst 4, 1), (6, .iload_n 2, 1), (7, .imul, 1), (8, .invokestatic 38, 3), (11, .astore_n 3, 1), (12, .bipush 11, 2), (14, .newarray .int, 2)], [(16, .astore 4, 2), (18, .bipush 11, 2), (20, .newarray .int, 2), (22, .astore 5, 2), (24, .aload_n 3, 1), (25, .iload_n 1, 1), (26, .aload_n 3, 1), (27, .invokestatic 64, 3), (30, .iconst 1, 1), (31, .istore 6, 2)], [(33, .aload_n 3, 1), (34, .invokestatic 60, 3), (37, .ifCond .ne 48, 3), (40, .aload_n 3, 1), (41, .iload 6, 2), (43, .aload 4, 2), (45, .invokestatic 64, 3), (48, .aload 5, 2), (50, .aload 4, 2), (52, .iload_n 0, 1)], [(53, .ifCond .ge 7, 3), (56, .iconst 1, 1), (57, .goto 4, 3), (60, .iconst 0, 1), (61, .invokestatic 56, 3), (64, .aload_n 3, 1), (65, .iload_n 2, 1), (66, .iload_n 2, 1), (67, .imul, 1), (68, .invokestatic 74, 3)], [(71, .aload_n 3, 1), (72, .iload_n 1, 1), (73, .iload_n 1, 1), (74, .imul, 1), (75, .aload_n 3, 1), (76, .invokestatic 64, 3), (79, .iinc 6 2, 3), (82, .goto (-49), 3), (85, .aload 5, 2), (87, .aload 5, 2)], [(89, .iconst 0, 1), (90, .invokestatic 56, 3), (93, .aload 5, 2), (95, .areturn, 1)]] := dQ_of _ _ (by decide +kernel)
theorem dX7_ratioLog_0 : decode cX7_ratioLog 0 = .ok (.iload_n 0, 1) := dTo1_8.1.1
theorem dX7_ratioLog_1 : decode cX7_ratioLog 1 = .ok (.invokestatic 68, 3) := dTo1_8.1.2.1
theorem dX7_ratioLog_4 : decode cX7_ratioLog 4 = .ok (.istore_n 2, 1) := dTo1_8.1.2.2.1
theorem dX7_ratioLog_5 : decode cX7_ratioLog 5 = .ok (.iconst 4, 1) := dTo1_8.1.2.2.2.1
theorem dX7_ratioLog_6 : decode cX7_ratioLog 6 = .ok (.iload_n 2, 1) := dTo1_8.1.2.2.2.2.1
theorem dX7_ratioLog_7 : decode cX7_ratioLog 7 = .ok (.imul, 1) := dTo1_8.1.2.2.2.2.2.1
theorem dX7_ratioLog_8 : decode cX7_ratioLog 8 = .ok (.invokestatic 38, 3) := dTo1_8.1.2.2.2.2.2.2.1
theorem dX7_ratioLog_11 : decode cX7_ratioLog 11 = .ok (.astore_n 3, 1) := dTo1_8.1.2.2.2.2.2.2.2.1
theorem dX7_ratioLog_12 : decode cX7_ratioLog 12 = .ok (.bipush 11, 2) := dTo1_8.1.2.2.2.2.2.2.2.2.1
theorem dX7_ratioLog_14 : decode cX7_ratioLog 14 = .ok (.newarray .int, 2) := dTo1_8.1.2.2.2.2.2.2.2.2.2.1
theorem dX7_ratioLog_16 : decode cX7_ratioLog 16 = .ok (.astore 4, 2) := dTo1_8.2.1.1
theorem dX7_ratioLog_18 : decode cX7_ratioLog 18 = .ok (.bipush 11, 2) := dTo1_8.2.1.2.1
theorem dX7_ratioLog_20 : decode cX7_ratioLog 20 = .ok (.newarray .int, 2) := dTo1_8.2.1.2.2.1
theorem dX7_ratioLog_22 : decode cX7_ratioLog 22 = .ok (.astore 5, 2) := dTo1_8.2.1.2.2.2.1
theorem dX7_ratioLog_24 : decode cX7_ratioLog 24 = .ok (.aload_n 3, 1) := dTo1_8.2.1.2.2.2.2.1
theorem dX7_ratioLog_25 : decode cX7_ratioLog 25 = .ok (.iload_n 1, 1) := dTo1_8.2.1.2.2.2.2.2.1
theorem dX7_ratioLog_26 : decode cX7_ratioLog 26 = .ok (.aload_n 3, 1) := dTo1_8.2.1.2.2.2.2.2.2.1
theorem dX7_ratioLog_27 : decode cX7_ratioLog 27 = .ok (.invokestatic 64, 3) := dTo1_8.2.1.2.2.2.2.2.2.2.1
theorem dX7_ratioLog_30 : decode cX7_ratioLog 30 = .ok (.iconst 1, 1) := dTo1_8.2.1.2.2.2.2.2.2.2.2.1
theorem dX7_ratioLog_31 : decode cX7_ratioLog 31 = .ok (.istore 6, 2) := dTo1_8.2.1.2.2.2.2.2.2.2.2.2.1
theorem dX7_ratioLog_33 : decode cX7_ratioLog 33 = .ok (.aload_n 3, 1) := dTo1_8.2.2.1.1
theorem dX7_ratioLog_34 : decode cX7_ratioLog 34 = .ok (.invokestatic 60, 3) := dTo1_8.2.2.1.2.1
theorem dX7_ratioLog_37 : decode cX7_ratioLog 37 = .ok (.ifCond .ne 48, 3) := dTo1_8.2.2.1.2.2.1
theorem dX7_ratioLog_40 : decode cX7_ratioLog 40 = .ok (.aload_n 3, 1) := dTo1_8.2.2.1.2.2.2.1
theorem dX7_ratioLog_41 : decode cX7_ratioLog 41 = .ok (.iload 6, 2) := dTo1_8.2.2.1.2.2.2.2.1
theorem dX7_ratioLog_43 : decode cX7_ratioLog 43 = .ok (.aload 4, 2) := dTo1_8.2.2.1.2.2.2.2.2.1
theorem dX7_ratioLog_45 : decode cX7_ratioLog 45 = .ok (.invokestatic 64, 3) := dTo1_8.2.2.1.2.2.2.2.2.2.1
theorem dX7_ratioLog_48 : decode cX7_ratioLog 48 = .ok (.aload 5, 2) := dTo1_8.2.2.1.2.2.2.2.2.2.2.1
theorem dX7_ratioLog_50 : decode cX7_ratioLog 50 = .ok (.aload 4, 2) := dTo1_8.2.2.1.2.2.2.2.2.2.2.2.1
theorem dX7_ratioLog_52 : decode cX7_ratioLog 52 = .ok (.iload_n 0, 1) := dTo1_8.2.2.1.2.2.2.2.2.2.2.2.2.1
theorem dX7_ratioLog_53 : decode cX7_ratioLog 53 = .ok (.ifCond .ge 7, 3) := dTo1_8.2.2.2.1.1
theorem dX7_ratioLog_56 : decode cX7_ratioLog 56 = .ok (.iconst 1, 1) := dTo1_8.2.2.2.1.2.1
theorem dX7_ratioLog_57 : decode cX7_ratioLog 57 = .ok (.goto 4, 3) := dTo1_8.2.2.2.1.2.2.1
theorem dX7_ratioLog_60 : decode cX7_ratioLog 60 = .ok (.iconst 0, 1) := dTo1_8.2.2.2.1.2.2.2.1
theorem dX7_ratioLog_61 : decode cX7_ratioLog 61 = .ok (.invokestatic 56, 3) := dTo1_8.2.2.2.1.2.2.2.2.1
theorem dX7_ratioLog_64 : decode cX7_ratioLog 64 = .ok (.aload_n 3, 1) := dTo1_8.2.2.2.1.2.2.2.2.2.1
theorem dX7_ratioLog_65 : decode cX7_ratioLog 65 = .ok (.iload_n 2, 1) := dTo1_8.2.2.2.1.2.2.2.2.2.2.1
theorem dX7_ratioLog_66 : decode cX7_ratioLog 66 = .ok (.iload_n 2, 1) := dTo1_8.2.2.2.1.2.2.2.2.2.2.2.1
theorem dX7_ratioLog_67 : decode cX7_ratioLog 67 = .ok (.imul, 1) := dTo1_8.2.2.2.1.2.2.2.2.2.2.2.2.1
theorem dX7_ratioLog_68 : decode cX7_ratioLog 68 = .ok (.invokestatic 74, 3) := dTo1_8.2.2.2.1.2.2.2.2.2.2.2.2.2.1
theorem dX7_ratioLog_71 : decode cX7_ratioLog 71 = .ok (.aload_n 3, 1) := dTo1_8.2.2.2.2.1.1
theorem dX7_ratioLog_72 : decode cX7_ratioLog 72 = .ok (.iload_n 1, 1) := dTo1_8.2.2.2.2.1.2.1
theorem dX7_ratioLog_73 : decode cX7_ratioLog 73 = .ok (.iload_n 1, 1) := dTo1_8.2.2.2.2.1.2.2.1
theorem dX7_ratioLog_74 : decode cX7_ratioLog 74 = .ok (.imul, 1) := dTo1_8.2.2.2.2.1.2.2.2.1
theorem dX7_ratioLog_75 : decode cX7_ratioLog 75 = .ok (.aload_n 3, 1) := dTo1_8.2.2.2.2.1.2.2.2.2.1
theorem dX7_ratioLog_76 : decode cX7_ratioLog 76 = .ok (.invokestatic 64, 3) := dTo1_8.2.2.2.2.1.2.2.2.2.2.1
theorem dX7_ratioLog_79 : decode cX7_ratioLog 79 = .ok (.iinc 6 2, 3) := dTo1_8.2.2.2.2.1.2.2.2.2.2.2.1
theorem dX7_ratioLog_82 : decode cX7_ratioLog 82 = .ok (.goto (-49), 3) := dTo1_8.2.2.2.2.1.2.2.2.2.2.2.2.1
theorem dX7_ratioLog_85 : decode cX7_ratioLog 85 = .ok (.aload 5, 2) := dTo1_8.2.2.2.2.1.2.2.2.2.2.2.2.2.1
theorem dX7_ratioLog_87 : decode cX7_ratioLog 87 = .ok (.aload 5, 2) := dTo1_8.2.2.2.2.1.2.2.2.2.2.2.2.2.2.1
theorem dX7_ratioLog_89 : decode cX7_ratioLog 89 = .ok (.iconst 0, 1) := dTo1_8.2.2.2.2.2.1.1
theorem dX7_ratioLog_90 : decode cX7_ratioLog 90 = .ok (.invokestatic 56, 3) := dTo1_8.2.2.2.2.2.1.2.1
theorem dX7_ratioLog_93 : decode cX7_ratioLog 93 = .ok (.aload 5, 2) := dTo1_8.2.2.2.2.2.1.2.2.1
theorem dX7_ratioLog_95 : decode cX7_ratioLog 95 = .ok (.areturn, 1) := dTo1_8.2.2.2.2.2.1.2.2.2.1
theorem dTo1_9 : dQ cX7_logOf [[(0, .aload_n 0, 1), (1, .getfield 15, 3), (4, .iload_n 1, 1), (5, .iconst 3, 1), (6, .iadd, 1), (7, .aaload, 1), (8, .ifnonnull 92, 3), (11, .iconst 4, 1), (12, .iload_n 1, 1), (13, .iadd, 1)], [(14, .istore_n 2, 1), (15, .iconst 0, 1), (16, .istore_n 3, 1), (17, .iconst 3, 1), (18, .iload_n 2, 1), (19, .imul, 1), (20, .iconst 4, 1), (21, .iload_n 3, 1), (22, .ishl, 1), (23, .if_icmp .le 9, 3)], [(26, .iinc 3 1, 3), (29, .goto (-12), 3), (32, .iconst 1, 1), (33, .iload_n 3, 1), (34, .ishl, 1), (35, .istore 4, 2), (37, .aload_n 0, 1), (38, .getfield 15, 3), (41, .iload_n 1, 1), (42, .iconst 3, 1)], [(43, .iadd, 1), (44, .iload_n 2, 1), (45, .iload 4, 2), (47, .isub, 1), (48, .iload_n 2, 1), (49, .iload 4, 2), (51, .iadd, 1), (52, .invokestatic 18, 3), (55, .aastore, 1), (56, .iload_n 3, 1)], [(57, .iconst 2, 1), (58, .isub, 1), (59, .invokestatic 68, 3), (62, .istore 5, 2), (64, .iload 5, 2), (66, .ifCond .le 34, 3), (69, .aload_n 0, 1), (70, .getfield 15, 3), (73, .iload_n 1, 1), (74, .iconst 3, 1)], [(75, .iadd, 1), (76, .aaload, 1), (77, .aload_n 0, 1), (78, .getfield 22, 3), (81, .iload_n 3, 1), (82, .iconst 2, 1), (83, .if_icmp .ge 7, 3), (86, .iconst 1, 1), (87, .goto 4, 3), (90, .iconst 0, 1)]] := dQ_of _ _ (by decide +kernel)
theorem dX7_logOf_0 : decode cX7_logOf 0 = .ok (.aload_n 0, 1) := dTo1_9.1.1
theorem dX7_logOf_1 : decode cX7_logOf 1 = .ok (.getfield 15, 3) := dTo1_9.1.2.1
theorem dX7_logOf_4 : decode cX7_logOf 4 = .ok (.iload_n 1, 1) := dTo1_9.1.2.2.1
theorem dX7_logOf_5 : decode cX7_logOf 5 = .ok (.iconst 3, 1) := dTo1_9.1.2.2.2.1
theorem dX7_logOf_6 : decode cX7_logOf 6 = .ok (.iadd, 1) := dTo1_9.1.2.2.2.2.1
theorem dX7_logOf_7 : decode cX7_logOf 7 = .ok (.aaload, 1) := dTo1_9.1.2.2.2.2.2.1
theorem dX7_logOf_8 : decode cX7_logOf 8 = .ok (.ifnonnull 92, 3) := dTo1_9.1.2.2.2.2.2.2.1
theorem dX7_logOf_11 : decode cX7_logOf 11 = .ok (.iconst 4, 1) := dTo1_9.1.2.2.2.2.2.2.2.1
theorem dX7_logOf_12 : decode cX7_logOf 12 = .ok (.iload_n 1, 1) := dTo1_9.1.2.2.2.2.2.2.2.2.1
theorem dX7_logOf_13 : decode cX7_logOf 13 = .ok (.iadd, 1) := dTo1_9.1.2.2.2.2.2.2.2.2.2.1
theorem dX7_logOf_14 : decode cX7_logOf 14 = .ok (.istore_n 2, 1) := dTo1_9.2.1.1
theorem dX7_logOf_15 : decode cX7_logOf 15 = .ok (.iconst 0, 1) := dTo1_9.2.1.2.1
theorem dX7_logOf_16 : decode cX7_logOf 16 = .ok (.istore_n 3, 1) := dTo1_9.2.1.2.2.1
theorem dX7_logOf_17 : decode cX7_logOf 17 = .ok (.iconst 3, 1) := dTo1_9.2.1.2.2.2.1
theorem dX7_logOf_18 : decode cX7_logOf 18 = .ok (.iload_n 2, 1) := dTo1_9.2.1.2.2.2.2.1
theorem dX7_logOf_19 : decode cX7_logOf 19 = .ok (.imul, 1) := dTo1_9.2.1.2.2.2.2.2.1
theorem dX7_logOf_20 : decode cX7_logOf 20 = .ok (.iconst 4, 1) := dTo1_9.2.1.2.2.2.2.2.2.1
theorem dX7_logOf_21 : decode cX7_logOf 21 = .ok (.iload_n 3, 1) := dTo1_9.2.1.2.2.2.2.2.2.2.1
theorem dX7_logOf_22 : decode cX7_logOf 22 = .ok (.ishl, 1) := dTo1_9.2.1.2.2.2.2.2.2.2.2.1
theorem dX7_logOf_23 : decode cX7_logOf 23 = .ok (.if_icmp .le 9, 3) := dTo1_9.2.1.2.2.2.2.2.2.2.2.2.1
theorem dX7_logOf_26 : decode cX7_logOf 26 = .ok (.iinc 3 1, 3) := dTo1_9.2.2.1.1
theorem dX7_logOf_29 : decode cX7_logOf 29 = .ok (.goto (-12), 3) := dTo1_9.2.2.1.2.1
theorem dX7_logOf_32 : decode cX7_logOf 32 = .ok (.iconst 1, 1) := dTo1_9.2.2.1.2.2.1
theorem dX7_logOf_33 : decode cX7_logOf 33 = .ok (.iload_n 3, 1) := dTo1_9.2.2.1.2.2.2.1
theorem dX7_logOf_34 : decode cX7_logOf 34 = .ok (.ishl, 1) := dTo1_9.2.2.1.2.2.2.2.1
theorem dX7_logOf_35 : decode cX7_logOf 35 = .ok (.istore 4, 2) := dTo1_9.2.2.1.2.2.2.2.2.1
theorem dX7_logOf_37 : decode cX7_logOf 37 = .ok (.aload_n 0, 1) := dTo1_9.2.2.1.2.2.2.2.2.2.1
theorem dX7_logOf_38 : decode cX7_logOf 38 = .ok (.getfield 15, 3) := dTo1_9.2.2.1.2.2.2.2.2.2.2.1
theorem dX7_logOf_41 : decode cX7_logOf 41 = .ok (.iload_n 1, 1) := dTo1_9.2.2.1.2.2.2.2.2.2.2.2.1
theorem dX7_logOf_42 : decode cX7_logOf 42 = .ok (.iconst 3, 1) := dTo1_9.2.2.1.2.2.2.2.2.2.2.2.2.1
theorem dX7_logOf_43 : decode cX7_logOf 43 = .ok (.iadd, 1) := dTo1_9.2.2.2.1.1
theorem dX7_logOf_44 : decode cX7_logOf 44 = .ok (.iload_n 2, 1) := dTo1_9.2.2.2.1.2.1
theorem dX7_logOf_45 : decode cX7_logOf 45 = .ok (.iload 4, 2) := dTo1_9.2.2.2.1.2.2.1
theorem dX7_logOf_47 : decode cX7_logOf 47 = .ok (.isub, 1) := dTo1_9.2.2.2.1.2.2.2.1
theorem dX7_logOf_48 : decode cX7_logOf 48 = .ok (.iload_n 2, 1) := dTo1_9.2.2.2.1.2.2.2.2.1
theorem dX7_logOf_49 : decode cX7_logOf 49 = .ok (.iload 4, 2) := dTo1_9.2.2.2.1.2.2.2.2.2.1
theorem dX7_logOf_51 : decode cX7_logOf 51 = .ok (.iadd, 1) := dTo1_9.2.2.2.1.2.2.2.2.2.2.1
theorem dX7_logOf_52 : decode cX7_logOf 52 = .ok (.invokestatic 18, 3) := dTo1_9.2.2.2.1.2.2.2.2.2.2.2.1
theorem dX7_logOf_55 : decode cX7_logOf 55 = .ok (.aastore, 1) := dTo1_9.2.2.2.1.2.2.2.2.2.2.2.2.1
theorem dX7_logOf_56 : decode cX7_logOf 56 = .ok (.iload_n 3, 1) := dTo1_9.2.2.2.1.2.2.2.2.2.2.2.2.2.1
theorem dX7_logOf_57 : decode cX7_logOf 57 = .ok (.iconst 2, 1) := dTo1_9.2.2.2.2.1.1
theorem dX7_logOf_58 : decode cX7_logOf 58 = .ok (.isub, 1) := dTo1_9.2.2.2.2.1.2.1
theorem dX7_logOf_59 : decode cX7_logOf 59 = .ok (.invokestatic 68, 3) := dTo1_9.2.2.2.2.1.2.2.1
theorem dX7_logOf_62 : decode cX7_logOf 62 = .ok (.istore 5, 2) := dTo1_9.2.2.2.2.1.2.2.2.1
theorem dX7_logOf_64 : decode cX7_logOf 64 = .ok (.iload 5, 2) := dTo1_9.2.2.2.2.1.2.2.2.2.1
theorem dX7_logOf_66 : decode cX7_logOf 66 = .ok (.ifCond .le 34, 3) := dTo1_9.2.2.2.2.1.2.2.2.2.2.1
theorem dX7_logOf_69 : decode cX7_logOf 69 = .ok (.aload_n 0, 1) := dTo1_9.2.2.2.2.1.2.2.2.2.2.2.1
theorem dX7_logOf_70 : decode cX7_logOf 70 = .ok (.getfield 15, 3) := dTo1_9.2.2.2.2.1.2.2.2.2.2.2.2.1
theorem dX7_logOf_73 : decode cX7_logOf 73 = .ok (.iload_n 1, 1) := dTo1_9.2.2.2.2.1.2.2.2.2.2.2.2.2.1
theorem dX7_logOf_74 : decode cX7_logOf 74 = .ok (.iconst 3, 1) := dTo1_9.2.2.2.2.1.2.2.2.2.2.2.2.2.2.1
theorem dX7_logOf_75 : decode cX7_logOf 75 = .ok (.iadd, 1) := dTo1_9.2.2.2.2.2.1.1
theorem dX7_logOf_76 : decode cX7_logOf 76 = .ok (.aaload, 1) := dTo1_9.2.2.2.2.2.1.2.1
theorem dX7_logOf_77 : decode cX7_logOf 77 = .ok (.aload_n 0, 1) := dTo1_9.2.2.2.2.2.1.2.2.1
theorem dX7_logOf_78 : decode cX7_logOf 78 = .ok (.getfield 22, 3) := dTo1_9.2.2.2.2.2.1.2.2.2.1
theorem dX7_logOf_81 : decode cX7_logOf 81 = .ok (.iload_n 3, 1) := dTo1_9.2.2.2.2.2.1.2.2.2.2.1
theorem dX7_logOf_82 : decode cX7_logOf 82 = .ok (.iconst 2, 1) := dTo1_9.2.2.2.2.2.1.2.2.2.2.2.1
theorem dX7_logOf_83 : decode cX7_logOf 83 = .ok (.if_icmp .ge 7, 3) := dTo1_9.2.2.2.2.2.1.2.2.2.2.2.2.1
theorem dX7_logOf_86 : decode cX7_logOf 86 = .ok (.iconst 1, 1) := dTo1_9.2.2.2.2.2.1.2.2.2.2.2.2.2.1
theorem dX7_logOf_87 : decode cX7_logOf 87 = .ok (.goto 4, 3) := dTo1_9.2.2.2.2.2.1.2.2.2.2.2.2.2.2.1
theorem dX7_logOf_90 : decode cX7_logOf 90 = .ok (.iconst 0, 1) := dTo1_9.2.2.2.2.2.1.2.2.2.2.2.2.2.2.2.1
theorem dTo1_10 : dQ cX7_logOf [[(91, .invokestatic 56, 3), (94, .iinc 5 (-1), 3), (97, .goto (-33), 3), (100, .aload_n 0, 1), (101, .getfield 15, 3), (104, .iload_n 1, 1), (105, .iconst 3, 1), (106, .iadd, 1), (107, .aaload, 1), (108, .areturn, 1)]] := dQ_of _ _ (by decide +kernel)
theorem dX7_logOf_91 : decode cX7_logOf 91 = .ok (.invokestatic 56, 3) := dTo1_10.1.1
theorem dX7_logOf_94 : decode cX7_logOf 94 = .ok (.iinc 5 (-1), 3) := dTo1_10.1.2.1
theorem dX7_logOf_97 : decode cX7_logOf 97 = .ok (.goto (-33), 3) := dTo1_10.1.2.2.1
theorem dX7_logOf_100 : decode cX7_logOf 100 = .ok (.aload_n 0, 1) := dTo1_10.1.2.2.2.1
theorem dX7_logOf_101 : decode cX7_logOf 101 = .ok (.getfield 15, 3) := dTo1_10.1.2.2.2.2.1
theorem dX7_logOf_104 : decode cX7_logOf 104 = .ok (.iload_n 1, 1) := dTo1_10.1.2.2.2.2.2.1
theorem dX7_logOf_105 : decode cX7_logOf 105 = .ok (.iconst 3, 1) := dTo1_10.1.2.2.2.2.2.2.1
theorem dX7_logOf_106 : decode cX7_logOf 106 = .ok (.iadd, 1) := dTo1_10.1.2.2.2.2.2.2.2.1
theorem dX7_logOf_107 : decode cX7_logOf 107 = .ok (.aaload, 1) := dTo1_10.1.2.2.2.2.2.2.2.2.1
theorem dX7_logOf_108 : decode cX7_logOf 108 = .ok (.areturn, 1) := dTo1_10.1.2.2.2.2.2.2.2.2.2.1
theorem dTo1_11 : dQ cX7_placed [[(0, .bipush 11, 2), (2, .newarray .int, 2), (4, .astore_n 2, 1), (5, .iload_n 0, 1), (6, .i2l, 1), (7, .iload_n 1, 1), (8, .bipush 32, 2), (10, .irem, 1), (11, .lshl, 1), (12, .lstore_n 3, 1)], [(13, .iload_n 1, 1), (14, .bipush 32, 2), (16, .idiv, 1), (17, .istore 5, 2), (19, .iload 5, 2), (21, .bipush 11, 2), (23, .if_icmp .ge 20, 3), (26, .aload_n 2, 1), (27, .iload 5, 2), (29, .lload_n 3, 1)], [(30, .l2i, 1), (31, .iastore, 1), (32, .lload_n 3, 1), (33, .bipush 32, 2), (35, .lshr, 1), (36, .lstore_n 3, 1), (37, .iinc 5 1, 3), (40, .goto (-21), 3), (43, .aload_n 2, 1), (44, .areturn, 1)]] := dQ_of _ _ (by decide +kernel)
theorem dX7_placed_0 : decode cX7_placed 0 = .ok (.bipush 11, 2) := dTo1_11.1.1
theorem dX7_placed_2 : decode cX7_placed 2 = .ok (.newarray .int, 2) := dTo1_11.1.2.1
theorem dX7_placed_4 : decode cX7_placed 4 = .ok (.astore_n 2, 1) := dTo1_11.1.2.2.1
theorem dX7_placed_5 : decode cX7_placed 5 = .ok (.iload_n 0, 1) := dTo1_11.1.2.2.2.1
theorem dX7_placed_6 : decode cX7_placed 6 = .ok (.i2l, 1) := dTo1_11.1.2.2.2.2.1
theorem dX7_placed_7 : decode cX7_placed 7 = .ok (.iload_n 1, 1) := dTo1_11.1.2.2.2.2.2.1
theorem dX7_placed_8 : decode cX7_placed 8 = .ok (.bipush 32, 2) := dTo1_11.1.2.2.2.2.2.2.1
theorem dX7_placed_10 : decode cX7_placed 10 = .ok (.irem, 1) := dTo1_11.1.2.2.2.2.2.2.2.1
theorem dX7_placed_11 : decode cX7_placed 11 = .ok (.lshl, 1) := dTo1_11.1.2.2.2.2.2.2.2.2.1
theorem dX7_placed_12 : decode cX7_placed 12 = .ok (.lstore_n 3, 1) := dTo1_11.1.2.2.2.2.2.2.2.2.2.1
theorem dX7_placed_13 : decode cX7_placed 13 = .ok (.iload_n 1, 1) := dTo1_11.2.1.1
theorem dX7_placed_14 : decode cX7_placed 14 = .ok (.bipush 32, 2) := dTo1_11.2.1.2.1
theorem dX7_placed_16 : decode cX7_placed 16 = .ok (.idiv, 1) := dTo1_11.2.1.2.2.1
theorem dX7_placed_17 : decode cX7_placed 17 = .ok (.istore 5, 2) := dTo1_11.2.1.2.2.2.1
theorem dX7_placed_19 : decode cX7_placed 19 = .ok (.iload 5, 2) := dTo1_11.2.1.2.2.2.2.1
theorem dX7_placed_21 : decode cX7_placed 21 = .ok (.bipush 11, 2) := dTo1_11.2.1.2.2.2.2.2.1
theorem dX7_placed_23 : decode cX7_placed 23 = .ok (.if_icmp .ge 20, 3) := dTo1_11.2.1.2.2.2.2.2.2.1
theorem dX7_placed_26 : decode cX7_placed 26 = .ok (.aload_n 2, 1) := dTo1_11.2.1.2.2.2.2.2.2.2.1
theorem dX7_placed_27 : decode cX7_placed 27 = .ok (.iload 5, 2) := dTo1_11.2.1.2.2.2.2.2.2.2.2.1
theorem dX7_placed_29 : decode cX7_placed 29 = .ok (.lload_n 3, 1) := dTo1_11.2.1.2.2.2.2.2.2.2.2.2.1
theorem dX7_placed_30 : decode cX7_placed 30 = .ok (.l2i, 1) := dTo1_11.2.2.1.1
theorem dX7_placed_31 : decode cX7_placed 31 = .ok (.iastore, 1) := dTo1_11.2.2.1.2.1
theorem dX7_placed_32 : decode cX7_placed 32 = .ok (.lload_n 3, 1) := dTo1_11.2.2.1.2.2.1
theorem dX7_placed_33 : decode cX7_placed 33 = .ok (.bipush 32, 2) := dTo1_11.2.2.1.2.2.2.1
theorem dX7_placed_35 : decode cX7_placed 35 = .ok (.lshr, 1) := dTo1_11.2.2.1.2.2.2.2.1
theorem dX7_placed_36 : decode cX7_placed 36 = .ok (.lstore_n 3, 1) := dTo1_11.2.2.1.2.2.2.2.2.1
theorem dX7_placed_37 : decode cX7_placed 37 = .ok (.iinc 5 1, 3) := dTo1_11.2.2.1.2.2.2.2.2.2.1
theorem dX7_placed_40 : decode cX7_placed 40 = .ok (.goto (-21), 3) := dTo1_11.2.2.1.2.2.2.2.2.2.2.1
theorem dX7_placed_43 : decode cX7_placed 43 = .ok (.aload_n 2, 1) := dTo1_11.2.2.1.2.2.2.2.2.2.2.2.1
theorem dX7_placed_44 : decode cX7_placed 44 = .ok (.areturn, 1) := dTo1_11.2.2.1.2.2.2.2.2.2.2.2.2.1
theorem dTo1_12 : dQ cX7_quarterOf [[(0, .iload_n 0, 1), (1, .sipush 254, 3), (4, .invokestatic 78, 3), (7, .areturn, 1)]] := dQ_of _ _ (by decide +kernel)
theorem dX7_quarterOf_0 : decode cX7_quarterOf 0 = .ok (.iload_n 0, 1) := dTo1_12.1.1
theorem dX7_quarterOf_1 : decode cX7_quarterOf 1 = .ok (.sipush 254, 3) := dTo1_12.1.2.1
theorem dX7_quarterOf_4 : decode cX7_quarterOf 4 = .ok (.invokestatic 78, 3) := dTo1_12.1.2.2.1
theorem dX7_quarterOf_7 : decode cX7_quarterOf 7 = .ok (.areturn, 1) := dTo1_12.1.2.2.2.1
theorem dTo1_13 : dQ cX7_trueOf [[(0, .iload_n 1, 1), (1, .tableswitch 78 2 4 #[27, 38, 61], 27), (28, .aload_n 0, 1), (29, .getfield 11, 3), (32, .iload_n 2, 1), (33, .sipush 160, 3), (36, .iadd, 1), (37, .aaload, 1), (38, .areturn, 1), (39, .aload_n 0, 1)], [(40, .getfield 11, 3), (43, .iload_n 2, 1), (44, .sipush 160, 3), (47, .iadd, 1), (48, .aaload, 1), (49, .aload_n 0, 1), (50, .getfield 11, 3), (53, .sipush 160, 3), (56, .aaload, 1), (57, .iconst 1, 1)], [(58, .invokestatic 81, 3), (61, .areturn, 1), (62, .iload_n 2, 1), (63, .ifCond .ne 10, 3), (66, .iconst 0, 1), (67, .invokestatic 38, 3), (70, .goto 8, 3), (73, .aload_n 0, 1), (74, .iload_n 2, 1), (75, .invokevirtual 85, 3)], [(78, .areturn, 1), (79, .iload_n 2, 1), (80, .invokestatic 38, 3), (83, .areturn, 1)]] := dQ_of _ _ (by decide +kernel)
theorem dX7_trueOf_0 : decode cX7_trueOf 0 = .ok (.iload_n 1, 1) := dTo1_13.1.1
theorem dX7_trueOf_1 : decode cX7_trueOf 1 = .ok (.tableswitch 78 2 4 #[27, 38, 61], 27) := dTo1_13.1.2.1
theorem dX7_trueOf_28 : decode cX7_trueOf 28 = .ok (.aload_n 0, 1) := dTo1_13.1.2.2.1
theorem dX7_trueOf_29 : decode cX7_trueOf 29 = .ok (.getfield 11, 3) := dTo1_13.1.2.2.2.1
theorem dX7_trueOf_32 : decode cX7_trueOf 32 = .ok (.iload_n 2, 1) := dTo1_13.1.2.2.2.2.1
theorem dX7_trueOf_33 : decode cX7_trueOf 33 = .ok (.sipush 160, 3) := dTo1_13.1.2.2.2.2.2.1
theorem dX7_trueOf_36 : decode cX7_trueOf 36 = .ok (.iadd, 1) := dTo1_13.1.2.2.2.2.2.2.1
theorem dX7_trueOf_37 : decode cX7_trueOf 37 = .ok (.aaload, 1) := dTo1_13.1.2.2.2.2.2.2.2.1
theorem dX7_trueOf_38 : decode cX7_trueOf 38 = .ok (.areturn, 1) := dTo1_13.1.2.2.2.2.2.2.2.2.1
theorem dX7_trueOf_39 : decode cX7_trueOf 39 = .ok (.aload_n 0, 1) := dTo1_13.1.2.2.2.2.2.2.2.2.2.1
theorem dX7_trueOf_40 : decode cX7_trueOf 40 = .ok (.getfield 11, 3) := dTo1_13.2.1.1
theorem dX7_trueOf_43 : decode cX7_trueOf 43 = .ok (.iload_n 2, 1) := dTo1_13.2.1.2.1
theorem dX7_trueOf_44 : decode cX7_trueOf 44 = .ok (.sipush 160, 3) := dTo1_13.2.1.2.2.1
theorem dX7_trueOf_47 : decode cX7_trueOf 47 = .ok (.iadd, 1) := dTo1_13.2.1.2.2.2.1
theorem dX7_trueOf_48 : decode cX7_trueOf 48 = .ok (.aaload, 1) := dTo1_13.2.1.2.2.2.2.1
theorem dX7_trueOf_49 : decode cX7_trueOf 49 = .ok (.aload_n 0, 1) := dTo1_13.2.1.2.2.2.2.2.1
theorem dX7_trueOf_50 : decode cX7_trueOf 50 = .ok (.getfield 11, 3) := dTo1_13.2.1.2.2.2.2.2.2.1
theorem dX7_trueOf_53 : decode cX7_trueOf 53 = .ok (.sipush 160, 3) := dTo1_13.2.1.2.2.2.2.2.2.2.1
theorem dX7_trueOf_56 : decode cX7_trueOf 56 = .ok (.aaload, 1) := dTo1_13.2.1.2.2.2.2.2.2.2.2.1
theorem dX7_trueOf_57 : decode cX7_trueOf 57 = .ok (.iconst 1, 1) := dTo1_13.2.1.2.2.2.2.2.2.2.2.2.1
theorem dX7_trueOf_58 : decode cX7_trueOf 58 = .ok (.invokestatic 81, 3) := dTo1_13.2.2.1.1
theorem dX7_trueOf_61 : decode cX7_trueOf 61 = .ok (.areturn, 1) := dTo1_13.2.2.1.2.1
theorem dX7_trueOf_62 : decode cX7_trueOf 62 = .ok (.iload_n 2, 1) := dTo1_13.2.2.1.2.2.1
theorem dX7_trueOf_63 : decode cX7_trueOf 63 = .ok (.ifCond .ne 10, 3) := dTo1_13.2.2.1.2.2.2.1
theorem dX7_trueOf_66 : decode cX7_trueOf 66 = .ok (.iconst 0, 1) := dTo1_13.2.2.1.2.2.2.2.1
theorem dX7_trueOf_67 : decode cX7_trueOf 67 = .ok (.invokestatic 38, 3) := dTo1_13.2.2.1.2.2.2.2.2.1
theorem dX7_trueOf_70 : decode cX7_trueOf 70 = .ok (.goto 8, 3) := dTo1_13.2.2.1.2.2.2.2.2.2.1
theorem dX7_trueOf_73 : decode cX7_trueOf 73 = .ok (.aload_n 0, 1) := dTo1_13.2.2.1.2.2.2.2.2.2.2.1
theorem dX7_trueOf_74 : decode cX7_trueOf 74 = .ok (.iload_n 2, 1) := dTo1_13.2.2.1.2.2.2.2.2.2.2.2.1
theorem dX7_trueOf_75 : decode cX7_trueOf 75 = .ok (.invokevirtual 85, 3) := dTo1_13.2.2.1.2.2.2.2.2.2.2.2.2.1
theorem dX7_trueOf_78 : decode cX7_trueOf 78 = .ok (.areturn, 1) := dTo1_13.2.2.2.1.1
theorem dX7_trueOf_79 : decode cX7_trueOf 79 = .ok (.iload_n 2, 1) := dTo1_13.2.2.2.1.2.1
theorem dX7_trueOf_80 : decode cX7_trueOf 80 = .ok (.invokestatic 38, 3) := dTo1_13.2.2.2.1.2.2.1
theorem dX7_trueOf_83 : decode cX7_trueOf 83 = .ok (.areturn, 1) := dTo1_13.2.2.2.1.2.2.2.1
theorem dTo1_14 : dQ cX7_trueIn [[(0, .aload_n 0, 1), (1, .iload_n 1, 1), (2, .ifCond .ne 7, 3), (5, .iconst 0, 1), (6, .goto 6, 3), (9, .iload_n 1, 1), (10, .iconst 1, 1), (11, .iadd, 1), (12, .iload_n 2, 1), (13, .invokevirtual 88, 3)], [(16, .areturn, 1)]] := dQ_of _ _ (by decide +kernel)
theorem dX7_trueIn_0 : decode cX7_trueIn 0 = .ok (.aload_n 0, 1) := dTo1_14.1.1
theorem dX7_trueIn_1 : decode cX7_trueIn 1 = .ok (.iload_n 1, 1) := dTo1_14.1.2.1
theorem dX7_trueIn_2 : decode cX7_trueIn 2 = .ok (.ifCond .ne 7, 3) := dTo1_14.1.2.2.1
theorem dX7_trueIn_5 : decode cX7_trueIn 5 = .ok (.iconst 0, 1) := dTo1_14.1.2.2.2.1
theorem dX7_trueIn_6 : decode cX7_trueIn 6 = .ok (.goto 6, 3) := dTo1_14.1.2.2.2.2.1
theorem dX7_trueIn_9 : decode cX7_trueIn 9 = .ok (.iload_n 1, 1) := dTo1_14.1.2.2.2.2.2.1
theorem dX7_trueIn_10 : decode cX7_trueIn 10 = .ok (.iconst 1, 1) := dTo1_14.1.2.2.2.2.2.2.1
theorem dX7_trueIn_11 : decode cX7_trueIn 11 = .ok (.iadd, 1) := dTo1_14.1.2.2.2.2.2.2.2.1
theorem dX7_trueIn_12 : decode cX7_trueIn 12 = .ok (.iload_n 2, 1) := dTo1_14.1.2.2.2.2.2.2.2.2.1
theorem dX7_trueIn_13 : decode cX7_trueIn 13 = .ok (.invokevirtual 88, 3) := dTo1_14.1.2.2.2.2.2.2.2.2.2.1
theorem dX7_trueIn_16 : decode cX7_trueIn 16 = .ok (.areturn, 1) := dTo1_14.2.1.1
theorem dTo1_15 : dQ cX7_compare [[(0, .bipush 10, 2), (2, .istore_n 2, 1), (3, .aload_n 0, 1), (4, .iload_n 2, 1), (5, .iaload, 1), (6, .aload_n 1, 1), (7, .iload_n 2, 1), (8, .iaload, 1), (9, .if_icmp .eq 18, 3), (12, .aload_n 0, 1)], [(13, .iload_n 2, 1), (14, .iaload, 1), (15, .aload_n 1, 1), (16, .iload_n 2, 1), (17, .iaload, 1), (18, .if_icmp .ge 7, 3), (21, .iconst (-1), 1), (22, .goto 4, 3), (25, .iconst 1, 1), (26, .ireturn, 1)], [(27, .iload_n 2, 1), (28, .ifCond .le 18, 3), (31, .aload_n 0, 1), (32, .iload_n 2, 1), (33, .iaload, 1), (34, .aload_n 1, 1), (35, .iload_n 2, 1), (36, .iaload, 1), (37, .if_icmp .ne 9, 3), (40, .iinc 2 (-1), 3)], [(43, .goto (-16), 3), (46, .aload_n 0, 1), (47, .iload_n 2, 1), (48, .iaload, 1), (49, .i2l, 1), (50, .ldc2_w 54, 3), (53, .land, 1), (54, .aload_n 1, 1), (55, .iload_n 2, 1), (56, .iaload, 1)], [(57, .i2l, 1), (58, .ldc2_w 54, 3), (61, .land, 1), (62, .invokestatic 91, 3), (65, .ireturn, 1)]] := dQ_of _ _ (by decide +kernel)
theorem dX7_compare_0 : decode cX7_compare 0 = .ok (.bipush 10, 2) := dTo1_15.1.1
theorem dX7_compare_2 : decode cX7_compare 2 = .ok (.istore_n 2, 1) := dTo1_15.1.2.1
theorem dX7_compare_3 : decode cX7_compare 3 = .ok (.aload_n 0, 1) := dTo1_15.1.2.2.1
theorem dX7_compare_4 : decode cX7_compare 4 = .ok (.iload_n 2, 1) := dTo1_15.1.2.2.2.1
theorem dX7_compare_5 : decode cX7_compare 5 = .ok (.iaload, 1) := dTo1_15.1.2.2.2.2.1
theorem dX7_compare_6 : decode cX7_compare 6 = .ok (.aload_n 1, 1) := dTo1_15.1.2.2.2.2.2.1
theorem dX7_compare_7 : decode cX7_compare 7 = .ok (.iload_n 2, 1) := dTo1_15.1.2.2.2.2.2.2.1
theorem dX7_compare_8 : decode cX7_compare 8 = .ok (.iaload, 1) := dTo1_15.1.2.2.2.2.2.2.2.1
theorem dX7_compare_9 : decode cX7_compare 9 = .ok (.if_icmp .eq 18, 3) := dTo1_15.1.2.2.2.2.2.2.2.2.1
theorem dX7_compare_12 : decode cX7_compare 12 = .ok (.aload_n 0, 1) := dTo1_15.1.2.2.2.2.2.2.2.2.2.1
theorem dX7_compare_13 : decode cX7_compare 13 = .ok (.iload_n 2, 1) := dTo1_15.2.1.1
theorem dX7_compare_14 : decode cX7_compare 14 = .ok (.iaload, 1) := dTo1_15.2.1.2.1
theorem dX7_compare_15 : decode cX7_compare 15 = .ok (.aload_n 1, 1) := dTo1_15.2.1.2.2.1
theorem dX7_compare_16 : decode cX7_compare 16 = .ok (.iload_n 2, 1) := dTo1_15.2.1.2.2.2.1
theorem dX7_compare_17 : decode cX7_compare 17 = .ok (.iaload, 1) := dTo1_15.2.1.2.2.2.2.1
theorem dX7_compare_18 : decode cX7_compare 18 = .ok (.if_icmp .ge 7, 3) := dTo1_15.2.1.2.2.2.2.2.1
theorem dX7_compare_21 : decode cX7_compare 21 = .ok (.iconst (-1), 1) := dTo1_15.2.1.2.2.2.2.2.2.1
theorem dX7_compare_22 : decode cX7_compare 22 = .ok (.goto 4, 3) := dTo1_15.2.1.2.2.2.2.2.2.2.1
theorem dX7_compare_25 : decode cX7_compare 25 = .ok (.iconst 1, 1) := dTo1_15.2.1.2.2.2.2.2.2.2.2.1
theorem dX7_compare_26 : decode cX7_compare 26 = .ok (.ireturn, 1) := dTo1_15.2.1.2.2.2.2.2.2.2.2.2.1
theorem dX7_compare_27 : decode cX7_compare 27 = .ok (.iload_n 2, 1) := dTo1_15.2.2.1.1
theorem dX7_compare_28 : decode cX7_compare 28 = .ok (.ifCond .le 18, 3) := dTo1_15.2.2.1.2.1
theorem dX7_compare_31 : decode cX7_compare 31 = .ok (.aload_n 0, 1) := dTo1_15.2.2.1.2.2.1
theorem dX7_compare_32 : decode cX7_compare 32 = .ok (.iload_n 2, 1) := dTo1_15.2.2.1.2.2.2.1
theorem dX7_compare_33 : decode cX7_compare 33 = .ok (.iaload, 1) := dTo1_15.2.2.1.2.2.2.2.1
theorem dX7_compare_34 : decode cX7_compare 34 = .ok (.aload_n 1, 1) := dTo1_15.2.2.1.2.2.2.2.2.1
theorem dX7_compare_35 : decode cX7_compare 35 = .ok (.iload_n 2, 1) := dTo1_15.2.2.1.2.2.2.2.2.2.1
theorem dX7_compare_36 : decode cX7_compare 36 = .ok (.iaload, 1) := dTo1_15.2.2.1.2.2.2.2.2.2.2.1
theorem dX7_compare_37 : decode cX7_compare 37 = .ok (.if_icmp .ne 9, 3) := dTo1_15.2.2.1.2.2.2.2.2.2.2.2.1
theorem dX7_compare_40 : decode cX7_compare 40 = .ok (.iinc 2 (-1), 3) := dTo1_15.2.2.1.2.2.2.2.2.2.2.2.2.1
theorem dX7_compare_43 : decode cX7_compare 43 = .ok (.goto (-16), 3) := dTo1_15.2.2.2.1.1
theorem dX7_compare_46 : decode cX7_compare 46 = .ok (.aload_n 0, 1) := dTo1_15.2.2.2.1.2.1
theorem dX7_compare_47 : decode cX7_compare 47 = .ok (.iload_n 2, 1) := dTo1_15.2.2.2.1.2.2.1
theorem dX7_compare_48 : decode cX7_compare 48 = .ok (.iaload, 1) := dTo1_15.2.2.2.1.2.2.2.1
theorem dX7_compare_49 : decode cX7_compare 49 = .ok (.i2l, 1) := dTo1_15.2.2.2.1.2.2.2.2.1
theorem dX7_compare_50 : decode cX7_compare 50 = .ok (.ldc2_w 54, 3) := dTo1_15.2.2.2.1.2.2.2.2.2.1
theorem dX7_compare_53 : decode cX7_compare 53 = .ok (.land, 1) := dTo1_15.2.2.2.1.2.2.2.2.2.2.1
theorem dX7_compare_54 : decode cX7_compare 54 = .ok (.aload_n 1, 1) := dTo1_15.2.2.2.1.2.2.2.2.2.2.2.1
theorem dX7_compare_55 : decode cX7_compare 55 = .ok (.iload_n 2, 1) := dTo1_15.2.2.2.1.2.2.2.2.2.2.2.2.1
theorem dX7_compare_56 : decode cX7_compare 56 = .ok (.iaload, 1) := dTo1_15.2.2.2.1.2.2.2.2.2.2.2.2.2.1
theorem dX7_compare_57 : decode cX7_compare 57 = .ok (.i2l, 1) := dTo1_15.2.2.2.2.1.1
theorem dX7_compare_58 : decode cX7_compare 58 = .ok (.ldc2_w 54, 3) := dTo1_15.2.2.2.2.1.2.1
theorem dX7_compare_61 : decode cX7_compare 61 = .ok (.land, 1) := dTo1_15.2.2.2.2.1.2.2.1
theorem dX7_compare_62 : decode cX7_compare 62 = .ok (.invokestatic 91, 3) := dTo1_15.2.2.2.2.1.2.2.2.1
theorem dX7_compare_65 : decode cX7_compare 65 = .ok (.ireturn, 1) := dTo1_15.2.2.2.2.1.2.2.2.2.1
theorem dTo1_16 : dQ cX7_digitAt [[(0, .iload_n 1, 1), (1, .sipush 352, 3), (4, .if_icmp .ge 19, 3), (7, .aload_n 0, 1), (8, .iload_n 1, 1), (9, .bipush 32, 2), (11, .idiv, 1), (12, .iaload, 1), (13, .iload_n 1, 1), (14, .bipush 32, 2)], [(16, .irem, 1), (17, .ishr, 1), (18, .iconst 1, 1), (19, .iand, 1), (20, .goto 15, 3), (23, .aload_n 0, 1), (24, .bipush 10, 2), (26, .iaload, 1), (27, .ifCond .ge 7, 3), (30, .iconst 1, 1)], [(31, .goto 4, 3), (34, .iconst 0, 1), (35, .ireturn, 1)]] := dQ_of _ _ (by decide +kernel)
theorem dX7_digitAt_0 : decode cX7_digitAt 0 = .ok (.iload_n 1, 1) := dTo1_16.1.1
theorem dX7_digitAt_1 : decode cX7_digitAt 1 = .ok (.sipush 352, 3) := dTo1_16.1.2.1
theorem dX7_digitAt_4 : decode cX7_digitAt 4 = .ok (.if_icmp .ge 19, 3) := dTo1_16.1.2.2.1
theorem dX7_digitAt_7 : decode cX7_digitAt 7 = .ok (.aload_n 0, 1) := dTo1_16.1.2.2.2.1
theorem dX7_digitAt_8 : decode cX7_digitAt 8 = .ok (.iload_n 1, 1) := dTo1_16.1.2.2.2.2.1
theorem dX7_digitAt_9 : decode cX7_digitAt 9 = .ok (.bipush 32, 2) := dTo1_16.1.2.2.2.2.2.1
theorem dX7_digitAt_11 : decode cX7_digitAt 11 = .ok (.idiv, 1) := dTo1_16.1.2.2.2.2.2.2.1
theorem dX7_digitAt_12 : decode cX7_digitAt 12 = .ok (.iaload, 1) := dTo1_16.1.2.2.2.2.2.2.2.1
theorem dX7_digitAt_13 : decode cX7_digitAt 13 = .ok (.iload_n 1, 1) := dTo1_16.1.2.2.2.2.2.2.2.2.1
theorem dX7_digitAt_14 : decode cX7_digitAt 14 = .ok (.bipush 32, 2) := dTo1_16.1.2.2.2.2.2.2.2.2.2.1
theorem dX7_digitAt_16 : decode cX7_digitAt 16 = .ok (.irem, 1) := dTo1_16.2.1.1
theorem dX7_digitAt_17 : decode cX7_digitAt 17 = .ok (.ishr, 1) := dTo1_16.2.1.2.1
theorem dX7_digitAt_18 : decode cX7_digitAt 18 = .ok (.iconst 1, 1) := dTo1_16.2.1.2.2.1
theorem dX7_digitAt_19 : decode cX7_digitAt 19 = .ok (.iand, 1) := dTo1_16.2.1.2.2.2.1
theorem dX7_digitAt_20 : decode cX7_digitAt 20 = .ok (.goto 15, 3) := dTo1_16.2.1.2.2.2.2.1
theorem dX7_digitAt_23 : decode cX7_digitAt 23 = .ok (.aload_n 0, 1) := dTo1_16.2.1.2.2.2.2.2.1
theorem dX7_digitAt_24 : decode cX7_digitAt 24 = .ok (.bipush 10, 2) := dTo1_16.2.1.2.2.2.2.2.2.1
theorem dX7_digitAt_26 : decode cX7_digitAt 26 = .ok (.iaload, 1) := dTo1_16.2.1.2.2.2.2.2.2.2.1
theorem dX7_digitAt_27 : decode cX7_digitAt 27 = .ok (.ifCond .ge 7, 3) := dTo1_16.2.1.2.2.2.2.2.2.2.2.1
theorem dX7_digitAt_30 : decode cX7_digitAt 30 = .ok (.iconst 1, 1) := dTo1_16.2.1.2.2.2.2.2.2.2.2.2.1
theorem dX7_digitAt_31 : decode cX7_digitAt 31 = .ok (.goto 4, 3) := dTo1_16.2.2.1.1
theorem dX7_digitAt_34 : decode cX7_digitAt 34 = .ok (.iconst 0, 1) := dTo1_16.2.2.1.2.1
theorem dX7_digitAt_35 : decode cX7_digitAt 35 = .ok (.ireturn, 1) := dTo1_16.2.2.1.2.2.1
theorem dTo1_17 : dQ cX7_digitsFrom [[(0, .iconst 0, 1), (1, .istore_n 2, 1), (2, .bipush 31, 2), (4, .istore_n 3, 1), (5, .iload_n 3, 1), (6, .ifCond .lt 21, 3), (9, .iconst 2, 1), (10, .iload_n 2, 1), (11, .imul, 1), (12, .aload_n 0, 1)], [(13, .iload_n 1, 1), (14, .iload_n 3, 1), (15, .iadd, 1), (16, .invokestatic 97, 3), (19, .iadd, 1), (20, .istore_n 2, 1), (21, .iinc 3 (-1), 3), (24, .goto (-19), 3), (27, .iload_n 2, 1), (28, .ireturn, 1)]] := dQ_of _ _ (by decide +kernel)
theorem dX7_digitsFrom_0 : decode cX7_digitsFrom 0 = .ok (.iconst 0, 1) := dTo1_17.1.1
theorem dX7_digitsFrom_1 : decode cX7_digitsFrom 1 = .ok (.istore_n 2, 1) := dTo1_17.1.2.1
theorem dX7_digitsFrom_2 : decode cX7_digitsFrom 2 = .ok (.bipush 31, 2) := dTo1_17.1.2.2.1
theorem dX7_digitsFrom_4 : decode cX7_digitsFrom 4 = .ok (.istore_n 3, 1) := dTo1_17.1.2.2.2.1
theorem dX7_digitsFrom_5 : decode cX7_digitsFrom 5 = .ok (.iload_n 3, 1) := dTo1_17.1.2.2.2.2.1
theorem dX7_digitsFrom_6 : decode cX7_digitsFrom 6 = .ok (.ifCond .lt 21, 3) := dTo1_17.1.2.2.2.2.2.1
theorem dX7_digitsFrom_9 : decode cX7_digitsFrom 9 = .ok (.iconst 2, 1) := dTo1_17.1.2.2.2.2.2.2.1
theorem dX7_digitsFrom_10 : decode cX7_digitsFrom 10 = .ok (.iload_n 2, 1) := dTo1_17.1.2.2.2.2.2.2.2.1
theorem dX7_digitsFrom_11 : decode cX7_digitsFrom 11 = .ok (.imul, 1) := dTo1_17.1.2.2.2.2.2.2.2.2.1
theorem dX7_digitsFrom_12 : decode cX7_digitsFrom 12 = .ok (.aload_n 0, 1) := dTo1_17.1.2.2.2.2.2.2.2.2.2.1
theorem dX7_digitsFrom_13 : decode cX7_digitsFrom 13 = .ok (.iload_n 1, 1) := dTo1_17.2.1.1
theorem dX7_digitsFrom_14 : decode cX7_digitsFrom 14 = .ok (.iload_n 3, 1) := dTo1_17.2.1.2.1
theorem dX7_digitsFrom_15 : decode cX7_digitsFrom 15 = .ok (.iadd, 1) := dTo1_17.2.1.2.2.1
theorem dX7_digitsFrom_16 : decode cX7_digitsFrom 16 = .ok (.invokestatic 97, 3) := dTo1_17.2.1.2.2.2.1
theorem dX7_digitsFrom_19 : decode cX7_digitsFrom 19 = .ok (.iadd, 1) := dTo1_17.2.1.2.2.2.2.1
theorem dX7_digitsFrom_20 : decode cX7_digitsFrom 20 = .ok (.istore_n 2, 1) := dTo1_17.2.1.2.2.2.2.2.1
theorem dX7_digitsFrom_21 : decode cX7_digitsFrom 21 = .ok (.iinc 3 (-1), 3) := dTo1_17.2.1.2.2.2.2.2.2.1
theorem dX7_digitsFrom_24 : decode cX7_digitsFrom 24 = .ok (.goto (-19), 3) := dTo1_17.2.1.2.2.2.2.2.2.2.1
theorem dX7_digitsFrom_27 : decode cX7_digitsFrom 27 = .ok (.iload_n 2, 1) := dTo1_17.2.1.2.2.2.2.2.2.2.2.1
theorem dX7_digitsFrom_28 : decode cX7_digitsFrom 28 = .ok (.ireturn, 1) := dTo1_17.2.1.2.2.2.2.2.2.2.2.2.1
theorem dTo1_18 : dQ cX7_isInt [[(0, .iload_n 1, 1), (1, .bipush 31, 2), (3, .iadd, 1), (4, .istore_n 2, 1), (5, .iload_n 2, 1), (6, .sipush 352, 3), (9, .if_icmp .ge 26, 3), (12, .aload_n 0, 1), (13, .iload_n 2, 1), (14, .invokestatic 97, 3)], [(17, .aload_n 0, 1), (18, .sipush 352, 3), (21, .invokestatic 97, 3), (24, .if_icmp .eq 5, 3), (27, .iconst 0, 1), (28, .ireturn, 1), (29, .iinc 2 1, 3), (32, .goto (-27), 3), (35, .iconst 1, 1), (36, .ireturn, 1)]] := dQ_of _ _ (by decide +kernel)
theorem dX7_isInt_0 : decode cX7_isInt 0 = .ok (.iload_n 1, 1) := dTo1_18.1.1
theorem dX7_isInt_1 : decode cX7_isInt 1 = .ok (.bipush 31, 2) := dTo1_18.1.2.1
theorem dX7_isInt_3 : decode cX7_isInt 3 = .ok (.iadd, 1) := dTo1_18.1.2.2.1
theorem dX7_isInt_4 : decode cX7_isInt 4 = .ok (.istore_n 2, 1) := dTo1_18.1.2.2.2.1
theorem dX7_isInt_5 : decode cX7_isInt 5 = .ok (.iload_n 2, 1) := dTo1_18.1.2.2.2.2.1
theorem dX7_isInt_6 : decode cX7_isInt 6 = .ok (.sipush 352, 3) := dTo1_18.1.2.2.2.2.2.1
theorem dX7_isInt_9 : decode cX7_isInt 9 = .ok (.if_icmp .ge 26, 3) := dTo1_18.1.2.2.2.2.2.2.1
theorem dX7_isInt_12 : decode cX7_isInt 12 = .ok (.aload_n 0, 1) := dTo1_18.1.2.2.2.2.2.2.2.1
theorem dX7_isInt_13 : decode cX7_isInt 13 = .ok (.iload_n 2, 1) := dTo1_18.1.2.2.2.2.2.2.2.2.1
theorem dX7_isInt_14 : decode cX7_isInt 14 = .ok (.invokestatic 97, 3) := dTo1_18.1.2.2.2.2.2.2.2.2.2.1
theorem dX7_isInt_17 : decode cX7_isInt 17 = .ok (.aload_n 0, 1) := dTo1_18.2.1.1
theorem dX7_isInt_18 : decode cX7_isInt 18 = .ok (.sipush 352, 3) := dTo1_18.2.1.2.1
theorem dX7_isInt_21 : decode cX7_isInt 21 = .ok (.invokestatic 97, 3) := dTo1_18.2.1.2.2.1
theorem dX7_isInt_24 : decode cX7_isInt 24 = .ok (.if_icmp .eq 5, 3) := dTo1_18.2.1.2.2.2.1
theorem dX7_isInt_27 : decode cX7_isInt 27 = .ok (.iconst 0, 1) := dTo1_18.2.1.2.2.2.2.1
theorem dX7_isInt_28 : decode cX7_isInt 28 = .ok (.ireturn, 1) := dTo1_18.2.1.2.2.2.2.2.1
theorem dX7_isInt_29 : decode cX7_isInt 29 = .ok (.iinc 2 1, 3) := dTo1_18.2.1.2.2.2.2.2.2.1
theorem dX7_isInt_32 : decode cX7_isInt 32 = .ok (.goto (-27), 3) := dTo1_18.2.1.2.2.2.2.2.2.2.1
theorem dX7_isInt_35 : decode cX7_isInt 35 = .ok (.iconst 1, 1) := dTo1_18.2.1.2.2.2.2.2.2.2.2.1
theorem dX7_isInt_36 : decode cX7_isInt 36 = .ok (.ireturn, 1) := dTo1_18.2.1.2.2.2.2.2.2.2.2.2.1
theorem dTo1_19 : dQ cX7_placeOf [[(0, .sipush 351, 3), (3, .istore_n 1, 1), (4, .aload_n 0, 1), (5, .iload_n 1, 1), (6, .invokestatic 97, 3), (9, .ifCond .ne 9, 3), (12, .iinc 1 (-1), 3), (15, .goto (-11), 3), (18, .iload_n 1, 1), (19, .ireturn, 1)]] := dQ_of _ _ (by decide +kernel)
theorem dX7_placeOf_0 : decode cX7_placeOf 0 = .ok (.sipush 351, 3) := dTo1_19.1.1
theorem dX7_placeOf_3 : decode cX7_placeOf 3 = .ok (.istore_n 1, 1) := dTo1_19.1.2.1
theorem dX7_placeOf_4 : decode cX7_placeOf 4 = .ok (.aload_n 0, 1) := dTo1_19.1.2.2.1
theorem dX7_placeOf_5 : decode cX7_placeOf 5 = .ok (.iload_n 1, 1) := dTo1_19.1.2.2.2.1
theorem dX7_placeOf_6 : decode cX7_placeOf 6 = .ok (.invokestatic 97, 3) := dTo1_19.1.2.2.2.2.1
theorem dX7_placeOf_9 : decode cX7_placeOf 9 = .ok (.ifCond .ne 9, 3) := dTo1_19.1.2.2.2.2.2.1
theorem dX7_placeOf_12 : decode cX7_placeOf 12 = .ok (.iinc 1 (-1), 3) := dTo1_19.1.2.2.2.2.2.2.1
theorem dX7_placeOf_15 : decode cX7_placeOf 15 = .ok (.goto (-11), 3) := dTo1_19.1.2.2.2.2.2.2.2.1
theorem dX7_placeOf_18 : decode cX7_placeOf 18 = .ok (.iload_n 1, 1) := dTo1_19.1.2.2.2.2.2.2.2.2.1
theorem dX7_placeOf_19 : decode cX7_placeOf 19 = .ok (.ireturn, 1) := dTo1_19.1.2.2.2.2.2.2.2.2.2.1
theorem dTo1_20 : dQ cX7_sizeOf [[(0, .aload_n 0, 1), (1, .bipush 10, 2), (3, .iaload, 1), (4, .ifCond .ge 15, 3), (7, .iconst 0, 1), (8, .invokestatic 38, 3), (11, .aload_n 0, 1), (12, .iconst 1, 1), (13, .invokestatic 81, 3), (16, .goto 4, 3)], [(19, .aload_n 0, 1), (20, .areturn, 1)]] := dQ_of _ _ (by decide +kernel)
theorem dX7_sizeOf_0 : decode cX7_sizeOf 0 = .ok (.aload_n 0, 1) := dTo1_20.1.1
theorem dX7_sizeOf_1 : decode cX7_sizeOf 1 = .ok (.bipush 10, 2) := dTo1_20.1.2.1
theorem dX7_sizeOf_3 : decode cX7_sizeOf 3 = .ok (.iaload, 1) := dTo1_20.1.2.2.1
theorem dX7_sizeOf_4 : decode cX7_sizeOf 4 = .ok (.ifCond .ge 15, 3) := dTo1_20.1.2.2.2.1
theorem dX7_sizeOf_7 : decode cX7_sizeOf 7 = .ok (.iconst 0, 1) := dTo1_20.1.2.2.2.2.1
theorem dX7_sizeOf_8 : decode cX7_sizeOf 8 = .ok (.invokestatic 38, 3) := dTo1_20.1.2.2.2.2.2.1
theorem dX7_sizeOf_11 : decode cX7_sizeOf 11 = .ok (.aload_n 0, 1) := dTo1_20.1.2.2.2.2.2.2.1
theorem dX7_sizeOf_12 : decode cX7_sizeOf 12 = .ok (.iconst 1, 1) := dTo1_20.1.2.2.2.2.2.2.2.1
theorem dX7_sizeOf_13 : decode cX7_sizeOf 13 = .ok (.invokestatic 81, 3) := dTo1_20.1.2.2.2.2.2.2.2.2.1
theorem dX7_sizeOf_16 : decode cX7_sizeOf 16 = .ok (.goto 4, 3) := dTo1_20.1.2.2.2.2.2.2.2.2.2.1
theorem dX7_sizeOf_19 : decode cX7_sizeOf 19 = .ok (.aload_n 0, 1) := dTo1_20.2.1.1
theorem dX7_sizeOf_20 : decode cX7_sizeOf 20 = .ok (.areturn, 1) := dTo1_20.2.1.2.1
theorem dTo1_21 : dQ cX7_orderOf [[(0, .aload_n 0, 1), (1, .getfield 28, 3), (4, .iload_n 1, 1), (5, .iaload, 1), (6, .iconst 1, 1), (7, .if_icmp .ne 20, 3), (10, .aload_n 0, 1), (11, .getfield 34, 3), (14, .iload_n 1, 1), (15, .baload, 1)], [(16, .ifCond .eq 7, 3), (19, .iconst (-1), 1), (20, .goto 8, 3), (23, .iconst 1, 1), (24, .goto 4, 3), (27, .iconst 0, 1), (28, .istore_n 3, 1), (29, .aload_n 0, 1), (30, .getfield 28, 3), (33, .iload_n 2, 1)], [(34, .iaload, 1), (35, .iconst 1, 1), (36, .if_icmp .ne 20, 3), (39, .aload_n 0, 1), (40, .getfield 34, 3), (43, .iload_n 2, 1), (44, .baload, 1), (45, .ifCond .eq 7, 3), (48, .iconst (-1), 1), (49, .goto 8, 3)], [(52, .iconst 1, 1), (53, .goto 4, 3), (56, .iconst 0, 1), (57, .istore 4, 2), (59, .iload_n 3, 1), (60, .ifCond .ne 8, 3), (63, .iload 4, 2), (65, .ifCond .eq 10, 3), (68, .iload_n 3, 1), (69, .iload 4, 2)], [(71, .invokestatic 101, 3), (74, .ireturn, 1), (75, .aload_n 0, 1), (76, .aload_n 0, 1), (77, .getfield 28, 3), (80, .iload_n 1, 1), (81, .iaload, 1), (82, .aload_n 0, 1), (83, .getfield 31, 3), (86, .iload_n 1, 1)], [(87, .iaload, 1), (88, .invokevirtual 88, 3), (91, .aload_n 0, 1), (92, .aload_n 0, 1), (93, .getfield 28, 3), (96, .iload_n 2, 1), (97, .iaload, 1), (98, .aload_n 0, 1), (99, .getfield 31, 3), (102, .iload_n 2, 1)]] := dQ_of _ _ (by decide +kernel)
theorem dX7_orderOf_0 : decode cX7_orderOf 0 = .ok (.aload_n 0, 1) := dTo1_21.1.1
theorem dX7_orderOf_1 : decode cX7_orderOf 1 = .ok (.getfield 28, 3) := dTo1_21.1.2.1
theorem dX7_orderOf_4 : decode cX7_orderOf 4 = .ok (.iload_n 1, 1) := dTo1_21.1.2.2.1
theorem dX7_orderOf_5 : decode cX7_orderOf 5 = .ok (.iaload, 1) := dTo1_21.1.2.2.2.1
theorem dX7_orderOf_6 : decode cX7_orderOf 6 = .ok (.iconst 1, 1) := dTo1_21.1.2.2.2.2.1
theorem dX7_orderOf_7 : decode cX7_orderOf 7 = .ok (.if_icmp .ne 20, 3) := dTo1_21.1.2.2.2.2.2.1
theorem dX7_orderOf_10 : decode cX7_orderOf 10 = .ok (.aload_n 0, 1) := dTo1_21.1.2.2.2.2.2.2.1
theorem dX7_orderOf_11 : decode cX7_orderOf 11 = .ok (.getfield 34, 3) := dTo1_21.1.2.2.2.2.2.2.2.1
theorem dX7_orderOf_14 : decode cX7_orderOf 14 = .ok (.iload_n 1, 1) := dTo1_21.1.2.2.2.2.2.2.2.2.1
theorem dX7_orderOf_15 : decode cX7_orderOf 15 = .ok (.baload, 1) := dTo1_21.1.2.2.2.2.2.2.2.2.2.1
theorem dX7_orderOf_16 : decode cX7_orderOf 16 = .ok (.ifCond .eq 7, 3) := dTo1_21.2.1.1
theorem dX7_orderOf_19 : decode cX7_orderOf 19 = .ok (.iconst (-1), 1) := dTo1_21.2.1.2.1
theorem dX7_orderOf_20 : decode cX7_orderOf 20 = .ok (.goto 8, 3) := dTo1_21.2.1.2.2.1
theorem dX7_orderOf_23 : decode cX7_orderOf 23 = .ok (.iconst 1, 1) := dTo1_21.2.1.2.2.2.1
theorem dX7_orderOf_24 : decode cX7_orderOf 24 = .ok (.goto 4, 3) := dTo1_21.2.1.2.2.2.2.1
theorem dX7_orderOf_27 : decode cX7_orderOf 27 = .ok (.iconst 0, 1) := dTo1_21.2.1.2.2.2.2.2.1
theorem dX7_orderOf_28 : decode cX7_orderOf 28 = .ok (.istore_n 3, 1) := dTo1_21.2.1.2.2.2.2.2.2.1
theorem dX7_orderOf_29 : decode cX7_orderOf 29 = .ok (.aload_n 0, 1) := dTo1_21.2.1.2.2.2.2.2.2.2.1
theorem dX7_orderOf_30 : decode cX7_orderOf 30 = .ok (.getfield 28, 3) := dTo1_21.2.1.2.2.2.2.2.2.2.2.1
theorem dX7_orderOf_33 : decode cX7_orderOf 33 = .ok (.iload_n 2, 1) := dTo1_21.2.1.2.2.2.2.2.2.2.2.2.1
theorem dX7_orderOf_34 : decode cX7_orderOf 34 = .ok (.iaload, 1) := dTo1_21.2.2.1.1
theorem dX7_orderOf_35 : decode cX7_orderOf 35 = .ok (.iconst 1, 1) := dTo1_21.2.2.1.2.1
theorem dX7_orderOf_36 : decode cX7_orderOf 36 = .ok (.if_icmp .ne 20, 3) := dTo1_21.2.2.1.2.2.1
theorem dX7_orderOf_39 : decode cX7_orderOf 39 = .ok (.aload_n 0, 1) := dTo1_21.2.2.1.2.2.2.1
theorem dX7_orderOf_40 : decode cX7_orderOf 40 = .ok (.getfield 34, 3) := dTo1_21.2.2.1.2.2.2.2.1
theorem dX7_orderOf_43 : decode cX7_orderOf 43 = .ok (.iload_n 2, 1) := dTo1_21.2.2.1.2.2.2.2.2.1
theorem dX7_orderOf_44 : decode cX7_orderOf 44 = .ok (.baload, 1) := dTo1_21.2.2.1.2.2.2.2.2.2.1
theorem dX7_orderOf_45 : decode cX7_orderOf 45 = .ok (.ifCond .eq 7, 3) := dTo1_21.2.2.1.2.2.2.2.2.2.2.1
theorem dX7_orderOf_48 : decode cX7_orderOf 48 = .ok (.iconst (-1), 1) := dTo1_21.2.2.1.2.2.2.2.2.2.2.2.1
theorem dX7_orderOf_49 : decode cX7_orderOf 49 = .ok (.goto 8, 3) := dTo1_21.2.2.1.2.2.2.2.2.2.2.2.2.1
theorem dX7_orderOf_52 : decode cX7_orderOf 52 = .ok (.iconst 1, 1) := dTo1_21.2.2.2.1.1
theorem dX7_orderOf_53 : decode cX7_orderOf 53 = .ok (.goto 4, 3) := dTo1_21.2.2.2.1.2.1
theorem dX7_orderOf_56 : decode cX7_orderOf 56 = .ok (.iconst 0, 1) := dTo1_21.2.2.2.1.2.2.1
theorem dX7_orderOf_57 : decode cX7_orderOf 57 = .ok (.istore 4, 2) := dTo1_21.2.2.2.1.2.2.2.1
theorem dX7_orderOf_59 : decode cX7_orderOf 59 = .ok (.iload_n 3, 1) := dTo1_21.2.2.2.1.2.2.2.2.1
theorem dX7_orderOf_60 : decode cX7_orderOf 60 = .ok (.ifCond .ne 8, 3) := dTo1_21.2.2.2.1.2.2.2.2.2.1
theorem dX7_orderOf_63 : decode cX7_orderOf 63 = .ok (.iload 4, 2) := dTo1_21.2.2.2.1.2.2.2.2.2.2.1
theorem dX7_orderOf_65 : decode cX7_orderOf 65 = .ok (.ifCond .eq 10, 3) := dTo1_21.2.2.2.1.2.2.2.2.2.2.2.1
theorem dX7_orderOf_68 : decode cX7_orderOf 68 = .ok (.iload_n 3, 1) := dTo1_21.2.2.2.1.2.2.2.2.2.2.2.2.1
theorem dX7_orderOf_69 : decode cX7_orderOf 69 = .ok (.iload 4, 2) := dTo1_21.2.2.2.1.2.2.2.2.2.2.2.2.2.1
theorem dX7_orderOf_71 : decode cX7_orderOf 71 = .ok (.invokestatic 101, 3) := dTo1_21.2.2.2.2.1.1
theorem dX7_orderOf_74 : decode cX7_orderOf 74 = .ok (.ireturn, 1) := dTo1_21.2.2.2.2.1.2.1
theorem dX7_orderOf_75 : decode cX7_orderOf 75 = .ok (.aload_n 0, 1) := dTo1_21.2.2.2.2.1.2.2.1
theorem dX7_orderOf_76 : decode cX7_orderOf 76 = .ok (.aload_n 0, 1) := dTo1_21.2.2.2.2.1.2.2.2.1
theorem dX7_orderOf_77 : decode cX7_orderOf 77 = .ok (.getfield 28, 3) := dTo1_21.2.2.2.2.1.2.2.2.2.1
theorem dX7_orderOf_80 : decode cX7_orderOf 80 = .ok (.iload_n 1, 1) := dTo1_21.2.2.2.2.1.2.2.2.2.2.1
theorem dX7_orderOf_81 : decode cX7_orderOf 81 = .ok (.iaload, 1) := dTo1_21.2.2.2.2.1.2.2.2.2.2.2.1
theorem dX7_orderOf_82 : decode cX7_orderOf 82 = .ok (.aload_n 0, 1) := dTo1_21.2.2.2.2.1.2.2.2.2.2.2.2.1
theorem dX7_orderOf_83 : decode cX7_orderOf 83 = .ok (.getfield 31, 3) := dTo1_21.2.2.2.2.1.2.2.2.2.2.2.2.2.1
theorem dX7_orderOf_86 : decode cX7_orderOf 86 = .ok (.iload_n 1, 1) := dTo1_21.2.2.2.2.1.2.2.2.2.2.2.2.2.2.1
theorem dX7_orderOf_87 : decode cX7_orderOf 87 = .ok (.iaload, 1) := dTo1_21.2.2.2.2.2.1.1
theorem dX7_orderOf_88 : decode cX7_orderOf 88 = .ok (.invokevirtual 88, 3) := dTo1_21.2.2.2.2.2.1.2.1
theorem dX7_orderOf_91 : decode cX7_orderOf 91 = .ok (.aload_n 0, 1) := dTo1_21.2.2.2.2.2.1.2.2.1
theorem dX7_orderOf_92 : decode cX7_orderOf 92 = .ok (.aload_n 0, 1) := dTo1_21.2.2.2.2.2.1.2.2.2.1
theorem dX7_orderOf_93 : decode cX7_orderOf 93 = .ok (.getfield 28, 3) := dTo1_21.2.2.2.2.2.1.2.2.2.2.1
theorem dX7_orderOf_96 : decode cX7_orderOf 96 = .ok (.iload_n 2, 1) := dTo1_21.2.2.2.2.2.1.2.2.2.2.2.1
theorem dX7_orderOf_97 : decode cX7_orderOf 97 = .ok (.iaload, 1) := dTo1_21.2.2.2.2.2.1.2.2.2.2.2.2.1
theorem dX7_orderOf_98 : decode cX7_orderOf 98 = .ok (.aload_n 0, 1) := dTo1_21.2.2.2.2.2.1.2.2.2.2.2.2.2.1
theorem dX7_orderOf_99 : decode cX7_orderOf 99 = .ok (.getfield 31, 3) := dTo1_21.2.2.2.2.2.1.2.2.2.2.2.2.2.2.1
theorem dX7_orderOf_102 : decode cX7_orderOf 102 = .ok (.iload_n 2, 1) := dTo1_21.2.2.2.2.2.1.2.2.2.2.2.2.2.2.2.1
theorem dTo1_22 : dQ cX7_orderOf [[(103, .iaload, 1), (104, .invokevirtual 88, 3), (107, .invokestatic 106, 3), (110, .istore 5, 2), (112, .iload 5, 2), (114, .ifCond .ne 34, 3), (117, .aload_n 0, 1), (118, .iload_n 1, 1), (119, .invokevirtual 109, 3), (122, .ifCond .eq 26, 3)], [(125, .aload_n 0, 1), (126, .iload_n 2, 1), (127, .invokevirtual 109, 3), (130, .ifCond .eq 18, 3), (133, .aload_n 0, 1), (134, .getfield 34, 3), (137, .iload_n 1, 1), (138, .baload, 1), (139, .aload_n 0, 1), (140, .getfield 34, 3)], [(143, .iload_n 2, 1), (144, .baload, 1), (145, .if_icmp .ne 6, 3), (148, .iload 5, 2), (150, .ireturn, 1), (151, .aload_n 0, 1), (152, .getfield 34, 3), (155, .iload_n 1, 1), (156, .baload, 1), (157, .ifCond .eq 7, 3)], [(160, .iconst (-1), 1), (161, .goto 4, 3), (164, .iconst 1, 1), (165, .ireturn, 1)]] := dQ_of _ _ (by decide +kernel)
theorem dX7_orderOf_103 : decode cX7_orderOf 103 = .ok (.iaload, 1) := dTo1_22.1.1
theorem dX7_orderOf_104 : decode cX7_orderOf 104 = .ok (.invokevirtual 88, 3) := dTo1_22.1.2.1
theorem dX7_orderOf_107 : decode cX7_orderOf 107 = .ok (.invokestatic 106, 3) := dTo1_22.1.2.2.1
theorem dX7_orderOf_110 : decode cX7_orderOf 110 = .ok (.istore 5, 2) := dTo1_22.1.2.2.2.1
theorem dX7_orderOf_112 : decode cX7_orderOf 112 = .ok (.iload 5, 2) := dTo1_22.1.2.2.2.2.1
theorem dX7_orderOf_114 : decode cX7_orderOf 114 = .ok (.ifCond .ne 34, 3) := dTo1_22.1.2.2.2.2.2.1
theorem dX7_orderOf_117 : decode cX7_orderOf 117 = .ok (.aload_n 0, 1) := dTo1_22.1.2.2.2.2.2.2.1
theorem dX7_orderOf_118 : decode cX7_orderOf 118 = .ok (.iload_n 1, 1) := dTo1_22.1.2.2.2.2.2.2.2.1
theorem dX7_orderOf_119 : decode cX7_orderOf 119 = .ok (.invokevirtual 109, 3) := dTo1_22.1.2.2.2.2.2.2.2.2.1
theorem dX7_orderOf_122 : decode cX7_orderOf 122 = .ok (.ifCond .eq 26, 3) := dTo1_22.1.2.2.2.2.2.2.2.2.2.1
theorem dX7_orderOf_125 : decode cX7_orderOf 125 = .ok (.aload_n 0, 1) := dTo1_22.2.1.1
theorem dX7_orderOf_126 : decode cX7_orderOf 126 = .ok (.iload_n 2, 1) := dTo1_22.2.1.2.1
theorem dX7_orderOf_127 : decode cX7_orderOf 127 = .ok (.invokevirtual 109, 3) := dTo1_22.2.1.2.2.1
theorem dX7_orderOf_130 : decode cX7_orderOf 130 = .ok (.ifCond .eq 18, 3) := dTo1_22.2.1.2.2.2.1
theorem dX7_orderOf_133 : decode cX7_orderOf 133 = .ok (.aload_n 0, 1) := dTo1_22.2.1.2.2.2.2.1
theorem dX7_orderOf_134 : decode cX7_orderOf 134 = .ok (.getfield 34, 3) := dTo1_22.2.1.2.2.2.2.2.1
theorem dX7_orderOf_137 : decode cX7_orderOf 137 = .ok (.iload_n 1, 1) := dTo1_22.2.1.2.2.2.2.2.2.1
theorem dX7_orderOf_138 : decode cX7_orderOf 138 = .ok (.baload, 1) := dTo1_22.2.1.2.2.2.2.2.2.2.1
theorem dX7_orderOf_139 : decode cX7_orderOf 139 = .ok (.aload_n 0, 1) := dTo1_22.2.1.2.2.2.2.2.2.2.2.1
theorem dX7_orderOf_140 : decode cX7_orderOf 140 = .ok (.getfield 34, 3) := dTo1_22.2.1.2.2.2.2.2.2.2.2.2.1
theorem dX7_orderOf_143 : decode cX7_orderOf 143 = .ok (.iload_n 2, 1) := dTo1_22.2.2.1.1
theorem dX7_orderOf_144 : decode cX7_orderOf 144 = .ok (.baload, 1) := dTo1_22.2.2.1.2.1
theorem dX7_orderOf_145 : decode cX7_orderOf 145 = .ok (.if_icmp .ne 6, 3) := dTo1_22.2.2.1.2.2.1
theorem dX7_orderOf_148 : decode cX7_orderOf 148 = .ok (.iload 5, 2) := dTo1_22.2.2.1.2.2.2.1
theorem dX7_orderOf_150 : decode cX7_orderOf 150 = .ok (.ireturn, 1) := dTo1_22.2.2.1.2.2.2.2.1
theorem dX7_orderOf_151 : decode cX7_orderOf 151 = .ok (.aload_n 0, 1) := dTo1_22.2.2.1.2.2.2.2.2.1
theorem dX7_orderOf_152 : decode cX7_orderOf 152 = .ok (.getfield 34, 3) := dTo1_22.2.2.1.2.2.2.2.2.2.1
theorem dX7_orderOf_155 : decode cX7_orderOf 155 = .ok (.iload_n 1, 1) := dTo1_22.2.2.1.2.2.2.2.2.2.2.1
theorem dX7_orderOf_156 : decode cX7_orderOf 156 = .ok (.baload, 1) := dTo1_22.2.2.1.2.2.2.2.2.2.2.2.1
theorem dX7_orderOf_157 : decode cX7_orderOf 157 = .ok (.ifCond .eq 7, 3) := dTo1_22.2.2.1.2.2.2.2.2.2.2.2.2.1
theorem dX7_orderOf_160 : decode cX7_orderOf 160 = .ok (.iconst (-1), 1) := dTo1_22.2.2.2.1.1
theorem dX7_orderOf_161 : decode cX7_orderOf 161 = .ok (.goto 4, 3) := dTo1_22.2.2.2.1.2.1
theorem dX7_orderOf_164 : decode cX7_orderOf 164 = .ok (.iconst 1, 1) := dTo1_22.2.2.2.1.2.2.1
theorem dX7_orderOf_165 : decode cX7_orderOf 165 = .ok (.ireturn, 1) := dTo1_22.2.2.2.1.2.2.2.1
theorem dTo1_23 : dQ cX7_isNought [[(0, .aload_n 0, 1), (1, .getfield 28, 3), (4, .iload_n 1, 1), (5, .iaload, 1), (6, .ifCond .ne 16, 3), (9, .aload_n 0, 1), (10, .getfield 31, 3), (13, .iload_n 1, 1), (14, .iaload, 1), (15, .ifCond .ne 7, 3)], [(18, .iconst 1, 1), (19, .goto 4, 3), (22, .iconst 0, 1), (23, .ireturn, 1)]] := dQ_of _ _ (by decide +kernel)
theorem dX7_isNought_0 : decode cX7_isNought 0 = .ok (.aload_n 0, 1) := dTo1_23.1.1
theorem dX7_isNought_1 : decode cX7_isNought 1 = .ok (.getfield 28, 3) := dTo1_23.1.2.1
theorem dX7_isNought_4 : decode cX7_isNought 4 = .ok (.iload_n 1, 1) := dTo1_23.1.2.2.1
theorem dX7_isNought_5 : decode cX7_isNought 5 = .ok (.iaload, 1) := dTo1_23.1.2.2.2.1
theorem dX7_isNought_6 : decode cX7_isNought 6 = .ok (.ifCond .ne 16, 3) := dTo1_23.1.2.2.2.2.1
theorem dX7_isNought_9 : decode cX7_isNought 9 = .ok (.aload_n 0, 1) := dTo1_23.1.2.2.2.2.2.1
theorem dX7_isNought_10 : decode cX7_isNought 10 = .ok (.getfield 31, 3) := dTo1_23.1.2.2.2.2.2.2.1
theorem dX7_isNought_13 : decode cX7_isNought 13 = .ok (.iload_n 1, 1) := dTo1_23.1.2.2.2.2.2.2.2.1
theorem dX7_isNought_14 : decode cX7_isNought 14 = .ok (.iaload, 1) := dTo1_23.1.2.2.2.2.2.2.2.2.1
theorem dX7_isNought_15 : decode cX7_isNought 15 = .ok (.ifCond .ne 7, 3) := dTo1_23.1.2.2.2.2.2.2.2.2.2.1
theorem dX7_isNought_18 : decode cX7_isNought 18 = .ok (.iconst 1, 1) := dTo1_23.2.1.1
theorem dX7_isNought_19 : decode cX7_isNought 19 = .ok (.goto 4, 3) := dTo1_23.2.1.2.1
theorem dX7_isNought_22 : decode cX7_isNought 22 = .ok (.iconst 0, 1) := dTo1_23.2.1.2.2.1
theorem dX7_isNought_23 : decode cX7_isNought 23 = .ok (.ireturn, 1) := dTo1_23.2.1.2.2.2.1
theorem dTo1_24 : dQ cX7_areAlike [[(0, .aload_n 0, 1), (1, .getfield 28, 3), (4, .iload_n 1, 1), (5, .iaload, 1), (6, .aload_n 0, 1), (7, .getfield 28, 3), (10, .iload_n 2, 1), (11, .iaload, 1), (12, .if_icmp .ne 37, 3), (15, .aload_n 0, 1)], [(16, .getfield 31, 3), (19, .iload_n 1, 1), (20, .iaload, 1), (21, .aload_n 0, 1), (22, .getfield 31, 3), (25, .iload_n 2, 1), (26, .iaload, 1), (27, .if_icmp .ne 22, 3), (30, .aload_n 0, 1), (31, .getfield 34, 3)], [(34, .iload_n 1, 1), (35, .baload, 1), (36, .aload_n 0, 1), (37, .getfield 34, 3), (40, .iload_n 2, 1), (41, .baload, 1), (42, .if_icmp .ne 7, 3), (45, .iconst 1, 1), (46, .goto 4, 3), (49, .iconst 0, 1)], [(50, .ireturn, 1)]] := dQ_of _ _ (by decide +kernel)
theorem dX7_areAlike_0 : decode cX7_areAlike 0 = .ok (.aload_n 0, 1) := dTo1_24.1.1
theorem dX7_areAlike_1 : decode cX7_areAlike 1 = .ok (.getfield 28, 3) := dTo1_24.1.2.1
theorem dX7_areAlike_4 : decode cX7_areAlike 4 = .ok (.iload_n 1, 1) := dTo1_24.1.2.2.1
theorem dX7_areAlike_5 : decode cX7_areAlike 5 = .ok (.iaload, 1) := dTo1_24.1.2.2.2.1
theorem dX7_areAlike_6 : decode cX7_areAlike 6 = .ok (.aload_n 0, 1) := dTo1_24.1.2.2.2.2.1
theorem dX7_areAlike_7 : decode cX7_areAlike 7 = .ok (.getfield 28, 3) := dTo1_24.1.2.2.2.2.2.1
theorem dX7_areAlike_10 : decode cX7_areAlike 10 = .ok (.iload_n 2, 1) := dTo1_24.1.2.2.2.2.2.2.1
theorem dX7_areAlike_11 : decode cX7_areAlike 11 = .ok (.iaload, 1) := dTo1_24.1.2.2.2.2.2.2.2.1
theorem dX7_areAlike_12 : decode cX7_areAlike 12 = .ok (.if_icmp .ne 37, 3) := dTo1_24.1.2.2.2.2.2.2.2.2.1
theorem dX7_areAlike_15 : decode cX7_areAlike 15 = .ok (.aload_n 0, 1) := dTo1_24.1.2.2.2.2.2.2.2.2.2.1
theorem dX7_areAlike_16 : decode cX7_areAlike 16 = .ok (.getfield 31, 3) := dTo1_24.2.1.1
theorem dX7_areAlike_19 : decode cX7_areAlike 19 = .ok (.iload_n 1, 1) := dTo1_24.2.1.2.1
theorem dX7_areAlike_20 : decode cX7_areAlike 20 = .ok (.iaload, 1) := dTo1_24.2.1.2.2.1
theorem dX7_areAlike_21 : decode cX7_areAlike 21 = .ok (.aload_n 0, 1) := dTo1_24.2.1.2.2.2.1
theorem dX7_areAlike_22 : decode cX7_areAlike 22 = .ok (.getfield 31, 3) := dTo1_24.2.1.2.2.2.2.1
theorem dX7_areAlike_25 : decode cX7_areAlike 25 = .ok (.iload_n 2, 1) := dTo1_24.2.1.2.2.2.2.2.1
theorem dX7_areAlike_26 : decode cX7_areAlike 26 = .ok (.iaload, 1) := dTo1_24.2.1.2.2.2.2.2.2.1
theorem dX7_areAlike_27 : decode cX7_areAlike 27 = .ok (.if_icmp .ne 22, 3) := dTo1_24.2.1.2.2.2.2.2.2.2.1
theorem dX7_areAlike_30 : decode cX7_areAlike 30 = .ok (.aload_n 0, 1) := dTo1_24.2.1.2.2.2.2.2.2.2.2.1
theorem dX7_areAlike_31 : decode cX7_areAlike 31 = .ok (.getfield 34, 3) := dTo1_24.2.1.2.2.2.2.2.2.2.2.2.1
theorem dX7_areAlike_34 : decode cX7_areAlike 34 = .ok (.iload_n 1, 1) := dTo1_24.2.2.1.1
theorem dX7_areAlike_35 : decode cX7_areAlike 35 = .ok (.baload, 1) := dTo1_24.2.2.1.2.1
theorem dX7_areAlike_36 : decode cX7_areAlike 36 = .ok (.aload_n 0, 1) := dTo1_24.2.2.1.2.2.1
theorem dX7_areAlike_37 : decode cX7_areAlike 37 = .ok (.getfield 34, 3) := dTo1_24.2.2.1.2.2.2.1
theorem dX7_areAlike_40 : decode cX7_areAlike 40 = .ok (.iload_n 2, 1) := dTo1_24.2.2.1.2.2.2.2.1
theorem dX7_areAlike_41 : decode cX7_areAlike 41 = .ok (.baload, 1) := dTo1_24.2.2.1.2.2.2.2.2.1
theorem dX7_areAlike_42 : decode cX7_areAlike 42 = .ok (.if_icmp .ne 7, 3) := dTo1_24.2.2.1.2.2.2.2.2.2.1
theorem dX7_areAlike_45 : decode cX7_areAlike 45 = .ok (.iconst 1, 1) := dTo1_24.2.2.1.2.2.2.2.2.2.2.1
theorem dX7_areAlike_46 : decode cX7_areAlike 46 = .ok (.goto 4, 3) := dTo1_24.2.2.1.2.2.2.2.2.2.2.2.1
theorem dX7_areAlike_49 : decode cX7_areAlike 49 = .ok (.iconst 0, 1) := dTo1_24.2.2.1.2.2.2.2.2.2.2.2.2.1
theorem dX7_areAlike_50 : decode cX7_areAlike 50 = .ok (.ireturn, 1) := dTo1_24.2.2.2.1.1
theorem dTo1_25 : dQ cX7_areNear [[(0, .aload_n 0, 1), (1, .getfield 28, 3), (4, .iload_n 1, 1), (5, .iaload, 1), (6, .ifCond .ne 17, 3), (9, .aload_n 0, 1), (10, .getfield 28, 3), (13, .iload_n 2, 1), (14, .iaload, 1), (15, .iconst 4, 1)], [(16, .if_icmp .le 7, 3), (19, .iconst 1, 1), (20, .goto 4, 3), (23, .iconst 0, 1), (24, .istore_n 3, 1), (25, .aload_n 0, 1), (26, .getfield 28, 3), (29, .iload_n 2, 1), (30, .iaload, 1), (31, .ifCond .ne 17, 3)], [(34, .aload_n 0, 1), (35, .getfield 28, 3), (38, .iload_n 1, 1), (39, .iaload, 1), (40, .iconst 4, 1), (41, .if_icmp .le 7, 3), (44, .iconst 1, 1), (45, .goto 4, 3), (48, .iconst 0, 1), (49, .istore 4, 2)], [(51, .iload_n 3, 1), (52, .ifCond .ne 8, 3), (55, .iload 4, 2), (57, .ifCond .eq 22, 3), (60, .aload_n 0, 1), (61, .getfield 31, 3), (64, .iload_n 1, 1), (65, .iaload, 1), (66, .aload_n 0, 1), (67, .getfield 31, 3)], [(70, .iload_n 2, 1), (71, .iaload, 1), (72, .if_icmp .ne 7, 3), (75, .iconst 1, 1), (76, .goto 4, 3), (79, .iconst 0, 1), (80, .ireturn, 1)]] := dQ_of _ _ (by decide +kernel)
theorem dX7_areNear_0 : decode cX7_areNear 0 = .ok (.aload_n 0, 1) := dTo1_25.1.1
theorem dX7_areNear_1 : decode cX7_areNear 1 = .ok (.getfield 28, 3) := dTo1_25.1.2.1
theorem dX7_areNear_4 : decode cX7_areNear 4 = .ok (.iload_n 1, 1) := dTo1_25.1.2.2.1
theorem dX7_areNear_5 : decode cX7_areNear 5 = .ok (.iaload, 1) := dTo1_25.1.2.2.2.1
theorem dX7_areNear_6 : decode cX7_areNear 6 = .ok (.ifCond .ne 17, 3) := dTo1_25.1.2.2.2.2.1
theorem dX7_areNear_9 : decode cX7_areNear 9 = .ok (.aload_n 0, 1) := dTo1_25.1.2.2.2.2.2.1
theorem dX7_areNear_10 : decode cX7_areNear 10 = .ok (.getfield 28, 3) := dTo1_25.1.2.2.2.2.2.2.1
theorem dX7_areNear_13 : decode cX7_areNear 13 = .ok (.iload_n 2, 1) := dTo1_25.1.2.2.2.2.2.2.2.1
theorem dX7_areNear_14 : decode cX7_areNear 14 = .ok (.iaload, 1) := dTo1_25.1.2.2.2.2.2.2.2.2.1
theorem dX7_areNear_15 : decode cX7_areNear 15 = .ok (.iconst 4, 1) := dTo1_25.1.2.2.2.2.2.2.2.2.2.1
theorem dX7_areNear_16 : decode cX7_areNear 16 = .ok (.if_icmp .le 7, 3) := dTo1_25.2.1.1
theorem dX7_areNear_19 : decode cX7_areNear 19 = .ok (.iconst 1, 1) := dTo1_25.2.1.2.1
theorem dX7_areNear_20 : decode cX7_areNear 20 = .ok (.goto 4, 3) := dTo1_25.2.1.2.2.1
theorem dX7_areNear_23 : decode cX7_areNear 23 = .ok (.iconst 0, 1) := dTo1_25.2.1.2.2.2.1
theorem dX7_areNear_24 : decode cX7_areNear 24 = .ok (.istore_n 3, 1) := dTo1_25.2.1.2.2.2.2.1
theorem dX7_areNear_25 : decode cX7_areNear 25 = .ok (.aload_n 0, 1) := dTo1_25.2.1.2.2.2.2.2.1
theorem dX7_areNear_26 : decode cX7_areNear 26 = .ok (.getfield 28, 3) := dTo1_25.2.1.2.2.2.2.2.2.1
theorem dX7_areNear_29 : decode cX7_areNear 29 = .ok (.iload_n 2, 1) := dTo1_25.2.1.2.2.2.2.2.2.2.1
theorem dX7_areNear_30 : decode cX7_areNear 30 = .ok (.iaload, 1) := dTo1_25.2.1.2.2.2.2.2.2.2.2.1
theorem dX7_areNear_31 : decode cX7_areNear 31 = .ok (.ifCond .ne 17, 3) := dTo1_25.2.1.2.2.2.2.2.2.2.2.2.1
theorem dX7_areNear_34 : decode cX7_areNear 34 = .ok (.aload_n 0, 1) := dTo1_25.2.2.1.1
theorem dX7_areNear_35 : decode cX7_areNear 35 = .ok (.getfield 28, 3) := dTo1_25.2.2.1.2.1
theorem dX7_areNear_38 : decode cX7_areNear 38 = .ok (.iload_n 1, 1) := dTo1_25.2.2.1.2.2.1
theorem dX7_areNear_39 : decode cX7_areNear 39 = .ok (.iaload, 1) := dTo1_25.2.2.1.2.2.2.1
theorem dX7_areNear_40 : decode cX7_areNear 40 = .ok (.iconst 4, 1) := dTo1_25.2.2.1.2.2.2.2.1
theorem dX7_areNear_41 : decode cX7_areNear 41 = .ok (.if_icmp .le 7, 3) := dTo1_25.2.2.1.2.2.2.2.2.1
theorem dX7_areNear_44 : decode cX7_areNear 44 = .ok (.iconst 1, 1) := dTo1_25.2.2.1.2.2.2.2.2.2.1
theorem dX7_areNear_45 : decode cX7_areNear 45 = .ok (.goto 4, 3) := dTo1_25.2.2.1.2.2.2.2.2.2.2.1
theorem dX7_areNear_48 : decode cX7_areNear 48 = .ok (.iconst 0, 1) := dTo1_25.2.2.1.2.2.2.2.2.2.2.2.1
theorem dX7_areNear_49 : decode cX7_areNear 49 = .ok (.istore 4, 2) := dTo1_25.2.2.1.2.2.2.2.2.2.2.2.2.1
theorem dX7_areNear_51 : decode cX7_areNear 51 = .ok (.iload_n 3, 1) := dTo1_25.2.2.2.1.1
theorem dX7_areNear_52 : decode cX7_areNear 52 = .ok (.ifCond .ne 8, 3) := dTo1_25.2.2.2.1.2.1
theorem dX7_areNear_55 : decode cX7_areNear 55 = .ok (.iload 4, 2) := dTo1_25.2.2.2.1.2.2.1
theorem dX7_areNear_57 : decode cX7_areNear 57 = .ok (.ifCond .eq 22, 3) := dTo1_25.2.2.2.1.2.2.2.1
theorem dX7_areNear_60 : decode cX7_areNear 60 = .ok (.aload_n 0, 1) := dTo1_25.2.2.2.1.2.2.2.2.1
theorem dX7_areNear_61 : decode cX7_areNear 61 = .ok (.getfield 31, 3) := dTo1_25.2.2.2.1.2.2.2.2.2.1
theorem dX7_areNear_64 : decode cX7_areNear 64 = .ok (.iload_n 1, 1) := dTo1_25.2.2.2.1.2.2.2.2.2.2.1
theorem dX7_areNear_65 : decode cX7_areNear 65 = .ok (.iaload, 1) := dTo1_25.2.2.2.1.2.2.2.2.2.2.2.1
theorem dX7_areNear_66 : decode cX7_areNear 66 = .ok (.aload_n 0, 1) := dTo1_25.2.2.2.1.2.2.2.2.2.2.2.2.1
theorem dX7_areNear_67 : decode cX7_areNear 67 = .ok (.getfield 31, 3) := dTo1_25.2.2.2.1.2.2.2.2.2.2.2.2.2.1
theorem dX7_areNear_70 : decode cX7_areNear 70 = .ok (.iload_n 2, 1) := dTo1_25.2.2.2.2.1.1
theorem dX7_areNear_71 : decode cX7_areNear 71 = .ok (.iaload, 1) := dTo1_25.2.2.2.2.1.2.1
theorem dX7_areNear_72 : decode cX7_areNear 72 = .ok (.if_icmp .ne 7, 3) := dTo1_25.2.2.2.2.1.2.2.1
theorem dX7_areNear_75 : decode cX7_areNear 75 = .ok (.iconst 1, 1) := dTo1_25.2.2.2.2.1.2.2.2.1
theorem dX7_areNear_76 : decode cX7_areNear 76 = .ok (.goto 4, 3) := dTo1_25.2.2.2.2.1.2.2.2.2.1
theorem dX7_areNear_79 : decode cX7_areNear 79 = .ok (.iconst 0, 1) := dTo1_25.2.2.2.2.1.2.2.2.2.2.1
theorem dX7_areNear_80 : decode cX7_areNear 80 = .ok (.ireturn, 1) := dTo1_25.2.2.2.2.1.2.2.2.2.2.2.1
theorem dTo1_26 : dQ cX7_isIn [[(0, .iload_n 0, 1), (1, .iload_n 1, 1), (2, .if_icmp .lt 12, 3), (5, .iload_n 0, 1), (6, .iload_n 2, 1), (7, .if_icmp .gt 7, 3), (10, .iconst 1, 1), (11, .goto 4, 3), (14, .iconst 0, 1), (15, .ireturn, 1)]] := dQ_of _ _ (by decide +kernel)
theorem dX7_isIn_0 : decode cX7_isIn 0 = .ok (.iload_n 0, 1) := dTo1_26.1.1
theorem dX7_isIn_1 : decode cX7_isIn 1 = .ok (.iload_n 1, 1) := dTo1_26.1.2.1
theorem dX7_isIn_2 : decode cX7_isIn 2 = .ok (.if_icmp .lt 12, 3) := dTo1_26.1.2.2.1
theorem dX7_isIn_5 : decode cX7_isIn 5 = .ok (.iload_n 0, 1) := dTo1_26.1.2.2.2.1
theorem dX7_isIn_6 : decode cX7_isIn 6 = .ok (.iload_n 2, 1) := dTo1_26.1.2.2.2.2.1
theorem dX7_isIn_7 : decode cX7_isIn 7 = .ok (.if_icmp .gt 7, 3) := dTo1_26.1.2.2.2.2.2.1
theorem dX7_isIn_10 : decode cX7_isIn 10 = .ok (.iconst 1, 1) := dTo1_26.1.2.2.2.2.2.2.1
theorem dX7_isIn_11 : decode cX7_isIn 11 = .ok (.goto 4, 3) := dTo1_26.1.2.2.2.2.2.2.2.1
theorem dX7_isIn_14 : decode cX7_isIn 14 = .ok (.iconst 0, 1) := dTo1_26.1.2.2.2.2.2.2.2.2.1
theorem dX7_isIn_15 : decode cX7_isIn 15 = .ok (.ireturn, 1) := dTo1_26.1.2.2.2.2.2.2.2.2.2.1
theorem dTo1_27 : dQ cX7_isRefused [[(0, .aload_n 0, 1), (1, .iload_n 1, 1), (2, .ifCond .eq 7, 3), (5, .iconst 1, 1), (6, .goto 12, 3), (9, .iload_n 2, 1), (10, .ifCond .eq 7, 3), (13, .iconst 2, 1), (14, .goto 4, 3), (17, .iconst 0, 1)], [(18, .putfield 50, 3), (21, .aload_n 0, 1), (22, .getfield 50, 3), (25, .ifCond .eq 7, 3), (28, .iconst 1, 1), (29, .goto 4, 3), (32, .iconst 0, 1), (33, .ireturn, 1)]] := dQ_of _ _ (by decide +kernel)
theorem dX7_isRefused_0 : decode cX7_isRefused 0 = .ok (.aload_n 0, 1) := dTo1_27.1.1
theorem dX7_isRefused_1 : decode cX7_isRefused 1 = .ok (.iload_n 1, 1) := dTo1_27.1.2.1
theorem dX7_isRefused_2 : decode cX7_isRefused 2 = .ok (.ifCond .eq 7, 3) := dTo1_27.1.2.2.1
theorem dX7_isRefused_5 : decode cX7_isRefused 5 = .ok (.iconst 1, 1) := dTo1_27.1.2.2.2.1
theorem dX7_isRefused_6 : decode cX7_isRefused 6 = .ok (.goto 12, 3) := dTo1_27.1.2.2.2.2.1
theorem dX7_isRefused_9 : decode cX7_isRefused 9 = .ok (.iload_n 2, 1) := dTo1_27.1.2.2.2.2.2.1
theorem dX7_isRefused_10 : decode cX7_isRefused 10 = .ok (.ifCond .eq 7, 3) := dTo1_27.1.2.2.2.2.2.2.1
theorem dX7_isRefused_13 : decode cX7_isRefused 13 = .ok (.iconst 2, 1) := dTo1_27.1.2.2.2.2.2.2.2.1
theorem dX7_isRefused_14 : decode cX7_isRefused 14 = .ok (.goto 4, 3) := dTo1_27.1.2.2.2.2.2.2.2.2.1
theorem dX7_isRefused_17 : decode cX7_isRefused 17 = .ok (.iconst 0, 1) := dTo1_27.1.2.2.2.2.2.2.2.2.2.1
theorem dX7_isRefused_18 : decode cX7_isRefused 18 = .ok (.putfield 50, 3) := dTo1_27.2.1.1
theorem dX7_isRefused_21 : decode cX7_isRefused 21 = .ok (.aload_n 0, 1) := dTo1_27.2.1.2.1
theorem dX7_isRefused_22 : decode cX7_isRefused 22 = .ok (.getfield 50, 3) := dTo1_27.2.1.2.2.1
theorem dX7_isRefused_25 : decode cX7_isRefused 25 = .ok (.ifCond .eq 7, 3) := dTo1_27.2.1.2.2.2.1
theorem dX7_isRefused_28 : decode cX7_isRefused 28 = .ok (.iconst 1, 1) := dTo1_27.2.1.2.2.2.2.1
theorem dX7_isRefused_29 : decode cX7_isRefused 29 = .ok (.goto 4, 3) := dTo1_27.2.1.2.2.2.2.2.1
theorem dX7_isRefused_32 : decode cX7_isRefused 32 = .ok (.iconst 0, 1) := dTo1_27.2.1.2.2.2.2.2.2.1
theorem dX7_isRefused_33 : decode cX7_isRefused 33 = .ok (.ireturn, 1) := dTo1_27.2.1.2.2.2.2.2.2.2.1
theorem dTo1_28 : dQ cX7_isNoCell [[(0, .iload_n 0, 1), (1, .iconst 0, 1), (2, .bipush 7, 2), (4, .invokestatic 113, 3), (7, .ifCond .ne 7, 3), (10, .iconst 1, 1), (11, .goto 4, 3), (14, .iconst 0, 1), (15, .ireturn, 1)]] := dQ_of _ _ (by decide +kernel)
theorem dX7_isNoCell_0 : decode cX7_isNoCell 0 = .ok (.iload_n 0, 1) := dTo1_28.1.1
theorem dX7_isNoCell_1 : decode cX7_isNoCell 1 = .ok (.iconst 0, 1) := dTo1_28.1.2.1
theorem dX7_isNoCell_2 : decode cX7_isNoCell 2 = .ok (.bipush 7, 2) := dTo1_28.1.2.2.1
theorem dX7_isNoCell_4 : decode cX7_isNoCell 4 = .ok (.invokestatic 113, 3) := dTo1_28.1.2.2.2.1
theorem dX7_isNoCell_7 : decode cX7_isNoCell 7 = .ok (.ifCond .ne 7, 3) := dTo1_28.1.2.2.2.2.1
theorem dX7_isNoCell_10 : decode cX7_isNoCell 10 = .ok (.iconst 1, 1) := dTo1_28.1.2.2.2.2.2.1
theorem dX7_isNoCell_11 : decode cX7_isNoCell 11 = .ok (.goto 4, 3) := dTo1_28.1.2.2.2.2.2.2.1
theorem dX7_isNoCell_14 : decode cX7_isNoCell 14 = .ok (.iconst 0, 1) := dTo1_28.1.2.2.2.2.2.2.2.1
theorem dX7_isNoCell_15 : decode cX7_isNoCell 15 = .ok (.ireturn, 1) := dTo1_28.1.2.2.2.2.2.2.2.2.1
theorem dTo1_29 : dQ cX7_come [[(0, .aload_n 0, 1), (1, .getfield 28, 3), (4, .iload_n 1, 1), (5, .iaload, 1), (6, .iload_n 2, 1), (7, .if_icmp .ne 28, 3), (10, .aload_n 0, 1), (11, .getfield 31, 3), (14, .iload_n 1, 1), (15, .iaload, 1)], [(16, .iload_n 3, 1), (17, .if_icmp .ne 18, 3), (20, .aload_n 0, 1), (21, .getfield 34, 3), (24, .iload_n 1, 1), (25, .baload, 1), (26, .iload 4, 2), (28, .if_icmp .ne 7, 3), (31, .iconst 1, 1), (32, .goto 4, 3)], [(35, .iconst 0, 1), (36, .istore 5, 2), (38, .aload_n 0, 1), (39, .getfield 28, 3), (42, .iload_n 1, 1), (43, .iload_n 2, 1), (44, .iastore, 1), (45, .aload_n 0, 1), (46, .getfield 31, 3), (49, .iload_n 1, 1)], [(50, .iload_n 3, 1), (51, .iastore, 1), (52, .aload_n 0, 1), (53, .getfield 34, 3), (56, .iload_n 1, 1), (57, .iload 4, 2), (59, .bastore, 1), (60, .aload_n 0, 1), (61, .dup, 1), (62, .getfield 117, 3)], [(65, .iconst 1, 1), (66, .iadd, 1), (67, .putfield 117, 3), (70, .iload 5, 2), (72, .ifCond .eq 7, 3), (75, .iconst 0, 1), (76, .goto 4, 3), (79, .iconst 1, 1), (80, .ireturn, 1)]] := dQ_of _ _ (by decide +kernel)
theorem dX7_come_0 : decode cX7_come 0 = .ok (.aload_n 0, 1) := dTo1_29.1.1
theorem dX7_come_1 : decode cX7_come 1 = .ok (.getfield 28, 3) := dTo1_29.1.2.1
theorem dX7_come_4 : decode cX7_come 4 = .ok (.iload_n 1, 1) := dTo1_29.1.2.2.1
theorem dX7_come_5 : decode cX7_come 5 = .ok (.iaload, 1) := dTo1_29.1.2.2.2.1
theorem dX7_come_6 : decode cX7_come 6 = .ok (.iload_n 2, 1) := dTo1_29.1.2.2.2.2.1
theorem dX7_come_7 : decode cX7_come 7 = .ok (.if_icmp .ne 28, 3) := dTo1_29.1.2.2.2.2.2.1
theorem dX7_come_10 : decode cX7_come 10 = .ok (.aload_n 0, 1) := dTo1_29.1.2.2.2.2.2.2.1
theorem dX7_come_11 : decode cX7_come 11 = .ok (.getfield 31, 3) := dTo1_29.1.2.2.2.2.2.2.2.1
theorem dX7_come_14 : decode cX7_come 14 = .ok (.iload_n 1, 1) := dTo1_29.1.2.2.2.2.2.2.2.2.1
theorem dX7_come_15 : decode cX7_come 15 = .ok (.iaload, 1) := dTo1_29.1.2.2.2.2.2.2.2.2.2.1
theorem dX7_come_16 : decode cX7_come 16 = .ok (.iload_n 3, 1) := dTo1_29.2.1.1
theorem dX7_come_17 : decode cX7_come 17 = .ok (.if_icmp .ne 18, 3) := dTo1_29.2.1.2.1
theorem dX7_come_20 : decode cX7_come 20 = .ok (.aload_n 0, 1) := dTo1_29.2.1.2.2.1
theorem dX7_come_21 : decode cX7_come 21 = .ok (.getfield 34, 3) := dTo1_29.2.1.2.2.2.1
theorem dX7_come_24 : decode cX7_come 24 = .ok (.iload_n 1, 1) := dTo1_29.2.1.2.2.2.2.1
theorem dX7_come_25 : decode cX7_come 25 = .ok (.baload, 1) := dTo1_29.2.1.2.2.2.2.2.1
theorem dX7_come_26 : decode cX7_come 26 = .ok (.iload 4, 2) := dTo1_29.2.1.2.2.2.2.2.2.1
theorem dX7_come_28 : decode cX7_come 28 = .ok (.if_icmp .ne 7, 3) := dTo1_29.2.1.2.2.2.2.2.2.2.1
theorem dX7_come_31 : decode cX7_come 31 = .ok (.iconst 1, 1) := dTo1_29.2.1.2.2.2.2.2.2.2.2.1
theorem dX7_come_32 : decode cX7_come 32 = .ok (.goto 4, 3) := dTo1_29.2.1.2.2.2.2.2.2.2.2.2.1
theorem dX7_come_35 : decode cX7_come 35 = .ok (.iconst 0, 1) := dTo1_29.2.2.1.1
theorem dX7_come_36 : decode cX7_come 36 = .ok (.istore 5, 2) := dTo1_29.2.2.1.2.1
theorem dX7_come_38 : decode cX7_come 38 = .ok (.aload_n 0, 1) := dTo1_29.2.2.1.2.2.1
theorem dX7_come_39 : decode cX7_come 39 = .ok (.getfield 28, 3) := dTo1_29.2.2.1.2.2.2.1
theorem dX7_come_42 : decode cX7_come 42 = .ok (.iload_n 1, 1) := dTo1_29.2.2.1.2.2.2.2.1
theorem dX7_come_43 : decode cX7_come 43 = .ok (.iload_n 2, 1) := dTo1_29.2.2.1.2.2.2.2.2.1
theorem dX7_come_44 : decode cX7_come 44 = .ok (.iastore, 1) := dTo1_29.2.2.1.2.2.2.2.2.2.1
theorem dX7_come_45 : decode cX7_come 45 = .ok (.aload_n 0, 1) := dTo1_29.2.2.1.2.2.2.2.2.2.2.1
theorem dX7_come_46 : decode cX7_come 46 = .ok (.getfield 31, 3) := dTo1_29.2.2.1.2.2.2.2.2.2.2.2.1
theorem dX7_come_49 : decode cX7_come 49 = .ok (.iload_n 1, 1) := dTo1_29.2.2.1.2.2.2.2.2.2.2.2.2.1
theorem dX7_come_50 : decode cX7_come 50 = .ok (.iload_n 3, 1) := dTo1_29.2.2.2.1.1
theorem dX7_come_51 : decode cX7_come 51 = .ok (.iastore, 1) := dTo1_29.2.2.2.1.2.1
theorem dX7_come_52 : decode cX7_come 52 = .ok (.aload_n 0, 1) := dTo1_29.2.2.2.1.2.2.1
theorem dX7_come_53 : decode cX7_come 53 = .ok (.getfield 34, 3) := dTo1_29.2.2.2.1.2.2.2.1
theorem dX7_come_56 : decode cX7_come 56 = .ok (.iload_n 1, 1) := dTo1_29.2.2.2.1.2.2.2.2.1
theorem dX7_come_57 : decode cX7_come 57 = .ok (.iload 4, 2) := dTo1_29.2.2.2.1.2.2.2.2.2.1
theorem dX7_come_59 : decode cX7_come 59 = .ok (.bastore, 1) := dTo1_29.2.2.2.1.2.2.2.2.2.2.1
theorem dX7_come_60 : decode cX7_come 60 = .ok (.aload_n 0, 1) := dTo1_29.2.2.2.1.2.2.2.2.2.2.2.1
theorem dX7_come_61 : decode cX7_come 61 = .ok (.dup, 1) := dTo1_29.2.2.2.1.2.2.2.2.2.2.2.2.1
theorem dX7_come_62 : decode cX7_come 62 = .ok (.getfield 117, 3) := dTo1_29.2.2.2.1.2.2.2.2.2.2.2.2.2.1
theorem dX7_come_65 : decode cX7_come 65 = .ok (.iconst 1, 1) := dTo1_29.2.2.2.2.1.1
theorem dX7_come_66 : decode cX7_come 66 = .ok (.iadd, 1) := dTo1_29.2.2.2.2.1.2.1
theorem dX7_come_67 : decode cX7_come 67 = .ok (.putfield 117, 3) := dTo1_29.2.2.2.2.1.2.2.1
theorem dX7_come_70 : decode cX7_come 70 = .ok (.iload 5, 2) := dTo1_29.2.2.2.2.1.2.2.2.1
theorem dX7_come_72 : decode cX7_come 72 = .ok (.ifCond .eq 7, 3) := dTo1_29.2.2.2.2.1.2.2.2.2.1
theorem dX7_come_75 : decode cX7_come 75 = .ok (.iconst 0, 1) := dTo1_29.2.2.2.2.1.2.2.2.2.2.1
theorem dX7_come_76 : decode cX7_come 76 = .ok (.goto 4, 3) := dTo1_29.2.2.2.2.1.2.2.2.2.2.2.1
theorem dX7_come_79 : decode cX7_come 79 = .ok (.iconst 1, 1) := dTo1_29.2.2.2.2.1.2.2.2.2.2.2.2.1
theorem dX7_come_80 : decode cX7_come 80 = .ok (.ireturn, 1) := dTo1_29.2.2.2.2.1.2.2.2.2.2.2.2.2.1
theorem dTo1_30 : dQ cX7_refused [[(0, .aload_n 0, 1), (1, .dup, 1), (2, .getfield 120, 3), (5, .iconst 1, 1), (6, .iadd, 1), (7, .putfield 120, 3), (10, .bipush (-9), 2), (12, .ireturn, 1)]] := dQ_of _ _ (by decide +kernel)
theorem dX7_refused_0 : decode cX7_refused 0 = .ok (.aload_n 0, 1) := dTo1_30.1.1
theorem dX7_refused_1 : decode cX7_refused 1 = .ok (.dup, 1) := dTo1_30.1.2.1
theorem dX7_refused_2 : decode cX7_refused 2 = .ok (.getfield 120, 3) := dTo1_30.1.2.2.1
theorem dX7_refused_5 : decode cX7_refused 5 = .ok (.iconst 1, 1) := dTo1_30.1.2.2.2.1
theorem dX7_refused_6 : decode cX7_refused 6 = .ok (.iadd, 1) := dTo1_30.1.2.2.2.2.1
theorem dX7_refused_7 : decode cX7_refused 7 = .ok (.putfield 120, 3) := dTo1_30.1.2.2.2.2.2.1
theorem dX7_refused_10 : decode cX7_refused 10 = .ok (.bipush (-9), 2) := dTo1_30.1.2.2.2.2.2.2.1
theorem dX7_refused_12 : decode cX7_refused 12 = .ok (.ireturn, 1) := dTo1_30.1.2.2.2.2.2.2.2.1
theorem dTo1_31 : dQ cX7_quarter [[(0, .aload_n 0, 1), (1, .iload_n 1, 1), (2, .invokestatic 123, 3), (5, .iload_n 2, 1), (6, .sipush (-160), 3), (9, .sipush 160, 3), (12, .invokestatic 113, 3), (15, .ifCond .ne 7, 3), (18, .iconst 1, 1), (19, .goto 4, 3)], [(22, .iconst 0, 1), (23, .invokevirtual 126, 3), (26, .ifCond .eq 7, 3), (29, .iconst 0, 1), (30, .goto 11, 3), (33, .aload_n 0, 1), (34, .iload_n 1, 1), (35, .iconst 0, 1), (36, .iload_n 2, 1), (37, .iconst 0, 1)], [(38, .invokevirtual 130, 3), (41, .ireturn, 1)]] := dQ_of _ _ (by decide +kernel)
theorem dX7_quarter_0 : decode cX7_quarter 0 = .ok (.aload_n 0, 1) := dTo1_31.1.1
theorem dX7_quarter_1 : decode cX7_quarter 1 = .ok (.iload_n 1, 1) := dTo1_31.1.2.1
theorem dX7_quarter_2 : decode cX7_quarter 2 = .ok (.invokestatic 123, 3) := dTo1_31.1.2.2.1
theorem dX7_quarter_5 : decode cX7_quarter 5 = .ok (.iload_n 2, 1) := dTo1_31.1.2.2.2.1
theorem dX7_quarter_6 : decode cX7_quarter 6 = .ok (.sipush (-160), 3) := dTo1_31.1.2.2.2.2.1
theorem dX7_quarter_9 : decode cX7_quarter 9 = .ok (.sipush 160, 3) := dTo1_31.1.2.2.2.2.2.1
theorem dX7_quarter_12 : decode cX7_quarter 12 = .ok (.invokestatic 113, 3) := dTo1_31.1.2.2.2.2.2.2.1
theorem dX7_quarter_15 : decode cX7_quarter 15 = .ok (.ifCond .ne 7, 3) := dTo1_31.1.2.2.2.2.2.2.2.1
theorem dX7_quarter_18 : decode cX7_quarter 18 = .ok (.iconst 1, 1) := dTo1_31.1.2.2.2.2.2.2.2.2.1
theorem dX7_quarter_19 : decode cX7_quarter 19 = .ok (.goto 4, 3) := dTo1_31.1.2.2.2.2.2.2.2.2.2.1
theorem dX7_quarter_22 : decode cX7_quarter 22 = .ok (.iconst 0, 1) := dTo1_31.2.1.1
theorem dX7_quarter_23 : decode cX7_quarter 23 = .ok (.invokevirtual 126, 3) := dTo1_31.2.1.2.1
theorem dX7_quarter_26 : decode cX7_quarter 26 = .ok (.ifCond .eq 7, 3) := dTo1_31.2.1.2.2.1
theorem dX7_quarter_29 : decode cX7_quarter 29 = .ok (.iconst 0, 1) := dTo1_31.2.1.2.2.2.1
theorem dX7_quarter_30 : decode cX7_quarter 30 = .ok (.goto 11, 3) := dTo1_31.2.1.2.2.2.2.1
theorem dX7_quarter_33 : decode cX7_quarter 33 = .ok (.aload_n 0, 1) := dTo1_31.2.1.2.2.2.2.2.1
theorem dX7_quarter_34 : decode cX7_quarter 34 = .ok (.iload_n 1, 1) := dTo1_31.2.1.2.2.2.2.2.2.1
theorem dX7_quarter_35 : decode cX7_quarter 35 = .ok (.iconst 0, 1) := dTo1_31.2.1.2.2.2.2.2.2.2.1
theorem dX7_quarter_36 : decode cX7_quarter 36 = .ok (.iload_n 2, 1) := dTo1_31.2.1.2.2.2.2.2.2.2.2.1
theorem dX7_quarter_37 : decode cX7_quarter 37 = .ok (.iconst 0, 1) := dTo1_31.2.1.2.2.2.2.2.2.2.2.2.1
theorem dX7_quarter_38 : decode cX7_quarter 38 = .ok (.invokevirtual 130, 3) := dTo1_31.2.2.1.1
theorem dX7_quarter_41 : decode cX7_quarter 41 = .ok (.ireturn, 1) := dTo1_31.2.2.1.2.1
theorem dTo1_32 : dQ cX7_zero [[(0, .aload_n 0, 1), (1, .iload_n 1, 1), (2, .invokestatic 123, 3), (5, .iconst 0, 1), (6, .invokevirtual 126, 3), (9, .ifCond .eq 7, 3), (12, .iconst 0, 1), (13, .goto 11, 3), (16, .aload_n 0, 1), (17, .iload_n 1, 1)], [(18, .iconst 0, 1), (19, .iconst 0, 1), (20, .iload_n 2, 1), (21, .invokevirtual 130, 3), (24, .ireturn, 1)]] := dQ_of _ _ (by decide +kernel)
theorem dX7_zero_0 : decode cX7_zero 0 = .ok (.aload_n 0, 1) := dTo1_32.1.1
theorem dX7_zero_1 : decode cX7_zero 1 = .ok (.iload_n 1, 1) := dTo1_32.1.2.1
theorem dX7_zero_2 : decode cX7_zero 2 = .ok (.invokestatic 123, 3) := dTo1_32.1.2.2.1
theorem dX7_zero_5 : decode cX7_zero 5 = .ok (.iconst 0, 1) := dTo1_32.1.2.2.2.1
theorem dX7_zero_6 : decode cX7_zero 6 = .ok (.invokevirtual 126, 3) := dTo1_32.1.2.2.2.2.1
theorem dX7_zero_9 : decode cX7_zero 9 = .ok (.ifCond .eq 7, 3) := dTo1_32.1.2.2.2.2.2.1
theorem dX7_zero_12 : decode cX7_zero 12 = .ok (.iconst 0, 1) := dTo1_32.1.2.2.2.2.2.2.1
theorem dX7_zero_13 : decode cX7_zero 13 = .ok (.goto 11, 3) := dTo1_32.1.2.2.2.2.2.2.2.1
theorem dX7_zero_16 : decode cX7_zero 16 = .ok (.aload_n 0, 1) := dTo1_32.1.2.2.2.2.2.2.2.2.1
theorem dX7_zero_17 : decode cX7_zero 17 = .ok (.iload_n 1, 1) := dTo1_32.1.2.2.2.2.2.2.2.2.2.1
theorem dX7_zero_18 : decode cX7_zero 18 = .ok (.iconst 0, 1) := dTo1_32.2.1.1
theorem dX7_zero_19 : decode cX7_zero 19 = .ok (.iconst 0, 1) := dTo1_32.2.1.2.1
theorem dX7_zero_20 : decode cX7_zero 20 = .ok (.iload_n 2, 1) := dTo1_32.2.1.2.2.1
theorem dX7_zero_21 : decode cX7_zero 21 = .ok (.invokevirtual 130, 3) := dTo1_32.2.1.2.2.2.1
theorem dX7_zero_24 : decode cX7_zero 24 = .ok (.ireturn, 1) := dTo1_32.2.1.2.2.2.2.1
theorem dTo1_33 : dQ cX7_endless [[(0, .aload_n 0, 1), (1, .iload_n 1, 1), (2, .invokestatic 123, 3), (5, .iconst 0, 1), (6, .invokevirtual 126, 3), (9, .ifCond .eq 7, 3), (12, .iconst 0, 1), (13, .goto 11, 3), (16, .aload_n 0, 1), (17, .iload_n 1, 1)], [(18, .iconst 1, 1), (19, .iconst 0, 1), (20, .iload_n 2, 1), (21, .invokevirtual 130, 3), (24, .ireturn, 1)]] := dQ_of _ _ (by decide +kernel)
theorem dX7_endless_0 : decode cX7_endless 0 = .ok (.aload_n 0, 1) := dTo1_33.1.1
theorem dX7_endless_1 : decode cX7_endless 1 = .ok (.iload_n 1, 1) := dTo1_33.1.2.1
theorem dX7_endless_2 : decode cX7_endless 2 = .ok (.invokestatic 123, 3) := dTo1_33.1.2.2.1
theorem dX7_endless_5 : decode cX7_endless 5 = .ok (.iconst 0, 1) := dTo1_33.1.2.2.2.1
theorem dX7_endless_6 : decode cX7_endless 6 = .ok (.invokevirtual 126, 3) := dTo1_33.1.2.2.2.2.1
theorem dX7_endless_9 : decode cX7_endless 9 = .ok (.ifCond .eq 7, 3) := dTo1_33.1.2.2.2.2.2.1
theorem dX7_endless_12 : decode cX7_endless 12 = .ok (.iconst 0, 1) := dTo1_33.1.2.2.2.2.2.2.1
theorem dX7_endless_13 : decode cX7_endless 13 = .ok (.goto 11, 3) := dTo1_33.1.2.2.2.2.2.2.2.1
theorem dX7_endless_16 : decode cX7_endless 16 = .ok (.aload_n 0, 1) := dTo1_33.1.2.2.2.2.2.2.2.2.1
theorem dX7_endless_17 : decode cX7_endless 17 = .ok (.iload_n 1, 1) := dTo1_33.1.2.2.2.2.2.2.2.2.2.1
theorem dX7_endless_18 : decode cX7_endless 18 = .ok (.iconst 1, 1) := dTo1_33.2.1.1
theorem dX7_endless_19 : decode cX7_endless 19 = .ok (.iconst 0, 1) := dTo1_33.2.1.2.1
theorem dX7_endless_20 : decode cX7_endless 20 = .ok (.iload_n 2, 1) := dTo1_33.2.1.2.2.1
theorem dX7_endless_21 : decode cX7_endless 21 = .ok (.invokevirtual 130, 3) := dTo1_33.2.1.2.2.2.1
theorem dX7_endless_24 : decode cX7_endless 24 = .ok (.ireturn, 1) := dTo1_33.2.1.2.2.2.2.1
theorem dTo1_34 : dQ cX7_others [[(0, .iconst 0, 1), (1, .istore 4, 2), (3, .iconst 0, 1), (4, .istore 5, 2), (6, .iload 5, 2), (8, .bipush 8, 2), (10, .if_icmp .ge 61, 3), (13, .iload 4, 2), (15, .aload_n 0, 1), (16, .getfield 28, 3)], [(19, .iload 5, 2), (21, .iaload, 1), (22, .aload_n 1, 1), (23, .iload 5, 2), (25, .iaload, 1), (26, .if_icmp .ne 35, 3), (29, .aload_n 0, 1), (30, .getfield 31, 3), (33, .iload 5, 2), (35, .iaload, 1)], [(36, .aload_n 2, 1), (37, .iload 5, 2), (39, .iaload, 1), (40, .if_icmp .ne 21, 3), (43, .aload_n 0, 1), (44, .getfield 34, 3), (47, .iload 5, 2), (49, .baload, 1), (50, .aload_n 3, 1), (51, .iload 5, 2)], [(53, .baload, 1), (54, .if_icmp .ne 7, 3), (57, .iconst 0, 1), (58, .goto 4, 3), (61, .iconst 1, 1), (62, .iadd, 1), (63, .istore 4, 2), (65, .iinc 5 1, 3), (68, .goto (-62), 3), (71, .iload 4, 2)], [(73, .ireturn, 1)]] := dQ_of _ _ (by decide +kernel)
theorem dX7_others_0 : decode cX7_others 0 = .ok (.iconst 0, 1) := dTo1_34.1.1
theorem dX7_others_1 : decode cX7_others 1 = .ok (.istore 4, 2) := dTo1_34.1.2.1
theorem dX7_others_3 : decode cX7_others 3 = .ok (.iconst 0, 1) := dTo1_34.1.2.2.1
theorem dX7_others_4 : decode cX7_others 4 = .ok (.istore 5, 2) := dTo1_34.1.2.2.2.1
theorem dX7_others_6 : decode cX7_others 6 = .ok (.iload 5, 2) := dTo1_34.1.2.2.2.2.1
theorem dX7_others_8 : decode cX7_others 8 = .ok (.bipush 8, 2) := dTo1_34.1.2.2.2.2.2.1
theorem dX7_others_10 : decode cX7_others 10 = .ok (.if_icmp .ge 61, 3) := dTo1_34.1.2.2.2.2.2.2.1
theorem dX7_others_13 : decode cX7_others 13 = .ok (.iload 4, 2) := dTo1_34.1.2.2.2.2.2.2.2.1
theorem dX7_others_15 : decode cX7_others 15 = .ok (.aload_n 0, 1) := dTo1_34.1.2.2.2.2.2.2.2.2.1
theorem dX7_others_16 : decode cX7_others 16 = .ok (.getfield 28, 3) := dTo1_34.1.2.2.2.2.2.2.2.2.2.1
theorem dX7_others_19 : decode cX7_others 19 = .ok (.iload 5, 2) := dTo1_34.2.1.1
theorem dX7_others_21 : decode cX7_others 21 = .ok (.iaload, 1) := dTo1_34.2.1.2.1
theorem dX7_others_22 : decode cX7_others 22 = .ok (.aload_n 1, 1) := dTo1_34.2.1.2.2.1
theorem dX7_others_23 : decode cX7_others 23 = .ok (.iload 5, 2) := dTo1_34.2.1.2.2.2.1
theorem dX7_others_25 : decode cX7_others 25 = .ok (.iaload, 1) := dTo1_34.2.1.2.2.2.2.1
theorem dX7_others_26 : decode cX7_others 26 = .ok (.if_icmp .ne 35, 3) := dTo1_34.2.1.2.2.2.2.2.1
theorem dX7_others_29 : decode cX7_others 29 = .ok (.aload_n 0, 1) := dTo1_34.2.1.2.2.2.2.2.2.1
theorem dX7_others_30 : decode cX7_others 30 = .ok (.getfield 31, 3) := dTo1_34.2.1.2.2.2.2.2.2.2.1
theorem dX7_others_33 : decode cX7_others 33 = .ok (.iload 5, 2) := dTo1_34.2.1.2.2.2.2.2.2.2.2.1
theorem dX7_others_35 : decode cX7_others 35 = .ok (.iaload, 1) := dTo1_34.2.1.2.2.2.2.2.2.2.2.2.1
theorem dX7_others_36 : decode cX7_others 36 = .ok (.aload_n 2, 1) := dTo1_34.2.2.1.1
theorem dX7_others_37 : decode cX7_others 37 = .ok (.iload 5, 2) := dTo1_34.2.2.1.2.1
theorem dX7_others_39 : decode cX7_others 39 = .ok (.iaload, 1) := dTo1_34.2.2.1.2.2.1
theorem dX7_others_40 : decode cX7_others 40 = .ok (.if_icmp .ne 21, 3) := dTo1_34.2.2.1.2.2.2.1
theorem dX7_others_43 : decode cX7_others 43 = .ok (.aload_n 0, 1) := dTo1_34.2.2.1.2.2.2.2.1
theorem dX7_others_44 : decode cX7_others 44 = .ok (.getfield 34, 3) := dTo1_34.2.2.1.2.2.2.2.2.1
theorem dX7_others_47 : decode cX7_others 47 = .ok (.iload 5, 2) := dTo1_34.2.2.1.2.2.2.2.2.2.1
theorem dX7_others_49 : decode cX7_others 49 = .ok (.baload, 1) := dTo1_34.2.2.1.2.2.2.2.2.2.2.1
theorem dX7_others_50 : decode cX7_others 50 = .ok (.aload_n 3, 1) := dTo1_34.2.2.1.2.2.2.2.2.2.2.2.1
theorem dX7_others_51 : decode cX7_others 51 = .ok (.iload 5, 2) := dTo1_34.2.2.1.2.2.2.2.2.2.2.2.2.1
theorem dX7_others_53 : decode cX7_others 53 = .ok (.baload, 1) := dTo1_34.2.2.2.1.1
theorem dX7_others_54 : decode cX7_others 54 = .ok (.if_icmp .ne 7, 3) := dTo1_34.2.2.2.1.2.1
theorem dX7_others_57 : decode cX7_others 57 = .ok (.iconst 0, 1) := dTo1_34.2.2.2.1.2.2.1
theorem dX7_others_58 : decode cX7_others 58 = .ok (.goto 4, 3) := dTo1_34.2.2.2.1.2.2.2.1
theorem dX7_others_61 : decode cX7_others 61 = .ok (.iconst 1, 1) := dTo1_34.2.2.2.1.2.2.2.2.1
theorem dX7_others_62 : decode cX7_others 62 = .ok (.iadd, 1) := dTo1_34.2.2.2.1.2.2.2.2.2.1
theorem dX7_others_63 : decode cX7_others 63 = .ok (.istore 4, 2) := dTo1_34.2.2.2.1.2.2.2.2.2.2.1
theorem dX7_others_65 : decode cX7_others 65 = .ok (.iinc 5 1, 3) := dTo1_34.2.2.2.1.2.2.2.2.2.2.2.1
theorem dX7_others_68 : decode cX7_others 68 = .ok (.goto (-62), 3) := dTo1_34.2.2.2.1.2.2.2.2.2.2.2.2.1
theorem dX7_others_71 : decode cX7_others 71 = .ok (.iload 4, 2) := dTo1_34.2.2.2.1.2.2.2.2.2.2.2.2.2.1
theorem dX7_others_73 : decode cX7_others 73 = .ok (.ireturn, 1) := dTo1_34.2.2.2.2.1.1
theorem dTo1_35 : dQ cX7_row [[(0, .aload_n 0, 1), (1, .iload_n 1, 1), (2, .sipush (-160), 3), (5, .sipush 160, 3), (8, .invokestatic 113, 3), (11, .ifCond .eq 18, 3), (14, .iload_n 2, 1), (15, .bipush (-40), 2), (17, .bipush 40, 2), (19, .invokestatic 113, 3)], [(22, .ifCond .eq 7, 3), (25, .iconst 0, 1), (26, .goto 4, 3), (29, .iconst 1, 1), (30, .putfield 50, 3), (33, .aload_n 0, 1), (34, .getfield 50, 3), (37, .ifCond .eq 5, 3), (40, .iconst 0, 1), (41, .ireturn, 1)], [(42, .iload_n 1, 1), (43, .bipush 7, 2), (45, .iload_n 2, 1), (46, .imul, 1), (47, .iadd, 1), (48, .sipush (-160), 3), (51, .sipush 160, 3), (54, .invokestatic 113, 3), (57, .ifCond .ne 8, 3), (60, .aload_n 0, 1)], [(61, .invokevirtual 134, 3), (64, .ireturn, 1), (65, .aload_n 0, 1), (66, .iload_n 1, 1), (67, .iload_n 2, 1), (68, .invokevirtual 137, 3), (71, .ireturn, 1)]] := dQ_of _ _ (by decide +kernel)
theorem dX7_row_0 : decode cX7_row 0 = .ok (.aload_n 0, 1) := dTo1_35.1.1
theorem dX7_row_1 : decode cX7_row 1 = .ok (.iload_n 1, 1) := dTo1_35.1.2.1
theorem dX7_row_2 : decode cX7_row 2 = .ok (.sipush (-160), 3) := dTo1_35.1.2.2.1
theorem dX7_row_5 : decode cX7_row 5 = .ok (.sipush 160, 3) := dTo1_35.1.2.2.2.1
theorem dX7_row_8 : decode cX7_row 8 = .ok (.invokestatic 113, 3) := dTo1_35.1.2.2.2.2.1
theorem dX7_row_11 : decode cX7_row 11 = .ok (.ifCond .eq 18, 3) := dTo1_35.1.2.2.2.2.2.1
theorem dX7_row_14 : decode cX7_row 14 = .ok (.iload_n 2, 1) := dTo1_35.1.2.2.2.2.2.2.1
theorem dX7_row_15 : decode cX7_row 15 = .ok (.bipush (-40), 2) := dTo1_35.1.2.2.2.2.2.2.2.1
theorem dX7_row_17 : decode cX7_row 17 = .ok (.bipush 40, 2) := dTo1_35.1.2.2.2.2.2.2.2.2.1
theorem dX7_row_19 : decode cX7_row 19 = .ok (.invokestatic 113, 3) := dTo1_35.1.2.2.2.2.2.2.2.2.2.1
theorem dX7_row_22 : decode cX7_row 22 = .ok (.ifCond .eq 7, 3) := dTo1_35.2.1.1
theorem dX7_row_25 : decode cX7_row 25 = .ok (.iconst 0, 1) := dTo1_35.2.1.2.1
theorem dX7_row_26 : decode cX7_row 26 = .ok (.goto 4, 3) := dTo1_35.2.1.2.2.1
theorem dX7_row_29 : decode cX7_row 29 = .ok (.iconst 1, 1) := dTo1_35.2.1.2.2.2.1
theorem dX7_row_30 : decode cX7_row 30 = .ok (.putfield 50, 3) := dTo1_35.2.1.2.2.2.2.1
theorem dX7_row_33 : decode cX7_row 33 = .ok (.aload_n 0, 1) := dTo1_35.2.1.2.2.2.2.2.1
theorem dX7_row_34 : decode cX7_row 34 = .ok (.getfield 50, 3) := dTo1_35.2.1.2.2.2.2.2.2.1
theorem dX7_row_37 : decode cX7_row 37 = .ok (.ifCond .eq 5, 3) := dTo1_35.2.1.2.2.2.2.2.2.2.1
theorem dX7_row_40 : decode cX7_row 40 = .ok (.iconst 0, 1) := dTo1_35.2.1.2.2.2.2.2.2.2.2.1
theorem dX7_row_41 : decode cX7_row 41 = .ok (.ireturn, 1) := dTo1_35.2.1.2.2.2.2.2.2.2.2.2.1
theorem dX7_row_42 : decode cX7_row 42 = .ok (.iload_n 1, 1) := dTo1_35.2.2.1.1
theorem dX7_row_43 : decode cX7_row 43 = .ok (.bipush 7, 2) := dTo1_35.2.2.1.2.1
theorem dX7_row_45 : decode cX7_row 45 = .ok (.iload_n 2, 1) := dTo1_35.2.2.1.2.2.1
theorem dX7_row_46 : decode cX7_row 46 = .ok (.imul, 1) := dTo1_35.2.2.1.2.2.2.1
theorem dX7_row_47 : decode cX7_row 47 = .ok (.iadd, 1) := dTo1_35.2.2.1.2.2.2.2.1
theorem dX7_row_48 : decode cX7_row 48 = .ok (.sipush (-160), 3) := dTo1_35.2.2.1.2.2.2.2.2.1
theorem dX7_row_51 : decode cX7_row 51 = .ok (.sipush 160, 3) := dTo1_35.2.2.1.2.2.2.2.2.2.1
theorem dX7_row_54 : decode cX7_row 54 = .ok (.invokestatic 113, 3) := dTo1_35.2.2.1.2.2.2.2.2.2.2.1
theorem dX7_row_57 : decode cX7_row 57 = .ok (.ifCond .ne 8, 3) := dTo1_35.2.2.1.2.2.2.2.2.2.2.2.1
theorem dX7_row_60 : decode cX7_row 60 = .ok (.aload_n 0, 1) := dTo1_35.2.2.1.2.2.2.2.2.2.2.2.2.1
theorem dX7_row_61 : decode cX7_row 61 = .ok (.invokevirtual 134, 3) := dTo1_35.2.2.2.1.1
theorem dX7_row_64 : decode cX7_row 64 = .ok (.ireturn, 1) := dTo1_35.2.2.2.1.2.1
theorem dX7_row_65 : decode cX7_row 65 = .ok (.aload_n 0, 1) := dTo1_35.2.2.2.1.2.2.1
theorem dX7_row_66 : decode cX7_row 66 = .ok (.iload_n 1, 1) := dTo1_35.2.2.2.1.2.2.2.1
theorem dX7_row_67 : decode cX7_row 67 = .ok (.iload_n 2, 1) := dTo1_35.2.2.2.1.2.2.2.2.1
theorem dX7_row_68 : decode cX7_row 68 = .ok (.invokevirtual 137, 3) := dTo1_35.2.2.2.1.2.2.2.2.2.1
theorem dX7_row_71 : decode cX7_row 71 = .ok (.ireturn, 1) := dTo1_35.2.2.2.1.2.2.2.2.2.2.1
theorem dTo1_36 : dQ cX7_lay [[(0, .aload_n 0, 1), (1, .getfield 28, 3), (4, .astore_n 3, 1), (5, .aload_n 0, 1), (6, .getfield 31, 3), (9, .astore 4, 2), (11, .aload_n 0, 1), (12, .getfield 34, 3), (15, .astore 5, 2), (17, .aload_n 0, 1)], [(18, .bipush 8, 2), (20, .newarray .int, 2), (22, .putfield 28, 3), (25, .aload_n 0, 1), (26, .bipush 8, 2), (28, .newarray .int, 2), (30, .putfield 31, 3), (33, .aload_n 0, 1), (34, .bipush 8, 2), (36, .newarray .boolean, 2)], [(38, .putfield 34, 3), (41, .iconst 0, 1), (42, .istore 6, 2), (44, .iload 6, 2), (46, .bipush 8, 2), (48, .if_icmp .ge 22, 3), (51, .aload_n 0, 1), (52, .getfield 31, 3), (55, .iload 6, 2), (57, .iload_n 1, 1)], [(58, .iload 6, 2), (60, .iload_n 2, 1), (61, .imul, 1), (62, .iadd, 1), (63, .iastore, 1), (64, .iinc 6 1, 3), (67, .goto (-23), 3), (70, .aload_n 0, 1), (71, .dup, 1), (72, .getfield 117, 3)], [(75, .iconst 1, 1), (76, .iadd, 1), (77, .putfield 117, 3), (80, .aload_n 0, 1), (81, .aload_n 3, 1), (82, .aload 4, 2), (84, .aload 5, 2), (86, .invokevirtual 140, 3), (89, .ireturn, 1)]] := dQ_of _ _ (by decide +kernel)
theorem dX7_lay_0 : decode cX7_lay 0 = .ok (.aload_n 0, 1) := dTo1_36.1.1
theorem dX7_lay_1 : decode cX7_lay 1 = .ok (.getfield 28, 3) := dTo1_36.1.2.1
theorem dX7_lay_4 : decode cX7_lay 4 = .ok (.astore_n 3, 1) := dTo1_36.1.2.2.1
theorem dX7_lay_5 : decode cX7_lay 5 = .ok (.aload_n 0, 1) := dTo1_36.1.2.2.2.1
theorem dX7_lay_6 : decode cX7_lay 6 = .ok (.getfield 31, 3) := dTo1_36.1.2.2.2.2.1
theorem dX7_lay_9 : decode cX7_lay 9 = .ok (.astore 4, 2) := dTo1_36.1.2.2.2.2.2.1
theorem dX7_lay_11 : decode cX7_lay 11 = .ok (.aload_n 0, 1) := dTo1_36.1.2.2.2.2.2.2.1
theorem dX7_lay_12 : decode cX7_lay 12 = .ok (.getfield 34, 3) := dTo1_36.1.2.2.2.2.2.2.2.1
theorem dX7_lay_15 : decode cX7_lay 15 = .ok (.astore 5, 2) := dTo1_36.1.2.2.2.2.2.2.2.2.1
theorem dX7_lay_17 : decode cX7_lay 17 = .ok (.aload_n 0, 1) := dTo1_36.1.2.2.2.2.2.2.2.2.2.1
theorem dX7_lay_18 : decode cX7_lay 18 = .ok (.bipush 8, 2) := dTo1_36.2.1.1
theorem dX7_lay_20 : decode cX7_lay 20 = .ok (.newarray .int, 2) := dTo1_36.2.1.2.1
theorem dX7_lay_22 : decode cX7_lay 22 = .ok (.putfield 28, 3) := dTo1_36.2.1.2.2.1
theorem dX7_lay_25 : decode cX7_lay 25 = .ok (.aload_n 0, 1) := dTo1_36.2.1.2.2.2.1
theorem dX7_lay_26 : decode cX7_lay 26 = .ok (.bipush 8, 2) := dTo1_36.2.1.2.2.2.2.1
theorem dX7_lay_28 : decode cX7_lay 28 = .ok (.newarray .int, 2) := dTo1_36.2.1.2.2.2.2.2.1
theorem dX7_lay_30 : decode cX7_lay 30 = .ok (.putfield 31, 3) := dTo1_36.2.1.2.2.2.2.2.2.1
theorem dX7_lay_33 : decode cX7_lay 33 = .ok (.aload_n 0, 1) := dTo1_36.2.1.2.2.2.2.2.2.2.1
theorem dX7_lay_34 : decode cX7_lay 34 = .ok (.bipush 8, 2) := dTo1_36.2.1.2.2.2.2.2.2.2.2.1
theorem dX7_lay_36 : decode cX7_lay 36 = .ok (.newarray .boolean, 2) := dTo1_36.2.1.2.2.2.2.2.2.2.2.2.1
theorem dX7_lay_38 : decode cX7_lay 38 = .ok (.putfield 34, 3) := dTo1_36.2.2.1.1
theorem dX7_lay_41 : decode cX7_lay 41 = .ok (.iconst 0, 1) := dTo1_36.2.2.1.2.1
theorem dX7_lay_42 : decode cX7_lay 42 = .ok (.istore 6, 2) := dTo1_36.2.2.1.2.2.1
theorem dX7_lay_44 : decode cX7_lay 44 = .ok (.iload 6, 2) := dTo1_36.2.2.1.2.2.2.1
theorem dX7_lay_46 : decode cX7_lay 46 = .ok (.bipush 8, 2) := dTo1_36.2.2.1.2.2.2.2.1
theorem dX7_lay_48 : decode cX7_lay 48 = .ok (.if_icmp .ge 22, 3) := dTo1_36.2.2.1.2.2.2.2.2.1
theorem dX7_lay_51 : decode cX7_lay 51 = .ok (.aload_n 0, 1) := dTo1_36.2.2.1.2.2.2.2.2.2.1
theorem dX7_lay_52 : decode cX7_lay 52 = .ok (.getfield 31, 3) := dTo1_36.2.2.1.2.2.2.2.2.2.2.1
theorem dX7_lay_55 : decode cX7_lay 55 = .ok (.iload 6, 2) := dTo1_36.2.2.1.2.2.2.2.2.2.2.2.1
theorem dX7_lay_57 : decode cX7_lay 57 = .ok (.iload_n 1, 1) := dTo1_36.2.2.1.2.2.2.2.2.2.2.2.2.1
theorem dX7_lay_58 : decode cX7_lay 58 = .ok (.iload 6, 2) := dTo1_36.2.2.2.1.1
theorem dX7_lay_60 : decode cX7_lay 60 = .ok (.iload_n 2, 1) := dTo1_36.2.2.2.1.2.1
theorem dX7_lay_61 : decode cX7_lay 61 = .ok (.imul, 1) := dTo1_36.2.2.2.1.2.2.1
theorem dX7_lay_62 : decode cX7_lay 62 = .ok (.iadd, 1) := dTo1_36.2.2.2.1.2.2.2.1
theorem dX7_lay_63 : decode cX7_lay 63 = .ok (.iastore, 1) := dTo1_36.2.2.2.1.2.2.2.2.1
theorem dX7_lay_64 : decode cX7_lay 64 = .ok (.iinc 6 1, 3) := dTo1_36.2.2.2.1.2.2.2.2.2.1
theorem dX7_lay_67 : decode cX7_lay 67 = .ok (.goto (-23), 3) := dTo1_36.2.2.2.1.2.2.2.2.2.2.1
theorem dX7_lay_70 : decode cX7_lay 70 = .ok (.aload_n 0, 1) := dTo1_36.2.2.2.1.2.2.2.2.2.2.2.1
theorem dX7_lay_71 : decode cX7_lay 71 = .ok (.dup, 1) := dTo1_36.2.2.2.1.2.2.2.2.2.2.2.2.1
theorem dX7_lay_72 : decode cX7_lay 72 = .ok (.getfield 117, 3) := dTo1_36.2.2.2.1.2.2.2.2.2.2.2.2.2.1
theorem dX7_lay_75 : decode cX7_lay 75 = .ok (.iconst 1, 1) := dTo1_36.2.2.2.2.1.1
theorem dX7_lay_76 : decode cX7_lay 76 = .ok (.iadd, 1) := dTo1_36.2.2.2.2.1.2.1
theorem dX7_lay_77 : decode cX7_lay 77 = .ok (.putfield 117, 3) := dTo1_36.2.2.2.2.1.2.2.1
theorem dX7_lay_80 : decode cX7_lay 80 = .ok (.aload_n 0, 1) := dTo1_36.2.2.2.2.1.2.2.2.1
theorem dX7_lay_81 : decode cX7_lay 81 = .ok (.aload_n 3, 1) := dTo1_36.2.2.2.2.1.2.2.2.2.1
theorem dX7_lay_82 : decode cX7_lay 82 = .ok (.aload 4, 2) := dTo1_36.2.2.2.2.1.2.2.2.2.2.1
theorem dX7_lay_84 : decode cX7_lay 84 = .ok (.aload 5, 2) := dTo1_36.2.2.2.2.1.2.2.2.2.2.2.1
theorem dX7_lay_86 : decode cX7_lay 86 = .ok (.invokevirtual 140, 3) := dTo1_36.2.2.2.2.1.2.2.2.2.2.2.2.1
theorem dX7_lay_89 : decode cX7_lay 89 = .ok (.ireturn, 1) := dTo1_36.2.2.2.2.1.2.2.2.2.2.2.2.2.1
theorem dTo1_37 : dQ cX7_wipe [[(0, .aload_n 0, 1), (1, .iconst 0, 1), (2, .putfield 50, 3), (5, .aload_n 0, 1), (6, .iconst 0, 1), (7, .iconst 0, 1), (8, .invokevirtual 137, 3), (11, .ireturn, 1)]] := dQ_of _ _ (by decide +kernel)
theorem dX7_wipe_0 : decode cX7_wipe 0 = .ok (.aload_n 0, 1) := dTo1_37.1.1
theorem dX7_wipe_1 : decode cX7_wipe 1 = .ok (.iconst 0, 1) := dTo1_37.1.2.1
theorem dX7_wipe_2 : decode cX7_wipe 2 = .ok (.putfield 50, 3) := dTo1_37.1.2.2.1
theorem dX7_wipe_5 : decode cX7_wipe 5 = .ok (.aload_n 0, 1) := dTo1_37.1.2.2.2.1
theorem dX7_wipe_6 : decode cX7_wipe 6 = .ok (.iconst 0, 1) := dTo1_37.1.2.2.2.2.1
theorem dX7_wipe_7 : decode cX7_wipe 7 = .ok (.iconst 0, 1) := dTo1_37.1.2.2.2.2.2.1
theorem dX7_wipe_8 : decode cX7_wipe 8 = .ok (.invokevirtual 137, 3) := dTo1_37.1.2.2.2.2.2.2.1
theorem dX7_wipe_11 : decode cX7_wipe 11 = .ok (.ireturn, 1) := dTo1_37.1.2.2.2.2.2.2.2.1
theorem dTo1_38 : dQ cX7_copy [[(0, .aload_n 0, 1), (1, .iload_n 1, 1), (2, .invokestatic 123, 3), (5, .ifCond .ne 10, 3), (8, .iload_n 2, 1), (9, .invokestatic 123, 3), (12, .ifCond .eq 7, 3), (15, .iconst 1, 1), (16, .goto 4, 3), (19, .iconst 0, 1)], [(20, .iconst 0, 1), (21, .invokevirtual 126, 3), (24, .ifCond .eq 7, 3), (27, .iconst 0, 1), (28, .goto 26, 3), (31, .aload_n 0, 1), (32, .iload_n 2, 1), (33, .aload_n 0, 1), (34, .getfield 28, 3), (37, .iload_n 1, 1)], [(38, .iaload, 1), (39, .aload_n 0, 1), (40, .getfield 31, 3), (43, .iload_n 1, 1), (44, .iaload, 1), (45, .aload_n 0, 1), (46, .getfield 34, 3), (49, .iload_n 1, 1), (50, .baload, 1), (51, .invokevirtual 130, 3)], [(54, .ireturn, 1)]] := dQ_of _ _ (by decide +kernel)
theorem dX7_copy_0 : decode cX7_copy 0 = .ok (.aload_n 0, 1) := dTo1_38.1.1
theorem dX7_copy_1 : decode cX7_copy 1 = .ok (.iload_n 1, 1) := dTo1_38.1.2.1
theorem dX7_copy_2 : decode cX7_copy 2 = .ok (.invokestatic 123, 3) := dTo1_38.1.2.2.1
theorem dX7_copy_5 : decode cX7_copy 5 = .ok (.ifCond .ne 10, 3) := dTo1_38.1.2.2.2.1
theorem dX7_copy_8 : decode cX7_copy 8 = .ok (.iload_n 2, 1) := dTo1_38.1.2.2.2.2.1
theorem dX7_copy_9 : decode cX7_copy 9 = .ok (.invokestatic 123, 3) := dTo1_38.1.2.2.2.2.2.1
theorem dX7_copy_12 : decode cX7_copy 12 = .ok (.ifCond .eq 7, 3) := dTo1_38.1.2.2.2.2.2.2.1
theorem dX7_copy_15 : decode cX7_copy 15 = .ok (.iconst 1, 1) := dTo1_38.1.2.2.2.2.2.2.2.1
theorem dX7_copy_16 : decode cX7_copy 16 = .ok (.goto 4, 3) := dTo1_38.1.2.2.2.2.2.2.2.2.1
theorem dX7_copy_19 : decode cX7_copy 19 = .ok (.iconst 0, 1) := dTo1_38.1.2.2.2.2.2.2.2.2.2.1
theorem dX7_copy_20 : decode cX7_copy 20 = .ok (.iconst 0, 1) := dTo1_38.2.1.1
theorem dX7_copy_21 : decode cX7_copy 21 = .ok (.invokevirtual 126, 3) := dTo1_38.2.1.2.1
theorem dX7_copy_24 : decode cX7_copy 24 = .ok (.ifCond .eq 7, 3) := dTo1_38.2.1.2.2.1
theorem dX7_copy_27 : decode cX7_copy 27 = .ok (.iconst 0, 1) := dTo1_38.2.1.2.2.2.1
theorem dX7_copy_28 : decode cX7_copy 28 = .ok (.goto 26, 3) := dTo1_38.2.1.2.2.2.2.1
theorem dX7_copy_31 : decode cX7_copy 31 = .ok (.aload_n 0, 1) := dTo1_38.2.1.2.2.2.2.2.1
theorem dX7_copy_32 : decode cX7_copy 32 = .ok (.iload_n 2, 1) := dTo1_38.2.1.2.2.2.2.2.2.1
theorem dX7_copy_33 : decode cX7_copy 33 = .ok (.aload_n 0, 1) := dTo1_38.2.1.2.2.2.2.2.2.2.1
theorem dX7_copy_34 : decode cX7_copy 34 = .ok (.getfield 28, 3) := dTo1_38.2.1.2.2.2.2.2.2.2.2.1
theorem dX7_copy_37 : decode cX7_copy 37 = .ok (.iload_n 1, 1) := dTo1_38.2.1.2.2.2.2.2.2.2.2.2.1
theorem dX7_copy_38 : decode cX7_copy 38 = .ok (.iaload, 1) := dTo1_38.2.2.1.1
theorem dX7_copy_39 : decode cX7_copy 39 = .ok (.aload_n 0, 1) := dTo1_38.2.2.1.2.1
theorem dX7_copy_40 : decode cX7_copy 40 = .ok (.getfield 31, 3) := dTo1_38.2.2.1.2.2.1
theorem dX7_copy_43 : decode cX7_copy 43 = .ok (.iload_n 1, 1) := dTo1_38.2.2.1.2.2.2.1
theorem dX7_copy_44 : decode cX7_copy 44 = .ok (.iaload, 1) := dTo1_38.2.2.1.2.2.2.2.1
theorem dX7_copy_45 : decode cX7_copy 45 = .ok (.aload_n 0, 1) := dTo1_38.2.2.1.2.2.2.2.2.1
theorem dX7_copy_46 : decode cX7_copy 46 = .ok (.getfield 34, 3) := dTo1_38.2.2.1.2.2.2.2.2.2.1
theorem dX7_copy_49 : decode cX7_copy 49 = .ok (.iload_n 1, 1) := dTo1_38.2.2.1.2.2.2.2.2.2.2.1
theorem dX7_copy_50 : decode cX7_copy 50 = .ok (.baload, 1) := dTo1_38.2.2.1.2.2.2.2.2.2.2.2.1
theorem dX7_copy_51 : decode cX7_copy 51 = .ok (.invokevirtual 130, 3) := dTo1_38.2.2.1.2.2.2.2.2.2.2.2.2.1
theorem dX7_copy_54 : decode cX7_copy 54 = .ok (.ireturn, 1) := dTo1_38.2.2.2.1.1
theorem dTo1_39 : dQ cX7_swap [[(0, .aload_n 0, 1), (1, .iload_n 1, 1), (2, .invokestatic 123, 3), (5, .ifCond .ne 10, 3), (8, .iload_n 2, 1), (9, .invokestatic 123, 3), (12, .ifCond .eq 7, 3), (15, .iconst 1, 1), (16, .goto 4, 3), (19, .iconst 0, 1)], [(20, .iconst 0, 1), (21, .invokevirtual 126, 3), (24, .ifCond .eq 5, 3), (27, .iconst 0, 1), (28, .ireturn, 1), (29, .aload_n 0, 1), (30, .getfield 28, 3), (33, .iload_n 1, 1), (34, .iaload, 1), (35, .istore_n 3, 1)], [(36, .aload_n 0, 1), (37, .getfield 31, 3), (40, .iload_n 1, 1), (41, .iaload, 1), (42, .istore 4, 2), (44, .aload_n 0, 1), (45, .getfield 34, 3), (48, .iload_n 1, 1), (49, .baload, 1), (50, .istore 5, 2)], [(52, .aload_n 0, 1), (53, .iload_n 1, 1), (54, .aload_n 0, 1), (55, .getfield 28, 3), (58, .iload_n 2, 1), (59, .iaload, 1), (60, .aload_n 0, 1), (61, .getfield 31, 3), (64, .iload_n 2, 1), (65, .iaload, 1)], [(66, .aload_n 0, 1), (67, .getfield 34, 3), (70, .iload_n 2, 1), (71, .baload, 1), (72, .invokevirtual 130, 3), (75, .istore 6, 2), (77, .aload_n 0, 1), (78, .iload_n 2, 1), (79, .iload_n 3, 1), (80, .iload 4, 2)], [(82, .iload 5, 2), (84, .invokevirtual 130, 3), (87, .pop, 1), (88, .aload_n 0, 1), (89, .dup, 1), (90, .getfield 117, 3), (93, .iconst 1, 1), (94, .isub, 1), (95, .putfield 117, 3), (98, .iload 6, 2)]] := dQ_of _ _ (by decide +kernel)
theorem dX7_swap_0 : decode cX7_swap 0 = .ok (.aload_n 0, 1) := dTo1_39.1.1
theorem dX7_swap_1 : decode cX7_swap 1 = .ok (.iload_n 1, 1) := dTo1_39.1.2.1
theorem dX7_swap_2 : decode cX7_swap 2 = .ok (.invokestatic 123, 3) := dTo1_39.1.2.2.1
theorem dX7_swap_5 : decode cX7_swap 5 = .ok (.ifCond .ne 10, 3) := dTo1_39.1.2.2.2.1
theorem dX7_swap_8 : decode cX7_swap 8 = .ok (.iload_n 2, 1) := dTo1_39.1.2.2.2.2.1
theorem dX7_swap_9 : decode cX7_swap 9 = .ok (.invokestatic 123, 3) := dTo1_39.1.2.2.2.2.2.1
theorem dX7_swap_12 : decode cX7_swap 12 = .ok (.ifCond .eq 7, 3) := dTo1_39.1.2.2.2.2.2.2.1
theorem dX7_swap_15 : decode cX7_swap 15 = .ok (.iconst 1, 1) := dTo1_39.1.2.2.2.2.2.2.2.1
theorem dX7_swap_16 : decode cX7_swap 16 = .ok (.goto 4, 3) := dTo1_39.1.2.2.2.2.2.2.2.2.1
theorem dX7_swap_19 : decode cX7_swap 19 = .ok (.iconst 0, 1) := dTo1_39.1.2.2.2.2.2.2.2.2.2.1
theorem dX7_swap_20 : decode cX7_swap 20 = .ok (.iconst 0, 1) := dTo1_39.2.1.1
theorem dX7_swap_21 : decode cX7_swap 21 = .ok (.invokevirtual 126, 3) := dTo1_39.2.1.2.1
theorem dX7_swap_24 : decode cX7_swap 24 = .ok (.ifCond .eq 5, 3) := dTo1_39.2.1.2.2.1
theorem dX7_swap_27 : decode cX7_swap 27 = .ok (.iconst 0, 1) := dTo1_39.2.1.2.2.2.1
theorem dX7_swap_28 : decode cX7_swap 28 = .ok (.ireturn, 1) := dTo1_39.2.1.2.2.2.2.1
theorem dX7_swap_29 : decode cX7_swap 29 = .ok (.aload_n 0, 1) := dTo1_39.2.1.2.2.2.2.2.1
theorem dX7_swap_30 : decode cX7_swap 30 = .ok (.getfield 28, 3) := dTo1_39.2.1.2.2.2.2.2.2.1
theorem dX7_swap_33 : decode cX7_swap 33 = .ok (.iload_n 1, 1) := dTo1_39.2.1.2.2.2.2.2.2.2.1
theorem dX7_swap_34 : decode cX7_swap 34 = .ok (.iaload, 1) := dTo1_39.2.1.2.2.2.2.2.2.2.2.1
theorem dX7_swap_35 : decode cX7_swap 35 = .ok (.istore_n 3, 1) := dTo1_39.2.1.2.2.2.2.2.2.2.2.2.1
theorem dX7_swap_36 : decode cX7_swap 36 = .ok (.aload_n 0, 1) := dTo1_39.2.2.1.1
theorem dX7_swap_37 : decode cX7_swap 37 = .ok (.getfield 31, 3) := dTo1_39.2.2.1.2.1
theorem dX7_swap_40 : decode cX7_swap 40 = .ok (.iload_n 1, 1) := dTo1_39.2.2.1.2.2.1
theorem dX7_swap_41 : decode cX7_swap 41 = .ok (.iaload, 1) := dTo1_39.2.2.1.2.2.2.1
theorem dX7_swap_42 : decode cX7_swap 42 = .ok (.istore 4, 2) := dTo1_39.2.2.1.2.2.2.2.1
theorem dX7_swap_44 : decode cX7_swap 44 = .ok (.aload_n 0, 1) := dTo1_39.2.2.1.2.2.2.2.2.1
theorem dX7_swap_45 : decode cX7_swap 45 = .ok (.getfield 34, 3) := dTo1_39.2.2.1.2.2.2.2.2.2.1
theorem dX7_swap_48 : decode cX7_swap 48 = .ok (.iload_n 1, 1) := dTo1_39.2.2.1.2.2.2.2.2.2.2.1
theorem dX7_swap_49 : decode cX7_swap 49 = .ok (.baload, 1) := dTo1_39.2.2.1.2.2.2.2.2.2.2.2.1
theorem dX7_swap_50 : decode cX7_swap 50 = .ok (.istore 5, 2) := dTo1_39.2.2.1.2.2.2.2.2.2.2.2.2.1
theorem dX7_swap_52 : decode cX7_swap 52 = .ok (.aload_n 0, 1) := dTo1_39.2.2.2.1.1
theorem dX7_swap_53 : decode cX7_swap 53 = .ok (.iload_n 1, 1) := dTo1_39.2.2.2.1.2.1
theorem dX7_swap_54 : decode cX7_swap 54 = .ok (.aload_n 0, 1) := dTo1_39.2.2.2.1.2.2.1
theorem dX7_swap_55 : decode cX7_swap 55 = .ok (.getfield 28, 3) := dTo1_39.2.2.2.1.2.2.2.1
theorem dX7_swap_58 : decode cX7_swap 58 = .ok (.iload_n 2, 1) := dTo1_39.2.2.2.1.2.2.2.2.1
theorem dX7_swap_59 : decode cX7_swap 59 = .ok (.iaload, 1) := dTo1_39.2.2.2.1.2.2.2.2.2.1
theorem dX7_swap_60 : decode cX7_swap 60 = .ok (.aload_n 0, 1) := dTo1_39.2.2.2.1.2.2.2.2.2.2.1
theorem dX7_swap_61 : decode cX7_swap 61 = .ok (.getfield 31, 3) := dTo1_39.2.2.2.1.2.2.2.2.2.2.2.1
theorem dX7_swap_64 : decode cX7_swap 64 = .ok (.iload_n 2, 1) := dTo1_39.2.2.2.1.2.2.2.2.2.2.2.2.1
theorem dX7_swap_65 : decode cX7_swap 65 = .ok (.iaload, 1) := dTo1_39.2.2.2.1.2.2.2.2.2.2.2.2.2.1
theorem dX7_swap_66 : decode cX7_swap 66 = .ok (.aload_n 0, 1) := dTo1_39.2.2.2.2.1.1
theorem dX7_swap_67 : decode cX7_swap 67 = .ok (.getfield 34, 3) := dTo1_39.2.2.2.2.1.2.1
theorem dX7_swap_70 : decode cX7_swap 70 = .ok (.iload_n 2, 1) := dTo1_39.2.2.2.2.1.2.2.1
theorem dX7_swap_71 : decode cX7_swap 71 = .ok (.baload, 1) := dTo1_39.2.2.2.2.1.2.2.2.1
theorem dX7_swap_72 : decode cX7_swap 72 = .ok (.invokevirtual 130, 3) := dTo1_39.2.2.2.2.1.2.2.2.2.1
theorem dX7_swap_75 : decode cX7_swap 75 = .ok (.istore 6, 2) := dTo1_39.2.2.2.2.1.2.2.2.2.2.1
theorem dX7_swap_77 : decode cX7_swap 77 = .ok (.aload_n 0, 1) := dTo1_39.2.2.2.2.1.2.2.2.2.2.2.1
theorem dX7_swap_78 : decode cX7_swap 78 = .ok (.iload_n 2, 1) := dTo1_39.2.2.2.2.1.2.2.2.2.2.2.2.1
theorem dX7_swap_79 : decode cX7_swap 79 = .ok (.iload_n 3, 1) := dTo1_39.2.2.2.2.1.2.2.2.2.2.2.2.2.1
theorem dX7_swap_80 : decode cX7_swap 80 = .ok (.iload 4, 2) := dTo1_39.2.2.2.2.1.2.2.2.2.2.2.2.2.2.1
theorem dX7_swap_82 : decode cX7_swap 82 = .ok (.iload 5, 2) := dTo1_39.2.2.2.2.2.1.1
theorem dX7_swap_84 : decode cX7_swap 84 = .ok (.invokevirtual 130, 3) := dTo1_39.2.2.2.2.2.1.2.1
theorem dX7_swap_87 : decode cX7_swap 87 = .ok (.pop, 1) := dTo1_39.2.2.2.2.2.1.2.2.1
theorem dX7_swap_88 : decode cX7_swap 88 = .ok (.aload_n 0, 1) := dTo1_39.2.2.2.2.2.1.2.2.2.1
theorem dX7_swap_89 : decode cX7_swap 89 = .ok (.dup, 1) := dTo1_39.2.2.2.2.2.1.2.2.2.2.1
theorem dX7_swap_90 : decode cX7_swap 90 = .ok (.getfield 117, 3) := dTo1_39.2.2.2.2.2.1.2.2.2.2.2.1
theorem dX7_swap_93 : decode cX7_swap 93 = .ok (.iconst 1, 1) := dTo1_39.2.2.2.2.2.1.2.2.2.2.2.2.1
theorem dX7_swap_94 : decode cX7_swap 94 = .ok (.isub, 1) := dTo1_39.2.2.2.2.2.1.2.2.2.2.2.2.2.1
theorem dX7_swap_95 : decode cX7_swap 95 = .ok (.putfield 117, 3) := dTo1_39.2.2.2.2.2.1.2.2.2.2.2.2.2.2.1
theorem dX7_swap_98 : decode cX7_swap 98 = .ok (.iload 6, 2) := dTo1_39.2.2.2.2.2.1.2.2.2.2.2.2.2.2.2.1
theorem dX7_swap_100 : decode cX7_swap 100 = .ok (.ireturn, 1) := by decide +kernel
theorem dTo1_41 : dQ cX7_step [[(0, .aload_n 0, 1), (1, .iload_n 1, 1), (2, .invokestatic 123, 3), (5, .iload_n 2, 1), (6, .sipush (-320), 3), (9, .sipush 320, 3), (12, .invokestatic 113, 3), (15, .ifCond .ne 7, 3), (18, .iconst 1, 1), (19, .goto 4, 3)], [(22, .iconst 0, 1), (23, .invokevirtual 126, 3), (26, .ifCond .eq 5, 3), (29, .iconst 0, 1), (30, .ireturn, 1), (31, .aload_n 0, 1), (32, .getfield 28, 3), (35, .iload_n 1, 1), (36, .iaload, 1), (37, .ifCond .ne 23, 3)], [(40, .aload_n 0, 1), (41, .getfield 31, 3), (44, .iload_n 1, 1), (45, .iaload, 1), (46, .iload_n 2, 1), (47, .iadd, 1), (48, .sipush (-160), 3), (51, .sipush 160, 3), (54, .invokestatic 113, 3), (57, .ifCond .ne 10, 3)], [(60, .aload_n 0, 1), (61, .invokevirtual 134, 3), (64, .goto 18, 3), (67, .aload_n 0, 1), (68, .iload_n 1, 1), (69, .iconst 0, 1), (70, .aload_n 0, 1), (71, .getfield 31, 3), (74, .iload_n 1, 1), (75, .iaload, 1)], [(76, .iload_n 2, 1), (77, .iadd, 1), (78, .iconst 0, 1), (79, .invokevirtual 130, 3), (82, .ireturn, 1)]] := dQ_of _ _ (by decide +kernel)
theorem dX7_step_0 : decode cX7_step 0 = .ok (.aload_n 0, 1) := dTo1_41.1.1
theorem dX7_step_1 : decode cX7_step 1 = .ok (.iload_n 1, 1) := dTo1_41.1.2.1
theorem dX7_step_2 : decode cX7_step 2 = .ok (.invokestatic 123, 3) := dTo1_41.1.2.2.1
theorem dX7_step_5 : decode cX7_step 5 = .ok (.iload_n 2, 1) := dTo1_41.1.2.2.2.1
theorem dX7_step_6 : decode cX7_step 6 = .ok (.sipush (-320), 3) := dTo1_41.1.2.2.2.2.1
theorem dX7_step_9 : decode cX7_step 9 = .ok (.sipush 320, 3) := dTo1_41.1.2.2.2.2.2.1
theorem dX7_step_12 : decode cX7_step 12 = .ok (.invokestatic 113, 3) := dTo1_41.1.2.2.2.2.2.2.1
theorem dX7_step_15 : decode cX7_step 15 = .ok (.ifCond .ne 7, 3) := dTo1_41.1.2.2.2.2.2.2.2.1
theorem dX7_step_18 : decode cX7_step 18 = .ok (.iconst 1, 1) := dTo1_41.1.2.2.2.2.2.2.2.2.1
theorem dX7_step_19 : decode cX7_step 19 = .ok (.goto 4, 3) := dTo1_41.1.2.2.2.2.2.2.2.2.2.1
theorem dX7_step_22 : decode cX7_step 22 = .ok (.iconst 0, 1) := dTo1_41.2.1.1
theorem dX7_step_23 : decode cX7_step 23 = .ok (.invokevirtual 126, 3) := dTo1_41.2.1.2.1
theorem dX7_step_26 : decode cX7_step 26 = .ok (.ifCond .eq 5, 3) := dTo1_41.2.1.2.2.1
theorem dX7_step_29 : decode cX7_step 29 = .ok (.iconst 0, 1) := dTo1_41.2.1.2.2.2.1
theorem dX7_step_30 : decode cX7_step 30 = .ok (.ireturn, 1) := dTo1_41.2.1.2.2.2.2.1
theorem dX7_step_31 : decode cX7_step 31 = .ok (.aload_n 0, 1) := dTo1_41.2.1.2.2.2.2.2.1
theorem dX7_step_32 : decode cX7_step 32 = .ok (.getfield 28, 3) := dTo1_41.2.1.2.2.2.2.2.2.1
theorem dX7_step_35 : decode cX7_step 35 = .ok (.iload_n 1, 1) := dTo1_41.2.1.2.2.2.2.2.2.2.1
theorem dX7_step_36 : decode cX7_step 36 = .ok (.iaload, 1) := dTo1_41.2.1.2.2.2.2.2.2.2.2.1
theorem dX7_step_37 : decode cX7_step 37 = .ok (.ifCond .ne 23, 3) := dTo1_41.2.1.2.2.2.2.2.2.2.2.2.1
theorem dX7_step_40 : decode cX7_step 40 = .ok (.aload_n 0, 1) := dTo1_41.2.2.1.1
theorem dX7_step_41 : decode cX7_step 41 = .ok (.getfield 31, 3) := dTo1_41.2.2.1.2.1
theorem dX7_step_44 : decode cX7_step 44 = .ok (.iload_n 1, 1) := dTo1_41.2.2.1.2.2.1
theorem dX7_step_45 : decode cX7_step 45 = .ok (.iaload, 1) := dTo1_41.2.2.1.2.2.2.1
theorem dX7_step_46 : decode cX7_step 46 = .ok (.iload_n 2, 1) := dTo1_41.2.2.1.2.2.2.2.1
theorem dX7_step_47 : decode cX7_step 47 = .ok (.iadd, 1) := dTo1_41.2.2.1.2.2.2.2.2.1
theorem dX7_step_48 : decode cX7_step 48 = .ok (.sipush (-160), 3) := dTo1_41.2.2.1.2.2.2.2.2.2.1
theorem dX7_step_51 : decode cX7_step 51 = .ok (.sipush 160, 3) := dTo1_41.2.2.1.2.2.2.2.2.2.2.1
theorem dX7_step_54 : decode cX7_step 54 = .ok (.invokestatic 113, 3) := dTo1_41.2.2.1.2.2.2.2.2.2.2.2.1
theorem dX7_step_57 : decode cX7_step 57 = .ok (.ifCond .ne 10, 3) := dTo1_41.2.2.1.2.2.2.2.2.2.2.2.2.1
theorem dX7_step_60 : decode cX7_step 60 = .ok (.aload_n 0, 1) := dTo1_41.2.2.2.1.1
theorem dX7_step_61 : decode cX7_step 61 = .ok (.invokevirtual 134, 3) := dTo1_41.2.2.2.1.2.1
theorem dX7_step_64 : decode cX7_step 64 = .ok (.goto 18, 3) := dTo1_41.2.2.2.1.2.2.1
theorem dX7_step_67 : decode cX7_step 67 = .ok (.aload_n 0, 1) := dTo1_41.2.2.2.1.2.2.2.1
theorem dX7_step_68 : decode cX7_step 68 = .ok (.iload_n 1, 1) := dTo1_41.2.2.2.1.2.2.2.2.1
theorem dX7_step_69 : decode cX7_step 69 = .ok (.iconst 0, 1) := dTo1_41.2.2.2.1.2.2.2.2.2.1
theorem dX7_step_70 : decode cX7_step 70 = .ok (.aload_n 0, 1) := dTo1_41.2.2.2.1.2.2.2.2.2.2.1
theorem dX7_step_71 : decode cX7_step 71 = .ok (.getfield 31, 3) := dTo1_41.2.2.2.1.2.2.2.2.2.2.2.1
theorem dX7_step_74 : decode cX7_step 74 = .ok (.iload_n 1, 1) := dTo1_41.2.2.2.1.2.2.2.2.2.2.2.2.1
theorem dX7_step_75 : decode cX7_step 75 = .ok (.iaload, 1) := dTo1_41.2.2.2.1.2.2.2.2.2.2.2.2.2.1
theorem dX7_step_76 : decode cX7_step 76 = .ok (.iload_n 2, 1) := dTo1_41.2.2.2.2.1.1
theorem dX7_step_77 : decode cX7_step 77 = .ok (.iadd, 1) := dTo1_41.2.2.2.2.1.2.1
theorem dX7_step_78 : decode cX7_step 78 = .ok (.iconst 0, 1) := dTo1_41.2.2.2.2.1.2.2.1
theorem dX7_step_79 : decode cX7_step 79 = .ok (.invokevirtual 130, 3) := dTo1_41.2.2.2.2.1.2.2.2.1
theorem dX7_step_82 : decode cX7_step 82 = .ok (.ireturn, 1) := dTo1_41.2.2.2.2.1.2.2.2.2.1
theorem dTo1_42 : dQ cX7_turn [[(0, .aload_n 0, 1), (1, .iload_n 1, 1), (2, .invokestatic 123, 3), (5, .iconst 0, 1), (6, .invokevirtual 126, 3), (9, .ifCond .eq 5, 3), (12, .iconst 0, 1), (13, .ireturn, 1), (14, .aload_n 0, 1), (15, .getfield 28, 3)], [(18, .iload_n 1, 1), (19, .iaload, 1), (20, .iconst 1, 1), (21, .if_icmp .le 8, 3), (24, .aload_n 0, 1), (25, .invokevirtual 134, 3), (28, .ireturn, 1), (29, .aload_n 0, 1), (30, .getfield 28, 3), (33, .iload_n 1, 1)], [(34, .iaload, 1), (35, .iconst 1, 1), (36, .if_icmp .eq 12, 3), (39, .aload_n 0, 1), (40, .getfield 31, 3), (43, .iload_n 1, 1), (44, .iaload, 1), (45, .ifCond .ne 7, 3), (48, .iconst 1, 1), (49, .goto 4, 3)], [(52, .iconst 0, 1), (53, .istore_n 2, 1), (54, .aload_n 0, 1), (55, .iload_n 1, 1), (56, .aload_n 0, 1), (57, .getfield 28, 3), (60, .iload_n 1, 1), (61, .iaload, 1), (62, .aload_n 0, 1), (63, .getfield 31, 3)], [(66, .iload_n 1, 1), (67, .iaload, 1), (68, .ineg, 1), (69, .iload_n 2, 1), (70, .ifCond .eq 16, 3), (73, .aload_n 0, 1), (74, .getfield 34, 3), (77, .iload_n 1, 1), (78, .baload, 1), (79, .ifCond .ne 7, 3)], [(82, .iconst 1, 1), (83, .goto 4, 3), (86, .iconst 0, 1), (87, .invokevirtual 130, 3), (90, .ireturn, 1)]] := dQ_of _ _ (by decide +kernel)
theorem dX7_turn_0 : decode cX7_turn 0 = .ok (.aload_n 0, 1) := dTo1_42.1.1
theorem dX7_turn_1 : decode cX7_turn 1 = .ok (.iload_n 1, 1) := dTo1_42.1.2.1
theorem dX7_turn_2 : decode cX7_turn 2 = .ok (.invokestatic 123, 3) := dTo1_42.1.2.2.1
theorem dX7_turn_5 : decode cX7_turn 5 = .ok (.iconst 0, 1) := dTo1_42.1.2.2.2.1
theorem dX7_turn_6 : decode cX7_turn 6 = .ok (.invokevirtual 126, 3) := dTo1_42.1.2.2.2.2.1
theorem dX7_turn_9 : decode cX7_turn 9 = .ok (.ifCond .eq 5, 3) := dTo1_42.1.2.2.2.2.2.1
theorem dX7_turn_12 : decode cX7_turn 12 = .ok (.iconst 0, 1) := dTo1_42.1.2.2.2.2.2.2.1
theorem dX7_turn_13 : decode cX7_turn 13 = .ok (.ireturn, 1) := dTo1_42.1.2.2.2.2.2.2.2.1
theorem dX7_turn_14 : decode cX7_turn 14 = .ok (.aload_n 0, 1) := dTo1_42.1.2.2.2.2.2.2.2.2.1
theorem dX7_turn_15 : decode cX7_turn 15 = .ok (.getfield 28, 3) := dTo1_42.1.2.2.2.2.2.2.2.2.2.1
theorem dX7_turn_18 : decode cX7_turn 18 = .ok (.iload_n 1, 1) := dTo1_42.2.1.1
theorem dX7_turn_19 : decode cX7_turn 19 = .ok (.iaload, 1) := dTo1_42.2.1.2.1
theorem dX7_turn_20 : decode cX7_turn 20 = .ok (.iconst 1, 1) := dTo1_42.2.1.2.2.1
theorem dX7_turn_21 : decode cX7_turn 21 = .ok (.if_icmp .le 8, 3) := dTo1_42.2.1.2.2.2.1
theorem dX7_turn_24 : decode cX7_turn 24 = .ok (.aload_n 0, 1) := dTo1_42.2.1.2.2.2.2.1
theorem dX7_turn_25 : decode cX7_turn 25 = .ok (.invokevirtual 134, 3) := dTo1_42.2.1.2.2.2.2.2.1
theorem dX7_turn_28 : decode cX7_turn 28 = .ok (.ireturn, 1) := dTo1_42.2.1.2.2.2.2.2.2.1
theorem dX7_turn_29 : decode cX7_turn 29 = .ok (.aload_n 0, 1) := dTo1_42.2.1.2.2.2.2.2.2.2.1
theorem dX7_turn_30 : decode cX7_turn 30 = .ok (.getfield 28, 3) := dTo1_42.2.1.2.2.2.2.2.2.2.2.1
theorem dX7_turn_33 : decode cX7_turn 33 = .ok (.iload_n 1, 1) := dTo1_42.2.1.2.2.2.2.2.2.2.2.2.1
theorem dX7_turn_34 : decode cX7_turn 34 = .ok (.iaload, 1) := dTo1_42.2.2.1.1
theorem dX7_turn_35 : decode cX7_turn 35 = .ok (.iconst 1, 1) := dTo1_42.2.2.1.2.1
theorem dX7_turn_36 : decode cX7_turn 36 = .ok (.if_icmp .eq 12, 3) := dTo1_42.2.2.1.2.2.1
theorem dX7_turn_39 : decode cX7_turn 39 = .ok (.aload_n 0, 1) := dTo1_42.2.2.1.2.2.2.1
theorem dX7_turn_40 : decode cX7_turn 40 = .ok (.getfield 31, 3) := dTo1_42.2.2.1.2.2.2.2.1
theorem dX7_turn_43 : decode cX7_turn 43 = .ok (.iload_n 1, 1) := dTo1_42.2.2.1.2.2.2.2.2.1
theorem dX7_turn_44 : decode cX7_turn 44 = .ok (.iaload, 1) := dTo1_42.2.2.1.2.2.2.2.2.2.1
theorem dX7_turn_45 : decode cX7_turn 45 = .ok (.ifCond .ne 7, 3) := dTo1_42.2.2.1.2.2.2.2.2.2.2.1
theorem dX7_turn_48 : decode cX7_turn 48 = .ok (.iconst 1, 1) := dTo1_42.2.2.1.2.2.2.2.2.2.2.2.1
theorem dX7_turn_49 : decode cX7_turn 49 = .ok (.goto 4, 3) := dTo1_42.2.2.1.2.2.2.2.2.2.2.2.2.1
theorem dX7_turn_52 : decode cX7_turn 52 = .ok (.iconst 0, 1) := dTo1_42.2.2.2.1.1
theorem dX7_turn_53 : decode cX7_turn 53 = .ok (.istore_n 2, 1) := dTo1_42.2.2.2.1.2.1
theorem dX7_turn_54 : decode cX7_turn 54 = .ok (.aload_n 0, 1) := dTo1_42.2.2.2.1.2.2.1
theorem dX7_turn_55 : decode cX7_turn 55 = .ok (.iload_n 1, 1) := dTo1_42.2.2.2.1.2.2.2.1
theorem dX7_turn_56 : decode cX7_turn 56 = .ok (.aload_n 0, 1) := dTo1_42.2.2.2.1.2.2.2.2.1
theorem dX7_turn_57 : decode cX7_turn 57 = .ok (.getfield 28, 3) := dTo1_42.2.2.2.1.2.2.2.2.2.1
theorem dX7_turn_60 : decode cX7_turn 60 = .ok (.iload_n 1, 1) := dTo1_42.2.2.2.1.2.2.2.2.2.2.1
theorem dX7_turn_61 : decode cX7_turn 61 = .ok (.iaload, 1) := dTo1_42.2.2.2.1.2.2.2.2.2.2.2.1
theorem dX7_turn_62 : decode cX7_turn 62 = .ok (.aload_n 0, 1) := dTo1_42.2.2.2.1.2.2.2.2.2.2.2.2.1
theorem dX7_turn_63 : decode cX7_turn 63 = .ok (.getfield 31, 3) := dTo1_42.2.2.2.1.2.2.2.2.2.2.2.2.2.1
theorem dX7_turn_66 : decode cX7_turn 66 = .ok (.iload_n 1, 1) := dTo1_42.2.2.2.2.1.1
theorem dX7_turn_67 : decode cX7_turn 67 = .ok (.iaload, 1) := dTo1_42.2.2.2.2.1.2.1
theorem dX7_turn_68 : decode cX7_turn 68 = .ok (.ineg, 1) := dTo1_42.2.2.2.2.1.2.2.1
theorem dX7_turn_69 : decode cX7_turn 69 = .ok (.iload_n 2, 1) := dTo1_42.2.2.2.2.1.2.2.2.1
theorem dX7_turn_70 : decode cX7_turn 70 = .ok (.ifCond .eq 16, 3) := dTo1_42.2.2.2.2.1.2.2.2.2.1
theorem dX7_turn_73 : decode cX7_turn 73 = .ok (.aload_n 0, 1) := dTo1_42.2.2.2.2.1.2.2.2.2.2.1
theorem dX7_turn_74 : decode cX7_turn 74 = .ok (.getfield 34, 3) := dTo1_42.2.2.2.2.1.2.2.2.2.2.2.1
theorem dX7_turn_77 : decode cX7_turn 77 = .ok (.iload_n 1, 1) := dTo1_42.2.2.2.2.1.2.2.2.2.2.2.2.1
theorem dX7_turn_78 : decode cX7_turn 78 = .ok (.baload, 1) := dTo1_42.2.2.2.2.1.2.2.2.2.2.2.2.2.1
theorem dX7_turn_79 : decode cX7_turn 79 = .ok (.ifCond .ne 7, 3) := dTo1_42.2.2.2.2.1.2.2.2.2.2.2.2.2.2.1
theorem dX7_turn_82 : decode cX7_turn 82 = .ok (.iconst 1, 1) := dTo1_42.2.2.2.2.2.1.1
theorem dX7_turn_83 : decode cX7_turn 83 = .ok (.goto 4, 3) := dTo1_42.2.2.2.2.2.1.2.1
theorem dX7_turn_86 : decode cX7_turn 86 = .ok (.iconst 0, 1) := dTo1_42.2.2.2.2.2.1.2.2.1
theorem dX7_turn_87 : decode cX7_turn 87 = .ok (.invokevirtual 130, 3) := dTo1_42.2.2.2.2.2.1.2.2.2.1
theorem dX7_turn_90 : decode cX7_turn 90 = .ok (.ireturn, 1) := dTo1_42.2.2.2.2.2.1.2.2.2.2.1
theorem dTo1_43 : dQ cX7_become [[(0, .iload_n 1, 1), (1, .iconst 1, 1), (2, .if_icmp .ne 9, 3), (5, .iload_n 0, 1), (6, .iload_n 3, 1), (7, .invokestatic 144, 3), (10, .areturn, 1), (11, .iload_n 1, 1), (12, .ifCond .ne 54, 3), (15, .iload_n 2, 1)], [(16, .ifCond .ne 50, 3), (19, .iload_n 0, 1), (20, .iconst 1, 1), (21, .if_icmp .ne 21, 3), (24, .iconst 3, 1), (25, .newarray .int, 2), (27, .dup, 1), (28, .iconst 0, 1), (29, .iconst 0, 1), (30, .iastore, 1)], [(31, .dup, 1), (32, .iconst 1, 1), (33, .iconst 4, 1), (34, .iastore, 1), (35, .dup, 1), (36, .iconst 2, 1), (37, .iconst 0, 1), (38, .iastore, 1), (39, .goto 26, 3), (42, .iconst 3, 1)], [(43, .newarray .int, 2), (45, .dup, 1), (46, .iconst 0, 1), (47, .iconst 0, 1), (48, .iastore, 1), (49, .dup, 1), (50, .iconst 1, 1), (51, .iconst 0, 1), (52, .iastore, 1), (53, .dup, 1)], [(54, .iconst 2, 1), (55, .iload_n 3, 1), (56, .ifCond .eq 7, 3), (59, .iconst 1, 1), (60, .goto 4, 3), (63, .iconst 0, 1), (64, .iastore, 1), (65, .areturn, 1), (66, .iload_n 1, 1), (67, .ifCond .ne 30, 3)], [(70, .iload_n 0, 1), (71, .iconst 3, 1), (72, .if_icmp .ne 25, 3), (75, .iload_n 2, 1), (76, .bipush (-4), 2), (78, .if_icmp .ne 19, 3), (81, .iconst 3, 1), (82, .newarray .int, 2), (84, .dup, 1), (85, .iconst 0, 1)]] := dQ_of _ _ (by decide +kernel)
theorem dX7_become_0 : decode cX7_become 0 = .ok (.iload_n 1, 1) := dTo1_43.1.1
theorem dX7_become_1 : decode cX7_become 1 = .ok (.iconst 1, 1) := dTo1_43.1.2.1
theorem dX7_become_2 : decode cX7_become 2 = .ok (.if_icmp .ne 9, 3) := dTo1_43.1.2.2.1
theorem dX7_become_5 : decode cX7_become 5 = .ok (.iload_n 0, 1) := dTo1_43.1.2.2.2.1
theorem dX7_become_6 : decode cX7_become 6 = .ok (.iload_n 3, 1) := dTo1_43.1.2.2.2.2.1
theorem dX7_become_7 : decode cX7_become 7 = .ok (.invokestatic 144, 3) := dTo1_43.1.2.2.2.2.2.1
theorem dX7_become_10 : decode cX7_become 10 = .ok (.areturn, 1) := dTo1_43.1.2.2.2.2.2.2.1
theorem dX7_become_11 : decode cX7_become 11 = .ok (.iload_n 1, 1) := dTo1_43.1.2.2.2.2.2.2.2.1
theorem dX7_become_12 : decode cX7_become 12 = .ok (.ifCond .ne 54, 3) := dTo1_43.1.2.2.2.2.2.2.2.2.1
theorem dX7_become_15 : decode cX7_become 15 = .ok (.iload_n 2, 1) := dTo1_43.1.2.2.2.2.2.2.2.2.2.1
theorem dX7_become_16 : decode cX7_become 16 = .ok (.ifCond .ne 50, 3) := dTo1_43.2.1.1
theorem dX7_become_19 : decode cX7_become 19 = .ok (.iload_n 0, 1) := dTo1_43.2.1.2.1
theorem dX7_become_20 : decode cX7_become 20 = .ok (.iconst 1, 1) := dTo1_43.2.1.2.2.1
theorem dX7_become_21 : decode cX7_become 21 = .ok (.if_icmp .ne 21, 3) := dTo1_43.2.1.2.2.2.1
theorem dX7_become_24 : decode cX7_become 24 = .ok (.iconst 3, 1) := dTo1_43.2.1.2.2.2.2.1
theorem dX7_become_25 : decode cX7_become 25 = .ok (.newarray .int, 2) := dTo1_43.2.1.2.2.2.2.2.1
theorem dX7_become_27 : decode cX7_become 27 = .ok (.dup, 1) := dTo1_43.2.1.2.2.2.2.2.2.1
theorem dX7_become_28 : decode cX7_become 28 = .ok (.iconst 0, 1) := dTo1_43.2.1.2.2.2.2.2.2.2.1
theorem dX7_become_29 : decode cX7_become 29 = .ok (.iconst 0, 1) := dTo1_43.2.1.2.2.2.2.2.2.2.2.1
theorem dX7_become_30 : decode cX7_become 30 = .ok (.iastore, 1) := dTo1_43.2.1.2.2.2.2.2.2.2.2.2.1
theorem dX7_become_31 : decode cX7_become 31 = .ok (.dup, 1) := dTo1_43.2.2.1.1
theorem dX7_become_32 : decode cX7_become 32 = .ok (.iconst 1, 1) := dTo1_43.2.2.1.2.1
theorem dX7_become_33 : decode cX7_become 33 = .ok (.iconst 4, 1) := dTo1_43.2.2.1.2.2.1
theorem dX7_become_34 : decode cX7_become 34 = .ok (.iastore, 1) := dTo1_43.2.2.1.2.2.2.1
theorem dX7_become_35 : decode cX7_become 35 = .ok (.dup, 1) := dTo1_43.2.2.1.2.2.2.2.1
theorem dX7_become_36 : decode cX7_become 36 = .ok (.iconst 2, 1) := dTo1_43.2.2.1.2.2.2.2.2.1
theorem dX7_become_37 : decode cX7_become 37 = .ok (.iconst 0, 1) := dTo1_43.2.2.1.2.2.2.2.2.2.1
theorem dX7_become_38 : decode cX7_become 38 = .ok (.iastore, 1) := dTo1_43.2.2.1.2.2.2.2.2.2.2.1
theorem dX7_become_39 : decode cX7_become 39 = .ok (.goto 26, 3) := dTo1_43.2.2.1.2.2.2.2.2.2.2.2.1
theorem dX7_become_42 : decode cX7_become 42 = .ok (.iconst 3, 1) := dTo1_43.2.2.1.2.2.2.2.2.2.2.2.2.1
theorem dX7_become_43 : decode cX7_become 43 = .ok (.newarray .int, 2) := dTo1_43.2.2.2.1.1
theorem dX7_become_45 : decode cX7_become 45 = .ok (.dup, 1) := dTo1_43.2.2.2.1.2.1
theorem dX7_become_46 : decode cX7_become 46 = .ok (.iconst 0, 1) := dTo1_43.2.2.2.1.2.2.1
theorem dX7_become_47 : decode cX7_become 47 = .ok (.iconst 0, 1) := dTo1_43.2.2.2.1.2.2.2.1
theorem dX7_become_48 : decode cX7_become 48 = .ok (.iastore, 1) := dTo1_43.2.2.2.1.2.2.2.2.1
theorem dX7_become_49 : decode cX7_become 49 = .ok (.dup, 1) := dTo1_43.2.2.2.1.2.2.2.2.2.1
theorem dX7_become_50 : decode cX7_become 50 = .ok (.iconst 1, 1) := dTo1_43.2.2.2.1.2.2.2.2.2.2.1
theorem dX7_become_51 : decode cX7_become 51 = .ok (.iconst 0, 1) := dTo1_43.2.2.2.1.2.2.2.2.2.2.2.1
theorem dX7_become_52 : decode cX7_become 52 = .ok (.iastore, 1) := dTo1_43.2.2.2.1.2.2.2.2.2.2.2.2.1
theorem dX7_become_53 : decode cX7_become 53 = .ok (.dup, 1) := dTo1_43.2.2.2.1.2.2.2.2.2.2.2.2.2.1
theorem dX7_become_54 : decode cX7_become 54 = .ok (.iconst 2, 1) := dTo1_43.2.2.2.2.1.1
theorem dX7_become_55 : decode cX7_become 55 = .ok (.iload_n 3, 1) := dTo1_43.2.2.2.2.1.2.1
theorem dX7_become_56 : decode cX7_become 56 = .ok (.ifCond .eq 7, 3) := dTo1_43.2.2.2.2.1.2.2.1
theorem dX7_become_59 : decode cX7_become 59 = .ok (.iconst 1, 1) := dTo1_43.2.2.2.2.1.2.2.2.1
theorem dX7_become_60 : decode cX7_become 60 = .ok (.goto 4, 3) := dTo1_43.2.2.2.2.1.2.2.2.2.1
theorem dX7_become_63 : decode cX7_become 63 = .ok (.iconst 0, 1) := dTo1_43.2.2.2.2.1.2.2.2.2.2.1
theorem dX7_become_64 : decode cX7_become 64 = .ok (.iastore, 1) := dTo1_43.2.2.2.2.1.2.2.2.2.2.2.1
theorem dX7_become_65 : decode cX7_become 65 = .ok (.areturn, 1) := dTo1_43.2.2.2.2.1.2.2.2.2.2.2.2.1
theorem dX7_become_66 : decode cX7_become 66 = .ok (.iload_n 1, 1) := dTo1_43.2.2.2.2.1.2.2.2.2.2.2.2.2.1
theorem dX7_become_67 : decode cX7_become 67 = .ok (.ifCond .ne 30, 3) := dTo1_43.2.2.2.2.1.2.2.2.2.2.2.2.2.2.1
theorem dX7_become_70 : decode cX7_become 70 = .ok (.iload_n 0, 1) := dTo1_43.2.2.2.2.2.1.1
theorem dX7_become_71 : decode cX7_become 71 = .ok (.iconst 3, 1) := dTo1_43.2.2.2.2.2.1.2.1
theorem dX7_become_72 : decode cX7_become 72 = .ok (.if_icmp .ne 25, 3) := dTo1_43.2.2.2.2.2.1.2.2.1
theorem dX7_become_75 : decode cX7_become 75 = .ok (.iload_n 2, 1) := dTo1_43.2.2.2.2.2.1.2.2.2.1
theorem dX7_become_76 : decode cX7_become 76 = .ok (.bipush (-4), 2) := dTo1_43.2.2.2.2.2.1.2.2.2.2.1
theorem dX7_become_78 : decode cX7_become 78 = .ok (.if_icmp .ne 19, 3) := dTo1_43.2.2.2.2.2.1.2.2.2.2.2.1
theorem dX7_become_81 : decode cX7_become 81 = .ok (.iconst 3, 1) := dTo1_43.2.2.2.2.2.1.2.2.2.2.2.2.1
theorem dX7_become_82 : decode cX7_become 82 = .ok (.newarray .int, 2) := dTo1_43.2.2.2.2.2.1.2.2.2.2.2.2.2.1
theorem dX7_become_84 : decode cX7_become 84 = .ok (.dup, 1) := dTo1_43.2.2.2.2.2.1.2.2.2.2.2.2.2.2.1
theorem dX7_become_85 : decode cX7_become 85 = .ok (.iconst 0, 1) := dTo1_43.2.2.2.2.2.1.2.2.2.2.2.2.2.2.2.1
theorem dTo1_44 : dQ cX7_become [[(86, .iconst 1, 1), (87, .iastore, 1), (88, .dup, 1), (89, .iconst 1, 1), (90, .iconst 0, 1), (91, .iastore, 1), (92, .dup, 1), (93, .iconst 2, 1), (94, .iconst 1, 1), (95, .iastore, 1)], [(96, .areturn, 1), (97, .iload_n 1, 1), (98, .ifCond .ne 42, 3), (101, .iload_n 2, 1), (102, .getstatic 148, 3), (105, .iload_n 0, 1), (106, .iaload, 1), (107, .getstatic 151, 3), (110, .iload_n 0, 1), (111, .iaload, 1)], [(112, .invokestatic 113, 3), (115, .ifCond .eq 23, 3), (118, .iconst 3, 1), (119, .newarray .int, 2), (121, .dup, 1), (122, .iconst 0, 1), (123, .iload_n 0, 1), (124, .iconst 1, 1), (125, .iadd, 1), (126, .iastore, 1)], [(127, .dup, 1), (128, .iconst 1, 1), (129, .iload_n 2, 1), (130, .iastore, 1), (131, .dup, 1), (132, .iconst 2, 1), (133, .iconst 0, 1), (134, .iastore, 1), (135, .goto 4, 3), (138, .aconst_null, 1)], [(139, .areturn, 1), (140, .iload_n 0, 1), (141, .iconst 2, 1), (142, .if_icmp .ne 25, 3), (145, .iload_n 1, 1), (146, .iconst 4, 1), (147, .if_icmp .ne 20, 3), (150, .iconst 3, 1), (151, .newarray .int, 2), (153, .dup, 1)], [(154, .iconst 0, 1), (155, .bipush 6, 2), (157, .iastore, 1), (158, .dup, 1), (159, .iconst 1, 1), (160, .iload_n 2, 1), (161, .iastore, 1), (162, .dup, 1), (163, .iconst 2, 1), (164, .iconst 0, 1)]] := dQ_of _ _ (by decide +kernel)
theorem dX7_become_86 : decode cX7_become 86 = .ok (.iconst 1, 1) := dTo1_44.1.1
theorem dX7_become_87 : decode cX7_become 87 = .ok (.iastore, 1) := dTo1_44.1.2.1
theorem dX7_become_88 : decode cX7_become 88 = .ok (.dup, 1) := dTo1_44.1.2.2.1
theorem dX7_become_89 : decode cX7_become 89 = .ok (.iconst 1, 1) := dTo1_44.1.2.2.2.1
theorem dX7_become_90 : decode cX7_become 90 = .ok (.iconst 0, 1) := dTo1_44.1.2.2.2.2.1
theorem dX7_become_91 : decode cX7_become 91 = .ok (.iastore, 1) := dTo1_44.1.2.2.2.2.2.1
theorem dX7_become_92 : decode cX7_become 92 = .ok (.dup, 1) := dTo1_44.1.2.2.2.2.2.2.1
theorem dX7_become_93 : decode cX7_become 93 = .ok (.iconst 2, 1) := dTo1_44.1.2.2.2.2.2.2.2.1
theorem dX7_become_94 : decode cX7_become 94 = .ok (.iconst 1, 1) := dTo1_44.1.2.2.2.2.2.2.2.2.1
theorem dX7_become_95 : decode cX7_become 95 = .ok (.iastore, 1) := dTo1_44.1.2.2.2.2.2.2.2.2.2.1
theorem dX7_become_96 : decode cX7_become 96 = .ok (.areturn, 1) := dTo1_44.2.1.1
theorem dX7_become_97 : decode cX7_become 97 = .ok (.iload_n 1, 1) := dTo1_44.2.1.2.1
theorem dX7_become_98 : decode cX7_become 98 = .ok (.ifCond .ne 42, 3) := dTo1_44.2.1.2.2.1
theorem dX7_become_101 : decode cX7_become 101 = .ok (.iload_n 2, 1) := dTo1_44.2.1.2.2.2.1
theorem dX7_become_102 : decode cX7_become 102 = .ok (.getstatic 148, 3) := dTo1_44.2.1.2.2.2.2.1
theorem dX7_become_105 : decode cX7_become 105 = .ok (.iload_n 0, 1) := dTo1_44.2.1.2.2.2.2.2.1
theorem dX7_become_106 : decode cX7_become 106 = .ok (.iaload, 1) := dTo1_44.2.1.2.2.2.2.2.2.1
theorem dX7_become_107 : decode cX7_become 107 = .ok (.getstatic 151, 3) := dTo1_44.2.1.2.2.2.2.2.2.2.1
theorem dX7_become_110 : decode cX7_become 110 = .ok (.iload_n 0, 1) := dTo1_44.2.1.2.2.2.2.2.2.2.2.1
theorem dX7_become_111 : decode cX7_become 111 = .ok (.iaload, 1) := dTo1_44.2.1.2.2.2.2.2.2.2.2.2.1
theorem dX7_become_112 : decode cX7_become 112 = .ok (.invokestatic 113, 3) := dTo1_44.2.2.1.1
theorem dX7_become_115 : decode cX7_become 115 = .ok (.ifCond .eq 23, 3) := dTo1_44.2.2.1.2.1
theorem dX7_become_118 : decode cX7_become 118 = .ok (.iconst 3, 1) := dTo1_44.2.2.1.2.2.1
theorem dX7_become_119 : decode cX7_become 119 = .ok (.newarray .int, 2) := dTo1_44.2.2.1.2.2.2.1
theorem dX7_become_121 : decode cX7_become 121 = .ok (.dup, 1) := dTo1_44.2.2.1.2.2.2.2.1
theorem dX7_become_122 : decode cX7_become 122 = .ok (.iconst 0, 1) := dTo1_44.2.2.1.2.2.2.2.2.1
theorem dX7_become_123 : decode cX7_become 123 = .ok (.iload_n 0, 1) := dTo1_44.2.2.1.2.2.2.2.2.2.1
theorem dX7_become_124 : decode cX7_become 124 = .ok (.iconst 1, 1) := dTo1_44.2.2.1.2.2.2.2.2.2.2.1
theorem dX7_become_125 : decode cX7_become 125 = .ok (.iadd, 1) := dTo1_44.2.2.1.2.2.2.2.2.2.2.2.1
theorem dX7_become_126 : decode cX7_become 126 = .ok (.iastore, 1) := dTo1_44.2.2.1.2.2.2.2.2.2.2.2.2.1
theorem dX7_become_127 : decode cX7_become 127 = .ok (.dup, 1) := dTo1_44.2.2.2.1.1
theorem dX7_become_128 : decode cX7_become 128 = .ok (.iconst 1, 1) := dTo1_44.2.2.2.1.2.1
theorem dX7_become_129 : decode cX7_become 129 = .ok (.iload_n 2, 1) := dTo1_44.2.2.2.1.2.2.1
theorem dX7_become_130 : decode cX7_become 130 = .ok (.iastore, 1) := dTo1_44.2.2.2.1.2.2.2.1
theorem dX7_become_131 : decode cX7_become 131 = .ok (.dup, 1) := dTo1_44.2.2.2.1.2.2.2.2.1
theorem dX7_become_132 : decode cX7_become 132 = .ok (.iconst 2, 1) := dTo1_44.2.2.2.1.2.2.2.2.2.1
theorem dX7_become_133 : decode cX7_become 133 = .ok (.iconst 0, 1) := dTo1_44.2.2.2.1.2.2.2.2.2.2.1
theorem dX7_become_134 : decode cX7_become 134 = .ok (.iastore, 1) := dTo1_44.2.2.2.1.2.2.2.2.2.2.2.1
theorem dX7_become_135 : decode cX7_become 135 = .ok (.goto 4, 3) := dTo1_44.2.2.2.1.2.2.2.2.2.2.2.2.1
theorem dX7_become_138 : decode cX7_become 138 = .ok (.aconst_null, 1) := dTo1_44.2.2.2.1.2.2.2.2.2.2.2.2.2.1
theorem dX7_become_139 : decode cX7_become 139 = .ok (.areturn, 1) := dTo1_44.2.2.2.2.1.1
theorem dX7_become_140 : decode cX7_become 140 = .ok (.iload_n 0, 1) := dTo1_44.2.2.2.2.1.2.1
theorem dX7_become_141 : decode cX7_become 141 = .ok (.iconst 2, 1) := dTo1_44.2.2.2.2.1.2.2.1
theorem dX7_become_142 : decode cX7_become 142 = .ok (.if_icmp .ne 25, 3) := dTo1_44.2.2.2.2.1.2.2.2.1
theorem dX7_become_145 : decode cX7_become 145 = .ok (.iload_n 1, 1) := dTo1_44.2.2.2.2.1.2.2.2.2.1
theorem dX7_become_146 : decode cX7_become 146 = .ok (.iconst 4, 1) := dTo1_44.2.2.2.2.1.2.2.2.2.2.1
theorem dX7_become_147 : decode cX7_become 147 = .ok (.if_icmp .ne 20, 3) := dTo1_44.2.2.2.2.1.2.2.2.2.2.2.1
theorem dX7_become_150 : decode cX7_become 150 = .ok (.iconst 3, 1) := dTo1_44.2.2.2.2.1.2.2.2.2.2.2.2.1
theorem dX7_become_151 : decode cX7_become 151 = .ok (.newarray .int, 2) := dTo1_44.2.2.2.2.1.2.2.2.2.2.2.2.2.1
theorem dX7_become_153 : decode cX7_become 153 = .ok (.dup, 1) := dTo1_44.2.2.2.2.1.2.2.2.2.2.2.2.2.2.1
theorem dX7_become_154 : decode cX7_become 154 = .ok (.iconst 0, 1) := dTo1_44.2.2.2.2.2.1.1
theorem dX7_become_155 : decode cX7_become 155 = .ok (.bipush 6, 2) := dTo1_44.2.2.2.2.2.1.2.1
theorem dX7_become_157 : decode cX7_become 157 = .ok (.iastore, 1) := dTo1_44.2.2.2.2.2.1.2.2.1
theorem dX7_become_158 : decode cX7_become 158 = .ok (.dup, 1) := dTo1_44.2.2.2.2.2.1.2.2.2.1
theorem dX7_become_159 : decode cX7_become 159 = .ok (.iconst 1, 1) := dTo1_44.2.2.2.2.2.1.2.2.2.2.1
theorem dX7_become_160 : decode cX7_become 160 = .ok (.iload_n 2, 1) := dTo1_44.2.2.2.2.2.1.2.2.2.2.2.1
theorem dX7_become_161 : decode cX7_become 161 = .ok (.iastore, 1) := dTo1_44.2.2.2.2.2.1.2.2.2.2.2.2.1
theorem dX7_become_162 : decode cX7_become 162 = .ok (.dup, 1) := dTo1_44.2.2.2.2.2.1.2.2.2.2.2.2.2.1
theorem dX7_become_163 : decode cX7_become 163 = .ok (.iconst 2, 1) := dTo1_44.2.2.2.2.2.1.2.2.2.2.2.2.2.2.1
theorem dX7_become_164 : decode cX7_become 164 = .ok (.iconst 0, 1) := dTo1_44.2.2.2.2.2.1.2.2.2.2.2.2.2.2.2.1
theorem dTo1_45 : dQ cX7_become [[(165, .iastore, 1), (166, .areturn, 1), (167, .iload_n 0, 1), (168, .iconst 3, 1), (169, .if_icmp .ne 34, 3), (172, .iload_n 1, 1), (173, .iconst 3, 1), (174, .if_icmp .ne 29, 3), (177, .iconst 3, 1), (178, .newarray .int, 2)], [(180, .dup, 1), (181, .iconst 0, 1), (182, .iload_n 2, 1), (183, .bipush (-4), 2), (185, .if_icmp .ge 7, 3), (188, .iconst 5, 1), (189, .goto 4, 3), (192, .iconst 0, 1), (193, .iastore, 1), (194, .dup, 1)], [(195, .iconst 1, 1), (196, .iload_n 2, 1), (197, .iastore, 1), (198, .dup, 1), (199, .iconst 2, 1), (200, .iconst 0, 1), (201, .iastore, 1), (202, .areturn, 1), (203, .aconst_null, 1), (204, .areturn, 1)]] := dQ_of _ _ (by decide +kernel)
theorem dX7_become_165 : decode cX7_become 165 = .ok (.iastore, 1) := dTo1_45.1.1
theorem dX7_become_166 : decode cX7_become 166 = .ok (.areturn, 1) := dTo1_45.1.2.1
theorem dX7_become_167 : decode cX7_become 167 = .ok (.iload_n 0, 1) := dTo1_45.1.2.2.1
theorem dX7_become_168 : decode cX7_become 168 = .ok (.iconst 3, 1) := dTo1_45.1.2.2.2.1
theorem dX7_become_169 : decode cX7_become 169 = .ok (.if_icmp .ne 34, 3) := dTo1_45.1.2.2.2.2.1
theorem dX7_become_172 : decode cX7_become 172 = .ok (.iload_n 1, 1) := dTo1_45.1.2.2.2.2.2.1
theorem dX7_become_173 : decode cX7_become 173 = .ok (.iconst 3, 1) := dTo1_45.1.2.2.2.2.2.2.1
theorem dX7_become_174 : decode cX7_become 174 = .ok (.if_icmp .ne 29, 3) := dTo1_45.1.2.2.2.2.2.2.2.1
theorem dX7_become_177 : decode cX7_become 177 = .ok (.iconst 3, 1) := dTo1_45.1.2.2.2.2.2.2.2.2.1
theorem dX7_become_178 : decode cX7_become 178 = .ok (.newarray .int, 2) := dTo1_45.1.2.2.2.2.2.2.2.2.2.1
theorem dX7_become_180 : decode cX7_become 180 = .ok (.dup, 1) := dTo1_45.2.1.1
theorem dX7_become_181 : decode cX7_become 181 = .ok (.iconst 0, 1) := dTo1_45.2.1.2.1
theorem dX7_become_182 : decode cX7_become 182 = .ok (.iload_n 2, 1) := dTo1_45.2.1.2.2.1
theorem dX7_become_183 : decode cX7_become 183 = .ok (.bipush (-4), 2) := dTo1_45.2.1.2.2.2.1
theorem dX7_become_185 : decode cX7_become 185 = .ok (.if_icmp .ge 7, 3) := dTo1_45.2.1.2.2.2.2.1
theorem dX7_become_188 : decode cX7_become 188 = .ok (.iconst 5, 1) := dTo1_45.2.1.2.2.2.2.2.1
theorem dX7_become_189 : decode cX7_become 189 = .ok (.goto 4, 3) := dTo1_45.2.1.2.2.2.2.2.2.1
theorem dX7_become_192 : decode cX7_become 192 = .ok (.iconst 0, 1) := dTo1_45.2.1.2.2.2.2.2.2.2.1
theorem dX7_become_193 : decode cX7_become 193 = .ok (.iastore, 1) := dTo1_45.2.1.2.2.2.2.2.2.2.2.1
theorem dX7_become_194 : decode cX7_become 194 = .ok (.dup, 1) := dTo1_45.2.1.2.2.2.2.2.2.2.2.2.1
theorem dX7_become_195 : decode cX7_become 195 = .ok (.iconst 1, 1) := dTo1_45.2.2.1.1
theorem dX7_become_196 : decode cX7_become 196 = .ok (.iload_n 2, 1) := dTo1_45.2.2.1.2.1
theorem dX7_become_197 : decode cX7_become 197 = .ok (.iastore, 1) := dTo1_45.2.2.1.2.2.1
theorem dX7_become_198 : decode cX7_become 198 = .ok (.dup, 1) := dTo1_45.2.2.1.2.2.2.1
theorem dX7_become_199 : decode cX7_become 199 = .ok (.iconst 2, 1) := dTo1_45.2.2.1.2.2.2.2.1
theorem dX7_become_200 : decode cX7_become 200 = .ok (.iconst 0, 1) := dTo1_45.2.2.1.2.2.2.2.2.1
theorem dX7_become_201 : decode cX7_become 201 = .ok (.iastore, 1) := dTo1_45.2.2.1.2.2.2.2.2.2.1
theorem dX7_become_202 : decode cX7_become 202 = .ok (.areturn, 1) := dTo1_45.2.2.1.2.2.2.2.2.2.2.1
theorem dX7_become_203 : decode cX7_become 203 = .ok (.aconst_null, 1) := dTo1_45.2.2.1.2.2.2.2.2.2.2.2.1
theorem dX7_become_204 : decode cX7_become 204 = .ok (.areturn, 1) := dTo1_45.2.2.1.2.2.2.2.2.2.2.2.2.1
theorem dTo1_46 : dQ cX7_ofEndless [[(0, .iload_n 1, 1), (1, .ifCond .ne 19, 3), (4, .iconst 3, 1), (5, .newarray .int, 2), (7, .dup, 1), (8, .iconst 0, 1), (9, .iconst 1, 1), (10, .iastore, 1), (11, .dup, 1), (12, .iconst 1, 1)], [(13, .iconst 0, 1), (14, .iastore, 1), (15, .dup, 1), (16, .iconst 2, 1), (17, .iconst 0, 1), (18, .iastore, 1), (19, .areturn, 1), (20, .iload_n 0, 1), (21, .iconst 1, 1), (22, .if_icmp .ne 21, 3)], [(25, .iconst 3, 1), (26, .newarray .int, 2), (28, .dup, 1), (29, .iconst 0, 1), (30, .iconst 0, 1), (31, .iastore, 1), (32, .dup, 1), (33, .iconst 1, 1), (34, .iconst 0, 1), (35, .iastore, 1)], [(36, .dup, 1), (37, .iconst 2, 1), (38, .iconst 0, 1), (39, .iastore, 1), (40, .goto 28, 3), (43, .iload_n 0, 1), (44, .iconst 2, 1), (45, .if_icmp .ne 22, 3), (48, .iconst 3, 1), (49, .newarray .int, 2)], [(51, .dup, 1), (52, .iconst 0, 1), (53, .iconst 0, 1), (54, .iastore, 1), (55, .dup, 1), (56, .iconst 1, 1), (57, .bipush (-4), 2), (59, .iastore, 1), (60, .dup, 1), (61, .iconst 2, 1)], [(62, .iconst 0, 1), (63, .iastore, 1), (64, .goto 4, 3), (67, .aconst_null, 1), (68, .areturn, 1)]] := dQ_of _ _ (by decide +kernel)
theorem dX7_ofEndless_0 : decode cX7_ofEndless 0 = .ok (.iload_n 1, 1) := dTo1_46.1.1
theorem dX7_ofEndless_1 : decode cX7_ofEndless 1 = .ok (.ifCond .ne 19, 3) := dTo1_46.1.2.1
theorem dX7_ofEndless_4 : decode cX7_ofEndless 4 = .ok (.iconst 3, 1) := dTo1_46.1.2.2.1
theorem dX7_ofEndless_5 : decode cX7_ofEndless 5 = .ok (.newarray .int, 2) := dTo1_46.1.2.2.2.1
theorem dX7_ofEndless_7 : decode cX7_ofEndless 7 = .ok (.dup, 1) := dTo1_46.1.2.2.2.2.1
theorem dX7_ofEndless_8 : decode cX7_ofEndless 8 = .ok (.iconst 0, 1) := dTo1_46.1.2.2.2.2.2.1
theorem dX7_ofEndless_9 : decode cX7_ofEndless 9 = .ok (.iconst 1, 1) := dTo1_46.1.2.2.2.2.2.2.1
theorem dX7_ofEndless_10 : decode cX7_ofEndless 10 = .ok (.iastore, 1) := dTo1_46.1.2.2.2.2.2.2.2.1
theorem dX7_ofEndless_11 : decode cX7_ofEndless 11 = .ok (.dup, 1) := dTo1_46.1.2.2.2.2.2.2.2.2.1
theorem dX7_ofEndless_12 : decode cX7_ofEndless 12 = .ok (.iconst 1, 1) := dTo1_46.1.2.2.2.2.2.2.2.2.2.1
theorem dX7_ofEndless_13 : decode cX7_ofEndless 13 = .ok (.iconst 0, 1) := dTo1_46.2.1.1
theorem dX7_ofEndless_14 : decode cX7_ofEndless 14 = .ok (.iastore, 1) := dTo1_46.2.1.2.1
theorem dX7_ofEndless_15 : decode cX7_ofEndless 15 = .ok (.dup, 1) := dTo1_46.2.1.2.2.1
theorem dX7_ofEndless_16 : decode cX7_ofEndless 16 = .ok (.iconst 2, 1) := dTo1_46.2.1.2.2.2.1
theorem dX7_ofEndless_17 : decode cX7_ofEndless 17 = .ok (.iconst 0, 1) := dTo1_46.2.1.2.2.2.2.1
theorem dX7_ofEndless_18 : decode cX7_ofEndless 18 = .ok (.iastore, 1) := dTo1_46.2.1.2.2.2.2.2.1
theorem dX7_ofEndless_19 : decode cX7_ofEndless 19 = .ok (.areturn, 1) := dTo1_46.2.1.2.2.2.2.2.2.1
theorem dX7_ofEndless_20 : decode cX7_ofEndless 20 = .ok (.iload_n 0, 1) := dTo1_46.2.1.2.2.2.2.2.2.2.1
theorem dX7_ofEndless_21 : decode cX7_ofEndless 21 = .ok (.iconst 1, 1) := dTo1_46.2.1.2.2.2.2.2.2.2.2.1
theorem dX7_ofEndless_22 : decode cX7_ofEndless 22 = .ok (.if_icmp .ne 21, 3) := dTo1_46.2.1.2.2.2.2.2.2.2.2.2.1
theorem dX7_ofEndless_25 : decode cX7_ofEndless 25 = .ok (.iconst 3, 1) := dTo1_46.2.2.1.1
theorem dX7_ofEndless_26 : decode cX7_ofEndless 26 = .ok (.newarray .int, 2) := dTo1_46.2.2.1.2.1
theorem dX7_ofEndless_28 : decode cX7_ofEndless 28 = .ok (.dup, 1) := dTo1_46.2.2.1.2.2.1
theorem dX7_ofEndless_29 : decode cX7_ofEndless 29 = .ok (.iconst 0, 1) := dTo1_46.2.2.1.2.2.2.1
theorem dX7_ofEndless_30 : decode cX7_ofEndless 30 = .ok (.iconst 0, 1) := dTo1_46.2.2.1.2.2.2.2.1
theorem dX7_ofEndless_31 : decode cX7_ofEndless 31 = .ok (.iastore, 1) := dTo1_46.2.2.1.2.2.2.2.2.1
theorem dX7_ofEndless_32 : decode cX7_ofEndless 32 = .ok (.dup, 1) := dTo1_46.2.2.1.2.2.2.2.2.2.1
theorem dX7_ofEndless_33 : decode cX7_ofEndless 33 = .ok (.iconst 1, 1) := dTo1_46.2.2.1.2.2.2.2.2.2.2.1
theorem dX7_ofEndless_34 : decode cX7_ofEndless 34 = .ok (.iconst 0, 1) := dTo1_46.2.2.1.2.2.2.2.2.2.2.2.1
theorem dX7_ofEndless_35 : decode cX7_ofEndless 35 = .ok (.iastore, 1) := dTo1_46.2.2.1.2.2.2.2.2.2.2.2.2.1
theorem dX7_ofEndless_36 : decode cX7_ofEndless 36 = .ok (.dup, 1) := dTo1_46.2.2.2.1.1
theorem dX7_ofEndless_37 : decode cX7_ofEndless 37 = .ok (.iconst 2, 1) := dTo1_46.2.2.2.1.2.1
theorem dX7_ofEndless_38 : decode cX7_ofEndless 38 = .ok (.iconst 0, 1) := dTo1_46.2.2.2.1.2.2.1
theorem dX7_ofEndless_39 : decode cX7_ofEndless 39 = .ok (.iastore, 1) := dTo1_46.2.2.2.1.2.2.2.1
theorem dX7_ofEndless_40 : decode cX7_ofEndless 40 = .ok (.goto 28, 3) := dTo1_46.2.2.2.1.2.2.2.2.1
theorem dX7_ofEndless_43 : decode cX7_ofEndless 43 = .ok (.iload_n 0, 1) := dTo1_46.2.2.2.1.2.2.2.2.2.1
theorem dX7_ofEndless_44 : decode cX7_ofEndless 44 = .ok (.iconst 2, 1) := dTo1_46.2.2.2.1.2.2.2.2.2.2.1
theorem dX7_ofEndless_45 : decode cX7_ofEndless 45 = .ok (.if_icmp .ne 22, 3) := dTo1_46.2.2.2.1.2.2.2.2.2.2.2.1
theorem dX7_ofEndless_48 : decode cX7_ofEndless 48 = .ok (.iconst 3, 1) := dTo1_46.2.2.2.1.2.2.2.2.2.2.2.2.1
theorem dX7_ofEndless_49 : decode cX7_ofEndless 49 = .ok (.newarray .int, 2) := dTo1_46.2.2.2.1.2.2.2.2.2.2.2.2.2.1
theorem dX7_ofEndless_51 : decode cX7_ofEndless 51 = .ok (.dup, 1) := dTo1_46.2.2.2.2.1.1
theorem dX7_ofEndless_52 : decode cX7_ofEndless 52 = .ok (.iconst 0, 1) := dTo1_46.2.2.2.2.1.2.1
theorem dX7_ofEndless_53 : decode cX7_ofEndless 53 = .ok (.iconst 0, 1) := dTo1_46.2.2.2.2.1.2.2.1
theorem dX7_ofEndless_54 : decode cX7_ofEndless 54 = .ok (.iastore, 1) := dTo1_46.2.2.2.2.1.2.2.2.1
theorem dX7_ofEndless_55 : decode cX7_ofEndless 55 = .ok (.dup, 1) := dTo1_46.2.2.2.2.1.2.2.2.2.1
theorem dX7_ofEndless_56 : decode cX7_ofEndless 56 = .ok (.iconst 1, 1) := dTo1_46.2.2.2.2.1.2.2.2.2.2.1
theorem dX7_ofEndless_57 : decode cX7_ofEndless 57 = .ok (.bipush (-4), 2) := dTo1_46.2.2.2.2.1.2.2.2.2.2.2.1
theorem dX7_ofEndless_59 : decode cX7_ofEndless 59 = .ok (.iastore, 1) := dTo1_46.2.2.2.2.1.2.2.2.2.2.2.2.1
theorem dX7_ofEndless_60 : decode cX7_ofEndless 60 = .ok (.dup, 1) := dTo1_46.2.2.2.2.1.2.2.2.2.2.2.2.2.1
theorem dX7_ofEndless_61 : decode cX7_ofEndless 61 = .ok (.iconst 2, 1) := dTo1_46.2.2.2.2.1.2.2.2.2.2.2.2.2.2.1
theorem dX7_ofEndless_62 : decode cX7_ofEndless 62 = .ok (.iconst 0, 1) := dTo1_46.2.2.2.2.2.1.1
theorem dX7_ofEndless_63 : decode cX7_ofEndless 63 = .ok (.iastore, 1) := dTo1_46.2.2.2.2.2.1.2.1
theorem dX7_ofEndless_64 : decode cX7_ofEndless 64 = .ok (.goto 4, 3) := dTo1_46.2.2.2.2.2.1.2.2.1
theorem dX7_ofEndless_67 : decode cX7_ofEndless 67 = .ok (.aconst_null, 1) := dTo1_46.2.2.2.2.2.1.2.2.2.1
theorem dX7_ofEndless_68 : decode cX7_ofEndless 68 = .ok (.areturn, 1) := dTo1_46.2.2.2.2.2.1.2.2.2.2.1
theorem dTo1_47 : dQ cX7_isBack [[(0, .aload_n 0, 1), (1, .ifnull 14, 3), (4, .aload_n 0, 1), (5, .iconst 0, 1), (6, .iaload, 1), (7, .iconst 5, 1), (8, .if_icmp .ne 7, 3), (11, .iconst 1, 1), (12, .goto 4, 3), (15, .iconst 0, 1)], [(16, .ireturn, 1)]] := dQ_of _ _ (by decide +kernel)
theorem dX7_isBack_0 : decode cX7_isBack 0 = .ok (.aload_n 0, 1) := dTo1_47.1.1
theorem dX7_isBack_1 : decode cX7_isBack 1 = .ok (.ifnull 14, 3) := dTo1_47.1.2.1
theorem dX7_isBack_4 : decode cX7_isBack 4 = .ok (.aload_n 0, 1) := dTo1_47.1.2.2.1
theorem dX7_isBack_5 : decode cX7_isBack 5 = .ok (.iconst 0, 1) := dTo1_47.1.2.2.2.1
theorem dX7_isBack_6 : decode cX7_isBack 6 = .ok (.iaload, 1) := dTo1_47.1.2.2.2.2.1
theorem dX7_isBack_7 : decode cX7_isBack 7 = .ok (.iconst 5, 1) := dTo1_47.1.2.2.2.2.2.1
theorem dX7_isBack_8 : decode cX7_isBack 8 = .ok (.if_icmp .ne 7, 3) := dTo1_47.1.2.2.2.2.2.2.1
theorem dX7_isBack_11 : decode cX7_isBack 11 = .ok (.iconst 1, 1) := dTo1_47.1.2.2.2.2.2.2.2.1
theorem dX7_isBack_12 : decode cX7_isBack 12 = .ok (.goto 4, 3) := dTo1_47.1.2.2.2.2.2.2.2.2.1
theorem dX7_isBack_15 : decode cX7_isBack 15 = .ok (.iconst 0, 1) := dTo1_47.1.2.2.2.2.2.2.2.2.2.1
theorem dX7_isBack_16 : decode cX7_isBack 16 = .ok (.ireturn, 1) := dTo1_47.2.1.1
theorem dTo1_48 : dQ cX7_becomes [[(0, .iload_n 1, 1), (1, .aload_n 0, 1), (2, .getfield 28, 3), (5, .iload_n 2, 1), (6, .iaload, 1), (7, .aload_n 0, 1), (8, .getfield 31, 3), (11, .iload_n 2, 1), (12, .iaload, 1), (13, .aload_n 0, 1)], [(14, .getfield 34, 3), (17, .iload_n 2, 1), (18, .baload, 1), (19, .invokestatic 154, 3), (22, .astore_n 3, 1), (23, .aload_n 3, 1), (24, .invokestatic 158, 3), (27, .ifCond .eq 15, 3), (30, .aload_n 3, 1), (31, .iconst 1, 1)], [(32, .iaload, 1), (33, .bipush (-32), 2), (35, .if_icmp .ge 7, 3), (38, .aconst_null, 1), (39, .goto 4, 3), (42, .aload_n 3, 1), (43, .areturn, 1)]] := dQ_of _ _ (by decide +kernel)
theorem dX7_becomes_0 : decode cX7_becomes 0 = .ok (.iload_n 1, 1) := dTo1_48.1.1
theorem dX7_becomes_1 : decode cX7_becomes 1 = .ok (.aload_n 0, 1) := dTo1_48.1.2.1
theorem dX7_becomes_2 : decode cX7_becomes 2 = .ok (.getfield 28, 3) := dTo1_48.1.2.2.1
theorem dX7_becomes_5 : decode cX7_becomes 5 = .ok (.iload_n 2, 1) := dTo1_48.1.2.2.2.1
theorem dX7_becomes_6 : decode cX7_becomes 6 = .ok (.iaload, 1) := dTo1_48.1.2.2.2.2.1
theorem dX7_becomes_7 : decode cX7_becomes 7 = .ok (.aload_n 0, 1) := dTo1_48.1.2.2.2.2.2.1
theorem dX7_becomes_8 : decode cX7_becomes 8 = .ok (.getfield 31, 3) := dTo1_48.1.2.2.2.2.2.2.1
theorem dX7_becomes_11 : decode cX7_becomes 11 = .ok (.iload_n 2, 1) := dTo1_48.1.2.2.2.2.2.2.2.1
theorem dX7_becomes_12 : decode cX7_becomes 12 = .ok (.iaload, 1) := dTo1_48.1.2.2.2.2.2.2.2.2.1
theorem dX7_becomes_13 : decode cX7_becomes 13 = .ok (.aload_n 0, 1) := dTo1_48.1.2.2.2.2.2.2.2.2.2.1
theorem dX7_becomes_14 : decode cX7_becomes 14 = .ok (.getfield 34, 3) := dTo1_48.2.1.1
theorem dX7_becomes_17 : decode cX7_becomes 17 = .ok (.iload_n 2, 1) := dTo1_48.2.1.2.1
theorem dX7_becomes_18 : decode cX7_becomes 18 = .ok (.baload, 1) := dTo1_48.2.1.2.2.1
theorem dX7_becomes_19 : decode cX7_becomes 19 = .ok (.invokestatic 154, 3) := dTo1_48.2.1.2.2.2.1
theorem dX7_becomes_22 : decode cX7_becomes 22 = .ok (.astore_n 3, 1) := dTo1_48.2.1.2.2.2.2.1
theorem dX7_becomes_23 : decode cX7_becomes 23 = .ok (.aload_n 3, 1) := dTo1_48.2.1.2.2.2.2.2.1
theorem dX7_becomes_24 : decode cX7_becomes 24 = .ok (.invokestatic 158, 3) := dTo1_48.2.1.2.2.2.2.2.2.1
theorem dX7_becomes_27 : decode cX7_becomes 27 = .ok (.ifCond .eq 15, 3) := dTo1_48.2.1.2.2.2.2.2.2.2.1
theorem dX7_becomes_30 : decode cX7_becomes 30 = .ok (.aload_n 3, 1) := dTo1_48.2.1.2.2.2.2.2.2.2.2.1
theorem dX7_becomes_31 : decode cX7_becomes 31 = .ok (.iconst 1, 1) := dTo1_48.2.1.2.2.2.2.2.2.2.2.2.1
theorem dX7_becomes_32 : decode cX7_becomes 32 = .ok (.iaload, 1) := dTo1_48.2.2.1.1
theorem dX7_becomes_33 : decode cX7_becomes 33 = .ok (.bipush (-32), 2) := dTo1_48.2.2.1.2.1
theorem dX7_becomes_35 : decode cX7_becomes 35 = .ok (.if_icmp .ge 7, 3) := dTo1_48.2.2.1.2.2.1
theorem dX7_becomes_38 : decode cX7_becomes 38 = .ok (.aconst_null, 1) := dTo1_48.2.2.1.2.2.2.1
theorem dX7_becomes_39 : decode cX7_becomes 39 = .ok (.goto 4, 3) := dTo1_48.2.2.1.2.2.2.2.1
theorem dX7_becomes_42 : decode cX7_becomes 42 = .ok (.aload_n 3, 1) := dTo1_48.2.2.1.2.2.2.2.2.1
theorem dX7_becomes_43 : decode cX7_becomes 43 = .ok (.areturn, 1) := dTo1_48.2.2.1.2.2.2.2.2.2.1
theorem dTo1_49 : dQ cX7_made [[(0, .aload_n 0, 1), (1, .iload_n 2, 1), (2, .invokestatic 123, 3), (5, .ifCond .ne 10, 3), (8, .iload_n 3, 1), (9, .invokestatic 123, 3), (12, .ifCond .eq 7, 3), (15, .iconst 1, 1), (16, .goto 4, 3), (19, .iconst 0, 1)], [(20, .iconst 0, 1), (21, .invokevirtual 126, 3), (24, .ifCond .eq 5, 3), (27, .iconst 0, 1), (28, .ireturn, 1), (29, .aload_n 0, 1), (30, .iload_n 1, 1), (31, .iload_n 2, 1), (32, .invokevirtual 161, 3), (35, .astore 4, 2)], [(37, .aload 4, 2), (39, .ifnonnull 10, 3), (42, .aload_n 0, 1), (43, .invokevirtual 134, 3), (46, .goto 29, 3), (49, .aload_n 0, 1), (50, .iload_n 3, 1), (51, .aload 4, 2), (53, .iconst 0, 1), (54, .iaload, 1)], [(55, .aload 4, 2), (57, .iconst 1, 1), (58, .iaload, 1), (59, .aload 4, 2), (61, .iconst 2, 1), (62, .iaload, 1), (63, .iconst 1, 1), (64, .if_icmp .ne 7, 3), (67, .iconst 1, 1), (68, .goto 4, 3)], [(71, .iconst 0, 1), (72, .invokevirtual 130, 3), (75, .ireturn, 1)]] := dQ_of _ _ (by decide +kernel)
theorem dX7_made_0 : decode cX7_made 0 = .ok (.aload_n 0, 1) := dTo1_49.1.1
theorem dX7_made_1 : decode cX7_made 1 = .ok (.iload_n 2, 1) := dTo1_49.1.2.1
theorem dX7_made_2 : decode cX7_made 2 = .ok (.invokestatic 123, 3) := dTo1_49.1.2.2.1
theorem dX7_made_5 : decode cX7_made 5 = .ok (.ifCond .ne 10, 3) := dTo1_49.1.2.2.2.1
theorem dX7_made_8 : decode cX7_made 8 = .ok (.iload_n 3, 1) := dTo1_49.1.2.2.2.2.1
theorem dX7_made_9 : decode cX7_made 9 = .ok (.invokestatic 123, 3) := dTo1_49.1.2.2.2.2.2.1
theorem dX7_made_12 : decode cX7_made 12 = .ok (.ifCond .eq 7, 3) := dTo1_49.1.2.2.2.2.2.2.1
theorem dX7_made_15 : decode cX7_made 15 = .ok (.iconst 1, 1) := dTo1_49.1.2.2.2.2.2.2.2.1
theorem dX7_made_16 : decode cX7_made 16 = .ok (.goto 4, 3) := dTo1_49.1.2.2.2.2.2.2.2.2.1
theorem dX7_made_19 : decode cX7_made 19 = .ok (.iconst 0, 1) := dTo1_49.1.2.2.2.2.2.2.2.2.2.1
theorem dX7_made_20 : decode cX7_made 20 = .ok (.iconst 0, 1) := dTo1_49.2.1.1
theorem dX7_made_21 : decode cX7_made 21 = .ok (.invokevirtual 126, 3) := dTo1_49.2.1.2.1
theorem dX7_made_24 : decode cX7_made 24 = .ok (.ifCond .eq 5, 3) := dTo1_49.2.1.2.2.1
theorem dX7_made_27 : decode cX7_made 27 = .ok (.iconst 0, 1) := dTo1_49.2.1.2.2.2.1
theorem dX7_made_28 : decode cX7_made 28 = .ok (.ireturn, 1) := dTo1_49.2.1.2.2.2.2.1
theorem dX7_made_29 : decode cX7_made 29 = .ok (.aload_n 0, 1) := dTo1_49.2.1.2.2.2.2.2.1
theorem dX7_made_30 : decode cX7_made 30 = .ok (.iload_n 1, 1) := dTo1_49.2.1.2.2.2.2.2.2.1
theorem dX7_made_31 : decode cX7_made 31 = .ok (.iload_n 2, 1) := dTo1_49.2.1.2.2.2.2.2.2.2.1
theorem dX7_made_32 : decode cX7_made 32 = .ok (.invokevirtual 161, 3) := dTo1_49.2.1.2.2.2.2.2.2.2.2.1
theorem dX7_made_35 : decode cX7_made 35 = .ok (.astore 4, 2) := dTo1_49.2.1.2.2.2.2.2.2.2.2.2.1
theorem dX7_made_37 : decode cX7_made 37 = .ok (.aload 4, 2) := dTo1_49.2.2.1.1
theorem dX7_made_39 : decode cX7_made 39 = .ok (.ifnonnull 10, 3) := dTo1_49.2.2.1.2.1
theorem dX7_made_42 : decode cX7_made 42 = .ok (.aload_n 0, 1) := dTo1_49.2.2.1.2.2.1
theorem dX7_made_43 : decode cX7_made 43 = .ok (.invokevirtual 134, 3) := dTo1_49.2.2.1.2.2.2.1
theorem dX7_made_46 : decode cX7_made 46 = .ok (.goto 29, 3) := dTo1_49.2.2.1.2.2.2.2.1
theorem dX7_made_49 : decode cX7_made 49 = .ok (.aload_n 0, 1) := dTo1_49.2.2.1.2.2.2.2.2.1
theorem dX7_made_50 : decode cX7_made 50 = .ok (.iload_n 3, 1) := dTo1_49.2.2.1.2.2.2.2.2.2.1
theorem dX7_made_51 : decode cX7_made 51 = .ok (.aload 4, 2) := dTo1_49.2.2.1.2.2.2.2.2.2.2.1
theorem dX7_made_53 : decode cX7_made 53 = .ok (.iconst 0, 1) := dTo1_49.2.2.1.2.2.2.2.2.2.2.2.1
theorem dX7_made_54 : decode cX7_made 54 = .ok (.iaload, 1) := dTo1_49.2.2.1.2.2.2.2.2.2.2.2.2.1
theorem dX7_made_55 : decode cX7_made 55 = .ok (.aload 4, 2) := dTo1_49.2.2.2.1.1
theorem dX7_made_57 : decode cX7_made 57 = .ok (.iconst 1, 1) := dTo1_49.2.2.2.1.2.1
theorem dX7_made_58 : decode cX7_made 58 = .ok (.iaload, 1) := dTo1_49.2.2.2.1.2.2.1
theorem dX7_made_59 : decode cX7_made 59 = .ok (.aload 4, 2) := dTo1_49.2.2.2.1.2.2.2.1
theorem dX7_made_61 : decode cX7_made 61 = .ok (.iconst 2, 1) := dTo1_49.2.2.2.1.2.2.2.2.1
theorem dX7_made_62 : decode cX7_made 62 = .ok (.iaload, 1) := dTo1_49.2.2.2.1.2.2.2.2.2.1
theorem dX7_made_63 : decode cX7_made 63 = .ok (.iconst 1, 1) := dTo1_49.2.2.2.1.2.2.2.2.2.2.1
theorem dX7_made_64 : decode cX7_made 64 = .ok (.if_icmp .ne 7, 3) := dTo1_49.2.2.2.1.2.2.2.2.2.2.2.1
theorem dX7_made_67 : decode cX7_made 67 = .ok (.iconst 1, 1) := dTo1_49.2.2.2.1.2.2.2.2.2.2.2.2.1
theorem dX7_made_68 : decode cX7_made 68 = .ok (.goto 4, 3) := dTo1_49.2.2.2.1.2.2.2.2.2.2.2.2.2.1
theorem dX7_made_71 : decode cX7_made 71 = .ok (.iconst 0, 1) := dTo1_49.2.2.2.2.1.1
theorem dX7_made_72 : decode cX7_made 72 = .ok (.invokevirtual 130, 3) := dTo1_49.2.2.2.2.1.2.1
theorem dX7_made_75 : decode cX7_made 75 = .ok (.ireturn, 1) := dTo1_49.2.2.2.2.1.2.2.1
theorem dTo1_50 : dQ cX7_power [[(0, .aload_n 0, 1), (1, .iconst 1, 1), (2, .iload_n 1, 1), (3, .iload_n 2, 1), (4, .invokevirtual 164, 3), (7, .ireturn, 1)]] := dQ_of _ _ (by decide +kernel)
theorem dX7_power_0 : decode cX7_power 0 = .ok (.aload_n 0, 1) := dTo1_50.1.1
theorem dX7_power_1 : decode cX7_power 1 = .ok (.iconst 1, 1) := dTo1_50.1.2.1
theorem dX7_power_2 : decode cX7_power 2 = .ok (.iload_n 1, 1) := dTo1_50.1.2.2.1
theorem dX7_power_3 : decode cX7_power 3 = .ok (.iload_n 2, 1) := dTo1_50.1.2.2.2.1
theorem dX7_power_4 : decode cX7_power 4 = .ok (.invokevirtual 164, 3) := dTo1_50.1.2.2.2.2.1
theorem dX7_power_7 : decode cX7_power 7 = .ok (.ireturn, 1) := dTo1_50.1.2.2.2.2.2.1
theorem dTo1_51 : dQ cX7_lessen [[(0, .aload_n 0, 1), (1, .iconst 2, 1), (2, .iload_n 1, 1), (3, .iload_n 2, 1), (4, .invokevirtual 164, 3), (7, .ireturn, 1)]] := dQ_of _ _ (by decide +kernel)
theorem dX7_lessen_0 : decode cX7_lessen 0 = .ok (.aload_n 0, 1) := dTo1_51.1.1
theorem dX7_lessen_1 : decode cX7_lessen 1 = .ok (.iconst 2, 1) := dTo1_51.1.2.1
theorem dX7_lessen_2 : decode cX7_lessen 2 = .ok (.iload_n 1, 1) := dTo1_51.1.2.2.1
theorem dX7_lessen_3 : decode cX7_lessen 3 = .ok (.iload_n 2, 1) := dTo1_51.1.2.2.2.1
theorem dX7_lessen_4 : decode cX7_lessen 4 = .ok (.invokevirtual 164, 3) := dTo1_51.1.2.2.2.2.1
theorem dX7_lessen_7 : decode cX7_lessen 7 = .ok (.ireturn, 1) := dTo1_51.1.2.2.2.2.2.1
theorem dTo1_52 : dQ cX7_log [[(0, .aload_n 0, 1), (1, .iconst 3, 1), (2, .iload_n 1, 1), (3, .iload_n 2, 1), (4, .invokevirtual 164, 3), (7, .ireturn, 1)]] := dQ_of _ _ (by decide +kernel)
theorem dX7_log_0 : decode cX7_log 0 = .ok (.aload_n 0, 1) := dTo1_52.1.1
theorem dX7_log_1 : decode cX7_log 1 = .ok (.iconst 3, 1) := dTo1_52.1.2.1
theorem dX7_log_2 : decode cX7_log 2 = .ok (.iload_n 1, 1) := dTo1_52.1.2.2.1
theorem dX7_log_3 : decode cX7_log 3 = .ok (.iload_n 2, 1) := dTo1_52.1.2.2.2.1
theorem dX7_log_4 : decode cX7_log 4 = .ok (.invokevirtual 164, 3) := dTo1_52.1.2.2.2.2.1
theorem dX7_log_7 : decode cX7_log 7 = .ok (.ireturn, 1) := dTo1_52.1.2.2.2.2.2.1
theorem dTo1_53 : dQ cX7_all [[(0, .aload_n 0, 1), (1, .iload_n 1, 1), (2, .iconst 1, 1), (3, .iconst 3, 1), (4, .invokestatic 113, 3), (7, .ifCond .eq 7, 3), (10, .iconst 0, 1), (11, .goto 4, 3), (14, .iconst 1, 1), (15, .putfield 50, 3)], [(18, .aload_n 0, 1), (19, .getfield 50, 3), (22, .ifCond .eq 5, 3), (25, .iconst 0, 1), (26, .ireturn, 1), (27, .iconst 0, 1), (28, .istore_n 2, 1), (29, .aload_n 0, 1), (30, .getfield 117, 3), (33, .istore_n 3, 1)], [(34, .iconst 0, 1), (35, .istore 4, 2), (37, .iload 4, 2), (39, .bipush 8, 2), (41, .if_icmp .ge 57, 3), (44, .aload_n 0, 1), (45, .iload_n 1, 1), (46, .iload 4, 2), (48, .invokevirtual 161, 3), (51, .astore 5, 2)], [(53, .aload 5, 2), (55, .ifnonnull 6, 3), (58, .goto 34, 3), (61, .aload_n 0, 1), (62, .iload 4, 2), (64, .aload 5, 2), (66, .iconst 0, 1), (67, .iaload, 1), (68, .aload 5, 2), (70, .iconst 1, 1)], [(71, .iaload, 1), (72, .aload 5, 2), (74, .iconst 2, 1), (75, .iaload, 1), (76, .iconst 1, 1), (77, .if_icmp .ne 7, 3), (80, .iconst 1, 1), (81, .goto 4, 3), (84, .iconst 0, 1), (85, .invokevirtual 130, 3)], [(88, .pop, 1), (89, .iinc 2 1, 3), (92, .iinc 4 1, 3), (95, .goto (-58), 3), (98, .aload_n 0, 1), (99, .iload_n 3, 1), (100, .iconst 1, 1), (101, .iadd, 1), (102, .putfield 117, 3), (105, .iload_n 2, 1)]] := dQ_of _ _ (by decide +kernel)
theorem dX7_all_0 : decode cX7_all 0 = .ok (.aload_n 0, 1) := dTo1_53.1.1
theorem dX7_all_1 : decode cX7_all 1 = .ok (.iload_n 1, 1) := dTo1_53.1.2.1
theorem dX7_all_2 : decode cX7_all 2 = .ok (.iconst 1, 1) := dTo1_53.1.2.2.1
theorem dX7_all_3 : decode cX7_all 3 = .ok (.iconst 3, 1) := dTo1_53.1.2.2.2.1
theorem dX7_all_4 : decode cX7_all 4 = .ok (.invokestatic 113, 3) := dTo1_53.1.2.2.2.2.1
theorem dX7_all_7 : decode cX7_all 7 = .ok (.ifCond .eq 7, 3) := dTo1_53.1.2.2.2.2.2.1
theorem dX7_all_10 : decode cX7_all 10 = .ok (.iconst 0, 1) := dTo1_53.1.2.2.2.2.2.2.1
theorem dX7_all_11 : decode cX7_all 11 = .ok (.goto 4, 3) := dTo1_53.1.2.2.2.2.2.2.2.1
theorem dX7_all_14 : decode cX7_all 14 = .ok (.iconst 1, 1) := dTo1_53.1.2.2.2.2.2.2.2.2.1
theorem dX7_all_15 : decode cX7_all 15 = .ok (.putfield 50, 3) := dTo1_53.1.2.2.2.2.2.2.2.2.2.1
theorem dX7_all_18 : decode cX7_all 18 = .ok (.aload_n 0, 1) := dTo1_53.2.1.1
theorem dX7_all_19 : decode cX7_all 19 = .ok (.getfield 50, 3) := dTo1_53.2.1.2.1
theorem dX7_all_22 : decode cX7_all 22 = .ok (.ifCond .eq 5, 3) := dTo1_53.2.1.2.2.1
theorem dX7_all_25 : decode cX7_all 25 = .ok (.iconst 0, 1) := dTo1_53.2.1.2.2.2.1
theorem dX7_all_26 : decode cX7_all 26 = .ok (.ireturn, 1) := dTo1_53.2.1.2.2.2.2.1
theorem dX7_all_27 : decode cX7_all 27 = .ok (.iconst 0, 1) := dTo1_53.2.1.2.2.2.2.2.1
theorem dX7_all_28 : decode cX7_all 28 = .ok (.istore_n 2, 1) := dTo1_53.2.1.2.2.2.2.2.2.1
theorem dX7_all_29 : decode cX7_all 29 = .ok (.aload_n 0, 1) := dTo1_53.2.1.2.2.2.2.2.2.2.1
theorem dX7_all_30 : decode cX7_all 30 = .ok (.getfield 117, 3) := dTo1_53.2.1.2.2.2.2.2.2.2.2.1
theorem dX7_all_33 : decode cX7_all 33 = .ok (.istore_n 3, 1) := dTo1_53.2.1.2.2.2.2.2.2.2.2.2.1
theorem dX7_all_34 : decode cX7_all 34 = .ok (.iconst 0, 1) := dTo1_53.2.2.1.1
theorem dX7_all_35 : decode cX7_all 35 = .ok (.istore 4, 2) := dTo1_53.2.2.1.2.1
theorem dX7_all_37 : decode cX7_all 37 = .ok (.iload 4, 2) := dTo1_53.2.2.1.2.2.1
theorem dX7_all_39 : decode cX7_all 39 = .ok (.bipush 8, 2) := dTo1_53.2.2.1.2.2.2.1
theorem dX7_all_41 : decode cX7_all 41 = .ok (.if_icmp .ge 57, 3) := dTo1_53.2.2.1.2.2.2.2.1
theorem dX7_all_44 : decode cX7_all 44 = .ok (.aload_n 0, 1) := dTo1_53.2.2.1.2.2.2.2.2.1
theorem dX7_all_45 : decode cX7_all 45 = .ok (.iload_n 1, 1) := dTo1_53.2.2.1.2.2.2.2.2.2.1
theorem dX7_all_46 : decode cX7_all 46 = .ok (.iload 4, 2) := dTo1_53.2.2.1.2.2.2.2.2.2.2.1
theorem dX7_all_48 : decode cX7_all 48 = .ok (.invokevirtual 161, 3) := dTo1_53.2.2.1.2.2.2.2.2.2.2.2.1
theorem dX7_all_51 : decode cX7_all 51 = .ok (.astore 5, 2) := dTo1_53.2.2.1.2.2.2.2.2.2.2.2.2.1
theorem dX7_all_53 : decode cX7_all 53 = .ok (.aload 5, 2) := dTo1_53.2.2.2.1.1
theorem dX7_all_55 : decode cX7_all 55 = .ok (.ifnonnull 6, 3) := dTo1_53.2.2.2.1.2.1
theorem dX7_all_58 : decode cX7_all 58 = .ok (.goto 34, 3) := dTo1_53.2.2.2.1.2.2.1
theorem dX7_all_61 : decode cX7_all 61 = .ok (.aload_n 0, 1) := dTo1_53.2.2.2.1.2.2.2.1
theorem dX7_all_62 : decode cX7_all 62 = .ok (.iload 4, 2) := dTo1_53.2.2.2.1.2.2.2.2.1
theorem dX7_all_64 : decode cX7_all 64 = .ok (.aload 5, 2) := dTo1_53.2.2.2.1.2.2.2.2.2.1
theorem dX7_all_66 : decode cX7_all 66 = .ok (.iconst 0, 1) := dTo1_53.2.2.2.1.2.2.2.2.2.2.1
theorem dX7_all_67 : decode cX7_all 67 = .ok (.iaload, 1) := dTo1_53.2.2.2.1.2.2.2.2.2.2.2.1
theorem dX7_all_68 : decode cX7_all 68 = .ok (.aload 5, 2) := dTo1_53.2.2.2.1.2.2.2.2.2.2.2.2.1
theorem dX7_all_70 : decode cX7_all 70 = .ok (.iconst 1, 1) := dTo1_53.2.2.2.1.2.2.2.2.2.2.2.2.2.1
theorem dX7_all_71 : decode cX7_all 71 = .ok (.iaload, 1) := dTo1_53.2.2.2.2.1.1
theorem dX7_all_72 : decode cX7_all 72 = .ok (.aload 5, 2) := dTo1_53.2.2.2.2.1.2.1
theorem dX7_all_74 : decode cX7_all 74 = .ok (.iconst 2, 1) := dTo1_53.2.2.2.2.1.2.2.1
theorem dX7_all_75 : decode cX7_all 75 = .ok (.iaload, 1) := dTo1_53.2.2.2.2.1.2.2.2.1
theorem dX7_all_76 : decode cX7_all 76 = .ok (.iconst 1, 1) := dTo1_53.2.2.2.2.1.2.2.2.2.1
theorem dX7_all_77 : decode cX7_all 77 = .ok (.if_icmp .ne 7, 3) := dTo1_53.2.2.2.2.1.2.2.2.2.2.1
theorem dX7_all_80 : decode cX7_all 80 = .ok (.iconst 1, 1) := dTo1_53.2.2.2.2.1.2.2.2.2.2.2.1
theorem dX7_all_81 : decode cX7_all 81 = .ok (.goto 4, 3) := dTo1_53.2.2.2.2.1.2.2.2.2.2.2.2.1
theorem dX7_all_84 : decode cX7_all 84 = .ok (.iconst 0, 1) := dTo1_53.2.2.2.2.1.2.2.2.2.2.2.2.2.1
theorem dX7_all_85 : decode cX7_all 85 = .ok (.invokevirtual 130, 3) := dTo1_53.2.2.2.2.1.2.2.2.2.2.2.2.2.2.1
theorem dX7_all_88 : decode cX7_all 88 = .ok (.pop, 1) := dTo1_53.2.2.2.2.2.1.1
theorem dX7_all_89 : decode cX7_all 89 = .ok (.iinc 2 1, 3) := dTo1_53.2.2.2.2.2.1.2.1
theorem dX7_all_92 : decode cX7_all 92 = .ok (.iinc 4 1, 3) := dTo1_53.2.2.2.2.2.1.2.2.1
theorem dX7_all_95 : decode cX7_all 95 = .ok (.goto (-58), 3) := dTo1_53.2.2.2.2.2.1.2.2.2.1
theorem dX7_all_98 : decode cX7_all 98 = .ok (.aload_n 0, 1) := dTo1_53.2.2.2.2.2.1.2.2.2.2.1
theorem dX7_all_99 : decode cX7_all 99 = .ok (.iload_n 3, 1) := dTo1_53.2.2.2.2.2.1.2.2.2.2.2.1
theorem dX7_all_100 : decode cX7_all 100 = .ok (.iconst 1, 1) := dTo1_53.2.2.2.2.2.1.2.2.2.2.2.2.1
theorem dX7_all_101 : decode cX7_all 101 = .ok (.iadd, 1) := dTo1_53.2.2.2.2.2.1.2.2.2.2.2.2.2.1
theorem dX7_all_102 : decode cX7_all 102 = .ok (.putfield 117, 3) := dTo1_53.2.2.2.2.2.1.2.2.2.2.2.2.2.2.1
theorem dX7_all_105 : decode cX7_all 105 = .ok (.iload_n 2, 1) := dTo1_53.2.2.2.2.2.1.2.2.2.2.2.2.2.2.2.1
theorem dX7_all_106 : decode cX7_all 106 = .ok (.ireturn, 1) := by decide +kernel
theorem dTo1_55 : dQ cX7_take [[(0, .aload_n 0, 1), (1, .iload_n 2, 1), (2, .aload_n 0, 1), (3, .getfield 28, 3), (6, .iload_n 1, 1), (7, .iaload, 1), (8, .aload_n 0, 1), (9, .getfield 31, 3), (12, .iload_n 1, 1), (13, .iaload, 1)], [(14, .aload_n 0, 1), (15, .getfield 34, 3), (18, .iload_n 1, 1), (19, .baload, 1), (20, .invokevirtual 130, 3), (23, .ireturn, 1)]] := dQ_of _ _ (by decide +kernel)
theorem dX7_take_0 : decode cX7_take 0 = .ok (.aload_n 0, 1) := dTo1_55.1.1
theorem dX7_take_1 : decode cX7_take 1 = .ok (.iload_n 2, 1) := dTo1_55.1.2.1
theorem dX7_take_2 : decode cX7_take 2 = .ok (.aload_n 0, 1) := dTo1_55.1.2.2.1
theorem dX7_take_3 : decode cX7_take 3 = .ok (.getfield 28, 3) := dTo1_55.1.2.2.2.1
theorem dX7_take_6 : decode cX7_take 6 = .ok (.iload_n 1, 1) := dTo1_55.1.2.2.2.2.1
theorem dX7_take_7 : decode cX7_take 7 = .ok (.iaload, 1) := dTo1_55.1.2.2.2.2.2.1
theorem dX7_take_8 : decode cX7_take 8 = .ok (.aload_n 0, 1) := dTo1_55.1.2.2.2.2.2.2.1
theorem dX7_take_9 : decode cX7_take 9 = .ok (.getfield 31, 3) := dTo1_55.1.2.2.2.2.2.2.2.1
theorem dX7_take_12 : decode cX7_take 12 = .ok (.iload_n 1, 1) := dTo1_55.1.2.2.2.2.2.2.2.2.1
theorem dX7_take_13 : decode cX7_take 13 = .ok (.iaload, 1) := dTo1_55.1.2.2.2.2.2.2.2.2.2.1
theorem dX7_take_14 : decode cX7_take 14 = .ok (.aload_n 0, 1) := dTo1_55.2.1.1
theorem dX7_take_15 : decode cX7_take 15 = .ok (.getfield 34, 3) := dTo1_55.2.1.2.1
theorem dX7_take_18 : decode cX7_take 18 = .ok (.iload_n 1, 1) := dTo1_55.2.1.2.2.1
theorem dX7_take_19 : decode cX7_take 19 = .ok (.baload, 1) := dTo1_55.2.1.2.2.2.1
theorem dX7_take_20 : decode cX7_take 20 = .ok (.invokevirtual 130, 3) := dTo1_55.2.1.2.2.2.2.1
theorem dX7_take_23 : decode cX7_take 23 = .ok (.ireturn, 1) := dTo1_55.2.1.2.2.2.2.2.1
theorem dTo1_56 : dQ cX7_greater [[(0, .aload_n 0, 1), (1, .iload_n 1, 1), (2, .invokestatic 123, 3), (5, .ifCond .ne 17, 3), (8, .iload_n 2, 1), (9, .invokestatic 123, 3), (12, .ifCond .ne 10, 3), (15, .iload_n 3, 1), (16, .invokestatic 123, 3), (19, .ifCond .eq 7, 3)], [(22, .iconst 1, 1), (23, .goto 4, 3), (26, .iconst 0, 1), (27, .iconst 0, 1), (28, .invokevirtual 126, 3), (31, .ifCond .eq 5, 3), (34, .iconst 0, 1), (35, .ireturn, 1), (36, .aload_n 0, 1), (37, .aload_n 0, 1)], [(38, .iload_n 1, 1), (39, .iload_n 2, 1), (40, .invokevirtual 168, 3), (43, .ifCond .ge 7, 3), (46, .iload_n 2, 1), (47, .goto 4, 3), (50, .iload_n 1, 1), (51, .iload_n 3, 1), (52, .invokevirtual 171, 3), (55, .ireturn, 1)]] := dQ_of _ _ (by decide +kernel)
theorem dX7_greater_0 : decode cX7_greater 0 = .ok (.aload_n 0, 1) := dTo1_56.1.1
theorem dX7_greater_1 : decode cX7_greater 1 = .ok (.iload_n 1, 1) := dTo1_56.1.2.1
theorem dX7_greater_2 : decode cX7_greater 2 = .ok (.invokestatic 123, 3) := dTo1_56.1.2.2.1
theorem dX7_greater_5 : decode cX7_greater 5 = .ok (.ifCond .ne 17, 3) := dTo1_56.1.2.2.2.1
theorem dX7_greater_8 : decode cX7_greater 8 = .ok (.iload_n 2, 1) := dTo1_56.1.2.2.2.2.1
theorem dX7_greater_9 : decode cX7_greater 9 = .ok (.invokestatic 123, 3) := dTo1_56.1.2.2.2.2.2.1
theorem dX7_greater_12 : decode cX7_greater 12 = .ok (.ifCond .ne 10, 3) := dTo1_56.1.2.2.2.2.2.2.1
theorem dX7_greater_15 : decode cX7_greater 15 = .ok (.iload_n 3, 1) := dTo1_56.1.2.2.2.2.2.2.2.1
theorem dX7_greater_16 : decode cX7_greater 16 = .ok (.invokestatic 123, 3) := dTo1_56.1.2.2.2.2.2.2.2.2.1
theorem dX7_greater_19 : decode cX7_greater 19 = .ok (.ifCond .eq 7, 3) := dTo1_56.1.2.2.2.2.2.2.2.2.2.1
theorem dX7_greater_22 : decode cX7_greater 22 = .ok (.iconst 1, 1) := dTo1_56.2.1.1
theorem dX7_greater_23 : decode cX7_greater 23 = .ok (.goto 4, 3) := dTo1_56.2.1.2.1
theorem dX7_greater_26 : decode cX7_greater 26 = .ok (.iconst 0, 1) := dTo1_56.2.1.2.2.1
theorem dX7_greater_27 : decode cX7_greater 27 = .ok (.iconst 0, 1) := dTo1_56.2.1.2.2.2.1
theorem dX7_greater_28 : decode cX7_greater 28 = .ok (.invokevirtual 126, 3) := dTo1_56.2.1.2.2.2.2.1
theorem dX7_greater_31 : decode cX7_greater 31 = .ok (.ifCond .eq 5, 3) := dTo1_56.2.1.2.2.2.2.2.1
theorem dX7_greater_34 : decode cX7_greater 34 = .ok (.iconst 0, 1) := dTo1_56.2.1.2.2.2.2.2.2.1
theorem dX7_greater_35 : decode cX7_greater 35 = .ok (.ireturn, 1) := dTo1_56.2.1.2.2.2.2.2.2.2.1
theorem dX7_greater_36 : decode cX7_greater 36 = .ok (.aload_n 0, 1) := dTo1_56.2.1.2.2.2.2.2.2.2.2.1
theorem dX7_greater_37 : decode cX7_greater 37 = .ok (.aload_n 0, 1) := dTo1_56.2.1.2.2.2.2.2.2.2.2.2.1
theorem dX7_greater_38 : decode cX7_greater 38 = .ok (.iload_n 1, 1) := dTo1_56.2.2.1.1
theorem dX7_greater_39 : decode cX7_greater 39 = .ok (.iload_n 2, 1) := dTo1_56.2.2.1.2.1
theorem dX7_greater_40 : decode cX7_greater 40 = .ok (.invokevirtual 168, 3) := dTo1_56.2.2.1.2.2.1
theorem dX7_greater_43 : decode cX7_greater 43 = .ok (.ifCond .ge 7, 3) := dTo1_56.2.2.1.2.2.2.1
theorem dX7_greater_46 : decode cX7_greater 46 = .ok (.iload_n 2, 1) := dTo1_56.2.2.1.2.2.2.2.1
theorem dX7_greater_47 : decode cX7_greater 47 = .ok (.goto 4, 3) := dTo1_56.2.2.1.2.2.2.2.2.1
theorem dX7_greater_50 : decode cX7_greater 50 = .ok (.iload_n 1, 1) := dTo1_56.2.2.1.2.2.2.2.2.2.1
theorem dX7_greater_51 : decode cX7_greater 51 = .ok (.iload_n 3, 1) := dTo1_56.2.2.1.2.2.2.2.2.2.2.1
theorem dX7_greater_52 : decode cX7_greater 52 = .ok (.invokevirtual 171, 3) := dTo1_56.2.2.1.2.2.2.2.2.2.2.2.1
theorem dX7_greater_55 : decode cX7_greater 55 = .ok (.ireturn, 1) := dTo1_56.2.2.1.2.2.2.2.2.2.2.2.2.1
theorem dTo1_57 : dQ cX7_lesser [[(0, .aload_n 0, 1), (1, .iload_n 1, 1), (2, .invokestatic 123, 3), (5, .ifCond .ne 17, 3), (8, .iload_n 2, 1), (9, .invokestatic 123, 3), (12, .ifCond .ne 10, 3), (15, .iload_n 3, 1), (16, .invokestatic 123, 3), (19, .ifCond .eq 7, 3)], [(22, .iconst 1, 1), (23, .goto 4, 3), (26, .iconst 0, 1), (27, .iconst 0, 1), (28, .invokevirtual 126, 3), (31, .ifCond .eq 5, 3), (34, .iconst 0, 1), (35, .ireturn, 1), (36, .aload_n 0, 1), (37, .aload_n 0, 1)], [(38, .iload_n 2, 1), (39, .iload_n 1, 1), (40, .invokevirtual 168, 3), (43, .ifCond .ge 7, 3), (46, .iload_n 2, 1), (47, .goto 4, 3), (50, .iload_n 1, 1), (51, .iload_n 3, 1), (52, .invokevirtual 171, 3), (55, .ireturn, 1)]] := dQ_of _ _ (by decide +kernel)
theorem dX7_lesser_0 : decode cX7_lesser 0 = .ok (.aload_n 0, 1) := dTo1_57.1.1
theorem dX7_lesser_1 : decode cX7_lesser 1 = .ok (.iload_n 1, 1) := dTo1_57.1.2.1
theorem dX7_lesser_2 : decode cX7_lesser 2 = .ok (.invokestatic 123, 3) := dTo1_57.1.2.2.1
theorem dX7_lesser_5 : decode cX7_lesser 5 = .ok (.ifCond .ne 17, 3) := dTo1_57.1.2.2.2.1
theorem dX7_lesser_8 : decode cX7_lesser 8 = .ok (.iload_n 2, 1) := dTo1_57.1.2.2.2.2.1
theorem dX7_lesser_9 : decode cX7_lesser 9 = .ok (.invokestatic 123, 3) := dTo1_57.1.2.2.2.2.2.1
theorem dX7_lesser_12 : decode cX7_lesser 12 = .ok (.ifCond .ne 10, 3) := dTo1_57.1.2.2.2.2.2.2.1
theorem dX7_lesser_15 : decode cX7_lesser 15 = .ok (.iload_n 3, 1) := dTo1_57.1.2.2.2.2.2.2.2.1
theorem dX7_lesser_16 : decode cX7_lesser 16 = .ok (.invokestatic 123, 3) := dTo1_57.1.2.2.2.2.2.2.2.2.1
theorem dX7_lesser_19 : decode cX7_lesser 19 = .ok (.ifCond .eq 7, 3) := dTo1_57.1.2.2.2.2.2.2.2.2.2.1
theorem dX7_lesser_22 : decode cX7_lesser 22 = .ok (.iconst 1, 1) := dTo1_57.2.1.1
theorem dX7_lesser_23 : decode cX7_lesser 23 = .ok (.goto 4, 3) := dTo1_57.2.1.2.1
theorem dX7_lesser_26 : decode cX7_lesser 26 = .ok (.iconst 0, 1) := dTo1_57.2.1.2.2.1
theorem dX7_lesser_27 : decode cX7_lesser 27 = .ok (.iconst 0, 1) := dTo1_57.2.1.2.2.2.1
theorem dX7_lesser_28 : decode cX7_lesser 28 = .ok (.invokevirtual 126, 3) := dTo1_57.2.1.2.2.2.2.1
theorem dX7_lesser_31 : decode cX7_lesser 31 = .ok (.ifCond .eq 5, 3) := dTo1_57.2.1.2.2.2.2.2.1
theorem dX7_lesser_34 : decode cX7_lesser 34 = .ok (.iconst 0, 1) := dTo1_57.2.1.2.2.2.2.2.2.1
theorem dX7_lesser_35 : decode cX7_lesser 35 = .ok (.ireturn, 1) := dTo1_57.2.1.2.2.2.2.2.2.2.1
theorem dX7_lesser_36 : decode cX7_lesser 36 = .ok (.aload_n 0, 1) := dTo1_57.2.1.2.2.2.2.2.2.2.2.1
theorem dX7_lesser_37 : decode cX7_lesser 37 = .ok (.aload_n 0, 1) := dTo1_57.2.1.2.2.2.2.2.2.2.2.2.1
theorem dX7_lesser_38 : decode cX7_lesser 38 = .ok (.iload_n 2, 1) := dTo1_57.2.2.1.1
theorem dX7_lesser_39 : decode cX7_lesser 39 = .ok (.iload_n 1, 1) := dTo1_57.2.2.1.2.1
theorem dX7_lesser_40 : decode cX7_lesser 40 = .ok (.invokevirtual 168, 3) := dTo1_57.2.2.1.2.2.1
theorem dX7_lesser_43 : decode cX7_lesser 43 = .ok (.ifCond .ge 7, 3) := dTo1_57.2.2.1.2.2.2.1
theorem dX7_lesser_46 : decode cX7_lesser 46 = .ok (.iload_n 2, 1) := dTo1_57.2.2.1.2.2.2.2.1
theorem dX7_lesser_47 : decode cX7_lesser 47 = .ok (.goto 4, 3) := dTo1_57.2.2.1.2.2.2.2.2.1
theorem dX7_lesser_50 : decode cX7_lesser 50 = .ok (.iload_n 1, 1) := dTo1_57.2.2.1.2.2.2.2.2.2.1
theorem dX7_lesser_51 : decode cX7_lesser 51 = .ok (.iload_n 3, 1) := dTo1_57.2.2.1.2.2.2.2.2.2.2.1
theorem dX7_lesser_52 : decode cX7_lesser 52 = .ok (.invokevirtual 171, 3) := dTo1_57.2.2.1.2.2.2.2.2.2.2.2.1
theorem dX7_lesser_55 : decode cX7_lesser 55 = .ok (.ireturn, 1) := dTo1_57.2.2.1.2.2.2.2.2.2.2.2.2.1
theorem dTo1_58 : dQ cX7_end [[(0, .aload_n 0, 1), (1, .iload_n 2, 1), (2, .invokestatic 123, 3), (5, .iconst 0, 1), (6, .invokevirtual 126, 3), (9, .ifCond .eq 5, 3), (12, .iconst 0, 1), (13, .ireturn, 1), (14, .iconst 0, 1), (15, .istore_n 3, 1)], [(16, .iconst 1, 1), (17, .istore 4, 2), (19, .iload 4, 2), (21, .bipush 8, 2), (23, .if_icmp .ge 39, 3), (26, .iload_n 1, 1), (27, .ifCond .eq 16, 3), (30, .aload_n 0, 1), (31, .iload_n 3, 1), (32, .iload 4, 2)], [(34, .invokevirtual 168, 3), (37, .ifCond .ge 19, 3), (40, .goto 13, 3), (43, .aload_n 0, 1), (44, .iload 4, 2), (46, .iload_n 3, 1), (47, .invokevirtual 168, 3), (50, .ifCond .ge 6, 3), (53, .iload 4, 2), (55, .istore_n 3, 1)], [(56, .iinc 4 1, 3), (59, .goto (-40), 3), (62, .aload_n 0, 1), (63, .iload_n 3, 1), (64, .iload_n 2, 1), (65, .invokevirtual 171, 3), (68, .ireturn, 1)]] := dQ_of _ _ (by decide +kernel)
theorem dX7_end_0 : decode cX7_end 0 = .ok (.aload_n 0, 1) := dTo1_58.1.1
theorem dX7_end_1 : decode cX7_end 1 = .ok (.iload_n 2, 1) := dTo1_58.1.2.1
theorem dX7_end_2 : decode cX7_end 2 = .ok (.invokestatic 123, 3) := dTo1_58.1.2.2.1
theorem dX7_end_5 : decode cX7_end 5 = .ok (.iconst 0, 1) := dTo1_58.1.2.2.2.1
theorem dX7_end_6 : decode cX7_end 6 = .ok (.invokevirtual 126, 3) := dTo1_58.1.2.2.2.2.1
theorem dX7_end_9 : decode cX7_end 9 = .ok (.ifCond .eq 5, 3) := dTo1_58.1.2.2.2.2.2.1
theorem dX7_end_12 : decode cX7_end 12 = .ok (.iconst 0, 1) := dTo1_58.1.2.2.2.2.2.2.1
theorem dX7_end_13 : decode cX7_end 13 = .ok (.ireturn, 1) := dTo1_58.1.2.2.2.2.2.2.2.1
theorem dX7_end_14 : decode cX7_end 14 = .ok (.iconst 0, 1) := dTo1_58.1.2.2.2.2.2.2.2.2.1
theorem dX7_end_15 : decode cX7_end 15 = .ok (.istore_n 3, 1) := dTo1_58.1.2.2.2.2.2.2.2.2.2.1
theorem dX7_end_16 : decode cX7_end 16 = .ok (.iconst 1, 1) := dTo1_58.2.1.1
theorem dX7_end_17 : decode cX7_end 17 = .ok (.istore 4, 2) := dTo1_58.2.1.2.1
theorem dX7_end_19 : decode cX7_end 19 = .ok (.iload 4, 2) := dTo1_58.2.1.2.2.1
theorem dX7_end_21 : decode cX7_end 21 = .ok (.bipush 8, 2) := dTo1_58.2.1.2.2.2.1
theorem dX7_end_23 : decode cX7_end 23 = .ok (.if_icmp .ge 39, 3) := dTo1_58.2.1.2.2.2.2.1
theorem dX7_end_26 : decode cX7_end 26 = .ok (.iload_n 1, 1) := dTo1_58.2.1.2.2.2.2.2.1
theorem dX7_end_27 : decode cX7_end 27 = .ok (.ifCond .eq 16, 3) := dTo1_58.2.1.2.2.2.2.2.2.1
theorem dX7_end_30 : decode cX7_end 30 = .ok (.aload_n 0, 1) := dTo1_58.2.1.2.2.2.2.2.2.2.1
theorem dX7_end_31 : decode cX7_end 31 = .ok (.iload_n 3, 1) := dTo1_58.2.1.2.2.2.2.2.2.2.2.1
theorem dX7_end_32 : decode cX7_end 32 = .ok (.iload 4, 2) := dTo1_58.2.1.2.2.2.2.2.2.2.2.2.1
theorem dX7_end_34 : decode cX7_end 34 = .ok (.invokevirtual 168, 3) := dTo1_58.2.2.1.1
theorem dX7_end_37 : decode cX7_end 37 = .ok (.ifCond .ge 19, 3) := dTo1_58.2.2.1.2.1
theorem dX7_end_40 : decode cX7_end 40 = .ok (.goto 13, 3) := dTo1_58.2.2.1.2.2.1
theorem dX7_end_43 : decode cX7_end 43 = .ok (.aload_n 0, 1) := dTo1_58.2.2.1.2.2.2.1
theorem dX7_end_44 : decode cX7_end 44 = .ok (.iload 4, 2) := dTo1_58.2.2.1.2.2.2.2.1
theorem dX7_end_46 : decode cX7_end 46 = .ok (.iload_n 3, 1) := dTo1_58.2.2.1.2.2.2.2.2.1
theorem dX7_end_47 : decode cX7_end 47 = .ok (.invokevirtual 168, 3) := dTo1_58.2.2.1.2.2.2.2.2.2.1
theorem dX7_end_50 : decode cX7_end 50 = .ok (.ifCond .ge 6, 3) := dTo1_58.2.2.1.2.2.2.2.2.2.2.1
theorem dX7_end_53 : decode cX7_end 53 = .ok (.iload 4, 2) := dTo1_58.2.2.1.2.2.2.2.2.2.2.2.1
theorem dX7_end_55 : decode cX7_end 55 = .ok (.istore_n 3, 1) := dTo1_58.2.2.1.2.2.2.2.2.2.2.2.2.1
theorem dX7_end_56 : decode cX7_end 56 = .ok (.iinc 4 1, 3) := dTo1_58.2.2.2.1.1
theorem dX7_end_59 : decode cX7_end 59 = .ok (.goto (-40), 3) := dTo1_58.2.2.2.1.2.1
theorem dX7_end_62 : decode cX7_end 62 = .ok (.aload_n 0, 1) := dTo1_58.2.2.2.1.2.2.1
theorem dX7_end_63 : decode cX7_end 63 = .ok (.iload_n 3, 1) := dTo1_58.2.2.2.1.2.2.2.1
theorem dX7_end_64 : decode cX7_end 64 = .ok (.iload_n 2, 1) := dTo1_58.2.2.2.1.2.2.2.2.1
theorem dX7_end_65 : decode cX7_end 65 = .ok (.invokevirtual 171, 3) := dTo1_58.2.2.2.1.2.2.2.2.2.1
theorem dX7_end_68 : decode cX7_end 68 = .ok (.ireturn, 1) := dTo1_58.2.2.2.1.2.2.2.2.2.2.1
theorem dTo1_59 : dQ cX7_sort [[(0, .aload_n 0, 1), (1, .iconst 0, 1), (2, .putfield 50, 3), (5, .aload_n 0, 1), (6, .getfield 28, 3), (9, .astore_n 1, 1), (10, .aload_n 0, 1), (11, .getfield 31, 3), (14, .astore_n 2, 1), (15, .aload_n 0, 1)], [(16, .getfield 34, 3), (19, .astore_n 3, 1), (20, .bipush 8, 2), (22, .newarray .int, 2), (24, .astore 4, 2), (26, .iconst 0, 1), (27, .istore 5, 2), (29, .iload 5, 2), (31, .bipush 8, 2), (33, .if_icmp .ge 65, 3)], [(36, .iconst 0, 1), (37, .istore 6, 2), (39, .iload 6, 2), (41, .bipush 8, 2), (43, .if_icmp .ge 49, 3), (46, .aload_n 0, 1), (47, .iload 6, 2), (49, .iload 5, 2), (51, .invokevirtual 168, 3), (54, .istore 7, 2)], [(56, .aload 4, 2), (58, .iload 5, 2), (60, .dup2, 1), (61, .iaload, 1), (62, .iload 7, 2), (64, .ifCond .lt 15, 3), (67, .iload 7, 2), (69, .ifCond .ne 14, 3), (72, .iload 6, 2), (74, .iload 5, 2)], [(76, .if_icmp .ge 7, 3), (79, .iconst 1, 1), (80, .goto 4, 3), (83, .iconst 0, 1), (84, .iadd, 1), (85, .iastore, 1), (86, .iinc 6 1, 3), (89, .goto (-50), 3), (92, .iinc 5 1, 3), (95, .goto (-66), 3)], [(98, .aload_n 0, 1), (99, .bipush 8, 2), (101, .newarray .int, 2), (103, .putfield 28, 3), (106, .aload_n 0, 1), (107, .bipush 8, 2), (109, .newarray .int, 2), (111, .putfield 31, 3), (114, .aload_n 0, 1), (115, .bipush 8, 2)]] := dQ_of _ _ (by decide +kernel)
theorem dX7_sort_0 : decode cX7_sort 0 = .ok (.aload_n 0, 1) := dTo1_59.1.1
theorem dX7_sort_1 : decode cX7_sort 1 = .ok (.iconst 0, 1) := dTo1_59.1.2.1
theorem dX7_sort_2 : decode cX7_sort 2 = .ok (.putfield 50, 3) := dTo1_59.1.2.2.1
theorem dX7_sort_5 : decode cX7_sort 5 = .ok (.aload_n 0, 1) := dTo1_59.1.2.2.2.1
theorem dX7_sort_6 : decode cX7_sort 6 = .ok (.getfield 28, 3) := dTo1_59.1.2.2.2.2.1
theorem dX7_sort_9 : decode cX7_sort 9 = .ok (.astore_n 1, 1) := dTo1_59.1.2.2.2.2.2.1
theorem dX7_sort_10 : decode cX7_sort 10 = .ok (.aload_n 0, 1) := dTo1_59.1.2.2.2.2.2.2.1
theorem dX7_sort_11 : decode cX7_sort 11 = .ok (.getfield 31, 3) := dTo1_59.1.2.2.2.2.2.2.2.1
theorem dX7_sort_14 : decode cX7_sort 14 = .ok (.astore_n 2, 1) := dTo1_59.1.2.2.2.2.2.2.2.2.1
theorem dX7_sort_15 : decode cX7_sort 15 = .ok (.aload_n 0, 1) := dTo1_59.1.2.2.2.2.2.2.2.2.2.1
theorem dX7_sort_16 : decode cX7_sort 16 = .ok (.getfield 34, 3) := dTo1_59.2.1.1
theorem dX7_sort_19 : decode cX7_sort 19 = .ok (.astore_n 3, 1) := dTo1_59.2.1.2.1
theorem dX7_sort_20 : decode cX7_sort 20 = .ok (.bipush 8, 2) := dTo1_59.2.1.2.2.1
theorem dX7_sort_22 : decode cX7_sort 22 = .ok (.newarray .int, 2) := dTo1_59.2.1.2.2.2.1
theorem dX7_sort_24 : decode cX7_sort 24 = .ok (.astore 4, 2) := dTo1_59.2.1.2.2.2.2.1
theorem dX7_sort_26 : decode cX7_sort 26 = .ok (.iconst 0, 1) := dTo1_59.2.1.2.2.2.2.2.1
theorem dX7_sort_27 : decode cX7_sort 27 = .ok (.istore 5, 2) := dTo1_59.2.1.2.2.2.2.2.2.1
theorem dX7_sort_29 : decode cX7_sort 29 = .ok (.iload 5, 2) := dTo1_59.2.1.2.2.2.2.2.2.2.1
theorem dX7_sort_31 : decode cX7_sort 31 = .ok (.bipush 8, 2) := dTo1_59.2.1.2.2.2.2.2.2.2.2.1
theorem dX7_sort_33 : decode cX7_sort 33 = .ok (.if_icmp .ge 65, 3) := dTo1_59.2.1.2.2.2.2.2.2.2.2.2.1
theorem dX7_sort_36 : decode cX7_sort 36 = .ok (.iconst 0, 1) := dTo1_59.2.2.1.1
theorem dX7_sort_37 : decode cX7_sort 37 = .ok (.istore 6, 2) := dTo1_59.2.2.1.2.1
theorem dX7_sort_39 : decode cX7_sort 39 = .ok (.iload 6, 2) := dTo1_59.2.2.1.2.2.1
theorem dX7_sort_41 : decode cX7_sort 41 = .ok (.bipush 8, 2) := dTo1_59.2.2.1.2.2.2.1
theorem dX7_sort_43 : decode cX7_sort 43 = .ok (.if_icmp .ge 49, 3) := dTo1_59.2.2.1.2.2.2.2.1
theorem dX7_sort_46 : decode cX7_sort 46 = .ok (.aload_n 0, 1) := dTo1_59.2.2.1.2.2.2.2.2.1
theorem dX7_sort_47 : decode cX7_sort 47 = .ok (.iload 6, 2) := dTo1_59.2.2.1.2.2.2.2.2.2.1
theorem dX7_sort_49 : decode cX7_sort 49 = .ok (.iload 5, 2) := dTo1_59.2.2.1.2.2.2.2.2.2.2.1
theorem dX7_sort_51 : decode cX7_sort 51 = .ok (.invokevirtual 168, 3) := dTo1_59.2.2.1.2.2.2.2.2.2.2.2.1
theorem dX7_sort_54 : decode cX7_sort 54 = .ok (.istore 7, 2) := dTo1_59.2.2.1.2.2.2.2.2.2.2.2.2.1
theorem dX7_sort_56 : decode cX7_sort 56 = .ok (.aload 4, 2) := dTo1_59.2.2.2.1.1
theorem dX7_sort_58 : decode cX7_sort 58 = .ok (.iload 5, 2) := dTo1_59.2.2.2.1.2.1
theorem dX7_sort_60 : decode cX7_sort 60 = .ok (.dup2, 1) := dTo1_59.2.2.2.1.2.2.1
theorem dX7_sort_61 : decode cX7_sort 61 = .ok (.iaload, 1) := dTo1_59.2.2.2.1.2.2.2.1
theorem dX7_sort_62 : decode cX7_sort 62 = .ok (.iload 7, 2) := dTo1_59.2.2.2.1.2.2.2.2.1
theorem dX7_sort_64 : decode cX7_sort 64 = .ok (.ifCond .lt 15, 3) := dTo1_59.2.2.2.1.2.2.2.2.2.1
theorem dX7_sort_67 : decode cX7_sort 67 = .ok (.iload 7, 2) := dTo1_59.2.2.2.1.2.2.2.2.2.2.1
theorem dX7_sort_69 : decode cX7_sort 69 = .ok (.ifCond .ne 14, 3) := dTo1_59.2.2.2.1.2.2.2.2.2.2.2.1
theorem dX7_sort_72 : decode cX7_sort 72 = .ok (.iload 6, 2) := dTo1_59.2.2.2.1.2.2.2.2.2.2.2.2.1
theorem dX7_sort_74 : decode cX7_sort 74 = .ok (.iload 5, 2) := dTo1_59.2.2.2.1.2.2.2.2.2.2.2.2.2.1
theorem dX7_sort_76 : decode cX7_sort 76 = .ok (.if_icmp .ge 7, 3) := dTo1_59.2.2.2.2.1.1
theorem dX7_sort_79 : decode cX7_sort 79 = .ok (.iconst 1, 1) := dTo1_59.2.2.2.2.1.2.1
theorem dX7_sort_80 : decode cX7_sort 80 = .ok (.goto 4, 3) := dTo1_59.2.2.2.2.1.2.2.1
theorem dX7_sort_83 : decode cX7_sort 83 = .ok (.iconst 0, 1) := dTo1_59.2.2.2.2.1.2.2.2.1
theorem dX7_sort_84 : decode cX7_sort 84 = .ok (.iadd, 1) := dTo1_59.2.2.2.2.1.2.2.2.2.1
theorem dX7_sort_85 : decode cX7_sort 85 = .ok (.iastore, 1) := dTo1_59.2.2.2.2.1.2.2.2.2.2.1
theorem dX7_sort_86 : decode cX7_sort 86 = .ok (.iinc 6 1, 3) := dTo1_59.2.2.2.2.1.2.2.2.2.2.2.1
theorem dX7_sort_89 : decode cX7_sort 89 = .ok (.goto (-50), 3) := dTo1_59.2.2.2.2.1.2.2.2.2.2.2.2.1
theorem dX7_sort_92 : decode cX7_sort 92 = .ok (.iinc 5 1, 3) := dTo1_59.2.2.2.2.1.2.2.2.2.2.2.2.2.1
theorem dX7_sort_95 : decode cX7_sort 95 = .ok (.goto (-66), 3) := dTo1_59.2.2.2.2.1.2.2.2.2.2.2.2.2.2.1
theorem dX7_sort_98 : decode cX7_sort 98 = .ok (.aload_n 0, 1) := dTo1_59.2.2.2.2.2.1.1
theorem dX7_sort_99 : decode cX7_sort 99 = .ok (.bipush 8, 2) := dTo1_59.2.2.2.2.2.1.2.1
theorem dX7_sort_101 : decode cX7_sort 101 = .ok (.newarray .int, 2) := dTo1_59.2.2.2.2.2.1.2.2.1
theorem dX7_sort_103 : decode cX7_sort 103 = .ok (.putfield 28, 3) := dTo1_59.2.2.2.2.2.1.2.2.2.1
theorem dX7_sort_106 : decode cX7_sort 106 = .ok (.aload_n 0, 1) := dTo1_59.2.2.2.2.2.1.2.2.2.2.1
theorem dX7_sort_107 : decode cX7_sort 107 = .ok (.bipush 8, 2) := dTo1_59.2.2.2.2.2.1.2.2.2.2.2.1
theorem dX7_sort_109 : decode cX7_sort 109 = .ok (.newarray .int, 2) := dTo1_59.2.2.2.2.2.1.2.2.2.2.2.2.1
theorem dX7_sort_111 : decode cX7_sort 111 = .ok (.putfield 31, 3) := dTo1_59.2.2.2.2.2.1.2.2.2.2.2.2.2.1
theorem dX7_sort_114 : decode cX7_sort 114 = .ok (.aload_n 0, 1) := dTo1_59.2.2.2.2.2.1.2.2.2.2.2.2.2.2.1
theorem dX7_sort_115 : decode cX7_sort 115 = .ok (.bipush 8, 2) := dTo1_59.2.2.2.2.2.1.2.2.2.2.2.2.2.2.2.1
theorem dTo1_60 : dQ cX7_sort [[(117, .newarray .boolean, 2), (119, .putfield 34, 3), (122, .iconst 0, 1), (123, .istore 5, 2), (125, .iload 5, 2), (127, .bipush 8, 2), (129, .if_icmp .ge 51, 3), (132, .aload_n 0, 1), (133, .getfield 28, 3), (136, .aload 4, 2)], [(138, .iload 5, 2), (140, .iaload, 1), (141, .aload_n 1, 1), (142, .iload 5, 2), (144, .iaload, 1), (145, .iastore, 1), (146, .aload_n 0, 1), (147, .getfield 31, 3), (150, .aload 4, 2), (152, .iload 5, 2)], [(154, .iaload, 1), (155, .aload_n 2, 1), (156, .iload 5, 2), (158, .iaload, 1), (159, .iastore, 1), (160, .aload_n 0, 1), (161, .getfield 34, 3), (164, .aload 4, 2), (166, .iload 5, 2), (168, .iaload, 1)], [(169, .aload_n 3, 1), (170, .iload 5, 2), (172, .baload, 1), (173, .bastore, 1), (174, .iinc 5 1, 3), (177, .goto (-52), 3), (180, .aload_n 0, 1), (181, .dup, 1), (182, .getfield 117, 3), (185, .iconst 1, 1)], [(186, .iadd, 1), (187, .putfield 117, 3), (190, .aload_n 0, 1), (191, .aload_n 1, 1), (192, .aload_n 2, 1), (193, .aload_n 3, 1), (194, .invokevirtual 140, 3), (197, .ireturn, 1)]] := dQ_of _ _ (by decide +kernel)
theorem dX7_sort_117 : decode cX7_sort 117 = .ok (.newarray .boolean, 2) := dTo1_60.1.1
theorem dX7_sort_119 : decode cX7_sort 119 = .ok (.putfield 34, 3) := dTo1_60.1.2.1
theorem dX7_sort_122 : decode cX7_sort 122 = .ok (.iconst 0, 1) := dTo1_60.1.2.2.1
theorem dX7_sort_123 : decode cX7_sort 123 = .ok (.istore 5, 2) := dTo1_60.1.2.2.2.1
theorem dX7_sort_125 : decode cX7_sort 125 = .ok (.iload 5, 2) := dTo1_60.1.2.2.2.2.1
theorem dX7_sort_127 : decode cX7_sort 127 = .ok (.bipush 8, 2) := dTo1_60.1.2.2.2.2.2.1
theorem dX7_sort_129 : decode cX7_sort 129 = .ok (.if_icmp .ge 51, 3) := dTo1_60.1.2.2.2.2.2.2.1
theorem dX7_sort_132 : decode cX7_sort 132 = .ok (.aload_n 0, 1) := dTo1_60.1.2.2.2.2.2.2.2.1
theorem dX7_sort_133 : decode cX7_sort 133 = .ok (.getfield 28, 3) := dTo1_60.1.2.2.2.2.2.2.2.2.1
theorem dX7_sort_136 : decode cX7_sort 136 = .ok (.aload 4, 2) := dTo1_60.1.2.2.2.2.2.2.2.2.2.1
theorem dX7_sort_138 : decode cX7_sort 138 = .ok (.iload 5, 2) := dTo1_60.2.1.1
theorem dX7_sort_140 : decode cX7_sort 140 = .ok (.iaload, 1) := dTo1_60.2.1.2.1
theorem dX7_sort_141 : decode cX7_sort 141 = .ok (.aload_n 1, 1) := dTo1_60.2.1.2.2.1
theorem dX7_sort_142 : decode cX7_sort 142 = .ok (.iload 5, 2) := dTo1_60.2.1.2.2.2.1
theorem dX7_sort_144 : decode cX7_sort 144 = .ok (.iaload, 1) := dTo1_60.2.1.2.2.2.2.1
theorem dX7_sort_145 : decode cX7_sort 145 = .ok (.iastore, 1) := dTo1_60.2.1.2.2.2.2.2.1
theorem dX7_sort_146 : decode cX7_sort 146 = .ok (.aload_n 0, 1) := dTo1_60.2.1.2.2.2.2.2.2.1
theorem dX7_sort_147 : decode cX7_sort 147 = .ok (.getfield 31, 3) := dTo1_60.2.1.2.2.2.2.2.2.2.1
theorem dX7_sort_150 : decode cX7_sort 150 = .ok (.aload 4, 2) := dTo1_60.2.1.2.2.2.2.2.2.2.2.1
theorem dX7_sort_152 : decode cX7_sort 152 = .ok (.iload 5, 2) := dTo1_60.2.1.2.2.2.2.2.2.2.2.2.1
theorem dX7_sort_154 : decode cX7_sort 154 = .ok (.iaload, 1) := dTo1_60.2.2.1.1
theorem dX7_sort_155 : decode cX7_sort 155 = .ok (.aload_n 2, 1) := dTo1_60.2.2.1.2.1
theorem dX7_sort_156 : decode cX7_sort 156 = .ok (.iload 5, 2) := dTo1_60.2.2.1.2.2.1
theorem dX7_sort_158 : decode cX7_sort 158 = .ok (.iaload, 1) := dTo1_60.2.2.1.2.2.2.1
theorem dX7_sort_159 : decode cX7_sort 159 = .ok (.iastore, 1) := dTo1_60.2.2.1.2.2.2.2.1
theorem dX7_sort_160 : decode cX7_sort 160 = .ok (.aload_n 0, 1) := dTo1_60.2.2.1.2.2.2.2.2.1
theorem dX7_sort_161 : decode cX7_sort 161 = .ok (.getfield 34, 3) := dTo1_60.2.2.1.2.2.2.2.2.2.1
theorem dX7_sort_164 : decode cX7_sort 164 = .ok (.aload 4, 2) := dTo1_60.2.2.1.2.2.2.2.2.2.2.1
theorem dX7_sort_166 : decode cX7_sort 166 = .ok (.iload 5, 2) := dTo1_60.2.2.1.2.2.2.2.2.2.2.2.1
theorem dX7_sort_168 : decode cX7_sort 168 = .ok (.iaload, 1) := dTo1_60.2.2.1.2.2.2.2.2.2.2.2.2.1
theorem dX7_sort_169 : decode cX7_sort 169 = .ok (.aload_n 3, 1) := dTo1_60.2.2.2.1.1
theorem dX7_sort_170 : decode cX7_sort 170 = .ok (.iload 5, 2) := dTo1_60.2.2.2.1.2.1
theorem dX7_sort_172 : decode cX7_sort 172 = .ok (.baload, 1) := dTo1_60.2.2.2.1.2.2.1
theorem dX7_sort_173 : decode cX7_sort 173 = .ok (.bastore, 1) := dTo1_60.2.2.2.1.2.2.2.1
theorem dX7_sort_174 : decode cX7_sort 174 = .ok (.iinc 5 1, 3) := dTo1_60.2.2.2.1.2.2.2.2.1
theorem dX7_sort_177 : decode cX7_sort 177 = .ok (.goto (-52), 3) := dTo1_60.2.2.2.1.2.2.2.2.2.1
theorem dX7_sort_180 : decode cX7_sort 180 = .ok (.aload_n 0, 1) := dTo1_60.2.2.2.1.2.2.2.2.2.2.1
theorem dX7_sort_181 : decode cX7_sort 181 = .ok (.dup, 1) := dTo1_60.2.2.2.1.2.2.2.2.2.2.2.1
theorem dX7_sort_182 : decode cX7_sort 182 = .ok (.getfield 117, 3) := dTo1_60.2.2.2.1.2.2.2.2.2.2.2.2.1
theorem dX7_sort_185 : decode cX7_sort 185 = .ok (.iconst 1, 1) := dTo1_60.2.2.2.1.2.2.2.2.2.2.2.2.2.1
theorem dX7_sort_186 : decode cX7_sort 186 = .ok (.iadd, 1) := dTo1_60.2.2.2.2.1.1
theorem dX7_sort_187 : decode cX7_sort 187 = .ok (.putfield 117, 3) := dTo1_60.2.2.2.2.1.2.1
theorem dX7_sort_190 : decode cX7_sort 190 = .ok (.aload_n 0, 1) := dTo1_60.2.2.2.2.1.2.2.1
theorem dX7_sort_191 : decode cX7_sort 191 = .ok (.aload_n 1, 1) := dTo1_60.2.2.2.2.1.2.2.2.1
theorem dX7_sort_192 : decode cX7_sort 192 = .ok (.aload_n 2, 1) := dTo1_60.2.2.2.2.1.2.2.2.2.1
theorem dX7_sort_193 : decode cX7_sort 193 = .ok (.aload_n 3, 1) := dTo1_60.2.2.2.2.1.2.2.2.2.2.1
theorem dX7_sort_194 : decode cX7_sort 194 = .ok (.invokevirtual 140, 3) := dTo1_60.2.2.2.2.1.2.2.2.2.2.2.1
theorem dX7_sort_197 : decode cX7_sort 197 = .ok (.ireturn, 1) := dTo1_60.2.2.2.2.1.2.2.2.2.2.2.2.1
theorem dTo1_61 : dQ cX7_kind [[(0, .aload_n 0, 1), (1, .iload_n 1, 1), (2, .invokestatic 123, 3), (5, .iconst 0, 1), (6, .invokevirtual 126, 3), (9, .ifCond .eq 7, 3), (12, .iconst 0, 1), (13, .goto 9, 3), (16, .aload_n 0, 1), (17, .getfield 28, 3)], [(20, .iload_n 1, 1), (21, .iaload, 1), (22, .ireturn, 1)]] := dQ_of _ _ (by decide +kernel)
theorem dX7_kind_0 : decode cX7_kind 0 = .ok (.aload_n 0, 1) := dTo1_61.1.1
theorem dX7_kind_1 : decode cX7_kind 1 = .ok (.iload_n 1, 1) := dTo1_61.1.2.1
theorem dX7_kind_2 : decode cX7_kind 2 = .ok (.invokestatic 123, 3) := dTo1_61.1.2.2.1
theorem dX7_kind_5 : decode cX7_kind 5 = .ok (.iconst 0, 1) := dTo1_61.1.2.2.2.1
theorem dX7_kind_6 : decode cX7_kind 6 = .ok (.invokevirtual 126, 3) := dTo1_61.1.2.2.2.2.1
theorem dX7_kind_9 : decode cX7_kind 9 = .ok (.ifCond .eq 7, 3) := dTo1_61.1.2.2.2.2.2.1
theorem dX7_kind_12 : decode cX7_kind 12 = .ok (.iconst 0, 1) := dTo1_61.1.2.2.2.2.2.2.1
theorem dX7_kind_13 : decode cX7_kind 13 = .ok (.goto 9, 3) := dTo1_61.1.2.2.2.2.2.2.2.1
theorem dX7_kind_16 : decode cX7_kind 16 = .ok (.aload_n 0, 1) := dTo1_61.1.2.2.2.2.2.2.2.2.1
theorem dX7_kind_17 : decode cX7_kind 17 = .ok (.getfield 28, 3) := dTo1_61.1.2.2.2.2.2.2.2.2.2.1
theorem dX7_kind_20 : decode cX7_kind 20 = .ok (.iload_n 1, 1) := dTo1_61.2.1.1
theorem dX7_kind_21 : decode cX7_kind 21 = .ok (.iaload, 1) := dTo1_61.2.1.2.1
theorem dX7_kind_22 : decode cX7_kind 22 = .ok (.ireturn, 1) := dTo1_61.2.1.2.2.1
theorem dTo1_62 : dQ cX7_of [[(0, .aload_n 0, 1), (1, .iload_n 1, 1), (2, .invokestatic 123, 3), (5, .iconst 0, 1), (6, .invokevirtual 126, 3), (9, .ifCond .eq 5, 3), (12, .iconst 0, 1), (13, .ireturn, 1), (14, .aload_n 0, 1), (15, .getfield 28, 3)], [(18, .iload_n 1, 1), (19, .iaload, 1), (20, .iconst 1, 1), (21, .if_icmp .eq 12, 3), (24, .aload_n 0, 1), (25, .getfield 31, 3), (28, .iload_n 1, 1), (29, .iaload, 1), (30, .goto 21, 3), (33, .aload_n 0, 1)], [(34, .getfield 34, 3), (37, .iload_n 1, 1), (38, .baload, 1), (39, .ifCond .eq 9, 3), (42, .sipush (-1000), 3), (45, .goto 6, 3), (48, .sipush 1000, 3), (51, .ireturn, 1)]] := dQ_of _ _ (by decide +kernel)
theorem dX7_of_0 : decode cX7_of 0 = .ok (.aload_n 0, 1) := dTo1_62.1.1
theorem dX7_of_1 : decode cX7_of 1 = .ok (.iload_n 1, 1) := dTo1_62.1.2.1
theorem dX7_of_2 : decode cX7_of 2 = .ok (.invokestatic 123, 3) := dTo1_62.1.2.2.1
theorem dX7_of_5 : decode cX7_of 5 = .ok (.iconst 0, 1) := dTo1_62.1.2.2.2.1
theorem dX7_of_6 : decode cX7_of 6 = .ok (.invokevirtual 126, 3) := dTo1_62.1.2.2.2.2.1
theorem dX7_of_9 : decode cX7_of 9 = .ok (.ifCond .eq 5, 3) := dTo1_62.1.2.2.2.2.2.1
theorem dX7_of_12 : decode cX7_of 12 = .ok (.iconst 0, 1) := dTo1_62.1.2.2.2.2.2.2.1
theorem dX7_of_13 : decode cX7_of 13 = .ok (.ireturn, 1) := dTo1_62.1.2.2.2.2.2.2.2.1
theorem dX7_of_14 : decode cX7_of 14 = .ok (.aload_n 0, 1) := dTo1_62.1.2.2.2.2.2.2.2.2.1
theorem dX7_of_15 : decode cX7_of 15 = .ok (.getfield 28, 3) := dTo1_62.1.2.2.2.2.2.2.2.2.2.1
theorem dX7_of_18 : decode cX7_of 18 = .ok (.iload_n 1, 1) := dTo1_62.2.1.1
theorem dX7_of_19 : decode cX7_of 19 = .ok (.iaload, 1) := dTo1_62.2.1.2.1
theorem dX7_of_20 : decode cX7_of 20 = .ok (.iconst 1, 1) := dTo1_62.2.1.2.2.1
theorem dX7_of_21 : decode cX7_of 21 = .ok (.if_icmp .eq 12, 3) := dTo1_62.2.1.2.2.2.1
theorem dX7_of_24 : decode cX7_of 24 = .ok (.aload_n 0, 1) := dTo1_62.2.1.2.2.2.2.1
theorem dX7_of_25 : decode cX7_of 25 = .ok (.getfield 31, 3) := dTo1_62.2.1.2.2.2.2.2.1
theorem dX7_of_28 : decode cX7_of 28 = .ok (.iload_n 1, 1) := dTo1_62.2.1.2.2.2.2.2.2.1
theorem dX7_of_29 : decode cX7_of 29 = .ok (.iaload, 1) := dTo1_62.2.1.2.2.2.2.2.2.2.1
theorem dX7_of_30 : decode cX7_of 30 = .ok (.goto 21, 3) := dTo1_62.2.1.2.2.2.2.2.2.2.2.1
theorem dX7_of_33 : decode cX7_of 33 = .ok (.aload_n 0, 1) := dTo1_62.2.1.2.2.2.2.2.2.2.2.2.1
theorem dX7_of_34 : decode cX7_of 34 = .ok (.getfield 34, 3) := dTo1_62.2.2.1.1
theorem dX7_of_37 : decode cX7_of 37 = .ok (.iload_n 1, 1) := dTo1_62.2.2.1.2.1
theorem dX7_of_38 : decode cX7_of 38 = .ok (.baload, 1) := dTo1_62.2.2.1.2.2.1
theorem dX7_of_39 : decode cX7_of 39 = .ok (.ifCond .eq 9, 3) := dTo1_62.2.2.1.2.2.2.1
theorem dX7_of_42 : decode cX7_of 42 = .ok (.sipush (-1000), 3) := dTo1_62.2.2.1.2.2.2.2.1
theorem dX7_of_45 : decode cX7_of 45 = .ok (.goto 6, 3) := dTo1_62.2.2.1.2.2.2.2.2.1
theorem dX7_of_48 : decode cX7_of 48 = .ok (.sipush 1000, 3) := dTo1_62.2.2.1.2.2.2.2.2.2.1
theorem dX7_of_51 : decode cX7_of 51 = .ok (.ireturn, 1) := dTo1_62.2.2.1.2.2.2.2.2.2.2.1
theorem dTo1_63 : dQ cX7_isBelow [[(0, .aload_n 0, 1), (1, .iload_n 1, 1), (2, .invokestatic 123, 3), (5, .iconst 0, 1), (6, .invokevirtual 126, 3), (9, .ifCond .eq 5, 3), (12, .iconst 0, 1), (13, .ireturn, 1), (14, .aload_n 0, 1), (15, .getfield 34, 3)], [(18, .iload_n 1, 1), (19, .baload, 1), (20, .ifCond .ne 35, 3), (23, .aload_n 0, 1), (24, .getfield 28, 3), (27, .iload_n 1, 1), (28, .iaload, 1), (29, .iconst 1, 1), (30, .if_icmp .eq 29, 3), (33, .aload_n 0, 1)], [(34, .aload_n 0, 1), (35, .getfield 28, 3), (38, .iload_n 1, 1), (39, .iaload, 1), (40, .aload_n 0, 1), (41, .getfield 31, 3), (44, .iload_n 1, 1), (45, .iaload, 1), (46, .invokevirtual 88, 3), (49, .bipush 10, 2)], [(51, .iaload, 1), (52, .ifCond .ge 7, 3), (55, .iconst 1, 1), (56, .goto 4, 3), (59, .iconst 0, 1), (60, .ireturn, 1)]] := dQ_of _ _ (by decide +kernel)
theorem dX7_isBelow_0 : decode cX7_isBelow 0 = .ok (.aload_n 0, 1) := dTo1_63.1.1
theorem dX7_isBelow_1 : decode cX7_isBelow 1 = .ok (.iload_n 1, 1) := dTo1_63.1.2.1
theorem dX7_isBelow_2 : decode cX7_isBelow 2 = .ok (.invokestatic 123, 3) := dTo1_63.1.2.2.1
theorem dX7_isBelow_5 : decode cX7_isBelow 5 = .ok (.iconst 0, 1) := dTo1_63.1.2.2.2.1
theorem dX7_isBelow_6 : decode cX7_isBelow 6 = .ok (.invokevirtual 126, 3) := dTo1_63.1.2.2.2.2.1
theorem dX7_isBelow_9 : decode cX7_isBelow 9 = .ok (.ifCond .eq 5, 3) := dTo1_63.1.2.2.2.2.2.1
theorem dX7_isBelow_12 : decode cX7_isBelow 12 = .ok (.iconst 0, 1) := dTo1_63.1.2.2.2.2.2.2.1
theorem dX7_isBelow_13 : decode cX7_isBelow 13 = .ok (.ireturn, 1) := dTo1_63.1.2.2.2.2.2.2.2.1
theorem dX7_isBelow_14 : decode cX7_isBelow 14 = .ok (.aload_n 0, 1) := dTo1_63.1.2.2.2.2.2.2.2.2.1
theorem dX7_isBelow_15 : decode cX7_isBelow 15 = .ok (.getfield 34, 3) := dTo1_63.1.2.2.2.2.2.2.2.2.2.1
theorem dX7_isBelow_18 : decode cX7_isBelow 18 = .ok (.iload_n 1, 1) := dTo1_63.2.1.1
theorem dX7_isBelow_19 : decode cX7_isBelow 19 = .ok (.baload, 1) := dTo1_63.2.1.2.1
theorem dX7_isBelow_20 : decode cX7_isBelow 20 = .ok (.ifCond .ne 35, 3) := dTo1_63.2.1.2.2.1
theorem dX7_isBelow_23 : decode cX7_isBelow 23 = .ok (.aload_n 0, 1) := dTo1_63.2.1.2.2.2.1
theorem dX7_isBelow_24 : decode cX7_isBelow 24 = .ok (.getfield 28, 3) := dTo1_63.2.1.2.2.2.2.1
theorem dX7_isBelow_27 : decode cX7_isBelow 27 = .ok (.iload_n 1, 1) := dTo1_63.2.1.2.2.2.2.2.1
theorem dX7_isBelow_28 : decode cX7_isBelow 28 = .ok (.iaload, 1) := dTo1_63.2.1.2.2.2.2.2.2.1
theorem dX7_isBelow_29 : decode cX7_isBelow 29 = .ok (.iconst 1, 1) := dTo1_63.2.1.2.2.2.2.2.2.2.1
theorem dX7_isBelow_30 : decode cX7_isBelow 30 = .ok (.if_icmp .eq 29, 3) := dTo1_63.2.1.2.2.2.2.2.2.2.2.1
theorem dX7_isBelow_33 : decode cX7_isBelow 33 = .ok (.aload_n 0, 1) := dTo1_63.2.1.2.2.2.2.2.2.2.2.2.1
theorem dX7_isBelow_34 : decode cX7_isBelow 34 = .ok (.aload_n 0, 1) := dTo1_63.2.2.1.1
theorem dX7_isBelow_35 : decode cX7_isBelow 35 = .ok (.getfield 28, 3) := dTo1_63.2.2.1.2.1
theorem dX7_isBelow_38 : decode cX7_isBelow 38 = .ok (.iload_n 1, 1) := dTo1_63.2.2.1.2.2.1
theorem dX7_isBelow_39 : decode cX7_isBelow 39 = .ok (.iaload, 1) := dTo1_63.2.2.1.2.2.2.1
theorem dX7_isBelow_40 : decode cX7_isBelow 40 = .ok (.aload_n 0, 1) := dTo1_63.2.2.1.2.2.2.2.1
theorem dX7_isBelow_41 : decode cX7_isBelow 41 = .ok (.getfield 31, 3) := dTo1_63.2.2.1.2.2.2.2.2.1
theorem dX7_isBelow_44 : decode cX7_isBelow 44 = .ok (.iload_n 1, 1) := dTo1_63.2.2.1.2.2.2.2.2.2.1
theorem dX7_isBelow_45 : decode cX7_isBelow 45 = .ok (.iaload, 1) := dTo1_63.2.2.1.2.2.2.2.2.2.2.1
theorem dX7_isBelow_46 : decode cX7_isBelow 46 = .ok (.invokevirtual 88, 3) := dTo1_63.2.2.1.2.2.2.2.2.2.2.2.1
theorem dX7_isBelow_49 : decode cX7_isBelow 49 = .ok (.bipush 10, 2) := dTo1_63.2.2.1.2.2.2.2.2.2.2.2.2.1
theorem dX7_isBelow_51 : decode cX7_isBelow 51 = .ok (.iaload, 1) := dTo1_63.2.2.2.1.1
theorem dX7_isBelow_52 : decode cX7_isBelow 52 = .ok (.ifCond .ge 7, 3) := dTo1_63.2.2.2.1.2.1
theorem dX7_isBelow_55 : decode cX7_isBelow 55 = .ok (.iconst 1, 1) := dTo1_63.2.2.2.1.2.2.1
theorem dX7_isBelow_56 : decode cX7_isBelow 56 = .ok (.goto 4, 3) := dTo1_63.2.2.2.1.2.2.2.1
theorem dX7_isBelow_59 : decode cX7_isBelow 59 = .ok (.iconst 0, 1) := dTo1_63.2.2.2.1.2.2.2.2.1
theorem dX7_isBelow_60 : decode cX7_isBelow 60 = .ok (.ireturn, 1) := dTo1_63.2.2.2.1.2.2.2.2.2.1
theorem dTo1_64 : dQ cX7_isZero [[(0, .aload_n 0, 1), (1, .iload_n 1, 1), (2, .invokestatic 123, 3), (5, .iconst 0, 1), (6, .invokevirtual 126, 3), (9, .ifCond .ne 15, 3), (12, .aload_n 0, 1), (13, .iload_n 1, 1), (14, .invokevirtual 109, 3), (17, .ifCond .eq 7, 3)], [(20, .iconst 1, 1), (21, .goto 4, 3), (24, .iconst 0, 1), (25, .ireturn, 1)]] := dQ_of _ _ (by decide +kernel)
theorem dX7_isZero_0 : decode cX7_isZero 0 = .ok (.aload_n 0, 1) := dTo1_64.1.1
theorem dX7_isZero_1 : decode cX7_isZero 1 = .ok (.iload_n 1, 1) := dTo1_64.1.2.1
theorem dX7_isZero_2 : decode cX7_isZero 2 = .ok (.invokestatic 123, 3) := dTo1_64.1.2.2.1
theorem dX7_isZero_5 : decode cX7_isZero 5 = .ok (.iconst 0, 1) := dTo1_64.1.2.2.2.1
theorem dX7_isZero_6 : decode cX7_isZero 6 = .ok (.invokevirtual 126, 3) := dTo1_64.1.2.2.2.2.1
theorem dX7_isZero_9 : decode cX7_isZero 9 = .ok (.ifCond .ne 15, 3) := dTo1_64.1.2.2.2.2.2.1
theorem dX7_isZero_12 : decode cX7_isZero 12 = .ok (.aload_n 0, 1) := dTo1_64.1.2.2.2.2.2.2.1
theorem dX7_isZero_13 : decode cX7_isZero 13 = .ok (.iload_n 1, 1) := dTo1_64.1.2.2.2.2.2.2.2.1
theorem dX7_isZero_14 : decode cX7_isZero 14 = .ok (.invokevirtual 109, 3) := dTo1_64.1.2.2.2.2.2.2.2.2.1
theorem dX7_isZero_17 : decode cX7_isZero 17 = .ok (.ifCond .eq 7, 3) := dTo1_64.1.2.2.2.2.2.2.2.2.2.1
theorem dX7_isZero_20 : decode cX7_isZero 20 = .ok (.iconst 1, 1) := dTo1_64.2.1.1
theorem dX7_isZero_21 : decode cX7_isZero 21 = .ok (.goto 4, 3) := dTo1_64.2.1.2.1
theorem dX7_isZero_24 : decode cX7_isZero 24 = .ok (.iconst 0, 1) := dTo1_64.2.1.2.2.1
theorem dX7_isZero_25 : decode cX7_isZero 25 = .ok (.ireturn, 1) := dTo1_64.2.1.2.2.2.1
theorem dTo1_65 : dQ cX7_isEndless [[(0, .aload_n 0, 1), (1, .iload_n 1, 1), (2, .invokestatic 123, 3), (5, .iconst 0, 1), (6, .invokevirtual 126, 3), (9, .ifCond .ne 17, 3), (12, .aload_n 0, 1), (13, .getfield 28, 3), (16, .iload_n 1, 1), (17, .iaload, 1)], [(18, .iconst 1, 1), (19, .if_icmp .ne 7, 3), (22, .iconst 1, 1), (23, .goto 4, 3), (26, .iconst 0, 1), (27, .ireturn, 1)]] := dQ_of _ _ (by decide +kernel)
theorem dX7_isEndless_0 : decode cX7_isEndless 0 = .ok (.aload_n 0, 1) := dTo1_65.1.1
theorem dX7_isEndless_1 : decode cX7_isEndless 1 = .ok (.iload_n 1, 1) := dTo1_65.1.2.1
theorem dX7_isEndless_2 : decode cX7_isEndless 2 = .ok (.invokestatic 123, 3) := dTo1_65.1.2.2.1
theorem dX7_isEndless_5 : decode cX7_isEndless 5 = .ok (.iconst 0, 1) := dTo1_65.1.2.2.2.1
theorem dX7_isEndless_6 : decode cX7_isEndless 6 = .ok (.invokevirtual 126, 3) := dTo1_65.1.2.2.2.2.1
theorem dX7_isEndless_9 : decode cX7_isEndless 9 = .ok (.ifCond .ne 17, 3) := dTo1_65.1.2.2.2.2.2.1
theorem dX7_isEndless_12 : decode cX7_isEndless 12 = .ok (.aload_n 0, 1) := dTo1_65.1.2.2.2.2.2.2.1
theorem dX7_isEndless_13 : decode cX7_isEndless 13 = .ok (.getfield 28, 3) := dTo1_65.1.2.2.2.2.2.2.2.1
theorem dX7_isEndless_16 : decode cX7_isEndless 16 = .ok (.iload_n 1, 1) := dTo1_65.1.2.2.2.2.2.2.2.2.1
theorem dX7_isEndless_17 : decode cX7_isEndless 17 = .ok (.iaload, 1) := dTo1_65.1.2.2.2.2.2.2.2.2.2.1
theorem dX7_isEndless_18 : decode cX7_isEndless 18 = .ok (.iconst 1, 1) := dTo1_65.2.1.1
theorem dX7_isEndless_19 : decode cX7_isEndless 19 = .ok (.if_icmp .ne 7, 3) := dTo1_65.2.1.2.1
theorem dX7_isEndless_22 : decode cX7_isEndless 22 = .ok (.iconst 1, 1) := dTo1_65.2.1.2.2.1
theorem dX7_isEndless_23 : decode cX7_isEndless 23 = .ok (.goto 4, 3) := dTo1_65.2.1.2.2.2.1
theorem dX7_isEndless_26 : decode cX7_isEndless 26 = .ok (.iconst 0, 1) := dTo1_65.2.1.2.2.2.2.1
theorem dX7_isEndless_27 : decode cX7_isEndless 27 = .ok (.ireturn, 1) := dTo1_65.2.1.2.2.2.2.2.1
theorem dTo1_66 : dQ cX7_isUntold [[(0, .aload_n 0, 1), (1, .getfield 28, 3), (4, .iload_n 1, 1), (5, .iaload, 1), (6, .iconst 1, 1), (7, .if_icmp .eq 13, 3), (10, .aload_n 0, 1), (11, .getfield 28, 3), (14, .iload_n 1, 1), (15, .iaload, 1)], [(16, .iconst 4, 1), (17, .if_icmp .le 7, 3), (20, .iconst 1, 1), (21, .goto 4, 3), (24, .iconst 0, 1), (25, .ireturn, 1)]] := dQ_of _ _ (by decide +kernel)
theorem dX7_isUntold_0 : decode cX7_isUntold 0 = .ok (.aload_n 0, 1) := dTo1_66.1.1
theorem dX7_isUntold_1 : decode cX7_isUntold 1 = .ok (.getfield 28, 3) := dTo1_66.1.2.1
theorem dX7_isUntold_4 : decode cX7_isUntold 4 = .ok (.iload_n 1, 1) := dTo1_66.1.2.2.1
theorem dX7_isUntold_5 : decode cX7_isUntold 5 = .ok (.iaload, 1) := dTo1_66.1.2.2.2.1
theorem dX7_isUntold_6 : decode cX7_isUntold 6 = .ok (.iconst 1, 1) := dTo1_66.1.2.2.2.2.1
theorem dX7_isUntold_7 : decode cX7_isUntold 7 = .ok (.if_icmp .eq 13, 3) := dTo1_66.1.2.2.2.2.2.1
theorem dX7_isUntold_10 : decode cX7_isUntold 10 = .ok (.aload_n 0, 1) := dTo1_66.1.2.2.2.2.2.2.1
theorem dX7_isUntold_11 : decode cX7_isUntold 11 = .ok (.getfield 28, 3) := dTo1_66.1.2.2.2.2.2.2.2.1
theorem dX7_isUntold_14 : decode cX7_isUntold 14 = .ok (.iload_n 1, 1) := dTo1_66.1.2.2.2.2.2.2.2.2.1
theorem dX7_isUntold_15 : decode cX7_isUntold 15 = .ok (.iaload, 1) := dTo1_66.1.2.2.2.2.2.2.2.2.2.1
theorem dX7_isUntold_16 : decode cX7_isUntold 16 = .ok (.iconst 4, 1) := dTo1_66.2.1.1
theorem dX7_isUntold_17 : decode cX7_isUntold 17 = .ok (.if_icmp .le 7, 3) := dTo1_66.2.1.2.1
theorem dX7_isUntold_20 : decode cX7_isUntold 20 = .ok (.iconst 1, 1) := dTo1_66.2.1.2.2.1
theorem dX7_isUntold_21 : decode cX7_isUntold 21 = .ok (.goto 4, 3) := dTo1_66.2.1.2.2.2.1
theorem dX7_isUntold_24 : decode cX7_isUntold 24 = .ok (.iconst 0, 1) := dTo1_66.2.1.2.2.2.2.1
theorem dX7_isUntold_25 : decode cX7_isUntold 25 = .ok (.ireturn, 1) := dTo1_66.2.1.2.2.2.2.2.1
theorem dTo1_67 : dQ cX7_whole [[(0, .aload_n 0, 1), (1, .iload_n 1, 1), (2, .invokestatic 123, 3), (5, .iload_n 2, 1), (6, .bipush (-62), 2), (8, .bipush 90, 2), (10, .invokestatic 113, 3), (13, .ifCond .ne 7, 3), (16, .iconst 1, 1), (17, .goto 4, 3)], [(20, .iconst 0, 1), (21, .invokevirtual 126, 3), (24, .ifCond .eq 5, 3), (27, .iconst 0, 1), (28, .ireturn, 1), (29, .aload_n 0, 1), (30, .iload_n 1, 1), (31, .invokevirtual 174, 3), (34, .ifCond .eq 7, 3), (37, .aconst_null, 1)], [(38, .goto 19, 3), (41, .aload_n 0, 1), (42, .aload_n 0, 1), (43, .getfield 28, 3), (46, .iload_n 1, 1), (47, .iaload, 1), (48, .aload_n 0, 1), (49, .getfield 31, 3), (52, .iload_n 1, 1), (53, .iaload, 1)], [(54, .invokevirtual 88, 3), (57, .astore_n 3, 1), (58, .aload_n 3, 1), (59, .ifnull 15, 3), (62, .aload_n 3, 1), (63, .sipush 256, 3), (66, .iload_n 2, 1), (67, .isub, 1), (68, .invokestatic 177, 3), (71, .ifCond .ne 10, 3)], [(74, .aload_n 0, 1), (75, .iconst 3, 1), (76, .putfield 50, 3), (79, .iconst 0, 1), (80, .ireturn, 1), (81, .aload_n 3, 1), (82, .sipush 256, 3), (85, .iload_n 2, 1), (86, .isub, 1), (87, .invokestatic 181, 3)], [(90, .ireturn, 1)]] := dQ_of _ _ (by decide +kernel)
theorem dX7_whole_0 : decode cX7_whole 0 = .ok (.aload_n 0, 1) := dTo1_67.1.1
theorem dX7_whole_1 : decode cX7_whole 1 = .ok (.iload_n 1, 1) := dTo1_67.1.2.1
theorem dX7_whole_2 : decode cX7_whole 2 = .ok (.invokestatic 123, 3) := dTo1_67.1.2.2.1
theorem dX7_whole_5 : decode cX7_whole 5 = .ok (.iload_n 2, 1) := dTo1_67.1.2.2.2.1
theorem dX7_whole_6 : decode cX7_whole 6 = .ok (.bipush (-62), 2) := dTo1_67.1.2.2.2.2.1
theorem dX7_whole_8 : decode cX7_whole 8 = .ok (.bipush 90, 2) := dTo1_67.1.2.2.2.2.2.1
theorem dX7_whole_10 : decode cX7_whole 10 = .ok (.invokestatic 113, 3) := dTo1_67.1.2.2.2.2.2.2.1
theorem dX7_whole_13 : decode cX7_whole 13 = .ok (.ifCond .ne 7, 3) := dTo1_67.1.2.2.2.2.2.2.2.1
theorem dX7_whole_16 : decode cX7_whole 16 = .ok (.iconst 1, 1) := dTo1_67.1.2.2.2.2.2.2.2.2.1
theorem dX7_whole_17 : decode cX7_whole 17 = .ok (.goto 4, 3) := dTo1_67.1.2.2.2.2.2.2.2.2.2.1
theorem dX7_whole_20 : decode cX7_whole 20 = .ok (.iconst 0, 1) := dTo1_67.2.1.1
theorem dX7_whole_21 : decode cX7_whole 21 = .ok (.invokevirtual 126, 3) := dTo1_67.2.1.2.1
theorem dX7_whole_24 : decode cX7_whole 24 = .ok (.ifCond .eq 5, 3) := dTo1_67.2.1.2.2.1
theorem dX7_whole_27 : decode cX7_whole 27 = .ok (.iconst 0, 1) := dTo1_67.2.1.2.2.2.1
theorem dX7_whole_28 : decode cX7_whole 28 = .ok (.ireturn, 1) := dTo1_67.2.1.2.2.2.2.1
theorem dX7_whole_29 : decode cX7_whole 29 = .ok (.aload_n 0, 1) := dTo1_67.2.1.2.2.2.2.2.1
theorem dX7_whole_30 : decode cX7_whole 30 = .ok (.iload_n 1, 1) := dTo1_67.2.1.2.2.2.2.2.2.1
theorem dX7_whole_31 : decode cX7_whole 31 = .ok (.invokevirtual 174, 3) := dTo1_67.2.1.2.2.2.2.2.2.2.1
theorem dX7_whole_34 : decode cX7_whole 34 = .ok (.ifCond .eq 7, 3) := dTo1_67.2.1.2.2.2.2.2.2.2.2.1
theorem dX7_whole_37 : decode cX7_whole 37 = .ok (.aconst_null, 1) := dTo1_67.2.1.2.2.2.2.2.2.2.2.2.1
theorem dX7_whole_38 : decode cX7_whole 38 = .ok (.goto 19, 3) := dTo1_67.2.2.1.1
theorem dX7_whole_41 : decode cX7_whole 41 = .ok (.aload_n 0, 1) := dTo1_67.2.2.1.2.1
theorem dX7_whole_42 : decode cX7_whole 42 = .ok (.aload_n 0, 1) := dTo1_67.2.2.1.2.2.1
theorem dX7_whole_43 : decode cX7_whole 43 = .ok (.getfield 28, 3) := dTo1_67.2.2.1.2.2.2.1
theorem dX7_whole_46 : decode cX7_whole 46 = .ok (.iload_n 1, 1) := dTo1_67.2.2.1.2.2.2.2.1
theorem dX7_whole_47 : decode cX7_whole 47 = .ok (.iaload, 1) := dTo1_67.2.2.1.2.2.2.2.2.1
theorem dX7_whole_48 : decode cX7_whole 48 = .ok (.aload_n 0, 1) := dTo1_67.2.2.1.2.2.2.2.2.2.1
theorem dX7_whole_49 : decode cX7_whole 49 = .ok (.getfield 31, 3) := dTo1_67.2.2.1.2.2.2.2.2.2.2.1
theorem dX7_whole_52 : decode cX7_whole 52 = .ok (.iload_n 1, 1) := dTo1_67.2.2.1.2.2.2.2.2.2.2.2.1
theorem dX7_whole_53 : decode cX7_whole 53 = .ok (.iaload, 1) := dTo1_67.2.2.1.2.2.2.2.2.2.2.2.2.1
theorem dX7_whole_54 : decode cX7_whole 54 = .ok (.invokevirtual 88, 3) := dTo1_67.2.2.2.1.1
theorem dX7_whole_57 : decode cX7_whole 57 = .ok (.astore_n 3, 1) := dTo1_67.2.2.2.1.2.1
theorem dX7_whole_58 : decode cX7_whole 58 = .ok (.aload_n 3, 1) := dTo1_67.2.2.2.1.2.2.1
theorem dX7_whole_59 : decode cX7_whole 59 = .ok (.ifnull 15, 3) := dTo1_67.2.2.2.1.2.2.2.1
theorem dX7_whole_62 : decode cX7_whole 62 = .ok (.aload_n 3, 1) := dTo1_67.2.2.2.1.2.2.2.2.1
theorem dX7_whole_63 : decode cX7_whole 63 = .ok (.sipush 256, 3) := dTo1_67.2.2.2.1.2.2.2.2.2.1
theorem dX7_whole_66 : decode cX7_whole 66 = .ok (.iload_n 2, 1) := dTo1_67.2.2.2.1.2.2.2.2.2.2.1
theorem dX7_whole_67 : decode cX7_whole 67 = .ok (.isub, 1) := dTo1_67.2.2.2.1.2.2.2.2.2.2.2.1
theorem dX7_whole_68 : decode cX7_whole 68 = .ok (.invokestatic 177, 3) := dTo1_67.2.2.2.1.2.2.2.2.2.2.2.2.1
theorem dX7_whole_71 : decode cX7_whole 71 = .ok (.ifCond .ne 10, 3) := dTo1_67.2.2.2.1.2.2.2.2.2.2.2.2.2.1
theorem dX7_whole_74 : decode cX7_whole 74 = .ok (.aload_n 0, 1) := dTo1_67.2.2.2.2.1.1
theorem dX7_whole_75 : decode cX7_whole 75 = .ok (.iconst 3, 1) := dTo1_67.2.2.2.2.1.2.1
theorem dX7_whole_76 : decode cX7_whole 76 = .ok (.putfield 50, 3) := dTo1_67.2.2.2.2.1.2.2.1
theorem dX7_whole_79 : decode cX7_whole 79 = .ok (.iconst 0, 1) := dTo1_67.2.2.2.2.1.2.2.2.1
theorem dX7_whole_80 : decode cX7_whole 80 = .ok (.ireturn, 1) := dTo1_67.2.2.2.2.1.2.2.2.2.1
theorem dX7_whole_81 : decode cX7_whole 81 = .ok (.aload_n 3, 1) := dTo1_67.2.2.2.2.1.2.2.2.2.2.1
theorem dX7_whole_82 : decode cX7_whole 82 = .ok (.sipush 256, 3) := dTo1_67.2.2.2.2.1.2.2.2.2.2.2.1
theorem dX7_whole_85 : decode cX7_whole 85 = .ok (.iload_n 2, 1) := dTo1_67.2.2.2.2.1.2.2.2.2.2.2.2.1
theorem dX7_whole_86 : decode cX7_whole 86 = .ok (.isub, 1) := dTo1_67.2.2.2.2.1.2.2.2.2.2.2.2.2.1
theorem dX7_whole_87 : decode cX7_whole 87 = .ok (.invokestatic 181, 3) := dTo1_67.2.2.2.2.1.2.2.2.2.2.2.2.2.2.1
theorem dX7_whole_90 : decode cX7_whole 90 = .ok (.ireturn, 1) := dTo1_67.2.2.2.2.2.1.1
theorem dTo1_68 : dQ cX7_isLow [[(0, .iload_n 1, 1), (1, .invokestatic 123, 3), (4, .ifCond .eq 7, 3), (7, .iconst 0, 1), (8, .goto 4, 3), (11, .iload_n 1, 1), (12, .istore_n 2, 1), (13, .aload_n 0, 1), (14, .iload_n 1, 1), (15, .invokestatic 123, 3)], [(18, .aload_n 0, 1), (19, .iload_n 2, 1), (20, .invokevirtual 174, 3), (23, .ifCond .ne 11, 3), (26, .aload_n 0, 1), (27, .iload_n 2, 1), (28, .invokevirtual 109, 3), (31, .ifCond .eq 7, 3), (34, .iconst 1, 1), (35, .goto 4, 3)], [(38, .iconst 0, 1), (39, .invokevirtual 126, 3), (42, .ireturn, 1)]] := dQ_of _ _ (by decide +kernel)
theorem dX7_isLow_0 : decode cX7_isLow 0 = .ok (.iload_n 1, 1) := dTo1_68.1.1
theorem dX7_isLow_1 : decode cX7_isLow 1 = .ok (.invokestatic 123, 3) := dTo1_68.1.2.1
theorem dX7_isLow_4 : decode cX7_isLow 4 = .ok (.ifCond .eq 7, 3) := dTo1_68.1.2.2.1
theorem dX7_isLow_7 : decode cX7_isLow 7 = .ok (.iconst 0, 1) := dTo1_68.1.2.2.2.1
theorem dX7_isLow_8 : decode cX7_isLow 8 = .ok (.goto 4, 3) := dTo1_68.1.2.2.2.2.1
theorem dX7_isLow_11 : decode cX7_isLow 11 = .ok (.iload_n 1, 1) := dTo1_68.1.2.2.2.2.2.1
theorem dX7_isLow_12 : decode cX7_isLow 12 = .ok (.istore_n 2, 1) := dTo1_68.1.2.2.2.2.2.2.1
theorem dX7_isLow_13 : decode cX7_isLow 13 = .ok (.aload_n 0, 1) := dTo1_68.1.2.2.2.2.2.2.2.1
theorem dX7_isLow_14 : decode cX7_isLow 14 = .ok (.iload_n 1, 1) := dTo1_68.1.2.2.2.2.2.2.2.2.1
theorem dX7_isLow_15 : decode cX7_isLow 15 = .ok (.invokestatic 123, 3) := dTo1_68.1.2.2.2.2.2.2.2.2.2.1
theorem dX7_isLow_18 : decode cX7_isLow 18 = .ok (.aload_n 0, 1) := dTo1_68.2.1.1
theorem dX7_isLow_19 : decode cX7_isLow 19 = .ok (.iload_n 2, 1) := dTo1_68.2.1.2.1
theorem dX7_isLow_20 : decode cX7_isLow 20 = .ok (.invokevirtual 174, 3) := dTo1_68.2.1.2.2.1
theorem dX7_isLow_23 : decode cX7_isLow 23 = .ok (.ifCond .ne 11, 3) := dTo1_68.2.1.2.2.2.1
theorem dX7_isLow_26 : decode cX7_isLow 26 = .ok (.aload_n 0, 1) := dTo1_68.2.1.2.2.2.2.1
theorem dX7_isLow_27 : decode cX7_isLow 27 = .ok (.iload_n 2, 1) := dTo1_68.2.1.2.2.2.2.2.1
theorem dX7_isLow_28 : decode cX7_isLow 28 = .ok (.invokevirtual 109, 3) := dTo1_68.2.1.2.2.2.2.2.2.1
theorem dX7_isLow_31 : decode cX7_isLow 31 = .ok (.ifCond .eq 7, 3) := dTo1_68.2.1.2.2.2.2.2.2.2.1
theorem dX7_isLow_34 : decode cX7_isLow 34 = .ok (.iconst 1, 1) := dTo1_68.2.1.2.2.2.2.2.2.2.2.1
theorem dX7_isLow_35 : decode cX7_isLow 35 = .ok (.goto 4, 3) := dTo1_68.2.1.2.2.2.2.2.2.2.2.2.1
theorem dX7_isLow_38 : decode cX7_isLow 38 = .ok (.iconst 0, 1) := dTo1_68.2.2.1.1
theorem dX7_isLow_39 : decode cX7_isLow 39 = .ok (.invokevirtual 126, 3) := dTo1_68.2.2.1.2.1
theorem dX7_isLow_42 : decode cX7_isLow 42 = .ok (.ireturn, 1) := dTo1_68.2.2.1.2.2.1
theorem dTo1_69 : dQ cX7_height [[(0, .aload_n 0, 1), (1, .iload_n 1, 1), (2, .invokevirtual 184, 3), (5, .ifCond .eq 7, 3), (8, .iconst 0, 1), (9, .goto 29, 3), (12, .aload_n 0, 1), (13, .aload_n 0, 1), (14, .getfield 28, 3), (17, .iload_n 1, 1)], [(18, .iaload, 1), (19, .aload_n 0, 1), (20, .getfield 31, 3), (23, .iload_n 1, 1), (24, .iaload, 1), (25, .invokevirtual 88, 3), (28, .invokestatic 187, 3), (31, .invokestatic 191, 3), (34, .sipush 256, 3), (37, .isub, 1)], [(38, .ireturn, 1)]] := dQ_of _ _ (by decide +kernel)
theorem dX7_height_0 : decode cX7_height 0 = .ok (.aload_n 0, 1) := dTo1_69.1.1
theorem dX7_height_1 : decode cX7_height 1 = .ok (.iload_n 1, 1) := dTo1_69.1.2.1
theorem dX7_height_2 : decode cX7_height 2 = .ok (.invokevirtual 184, 3) := dTo1_69.1.2.2.1
theorem dX7_height_5 : decode cX7_height 5 = .ok (.ifCond .eq 7, 3) := dTo1_69.1.2.2.2.1
theorem dX7_height_8 : decode cX7_height 8 = .ok (.iconst 0, 1) := dTo1_69.1.2.2.2.2.1
theorem dX7_height_9 : decode cX7_height 9 = .ok (.goto 29, 3) := dTo1_69.1.2.2.2.2.2.1
theorem dX7_height_12 : decode cX7_height 12 = .ok (.aload_n 0, 1) := dTo1_69.1.2.2.2.2.2.2.1
theorem dX7_height_13 : decode cX7_height 13 = .ok (.aload_n 0, 1) := dTo1_69.1.2.2.2.2.2.2.2.1
theorem dX7_height_14 : decode cX7_height 14 = .ok (.getfield 28, 3) := dTo1_69.1.2.2.2.2.2.2.2.2.1
theorem dX7_height_17 : decode cX7_height 17 = .ok (.iload_n 1, 1) := dTo1_69.1.2.2.2.2.2.2.2.2.2.1
theorem dX7_height_18 : decode cX7_height 18 = .ok (.iaload, 1) := dTo1_69.2.1.1
theorem dX7_height_19 : decode cX7_height 19 = .ok (.aload_n 0, 1) := dTo1_69.2.1.2.1
theorem dX7_height_20 : decode cX7_height 20 = .ok (.getfield 31, 3) := dTo1_69.2.1.2.2.1
theorem dX7_height_23 : decode cX7_height 23 = .ok (.iload_n 1, 1) := dTo1_69.2.1.2.2.2.1
theorem dX7_height_24 : decode cX7_height 24 = .ok (.iaload, 1) := dTo1_69.2.1.2.2.2.2.1
theorem dX7_height_25 : decode cX7_height 25 = .ok (.invokevirtual 88, 3) := dTo1_69.2.1.2.2.2.2.2.1
theorem dX7_height_28 : decode cX7_height 28 = .ok (.invokestatic 187, 3) := dTo1_69.2.1.2.2.2.2.2.2.1
theorem dX7_height_31 : decode cX7_height 31 = .ok (.invokestatic 191, 3) := dTo1_69.2.1.2.2.2.2.2.2.2.1
theorem dX7_height_34 : decode cX7_height 34 = .ok (.sipush 256, 3) := dTo1_69.2.1.2.2.2.2.2.2.2.2.1
theorem dX7_height_37 : decode cX7_height 37 = .ok (.isub, 1) := dTo1_69.2.1.2.2.2.2.2.2.2.2.2.1
theorem dX7_height_38 : decode cX7_height 38 = .ok (.ireturn, 1) := dTo1_69.2.2.1.1
theorem dTo1_70 : dQ cX7_digits [[(0, .aload_n 0, 1), (1, .iload_n 1, 1), (2, .invokevirtual 184, 3), (5, .ifCond .eq 5, 3), (8, .iconst 0, 1), (9, .ireturn, 1), (10, .aload_n 0, 1), (11, .aload_n 0, 1), (12, .getfield 28, 3), (15, .iload_n 1, 1)], [(16, .iaload, 1), (17, .aload_n 0, 1), (18, .getfield 31, 3), (21, .iload_n 1, 1), (22, .iaload, 1), (23, .invokevirtual 88, 3), (26, .invokestatic 187, 3), (29, .astore_n 2, 1), (30, .aload_n 2, 1), (31, .aload_n 2, 1)], [(32, .invokestatic 191, 3), (35, .bipush 30, 2), (37, .isub, 1), (38, .invokestatic 181, 3), (41, .ireturn, 1)]] := dQ_of _ _ (by decide +kernel)
theorem dX7_digits_0 : decode cX7_digits 0 = .ok (.aload_n 0, 1) := dTo1_70.1.1
theorem dX7_digits_1 : decode cX7_digits 1 = .ok (.iload_n 1, 1) := dTo1_70.1.2.1
theorem dX7_digits_2 : decode cX7_digits 2 = .ok (.invokevirtual 184, 3) := dTo1_70.1.2.2.1
theorem dX7_digits_5 : decode cX7_digits 5 = .ok (.ifCond .eq 5, 3) := dTo1_70.1.2.2.2.1
theorem dX7_digits_8 : decode cX7_digits 8 = .ok (.iconst 0, 1) := dTo1_70.1.2.2.2.2.1
theorem dX7_digits_9 : decode cX7_digits 9 = .ok (.ireturn, 1) := dTo1_70.1.2.2.2.2.2.1
theorem dX7_digits_10 : decode cX7_digits 10 = .ok (.aload_n 0, 1) := dTo1_70.1.2.2.2.2.2.2.1
theorem dX7_digits_11 : decode cX7_digits 11 = .ok (.aload_n 0, 1) := dTo1_70.1.2.2.2.2.2.2.2.1
theorem dX7_digits_12 : decode cX7_digits 12 = .ok (.getfield 28, 3) := dTo1_70.1.2.2.2.2.2.2.2.2.1
theorem dX7_digits_15 : decode cX7_digits 15 = .ok (.iload_n 1, 1) := dTo1_70.1.2.2.2.2.2.2.2.2.2.1
theorem dX7_digits_16 : decode cX7_digits 16 = .ok (.iaload, 1) := dTo1_70.2.1.1
theorem dX7_digits_17 : decode cX7_digits 17 = .ok (.aload_n 0, 1) := dTo1_70.2.1.2.1
theorem dX7_digits_18 : decode cX7_digits 18 = .ok (.getfield 31, 3) := dTo1_70.2.1.2.2.1
theorem dX7_digits_21 : decode cX7_digits 21 = .ok (.iload_n 1, 1) := dTo1_70.2.1.2.2.2.1
theorem dX7_digits_22 : decode cX7_digits 22 = .ok (.iaload, 1) := dTo1_70.2.1.2.2.2.2.1
theorem dX7_digits_23 : decode cX7_digits 23 = .ok (.invokevirtual 88, 3) := dTo1_70.2.1.2.2.2.2.2.1
theorem dX7_digits_26 : decode cX7_digits 26 = .ok (.invokestatic 187, 3) := dTo1_70.2.1.2.2.2.2.2.2.1
theorem dX7_digits_29 : decode cX7_digits 29 = .ok (.astore_n 2, 1) := dTo1_70.2.1.2.2.2.2.2.2.2.1
theorem dX7_digits_30 : decode cX7_digits 30 = .ok (.aload_n 2, 1) := dTo1_70.2.1.2.2.2.2.2.2.2.2.1
theorem dX7_digits_31 : decode cX7_digits 31 = .ok (.aload_n 2, 1) := dTo1_70.2.1.2.2.2.2.2.2.2.2.2.1
theorem dX7_digits_32 : decode cX7_digits 32 = .ok (.invokestatic 191, 3) := dTo1_70.2.2.1.1
theorem dX7_digits_35 : decode cX7_digits 35 = .ok (.bipush 30, 2) := dTo1_70.2.2.1.2.1
theorem dX7_digits_37 : decode cX7_digits 37 = .ok (.isub, 1) := dTo1_70.2.2.1.2.2.1
theorem dX7_digits_38 : decode cX7_digits 38 = .ok (.invokestatic 181, 3) := dTo1_70.2.2.1.2.2.2.1
theorem dX7_digits_41 : decode cX7_digits 41 = .ok (.ireturn, 1) := dTo1_70.2.2.1.2.2.2.2.1
theorem dTo1_71 : dQ cX7_digitsOf [[(0, .aload_n 0, 1), (1, .getfield 31, 3), (4, .iload_n 1, 1), (5, .iaload, 1), (6, .invokestatic 68, 3), (9, .istore_n 2, 1), (10, .aload_n 0, 1), (11, .getfield 34, 3), (14, .iload_n 1, 1), (15, .baload, 1)], [(16, .ifCond .ne 12, 3), (19, .aload_n 0, 1), (20, .getfield 31, 3), (23, .iload_n 1, 1), (24, .iaload, 1), (25, .ifCond .ge 7, 3), (28, .iconst 1, 1), (29, .goto 4, 3), (32, .iconst 0, 1), (33, .istore_n 3, 1)], [(34, .aload_n 0, 1), (35, .getfield 28, 3), (38, .iload_n 1, 1), (39, .iaload, 1), (40, .iconst 1, 1), (41, .if_icmp .ne 9, 3), (44, .ldc2_w 195, 3), (47, .goto 4, 3), (50, .lconst 0, 1), (51, .lstore 4, 2)], [(53, .iload_n 2, 1), (54, .ifCond .le 45, 3), (57, .iconst 0, 1), (58, .istore 6, 2), (60, .iload_n 2, 1), (61, .iload 6, 2), (63, .ishr, 1), (64, .iconst 1, 1), (65, .if_icmp .le 9, 3), (68, .iinc 6 1, 3)], [(71, .goto (-11), 3), (74, .ldc2_w 197, 3), (77, .iload 6, 2), (79, .i2l, 1), (80, .ladd, 1), (81, .bipush 52, 2), (83, .lshl, 1), (84, .iload_n 2, 1), (85, .i2l, 1), (86, .bipush 52, 2)], [(88, .iload 6, 2), (90, .isub, 1), (91, .lshl, 1), (92, .ladd, 1), (93, .ldc2_w 199, 3), (96, .lsub, 1), (97, .lstore 4, 2), (99, .iload_n 3, 1), (100, .ifCond .eq 12, 3), (103, .lload 4, 2)]] := dQ_of _ _ (by decide +kernel)
theorem dX7_digitsOf_0 : decode cX7_digitsOf 0 = .ok (.aload_n 0, 1) := dTo1_71.1.1
theorem dX7_digitsOf_1 : decode cX7_digitsOf 1 = .ok (.getfield 31, 3) := dTo1_71.1.2.1
theorem dX7_digitsOf_4 : decode cX7_digitsOf 4 = .ok (.iload_n 1, 1) := dTo1_71.1.2.2.1
theorem dX7_digitsOf_5 : decode cX7_digitsOf 5 = .ok (.iaload, 1) := dTo1_71.1.2.2.2.1
theorem dX7_digitsOf_6 : decode cX7_digitsOf 6 = .ok (.invokestatic 68, 3) := dTo1_71.1.2.2.2.2.1
theorem dX7_digitsOf_9 : decode cX7_digitsOf 9 = .ok (.istore_n 2, 1) := dTo1_71.1.2.2.2.2.2.1
theorem dX7_digitsOf_10 : decode cX7_digitsOf 10 = .ok (.aload_n 0, 1) := dTo1_71.1.2.2.2.2.2.2.1
theorem dX7_digitsOf_11 : decode cX7_digitsOf 11 = .ok (.getfield 34, 3) := dTo1_71.1.2.2.2.2.2.2.2.1
theorem dX7_digitsOf_14 : decode cX7_digitsOf 14 = .ok (.iload_n 1, 1) := dTo1_71.1.2.2.2.2.2.2.2.2.1
theorem dX7_digitsOf_15 : decode cX7_digitsOf 15 = .ok (.baload, 1) := dTo1_71.1.2.2.2.2.2.2.2.2.2.1
theorem dX7_digitsOf_16 : decode cX7_digitsOf 16 = .ok (.ifCond .ne 12, 3) := dTo1_71.2.1.1
theorem dX7_digitsOf_19 : decode cX7_digitsOf 19 = .ok (.aload_n 0, 1) := dTo1_71.2.1.2.1
theorem dX7_digitsOf_20 : decode cX7_digitsOf 20 = .ok (.getfield 31, 3) := dTo1_71.2.1.2.2.1
theorem dX7_digitsOf_23 : decode cX7_digitsOf 23 = .ok (.iload_n 1, 1) := dTo1_71.2.1.2.2.2.1
theorem dX7_digitsOf_24 : decode cX7_digitsOf 24 = .ok (.iaload, 1) := dTo1_71.2.1.2.2.2.2.1
theorem dX7_digitsOf_25 : decode cX7_digitsOf 25 = .ok (.ifCond .ge 7, 3) := dTo1_71.2.1.2.2.2.2.2.1
theorem dX7_digitsOf_28 : decode cX7_digitsOf 28 = .ok (.iconst 1, 1) := dTo1_71.2.1.2.2.2.2.2.2.1
theorem dX7_digitsOf_29 : decode cX7_digitsOf 29 = .ok (.goto 4, 3) := dTo1_71.2.1.2.2.2.2.2.2.2.1
theorem dX7_digitsOf_32 : decode cX7_digitsOf 32 = .ok (.iconst 0, 1) := dTo1_71.2.1.2.2.2.2.2.2.2.2.1
theorem dX7_digitsOf_33 : decode cX7_digitsOf 33 = .ok (.istore_n 3, 1) := dTo1_71.2.1.2.2.2.2.2.2.2.2.2.1
theorem dX7_digitsOf_34 : decode cX7_digitsOf 34 = .ok (.aload_n 0, 1) := dTo1_71.2.2.1.1
theorem dX7_digitsOf_35 : decode cX7_digitsOf 35 = .ok (.getfield 28, 3) := dTo1_71.2.2.1.2.1
theorem dX7_digitsOf_38 : decode cX7_digitsOf 38 = .ok (.iload_n 1, 1) := dTo1_71.2.2.1.2.2.1
theorem dX7_digitsOf_39 : decode cX7_digitsOf 39 = .ok (.iaload, 1) := dTo1_71.2.2.1.2.2.2.1
theorem dX7_digitsOf_40 : decode cX7_digitsOf 40 = .ok (.iconst 1, 1) := dTo1_71.2.2.1.2.2.2.2.1
theorem dX7_digitsOf_41 : decode cX7_digitsOf 41 = .ok (.if_icmp .ne 9, 3) := dTo1_71.2.2.1.2.2.2.2.2.1
theorem dX7_digitsOf_44 : decode cX7_digitsOf 44 = .ok (.ldc2_w 195, 3) := dTo1_71.2.2.1.2.2.2.2.2.2.1
theorem dX7_digitsOf_47 : decode cX7_digitsOf 47 = .ok (.goto 4, 3) := dTo1_71.2.2.1.2.2.2.2.2.2.2.1
theorem dX7_digitsOf_50 : decode cX7_digitsOf 50 = .ok (.lconst 0, 1) := dTo1_71.2.2.1.2.2.2.2.2.2.2.2.1
theorem dX7_digitsOf_51 : decode cX7_digitsOf 51 = .ok (.lstore 4, 2) := dTo1_71.2.2.1.2.2.2.2.2.2.2.2.2.1
theorem dX7_digitsOf_53 : decode cX7_digitsOf 53 = .ok (.iload_n 2, 1) := dTo1_71.2.2.2.1.1
theorem dX7_digitsOf_54 : decode cX7_digitsOf 54 = .ok (.ifCond .le 45, 3) := dTo1_71.2.2.2.1.2.1
theorem dX7_digitsOf_57 : decode cX7_digitsOf 57 = .ok (.iconst 0, 1) := dTo1_71.2.2.2.1.2.2.1
theorem dX7_digitsOf_58 : decode cX7_digitsOf 58 = .ok (.istore 6, 2) := dTo1_71.2.2.2.1.2.2.2.1
theorem dX7_digitsOf_60 : decode cX7_digitsOf 60 = .ok (.iload_n 2, 1) := dTo1_71.2.2.2.1.2.2.2.2.1
theorem dX7_digitsOf_61 : decode cX7_digitsOf 61 = .ok (.iload 6, 2) := dTo1_71.2.2.2.1.2.2.2.2.2.1
theorem dX7_digitsOf_63 : decode cX7_digitsOf 63 = .ok (.ishr, 1) := dTo1_71.2.2.2.1.2.2.2.2.2.2.1
theorem dX7_digitsOf_64 : decode cX7_digitsOf 64 = .ok (.iconst 1, 1) := dTo1_71.2.2.2.1.2.2.2.2.2.2.2.1
theorem dX7_digitsOf_65 : decode cX7_digitsOf 65 = .ok (.if_icmp .le 9, 3) := dTo1_71.2.2.2.1.2.2.2.2.2.2.2.2.1
theorem dX7_digitsOf_68 : decode cX7_digitsOf 68 = .ok (.iinc 6 1, 3) := dTo1_71.2.2.2.1.2.2.2.2.2.2.2.2.2.1
theorem dX7_digitsOf_71 : decode cX7_digitsOf 71 = .ok (.goto (-11), 3) := dTo1_71.2.2.2.2.1.1
theorem dX7_digitsOf_74 : decode cX7_digitsOf 74 = .ok (.ldc2_w 197, 3) := dTo1_71.2.2.2.2.1.2.1
theorem dX7_digitsOf_77 : decode cX7_digitsOf 77 = .ok (.iload 6, 2) := dTo1_71.2.2.2.2.1.2.2.1
theorem dX7_digitsOf_79 : decode cX7_digitsOf 79 = .ok (.i2l, 1) := dTo1_71.2.2.2.2.1.2.2.2.1
theorem dX7_digitsOf_80 : decode cX7_digitsOf 80 = .ok (.ladd, 1) := dTo1_71.2.2.2.2.1.2.2.2.2.1
theorem dX7_digitsOf_81 : decode cX7_digitsOf 81 = .ok (.bipush 52, 2) := dTo1_71.2.2.2.2.1.2.2.2.2.2.1
theorem dX7_digitsOf_83 : decode cX7_digitsOf 83 = .ok (.lshl, 1) := dTo1_71.2.2.2.2.1.2.2.2.2.2.2.1
theorem dX7_digitsOf_84 : decode cX7_digitsOf 84 = .ok (.iload_n 2, 1) := dTo1_71.2.2.2.2.1.2.2.2.2.2.2.2.1
theorem dX7_digitsOf_85 : decode cX7_digitsOf 85 = .ok (.i2l, 1) := dTo1_71.2.2.2.2.1.2.2.2.2.2.2.2.2.1
theorem dX7_digitsOf_86 : decode cX7_digitsOf 86 = .ok (.bipush 52, 2) := dTo1_71.2.2.2.2.1.2.2.2.2.2.2.2.2.2.1
theorem dX7_digitsOf_88 : decode cX7_digitsOf 88 = .ok (.iload 6, 2) := dTo1_71.2.2.2.2.2.1.1
theorem dX7_digitsOf_90 : decode cX7_digitsOf 90 = .ok (.isub, 1) := dTo1_71.2.2.2.2.2.1.2.1
theorem dX7_digitsOf_91 : decode cX7_digitsOf 91 = .ok (.lshl, 1) := dTo1_71.2.2.2.2.2.1.2.2.1
theorem dX7_digitsOf_92 : decode cX7_digitsOf 92 = .ok (.ladd, 1) := dTo1_71.2.2.2.2.2.1.2.2.2.1
theorem dX7_digitsOf_93 : decode cX7_digitsOf 93 = .ok (.ldc2_w 199, 3) := dTo1_71.2.2.2.2.2.1.2.2.2.2.1
theorem dX7_digitsOf_96 : decode cX7_digitsOf 96 = .ok (.lsub, 1) := dTo1_71.2.2.2.2.2.1.2.2.2.2.2.1
theorem dX7_digitsOf_97 : decode cX7_digitsOf 97 = .ok (.lstore 4, 2) := dTo1_71.2.2.2.2.2.1.2.2.2.2.2.2.1
theorem dX7_digitsOf_99 : decode cX7_digitsOf 99 = .ok (.iload_n 3, 1) := dTo1_71.2.2.2.2.2.1.2.2.2.2.2.2.2.1
theorem dX7_digitsOf_100 : decode cX7_digitsOf 100 = .ok (.ifCond .eq 12, 3) := dTo1_71.2.2.2.2.2.1.2.2.2.2.2.2.2.2.1
theorem dX7_digitsOf_103 : decode cX7_digitsOf 103 = .ok (.lload 4, 2) := dTo1_71.2.2.2.2.2.1.2.2.2.2.2.2.2.2.2.1
theorem dTo1_72 : dQ cX7_digitsOf [[(105, .ldc2_w 201, 3), (108, .ladd, 1), (109, .goto 5, 3), (112, .lload 4, 2), (114, .lreturn, 1)]] := dQ_of _ _ (by decide +kernel)
theorem dX7_digitsOf_105 : decode cX7_digitsOf 105 = .ok (.ldc2_w 201, 3) := dTo1_72.1.1
theorem dX7_digitsOf_108 : decode cX7_digitsOf 108 = .ok (.ladd, 1) := dTo1_72.1.2.1
theorem dX7_digitsOf_109 : decode cX7_digitsOf 109 = .ok (.goto 5, 3) := dTo1_72.1.2.2.1
theorem dX7_digitsOf_112 : decode cX7_digitsOf 112 = .ok (.lload 4, 2) := dTo1_72.1.2.2.2.1
theorem dX7_digitsOf_114 : decode cX7_digitsOf 114 = .ok (.lreturn, 1) := dTo1_72.1.2.2.2.2.1
theorem dTo1_73 : dQ cX7_isUnkept [[(0, .aload_n 0, 1), (1, .iload_n 1, 1), (2, .invokestatic 123, 3), (5, .aload_n 0, 1), (6, .getfield 28, 3), (9, .iload_n 1, 1), (10, .invokestatic 123, 3), (13, .ifCond .eq 7, 3), (16, .iconst 0, 1), (17, .goto 4, 3)], [(20, .iload_n 1, 1), (21, .iaload, 1), (22, .iconst 1, 1), (23, .if_icmp .le 7, 3), (26, .iconst 1, 1), (27, .goto 4, 3), (30, .iconst 0, 1), (31, .invokevirtual 126, 3), (34, .ireturn, 1)]] := dQ_of _ _ (by decide +kernel)
theorem dX7_isUnkept_0 : decode cX7_isUnkept 0 = .ok (.aload_n 0, 1) := dTo1_73.1.1
theorem dX7_isUnkept_1 : decode cX7_isUnkept 1 = .ok (.iload_n 1, 1) := dTo1_73.1.2.1
theorem dX7_isUnkept_2 : decode cX7_isUnkept 2 = .ok (.invokestatic 123, 3) := dTo1_73.1.2.2.1
theorem dX7_isUnkept_5 : decode cX7_isUnkept 5 = .ok (.aload_n 0, 1) := dTo1_73.1.2.2.2.1
theorem dX7_isUnkept_6 : decode cX7_isUnkept 6 = .ok (.getfield 28, 3) := dTo1_73.1.2.2.2.2.1
theorem dX7_isUnkept_9 : decode cX7_isUnkept 9 = .ok (.iload_n 1, 1) := dTo1_73.1.2.2.2.2.2.1
theorem dX7_isUnkept_10 : decode cX7_isUnkept 10 = .ok (.invokestatic 123, 3) := dTo1_73.1.2.2.2.2.2.2.1
theorem dX7_isUnkept_13 : decode cX7_isUnkept 13 = .ok (.ifCond .eq 7, 3) := dTo1_73.1.2.2.2.2.2.2.2.1
theorem dX7_isUnkept_16 : decode cX7_isUnkept 16 = .ok (.iconst 0, 1) := dTo1_73.1.2.2.2.2.2.2.2.2.1
theorem dX7_isUnkept_17 : decode cX7_isUnkept 17 = .ok (.goto 4, 3) := dTo1_73.1.2.2.2.2.2.2.2.2.2.1
theorem dX7_isUnkept_20 : decode cX7_isUnkept 20 = .ok (.iload_n 1, 1) := dTo1_73.2.1.1
theorem dX7_isUnkept_21 : decode cX7_isUnkept 21 = .ok (.iaload, 1) := dTo1_73.2.1.2.1
theorem dX7_isUnkept_22 : decode cX7_isUnkept 22 = .ok (.iconst 1, 1) := dTo1_73.2.1.2.2.1
theorem dX7_isUnkept_23 : decode cX7_isUnkept 23 = .ok (.if_icmp .le 7, 3) := dTo1_73.2.1.2.2.2.1
theorem dX7_isUnkept_26 : decode cX7_isUnkept 26 = .ok (.iconst 1, 1) := dTo1_73.2.1.2.2.2.2.1
theorem dX7_isUnkept_27 : decode cX7_isUnkept 27 = .ok (.goto 4, 3) := dTo1_73.2.1.2.2.2.2.2.1
theorem dX7_isUnkept_30 : decode cX7_isUnkept 30 = .ok (.iconst 0, 1) := dTo1_73.2.1.2.2.2.2.2.2.1
theorem dX7_isUnkept_31 : decode cX7_isUnkept 31 = .ok (.invokevirtual 126, 3) := dTo1_73.2.1.2.2.2.2.2.2.2.1
theorem dX7_isUnkept_34 : decode cX7_isUnkept 34 = .ok (.ireturn, 1) := dTo1_73.2.1.2.2.2.2.2.2.2.2.1
theorem dTo1_74 : dQ cX7_upper [[(0, .aload_n 0, 1), (1, .iload_n 1, 1), (2, .invokevirtual 203, 3), (5, .ifCond .eq 7, 3), (8, .iconst 0, 1), (9, .goto 12, 3), (12, .aload_n 0, 1), (13, .iload_n 1, 1), (14, .invokevirtual 206, 3), (17, .bipush 32, 2)], [(19, .lshr, 1), (20, .l2i, 1), (21, .ireturn, 1)]] := dQ_of _ _ (by decide +kernel)
theorem dX7_upper_0 : decode cX7_upper 0 = .ok (.aload_n 0, 1) := dTo1_74.1.1
theorem dX7_upper_1 : decode cX7_upper 1 = .ok (.iload_n 1, 1) := dTo1_74.1.2.1
theorem dX7_upper_2 : decode cX7_upper 2 = .ok (.invokevirtual 203, 3) := dTo1_74.1.2.2.1
theorem dX7_upper_5 : decode cX7_upper 5 = .ok (.ifCond .eq 7, 3) := dTo1_74.1.2.2.2.1
theorem dX7_upper_8 : decode cX7_upper 8 = .ok (.iconst 0, 1) := dTo1_74.1.2.2.2.2.1
theorem dX7_upper_9 : decode cX7_upper 9 = .ok (.goto 12, 3) := dTo1_74.1.2.2.2.2.2.1
theorem dX7_upper_12 : decode cX7_upper 12 = .ok (.aload_n 0, 1) := dTo1_74.1.2.2.2.2.2.2.1
theorem dX7_upper_13 : decode cX7_upper 13 = .ok (.iload_n 1, 1) := dTo1_74.1.2.2.2.2.2.2.2.1
theorem dX7_upper_14 : decode cX7_upper 14 = .ok (.invokevirtual 206, 3) := dTo1_74.1.2.2.2.2.2.2.2.2.1
theorem dX7_upper_17 : decode cX7_upper 17 = .ok (.bipush 32, 2) := dTo1_74.1.2.2.2.2.2.2.2.2.2.1
theorem dX7_upper_19 : decode cX7_upper 19 = .ok (.lshr, 1) := dTo1_74.2.1.1
theorem dX7_upper_20 : decode cX7_upper 20 = .ok (.l2i, 1) := dTo1_74.2.1.2.1
theorem dX7_upper_21 : decode cX7_upper 21 = .ok (.ireturn, 1) := dTo1_74.2.1.2.2.1
theorem dTo1_75 : dQ cX7_lower [[(0, .aload_n 0, 1), (1, .iload_n 1, 1), (2, .invokevirtual 203, 3), (5, .ifCond .eq 7, 3), (8, .iconst 0, 1), (9, .goto 9, 3), (12, .aload_n 0, 1), (13, .iload_n 1, 1), (14, .invokevirtual 206, 3), (17, .l2i, 1)], [(18, .ireturn, 1)]] := dQ_of _ _ (by decide +kernel)
theorem dX7_lower_0 : decode cX7_lower 0 = .ok (.aload_n 0, 1) := dTo1_75.1.1
theorem dX7_lower_1 : decode cX7_lower 1 = .ok (.iload_n 1, 1) := dTo1_75.1.2.1
theorem dX7_lower_2 : decode cX7_lower 2 = .ok (.invokevirtual 203, 3) := dTo1_75.1.2.2.1
theorem dX7_lower_5 : decode cX7_lower 5 = .ok (.ifCond .eq 7, 3) := dTo1_75.1.2.2.2.1
theorem dX7_lower_8 : decode cX7_lower 8 = .ok (.iconst 0, 1) := dTo1_75.1.2.2.2.2.1
theorem dX7_lower_9 : decode cX7_lower 9 = .ok (.goto 9, 3) := dTo1_75.1.2.2.2.2.2.1
theorem dX7_lower_12 : decode cX7_lower 12 = .ok (.aload_n 0, 1) := dTo1_75.1.2.2.2.2.2.2.1
theorem dX7_lower_13 : decode cX7_lower 13 = .ok (.iload_n 1, 1) := dTo1_75.1.2.2.2.2.2.2.2.1
theorem dX7_lower_14 : decode cX7_lower 14 = .ok (.invokevirtual 206, 3) := dTo1_75.1.2.2.2.2.2.2.2.2.1
theorem dX7_lower_17 : decode cX7_lower 17 = .ok (.l2i, 1) := dTo1_75.1.2.2.2.2.2.2.2.2.2.1
theorem dX7_lower_18 : decode cX7_lower 18 = .ok (.ireturn, 1) := dTo1_75.2.1.1
theorem dTo1_76 : dQ cX7_text [[(0, .aload_n 0, 1), (1, .iload_n 1, 1), (2, .invokestatic 123, 3), (5, .iconst 0, 1), (6, .invokevirtual 126, 3), (9, .ifCond .eq 6, 3), (12, .ldc 210, 2), (14, .areturn, 1), (15, .aload_n 0, 1), (16, .getfield 34, 3)], [(19, .iload_n 1, 1), (20, .baload, 1), (21, .ifCond .eq 8, 3), (24, .ldc 212, 2), (26, .goto 5, 3), (29, .ldc 210, 2), (31, .astore_n 2, 1), (32, .aload_n 0, 1), (33, .getfield 28, 3), (36, .iload_n 1, 1)], [(37, .iaload, 1), (38, .iconst 1, 1), (39, .if_icmp .ne 23, 3), (42, .new 214, 3), (45, .dup, 1), (46, .invokespecial 216, 3), (49, .aload_n 2, 1), (50, .invokevirtual 217, 3), (53, .ldc 221, 2), (55, .invokevirtual 217, 3)], [(58, .invokevirtual 223, 3), (61, .areturn, 1), (62, .aload_n 0, 1), (63, .iload_n 1, 1), (64, .invokevirtual 109, 3), (67, .ifCond .eq 25, 3), (70, .new 214, 3), (73, .dup, 1), (74, .invokespecial 216, 3), (77, .aload_n 2, 1)], [(78, .invokevirtual 217, 3), (81, .ldc 227, 2), (83, .invokevirtual 217, 3), (86, .invokevirtual 223, 3), (89, .goto 35, 3), (92, .new 214, 3), (95, .dup, 1), (96, .invokespecial 216, 3), (99, .getstatic 229, 3), (102, .aload_n 0, 1)], [(103, .getfield 28, 3), (106, .iload_n 1, 1), (107, .iaload, 1), (108, .aaload, 1), (109, .invokevirtual 217, 3), (112, .aload_n 0, 1), (113, .getfield 31, 3), (116, .iload_n 1, 1), (117, .iaload, 1), (118, .invokevirtual 233, 3)]] := dQ_of _ _ (by decide +kernel)
theorem dX7_text_0 : decode cX7_text 0 = .ok (.aload_n 0, 1) := dTo1_76.1.1
theorem dX7_text_1 : decode cX7_text 1 = .ok (.iload_n 1, 1) := dTo1_76.1.2.1
theorem dX7_text_2 : decode cX7_text 2 = .ok (.invokestatic 123, 3) := dTo1_76.1.2.2.1
theorem dX7_text_5 : decode cX7_text 5 = .ok (.iconst 0, 1) := dTo1_76.1.2.2.2.1
theorem dX7_text_6 : decode cX7_text 6 = .ok (.invokevirtual 126, 3) := dTo1_76.1.2.2.2.2.1
theorem dX7_text_9 : decode cX7_text 9 = .ok (.ifCond .eq 6, 3) := dTo1_76.1.2.2.2.2.2.1
theorem dX7_text_12 : decode cX7_text 12 = .ok (.ldc 210, 2) := dTo1_76.1.2.2.2.2.2.2.1
theorem dX7_text_14 : decode cX7_text 14 = .ok (.areturn, 1) := dTo1_76.1.2.2.2.2.2.2.2.1
theorem dX7_text_15 : decode cX7_text 15 = .ok (.aload_n 0, 1) := dTo1_76.1.2.2.2.2.2.2.2.2.1
theorem dX7_text_16 : decode cX7_text 16 = .ok (.getfield 34, 3) := dTo1_76.1.2.2.2.2.2.2.2.2.2.1
theorem dX7_text_19 : decode cX7_text 19 = .ok (.iload_n 1, 1) := dTo1_76.2.1.1
theorem dX7_text_20 : decode cX7_text 20 = .ok (.baload, 1) := dTo1_76.2.1.2.1
theorem dX7_text_21 : decode cX7_text 21 = .ok (.ifCond .eq 8, 3) := dTo1_76.2.1.2.2.1
theorem dX7_text_24 : decode cX7_text 24 = .ok (.ldc 212, 2) := dTo1_76.2.1.2.2.2.1
theorem dX7_text_26 : decode cX7_text 26 = .ok (.goto 5, 3) := dTo1_76.2.1.2.2.2.2.1
theorem dX7_text_29 : decode cX7_text 29 = .ok (.ldc 210, 2) := dTo1_76.2.1.2.2.2.2.2.1
theorem dX7_text_31 : decode cX7_text 31 = .ok (.astore_n 2, 1) := dTo1_76.2.1.2.2.2.2.2.2.1
theorem dX7_text_32 : decode cX7_text 32 = .ok (.aload_n 0, 1) := dTo1_76.2.1.2.2.2.2.2.2.2.1
theorem dX7_text_33 : decode cX7_text 33 = .ok (.getfield 28, 3) := dTo1_76.2.1.2.2.2.2.2.2.2.2.1
theorem dX7_text_36 : decode cX7_text 36 = .ok (.iload_n 1, 1) := dTo1_76.2.1.2.2.2.2.2.2.2.2.2.1
theorem dX7_text_37 : decode cX7_text 37 = .ok (.iaload, 1) := dTo1_76.2.2.1.1
theorem dX7_text_38 : decode cX7_text 38 = .ok (.iconst 1, 1) := dTo1_76.2.2.1.2.1
theorem dX7_text_39 : decode cX7_text 39 = .ok (.if_icmp .ne 23, 3) := dTo1_76.2.2.1.2.2.1
theorem dX7_text_42 : decode cX7_text 42 = .ok (.new 214, 3) := dTo1_76.2.2.1.2.2.2.1
theorem dX7_text_45 : decode cX7_text 45 = .ok (.dup, 1) := dTo1_76.2.2.1.2.2.2.2.1
theorem dX7_text_46 : decode cX7_text 46 = .ok (.invokespecial 216, 3) := dTo1_76.2.2.1.2.2.2.2.2.1
theorem dX7_text_49 : decode cX7_text 49 = .ok (.aload_n 2, 1) := dTo1_76.2.2.1.2.2.2.2.2.2.1
theorem dX7_text_50 : decode cX7_text 50 = .ok (.invokevirtual 217, 3) := dTo1_76.2.2.1.2.2.2.2.2.2.2.1
theorem dX7_text_53 : decode cX7_text 53 = .ok (.ldc 221, 2) := dTo1_76.2.2.1.2.2.2.2.2.2.2.2.1
theorem dX7_text_55 : decode cX7_text 55 = .ok (.invokevirtual 217, 3) := dTo1_76.2.2.1.2.2.2.2.2.2.2.2.2.1
theorem dX7_text_58 : decode cX7_text 58 = .ok (.invokevirtual 223, 3) := dTo1_76.2.2.2.1.1
theorem dX7_text_61 : decode cX7_text 61 = .ok (.areturn, 1) := dTo1_76.2.2.2.1.2.1
theorem dX7_text_62 : decode cX7_text 62 = .ok (.aload_n 0, 1) := dTo1_76.2.2.2.1.2.2.1
theorem dX7_text_63 : decode cX7_text 63 = .ok (.iload_n 1, 1) := dTo1_76.2.2.2.1.2.2.2.1
theorem dX7_text_64 : decode cX7_text 64 = .ok (.invokevirtual 109, 3) := dTo1_76.2.2.2.1.2.2.2.2.1
theorem dX7_text_67 : decode cX7_text 67 = .ok (.ifCond .eq 25, 3) := dTo1_76.2.2.2.1.2.2.2.2.2.1
theorem dX7_text_70 : decode cX7_text 70 = .ok (.new 214, 3) := dTo1_76.2.2.2.1.2.2.2.2.2.2.1
theorem dX7_text_73 : decode cX7_text 73 = .ok (.dup, 1) := dTo1_76.2.2.2.1.2.2.2.2.2.2.2.1
theorem dX7_text_74 : decode cX7_text 74 = .ok (.invokespecial 216, 3) := dTo1_76.2.2.2.1.2.2.2.2.2.2.2.2.1
theorem dX7_text_77 : decode cX7_text 77 = .ok (.aload_n 2, 1) := dTo1_76.2.2.2.1.2.2.2.2.2.2.2.2.2.1
theorem dX7_text_78 : decode cX7_text 78 = .ok (.invokevirtual 217, 3) := dTo1_76.2.2.2.2.1.1
theorem dX7_text_81 : decode cX7_text 81 = .ok (.ldc 227, 2) := dTo1_76.2.2.2.2.1.2.1
theorem dX7_text_83 : decode cX7_text 83 = .ok (.invokevirtual 217, 3) := dTo1_76.2.2.2.2.1.2.2.1
theorem dX7_text_86 : decode cX7_text 86 = .ok (.invokevirtual 223, 3) := dTo1_76.2.2.2.2.1.2.2.2.1
theorem dX7_text_89 : decode cX7_text 89 = .ok (.goto 35, 3) := dTo1_76.2.2.2.2.1.2.2.2.2.1
theorem dX7_text_92 : decode cX7_text 92 = .ok (.new 214, 3) := dTo1_76.2.2.2.2.1.2.2.2.2.2.1
theorem dX7_text_95 : decode cX7_text 95 = .ok (.dup, 1) := dTo1_76.2.2.2.2.1.2.2.2.2.2.2.1
theorem dX7_text_96 : decode cX7_text 96 = .ok (.invokespecial 216, 3) := dTo1_76.2.2.2.2.1.2.2.2.2.2.2.2.1
theorem dX7_text_99 : decode cX7_text 99 = .ok (.getstatic 229, 3) := dTo1_76.2.2.2.2.1.2.2.2.2.2.2.2.2.1
theorem dX7_text_102 : decode cX7_text 102 = .ok (.aload_n 0, 1) := dTo1_76.2.2.2.2.1.2.2.2.2.2.2.2.2.2.1
theorem dX7_text_103 : decode cX7_text 103 = .ok (.getfield 28, 3) := dTo1_76.2.2.2.2.2.1.1
theorem dX7_text_106 : decode cX7_text 106 = .ok (.iload_n 1, 1) := dTo1_76.2.2.2.2.2.1.2.1
theorem dX7_text_107 : decode cX7_text 107 = .ok (.iaload, 1) := dTo1_76.2.2.2.2.2.1.2.2.1
theorem dX7_text_108 : decode cX7_text 108 = .ok (.aaload, 1) := dTo1_76.2.2.2.2.2.1.2.2.2.1
theorem dX7_text_109 : decode cX7_text 109 = .ok (.invokevirtual 217, 3) := dTo1_76.2.2.2.2.2.1.2.2.2.2.1
theorem dX7_text_112 : decode cX7_text 112 = .ok (.aload_n 0, 1) := dTo1_76.2.2.2.2.2.1.2.2.2.2.2.1
theorem dX7_text_113 : decode cX7_text 113 = .ok (.getfield 31, 3) := dTo1_76.2.2.2.2.2.1.2.2.2.2.2.2.1
theorem dX7_text_116 : decode cX7_text 116 = .ok (.iload_n 1, 1) := dTo1_76.2.2.2.2.2.1.2.2.2.2.2.2.2.1
theorem dX7_text_117 : decode cX7_text 117 = .ok (.iaload, 1) := dTo1_76.2.2.2.2.2.1.2.2.2.2.2.2.2.2.1
theorem dX7_text_118 : decode cX7_text 118 = .ok (.invokevirtual 233, 3) := dTo1_76.2.2.2.2.2.1.2.2.2.2.2.2.2.2.2.1
theorem dTo1_77 : dQ cX7_text [[(121, .invokevirtual 223, 3), (124, .areturn, 1)]] := dQ_of _ _ (by decide +kernel)
theorem dX7_text_121 : decode cX7_text 121 = .ok (.invokevirtual 223, 3) := dTo1_77.1.1
theorem dX7_text_124 : decode cX7_text 124 = .ok (.areturn, 1) := dTo1_77.1.2.1
theorem dTo1_78 : dQ cX7_areNone [[(0, .aload_n 0, 1), (1, .iload_n 1, 1), (2, .invokestatic 123, 3), (5, .ifCond .ne 10, 3), (8, .iload_n 2, 1), (9, .invokestatic 123, 3), (12, .ifCond .eq 7, 3), (15, .iconst 1, 1), (16, .goto 4, 3), (19, .iconst 0, 1)], [(20, .iconst 0, 1), (21, .invokevirtual 126, 3), (24, .ireturn, 1)]] := dQ_of _ _ (by decide +kernel)
theorem dX7_areNone_0 : decode cX7_areNone 0 = .ok (.aload_n 0, 1) := dTo1_78.1.1
theorem dX7_areNone_1 : decode cX7_areNone 1 = .ok (.iload_n 1, 1) := dTo1_78.1.2.1
theorem dX7_areNone_2 : decode cX7_areNone 2 = .ok (.invokestatic 123, 3) := dTo1_78.1.2.2.1
theorem dX7_areNone_5 : decode cX7_areNone 5 = .ok (.ifCond .ne 10, 3) := dTo1_78.1.2.2.2.1
theorem dX7_areNone_8 : decode cX7_areNone 8 = .ok (.iload_n 2, 1) := dTo1_78.1.2.2.2.2.1
theorem dX7_areNone_9 : decode cX7_areNone 9 = .ok (.invokestatic 123, 3) := dTo1_78.1.2.2.2.2.2.1
theorem dX7_areNone_12 : decode cX7_areNone 12 = .ok (.ifCond .eq 7, 3) := dTo1_78.1.2.2.2.2.2.2.1
theorem dX7_areNone_15 : decode cX7_areNone 15 = .ok (.iconst 1, 1) := dTo1_78.1.2.2.2.2.2.2.2.1
theorem dX7_areNone_16 : decode cX7_areNone 16 = .ok (.goto 4, 3) := dTo1_78.1.2.2.2.2.2.2.2.2.1
theorem dX7_areNone_19 : decode cX7_areNone 19 = .ok (.iconst 0, 1) := dTo1_78.1.2.2.2.2.2.2.2.2.2.1
theorem dX7_areNone_20 : decode cX7_areNone 20 = .ok (.iconst 0, 1) := dTo1_78.2.1.1
theorem dX7_areNone_21 : decode cX7_areNone 21 = .ok (.invokevirtual 126, 3) := dTo1_78.2.1.2.1
theorem dX7_areNone_24 : decode cX7_areNone 24 = .ok (.ireturn, 1) := dTo1_78.2.1.2.2.1
theorem dTo1_79 : dQ cX7_order [[(0, .aload_n 0, 1), (1, .iload_n 1, 1), (2, .iload_n 2, 1), (3, .invokevirtual 236, 3), (6, .ifCond .eq 7, 3), (9, .iconst 0, 1), (10, .goto 22, 3), (13, .aload_n 0, 1), (14, .iload_n 1, 1), (15, .iload_n 2, 1)], [(16, .invokevirtual 240, 3), (19, .ifCond .eq 7, 3), (22, .iconst 2, 1), (23, .goto 9, 3), (26, .aload_n 0, 1), (27, .iload_n 1, 1), (28, .iload_n 2, 1), (29, .invokevirtual 168, 3), (32, .ireturn, 1)]] := dQ_of _ _ (by decide +kernel)
theorem dX7_order_0 : decode cX7_order 0 = .ok (.aload_n 0, 1) := dTo1_79.1.1
theorem dX7_order_1 : decode cX7_order 1 = .ok (.iload_n 1, 1) := dTo1_79.1.2.1
theorem dX7_order_2 : decode cX7_order 2 = .ok (.iload_n 2, 1) := dTo1_79.1.2.2.1
theorem dX7_order_3 : decode cX7_order 3 = .ok (.invokevirtual 236, 3) := dTo1_79.1.2.2.2.1
theorem dX7_order_6 : decode cX7_order 6 = .ok (.ifCond .eq 7, 3) := dTo1_79.1.2.2.2.2.1
theorem dX7_order_9 : decode cX7_order 9 = .ok (.iconst 0, 1) := dTo1_79.1.2.2.2.2.2.1
theorem dX7_order_10 : decode cX7_order 10 = .ok (.goto 22, 3) := dTo1_79.1.2.2.2.2.2.2.1
theorem dX7_order_13 : decode cX7_order 13 = .ok (.aload_n 0, 1) := dTo1_79.1.2.2.2.2.2.2.2.1
theorem dX7_order_14 : decode cX7_order 14 = .ok (.iload_n 1, 1) := dTo1_79.1.2.2.2.2.2.2.2.2.1
theorem dX7_order_15 : decode cX7_order 15 = .ok (.iload_n 2, 1) := dTo1_79.1.2.2.2.2.2.2.2.2.2.1
theorem dX7_order_16 : decode cX7_order 16 = .ok (.invokevirtual 240, 3) := dTo1_79.2.1.1
theorem dX7_order_19 : decode cX7_order 19 = .ok (.ifCond .eq 7, 3) := dTo1_79.2.1.2.1
theorem dX7_order_22 : decode cX7_order 22 = .ok (.iconst 2, 1) := dTo1_79.2.1.2.2.1
theorem dX7_order_23 : decode cX7_order 23 = .ok (.goto 9, 3) := dTo1_79.2.1.2.2.2.1
theorem dX7_order_26 : decode cX7_order 26 = .ok (.aload_n 0, 1) := dTo1_79.2.1.2.2.2.2.1
theorem dX7_order_27 : decode cX7_order 27 = .ok (.iload_n 1, 1) := dTo1_79.2.1.2.2.2.2.2.1
theorem dX7_order_28 : decode cX7_order 28 = .ok (.iload_n 2, 1) := dTo1_79.2.1.2.2.2.2.2.2.1
theorem dX7_order_29 : decode cX7_order 29 = .ok (.invokevirtual 168, 3) := dTo1_79.2.1.2.2.2.2.2.2.2.1
theorem dX7_order_32 : decode cX7_order 32 = .ok (.ireturn, 1) := dTo1_79.2.1.2.2.2.2.2.2.2.2.1
theorem dTo1_80 : dQ cX7_isAlike [[(0, .aload_n 0, 1), (1, .iload_n 1, 1), (2, .iload_n 2, 1), (3, .invokevirtual 236, 3), (6, .ifCond .ne 16, 3), (9, .aload_n 0, 1), (10, .iload_n 1, 1), (11, .iload_n 2, 1), (12, .invokevirtual 243, 3), (15, .ifCond .eq 7, 3)], [(18, .iconst 1, 1), (19, .goto 4, 3), (22, .iconst 0, 1), (23, .ireturn, 1)]] := dQ_of _ _ (by decide +kernel)
theorem dX7_isAlike_0 : decode cX7_isAlike 0 = .ok (.aload_n 0, 1) := dTo1_80.1.1
theorem dX7_isAlike_1 : decode cX7_isAlike 1 = .ok (.iload_n 1, 1) := dTo1_80.1.2.1
theorem dX7_isAlike_2 : decode cX7_isAlike 2 = .ok (.iload_n 2, 1) := dTo1_80.1.2.2.1
theorem dX7_isAlike_3 : decode cX7_isAlike 3 = .ok (.invokevirtual 236, 3) := dTo1_80.1.2.2.2.1
theorem dX7_isAlike_6 : decode cX7_isAlike 6 = .ok (.ifCond .ne 16, 3) := dTo1_80.1.2.2.2.2.1
theorem dX7_isAlike_9 : decode cX7_isAlike 9 = .ok (.aload_n 0, 1) := dTo1_80.1.2.2.2.2.2.1
theorem dX7_isAlike_10 : decode cX7_isAlike 10 = .ok (.iload_n 1, 1) := dTo1_80.1.2.2.2.2.2.2.1
theorem dX7_isAlike_11 : decode cX7_isAlike 11 = .ok (.iload_n 2, 1) := dTo1_80.1.2.2.2.2.2.2.2.1
theorem dX7_isAlike_12 : decode cX7_isAlike 12 = .ok (.invokevirtual 243, 3) := dTo1_80.1.2.2.2.2.2.2.2.2.1
theorem dX7_isAlike_15 : decode cX7_isAlike 15 = .ok (.ifCond .eq 7, 3) := dTo1_80.1.2.2.2.2.2.2.2.2.2.1
theorem dX7_isAlike_18 : decode cX7_isAlike 18 = .ok (.iconst 1, 1) := dTo1_80.2.1.1
theorem dX7_isAlike_19 : decode cX7_isAlike 19 = .ok (.goto 4, 3) := dTo1_80.2.1.2.1
theorem dX7_isAlike_22 : decode cX7_isAlike 22 = .ok (.iconst 0, 1) := dTo1_80.2.1.2.2.1
theorem dX7_isAlike_23 : decode cX7_isAlike 23 = .ok (.ireturn, 1) := dTo1_80.2.1.2.2.2.1
theorem dTo1_81 : dQ cX7_isNear [[(0, .aload_n 0, 1), (1, .iload_n 1, 1), (2, .iload_n 2, 1), (3, .invokevirtual 236, 3), (6, .ifCond .ne 16, 3), (9, .aload_n 0, 1), (10, .iload_n 1, 1), (11, .iload_n 2, 1), (12, .invokevirtual 240, 3), (15, .ifCond .eq 7, 3)], [(18, .iconst 1, 1), (19, .goto 4, 3), (22, .iconst 0, 1), (23, .ireturn, 1)]] := dQ_of _ _ (by decide +kernel)
theorem dX7_isNear_0 : decode cX7_isNear 0 = .ok (.aload_n 0, 1) := dTo1_81.1.1
theorem dX7_isNear_1 : decode cX7_isNear 1 = .ok (.iload_n 1, 1) := dTo1_81.1.2.1
theorem dX7_isNear_2 : decode cX7_isNear 2 = .ok (.iload_n 2, 1) := dTo1_81.1.2.2.1
theorem dX7_isNear_3 : decode cX7_isNear 3 = .ok (.invokevirtual 236, 3) := dTo1_81.1.2.2.2.1
theorem dX7_isNear_6 : decode cX7_isNear 6 = .ok (.ifCond .ne 16, 3) := dTo1_81.1.2.2.2.2.1
theorem dX7_isNear_9 : decode cX7_isNear 9 = .ok (.aload_n 0, 1) := dTo1_81.1.2.2.2.2.2.1
theorem dX7_isNear_10 : decode cX7_isNear 10 = .ok (.iload_n 1, 1) := dTo1_81.1.2.2.2.2.2.2.1
theorem dX7_isNear_11 : decode cX7_isNear 11 = .ok (.iload_n 2, 1) := dTo1_81.1.2.2.2.2.2.2.2.1
theorem dX7_isNear_12 : decode cX7_isNear 12 = .ok (.invokevirtual 240, 3) := dTo1_81.1.2.2.2.2.2.2.2.2.1
theorem dX7_isNear_15 : decode cX7_isNear 15 = .ok (.ifCond .eq 7, 3) := dTo1_81.1.2.2.2.2.2.2.2.2.2.1
theorem dX7_isNear_18 : decode cX7_isNear 18 = .ok (.iconst 1, 1) := dTo1_81.2.1.1
theorem dX7_isNear_19 : decode cX7_isNear 19 = .ok (.goto 4, 3) := dTo1_81.2.1.2.1
theorem dX7_isNear_22 : decode cX7_isNear 22 = .ok (.iconst 0, 1) := dTo1_81.2.1.2.2.1
theorem dX7_isNear_23 : decode cX7_isNear 23 = .ok (.ireturn, 1) := dTo1_81.2.1.2.2.2.1
theorem dTo1_82 : dQ cX7_most [[(0, .aload_n 0, 1), (1, .iload_n 1, 1), (2, .iload_n 2, 1), (3, .invokevirtual 236, 3), (6, .ifCond .eq 5, 3), (9, .iconst 0, 1), (10, .ireturn, 1), (11, .aload_n 0, 1), (12, .iload_n 1, 1), (13, .iload_n 2, 1)], [(14, .invokevirtual 240, 3), (17, .ifCond .ne 10, 3), (20, .aload_n 0, 1), (21, .iconst 2, 1), (22, .putfield 50, 3), (25, .iconst 0, 1), (26, .ireturn, 1), (27, .bipush 7, 2), (29, .newarray .int, 2), (31, .dup, 1)], [(32, .iconst 0, 1), (33, .iconst 2, 1), (34, .iastore, 1), (35, .dup, 1), (36, .iconst 1, 1), (37, .iconst 2, 1), (38, .iastore, 1), (39, .dup, 1), (40, .iconst 2, 1), (41, .iconst 5, 1)], [(42, .iastore, 1), (43, .dup, 1), (44, .iconst 3, 1), (45, .bipush 6, 2), (47, .iastore, 1), (48, .dup, 1), (49, .iconst 4, 1), (50, .bipush 10, 2), (52, .iastore, 1), (53, .dup, 1)], [(54, .iconst 5, 1), (55, .bipush 53, 2), (57, .iastore, 1), (58, .dup, 1), (59, .bipush 6, 2), (61, .bipush 124, 2), (63, .iastore, 1), (64, .astore_n 3, 1), (65, .aload_n 0, 1), (66, .getfield 31, 3)], [(69, .iload_n 1, 1), (70, .iaload, 1), (71, .istore 4, 2), (73, .iload 4, 2), (75, .bipush (-4), 2), (77, .if_icmp .le 7, 3), (80, .iconst 2, 1), (81, .goto 12, 3), (84, .aload_n 3, 1), (85, .iload 4, 2)]] := dQ_of _ _ (by decide +kernel)
theorem dX7_most_0 : decode cX7_most 0 = .ok (.aload_n 0, 1) := dTo1_82.1.1
theorem dX7_most_1 : decode cX7_most 1 = .ok (.iload_n 1, 1) := dTo1_82.1.2.1
theorem dX7_most_2 : decode cX7_most 2 = .ok (.iload_n 2, 1) := dTo1_82.1.2.2.1
theorem dX7_most_3 : decode cX7_most 3 = .ok (.invokevirtual 236, 3) := dTo1_82.1.2.2.2.1
theorem dX7_most_6 : decode cX7_most 6 = .ok (.ifCond .eq 5, 3) := dTo1_82.1.2.2.2.2.1
theorem dX7_most_9 : decode cX7_most 9 = .ok (.iconst 0, 1) := dTo1_82.1.2.2.2.2.2.1
theorem dX7_most_10 : decode cX7_most 10 = .ok (.ireturn, 1) := dTo1_82.1.2.2.2.2.2.2.1
theorem dX7_most_11 : decode cX7_most 11 = .ok (.aload_n 0, 1) := dTo1_82.1.2.2.2.2.2.2.2.1
theorem dX7_most_12 : decode cX7_most 12 = .ok (.iload_n 1, 1) := dTo1_82.1.2.2.2.2.2.2.2.2.1
theorem dX7_most_13 : decode cX7_most 13 = .ok (.iload_n 2, 1) := dTo1_82.1.2.2.2.2.2.2.2.2.2.1
theorem dX7_most_14 : decode cX7_most 14 = .ok (.invokevirtual 240, 3) := dTo1_82.2.1.1
theorem dX7_most_17 : decode cX7_most 17 = .ok (.ifCond .ne 10, 3) := dTo1_82.2.1.2.1
theorem dX7_most_20 : decode cX7_most 20 = .ok (.aload_n 0, 1) := dTo1_82.2.1.2.2.1
theorem dX7_most_21 : decode cX7_most 21 = .ok (.iconst 2, 1) := dTo1_82.2.1.2.2.2.1
theorem dX7_most_22 : decode cX7_most 22 = .ok (.putfield 50, 3) := dTo1_82.2.1.2.2.2.2.1
theorem dX7_most_25 : decode cX7_most 25 = .ok (.iconst 0, 1) := dTo1_82.2.1.2.2.2.2.2.1
theorem dX7_most_26 : decode cX7_most 26 = .ok (.ireturn, 1) := dTo1_82.2.1.2.2.2.2.2.2.1
theorem dX7_most_27 : decode cX7_most 27 = .ok (.bipush 7, 2) := dTo1_82.2.1.2.2.2.2.2.2.2.1
theorem dX7_most_29 : decode cX7_most 29 = .ok (.newarray .int, 2) := dTo1_82.2.1.2.2.2.2.2.2.2.2.1
theorem dX7_most_31 : decode cX7_most 31 = .ok (.dup, 1) := dTo1_82.2.1.2.2.2.2.2.2.2.2.2.1
theorem dX7_most_32 : decode cX7_most 32 = .ok (.iconst 0, 1) := dTo1_82.2.2.1.1
theorem dX7_most_33 : decode cX7_most 33 = .ok (.iconst 2, 1) := dTo1_82.2.2.1.2.1
theorem dX7_most_34 : decode cX7_most 34 = .ok (.iastore, 1) := dTo1_82.2.2.1.2.2.1
theorem dX7_most_35 : decode cX7_most 35 = .ok (.dup, 1) := dTo1_82.2.2.1.2.2.2.1
theorem dX7_most_36 : decode cX7_most 36 = .ok (.iconst 1, 1) := dTo1_82.2.2.1.2.2.2.2.1
theorem dX7_most_37 : decode cX7_most 37 = .ok (.iconst 2, 1) := dTo1_82.2.2.1.2.2.2.2.2.1
theorem dX7_most_38 : decode cX7_most 38 = .ok (.iastore, 1) := dTo1_82.2.2.1.2.2.2.2.2.2.1
theorem dX7_most_39 : decode cX7_most 39 = .ok (.dup, 1) := dTo1_82.2.2.1.2.2.2.2.2.2.2.1
theorem dX7_most_40 : decode cX7_most 40 = .ok (.iconst 2, 1) := dTo1_82.2.2.1.2.2.2.2.2.2.2.2.1
theorem dX7_most_41 : decode cX7_most 41 = .ok (.iconst 5, 1) := dTo1_82.2.2.1.2.2.2.2.2.2.2.2.2.1
theorem dX7_most_42 : decode cX7_most 42 = .ok (.iastore, 1) := dTo1_82.2.2.2.1.1
theorem dX7_most_43 : decode cX7_most 43 = .ok (.dup, 1) := dTo1_82.2.2.2.1.2.1
theorem dX7_most_44 : decode cX7_most 44 = .ok (.iconst 3, 1) := dTo1_82.2.2.2.1.2.2.1
theorem dX7_most_45 : decode cX7_most 45 = .ok (.bipush 6, 2) := dTo1_82.2.2.2.1.2.2.2.1
theorem dX7_most_47 : decode cX7_most 47 = .ok (.iastore, 1) := dTo1_82.2.2.2.1.2.2.2.2.1
theorem dX7_most_48 : decode cX7_most 48 = .ok (.dup, 1) := dTo1_82.2.2.2.1.2.2.2.2.2.1
theorem dX7_most_49 : decode cX7_most 49 = .ok (.iconst 4, 1) := dTo1_82.2.2.2.1.2.2.2.2.2.2.1
theorem dX7_most_50 : decode cX7_most 50 = .ok (.bipush 10, 2) := dTo1_82.2.2.2.1.2.2.2.2.2.2.2.1
theorem dX7_most_52 : decode cX7_most 52 = .ok (.iastore, 1) := dTo1_82.2.2.2.1.2.2.2.2.2.2.2.2.1
theorem dX7_most_53 : decode cX7_most 53 = .ok (.dup, 1) := dTo1_82.2.2.2.1.2.2.2.2.2.2.2.2.2.1
theorem dX7_most_54 : decode cX7_most 54 = .ok (.iconst 5, 1) := dTo1_82.2.2.2.2.1.1
theorem dX7_most_55 : decode cX7_most 55 = .ok (.bipush 53, 2) := dTo1_82.2.2.2.2.1.2.1
theorem dX7_most_57 : decode cX7_most 57 = .ok (.iastore, 1) := dTo1_82.2.2.2.2.1.2.2.1
theorem dX7_most_58 : decode cX7_most 58 = .ok (.dup, 1) := dTo1_82.2.2.2.2.1.2.2.2.1
theorem dX7_most_59 : decode cX7_most 59 = .ok (.bipush 6, 2) := dTo1_82.2.2.2.2.1.2.2.2.2.1
theorem dX7_most_61 : decode cX7_most 61 = .ok (.bipush 124, 2) := dTo1_82.2.2.2.2.1.2.2.2.2.2.1
theorem dX7_most_63 : decode cX7_most 63 = .ok (.iastore, 1) := dTo1_82.2.2.2.2.1.2.2.2.2.2.2.1
theorem dX7_most_64 : decode cX7_most 64 = .ok (.astore_n 3, 1) := dTo1_82.2.2.2.2.1.2.2.2.2.2.2.2.1
theorem dX7_most_65 : decode cX7_most 65 = .ok (.aload_n 0, 1) := dTo1_82.2.2.2.2.1.2.2.2.2.2.2.2.2.1
theorem dX7_most_66 : decode cX7_most 66 = .ok (.getfield 31, 3) := dTo1_82.2.2.2.2.1.2.2.2.2.2.2.2.2.2.1
theorem dX7_most_69 : decode cX7_most 69 = .ok (.iload_n 1, 1) := dTo1_82.2.2.2.2.2.1.1
theorem dX7_most_70 : decode cX7_most 70 = .ok (.iaload, 1) := dTo1_82.2.2.2.2.2.1.2.1
theorem dX7_most_71 : decode cX7_most 71 = .ok (.istore 4, 2) := dTo1_82.2.2.2.2.2.1.2.2.1
theorem dX7_most_73 : decode cX7_most 73 = .ok (.iload 4, 2) := dTo1_82.2.2.2.2.2.1.2.2.2.1
theorem dX7_most_75 : decode cX7_most 75 = .ok (.bipush (-4), 2) := dTo1_82.2.2.2.2.2.1.2.2.2.2.1
theorem dX7_most_77 : decode cX7_most 77 = .ok (.if_icmp .le 7, 3) := dTo1_82.2.2.2.2.2.1.2.2.2.2.2.1
theorem dX7_most_80 : decode cX7_most 80 = .ok (.iconst 2, 1) := dTo1_82.2.2.2.2.2.1.2.2.2.2.2.2.1
theorem dX7_most_81 : decode cX7_most 81 = .ok (.goto 12, 3) := dTo1_82.2.2.2.2.2.1.2.2.2.2.2.2.2.1
theorem dX7_most_84 : decode cX7_most 84 = .ok (.aload_n 3, 1) := dTo1_82.2.2.2.2.2.1.2.2.2.2.2.2.2.2.1
theorem dX7_most_85 : decode cX7_most 85 = .ok (.iload 4, 2) := dTo1_82.2.2.2.2.2.1.2.2.2.2.2.2.2.2.2.1
theorem dTo1_83 : dQ cX7_most [[(87, .ineg, 1), (88, .iconst 5, 1), (89, .isub, 1), (90, .iconst 4, 1), (91, .idiv, 1), (92, .iaload, 1), (93, .ireturn, 1)]] := dQ_of _ _ (by decide +kernel)
theorem dX7_most_87 : decode cX7_most 87 = .ok (.ineg, 1) := dTo1_83.1.1
theorem dX7_most_88 : decode cX7_most 88 = .ok (.iconst 5, 1) := dTo1_83.1.2.1
theorem dX7_most_89 : decode cX7_most 89 = .ok (.isub, 1) := dTo1_83.1.2.2.1
theorem dX7_most_90 : decode cX7_most 90 = .ok (.iconst 4, 1) := dTo1_83.1.2.2.2.1
theorem dX7_most_91 : decode cX7_most 91 = .ok (.idiv, 1) := dTo1_83.1.2.2.2.2.1
theorem dX7_most_92 : decode cX7_most 92 = .ok (.iaload, 1) := dTo1_83.1.2.2.2.2.2.1
theorem dX7_most_93 : decode cX7_most 93 = .ok (.ireturn, 1) := dTo1_83.1.2.2.2.2.2.2.1
theorem dTo1_84 : dQ cX7_isWithin [[(0, .aload_n 0, 1), (1, .iload_n 1, 1), (2, .iload_n 2, 1), (3, .invokevirtual 246, 3), (6, .ifCond .le 7, 3), (9, .iconst 1, 1), (10, .goto 4, 3), (13, .iconst 0, 1), (14, .ireturn, 1)]] := dQ_of _ _ (by decide +kernel)
theorem dX7_isWithin_0 : decode cX7_isWithin 0 = .ok (.aload_n 0, 1) := dTo1_84.1.1
theorem dX7_isWithin_1 : decode cX7_isWithin 1 = .ok (.iload_n 1, 1) := dTo1_84.1.2.1
theorem dX7_isWithin_2 : decode cX7_isWithin 2 = .ok (.iload_n 2, 1) := dTo1_84.1.2.2.1
theorem dX7_isWithin_3 : decode cX7_isWithin 3 = .ok (.invokevirtual 246, 3) := dTo1_84.1.2.2.2.1
theorem dX7_isWithin_6 : decode cX7_isWithin 6 = .ok (.ifCond .le 7, 3) := dTo1_84.1.2.2.2.2.1
theorem dX7_isWithin_9 : decode cX7_isWithin 9 = .ok (.iconst 1, 1) := dTo1_84.1.2.2.2.2.2.1
theorem dX7_isWithin_10 : decode cX7_isWithin 10 = .ok (.goto 4, 3) := dTo1_84.1.2.2.2.2.2.2.1
theorem dX7_isWithin_13 : decode cX7_isWithin 13 = .ok (.iconst 0, 1) := dTo1_84.1.2.2.2.2.2.2.2.1
theorem dX7_isWithin_14 : decode cX7_isWithin 14 = .ok (.ireturn, 1) := dTo1_84.1.2.2.2.2.2.2.2.2.1
theorem dTo1_85 : dQ cX7_find [[(0, .aload_n 0, 1), (1, .iload_n 1, 1), (2, .invokestatic 123, 3), (5, .iconst 0, 1), (6, .invokevirtual 126, 3), (9, .ifCond .eq 5, 3), (12, .iconst 0, 1), (13, .ireturn, 1), (14, .iload_n 1, 1), (15, .istore_n 3, 1)], [(16, .iconst 0, 1), (17, .istore 4, 2), (19, .iload 4, 2), (21, .bipush 8, 2), (23, .if_icmp .ge 41, 3), (26, .aload_n 0, 1), (27, .iload 4, 2), (29, .iload_n 1, 1), (30, .invokevirtual 243, 3), (33, .ifCond .eq 25, 3)], [(36, .iload_n 2, 1), (37, .ifCond .eq 12, 3), (40, .iload 4, 2), (42, .iload_n 3, 1), (43, .if_icmp .le 15, 3), (46, .goto 9, 3), (49, .iload 4, 2), (51, .iload_n 3, 1), (52, .if_icmp .ge 6, 3), (55, .iload 4, 2)], [(57, .istore_n 3, 1), (58, .iinc 4 1, 3), (61, .goto (-42), 3), (64, .iload_n 3, 1), (65, .ireturn, 1)]] := dQ_of _ _ (by decide +kernel)
theorem dX7_find_0 : decode cX7_find 0 = .ok (.aload_n 0, 1) := dTo1_85.1.1
theorem dX7_find_1 : decode cX7_find 1 = .ok (.iload_n 1, 1) := dTo1_85.1.2.1
theorem dX7_find_2 : decode cX7_find 2 = .ok (.invokestatic 123, 3) := dTo1_85.1.2.2.1
theorem dX7_find_5 : decode cX7_find 5 = .ok (.iconst 0, 1) := dTo1_85.1.2.2.2.1
theorem dX7_find_6 : decode cX7_find 6 = .ok (.invokevirtual 126, 3) := dTo1_85.1.2.2.2.2.1
theorem dX7_find_9 : decode cX7_find 9 = .ok (.ifCond .eq 5, 3) := dTo1_85.1.2.2.2.2.2.1
theorem dX7_find_12 : decode cX7_find 12 = .ok (.iconst 0, 1) := dTo1_85.1.2.2.2.2.2.2.1
theorem dX7_find_13 : decode cX7_find 13 = .ok (.ireturn, 1) := dTo1_85.1.2.2.2.2.2.2.2.1
theorem dX7_find_14 : decode cX7_find 14 = .ok (.iload_n 1, 1) := dTo1_85.1.2.2.2.2.2.2.2.2.1
theorem dX7_find_15 : decode cX7_find 15 = .ok (.istore_n 3, 1) := dTo1_85.1.2.2.2.2.2.2.2.2.2.1
theorem dX7_find_16 : decode cX7_find 16 = .ok (.iconst 0, 1) := dTo1_85.2.1.1
theorem dX7_find_17 : decode cX7_find 17 = .ok (.istore 4, 2) := dTo1_85.2.1.2.1
theorem dX7_find_19 : decode cX7_find 19 = .ok (.iload 4, 2) := dTo1_85.2.1.2.2.1
theorem dX7_find_21 : decode cX7_find 21 = .ok (.bipush 8, 2) := dTo1_85.2.1.2.2.2.1
theorem dX7_find_23 : decode cX7_find 23 = .ok (.if_icmp .ge 41, 3) := dTo1_85.2.1.2.2.2.2.1
theorem dX7_find_26 : decode cX7_find 26 = .ok (.aload_n 0, 1) := dTo1_85.2.1.2.2.2.2.2.1
theorem dX7_find_27 : decode cX7_find 27 = .ok (.iload 4, 2) := dTo1_85.2.1.2.2.2.2.2.2.1
theorem dX7_find_29 : decode cX7_find 29 = .ok (.iload_n 1, 1) := dTo1_85.2.1.2.2.2.2.2.2.2.1
theorem dX7_find_30 : decode cX7_find 30 = .ok (.invokevirtual 243, 3) := dTo1_85.2.1.2.2.2.2.2.2.2.2.1
theorem dX7_find_33 : decode cX7_find 33 = .ok (.ifCond .eq 25, 3) := dTo1_85.2.1.2.2.2.2.2.2.2.2.2.1
theorem dX7_find_36 : decode cX7_find 36 = .ok (.iload_n 2, 1) := dTo1_85.2.2.1.1
theorem dX7_find_37 : decode cX7_find 37 = .ok (.ifCond .eq 12, 3) := dTo1_85.2.2.1.2.1
theorem dX7_find_40 : decode cX7_find 40 = .ok (.iload 4, 2) := dTo1_85.2.2.1.2.2.1
theorem dX7_find_42 : decode cX7_find 42 = .ok (.iload_n 3, 1) := dTo1_85.2.2.1.2.2.2.1
theorem dX7_find_43 : decode cX7_find 43 = .ok (.if_icmp .le 15, 3) := dTo1_85.2.2.1.2.2.2.2.1
theorem dX7_find_46 : decode cX7_find 46 = .ok (.goto 9, 3) := dTo1_85.2.2.1.2.2.2.2.2.1
theorem dX7_find_49 : decode cX7_find 49 = .ok (.iload 4, 2) := dTo1_85.2.2.1.2.2.2.2.2.2.1
theorem dX7_find_51 : decode cX7_find 51 = .ok (.iload_n 3, 1) := dTo1_85.2.2.1.2.2.2.2.2.2.2.1
theorem dX7_find_52 : decode cX7_find 52 = .ok (.if_icmp .ge 6, 3) := dTo1_85.2.2.1.2.2.2.2.2.2.2.2.1
theorem dX7_find_55 : decode cX7_find 55 = .ok (.iload 4, 2) := dTo1_85.2.2.1.2.2.2.2.2.2.2.2.2.1
theorem dX7_find_57 : decode cX7_find 57 = .ok (.istore_n 3, 1) := dTo1_85.2.2.2.1.1
theorem dX7_find_58 : decode cX7_find 58 = .ok (.iinc 4 1, 3) := dTo1_85.2.2.2.1.2.1
theorem dX7_find_61 : decode cX7_find 61 = .ok (.goto (-42), 3) := dTo1_85.2.2.2.1.2.2.1
theorem dX7_find_64 : decode cX7_find 64 = .ok (.iload_n 3, 1) := dTo1_85.2.2.2.1.2.2.2.1
theorem dX7_find_65 : decode cX7_find 65 = .ok (.ireturn, 1) := dTo1_85.2.2.2.1.2.2.2.2.1
theorem dTo1_86 : dQ cX7_rank [[(0, .aload_n 0, 1), (1, .iload_n 1, 1), (2, .invokestatic 123, 3), (5, .iconst 0, 1), (6, .invokevirtual 126, 3), (9, .ifCond .eq 5, 3), (12, .iconst 0, 1), (13, .ireturn, 1), (14, .iconst 0, 1), (15, .istore_n 2, 1)], [(16, .iconst 0, 1), (17, .istore_n 3, 1), (18, .iload_n 3, 1), (19, .bipush 8, 2), (21, .if_icmp .ge 26, 3), (24, .iload_n 2, 1), (25, .aload_n 0, 1), (26, .iload_n 3, 1), (27, .iload_n 1, 1), (28, .invokevirtual 168, 3)], [(31, .ifCond .ge 7, 3), (34, .iconst 1, 1), (35, .goto 4, 3), (38, .iconst 0, 1), (39, .iadd, 1), (40, .istore_n 2, 1), (41, .iinc 3 1, 3), (44, .goto (-26), 3), (47, .iload_n 2, 1), (48, .ireturn, 1)]] := dQ_of _ _ (by decide +kernel)
theorem dX7_rank_0 : decode cX7_rank 0 = .ok (.aload_n 0, 1) := dTo1_86.1.1
theorem dX7_rank_1 : decode cX7_rank 1 = .ok (.iload_n 1, 1) := dTo1_86.1.2.1
theorem dX7_rank_2 : decode cX7_rank 2 = .ok (.invokestatic 123, 3) := dTo1_86.1.2.2.1
theorem dX7_rank_5 : decode cX7_rank 5 = .ok (.iconst 0, 1) := dTo1_86.1.2.2.2.1
theorem dX7_rank_6 : decode cX7_rank 6 = .ok (.invokevirtual 126, 3) := dTo1_86.1.2.2.2.2.1
theorem dX7_rank_9 : decode cX7_rank 9 = .ok (.ifCond .eq 5, 3) := dTo1_86.1.2.2.2.2.2.1
theorem dX7_rank_12 : decode cX7_rank 12 = .ok (.iconst 0, 1) := dTo1_86.1.2.2.2.2.2.2.1
theorem dX7_rank_13 : decode cX7_rank 13 = .ok (.ireturn, 1) := dTo1_86.1.2.2.2.2.2.2.2.1
theorem dX7_rank_14 : decode cX7_rank 14 = .ok (.iconst 0, 1) := dTo1_86.1.2.2.2.2.2.2.2.2.1
theorem dX7_rank_15 : decode cX7_rank 15 = .ok (.istore_n 2, 1) := dTo1_86.1.2.2.2.2.2.2.2.2.2.1
theorem dX7_rank_16 : decode cX7_rank 16 = .ok (.iconst 0, 1) := dTo1_86.2.1.1
theorem dX7_rank_17 : decode cX7_rank 17 = .ok (.istore_n 3, 1) := dTo1_86.2.1.2.1
theorem dX7_rank_18 : decode cX7_rank 18 = .ok (.iload_n 3, 1) := dTo1_86.2.1.2.2.1
theorem dX7_rank_19 : decode cX7_rank 19 = .ok (.bipush 8, 2) := dTo1_86.2.1.2.2.2.1
theorem dX7_rank_21 : decode cX7_rank 21 = .ok (.if_icmp .ge 26, 3) := dTo1_86.2.1.2.2.2.2.1
theorem dX7_rank_24 : decode cX7_rank 24 = .ok (.iload_n 2, 1) := dTo1_86.2.1.2.2.2.2.2.1
theorem dX7_rank_25 : decode cX7_rank 25 = .ok (.aload_n 0, 1) := dTo1_86.2.1.2.2.2.2.2.2.1
theorem dX7_rank_26 : decode cX7_rank 26 = .ok (.iload_n 3, 1) := dTo1_86.2.1.2.2.2.2.2.2.2.1
theorem dX7_rank_27 : decode cX7_rank 27 = .ok (.iload_n 1, 1) := dTo1_86.2.1.2.2.2.2.2.2.2.2.1
theorem dX7_rank_28 : decode cX7_rank 28 = .ok (.invokevirtual 168, 3) := dTo1_86.2.1.2.2.2.2.2.2.2.2.2.1
theorem dX7_rank_31 : decode cX7_rank 31 = .ok (.ifCond .ge 7, 3) := dTo1_86.2.2.1.1
theorem dX7_rank_34 : decode cX7_rank 34 = .ok (.iconst 1, 1) := dTo1_86.2.2.1.2.1
theorem dX7_rank_35 : decode cX7_rank 35 = .ok (.goto 4, 3) := dTo1_86.2.2.1.2.2.1
theorem dX7_rank_38 : decode cX7_rank 38 = .ok (.iconst 0, 1) := dTo1_86.2.2.1.2.2.2.1
theorem dX7_rank_39 : decode cX7_rank 39 = .ok (.iadd, 1) := dTo1_86.2.2.1.2.2.2.2.1
theorem dX7_rank_40 : decode cX7_rank 40 = .ok (.istore_n 2, 1) := dTo1_86.2.2.1.2.2.2.2.2.1
theorem dX7_rank_41 : decode cX7_rank 41 = .ok (.iinc 3 1, 3) := dTo1_86.2.2.1.2.2.2.2.2.2.1
theorem dX7_rank_44 : decode cX7_rank 44 = .ok (.goto (-26), 3) := dTo1_86.2.2.1.2.2.2.2.2.2.2.1
theorem dX7_rank_47 : decode cX7_rank 47 = .ok (.iload_n 2, 1) := dTo1_86.2.2.1.2.2.2.2.2.2.2.2.1
theorem dX7_rank_48 : decode cX7_rank 48 = .ok (.ireturn, 1) := dTo1_86.2.2.1.2.2.2.2.2.2.2.2.2.1
theorem dTo1_87 : dQ cX7_before [[(0, .aload_n 0, 1), (1, .iload_n 2, 1), (2, .invokestatic 123, 3), (5, .iload_n 1, 1), (6, .iconst 0, 1), (7, .iconst 3, 1), (8, .invokestatic 113, 3), (11, .ifCond .ne 7, 3), (14, .iconst 1, 1), (15, .goto 4, 3)], [(18, .iconst 0, 1), (19, .invokevirtual 126, 3), (22, .ifCond .eq 5, 3), (25, .iconst 0, 1), (26, .ireturn, 1), (27, .aload_n 0, 1), (28, .getfield 28, 3), (31, .iload_n 2, 1), (32, .iaload, 1), (33, .iconst 1, 1)], [(34, .if_icmp .ne 38, 3), (37, .aload_n 0, 1), (38, .getfield 34, 3), (41, .iload_n 2, 1), (42, .baload, 1), (43, .ifCond .eq 7, 3), (46, .iconst 0, 1), (47, .goto 24, 3), (50, .getstatic 151, 3), (53, .iload_n 1, 1)], [(54, .iaload, 1), (55, .getstatic 148, 3), (58, .iload_n 1, 1), (59, .iaload, 1), (60, .isub, 1), (61, .iload_n 1, 1), (62, .ifCond .ne 7, 3), (65, .iconst 2, 1), (66, .goto 4, 3), (69, .iconst 1, 1)], [(70, .iadd, 1), (71, .ireturn, 1), (72, .aload_n 0, 1), (73, .iload_n 1, 1), (74, .aload_n 0, 1), (75, .aload_n 0, 1), (76, .getfield 28, 3), (79, .iload_n 2, 1), (80, .iaload, 1), (81, .aload_n 0, 1)], [(82, .getfield 31, 3), (85, .iload_n 2, 1), (86, .iaload, 1), (87, .invokevirtual 88, 3), (90, .invokevirtual 249, 3), (93, .iload_n 1, 1), (94, .ifCond .ne 24, 3), (97, .aload_n 0, 1), (98, .iload_n 2, 1), (99, .invokevirtual 109, 3)]] := dQ_of _ _ (by decide +kernel)
theorem dX7_before_0 : decode cX7_before 0 = .ok (.aload_n 0, 1) := dTo1_87.1.1
theorem dX7_before_1 : decode cX7_before 1 = .ok (.iload_n 2, 1) := dTo1_87.1.2.1
theorem dX7_before_2 : decode cX7_before 2 = .ok (.invokestatic 123, 3) := dTo1_87.1.2.2.1
theorem dX7_before_5 : decode cX7_before 5 = .ok (.iload_n 1, 1) := dTo1_87.1.2.2.2.1
theorem dX7_before_6 : decode cX7_before 6 = .ok (.iconst 0, 1) := dTo1_87.1.2.2.2.2.1
theorem dX7_before_7 : decode cX7_before 7 = .ok (.iconst 3, 1) := dTo1_87.1.2.2.2.2.2.1
theorem dX7_before_8 : decode cX7_before 8 = .ok (.invokestatic 113, 3) := dTo1_87.1.2.2.2.2.2.2.1
theorem dX7_before_11 : decode cX7_before 11 = .ok (.ifCond .ne 7, 3) := dTo1_87.1.2.2.2.2.2.2.2.1
theorem dX7_before_14 : decode cX7_before 14 = .ok (.iconst 1, 1) := dTo1_87.1.2.2.2.2.2.2.2.2.1
theorem dX7_before_15 : decode cX7_before 15 = .ok (.goto 4, 3) := dTo1_87.1.2.2.2.2.2.2.2.2.2.1
theorem dX7_before_18 : decode cX7_before 18 = .ok (.iconst 0, 1) := dTo1_87.2.1.1
theorem dX7_before_19 : decode cX7_before 19 = .ok (.invokevirtual 126, 3) := dTo1_87.2.1.2.1
theorem dX7_before_22 : decode cX7_before 22 = .ok (.ifCond .eq 5, 3) := dTo1_87.2.1.2.2.1
theorem dX7_before_25 : decode cX7_before 25 = .ok (.iconst 0, 1) := dTo1_87.2.1.2.2.2.1
theorem dX7_before_26 : decode cX7_before 26 = .ok (.ireturn, 1) := dTo1_87.2.1.2.2.2.2.1
theorem dX7_before_27 : decode cX7_before 27 = .ok (.aload_n 0, 1) := dTo1_87.2.1.2.2.2.2.2.1
theorem dX7_before_28 : decode cX7_before 28 = .ok (.getfield 28, 3) := dTo1_87.2.1.2.2.2.2.2.2.1
theorem dX7_before_31 : decode cX7_before 31 = .ok (.iload_n 2, 1) := dTo1_87.2.1.2.2.2.2.2.2.2.1
theorem dX7_before_32 : decode cX7_before 32 = .ok (.iaload, 1) := dTo1_87.2.1.2.2.2.2.2.2.2.2.1
theorem dX7_before_33 : decode cX7_before 33 = .ok (.iconst 1, 1) := dTo1_87.2.1.2.2.2.2.2.2.2.2.2.1
theorem dX7_before_34 : decode cX7_before 34 = .ok (.if_icmp .ne 38, 3) := dTo1_87.2.2.1.1
theorem dX7_before_37 : decode cX7_before 37 = .ok (.aload_n 0, 1) := dTo1_87.2.2.1.2.1
theorem dX7_before_38 : decode cX7_before 38 = .ok (.getfield 34, 3) := dTo1_87.2.2.1.2.2.1
theorem dX7_before_41 : decode cX7_before 41 = .ok (.iload_n 2, 1) := dTo1_87.2.2.1.2.2.2.1
theorem dX7_before_42 : decode cX7_before 42 = .ok (.baload, 1) := dTo1_87.2.2.1.2.2.2.2.1
theorem dX7_before_43 : decode cX7_before 43 = .ok (.ifCond .eq 7, 3) := dTo1_87.2.2.1.2.2.2.2.2.1
theorem dX7_before_46 : decode cX7_before 46 = .ok (.iconst 0, 1) := dTo1_87.2.2.1.2.2.2.2.2.2.1
theorem dX7_before_47 : decode cX7_before 47 = .ok (.goto 24, 3) := dTo1_87.2.2.1.2.2.2.2.2.2.2.1
theorem dX7_before_50 : decode cX7_before 50 = .ok (.getstatic 151, 3) := dTo1_87.2.2.1.2.2.2.2.2.2.2.2.1
theorem dX7_before_53 : decode cX7_before 53 = .ok (.iload_n 1, 1) := dTo1_87.2.2.1.2.2.2.2.2.2.2.2.2.1
theorem dX7_before_54 : decode cX7_before 54 = .ok (.iaload, 1) := dTo1_87.2.2.2.1.1
theorem dX7_before_55 : decode cX7_before 55 = .ok (.getstatic 148, 3) := dTo1_87.2.2.2.1.2.1
theorem dX7_before_58 : decode cX7_before 58 = .ok (.iload_n 1, 1) := dTo1_87.2.2.2.1.2.2.1
theorem dX7_before_59 : decode cX7_before 59 = .ok (.iaload, 1) := dTo1_87.2.2.2.1.2.2.2.1
theorem dX7_before_60 : decode cX7_before 60 = .ok (.isub, 1) := dTo1_87.2.2.2.1.2.2.2.2.1
theorem dX7_before_61 : decode cX7_before 61 = .ok (.iload_n 1, 1) := dTo1_87.2.2.2.1.2.2.2.2.2.1
theorem dX7_before_62 : decode cX7_before 62 = .ok (.ifCond .ne 7, 3) := dTo1_87.2.2.2.1.2.2.2.2.2.2.1
theorem dX7_before_65 : decode cX7_before 65 = .ok (.iconst 2, 1) := dTo1_87.2.2.2.1.2.2.2.2.2.2.2.1
theorem dX7_before_66 : decode cX7_before 66 = .ok (.goto 4, 3) := dTo1_87.2.2.2.1.2.2.2.2.2.2.2.2.1
theorem dX7_before_69 : decode cX7_before 69 = .ok (.iconst 1, 1) := dTo1_87.2.2.2.1.2.2.2.2.2.2.2.2.2.1
theorem dX7_before_70 : decode cX7_before 70 = .ok (.iadd, 1) := dTo1_87.2.2.2.2.1.1
theorem dX7_before_71 : decode cX7_before 71 = .ok (.ireturn, 1) := dTo1_87.2.2.2.2.1.2.1
theorem dX7_before_72 : decode cX7_before 72 = .ok (.aload_n 0, 1) := dTo1_87.2.2.2.2.1.2.2.1
theorem dX7_before_73 : decode cX7_before 73 = .ok (.iload_n 1, 1) := dTo1_87.2.2.2.2.1.2.2.2.1
theorem dX7_before_74 : decode cX7_before 74 = .ok (.aload_n 0, 1) := dTo1_87.2.2.2.2.1.2.2.2.2.1
theorem dX7_before_75 : decode cX7_before 75 = .ok (.aload_n 0, 1) := dTo1_87.2.2.2.2.1.2.2.2.2.2.1
theorem dX7_before_76 : decode cX7_before 76 = .ok (.getfield 28, 3) := dTo1_87.2.2.2.2.1.2.2.2.2.2.2.1
theorem dX7_before_79 : decode cX7_before 79 = .ok (.iload_n 2, 1) := dTo1_87.2.2.2.2.1.2.2.2.2.2.2.2.1
theorem dX7_before_80 : decode cX7_before 80 = .ok (.iaload, 1) := dTo1_87.2.2.2.2.1.2.2.2.2.2.2.2.2.1
theorem dX7_before_81 : decode cX7_before 81 = .ok (.aload_n 0, 1) := dTo1_87.2.2.2.2.1.2.2.2.2.2.2.2.2.2.1
theorem dX7_before_82 : decode cX7_before 82 = .ok (.getfield 31, 3) := dTo1_87.2.2.2.2.2.1.1
theorem dX7_before_85 : decode cX7_before 85 = .ok (.iload_n 2, 1) := dTo1_87.2.2.2.2.2.1.2.1
theorem dX7_before_86 : decode cX7_before 86 = .ok (.iaload, 1) := dTo1_87.2.2.2.2.2.1.2.2.1
theorem dX7_before_87 : decode cX7_before 87 = .ok (.invokevirtual 88, 3) := dTo1_87.2.2.2.2.2.1.2.2.2.1
theorem dX7_before_90 : decode cX7_before 90 = .ok (.invokevirtual 249, 3) := dTo1_87.2.2.2.2.2.1.2.2.2.2.1
theorem dX7_before_93 : decode cX7_before 93 = .ok (.iload_n 1, 1) := dTo1_87.2.2.2.2.2.1.2.2.2.2.2.1
theorem dX7_before_94 : decode cX7_before 94 = .ok (.ifCond .ne 24, 3) := dTo1_87.2.2.2.2.2.1.2.2.2.2.2.2.1
theorem dX7_before_97 : decode cX7_before 97 = .ok (.aload_n 0, 1) := dTo1_87.2.2.2.2.2.1.2.2.2.2.2.2.2.1
theorem dX7_before_98 : decode cX7_before 98 = .ok (.iload_n 2, 1) := dTo1_87.2.2.2.2.2.1.2.2.2.2.2.2.2.2.1
theorem dX7_before_99 : decode cX7_before 99 = .ok (.invokevirtual 109, 3) := dTo1_87.2.2.2.2.2.1.2.2.2.2.2.2.2.2.2.1
theorem dTo1_88 : dQ cX7_before [[(102, .ifCond .eq 16, 3), (105, .aload_n 0, 1), (106, .getfield 34, 3), (109, .iload_n 2, 1), (110, .baload, 1), (111, .ifCond .ne 7, 3), (114, .iconst 1, 1), (115, .goto 4, 3), (118, .iconst 0, 1)]] := dQ_of _ _ (by decide +kernel)
theorem dX7_before_102 : decode cX7_before 102 = .ok (.ifCond .eq 16, 3) := dTo1_88.1.1
theorem dX7_before_105 : decode cX7_before 105 = .ok (.aload_n 0, 1) := dTo1_88.1.2.1
theorem dX7_before_106 : decode cX7_before 106 = .ok (.getfield 34, 3) := dTo1_88.1.2.2.1
theorem dX7_before_109 : decode cX7_before 109 = .ok (.iload_n 2, 1) := dTo1_88.1.2.2.2.1
theorem dX7_before_110 : decode cX7_before 110 = .ok (.baload, 1) := dTo1_88.1.2.2.2.2.1
theorem dX7_before_111 : decode cX7_before 111 = .ok (.ifCond .ne 7, 3) := dTo1_88.1.2.2.2.2.2.1
theorem dX7_before_114 : decode cX7_before 114 = .ok (.iconst 1, 1) := dTo1_88.1.2.2.2.2.2.2.1
theorem dX7_before_115 : decode cX7_before 115 = .ok (.goto 4, 3) := dTo1_88.1.2.2.2.2.2.2.2.1
theorem dX7_before_118 : decode cX7_before 118 = .ok (.iconst 0, 1) := dTo1_88.1.2.2.2.2.2.2.2.2.1
