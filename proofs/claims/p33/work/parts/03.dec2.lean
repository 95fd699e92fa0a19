theorem dTo2_0 : dQ cX7_before [[(119, zop96, 0, 0), (120, zop172, 0, 0)]] := dQ_of _ _ (by decide +kernel)
theorem dX7_before_119 : decode cX7_before 119 = .ok (.iadd, 1) := dTo2_0.1.1
theorem dX7_before_120 : decode cX7_before 120 = .ok (.ireturn, 1) := dTo2_0.1.2.1
theorem dTo2_1 : dQ cX7_less [[(0, zop178, 0, 148), (3, zop27, 0, 0), (4, zop46, 0, 0), (5, zop62, 0, 0), (6, zop178, 0, 151), (9, zop27, 0, 0), (10, zop46, 0, 0), (11, zop4, 0, 0), (12, zop96, 0, 0), (13, zop54, 4, 0)], [(15, zop29, 0, 0), (16, zop21, 4, 0), (18, zop162, 0, 42), (21, zop29, 0, 0), (22, zop21, 4, 0), (24, zop96, 0, 0), (25, zop5, 0, 0), (26, zop184, 0, 253), (29, zop54, 5, 0), (31, zop42, 0, 0)], [(32, zop27, 0, 0), (33, zop21, 5, 0), (35, zop182, 1, 0), (38, zop44, 0, 0), (39, zop184, 0, 106), (42, zop156, 0, 11), (45, zop21, 5, 0), (47, zop4, 0, 0), (48, zop96, 0, 0), (49, zop62, 0, 0)], [(50, zop167, 0, 7), (53, zop21, 5, 0), (55, zop54, 4, 0), (57, zop167, 255, 214), (60, zop29, 0, 0), (61, zop178, 0, 148), (64, zop27, 0, 0), (65, zop46, 0, 0), (66, zop100, 0, 0), (67, zop27, 0, 0)], [(68, zop154, 0, 11), (71, zop29, 0, 0), (72, zop158, 0, 7), (75, zop4, 0, 0), (76, zop167, 0, 4), (79, zop3, 0, 0), (80, zop96, 0, 0), (81, zop172, 0, 0)]] := dQ_of _ _ (by decide +kernel)
theorem dX7_less_0 : decode cX7_less 0 = .ok (.getstatic 148, 3) := dTo2_1.1.1
theorem dX7_less_3 : decode cX7_less 3 = .ok (.iload_n 1, 1) := dTo2_1.1.2.1
theorem dX7_less_4 : decode cX7_less 4 = .ok (.iaload, 1) := dTo2_1.1.2.2.1
theorem dX7_less_5 : decode cX7_less 5 = .ok (.istore_n 3, 1) := dTo2_1.1.2.2.2.1
theorem dX7_less_6 : decode cX7_less 6 = .ok (.getstatic 151, 3) := dTo2_1.1.2.2.2.2.1
theorem dX7_less_9 : decode cX7_less 9 = .ok (.iload_n 1, 1) := dTo2_1.1.2.2.2.2.2.1
theorem dX7_less_10 : decode cX7_less 10 = .ok (.iaload, 1) := dTo2_1.1.2.2.2.2.2.2.1
theorem dX7_less_11 : decode cX7_less 11 = .ok (.iconst 1, 1) := dTo2_1.1.2.2.2.2.2.2.2.1
theorem dX7_less_12 : decode cX7_less 12 = .ok (.iadd, 1) := dTo2_1.1.2.2.2.2.2.2.2.2.1
theorem dX7_less_13 : decode cX7_less 13 = .ok (.istore 4, 2) := dTo2_1.1.2.2.2.2.2.2.2.2.2.1
theorem dX7_less_15 : decode cX7_less 15 = .ok (.iload_n 3, 1) := dTo2_1.2.1.1
theorem dX7_less_16 : decode cX7_less 16 = .ok (.iload 4, 2) := dTo2_1.2.1.2.1
theorem dX7_less_18 : decode cX7_less 18 = .ok (.if_icmp .ge 42, 3) := dTo2_1.2.1.2.2.1
theorem dX7_less_21 : decode cX7_less 21 = .ok (.iload_n 3, 1) := dTo2_1.2.1.2.2.2.1
theorem dX7_less_22 : decode cX7_less 22 = .ok (.iload 4, 2) := dTo2_1.2.1.2.2.2.2.1
theorem dX7_less_24 : decode cX7_less 24 = .ok (.iadd, 1) := dTo2_1.2.1.2.2.2.2.2.1
theorem dX7_less_25 : decode cX7_less 25 = .ok (.iconst 2, 1) := dTo2_1.2.1.2.2.2.2.2.2.1
theorem dX7_less_26 : decode cX7_less 26 = .ok (.invokestatic 253, 3) := dTo2_1.2.1.2.2.2.2.2.2.2.1
theorem dX7_less_29 : decode cX7_less 29 = .ok (.istore 5, 2) := dTo2_1.2.1.2.2.2.2.2.2.2.2.1
theorem dX7_less_31 : decode cX7_less 31 = .ok (.aload_n 0, 1) := dTo2_1.2.1.2.2.2.2.2.2.2.2.2.1
theorem dX7_less_32 : decode cX7_less 32 = .ok (.iload_n 1, 1) := dTo2_1.2.2.1.1
theorem dX7_less_33 : decode cX7_less 33 = .ok (.iload 5, 2) := dTo2_1.2.2.1.2.1
theorem dX7_less_35 : decode cX7_less 35 = .ok (.invokevirtual 256, 3) := dTo2_1.2.2.1.2.2.1
theorem dX7_less_38 : decode cX7_less 38 = .ok (.aload_n 2, 1) := dTo2_1.2.2.1.2.2.2.1
theorem dX7_less_39 : decode cX7_less 39 = .ok (.invokestatic 106, 3) := dTo2_1.2.2.1.2.2.2.2.1
theorem dX7_less_42 : decode cX7_less 42 = .ok (.ifCond .ge 11, 3) := dTo2_1.2.2.1.2.2.2.2.2.1
theorem dX7_less_45 : decode cX7_less 45 = .ok (.iload 5, 2) := dTo2_1.2.2.1.2.2.2.2.2.2.1
theorem dX7_less_47 : decode cX7_less 47 = .ok (.iconst 1, 1) := dTo2_1.2.2.1.2.2.2.2.2.2.2.1
theorem dX7_less_48 : decode cX7_less 48 = .ok (.iadd, 1) := dTo2_1.2.2.1.2.2.2.2.2.2.2.2.1
theorem dX7_less_49 : decode cX7_less 49 = .ok (.istore_n 3, 1) := dTo2_1.2.2.1.2.2.2.2.2.2.2.2.2.1
theorem dX7_less_50 : decode cX7_less 50 = .ok (.goto 7, 3) := dTo2_1.2.2.2.1.1
theorem dX7_less_53 : decode cX7_less 53 = .ok (.iload 5, 2) := dTo2_1.2.2.2.1.2.1
theorem dX7_less_55 : decode cX7_less 55 = .ok (.istore 4, 2) := dTo2_1.2.2.2.1.2.2.1
theorem dX7_less_57 : decode cX7_less 57 = .ok (.goto (-42), 3) := dTo2_1.2.2.2.1.2.2.2.1
theorem dX7_less_60 : decode cX7_less 60 = .ok (.iload_n 3, 1) := dTo2_1.2.2.2.1.2.2.2.2.1
theorem dX7_less_61 : decode cX7_less 61 = .ok (.getstatic 148, 3) := dTo2_1.2.2.2.1.2.2.2.2.2.1
theorem dX7_less_64 : decode cX7_less 64 = .ok (.iload_n 1, 1) := dTo2_1.2.2.2.1.2.2.2.2.2.2.1
theorem dX7_less_65 : decode cX7_less 65 = .ok (.iaload, 1) := dTo2_1.2.2.2.1.2.2.2.2.2.2.2.1
theorem dX7_less_66 : decode cX7_less 66 = .ok (.isub, 1) := dTo2_1.2.2.2.1.2.2.2.2.2.2.2.2.1
theorem dX7_less_67 : decode cX7_less 67 = .ok (.iload_n 1, 1) := dTo2_1.2.2.2.1.2.2.2.2.2.2.2.2.2.1
theorem dX7_less_68 : decode cX7_less 68 = .ok (.ifCond .ne 11, 3) := dTo2_1.2.2.2.2.1.1
theorem dX7_less_71 : decode cX7_less 71 = .ok (.iload_n 3, 1) := dTo2_1.2.2.2.2.1.2.1
theorem dX7_less_72 : decode cX7_less 72 = .ok (.ifCond .le 7, 3) := dTo2_1.2.2.2.2.1.2.2.1
theorem dX7_less_75 : decode cX7_less 75 = .ok (.iconst 1, 1) := dTo2_1.2.2.2.2.1.2.2.2.1
theorem dX7_less_76 : decode cX7_less 76 = .ok (.goto 4, 3) := dTo2_1.2.2.2.2.1.2.2.2.2.1
theorem dX7_less_79 : decode cX7_less 79 = .ok (.iconst 0, 1) := dTo2_1.2.2.2.2.1.2.2.2.2.2.1
theorem dX7_less_80 : decode cX7_less 80 = .ok (.iadd, 1) := dTo2_1.2.2.2.2.1.2.2.2.2.2.2.1
theorem dX7_less_81 : decode cX7_less 81 = .ok (.ireturn, 1) := dTo2_1.2.2.2.2.1.2.2.2.2.2.2.2.1
theorem dTo2_2 : dQ cX7_isArgument [[(0, zop42, 0, 0), (1, zop27, 0, 0), (2, zop153, 0, 7), (5, zop3, 0, 0), (6, zop167, 0, 4), (9, zop4, 0, 0), (10, zop181, 0, 50), (13, zop27, 0, 0), (14, zop172, 0, 0)]] := dQ_of _ _ (by decide +kernel)
theorem dX7_isArgument_0 : decode cX7_isArgument 0 = .ok (.aload_n 0, 1) := dTo2_2.1.1
theorem dX7_isArgument_1 : decode cX7_isArgument 1 = .ok (.iload_n 1, 1) := dTo2_2.1.2.1
theorem dX7_isArgument_2 : decode cX7_isArgument 2 = .ok (.ifCond .eq 7, 3) := dTo2_2.1.2.2.1
theorem dX7_isArgument_5 : decode cX7_isArgument 5 = .ok (.iconst 0, 1) := dTo2_2.1.2.2.2.1
theorem dX7_isArgument_6 : decode cX7_isArgument 6 = .ok (.goto 4, 3) := dTo2_2.1.2.2.2.2.1
theorem dX7_isArgument_9 : decode cX7_isArgument 9 = .ok (.iconst 1, 1) := dTo2_2.1.2.2.2.2.2.1
theorem dX7_isArgument_10 : decode cX7_isArgument 10 = .ok (.putfield 50, 3) := dTo2_2.1.2.2.2.2.2.2.1
theorem dX7_isArgument_13 : decode cX7_isArgument 13 = .ok (.iload_n 1, 1) := dTo2_2.1.2.2.2.2.2.2.2.1
theorem dX7_isArgument_14 : decode cX7_isArgument 14 = .ok (.ireturn, 1) := dTo2_2.1.2.2.2.2.2.2.2.2.1
theorem dTo2_3 : dQ cX7_isOf [[(0, zop27, 0, 0), (1, zop178, 0, 148), (4, zop26, 0, 0), (5, zop46, 0, 0), (6, zop178, 0, 151), (9, zop26, 0, 0), (10, zop46, 0, 0), (11, zop184, 0, 113), (14, zop172, 0, 0)]] := dQ_of _ _ (by decide +kernel)
theorem dX7_isOf_0 : decode cX7_isOf 0 = .ok (.iload_n 1, 1) := dTo2_3.1.1
theorem dX7_isOf_1 : decode cX7_isOf 1 = .ok (.getstatic 148, 3) := dTo2_3.1.2.1
theorem dX7_isOf_4 : decode cX7_isOf 4 = .ok (.iload_n 0, 1) := dTo2_3.1.2.2.1
theorem dX7_isOf_5 : decode cX7_isOf 5 = .ok (.iaload, 1) := dTo2_3.1.2.2.2.1
theorem dX7_isOf_6 : decode cX7_isOf 6 = .ok (.getstatic 151, 3) := dTo2_3.1.2.2.2.2.1
theorem dX7_isOf_9 : decode cX7_isOf 9 = .ok (.iload_n 0, 1) := dTo2_3.1.2.2.2.2.2.1
theorem dX7_isOf_10 : decode cX7_isOf 10 = .ok (.iaload, 1) := dTo2_3.1.2.2.2.2.2.2.1
theorem dX7_isOf_11 : decode cX7_isOf 11 = .ok (.invokestatic 113, 3) := dTo2_3.1.2.2.2.2.2.2.2.1
theorem dX7_isOf_14 : decode cX7_isOf 14 = .ok (.ireturn, 1) := dTo2_3.1.2.2.2.2.2.2.2.2.1
theorem dTo2_4 : dQ cX7_answer [[(0, zop42, 0, 0), (1, zop27, 0, 0), (2, zop4, 0, 0), (3, zop6, 0, 0), (4, zop184, 0, 113), (7, zop153, 0, 39), (10, zop27, 0, 0), (11, zop4, 0, 0), (12, zop6, 0, 0), (13, zop184, 0, 113)], [(16, zop153, 0, 7), (19, zop27, 0, 0), (20, zop167, 0, 4), (23, zop4, 0, 0), (24, zop28, 0, 0), (25, zop184, 1, 3), (28, zop153, 0, 18), (31, zop29, 0, 0), (32, zop16, 194, 0), (34, zop16, 90, 0)], [(36, zop184, 0, 113), (39, zop153, 0, 7), (42, zop4, 0, 0), (43, zop167, 0, 4), (46, zop3, 0, 0), (47, zop182, 1, 6), (50, zop154, 0, 5), (53, zop3, 0, 0), (54, zop172, 0, 0), (55, zop42, 0, 0)], [(56, zop27, 0, 0), (57, zop28, 0, 0), (58, zop182, 1, 0), (61, zop58, 4, 0), (63, zop25, 4, 0), (65, zop17, 1, 0), (68, zop29, 0, 0), (69, zop100, 0, 0), (70, zop184, 0, 177), (73, zop154, 0, 8)], [(76, zop42, 0, 0), (77, zop5, 0, 0), (78, zop181, 0, 50), (81, zop42, 0, 0), (82, zop180, 0, 50), (85, zop154, 0, 16), (88, zop25, 4, 0), (90, zop17, 1, 0), (93, zop29, 0, 0), (94, zop100, 0, 0)], [(95, zop184, 0, 181), (98, zop167, 0, 4), (101, zop3, 0, 0), (102, zop172, 0, 0)]] := dQ_of _ _ (by decide +kernel)
theorem dX7_answer_0 : decode cX7_answer 0 = .ok (.aload_n 0, 1) := dTo2_4.1.1
theorem dX7_answer_1 : decode cX7_answer 1 = .ok (.iload_n 1, 1) := dTo2_4.1.2.1
theorem dX7_answer_2 : decode cX7_answer 2 = .ok (.iconst 1, 1) := dTo2_4.1.2.2.1
theorem dX7_answer_3 : decode cX7_answer 3 = .ok (.iconst 3, 1) := dTo2_4.1.2.2.2.1
theorem dX7_answer_4 : decode cX7_answer 4 = .ok (.invokestatic 113, 3) := dTo2_4.1.2.2.2.2.1
theorem dX7_answer_7 : decode cX7_answer 7 = .ok (.ifCond .eq 39, 3) := dTo2_4.1.2.2.2.2.2.1
theorem dX7_answer_10 : decode cX7_answer 10 = .ok (.iload_n 1, 1) := dTo2_4.1.2.2.2.2.2.2.1
theorem dX7_answer_11 : decode cX7_answer 11 = .ok (.iconst 1, 1) := dTo2_4.1.2.2.2.2.2.2.2.1
theorem dX7_answer_12 : decode cX7_answer 12 = .ok (.iconst 3, 1) := dTo2_4.1.2.2.2.2.2.2.2.2.1
theorem dX7_answer_13 : decode cX7_answer 13 = .ok (.invokestatic 113, 3) := dTo2_4.1.2.2.2.2.2.2.2.2.2.1
theorem dX7_answer_16 : decode cX7_answer 16 = .ok (.ifCond .eq 7, 3) := dTo2_4.2.1.1
theorem dX7_answer_19 : decode cX7_answer 19 = .ok (.iload_n 1, 1) := dTo2_4.2.1.2.1
theorem dX7_answer_20 : decode cX7_answer 20 = .ok (.goto 4, 3) := dTo2_4.2.1.2.2.1
theorem dX7_answer_23 : decode cX7_answer 23 = .ok (.iconst 1, 1) := dTo2_4.2.1.2.2.2.1
theorem dX7_answer_24 : decode cX7_answer 24 = .ok (.iload_n 2, 1) := dTo2_4.2.1.2.2.2.2.1
theorem dX7_answer_25 : decode cX7_answer 25 = .ok (.invokestatic 259, 3) := dTo2_4.2.1.2.2.2.2.2.1
theorem dX7_answer_28 : decode cX7_answer 28 = .ok (.ifCond .eq 18, 3) := dTo2_4.2.1.2.2.2.2.2.2.1
theorem dX7_answer_31 : decode cX7_answer 31 = .ok (.iload_n 3, 1) := dTo2_4.2.1.2.2.2.2.2.2.2.1
theorem dX7_answer_32 : decode cX7_answer 32 = .ok (.bipush (-62), 2) := dTo2_4.2.1.2.2.2.2.2.2.2.2.1
theorem dX7_answer_34 : decode cX7_answer 34 = .ok (.bipush 90, 2) := dTo2_4.2.1.2.2.2.2.2.2.2.2.2.1
theorem dX7_answer_36 : decode cX7_answer 36 = .ok (.invokestatic 113, 3) := dTo2_4.2.2.1.1
theorem dX7_answer_39 : decode cX7_answer 39 = .ok (.ifCond .eq 7, 3) := dTo2_4.2.2.1.2.1
theorem dX7_answer_42 : decode cX7_answer 42 = .ok (.iconst 1, 1) := dTo2_4.2.2.1.2.2.1
theorem dX7_answer_43 : decode cX7_answer 43 = .ok (.goto 4, 3) := dTo2_4.2.2.1.2.2.2.1
theorem dX7_answer_46 : decode cX7_answer 46 = .ok (.iconst 0, 1) := dTo2_4.2.2.1.2.2.2.2.1
theorem dX7_answer_47 : decode cX7_answer 47 = .ok (.invokevirtual 262, 3) := dTo2_4.2.2.1.2.2.2.2.2.1
theorem dX7_answer_50 : decode cX7_answer 50 = .ok (.ifCond .ne 5, 3) := dTo2_4.2.2.1.2.2.2.2.2.2.1
theorem dX7_answer_53 : decode cX7_answer 53 = .ok (.iconst 0, 1) := dTo2_4.2.2.1.2.2.2.2.2.2.2.1
theorem dX7_answer_54 : decode cX7_answer 54 = .ok (.ireturn, 1) := dTo2_4.2.2.1.2.2.2.2.2.2.2.2.1
theorem dX7_answer_55 : decode cX7_answer 55 = .ok (.aload_n 0, 1) := dTo2_4.2.2.1.2.2.2.2.2.2.2.2.2.1
theorem dX7_answer_56 : decode cX7_answer 56 = .ok (.iload_n 1, 1) := dTo2_4.2.2.2.1.1
theorem dX7_answer_57 : decode cX7_answer 57 = .ok (.iload_n 2, 1) := dTo2_4.2.2.2.1.2.1
theorem dX7_answer_58 : decode cX7_answer 58 = .ok (.invokevirtual 256, 3) := dTo2_4.2.2.2.1.2.2.1
theorem dX7_answer_61 : decode cX7_answer 61 = .ok (.astore 4, 2) := dTo2_4.2.2.2.1.2.2.2.1
theorem dX7_answer_63 : decode cX7_answer 63 = .ok (.aload 4, 2) := dTo2_4.2.2.2.1.2.2.2.2.1
theorem dX7_answer_65 : decode cX7_answer 65 = .ok (.sipush 256, 3) := dTo2_4.2.2.2.1.2.2.2.2.2.1
theorem dX7_answer_68 : decode cX7_answer 68 = .ok (.iload_n 3, 1) := dTo2_4.2.2.2.1.2.2.2.2.2.2.1
theorem dX7_answer_69 : decode cX7_answer 69 = .ok (.isub, 1) := dTo2_4.2.2.2.1.2.2.2.2.2.2.2.1
theorem dX7_answer_70 : decode cX7_answer 70 = .ok (.invokestatic 177, 3) := dTo2_4.2.2.2.1.2.2.2.2.2.2.2.2.1
theorem dX7_answer_73 : decode cX7_answer 73 = .ok (.ifCond .ne 8, 3) := dTo2_4.2.2.2.1.2.2.2.2.2.2.2.2.2.1
theorem dX7_answer_76 : decode cX7_answer 76 = .ok (.aload_n 0, 1) := dTo2_4.2.2.2.2.1.1
theorem dX7_answer_77 : decode cX7_answer 77 = .ok (.iconst 2, 1) := dTo2_4.2.2.2.2.1.2.1
theorem dX7_answer_78 : decode cX7_answer 78 = .ok (.putfield 50, 3) := dTo2_4.2.2.2.2.1.2.2.1
theorem dX7_answer_81 : decode cX7_answer 81 = .ok (.aload_n 0, 1) := dTo2_4.2.2.2.2.1.2.2.2.1
theorem dX7_answer_82 : decode cX7_answer 82 = .ok (.getfield 50, 3) := dTo2_4.2.2.2.2.1.2.2.2.2.1
theorem dX7_answer_85 : decode cX7_answer 85 = .ok (.ifCond .ne 16, 3) := dTo2_4.2.2.2.2.1.2.2.2.2.2.1
theorem dX7_answer_88 : decode cX7_answer 88 = .ok (.aload 4, 2) := dTo2_4.2.2.2.2.1.2.2.2.2.2.2.1
theorem dX7_answer_90 : decode cX7_answer 90 = .ok (.sipush 256, 3) := dTo2_4.2.2.2.2.1.2.2.2.2.2.2.2.1
theorem dX7_answer_93 : decode cX7_answer 93 = .ok (.iload_n 3, 1) := dTo2_4.2.2.2.2.1.2.2.2.2.2.2.2.2.1
theorem dX7_answer_94 : decode cX7_answer 94 = .ok (.isub, 1) := dTo2_4.2.2.2.2.1.2.2.2.2.2.2.2.2.2.1
theorem dX7_answer_95 : decode cX7_answer 95 = .ok (.invokestatic 181, 3) := dTo2_4.2.2.2.2.2.1.1
theorem dX7_answer_98 : decode cX7_answer 98 = .ok (.goto 4, 3) := dTo2_4.2.2.2.2.2.1.2.1
theorem dX7_answer_101 : decode cX7_answer 101 = .ok (.iconst 0, 1) := dTo2_4.2.2.2.2.2.1.2.2.1
theorem dX7_answer_102 : decode cX7_answer 102 = .ok (.ireturn, 1) := dTo2_4.2.2.2.2.2.1.2.2.2.1
theorem dTo2_5 : dQ cX7_below [[(0, zop42, 0, 0), (1, zop27, 0, 0), (2, zop3, 0, 0), (3, zop6, 0, 0), (4, zop184, 0, 113), (7, zop153, 0, 18), (10, zop29, 0, 0), (11, zop16, 194, 0), (13, zop16, 90, 0), (15, zop184, 0, 113)], [(18, zop153, 0, 7), (21, zop4, 0, 0), (22, zop167, 0, 4), (25, zop3, 0, 0), (26, zop182, 1, 6), (29, zop154, 0, 5), (32, zop3, 0, 0), (33, zop172, 0, 0), (34, zop42, 0, 0), (35, zop27, 0, 0)], [(36, zop28, 0, 0), (37, zop17, 1, 0), (40, zop29, 0, 0), (41, zop100, 0, 0), (42, zop184, 0, 78), (45, zop182, 0, 249), (48, zop172, 0, 0)]] := dQ_of _ _ (by decide +kernel)
theorem dX7_below_0 : decode cX7_below 0 = .ok (.aload_n 0, 1) := dTo2_5.1.1
theorem dX7_below_1 : decode cX7_below 1 = .ok (.iload_n 1, 1) := dTo2_5.1.2.1
theorem dX7_below_2 : decode cX7_below 2 = .ok (.iconst 0, 1) := dTo2_5.1.2.2.1
theorem dX7_below_3 : decode cX7_below 3 = .ok (.iconst 3, 1) := dTo2_5.1.2.2.2.1
theorem dX7_below_4 : decode cX7_below 4 = .ok (.invokestatic 113, 3) := dTo2_5.1.2.2.2.2.1
theorem dX7_below_7 : decode cX7_below 7 = .ok (.ifCond .eq 18, 3) := dTo2_5.1.2.2.2.2.2.1
theorem dX7_below_10 : decode cX7_below 10 = .ok (.iload_n 3, 1) := dTo2_5.1.2.2.2.2.2.2.1
theorem dX7_below_11 : decode cX7_below 11 = .ok (.bipush (-62), 2) := dTo2_5.1.2.2.2.2.2.2.2.1
theorem dX7_below_13 : decode cX7_below 13 = .ok (.bipush 90, 2) := dTo2_5.1.2.2.2.2.2.2.2.2.1
theorem dX7_below_15 : decode cX7_below 15 = .ok (.invokestatic 113, 3) := dTo2_5.1.2.2.2.2.2.2.2.2.2.1
theorem dX7_below_18 : decode cX7_below 18 = .ok (.ifCond .eq 7, 3) := dTo2_5.2.1.1
theorem dX7_below_21 : decode cX7_below 21 = .ok (.iconst 1, 1) := dTo2_5.2.1.2.1
theorem dX7_below_22 : decode cX7_below 22 = .ok (.goto 4, 3) := dTo2_5.2.1.2.2.1
theorem dX7_below_25 : decode cX7_below 25 = .ok (.iconst 0, 1) := dTo2_5.2.1.2.2.2.1
theorem dX7_below_26 : decode cX7_below 26 = .ok (.invokevirtual 262, 3) := dTo2_5.2.1.2.2.2.2.1
theorem dX7_below_29 : decode cX7_below 29 = .ok (.ifCond .ne 5, 3) := dTo2_5.2.1.2.2.2.2.2.1
theorem dX7_below_32 : decode cX7_below 32 = .ok (.iconst 0, 1) := dTo2_5.2.1.2.2.2.2.2.2.1
theorem dX7_below_33 : decode cX7_below 33 = .ok (.ireturn, 1) := dTo2_5.2.1.2.2.2.2.2.2.2.1
theorem dX7_below_34 : decode cX7_below 34 = .ok (.aload_n 0, 1) := dTo2_5.2.1.2.2.2.2.2.2.2.2.1
theorem dX7_below_35 : decode cX7_below 35 = .ok (.iload_n 1, 1) := dTo2_5.2.1.2.2.2.2.2.2.2.2.2.1
theorem dX7_below_36 : decode cX7_below 36 = .ok (.iload_n 2, 1) := dTo2_5.2.2.1.1
theorem dX7_below_37 : decode cX7_below 37 = .ok (.sipush 256, 3) := dTo2_5.2.2.1.2.1
theorem dX7_below_40 : decode cX7_below 40 = .ok (.iload_n 3, 1) := dTo2_5.2.2.1.2.2.1
theorem dX7_below_41 : decode cX7_below 41 = .ok (.isub, 1) := dTo2_5.2.2.1.2.2.2.1
theorem dX7_below_42 : decode cX7_below 42 = .ok (.invokestatic 78, 3) := dTo2_5.2.2.1.2.2.2.2.1
theorem dX7_below_45 : decode cX7_below 45 = .ok (.invokevirtual 249, 3) := dTo2_5.2.2.1.2.2.2.2.2.1
theorem dX7_below_48 : decode cX7_below 48 = .ok (.ireturn, 1) := dTo2_5.2.2.1.2.2.2.2.2.2.1
theorem dTo2_6 : dQ cX7_rises [[(0, zop42, 0, 0), (1, zop27, 0, 0), (2, zop3, 0, 0), (3, zop6, 0, 0), (4, zop184, 0, 113), (7, zop153, 0, 54), (10, zop27, 0, 0), (11, zop3, 0, 0), (12, zop6, 0, 0), (13, zop184, 0, 113)], [(16, zop153, 0, 7), (19, zop27, 0, 0), (20, zop167, 0, 4), (23, zop3, 0, 0), (24, zop28, 0, 0), (25, zop184, 1, 3), (28, zop153, 0, 33), (31, zop27, 0, 0), (32, zop3, 0, 0), (33, zop6, 0, 0)], [(34, zop184, 0, 113), (37, zop153, 0, 7), (40, zop27, 0, 0), (41, zop167, 0, 4), (44, zop3, 0, 0), (45, zop29, 0, 0), (46, zop184, 1, 3), (49, zop153, 0, 12), (52, zop28, 0, 0), (53, zop29, 0, 0)], [(54, zop163, 0, 7), (57, zop4, 0, 0), (58, zop167, 0, 4), (61, zop3, 0, 0), (62, zop182, 1, 6), (65, zop154, 0, 5), (68, zop3, 0, 0), (69, zop172, 0, 0), (70, zop28, 0, 0), (71, zop54, 4, 0)], [(73, zop21, 4, 0), (75, zop29, 0, 0), (76, zop162, 0, 33), (79, zop42, 0, 0), (80, zop27, 0, 0), (81, zop21, 4, 0), (83, zop182, 1, 0), (86, zop42, 0, 0), (87, zop27, 0, 0), (88, zop21, 4, 0)], [(90, zop4, 0, 0), (91, zop96, 0, 0), (92, zop182, 1, 0), (95, zop184, 0, 106), (98, zop155, 0, 5), (101, zop3, 0, 0), (102, zop172, 0, 0), (103, zop132, 4, 1), (106, zop167, 255, 223), (109, zop4, 0, 0)]] := dQ_of _ _ (by decide +kernel)
theorem dX7_rises_0 : decode cX7_rises 0 = .ok (.aload_n 0, 1) := dTo2_6.1.1
theorem dX7_rises_1 : decode cX7_rises 1 = .ok (.iload_n 1, 1) := dTo2_6.1.2.1
theorem dX7_rises_2 : decode cX7_rises 2 = .ok (.iconst 0, 1) := dTo2_6.1.2.2.1
theorem dX7_rises_3 : decode cX7_rises 3 = .ok (.iconst 3, 1) := dTo2_6.1.2.2.2.1
theorem dX7_rises_4 : decode cX7_rises 4 = .ok (.invokestatic 113, 3) := dTo2_6.1.2.2.2.2.1
theorem dX7_rises_7 : decode cX7_rises 7 = .ok (.ifCond .eq 54, 3) := dTo2_6.1.2.2.2.2.2.1
theorem dX7_rises_10 : decode cX7_rises 10 = .ok (.iload_n 1, 1) := dTo2_6.1.2.2.2.2.2.2.1
theorem dX7_rises_11 : decode cX7_rises 11 = .ok (.iconst 0, 1) := dTo2_6.1.2.2.2.2.2.2.2.1
theorem dX7_rises_12 : decode cX7_rises 12 = .ok (.iconst 3, 1) := dTo2_6.1.2.2.2.2.2.2.2.2.1
theorem dX7_rises_13 : decode cX7_rises 13 = .ok (.invokestatic 113, 3) := dTo2_6.1.2.2.2.2.2.2.2.2.2.1
theorem dX7_rises_16 : decode cX7_rises 16 = .ok (.ifCond .eq 7, 3) := dTo2_6.2.1.1
theorem dX7_rises_19 : decode cX7_rises 19 = .ok (.iload_n 1, 1) := dTo2_6.2.1.2.1
theorem dX7_rises_20 : decode cX7_rises 20 = .ok (.goto 4, 3) := dTo2_6.2.1.2.2.1
theorem dX7_rises_23 : decode cX7_rises 23 = .ok (.iconst 0, 1) := dTo2_6.2.1.2.2.2.1
theorem dX7_rises_24 : decode cX7_rises 24 = .ok (.iload_n 2, 1) := dTo2_6.2.1.2.2.2.2.1
theorem dX7_rises_25 : decode cX7_rises 25 = .ok (.invokestatic 259, 3) := dTo2_6.2.1.2.2.2.2.2.1
theorem dX7_rises_28 : decode cX7_rises 28 = .ok (.ifCond .eq 33, 3) := dTo2_6.2.1.2.2.2.2.2.2.1
theorem dX7_rises_31 : decode cX7_rises 31 = .ok (.iload_n 1, 1) := dTo2_6.2.1.2.2.2.2.2.2.2.1
theorem dX7_rises_32 : decode cX7_rises 32 = .ok (.iconst 0, 1) := dTo2_6.2.1.2.2.2.2.2.2.2.2.1
theorem dX7_rises_33 : decode cX7_rises 33 = .ok (.iconst 3, 1) := dTo2_6.2.1.2.2.2.2.2.2.2.2.2.1
theorem dX7_rises_34 : decode cX7_rises 34 = .ok (.invokestatic 113, 3) := dTo2_6.2.2.1.1
theorem dX7_rises_37 : decode cX7_rises 37 = .ok (.ifCond .eq 7, 3) := dTo2_6.2.2.1.2.1
theorem dX7_rises_40 : decode cX7_rises 40 = .ok (.iload_n 1, 1) := dTo2_6.2.2.1.2.2.1
theorem dX7_rises_41 : decode cX7_rises 41 = .ok (.goto 4, 3) := dTo2_6.2.2.1.2.2.2.1
theorem dX7_rises_44 : decode cX7_rises 44 = .ok (.iconst 0, 1) := dTo2_6.2.2.1.2.2.2.2.1
theorem dX7_rises_45 : decode cX7_rises 45 = .ok (.iload_n 3, 1) := dTo2_6.2.2.1.2.2.2.2.2.1
theorem dX7_rises_46 : decode cX7_rises 46 = .ok (.invokestatic 259, 3) := dTo2_6.2.2.1.2.2.2.2.2.2.1
theorem dX7_rises_49 : decode cX7_rises 49 = .ok (.ifCond .eq 12, 3) := dTo2_6.2.2.1.2.2.2.2.2.2.2.1
theorem dX7_rises_52 : decode cX7_rises 52 = .ok (.iload_n 2, 1) := dTo2_6.2.2.1.2.2.2.2.2.2.2.2.1
theorem dX7_rises_53 : decode cX7_rises 53 = .ok (.iload_n 3, 1) := dTo2_6.2.2.1.2.2.2.2.2.2.2.2.2.1
theorem dX7_rises_54 : decode cX7_rises 54 = .ok (.if_icmp .gt 7, 3) := dTo2_6.2.2.2.1.1
theorem dX7_rises_57 : decode cX7_rises 57 = .ok (.iconst 1, 1) := dTo2_6.2.2.2.1.2.1
theorem dX7_rises_58 : decode cX7_rises 58 = .ok (.goto 4, 3) := dTo2_6.2.2.2.1.2.2.1
theorem dX7_rises_61 : decode cX7_rises 61 = .ok (.iconst 0, 1) := dTo2_6.2.2.2.1.2.2.2.1
theorem dX7_rises_62 : decode cX7_rises 62 = .ok (.invokevirtual 262, 3) := dTo2_6.2.2.2.1.2.2.2.2.1
theorem dX7_rises_65 : decode cX7_rises 65 = .ok (.ifCond .ne 5, 3) := dTo2_6.2.2.2.1.2.2.2.2.2.1
theorem dX7_rises_68 : decode cX7_rises 68 = .ok (.iconst 0, 1) := dTo2_6.2.2.2.1.2.2.2.2.2.2.1
theorem dX7_rises_69 : decode cX7_rises 69 = .ok (.ireturn, 1) := dTo2_6.2.2.2.1.2.2.2.2.2.2.2.1
theorem dX7_rises_70 : decode cX7_rises 70 = .ok (.iload_n 2, 1) := dTo2_6.2.2.2.1.2.2.2.2.2.2.2.2.1
theorem dX7_rises_71 : decode cX7_rises 71 = .ok (.istore 4, 2) := dTo2_6.2.2.2.1.2.2.2.2.2.2.2.2.2.1
theorem dX7_rises_73 : decode cX7_rises 73 = .ok (.iload 4, 2) := dTo2_6.2.2.2.2.1.1
theorem dX7_rises_75 : decode cX7_rises 75 = .ok (.iload_n 3, 1) := dTo2_6.2.2.2.2.1.2.1
theorem dX7_rises_76 : decode cX7_rises 76 = .ok (.if_icmp .ge 33, 3) := dTo2_6.2.2.2.2.1.2.2.1
theorem dX7_rises_79 : decode cX7_rises 79 = .ok (.aload_n 0, 1) := dTo2_6.2.2.2.2.1.2.2.2.1
theorem dX7_rises_80 : decode cX7_rises 80 = .ok (.iload_n 1, 1) := dTo2_6.2.2.2.2.1.2.2.2.2.1
theorem dX7_rises_81 : decode cX7_rises 81 = .ok (.iload 4, 2) := dTo2_6.2.2.2.2.1.2.2.2.2.2.1
theorem dX7_rises_83 : decode cX7_rises 83 = .ok (.invokevirtual 256, 3) := dTo2_6.2.2.2.2.1.2.2.2.2.2.2.1
theorem dX7_rises_86 : decode cX7_rises 86 = .ok (.aload_n 0, 1) := dTo2_6.2.2.2.2.1.2.2.2.2.2.2.2.1
theorem dX7_rises_87 : decode cX7_rises 87 = .ok (.iload_n 1, 1) := dTo2_6.2.2.2.2.1.2.2.2.2.2.2.2.2.1
theorem dX7_rises_88 : decode cX7_rises 88 = .ok (.iload 4, 2) := dTo2_6.2.2.2.2.1.2.2.2.2.2.2.2.2.2.1
theorem dX7_rises_90 : decode cX7_rises 90 = .ok (.iconst 1, 1) := dTo2_6.2.2.2.2.2.1.1
theorem dX7_rises_91 : decode cX7_rises 91 = .ok (.iadd, 1) := dTo2_6.2.2.2.2.2.1.2.1
theorem dX7_rises_92 : decode cX7_rises 92 = .ok (.invokevirtual 256, 3) := dTo2_6.2.2.2.2.2.1.2.2.1
theorem dX7_rises_95 : decode cX7_rises 95 = .ok (.invokestatic 106, 3) := dTo2_6.2.2.2.2.2.1.2.2.2.1
theorem dX7_rises_98 : decode cX7_rises 98 = .ok (.ifCond .lt 5, 3) := dTo2_6.2.2.2.2.2.1.2.2.2.2.1
theorem dX7_rises_101 : decode cX7_rises 101 = .ok (.iconst 0, 1) := dTo2_6.2.2.2.2.2.1.2.2.2.2.2.1
theorem dX7_rises_102 : decode cX7_rises 102 = .ok (.ireturn, 1) := dTo2_6.2.2.2.2.2.1.2.2.2.2.2.2.1
theorem dX7_rises_103 : decode cX7_rises 103 = .ok (.iinc 4 1, 3) := dTo2_6.2.2.2.2.2.1.2.2.2.2.2.2.2.1
theorem dX7_rises_106 : decode cX7_rises 106 = .ok (.goto (-33), 3) := dTo2_6.2.2.2.2.2.1.2.2.2.2.2.2.2.2.1
theorem dX7_rises_109 : decode cX7_rises 109 = .ok (.iconst 1, 1) := dTo2_6.2.2.2.2.2.1.2.2.2.2.2.2.2.2.2.1
theorem dTo2_7 : dQ cX7_rises [[(110, zop172, 0, 0)]] := dQ_of _ _ (by decide +kernel)
theorem dX7_rises_110 : decode cX7_rises 110 = .ok (.ireturn, 1) := dTo2_7.1.1
theorem dTo2_8 : dQ cX7_between [[(0, zop42, 0, 0), (1, zop5, 0, 0), (2, zop27, 0, 0), (3, zop184, 1, 3), (6, zop182, 1, 6), (9, zop154, 0, 5), (12, zop3, 0, 0), (13, zop172, 0, 0), (14, zop42, 0, 0), (15, zop5, 0, 0)], [(16, zop27, 0, 0), (17, zop182, 1, 0), (20, zop77, 0, 0), (21, zop44, 0, 0), (22, zop16, 252, 0), (24, zop184, 0, 38), (27, zop184, 0, 106), (30, zop158, 0, 31), (33, zop44, 0, 0), (34, zop27, 0, 0)], [(35, zop184, 0, 38), (38, zop184, 0, 106), (41, zop158, 0, 20), (44, zop44, 0, 0), (45, zop42, 0, 0), (46, zop4, 0, 0), (47, zop27, 0, 0), (48, zop182, 1, 0), (51, zop184, 0, 106), (54, zop156, 0, 7)], [(57, zop4, 0, 0), (58, zop167, 0, 4), (61, zop3, 0, 0), (62, zop172, 0, 0)]] := dQ_of _ _ (by decide +kernel)
theorem dX7_between_0 : decode cX7_between 0 = .ok (.aload_n 0, 1) := dTo2_8.1.1
theorem dX7_between_1 : decode cX7_between 1 = .ok (.iconst 2, 1) := dTo2_8.1.2.1
theorem dX7_between_2 : decode cX7_between 2 = .ok (.iload_n 1, 1) := dTo2_8.1.2.2.1
theorem dX7_between_3 : decode cX7_between 3 = .ok (.invokestatic 259, 3) := dTo2_8.1.2.2.2.1
theorem dX7_between_6 : decode cX7_between 6 = .ok (.invokevirtual 262, 3) := dTo2_8.1.2.2.2.2.1
theorem dX7_between_9 : decode cX7_between 9 = .ok (.ifCond .ne 5, 3) := dTo2_8.1.2.2.2.2.2.1
theorem dX7_between_12 : decode cX7_between 12 = .ok (.iconst 0, 1) := dTo2_8.1.2.2.2.2.2.2.1
theorem dX7_between_13 : decode cX7_between 13 = .ok (.ireturn, 1) := dTo2_8.1.2.2.2.2.2.2.2.1
theorem dX7_between_14 : decode cX7_between 14 = .ok (.aload_n 0, 1) := dTo2_8.1.2.2.2.2.2.2.2.2.1
theorem dX7_between_15 : decode cX7_between 15 = .ok (.iconst 2, 1) := dTo2_8.1.2.2.2.2.2.2.2.2.2.1
theorem dX7_between_16 : decode cX7_between 16 = .ok (.iload_n 1, 1) := dTo2_8.2.1.1
theorem dX7_between_17 : decode cX7_between 17 = .ok (.invokevirtual 256, 3) := dTo2_8.2.1.2.1
theorem dX7_between_20 : decode cX7_between 20 = .ok (.astore_n 2, 1) := dTo2_8.2.1.2.2.1
theorem dX7_between_21 : decode cX7_between 21 = .ok (.aload_n 2, 1) := dTo2_8.2.1.2.2.2.1
theorem dX7_between_22 : decode cX7_between 22 = .ok (.bipush (-4), 2) := dTo2_8.2.1.2.2.2.2.1
theorem dX7_between_24 : decode cX7_between 24 = .ok (.invokestatic 38, 3) := dTo2_8.2.1.2.2.2.2.2.1
theorem dX7_between_27 : decode cX7_between 27 = .ok (.invokestatic 106, 3) := dTo2_8.2.1.2.2.2.2.2.2.1
theorem dX7_between_30 : decode cX7_between 30 = .ok (.ifCond .le 31, 3) := dTo2_8.2.1.2.2.2.2.2.2.2.1
theorem dX7_between_33 : decode cX7_between 33 = .ok (.aload_n 2, 1) := dTo2_8.2.1.2.2.2.2.2.2.2.2.1
theorem dX7_between_34 : decode cX7_between 34 = .ok (.iload_n 1, 1) := dTo2_8.2.1.2.2.2.2.2.2.2.2.2.1
theorem dX7_between_35 : decode cX7_between 35 = .ok (.invokestatic 38, 3) := dTo2_8.2.2.1.1
theorem dX7_between_38 : decode cX7_between 38 = .ok (.invokestatic 106, 3) := dTo2_8.2.2.1.2.1
theorem dX7_between_41 : decode cX7_between 41 = .ok (.ifCond .le 20, 3) := dTo2_8.2.2.1.2.2.1
theorem dX7_between_44 : decode cX7_between 44 = .ok (.aload_n 2, 1) := dTo2_8.2.2.1.2.2.2.1
theorem dX7_between_45 : decode cX7_between 45 = .ok (.aload_n 0, 1) := dTo2_8.2.2.1.2.2.2.2.1
theorem dX7_between_46 : decode cX7_between 46 = .ok (.iconst 1, 1) := dTo2_8.2.2.1.2.2.2.2.2.1
theorem dX7_between_47 : decode cX7_between 47 = .ok (.iload_n 1, 1) := dTo2_8.2.2.1.2.2.2.2.2.2.1
theorem dX7_between_48 : decode cX7_between 48 = .ok (.invokevirtual 256, 3) := dTo2_8.2.2.1.2.2.2.2.2.2.2.1
theorem dX7_between_51 : decode cX7_between 51 = .ok (.invokestatic 106, 3) := dTo2_8.2.2.1.2.2.2.2.2.2.2.2.1
theorem dX7_between_54 : decode cX7_between 54 = .ok (.ifCond .ge 7, 3) := dTo2_8.2.2.1.2.2.2.2.2.2.2.2.2.1
theorem dX7_between_57 : decode cX7_between 57 = .ok (.iconst 1, 1) := dTo2_8.2.2.2.1.1
theorem dX7_between_58 : decode cX7_between 58 = .ok (.goto 4, 3) := dTo2_8.2.2.2.1.2.1
theorem dX7_between_61 : decode cX7_between 61 = .ok (.iconst 0, 1) := dTo2_8.2.2.2.1.2.2.1
theorem dX7_between_62 : decode cX7_between 62 = .ok (.ireturn, 1) := dTo2_8.2.2.2.1.2.2.2.1
theorem dTo2_9 : dQ cX7_lies [[(0, zop42, 0, 0), (1, zop6, 0, 0), (2, zop27, 0, 0), (3, zop184, 1, 3), (6, zop182, 1, 6), (9, zop153, 0, 23), (12, zop42, 0, 0), (13, zop6, 0, 0), (14, zop27, 0, 0), (15, zop182, 1, 0)], [(18, zop27, 0, 0), (19, zop184, 0, 38), (22, zop184, 0, 106), (25, zop156, 0, 7), (28, zop4, 0, 0), (29, zop167, 0, 4), (32, zop3, 0, 0), (33, zop172, 0, 0)]] := dQ_of _ _ (by decide +kernel)
theorem dX7_lies_0 : decode cX7_lies 0 = .ok (.aload_n 0, 1) := dTo2_9.1.1
theorem dX7_lies_1 : decode cX7_lies 1 = .ok (.iconst 3, 1) := dTo2_9.1.2.1
theorem dX7_lies_2 : decode cX7_lies 2 = .ok (.iload_n 1, 1) := dTo2_9.1.2.2.1
theorem dX7_lies_3 : decode cX7_lies 3 = .ok (.invokestatic 259, 3) := dTo2_9.1.2.2.2.1
theorem dX7_lies_6 : decode cX7_lies 6 = .ok (.invokevirtual 262, 3) := dTo2_9.1.2.2.2.2.1
theorem dX7_lies_9 : decode cX7_lies 9 = .ok (.ifCond .eq 23, 3) := dTo2_9.1.2.2.2.2.2.1
theorem dX7_lies_12 : decode cX7_lies 12 = .ok (.aload_n 0, 1) := dTo2_9.1.2.2.2.2.2.2.1
theorem dX7_lies_13 : decode cX7_lies 13 = .ok (.iconst 3, 1) := dTo2_9.1.2.2.2.2.2.2.2.1
theorem dX7_lies_14 : decode cX7_lies 14 = .ok (.iload_n 1, 1) := dTo2_9.1.2.2.2.2.2.2.2.2.1
theorem dX7_lies_15 : decode cX7_lies 15 = .ok (.invokevirtual 256, 3) := dTo2_9.1.2.2.2.2.2.2.2.2.2.1
theorem dX7_lies_18 : decode cX7_lies 18 = .ok (.iload_n 1, 1) := dTo2_9.2.1.1
theorem dX7_lies_19 : decode cX7_lies 19 = .ok (.invokestatic 38, 3) := dTo2_9.2.1.2.1
theorem dX7_lies_22 : decode cX7_lies 22 = .ok (.invokestatic 106, 3) := dTo2_9.2.1.2.2.1
theorem dX7_lies_25 : decode cX7_lies 25 = .ok (.ifCond .ge 7, 3) := dTo2_9.2.1.2.2.2.1
theorem dX7_lies_28 : decode cX7_lies 28 = .ok (.iconst 1, 1) := dTo2_9.2.1.2.2.2.2.1
theorem dX7_lies_29 : decode cX7_lies 29 = .ok (.goto 4, 3) := dTo2_9.2.1.2.2.2.2.2.1
theorem dX7_lies_32 : decode cX7_lies 32 = .ok (.iconst 0, 1) := dTo2_9.2.1.2.2.2.2.2.2.1
theorem dX7_lies_33 : decode cX7_lies 33 = .ok (.ireturn, 1) := dTo2_9.2.1.2.2.2.2.2.2.2.1
theorem dTo2_10 : dQ cX7_undone [[(0, zop42, 0, 0), (1, zop27, 0, 0), (2, zop16, 252, 0), (4, zop17, 0, 144), (7, zop184, 0, 113), (10, zop182, 1, 6), (13, zop172, 0, 0)]] := dQ_of _ _ (by decide +kernel)
theorem dX7_undone_0 : decode cX7_undone 0 = .ok (.aload_n 0, 1) := dTo2_10.1.1
theorem dX7_undone_1 : decode cX7_undone 1 = .ok (.iload_n 1, 1) := dTo2_10.1.2.1
theorem dX7_undone_2 : decode cX7_undone 2 = .ok (.bipush (-4), 2) := dTo2_10.1.2.2.1
theorem dX7_undone_4 : decode cX7_undone 4 = .ok (.sipush 144, 3) := dTo2_10.1.2.2.2.1
theorem dX7_undone_7 : decode cX7_undone 7 = .ok (.invokestatic 113, 3) := dTo2_10.1.2.2.2.2.1
theorem dX7_undone_10 : decode cX7_undone 10 = .ok (.invokevirtual 262, 3) := dTo2_10.1.2.2.2.2.2.1
theorem dX7_undone_13 : decode cX7_undone 13 = .ok (.ireturn, 1) := dTo2_10.1.2.2.2.2.2.2.1
theorem dTo2_11 : dQ cX7_comesBack [[(0, zop42, 0, 0), (1, zop27, 0, 0), (2, zop16, 224, 0), (4, zop16, 251, 0), (6, zop184, 0, 113), (9, zop182, 1, 6), (12, zop172, 0, 0)]] := dQ_of _ _ (by decide +kernel)
theorem dX7_comesBack_0 : decode cX7_comesBack 0 = .ok (.aload_n 0, 1) := dTo2_11.1.1
theorem dX7_comesBack_1 : decode cX7_comesBack 1 = .ok (.iload_n 1, 1) := dTo2_11.1.2.1
theorem dX7_comesBack_2 : decode cX7_comesBack 2 = .ok (.bipush (-32), 2) := dTo2_11.1.2.2.1
theorem dX7_comesBack_4 : decode cX7_comesBack 4 = .ok (.bipush (-5), 2) := dTo2_11.1.2.2.2.1
theorem dX7_comesBack_6 : decode cX7_comesBack 6 = .ok (.invokestatic 113, 3) := dTo2_11.1.2.2.2.2.1
theorem dX7_comesBack_9 : decode cX7_comesBack 9 = .ok (.invokevirtual 262, 3) := dTo2_11.1.2.2.2.2.2.1
theorem dX7_comesBack_12 : decode cX7_comesBack 12 = .ok (.ireturn, 1) := dTo2_11.1.2.2.2.2.2.2.1
theorem dTo2_12 : dQ cX7_comesForth [[(0, zop42, 0, 0), (1, zop27, 0, 0), (2, zop16, 253, 0), (4, zop17, 0, 160), (7, zop184, 0, 113), (10, zop182, 1, 6), (13, zop172, 0, 0)]] := dQ_of _ _ (by decide +kernel)
theorem dX7_comesForth_0 : decode cX7_comesForth 0 = .ok (.aload_n 0, 1) := dTo2_12.1.1
theorem dX7_comesForth_1 : decode cX7_comesForth 1 = .ok (.iload_n 1, 1) := dTo2_12.1.2.1
theorem dX7_comesForth_2 : decode cX7_comesForth 2 = .ok (.bipush (-3), 2) := dTo2_12.1.2.2.1
theorem dX7_comesForth_4 : decode cX7_comesForth 4 = .ok (.sipush 160, 3) := dTo2_12.1.2.2.2.1
theorem dX7_comesForth_7 : decode cX7_comesForth 7 = .ok (.invokestatic 113, 3) := dTo2_12.1.2.2.2.2.1
theorem dX7_comesForth_10 : decode cX7_comesForth 10 = .ok (.invokevirtual 262, 3) := dTo2_12.1.2.2.2.2.2.1
theorem dX7_comesForth_13 : decode cX7_comesForth 13 = .ok (.ireturn, 1) := dTo2_12.1.2.2.2.2.2.2.1
theorem dTo2_13 : dQ cX7_opposite [[(0, zop42, 0, 0), (1, zop27, 0, 0), (2, zop17, 255, 96), (5, zop17, 0, 160), (8, zop184, 0, 113), (11, zop182, 1, 6), (14, zop172, 0, 0)]] := dQ_of _ _ (by decide +kernel)
theorem dX7_opposite_0 : decode cX7_opposite 0 = .ok (.aload_n 0, 1) := dTo2_13.1.1
theorem dX7_opposite_1 : decode cX7_opposite 1 = .ok (.iload_n 1, 1) := dTo2_13.1.2.1
theorem dX7_opposite_2 : decode cX7_opposite 2 = .ok (.sipush (-160), 3) := dTo2_13.1.2.2.1
theorem dX7_opposite_5 : decode cX7_opposite 5 = .ok (.sipush 160, 3) := dTo2_13.1.2.2.2.1
theorem dX7_opposite_8 : decode cX7_opposite 8 = .ok (.invokestatic 113, 3) := dTo2_13.1.2.2.2.2.1
theorem dX7_opposite_11 : decode cX7_opposite 11 = .ok (.invokevirtual 262, 3) := dTo2_13.1.2.2.2.2.2.1
theorem dX7_opposite_14 : decode cX7_opposite 14 = .ok (.ireturn, 1) := dTo2_13.1.2.2.2.2.2.2.1
theorem dTo2_14 : dQ cX7_house [[(0, zop42, 0, 0), (1, zop27, 0, 0), (2, zop3, 0, 0), (3, zop7, 0, 0), (4, zop184, 0, 113), (7, zop182, 1, 6), (10, zop154, 0, 5), (13, zop3, 0, 0), (14, zop172, 0, 0), (15, zop27, 0, 0)], [(16, zop6, 0, 0), (17, zop162, 0, 31), (20, zop27, 0, 0), (21, zop154, 0, 10), (24, zop42, 0, 0), (25, zop180, 0, 117), (28, zop167, 0, 19), (31, zop27, 0, 0), (32, zop4, 0, 0), (33, zop160, 0, 10)], [(36, zop42, 0, 0), (37, zop180, 0, 120), (40, zop167, 0, 7), (43, zop42, 0, 0), (44, zop180, 1, 10), (47, zop172, 0, 0), (48, zop3, 0, 0), (49, zop61, 0, 0), (50, zop3, 0, 0), (51, zop62, 0, 0)], [(52, zop29, 0, 0), (53, zop16, 8, 0), (55, zop162, 0, 64), (58, zop27, 0, 0), (59, zop6, 0, 0), (60, zop160, 0, 15), (63, zop42, 0, 0), (64, zop180, 0, 28), (67, zop29, 0, 0), (68, zop46, 0, 0)], [(69, zop154, 0, 6), (72, zop132, 2, 1), (75, zop3, 0, 0), (76, zop54, 4, 0), (78, zop27, 0, 0), (79, zop7, 0, 0), (80, zop160, 0, 33), (83, zop21, 4, 0), (85, zop29, 0, 0), (86, zop162, 0, 27)], [(89, zop28, 0, 0), (90, zop42, 0, 0), (91, zop21, 4, 0), (93, zop29, 0, 0), (94, zop182, 0, 240), (97, zop153, 0, 7), (100, zop4, 0, 0), (101, zop167, 0, 4), (104, zop3, 0, 0), (105, zop96, 0, 0)]] := dQ_of _ _ (by decide +kernel)
theorem dX7_house_0 : decode cX7_house 0 = .ok (.aload_n 0, 1) := dTo2_14.1.1
theorem dX7_house_1 : decode cX7_house 1 = .ok (.iload_n 1, 1) := dTo2_14.1.2.1
theorem dX7_house_2 : decode cX7_house 2 = .ok (.iconst 0, 1) := dTo2_14.1.2.2.1
theorem dX7_house_3 : decode cX7_house 3 = .ok (.iconst 4, 1) := dTo2_14.1.2.2.2.1
theorem dX7_house_4 : decode cX7_house 4 = .ok (.invokestatic 113, 3) := dTo2_14.1.2.2.2.2.1
theorem dX7_house_7 : decode cX7_house 7 = .ok (.invokevirtual 262, 3) := dTo2_14.1.2.2.2.2.2.1
theorem dX7_house_10 : decode cX7_house 10 = .ok (.ifCond .ne 5, 3) := dTo2_14.1.2.2.2.2.2.2.1
theorem dX7_house_13 : decode cX7_house 13 = .ok (.iconst 0, 1) := dTo2_14.1.2.2.2.2.2.2.2.1
theorem dX7_house_14 : decode cX7_house 14 = .ok (.ireturn, 1) := dTo2_14.1.2.2.2.2.2.2.2.2.1
theorem dX7_house_15 : decode cX7_house 15 = .ok (.iload_n 1, 1) := dTo2_14.1.2.2.2.2.2.2.2.2.2.1
theorem dX7_house_16 : decode cX7_house 16 = .ok (.iconst 3, 1) := dTo2_14.2.1.1
theorem dX7_house_17 : decode cX7_house 17 = .ok (.if_icmp .ge 31, 3) := dTo2_14.2.1.2.1
theorem dX7_house_20 : decode cX7_house 20 = .ok (.iload_n 1, 1) := dTo2_14.2.1.2.2.1
theorem dX7_house_21 : decode cX7_house 21 = .ok (.ifCond .ne 10, 3) := dTo2_14.2.1.2.2.2.1
theorem dX7_house_24 : decode cX7_house 24 = .ok (.aload_n 0, 1) := dTo2_14.2.1.2.2.2.2.1
theorem dX7_house_25 : decode cX7_house 25 = .ok (.getfield 117, 3) := dTo2_14.2.1.2.2.2.2.2.1
theorem dX7_house_28 : decode cX7_house 28 = .ok (.goto 19, 3) := dTo2_14.2.1.2.2.2.2.2.2.1
theorem dX7_house_31 : decode cX7_house 31 = .ok (.iload_n 1, 1) := dTo2_14.2.1.2.2.2.2.2.2.2.1
theorem dX7_house_32 : decode cX7_house 32 = .ok (.iconst 1, 1) := dTo2_14.2.1.2.2.2.2.2.2.2.2.1
theorem dX7_house_33 : decode cX7_house 33 = .ok (.if_icmp .ne 10, 3) := dTo2_14.2.1.2.2.2.2.2.2.2.2.2.1
theorem dX7_house_36 : decode cX7_house 36 = .ok (.aload_n 0, 1) := dTo2_14.2.2.1.1
theorem dX7_house_37 : decode cX7_house 37 = .ok (.getfield 120, 3) := dTo2_14.2.2.1.2.1
theorem dX7_house_40 : decode cX7_house 40 = .ok (.goto 7, 3) := dTo2_14.2.2.1.2.2.1
theorem dX7_house_43 : decode cX7_house 43 = .ok (.aload_n 0, 1) := dTo2_14.2.2.1.2.2.2.1
theorem dX7_house_44 : decode cX7_house 44 = .ok (.getfield 266, 3) := dTo2_14.2.2.1.2.2.2.2.1
theorem dX7_house_47 : decode cX7_house 47 = .ok (.ireturn, 1) := dTo2_14.2.2.1.2.2.2.2.2.1
theorem dX7_house_48 : decode cX7_house 48 = .ok (.iconst 0, 1) := dTo2_14.2.2.1.2.2.2.2.2.2.1
theorem dX7_house_49 : decode cX7_house 49 = .ok (.istore_n 2, 1) := dTo2_14.2.2.1.2.2.2.2.2.2.2.1
theorem dX7_house_50 : decode cX7_house 50 = .ok (.iconst 0, 1) := dTo2_14.2.2.1.2.2.2.2.2.2.2.2.1
theorem dX7_house_51 : decode cX7_house 51 = .ok (.istore_n 3, 1) := dTo2_14.2.2.1.2.2.2.2.2.2.2.2.2.1
theorem dX7_house_52 : decode cX7_house 52 = .ok (.iload_n 3, 1) := dTo2_14.2.2.2.1.1
theorem dX7_house_53 : decode cX7_house 53 = .ok (.bipush 8, 2) := dTo2_14.2.2.2.1.2.1
theorem dX7_house_55 : decode cX7_house 55 = .ok (.if_icmp .ge 64, 3) := dTo2_14.2.2.2.1.2.2.1
theorem dX7_house_58 : decode cX7_house 58 = .ok (.iload_n 1, 1) := dTo2_14.2.2.2.1.2.2.2.1
theorem dX7_house_59 : decode cX7_house 59 = .ok (.iconst 3, 1) := dTo2_14.2.2.2.1.2.2.2.2.1
theorem dX7_house_60 : decode cX7_house 60 = .ok (.if_icmp .ne 15, 3) := dTo2_14.2.2.2.1.2.2.2.2.2.1
theorem dX7_house_63 : decode cX7_house 63 = .ok (.aload_n 0, 1) := dTo2_14.2.2.2.1.2.2.2.2.2.2.1
theorem dX7_house_64 : decode cX7_house 64 = .ok (.getfield 28, 3) := dTo2_14.2.2.2.1.2.2.2.2.2.2.2.1
theorem dX7_house_67 : decode cX7_house 67 = .ok (.iload_n 3, 1) := dTo2_14.2.2.2.1.2.2.2.2.2.2.2.2.1
theorem dX7_house_68 : decode cX7_house 68 = .ok (.iaload, 1) := dTo2_14.2.2.2.1.2.2.2.2.2.2.2.2.2.1
theorem dX7_house_69 : decode cX7_house 69 = .ok (.ifCond .ne 6, 3) := dTo2_14.2.2.2.2.1.1
theorem dX7_house_72 : decode cX7_house 72 = .ok (.iinc 2 1, 3) := dTo2_14.2.2.2.2.1.2.1
theorem dX7_house_75 : decode cX7_house 75 = .ok (.iconst 0, 1) := dTo2_14.2.2.2.2.1.2.2.1
theorem dX7_house_76 : decode cX7_house 76 = .ok (.istore 4, 2) := dTo2_14.2.2.2.2.1.2.2.2.1
theorem dX7_house_78 : decode cX7_house 78 = .ok (.iload_n 1, 1) := dTo2_14.2.2.2.2.1.2.2.2.2.1
theorem dX7_house_79 : decode cX7_house 79 = .ok (.iconst 4, 1) := dTo2_14.2.2.2.2.1.2.2.2.2.2.1
theorem dX7_house_80 : decode cX7_house 80 = .ok (.if_icmp .ne 33, 3) := dTo2_14.2.2.2.2.1.2.2.2.2.2.2.1
theorem dX7_house_83 : decode cX7_house 83 = .ok (.iload 4, 2) := dTo2_14.2.2.2.2.1.2.2.2.2.2.2.2.1
theorem dX7_house_85 : decode cX7_house 85 = .ok (.iload_n 3, 1) := dTo2_14.2.2.2.2.1.2.2.2.2.2.2.2.2.1
theorem dX7_house_86 : decode cX7_house 86 = .ok (.if_icmp .ge 27, 3) := dTo2_14.2.2.2.2.1.2.2.2.2.2.2.2.2.2.1
theorem dX7_house_89 : decode cX7_house 89 = .ok (.iload_n 2, 1) := dTo2_14.2.2.2.2.2.1.1
theorem dX7_house_90 : decode cX7_house 90 = .ok (.aload_n 0, 1) := dTo2_14.2.2.2.2.2.1.2.1
theorem dX7_house_91 : decode cX7_house 91 = .ok (.iload 4, 2) := dTo2_14.2.2.2.2.2.1.2.2.1
theorem dX7_house_93 : decode cX7_house 93 = .ok (.iload_n 3, 1) := dTo2_14.2.2.2.2.2.1.2.2.2.1
theorem dX7_house_94 : decode cX7_house 94 = .ok (.invokevirtual 240, 3) := dTo2_14.2.2.2.2.2.1.2.2.2.2.1
theorem dX7_house_97 : decode cX7_house 97 = .ok (.ifCond .eq 7, 3) := dTo2_14.2.2.2.2.2.1.2.2.2.2.2.1
theorem dX7_house_100 : decode cX7_house 100 = .ok (.iconst 1, 1) := dTo2_14.2.2.2.2.2.1.2.2.2.2.2.2.1
theorem dX7_house_101 : decode cX7_house 101 = .ok (.goto 4, 3) := dTo2_14.2.2.2.2.2.1.2.2.2.2.2.2.2.1
theorem dX7_house_104 : decode cX7_house 104 = .ok (.iconst 0, 1) := dTo2_14.2.2.2.2.2.1.2.2.2.2.2.2.2.2.1
theorem dX7_house_105 : decode cX7_house 105 = .ok (.iadd, 1) := dTo2_14.2.2.2.2.2.1.2.2.2.2.2.2.2.2.2.1
theorem dTo2_15 : dQ cX7_house [[(106, zop61, 0, 0), (107, zop132, 4, 1), (110, zop167, 255, 224), (113, zop132, 3, 1), (116, zop167, 255, 192), (119, zop28, 0, 0), (120, zop172, 0, 0)]] := dQ_of _ _ (by decide +kernel)
theorem dX7_house_106 : decode cX7_house 106 = .ok (.istore_n 2, 1) := dTo2_15.1.1
theorem dX7_house_107 : decode cX7_house 107 = .ok (.iinc 4 1, 3) := dTo2_15.1.2.1
theorem dX7_house_110 : decode cX7_house 110 = .ok (.goto (-32), 3) := dTo2_15.1.2.2.1
theorem dX7_house_113 : decode cX7_house 113 = .ok (.iinc 3 1, 3) := dTo2_15.1.2.2.2.1
theorem dX7_house_116 : decode cX7_house 116 = .ok (.goto (-64), 3) := dTo2_15.1.2.2.2.2.1
theorem dX7_house_119 : decode cX7_house 119 = .ok (.iload_n 2, 1) := dTo2_15.1.2.2.2.2.2.1
theorem dX7_house_120 : decode cX7_house 120 = .ok (.ireturn, 1) := dTo2_15.1.2.2.2.2.2.2.1
theorem dTo2_16 : dQ cX7_knock [[(0, zop42, 0, 0), (1, zop3, 0, 0), (2, zop181, 0, 50), (5, zop42, 0, 0), (6, zop89, 0, 0), (7, zop180, 1, 10), (10, zop4, 0, 0), (11, zop96, 0, 0), (12, zop181, 1, 10), (15, zop42, 0, 0)], [(16, zop180, 1, 10), (19, zop172, 0, 0)]] := dQ_of _ _ (by decide +kernel)
theorem dX7_knock_0 : decode cX7_knock 0 = .ok (.aload_n 0, 1) := dTo2_16.1.1
theorem dX7_knock_1 : decode cX7_knock 1 = .ok (.iconst 0, 1) := dTo2_16.1.2.1
theorem dX7_knock_2 : decode cX7_knock 2 = .ok (.putfield 50, 3) := dTo2_16.1.2.2.1
theorem dX7_knock_5 : decode cX7_knock 5 = .ok (.aload_n 0, 1) := dTo2_16.1.2.2.2.1
theorem dX7_knock_6 : decode cX7_knock 6 = .ok (.dup, 1) := dTo2_16.1.2.2.2.2.1
theorem dX7_knock_7 : decode cX7_knock 7 = .ok (.getfield 266, 3) := dTo2_16.1.2.2.2.2.2.1
theorem dX7_knock_10 : decode cX7_knock 10 = .ok (.iconst 1, 1) := dTo2_16.1.2.2.2.2.2.2.1
theorem dX7_knock_11 : decode cX7_knock 11 = .ok (.iadd, 1) := dTo2_16.1.2.2.2.2.2.2.2.1
theorem dX7_knock_12 : decode cX7_knock 12 = .ok (.putfield 266, 3) := dTo2_16.1.2.2.2.2.2.2.2.2.1
theorem dX7_knock_15 : decode cX7_knock 15 = .ok (.aload_n 0, 1) := dTo2_16.1.2.2.2.2.2.2.2.2.2.1
theorem dX7_knock_16 : decode cX7_knock 16 = .ok (.getfield 266, 3) := dTo2_16.2.1.1
theorem dX7_knock_19 : decode cX7_knock 19 = .ok (.ireturn, 1) := dTo2_16.2.1.2.1
theorem dTo2_17 : dQ cX7_isSound [[(0, zop42, 0, 0), (1, zop3, 0, 0), (2, zop181, 0, 50), (5, zop4, 0, 0), (6, zop172, 0, 0)]] := dQ_of _ _ (by decide +kernel)
theorem dX7_isSound_0 : decode cX7_isSound 0 = .ok (.aload_n 0, 1) := dTo2_17.1.1
theorem dX7_isSound_1 : decode cX7_isSound 1 = .ok (.iconst 0, 1) := dTo2_17.1.2.1
theorem dX7_isSound_2 : decode cX7_isSound 2 = .ok (.putfield 50, 3) := dTo2_17.1.2.2.1
theorem dX7_isSound_5 : decode cX7_isSound 5 = .ok (.iconst 1, 1) := dTo2_17.1.2.2.2.1
theorem dX7_isSound_6 : decode cX7_isSound 6 = .ok (.ireturn, 1) := dTo2_17.1.2.2.2.2.1
theorem dTo2_18 : dQ cX7_digest [[(0, zop20, 1, 13), (3, zop64, 0, 0), (4, zop3, 0, 0), (5, zop62, 0, 0), (6, zop29, 0, 0), (7, zop16, 8, 0), (9, zop162, 0, 216), (12, zop31, 0, 0), (13, zop20, 1, 15), (16, zop105, 0, 0)], [(17, zop42, 0, 0), (18, zop29, 0, 0), (19, zop182, 1, 17), (22, zop133, 0, 0), (23, zop97, 0, 0), (24, zop64, 0, 0), (25, zop31, 0, 0), (26, zop20, 1, 15), (29, zop105, 0, 0), (30, zop42, 0, 0)], [(31, zop29, 0, 0), (32, zop182, 1, 20), (35, zop133, 0, 0), (36, zop97, 0, 0), (37, zop64, 0, 0), (38, zop31, 0, 0), (39, zop20, 1, 15), (42, zop105, 0, 0), (43, zop42, 0, 0), (44, zop29, 0, 0)], [(45, zop182, 1, 23), (48, zop153, 0, 7), (51, zop4, 0, 0), (52, zop167, 0, 4), (55, zop3, 0, 0), (56, zop133, 0, 0), (57, zop97, 0, 0), (58, zop64, 0, 0), (59, zop42, 0, 0), (60, zop29, 0, 0)], [(61, zop182, 0, 174), (64, zop154, 0, 11), (67, zop42, 0, 0), (68, zop29, 0, 0), (69, zop182, 0, 109), (72, zop153, 0, 12), (75, zop31, 0, 0), (76, zop20, 1, 15), (79, zop105, 0, 0), (80, zop64, 0, 0)], [(81, zop167, 0, 27), (84, zop31, 0, 0), (85, zop20, 1, 15), (88, zop105, 0, 0), (89, zop42, 0, 0), (90, zop29, 0, 0), (91, zop182, 1, 26), (94, zop133, 0, 0), (95, zop97, 0, 0), (96, zop20, 1, 15)]] := dQ_of _ _ (by decide +kernel)
theorem dX7_digest_0 : decode cX7_digest 0 = .ok (.ldc2_w 269, 3) := dTo2_18.1.1
theorem dX7_digest_3 : decode cX7_digest 3 = .ok (.lstore_n 1, 1) := dTo2_18.1.2.1
theorem dX7_digest_4 : decode cX7_digest 4 = .ok (.iconst 0, 1) := dTo2_18.1.2.2.1
theorem dX7_digest_5 : decode cX7_digest 5 = .ok (.istore_n 3, 1) := dTo2_18.1.2.2.2.1
theorem dX7_digest_6 : decode cX7_digest 6 = .ok (.iload_n 3, 1) := dTo2_18.1.2.2.2.2.1
theorem dX7_digest_7 : decode cX7_digest 7 = .ok (.bipush 8, 2) := dTo2_18.1.2.2.2.2.2.1
theorem dX7_digest_9 : decode cX7_digest 9 = .ok (.if_icmp .ge 216, 3) := dTo2_18.1.2.2.2.2.2.2.1
theorem dX7_digest_12 : decode cX7_digest 12 = .ok (.lload_n 1, 1) := dTo2_18.1.2.2.2.2.2.2.2.1
theorem dX7_digest_13 : decode cX7_digest 13 = .ok (.ldc2_w 271, 3) := dTo2_18.1.2.2.2.2.2.2.2.2.1
theorem dX7_digest_16 : decode cX7_digest 16 = .ok (.lmul, 1) := dTo2_18.1.2.2.2.2.2.2.2.2.2.1
theorem dX7_digest_17 : decode cX7_digest 17 = .ok (.aload_n 0, 1) := dTo2_18.2.1.1
theorem dX7_digest_18 : decode cX7_digest 18 = .ok (.iload_n 3, 1) := dTo2_18.2.1.2.1
theorem dX7_digest_19 : decode cX7_digest 19 = .ok (.invokevirtual 273, 3) := dTo2_18.2.1.2.2.1
theorem dX7_digest_22 : decode cX7_digest 22 = .ok (.i2l, 1) := dTo2_18.2.1.2.2.2.1
theorem dX7_digest_23 : decode cX7_digest 23 = .ok (.ladd, 1) := dTo2_18.2.1.2.2.2.2.1
theorem dX7_digest_24 : decode cX7_digest 24 = .ok (.lstore_n 1, 1) := dTo2_18.2.1.2.2.2.2.2.1
theorem dX7_digest_25 : decode cX7_digest 25 = .ok (.lload_n 1, 1) := dTo2_18.2.1.2.2.2.2.2.2.1
theorem dX7_digest_26 : decode cX7_digest 26 = .ok (.ldc2_w 271, 3) := dTo2_18.2.1.2.2.2.2.2.2.2.1
theorem dX7_digest_29 : decode cX7_digest 29 = .ok (.lmul, 1) := dTo2_18.2.1.2.2.2.2.2.2.2.2.1
theorem dX7_digest_30 : decode cX7_digest 30 = .ok (.aload_n 0, 1) := dTo2_18.2.1.2.2.2.2.2.2.2.2.2.1
theorem dX7_digest_31 : decode cX7_digest 31 = .ok (.iload_n 3, 1) := dTo2_18.2.2.1.1
theorem dX7_digest_32 : decode cX7_digest 32 = .ok (.invokevirtual 276, 3) := dTo2_18.2.2.1.2.1
theorem dX7_digest_35 : decode cX7_digest 35 = .ok (.i2l, 1) := dTo2_18.2.2.1.2.2.1
theorem dX7_digest_36 : decode cX7_digest 36 = .ok (.ladd, 1) := dTo2_18.2.2.1.2.2.2.1
theorem dX7_digest_37 : decode cX7_digest 37 = .ok (.lstore_n 1, 1) := dTo2_18.2.2.1.2.2.2.2.1
theorem dX7_digest_38 : decode cX7_digest 38 = .ok (.lload_n 1, 1) := dTo2_18.2.2.1.2.2.2.2.2.1
theorem dX7_digest_39 : decode cX7_digest 39 = .ok (.ldc2_w 271, 3) := dTo2_18.2.2.1.2.2.2.2.2.2.1
theorem dX7_digest_42 : decode cX7_digest 42 = .ok (.lmul, 1) := dTo2_18.2.2.1.2.2.2.2.2.2.2.1
theorem dX7_digest_43 : decode cX7_digest 43 = .ok (.aload_n 0, 1) := dTo2_18.2.2.1.2.2.2.2.2.2.2.2.1
theorem dX7_digest_44 : decode cX7_digest 44 = .ok (.iload_n 3, 1) := dTo2_18.2.2.1.2.2.2.2.2.2.2.2.2.1
theorem dX7_digest_45 : decode cX7_digest 45 = .ok (.invokevirtual 279, 3) := dTo2_18.2.2.2.1.1
theorem dX7_digest_48 : decode cX7_digest 48 = .ok (.ifCond .eq 7, 3) := dTo2_18.2.2.2.1.2.1
theorem dX7_digest_51 : decode cX7_digest 51 = .ok (.iconst 1, 1) := dTo2_18.2.2.2.1.2.2.1
theorem dX7_digest_52 : decode cX7_digest 52 = .ok (.goto 4, 3) := dTo2_18.2.2.2.1.2.2.2.1
theorem dX7_digest_55 : decode cX7_digest 55 = .ok (.iconst 0, 1) := dTo2_18.2.2.2.1.2.2.2.2.1
theorem dX7_digest_56 : decode cX7_digest 56 = .ok (.i2l, 1) := dTo2_18.2.2.2.1.2.2.2.2.2.1
theorem dX7_digest_57 : decode cX7_digest 57 = .ok (.ladd, 1) := dTo2_18.2.2.2.1.2.2.2.2.2.2.1
theorem dX7_digest_58 : decode cX7_digest 58 = .ok (.lstore_n 1, 1) := dTo2_18.2.2.2.1.2.2.2.2.2.2.2.1
theorem dX7_digest_59 : decode cX7_digest 59 = .ok (.aload_n 0, 1) := dTo2_18.2.2.2.1.2.2.2.2.2.2.2.2.1
theorem dX7_digest_60 : decode cX7_digest 60 = .ok (.iload_n 3, 1) := dTo2_18.2.2.2.1.2.2.2.2.2.2.2.2.2.1
theorem dX7_digest_61 : decode cX7_digest 61 = .ok (.invokevirtual 174, 3) := dTo2_18.2.2.2.2.1.1
theorem dX7_digest_64 : decode cX7_digest 64 = .ok (.ifCond .ne 11, 3) := dTo2_18.2.2.2.2.1.2.1
theorem dX7_digest_67 : decode cX7_digest 67 = .ok (.aload_n 0, 1) := dTo2_18.2.2.2.2.1.2.2.1
theorem dX7_digest_68 : decode cX7_digest 68 = .ok (.iload_n 3, 1) := dTo2_18.2.2.2.2.1.2.2.2.1
theorem dX7_digest_69 : decode cX7_digest 69 = .ok (.invokevirtual 109, 3) := dTo2_18.2.2.2.2.1.2.2.2.2.1
theorem dX7_digest_72 : decode cX7_digest 72 = .ok (.ifCond .eq 12, 3) := dTo2_18.2.2.2.2.1.2.2.2.2.2.1
theorem dX7_digest_75 : decode cX7_digest 75 = .ok (.lload_n 1, 1) := dTo2_18.2.2.2.2.1.2.2.2.2.2.2.1
theorem dX7_digest_76 : decode cX7_digest 76 = .ok (.ldc2_w 271, 3) := dTo2_18.2.2.2.2.1.2.2.2.2.2.2.2.1
theorem dX7_digest_79 : decode cX7_digest 79 = .ok (.lmul, 1) := dTo2_18.2.2.2.2.1.2.2.2.2.2.2.2.2.1
theorem dX7_digest_80 : decode cX7_digest 80 = .ok (.lstore_n 1, 1) := dTo2_18.2.2.2.2.1.2.2.2.2.2.2.2.2.2.1
theorem dX7_digest_81 : decode cX7_digest 81 = .ok (.goto 27, 3) := dTo2_18.2.2.2.2.2.1.1
theorem dX7_digest_84 : decode cX7_digest 84 = .ok (.lload_n 1, 1) := dTo2_18.2.2.2.2.2.1.2.1
theorem dX7_digest_85 : decode cX7_digest 85 = .ok (.ldc2_w 271, 3) := dTo2_18.2.2.2.2.2.1.2.2.1
theorem dX7_digest_88 : decode cX7_digest 88 = .ok (.lmul, 1) := dTo2_18.2.2.2.2.2.1.2.2.2.1
theorem dX7_digest_89 : decode cX7_digest 89 = .ok (.aload_n 0, 1) := dTo2_18.2.2.2.2.2.1.2.2.2.2.1
theorem dX7_digest_90 : decode cX7_digest 90 = .ok (.iload_n 3, 1) := dTo2_18.2.2.2.2.2.1.2.2.2.2.2.1
theorem dX7_digest_91 : decode cX7_digest 91 = .ok (.invokevirtual 282, 3) := dTo2_18.2.2.2.2.2.1.2.2.2.2.2.2.1
theorem dX7_digest_94 : decode cX7_digest 94 = .ok (.i2l, 1) := dTo2_18.2.2.2.2.2.1.2.2.2.2.2.2.2.1
theorem dX7_digest_95 : decode cX7_digest 95 = .ok (.ladd, 1) := dTo2_18.2.2.2.2.2.1.2.2.2.2.2.2.2.2.1
theorem dX7_digest_96 : decode cX7_digest 96 = .ok (.ldc2_w 271, 3) := dTo2_18.2.2.2.2.2.1.2.2.2.2.2.2.2.2.2.1
theorem dTo2_19 : dQ cX7_digest [[(99, zop105, 0, 0), (100, zop42, 0, 0), (101, zop29, 0, 0), (102, zop182, 1, 29), (105, zop133, 0, 0), (106, zop97, 0, 0), (107, zop64, 0, 0), (108, zop42, 0, 0), (109, zop180, 0, 28), (112, zop29, 0, 0)], [(113, zop46, 0, 0), (114, zop4, 0, 0), (115, zop164, 0, 11), (118, zop31, 0, 0), (119, zop20, 1, 15), (122, zop105, 0, 0), (123, zop167, 0, 26), (126, zop31, 0, 0), (127, zop20, 1, 15), (130, zop105, 0, 0)], [(131, zop42, 0, 0), (132, zop29, 0, 0), (133, zop182, 1, 32), (136, zop133, 0, 0), (137, zop97, 0, 0), (138, zop20, 1, 15), (141, zop105, 0, 0), (142, zop42, 0, 0), (143, zop29, 0, 0), (144, zop182, 1, 35)], [(147, zop133, 0, 0), (148, zop97, 0, 0), (149, zop64, 0, 0), (150, zop31, 0, 0), (151, zop20, 1, 15), (154, zop105, 0, 0), (155, zop42, 0, 0), (156, zop29, 0, 0), (157, zop3, 0, 0), (158, zop182, 1, 38)], [(161, zop133, 0, 0), (162, zop97, 0, 0), (163, zop20, 1, 15), (166, zop105, 0, 0), (167, zop42, 0, 0), (168, zop29, 0, 0), (169, zop4, 0, 0), (170, zop182, 1, 38), (173, zop133, 0, 0), (174, zop97, 0, 0)], [(175, zop64, 0, 0), (176, zop31, 0, 0), (177, zop20, 1, 15), (180, zop105, 0, 0), (181, zop42, 0, 0), (182, zop29, 0, 0), (183, zop182, 1, 42), (186, zop133, 0, 0), (187, zop97, 0, 0), (188, zop64, 0, 0)]] := dQ_of _ _ (by decide +kernel)
theorem dX7_digest_99 : decode cX7_digest 99 = .ok (.lmul, 1) := dTo2_19.1.1
theorem dX7_digest_100 : decode cX7_digest 100 = .ok (.aload_n 0, 1) := dTo2_19.1.2.1
theorem dX7_digest_101 : decode cX7_digest 101 = .ok (.iload_n 3, 1) := dTo2_19.1.2.2.1
theorem dX7_digest_102 : decode cX7_digest 102 = .ok (.invokevirtual 285, 3) := dTo2_19.1.2.2.2.1
theorem dX7_digest_105 : decode cX7_digest 105 = .ok (.i2l, 1) := dTo2_19.1.2.2.2.2.1
theorem dX7_digest_106 : decode cX7_digest 106 = .ok (.ladd, 1) := dTo2_19.1.2.2.2.2.2.1
theorem dX7_digest_107 : decode cX7_digest 107 = .ok (.lstore_n 1, 1) := dTo2_19.1.2.2.2.2.2.2.1
theorem dX7_digest_108 : decode cX7_digest 108 = .ok (.aload_n 0, 1) := dTo2_19.1.2.2.2.2.2.2.2.1
theorem dX7_digest_109 : decode cX7_digest 109 = .ok (.getfield 28, 3) := dTo2_19.1.2.2.2.2.2.2.2.2.1
theorem dX7_digest_112 : decode cX7_digest 112 = .ok (.iload_n 3, 1) := dTo2_19.1.2.2.2.2.2.2.2.2.2.1
theorem dX7_digest_113 : decode cX7_digest 113 = .ok (.iaload, 1) := dTo2_19.2.1.1
theorem dX7_digest_114 : decode cX7_digest 114 = .ok (.iconst 1, 1) := dTo2_19.2.1.2.1
theorem dX7_digest_115 : decode cX7_digest 115 = .ok (.if_icmp .le 11, 3) := dTo2_19.2.1.2.2.1
theorem dX7_digest_118 : decode cX7_digest 118 = .ok (.lload_n 1, 1) := dTo2_19.2.1.2.2.2.1
theorem dX7_digest_119 : decode cX7_digest 119 = .ok (.ldc2_w 271, 3) := dTo2_19.2.1.2.2.2.2.1
theorem dX7_digest_122 : decode cX7_digest 122 = .ok (.lmul, 1) := dTo2_19.2.1.2.2.2.2.2.1
theorem dX7_digest_123 : decode cX7_digest 123 = .ok (.goto 26, 3) := dTo2_19.2.1.2.2.2.2.2.2.1
theorem dX7_digest_126 : decode cX7_digest 126 = .ok (.lload_n 1, 1) := dTo2_19.2.1.2.2.2.2.2.2.2.1
theorem dX7_digest_127 : decode cX7_digest 127 = .ok (.ldc2_w 271, 3) := dTo2_19.2.1.2.2.2.2.2.2.2.2.1
theorem dX7_digest_130 : decode cX7_digest 130 = .ok (.lmul, 1) := dTo2_19.2.1.2.2.2.2.2.2.2.2.2.1
theorem dX7_digest_131 : decode cX7_digest 131 = .ok (.aload_n 0, 1) := dTo2_19.2.2.1.1
theorem dX7_digest_132 : decode cX7_digest 132 = .ok (.iload_n 3, 1) := dTo2_19.2.2.1.2.1
theorem dX7_digest_133 : decode cX7_digest 133 = .ok (.invokevirtual 288, 3) := dTo2_19.2.2.1.2.2.1
theorem dX7_digest_136 : decode cX7_digest 136 = .ok (.i2l, 1) := dTo2_19.2.2.1.2.2.2.1
theorem dX7_digest_137 : decode cX7_digest 137 = .ok (.ladd, 1) := dTo2_19.2.2.1.2.2.2.2.1
theorem dX7_digest_138 : decode cX7_digest 138 = .ok (.ldc2_w 271, 3) := dTo2_19.2.2.1.2.2.2.2.2.1
theorem dX7_digest_141 : decode cX7_digest 141 = .ok (.lmul, 1) := dTo2_19.2.2.1.2.2.2.2.2.2.1
theorem dX7_digest_142 : decode cX7_digest 142 = .ok (.aload_n 0, 1) := dTo2_19.2.2.1.2.2.2.2.2.2.2.1
theorem dX7_digest_143 : decode cX7_digest 143 = .ok (.iload_n 3, 1) := dTo2_19.2.2.1.2.2.2.2.2.2.2.2.1
theorem dX7_digest_144 : decode cX7_digest 144 = .ok (.invokevirtual 291, 3) := dTo2_19.2.2.1.2.2.2.2.2.2.2.2.2.1
theorem dX7_digest_147 : decode cX7_digest 147 = .ok (.i2l, 1) := dTo2_19.2.2.2.1.1
theorem dX7_digest_148 : decode cX7_digest 148 = .ok (.ladd, 1) := dTo2_19.2.2.2.1.2.1
theorem dX7_digest_149 : decode cX7_digest 149 = .ok (.lstore_n 1, 1) := dTo2_19.2.2.2.1.2.2.1
theorem dX7_digest_150 : decode cX7_digest 150 = .ok (.lload_n 1, 1) := dTo2_19.2.2.2.1.2.2.2.1
theorem dX7_digest_151 : decode cX7_digest 151 = .ok (.ldc2_w 271, 3) := dTo2_19.2.2.2.1.2.2.2.2.1
theorem dX7_digest_154 : decode cX7_digest 154 = .ok (.lmul, 1) := dTo2_19.2.2.2.1.2.2.2.2.2.1
theorem dX7_digest_155 : decode cX7_digest 155 = .ok (.aload_n 0, 1) := dTo2_19.2.2.2.1.2.2.2.2.2.2.1
theorem dX7_digest_156 : decode cX7_digest 156 = .ok (.iload_n 3, 1) := dTo2_19.2.2.2.1.2.2.2.2.2.2.2.1
theorem dX7_digest_157 : decode cX7_digest 157 = .ok (.iconst 0, 1) := dTo2_19.2.2.2.1.2.2.2.2.2.2.2.2.1
theorem dX7_digest_158 : decode cX7_digest 158 = .ok (.invokevirtual 294, 3) := dTo2_19.2.2.2.1.2.2.2.2.2.2.2.2.2.1
theorem dX7_digest_161 : decode cX7_digest 161 = .ok (.i2l, 1) := dTo2_19.2.2.2.2.1.1
theorem dX7_digest_162 : decode cX7_digest 162 = .ok (.ladd, 1) := dTo2_19.2.2.2.2.1.2.1
theorem dX7_digest_163 : decode cX7_digest 163 = .ok (.ldc2_w 271, 3) := dTo2_19.2.2.2.2.1.2.2.1
theorem dX7_digest_166 : decode cX7_digest 166 = .ok (.lmul, 1) := dTo2_19.2.2.2.2.1.2.2.2.1
theorem dX7_digest_167 : decode cX7_digest 167 = .ok (.aload_n 0, 1) := dTo2_19.2.2.2.2.1.2.2.2.2.1
theorem dX7_digest_168 : decode cX7_digest 168 = .ok (.iload_n 3, 1) := dTo2_19.2.2.2.2.1.2.2.2.2.2.1
theorem dX7_digest_169 : decode cX7_digest 169 = .ok (.iconst 1, 1) := dTo2_19.2.2.2.2.1.2.2.2.2.2.2.1
theorem dX7_digest_170 : decode cX7_digest 170 = .ok (.invokevirtual 294, 3) := dTo2_19.2.2.2.2.1.2.2.2.2.2.2.2.1
theorem dX7_digest_173 : decode cX7_digest 173 = .ok (.i2l, 1) := dTo2_19.2.2.2.2.1.2.2.2.2.2.2.2.2.1
theorem dX7_digest_174 : decode cX7_digest 174 = .ok (.ladd, 1) := dTo2_19.2.2.2.2.1.2.2.2.2.2.2.2.2.2.1
theorem dX7_digest_175 : decode cX7_digest 175 = .ok (.lstore_n 1, 1) := dTo2_19.2.2.2.2.2.1.1
theorem dX7_digest_176 : decode cX7_digest 176 = .ok (.lload_n 1, 1) := dTo2_19.2.2.2.2.2.1.2.1
theorem dX7_digest_177 : decode cX7_digest 177 = .ok (.ldc2_w 271, 3) := dTo2_19.2.2.2.2.2.1.2.2.1
theorem dX7_digest_180 : decode cX7_digest 180 = .ok (.lmul, 1) := dTo2_19.2.2.2.2.2.1.2.2.2.1
theorem dX7_digest_181 : decode cX7_digest 181 = .ok (.aload_n 0, 1) := dTo2_19.2.2.2.2.2.1.2.2.2.2.1
theorem dX7_digest_182 : decode cX7_digest 182 = .ok (.iload_n 3, 1) := dTo2_19.2.2.2.2.2.1.2.2.2.2.2.1
theorem dX7_digest_183 : decode cX7_digest 183 = .ok (.invokevirtual 298, 3) := dTo2_19.2.2.2.2.2.1.2.2.2.2.2.2.1
theorem dX7_digest_186 : decode cX7_digest 186 = .ok (.i2l, 1) := dTo2_19.2.2.2.2.2.1.2.2.2.2.2.2.2.1
theorem dX7_digest_187 : decode cX7_digest 187 = .ok (.ladd, 1) := dTo2_19.2.2.2.2.2.1.2.2.2.2.2.2.2.2.1
theorem dX7_digest_188 : decode cX7_digest 188 = .ok (.lstore_n 1, 1) := dTo2_19.2.2.2.2.2.1.2.2.2.2.2.2.2.2.2.1
theorem dTo2_20 : dQ cX7_digest [[(189, zop3, 0, 0), (190, zop54, 4, 0), (192, zop21, 4, 0), (194, zop7, 0, 0), (195, zop162, 0, 24), (198, zop31, 0, 0), (199, zop20, 1, 15), (202, zop105, 0, 0), (203, zop42, 0, 0), (204, zop21, 4, 0)], [(206, zop29, 0, 0), (207, zop182, 1, 45), (210, zop133, 0, 0), (211, zop97, 0, 0), (212, zop64, 0, 0), (213, zop132, 4, 1), (216, zop167, 255, 232), (219, zop132, 3, 1), (222, zop167, 255, 40), (225, zop3, 0, 0)], [(226, zop62, 0, 0), (227, zop29, 0, 0), (228, zop16, 8, 0), (230, zop162, 0, 42), (233, zop29, 0, 0), (234, zop4, 0, 0), (235, zop96, 0, 0), (236, zop54, 4, 0), (238, zop21, 4, 0), (240, zop16, 8, 0)], [(242, zop162, 0, 24), (245, zop31, 0, 0), (246, zop20, 1, 15), (249, zop105, 0, 0), (250, zop42, 0, 0), (251, zop29, 0, 0), (252, zop21, 4, 0), (254, zop182, 1, 48), (257, zop133, 0, 0), (258, zop97, 0, 0)], [(259, zop64, 0, 0), (260, zop132, 4, 1), (263, zop167, 255, 231), (266, zop132, 3, 1), (269, zop167, 255, 214), (272, zop3, 0, 0), (273, zop62, 0, 0), (274, zop29, 0, 0), (275, zop8, 0, 0), (276, zop162, 0, 22)], [(279, zop31, 0, 0), (280, zop20, 1, 15), (283, zop105, 0, 0), (284, zop42, 0, 0), (285, zop29, 0, 0), (286, zop182, 1, 51), (289, zop133, 0, 0), (290, zop97, 0, 0), (291, zop64, 0, 0), (292, zop132, 3, 1)]] := dQ_of _ _ (by decide +kernel)
theorem dX7_digest_189 : decode cX7_digest 189 = .ok (.iconst 0, 1) := dTo2_20.1.1
theorem dX7_digest_190 : decode cX7_digest 190 = .ok (.istore 4, 2) := dTo2_20.1.2.1
theorem dX7_digest_192 : decode cX7_digest 192 = .ok (.iload 4, 2) := dTo2_20.1.2.2.1
theorem dX7_digest_194 : decode cX7_digest 194 = .ok (.iconst 4, 1) := dTo2_20.1.2.2.2.1
theorem dX7_digest_195 : decode cX7_digest 195 = .ok (.if_icmp .ge 24, 3) := dTo2_20.1.2.2.2.2.1
theorem dX7_digest_198 : decode cX7_digest 198 = .ok (.lload_n 1, 1) := dTo2_20.1.2.2.2.2.2.1
theorem dX7_digest_199 : decode cX7_digest 199 = .ok (.ldc2_w 271, 3) := dTo2_20.1.2.2.2.2.2.2.1
theorem dX7_digest_202 : decode cX7_digest 202 = .ok (.lmul, 1) := dTo2_20.1.2.2.2.2.2.2.2.1
theorem dX7_digest_203 : decode cX7_digest 203 = .ok (.aload_n 0, 1) := dTo2_20.1.2.2.2.2.2.2.2.2.1
theorem dX7_digest_204 : decode cX7_digest 204 = .ok (.iload 4, 2) := dTo2_20.1.2.2.2.2.2.2.2.2.2.1
theorem dX7_digest_206 : decode cX7_digest 206 = .ok (.iload_n 3, 1) := dTo2_20.2.1.1
theorem dX7_digest_207 : decode cX7_digest 207 = .ok (.invokevirtual 301, 3) := dTo2_20.2.1.2.1
theorem dX7_digest_210 : decode cX7_digest 210 = .ok (.i2l, 1) := dTo2_20.2.1.2.2.1
theorem dX7_digest_211 : decode cX7_digest 211 = .ok (.ladd, 1) := dTo2_20.2.1.2.2.2.1
theorem dX7_digest_212 : decode cX7_digest 212 = .ok (.lstore_n 1, 1) := dTo2_20.2.1.2.2.2.2.1
theorem dX7_digest_213 : decode cX7_digest 213 = .ok (.iinc 4 1, 3) := dTo2_20.2.1.2.2.2.2.2.1
theorem dX7_digest_216 : decode cX7_digest 216 = .ok (.goto (-24), 3) := dTo2_20.2.1.2.2.2.2.2.2.1
theorem dX7_digest_219 : decode cX7_digest 219 = .ok (.iinc 3 1, 3) := dTo2_20.2.1.2.2.2.2.2.2.2.1
theorem dX7_digest_222 : decode cX7_digest 222 = .ok (.goto (-216), 3) := dTo2_20.2.1.2.2.2.2.2.2.2.2.1
theorem dX7_digest_225 : decode cX7_digest 225 = .ok (.iconst 0, 1) := dTo2_20.2.1.2.2.2.2.2.2.2.2.2.1
theorem dX7_digest_226 : decode cX7_digest 226 = .ok (.istore_n 3, 1) := dTo2_20.2.2.1.1
theorem dX7_digest_227 : decode cX7_digest 227 = .ok (.iload_n 3, 1) := dTo2_20.2.2.1.2.1
theorem dX7_digest_228 : decode cX7_digest 228 = .ok (.bipush 8, 2) := dTo2_20.2.2.1.2.2.1
theorem dX7_digest_230 : decode cX7_digest 230 = .ok (.if_icmp .ge 42, 3) := dTo2_20.2.2.1.2.2.2.1
theorem dX7_digest_233 : decode cX7_digest 233 = .ok (.iload_n 3, 1) := dTo2_20.2.2.1.2.2.2.2.1
theorem dX7_digest_234 : decode cX7_digest 234 = .ok (.iconst 1, 1) := dTo2_20.2.2.1.2.2.2.2.2.1
theorem dX7_digest_235 : decode cX7_digest 235 = .ok (.iadd, 1) := dTo2_20.2.2.1.2.2.2.2.2.2.1
theorem dX7_digest_236 : decode cX7_digest 236 = .ok (.istore 4, 2) := dTo2_20.2.2.1.2.2.2.2.2.2.2.1
theorem dX7_digest_238 : decode cX7_digest 238 = .ok (.iload 4, 2) := dTo2_20.2.2.1.2.2.2.2.2.2.2.2.1
theorem dX7_digest_240 : decode cX7_digest 240 = .ok (.bipush 8, 2) := dTo2_20.2.2.1.2.2.2.2.2.2.2.2.2.1
theorem dX7_digest_242 : decode cX7_digest 242 = .ok (.if_icmp .ge 24, 3) := dTo2_20.2.2.2.1.1
theorem dX7_digest_245 : decode cX7_digest 245 = .ok (.lload_n 1, 1) := dTo2_20.2.2.2.1.2.1
theorem dX7_digest_246 : decode cX7_digest 246 = .ok (.ldc2_w 271, 3) := dTo2_20.2.2.2.1.2.2.1
theorem dX7_digest_249 : decode cX7_digest 249 = .ok (.lmul, 1) := dTo2_20.2.2.2.1.2.2.2.1
theorem dX7_digest_250 : decode cX7_digest 250 = .ok (.aload_n 0, 1) := dTo2_20.2.2.2.1.2.2.2.2.1
theorem dX7_digest_251 : decode cX7_digest 251 = .ok (.iload_n 3, 1) := dTo2_20.2.2.2.1.2.2.2.2.2.1
theorem dX7_digest_252 : decode cX7_digest 252 = .ok (.iload 4, 2) := dTo2_20.2.2.2.1.2.2.2.2.2.2.1
theorem dX7_digest_254 : decode cX7_digest 254 = .ok (.invokevirtual 304, 3) := dTo2_20.2.2.2.1.2.2.2.2.2.2.2.1
theorem dX7_digest_257 : decode cX7_digest 257 = .ok (.i2l, 1) := dTo2_20.2.2.2.1.2.2.2.2.2.2.2.2.1
theorem dX7_digest_258 : decode cX7_digest 258 = .ok (.ladd, 1) := dTo2_20.2.2.2.1.2.2.2.2.2.2.2.2.2.1
theorem dX7_digest_259 : decode cX7_digest 259 = .ok (.lstore_n 1, 1) := dTo2_20.2.2.2.2.1.1
theorem dX7_digest_260 : decode cX7_digest 260 = .ok (.iinc 4 1, 3) := dTo2_20.2.2.2.2.1.2.1
theorem dX7_digest_263 : decode cX7_digest 263 = .ok (.goto (-25), 3) := dTo2_20.2.2.2.2.1.2.2.1
theorem dX7_digest_266 : decode cX7_digest 266 = .ok (.iinc 3 1, 3) := dTo2_20.2.2.2.2.1.2.2.2.1
theorem dX7_digest_269 : decode cX7_digest 269 = .ok (.goto (-42), 3) := dTo2_20.2.2.2.2.1.2.2.2.2.1
theorem dX7_digest_272 : decode cX7_digest 272 = .ok (.iconst 0, 1) := dTo2_20.2.2.2.2.1.2.2.2.2.2.1
theorem dX7_digest_273 : decode cX7_digest 273 = .ok (.istore_n 3, 1) := dTo2_20.2.2.2.2.1.2.2.2.2.2.2.1
theorem dX7_digest_274 : decode cX7_digest 274 = .ok (.iload_n 3, 1) := dTo2_20.2.2.2.2.1.2.2.2.2.2.2.2.1
theorem dX7_digest_275 : decode cX7_digest 275 = .ok (.iconst 5, 1) := dTo2_20.2.2.2.2.1.2.2.2.2.2.2.2.2.1
theorem dX7_digest_276 : decode cX7_digest 276 = .ok (.if_icmp .ge 22, 3) := dTo2_20.2.2.2.2.1.2.2.2.2.2.2.2.2.2.1
theorem dX7_digest_279 : decode cX7_digest 279 = .ok (.lload_n 1, 1) := dTo2_20.2.2.2.2.2.1.1
theorem dX7_digest_280 : decode cX7_digest 280 = .ok (.ldc2_w 271, 3) := dTo2_20.2.2.2.2.2.1.2.1
theorem dX7_digest_283 : decode cX7_digest 283 = .ok (.lmul, 1) := dTo2_20.2.2.2.2.2.1.2.2.1
theorem dX7_digest_284 : decode cX7_digest 284 = .ok (.aload_n 0, 1) := dTo2_20.2.2.2.2.2.1.2.2.2.1
theorem dX7_digest_285 : decode cX7_digest 285 = .ok (.iload_n 3, 1) := dTo2_20.2.2.2.2.2.1.2.2.2.2.1
theorem dX7_digest_286 : decode cX7_digest 286 = .ok (.invokevirtual 307, 3) := dTo2_20.2.2.2.2.2.1.2.2.2.2.2.1
theorem dX7_digest_289 : decode cX7_digest 289 = .ok (.i2l, 1) := dTo2_20.2.2.2.2.2.1.2.2.2.2.2.2.1
theorem dX7_digest_290 : decode cX7_digest 290 = .ok (.ladd, 1) := dTo2_20.2.2.2.2.2.1.2.2.2.2.2.2.2.1
theorem dX7_digest_291 : decode cX7_digest 291 = .ok (.lstore_n 1, 1) := dTo2_20.2.2.2.2.2.1.2.2.2.2.2.2.2.2.1
theorem dX7_digest_292 : decode cX7_digest 292 = .ok (.iinc 3 1, 3) := dTo2_20.2.2.2.2.2.1.2.2.2.2.2.2.2.2.2.1
theorem dTo2_21 : dQ cX7_digest [[(295, zop167, 255, 235), (298, zop42, 0, 0), (299, zop3, 0, 0), (300, zop181, 0, 50), (303, zop31, 0, 0), (304, zop20, 1, 15), (307, zop105, 0, 0), (308, zop10, 0, 0), (309, zop97, 0, 0), (310, zop173, 0, 0)]] := dQ_of _ _ (by decide +kernel)
theorem dX7_digest_295 : decode cX7_digest 295 = .ok (.goto (-21), 3) := dTo2_21.1.1
theorem dX7_digest_298 : decode cX7_digest 298 = .ok (.aload_n 0, 1) := dTo2_21.1.2.1
theorem dX7_digest_299 : decode cX7_digest 299 = .ok (.iconst 0, 1) := dTo2_21.1.2.2.1
theorem dX7_digest_300 : decode cX7_digest 300 = .ok (.putfield 50, 3) := dTo2_21.1.2.2.2.1
theorem dX7_digest_303 : decode cX7_digest 303 = .ok (.lload_n 1, 1) := dTo2_21.1.2.2.2.2.1
theorem dX7_digest_304 : decode cX7_digest 304 = .ok (.ldc2_w 271, 3) := dTo2_21.1.2.2.2.2.2.1
theorem dX7_digest_307 : decode cX7_digest 307 = .ok (.lmul, 1) := dTo2_21.1.2.2.2.2.2.2.1
theorem dX7_digest_308 : decode cX7_digest 308 = .ok (.lconst 1, 1) := dTo2_21.1.2.2.2.2.2.2.2.1
theorem dX7_digest_309 : decode cX7_digest 309 = .ok (.ladd, 1) := dTo2_21.1.2.2.2.2.2.2.2.2.1
theorem dX7_digest_310 : decode cX7_digest 310 = .ok (.lreturn, 1) := dTo2_21.1.2.2.2.2.2.2.2.2.2.1
theorem dJ5_init_d00df_12 : decode cJ5_init_d00df 12 = .ok (.newarray .byte, 2) := by decide +kernel
theorem dTo2_22 : dQ cJ5_init_d00df [[(0, zop42, 0, 0), (1, zop183, 0, 3), (4, zop178, 0, 18), (7, zop153, 0, 18), (10, zop42, 0, 0), (11, zop27, 0, 0), (14, zop181, 0, 15), (17, zop42, 0, 0), (18, zop3, 0, 0), (19, zop181, 0, 22)], [(22, zop167, 0, 16), (25, zop42, 0, 0), (26, zop27, 0, 0), (27, zop184, 0, 26), (30, zop181, 0, 15), (33, zop42, 0, 0), (34, zop4, 0, 0), (35, zop181, 0, 22), (38, zop177, 0, 0)]] := dQ_of _ _ (by decide +kernel)
theorem dJ5_init_d00df_0 : decode cJ5_init_d00df 0 = .ok (.aload_n 0, 1) := dTo2_22.1.1
theorem dJ5_init_d00df_1 : decode cJ5_init_d00df 1 = .ok (.invokespecial 3, 3) := dTo2_22.1.2.1
theorem dJ5_init_d00df_4 : decode cJ5_init_d00df 4 = .ok (.getstatic 18, 3) := dTo2_22.1.2.2.1
theorem dJ5_init_d00df_7 : decode cJ5_init_d00df 7 = .ok (.ifCond .eq 18, 3) := dTo2_22.1.2.2.2.1
theorem dJ5_init_d00df_10 : decode cJ5_init_d00df 10 = .ok (.aload_n 0, 1) := dTo2_22.1.2.2.2.2.1
theorem dJ5_init_d00df_11 : decode cJ5_init_d00df 11 = .ok (.iload_n 1, 1) := dTo2_22.1.2.2.2.2.2.1
theorem dJ5_init_d00df_14 : decode cJ5_init_d00df 14 = .ok (.putfield 15, 3) := dTo2_22.1.2.2.2.2.2.2.1
theorem dJ5_init_d00df_17 : decode cJ5_init_d00df 17 = .ok (.aload_n 0, 1) := dTo2_22.1.2.2.2.2.2.2.2.1
theorem dJ5_init_d00df_18 : decode cJ5_init_d00df 18 = .ok (.iconst 0, 1) := dTo2_22.1.2.2.2.2.2.2.2.2.1
theorem dJ5_init_d00df_19 : decode cJ5_init_d00df 19 = .ok (.putfield 22, 3) := dTo2_22.1.2.2.2.2.2.2.2.2.2.1
theorem dJ5_init_d00df_22 : decode cJ5_init_d00df 22 = .ok (.goto 16, 3) := dTo2_22.2.1.1
theorem dJ5_init_d00df_25 : decode cJ5_init_d00df 25 = .ok (.aload_n 0, 1) := dTo2_22.2.1.2.1
theorem dJ5_init_d00df_26 : decode cJ5_init_d00df 26 = .ok (.iload_n 1, 1) := dTo2_22.2.1.2.2.1
theorem dJ5_init_d00df_27 : decode cJ5_init_d00df 27 = .ok (.invokestatic 26, 3) := dTo2_22.2.1.2.2.2.1
theorem dJ5_init_d00df_30 : decode cJ5_init_d00df 30 = .ok (.putfield 15, 3) := dTo2_22.2.1.2.2.2.2.1
theorem dJ5_init_d00df_33 : decode cJ5_init_d00df 33 = .ok (.aload_n 0, 1) := dTo2_22.2.1.2.2.2.2.2.1
theorem dJ5_init_d00df_34 : decode cJ5_init_d00df 34 = .ok (.iconst 1, 1) := dTo2_22.2.1.2.2.2.2.2.2.1
theorem dJ5_init_d00df_35 : decode cJ5_init_d00df 35 = .ok (.putfield 22, 3) := dTo2_22.2.1.2.2.2.2.2.2.2.1
theorem dJ5_init_d00df_38 : decode cJ5_init_d00df 38 = .ok (.return_, 1) := dTo2_22.2.1.2.2.2.2.2.2.2.2.1
theorem dTo2_23 : dQ cJ5_length_8abf5 [[(0, zop42, 0, 0), (1, zop180, 0, 79), (4, zop172, 0, 0)]] := dQ_of _ _ (by decide +kernel)
theorem dJ5_length_8abf5_0 : decode cJ5_length_8abf5 0 = .ok (.aload_n 0, 1) := dTo2_23.1.1
theorem dJ5_length_8abf5_1 : decode cJ5_length_8abf5 1 = .ok (.getfield 79, 3) := dTo2_23.1.2.1
theorem dJ5_length_8abf5_4 : decode cJ5_length_8abf5 4 = .ok (.ireturn, 1) := dTo2_23.1.2.2.1
theorem dTo2_24 : dQ cJ5_ensureCapacityInternal_d00df [[(0, zop42, 0, 0), (1, zop180, 0, 15), (4, zop190, 0, 0), (5, zop42, 0, 0), (6, zop180, 0, 22), (9, zop122, 0, 0), (10, zop61, 0, 0), (11, zop27, 0, 0), (12, zop28, 0, 0), (13, zop100, 0, 0)], [(14, zop158, 0, 24), (17, zop42, 0, 0), (18, zop42, 0, 0), (19, zop180, 0, 15), (22, zop42, 0, 0), (23, zop27, 0, 0), (24, zop182, 0, 104), (27, zop42, 0, 0), (28, zop180, 0, 22), (31, zop120, 0, 0)], [(32, zop184, 0, 108), (35, zop181, 0, 15), (38, zop177, 0, 0)]] := dQ_of _ _ (by decide +kernel)
theorem dJ5_ensureCapacityInternal_d00df_0 : decode cJ5_ensureCapacityInternal_d00df 0 = .ok (.aload_n 0, 1) := dTo2_24.1.1
theorem dJ5_ensureCapacityInternal_d00df_1 : decode cJ5_ensureCapacityInternal_d00df 1 = .ok (.getfield 15, 3) := dTo2_24.1.2.1
theorem dJ5_ensureCapacityInternal_d00df_4 : decode cJ5_ensureCapacityInternal_d00df 4 = .ok (.arraylength, 1) := dTo2_24.1.2.2.1
theorem dJ5_ensureCapacityInternal_d00df_5 : decode cJ5_ensureCapacityInternal_d00df 5 = .ok (.aload_n 0, 1) := dTo2_24.1.2.2.2.1
theorem dJ5_ensureCapacityInternal_d00df_6 : decode cJ5_ensureCapacityInternal_d00df 6 = .ok (.getfield 22, 3) := dTo2_24.1.2.2.2.2.1
theorem dJ5_ensureCapacityInternal_d00df_9 : decode cJ5_ensureCapacityInternal_d00df 9 = .ok (.ishr, 1) := dTo2_24.1.2.2.2.2.2.1
theorem dJ5_ensureCapacityInternal_d00df_10 : decode cJ5_ensureCapacityInternal_d00df 10 = .ok (.istore_n 2, 1) := dTo2_24.1.2.2.2.2.2.2.1
theorem dJ5_ensureCapacityInternal_d00df_11 : decode cJ5_ensureCapacityInternal_d00df 11 = .ok (.iload_n 1, 1) := dTo2_24.1.2.2.2.2.2.2.2.1
theorem dJ5_ensureCapacityInternal_d00df_12 : decode cJ5_ensureCapacityInternal_d00df 12 = .ok (.iload_n 2, 1) := dTo2_24.1.2.2.2.2.2.2.2.2.1
theorem dJ5_ensureCapacityInternal_d00df_13 : decode cJ5_ensureCapacityInternal_d00df 13 = .ok (.isub, 1) := dTo2_24.1.2.2.2.2.2.2.2.2.2.1
theorem dJ5_ensureCapacityInternal_d00df_14 : decode cJ5_ensureCapacityInternal_d00df 14 = .ok (.ifCond .le 24, 3) := dTo2_24.2.1.1
theorem dJ5_ensureCapacityInternal_d00df_17 : decode cJ5_ensureCapacityInternal_d00df 17 = .ok (.aload_n 0, 1) := dTo2_24.2.1.2.1
theorem dJ5_ensureCapacityInternal_d00df_18 : decode cJ5_ensureCapacityInternal_d00df 18 = .ok (.aload_n 0, 1) := dTo2_24.2.1.2.2.1
theorem dJ5_ensureCapacityInternal_d00df_19 : decode cJ5_ensureCapacityInternal_d00df 19 = .ok (.getfield 15, 3) := dTo2_24.2.1.2.2.2.1
theorem dJ5_ensureCapacityInternal_d00df_22 : decode cJ5_ensureCapacityInternal_d00df 22 = .ok (.aload_n 0, 1) := dTo2_24.2.1.2.2.2.2.1
theorem dJ5_ensureCapacityInternal_d00df_23 : decode cJ5_ensureCapacityInternal_d00df 23 = .ok (.iload_n 1, 1) := dTo2_24.2.1.2.2.2.2.2.1
theorem dJ5_ensureCapacityInternal_d00df_24 : decode cJ5_ensureCapacityInternal_d00df 24 = .ok (.invokevirtual 104, 3) := dTo2_24.2.1.2.2.2.2.2.2.1
theorem dJ5_ensureCapacityInternal_d00df_27 : decode cJ5_ensureCapacityInternal_d00df 27 = .ok (.aload_n 0, 1) := dTo2_24.2.1.2.2.2.2.2.2.2.1
theorem dJ5_ensureCapacityInternal_d00df_28 : decode cJ5_ensureCapacityInternal_d00df 28 = .ok (.getfield 22, 3) := dTo2_24.2.1.2.2.2.2.2.2.2.2.1
theorem dJ5_ensureCapacityInternal_d00df_31 : decode cJ5_ensureCapacityInternal_d00df 31 = .ok (.ishl, 1) := dTo2_24.2.1.2.2.2.2.2.2.2.2.2.1
theorem dJ5_ensureCapacityInternal_d00df_32 : decode cJ5_ensureCapacityInternal_d00df 32 = .ok (.invokestatic 108, 3) := dTo2_24.2.2.1.1
theorem dJ5_ensureCapacityInternal_d00df_35 : decode cJ5_ensureCapacityInternal_d00df 35 = .ok (.putfield 15, 3) := dTo2_24.2.2.1.2.1
theorem dJ5_ensureCapacityInternal_d00df_38 : decode cJ5_ensureCapacityInternal_d00df 38 = .ok (.return_, 1) := dTo2_24.2.2.1.2.2.1
theorem dTo2_25 : dQ cJ5_newCapacity_0f7a4 [[(0, zop42, 0, 0), (1, zop180, 0, 15), (4, zop190, 0, 0), (5, zop61, 0, 0), (6, zop27, 0, 0), (7, zop42, 0, 0), (8, zop180, 0, 22), (11, zop120, 0, 0), (12, zop62, 0, 0), (13, zop29, 0, 0)], [(14, zop28, 0, 0), (15, zop100, 0, 0), (16, zop54, 4, 0), (18, zop28, 0, 0), (19, zop21, 4, 0), (21, zop28, 0, 0), (22, zop5, 0, 0), (23, zop42, 0, 0), (24, zop180, 0, 22), (27, zop120, 0, 0)], [(28, zop96, 0, 0), (29, zop184, 0, 114), (32, zop54, 5, 0), (34, zop21, 5, 0), (36, zop18, 39, 0), (38, zop160, 0, 13), (41, zop187, 0, 120), (44, zop89, 0, 0), (45, zop18, 122, 0), (47, zop183, 0, 124)], [(50, zop191, 0, 0), (51, zop21, 5, 0), (53, zop42, 0, 0), (54, zop180, 0, 22), (57, zop122, 0, 0), (58, zop172, 0, 0)]] := dQ_of _ _ (by decide +kernel)
theorem dJ5_newCapacity_0f7a4_0 : decode cJ5_newCapacity_0f7a4 0 = .ok (.aload_n 0, 1) := dTo2_25.1.1
theorem dJ5_newCapacity_0f7a4_1 : decode cJ5_newCapacity_0f7a4 1 = .ok (.getfield 15, 3) := dTo2_25.1.2.1
theorem dJ5_newCapacity_0f7a4_4 : decode cJ5_newCapacity_0f7a4 4 = .ok (.arraylength, 1) := dTo2_25.1.2.2.1
theorem dJ5_newCapacity_0f7a4_5 : decode cJ5_newCapacity_0f7a4 5 = .ok (.istore_n 2, 1) := dTo2_25.1.2.2.2.1
theorem dJ5_newCapacity_0f7a4_6 : decode cJ5_newCapacity_0f7a4 6 = .ok (.iload_n 1, 1) := dTo2_25.1.2.2.2.2.1
theorem dJ5_newCapacity_0f7a4_7 : decode cJ5_newCapacity_0f7a4 7 = .ok (.aload_n 0, 1) := dTo2_25.1.2.2.2.2.2.1
theorem dJ5_newCapacity_0f7a4_8 : decode cJ5_newCapacity_0f7a4 8 = .ok (.getfield 22, 3) := dTo2_25.1.2.2.2.2.2.2.1
theorem dJ5_newCapacity_0f7a4_11 : decode cJ5_newCapacity_0f7a4 11 = .ok (.ishl, 1) := dTo2_25.1.2.2.2.2.2.2.2.1
theorem dJ5_newCapacity_0f7a4_12 : decode cJ5_newCapacity_0f7a4 12 = .ok (.istore_n 3, 1) := dTo2_25.1.2.2.2.2.2.2.2.2.1
theorem dJ5_newCapacity_0f7a4_13 : decode cJ5_newCapacity_0f7a4 13 = .ok (.iload_n 3, 1) := dTo2_25.1.2.2.2.2.2.2.2.2.2.1
theorem dJ5_newCapacity_0f7a4_14 : decode cJ5_newCapacity_0f7a4 14 = .ok (.iload_n 2, 1) := dTo2_25.2.1.1
theorem dJ5_newCapacity_0f7a4_15 : decode cJ5_newCapacity_0f7a4 15 = .ok (.isub, 1) := dTo2_25.2.1.2.1
theorem dJ5_newCapacity_0f7a4_16 : decode cJ5_newCapacity_0f7a4 16 = .ok (.istore 4, 2) := dTo2_25.2.1.2.2.1
theorem dJ5_newCapacity_0f7a4_18 : decode cJ5_newCapacity_0f7a4 18 = .ok (.iload_n 2, 1) := dTo2_25.2.1.2.2.2.1
theorem dJ5_newCapacity_0f7a4_19 : decode cJ5_newCapacity_0f7a4 19 = .ok (.iload 4, 2) := dTo2_25.2.1.2.2.2.2.1
theorem dJ5_newCapacity_0f7a4_21 : decode cJ5_newCapacity_0f7a4 21 = .ok (.iload_n 2, 1) := dTo2_25.2.1.2.2.2.2.2.1
theorem dJ5_newCapacity_0f7a4_22 : decode cJ5_newCapacity_0f7a4 22 = .ok (.iconst 2, 1) := dTo2_25.2.1.2.2.2.2.2.2.1
theorem dJ5_newCapacity_0f7a4_23 : decode cJ5_newCapacity_0f7a4 23 = .ok (.aload_n 0, 1) := dTo2_25.2.1.2.2.2.2.2.2.2.1
theorem dJ5_newCapacity_0f7a4_24 : decode cJ5_newCapacity_0f7a4 24 = .ok (.getfield 22, 3) := dTo2_25.2.1.2.2.2.2.2.2.2.2.1
theorem dJ5_newCapacity_0f7a4_27 : decode cJ5_newCapacity_0f7a4 27 = .ok (.ishl, 1) := dTo2_25.2.1.2.2.2.2.2.2.2.2.2.1
theorem dJ5_newCapacity_0f7a4_28 : decode cJ5_newCapacity_0f7a4 28 = .ok (.iadd, 1) := dTo2_25.2.2.1.1
theorem dJ5_newCapacity_0f7a4_29 : decode cJ5_newCapacity_0f7a4 29 = .ok (.invokestatic 114, 3) := dTo2_25.2.2.1.2.1
theorem dJ5_newCapacity_0f7a4_32 : decode cJ5_newCapacity_0f7a4 32 = .ok (.istore 5, 2) := dTo2_25.2.2.1.2.2.1
theorem dJ5_newCapacity_0f7a4_34 : decode cJ5_newCapacity_0f7a4 34 = .ok (.iload 5, 2) := dTo2_25.2.2.1.2.2.2.1
theorem dJ5_newCapacity_0f7a4_36 : decode cJ5_newCapacity_0f7a4 36 = .ok (.ldc 39, 2) := dTo2_25.2.2.1.2.2.2.2.1
theorem dJ5_newCapacity_0f7a4_38 : decode cJ5_newCapacity_0f7a4 38 = .ok (.if_icmp .ne 13, 3) := dTo2_25.2.2.1.2.2.2.2.2.1
theorem dJ5_newCapacity_0f7a4_41 : decode cJ5_newCapacity_0f7a4 41 = .ok (.new 120, 3) := dTo2_25.2.2.1.2.2.2.2.2.2.1
theorem dJ5_newCapacity_0f7a4_44 : decode cJ5_newCapacity_0f7a4 44 = .ok (.dup, 1) := dTo2_25.2.2.1.2.2.2.2.2.2.2.1
theorem dJ5_newCapacity_0f7a4_45 : decode cJ5_newCapacity_0f7a4 45 = .ok (.ldc 122, 2) := dTo2_25.2.2.1.2.2.2.2.2.2.2.2.1
theorem dJ5_newCapacity_0f7a4_47 : decode cJ5_newCapacity_0f7a4 47 = .ok (.invokespecial 124, 3) := dTo2_25.2.2.1.2.2.2.2.2.2.2.2.2.1
theorem dJ5_newCapacity_0f7a4_50 : decode cJ5_newCapacity_0f7a4 50 = .ok (.athrow, 1) := dTo2_25.2.2.2.1.1
theorem dJ5_newCapacity_0f7a4_51 : decode cJ5_newCapacity_0f7a4 51 = .ok (.iload 5, 2) := dTo2_25.2.2.2.1.2.1
theorem dJ5_newCapacity_0f7a4_53 : decode cJ5_newCapacity_0f7a4 53 = .ok (.aload_n 0, 1) := dTo2_25.2.2.2.1.2.2.1
theorem dJ5_newCapacity_0f7a4_54 : decode cJ5_newCapacity_0f7a4 54 = .ok (.getfield 22, 3) := dTo2_25.2.2.2.1.2.2.2.1
theorem dJ5_newCapacity_0f7a4_57 : decode cJ5_newCapacity_0f7a4 57 = .ok (.ishr, 1) := dTo2_25.2.2.2.1.2.2.2.2.1
theorem dJ5_newCapacity_0f7a4_58 : decode cJ5_newCapacity_0f7a4 58 = .ok (.ireturn, 1) := dTo2_25.2.2.2.1.2.2.2.2.2.1
theorem dTo2_26 : dQ cJ5_inflate_da8c8 [[(0, zop42, 0, 0), (1, zop182, 0, 83), (4, zop154, 0, 4), (7, zop177, 0, 0), (8, zop42, 0, 0), (9, zop180, 0, 15), (12, zop190, 0, 0), (13, zop184, 0, 26), (16, zop76, 0, 0), (17, zop42, 0, 0)], [(18, zop180, 0, 15), (21, zop3, 0, 0), (22, zop43, 0, 0), (23, zop3, 0, 0), (24, zop42, 0, 0), (25, zop180, 0, 79), (28, zop184, 0, 125), (31, zop42, 0, 0), (32, zop43, 0, 0), (33, zop181, 0, 15)], [(36, zop42, 0, 0), (37, zop4, 0, 0), (38, zop181, 0, 22), (41, zop177, 0, 0)]] := dQ_of _ _ (by decide +kernel)
theorem dJ5_inflate_da8c8_0 : decode cJ5_inflate_da8c8 0 = .ok (.aload_n 0, 1) := dTo2_26.1.1
theorem dJ5_inflate_da8c8_1 : decode cJ5_inflate_da8c8 1 = .ok (.invokevirtual 83, 3) := dTo2_26.1.2.1
theorem dJ5_inflate_da8c8_4 : decode cJ5_inflate_da8c8 4 = .ok (.ifCond .ne 4, 3) := dTo2_26.1.2.2.1
theorem dJ5_inflate_da8c8_7 : decode cJ5_inflate_da8c8 7 = .ok (.return_, 1) := dTo2_26.1.2.2.2.1
theorem dJ5_inflate_da8c8_8 : decode cJ5_inflate_da8c8 8 = .ok (.aload_n 0, 1) := dTo2_26.1.2.2.2.2.1
theorem dJ5_inflate_da8c8_9 : decode cJ5_inflate_da8c8 9 = .ok (.getfield 15, 3) := dTo2_26.1.2.2.2.2.2.1
theorem dJ5_inflate_da8c8_12 : decode cJ5_inflate_da8c8 12 = .ok (.arraylength, 1) := dTo2_26.1.2.2.2.2.2.2.1
theorem dJ5_inflate_da8c8_13 : decode cJ5_inflate_da8c8 13 = .ok (.invokestatic 26, 3) := dTo2_26.1.2.2.2.2.2.2.2.1
theorem dJ5_inflate_da8c8_16 : decode cJ5_inflate_da8c8 16 = .ok (.astore_n 1, 1) := dTo2_26.1.2.2.2.2.2.2.2.2.1
theorem dJ5_inflate_da8c8_17 : decode cJ5_inflate_da8c8 17 = .ok (.aload_n 0, 1) := dTo2_26.1.2.2.2.2.2.2.2.2.2.1
theorem dJ5_inflate_da8c8_18 : decode cJ5_inflate_da8c8 18 = .ok (.getfield 15, 3) := dTo2_26.2.1.1
theorem dJ5_inflate_da8c8_21 : decode cJ5_inflate_da8c8 21 = .ok (.iconst 0, 1) := dTo2_26.2.1.2.1
theorem dJ5_inflate_da8c8_22 : decode cJ5_inflate_da8c8 22 = .ok (.aload_n 1, 1) := dTo2_26.2.1.2.2.1
theorem dJ5_inflate_da8c8_23 : decode cJ5_inflate_da8c8 23 = .ok (.iconst 0, 1) := dTo2_26.2.1.2.2.2.1
theorem dJ5_inflate_da8c8_24 : decode cJ5_inflate_da8c8 24 = .ok (.aload_n 0, 1) := dTo2_26.2.1.2.2.2.2.1
theorem dJ5_inflate_da8c8_25 : decode cJ5_inflate_da8c8 25 = .ok (.getfield 79, 3) := dTo2_26.2.1.2.2.2.2.2.1
theorem dJ5_inflate_da8c8_28 : decode cJ5_inflate_da8c8 28 = .ok (.invokestatic 125, 3) := dTo2_26.2.1.2.2.2.2.2.2.1
theorem dJ5_inflate_da8c8_31 : decode cJ5_inflate_da8c8 31 = .ok (.aload_n 0, 1) := dTo2_26.2.1.2.2.2.2.2.2.2.1
theorem dJ5_inflate_da8c8_32 : decode cJ5_inflate_da8c8 32 = .ok (.aload_n 1, 1) := dTo2_26.2.1.2.2.2.2.2.2.2.2.1
theorem dJ5_inflate_da8c8_33 : decode cJ5_inflate_da8c8 33 = .ok (.putfield 15, 3) := dTo2_26.2.1.2.2.2.2.2.2.2.2.2.1
theorem dJ5_inflate_da8c8_36 : decode cJ5_inflate_da8c8 36 = .ok (.aload_n 0, 1) := dTo2_26.2.2.1.1
theorem dJ5_inflate_da8c8_37 : decode cJ5_inflate_da8c8 37 = .ok (.iconst 1, 1) := dTo2_26.2.2.1.2.1
theorem dJ5_inflate_da8c8_38 : decode cJ5_inflate_da8c8 38 = .ok (.putfield 22, 3) := dTo2_26.2.2.1.2.2.1
theorem dJ5_inflate_da8c8_41 : decode cJ5_inflate_da8c8 41 = .ok (.return_, 1) := dTo2_26.2.2.1.2.2.2.1
theorem dTo2_27 : dQ cJ5_append_cf1ce [[(0, zop43, 0, 0), (1, zop199, 0, 8), (4, zop42, 0, 0), (5, zop182, 0, 204), (8, zop176, 0, 0), (9, zop43, 0, 0), (10, zop182, 0, 32), (13, zop61, 0, 0), (14, zop42, 0, 0), (15, zop42, 0, 0)], [(16, zop180, 0, 79), (19, zop28, 0, 0), (20, zop96, 0, 0), (21, zop182, 0, 100), (24, zop42, 0, 0), (25, zop42, 0, 0), (26, zop180, 0, 79), (29, zop43, 0, 0), (30, zop182, 0, 208), (33, zop42, 0, 0)], [(34, zop89, 0, 0), (35, zop180, 0, 79), (38, zop28, 0, 0), (39, zop96, 0, 0), (40, zop181, 0, 79), (43, zop42, 0, 0), (44, zop176, 0, 0)]] := dQ_of _ _ (by decide +kernel)
theorem dJ5_append_cf1ce_0 : decode cJ5_append_cf1ce 0 = .ok (.aload_n 1, 1) := dTo2_27.1.1
theorem dJ5_append_cf1ce_1 : decode cJ5_append_cf1ce 1 = .ok (.ifnonnull 8, 3) := dTo2_27.1.2.1
theorem dJ5_append_cf1ce_4 : decode cJ5_append_cf1ce 4 = .ok (.aload_n 0, 1) := dTo2_27.1.2.2.1
theorem dJ5_append_cf1ce_5 : decode cJ5_append_cf1ce 5 = .ok (.invokevirtual 204, 3) := dTo2_27.1.2.2.2.1
theorem dJ5_append_cf1ce_8 : decode cJ5_append_cf1ce 8 = .ok (.areturn, 1) := dTo2_27.1.2.2.2.2.1
theorem dJ5_append_cf1ce_9 : decode cJ5_append_cf1ce 9 = .ok (.aload_n 1, 1) := dTo2_27.1.2.2.2.2.2.1
theorem dJ5_append_cf1ce_10 : decode cJ5_append_cf1ce 10 = .ok (.invokevirtual 32, 3) := dTo2_27.1.2.2.2.2.2.2.1
theorem dJ5_append_cf1ce_13 : decode cJ5_append_cf1ce 13 = .ok (.istore_n 2, 1) := dTo2_27.1.2.2.2.2.2.2.2.1
theorem dJ5_append_cf1ce_14 : decode cJ5_append_cf1ce 14 = .ok (.aload_n 0, 1) := dTo2_27.1.2.2.2.2.2.2.2.2.1
theorem dJ5_append_cf1ce_15 : decode cJ5_append_cf1ce 15 = .ok (.aload_n 0, 1) := dTo2_27.1.2.2.2.2.2.2.2.2.2.1
theorem dJ5_append_cf1ce_16 : decode cJ5_append_cf1ce 16 = .ok (.getfield 79, 3) := dTo2_27.2.1.1
theorem dJ5_append_cf1ce_19 : decode cJ5_append_cf1ce 19 = .ok (.iload_n 2, 1) := dTo2_27.2.1.2.1
theorem dJ5_append_cf1ce_20 : decode cJ5_append_cf1ce 20 = .ok (.iadd, 1) := dTo2_27.2.1.2.2.1
theorem dJ5_append_cf1ce_21 : decode cJ5_append_cf1ce 21 = .ok (.invokevirtual 100, 3) := dTo2_27.2.1.2.2.2.1
theorem dJ5_append_cf1ce_24 : decode cJ5_append_cf1ce 24 = .ok (.aload_n 0, 1) := dTo2_27.2.1.2.2.2.2.1
theorem dJ5_append_cf1ce_25 : decode cJ5_append_cf1ce 25 = .ok (.aload_n 0, 1) := dTo2_27.2.1.2.2.2.2.2.1
theorem dJ5_append_cf1ce_26 : decode cJ5_append_cf1ce 26 = .ok (.getfield 79, 3) := dTo2_27.2.1.2.2.2.2.2.2.1
theorem dJ5_append_cf1ce_29 : decode cJ5_append_cf1ce 29 = .ok (.aload_n 1, 1) := dTo2_27.2.1.2.2.2.2.2.2.2.1
theorem dJ5_append_cf1ce_30 : decode cJ5_append_cf1ce 30 = .ok (.invokevirtual 208, 3) := dTo2_27.2.1.2.2.2.2.2.2.2.2.1
theorem dJ5_append_cf1ce_33 : decode cJ5_append_cf1ce 33 = .ok (.aload_n 0, 1) := dTo2_27.2.1.2.2.2.2.2.2.2.2.2.1
theorem dJ5_append_cf1ce_34 : decode cJ5_append_cf1ce 34 = .ok (.dup, 1) := dTo2_27.2.2.1.1
theorem dJ5_append_cf1ce_35 : decode cJ5_append_cf1ce 35 = .ok (.getfield 79, 3) := dTo2_27.2.2.1.2.1
theorem dJ5_append_cf1ce_38 : decode cJ5_append_cf1ce 38 = .ok (.iload_n 2, 1) := dTo2_27.2.2.1.2.2.1
theorem dJ5_append_cf1ce_39 : decode cJ5_append_cf1ce 39 = .ok (.iadd, 1) := dTo2_27.2.2.1.2.2.2.1
theorem dJ5_append_cf1ce_40 : decode cJ5_append_cf1ce 40 = .ok (.putfield 79, 3) := dTo2_27.2.2.1.2.2.2.2.1
theorem dJ5_append_cf1ce_43 : decode cJ5_append_cf1ce 43 = .ok (.aload_n 0, 1) := dTo2_27.2.2.1.2.2.2.2.2.1
theorem dJ5_append_cf1ce_44 : decode cJ5_append_cf1ce 44 = .ok (.areturn, 1) := dTo2_27.2.2.1.2.2.2.2.2.2.1
theorem dTo2_28 : dQ cJ5_appendNull_278bc [[(0, zop42, 0, 0), (1, zop42, 0, 0), (2, zop180, 0, 79), (5, zop7, 0, 0), (6, zop96, 0, 0), (7, zop182, 0, 100), (10, zop42, 0, 0), (11, zop180, 0, 79), (14, zop60, 0, 0), (15, zop42, 0, 0)], [(16, zop180, 0, 15), (19, zop77, 0, 0), (20, zop42, 0, 0), (21, zop182, 0, 83), (24, zop153, 0, 38), (27, zop44, 0, 0), (28, zop27, 0, 0), (29, zop132, 1, 1), (32, zop16, 110, 0), (34, zop84, 0, 0)], [(35, zop44, 0, 0), (36, zop27, 0, 0), (37, zop132, 1, 1), (40, zop16, 117, 0), (42, zop84, 0, 0), (43, zop44, 0, 0), (44, zop27, 0, 0), (45, zop132, 1, 1), (48, zop16, 108, 0), (50, zop84, 0, 0)], [(51, zop44, 0, 0), (52, zop27, 0, 0), (53, zop132, 1, 1), (56, zop16, 108, 0), (58, zop84, 0, 0), (59, zop167, 0, 17), (62, zop44, 0, 0), (63, zop27, 0, 0), (64, zop16, 110, 0), (66, zop16, 117, 0)], [(68, zop16, 108, 0), (70, zop16, 108, 0), (72, zop184, 0, 226), (75, zop60, 0, 0), (76, zop42, 0, 0), (77, zop27, 0, 0), (78, zop181, 0, 79), (81, zop42, 0, 0), (82, zop176, 0, 0)]] := dQ_of _ _ (by decide +kernel)
theorem dJ5_appendNull_278bc_0 : decode cJ5_appendNull_278bc 0 = .ok (.aload_n 0, 1) := dTo2_28.1.1
theorem dJ5_appendNull_278bc_1 : decode cJ5_appendNull_278bc 1 = .ok (.aload_n 0, 1) := dTo2_28.1.2.1
theorem dJ5_appendNull_278bc_2 : decode cJ5_appendNull_278bc 2 = .ok (.getfield 79, 3) := dTo2_28.1.2.2.1
theorem dJ5_appendNull_278bc_5 : decode cJ5_appendNull_278bc 5 = .ok (.iconst 4, 1) := dTo2_28.1.2.2.2.1
theorem dJ5_appendNull_278bc_6 : decode cJ5_appendNull_278bc 6 = .ok (.iadd, 1) := dTo2_28.1.2.2.2.2.1
theorem dJ5_appendNull_278bc_7 : decode cJ5_appendNull_278bc 7 = .ok (.invokevirtual 100, 3) := dTo2_28.1.2.2.2.2.2.1
theorem dJ5_appendNull_278bc_10 : decode cJ5_appendNull_278bc 10 = .ok (.aload_n 0, 1) := dTo2_28.1.2.2.2.2.2.2.1
theorem dJ5_appendNull_278bc_11 : decode cJ5_appendNull_278bc 11 = .ok (.getfield 79, 3) := dTo2_28.1.2.2.2.2.2.2.2.1
theorem dJ5_appendNull_278bc_14 : decode cJ5_appendNull_278bc 14 = .ok (.istore_n 1, 1) := dTo2_28.1.2.2.2.2.2.2.2.2.1
theorem dJ5_appendNull_278bc_15 : decode cJ5_appendNull_278bc 15 = .ok (.aload_n 0, 1) := dTo2_28.1.2.2.2.2.2.2.2.2.2.1
theorem dJ5_appendNull_278bc_16 : decode cJ5_appendNull_278bc 16 = .ok (.getfield 15, 3) := dTo2_28.2.1.1
theorem dJ5_appendNull_278bc_19 : decode cJ5_appendNull_278bc 19 = .ok (.astore_n 2, 1) := dTo2_28.2.1.2.1
theorem dJ5_appendNull_278bc_20 : decode cJ5_appendNull_278bc 20 = .ok (.aload_n 0, 1) := dTo2_28.2.1.2.2.1
theorem dJ5_appendNull_278bc_21 : decode cJ5_appendNull_278bc 21 = .ok (.invokevirtual 83, 3) := dTo2_28.2.1.2.2.2.1
theorem dJ5_appendNull_278bc_24 : decode cJ5_appendNull_278bc 24 = .ok (.ifCond .eq 38, 3) := dTo2_28.2.1.2.2.2.2.1
theorem dJ5_appendNull_278bc_27 : decode cJ5_appendNull_278bc 27 = .ok (.aload_n 2, 1) := dTo2_28.2.1.2.2.2.2.2.1
theorem dJ5_appendNull_278bc_28 : decode cJ5_appendNull_278bc 28 = .ok (.iload_n 1, 1) := dTo2_28.2.1.2.2.2.2.2.2.1
theorem dJ5_appendNull_278bc_29 : decode cJ5_appendNull_278bc 29 = .ok (.iinc 1 1, 3) := dTo2_28.2.1.2.2.2.2.2.2.2.1
theorem dJ5_appendNull_278bc_32 : decode cJ5_appendNull_278bc 32 = .ok (.bipush 110, 2) := dTo2_28.2.1.2.2.2.2.2.2.2.2.1
theorem dJ5_appendNull_278bc_34 : decode cJ5_appendNull_278bc 34 = .ok (.bastore, 1) := dTo2_28.2.1.2.2.2.2.2.2.2.2.2.1
theorem dJ5_appendNull_278bc_35 : decode cJ5_appendNull_278bc 35 = .ok (.aload_n 2, 1) := dTo2_28.2.2.1.1
theorem dJ5_appendNull_278bc_36 : decode cJ5_appendNull_278bc 36 = .ok (.iload_n 1, 1) := dTo2_28.2.2.1.2.1
theorem dJ5_appendNull_278bc_37 : decode cJ5_appendNull_278bc 37 = .ok (.iinc 1 1, 3) := dTo2_28.2.2.1.2.2.1
theorem dJ5_appendNull_278bc_40 : decode cJ5_appendNull_278bc 40 = .ok (.bipush 117, 2) := dTo2_28.2.2.1.2.2.2.1
theorem dJ5_appendNull_278bc_42 : decode cJ5_appendNull_278bc 42 = .ok (.bastore, 1) := dTo2_28.2.2.1.2.2.2.2.1
theorem dJ5_appendNull_278bc_43 : decode cJ5_appendNull_278bc 43 = .ok (.aload_n 2, 1) := dTo2_28.2.2.1.2.2.2.2.2.1
theorem dJ5_appendNull_278bc_44 : decode cJ5_appendNull_278bc 44 = .ok (.iload_n 1, 1) := dTo2_28.2.2.1.2.2.2.2.2.2.1
theorem dJ5_appendNull_278bc_45 : decode cJ5_appendNull_278bc 45 = .ok (.iinc 1 1, 3) := dTo2_28.2.2.1.2.2.2.2.2.2.2.1
theorem dJ5_appendNull_278bc_48 : decode cJ5_appendNull_278bc 48 = .ok (.bipush 108, 2) := dTo2_28.2.2.1.2.2.2.2.2.2.2.2.1
theorem dJ5_appendNull_278bc_50 : decode cJ5_appendNull_278bc 50 = .ok (.bastore, 1) := dTo2_28.2.2.1.2.2.2.2.2.2.2.2.2.1
theorem dJ5_appendNull_278bc_51 : decode cJ5_appendNull_278bc 51 = .ok (.aload_n 2, 1) := dTo2_28.2.2.2.1.1
theorem dJ5_appendNull_278bc_52 : decode cJ5_appendNull_278bc 52 = .ok (.iload_n 1, 1) := dTo2_28.2.2.2.1.2.1
theorem dJ5_appendNull_278bc_53 : decode cJ5_appendNull_278bc 53 = .ok (.iinc 1 1, 3) := dTo2_28.2.2.2.1.2.2.1
theorem dJ5_appendNull_278bc_56 : decode cJ5_appendNull_278bc 56 = .ok (.bipush 108, 2) := dTo2_28.2.2.2.1.2.2.2.1
theorem dJ5_appendNull_278bc_58 : decode cJ5_appendNull_278bc 58 = .ok (.bastore, 1) := dTo2_28.2.2.2.1.2.2.2.2.1
theorem dJ5_appendNull_278bc_59 : decode cJ5_appendNull_278bc 59 = .ok (.goto 17, 3) := dTo2_28.2.2.2.1.2.2.2.2.2.1
theorem dJ5_appendNull_278bc_62 : decode cJ5_appendNull_278bc 62 = .ok (.aload_n 2, 1) := dTo2_28.2.2.2.1.2.2.2.2.2.2.1
theorem dJ5_appendNull_278bc_63 : decode cJ5_appendNull_278bc 63 = .ok (.iload_n 1, 1) := dTo2_28.2.2.2.1.2.2.2.2.2.2.2.1
theorem dJ5_appendNull_278bc_64 : decode cJ5_appendNull_278bc 64 = .ok (.bipush 110, 2) := dTo2_28.2.2.2.1.2.2.2.2.2.2.2.2.1
theorem dJ5_appendNull_278bc_66 : decode cJ5_appendNull_278bc 66 = .ok (.bipush 117, 2) := dTo2_28.2.2.2.1.2.2.2.2.2.2.2.2.2.1
theorem dJ5_appendNull_278bc_68 : decode cJ5_appendNull_278bc 68 = .ok (.bipush 108, 2) := dTo2_28.2.2.2.2.1.1
theorem dJ5_appendNull_278bc_70 : decode cJ5_appendNull_278bc 70 = .ok (.bipush 108, 2) := dTo2_28.2.2.2.2.1.2.1
theorem dJ5_appendNull_278bc_72 : decode cJ5_appendNull_278bc 72 = .ok (.invokestatic 226, 3) := dTo2_28.2.2.2.2.1.2.2.1
theorem dJ5_appendNull_278bc_75 : decode cJ5_appendNull_278bc 75 = .ok (.istore_n 1, 1) := dTo2_28.2.2.2.2.1.2.2.2.1
theorem dJ5_appendNull_278bc_76 : decode cJ5_appendNull_278bc 76 = .ok (.aload_n 0, 1) := dTo2_28.2.2.2.2.1.2.2.2.2.1
theorem dJ5_appendNull_278bc_77 : decode cJ5_appendNull_278bc 77 = .ok (.iload_n 1, 1) := dTo2_28.2.2.2.2.1.2.2.2.2.2.1
theorem dJ5_appendNull_278bc_78 : decode cJ5_appendNull_278bc 78 = .ok (.putfield 79, 3) := dTo2_28.2.2.2.2.1.2.2.2.2.2.2.1
theorem dJ5_appendNull_278bc_81 : decode cJ5_appendNull_278bc 81 = .ok (.aload_n 0, 1) := dTo2_28.2.2.2.2.1.2.2.2.2.2.2.2.1
theorem dJ5_appendNull_278bc_82 : decode cJ5_appendNull_278bc 82 = .ok (.areturn, 1) := dTo2_28.2.2.2.2.1.2.2.2.2.2.2.2.2.1
theorem dTo2_29 : dQ cJ5_append_3fe6f [[(0, zop42, 0, 0), (1, zop42, 0, 0), (2, zop180, 0, 79), (5, zop4, 0, 0), (6, zop96, 0, 0), (7, zop182, 0, 100), (10, zop42, 0, 0), (11, zop182, 0, 83), (14, zop153, 0, 31), (17, zop27, 0, 0)], [(18, zop184, 0, 191), (21, zop153, 0, 24), (24, zop42, 0, 0), (25, zop180, 0, 15), (28, zop42, 0, 0), (29, zop89, 0, 0), (30, zop180, 0, 79), (33, zop90, 0, 0), (34, zop4, 0, 0), (35, zop96, 0, 0)], [(36, zop181, 0, 79), (39, zop27, 0, 0), (40, zop145, 0, 0), (41, zop84, 0, 0), (42, zop167, 0, 33), (45, zop42, 0, 0), (46, zop182, 0, 83), (49, zop153, 0, 7), (52, zop42, 0, 0), (53, zop182, 0, 195)], [(56, zop42, 0, 0), (57, zop180, 0, 15), (60, zop42, 0, 0), (61, zop89, 0, 0), (62, zop180, 0, 79), (65, zop90, 0, 0), (66, zop4, 0, 0), (67, zop96, 0, 0), (68, zop181, 0, 79), (71, zop27, 0, 0)], [(72, zop184, 0, 197), (75, zop42, 0, 0), (76, zop176, 0, 0)]] := dQ_of _ _ (by decide +kernel)
theorem dJ5_append_3fe6f_0 : decode cJ5_append_3fe6f 0 = .ok (.aload_n 0, 1) := dTo2_29.1.1
theorem dJ5_append_3fe6f_1 : decode cJ5_append_3fe6f 1 = .ok (.aload_n 0, 1) := dTo2_29.1.2.1
theorem dJ5_append_3fe6f_2 : decode cJ5_append_3fe6f 2 = .ok (.getfield 79, 3) := dTo2_29.1.2.2.1
theorem dJ5_append_3fe6f_5 : decode cJ5_append_3fe6f 5 = .ok (.iconst 1, 1) := dTo2_29.1.2.2.2.1
theorem dJ5_append_3fe6f_6 : decode cJ5_append_3fe6f 6 = .ok (.iadd, 1) := dTo2_29.1.2.2.2.2.1
theorem dJ5_append_3fe6f_7 : decode cJ5_append_3fe6f 7 = .ok (.invokevirtual 100, 3) := dTo2_29.1.2.2.2.2.2.1
theorem dJ5_append_3fe6f_10 : decode cJ5_append_3fe6f 10 = .ok (.aload_n 0, 1) := dTo2_29.1.2.2.2.2.2.2.1
theorem dJ5_append_3fe6f_11 : decode cJ5_append_3fe6f 11 = .ok (.invokevirtual 83, 3) := dTo2_29.1.2.2.2.2.2.2.2.1
theorem dJ5_append_3fe6f_14 : decode cJ5_append_3fe6f 14 = .ok (.ifCond .eq 31, 3) := dTo2_29.1.2.2.2.2.2.2.2.2.1
theorem dJ5_append_3fe6f_17 : decode cJ5_append_3fe6f 17 = .ok (.iload_n 1, 1) := dTo2_29.1.2.2.2.2.2.2.2.2.2.1
theorem dJ5_append_3fe6f_18 : decode cJ5_append_3fe6f 18 = .ok (.invokestatic 191, 3) := dTo2_29.2.1.1
theorem dJ5_append_3fe6f_21 : decode cJ5_append_3fe6f 21 = .ok (.ifCond .eq 24, 3) := dTo2_29.2.1.2.1
theorem dJ5_append_3fe6f_24 : decode cJ5_append_3fe6f 24 = .ok (.aload_n 0, 1) := dTo2_29.2.1.2.2.1
theorem dJ5_append_3fe6f_25 : decode cJ5_append_3fe6f 25 = .ok (.getfield 15, 3) := dTo2_29.2.1.2.2.2.1
theorem dJ5_append_3fe6f_28 : decode cJ5_append_3fe6f 28 = .ok (.aload_n 0, 1) := dTo2_29.2.1.2.2.2.2.1
theorem dJ5_append_3fe6f_29 : decode cJ5_append_3fe6f 29 = .ok (.dup, 1) := dTo2_29.2.1.2.2.2.2.2.1
theorem dJ5_append_3fe6f_30 : decode cJ5_append_3fe6f 30 = .ok (.getfield 79, 3) := dTo2_29.2.1.2.2.2.2.2.2.1
theorem dJ5_append_3fe6f_33 : decode cJ5_append_3fe6f 33 = .ok (.dup_x1, 1) := dTo2_29.2.1.2.2.2.2.2.2.2.1
theorem dJ5_append_3fe6f_34 : decode cJ5_append_3fe6f 34 = .ok (.iconst 1, 1) := dTo2_29.2.1.2.2.2.2.2.2.2.2.1
theorem dJ5_append_3fe6f_35 : decode cJ5_append_3fe6f 35 = .ok (.iadd, 1) := dTo2_29.2.1.2.2.2.2.2.2.2.2.2.1
theorem dJ5_append_3fe6f_36 : decode cJ5_append_3fe6f 36 = .ok (.putfield 79, 3) := dTo2_29.2.2.1.1
theorem dJ5_append_3fe6f_39 : decode cJ5_append_3fe6f 39 = .ok (.iload_n 1, 1) := dTo2_29.2.2.1.2.1
theorem dJ5_append_3fe6f_40 : decode cJ5_append_3fe6f 40 = .ok (.i2b, 1) := dTo2_29.2.2.1.2.2.1
theorem dJ5_append_3fe6f_41 : decode cJ5_append_3fe6f 41 = .ok (.bastore, 1) := dTo2_29.2.2.1.2.2.2.1
theorem dJ5_append_3fe6f_42 : decode cJ5_append_3fe6f 42 = .ok (.goto 33, 3) := dTo2_29.2.2.1.2.2.2.2.1
theorem dJ5_append_3fe6f_45 : decode cJ5_append_3fe6f 45 = .ok (.aload_n 0, 1) := dTo2_29.2.2.1.2.2.2.2.2.1
theorem dJ5_append_3fe6f_46 : decode cJ5_append_3fe6f 46 = .ok (.invokevirtual 83, 3) := dTo2_29.2.2.1.2.2.2.2.2.2.1
theorem dJ5_append_3fe6f_49 : decode cJ5_append_3fe6f 49 = .ok (.ifCond .eq 7, 3) := dTo2_29.2.2.1.2.2.2.2.2.2.2.1
theorem dJ5_append_3fe6f_52 : decode cJ5_append_3fe6f 52 = .ok (.aload_n 0, 1) := dTo2_29.2.2.1.2.2.2.2.2.2.2.2.1
theorem dJ5_append_3fe6f_53 : decode cJ5_append_3fe6f 53 = .ok (.invokevirtual 195, 3) := dTo2_29.2.2.1.2.2.2.2.2.2.2.2.2.1
theorem dJ5_append_3fe6f_56 : decode cJ5_append_3fe6f 56 = .ok (.aload_n 0, 1) := dTo2_29.2.2.2.1.1
theorem dJ5_append_3fe6f_57 : decode cJ5_append_3fe6f 57 = .ok (.getfield 15, 3) := dTo2_29.2.2.2.1.2.1
theorem dJ5_append_3fe6f_60 : decode cJ5_append_3fe6f 60 = .ok (.aload_n 0, 1) := dTo2_29.2.2.2.1.2.2.1
theorem dJ5_append_3fe6f_61 : decode cJ5_append_3fe6f 61 = .ok (.dup, 1) := dTo2_29.2.2.2.1.2.2.2.1
theorem dJ5_append_3fe6f_62 : decode cJ5_append_3fe6f 62 = .ok (.getfield 79, 3) := dTo2_29.2.2.2.1.2.2.2.2.1
theorem dJ5_append_3fe6f_65 : decode cJ5_append_3fe6f 65 = .ok (.dup_x1, 1) := dTo2_29.2.2.2.1.2.2.2.2.2.1
theorem dJ5_append_3fe6f_66 : decode cJ5_append_3fe6f 66 = .ok (.iconst 1, 1) := dTo2_29.2.2.2.1.2.2.2.2.2.2.1
theorem dJ5_append_3fe6f_67 : decode cJ5_append_3fe6f 67 = .ok (.iadd, 1) := dTo2_29.2.2.2.1.2.2.2.2.2.2.2.1
theorem dJ5_append_3fe6f_68 : decode cJ5_append_3fe6f 68 = .ok (.putfield 79, 3) := dTo2_29.2.2.2.1.2.2.2.2.2.2.2.2.1
theorem dJ5_append_3fe6f_71 : decode cJ5_append_3fe6f 71 = .ok (.iload_n 1, 1) := dTo2_29.2.2.2.1.2.2.2.2.2.2.2.2.2.1
theorem dJ5_append_3fe6f_72 : decode cJ5_append_3fe6f 72 = .ok (.invokestatic 197, 3) := dTo2_29.2.2.2.2.1.1
theorem dJ5_append_3fe6f_75 : decode cJ5_append_3fe6f 75 = .ok (.aload_n 0, 1) := dTo2_29.2.2.2.2.1.2.1
theorem dJ5_append_3fe6f_76 : decode cJ5_append_3fe6f 76 = .ok (.areturn, 1) := dTo2_29.2.2.2.2.1.2.2.1
theorem dTo2_30 : dQ cJ5_append_c97b9 [[(0, zop42, 0, 0), (1, zop180, 0, 79), (4, zop61, 0, 0), (5, zop28, 0, 0), (6, zop27, 0, 0), (7, zop184, 0, 245), (10, zop96, 0, 0), (11, zop62, 0, 0), (12, zop42, 0, 0), (13, zop29, 0, 0)], [(14, zop182, 0, 100), (17, zop42, 0, 0), (18, zop182, 0, 83), (21, zop153, 0, 16), (24, zop27, 0, 0), (25, zop29, 0, 0), (26, zop42, 0, 0), (27, zop180, 0, 15), (30, zop184, 0, 248), (33, zop87, 0, 0)], [(34, zop167, 0, 14), (37, zop27, 0, 0), (38, zop28, 0, 0), (39, zop29, 0, 0), (40, zop42, 0, 0), (41, zop180, 0, 15), (44, zop184, 0, 251), (47, zop87, 0, 0), (48, zop42, 0, 0), (49, zop29, 0, 0)], [(50, zop181, 0, 79), (53, zop42, 0, 0), (54, zop176, 0, 0)]] := dQ_of _ _ (by decide +kernel)
theorem dJ5_append_c97b9_0 : decode cJ5_append_c97b9 0 = .ok (.aload_n 0, 1) := dTo2_30.1.1
theorem dJ5_append_c97b9_1 : decode cJ5_append_c97b9 1 = .ok (.getfield 79, 3) := dTo2_30.1.2.1
theorem dJ5_append_c97b9_4 : decode cJ5_append_c97b9 4 = .ok (.istore_n 2, 1) := dTo2_30.1.2.2.1
theorem dJ5_append_c97b9_5 : decode cJ5_append_c97b9 5 = .ok (.iload_n 2, 1) := dTo2_30.1.2.2.2.1
theorem dJ5_append_c97b9_6 : decode cJ5_append_c97b9 6 = .ok (.iload_n 1, 1) := dTo2_30.1.2.2.2.2.1
theorem dJ5_append_c97b9_7 : decode cJ5_append_c97b9 7 = .ok (.invokestatic 245, 3) := dTo2_30.1.2.2.2.2.2.1
theorem dJ5_append_c97b9_10 : decode cJ5_append_c97b9 10 = .ok (.iadd, 1) := dTo2_30.1.2.2.2.2.2.2.1
theorem dJ5_append_c97b9_11 : decode cJ5_append_c97b9 11 = .ok (.istore_n 3, 1) := dTo2_30.1.2.2.2.2.2.2.2.1
theorem dJ5_append_c97b9_12 : decode cJ5_append_c97b9 12 = .ok (.aload_n 0, 1) := dTo2_30.1.2.2.2.2.2.2.2.2.1
theorem dJ5_append_c97b9_13 : decode cJ5_append_c97b9 13 = .ok (.iload_n 3, 1) := dTo2_30.1.2.2.2.2.2.2.2.2.2.1
theorem dJ5_append_c97b9_14 : decode cJ5_append_c97b9 14 = .ok (.invokevirtual 100, 3) := dTo2_30.2.1.1
theorem dJ5_append_c97b9_17 : decode cJ5_append_c97b9 17 = .ok (.aload_n 0, 1) := dTo2_30.2.1.2.1
theorem dJ5_append_c97b9_18 : decode cJ5_append_c97b9 18 = .ok (.invokevirtual 83, 3) := dTo2_30.2.1.2.2.1
theorem dJ5_append_c97b9_21 : decode cJ5_append_c97b9 21 = .ok (.ifCond .eq 16, 3) := dTo2_30.2.1.2.2.2.1
theorem dJ5_append_c97b9_24 : decode cJ5_append_c97b9 24 = .ok (.iload_n 1, 1) := dTo2_30.2.1.2.2.2.2.1
theorem dJ5_append_c97b9_25 : decode cJ5_append_c97b9 25 = .ok (.iload_n 3, 1) := dTo2_30.2.1.2.2.2.2.2.1
theorem dJ5_append_c97b9_26 : decode cJ5_append_c97b9 26 = .ok (.aload_n 0, 1) := dTo2_30.2.1.2.2.2.2.2.2.1
theorem dJ5_append_c97b9_27 : decode cJ5_append_c97b9 27 = .ok (.getfield 15, 3) := dTo2_30.2.1.2.2.2.2.2.2.2.1
theorem dJ5_append_c97b9_30 : decode cJ5_append_c97b9 30 = .ok (.invokestatic 248, 3) := dTo2_30.2.1.2.2.2.2.2.2.2.2.1
theorem dJ5_append_c97b9_33 : decode cJ5_append_c97b9 33 = .ok (.pop, 1) := dTo2_30.2.1.2.2.2.2.2.2.2.2.2.1
theorem dJ5_append_c97b9_34 : decode cJ5_append_c97b9 34 = .ok (.goto 14, 3) := dTo2_30.2.2.1.1
theorem dJ5_append_c97b9_37 : decode cJ5_append_c97b9 37 = .ok (.iload_n 1, 1) := dTo2_30.2.2.1.2.1
theorem dJ5_append_c97b9_38 : decode cJ5_append_c97b9 38 = .ok (.iload_n 2, 1) := dTo2_30.2.2.1.2.2.1
theorem dJ5_append_c97b9_39 : decode cJ5_append_c97b9 39 = .ok (.iload_n 3, 1) := dTo2_30.2.2.1.2.2.2.1
theorem dJ5_append_c97b9_40 : decode cJ5_append_c97b9 40 = .ok (.aload_n 0, 1) := dTo2_30.2.2.1.2.2.2.2.1
theorem dJ5_append_c97b9_41 : decode cJ5_append_c97b9 41 = .ok (.getfield 15, 3) := dTo2_30.2.2.1.2.2.2.2.2.1
theorem dJ5_append_c97b9_44 : decode cJ5_append_c97b9 44 = .ok (.invokestatic 251, 3) := dTo2_30.2.2.1.2.2.2.2.2.2.1
theorem dJ5_append_c97b9_47 : decode cJ5_append_c97b9 47 = .ok (.pop, 1) := dTo2_30.2.2.1.2.2.2.2.2.2.2.1
theorem dJ5_append_c97b9_48 : decode cJ5_append_c97b9 48 = .ok (.aload_n 0, 1) := dTo2_30.2.2.1.2.2.2.2.2.2.2.2.1
theorem dJ5_append_c97b9_49 : decode cJ5_append_c97b9 49 = .ok (.iload_n 3, 1) := dTo2_30.2.2.1.2.2.2.2.2.2.2.2.2.1
theorem dJ5_append_c97b9_50 : decode cJ5_append_c97b9 50 = .ok (.putfield 79, 3) := dTo2_30.2.2.2.1.1
theorem dJ5_append_c97b9_53 : decode cJ5_append_c97b9 53 = .ok (.aload_n 0, 1) := dTo2_30.2.2.2.1.2.1
theorem dJ5_append_c97b9_54 : decode cJ5_append_c97b9 54 = .ok (.areturn, 1) := dTo2_30.2.2.2.1.2.2.1
theorem dTo2_31 : dQ cJ5_getValue_6d5f1 [[(0, zop42, 0, 0), (1, zop180, 0, 15), (4, zop176, 0, 0)]] := dQ_of _ _ (by decide +kernel)
theorem dJ5_getValue_6d5f1_0 : decode cJ5_getValue_6d5f1 0 = .ok (.aload_n 0, 1) := dTo2_31.1.1
theorem dJ5_getValue_6d5f1_1 : decode cJ5_getValue_6d5f1 1 = .ok (.getfield 15, 3) := dTo2_31.1.2.1
theorem dJ5_getValue_6d5f1_4 : decode cJ5_getValue_6d5f1 4 = .ok (.areturn, 1) := dTo2_31.1.2.2.1
theorem dTo2_32 : dQ cJ5_isLatin1_aae02 [[(0, zop178, 0, 18), (3, zop153, 0, 14), (6, zop42, 0, 0), (7, zop180, 0, 22), (10, zop154, 0, 7), (13, zop4, 0, 0), (14, zop167, 0, 4), (17, zop3, 0, 0), (18, zop172, 0, 0)]] := dQ_of _ _ (by decide +kernel)
theorem dJ5_isLatin1_aae02_0 : decode cJ5_isLatin1_aae02 0 = .ok (.getstatic 18, 3) := dTo2_32.1.1
theorem dJ5_isLatin1_aae02_3 : decode cJ5_isLatin1_aae02 3 = .ok (.ifCond .eq 14, 3) := dTo2_32.1.2.1
theorem dJ5_isLatin1_aae02_6 : decode cJ5_isLatin1_aae02 6 = .ok (.aload_n 0, 1) := dTo2_32.1.2.2.1
theorem dJ5_isLatin1_aae02_7 : decode cJ5_isLatin1_aae02 7 = .ok (.getfield 22, 3) := dTo2_32.1.2.2.2.1
theorem dJ5_isLatin1_aae02_10 : decode cJ5_isLatin1_aae02 10 = .ok (.ifCond .ne 7, 3) := dTo2_32.1.2.2.2.2.1
theorem dJ5_isLatin1_aae02_13 : decode cJ5_isLatin1_aae02 13 = .ok (.iconst 1, 1) := dTo2_32.1.2.2.2.2.2.1
theorem dJ5_isLatin1_aae02_14 : decode cJ5_isLatin1_aae02 14 = .ok (.goto 4, 3) := dTo2_32.1.2.2.2.2.2.2.1
theorem dJ5_isLatin1_aae02_17 : decode cJ5_isLatin1_aae02 17 = .ok (.iconst 0, 1) := dTo2_32.1.2.2.2.2.2.2.2.1
theorem dJ5_isLatin1_aae02_18 : decode cJ5_isLatin1_aae02 18 = .ok (.ireturn, 1) := dTo2_32.1.2.2.2.2.2.2.2.2.1
theorem dTo2_33 : dQ cJ5_inflateIfNeededFor_a7421 [[(0, zop178, 0, 18), (3, zop153, 0, 18), (6, zop42, 0, 0), (7, zop180, 0, 22), (10, zop43, 0, 0), (11, zop182, 0, 40), (14, zop159, 0, 7), (17, zop42, 0, 0), (18, zop182, 0, 195), (21, zop177, 0, 0)]] := dQ_of _ _ (by decide +kernel)
theorem dJ5_inflateIfNeededFor_a7421_0 : decode cJ5_inflateIfNeededFor_a7421 0 = .ok (.getstatic 18, 3) := dTo2_33.1.1
theorem dJ5_inflateIfNeededFor_a7421_3 : decode cJ5_inflateIfNeededFor_a7421 3 = .ok (.ifCond .eq 18, 3) := dTo2_33.1.2.1
theorem dJ5_inflateIfNeededFor_a7421_6 : decode cJ5_inflateIfNeededFor_a7421 6 = .ok (.aload_n 0, 1) := dTo2_33.1.2.2.1
theorem dJ5_inflateIfNeededFor_a7421_7 : decode cJ5_inflateIfNeededFor_a7421 7 = .ok (.getfield 22, 3) := dTo2_33.1.2.2.2.1
theorem dJ5_inflateIfNeededFor_a7421_10 : decode cJ5_inflateIfNeededFor_a7421 10 = .ok (.aload_n 1, 1) := dTo2_33.1.2.2.2.2.1
theorem dJ5_inflateIfNeededFor_a7421_11 : decode cJ5_inflateIfNeededFor_a7421 11 = .ok (.invokevirtual 40, 3) := dTo2_33.1.2.2.2.2.2.1
theorem dJ5_inflateIfNeededFor_a7421_14 : decode cJ5_inflateIfNeededFor_a7421 14 = .ok (.if_icmp .eq 7, 3) := dTo2_33.1.2.2.2.2.2.2.1
theorem dJ5_inflateIfNeededFor_a7421_17 : decode cJ5_inflateIfNeededFor_a7421 17 = .ok (.aload_n 0, 1) := dTo2_33.1.2.2.2.2.2.2.2.1
theorem dJ5_inflateIfNeededFor_a7421_18 : decode cJ5_inflateIfNeededFor_a7421 18 = .ok (.invokevirtual 195, 3) := dTo2_33.1.2.2.2.2.2.2.2.2.1
theorem dJ5_inflateIfNeededFor_a7421_21 : decode cJ5_inflateIfNeededFor_a7421 21 = .ok (.return_, 1) := dTo2_33.1.2.2.2.2.2.2.2.2.2.1
theorem dTo2_34 : dQ cJ5_putStringAt_47b60 [[(0, zop42, 0, 0), (1, zop44, 0, 0), (2, zop182, 1, 141), (5, zop44, 0, 0), (6, zop42, 0, 0), (7, zop180, 0, 15), (10, zop27, 0, 0), (11, zop42, 0, 0), (12, zop180, 0, 22), (15, zop182, 1, 143)], [(18, zop177, 0, 0)]] := dQ_of _ _ (by decide +kernel)
theorem dJ5_putStringAt_47b60_0 : decode cJ5_putStringAt_47b60 0 = .ok (.aload_n 0, 1) := dTo2_34.1.1
theorem dJ5_putStringAt_47b60_1 : decode cJ5_putStringAt_47b60 1 = .ok (.aload_n 2, 1) := dTo2_34.1.2.1
theorem dJ5_putStringAt_47b60_2 : decode cJ5_putStringAt_47b60 2 = .ok (.invokevirtual 397, 3) := dTo2_34.1.2.2.1
theorem dJ5_putStringAt_47b60_5 : decode cJ5_putStringAt_47b60 5 = .ok (.aload_n 2, 1) := dTo2_34.1.2.2.2.1
theorem dJ5_putStringAt_47b60_6 : decode cJ5_putStringAt_47b60 6 = .ok (.aload_n 0, 1) := dTo2_34.1.2.2.2.2.1
theorem dJ5_putStringAt_47b60_7 : decode cJ5_putStringAt_47b60 7 = .ok (.getfield 15, 3) := dTo2_34.1.2.2.2.2.2.1
theorem dJ5_putStringAt_47b60_10 : decode cJ5_putStringAt_47b60 10 = .ok (.iload_n 1, 1) := dTo2_34.1.2.2.2.2.2.2.1
theorem dJ5_putStringAt_47b60_11 : decode cJ5_putStringAt_47b60 11 = .ok (.aload_n 0, 1) := dTo2_34.1.2.2.2.2.2.2.2.1
theorem dJ5_putStringAt_47b60_12 : decode cJ5_putStringAt_47b60 12 = .ok (.getfield 22, 3) := dTo2_34.1.2.2.2.2.2.2.2.2.1
theorem dJ5_putStringAt_47b60_15 : decode cJ5_putStringAt_47b60 15 = .ok (.invokevirtual 399, 3) := dTo2_34.1.2.2.2.2.2.2.2.2.2.1
theorem dJ5_putStringAt_47b60_18 : decode cJ5_putStringAt_47b60 18 = .ok (.return_, 1) := dTo2_34.2.1.1
theorem dTo2_35 : dQ cJ6_getChars_ba4f3 [[(0, zop27, 0, 0), (1, zop54, 5, 0), (3, zop26, 0, 0), (4, zop156, 0, 7), (7, zop4, 0, 0), (8, zop167, 0, 4), (11, zop3, 0, 0), (12, zop54, 6, 0), (14, zop21, 6, 0), (16, zop154, 0, 6)], [(19, zop26, 0, 0), (20, zop116, 0, 0), (21, zop59, 0, 0), (22, zop26, 0, 0), (23, zop16, 156, 0), (25, zop163, 0, 47), (28, zop26, 0, 0), (29, zop16, 100, 0), (31, zop108, 0, 0), (32, zop62, 0, 0)], [(33, zop29, 0, 0), (34, zop16, 100, 0), (36, zop104, 0, 0), (37, zop26, 0, 0), (38, zop100, 0, 0), (39, zop54, 4, 0), (41, zop29, 0, 0), (42, zop59, 0, 0), (43, zop44, 0, 0), (44, zop132, 5, 255)], [(47, zop21, 5, 0), (49, zop178, 0, 83), (52, zop21, 4, 0), (54, zop51, 0, 0), (55, zop84, 0, 0), (56, zop44, 0, 0), (57, zop132, 5, 255), (60, zop21, 5, 0), (62, zop178, 0, 87), (65, zop21, 4, 0)], [(67, zop51, 0, 0), (68, zop84, 0, 0), (69, zop167, 255, 209), (72, zop44, 0, 0), (73, zop132, 5, 255), (76, zop21, 5, 0), (78, zop178, 0, 83), (81, zop26, 0, 0), (82, zop116, 0, 0), (83, zop51, 0, 0)], [(84, zop84, 0, 0), (85, zop26, 0, 0), (86, zop16, 247, 0), (88, zop162, 0, 16), (91, zop44, 0, 0), (92, zop132, 5, 255), (95, zop21, 5, 0), (97, zop178, 0, 87), (100, zop26, 0, 0), (101, zop116, 0, 0)]] := dQ_of _ _ (by decide +kernel)
theorem dJ6_getChars_ba4f3_0 : decode cJ6_getChars_ba4f3 0 = .ok (.iload_n 1, 1) := dTo2_35.1.1
theorem dJ6_getChars_ba4f3_1 : decode cJ6_getChars_ba4f3 1 = .ok (.istore 5, 2) := dTo2_35.1.2.1
theorem dJ6_getChars_ba4f3_3 : decode cJ6_getChars_ba4f3 3 = .ok (.iload_n 0, 1) := dTo2_35.1.2.2.1
theorem dJ6_getChars_ba4f3_4 : decode cJ6_getChars_ba4f3 4 = .ok (.ifCond .ge 7, 3) := dTo2_35.1.2.2.2.1
theorem dJ6_getChars_ba4f3_7 : decode cJ6_getChars_ba4f3 7 = .ok (.iconst 1, 1) := dTo2_35.1.2.2.2.2.1
theorem dJ6_getChars_ba4f3_8 : decode cJ6_getChars_ba4f3 8 = .ok (.goto 4, 3) := dTo2_35.1.2.2.2.2.2.1
theorem dJ6_getChars_ba4f3_11 : decode cJ6_getChars_ba4f3 11 = .ok (.iconst 0, 1) := dTo2_35.1.2.2.2.2.2.2.1
theorem dJ6_getChars_ba4f3_12 : decode cJ6_getChars_ba4f3 12 = .ok (.istore 6, 2) := dTo2_35.1.2.2.2.2.2.2.2.1
theorem dJ6_getChars_ba4f3_14 : decode cJ6_getChars_ba4f3 14 = .ok (.iload 6, 2) := dTo2_35.1.2.2.2.2.2.2.2.2.1
theorem dJ6_getChars_ba4f3_16 : decode cJ6_getChars_ba4f3 16 = .ok (.ifCond .ne 6, 3) := dTo2_35.1.2.2.2.2.2.2.2.2.2.1
theorem dJ6_getChars_ba4f3_19 : decode cJ6_getChars_ba4f3 19 = .ok (.iload_n 0, 1) := dTo2_35.2.1.1
theorem dJ6_getChars_ba4f3_20 : decode cJ6_getChars_ba4f3 20 = .ok (.ineg, 1) := dTo2_35.2.1.2.1
theorem dJ6_getChars_ba4f3_21 : decode cJ6_getChars_ba4f3 21 = .ok (.istore_n 0, 1) := dTo2_35.2.1.2.2.1
theorem dJ6_getChars_ba4f3_22 : decode cJ6_getChars_ba4f3 22 = .ok (.iload_n 0, 1) := dTo2_35.2.1.2.2.2.1
theorem dJ6_getChars_ba4f3_23 : decode cJ6_getChars_ba4f3 23 = .ok (.bipush (-100), 2) := dTo2_35.2.1.2.2.2.2.1
theorem dJ6_getChars_ba4f3_25 : decode cJ6_getChars_ba4f3 25 = .ok (.if_icmp .gt 47, 3) := dTo2_35.2.1.2.2.2.2.2.1
theorem dJ6_getChars_ba4f3_28 : decode cJ6_getChars_ba4f3 28 = .ok (.iload_n 0, 1) := dTo2_35.2.1.2.2.2.2.2.2.1
theorem dJ6_getChars_ba4f3_29 : decode cJ6_getChars_ba4f3 29 = .ok (.bipush 100, 2) := dTo2_35.2.1.2.2.2.2.2.2.2.1
theorem dJ6_getChars_ba4f3_31 : decode cJ6_getChars_ba4f3 31 = .ok (.idiv, 1) := dTo2_35.2.1.2.2.2.2.2.2.2.2.1
theorem dJ6_getChars_ba4f3_32 : decode cJ6_getChars_ba4f3 32 = .ok (.istore_n 3, 1) := dTo2_35.2.1.2.2.2.2.2.2.2.2.2.1
theorem dJ6_getChars_ba4f3_33 : decode cJ6_getChars_ba4f3 33 = .ok (.iload_n 3, 1) := dTo2_35.2.2.1.1
theorem dJ6_getChars_ba4f3_34 : decode cJ6_getChars_ba4f3 34 = .ok (.bipush 100, 2) := dTo2_35.2.2.1.2.1
theorem dJ6_getChars_ba4f3_36 : decode cJ6_getChars_ba4f3 36 = .ok (.imul, 1) := dTo2_35.2.2.1.2.2.1
theorem dJ6_getChars_ba4f3_37 : decode cJ6_getChars_ba4f3 37 = .ok (.iload_n 0, 1) := dTo2_35.2.2.1.2.2.2.1
theorem dJ6_getChars_ba4f3_38 : decode cJ6_getChars_ba4f3 38 = .ok (.isub, 1) := dTo2_35.2.2.1.2.2.2.2.1
theorem dJ6_getChars_ba4f3_39 : decode cJ6_getChars_ba4f3 39 = .ok (.istore 4, 2) := dTo2_35.2.2.1.2.2.2.2.2.1
theorem dJ6_getChars_ba4f3_41 : decode cJ6_getChars_ba4f3 41 = .ok (.iload_n 3, 1) := dTo2_35.2.2.1.2.2.2.2.2.2.1
theorem dJ6_getChars_ba4f3_42 : decode cJ6_getChars_ba4f3 42 = .ok (.istore_n 0, 1) := dTo2_35.2.2.1.2.2.2.2.2.2.2.1
theorem dJ6_getChars_ba4f3_43 : decode cJ6_getChars_ba4f3 43 = .ok (.aload_n 2, 1) := dTo2_35.2.2.1.2.2.2.2.2.2.2.2.1
theorem dJ6_getChars_ba4f3_44 : decode cJ6_getChars_ba4f3 44 = .ok (.iinc 5 (-1), 3) := dTo2_35.2.2.1.2.2.2.2.2.2.2.2.2.1
theorem dJ6_getChars_ba4f3_47 : decode cJ6_getChars_ba4f3 47 = .ok (.iload 5, 2) := dTo2_35.2.2.2.1.1
theorem dJ6_getChars_ba4f3_49 : decode cJ6_getChars_ba4f3 49 = .ok (.getstatic 83, 3) := dTo2_35.2.2.2.1.2.1
theorem dJ6_getChars_ba4f3_52 : decode cJ6_getChars_ba4f3 52 = .ok (.iload 4, 2) := dTo2_35.2.2.2.1.2.2.1
theorem dJ6_getChars_ba4f3_54 : decode cJ6_getChars_ba4f3 54 = .ok (.baload, 1) := dTo2_35.2.2.2.1.2.2.2.1
theorem dJ6_getChars_ba4f3_55 : decode cJ6_getChars_ba4f3 55 = .ok (.bastore, 1) := dTo2_35.2.2.2.1.2.2.2.2.1
theorem dJ6_getChars_ba4f3_56 : decode cJ6_getChars_ba4f3 56 = .ok (.aload_n 2, 1) := dTo2_35.2.2.2.1.2.2.2.2.2.1
theorem dJ6_getChars_ba4f3_57 : decode cJ6_getChars_ba4f3 57 = .ok (.iinc 5 (-1), 3) := dTo2_35.2.2.2.1.2.2.2.2.2.2.1
theorem dJ6_getChars_ba4f3_60 : decode cJ6_getChars_ba4f3 60 = .ok (.iload 5, 2) := dTo2_35.2.2.2.1.2.2.2.2.2.2.2.1
theorem dJ6_getChars_ba4f3_62 : decode cJ6_getChars_ba4f3 62 = .ok (.getstatic 87, 3) := dTo2_35.2.2.2.1.2.2.2.2.2.2.2.2.1
theorem dJ6_getChars_ba4f3_65 : decode cJ6_getChars_ba4f3 65 = .ok (.iload 4, 2) := dTo2_35.2.2.2.1.2.2.2.2.2.2.2.2.2.1
theorem dJ6_getChars_ba4f3_67 : decode cJ6_getChars_ba4f3 67 = .ok (.baload, 1) := dTo2_35.2.2.2.2.1.1
theorem dJ6_getChars_ba4f3_68 : decode cJ6_getChars_ba4f3 68 = .ok (.bastore, 1) := dTo2_35.2.2.2.2.1.2.1
theorem dJ6_getChars_ba4f3_69 : decode cJ6_getChars_ba4f3 69 = .ok (.goto (-47), 3) := dTo2_35.2.2.2.2.1.2.2.1
theorem dJ6_getChars_ba4f3_72 : decode cJ6_getChars_ba4f3 72 = .ok (.aload_n 2, 1) := dTo2_35.2.2.2.2.1.2.2.2.1
theorem dJ6_getChars_ba4f3_73 : decode cJ6_getChars_ba4f3 73 = .ok (.iinc 5 (-1), 3) := dTo2_35.2.2.2.2.1.2.2.2.2.1
theorem dJ6_getChars_ba4f3_76 : decode cJ6_getChars_ba4f3 76 = .ok (.iload 5, 2) := dTo2_35.2.2.2.2.1.2.2.2.2.2.1
theorem dJ6_getChars_ba4f3_78 : decode cJ6_getChars_ba4f3 78 = .ok (.getstatic 83, 3) := dTo2_35.2.2.2.2.1.2.2.2.2.2.2.1
theorem dJ6_getChars_ba4f3_81 : decode cJ6_getChars_ba4f3 81 = .ok (.iload_n 0, 1) := dTo2_35.2.2.2.2.1.2.2.2.2.2.2.2.1
theorem dJ6_getChars_ba4f3_82 : decode cJ6_getChars_ba4f3 82 = .ok (.ineg, 1) := dTo2_35.2.2.2.2.1.2.2.2.2.2.2.2.2.1
theorem dJ6_getChars_ba4f3_83 : decode cJ6_getChars_ba4f3 83 = .ok (.baload, 1) := dTo2_35.2.2.2.2.1.2.2.2.2.2.2.2.2.2.1
theorem dJ6_getChars_ba4f3_84 : decode cJ6_getChars_ba4f3 84 = .ok (.bastore, 1) := dTo2_35.2.2.2.2.2.1.1
theorem dJ6_getChars_ba4f3_85 : decode cJ6_getChars_ba4f3 85 = .ok (.iload_n 0, 1) := dTo2_35.2.2.2.2.2.1.2.1
theorem dJ6_getChars_ba4f3_86 : decode cJ6_getChars_ba4f3 86 = .ok (.bipush (-9), 2) := dTo2_35.2.2.2.2.2.1.2.2.1
theorem dJ6_getChars_ba4f3_88 : decode cJ6_getChars_ba4f3 88 = .ok (.if_icmp .ge 16, 3) := dTo2_35.2.2.2.2.2.1.2.2.2.1
theorem dJ6_getChars_ba4f3_91 : decode cJ6_getChars_ba4f3 91 = .ok (.aload_n 2, 1) := dTo2_35.2.2.2.2.2.1.2.2.2.2.1
theorem dJ6_getChars_ba4f3_92 : decode cJ6_getChars_ba4f3 92 = .ok (.iinc 5 (-1), 3) := dTo2_35.2.2.2.2.2.1.2.2.2.2.2.1
theorem dJ6_getChars_ba4f3_95 : decode cJ6_getChars_ba4f3 95 = .ok (.iload 5, 2) := dTo2_35.2.2.2.2.2.1.2.2.2.2.2.2.1
theorem dJ6_getChars_ba4f3_97 : decode cJ6_getChars_ba4f3 97 = .ok (.getstatic 87, 3) := dTo2_35.2.2.2.2.2.1.2.2.2.2.2.2.2.1
theorem dJ6_getChars_ba4f3_100 : decode cJ6_getChars_ba4f3 100 = .ok (.iload_n 0, 1) := dTo2_35.2.2.2.2.2.1.2.2.2.2.2.2.2.2.1
theorem dJ6_getChars_ba4f3_101 : decode cJ6_getChars_ba4f3 101 = .ok (.ineg, 1) := dTo2_35.2.2.2.2.2.1.2.2.2.2.2.2.2.2.2.1
theorem dTo2_36 : dQ cJ6_getChars_ba4f3 [[(102, zop51, 0, 0), (103, zop84, 0, 0), (104, zop21, 6, 0), (106, zop153, 0, 12), (109, zop44, 0, 0), (110, zop132, 5, 255), (113, zop21, 5, 0), (115, zop16, 45, 0), (117, zop84, 0, 0), (118, zop21, 5, 0)], [(120, zop172, 0, 0)]] := dQ_of _ _ (by decide +kernel)
theorem dJ6_getChars_ba4f3_102 : decode cJ6_getChars_ba4f3 102 = .ok (.baload, 1) := dTo2_36.1.1
theorem dJ6_getChars_ba4f3_103 : decode cJ6_getChars_ba4f3 103 = .ok (.bastore, 1) := dTo2_36.1.2.1
theorem dJ6_getChars_ba4f3_104 : decode cJ6_getChars_ba4f3 104 = .ok (.iload 6, 2) := dTo2_36.1.2.2.1
theorem dJ6_getChars_ba4f3_106 : decode cJ6_getChars_ba4f3 106 = .ok (.ifCond .eq 12, 3) := dTo2_36.1.2.2.2.1
theorem dJ6_getChars_ba4f3_109 : decode cJ6_getChars_ba4f3 109 = .ok (.aload_n 2, 1) := dTo2_36.1.2.2.2.2.1
theorem dJ6_getChars_ba4f3_110 : decode cJ6_getChars_ba4f3 110 = .ok (.iinc 5 (-1), 3) := dTo2_36.1.2.2.2.2.2.1
theorem dJ6_getChars_ba4f3_113 : decode cJ6_getChars_ba4f3 113 = .ok (.iload 5, 2) := dTo2_36.1.2.2.2.2.2.2.1
theorem dJ6_getChars_ba4f3_115 : decode cJ6_getChars_ba4f3 115 = .ok (.bipush 45, 2) := dTo2_36.1.2.2.2.2.2.2.2.1
theorem dJ6_getChars_ba4f3_117 : decode cJ6_getChars_ba4f3 117 = .ok (.bastore, 1) := dTo2_36.1.2.2.2.2.2.2.2.2.1
theorem dJ6_getChars_ba4f3_118 : decode cJ6_getChars_ba4f3 118 = .ok (.iload 5, 2) := dTo2_36.1.2.2.2.2.2.2.2.2.2.1
theorem dJ6_getChars_ba4f3_120 : decode cJ6_getChars_ba4f3 120 = .ok (.ireturn, 1) := dTo2_36.2.1.1
theorem dTo2_37 : dQ cJ6_stringSize_0f7a4 [[(0, zop4, 0, 0), (1, zop60, 0, 0), (2, zop26, 0, 0), (3, zop155, 0, 8), (6, zop3, 0, 0), (7, zop60, 0, 0), (8, zop26, 0, 0), (9, zop116, 0, 0), (10, zop59, 0, 0), (11, zop16, 246, 0)], [(13, zop61, 0, 0), (14, zop4, 0, 0), (15, zop62, 0, 0), (16, zop29, 0, 0), (17, zop16, 10, 0), (19, zop162, 0, 23), (22, zop26, 0, 0), (23, zop28, 0, 0), (24, zop164, 0, 7), (27, zop29, 0, 0)], [(28, zop27, 0, 0), (29, zop96, 0, 0), (30, zop172, 0, 0), (31, zop16, 10, 0), (33, zop28, 0, 0), (34, zop104, 0, 0), (35, zop61, 0, 0), (36, zop132, 3, 1), (39, zop167, 255, 233), (42, zop16, 10, 0)], [(44, zop27, 0, 0), (45, zop96, 0, 0), (46, zop172, 0, 0)]] := dQ_of _ _ (by decide +kernel)
theorem dJ6_stringSize_0f7a4_0 : decode cJ6_stringSize_0f7a4 0 = .ok (.iconst 1, 1) := dTo2_37.1.1
theorem dJ6_stringSize_0f7a4_1 : decode cJ6_stringSize_0f7a4 1 = .ok (.istore_n 1, 1) := dTo2_37.1.2.1
theorem dJ6_stringSize_0f7a4_2 : decode cJ6_stringSize_0f7a4 2 = .ok (.iload_n 0, 1) := dTo2_37.1.2.2.1
theorem dJ6_stringSize_0f7a4_3 : decode cJ6_stringSize_0f7a4 3 = .ok (.ifCond .lt 8, 3) := dTo2_37.1.2.2.2.1
theorem dJ6_stringSize_0f7a4_6 : decode cJ6_stringSize_0f7a4 6 = .ok (.iconst 0, 1) := dTo2_37.1.2.2.2.2.1
theorem dJ6_stringSize_0f7a4_7 : decode cJ6_stringSize_0f7a4 7 = .ok (.istore_n 1, 1) := dTo2_37.1.2.2.2.2.2.1
theorem dJ6_stringSize_0f7a4_8 : decode cJ6_stringSize_0f7a4 8 = .ok (.iload_n 0, 1) := dTo2_37.1.2.2.2.2.2.2.1
theorem dJ6_stringSize_0f7a4_9 : decode cJ6_stringSize_0f7a4 9 = .ok (.ineg, 1) := dTo2_37.1.2.2.2.2.2.2.2.1
theorem dJ6_stringSize_0f7a4_10 : decode cJ6_stringSize_0f7a4 10 = .ok (.istore_n 0, 1) := dTo2_37.1.2.2.2.2.2.2.2.2.1
theorem dJ6_stringSize_0f7a4_11 : decode cJ6_stringSize_0f7a4 11 = .ok (.bipush (-10), 2) := dTo2_37.1.2.2.2.2.2.2.2.2.2.1
theorem dJ6_stringSize_0f7a4_13 : decode cJ6_stringSize_0f7a4 13 = .ok (.istore_n 2, 1) := dTo2_37.2.1.1
theorem dJ6_stringSize_0f7a4_14 : decode cJ6_stringSize_0f7a4 14 = .ok (.iconst 1, 1) := dTo2_37.2.1.2.1
theorem dJ6_stringSize_0f7a4_15 : decode cJ6_stringSize_0f7a4 15 = .ok (.istore_n 3, 1) := dTo2_37.2.1.2.2.1
theorem dJ6_stringSize_0f7a4_16 : decode cJ6_stringSize_0f7a4 16 = .ok (.iload_n 3, 1) := dTo2_37.2.1.2.2.2.1
theorem dJ6_stringSize_0f7a4_17 : decode cJ6_stringSize_0f7a4 17 = .ok (.bipush 10, 2) := dTo2_37.2.1.2.2.2.2.1
theorem dJ6_stringSize_0f7a4_19 : decode cJ6_stringSize_0f7a4 19 = .ok (.if_icmp .ge 23, 3) := dTo2_37.2.1.2.2.2.2.2.1
theorem dJ6_stringSize_0f7a4_22 : decode cJ6_stringSize_0f7a4 22 = .ok (.iload_n 0, 1) := dTo2_37.2.1.2.2.2.2.2.2.1
theorem dJ6_stringSize_0f7a4_23 : decode cJ6_stringSize_0f7a4 23 = .ok (.iload_n 2, 1) := dTo2_37.2.1.2.2.2.2.2.2.2.1
theorem dJ6_stringSize_0f7a4_24 : decode cJ6_stringSize_0f7a4 24 = .ok (.if_icmp .le 7, 3) := dTo2_37.2.1.2.2.2.2.2.2.2.2.1
theorem dJ6_stringSize_0f7a4_27 : decode cJ6_stringSize_0f7a4 27 = .ok (.iload_n 3, 1) := dTo2_37.2.1.2.2.2.2.2.2.2.2.2.1
theorem dJ6_stringSize_0f7a4_28 : decode cJ6_stringSize_0f7a4 28 = .ok (.iload_n 1, 1) := dTo2_37.2.2.1.1
theorem dJ6_stringSize_0f7a4_29 : decode cJ6_stringSize_0f7a4 29 = .ok (.iadd, 1) := dTo2_37.2.2.1.2.1
theorem dJ6_stringSize_0f7a4_30 : decode cJ6_stringSize_0f7a4 30 = .ok (.ireturn, 1) := dTo2_37.2.2.1.2.2.1
theorem dJ6_stringSize_0f7a4_31 : decode cJ6_stringSize_0f7a4 31 = .ok (.bipush 10, 2) := dTo2_37.2.2.1.2.2.2.1
theorem dJ6_stringSize_0f7a4_33 : decode cJ6_stringSize_0f7a4 33 = .ok (.iload_n 2, 1) := dTo2_37.2.2.1.2.2.2.2.1
theorem dJ6_stringSize_0f7a4_34 : decode cJ6_stringSize_0f7a4 34 = .ok (.imul, 1) := dTo2_37.2.2.1.2.2.2.2.2.1
theorem dJ6_stringSize_0f7a4_35 : decode cJ6_stringSize_0f7a4 35 = .ok (.istore_n 2, 1) := dTo2_37.2.2.1.2.2.2.2.2.2.1
theorem dJ6_stringSize_0f7a4_36 : decode cJ6_stringSize_0f7a4 36 = .ok (.iinc 3 1, 3) := dTo2_37.2.2.1.2.2.2.2.2.2.2.1
theorem dJ6_stringSize_0f7a4_39 : decode cJ6_stringSize_0f7a4 39 = .ok (.goto (-23), 3) := dTo2_37.2.2.1.2.2.2.2.2.2.2.2.1
theorem dJ6_stringSize_0f7a4_42 : decode cJ6_stringSize_0f7a4 42 = .ok (.bipush 10, 2) := dTo2_37.2.2.1.2.2.2.2.2.2.2.2.2.1
theorem dJ6_stringSize_0f7a4_44 : decode cJ6_stringSize_0f7a4 44 = .ok (.iload_n 1, 1) := dTo2_37.2.2.2.1.1
theorem dJ6_stringSize_0f7a4_45 : decode cJ6_stringSize_0f7a4 45 = .ok (.iadd, 1) := dTo2_37.2.2.2.1.2.1
theorem dJ6_stringSize_0f7a4_46 : decode cJ6_stringSize_0f7a4 46 = .ok (.ireturn, 1) := dTo2_37.2.2.2.1.2.2.1
theorem dTo2_38 : dQ cJ6_compare_7cf53 [[(0, zop26, 0, 0), (1, zop27, 0, 0), (2, zop162, 0, 7), (5, zop2, 0, 0), (6, zop167, 0, 13), (9, zop26, 0, 0), (10, zop27, 0, 0), (11, zop160, 0, 7), (14, zop3, 0, 0), (15, zop167, 0, 4)], [(18, zop4, 0, 0), (19, zop172, 0, 0)]] := dQ_of _ _ (by decide +kernel)
theorem dJ6_compare_7cf53_0 : decode cJ6_compare_7cf53 0 = .ok (.iload_n 0, 1) := dTo2_38.1.1
theorem dJ6_compare_7cf53_1 : decode cJ6_compare_7cf53 1 = .ok (.iload_n 1, 1) := dTo2_38.1.2.1
theorem dJ6_compare_7cf53_2 : decode cJ6_compare_7cf53 2 = .ok (.if_icmp .ge 7, 3) := dTo2_38.1.2.2.1
theorem dJ6_compare_7cf53_5 : decode cJ6_compare_7cf53 5 = .ok (.iconst (-1), 1) := dTo2_38.1.2.2.2.1
theorem dJ6_compare_7cf53_6 : decode cJ6_compare_7cf53 6 = .ok (.goto 13, 3) := dTo2_38.1.2.2.2.2.1
theorem dJ6_compare_7cf53_9 : decode cJ6_compare_7cf53 9 = .ok (.iload_n 0, 1) := dTo2_38.1.2.2.2.2.2.1
theorem dJ6_compare_7cf53_10 : decode cJ6_compare_7cf53 10 = .ok (.iload_n 1, 1) := dTo2_38.1.2.2.2.2.2.2.1
theorem dJ6_compare_7cf53_11 : decode cJ6_compare_7cf53 11 = .ok (.if_icmp .ne 7, 3) := dTo2_38.1.2.2.2.2.2.2.2.1
theorem dJ6_compare_7cf53_14 : decode cJ6_compare_7cf53 14 = .ok (.iconst 0, 1) := dTo2_38.1.2.2.2.2.2.2.2.2.1
theorem dJ6_compare_7cf53_15 : decode cJ6_compare_7cf53 15 = .ok (.goto 4, 3) := dTo2_38.1.2.2.2.2.2.2.2.2.2.1
theorem dJ6_compare_7cf53_18 : decode cJ6_compare_7cf53 18 = .ok (.iconst 1, 1) := dTo2_38.2.1.1
theorem dJ6_compare_7cf53_19 : decode cJ6_compare_7cf53 19 = .ok (.ireturn, 1) := dTo2_38.2.1.2.1
theorem dTo2_39 : dQ cJ13_compare_74951 [[(0, zop30, 0, 0), (1, zop32, 0, 0), (2, zop148, 0, 0), (3, zop156, 0, 7), (6, zop2, 0, 0), (7, zop167, 0, 14), (10, zop30, 0, 0), (11, zop32, 0, 0), (12, zop148, 0, 0), (13, zop154, 0, 7)], [(16, zop3, 0, 0), (17, zop167, 0, 4), (20, zop4, 0, 0), (21, zop172, 0, 0)]] := dQ_of _ _ (by decide +kernel)
theorem dJ13_compare_74951_0 : decode cJ13_compare_74951 0 = .ok (.lload_n 0, 1) := dTo2_39.1.1
theorem dJ13_compare_74951_1 : decode cJ13_compare_74951 1 = .ok (.lload_n 2, 1) := dTo2_39.1.2.1
theorem dJ13_compare_74951_2 : decode cJ13_compare_74951 2 = .ok (.lcmp, 1) := dTo2_39.1.2.2.1
theorem dJ13_compare_74951_3 : decode cJ13_compare_74951 3 = .ok (.ifCond .ge 7, 3) := dTo2_39.1.2.2.2.1
theorem dJ13_compare_74951_6 : decode cJ13_compare_74951 6 = .ok (.iconst (-1), 1) := dTo2_39.1.2.2.2.2.1
theorem dJ13_compare_74951_7 : decode cJ13_compare_74951 7 = .ok (.goto 14, 3) := dTo2_39.1.2.2.2.2.2.1
theorem dJ13_compare_74951_10 : decode cJ13_compare_74951 10 = .ok (.lload_n 0, 1) := dTo2_39.1.2.2.2.2.2.2.1
theorem dJ13_compare_74951_11 : decode cJ13_compare_74951 11 = .ok (.lload_n 2, 1) := dTo2_39.1.2.2.2.2.2.2.2.1
theorem dJ13_compare_74951_12 : decode cJ13_compare_74951 12 = .ok (.lcmp, 1) := dTo2_39.1.2.2.2.2.2.2.2.2.1
theorem dJ13_compare_74951_13 : decode cJ13_compare_74951 13 = .ok (.ifCond .ne 7, 3) := dTo2_39.1.2.2.2.2.2.2.2.2.2.1
theorem dJ13_compare_74951_16 : decode cJ13_compare_74951 16 = .ok (.iconst 0, 1) := dTo2_39.2.1.1
theorem dJ13_compare_74951_17 : decode cJ13_compare_74951 17 = .ok (.goto 4, 3) := dTo2_39.2.1.2.1
theorem dJ13_compare_74951_20 : decode cJ13_compare_74951 20 = .ok (.iconst 1, 1) := dTo2_39.2.1.2.2.1
theorem dJ13_compare_74951_21 : decode cJ13_compare_74951 21 = .ok (.ireturn, 1) := dTo2_39.2.1.2.2.2.1
theorem dTo2_40 : dQ cJ9_floorDiv_7cf53 [[(0, zop26, 0, 0), (1, zop27, 0, 0), (2, zop108, 0, 0), (3, zop61, 0, 0), (4, zop26, 0, 0), (5, zop27, 0, 0), (6, zop130, 0, 0), (7, zop156, 0, 14), (10, zop28, 0, 0), (11, zop27, 0, 0)], [(12, zop104, 0, 0), (13, zop26, 0, 0), (14, zop159, 0, 7), (17, zop28, 0, 0), (18, zop4, 0, 0), (19, zop100, 0, 0), (20, zop172, 0, 0), (21, zop28, 0, 0), (22, zop172, 0, 0)]] := dQ_of _ _ (by decide +kernel)
theorem dJ9_floorDiv_7cf53_0 : decode cJ9_floorDiv_7cf53 0 = .ok (.iload_n 0, 1) := dTo2_40.1.1
theorem dJ9_floorDiv_7cf53_1 : decode cJ9_floorDiv_7cf53 1 = .ok (.iload_n 1, 1) := dTo2_40.1.2.1
theorem dJ9_floorDiv_7cf53_2 : decode cJ9_floorDiv_7cf53 2 = .ok (.idiv, 1) := dTo2_40.1.2.2.1
theorem dJ9_floorDiv_7cf53_3 : decode cJ9_floorDiv_7cf53 3 = .ok (.istore_n 2, 1) := dTo2_40.1.2.2.2.1
theorem dJ9_floorDiv_7cf53_4 : decode cJ9_floorDiv_7cf53 4 = .ok (.iload_n 0, 1) := dTo2_40.1.2.2.2.2.1
theorem dJ9_floorDiv_7cf53_5 : decode cJ9_floorDiv_7cf53 5 = .ok (.iload_n 1, 1) := dTo2_40.1.2.2.2.2.2.1
theorem dJ9_floorDiv_7cf53_6 : decode cJ9_floorDiv_7cf53 6 = .ok (.ixor, 1) := dTo2_40.1.2.2.2.2.2.2.1
theorem dJ9_floorDiv_7cf53_7 : decode cJ9_floorDiv_7cf53 7 = .ok (.ifCond .ge 14, 3) := dTo2_40.1.2.2.2.2.2.2.2.1
theorem dJ9_floorDiv_7cf53_10 : decode cJ9_floorDiv_7cf53 10 = .ok (.iload_n 2, 1) := dTo2_40.1.2.2.2.2.2.2.2.2.1
theorem dJ9_floorDiv_7cf53_11 : decode cJ9_floorDiv_7cf53 11 = .ok (.iload_n 1, 1) := dTo2_40.1.2.2.2.2.2.2.2.2.2.1
theorem dJ9_floorDiv_7cf53_12 : decode cJ9_floorDiv_7cf53 12 = .ok (.imul, 1) := dTo2_40.2.1.1
theorem dJ9_floorDiv_7cf53_13 : decode cJ9_floorDiv_7cf53 13 = .ok (.iload_n 0, 1) := dTo2_40.2.1.2.1
theorem dJ9_floorDiv_7cf53_14 : decode cJ9_floorDiv_7cf53 14 = .ok (.if_icmp .eq 7, 3) := dTo2_40.2.1.2.2.1
theorem dJ9_floorDiv_7cf53_17 : decode cJ9_floorDiv_7cf53 17 = .ok (.iload_n 2, 1) := dTo2_40.2.1.2.2.2.1
theorem dJ9_floorDiv_7cf53_18 : decode cJ9_floorDiv_7cf53 18 = .ok (.iconst 1, 1) := dTo2_40.2.1.2.2.2.2.1
theorem dJ9_floorDiv_7cf53_19 : decode cJ9_floorDiv_7cf53 19 = .ok (.isub, 1) := dTo2_40.2.1.2.2.2.2.2.1
theorem dJ9_floorDiv_7cf53_20 : decode cJ9_floorDiv_7cf53 20 = .ok (.ireturn, 1) := dTo2_40.2.1.2.2.2.2.2.2.1
theorem dJ9_floorDiv_7cf53_21 : decode cJ9_floorDiv_7cf53 21 = .ok (.iload_n 2, 1) := dTo2_40.2.1.2.2.2.2.2.2.2.1
theorem dJ9_floorDiv_7cf53_22 : decode cJ9_floorDiv_7cf53 22 = .ok (.ireturn, 1) := dTo2_40.2.1.2.2.2.2.2.2.2.2.1
theorem dTo2_41 : dQ cJ9_abs_0f7a4 [[(0, zop26, 0, 0), (1, zop156, 0, 8), (4, zop26, 0, 0), (5, zop116, 0, 0), (6, zop167, 0, 4), (9, zop26, 0, 0), (10, zop172, 0, 0)]] := dQ_of _ _ (by decide +kernel)
theorem dJ9_abs_0f7a4_0 : decode cJ9_abs_0f7a4 0 = .ok (.iload_n 0, 1) := dTo2_41.1.1
theorem dJ9_abs_0f7a4_1 : decode cJ9_abs_0f7a4 1 = .ok (.ifCond .ge 8, 3) := dTo2_41.1.2.1
theorem dJ9_abs_0f7a4_4 : decode cJ9_abs_0f7a4 4 = .ok (.iload_n 0, 1) := dTo2_41.1.2.2.1
theorem dJ9_abs_0f7a4_5 : decode cJ9_abs_0f7a4 5 = .ok (.ineg, 1) := dTo2_41.1.2.2.2.1
theorem dJ9_abs_0f7a4_6 : decode cJ9_abs_0f7a4 6 = .ok (.goto 4, 3) := dTo2_41.1.2.2.2.2.1
theorem dJ9_abs_0f7a4_9 : decode cJ9_abs_0f7a4 9 = .ok (.iload_n 0, 1) := dTo2_41.1.2.2.2.2.2.1
theorem dJ9_abs_0f7a4_10 : decode cJ9_abs_0f7a4 10 = .ok (.ireturn, 1) := dTo2_41.1.2.2.2.2.2.2.1
theorem dTo2_42 : dQ cJ9_abs_067f4 [[(0, zop30, 0, 0), (1, zop9, 0, 0), (2, zop148, 0, 0), (3, zop156, 0, 8), (6, zop30, 0, 0), (7, zop117, 0, 0), (8, zop167, 0, 4), (11, zop30, 0, 0), (12, zop173, 0, 0)]] := dQ_of _ _ (by decide +kernel)
theorem dJ9_abs_067f4_0 : decode cJ9_abs_067f4 0 = .ok (.lload_n 0, 1) := dTo2_42.1.1
theorem dJ9_abs_067f4_1 : decode cJ9_abs_067f4 1 = .ok (.lconst 0, 1) := dTo2_42.1.2.1
theorem dJ9_abs_067f4_2 : decode cJ9_abs_067f4 2 = .ok (.lcmp, 1) := dTo2_42.1.2.2.1
theorem dJ9_abs_067f4_3 : decode cJ9_abs_067f4 3 = .ok (.ifCond .ge 8, 3) := dTo2_42.1.2.2.2.1
theorem dJ9_abs_067f4_6 : decode cJ9_abs_067f4 6 = .ok (.lload_n 0, 1) := dTo2_42.1.2.2.2.2.1
theorem dJ9_abs_067f4_7 : decode cJ9_abs_067f4 7 = .ok (.lneg, 1) := dTo2_42.1.2.2.2.2.2.1
theorem dJ9_abs_067f4_8 : decode cJ9_abs_067f4 8 = .ok (.goto 4, 3) := dTo2_42.1.2.2.2.2.2.2.1
theorem dJ9_abs_067f4_11 : decode cJ9_abs_067f4 11 = .ok (.lload_n 0, 1) := dTo2_42.1.2.2.2.2.2.2.2.1
theorem dJ9_abs_067f4_12 : decode cJ9_abs_067f4 12 = .ok (.lreturn, 1) := dTo2_42.1.2.2.2.2.2.2.2.2.1
theorem dTo2_43 : dQ cJ9_max_7cf53 [[(0, zop26, 0, 0), (1, zop27, 0, 0), (2, zop161, 0, 7), (5, zop26, 0, 0), (6, zop167, 0, 4), (9, zop27, 0, 0), (10, zop172, 0, 0)]] := dQ_of _ _ (by decide +kernel)
theorem dJ9_max_7cf53_0 : decode cJ9_max_7cf53 0 = .ok (.iload_n 0, 1) := dTo2_43.1.1
theorem dJ9_max_7cf53_1 : decode cJ9_max_7cf53 1 = .ok (.iload_n 1, 1) := dTo2_43.1.2.1
theorem dJ9_max_7cf53_2 : decode cJ9_max_7cf53 2 = .ok (.if_icmp .lt 7, 3) := dTo2_43.1.2.2.1
theorem dJ9_max_7cf53_5 : decode cJ9_max_7cf53 5 = .ok (.iload_n 0, 1) := dTo2_43.1.2.2.2.1
theorem dJ9_max_7cf53_6 : decode cJ9_max_7cf53 6 = .ok (.goto 4, 3) := dTo2_43.1.2.2.2.2.1
theorem dJ9_max_7cf53_9 : decode cJ9_max_7cf53 9 = .ok (.iload_n 1, 1) := dTo2_43.1.2.2.2.2.2.1
theorem dJ9_max_7cf53_10 : decode cJ9_max_7cf53 10 = .ok (.ireturn, 1) := dTo2_43.1.2.2.2.2.2.2.1
theorem dTo2_44 : dQ cJ9_min_7cf53 [[(0, zop26, 0, 0), (1, zop27, 0, 0), (2, zop163, 0, 7), (5, zop26, 0, 0), (6, zop167, 0, 4), (9, zop27, 0, 0), (10, zop172, 0, 0)]] := dQ_of _ _ (by decide +kernel)
theorem dJ9_min_7cf53_0 : decode cJ9_min_7cf53 0 = .ok (.iload_n 0, 1) := dTo2_44.1.1
theorem dJ9_min_7cf53_1 : decode cJ9_min_7cf53 1 = .ok (.iload_n 1, 1) := dTo2_44.1.2.1
theorem dJ9_min_7cf53_2 : decode cJ9_min_7cf53 2 = .ok (.if_icmp .gt 7, 3) := dTo2_44.1.2.2.1
theorem dJ9_min_7cf53_5 : decode cJ9_min_7cf53 5 = .ok (.iload_n 0, 1) := dTo2_44.1.2.2.2.1
theorem dJ9_min_7cf53_6 : decode cJ9_min_7cf53 6 = .ok (.goto 4, 3) := dTo2_44.1.2.2.2.2.1
theorem dJ9_min_7cf53_9 : decode cJ9_min_7cf53 9 = .ok (.iload_n 1, 1) := dTo2_44.1.2.2.2.2.2.1
theorem dJ9_min_7cf53_10 : decode cJ9_min_7cf53 10 = .ok (.ireturn, 1) := dTo2_44.1.2.2.2.2.2.2.1
theorem dTo2_45 : dQ cJ0_init_81219 [[(0, zop42, 0, 0), (1, zop43, 0, 0), (2, zop1, 0, 0), (3, zop183, 1, 233), (6, zop177, 0, 0)]] := dQ_of _ _ (by decide +kernel)
theorem dJ0_init_81219_0 : decode cJ0_init_81219 0 = .ok (.aload_n 0, 1) := dTo2_45.1.1
theorem dJ0_init_81219_1 : decode cJ0_init_81219 1 = .ok (.aload_n 1, 1) := dTo2_45.1.2.1
theorem dJ0_init_81219_2 : decode cJ0_init_81219 2 = .ok (.aconst_null, 1) := dTo2_45.1.2.2.1
theorem dJ0_init_81219_3 : decode cJ0_init_81219 3 = .ok (.invokespecial 489, 3) := dTo2_45.1.2.2.2.1
theorem dJ0_init_81219_6 : decode cJ0_init_81219 6 = .ok (.return_, 1) := dTo2_45.1.2.2.2.2.1
theorem dTo2_46 : dQ cJ0_length_8abf5 [[(0, zop42, 0, 0), (1, zop180, 0, 9), (4, zop190, 0, 0), (5, zop42, 0, 0), (6, zop182, 1, 79), (9, zop122, 0, 0), (10, zop172, 0, 0)]] := dQ_of _ _ (by decide +kernel)
theorem dJ0_length_8abf5_0 : decode cJ0_length_8abf5 0 = .ok (.aload_n 0, 1) := dTo2_46.1.1
theorem dJ0_length_8abf5_1 : decode cJ0_length_8abf5 1 = .ok (.getfield 9, 3) := dTo2_46.1.2.1
theorem dJ0_length_8abf5_4 : decode cJ0_length_8abf5 4 = .ok (.arraylength, 1) := dTo2_46.1.2.2.1
theorem dJ0_length_8abf5_5 : decode cJ0_length_8abf5 5 = .ok (.aload_n 0, 1) := dTo2_46.1.2.2.2.1
theorem dJ0_length_8abf5_6 : decode cJ0_length_8abf5 6 = .ok (.invokevirtual 335, 3) := dTo2_46.1.2.2.2.2.1
theorem dJ0_length_8abf5_9 : decode cJ0_length_8abf5 9 = .ok (.ishr, 1) := dTo2_46.1.2.2.2.2.2.1
theorem dJ0_length_8abf5_10 : decode cJ0_length_8abf5 10 = .ok (.ireturn, 1) := dTo2_46.1.2.2.2.2.2.2.1
theorem dTo2_47 : dQ cJ0_getBytes_840e7 [[(0, zop42, 0, 0), (1, zop182, 1, 79), (4, zop29, 0, 0), (5, zop160, 0, 23), (8, zop42, 0, 0), (9, zop180, 0, 9), (12, zop3, 0, 0), (13, zop43, 0, 0), (14, zop28, 0, 0), (15, zop29, 0, 0)], [(16, zop120, 0, 0), (17, zop42, 0, 0), (18, zop180, 0, 9), (21, zop190, 0, 0), (22, zop184, 0, 212), (25, zop167, 0, 18), (28, zop42, 0, 0), (29, zop180, 0, 9), (32, zop3, 0, 0), (33, zop43, 0, 0)], [(34, zop28, 0, 0), (35, zop42, 0, 0), (36, zop180, 0, 9), (39, zop190, 0, 0), (40, zop184, 0, 106), (43, zop177, 0, 0)]] := dQ_of _ _ (by decide +kernel)
theorem dJ0_getBytes_840e7_0 : decode cJ0_getBytes_840e7 0 = .ok (.aload_n 0, 1) := dTo2_47.1.1
theorem dJ0_getBytes_840e7_1 : decode cJ0_getBytes_840e7 1 = .ok (.invokevirtual 335, 3) := dTo2_47.1.2.1
theorem dJ0_getBytes_840e7_4 : decode cJ0_getBytes_840e7 4 = .ok (.iload_n 3, 1) := dTo2_47.1.2.2.1
theorem dJ0_getBytes_840e7_5 : decode cJ0_getBytes_840e7 5 = .ok (.if_icmp .ne 23, 3) := dTo2_47.1.2.2.2.1
theorem dJ0_getBytes_840e7_8 : decode cJ0_getBytes_840e7 8 = .ok (.aload_n 0, 1) := dTo2_47.1.2.2.2.2.1
theorem dJ0_getBytes_840e7_9 : decode cJ0_getBytes_840e7 9 = .ok (.getfield 9, 3) := dTo2_47.1.2.2.2.2.2.1
theorem dJ0_getBytes_840e7_12 : decode cJ0_getBytes_840e7 12 = .ok (.iconst 0, 1) := dTo2_47.1.2.2.2.2.2.2.1
theorem dJ0_getBytes_840e7_13 : decode cJ0_getBytes_840e7 13 = .ok (.aload_n 1, 1) := dTo2_47.1.2.2.2.2.2.2.2.1
theorem dJ0_getBytes_840e7_14 : decode cJ0_getBytes_840e7 14 = .ok (.iload_n 2, 1) := dTo2_47.1.2.2.2.2.2.2.2.2.1
theorem dJ0_getBytes_840e7_15 : decode cJ0_getBytes_840e7 15 = .ok (.iload_n 3, 1) := dTo2_47.1.2.2.2.2.2.2.2.2.2.1
theorem dJ0_getBytes_840e7_16 : decode cJ0_getBytes_840e7 16 = .ok (.ishl, 1) := dTo2_47.2.1.1
theorem dJ0_getBytes_840e7_17 : decode cJ0_getBytes_840e7 17 = .ok (.aload_n 0, 1) := dTo2_47.2.1.2.1
theorem dJ0_getBytes_840e7_18 : decode cJ0_getBytes_840e7 18 = .ok (.getfield 9, 3) := dTo2_47.2.1.2.2.1
theorem dJ0_getBytes_840e7_21 : decode cJ0_getBytes_840e7 21 = .ok (.arraylength, 1) := dTo2_47.2.1.2.2.2.1
theorem dJ0_getBytes_840e7_22 : decode cJ0_getBytes_840e7 22 = .ok (.invokestatic 212, 3) := dTo2_47.2.1.2.2.2.2.1
theorem dJ0_getBytes_840e7_25 : decode cJ0_getBytes_840e7 25 = .ok (.goto 18, 3) := dTo2_47.2.1.2.2.2.2.2.1
theorem dJ0_getBytes_840e7_28 : decode cJ0_getBytes_840e7 28 = .ok (.aload_n 0, 1) := dTo2_47.2.1.2.2.2.2.2.2.1
theorem dJ0_getBytes_840e7_29 : decode cJ0_getBytes_840e7 29 = .ok (.getfield 9, 3) := dTo2_47.2.1.2.2.2.2.2.2.2.1
theorem dJ0_getBytes_840e7_32 : decode cJ0_getBytes_840e7 32 = .ok (.iconst 0, 1) := dTo2_47.2.1.2.2.2.2.2.2.2.2.1
theorem dJ0_getBytes_840e7_33 : decode cJ0_getBytes_840e7 33 = .ok (.aload_n 1, 1) := dTo2_47.2.1.2.2.2.2.2.2.2.2.2.1
theorem dJ0_getBytes_840e7_34 : decode cJ0_getBytes_840e7 34 = .ok (.iload_n 2, 1) := dTo2_47.2.2.1.1
theorem dJ0_getBytes_840e7_35 : decode cJ0_getBytes_840e7 35 = .ok (.aload_n 0, 1) := dTo2_47.2.2.1.2.1
theorem dJ0_getBytes_840e7_36 : decode cJ0_getBytes_840e7 36 = .ok (.getfield 9, 3) := dTo2_47.2.2.1.2.2.1
theorem dJ0_getBytes_840e7_39 : decode cJ0_getBytes_840e7 39 = .ok (.arraylength, 1) := dTo2_47.2.2.1.2.2.2.1
theorem dJ0_getBytes_840e7_40 : decode cJ0_getBytes_840e7 40 = .ok (.invokestatic 106, 3) := dTo2_47.2.2.1.2.2.2.2.1
theorem dJ0_getBytes_840e7_43 : decode cJ0_getBytes_840e7 43 = .ok (.return_, 1) := dTo2_47.2.2.1.2.2.2.2.2.1
theorem dTo2_48 : dQ cJ0_init_db425 [[(0, zop42, 0, 0), (1, zop183, 0, 1), (4, zop43, 0, 0), (5, zop182, 2, 40), (8, zop78, 0, 0), (9, zop43, 0, 0), (10, zop182, 2, 37), (13, zop54, 4, 0), (15, zop43, 0, 0), (16, zop182, 4, 23)], [(19, zop153, 0, 22), (22, zop42, 0, 0), (23, zop3, 0, 0), (24, zop181, 0, 15), (27, zop42, 0, 0), (28, zop45, 0, 0), (29, zop3, 0, 0), (30, zop21, 4, 0), (32, zop184, 0, 54), (35, zop181, 0, 9)], [(38, zop167, 0, 59), (41, zop178, 0, 38), (44, zop153, 0, 35), (47, zop43, 0, 0), (48, zop180, 4, 24), (51, zop153, 0, 28), (54, zop42, 0, 0), (55, zop45, 0, 0), (56, zop3, 0, 0), (57, zop21, 4, 0)], [(59, zop184, 4, 27), (62, zop181, 0, 9), (65, zop42, 0, 0), (66, zop42, 0, 0), (67, zop180, 0, 9), (70, zop21, 4, 0), (72, zop184, 0, 47), (75, zop181, 0, 15), (78, zop177, 0, 0), (79, zop42, 0, 0)], [(80, zop4, 0, 0), (81, zop181, 0, 15), (84, zop42, 0, 0), (85, zop45, 0, 0), (86, zop3, 0, 0), (87, zop21, 4, 0), (89, zop4, 0, 0), (90, zop120, 0, 0), (91, zop184, 0, 54), (94, zop181, 0, 9)], [(97, zop177, 0, 0)]] := dQ_of _ _ (by decide +kernel)
theorem dJ0_init_db425_0 : decode cJ0_init_db425 0 = .ok (.aload_n 0, 1) := dTo2_48.1.1
theorem dJ0_init_db425_1 : decode cJ0_init_db425 1 = .ok (.invokespecial 1, 3) := dTo2_48.1.2.1
theorem dJ0_init_db425_4 : decode cJ0_init_db425 4 = .ok (.aload_n 1, 1) := dTo2_48.1.2.2.1
theorem dJ0_init_db425_5 : decode cJ0_init_db425 5 = .ok (.invokevirtual 552, 3) := dTo2_48.1.2.2.2.1
theorem dJ0_init_db425_8 : decode cJ0_init_db425 8 = .ok (.astore_n 3, 1) := dTo2_48.1.2.2.2.2.1
theorem dJ0_init_db425_9 : decode cJ0_init_db425 9 = .ok (.aload_n 1, 1) := dTo2_48.1.2.2.2.2.2.1
theorem dJ0_init_db425_10 : decode cJ0_init_db425 10 = .ok (.invokevirtual 549, 3) := dTo2_48.1.2.2.2.2.2.2.1
theorem dJ0_init_db425_13 : decode cJ0_init_db425 13 = .ok (.istore 4, 2) := dTo2_48.1.2.2.2.2.2.2.2.1
theorem dJ0_init_db425_15 : decode cJ0_init_db425 15 = .ok (.aload_n 1, 1) := dTo2_48.1.2.2.2.2.2.2.2.2.1
theorem dJ0_init_db425_16 : decode cJ0_init_db425 16 = .ok (.invokevirtual 1047, 3) := dTo2_48.1.2.2.2.2.2.2.2.2.2.1
theorem dJ0_init_db425_19 : decode cJ0_init_db425 19 = .ok (.ifCond .eq 22, 3) := dTo2_48.2.1.1
theorem dJ0_init_db425_22 : decode cJ0_init_db425 22 = .ok (.aload_n 0, 1) := dTo2_48.2.1.2.1
theorem dJ0_init_db425_23 : decode cJ0_init_db425 23 = .ok (.iconst 0, 1) := dTo2_48.2.1.2.2.1
theorem dJ0_init_db425_24 : decode cJ0_init_db425 24 = .ok (.putfield 15, 3) := dTo2_48.2.1.2.2.2.1
theorem dJ0_init_db425_27 : decode cJ0_init_db425 27 = .ok (.aload_n 0, 1) := dTo2_48.2.1.2.2.2.2.1
theorem dJ0_init_db425_28 : decode cJ0_init_db425 28 = .ok (.aload_n 3, 1) := dTo2_48.2.1.2.2.2.2.2.1
theorem dJ0_init_db425_29 : decode cJ0_init_db425 29 = .ok (.iconst 0, 1) := dTo2_48.2.1.2.2.2.2.2.2.1
theorem dJ0_init_db425_30 : decode cJ0_init_db425 30 = .ok (.iload 4, 2) := dTo2_48.2.1.2.2.2.2.2.2.2.1
theorem dJ0_init_db425_32 : decode cJ0_init_db425 32 = .ok (.invokestatic 54, 3) := dTo2_48.2.1.2.2.2.2.2.2.2.2.1
theorem dJ0_init_db425_35 : decode cJ0_init_db425 35 = .ok (.putfield 9, 3) := dTo2_48.2.1.2.2.2.2.2.2.2.2.2.1
theorem dJ0_init_db425_38 : decode cJ0_init_db425 38 = .ok (.goto 59, 3) := dTo2_48.2.2.1.1
theorem dJ0_init_db425_41 : decode cJ0_init_db425 41 = .ok (.getstatic 38, 3) := dTo2_48.2.2.1.2.1
theorem dJ0_init_db425_44 : decode cJ0_init_db425 44 = .ok (.ifCond .eq 35, 3) := dTo2_48.2.2.1.2.2.1
theorem dJ0_init_db425_47 : decode cJ0_init_db425 47 = .ok (.aload_n 1, 1) := dTo2_48.2.2.1.2.2.2.1
theorem dJ0_init_db425_48 : decode cJ0_init_db425 48 = .ok (.getfield 1048, 3) := dTo2_48.2.2.1.2.2.2.2.1
theorem dJ0_init_db425_51 : decode cJ0_init_db425 51 = .ok (.ifCond .eq 28, 3) := dTo2_48.2.2.1.2.2.2.2.2.1
theorem dJ0_init_db425_54 : decode cJ0_init_db425 54 = .ok (.aload_n 0, 1) := dTo2_48.2.2.1.2.2.2.2.2.2.1
theorem dJ0_init_db425_55 : decode cJ0_init_db425 55 = .ok (.aload_n 3, 1) := dTo2_48.2.2.1.2.2.2.2.2.2.2.1
theorem dJ0_init_db425_56 : decode cJ0_init_db425 56 = .ok (.iconst 0, 1) := dTo2_48.2.2.1.2.2.2.2.2.2.2.2.1
theorem dJ0_init_db425_57 : decode cJ0_init_db425 57 = .ok (.iload 4, 2) := dTo2_48.2.2.1.2.2.2.2.2.2.2.2.2.1
theorem dJ0_init_db425_59 : decode cJ0_init_db425 59 = .ok (.invokestatic 1051, 3) := dTo2_48.2.2.2.1.1
theorem dJ0_init_db425_62 : decode cJ0_init_db425 62 = .ok (.putfield 9, 3) := dTo2_48.2.2.2.1.2.1
theorem dJ0_init_db425_65 : decode cJ0_init_db425 65 = .ok (.aload_n 0, 1) := dTo2_48.2.2.2.1.2.2.1
theorem dJ0_init_db425_66 : decode cJ0_init_db425 66 = .ok (.aload_n 0, 1) := dTo2_48.2.2.2.1.2.2.2.1
theorem dJ0_init_db425_67 : decode cJ0_init_db425 67 = .ok (.getfield 9, 3) := dTo2_48.2.2.2.1.2.2.2.2.1
theorem dJ0_init_db425_70 : decode cJ0_init_db425 70 = .ok (.iload 4, 2) := dTo2_48.2.2.2.1.2.2.2.2.2.1
theorem dJ0_init_db425_72 : decode cJ0_init_db425 72 = .ok (.invokestatic 47, 3) := dTo2_48.2.2.2.1.2.2.2.2.2.2.1
theorem dJ0_init_db425_75 : decode cJ0_init_db425 75 = .ok (.putfield 15, 3) := dTo2_48.2.2.2.1.2.2.2.2.2.2.2.1
theorem dJ0_init_db425_78 : decode cJ0_init_db425 78 = .ok (.return_, 1) := dTo2_48.2.2.2.1.2.2.2.2.2.2.2.2.1
theorem dJ0_init_db425_79 : decode cJ0_init_db425 79 = .ok (.aload_n 0, 1) := dTo2_48.2.2.2.1.2.2.2.2.2.2.2.2.2.1
theorem dJ0_init_db425_80 : decode cJ0_init_db425 80 = .ok (.iconst 1, 1) := dTo2_48.2.2.2.2.1.1
theorem dJ0_init_db425_81 : decode cJ0_init_db425 81 = .ok (.putfield 15, 3) := dTo2_48.2.2.2.2.1.2.1
theorem dJ0_init_db425_84 : decode cJ0_init_db425 84 = .ok (.aload_n 0, 1) := dTo2_48.2.2.2.2.1.2.2.1
theorem dJ0_init_db425_85 : decode cJ0_init_db425 85 = .ok (.aload_n 3, 1) := dTo2_48.2.2.2.2.1.2.2.2.1
theorem dJ0_init_db425_86 : decode cJ0_init_db425 86 = .ok (.iconst 0, 1) := dTo2_48.2.2.2.2.1.2.2.2.2.1
theorem dJ0_init_db425_87 : decode cJ0_init_db425 87 = .ok (.iload 4, 2) := dTo2_48.2.2.2.2.1.2.2.2.2.2.1
theorem dJ0_init_db425_89 : decode cJ0_init_db425 89 = .ok (.iconst 1, 1) := dTo2_48.2.2.2.2.1.2.2.2.2.2.2.1
theorem dJ0_init_db425_90 : decode cJ0_init_db425 90 = .ok (.ishl, 1) := dTo2_48.2.2.2.2.1.2.2.2.2.2.2.2.1
theorem dJ0_init_db425_91 : decode cJ0_init_db425 91 = .ok (.invokestatic 54, 3) := dTo2_48.2.2.2.2.1.2.2.2.2.2.2.2.2.1
theorem dJ0_init_db425_94 : decode cJ0_init_db425 94 = .ok (.putfield 9, 3) := dTo2_48.2.2.2.2.1.2.2.2.2.2.2.2.2.2.1
theorem dJ0_init_db425_97 : decode cJ0_init_db425 97 = .ok (.return_, 1) := dTo2_48.2.2.2.2.2.1.1
theorem dTo2_49 : dQ cJ0_coder_7d493 [[(0, zop178, 0, 38), (3, zop153, 0, 10), (6, zop42, 0, 0), (7, zop180, 0, 15), (10, zop167, 0, 4), (13, zop4, 0, 0), (14, zop172, 0, 0)]] := dQ_of _ _ (by decide +kernel)
theorem dJ0_coder_7d493_0 : decode cJ0_coder_7d493 0 = .ok (.getstatic 38, 3) := dTo2_49.1.1
theorem dJ0_coder_7d493_3 : decode cJ0_coder_7d493 3 = .ok (.ifCond .eq 10, 3) := dTo2_49.1.2.1
theorem dJ0_coder_7d493_6 : decode cJ0_coder_7d493 6 = .ok (.aload_n 0, 1) := dTo2_49.1.2.2.1
theorem dJ0_coder_7d493_7 : decode cJ0_coder_7d493 7 = .ok (.getfield 15, 3) := dTo2_49.1.2.2.2.1
theorem dJ0_coder_7d493_10 : decode cJ0_coder_7d493 10 = .ok (.goto 4, 3) := dTo2_49.1.2.2.2.2.1
theorem dJ0_coder_7d493_13 : decode cJ0_coder_7d493 13 = .ok (.iconst 1, 1) := dTo2_49.1.2.2.2.2.2.1
theorem dJ0_coder_7d493_14 : decode cJ0_coder_7d493 14 = .ok (.ireturn, 1) := dTo2_49.1.2.2.2.2.2.2.1
theorem dTo2_50 : dQ cJ0_checkIndex_df160 [[(0, zop26, 0, 0), (1, zop27, 0, 0), (2, zop178, 4, 29), (5, zop184, 4, 35), (8, zop87, 0, 0), (9, zop177, 0, 0)]] := dQ_of _ _ (by decide +kernel)
theorem dJ0_checkIndex_df160_0 : decode cJ0_checkIndex_df160 0 = .ok (.iload_n 0, 1) := dTo2_50.1.1
theorem dJ0_checkIndex_df160_1 : decode cJ0_checkIndex_df160 1 = .ok (.iload_n 1, 1) := dTo2_50.1.2.1
theorem dJ0_checkIndex_df160_2 : decode cJ0_checkIndex_df160 2 = .ok (.getstatic 1053, 3) := dTo2_50.1.2.2.1
theorem dJ0_checkIndex_df160_5 : decode cJ0_checkIndex_df160 5 = .ok (.invokestatic 1059, 3) := dTo2_50.1.2.2.2.1
theorem dJ0_checkIndex_df160_8 : decode cJ0_checkIndex_df160 8 = .ok (.pop, 1) := dTo2_50.1.2.2.2.2.1
theorem dJ0_checkIndex_df160_9 : decode cJ0_checkIndex_df160 9 = .ok (.return_, 1) := dTo2_50.1.2.2.2.2.2.1
theorem dTo2_51 : dQ cJ0_checkBoundsOffCount_cabcc [[(0, zop26, 0, 0), (1, zop27, 0, 0), (2, zop28, 0, 0), (3, zop178, 4, 29), (6, zop184, 4, 41), (9, zop172, 0, 0)]] := dQ_of _ _ (by decide +kernel)
theorem dJ0_checkBoundsOffCount_cabcc_0 : decode cJ0_checkBoundsOffCount_cabcc 0 = .ok (.iload_n 0, 1) := dTo2_51.1.1
theorem dJ0_checkBoundsOffCount_cabcc_1 : decode cJ0_checkBoundsOffCount_cabcc 1 = .ok (.iload_n 1, 1) := dTo2_51.1.2.1
theorem dJ0_checkBoundsOffCount_cabcc_2 : decode cJ0_checkBoundsOffCount_cabcc 2 = .ok (.iload_n 2, 1) := dTo2_51.1.2.2.1
theorem dJ0_checkBoundsOffCount_cabcc_3 : decode cJ0_checkBoundsOffCount_cabcc 3 = .ok (.getstatic 1053, 3) := dTo2_51.1.2.2.2.1
theorem dJ0_checkBoundsOffCount_cabcc_6 : decode cJ0_checkBoundsOffCount_cabcc 6 = .ok (.invokestatic 1065, 3) := dTo2_51.1.2.2.2.2.1
theorem dJ0_checkBoundsOffCount_cabcc_9 : decode cJ0_checkBoundsOffCount_cabcc 9 = .ok (.ireturn, 1) := dTo2_51.1.2.2.2.2.2.1
theorem dTo2_52 : dQ cJ0_checkBoundsBeginEnd_23922 [[(0, zop26, 0, 0), (1, zop27, 0, 0), (2, zop28, 0, 0), (3, zop178, 4, 29), (6, zop184, 4, 38), (9, zop87, 0, 0), (10, zop177, 0, 0)]] := dQ_of _ _ (by decide +kernel)
theorem dJ0_checkBoundsBeginEnd_23922_0 : decode cJ0_checkBoundsBeginEnd_23922 0 = .ok (.iload_n 0, 1) := dTo2_52.1.1
theorem dJ0_checkBoundsBeginEnd_23922_1 : decode cJ0_checkBoundsBeginEnd_23922 1 = .ok (.iload_n 1, 1) := dTo2_52.1.2.1
theorem dJ0_checkBoundsBeginEnd_23922_2 : decode cJ0_checkBoundsBeginEnd_23922 2 = .ok (.iload_n 2, 1) := dTo2_52.1.2.2.1
theorem dJ0_checkBoundsBeginEnd_23922_3 : decode cJ0_checkBoundsBeginEnd_23922 3 = .ok (.getstatic 1053, 3) := dTo2_52.1.2.2.2.1
theorem dJ0_checkBoundsBeginEnd_23922_6 : decode cJ0_checkBoundsBeginEnd_23922 6 = .ok (.invokestatic 1062, 3) := dTo2_52.1.2.2.2.2.1
theorem dJ0_checkBoundsBeginEnd_23922_9 : decode cJ0_checkBoundsBeginEnd_23922 9 = .ok (.pop, 1) := dTo2_52.1.2.2.2.2.2.1
theorem dJ0_checkBoundsBeginEnd_23922_10 : decode cJ0_checkBoundsBeginEnd_23922 10 = .ok (.return_, 1) := dTo2_52.1.2.2.2.2.2.2.1
theorem dTo2_53 : dQ cJ4_init_da8c8 [[(0, zop42, 0, 0), (1, zop16, 16, 0), (3, zop183, 0, 1), (6, zop177, 0, 0)]] := dQ_of _ _ (by decide +kernel)
theorem dJ4_init_da8c8_0 : decode cJ4_init_da8c8 0 = .ok (.aload_n 0, 1) := dTo2_53.1.1
theorem dJ4_init_da8c8_1 : decode cJ4_init_da8c8 1 = .ok (.bipush 16, 2) := dTo2_53.1.2.1
theorem dJ4_init_da8c8_3 : decode cJ4_init_da8c8 3 = .ok (.invokespecial 1, 3) := dTo2_53.1.2.2.1
theorem dJ4_init_da8c8_6 : decode cJ4_init_da8c8 6 = .ok (.return_, 1) := dTo2_53.1.2.2.2.1
theorem dTo2_54 : dQ cJ4_append_15ec4 [[(0, zop42, 0, 0), (1, zop43, 0, 0), (2, zop183, 0, 29), (5, zop87, 0, 0), (6, zop42, 0, 0), (7, zop176, 0, 0)]] := dQ_of _ _ (by decide +kernel)
theorem dJ4_append_15ec4_0 : decode cJ4_append_15ec4 0 = .ok (.aload_n 0, 1) := dTo2_54.1.1
theorem dJ4_append_15ec4_1 : decode cJ4_append_15ec4 1 = .ok (.aload_n 1, 1) := dTo2_54.1.2.1
theorem dJ4_append_15ec4_2 : decode cJ4_append_15ec4 2 = .ok (.invokespecial 29, 3) := dTo2_54.1.2.2.1
theorem dJ4_append_15ec4_5 : decode cJ4_append_15ec4 5 = .ok (.pop, 1) := dTo2_54.1.2.2.2.1
theorem dJ4_append_15ec4_6 : decode cJ4_append_15ec4 6 = .ok (.aload_n 0, 1) := dTo2_54.1.2.2.2.2.1
theorem dJ4_append_15ec4_7 : decode cJ4_append_15ec4 7 = .ok (.areturn, 1) := dTo2_54.1.2.2.2.2.2.1
theorem dTo2_55 : dQ cJ4_append_cf468 [[(0, zop42, 0, 0), (1, zop27, 0, 0), (2, zop183, 0, 50), (5, zop87, 0, 0), (6, zop42, 0, 0), (7, zop176, 0, 0)]] := dQ_of _ _ (by decide +kernel)
theorem dJ4_append_cf468_0 : decode cJ4_append_cf468 0 = .ok (.aload_n 0, 1) := dTo2_55.1.1
theorem dJ4_append_cf468_1 : decode cJ4_append_cf468 1 = .ok (.iload_n 1, 1) := dTo2_55.1.2.1
theorem dJ4_append_cf468_2 : decode cJ4_append_cf468 2 = .ok (.invokespecial 50, 3) := dTo2_55.1.2.2.1
theorem dJ4_append_cf468_5 : decode cJ4_append_cf468 5 = .ok (.pop, 1) := dTo2_55.1.2.2.2.1
theorem dJ4_append_cf468_6 : decode cJ4_append_cf468 6 = .ok (.aload_n 0, 1) := dTo2_55.1.2.2.2.2.1
theorem dJ4_append_cf468_7 : decode cJ4_append_cf468 7 = .ok (.areturn, 1) := dTo2_55.1.2.2.2.2.2.1
theorem dTo2_56 : dQ cJ4_append_bf812 [[(0, zop42, 0, 0), (1, zop27, 0, 0), (2, zop183, 0, 53), (5, zop87, 0, 0), (6, zop42, 0, 0), (7, zop176, 0, 0)]] := dQ_of _ _ (by decide +kernel)
theorem dJ4_append_bf812_0 : decode cJ4_append_bf812 0 = .ok (.aload_n 0, 1) := dTo2_56.1.1
theorem dJ4_append_bf812_1 : decode cJ4_append_bf812 1 = .ok (.iload_n 1, 1) := dTo2_56.1.2.1
theorem dJ4_append_bf812_2 : decode cJ4_append_bf812 2 = .ok (.invokespecial 53, 3) := dTo2_56.1.2.2.1
theorem dJ4_append_bf812_5 : decode cJ4_append_bf812 5 = .ok (.pop, 1) := dTo2_56.1.2.2.2.1
theorem dJ4_append_bf812_6 : decode cJ4_append_bf812 6 = .ok (.aload_n 0, 1) := dTo2_56.1.2.2.2.2.1
theorem dJ4_append_bf812_7 : decode cJ4_append_bf812 7 = .ok (.areturn, 1) := dTo2_56.1.2.2.2.2.2.1
theorem dTo2_57 : dQ cJ4_toString_0e30d [[(0, zop187, 0, 18), (3, zop89, 0, 0), (4, zop42, 0, 0), (5, zop183, 0, 137), (8, zop176, 0, 0)]] := dQ_of _ _ (by decide +kernel)
theorem dJ4_toString_0e30d_0 : decode cJ4_toString_0e30d 0 = .ok (.new 18, 3) := dTo2_57.1.1
theorem dJ4_toString_0e30d_3 : decode cJ4_toString_0e30d 3 = .ok (.dup, 1) := dTo2_57.1.2.1
theorem dJ4_toString_0e30d_4 : decode cJ4_toString_0e30d 4 = .ok (.aload_n 0, 1) := dTo2_57.1.2.2.1
theorem dJ4_toString_0e30d_5 : decode cJ4_toString_0e30d 5 = .ok (.invokespecial 137, 3) := dTo2_57.1.2.2.2.1
theorem dJ4_toString_0e30d_8 : decode cJ4_toString_0e30d 8 = .ok (.areturn, 1) := dTo2_57.1.2.2.2.2.1
theorem dTo2_58 : dQ cJ4_length_8abf5 [[(0, zop42, 0, 0), (1, zop183, 1, 87), (4, zop172, 0, 0)]] := dQ_of _ _ (by decide +kernel)
theorem dJ4_length_8abf5_0 : decode cJ4_length_8abf5 0 = .ok (.aload_n 0, 1) := dTo2_58.1.1
theorem dJ4_length_8abf5_1 : decode cJ4_length_8abf5 1 = .ok (.invokespecial 343, 3) := dTo2_58.1.2.1
theorem dJ4_length_8abf5_4 : decode cJ4_length_8abf5 4 = .ok (.ireturn, 1) := dTo2_58.1.2.2.1
theorem dTo2_59 : dQ cJ1_canEncode_fc78d [[(0, zop26, 0, 0), (1, zop17, 0, 255), (4, zop163, 0, 7), (7, zop4, 0, 0), (8, zop167, 0, 4), (11, zop3, 0, 0), (12, zop172, 0, 0)]] := dQ_of _ _ (by decide +kernel)
theorem dJ1_canEncode_fc78d_0 : decode cJ1_canEncode_fc78d 0 = .ok (.iload_n 0, 1) := dTo2_59.1.1
theorem dJ1_canEncode_fc78d_1 : decode cJ1_canEncode_fc78d 1 = .ok (.sipush 255, 3) := dTo2_59.1.2.1
theorem dJ1_canEncode_fc78d_4 : decode cJ1_canEncode_fc78d 4 = .ok (.if_icmp .gt 7, 3) := dTo2_59.1.2.2.1
theorem dJ1_canEncode_fc78d_7 : decode cJ1_canEncode_fc78d 7 = .ok (.iconst 1, 1) := dTo2_59.1.2.2.2.1
theorem dJ1_canEncode_fc78d_8 : decode cJ1_canEncode_fc78d 8 = .ok (.goto 4, 3) := dTo2_59.1.2.2.2.2.1
theorem dJ1_canEncode_fc78d_11 : decode cJ1_canEncode_fc78d 11 = .ok (.iconst 0, 1) := dTo2_59.1.2.2.2.2.2.1
theorem dJ1_canEncode_fc78d_12 : decode cJ1_canEncode_fc78d 12 = .ok (.ireturn, 1) := dTo2_59.1.2.2.2.2.2.2.1
theorem dTo2_60 : dQ cJ1_inflate_0e8fd [[(0, zop42, 0, 0), (1, zop27, 0, 0), (2, zop44, 0, 0), (3, zop29, 0, 0), (4, zop21, 4, 0), (6, zop184, 0, 240), (9, zop177, 0, 0)]] := dQ_of _ _ (by decide +kernel)
theorem dJ1_inflate_0e8fd_0 : decode cJ1_inflate_0e8fd 0 = .ok (.aload_n 0, 1) := dTo2_60.1.1
theorem dJ1_inflate_0e8fd_1 : decode cJ1_inflate_0e8fd 1 = .ok (.iload_n 1, 1) := dTo2_60.1.2.1
theorem dJ1_inflate_0e8fd_2 : decode cJ1_inflate_0e8fd 2 = .ok (.aload_n 2, 1) := dTo2_60.1.2.2.1
theorem dJ1_inflate_0e8fd_3 : decode cJ1_inflate_0e8fd 3 = .ok (.iload_n 3, 1) := dTo2_60.1.2.2.2.1
theorem dJ1_inflate_0e8fd_4 : decode cJ1_inflate_0e8fd 4 = .ok (.iload 4, 2) := dTo2_60.1.2.2.2.2.1
theorem dJ1_inflate_0e8fd_6 : decode cJ1_inflate_0e8fd 6 = .ok (.invokestatic 240, 3) := dTo2_60.1.2.2.2.2.2.1
theorem dJ1_inflate_0e8fd_9 : decode cJ1_inflate_0e8fd 9 = .ok (.return_, 1) := dTo2_60.1.2.2.2.2.2.2.1
theorem dJ2_newBytesFor_77867_4 : decode cJ2_newBytesFor_77867 4 = .ok (.newarray .byte, 2) := by decide +kernel
theorem dTo2_61 : dQ cJ2_newBytesFor_77867 [[(0, zop26, 0, 0), (1, zop184, 0, 11), (6, zop176, 0, 0)]] := dQ_of _ _ (by decide +kernel)
theorem dJ2_newBytesFor_77867_0 : decode cJ2_newBytesFor_77867 0 = .ok (.iload_n 0, 1) := dTo2_61.1.1
theorem dJ2_newBytesFor_77867_1 : decode cJ2_newBytesFor_77867 1 = .ok (.invokestatic 11, 3) := dTo2_61.1.2.1
theorem dJ2_newBytesFor_77867_6 : decode cJ2_newBytesFor_77867 6 = .ok (.areturn, 1) := dTo2_61.1.2.2.1
theorem dTo2_62 : dQ cJ2_newBytesLength_0f7a4 [[(0, zop26, 0, 0), (1, zop156, 0, 11), (4, zop187, 0, 17), (7, zop89, 0, 0), (8, zop183, 0, 19), (11, zop191, 0, 0), (12, zop26, 0, 0), (13, zop18, 20, 0), (15, zop161, 0, 40), (18, zop187, 0, 21)], [(21, zop89, 0, 0), (22, zop187, 0, 23), (25, zop89, 0, 0), (26, zop183, 0, 25), (29, zop18, 26, 0), (31, zop182, 0, 28), (34, zop26, 0, 0), (35, zop182, 0, 32), (38, zop18, 35, 0), (40, zop182, 0, 28)], [(43, zop18, 20, 0), (45, zop182, 0, 32), (48, zop182, 0, 37), (51, zop183, 0, 41), (54, zop191, 0, 0), (55, zop26, 0, 0), (56, zop4, 0, 0), (57, zop120, 0, 0), (58, zop172, 0, 0)]] := dQ_of _ _ (by decide +kernel)
theorem dJ2_newBytesLength_0f7a4_0 : decode cJ2_newBytesLength_0f7a4 0 = .ok (.iload_n 0, 1) := dTo2_62.1.1
theorem dJ2_newBytesLength_0f7a4_1 : decode cJ2_newBytesLength_0f7a4 1 = .ok (.ifCond .ge 11, 3) := dTo2_62.1.2.1
theorem dJ2_newBytesLength_0f7a4_4 : decode cJ2_newBytesLength_0f7a4 4 = .ok (.new 17, 3) := dTo2_62.1.2.2.1
theorem dJ2_newBytesLength_0f7a4_7 : decode cJ2_newBytesLength_0f7a4 7 = .ok (.dup, 1) := dTo2_62.1.2.2.2.1
theorem dJ2_newBytesLength_0f7a4_8 : decode cJ2_newBytesLength_0f7a4 8 = .ok (.invokespecial 19, 3) := dTo2_62.1.2.2.2.2.1
theorem dJ2_newBytesLength_0f7a4_11 : decode cJ2_newBytesLength_0f7a4 11 = .ok (.athrow, 1) := dTo2_62.1.2.2.2.2.2.1
theorem dJ2_newBytesLength_0f7a4_12 : decode cJ2_newBytesLength_0f7a4 12 = .ok (.iload_n 0, 1) := dTo2_62.1.2.2.2.2.2.2.1
theorem dJ2_newBytesLength_0f7a4_13 : decode cJ2_newBytesLength_0f7a4 13 = .ok (.ldc 20, 2) := dTo2_62.1.2.2.2.2.2.2.2.1
theorem dJ2_newBytesLength_0f7a4_15 : decode cJ2_newBytesLength_0f7a4 15 = .ok (.if_icmp .lt 40, 3) := dTo2_62.1.2.2.2.2.2.2.2.2.1
theorem dJ2_newBytesLength_0f7a4_18 : decode cJ2_newBytesLength_0f7a4 18 = .ok (.new 21, 3) := dTo2_62.1.2.2.2.2.2.2.2.2.2.1
theorem dJ2_newBytesLength_0f7a4_21 : decode cJ2_newBytesLength_0f7a4 21 = .ok (.dup, 1) := dTo2_62.2.1.1
theorem dJ2_newBytesLength_0f7a4_22 : decode cJ2_newBytesLength_0f7a4 22 = .ok (.new 23, 3) := dTo2_62.2.1.2.1
theorem dJ2_newBytesLength_0f7a4_25 : decode cJ2_newBytesLength_0f7a4 25 = .ok (.dup, 1) := dTo2_62.2.1.2.2.1
theorem dJ2_newBytesLength_0f7a4_26 : decode cJ2_newBytesLength_0f7a4 26 = .ok (.invokespecial 25, 3) := dTo2_62.2.1.2.2.2.1
theorem dJ2_newBytesLength_0f7a4_29 : decode cJ2_newBytesLength_0f7a4 29 = .ok (.ldc 26, 2) := dTo2_62.2.1.2.2.2.2.1
theorem dJ2_newBytesLength_0f7a4_31 : decode cJ2_newBytesLength_0f7a4 31 = .ok (.invokevirtual 28, 3) := dTo2_62.2.1.2.2.2.2.2.1
theorem dJ2_newBytesLength_0f7a4_34 : decode cJ2_newBytesLength_0f7a4 34 = .ok (.iload_n 0, 1) := dTo2_62.2.1.2.2.2.2.2.2.1
theorem dJ2_newBytesLength_0f7a4_35 : decode cJ2_newBytesLength_0f7a4 35 = .ok (.invokevirtual 32, 3) := dTo2_62.2.1.2.2.2.2.2.2.2.1
theorem dJ2_newBytesLength_0f7a4_38 : decode cJ2_newBytesLength_0f7a4 38 = .ok (.ldc 35, 2) := dTo2_62.2.1.2.2.2.2.2.2.2.2.1
theorem dJ2_newBytesLength_0f7a4_40 : decode cJ2_newBytesLength_0f7a4 40 = .ok (.invokevirtual 28, 3) := dTo2_62.2.1.2.2.2.2.2.2.2.2.2.1
theorem dJ2_newBytesLength_0f7a4_43 : decode cJ2_newBytesLength_0f7a4 43 = .ok (.ldc 20, 2) := dTo2_62.2.2.1.1
theorem dJ2_newBytesLength_0f7a4_45 : decode cJ2_newBytesLength_0f7a4 45 = .ok (.invokevirtual 32, 3) := dTo2_62.2.2.1.2.1
theorem dJ2_newBytesLength_0f7a4_48 : decode cJ2_newBytesLength_0f7a4 48 = .ok (.invokevirtual 37, 3) := dTo2_62.2.2.1.2.2.1
theorem dJ2_newBytesLength_0f7a4_51 : decode cJ2_newBytesLength_0f7a4 51 = .ok (.invokespecial 41, 3) := dTo2_62.2.2.1.2.2.2.1
theorem dJ2_newBytesLength_0f7a4_54 : decode cJ2_newBytesLength_0f7a4 54 = .ok (.athrow, 1) := dTo2_62.2.2.1.2.2.2.2.1
theorem dJ2_newBytesLength_0f7a4_55 : decode cJ2_newBytesLength_0f7a4 55 = .ok (.iload_n 0, 1) := dTo2_62.2.2.1.2.2.2.2.2.1
theorem dJ2_newBytesLength_0f7a4_56 : decode cJ2_newBytesLength_0f7a4 56 = .ok (.iconst 1, 1) := dTo2_62.2.2.1.2.2.2.2.2.2.1
theorem dJ2_newBytesLength_0f7a4_57 : decode cJ2_newBytesLength_0f7a4 57 = .ok (.ishl, 1) := dTo2_62.2.2.1.2.2.2.2.2.2.2.1
theorem dJ2_newBytesLength_0f7a4_58 : decode cJ2_newBytesLength_0f7a4 58 = .ok (.ireturn, 1) := dTo2_62.2.2.1.2.2.2.2.2.2.2.2.1
theorem dTo2_63 : dQ cJ2_putChar_b72d1 [[(0, zop178, 0, 44), (3, zop154, 0, 25), (6, zop27, 0, 0), (7, zop155, 0, 11), (10, zop27, 0, 0), (11, zop42, 0, 0), (12, zop184, 0, 48), (15, zop161, 0, 13), (18, zop187, 0, 52), (21, zop89, 0, 0)], [(22, zop18, 54, 0), (24, zop183, 0, 56), (27, zop191, 0, 0), (28, zop27, 0, 0), (29, zop4, 0, 0), (30, zop120, 0, 0), (31, zop60, 0, 0), (32, zop42, 0, 0), (33, zop27, 0, 0), (34, zop132, 1, 1)], [(37, zop28, 0, 0), (38, zop178, 0, 59), (41, zop122, 0, 0), (42, zop145, 0, 0), (43, zop84, 0, 0), (44, zop42, 0, 0), (45, zop27, 0, 0), (46, zop28, 0, 0), (47, zop178, 0, 63), (50, zop122, 0, 0)], [(51, zop145, 0, 0), (52, zop84, 0, 0), (53, zop177, 0, 0)]] := dQ_of _ _ (by decide +kernel)
theorem dJ2_putChar_b72d1_0 : decode cJ2_putChar_b72d1 0 = .ok (.getstatic 44, 3) := dTo2_63.1.1
theorem dJ2_putChar_b72d1_3 : decode cJ2_putChar_b72d1 3 = .ok (.ifCond .ne 25, 3) := dTo2_63.1.2.1
theorem dJ2_putChar_b72d1_6 : decode cJ2_putChar_b72d1 6 = .ok (.iload_n 1, 1) := dTo2_63.1.2.2.1
theorem dJ2_putChar_b72d1_7 : decode cJ2_putChar_b72d1 7 = .ok (.ifCond .lt 11, 3) := dTo2_63.1.2.2.2.1
theorem dJ2_putChar_b72d1_10 : decode cJ2_putChar_b72d1 10 = .ok (.iload_n 1, 1) := dTo2_63.1.2.2.2.2.1
theorem dJ2_putChar_b72d1_11 : decode cJ2_putChar_b72d1 11 = .ok (.aload_n 0, 1) := dTo2_63.1.2.2.2.2.2.1
theorem dJ2_putChar_b72d1_12 : decode cJ2_putChar_b72d1 12 = .ok (.invokestatic 48, 3) := dTo2_63.1.2.2.2.2.2.2.1
theorem dJ2_putChar_b72d1_15 : decode cJ2_putChar_b72d1 15 = .ok (.if_icmp .lt 13, 3) := dTo2_63.1.2.2.2.2.2.2.2.1
theorem dJ2_putChar_b72d1_18 : decode cJ2_putChar_b72d1 18 = .ok (.new 52, 3) := dTo2_63.1.2.2.2.2.2.2.2.2.1
theorem dJ2_putChar_b72d1_21 : decode cJ2_putChar_b72d1 21 = .ok (.dup, 1) := dTo2_63.1.2.2.2.2.2.2.2.2.2.1
theorem dJ2_putChar_b72d1_22 : decode cJ2_putChar_b72d1 22 = .ok (.ldc 54, 2) := dTo2_63.2.1.1
theorem dJ2_putChar_b72d1_24 : decode cJ2_putChar_b72d1 24 = .ok (.invokespecial 56, 3) := dTo2_63.2.1.2.1
theorem dJ2_putChar_b72d1_27 : decode cJ2_putChar_b72d1 27 = .ok (.athrow, 1) := dTo2_63.2.1.2.2.1
theorem dJ2_putChar_b72d1_28 : decode cJ2_putChar_b72d1 28 = .ok (.iload_n 1, 1) := dTo2_63.2.1.2.2.2.1
theorem dJ2_putChar_b72d1_29 : decode cJ2_putChar_b72d1 29 = .ok (.iconst 1, 1) := dTo2_63.2.1.2.2.2.2.1
theorem dJ2_putChar_b72d1_30 : decode cJ2_putChar_b72d1 30 = .ok (.ishl, 1) := dTo2_63.2.1.2.2.2.2.2.1
theorem dJ2_putChar_b72d1_31 : decode cJ2_putChar_b72d1 31 = .ok (.istore_n 1, 1) := dTo2_63.2.1.2.2.2.2.2.2.1
theorem dJ2_putChar_b72d1_32 : decode cJ2_putChar_b72d1 32 = .ok (.aload_n 0, 1) := dTo2_63.2.1.2.2.2.2.2.2.2.1
theorem dJ2_putChar_b72d1_33 : decode cJ2_putChar_b72d1 33 = .ok (.iload_n 1, 1) := dTo2_63.2.1.2.2.2.2.2.2.2.2.1
theorem dJ2_putChar_b72d1_34 : decode cJ2_putChar_b72d1 34 = .ok (.iinc 1 1, 3) := dTo2_63.2.1.2.2.2.2.2.2.2.2.2.1
theorem dJ2_putChar_b72d1_37 : decode cJ2_putChar_b72d1 37 = .ok (.iload_n 2, 1) := dTo2_63.2.2.1.1
theorem dJ2_putChar_b72d1_38 : decode cJ2_putChar_b72d1 38 = .ok (.getstatic 59, 3) := dTo2_63.2.2.1.2.1
theorem dJ2_putChar_b72d1_41 : decode cJ2_putChar_b72d1 41 = .ok (.ishr, 1) := dTo2_63.2.2.1.2.2.1
theorem dJ2_putChar_b72d1_42 : decode cJ2_putChar_b72d1 42 = .ok (.i2b, 1) := dTo2_63.2.2.1.2.2.2.1
theorem dJ2_putChar_b72d1_43 : decode cJ2_putChar_b72d1 43 = .ok (.bastore, 1) := dTo2_63.2.2.1.2.2.2.2.1
theorem dJ2_putChar_b72d1_44 : decode cJ2_putChar_b72d1 44 = .ok (.aload_n 0, 1) := dTo2_63.2.2.1.2.2.2.2.2.1
theorem dJ2_putChar_b72d1_45 : decode cJ2_putChar_b72d1 45 = .ok (.iload_n 1, 1) := dTo2_63.2.2.1.2.2.2.2.2.2.1
theorem dJ2_putChar_b72d1_46 : decode cJ2_putChar_b72d1 46 = .ok (.iload_n 2, 1) := dTo2_63.2.2.1.2.2.2.2.2.2.2.1
theorem dJ2_putChar_b72d1_47 : decode cJ2_putChar_b72d1 47 = .ok (.getstatic 63, 3) := dTo2_63.2.2.1.2.2.2.2.2.2.2.2.1
theorem dJ2_putChar_b72d1_50 : decode cJ2_putChar_b72d1 50 = .ok (.ishr, 1) := dTo2_63.2.2.1.2.2.2.2.2.2.2.2.2.1
theorem dJ2_putChar_b72d1_51 : decode cJ2_putChar_b72d1 51 = .ok (.i2b, 1) := dTo2_63.2.2.2.1.1
theorem dJ2_putChar_b72d1_52 : decode cJ2_putChar_b72d1 52 = .ok (.bastore, 1) := dTo2_63.2.2.2.1.2.1
theorem dJ2_putChar_b72d1_53 : decode cJ2_putChar_b72d1 53 = .ok (.return_, 1) := dTo2_63.2.2.2.1.2.2.1
theorem dTo2_64 : dQ cJ2_getChar_3b067 [[(0, zop178, 0, 44), (3, zop154, 0, 25), (6, zop27, 0, 0), (7, zop155, 0, 11), (10, zop27, 0, 0), (11, zop42, 0, 0), (12, zop184, 0, 48), (15, zop161, 0, 13), (18, zop187, 0, 52), (21, zop89, 0, 0)], [(22, zop18, 54, 0), (24, zop183, 0, 56), (27, zop191, 0, 0), (28, zop27, 0, 0), (29, zop4, 0, 0), (30, zop120, 0, 0), (31, zop60, 0, 0), (32, zop42, 0, 0), (33, zop27, 0, 0), (34, zop132, 1, 1)], [(37, zop51, 0, 0), (38, zop17, 0, 255), (41, zop126, 0, 0), (42, zop178, 0, 59), (45, zop120, 0, 0), (46, zop42, 0, 0), (47, zop27, 0, 0), (48, zop51, 0, 0), (49, zop17, 0, 255), (52, zop126, 0, 0)], [(53, zop178, 0, 63), (56, zop120, 0, 0), (57, zop128, 0, 0), (58, zop146, 0, 0), (59, zop172, 0, 0)]] := dQ_of _ _ (by decide +kernel)
theorem dJ2_getChar_3b067_0 : decode cJ2_getChar_3b067 0 = .ok (.getstatic 44, 3) := dTo2_64.1.1
theorem dJ2_getChar_3b067_3 : decode cJ2_getChar_3b067 3 = .ok (.ifCond .ne 25, 3) := dTo2_64.1.2.1
theorem dJ2_getChar_3b067_6 : decode cJ2_getChar_3b067 6 = .ok (.iload_n 1, 1) := dTo2_64.1.2.2.1
theorem dJ2_getChar_3b067_7 : decode cJ2_getChar_3b067 7 = .ok (.ifCond .lt 11, 3) := dTo2_64.1.2.2.2.1
theorem dJ2_getChar_3b067_10 : decode cJ2_getChar_3b067 10 = .ok (.iload_n 1, 1) := dTo2_64.1.2.2.2.2.1
theorem dJ2_getChar_3b067_11 : decode cJ2_getChar_3b067 11 = .ok (.aload_n 0, 1) := dTo2_64.1.2.2.2.2.2.1
theorem dJ2_getChar_3b067_12 : decode cJ2_getChar_3b067 12 = .ok (.invokestatic 48, 3) := dTo2_64.1.2.2.2.2.2.2.1
theorem dJ2_getChar_3b067_15 : decode cJ2_getChar_3b067 15 = .ok (.if_icmp .lt 13, 3) := dTo2_64.1.2.2.2.2.2.2.2.1
theorem dJ2_getChar_3b067_18 : decode cJ2_getChar_3b067 18 = .ok (.new 52, 3) := dTo2_64.1.2.2.2.2.2.2.2.2.1
theorem dJ2_getChar_3b067_21 : decode cJ2_getChar_3b067 21 = .ok (.dup, 1) := dTo2_64.1.2.2.2.2.2.2.2.2.2.1
theorem dJ2_getChar_3b067_22 : decode cJ2_getChar_3b067 22 = .ok (.ldc 54, 2) := dTo2_64.2.1.1
theorem dJ2_getChar_3b067_24 : decode cJ2_getChar_3b067 24 = .ok (.invokespecial 56, 3) := dTo2_64.2.1.2.1
theorem dJ2_getChar_3b067_27 : decode cJ2_getChar_3b067 27 = .ok (.athrow, 1) := dTo2_64.2.1.2.2.1
theorem dJ2_getChar_3b067_28 : decode cJ2_getChar_3b067 28 = .ok (.iload_n 1, 1) := dTo2_64.2.1.2.2.2.1
theorem dJ2_getChar_3b067_29 : decode cJ2_getChar_3b067 29 = .ok (.iconst 1, 1) := dTo2_64.2.1.2.2.2.2.1
theorem dJ2_getChar_3b067_30 : decode cJ2_getChar_3b067 30 = .ok (.ishl, 1) := dTo2_64.2.1.2.2.2.2.2.1
theorem dJ2_getChar_3b067_31 : decode cJ2_getChar_3b067 31 = .ok (.istore_n 1, 1) := dTo2_64.2.1.2.2.2.2.2.2.1
theorem dJ2_getChar_3b067_32 : decode cJ2_getChar_3b067 32 = .ok (.aload_n 0, 1) := dTo2_64.2.1.2.2.2.2.2.2.2.1
theorem dJ2_getChar_3b067_33 : decode cJ2_getChar_3b067 33 = .ok (.iload_n 1, 1) := dTo2_64.2.1.2.2.2.2.2.2.2.2.1
theorem dJ2_getChar_3b067_34 : decode cJ2_getChar_3b067 34 = .ok (.iinc 1 1, 3) := dTo2_64.2.1.2.2.2.2.2.2.2.2.2.1
theorem dJ2_getChar_3b067_37 : decode cJ2_getChar_3b067 37 = .ok (.baload, 1) := dTo2_64.2.2.1.1
theorem dJ2_getChar_3b067_38 : decode cJ2_getChar_3b067 38 = .ok (.sipush 255, 3) := dTo2_64.2.2.1.2.1
theorem dJ2_getChar_3b067_41 : decode cJ2_getChar_3b067 41 = .ok (.iand, 1) := dTo2_64.2.2.1.2.2.1
theorem dJ2_getChar_3b067_42 : decode cJ2_getChar_3b067 42 = .ok (.getstatic 59, 3) := dTo2_64.2.2.1.2.2.2.1
theorem dJ2_getChar_3b067_45 : decode cJ2_getChar_3b067 45 = .ok (.ishl, 1) := dTo2_64.2.2.1.2.2.2.2.1
theorem dJ2_getChar_3b067_46 : decode cJ2_getChar_3b067 46 = .ok (.aload_n 0, 1) := dTo2_64.2.2.1.2.2.2.2.2.1
theorem dJ2_getChar_3b067_47 : decode cJ2_getChar_3b067 47 = .ok (.iload_n 1, 1) := dTo2_64.2.2.1.2.2.2.2.2.2.1
theorem dJ2_getChar_3b067_48 : decode cJ2_getChar_3b067 48 = .ok (.baload, 1) := dTo2_64.2.2.1.2.2.2.2.2.2.2.1
theorem dJ2_getChar_3b067_49 : decode cJ2_getChar_3b067 49 = .ok (.sipush 255, 3) := dTo2_64.2.2.1.2.2.2.2.2.2.2.2.1
theorem dJ2_getChar_3b067_52 : decode cJ2_getChar_3b067 52 = .ok (.iand, 1) := dTo2_64.2.2.1.2.2.2.2.2.2.2.2.2.1
theorem dJ2_getChar_3b067_53 : decode cJ2_getChar_3b067 53 = .ok (.getstatic 63, 3) := dTo2_64.2.2.2.1.1
theorem dJ2_getChar_3b067_56 : decode cJ2_getChar_3b067 56 = .ok (.ishl, 1) := dTo2_64.2.2.2.1.2.1
theorem dJ2_getChar_3b067_57 : decode cJ2_getChar_3b067 57 = .ok (.ior, 1) := dTo2_64.2.2.2.1.2.2.1
theorem dJ2_getChar_3b067_58 : decode cJ2_getChar_3b067 58 = .ok (.i2c, 1) := dTo2_64.2.2.2.1.2.2.2.1
theorem dJ2_getChar_3b067_59 : decode cJ2_getChar_3b067 59 = .ok (.ireturn, 1) := dTo2_64.2.2.2.1.2.2.2.2.1
theorem dTo2_65 : dQ cJ2_length_9d52b [[(0, zop42, 0, 0), (1, zop190, 0, 0), (2, zop4, 0, 0), (3, zop122, 0, 0), (4, zop172, 0, 0)]] := dQ_of _ _ (by decide +kernel)
theorem dJ2_length_9d52b_0 : decode cJ2_length_9d52b 0 = .ok (.aload_n 0, 1) := dTo2_65.1.1
theorem dJ2_length_9d52b_1 : decode cJ2_length_9d52b 1 = .ok (.arraylength, 1) := dTo2_65.1.2.1
theorem dJ2_length_9d52b_2 : decode cJ2_length_9d52b 2 = .ok (.iconst 1, 1) := dTo2_65.1.2.2.1
theorem dJ2_length_9d52b_3 : decode cJ2_length_9d52b 3 = .ok (.ishr, 1) := dTo2_65.1.2.2.2.1
theorem dJ2_length_9d52b_4 : decode cJ2_length_9d52b 4 = .ok (.ireturn, 1) := dTo2_65.1.2.2.2.2.1
theorem dTo2_66 : dQ cJ2_coderFromArrayLen_85cad [[(0, zop27, 0, 0), (1, zop42, 0, 0), (2, zop190, 0, 0), (3, zop100, 0, 0), (4, zop16, 31, 0), (6, zop124, 0, 0), (7, zop145, 0, 0), (8, zop172, 0, 0)]] := dQ_of _ _ (by decide +kernel)
theorem dJ2_coderFromArrayLen_85cad_0 : decode cJ2_coderFromArrayLen_85cad 0 = .ok (.iload_n 1, 1) := dTo2_66.1.1
theorem dJ2_coderFromArrayLen_85cad_1 : decode cJ2_coderFromArrayLen_85cad 1 = .ok (.aload_n 0, 1) := dTo2_66.1.2.1
theorem dJ2_coderFromArrayLen_85cad_2 : decode cJ2_coderFromArrayLen_85cad 2 = .ok (.arraylength, 1) := dTo2_66.1.2.2.1
theorem dJ2_coderFromArrayLen_85cad_3 : decode cJ2_coderFromArrayLen_85cad 3 = .ok (.isub, 1) := dTo2_66.1.2.2.2.1
theorem dJ2_coderFromArrayLen_85cad_4 : decode cJ2_coderFromArrayLen_85cad 4 = .ok (.bipush 31, 2) := dTo2_66.1.2.2.2.2.1
theorem dJ2_coderFromArrayLen_85cad_6 : decode cJ2_coderFromArrayLen_85cad 6 = .ok (.iushr, 1) := dTo2_66.1.2.2.2.2.2.1
theorem dJ2_coderFromArrayLen_85cad_7 : decode cJ2_coderFromArrayLen_85cad 7 = .ok (.i2b, 1) := dTo2_66.1.2.2.2.2.2.2.1
theorem dJ2_coderFromArrayLen_85cad_8 : decode cJ2_coderFromArrayLen_85cad 8 = .ok (.ireturn, 1) := dTo2_66.1.2.2.2.2.2.2.2.1
theorem dJ2_compress_39247_1 : decode cJ2_compress_39247 1 = .ok (.newarray .byte, 2) := by decide +kernel
theorem dTo2_67 : dQ cJ2_compress_39247 [[(0, zop28, 0, 0), (3, zop78, 0, 0), (4, zop42, 0, 0), (5, zop27, 0, 0), (6, zop45, 0, 0), (7, zop3, 0, 0), (8, zop28, 0, 0), (9, zop184, 0, 123), (12, zop54, 4, 0), (14, zop21, 4, 0)], [(16, zop28, 0, 0), (17, zop159, 0, 47), (20, zop42, 0, 0), (21, zop27, 0, 0), (22, zop4, 0, 0), (23, zop120, 0, 0), (24, zop27, 0, 0), (25, zop28, 0, 0), (26, zop96, 0, 0), (27, zop184, 0, 11)], [(30, zop184, 0, 126), (33, zop58, 5, 0), (35, zop25, 5, 0), (37, zop21, 4, 0), (39, zop184, 0, 71), (42, zop17, 0, 255), (45, zop163, 0, 16), (48, zop25, 5, 0), (50, zop3, 0, 0), (51, zop45, 0, 0)], [(52, zop3, 0, 0), (53, zop28, 0, 0), (54, zop184, 0, 123), (57, zop28, 0, 0), (58, zop159, 0, 6), (61, zop25, 5, 0), (63, zop176, 0, 0), (64, zop45, 0, 0), (65, zop176, 0, 0)]] := dQ_of _ _ (by decide +kernel)
theorem dJ2_compress_39247_0 : decode cJ2_compress_39247 0 = .ok (.iload_n 2, 1) := dTo2_67.1.1
theorem dJ2_compress_39247_3 : decode cJ2_compress_39247 3 = .ok (.astore_n 3, 1) := dTo2_67.1.2.1
theorem dJ2_compress_39247_4 : decode cJ2_compress_39247 4 = .ok (.aload_n 0, 1) := dTo2_67.1.2.2.1
theorem dJ2_compress_39247_5 : decode cJ2_compress_39247 5 = .ok (.iload_n 1, 1) := dTo2_67.1.2.2.2.1
theorem dJ2_compress_39247_6 : decode cJ2_compress_39247 6 = .ok (.aload_n 3, 1) := dTo2_67.1.2.2.2.2.1
theorem dJ2_compress_39247_7 : decode cJ2_compress_39247 7 = .ok (.iconst 0, 1) := dTo2_67.1.2.2.2.2.2.1
theorem dJ2_compress_39247_8 : decode cJ2_compress_39247 8 = .ok (.iload_n 2, 1) := dTo2_67.1.2.2.2.2.2.2.1
theorem dJ2_compress_39247_9 : decode cJ2_compress_39247 9 = .ok (.invokestatic 123, 3) := dTo2_67.1.2.2.2.2.2.2.2.1
theorem dJ2_compress_39247_12 : decode cJ2_compress_39247 12 = .ok (.istore 4, 2) := dTo2_67.1.2.2.2.2.2.2.2.2.1
theorem dJ2_compress_39247_14 : decode cJ2_compress_39247 14 = .ok (.iload 4, 2) := dTo2_67.1.2.2.2.2.2.2.2.2.2.1
theorem dJ2_compress_39247_16 : decode cJ2_compress_39247 16 = .ok (.iload_n 2, 1) := dTo2_67.2.1.1
theorem dJ2_compress_39247_17 : decode cJ2_compress_39247 17 = .ok (.if_icmp .eq 47, 3) := dTo2_67.2.1.2.1
theorem dJ2_compress_39247_20 : decode cJ2_compress_39247 20 = .ok (.aload_n 0, 1) := dTo2_67.2.1.2.2.1
theorem dJ2_compress_39247_21 : decode cJ2_compress_39247 21 = .ok (.iload_n 1, 1) := dTo2_67.2.1.2.2.2.1
theorem dJ2_compress_39247_22 : decode cJ2_compress_39247 22 = .ok (.iconst 1, 1) := dTo2_67.2.1.2.2.2.2.1
theorem dJ2_compress_39247_23 : decode cJ2_compress_39247 23 = .ok (.ishl, 1) := dTo2_67.2.1.2.2.2.2.2.1
theorem dJ2_compress_39247_24 : decode cJ2_compress_39247 24 = .ok (.iload_n 1, 1) := dTo2_67.2.1.2.2.2.2.2.2.1
theorem dJ2_compress_39247_25 : decode cJ2_compress_39247 25 = .ok (.iload_n 2, 1) := dTo2_67.2.1.2.2.2.2.2.2.2.1
theorem dJ2_compress_39247_26 : decode cJ2_compress_39247 26 = .ok (.iadd, 1) := dTo2_67.2.1.2.2.2.2.2.2.2.2.1
theorem dJ2_compress_39247_27 : decode cJ2_compress_39247 27 = .ok (.invokestatic 11, 3) := dTo2_67.2.1.2.2.2.2.2.2.2.2.2.1
theorem dJ2_compress_39247_30 : decode cJ2_compress_39247 30 = .ok (.invokestatic 126, 3) := dTo2_67.2.2.1.1
theorem dJ2_compress_39247_33 : decode cJ2_compress_39247 33 = .ok (.astore 5, 2) := dTo2_67.2.2.1.2.1
theorem dJ2_compress_39247_35 : decode cJ2_compress_39247 35 = .ok (.aload 5, 2) := dTo2_67.2.2.1.2.2.1
theorem dJ2_compress_39247_37 : decode cJ2_compress_39247 37 = .ok (.iload 4, 2) := dTo2_67.2.2.1.2.2.2.1
theorem dJ2_compress_39247_39 : decode cJ2_compress_39247 39 = .ok (.invokestatic 71, 3) := dTo2_67.2.2.1.2.2.2.2.1
theorem dJ2_compress_39247_42 : decode cJ2_compress_39247 42 = .ok (.sipush 255, 3) := dTo2_67.2.2.1.2.2.2.2.2.1
theorem dJ2_compress_39247_45 : decode cJ2_compress_39247 45 = .ok (.if_icmp .gt 16, 3) := dTo2_67.2.2.1.2.2.2.2.2.2.1
theorem dJ2_compress_39247_48 : decode cJ2_compress_39247 48 = .ok (.aload 5, 2) := dTo2_67.2.2.1.2.2.2.2.2.2.2.1
theorem dJ2_compress_39247_50 : decode cJ2_compress_39247 50 = .ok (.iconst 0, 1) := dTo2_67.2.2.1.2.2.2.2.2.2.2.2.1
theorem dJ2_compress_39247_51 : decode cJ2_compress_39247 51 = .ok (.aload_n 3, 1) := dTo2_67.2.2.1.2.2.2.2.2.2.2.2.2.1
theorem dJ2_compress_39247_52 : decode cJ2_compress_39247 52 = .ok (.iconst 0, 1) := dTo2_67.2.2.2.1.1
theorem dJ2_compress_39247_53 : decode cJ2_compress_39247 53 = .ok (.iload_n 2, 1) := dTo2_67.2.2.2.1.2.1
theorem dJ2_compress_39247_54 : decode cJ2_compress_39247 54 = .ok (.invokestatic 123, 3) := dTo2_67.2.2.2.1.2.2.1
theorem dJ2_compress_39247_57 : decode cJ2_compress_39247 57 = .ok (.iload_n 2, 1) := dTo2_67.2.2.2.1.2.2.2.1
theorem dJ2_compress_39247_58 : decode cJ2_compress_39247 58 = .ok (.if_icmp .eq 6, 3) := dTo2_67.2.2.2.1.2.2.2.2.1
theorem dJ2_compress_39247_61 : decode cJ2_compress_39247 61 = .ok (.aload 5, 2) := dTo2_67.2.2.2.1.2.2.2.2.2.1
theorem dJ2_compress_39247_63 : decode cJ2_compress_39247 63 = .ok (.areturn, 1) := dTo2_67.2.2.2.1.2.2.2.2.2.2.1
theorem dJ2_compress_39247_64 : decode cJ2_compress_39247 64 = .ok (.aload_n 3, 1) := dTo2_67.2.2.2.1.2.2.2.2.2.2.2.1
theorem dJ2_compress_39247_65 : decode cJ2_compress_39247 65 = .ok (.areturn, 1) := dTo2_67.2.2.2.1.2.2.2.2.2.2.2.2.1
theorem dTo2_68 : dQ cJ2_compress_5af95 [[(0, zop27, 0, 0), (1, zop21, 4, 0), (3, zop42, 0, 0), (4, zop184, 0, 173), (7, zop3, 0, 0), (8, zop54, 5, 0), (10, zop21, 5, 0), (12, zop21, 4, 0), (14, zop162, 0, 39), (17, zop42, 0, 0)], [(18, zop27, 0, 0), (19, zop184, 0, 71), (22, zop54, 6, 0), (24, zop21, 6, 0), (26, zop17, 0, 255), (29, zop164, 0, 6), (32, zop21, 5, 0), (34, zop172, 0, 0), (35, zop44, 0, 0), (36, zop29, 0, 0)], [(37, zop21, 6, 0), (39, zop145, 0, 0), (40, zop84, 0, 0), (41, zop132, 1, 1), (44, zop132, 3, 1), (47, zop132, 5, 1), (50, zop167, 255, 216), (53, zop21, 4, 0), (55, zop172, 0, 0)]] := dQ_of _ _ (by decide +kernel)
theorem dJ2_compress_5af95_0 : decode cJ2_compress_5af95 0 = .ok (.iload_n 1, 1) := dTo2_68.1.1
theorem dJ2_compress_5af95_1 : decode cJ2_compress_5af95 1 = .ok (.iload 4, 2) := dTo2_68.1.2.1
theorem dJ2_compress_5af95_3 : decode cJ2_compress_5af95 3 = .ok (.aload_n 0, 1) := dTo2_68.1.2.2.1
theorem dJ2_compress_5af95_4 : decode cJ2_compress_5af95 4 = .ok (.invokestatic 173, 3) := dTo2_68.1.2.2.2.1
theorem dJ2_compress_5af95_7 : decode cJ2_compress_5af95 7 = .ok (.iconst 0, 1) := dTo2_68.1.2.2.2.2.1
theorem dJ2_compress_5af95_8 : decode cJ2_compress_5af95 8 = .ok (.istore 5, 2) := dTo2_68.1.2.2.2.2.2.1
theorem dJ2_compress_5af95_10 : decode cJ2_compress_5af95 10 = .ok (.iload 5, 2) := dTo2_68.1.2.2.2.2.2.2.1
theorem dJ2_compress_5af95_12 : decode cJ2_compress_5af95 12 = .ok (.iload 4, 2) := dTo2_68.1.2.2.2.2.2.2.2.1
theorem dJ2_compress_5af95_14 : decode cJ2_compress_5af95 14 = .ok (.if_icmp .ge 39, 3) := dTo2_68.1.2.2.2.2.2.2.2.2.1
theorem dJ2_compress_5af95_17 : decode cJ2_compress_5af95 17 = .ok (.aload_n 0, 1) := dTo2_68.1.2.2.2.2.2.2.2.2.2.1
theorem dJ2_compress_5af95_18 : decode cJ2_compress_5af95 18 = .ok (.iload_n 1, 1) := dTo2_68.2.1.1
theorem dJ2_compress_5af95_19 : decode cJ2_compress_5af95 19 = .ok (.invokestatic 71, 3) := dTo2_68.2.1.2.1
theorem dJ2_compress_5af95_22 : decode cJ2_compress_5af95 22 = .ok (.istore 6, 2) := dTo2_68.2.1.2.2.1
theorem dJ2_compress_5af95_24 : decode cJ2_compress_5af95 24 = .ok (.iload 6, 2) := dTo2_68.2.1.2.2.2.1
theorem dJ2_compress_5af95_26 : decode cJ2_compress_5af95 26 = .ok (.sipush 255, 3) := dTo2_68.2.1.2.2.2.2.1
theorem dJ2_compress_5af95_29 : decode cJ2_compress_5af95 29 = .ok (.if_icmp .le 6, 3) := dTo2_68.2.1.2.2.2.2.2.1
theorem dJ2_compress_5af95_32 : decode cJ2_compress_5af95 32 = .ok (.iload 5, 2) := dTo2_68.2.1.2.2.2.2.2.2.1
theorem dJ2_compress_5af95_34 : decode cJ2_compress_5af95 34 = .ok (.ireturn, 1) := dTo2_68.2.1.2.2.2.2.2.2.2.1
theorem dJ2_compress_5af95_35 : decode cJ2_compress_5af95 35 = .ok (.aload_n 2, 1) := dTo2_68.2.1.2.2.2.2.2.2.2.2.1
theorem dJ2_compress_5af95_36 : decode cJ2_compress_5af95 36 = .ok (.iload_n 3, 1) := dTo2_68.2.1.2.2.2.2.2.2.2.2.2.1
theorem dJ2_compress_5af95_37 : decode cJ2_compress_5af95 37 = .ok (.iload 6, 2) := dTo2_68.2.2.1.1
theorem dJ2_compress_5af95_39 : decode cJ2_compress_5af95 39 = .ok (.i2b, 1) := dTo2_68.2.2.1.2.1
theorem dJ2_compress_5af95_40 : decode cJ2_compress_5af95 40 = .ok (.bastore, 1) := dTo2_68.2.2.1.2.2.1
theorem dJ2_compress_5af95_41 : decode cJ2_compress_5af95 41 = .ok (.iinc 1 1, 3) := dTo2_68.2.2.1.2.2.2.1
theorem dJ2_compress_5af95_44 : decode cJ2_compress_5af95 44 = .ok (.iinc 3 1, 3) := dTo2_68.2.2.1.2.2.2.2.1
theorem dJ2_compress_5af95_47 : decode cJ2_compress_5af95 47 = .ok (.iinc 5 1, 3) := dTo2_68.2.2.1.2.2.2.2.2.1
theorem dJ2_compress_5af95_50 : decode cJ2_compress_5af95 50 = .ok (.goto (-40), 3) := dTo2_68.2.2.1.2.2.2.2.2.2.1
theorem dJ2_compress_5af95_53 : decode cJ2_compress_5af95 53 = .ok (.iload 4, 2) := dTo2_68.2.2.1.2.2.2.2.2.2.2.1
theorem dJ2_compress_5af95_55 : decode cJ2_compress_5af95 55 = .ok (.ireturn, 1) := dTo2_68.2.2.1.2.2.2.2.2.2.2.2.1
theorem dTo2_69 : dQ cJ2_putCharSB_b72d1 [[(0, zop27, 0, 0), (1, zop42, 0, 0), (2, zop184, 0, 67), (5, zop42, 0, 0), (6, zop27, 0, 0), (7, zop28, 0, 0), (8, zop184, 0, 111), (11, zop177, 0, 0)]] := dQ_of _ _ (by decide +kernel)
theorem dJ2_putCharSB_b72d1_0 : decode cJ2_putCharSB_b72d1 0 = .ok (.iload_n 1, 1) := dTo2_69.1.1
theorem dJ2_putCharSB_b72d1_1 : decode cJ2_putCharSB_b72d1 1 = .ok (.aload_n 0, 1) := dTo2_69.1.2.1
theorem dJ2_putCharSB_b72d1_2 : decode cJ2_putCharSB_b72d1 2 = .ok (.invokestatic 67, 3) := dTo2_69.1.2.2.1
theorem dJ2_putCharSB_b72d1_5 : decode cJ2_putCharSB_b72d1 5 = .ok (.aload_n 0, 1) := dTo2_69.1.2.2.2.1
theorem dJ2_putCharSB_b72d1_6 : decode cJ2_putCharSB_b72d1 6 = .ok (.iload_n 1, 1) := dTo2_69.1.2.2.2.2.1
theorem dJ2_putCharSB_b72d1_7 : decode cJ2_putCharSB_b72d1 7 = .ok (.iload_n 2, 1) := dTo2_69.1.2.2.2.2.2.1
theorem dJ2_putCharSB_b72d1_8 : decode cJ2_putCharSB_b72d1 8 = .ok (.invokestatic 111, 3) := dTo2_69.1.2.2.2.2.2.2.1
theorem dJ2_putCharSB_b72d1_11 : decode cJ2_putCharSB_b72d1 11 = .ok (.return_, 1) := dTo2_69.1.2.2.2.2.2.2.2.1
theorem dTo2_70 : dQ cJ2_getChars_46870 [[(0, zop27, 0, 0), (1, zop28, 0, 0), (2, zop45, 0, 0), (3, zop184, 0, 96), (6, zop26, 0, 0), (7, zop28, 0, 0), (8, zop45, 0, 0), (9, zop184, 1, 137), (12, zop54, 4, 0), (14, zop178, 0, 44)], [(17, zop154, 0, 17), (20, zop27, 0, 0), (21, zop21, 4, 0), (23, zop159, 0, 11), (26, zop187, 0, 52), (29, zop89, 0, 0), (30, zop183, 0, 66), (33, zop191, 0, 0), (34, zop21, 4, 0), (36, zop172, 0, 0)]] := dQ_of _ _ (by decide +kernel)
theorem dJ2_getChars_46870_0 : decode cJ2_getChars_46870 0 = .ok (.iload_n 1, 1) := dTo2_70.1.1
theorem dJ2_getChars_46870_1 : decode cJ2_getChars_46870 1 = .ok (.iload_n 2, 1) := dTo2_70.1.2.1
theorem dJ2_getChars_46870_2 : decode cJ2_getChars_46870 2 = .ok (.aload_n 3, 1) := dTo2_70.1.2.2.1
theorem dJ2_getChars_46870_3 : decode cJ2_getChars_46870 3 = .ok (.invokestatic 96, 3) := dTo2_70.1.2.2.2.1
theorem dJ2_getChars_46870_6 : decode cJ2_getChars_46870 6 = .ok (.iload_n 0, 1) := dTo2_70.1.2.2.2.2.1
theorem dJ2_getChars_46870_7 : decode cJ2_getChars_46870 7 = .ok (.iload_n 2, 1) := dTo2_70.1.2.2.2.2.2.1
theorem dJ2_getChars_46870_8 : decode cJ2_getChars_46870 8 = .ok (.aload_n 3, 1) := dTo2_70.1.2.2.2.2.2.2.1
theorem dJ2_getChars_46870_9 : decode cJ2_getChars_46870 9 = .ok (.invokestatic 393, 3) := dTo2_70.1.2.2.2.2.2.2.2.1
theorem dJ2_getChars_46870_12 : decode cJ2_getChars_46870 12 = .ok (.istore 4, 2) := dTo2_70.1.2.2.2.2.2.2.2.2.1
theorem dJ2_getChars_46870_14 : decode cJ2_getChars_46870 14 = .ok (.getstatic 44, 3) := dTo2_70.1.2.2.2.2.2.2.2.2.2.1
theorem dJ2_getChars_46870_17 : decode cJ2_getChars_46870 17 = .ok (.ifCond .ne 17, 3) := dTo2_70.2.1.1
theorem dJ2_getChars_46870_20 : decode cJ2_getChars_46870 20 = .ok (.iload_n 1, 1) := dTo2_70.2.1.2.1
theorem dJ2_getChars_46870_21 : decode cJ2_getChars_46870 21 = .ok (.iload 4, 2) := dTo2_70.2.1.2.2.1
theorem dJ2_getChars_46870_23 : decode cJ2_getChars_46870 23 = .ok (.if_icmp .eq 11, 3) := dTo2_70.2.1.2.2.2.1
theorem dJ2_getChars_46870_26 : decode cJ2_getChars_46870 26 = .ok (.new 52, 3) := dTo2_70.2.1.2.2.2.2.1
theorem dJ2_getChars_46870_29 : decode cJ2_getChars_46870 29 = .ok (.dup, 1) := dTo2_70.2.1.2.2.2.2.2.1
theorem dJ2_getChars_46870_30 : decode cJ2_getChars_46870 30 = .ok (.invokespecial 66, 3) := dTo2_70.2.1.2.2.2.2.2.2.1
theorem dJ2_getChars_46870_33 : decode cJ2_getChars_46870 33 = .ok (.athrow, 1) := dTo2_70.2.1.2.2.2.2.2.2.2.1
theorem dJ2_getChars_46870_34 : decode cJ2_getChars_46870 34 = .ok (.iload 4, 2) := dTo2_70.2.1.2.2.2.2.2.2.2.2.1
theorem dJ2_getChars_46870_36 : decode cJ2_getChars_46870 36 = .ok (.ireturn, 1) := dTo2_70.2.1.2.2.2.2.2.2.2.2.2.1
theorem dTo2_71 : dQ cJ2_putCharsAt_cd4e5 [[(0, zop27, 0, 0), (1, zop7, 0, 0), (2, zop96, 0, 0), (3, zop54, 6, 0), (5, zop27, 0, 0), (6, zop21, 6, 0), (8, zop42, 0, 0), (9, zop184, 0, 96), (12, zop42, 0, 0), (13, zop27, 0, 0)], [(14, zop132, 1, 1), (17, zop28, 0, 0), (18, zop184, 0, 111), (21, zop42, 0, 0), (22, zop27, 0, 0), (23, zop132, 1, 1), (26, zop29, 0, 0), (27, zop184, 0, 111), (30, zop42, 0, 0), (31, zop27, 0, 0)], [(32, zop132, 1, 1), (35, zop21, 4, 0), (37, zop184, 0, 111), (40, zop42, 0, 0), (41, zop27, 0, 0), (42, zop132, 1, 1), (45, zop21, 5, 0), (47, zop184, 0, 111), (50, zop178, 0, 44), (53, zop154, 0, 17)], [(56, zop27, 0, 0), (57, zop21, 6, 0), (59, zop159, 0, 11), (62, zop187, 0, 52), (65, zop89, 0, 0), (66, zop183, 0, 66), (69, zop191, 0, 0), (70, zop21, 6, 0), (72, zop172, 0, 0)]] := dQ_of _ _ (by decide +kernel)
theorem dJ2_putCharsAt_cd4e5_0 : decode cJ2_putCharsAt_cd4e5 0 = .ok (.iload_n 1, 1) := dTo2_71.1.1
theorem dJ2_putCharsAt_cd4e5_1 : decode cJ2_putCharsAt_cd4e5 1 = .ok (.iconst 4, 1) := dTo2_71.1.2.1
theorem dJ2_putCharsAt_cd4e5_2 : decode cJ2_putCharsAt_cd4e5 2 = .ok (.iadd, 1) := dTo2_71.1.2.2.1
theorem dJ2_putCharsAt_cd4e5_3 : decode cJ2_putCharsAt_cd4e5 3 = .ok (.istore 6, 2) := dTo2_71.1.2.2.2.1
theorem dJ2_putCharsAt_cd4e5_5 : decode cJ2_putCharsAt_cd4e5 5 = .ok (.iload_n 1, 1) := dTo2_71.1.2.2.2.2.1
theorem dJ2_putCharsAt_cd4e5_6 : decode cJ2_putCharsAt_cd4e5 6 = .ok (.iload 6, 2) := dTo2_71.1.2.2.2.2.2.1
theorem dJ2_putCharsAt_cd4e5_8 : decode cJ2_putCharsAt_cd4e5 8 = .ok (.aload_n 0, 1) := dTo2_71.1.2.2.2.2.2.2.1
theorem dJ2_putCharsAt_cd4e5_9 : decode cJ2_putCharsAt_cd4e5 9 = .ok (.invokestatic 96, 3) := dTo2_71.1.2.2.2.2.2.2.2.1
theorem dJ2_putCharsAt_cd4e5_12 : decode cJ2_putCharsAt_cd4e5 12 = .ok (.aload_n 0, 1) := dTo2_71.1.2.2.2.2.2.2.2.2.1
theorem dJ2_putCharsAt_cd4e5_13 : decode cJ2_putCharsAt_cd4e5 13 = .ok (.iload_n 1, 1) := dTo2_71.1.2.2.2.2.2.2.2.2.2.1
theorem dJ2_putCharsAt_cd4e5_14 : decode cJ2_putCharsAt_cd4e5 14 = .ok (.iinc 1 1, 3) := dTo2_71.2.1.1
theorem dJ2_putCharsAt_cd4e5_17 : decode cJ2_putCharsAt_cd4e5 17 = .ok (.iload_n 2, 1) := dTo2_71.2.1.2.1
theorem dJ2_putCharsAt_cd4e5_18 : decode cJ2_putCharsAt_cd4e5 18 = .ok (.invokestatic 111, 3) := dTo2_71.2.1.2.2.1
theorem dJ2_putCharsAt_cd4e5_21 : decode cJ2_putCharsAt_cd4e5 21 = .ok (.aload_n 0, 1) := dTo2_71.2.1.2.2.2.1
theorem dJ2_putCharsAt_cd4e5_22 : decode cJ2_putCharsAt_cd4e5 22 = .ok (.iload_n 1, 1) := dTo2_71.2.1.2.2.2.2.1
theorem dJ2_putCharsAt_cd4e5_23 : decode cJ2_putCharsAt_cd4e5 23 = .ok (.iinc 1 1, 3) := dTo2_71.2.1.2.2.2.2.2.1
theorem dJ2_putCharsAt_cd4e5_26 : decode cJ2_putCharsAt_cd4e5 26 = .ok (.iload_n 3, 1) := dTo2_71.2.1.2.2.2.2.2.2.1
theorem dJ2_putCharsAt_cd4e5_27 : decode cJ2_putCharsAt_cd4e5 27 = .ok (.invokestatic 111, 3) := dTo2_71.2.1.2.2.2.2.2.2.2.1
theorem dJ2_putCharsAt_cd4e5_30 : decode cJ2_putCharsAt_cd4e5 30 = .ok (.aload_n 0, 1) := dTo2_71.2.1.2.2.2.2.2.2.2.2.1
theorem dJ2_putCharsAt_cd4e5_31 : decode cJ2_putCharsAt_cd4e5 31 = .ok (.iload_n 1, 1) := dTo2_71.2.1.2.2.2.2.2.2.2.2.2.1
theorem dJ2_putCharsAt_cd4e5_32 : decode cJ2_putCharsAt_cd4e5 32 = .ok (.iinc 1 1, 3) := dTo2_71.2.2.1.1
theorem dJ2_putCharsAt_cd4e5_35 : decode cJ2_putCharsAt_cd4e5 35 = .ok (.iload 4, 2) := dTo2_71.2.2.1.2.1
theorem dJ2_putCharsAt_cd4e5_37 : decode cJ2_putCharsAt_cd4e5 37 = .ok (.invokestatic 111, 3) := dTo2_71.2.2.1.2.2.1
theorem dJ2_putCharsAt_cd4e5_40 : decode cJ2_putCharsAt_cd4e5 40 = .ok (.aload_n 0, 1) := dTo2_71.2.2.1.2.2.2.1
theorem dJ2_putCharsAt_cd4e5_41 : decode cJ2_putCharsAt_cd4e5 41 = .ok (.iload_n 1, 1) := dTo2_71.2.2.1.2.2.2.2.1
theorem dJ2_putCharsAt_cd4e5_42 : decode cJ2_putCharsAt_cd4e5 42 = .ok (.iinc 1 1, 3) := dTo2_71.2.2.1.2.2.2.2.2.1
theorem dJ2_putCharsAt_cd4e5_45 : decode cJ2_putCharsAt_cd4e5 45 = .ok (.iload 5, 2) := dTo2_71.2.2.1.2.2.2.2.2.2.1
theorem dJ2_putCharsAt_cd4e5_47 : decode cJ2_putCharsAt_cd4e5 47 = .ok (.invokestatic 111, 3) := dTo2_71.2.2.1.2.2.2.2.2.2.2.1
theorem dJ2_putCharsAt_cd4e5_50 : decode cJ2_putCharsAt_cd4e5 50 = .ok (.getstatic 44, 3) := dTo2_71.2.2.1.2.2.2.2.2.2.2.2.1
theorem dJ2_putCharsAt_cd4e5_53 : decode cJ2_putCharsAt_cd4e5 53 = .ok (.ifCond .ne 17, 3) := dTo2_71.2.2.1.2.2.2.2.2.2.2.2.2.1
theorem dJ2_putCharsAt_cd4e5_56 : decode cJ2_putCharsAt_cd4e5 56 = .ok (.iload_n 1, 1) := dTo2_71.2.2.2.1.1
theorem dJ2_putCharsAt_cd4e5_57 : decode cJ2_putCharsAt_cd4e5 57 = .ok (.iload 6, 2) := dTo2_71.2.2.2.1.2.1
theorem dJ2_putCharsAt_cd4e5_59 : decode cJ2_putCharsAt_cd4e5 59 = .ok (.if_icmp .eq 11, 3) := dTo2_71.2.2.2.1.2.2.1
theorem dJ2_putCharsAt_cd4e5_62 : decode cJ2_putCharsAt_cd4e5 62 = .ok (.new 52, 3) := dTo2_71.2.2.2.1.2.2.2.1
theorem dJ2_putCharsAt_cd4e5_65 : decode cJ2_putCharsAt_cd4e5 65 = .ok (.dup, 1) := dTo2_71.2.2.2.1.2.2.2.2.1
theorem dJ2_putCharsAt_cd4e5_66 : decode cJ2_putCharsAt_cd4e5 66 = .ok (.invokespecial 66, 3) := dTo2_71.2.2.2.1.2.2.2.2.2.1
theorem dJ2_putCharsAt_cd4e5_69 : decode cJ2_putCharsAt_cd4e5 69 = .ok (.athrow, 1) := dTo2_71.2.2.2.1.2.2.2.2.2.2.1
theorem dJ2_putCharsAt_cd4e5_70 : decode cJ2_putCharsAt_cd4e5 70 = .ok (.iload 6, 2) := dTo2_71.2.2.2.1.2.2.2.2.2.2.2.1
theorem dJ2_putCharsAt_cd4e5_72 : decode cJ2_putCharsAt_cd4e5 72 = .ok (.ireturn, 1) := dTo2_71.2.2.2.1.2.2.2.2.2.2.2.2.1
theorem dTo2_72 : dQ cJ2_inflate_0e8fd [[(0, zop29, 0, 0), (1, zop21, 4, 0), (3, zop44, 0, 0), (4, zop184, 0, 173), (7, zop3, 0, 0), (8, zop54, 5, 0), (10, zop21, 5, 0), (12, zop21, 4, 0), (14, zop162, 0, 27), (17, zop44, 0, 0)], [(18, zop29, 0, 0), (19, zop132, 3, 1), (22, zop42, 0, 0), (23, zop27, 0, 0), (24, zop132, 1, 1), (27, zop51, 0, 0), (28, zop17, 0, 255), (31, zop126, 0, 0), (32, zop184, 0, 111), (35, zop132, 5, 1)], [(38, zop167, 255, 228), (41, zop177, 0, 0)]] := dQ_of _ _ (by decide +kernel)
theorem dJ2_inflate_0e8fd_0 : decode cJ2_inflate_0e8fd 0 = .ok (.iload_n 3, 1) := dTo2_72.1.1
theorem dJ2_inflate_0e8fd_1 : decode cJ2_inflate_0e8fd 1 = .ok (.iload 4, 2) := dTo2_72.1.2.1
theorem dJ2_inflate_0e8fd_3 : decode cJ2_inflate_0e8fd 3 = .ok (.aload_n 2, 1) := dTo2_72.1.2.2.1
theorem dJ2_inflate_0e8fd_4 : decode cJ2_inflate_0e8fd 4 = .ok (.invokestatic 173, 3) := dTo2_72.1.2.2.2.1
theorem dJ2_inflate_0e8fd_7 : decode cJ2_inflate_0e8fd 7 = .ok (.iconst 0, 1) := dTo2_72.1.2.2.2.2.1
theorem dJ2_inflate_0e8fd_8 : decode cJ2_inflate_0e8fd 8 = .ok (.istore 5, 2) := dTo2_72.1.2.2.2.2.2.1
theorem dJ2_inflate_0e8fd_10 : decode cJ2_inflate_0e8fd 10 = .ok (.iload 5, 2) := dTo2_72.1.2.2.2.2.2.2.1
theorem dJ2_inflate_0e8fd_12 : decode cJ2_inflate_0e8fd 12 = .ok (.iload 4, 2) := dTo2_72.1.2.2.2.2.2.2.2.1
theorem dJ2_inflate_0e8fd_14 : decode cJ2_inflate_0e8fd 14 = .ok (.if_icmp .ge 27, 3) := dTo2_72.1.2.2.2.2.2.2.2.2.1
theorem dJ2_inflate_0e8fd_17 : decode cJ2_inflate_0e8fd 17 = .ok (.aload_n 2, 1) := dTo2_72.1.2.2.2.2.2.2.2.2.2.1
theorem dJ2_inflate_0e8fd_18 : decode cJ2_inflate_0e8fd 18 = .ok (.iload_n 3, 1) := dTo2_72.2.1.1
theorem dJ2_inflate_0e8fd_19 : decode cJ2_inflate_0e8fd 19 = .ok (.iinc 3 1, 3) := dTo2_72.2.1.2.1
theorem dJ2_inflate_0e8fd_22 : decode cJ2_inflate_0e8fd 22 = .ok (.aload_n 0, 1) := dTo2_72.2.1.2.2.1
theorem dJ2_inflate_0e8fd_23 : decode cJ2_inflate_0e8fd 23 = .ok (.iload_n 1, 1) := dTo2_72.2.1.2.2.2.1
theorem dJ2_inflate_0e8fd_24 : decode cJ2_inflate_0e8fd 24 = .ok (.iinc 1 1, 3) := dTo2_72.2.1.2.2.2.2.1
theorem dJ2_inflate_0e8fd_27 : decode cJ2_inflate_0e8fd 27 = .ok (.baload, 1) := dTo2_72.2.1.2.2.2.2.2.1
theorem dJ2_inflate_0e8fd_28 : decode cJ2_inflate_0e8fd 28 = .ok (.sipush 255, 3) := dTo2_72.2.1.2.2.2.2.2.2.1
theorem dJ2_inflate_0e8fd_31 : decode cJ2_inflate_0e8fd 31 = .ok (.iand, 1) := dTo2_72.2.1.2.2.2.2.2.2.2.1
theorem dJ2_inflate_0e8fd_32 : decode cJ2_inflate_0e8fd 32 = .ok (.invokestatic 111, 3) := dTo2_72.2.1.2.2.2.2.2.2.2.2.1
theorem dJ2_inflate_0e8fd_35 : decode cJ2_inflate_0e8fd 35 = .ok (.iinc 5 1, 3) := dTo2_72.2.1.2.2.2.2.2.2.2.2.2.1
theorem dJ2_inflate_0e8fd_38 : decode cJ2_inflate_0e8fd 38 = .ok (.goto (-28), 3) := dTo2_72.2.2.1.1
theorem dJ2_inflate_0e8fd_41 : decode cJ2_inflate_0e8fd 41 = .ok (.return_, 1) := dTo2_72.2.2.1.2.1
theorem dTo2_73 : dQ cJ2_getChars_ba4f3 [[(0, zop27, 0, 0), (1, zop54, 5, 0), (3, zop26, 0, 0), (4, zop156, 0, 7), (7, zop4, 0, 0), (8, zop167, 0, 4), (11, zop3, 0, 0), (12, zop54, 6, 0), (14, zop21, 6, 0), (16, zop154, 0, 6)], [(19, zop26, 0, 0), (20, zop116, 0, 0), (21, zop59, 0, 0), (22, zop26, 0, 0), (23, zop16, 156, 0), (25, zop163, 0, 51), (28, zop26, 0, 0), (29, zop16, 100, 0), (31, zop108, 0, 0), (32, zop62, 0, 0)], [(33, zop29, 0, 0), (34, zop16, 100, 0), (36, zop104, 0, 0), (37, zop26, 0, 0), (38, zop100, 0, 0), (39, zop54, 4, 0), (41, zop29, 0, 0), (42, zop59, 0, 0), (43, zop44, 0, 0), (44, zop132, 5, 255)], [(47, zop21, 5, 0), (49, zop178, 1, 147), (52, zop21, 4, 0), (54, zop51, 0, 0), (55, zop184, 0, 111), (58, zop44, 0, 0), (59, zop132, 5, 255), (62, zop21, 5, 0), (64, zop178, 1, 151), (67, zop21, 4, 0)], [(69, zop51, 0, 0), (70, zop184, 0, 111), (73, zop167, 255, 205), (76, zop44, 0, 0), (77, zop132, 5, 255), (80, zop21, 5, 0), (82, zop178, 1, 147), (85, zop26, 0, 0), (86, zop116, 0, 0), (87, zop51, 0, 0)], [(88, zop184, 0, 111), (91, zop26, 0, 0), (92, zop16, 247, 0), (94, zop162, 0, 18), (97, zop44, 0, 0), (98, zop132, 5, 255), (101, zop21, 5, 0), (103, zop178, 1, 151), (106, zop26, 0, 0), (107, zop116, 0, 0)]] := dQ_of _ _ (by decide +kernel)
theorem dJ2_getChars_ba4f3_0 : decode cJ2_getChars_ba4f3 0 = .ok (.iload_n 1, 1) := dTo2_73.1.1
theorem dJ2_getChars_ba4f3_1 : decode cJ2_getChars_ba4f3 1 = .ok (.istore 5, 2) := dTo2_73.1.2.1
theorem dJ2_getChars_ba4f3_3 : decode cJ2_getChars_ba4f3 3 = .ok (.iload_n 0, 1) := dTo2_73.1.2.2.1
theorem dJ2_getChars_ba4f3_4 : decode cJ2_getChars_ba4f3 4 = .ok (.ifCond .ge 7, 3) := dTo2_73.1.2.2.2.1
theorem dJ2_getChars_ba4f3_7 : decode cJ2_getChars_ba4f3 7 = .ok (.iconst 1, 1) := dTo2_73.1.2.2.2.2.1
theorem dJ2_getChars_ba4f3_8 : decode cJ2_getChars_ba4f3 8 = .ok (.goto 4, 3) := dTo2_73.1.2.2.2.2.2.1
theorem dJ2_getChars_ba4f3_11 : decode cJ2_getChars_ba4f3 11 = .ok (.iconst 0, 1) := dTo2_73.1.2.2.2.2.2.2.1
theorem dJ2_getChars_ba4f3_12 : decode cJ2_getChars_ba4f3 12 = .ok (.istore 6, 2) := dTo2_73.1.2.2.2.2.2.2.2.1
theorem dJ2_getChars_ba4f3_14 : decode cJ2_getChars_ba4f3 14 = .ok (.iload 6, 2) := dTo2_73.1.2.2.2.2.2.2.2.2.1
theorem dJ2_getChars_ba4f3_16 : decode cJ2_getChars_ba4f3 16 = .ok (.ifCond .ne 6, 3) := dTo2_73.1.2.2.2.2.2.2.2.2.2.1
theorem dJ2_getChars_ba4f3_19 : decode cJ2_getChars_ba4f3 19 = .ok (.iload_n 0, 1) := dTo2_73.2.1.1
theorem dJ2_getChars_ba4f3_20 : decode cJ2_getChars_ba4f3 20 = .ok (.ineg, 1) := dTo2_73.2.1.2.1
theorem dJ2_getChars_ba4f3_21 : decode cJ2_getChars_ba4f3 21 = .ok (.istore_n 0, 1) := dTo2_73.2.1.2.2.1
theorem dJ2_getChars_ba4f3_22 : decode cJ2_getChars_ba4f3 22 = .ok (.iload_n 0, 1) := dTo2_73.2.1.2.2.2.1
theorem dJ2_getChars_ba4f3_23 : decode cJ2_getChars_ba4f3 23 = .ok (.bipush (-100), 2) := dTo2_73.2.1.2.2.2.2.1
theorem dJ2_getChars_ba4f3_25 : decode cJ2_getChars_ba4f3 25 = .ok (.if_icmp .gt 51, 3) := dTo2_73.2.1.2.2.2.2.2.1
theorem dJ2_getChars_ba4f3_28 : decode cJ2_getChars_ba4f3 28 = .ok (.iload_n 0, 1) := dTo2_73.2.1.2.2.2.2.2.2.1
theorem dJ2_getChars_ba4f3_29 : decode cJ2_getChars_ba4f3 29 = .ok (.bipush 100, 2) := dTo2_73.2.1.2.2.2.2.2.2.2.1
theorem dJ2_getChars_ba4f3_31 : decode cJ2_getChars_ba4f3 31 = .ok (.idiv, 1) := dTo2_73.2.1.2.2.2.2.2.2.2.2.1
theorem dJ2_getChars_ba4f3_32 : decode cJ2_getChars_ba4f3 32 = .ok (.istore_n 3, 1) := dTo2_73.2.1.2.2.2.2.2.2.2.2.2.1
theorem dJ2_getChars_ba4f3_33 : decode cJ2_getChars_ba4f3 33 = .ok (.iload_n 3, 1) := dTo2_73.2.2.1.1
theorem dJ2_getChars_ba4f3_34 : decode cJ2_getChars_ba4f3 34 = .ok (.bipush 100, 2) := dTo2_73.2.2.1.2.1
theorem dJ2_getChars_ba4f3_36 : decode cJ2_getChars_ba4f3 36 = .ok (.imul, 1) := dTo2_73.2.2.1.2.2.1
theorem dJ2_getChars_ba4f3_37 : decode cJ2_getChars_ba4f3 37 = .ok (.iload_n 0, 1) := dTo2_73.2.2.1.2.2.2.1
theorem dJ2_getChars_ba4f3_38 : decode cJ2_getChars_ba4f3 38 = .ok (.isub, 1) := dTo2_73.2.2.1.2.2.2.2.1
theorem dJ2_getChars_ba4f3_39 : decode cJ2_getChars_ba4f3 39 = .ok (.istore 4, 2) := dTo2_73.2.2.1.2.2.2.2.2.1
theorem dJ2_getChars_ba4f3_41 : decode cJ2_getChars_ba4f3 41 = .ok (.iload_n 3, 1) := dTo2_73.2.2.1.2.2.2.2.2.2.1
theorem dJ2_getChars_ba4f3_42 : decode cJ2_getChars_ba4f3 42 = .ok (.istore_n 0, 1) := dTo2_73.2.2.1.2.2.2.2.2.2.2.1
theorem dJ2_getChars_ba4f3_43 : decode cJ2_getChars_ba4f3 43 = .ok (.aload_n 2, 1) := dTo2_73.2.2.1.2.2.2.2.2.2.2.2.1
theorem dJ2_getChars_ba4f3_44 : decode cJ2_getChars_ba4f3 44 = .ok (.iinc 5 (-1), 3) := dTo2_73.2.2.1.2.2.2.2.2.2.2.2.2.1
theorem dJ2_getChars_ba4f3_47 : decode cJ2_getChars_ba4f3 47 = .ok (.iload 5, 2) := dTo2_73.2.2.2.1.1
theorem dJ2_getChars_ba4f3_49 : decode cJ2_getChars_ba4f3 49 = .ok (.getstatic 403, 3) := dTo2_73.2.2.2.1.2.1
theorem dJ2_getChars_ba4f3_52 : decode cJ2_getChars_ba4f3 52 = .ok (.iload 4, 2) := dTo2_73.2.2.2.1.2.2.1
theorem dJ2_getChars_ba4f3_54 : decode cJ2_getChars_ba4f3 54 = .ok (.baload, 1) := dTo2_73.2.2.2.1.2.2.2.1
theorem dJ2_getChars_ba4f3_55 : decode cJ2_getChars_ba4f3 55 = .ok (.invokestatic 111, 3) := dTo2_73.2.2.2.1.2.2.2.2.1
theorem dJ2_getChars_ba4f3_58 : decode cJ2_getChars_ba4f3 58 = .ok (.aload_n 2, 1) := dTo2_73.2.2.2.1.2.2.2.2.2.1
theorem dJ2_getChars_ba4f3_59 : decode cJ2_getChars_ba4f3 59 = .ok (.iinc 5 (-1), 3) := dTo2_73.2.2.2.1.2.2.2.2.2.2.1
theorem dJ2_getChars_ba4f3_62 : decode cJ2_getChars_ba4f3 62 = .ok (.iload 5, 2) := dTo2_73.2.2.2.1.2.2.2.2.2.2.2.1
theorem dJ2_getChars_ba4f3_64 : decode cJ2_getChars_ba4f3 64 = .ok (.getstatic 407, 3) := dTo2_73.2.2.2.1.2.2.2.2.2.2.2.2.1
theorem dJ2_getChars_ba4f3_67 : decode cJ2_getChars_ba4f3 67 = .ok (.iload 4, 2) := dTo2_73.2.2.2.1.2.2.2.2.2.2.2.2.2.1
theorem dJ2_getChars_ba4f3_69 : decode cJ2_getChars_ba4f3 69 = .ok (.baload, 1) := dTo2_73.2.2.2.2.1.1
theorem dJ2_getChars_ba4f3_70 : decode cJ2_getChars_ba4f3 70 = .ok (.invokestatic 111, 3) := dTo2_73.2.2.2.2.1.2.1
theorem dJ2_getChars_ba4f3_73 : decode cJ2_getChars_ba4f3 73 = .ok (.goto (-51), 3) := dTo2_73.2.2.2.2.1.2.2.1
theorem dJ2_getChars_ba4f3_76 : decode cJ2_getChars_ba4f3 76 = .ok (.aload_n 2, 1) := dTo2_73.2.2.2.2.1.2.2.2.1
theorem dJ2_getChars_ba4f3_77 : decode cJ2_getChars_ba4f3 77 = .ok (.iinc 5 (-1), 3) := dTo2_73.2.2.2.2.1.2.2.2.2.1
theorem dJ2_getChars_ba4f3_80 : decode cJ2_getChars_ba4f3 80 = .ok (.iload 5, 2) := dTo2_73.2.2.2.2.1.2.2.2.2.2.1
theorem dJ2_getChars_ba4f3_82 : decode cJ2_getChars_ba4f3 82 = .ok (.getstatic 403, 3) := dTo2_73.2.2.2.2.1.2.2.2.2.2.2.1
theorem dJ2_getChars_ba4f3_85 : decode cJ2_getChars_ba4f3 85 = .ok (.iload_n 0, 1) := dTo2_73.2.2.2.2.1.2.2.2.2.2.2.2.1
theorem dJ2_getChars_ba4f3_86 : decode cJ2_getChars_ba4f3 86 = .ok (.ineg, 1) := dTo2_73.2.2.2.2.1.2.2.2.2.2.2.2.2.1
theorem dJ2_getChars_ba4f3_87 : decode cJ2_getChars_ba4f3 87 = .ok (.baload, 1) := dTo2_73.2.2.2.2.1.2.2.2.2.2.2.2.2.2.1
theorem dJ2_getChars_ba4f3_88 : decode cJ2_getChars_ba4f3 88 = .ok (.invokestatic 111, 3) := dTo2_73.2.2.2.2.2.1.1
theorem dJ2_getChars_ba4f3_91 : decode cJ2_getChars_ba4f3 91 = .ok (.iload_n 0, 1) := dTo2_73.2.2.2.2.2.1.2.1
theorem dJ2_getChars_ba4f3_92 : decode cJ2_getChars_ba4f3 92 = .ok (.bipush (-9), 2) := dTo2_73.2.2.2.2.2.1.2.2.1
theorem dJ2_getChars_ba4f3_94 : decode cJ2_getChars_ba4f3 94 = .ok (.if_icmp .ge 18, 3) := dTo2_73.2.2.2.2.2.1.2.2.2.1
theorem dJ2_getChars_ba4f3_97 : decode cJ2_getChars_ba4f3 97 = .ok (.aload_n 2, 1) := dTo2_73.2.2.2.2.2.1.2.2.2.2.1
theorem dJ2_getChars_ba4f3_98 : decode cJ2_getChars_ba4f3 98 = .ok (.iinc 5 (-1), 3) := dTo2_73.2.2.2.2.2.1.2.2.2.2.2.1
theorem dJ2_getChars_ba4f3_101 : decode cJ2_getChars_ba4f3 101 = .ok (.iload 5, 2) := dTo2_73.2.2.2.2.2.1.2.2.2.2.2.2.1
theorem dJ2_getChars_ba4f3_103 : decode cJ2_getChars_ba4f3 103 = .ok (.getstatic 407, 3) := dTo2_73.2.2.2.2.2.1.2.2.2.2.2.2.2.1
theorem dJ2_getChars_ba4f3_106 : decode cJ2_getChars_ba4f3 106 = .ok (.iload_n 0, 1) := dTo2_73.2.2.2.2.2.1.2.2.2.2.2.2.2.2.1
theorem dJ2_getChars_ba4f3_107 : decode cJ2_getChars_ba4f3 107 = .ok (.ineg, 1) := dTo2_73.2.2.2.2.2.1.2.2.2.2.2.2.2.2.2.1
theorem dTo2_74 : dQ cJ2_getChars_ba4f3 [[(108, zop51, 0, 0), (109, zop184, 0, 111), (112, zop21, 6, 0), (114, zop153, 0, 14), (117, zop44, 0, 0), (118, zop132, 5, 255), (121, zop21, 5, 0), (123, zop16, 45, 0), (125, zop184, 0, 111), (128, zop21, 5, 0)], [(130, zop172, 0, 0)]] := dQ_of _ _ (by decide +kernel)
theorem dJ2_getChars_ba4f3_108 : decode cJ2_getChars_ba4f3 108 = .ok (.baload, 1) := dTo2_74.1.1
theorem dJ2_getChars_ba4f3_109 : decode cJ2_getChars_ba4f3 109 = .ok (.invokestatic 111, 3) := dTo2_74.1.2.1
theorem dJ2_getChars_ba4f3_112 : decode cJ2_getChars_ba4f3 112 = .ok (.iload 6, 2) := dTo2_74.1.2.2.1
theorem dJ2_getChars_ba4f3_114 : decode cJ2_getChars_ba4f3 114 = .ok (.ifCond .eq 14, 3) := dTo2_74.1.2.2.2.1
theorem dJ2_getChars_ba4f3_117 : decode cJ2_getChars_ba4f3 117 = .ok (.aload_n 2, 1) := dTo2_74.1.2.2.2.2.1
theorem dJ2_getChars_ba4f3_118 : decode cJ2_getChars_ba4f3 118 = .ok (.iinc 5 (-1), 3) := dTo2_74.1.2.2.2.2.2.1
theorem dJ2_getChars_ba4f3_121 : decode cJ2_getChars_ba4f3 121 = .ok (.iload 5, 2) := dTo2_74.1.2.2.2.2.2.2.1
theorem dJ2_getChars_ba4f3_123 : decode cJ2_getChars_ba4f3 123 = .ok (.bipush 45, 2) := dTo2_74.1.2.2.2.2.2.2.2.1
theorem dJ2_getChars_ba4f3_125 : decode cJ2_getChars_ba4f3 125 = .ok (.invokestatic 111, 3) := dTo2_74.1.2.2.2.2.2.2.2.2.1
theorem dJ2_getChars_ba4f3_128 : decode cJ2_getChars_ba4f3 128 = .ok (.iload 5, 2) := dTo2_74.1.2.2.2.2.2.2.2.2.2.1
theorem dJ2_getChars_ba4f3_130 : decode cJ2_getChars_ba4f3 130 = .ok (.ireturn, 1) := dTo2_74.2.1.1
theorem dTo2_75 : dQ cJ2_checkIndex_2214a [[(0, zop26, 0, 0), (1, zop43, 0, 0), (2, zop184, 0, 48), (5, zop184, 1, 158), (8, zop177, 0, 0)]] := dQ_of _ _ (by decide +kernel)
theorem dJ2_checkIndex_2214a_0 : decode cJ2_checkIndex_2214a 0 = .ok (.iload_n 0, 1) := dTo2_75.1.1
theorem dJ2_checkIndex_2214a_1 : decode cJ2_checkIndex_2214a 1 = .ok (.aload_n 1, 1) := dTo2_75.1.2.1
theorem dJ2_checkIndex_2214a_2 : decode cJ2_checkIndex_2214a 2 = .ok (.invokestatic 48, 3) := dTo2_75.1.2.2.1
theorem dJ2_checkIndex_2214a_5 : decode cJ2_checkIndex_2214a 5 = .ok (.invokestatic 414, 3) := dTo2_75.1.2.2.2.1
theorem dJ2_checkIndex_2214a_8 : decode cJ2_checkIndex_2214a 8 = .ok (.return_, 1) := dTo2_75.1.2.2.2.2.1
theorem dTo2_76 : dQ cJ2_checkBoundsBeginEnd_d044e [[(0, zop26, 0, 0), (1, zop27, 0, 0), (2, zop44, 0, 0), (3, zop184, 0, 48), (6, zop184, 0, 241), (9, zop177, 0, 0)]] := dQ_of _ _ (by decide +kernel)
theorem dJ2_checkBoundsBeginEnd_d044e_0 : decode cJ2_checkBoundsBeginEnd_d044e 0 = .ok (.iload_n 0, 1) := dTo2_76.1.1
theorem dJ2_checkBoundsBeginEnd_d044e_1 : decode cJ2_checkBoundsBeginEnd_d044e 1 = .ok (.iload_n 1, 1) := dTo2_76.1.2.1
theorem dJ2_checkBoundsBeginEnd_d044e_2 : decode cJ2_checkBoundsBeginEnd_d044e 2 = .ok (.aload_n 2, 1) := dTo2_76.1.2.2.1
theorem dJ2_checkBoundsBeginEnd_d044e_3 : decode cJ2_checkBoundsBeginEnd_d044e 3 = .ok (.invokestatic 48, 3) := dTo2_76.1.2.2.2.1
theorem dJ2_checkBoundsBeginEnd_d044e_6 : decode cJ2_checkBoundsBeginEnd_d044e 6 = .ok (.invokestatic 241, 3) := dTo2_76.1.2.2.2.2.1
theorem dJ2_checkBoundsBeginEnd_d044e_9 : decode cJ2_checkBoundsBeginEnd_d044e 9 = .ok (.return_, 1) := dTo2_76.1.2.2.2.2.2.1
theorem dTo2_77 : dQ cJ2_checkBoundsOffCount_d044e [[(0, zop26, 0, 0), (1, zop27, 0, 0), (2, zop44, 0, 0), (3, zop184, 0, 48), (6, zop184, 1, 163), (9, zop87, 0, 0), (10, zop177, 0, 0)]] := dQ_of _ _ (by decide +kernel)
theorem dJ2_checkBoundsOffCount_d044e_0 : decode cJ2_checkBoundsOffCount_d044e 0 = .ok (.iload_n 0, 1) := dTo2_77.1.1
theorem dJ2_checkBoundsOffCount_d044e_1 : decode cJ2_checkBoundsOffCount_d044e 1 = .ok (.iload_n 1, 1) := dTo2_77.1.2.1
theorem dJ2_checkBoundsOffCount_d044e_2 : decode cJ2_checkBoundsOffCount_d044e 2 = .ok (.aload_n 2, 1) := dTo2_77.1.2.2.1
theorem dJ2_checkBoundsOffCount_d044e_3 : decode cJ2_checkBoundsOffCount_d044e 3 = .ok (.invokestatic 48, 3) := dTo2_77.1.2.2.2.1
theorem dJ2_checkBoundsOffCount_d044e_6 : decode cJ2_checkBoundsOffCount_d044e 6 = .ok (.invokestatic 419, 3) := dTo2_77.1.2.2.2.2.1
theorem dJ2_checkBoundsOffCount_d044e_9 : decode cJ2_checkBoundsOffCount_d044e 9 = .ok (.pop, 1) := dTo2_77.1.2.2.2.2.2.1
theorem dJ2_checkBoundsOffCount_d044e_10 : decode cJ2_checkBoundsOffCount_d044e 10 = .ok (.return_, 1) := dTo2_77.1.2.2.2.2.2.2.1
theorem dJ7_copyOf_9075b_15 : decode cJ7_copyOf_9075b 15 = .ok (.newarray .byte, 2) := by decide +kernel
theorem dTo2_78 : dQ cJ7_copyOf_9075b [[(0, zop27, 0, 0), (1, zop42, 0, 0), (2, zop190, 0, 0), (3, zop160, 0, 11), (6, zop42, 0, 0), (7, zop182, 1, 54), (10, zop192, 1, 55), (13, zop176, 0, 0), (14, zop27, 0, 0), (17, zop77, 0, 0)], [(18, zop42, 0, 0), (19, zop3, 0, 0), (20, zop44, 0, 0), (21, zop3, 0, 0), (22, zop42, 0, 0), (23, zop190, 0, 0), (24, zop27, 0, 0), (25, zop184, 1, 48), (28, zop184, 0, 150), (31, zop44, 0, 0)], [(32, zop176, 0, 0)]] := dQ_of _ _ (by decide +kernel)
theorem dJ7_copyOf_9075b_0 : decode cJ7_copyOf_9075b 0 = .ok (.iload_n 1, 1) := dTo2_78.1.1
theorem dJ7_copyOf_9075b_1 : decode cJ7_copyOf_9075b 1 = .ok (.aload_n 0, 1) := dTo2_78.1.2.1
theorem dJ7_copyOf_9075b_2 : decode cJ7_copyOf_9075b 2 = .ok (.arraylength, 1) := dTo2_78.1.2.2.1
theorem dJ7_copyOf_9075b_3 : decode cJ7_copyOf_9075b 3 = .ok (.if_icmp .ne 11, 3) := dTo2_78.1.2.2.2.1
theorem dJ7_copyOf_9075b_6 : decode cJ7_copyOf_9075b 6 = .ok (.aload_n 0, 1) := dTo2_78.1.2.2.2.2.1
theorem dJ7_copyOf_9075b_7 : decode cJ7_copyOf_9075b 7 = .ok (.invokevirtual 310, 3) := dTo2_78.1.2.2.2.2.2.1
theorem dJ7_copyOf_9075b_10 : decode cJ7_copyOf_9075b 10 = .ok (.checkcast 311, 3) := dTo2_78.1.2.2.2.2.2.2.1
theorem dJ7_copyOf_9075b_13 : decode cJ7_copyOf_9075b 13 = .ok (.areturn, 1) := dTo2_78.1.2.2.2.2.2.2.2.1
theorem dJ7_copyOf_9075b_14 : decode cJ7_copyOf_9075b 14 = .ok (.iload_n 1, 1) := dTo2_78.1.2.2.2.2.2.2.2.2.1
theorem dJ7_copyOf_9075b_17 : decode cJ7_copyOf_9075b 17 = .ok (.astore_n 2, 1) := dTo2_78.1.2.2.2.2.2.2.2.2.2.1
theorem dJ7_copyOf_9075b_18 : decode cJ7_copyOf_9075b 18 = .ok (.aload_n 0, 1) := dTo2_78.2.1.1
theorem dJ7_copyOf_9075b_19 : decode cJ7_copyOf_9075b 19 = .ok (.iconst 0, 1) := dTo2_78.2.1.2.1
theorem dJ7_copyOf_9075b_20 : decode cJ7_copyOf_9075b 20 = .ok (.aload_n 2, 1) := dTo2_78.2.1.2.2.1
theorem dJ7_copyOf_9075b_21 : decode cJ7_copyOf_9075b 21 = .ok (.iconst 0, 1) := dTo2_78.2.1.2.2.2.1
theorem dJ7_copyOf_9075b_22 : decode cJ7_copyOf_9075b 22 = .ok (.aload_n 0, 1) := dTo2_78.2.1.2.2.2.2.1
theorem dJ7_copyOf_9075b_23 : decode cJ7_copyOf_9075b 23 = .ok (.arraylength, 1) := dTo2_78.2.1.2.2.2.2.2.1
theorem dJ7_copyOf_9075b_24 : decode cJ7_copyOf_9075b 24 = .ok (.iload_n 1, 1) := dTo2_78.2.1.2.2.2.2.2.2.1
theorem dJ7_copyOf_9075b_25 : decode cJ7_copyOf_9075b 25 = .ok (.invokestatic 304, 3) := dTo2_78.2.1.2.2.2.2.2.2.2.1
theorem dJ7_copyOf_9075b_28 : decode cJ7_copyOf_9075b 28 = .ok (.invokestatic 150, 3) := dTo2_78.2.1.2.2.2.2.2.2.2.2.1
theorem dJ7_copyOf_9075b_31 : decode cJ7_copyOf_9075b 31 = .ok (.aload_n 2, 1) := dTo2_78.2.1.2.2.2.2.2.2.2.2.2.1
theorem dJ7_copyOf_9075b_32 : decode cJ7_copyOf_9075b 32 = .ok (.areturn, 1) := dTo2_78.2.2.1.1
theorem dTo2_79 : dQ cJ7_checkLength_df160 [[(0, zop27, 0, 0), (1, zop26, 0, 0), (2, zop162, 0, 35), (5, zop187, 0, 43), (8, zop89, 0, 0), (9, zop187, 0, 45), (12, zop89, 0, 0), (13, zop183, 0, 47), (16, zop26, 0, 0), (17, zop182, 0, 54)], [(20, zop19, 1, 81), (23, zop182, 0, 50), (26, zop27, 0, 0), (27, zop182, 0, 54), (30, zop182, 0, 61), (33, zop183, 0, 65), (36, zop191, 0, 0), (37, zop177, 0, 0)]] := dQ_of _ _ (by decide +kernel)
theorem dJ7_checkLength_df160_0 : decode cJ7_checkLength_df160 0 = .ok (.iload_n 1, 1) := dTo2_79.1.1
theorem dJ7_checkLength_df160_1 : decode cJ7_checkLength_df160 1 = .ok (.iload_n 0, 1) := dTo2_79.1.2.1
theorem dJ7_checkLength_df160_2 : decode cJ7_checkLength_df160 2 = .ok (.if_icmp .ge 35, 3) := dTo2_79.1.2.2.1
theorem dJ7_checkLength_df160_5 : decode cJ7_checkLength_df160 5 = .ok (.new 43, 3) := dTo2_79.1.2.2.2.1
theorem dJ7_checkLength_df160_8 : decode cJ7_checkLength_df160 8 = .ok (.dup, 1) := dTo2_79.1.2.2.2.2.1
theorem dJ7_checkLength_df160_9 : decode cJ7_checkLength_df160 9 = .ok (.new 45, 3) := dTo2_79.1.2.2.2.2.2.1
theorem dJ7_checkLength_df160_12 : decode cJ7_checkLength_df160 12 = .ok (.dup, 1) := dTo2_79.1.2.2.2.2.2.2.1
theorem dJ7_checkLength_df160_13 : decode cJ7_checkLength_df160 13 = .ok (.invokespecial 47, 3) := dTo2_79.1.2.2.2.2.2.2.2.1
theorem dJ7_checkLength_df160_16 : decode cJ7_checkLength_df160 16 = .ok (.iload_n 0, 1) := dTo2_79.1.2.2.2.2.2.2.2.2.1
theorem dJ7_checkLength_df160_17 : decode cJ7_checkLength_df160 17 = .ok (.invokevirtual 54, 3) := dTo2_79.1.2.2.2.2.2.2.2.2.2.1
theorem dJ7_checkLength_df160_20 : decode cJ7_checkLength_df160 20 = .ok (.ldc_w 337, 3) := dTo2_79.2.1.1
theorem dJ7_checkLength_df160_23 : decode cJ7_checkLength_df160 23 = .ok (.invokevirtual 50, 3) := dTo2_79.2.1.2.1
theorem dJ7_checkLength_df160_26 : decode cJ7_checkLength_df160 26 = .ok (.iload_n 1, 1) := dTo2_79.2.1.2.2.1
theorem dJ7_checkLength_df160_27 : decode cJ7_checkLength_df160 27 = .ok (.invokevirtual 54, 3) := dTo2_79.2.1.2.2.2.1
theorem dJ7_checkLength_df160_30 : decode cJ7_checkLength_df160 30 = .ok (.invokevirtual 61, 3) := dTo2_79.2.1.2.2.2.2.1
theorem dJ7_checkLength_df160_33 : decode cJ7_checkLength_df160 33 = .ok (.invokespecial 65, 3) := dTo2_79.2.1.2.2.2.2.2.1
theorem dJ7_checkLength_df160_36 : decode cJ7_checkLength_df160 36 = .ok (.athrow, 1) := dTo2_79.2.1.2.2.2.2.2.2.1
theorem dJ7_checkLength_df160_37 : decode cJ7_checkLength_df160 37 = .ok (.return_, 1) := dTo2_79.2.1.2.2.2.2.2.2.2.1
theorem dTo2_80 : dQ cJ7_copyOfRange_39247 [[(0, zop27, 0, 0), (1, zop154, 0, 9), (4, zop28, 0, 0), (5, zop42, 0, 0), (6, zop190, 0, 0), (7, zop159, 0, 10), (10, zop42, 0, 0), (11, zop27, 0, 0), (12, zop28, 0, 0), (13, zop184, 1, 83)], [(16, zop176, 0, 0), (17, zop42, 0, 0), (18, zop182, 1, 54), (21, zop192, 1, 55), (24, zop176, 0, 0)]] := dQ_of _ _ (by decide +kernel)
theorem dJ7_copyOfRange_39247_0 : decode cJ7_copyOfRange_39247 0 = .ok (.iload_n 1, 1) := dTo2_80.1.1
theorem dJ7_copyOfRange_39247_1 : decode cJ7_copyOfRange_39247 1 = .ok (.ifCond .ne 9, 3) := dTo2_80.1.2.1
theorem dJ7_copyOfRange_39247_4 : decode cJ7_copyOfRange_39247 4 = .ok (.iload_n 2, 1) := dTo2_80.1.2.2.1
theorem dJ7_copyOfRange_39247_5 : decode cJ7_copyOfRange_39247 5 = .ok (.aload_n 0, 1) := dTo2_80.1.2.2.2.1
theorem dJ7_copyOfRange_39247_6 : decode cJ7_copyOfRange_39247 6 = .ok (.arraylength, 1) := dTo2_80.1.2.2.2.2.1
theorem dJ7_copyOfRange_39247_7 : decode cJ7_copyOfRange_39247 7 = .ok (.if_icmp .eq 10, 3) := dTo2_80.1.2.2.2.2.2.1
theorem dJ7_copyOfRange_39247_10 : decode cJ7_copyOfRange_39247 10 = .ok (.aload_n 0, 1) := dTo2_80.1.2.2.2.2.2.2.1
theorem dJ7_copyOfRange_39247_11 : decode cJ7_copyOfRange_39247 11 = .ok (.iload_n 1, 1) := dTo2_80.1.2.2.2.2.2.2.2.1
theorem dJ7_copyOfRange_39247_12 : decode cJ7_copyOfRange_39247 12 = .ok (.iload_n 2, 1) := dTo2_80.1.2.2.2.2.2.2.2.2.1
theorem dJ7_copyOfRange_39247_13 : decode cJ7_copyOfRange_39247 13 = .ok (.invokestatic 339, 3) := dTo2_80.1.2.2.2.2.2.2.2.2.2.1
theorem dJ7_copyOfRange_39247_16 : decode cJ7_copyOfRange_39247 16 = .ok (.areturn, 1) := dTo2_80.2.1.1
theorem dJ7_copyOfRange_39247_17 : decode cJ7_copyOfRange_39247 17 = .ok (.aload_n 0, 1) := dTo2_80.2.1.2.1
theorem dJ7_copyOfRange_39247_18 : decode cJ7_copyOfRange_39247 18 = .ok (.invokevirtual 310, 3) := dTo2_80.2.1.2.2.1
theorem dJ7_copyOfRange_39247_21 : decode cJ7_copyOfRange_39247 21 = .ok (.checkcast 311, 3) := dTo2_80.2.1.2.2.2.1
theorem dJ7_copyOfRange_39247_24 : decode cJ7_copyOfRange_39247 24 = .ok (.areturn, 1) := dTo2_80.2.1.2.2.2.2.1
theorem dJ7_copyOfRangeByte_39247_10 : decode cJ7_copyOfRangeByte_39247 10 = .ok (.newarray .byte, 2) := by decide +kernel
theorem dTo2_81 : dQ cJ7_copyOfRangeByte_39247 [[(0, zop27, 0, 0), (1, zop28, 0, 0), (2, zop184, 1, 87), (5, zop28, 0, 0), (6, zop27, 0, 0), (7, zop100, 0, 0), (8, zop62, 0, 0), (9, zop29, 0, 0), (12, zop58, 4, 0), (14, zop42, 0, 0)], [(15, zop27, 0, 0), (16, zop25, 4, 0), (18, zop3, 0, 0), (19, zop42, 0, 0), (20, zop190, 0, 0), (21, zop27, 0, 0), (22, zop100, 0, 0), (23, zop29, 0, 0), (24, zop184, 1, 48), (27, zop184, 0, 150)], [(30, zop25, 4, 0), (32, zop176, 0, 0)]] := dQ_of _ _ (by decide +kernel)
theorem dJ7_copyOfRangeByte_39247_0 : decode cJ7_copyOfRangeByte_39247 0 = .ok (.iload_n 1, 1) := dTo2_81.1.1
theorem dJ7_copyOfRangeByte_39247_1 : decode cJ7_copyOfRangeByte_39247 1 = .ok (.iload_n 2, 1) := dTo2_81.1.2.1
theorem dJ7_copyOfRangeByte_39247_2 : decode cJ7_copyOfRangeByte_39247 2 = .ok (.invokestatic 343, 3) := dTo2_81.1.2.2.1
theorem dJ7_copyOfRangeByte_39247_5 : decode cJ7_copyOfRangeByte_39247 5 = .ok (.iload_n 2, 1) := dTo2_81.1.2.2.2.1
theorem dJ7_copyOfRangeByte_39247_6 : decode cJ7_copyOfRangeByte_39247 6 = .ok (.iload_n 1, 1) := dTo2_81.1.2.2.2.2.1
theorem dJ7_copyOfRangeByte_39247_7 : decode cJ7_copyOfRangeByte_39247 7 = .ok (.isub, 1) := dTo2_81.1.2.2.2.2.2.1
theorem dJ7_copyOfRangeByte_39247_8 : decode cJ7_copyOfRangeByte_39247 8 = .ok (.istore_n 3, 1) := dTo2_81.1.2.2.2.2.2.2.1
theorem dJ7_copyOfRangeByte_39247_9 : decode cJ7_copyOfRangeByte_39247 9 = .ok (.iload_n 3, 1) := dTo2_81.1.2.2.2.2.2.2.2.1
theorem dJ7_copyOfRangeByte_39247_12 : decode cJ7_copyOfRangeByte_39247 12 = .ok (.astore 4, 2) := dTo2_81.1.2.2.2.2.2.2.2.2.1
theorem dJ7_copyOfRangeByte_39247_14 : decode cJ7_copyOfRangeByte_39247 14 = .ok (.aload_n 0, 1) := dTo2_81.1.2.2.2.2.2.2.2.2.2.1
theorem dJ7_copyOfRangeByte_39247_15 : decode cJ7_copyOfRangeByte_39247 15 = .ok (.iload_n 1, 1) := dTo2_81.2.1.1
theorem dJ7_copyOfRangeByte_39247_16 : decode cJ7_copyOfRangeByte_39247 16 = .ok (.aload 4, 2) := dTo2_81.2.1.2.1
theorem dJ7_copyOfRangeByte_39247_18 : decode cJ7_copyOfRangeByte_39247 18 = .ok (.iconst 0, 1) := dTo2_81.2.1.2.2.1
theorem dJ7_copyOfRangeByte_39247_19 : decode cJ7_copyOfRangeByte_39247 19 = .ok (.aload_n 0, 1) := dTo2_81.2.1.2.2.2.1
theorem dJ7_copyOfRangeByte_39247_20 : decode cJ7_copyOfRangeByte_39247 20 = .ok (.arraylength, 1) := dTo2_81.2.1.2.2.2.2.1
theorem dJ7_copyOfRangeByte_39247_21 : decode cJ7_copyOfRangeByte_39247 21 = .ok (.iload_n 1, 1) := dTo2_81.2.1.2.2.2.2.2.1
theorem dJ7_copyOfRangeByte_39247_22 : decode cJ7_copyOfRangeByte_39247 22 = .ok (.isub, 1) := dTo2_81.2.1.2.2.2.2.2.2.1
theorem dJ7_copyOfRangeByte_39247_23 : decode cJ7_copyOfRangeByte_39247 23 = .ok (.iload_n 3, 1) := dTo2_81.2.1.2.2.2.2.2.2.2.1
theorem dJ7_copyOfRangeByte_39247_24 : decode cJ7_copyOfRangeByte_39247 24 = .ok (.invokestatic 304, 3) := dTo2_81.2.1.2.2.2.2.2.2.2.2.1
theorem dJ7_copyOfRangeByte_39247_27 : decode cJ7_copyOfRangeByte_39247 27 = .ok (.invokestatic 150, 3) := dTo2_81.2.1.2.2.2.2.2.2.2.2.2.1
theorem dJ7_copyOfRangeByte_39247_30 : decode cJ7_copyOfRangeByte_39247 30 = .ok (.aload 4, 2) := dTo2_81.2.2.1.1
theorem dJ7_copyOfRangeByte_39247_32 : decode cJ7_copyOfRangeByte_39247 32 = .ok (.areturn, 1) := dTo2_81.2.2.1.2.1
theorem dTo2_82 : dQ cJ8_newLength_cabcc [[(0, zop26, 0, 0), (1, zop27, 0, 0), (2, zop28, 0, 0), (3, zop184, 0, 194), (6, zop96, 0, 0), (7, zop62, 0, 0), (8, zop3, 0, 0), (9, zop29, 0, 0), (10, zop162, 0, 11), (13, zop29, 0, 0)], [(14, zop18, 200, 0), (16, zop163, 0, 5), (19, zop29, 0, 0), (20, zop172, 0, 0), (21, zop26, 0, 0), (22, zop27, 0, 0), (23, zop184, 0, 201), (26, zop172, 0, 0)]] := dQ_of _ _ (by decide +kernel)
theorem dJ8_newLength_cabcc_0 : decode cJ8_newLength_cabcc 0 = .ok (.iload_n 0, 1) := dTo2_82.1.1
theorem dJ8_newLength_cabcc_1 : decode cJ8_newLength_cabcc 1 = .ok (.iload_n 1, 1) := dTo2_82.1.2.1
theorem dJ8_newLength_cabcc_2 : decode cJ8_newLength_cabcc 2 = .ok (.iload_n 2, 1) := dTo2_82.1.2.2.1
theorem dJ8_newLength_cabcc_3 : decode cJ8_newLength_cabcc 3 = .ok (.invokestatic 194, 3) := dTo2_82.1.2.2.2.1
theorem dJ8_newLength_cabcc_6 : decode cJ8_newLength_cabcc 6 = .ok (.iadd, 1) := dTo2_82.1.2.2.2.2.1
theorem dJ8_newLength_cabcc_7 : decode cJ8_newLength_cabcc 7 = .ok (.istore_n 3, 1) := dTo2_82.1.2.2.2.2.2.1
theorem dJ8_newLength_cabcc_8 : decode cJ8_newLength_cabcc 8 = .ok (.iconst 0, 1) := dTo2_82.1.2.2.2.2.2.2.1
theorem dJ8_newLength_cabcc_9 : decode cJ8_newLength_cabcc 9 = .ok (.iload_n 3, 1) := dTo2_82.1.2.2.2.2.2.2.2.1
theorem dJ8_newLength_cabcc_10 : decode cJ8_newLength_cabcc 10 = .ok (.if_icmp .ge 11, 3) := dTo2_82.1.2.2.2.2.2.2.2.2.1
theorem dJ8_newLength_cabcc_13 : decode cJ8_newLength_cabcc 13 = .ok (.iload_n 3, 1) := dTo2_82.1.2.2.2.2.2.2.2.2.2.1
theorem dJ8_newLength_cabcc_14 : decode cJ8_newLength_cabcc 14 = .ok (.ldc 200, 2) := dTo2_82.2.1.1
theorem dJ8_newLength_cabcc_16 : decode cJ8_newLength_cabcc 16 = .ok (.if_icmp .gt 5, 3) := dTo2_82.2.1.2.1
theorem dJ8_newLength_cabcc_19 : decode cJ8_newLength_cabcc 19 = .ok (.iload_n 3, 1) := dTo2_82.2.1.2.2.1
theorem dJ8_newLength_cabcc_20 : decode cJ8_newLength_cabcc 20 = .ok (.ireturn, 1) := dTo2_82.2.1.2.2.2.1
theorem dJ8_newLength_cabcc_21 : decode cJ8_newLength_cabcc 21 = .ok (.iload_n 0, 1) := dTo2_82.2.1.2.2.2.2.1
theorem dJ8_newLength_cabcc_22 : decode cJ8_newLength_cabcc 22 = .ok (.iload_n 1, 1) := dTo2_82.2.1.2.2.2.2.2.1
theorem dJ8_newLength_cabcc_23 : decode cJ8_newLength_cabcc 23 = .ok (.invokestatic 201, 3) := dTo2_82.2.1.2.2.2.2.2.2.1
theorem dJ8_newLength_cabcc_26 : decode cJ8_newLength_cabcc 26 = .ok (.ireturn, 1) := dTo2_82.2.1.2.2.2.2.2.2.2.1
theorem dTo2_83 : dQ cJ8_hugeLength_7cf53 [[(0, zop26, 0, 0), (1, zop27, 0, 0), (2, zop96, 0, 0), (3, zop61, 0, 0), (4, zop28, 0, 0), (5, zop156, 0, 44), (8, zop187, 0, 204), (11, zop89, 0, 0), (12, zop187, 0, 89), (15, zop89, 0, 0)], [(16, zop183, 0, 91), (19, zop18, 206, 0), (21, zop182, 0, 94), (24, zop26, 0, 0), (25, zop182, 0, 98), (28, zop18, 208, 0), (30, zop182, 0, 94), (33, zop27, 0, 0), (34, zop182, 0, 98), (37, zop18, 210, 0)], [(39, zop182, 0, 94), (42, zop182, 0, 101), (45, zop183, 0, 212), (48, zop191, 0, 0), (49, zop28, 0, 0), (50, zop18, 200, 0), (52, zop163, 0, 6), (55, zop18, 200, 0), (57, zop172, 0, 0), (58, zop28, 0, 0)], [(59, zop172, 0, 0)]] := dQ_of _ _ (by decide +kernel)
theorem dJ8_hugeLength_7cf53_0 : decode cJ8_hugeLength_7cf53 0 = .ok (.iload_n 0, 1) := dTo2_83.1.1
theorem dJ8_hugeLength_7cf53_1 : decode cJ8_hugeLength_7cf53 1 = .ok (.iload_n 1, 1) := dTo2_83.1.2.1
theorem dJ8_hugeLength_7cf53_2 : decode cJ8_hugeLength_7cf53 2 = .ok (.iadd, 1) := dTo2_83.1.2.2.1
theorem dJ8_hugeLength_7cf53_3 : decode cJ8_hugeLength_7cf53 3 = .ok (.istore_n 2, 1) := dTo2_83.1.2.2.2.1
theorem dJ8_hugeLength_7cf53_4 : decode cJ8_hugeLength_7cf53 4 = .ok (.iload_n 2, 1) := dTo2_83.1.2.2.2.2.1
theorem dJ8_hugeLength_7cf53_5 : decode cJ8_hugeLength_7cf53 5 = .ok (.ifCond .ge 44, 3) := dTo2_83.1.2.2.2.2.2.1
theorem dJ8_hugeLength_7cf53_8 : decode cJ8_hugeLength_7cf53 8 = .ok (.new 204, 3) := dTo2_83.1.2.2.2.2.2.2.1
theorem dJ8_hugeLength_7cf53_11 : decode cJ8_hugeLength_7cf53 11 = .ok (.dup, 1) := dTo2_83.1.2.2.2.2.2.2.2.1
theorem dJ8_hugeLength_7cf53_12 : decode cJ8_hugeLength_7cf53 12 = .ok (.new 89, 3) := dTo2_83.1.2.2.2.2.2.2.2.2.1
theorem dJ8_hugeLength_7cf53_15 : decode cJ8_hugeLength_7cf53 15 = .ok (.dup, 1) := dTo2_83.1.2.2.2.2.2.2.2.2.2.1
theorem dJ8_hugeLength_7cf53_16 : decode cJ8_hugeLength_7cf53 16 = .ok (.invokespecial 91, 3) := dTo2_83.2.1.1
theorem dJ8_hugeLength_7cf53_19 : decode cJ8_hugeLength_7cf53 19 = .ok (.ldc 206, 2) := dTo2_83.2.1.2.1
theorem dJ8_hugeLength_7cf53_21 : decode cJ8_hugeLength_7cf53 21 = .ok (.invokevirtual 94, 3) := dTo2_83.2.1.2.2.1
theorem dJ8_hugeLength_7cf53_24 : decode cJ8_hugeLength_7cf53 24 = .ok (.iload_n 0, 1) := dTo2_83.2.1.2.2.2.1
theorem dJ8_hugeLength_7cf53_25 : decode cJ8_hugeLength_7cf53 25 = .ok (.invokevirtual 98, 3) := dTo2_83.2.1.2.2.2.2.1
theorem dJ8_hugeLength_7cf53_28 : decode cJ8_hugeLength_7cf53 28 = .ok (.ldc 208, 2) := dTo2_83.2.1.2.2.2.2.2.1
theorem dJ8_hugeLength_7cf53_30 : decode cJ8_hugeLength_7cf53 30 = .ok (.invokevirtual 94, 3) := dTo2_83.2.1.2.2.2.2.2.2.1
theorem dJ8_hugeLength_7cf53_33 : decode cJ8_hugeLength_7cf53 33 = .ok (.iload_n 1, 1) := dTo2_83.2.1.2.2.2.2.2.2.2.1
theorem dJ8_hugeLength_7cf53_34 : decode cJ8_hugeLength_7cf53 34 = .ok (.invokevirtual 98, 3) := dTo2_83.2.1.2.2.2.2.2.2.2.2.1
theorem dJ8_hugeLength_7cf53_37 : decode cJ8_hugeLength_7cf53 37 = .ok (.ldc 210, 2) := dTo2_83.2.1.2.2.2.2.2.2.2.2.2.1
theorem dJ8_hugeLength_7cf53_39 : decode cJ8_hugeLength_7cf53 39 = .ok (.invokevirtual 94, 3) := dTo2_83.2.2.1.1
theorem dJ8_hugeLength_7cf53_42 : decode cJ8_hugeLength_7cf53 42 = .ok (.invokevirtual 101, 3) := dTo2_83.2.2.1.2.1
theorem dJ8_hugeLength_7cf53_45 : decode cJ8_hugeLength_7cf53 45 = .ok (.invokespecial 212, 3) := dTo2_83.2.2.1.2.2.1
theorem dJ8_hugeLength_7cf53_48 : decode cJ8_hugeLength_7cf53 48 = .ok (.athrow, 1) := dTo2_83.2.2.1.2.2.2.1
theorem dJ8_hugeLength_7cf53_49 : decode cJ8_hugeLength_7cf53 49 = .ok (.iload_n 2, 1) := dTo2_83.2.2.1.2.2.2.2.1
theorem dJ8_hugeLength_7cf53_50 : decode cJ8_hugeLength_7cf53 50 = .ok (.ldc 200, 2) := dTo2_83.2.2.1.2.2.2.2.2.1
theorem dJ8_hugeLength_7cf53_52 : decode cJ8_hugeLength_7cf53 52 = .ok (.if_icmp .gt 6, 3) := dTo2_83.2.2.1.2.2.2.2.2.2.1
theorem dJ8_hugeLength_7cf53_55 : decode cJ8_hugeLength_7cf53 55 = .ok (.ldc 200, 2) := dTo2_83.2.2.1.2.2.2.2.2.2.2.1
theorem dJ8_hugeLength_7cf53_57 : decode cJ8_hugeLength_7cf53 57 = .ok (.ireturn, 1) := dTo2_83.2.2.1.2.2.2.2.2.2.2.2.1
theorem dJ8_hugeLength_7cf53_58 : decode cJ8_hugeLength_7cf53 58 = .ok (.iload_n 2, 1) := dTo2_83.2.2.1.2.2.2.2.2.2.2.2.2.1
theorem dJ8_hugeLength_7cf53_59 : decode cJ8_hugeLength_7cf53 59 = .ok (.ireturn, 1) := dTo2_83.2.2.2.1.1
theorem dTo2_84 : dQ cJ3_checkIndex_8e157 [[(0, zop26, 0, 0), (1, zop155, 0, 8), (4, zop26, 0, 0), (5, zop27, 0, 0), (6, zop161, 0, 10), (9, zop44, 0, 0), (10, zop26, 0, 0), (11, zop27, 0, 0), (12, zop184, 0, 95), (15, zop191, 0, 0)], [(16, zop26, 0, 0), (17, zop172, 0, 0)]] := dQ_of _ _ (by decide +kernel)
theorem dJ3_checkIndex_8e157_0 : decode cJ3_checkIndex_8e157 0 = .ok (.iload_n 0, 1) := dTo2_84.1.1
theorem dJ3_checkIndex_8e157_1 : decode cJ3_checkIndex_8e157 1 = .ok (.ifCond .lt 8, 3) := dTo2_84.1.2.1
theorem dJ3_checkIndex_8e157_4 : decode cJ3_checkIndex_8e157 4 = .ok (.iload_n 0, 1) := dTo2_84.1.2.2.1
theorem dJ3_checkIndex_8e157_5 : decode cJ3_checkIndex_8e157 5 = .ok (.iload_n 1, 1) := dTo2_84.1.2.2.2.1
theorem dJ3_checkIndex_8e157_6 : decode cJ3_checkIndex_8e157 6 = .ok (.if_icmp .lt 10, 3) := dTo2_84.1.2.2.2.2.1
theorem dJ3_checkIndex_8e157_9 : decode cJ3_checkIndex_8e157 9 = .ok (.aload_n 2, 1) := dTo2_84.1.2.2.2.2.2.1
theorem dJ3_checkIndex_8e157_10 : decode cJ3_checkIndex_8e157 10 = .ok (.iload_n 0, 1) := dTo2_84.1.2.2.2.2.2.2.1
theorem dJ3_checkIndex_8e157_11 : decode cJ3_checkIndex_8e157 11 = .ok (.iload_n 1, 1) := dTo2_84.1.2.2.2.2.2.2.2.1
theorem dJ3_checkIndex_8e157_12 : decode cJ3_checkIndex_8e157 12 = .ok (.invokestatic 95, 3) := dTo2_84.1.2.2.2.2.2.2.2.2.1
theorem dJ3_checkIndex_8e157_15 : decode cJ3_checkIndex_8e157 15 = .ok (.athrow, 1) := dTo2_84.1.2.2.2.2.2.2.2.2.2.1
theorem dJ3_checkIndex_8e157_16 : decode cJ3_checkIndex_8e157 16 = .ok (.iload_n 0, 1) := dTo2_84.2.1.1
theorem dJ3_checkIndex_8e157_17 : decode cJ3_checkIndex_8e157 17 = .ok (.ireturn, 1) := dTo2_84.2.1.2.1
theorem dTo2_85 : dQ cJ3_checkFromToIndex_8c36e [[(0, zop26, 0, 0), (1, zop155, 0, 13), (4, zop26, 0, 0), (5, zop27, 0, 0), (6, zop163, 0, 8), (9, zop27, 0, 0), (10, zop28, 0, 0), (11, zop164, 0, 11), (14, zop45, 0, 0), (15, zop26, 0, 0)], [(16, zop27, 0, 0), (17, zop28, 0, 0), (18, zop184, 0, 99), (21, zop191, 0, 0), (22, zop26, 0, 0), (23, zop172, 0, 0)]] := dQ_of _ _ (by decide +kernel)
theorem dJ3_checkFromToIndex_8c36e_0 : decode cJ3_checkFromToIndex_8c36e 0 = .ok (.iload_n 0, 1) := dTo2_85.1.1
theorem dJ3_checkFromToIndex_8c36e_1 : decode cJ3_checkFromToIndex_8c36e 1 = .ok (.ifCond .lt 13, 3) := dTo2_85.1.2.1
theorem dJ3_checkFromToIndex_8c36e_4 : decode cJ3_checkFromToIndex_8c36e 4 = .ok (.iload_n 0, 1) := dTo2_85.1.2.2.1
theorem dJ3_checkFromToIndex_8c36e_5 : decode cJ3_checkFromToIndex_8c36e 5 = .ok (.iload_n 1, 1) := dTo2_85.1.2.2.2.1
theorem dJ3_checkFromToIndex_8c36e_6 : decode cJ3_checkFromToIndex_8c36e 6 = .ok (.if_icmp .gt 8, 3) := dTo2_85.1.2.2.2.2.1
theorem dJ3_checkFromToIndex_8c36e_9 : decode cJ3_checkFromToIndex_8c36e 9 = .ok (.iload_n 1, 1) := dTo2_85.1.2.2.2.2.2.1
theorem dJ3_checkFromToIndex_8c36e_10 : decode cJ3_checkFromToIndex_8c36e 10 = .ok (.iload_n 2, 1) := dTo2_85.1.2.2.2.2.2.2.1
theorem dJ3_checkFromToIndex_8c36e_11 : decode cJ3_checkFromToIndex_8c36e 11 = .ok (.if_icmp .le 11, 3) := dTo2_85.1.2.2.2.2.2.2.2.1
theorem dJ3_checkFromToIndex_8c36e_14 : decode cJ3_checkFromToIndex_8c36e 14 = .ok (.aload_n 3, 1) := dTo2_85.1.2.2.2.2.2.2.2.2.1
theorem dJ3_checkFromToIndex_8c36e_15 : decode cJ3_checkFromToIndex_8c36e 15 = .ok (.iload_n 0, 1) := dTo2_85.1.2.2.2.2.2.2.2.2.2.1
theorem dJ3_checkFromToIndex_8c36e_16 : decode cJ3_checkFromToIndex_8c36e 16 = .ok (.iload_n 1, 1) := dTo2_85.2.1.1
theorem dJ3_checkFromToIndex_8c36e_17 : decode cJ3_checkFromToIndex_8c36e 17 = .ok (.iload_n 2, 1) := dTo2_85.2.1.2.1
theorem dJ3_checkFromToIndex_8c36e_18 : decode cJ3_checkFromToIndex_8c36e 18 = .ok (.invokestatic 99, 3) := dTo2_85.2.1.2.2.1
theorem dJ3_checkFromToIndex_8c36e_21 : decode cJ3_checkFromToIndex_8c36e 21 = .ok (.athrow, 1) := dTo2_85.2.1.2.2.2.1
theorem dJ3_checkFromToIndex_8c36e_22 : decode cJ3_checkFromToIndex_8c36e 22 = .ok (.iload_n 0, 1) := dTo2_85.2.1.2.2.2.2.1
theorem dJ3_checkFromToIndex_8c36e_23 : decode cJ3_checkFromToIndex_8c36e 23 = .ok (.ireturn, 1) := dTo2_85.2.1.2.2.2.2.2.1
theorem dTo2_86 : dQ cJ3_checkFromIndexSize_8c36e [[(0, zop28, 0, 0), (1, zop26, 0, 0), (2, zop128, 0, 0), (3, zop27, 0, 0), (4, zop128, 0, 0), (5, zop155, 0, 10), (8, zop27, 0, 0), (9, zop28, 0, 0), (10, zop26, 0, 0), (11, zop100, 0, 0)], [(12, zop164, 0, 11), (15, zop45, 0, 0), (16, zop26, 0, 0), (17, zop27, 0, 0), (18, zop28, 0, 0), (19, zop184, 0, 103), (22, zop191, 0, 0), (23, zop26, 0, 0), (24, zop172, 0, 0)]] := dQ_of _ _ (by decide +kernel)
theorem dJ3_checkFromIndexSize_8c36e_0 : decode cJ3_checkFromIndexSize_8c36e 0 = .ok (.iload_n 2, 1) := dTo2_86.1.1
theorem dJ3_checkFromIndexSize_8c36e_1 : decode cJ3_checkFromIndexSize_8c36e 1 = .ok (.iload_n 0, 1) := dTo2_86.1.2.1
theorem dJ3_checkFromIndexSize_8c36e_2 : decode cJ3_checkFromIndexSize_8c36e 2 = .ok (.ior, 1) := dTo2_86.1.2.2.1
theorem dJ3_checkFromIndexSize_8c36e_3 : decode cJ3_checkFromIndexSize_8c36e 3 = .ok (.iload_n 1, 1) := dTo2_86.1.2.2.2.1
theorem dJ3_checkFromIndexSize_8c36e_4 : decode cJ3_checkFromIndexSize_8c36e 4 = .ok (.ior, 1) := dTo2_86.1.2.2.2.2.1
theorem dJ3_checkFromIndexSize_8c36e_5 : decode cJ3_checkFromIndexSize_8c36e 5 = .ok (.ifCond .lt 10, 3) := dTo2_86.1.2.2.2.2.2.1
theorem dJ3_checkFromIndexSize_8c36e_8 : decode cJ3_checkFromIndexSize_8c36e 8 = .ok (.iload_n 1, 1) := dTo2_86.1.2.2.2.2.2.2.1
theorem dJ3_checkFromIndexSize_8c36e_9 : decode cJ3_checkFromIndexSize_8c36e 9 = .ok (.iload_n 2, 1) := dTo2_86.1.2.2.2.2.2.2.2.1
theorem dJ3_checkFromIndexSize_8c36e_10 : decode cJ3_checkFromIndexSize_8c36e 10 = .ok (.iload_n 0, 1) := dTo2_86.1.2.2.2.2.2.2.2.2.1
theorem dJ3_checkFromIndexSize_8c36e_11 : decode cJ3_checkFromIndexSize_8c36e 11 = .ok (.isub, 1) := dTo2_86.1.2.2.2.2.2.2.2.2.2.1
theorem dJ3_checkFromIndexSize_8c36e_12 : decode cJ3_checkFromIndexSize_8c36e 12 = .ok (.if_icmp .le 11, 3) := dTo2_86.2.1.1
theorem dJ3_checkFromIndexSize_8c36e_15 : decode cJ3_checkFromIndexSize_8c36e 15 = .ok (.aload_n 3, 1) := dTo2_86.2.1.2.1
theorem dJ3_checkFromIndexSize_8c36e_16 : decode cJ3_checkFromIndexSize_8c36e 16 = .ok (.iload_n 0, 1) := dTo2_86.2.1.2.2.1
theorem dJ3_checkFromIndexSize_8c36e_17 : decode cJ3_checkFromIndexSize_8c36e 17 = .ok (.iload_n 1, 1) := dTo2_86.2.1.2.2.2.1
theorem dJ3_checkFromIndexSize_8c36e_18 : decode cJ3_checkFromIndexSize_8c36e 18 = .ok (.iload_n 2, 1) := dTo2_86.2.1.2.2.2.2.1
theorem dJ3_checkFromIndexSize_8c36e_19 : decode cJ3_checkFromIndexSize_8c36e 19 = .ok (.invokestatic 103, 3) := dTo2_86.2.1.2.2.2.2.2.1
theorem dJ3_checkFromIndexSize_8c36e_22 : decode cJ3_checkFromIndexSize_8c36e 22 = .ok (.athrow, 1) := dTo2_86.2.1.2.2.2.2.2.2.1
theorem dJ3_checkFromIndexSize_8c36e_23 : decode cJ3_checkFromIndexSize_8c36e 23 = .ok (.iload_n 0, 1) := dTo2_86.2.1.2.2.2.2.2.2.2.1
theorem dJ3_checkFromIndexSize_8c36e_24 : decode cJ3_checkFromIndexSize_8c36e 24 = .ok (.ireturn, 1) := dTo2_86.2.1.2.2.2.2.2.2.2.2.1
theorem dTo2_87 : dQ cL_quarter [[(0, zop45, 0, 0), (1, zop42, 0, 0), (2, zop27, 0, 0), (3, zop28, 0, 0), (4, zop182, 0, 7), (7, zop133, 0, 0), (8, zop181, 0, 13), (11, zop167, 0, 11), (14, zop58, 4, 0), (16, zop4, 0, 0)], [(17, zop172, 0, 0), (18, zop58, 4, 0), (20, zop5, 0, 0), (21, zop172, 0, 0), (22, zop3, 0, 0), (23, zop172, 0, 0)]] := dQ_of _ _ (by decide +kernel)
theorem dL_quarter_0 : decode cL_quarter 0 = .ok (.aload_n 3, 1) := dTo2_87.1.1
theorem dL_quarter_1 : decode cL_quarter 1 = .ok (.aload_n 0, 1) := dTo2_87.1.2.1
theorem dL_quarter_2 : decode cL_quarter 2 = .ok (.iload_n 1, 1) := dTo2_87.1.2.2.1
theorem dL_quarter_3 : decode cL_quarter 3 = .ok (.iload_n 2, 1) := dTo2_87.1.2.2.2.1
theorem dL_quarter_4 : decode cL_quarter 4 = .ok (.invokevirtual 7, 3) := dTo2_87.1.2.2.2.2.1
theorem dL_quarter_7 : decode cL_quarter 7 = .ok (.i2l, 1) := dTo2_87.1.2.2.2.2.2.1
theorem dL_quarter_8 : decode cL_quarter 8 = .ok (.putfield 13, 3) := dTo2_87.1.2.2.2.2.2.2.1
theorem dL_quarter_11 : decode cL_quarter 11 = .ok (.goto 11, 3) := dTo2_87.1.2.2.2.2.2.2.2.1
theorem dL_quarter_14 : decode cL_quarter 14 = .ok (.astore 4, 2) := dTo2_87.1.2.2.2.2.2.2.2.2.1
theorem dL_quarter_16 : decode cL_quarter 16 = .ok (.iconst 1, 1) := dTo2_87.1.2.2.2.2.2.2.2.2.2.1
theorem dL_quarter_17 : decode cL_quarter 17 = .ok (.ireturn, 1) := dTo2_87.2.1.1
theorem dL_quarter_18 : decode cL_quarter 18 = .ok (.astore 4, 2) := dTo2_87.2.1.2.1
theorem dL_quarter_20 : decode cL_quarter 20 = .ok (.iconst 2, 1) := dTo2_87.2.1.2.2.1
theorem dL_quarter_21 : decode cL_quarter 21 = .ok (.ireturn, 1) := dTo2_87.2.1.2.2.2.1
theorem dL_quarter_22 : decode cL_quarter 22 = .ok (.iconst 0, 1) := dTo2_87.2.1.2.2.2.2.1
theorem dL_quarter_23 : decode cL_quarter 23 = .ok (.ireturn, 1) := dTo2_87.2.1.2.2.2.2.2.1
theorem dTo2_88 : dQ cL_zero [[(0, zop45, 0, 0), (1, zop42, 0, 0), (2, zop27, 0, 0), (3, zop28, 0, 0), (4, zop182, 0, 23), (7, zop133, 0, 0), (8, zop181, 0, 13), (11, zop167, 0, 7), (14, zop58, 4, 0), (16, zop4, 0, 0)], [(17, zop172, 0, 0), (18, zop3, 0, 0), (19, zop172, 0, 0)]] := dQ_of _ _ (by decide +kernel)
theorem dL_zero_0 : decode cL_zero 0 = .ok (.aload_n 3, 1) := dTo2_88.1.1
theorem dL_zero_1 : decode cL_zero 1 = .ok (.aload_n 0, 1) := dTo2_88.1.2.1
theorem dL_zero_2 : decode cL_zero 2 = .ok (.iload_n 1, 1) := dTo2_88.1.2.2.1
theorem dL_zero_3 : decode cL_zero 3 = .ok (.iload_n 2, 1) := dTo2_88.1.2.2.2.1
theorem dL_zero_4 : decode cL_zero 4 = .ok (.invokevirtual 23, 3) := dTo2_88.1.2.2.2.2.1
theorem dL_zero_7 : decode cL_zero 7 = .ok (.i2l, 1) := dTo2_88.1.2.2.2.2.2.1
theorem dL_zero_8 : decode cL_zero 8 = .ok (.putfield 13, 3) := dTo2_88.1.2.2.2.2.2.2.1
theorem dL_zero_11 : decode cL_zero 11 = .ok (.goto 7, 3) := dTo2_88.1.2.2.2.2.2.2.2.1
theorem dL_zero_14 : decode cL_zero 14 = .ok (.astore 4, 2) := dTo2_88.1.2.2.2.2.2.2.2.2.1
theorem dL_zero_16 : decode cL_zero 16 = .ok (.iconst 1, 1) := dTo2_88.1.2.2.2.2.2.2.2.2.2.1
theorem dL_zero_17 : decode cL_zero 17 = .ok (.ireturn, 1) := dTo2_88.2.1.1
theorem dL_zero_18 : decode cL_zero 18 = .ok (.iconst 0, 1) := dTo2_88.2.1.2.1
theorem dL_zero_19 : decode cL_zero 19 = .ok (.ireturn, 1) := dTo2_88.2.1.2.2.1
theorem dTo2_89 : dQ cL_endless [[(0, zop45, 0, 0), (1, zop42, 0, 0), (2, zop27, 0, 0), (3, zop28, 0, 0), (4, zop182, 0, 27), (7, zop133, 0, 0), (8, zop181, 0, 13), (11, zop167, 0, 7), (14, zop58, 4, 0), (16, zop4, 0, 0)], [(17, zop172, 0, 0), (18, zop3, 0, 0), (19, zop172, 0, 0)]] := dQ_of _ _ (by decide +kernel)
theorem dL_endless_0 : decode cL_endless 0 = .ok (.aload_n 3, 1) := dTo2_89.1.1
theorem dL_endless_1 : decode cL_endless 1 = .ok (.aload_n 0, 1) := dTo2_89.1.2.1
theorem dL_endless_2 : decode cL_endless 2 = .ok (.iload_n 1, 1) := dTo2_89.1.2.2.1
theorem dL_endless_3 : decode cL_endless 3 = .ok (.iload_n 2, 1) := dTo2_89.1.2.2.2.1
theorem dL_endless_4 : decode cL_endless 4 = .ok (.invokevirtual 27, 3) := dTo2_89.1.2.2.2.2.1
theorem dL_endless_7 : decode cL_endless 7 = .ok (.i2l, 1) := dTo2_89.1.2.2.2.2.2.1
theorem dL_endless_8 : decode cL_endless 8 = .ok (.putfield 13, 3) := dTo2_89.1.2.2.2.2.2.2.1
theorem dL_endless_11 : decode cL_endless 11 = .ok (.goto 7, 3) := dTo2_89.1.2.2.2.2.2.2.2.1
theorem dL_endless_14 : decode cL_endless 14 = .ok (.astore 4, 2) := dTo2_89.1.2.2.2.2.2.2.2.2.1
theorem dL_endless_16 : decode cL_endless 16 = .ok (.iconst 1, 1) := dTo2_89.1.2.2.2.2.2.2.2.2.2.1
theorem dL_endless_17 : decode cL_endless 17 = .ok (.ireturn, 1) := dTo2_89.2.1.1
theorem dL_endless_18 : decode cL_endless 18 = .ok (.iconst 0, 1) := dTo2_89.2.1.2.1
theorem dL_endless_19 : decode cL_endless 19 = .ok (.ireturn, 1) := dTo2_89.2.1.2.2.1
theorem dTo2_90 : dQ cL_row [[(0, zop45, 0, 0), (1, zop42, 0, 0), (2, zop27, 0, 0), (3, zop28, 0, 0), (4, zop182, 0, 30), (7, zop133, 0, 0), (8, zop181, 0, 13), (11, zop167, 0, 7), (14, zop58, 4, 0), (16, zop4, 0, 0)], [(17, zop172, 0, 0), (18, zop3, 0, 0), (19, zop172, 0, 0)]] := dQ_of _ _ (by decide +kernel)
theorem dL_row_0 : decode cL_row 0 = .ok (.aload_n 3, 1) := dTo2_90.1.1
theorem dL_row_1 : decode cL_row 1 = .ok (.aload_n 0, 1) := dTo2_90.1.2.1
theorem dL_row_2 : decode cL_row 2 = .ok (.iload_n 1, 1) := dTo2_90.1.2.2.1
theorem dL_row_3 : decode cL_row 3 = .ok (.iload_n 2, 1) := dTo2_90.1.2.2.2.1
theorem dL_row_4 : decode cL_row 4 = .ok (.invokevirtual 30, 3) := dTo2_90.1.2.2.2.2.1
theorem dL_row_7 : decode cL_row 7 = .ok (.i2l, 1) := dTo2_90.1.2.2.2.2.2.1
theorem dL_row_8 : decode cL_row 8 = .ok (.putfield 13, 3) := dTo2_90.1.2.2.2.2.2.2.1
theorem dL_row_11 : decode cL_row 11 = .ok (.goto 7, 3) := dTo2_90.1.2.2.2.2.2.2.2.1
theorem dL_row_14 : decode cL_row 14 = .ok (.astore 4, 2) := dTo2_90.1.2.2.2.2.2.2.2.2.1
theorem dL_row_16 : decode cL_row 16 = .ok (.iconst 1, 1) := dTo2_90.1.2.2.2.2.2.2.2.2.2.1
theorem dL_row_17 : decode cL_row 17 = .ok (.ireturn, 1) := dTo2_90.2.1.1
theorem dL_row_18 : decode cL_row 18 = .ok (.iconst 0, 1) := dTo2_90.2.1.2.1
theorem dL_row_19 : decode cL_row 19 = .ok (.ireturn, 1) := dTo2_90.2.1.2.2.1
theorem dTo2_91 : dQ cL_copy [[(0, zop45, 0, 0), (1, zop42, 0, 0), (2, zop27, 0, 0), (3, zop28, 0, 0), (4, zop182, 0, 33), (7, zop133, 0, 0), (8, zop181, 0, 13), (11, zop167, 0, 7), (14, zop58, 4, 0), (16, zop4, 0, 0)], [(17, zop172, 0, 0), (18, zop3, 0, 0), (19, zop172, 0, 0)]] := dQ_of _ _ (by decide +kernel)
theorem dL_copy_0 : decode cL_copy 0 = .ok (.aload_n 3, 1) := dTo2_91.1.1
theorem dL_copy_1 : decode cL_copy 1 = .ok (.aload_n 0, 1) := dTo2_91.1.2.1
theorem dL_copy_2 : decode cL_copy 2 = .ok (.iload_n 1, 1) := dTo2_91.1.2.2.1
theorem dL_copy_3 : decode cL_copy 3 = .ok (.iload_n 2, 1) := dTo2_91.1.2.2.2.1
theorem dL_copy_4 : decode cL_copy 4 = .ok (.invokevirtual 33, 3) := dTo2_91.1.2.2.2.2.1
theorem dL_copy_7 : decode cL_copy 7 = .ok (.i2l, 1) := dTo2_91.1.2.2.2.2.2.1
theorem dL_copy_8 : decode cL_copy 8 = .ok (.putfield 13, 3) := dTo2_91.1.2.2.2.2.2.2.1
theorem dL_copy_11 : decode cL_copy 11 = .ok (.goto 7, 3) := dTo2_91.1.2.2.2.2.2.2.2.1
theorem dL_copy_14 : decode cL_copy 14 = .ok (.astore 4, 2) := dTo2_91.1.2.2.2.2.2.2.2.2.1
theorem dL_copy_16 : decode cL_copy 16 = .ok (.iconst 1, 1) := dTo2_91.1.2.2.2.2.2.2.2.2.2.1
theorem dL_copy_17 : decode cL_copy 17 = .ok (.ireturn, 1) := dTo2_91.2.1.1
theorem dL_copy_18 : decode cL_copy 18 = .ok (.iconst 0, 1) := dTo2_91.2.1.2.1
theorem dL_copy_19 : decode cL_copy 19 = .ok (.ireturn, 1) := dTo2_91.2.1.2.2.1
theorem dTo2_92 : dQ cL_swap [[(0, zop45, 0, 0), (1, zop42, 0, 0), (2, zop27, 0, 0), (3, zop28, 0, 0), (4, zop182, 0, 36), (7, zop133, 0, 0), (8, zop181, 0, 13), (11, zop167, 0, 7), (14, zop58, 4, 0), (16, zop4, 0, 0)], [(17, zop172, 0, 0), (18, zop3, 0, 0), (19, zop172, 0, 0)]] := dQ_of _ _ (by decide +kernel)
theorem dL_swap_0 : decode cL_swap 0 = .ok (.aload_n 3, 1) := dTo2_92.1.1
theorem dL_swap_1 : decode cL_swap 1 = .ok (.aload_n 0, 1) := dTo2_92.1.2.1
theorem dL_swap_2 : decode cL_swap 2 = .ok (.iload_n 1, 1) := dTo2_92.1.2.2.1
theorem dL_swap_3 : decode cL_swap 3 = .ok (.iload_n 2, 1) := dTo2_92.1.2.2.2.1
theorem dL_swap_4 : decode cL_swap 4 = .ok (.invokevirtual 36, 3) := dTo2_92.1.2.2.2.2.1
theorem dL_swap_7 : decode cL_swap 7 = .ok (.i2l, 1) := dTo2_92.1.2.2.2.2.2.1
theorem dL_swap_8 : decode cL_swap 8 = .ok (.putfield 13, 3) := dTo2_92.1.2.2.2.2.2.2.1
theorem dL_swap_11 : decode cL_swap 11 = .ok (.goto 7, 3) := dTo2_92.1.2.2.2.2.2.2.2.1
theorem dL_swap_14 : decode cL_swap 14 = .ok (.astore 4, 2) := dTo2_92.1.2.2.2.2.2.2.2.2.1
theorem dL_swap_16 : decode cL_swap 16 = .ok (.iconst 1, 1) := dTo2_92.1.2.2.2.2.2.2.2.2.2.1
theorem dL_swap_17 : decode cL_swap 17 = .ok (.ireturn, 1) := dTo2_92.2.1.1
theorem dL_swap_18 : decode cL_swap 18 = .ok (.iconst 0, 1) := dTo2_92.2.1.2.1
theorem dL_swap_19 : decode cL_swap 19 = .ok (.ireturn, 1) := dTo2_92.2.1.2.2.1
theorem dTo2_93 : dQ cL_step [[(0, zop45, 0, 0), (1, zop42, 0, 0), (2, zop27, 0, 0), (3, zop28, 0, 0), (4, zop182, 0, 39), (7, zop133, 0, 0), (8, zop181, 0, 13), (11, zop167, 0, 11), (14, zop58, 4, 0), (16, zop4, 0, 0)], [(17, zop172, 0, 0), (18, zop58, 4, 0), (20, zop5, 0, 0), (21, zop172, 0, 0), (22, zop3, 0, 0), (23, zop172, 0, 0)]] := dQ_of _ _ (by decide +kernel)
theorem dL_step_0 : decode cL_step 0 = .ok (.aload_n 3, 1) := dTo2_93.1.1
theorem dL_step_1 : decode cL_step 1 = .ok (.aload_n 0, 1) := dTo2_93.1.2.1
theorem dL_step_2 : decode cL_step 2 = .ok (.iload_n 1, 1) := dTo2_93.1.2.2.1
theorem dL_step_3 : decode cL_step 3 = .ok (.iload_n 2, 1) := dTo2_93.1.2.2.2.1
theorem dL_step_4 : decode cL_step 4 = .ok (.invokevirtual 39, 3) := dTo2_93.1.2.2.2.2.1
theorem dL_step_7 : decode cL_step 7 = .ok (.i2l, 1) := dTo2_93.1.2.2.2.2.2.1
theorem dL_step_8 : decode cL_step 8 = .ok (.putfield 13, 3) := dTo2_93.1.2.2.2.2.2.2.1
theorem dL_step_11 : decode cL_step 11 = .ok (.goto 11, 3) := dTo2_93.1.2.2.2.2.2.2.2.1
theorem dL_step_14 : decode cL_step 14 = .ok (.astore 4, 2) := dTo2_93.1.2.2.2.2.2.2.2.2.1
theorem dL_step_16 : decode cL_step 16 = .ok (.iconst 1, 1) := dTo2_93.1.2.2.2.2.2.2.2.2.2.1
theorem dL_step_17 : decode cL_step 17 = .ok (.ireturn, 1) := dTo2_93.2.1.1
theorem dL_step_18 : decode cL_step 18 = .ok (.astore 4, 2) := dTo2_93.2.1.2.1
theorem dL_step_20 : decode cL_step 20 = .ok (.iconst 2, 1) := dTo2_93.2.1.2.2.1
theorem dL_step_21 : decode cL_step 21 = .ok (.ireturn, 1) := dTo2_93.2.1.2.2.2.1
theorem dL_step_22 : decode cL_step 22 = .ok (.iconst 0, 1) := dTo2_93.2.1.2.2.2.2.1
theorem dL_step_23 : decode cL_step 23 = .ok (.ireturn, 1) := dTo2_93.2.1.2.2.2.2.2.1
theorem dTo2_94 : dQ cL_turn [[(0, zop44, 0, 0), (1, zop42, 0, 0), (2, zop27, 0, 0), (3, zop182, 0, 42), (6, zop133, 0, 0), (7, zop181, 0, 13), (10, zop167, 0, 6), (13, zop78, 0, 0), (14, zop4, 0, 0), (15, zop172, 0, 0)], [(16, zop3, 0, 0), (17, zop172, 0, 0)]] := dQ_of _ _ (by decide +kernel)
theorem dL_turn_0 : decode cL_turn 0 = .ok (.aload_n 2, 1) := dTo2_94.1.1
theorem dL_turn_1 : decode cL_turn 1 = .ok (.aload_n 0, 1) := dTo2_94.1.2.1
theorem dL_turn_2 : decode cL_turn 2 = .ok (.iload_n 1, 1) := dTo2_94.1.2.2.1
theorem dL_turn_3 : decode cL_turn 3 = .ok (.invokevirtual 42, 3) := dTo2_94.1.2.2.2.1
theorem dL_turn_6 : decode cL_turn 6 = .ok (.i2l, 1) := dTo2_94.1.2.2.2.2.1
theorem dL_turn_7 : decode cL_turn 7 = .ok (.putfield 13, 3) := dTo2_94.1.2.2.2.2.2.1
theorem dL_turn_10 : decode cL_turn 10 = .ok (.goto 6, 3) := dTo2_94.1.2.2.2.2.2.2.1
theorem dL_turn_13 : decode cL_turn 13 = .ok (.astore_n 3, 1) := dTo2_94.1.2.2.2.2.2.2.2.1
theorem dL_turn_14 : decode cL_turn 14 = .ok (.iconst 1, 1) := dTo2_94.1.2.2.2.2.2.2.2.2.1
theorem dL_turn_15 : decode cL_turn 15 = .ok (.ireturn, 1) := dTo2_94.1.2.2.2.2.2.2.2.2.2.1
theorem dL_turn_16 : decode cL_turn 16 = .ok (.iconst 0, 1) := dTo2_94.2.1.1
theorem dL_turn_17 : decode cL_turn 17 = .ok (.ireturn, 1) := dTo2_94.2.1.2.1
theorem dTo2_95 : dQ cL_power [[(0, zop45, 0, 0), (1, zop42, 0, 0), (2, zop27, 0, 0), (3, zop28, 0, 0), (4, zop182, 0, 46), (7, zop133, 0, 0), (8, zop181, 0, 13), (11, zop167, 0, 7), (14, zop58, 4, 0), (16, zop4, 0, 0)], [(17, zop172, 0, 0), (18, zop3, 0, 0), (19, zop172, 0, 0)]] := dQ_of _ _ (by decide +kernel)
theorem dL_power_0 : decode cL_power 0 = .ok (.aload_n 3, 1) := dTo2_95.1.1
theorem dL_power_1 : decode cL_power 1 = .ok (.aload_n 0, 1) := dTo2_95.1.2.1
theorem dL_power_2 : decode cL_power 2 = .ok (.iload_n 1, 1) := dTo2_95.1.2.2.1
theorem dL_power_3 : decode cL_power 3 = .ok (.iload_n 2, 1) := dTo2_95.1.2.2.2.1
theorem dL_power_4 : decode cL_power 4 = .ok (.invokevirtual 46, 3) := dTo2_95.1.2.2.2.2.1
theorem dL_power_7 : decode cL_power 7 = .ok (.i2l, 1) := dTo2_95.1.2.2.2.2.2.1
theorem dL_power_8 : decode cL_power 8 = .ok (.putfield 13, 3) := dTo2_95.1.2.2.2.2.2.2.1
theorem dL_power_11 : decode cL_power 11 = .ok (.goto 7, 3) := dTo2_95.1.2.2.2.2.2.2.2.1
theorem dL_power_14 : decode cL_power 14 = .ok (.astore 4, 2) := dTo2_95.1.2.2.2.2.2.2.2.2.1
theorem dL_power_16 : decode cL_power 16 = .ok (.iconst 1, 1) := dTo2_95.1.2.2.2.2.2.2.2.2.2.1
theorem dL_power_17 : decode cL_power 17 = .ok (.ireturn, 1) := dTo2_95.2.1.1
theorem dL_power_18 : decode cL_power 18 = .ok (.iconst 0, 1) := dTo2_95.2.1.2.1
theorem dL_power_19 : decode cL_power 19 = .ok (.ireturn, 1) := dTo2_95.2.1.2.2.1
theorem dTo2_96 : dQ cL_lessen [[(0, zop45, 0, 0), (1, zop42, 0, 0), (2, zop27, 0, 0), (3, zop28, 0, 0), (4, zop182, 0, 49), (7, zop133, 0, 0), (8, zop181, 0, 13), (11, zop167, 0, 7), (14, zop58, 4, 0), (16, zop4, 0, 0)], [(17, zop172, 0, 0), (18, zop3, 0, 0), (19, zop172, 0, 0)]] := dQ_of _ _ (by decide +kernel)
theorem dL_lessen_0 : decode cL_lessen 0 = .ok (.aload_n 3, 1) := dTo2_96.1.1
theorem dL_lessen_1 : decode cL_lessen 1 = .ok (.aload_n 0, 1) := dTo2_96.1.2.1
theorem dL_lessen_2 : decode cL_lessen 2 = .ok (.iload_n 1, 1) := dTo2_96.1.2.2.1
theorem dL_lessen_3 : decode cL_lessen 3 = .ok (.iload_n 2, 1) := dTo2_96.1.2.2.2.1
theorem dL_lessen_4 : decode cL_lessen 4 = .ok (.invokevirtual 49, 3) := dTo2_96.1.2.2.2.2.1
theorem dL_lessen_7 : decode cL_lessen 7 = .ok (.i2l, 1) := dTo2_96.1.2.2.2.2.2.1
theorem dL_lessen_8 : decode cL_lessen 8 = .ok (.putfield 13, 3) := dTo2_96.1.2.2.2.2.2.2.1
theorem dL_lessen_11 : decode cL_lessen 11 = .ok (.goto 7, 3) := dTo2_96.1.2.2.2.2.2.2.2.1
theorem dL_lessen_14 : decode cL_lessen 14 = .ok (.astore 4, 2) := dTo2_96.1.2.2.2.2.2.2.2.2.1
theorem dL_lessen_16 : decode cL_lessen 16 = .ok (.iconst 1, 1) := dTo2_96.1.2.2.2.2.2.2.2.2.2.1
theorem dL_lessen_17 : decode cL_lessen 17 = .ok (.ireturn, 1) := dTo2_96.2.1.1
theorem dL_lessen_18 : decode cL_lessen 18 = .ok (.iconst 0, 1) := dTo2_96.2.1.2.1
theorem dL_lessen_19 : decode cL_lessen 19 = .ok (.ireturn, 1) := dTo2_96.2.1.2.2.1
theorem dTo2_97 : dQ cL_log [[(0, zop45, 0, 0), (1, zop42, 0, 0), (2, zop27, 0, 0), (3, zop28, 0, 0), (4, zop182, 0, 52), (7, zop133, 0, 0), (8, zop181, 0, 13), (11, zop167, 0, 7), (14, zop58, 4, 0), (16, zop4, 0, 0)], [(17, zop172, 0, 0), (18, zop3, 0, 0), (19, zop172, 0, 0)]] := dQ_of _ _ (by decide +kernel)
theorem dL_log_0 : decode cL_log 0 = .ok (.aload_n 3, 1) := dTo2_97.1.1
theorem dL_log_1 : decode cL_log 1 = .ok (.aload_n 0, 1) := dTo2_97.1.2.1
theorem dL_log_2 : decode cL_log 2 = .ok (.iload_n 1, 1) := dTo2_97.1.2.2.1
theorem dL_log_3 : decode cL_log 3 = .ok (.iload_n 2, 1) := dTo2_97.1.2.2.2.1
theorem dL_log_4 : decode cL_log 4 = .ok (.invokevirtual 52, 3) := dTo2_97.1.2.2.2.2.1
theorem dL_log_7 : decode cL_log 7 = .ok (.i2l, 1) := dTo2_97.1.2.2.2.2.2.1
theorem dL_log_8 : decode cL_log 8 = .ok (.putfield 13, 3) := dTo2_97.1.2.2.2.2.2.2.1
theorem dL_log_11 : decode cL_log 11 = .ok (.goto 7, 3) := dTo2_97.1.2.2.2.2.2.2.2.1
theorem dL_log_14 : decode cL_log 14 = .ok (.astore 4, 2) := dTo2_97.1.2.2.2.2.2.2.2.2.1
theorem dL_log_16 : decode cL_log 16 = .ok (.iconst 1, 1) := dTo2_97.1.2.2.2.2.2.2.2.2.2.1
theorem dL_log_17 : decode cL_log 17 = .ok (.ireturn, 1) := dTo2_97.2.1.1
theorem dL_log_18 : decode cL_log 18 = .ok (.iconst 0, 1) := dTo2_97.2.1.2.1
theorem dL_log_19 : decode cL_log 19 = .ok (.ireturn, 1) := dTo2_97.2.1.2.2.1
theorem dTo2_98 : dQ cL_all [[(0, zop44, 0, 0), (1, zop42, 0, 0), (2, zop27, 0, 0), (3, zop182, 0, 55), (6, zop133, 0, 0), (7, zop181, 0, 13), (10, zop167, 0, 6), (13, zop78, 0, 0), (14, zop4, 0, 0), (15, zop172, 0, 0)], [(16, zop3, 0, 0), (17, zop172, 0, 0)]] := dQ_of _ _ (by decide +kernel)
theorem dL_all_0 : decode cL_all 0 = .ok (.aload_n 2, 1) := dTo2_98.1.1
theorem dL_all_1 : decode cL_all 1 = .ok (.aload_n 0, 1) := dTo2_98.1.2.1
theorem dL_all_2 : decode cL_all 2 = .ok (.iload_n 1, 1) := dTo2_98.1.2.2.1
theorem dL_all_3 : decode cL_all 3 = .ok (.invokevirtual 55, 3) := dTo2_98.1.2.2.2.1
theorem dL_all_6 : decode cL_all 6 = .ok (.i2l, 1) := dTo2_98.1.2.2.2.2.1
theorem dL_all_7 : decode cL_all 7 = .ok (.putfield 13, 3) := dTo2_98.1.2.2.2.2.2.1
theorem dL_all_10 : decode cL_all 10 = .ok (.goto 6, 3) := dTo2_98.1.2.2.2.2.2.2.1
theorem dL_all_13 : decode cL_all 13 = .ok (.astore_n 3, 1) := dTo2_98.1.2.2.2.2.2.2.2.1
theorem dL_all_14 : decode cL_all 14 = .ok (.iconst 1, 1) := dTo2_98.1.2.2.2.2.2.2.2.2.1
theorem dL_all_15 : decode cL_all 15 = .ok (.ireturn, 1) := dTo2_98.1.2.2.2.2.2.2.2.2.2.1
theorem dL_all_16 : decode cL_all 16 = .ok (.iconst 0, 1) := dTo2_98.2.1.1
theorem dL_all_17 : decode cL_all 17 = .ok (.ireturn, 1) := dTo2_98.2.1.2.1
theorem dTo2_99 : dQ cL_greater [[(0, zop25, 4, 0), (2, zop42, 0, 0), (3, zop27, 0, 0), (4, zop28, 0, 0), (5, zop29, 0, 0), (6, zop182, 0, 58), (9, zop133, 0, 0), (10, zop181, 0, 13), (13, zop167, 0, 7), (16, zop58, 5, 0)], [(18, zop4, 0, 0), (19, zop172, 0, 0), (20, zop3, 0, 0), (21, zop172, 0, 0)]] := dQ_of _ _ (by decide +kernel)
theorem dL_greater_0 : decode cL_greater 0 = .ok (.aload 4, 2) := dTo2_99.1.1
theorem dL_greater_2 : decode cL_greater 2 = .ok (.aload_n 0, 1) := dTo2_99.1.2.1
theorem dL_greater_3 : decode cL_greater 3 = .ok (.iload_n 1, 1) := dTo2_99.1.2.2.1
theorem dL_greater_4 : decode cL_greater 4 = .ok (.iload_n 2, 1) := dTo2_99.1.2.2.2.1
theorem dL_greater_5 : decode cL_greater 5 = .ok (.iload_n 3, 1) := dTo2_99.1.2.2.2.2.1
theorem dL_greater_6 : decode cL_greater 6 = .ok (.invokevirtual 58, 3) := dTo2_99.1.2.2.2.2.2.1
theorem dL_greater_9 : decode cL_greater 9 = .ok (.i2l, 1) := dTo2_99.1.2.2.2.2.2.2.1
theorem dL_greater_10 : decode cL_greater 10 = .ok (.putfield 13, 3) := dTo2_99.1.2.2.2.2.2.2.2.1
theorem dL_greater_13 : decode cL_greater 13 = .ok (.goto 7, 3) := dTo2_99.1.2.2.2.2.2.2.2.2.1
theorem dL_greater_16 : decode cL_greater 16 = .ok (.astore 5, 2) := dTo2_99.1.2.2.2.2.2.2.2.2.2.1
theorem dL_greater_18 : decode cL_greater 18 = .ok (.iconst 1, 1) := dTo2_99.2.1.1
theorem dL_greater_19 : decode cL_greater 19 = .ok (.ireturn, 1) := dTo2_99.2.1.2.1
theorem dL_greater_20 : decode cL_greater 20 = .ok (.iconst 0, 1) := dTo2_99.2.1.2.2.1
theorem dL_greater_21 : decode cL_greater 21 = .ok (.ireturn, 1) := dTo2_99.2.1.2.2.2.1
theorem dTo2_100 : dQ cL_lesser [[(0, zop25, 4, 0), (2, zop42, 0, 0), (3, zop27, 0, 0), (4, zop28, 0, 0), (5, zop29, 0, 0), (6, zop182, 0, 62), (9, zop133, 0, 0), (10, zop181, 0, 13), (13, zop167, 0, 7), (16, zop58, 5, 0)], [(18, zop4, 0, 0), (19, zop172, 0, 0), (20, zop3, 0, 0), (21, zop172, 0, 0)]] := dQ_of _ _ (by decide +kernel)
theorem dL_lesser_0 : decode cL_lesser 0 = .ok (.aload 4, 2) := dTo2_100.1.1
theorem dL_lesser_2 : decode cL_lesser 2 = .ok (.aload_n 0, 1) := dTo2_100.1.2.1
theorem dL_lesser_3 : decode cL_lesser 3 = .ok (.iload_n 1, 1) := dTo2_100.1.2.2.1
theorem dL_lesser_4 : decode cL_lesser 4 = .ok (.iload_n 2, 1) := dTo2_100.1.2.2.2.1
theorem dL_lesser_5 : decode cL_lesser 5 = .ok (.iload_n 3, 1) := dTo2_100.1.2.2.2.2.1
theorem dL_lesser_6 : decode cL_lesser 6 = .ok (.invokevirtual 62, 3) := dTo2_100.1.2.2.2.2.2.1
theorem dL_lesser_9 : decode cL_lesser 9 = .ok (.i2l, 1) := dTo2_100.1.2.2.2.2.2.2.1
theorem dL_lesser_10 : decode cL_lesser 10 = .ok (.putfield 13, 3) := dTo2_100.1.2.2.2.2.2.2.2.1
theorem dL_lesser_13 : decode cL_lesser 13 = .ok (.goto 7, 3) := dTo2_100.1.2.2.2.2.2.2.2.2.1
theorem dL_lesser_16 : decode cL_lesser 16 = .ok (.astore 5, 2) := dTo2_100.1.2.2.2.2.2.2.2.2.2.1
theorem dL_lesser_18 : decode cL_lesser 18 = .ok (.iconst 1, 1) := dTo2_100.2.1.1
theorem dL_lesser_19 : decode cL_lesser 19 = .ok (.ireturn, 1) := dTo2_100.2.1.2.1
theorem dL_lesser_20 : decode cL_lesser 20 = .ok (.iconst 0, 1) := dTo2_100.2.1.2.2.1
theorem dL_lesser_21 : decode cL_lesser 21 = .ok (.ireturn, 1) := dTo2_100.2.1.2.2.2.1
theorem dTo2_101 : dQ cL_end [[(0, zop45, 0, 0), (1, zop42, 0, 0), (2, zop27, 0, 0), (3, zop28, 0, 0), (4, zop182, 0, 65), (7, zop133, 0, 0), (8, zop181, 0, 13), (11, zop167, 0, 7), (14, zop58, 4, 0), (16, zop4, 0, 0)], [(17, zop172, 0, 0), (18, zop3, 0, 0), (19, zop172, 0, 0)]] := dQ_of _ _ (by decide +kernel)
theorem dL_end_0 : decode cL_end 0 = .ok (.aload_n 3, 1) := dTo2_101.1.1
theorem dL_end_1 : decode cL_end 1 = .ok (.aload_n 0, 1) := dTo2_101.1.2.1
theorem dL_end_2 : decode cL_end 2 = .ok (.iload_n 1, 1) := dTo2_101.1.2.2.1
theorem dL_end_3 : decode cL_end 3 = .ok (.iload_n 2, 1) := dTo2_101.1.2.2.2.1
theorem dL_end_4 : decode cL_end 4 = .ok (.invokevirtual 65, 3) := dTo2_101.1.2.2.2.2.1
theorem dL_end_7 : decode cL_end 7 = .ok (.i2l, 1) := dTo2_101.1.2.2.2.2.2.1
theorem dL_end_8 : decode cL_end 8 = .ok (.putfield 13, 3) := dTo2_101.1.2.2.2.2.2.2.1
theorem dL_end_11 : decode cL_end 11 = .ok (.goto 7, 3) := dTo2_101.1.2.2.2.2.2.2.2.1
theorem dL_end_14 : decode cL_end 14 = .ok (.astore 4, 2) := dTo2_101.1.2.2.2.2.2.2.2.2.1
theorem dL_end_16 : decode cL_end 16 = .ok (.iconst 1, 1) := dTo2_101.1.2.2.2.2.2.2.2.2.2.1
theorem dL_end_17 : decode cL_end 17 = .ok (.ireturn, 1) := dTo2_101.2.1.1
theorem dL_end_18 : decode cL_end 18 = .ok (.iconst 0, 1) := dTo2_101.2.1.2.1
theorem dL_end_19 : decode cL_end 19 = .ok (.ireturn, 1) := dTo2_101.2.1.2.2.1
theorem dTo2_102 : dQ cL_kind [[(0, zop44, 0, 0), (1, zop42, 0, 0), (2, zop27, 0, 0), (3, zop182, 0, 69), (6, zop133, 0, 0), (7, zop181, 0, 13), (10, zop167, 0, 6), (13, zop78, 0, 0), (14, zop4, 0, 0), (15, zop172, 0, 0)], [(16, zop3, 0, 0), (17, zop172, 0, 0)]] := dQ_of _ _ (by decide +kernel)
theorem dL_kind_0 : decode cL_kind 0 = .ok (.aload_n 2, 1) := dTo2_102.1.1
theorem dL_kind_1 : decode cL_kind 1 = .ok (.aload_n 0, 1) := dTo2_102.1.2.1
theorem dL_kind_2 : decode cL_kind 2 = .ok (.iload_n 1, 1) := dTo2_102.1.2.2.1
theorem dL_kind_3 : decode cL_kind 3 = .ok (.invokevirtual 69, 3) := dTo2_102.1.2.2.2.1
theorem dL_kind_6 : decode cL_kind 6 = .ok (.i2l, 1) := dTo2_102.1.2.2.2.2.1
theorem dL_kind_7 : decode cL_kind 7 = .ok (.putfield 13, 3) := dTo2_102.1.2.2.2.2.2.1
theorem dL_kind_10 : decode cL_kind 10 = .ok (.goto 6, 3) := dTo2_102.1.2.2.2.2.2.2.1
theorem dL_kind_13 : decode cL_kind 13 = .ok (.astore_n 3, 1) := dTo2_102.1.2.2.2.2.2.2.2.1
theorem dL_kind_14 : decode cL_kind 14 = .ok (.iconst 1, 1) := dTo2_102.1.2.2.2.2.2.2.2.2.1
theorem dL_kind_15 : decode cL_kind 15 = .ok (.ireturn, 1) := dTo2_102.1.2.2.2.2.2.2.2.2.2.1
theorem dL_kind_16 : decode cL_kind 16 = .ok (.iconst 0, 1) := dTo2_102.2.1.1
theorem dL_kind_17 : decode cL_kind 17 = .ok (.ireturn, 1) := dTo2_102.2.1.2.1
theorem dTo2_103 : dQ cL_of [[(0, zop44, 0, 0), (1, zop42, 0, 0), (2, zop27, 0, 0), (3, zop182, 0, 72), (6, zop133, 0, 0), (7, zop181, 0, 13), (10, zop167, 0, 6), (13, zop78, 0, 0), (14, zop4, 0, 0), (15, zop172, 0, 0)], [(16, zop3, 0, 0), (17, zop172, 0, 0)]] := dQ_of _ _ (by decide +kernel)
theorem dL_of_0 : decode cL_of 0 = .ok (.aload_n 2, 1) := dTo2_103.1.1
theorem dL_of_1 : decode cL_of 1 = .ok (.aload_n 0, 1) := dTo2_103.1.2.1
theorem dL_of_2 : decode cL_of 2 = .ok (.iload_n 1, 1) := dTo2_103.1.2.2.1
theorem dL_of_3 : decode cL_of 3 = .ok (.invokevirtual 72, 3) := dTo2_103.1.2.2.2.1
theorem dL_of_6 : decode cL_of 6 = .ok (.i2l, 1) := dTo2_103.1.2.2.2.2.1
theorem dL_of_7 : decode cL_of 7 = .ok (.putfield 13, 3) := dTo2_103.1.2.2.2.2.2.1
theorem dL_of_10 : decode cL_of 10 = .ok (.goto 6, 3) := dTo2_103.1.2.2.2.2.2.2.1
theorem dL_of_13 : decode cL_of 13 = .ok (.astore_n 3, 1) := dTo2_103.1.2.2.2.2.2.2.2.1
theorem dL_of_14 : decode cL_of 14 = .ok (.iconst 1, 1) := dTo2_103.1.2.2.2.2.2.2.2.2.1
theorem dL_of_15 : decode cL_of 15 = .ok (.ireturn, 1) := dTo2_103.1.2.2.2.2.2.2.2.2.2.1
theorem dL_of_16 : decode cL_of 16 = .ok (.iconst 0, 1) := dTo2_103.2.1.1
theorem dL_of_17 : decode cL_of 17 = .ok (.ireturn, 1) := dTo2_103.2.1.2.1
theorem dTo2_104 : dQ cL_isBelow [[(0, zop44, 0, 0), (1, zop42, 0, 0), (2, zop27, 0, 0), (3, zop182, 0, 75), (6, zop153, 0, 7), (9, zop10, 0, 0), (10, zop167, 0, 4), (13, zop9, 0, 0), (14, zop181, 0, 13), (17, zop167, 0, 6)], [(20, zop78, 0, 0), (21, zop4, 0, 0), (22, zop172, 0, 0), (23, zop3, 0, 0), (24, zop172, 0, 0)]] := dQ_of _ _ (by decide +kernel)
theorem dL_isBelow_0 : decode cL_isBelow 0 = .ok (.aload_n 2, 1) := dTo2_104.1.1
theorem dL_isBelow_1 : decode cL_isBelow 1 = .ok (.aload_n 0, 1) := dTo2_104.1.2.1
theorem dL_isBelow_2 : decode cL_isBelow 2 = .ok (.iload_n 1, 1) := dTo2_104.1.2.2.1
theorem dL_isBelow_3 : decode cL_isBelow 3 = .ok (.invokevirtual 75, 3) := dTo2_104.1.2.2.2.1
theorem dL_isBelow_6 : decode cL_isBelow 6 = .ok (.ifCond .eq 7, 3) := dTo2_104.1.2.2.2.2.1
theorem dL_isBelow_9 : decode cL_isBelow 9 = .ok (.lconst 1, 1) := dTo2_104.1.2.2.2.2.2.1
theorem dL_isBelow_10 : decode cL_isBelow 10 = .ok (.goto 4, 3) := dTo2_104.1.2.2.2.2.2.2.1
theorem dL_isBelow_13 : decode cL_isBelow 13 = .ok (.lconst 0, 1) := dTo2_104.1.2.2.2.2.2.2.2.1
theorem dL_isBelow_14 : decode cL_isBelow 14 = .ok (.putfield 13, 3) := dTo2_104.1.2.2.2.2.2.2.2.2.1
theorem dL_isBelow_17 : decode cL_isBelow 17 = .ok (.goto 6, 3) := dTo2_104.1.2.2.2.2.2.2.2.2.2.1
theorem dL_isBelow_20 : decode cL_isBelow 20 = .ok (.astore_n 3, 1) := dTo2_104.2.1.1
theorem dL_isBelow_21 : decode cL_isBelow 21 = .ok (.iconst 1, 1) := dTo2_104.2.1.2.1
theorem dL_isBelow_22 : decode cL_isBelow 22 = .ok (.ireturn, 1) := dTo2_104.2.1.2.2.1
theorem dL_isBelow_23 : decode cL_isBelow 23 = .ok (.iconst 0, 1) := dTo2_104.2.1.2.2.2.1
theorem dL_isBelow_24 : decode cL_isBelow 24 = .ok (.ireturn, 1) := dTo2_104.2.1.2.2.2.2.1
theorem dTo2_105 : dQ cL_isZero [[(0, zop44, 0, 0), (1, zop42, 0, 0), (2, zop27, 0, 0), (3, zop182, 0, 79), (6, zop153, 0, 7), (9, zop10, 0, 0), (10, zop167, 0, 4), (13, zop9, 0, 0), (14, zop181, 0, 13), (17, zop167, 0, 6)], [(20, zop78, 0, 0), (21, zop4, 0, 0), (22, zop172, 0, 0), (23, zop3, 0, 0), (24, zop172, 0, 0)]] := dQ_of _ _ (by decide +kernel)
theorem dL_isZero_0 : decode cL_isZero 0 = .ok (.aload_n 2, 1) := dTo2_105.1.1
theorem dL_isZero_1 : decode cL_isZero 1 = .ok (.aload_n 0, 1) := dTo2_105.1.2.1
theorem dL_isZero_2 : decode cL_isZero 2 = .ok (.iload_n 1, 1) := dTo2_105.1.2.2.1
theorem dL_isZero_3 : decode cL_isZero 3 = .ok (.invokevirtual 79, 3) := dTo2_105.1.2.2.2.1
theorem dL_isZero_6 : decode cL_isZero 6 = .ok (.ifCond .eq 7, 3) := dTo2_105.1.2.2.2.2.1
theorem dL_isZero_9 : decode cL_isZero 9 = .ok (.lconst 1, 1) := dTo2_105.1.2.2.2.2.2.1
theorem dL_isZero_10 : decode cL_isZero 10 = .ok (.goto 4, 3) := dTo2_105.1.2.2.2.2.2.2.1
theorem dL_isZero_13 : decode cL_isZero 13 = .ok (.lconst 0, 1) := dTo2_105.1.2.2.2.2.2.2.2.1
theorem dL_isZero_14 : decode cL_isZero 14 = .ok (.putfield 13, 3) := dTo2_105.1.2.2.2.2.2.2.2.2.1
theorem dL_isZero_17 : decode cL_isZero 17 = .ok (.goto 6, 3) := dTo2_105.1.2.2.2.2.2.2.2.2.2.1
theorem dL_isZero_20 : decode cL_isZero 20 = .ok (.astore_n 3, 1) := dTo2_105.2.1.1
theorem dL_isZero_21 : decode cL_isZero 21 = .ok (.iconst 1, 1) := dTo2_105.2.1.2.1
theorem dL_isZero_22 : decode cL_isZero 22 = .ok (.ireturn, 1) := dTo2_105.2.1.2.2.1
theorem dL_isZero_23 : decode cL_isZero 23 = .ok (.iconst 0, 1) := dTo2_105.2.1.2.2.2.1
theorem dL_isZero_24 : decode cL_isZero 24 = .ok (.ireturn, 1) := dTo2_105.2.1.2.2.2.2.1
theorem dTo2_106 : dQ cL_isEndless [[(0, zop44, 0, 0), (1, zop42, 0, 0), (2, zop27, 0, 0), (3, zop182, 0, 82), (6, zop153, 0, 7), (9, zop10, 0, 0), (10, zop167, 0, 4), (13, zop9, 0, 0), (14, zop181, 0, 13), (17, zop167, 0, 6)], [(20, zop78, 0, 0), (21, zop4, 0, 0), (22, zop172, 0, 0), (23, zop3, 0, 0), (24, zop172, 0, 0)]] := dQ_of _ _ (by decide +kernel)
theorem dL_isEndless_0 : decode cL_isEndless 0 = .ok (.aload_n 2, 1) := dTo2_106.1.1
theorem dL_isEndless_1 : decode cL_isEndless 1 = .ok (.aload_n 0, 1) := dTo2_106.1.2.1
theorem dL_isEndless_2 : decode cL_isEndless 2 = .ok (.iload_n 1, 1) := dTo2_106.1.2.2.1
theorem dL_isEndless_3 : decode cL_isEndless 3 = .ok (.invokevirtual 82, 3) := dTo2_106.1.2.2.2.1
theorem dL_isEndless_6 : decode cL_isEndless 6 = .ok (.ifCond .eq 7, 3) := dTo2_106.1.2.2.2.2.1
theorem dL_isEndless_9 : decode cL_isEndless 9 = .ok (.lconst 1, 1) := dTo2_106.1.2.2.2.2.2.1
theorem dL_isEndless_10 : decode cL_isEndless 10 = .ok (.goto 4, 3) := dTo2_106.1.2.2.2.2.2.2.1
theorem dL_isEndless_13 : decode cL_isEndless 13 = .ok (.lconst 0, 1) := dTo2_106.1.2.2.2.2.2.2.2.1
theorem dL_isEndless_14 : decode cL_isEndless 14 = .ok (.putfield 13, 3) := dTo2_106.1.2.2.2.2.2.2.2.2.1
theorem dL_isEndless_17 : decode cL_isEndless 17 = .ok (.goto 6, 3) := dTo2_106.1.2.2.2.2.2.2.2.2.2.1
theorem dL_isEndless_20 : decode cL_isEndless 20 = .ok (.astore_n 3, 1) := dTo2_106.2.1.1
theorem dL_isEndless_21 : decode cL_isEndless 21 = .ok (.iconst 1, 1) := dTo2_106.2.1.2.1
theorem dL_isEndless_22 : decode cL_isEndless 22 = .ok (.ireturn, 1) := dTo2_106.2.1.2.2.1
theorem dL_isEndless_23 : decode cL_isEndless 23 = .ok (.iconst 0, 1) := dTo2_106.2.1.2.2.2.1
theorem dL_isEndless_24 : decode cL_isEndless 24 = .ok (.ireturn, 1) := dTo2_106.2.1.2.2.2.2.1
theorem dTo2_107 : dQ cL_whole [[(0, zop45, 0, 0), (1, zop42, 0, 0), (2, zop27, 0, 0), (3, zop28, 0, 0), (4, zop182, 0, 85), (7, zop133, 0, 0), (8, zop181, 0, 13), (11, zop167, 0, 15), (14, zop58, 4, 0), (16, zop4, 0, 0)], [(17, zop172, 0, 0), (18, zop58, 4, 0), (20, zop5, 0, 0), (21, zop172, 0, 0), (22, zop58, 4, 0), (24, zop6, 0, 0), (25, zop172, 0, 0), (26, zop3, 0, 0), (27, zop172, 0, 0)]] := dQ_of _ _ (by decide +kernel)
theorem dL_whole_0 : decode cL_whole 0 = .ok (.aload_n 3, 1) := dTo2_107.1.1
theorem dL_whole_1 : decode cL_whole 1 = .ok (.aload_n 0, 1) := dTo2_107.1.2.1
theorem dL_whole_2 : decode cL_whole 2 = .ok (.iload_n 1, 1) := dTo2_107.1.2.2.1
theorem dL_whole_3 : decode cL_whole 3 = .ok (.iload_n 2, 1) := dTo2_107.1.2.2.2.1
theorem dL_whole_4 : decode cL_whole 4 = .ok (.invokevirtual 85, 3) := dTo2_107.1.2.2.2.2.1
theorem dL_whole_7 : decode cL_whole 7 = .ok (.i2l, 1) := dTo2_107.1.2.2.2.2.2.1
theorem dL_whole_8 : decode cL_whole 8 = .ok (.putfield 13, 3) := dTo2_107.1.2.2.2.2.2.2.1
theorem dL_whole_11 : decode cL_whole 11 = .ok (.goto 15, 3) := dTo2_107.1.2.2.2.2.2.2.2.1
theorem dL_whole_14 : decode cL_whole 14 = .ok (.astore 4, 2) := dTo2_107.1.2.2.2.2.2.2.2.2.1
theorem dL_whole_16 : decode cL_whole 16 = .ok (.iconst 1, 1) := dTo2_107.1.2.2.2.2.2.2.2.2.2.1
theorem dL_whole_17 : decode cL_whole 17 = .ok (.ireturn, 1) := dTo2_107.2.1.1
theorem dL_whole_18 : decode cL_whole 18 = .ok (.astore 4, 2) := dTo2_107.2.1.2.1
theorem dL_whole_20 : decode cL_whole 20 = .ok (.iconst 2, 1) := dTo2_107.2.1.2.2.1
theorem dL_whole_21 : decode cL_whole 21 = .ok (.ireturn, 1) := dTo2_107.2.1.2.2.2.1
theorem dL_whole_22 : decode cL_whole 22 = .ok (.astore 4, 2) := dTo2_107.2.1.2.2.2.2.1
theorem dL_whole_24 : decode cL_whole 24 = .ok (.iconst 3, 1) := dTo2_107.2.1.2.2.2.2.2.1
theorem dL_whole_25 : decode cL_whole 25 = .ok (.ireturn, 1) := dTo2_107.2.1.2.2.2.2.2.2.1
theorem dL_whole_26 : decode cL_whole 26 = .ok (.iconst 0, 1) := dTo2_107.2.1.2.2.2.2.2.2.2.1
theorem dL_whole_27 : decode cL_whole 27 = .ok (.ireturn, 1) := dTo2_107.2.1.2.2.2.2.2.2.2.2.1
theorem dTo2_108 : dQ cL_height [[(0, zop44, 0, 0), (1, zop42, 0, 0), (2, zop27, 0, 0), (3, zop182, 0, 90), (6, zop133, 0, 0), (7, zop181, 0, 13), (10, zop167, 0, 9), (13, zop78, 0, 0), (14, zop4, 0, 0), (15, zop172, 0, 0)], [(16, zop78, 0, 0), (17, zop5, 0, 0), (18, zop172, 0, 0), (19, zop3, 0, 0), (20, zop172, 0, 0)]] := dQ_of _ _ (by decide +kernel)
theorem dL_height_0 : decode cL_height 0 = .ok (.aload_n 2, 1) := dTo2_108.1.1
theorem dL_height_1 : decode cL_height 1 = .ok (.aload_n 0, 1) := dTo2_108.1.2.1
theorem dL_height_2 : decode cL_height 2 = .ok (.iload_n 1, 1) := dTo2_108.1.2.2.1
theorem dL_height_3 : decode cL_height 3 = .ok (.invokevirtual 90, 3) := dTo2_108.1.2.2.2.1
theorem dL_height_6 : decode cL_height 6 = .ok (.i2l, 1) := dTo2_108.1.2.2.2.2.1
theorem dL_height_7 : decode cL_height 7 = .ok (.putfield 13, 3) := dTo2_108.1.2.2.2.2.2.1
theorem dL_height_10 : decode cL_height 10 = .ok (.goto 9, 3) := dTo2_108.1.2.2.2.2.2.2.1
theorem dL_height_13 : decode cL_height 13 = .ok (.astore_n 3, 1) := dTo2_108.1.2.2.2.2.2.2.2.1
theorem dL_height_14 : decode cL_height 14 = .ok (.iconst 1, 1) := dTo2_108.1.2.2.2.2.2.2.2.2.1
theorem dL_height_15 : decode cL_height 15 = .ok (.ireturn, 1) := dTo2_108.1.2.2.2.2.2.2.2.2.2.1
theorem dL_height_16 : decode cL_height 16 = .ok (.astore_n 3, 1) := dTo2_108.2.1.1
theorem dL_height_17 : decode cL_height 17 = .ok (.iconst 2, 1) := dTo2_108.2.1.2.1
theorem dL_height_18 : decode cL_height 18 = .ok (.ireturn, 1) := dTo2_108.2.1.2.2.1
theorem dL_height_19 : decode cL_height 19 = .ok (.iconst 0, 1) := dTo2_108.2.1.2.2.2.1
theorem dL_height_20 : decode cL_height 20 = .ok (.ireturn, 1) := dTo2_108.2.1.2.2.2.2.1
theorem dTo2_109 : dQ cL_digits [[(0, zop44, 0, 0), (1, zop42, 0, 0), (2, zop27, 0, 0), (3, zop182, 0, 93), (6, zop133, 0, 0), (7, zop181, 0, 13), (10, zop167, 0, 9), (13, zop78, 0, 0), (14, zop4, 0, 0), (15, zop172, 0, 0)], [(16, zop78, 0, 0), (17, zop5, 0, 0), (18, zop172, 0, 0), (19, zop3, 0, 0), (20, zop172, 0, 0)]] := dQ_of _ _ (by decide +kernel)
theorem dL_digits_0 : decode cL_digits 0 = .ok (.aload_n 2, 1) := dTo2_109.1.1
theorem dL_digits_1 : decode cL_digits 1 = .ok (.aload_n 0, 1) := dTo2_109.1.2.1
theorem dL_digits_2 : decode cL_digits 2 = .ok (.iload_n 1, 1) := dTo2_109.1.2.2.1
theorem dL_digits_3 : decode cL_digits 3 = .ok (.invokevirtual 93, 3) := dTo2_109.1.2.2.2.1
theorem dL_digits_6 : decode cL_digits 6 = .ok (.i2l, 1) := dTo2_109.1.2.2.2.2.1
theorem dL_digits_7 : decode cL_digits 7 = .ok (.putfield 13, 3) := dTo2_109.1.2.2.2.2.2.1
theorem dL_digits_10 : decode cL_digits 10 = .ok (.goto 9, 3) := dTo2_109.1.2.2.2.2.2.2.1
theorem dL_digits_13 : decode cL_digits 13 = .ok (.astore_n 3, 1) := dTo2_109.1.2.2.2.2.2.2.2.1
theorem dL_digits_14 : decode cL_digits 14 = .ok (.iconst 1, 1) := dTo2_109.1.2.2.2.2.2.2.2.2.1
theorem dL_digits_15 : decode cL_digits 15 = .ok (.ireturn, 1) := dTo2_109.1.2.2.2.2.2.2.2.2.2.1
theorem dL_digits_16 : decode cL_digits 16 = .ok (.astore_n 3, 1) := dTo2_109.2.1.1
theorem dL_digits_17 : decode cL_digits 17 = .ok (.iconst 2, 1) := dTo2_109.2.1.2.1
theorem dL_digits_18 : decode cL_digits 18 = .ok (.ireturn, 1) := dTo2_109.2.1.2.2.1
theorem dL_digits_19 : decode cL_digits 19 = .ok (.iconst 0, 1) := dTo2_109.2.1.2.2.2.1
theorem dL_digits_20 : decode cL_digits 20 = .ok (.ireturn, 1) := dTo2_109.2.1.2.2.2.2.1
theorem dTo2_110 : dQ cL_upper [[(0, zop44, 0, 0), (1, zop42, 0, 0), (2, zop27, 0, 0), (3, zop182, 0, 96), (6, zop133, 0, 0), (7, zop181, 0, 13), (10, zop167, 0, 9), (13, zop78, 0, 0), (14, zop4, 0, 0), (15, zop172, 0, 0)], [(16, zop78, 0, 0), (17, zop5, 0, 0), (18, zop172, 0, 0), (19, zop3, 0, 0), (20, zop172, 0, 0)]] := dQ_of _ _ (by decide +kernel)
theorem dL_upper_0 : decode cL_upper 0 = .ok (.aload_n 2, 1) := dTo2_110.1.1
theorem dL_upper_1 : decode cL_upper 1 = .ok (.aload_n 0, 1) := dTo2_110.1.2.1
theorem dL_upper_2 : decode cL_upper 2 = .ok (.iload_n 1, 1) := dTo2_110.1.2.2.1
theorem dL_upper_3 : decode cL_upper 3 = .ok (.invokevirtual 96, 3) := dTo2_110.1.2.2.2.1
theorem dL_upper_6 : decode cL_upper 6 = .ok (.i2l, 1) := dTo2_110.1.2.2.2.2.1
theorem dL_upper_7 : decode cL_upper 7 = .ok (.putfield 13, 3) := dTo2_110.1.2.2.2.2.2.1
theorem dL_upper_10 : decode cL_upper 10 = .ok (.goto 9, 3) := dTo2_110.1.2.2.2.2.2.2.1
theorem dL_upper_13 : decode cL_upper 13 = .ok (.astore_n 3, 1) := dTo2_110.1.2.2.2.2.2.2.2.1
theorem dL_upper_14 : decode cL_upper 14 = .ok (.iconst 1, 1) := dTo2_110.1.2.2.2.2.2.2.2.2.1
theorem dL_upper_15 : decode cL_upper 15 = .ok (.ireturn, 1) := dTo2_110.1.2.2.2.2.2.2.2.2.2.1
theorem dL_upper_16 : decode cL_upper 16 = .ok (.astore_n 3, 1) := dTo2_110.2.1.1
theorem dL_upper_17 : decode cL_upper 17 = .ok (.iconst 2, 1) := dTo2_110.2.1.2.1
theorem dL_upper_18 : decode cL_upper 18 = .ok (.ireturn, 1) := dTo2_110.2.1.2.2.1
theorem dL_upper_19 : decode cL_upper 19 = .ok (.iconst 0, 1) := dTo2_110.2.1.2.2.2.1
theorem dL_upper_20 : decode cL_upper 20 = .ok (.ireturn, 1) := dTo2_110.2.1.2.2.2.2.1
theorem dTo2_111 : dQ cL_lower [[(0, zop44, 0, 0), (1, zop42, 0, 0), (2, zop27, 0, 0), (3, zop182, 0, 99), (6, zop133, 0, 0), (7, zop181, 0, 13), (10, zop167, 0, 9), (13, zop78, 0, 0), (14, zop4, 0, 0), (15, zop172, 0, 0)], [(16, zop78, 0, 0), (17, zop5, 0, 0), (18, zop172, 0, 0), (19, zop3, 0, 0), (20, zop172, 0, 0)]] := dQ_of _ _ (by decide +kernel)
theorem dL_lower_0 : decode cL_lower 0 = .ok (.aload_n 2, 1) := dTo2_111.1.1
theorem dL_lower_1 : decode cL_lower 1 = .ok (.aload_n 0, 1) := dTo2_111.1.2.1
theorem dL_lower_2 : decode cL_lower 2 = .ok (.iload_n 1, 1) := dTo2_111.1.2.2.1
theorem dL_lower_3 : decode cL_lower 3 = .ok (.invokevirtual 99, 3) := dTo2_111.1.2.2.2.1
theorem dL_lower_6 : decode cL_lower 6 = .ok (.i2l, 1) := dTo2_111.1.2.2.2.2.1
theorem dL_lower_7 : decode cL_lower 7 = .ok (.putfield 13, 3) := dTo2_111.1.2.2.2.2.2.1
theorem dL_lower_10 : decode cL_lower 10 = .ok (.goto 9, 3) := dTo2_111.1.2.2.2.2.2.2.1
theorem dL_lower_13 : decode cL_lower 13 = .ok (.astore_n 3, 1) := dTo2_111.1.2.2.2.2.2.2.2.1
theorem dL_lower_14 : decode cL_lower 14 = .ok (.iconst 1, 1) := dTo2_111.1.2.2.2.2.2.2.2.2.1
theorem dL_lower_15 : decode cL_lower 15 = .ok (.ireturn, 1) := dTo2_111.1.2.2.2.2.2.2.2.2.2.1
theorem dL_lower_16 : decode cL_lower 16 = .ok (.astore_n 3, 1) := dTo2_111.2.1.1
theorem dL_lower_17 : decode cL_lower 17 = .ok (.iconst 2, 1) := dTo2_111.2.1.2.1
theorem dL_lower_18 : decode cL_lower 18 = .ok (.ireturn, 1) := dTo2_111.2.1.2.2.1
theorem dL_lower_19 : decode cL_lower 19 = .ok (.iconst 0, 1) := dTo2_111.2.1.2.2.2.1
theorem dL_lower_20 : decode cL_lower 20 = .ok (.ireturn, 1) := dTo2_111.2.1.2.2.2.2.1
theorem dTo2_112 : dQ cL_text [[(0, zop44, 0, 0), (1, zop42, 0, 0), (2, zop27, 0, 0), (3, zop182, 0, 102), (6, zop181, 0, 106), (9, zop167, 0, 6), (12, zop78, 0, 0), (13, zop4, 0, 0), (14, zop172, 0, 0), (15, zop3, 0, 0)], [(16, zop172, 0, 0)]] := dQ_of _ _ (by decide +kernel)
theorem dL_text_0 : decode cL_text 0 = .ok (.aload_n 2, 1) := dTo2_112.1.1
theorem dL_text_1 : decode cL_text 1 = .ok (.aload_n 0, 1) := dTo2_112.1.2.1
theorem dL_text_2 : decode cL_text 2 = .ok (.iload_n 1, 1) := dTo2_112.1.2.2.1
theorem dL_text_3 : decode cL_text 3 = .ok (.invokevirtual 102, 3) := dTo2_112.1.2.2.2.1
theorem dL_text_6 : decode cL_text 6 = .ok (.putfield 106, 3) := dTo2_112.1.2.2.2.2.1
theorem dL_text_9 : decode cL_text 9 = .ok (.goto 6, 3) := dTo2_112.1.2.2.2.2.2.1
theorem dL_text_12 : decode cL_text 12 = .ok (.astore_n 3, 1) := dTo2_112.1.2.2.2.2.2.2.1
theorem dL_text_13 : decode cL_text 13 = .ok (.iconst 1, 1) := dTo2_112.1.2.2.2.2.2.2.2.1
theorem dL_text_14 : decode cL_text 14 = .ok (.ireturn, 1) := dTo2_112.1.2.2.2.2.2.2.2.2.1
theorem dL_text_15 : decode cL_text 15 = .ok (.iconst 0, 1) := dTo2_112.1.2.2.2.2.2.2.2.2.2.1
theorem dL_text_16 : decode cL_text 16 = .ok (.ireturn, 1) := dTo2_112.2.1.1
theorem dTo2_113 : dQ cL_order [[(0, zop45, 0, 0), (1, zop42, 0, 0), (2, zop27, 0, 0), (3, zop28, 0, 0), (4, zop182, 0, 110), (7, zop133, 0, 0), (8, zop181, 0, 13), (11, zop167, 0, 7), (14, zop58, 4, 0), (16, zop4, 0, 0)], [(17, zop172, 0, 0), (18, zop3, 0, 0), (19, zop172, 0, 0)]] := dQ_of _ _ (by decide +kernel)
theorem dL_order_0 : decode cL_order 0 = .ok (.aload_n 3, 1) := dTo2_113.1.1
theorem dL_order_1 : decode cL_order 1 = .ok (.aload_n 0, 1) := dTo2_113.1.2.1
theorem dL_order_2 : decode cL_order 2 = .ok (.iload_n 1, 1) := dTo2_113.1.2.2.1
theorem dL_order_3 : decode cL_order 3 = .ok (.iload_n 2, 1) := dTo2_113.1.2.2.2.1
theorem dL_order_4 : decode cL_order 4 = .ok (.invokevirtual 110, 3) := dTo2_113.1.2.2.2.2.1
theorem dL_order_7 : decode cL_order 7 = .ok (.i2l, 1) := dTo2_113.1.2.2.2.2.2.1
theorem dL_order_8 : decode cL_order 8 = .ok (.putfield 13, 3) := dTo2_113.1.2.2.2.2.2.2.1
theorem dL_order_11 : decode cL_order 11 = .ok (.goto 7, 3) := dTo2_113.1.2.2.2.2.2.2.2.1
theorem dL_order_14 : decode cL_order 14 = .ok (.astore 4, 2) := dTo2_113.1.2.2.2.2.2.2.2.2.1
theorem dL_order_16 : decode cL_order 16 = .ok (.iconst 1, 1) := dTo2_113.1.2.2.2.2.2.2.2.2.2.1
theorem dL_order_17 : decode cL_order 17 = .ok (.ireturn, 1) := dTo2_113.2.1.1
theorem dL_order_18 : decode cL_order 18 = .ok (.iconst 0, 1) := dTo2_113.2.1.2.1
theorem dL_order_19 : decode cL_order 19 = .ok (.ireturn, 1) := dTo2_113.2.1.2.2.1
theorem dTo2_114 : dQ cL_isAlike [[(0, zop45, 0, 0), (1, zop42, 0, 0), (2, zop27, 0, 0), (3, zop28, 0, 0), (4, zop182, 0, 113), (7, zop153, 0, 7), (10, zop10, 0, 0), (11, zop167, 0, 4), (14, zop9, 0, 0), (15, zop181, 0, 13)], [(18, zop167, 0, 7), (21, zop58, 4, 0), (23, zop4, 0, 0), (24, zop172, 0, 0), (25, zop3, 0, 0), (26, zop172, 0, 0)]] := dQ_of _ _ (by decide +kernel)
theorem dL_isAlike_0 : decode cL_isAlike 0 = .ok (.aload_n 3, 1) := dTo2_114.1.1
theorem dL_isAlike_1 : decode cL_isAlike 1 = .ok (.aload_n 0, 1) := dTo2_114.1.2.1
theorem dL_isAlike_2 : decode cL_isAlike 2 = .ok (.iload_n 1, 1) := dTo2_114.1.2.2.1
theorem dL_isAlike_3 : decode cL_isAlike 3 = .ok (.iload_n 2, 1) := dTo2_114.1.2.2.2.1
theorem dL_isAlike_4 : decode cL_isAlike 4 = .ok (.invokevirtual 113, 3) := dTo2_114.1.2.2.2.2.1
theorem dL_isAlike_7 : decode cL_isAlike 7 = .ok (.ifCond .eq 7, 3) := dTo2_114.1.2.2.2.2.2.1
theorem dL_isAlike_10 : decode cL_isAlike 10 = .ok (.lconst 1, 1) := dTo2_114.1.2.2.2.2.2.2.1
theorem dL_isAlike_11 : decode cL_isAlike 11 = .ok (.goto 4, 3) := dTo2_114.1.2.2.2.2.2.2.2.1
theorem dL_isAlike_14 : decode cL_isAlike 14 = .ok (.lconst 0, 1) := dTo2_114.1.2.2.2.2.2.2.2.2.1
theorem dL_isAlike_15 : decode cL_isAlike 15 = .ok (.putfield 13, 3) := dTo2_114.1.2.2.2.2.2.2.2.2.2.1
theorem dL_isAlike_18 : decode cL_isAlike 18 = .ok (.goto 7, 3) := dTo2_114.2.1.1
theorem dL_isAlike_21 : decode cL_isAlike 21 = .ok (.astore 4, 2) := dTo2_114.2.1.2.1
theorem dL_isAlike_23 : decode cL_isAlike 23 = .ok (.iconst 1, 1) := dTo2_114.2.1.2.2.1
theorem dL_isAlike_24 : decode cL_isAlike 24 = .ok (.ireturn, 1) := dTo2_114.2.1.2.2.2.1
theorem dL_isAlike_25 : decode cL_isAlike 25 = .ok (.iconst 0, 1) := dTo2_114.2.1.2.2.2.2.1
theorem dL_isAlike_26 : decode cL_isAlike 26 = .ok (.ireturn, 1) := dTo2_114.2.1.2.2.2.2.2.1
theorem dTo2_115 : dQ cL_isNear [[(0, zop45, 0, 0), (1, zop42, 0, 0), (2, zop27, 0, 0), (3, zop28, 0, 0), (4, zop182, 0, 117), (7, zop153, 0, 7), (10, zop10, 0, 0), (11, zop167, 0, 4), (14, zop9, 0, 0), (15, zop181, 0, 13)], [(18, zop167, 0, 7), (21, zop58, 4, 0), (23, zop4, 0, 0), (24, zop172, 0, 0), (25, zop3, 0, 0), (26, zop172, 0, 0)]] := dQ_of _ _ (by decide +kernel)
theorem dL_isNear_0 : decode cL_isNear 0 = .ok (.aload_n 3, 1) := dTo2_115.1.1
theorem dL_isNear_1 : decode cL_isNear 1 = .ok (.aload_n 0, 1) := dTo2_115.1.2.1
theorem dL_isNear_2 : decode cL_isNear 2 = .ok (.iload_n 1, 1) := dTo2_115.1.2.2.1
theorem dL_isNear_3 : decode cL_isNear 3 = .ok (.iload_n 2, 1) := dTo2_115.1.2.2.2.1
theorem dL_isNear_4 : decode cL_isNear 4 = .ok (.invokevirtual 117, 3) := dTo2_115.1.2.2.2.2.1
theorem dL_isNear_7 : decode cL_isNear 7 = .ok (.ifCond .eq 7, 3) := dTo2_115.1.2.2.2.2.2.1
theorem dL_isNear_10 : decode cL_isNear 10 = .ok (.lconst 1, 1) := dTo2_115.1.2.2.2.2.2.2.1
theorem dL_isNear_11 : decode cL_isNear 11 = .ok (.goto 4, 3) := dTo2_115.1.2.2.2.2.2.2.2.1
theorem dL_isNear_14 : decode cL_isNear 14 = .ok (.lconst 0, 1) := dTo2_115.1.2.2.2.2.2.2.2.2.1
theorem dL_isNear_15 : decode cL_isNear 15 = .ok (.putfield 13, 3) := dTo2_115.1.2.2.2.2.2.2.2.2.2.1
theorem dL_isNear_18 : decode cL_isNear 18 = .ok (.goto 7, 3) := dTo2_115.2.1.1
theorem dL_isNear_21 : decode cL_isNear 21 = .ok (.astore 4, 2) := dTo2_115.2.1.2.1
theorem dL_isNear_23 : decode cL_isNear 23 = .ok (.iconst 1, 1) := dTo2_115.2.1.2.2.1
theorem dL_isNear_24 : decode cL_isNear 24 = .ok (.ireturn, 1) := dTo2_115.2.1.2.2.2.1
theorem dL_isNear_25 : decode cL_isNear 25 = .ok (.iconst 0, 1) := dTo2_115.2.1.2.2.2.2.1
theorem dL_isNear_26 : decode cL_isNear 26 = .ok (.ireturn, 1) := dTo2_115.2.1.2.2.2.2.2.1
theorem dTo2_116 : dQ cL_most [[(0, zop45, 0, 0), (1, zop42, 0, 0), (2, zop27, 0, 0), (3, zop28, 0, 0), (4, zop182, 0, 120), (7, zop133, 0, 0), (8, zop181, 0, 13), (11, zop167, 0, 11), (14, zop58, 4, 0), (16, zop4, 0, 0)], [(17, zop172, 0, 0), (18, zop58, 4, 0), (20, zop5, 0, 0), (21, zop172, 0, 0), (22, zop3, 0, 0), (23, zop172, 0, 0)]] := dQ_of _ _ (by decide +kernel)
theorem dL_most_0 : decode cL_most 0 = .ok (.aload_n 3, 1) := dTo2_116.1.1
theorem dL_most_1 : decode cL_most 1 = .ok (.aload_n 0, 1) := dTo2_116.1.2.1
theorem dL_most_2 : decode cL_most 2 = .ok (.iload_n 1, 1) := dTo2_116.1.2.2.1
theorem dL_most_3 : decode cL_most 3 = .ok (.iload_n 2, 1) := dTo2_116.1.2.2.2.1
theorem dL_most_4 : decode cL_most 4 = .ok (.invokevirtual 120, 3) := dTo2_116.1.2.2.2.2.1
theorem dL_most_7 : decode cL_most 7 = .ok (.i2l, 1) := dTo2_116.1.2.2.2.2.2.1
theorem dL_most_8 : decode cL_most 8 = .ok (.putfield 13, 3) := dTo2_116.1.2.2.2.2.2.2.1
theorem dL_most_11 : decode cL_most 11 = .ok (.goto 11, 3) := dTo2_116.1.2.2.2.2.2.2.2.1
theorem dL_most_14 : decode cL_most 14 = .ok (.astore 4, 2) := dTo2_116.1.2.2.2.2.2.2.2.2.1
theorem dL_most_16 : decode cL_most 16 = .ok (.iconst 1, 1) := dTo2_116.1.2.2.2.2.2.2.2.2.2.1
theorem dL_most_17 : decode cL_most 17 = .ok (.ireturn, 1) := dTo2_116.2.1.1
theorem dL_most_18 : decode cL_most 18 = .ok (.astore 4, 2) := dTo2_116.2.1.2.1
theorem dL_most_20 : decode cL_most 20 = .ok (.iconst 2, 1) := dTo2_116.2.1.2.2.1
theorem dL_most_21 : decode cL_most 21 = .ok (.ireturn, 1) := dTo2_116.2.1.2.2.2.1
theorem dL_most_22 : decode cL_most 22 = .ok (.iconst 0, 1) := dTo2_116.2.1.2.2.2.2.1
theorem dL_most_23 : decode cL_most 23 = .ok (.ireturn, 1) := dTo2_116.2.1.2.2.2.2.2.1
theorem dTo2_117 : dQ cL_isWithin [[(0, zop45, 0, 0), (1, zop42, 0, 0), (2, zop27, 0, 0), (3, zop28, 0, 0), (4, zop182, 0, 123), (7, zop153, 0, 7), (10, zop10, 0, 0), (11, zop167, 0, 4), (14, zop9, 0, 0), (15, zop181, 0, 13)], [(18, zop167, 0, 11), (21, zop58, 4, 0), (23, zop4, 0, 0), (24, zop172, 0, 0), (25, zop58, 4, 0), (27, zop5, 0, 0), (28, zop172, 0, 0), (29, zop3, 0, 0), (30, zop172, 0, 0)]] := dQ_of _ _ (by decide +kernel)
theorem dL_isWithin_0 : decode cL_isWithin 0 = .ok (.aload_n 3, 1) := dTo2_117.1.1
theorem dL_isWithin_1 : decode cL_isWithin 1 = .ok (.aload_n 0, 1) := dTo2_117.1.2.1
theorem dL_isWithin_2 : decode cL_isWithin 2 = .ok (.iload_n 1, 1) := dTo2_117.1.2.2.1
theorem dL_isWithin_3 : decode cL_isWithin 3 = .ok (.iload_n 2, 1) := dTo2_117.1.2.2.2.1
theorem dL_isWithin_4 : decode cL_isWithin 4 = .ok (.invokevirtual 123, 3) := dTo2_117.1.2.2.2.2.1
theorem dL_isWithin_7 : decode cL_isWithin 7 = .ok (.ifCond .eq 7, 3) := dTo2_117.1.2.2.2.2.2.1
theorem dL_isWithin_10 : decode cL_isWithin 10 = .ok (.lconst 1, 1) := dTo2_117.1.2.2.2.2.2.2.1
theorem dL_isWithin_11 : decode cL_isWithin 11 = .ok (.goto 4, 3) := dTo2_117.1.2.2.2.2.2.2.2.1
theorem dL_isWithin_14 : decode cL_isWithin 14 = .ok (.lconst 0, 1) := dTo2_117.1.2.2.2.2.2.2.2.2.1
theorem dL_isWithin_15 : decode cL_isWithin 15 = .ok (.putfield 13, 3) := dTo2_117.1.2.2.2.2.2.2.2.2.2.1
theorem dL_isWithin_18 : decode cL_isWithin 18 = .ok (.goto 11, 3) := dTo2_117.2.1.1
theorem dL_isWithin_21 : decode cL_isWithin 21 = .ok (.astore 4, 2) := dTo2_117.2.1.2.1
theorem dL_isWithin_23 : decode cL_isWithin 23 = .ok (.iconst 1, 1) := dTo2_117.2.1.2.2.1
theorem dL_isWithin_24 : decode cL_isWithin 24 = .ok (.ireturn, 1) := dTo2_117.2.1.2.2.2.1
theorem dL_isWithin_25 : decode cL_isWithin 25 = .ok (.astore 4, 2) := dTo2_117.2.1.2.2.2.2.1
theorem dL_isWithin_27 : decode cL_isWithin 27 = .ok (.iconst 2, 1) := dTo2_117.2.1.2.2.2.2.2.1
theorem dL_isWithin_28 : decode cL_isWithin 28 = .ok (.ireturn, 1) := dTo2_117.2.1.2.2.2.2.2.2.1
theorem dL_isWithin_29 : decode cL_isWithin 29 = .ok (.iconst 0, 1) := dTo2_117.2.1.2.2.2.2.2.2.2.1
theorem dL_isWithin_30 : decode cL_isWithin 30 = .ok (.ireturn, 1) := dTo2_117.2.1.2.2.2.2.2.2.2.2.1
theorem dTo2_118 : dQ cL_find [[(0, zop45, 0, 0), (1, zop42, 0, 0), (2, zop27, 0, 0), (3, zop28, 0, 0), (4, zop182, 0, 126), (7, zop133, 0, 0), (8, zop181, 0, 13), (11, zop167, 0, 7), (14, zop58, 4, 0), (16, zop4, 0, 0)], [(17, zop172, 0, 0), (18, zop3, 0, 0), (19, zop172, 0, 0)]] := dQ_of _ _ (by decide +kernel)
theorem dL_find_0 : decode cL_find 0 = .ok (.aload_n 3, 1) := dTo2_118.1.1
theorem dL_find_1 : decode cL_find 1 = .ok (.aload_n 0, 1) := dTo2_118.1.2.1
theorem dL_find_2 : decode cL_find 2 = .ok (.iload_n 1, 1) := dTo2_118.1.2.2.1
theorem dL_find_3 : decode cL_find 3 = .ok (.iload_n 2, 1) := dTo2_118.1.2.2.2.1
theorem dL_find_4 : decode cL_find 4 = .ok (.invokevirtual 126, 3) := dTo2_118.1.2.2.2.2.1
theorem dL_find_7 : decode cL_find 7 = .ok (.i2l, 1) := dTo2_118.1.2.2.2.2.2.1
theorem dL_find_8 : decode cL_find 8 = .ok (.putfield 13, 3) := dTo2_118.1.2.2.2.2.2.2.1
theorem dL_find_11 : decode cL_find 11 = .ok (.goto 7, 3) := dTo2_118.1.2.2.2.2.2.2.2.1
theorem dL_find_14 : decode cL_find 14 = .ok (.astore 4, 2) := dTo2_118.1.2.2.2.2.2.2.2.2.1
theorem dL_find_16 : decode cL_find 16 = .ok (.iconst 1, 1) := dTo2_118.1.2.2.2.2.2.2.2.2.2.1
theorem dL_find_17 : decode cL_find 17 = .ok (.ireturn, 1) := dTo2_118.2.1.1
theorem dL_find_18 : decode cL_find 18 = .ok (.iconst 0, 1) := dTo2_118.2.1.2.1
theorem dL_find_19 : decode cL_find 19 = .ok (.ireturn, 1) := dTo2_118.2.1.2.2.1
theorem dTo2_119 : dQ cL_rank [[(0, zop44, 0, 0), (1, zop42, 0, 0), (2, zop27, 0, 0), (3, zop182, 0, 129), (6, zop133, 0, 0), (7, zop181, 0, 13), (10, zop167, 0, 6), (13, zop78, 0, 0), (14, zop4, 0, 0), (15, zop172, 0, 0)], [(16, zop3, 0, 0), (17, zop172, 0, 0)]] := dQ_of _ _ (by decide +kernel)
theorem dL_rank_0 : decode cL_rank 0 = .ok (.aload_n 2, 1) := dTo2_119.1.1
theorem dL_rank_1 : decode cL_rank 1 = .ok (.aload_n 0, 1) := dTo2_119.1.2.1
theorem dL_rank_2 : decode cL_rank 2 = .ok (.iload_n 1, 1) := dTo2_119.1.2.2.1
theorem dL_rank_3 : decode cL_rank 3 = .ok (.invokevirtual 129, 3) := dTo2_119.1.2.2.2.1
theorem dL_rank_6 : decode cL_rank 6 = .ok (.i2l, 1) := dTo2_119.1.2.2.2.2.1
theorem dL_rank_7 : decode cL_rank 7 = .ok (.putfield 13, 3) := dTo2_119.1.2.2.2.2.2.1
theorem dL_rank_10 : decode cL_rank 10 = .ok (.goto 6, 3) := dTo2_119.1.2.2.2.2.2.2.1
theorem dL_rank_13 : decode cL_rank 13 = .ok (.astore_n 3, 1) := dTo2_119.1.2.2.2.2.2.2.2.1
theorem dL_rank_14 : decode cL_rank 14 = .ok (.iconst 1, 1) := dTo2_119.1.2.2.2.2.2.2.2.2.1
theorem dL_rank_15 : decode cL_rank 15 = .ok (.ireturn, 1) := dTo2_119.1.2.2.2.2.2.2.2.2.2.1
theorem dL_rank_16 : decode cL_rank 16 = .ok (.iconst 0, 1) := dTo2_119.2.1.1
theorem dL_rank_17 : decode cL_rank 17 = .ok (.ireturn, 1) := dTo2_119.2.1.2.1
theorem dTo2_120 : dQ cL_before [[(0, zop45, 0, 0), (1, zop42, 0, 0), (2, zop27, 0, 0), (3, zop28, 0, 0), (4, zop182, 0, 132), (7, zop133, 0, 0), (8, zop181, 0, 13), (11, zop167, 0, 11), (14, zop58, 4, 0), (16, zop4, 0, 0)], [(17, zop172, 0, 0), (18, zop58, 4, 0), (20, zop5, 0, 0), (21, zop172, 0, 0), (22, zop3, 0, 0), (23, zop172, 0, 0)]] := dQ_of _ _ (by decide +kernel)
theorem dL_before_0 : decode cL_before 0 = .ok (.aload_n 3, 1) := dTo2_120.1.1
theorem dL_before_1 : decode cL_before 1 = .ok (.aload_n 0, 1) := dTo2_120.1.2.1
theorem dL_before_2 : decode cL_before 2 = .ok (.iload_n 1, 1) := dTo2_120.1.2.2.1
theorem dL_before_3 : decode cL_before 3 = .ok (.iload_n 2, 1) := dTo2_120.1.2.2.2.1
theorem dL_before_4 : decode cL_before 4 = .ok (.invokevirtual 132, 3) := dTo2_120.1.2.2.2.2.1
theorem dL_before_7 : decode cL_before 7 = .ok (.i2l, 1) := dTo2_120.1.2.2.2.2.2.1
theorem dL_before_8 : decode cL_before 8 = .ok (.putfield 13, 3) := dTo2_120.1.2.2.2.2.2.2.1
theorem dL_before_11 : decode cL_before 11 = .ok (.goto 11, 3) := dTo2_120.1.2.2.2.2.2.2.2.1
theorem dL_before_14 : decode cL_before 14 = .ok (.astore 4, 2) := dTo2_120.1.2.2.2.2.2.2.2.2.1
theorem dL_before_16 : decode cL_before 16 = .ok (.iconst 1, 1) := dTo2_120.1.2.2.2.2.2.2.2.2.2.1
theorem dL_before_17 : decode cL_before 17 = .ok (.ireturn, 1) := dTo2_120.2.1.1
theorem dL_before_18 : decode cL_before 18 = .ok (.astore 4, 2) := dTo2_120.2.1.2.1
theorem dL_before_20 : decode cL_before 20 = .ok (.iconst 2, 1) := dTo2_120.2.1.2.2.1
theorem dL_before_21 : decode cL_before 21 = .ok (.ireturn, 1) := dTo2_120.2.1.2.2.2.1
theorem dL_before_22 : decode cL_before 22 = .ok (.iconst 0, 1) := dTo2_120.2.1.2.2.2.2.1
theorem dL_before_23 : decode cL_before 23 = .ok (.ireturn, 1) := dTo2_120.2.1.2.2.2.2.2.1
theorem dTo2_121 : dQ cL_answer [[(0, zop25, 4, 0), (2, zop42, 0, 0), (3, zop27, 0, 0), (4, zop28, 0, 0), (5, zop29, 0, 0), (6, zop182, 0, 135), (9, zop133, 0, 0), (10, zop181, 0, 13), (13, zop167, 0, 11), (16, zop58, 5, 0)], [(18, zop4, 0, 0), (19, zop172, 0, 0), (20, zop58, 5, 0), (22, zop5, 0, 0), (23, zop172, 0, 0), (24, zop3, 0, 0), (25, zop172, 0, 0)]] := dQ_of _ _ (by decide +kernel)
theorem dL_answer_0 : decode cL_answer 0 = .ok (.aload 4, 2) := dTo2_121.1.1
theorem dL_answer_2 : decode cL_answer 2 = .ok (.aload_n 0, 1) := dTo2_121.1.2.1
theorem dL_answer_3 : decode cL_answer 3 = .ok (.iload_n 1, 1) := dTo2_121.1.2.2.1
theorem dL_answer_4 : decode cL_answer 4 = .ok (.iload_n 2, 1) := dTo2_121.1.2.2.2.1
theorem dL_answer_5 : decode cL_answer 5 = .ok (.iload_n 3, 1) := dTo2_121.1.2.2.2.2.1
theorem dL_answer_6 : decode cL_answer 6 = .ok (.invokevirtual 135, 3) := dTo2_121.1.2.2.2.2.2.1
theorem dL_answer_9 : decode cL_answer 9 = .ok (.i2l, 1) := dTo2_121.1.2.2.2.2.2.2.1
theorem dL_answer_10 : decode cL_answer 10 = .ok (.putfield 13, 3) := dTo2_121.1.2.2.2.2.2.2.2.1
theorem dL_answer_13 : decode cL_answer 13 = .ok (.goto 11, 3) := dTo2_121.1.2.2.2.2.2.2.2.2.1
theorem dL_answer_16 : decode cL_answer 16 = .ok (.astore 5, 2) := dTo2_121.1.2.2.2.2.2.2.2.2.2.1
theorem dL_answer_18 : decode cL_answer 18 = .ok (.iconst 1, 1) := dTo2_121.2.1.1
theorem dL_answer_19 : decode cL_answer 19 = .ok (.ireturn, 1) := dTo2_121.2.1.2.1
theorem dL_answer_20 : decode cL_answer 20 = .ok (.astore 5, 2) := dTo2_121.2.1.2.2.1
theorem dL_answer_22 : decode cL_answer 22 = .ok (.iconst 2, 1) := dTo2_121.2.1.2.2.2.1
theorem dL_answer_23 : decode cL_answer 23 = .ok (.ireturn, 1) := dTo2_121.2.1.2.2.2.2.1
theorem dL_answer_24 : decode cL_answer 24 = .ok (.iconst 0, 1) := dTo2_121.2.1.2.2.2.2.2.1
theorem dL_answer_25 : decode cL_answer 25 = .ok (.ireturn, 1) := dTo2_121.2.1.2.2.2.2.2.2.1
theorem dTo2_122 : dQ cL_below [[(0, zop25, 4, 0), (2, zop42, 0, 0), (3, zop27, 0, 0), (4, zop28, 0, 0), (5, zop29, 0, 0), (6, zop182, 0, 138), (9, zop133, 0, 0), (10, zop181, 0, 13), (13, zop167, 0, 7), (16, zop58, 5, 0)], [(18, zop4, 0, 0), (19, zop172, 0, 0), (20, zop3, 0, 0), (21, zop172, 0, 0)]] := dQ_of _ _ (by decide +kernel)
theorem dL_below_0 : decode cL_below 0 = .ok (.aload 4, 2) := dTo2_122.1.1
theorem dL_below_2 : decode cL_below 2 = .ok (.aload_n 0, 1) := dTo2_122.1.2.1
theorem dL_below_3 : decode cL_below 3 = .ok (.iload_n 1, 1) := dTo2_122.1.2.2.1
theorem dL_below_4 : decode cL_below 4 = .ok (.iload_n 2, 1) := dTo2_122.1.2.2.2.1
theorem dL_below_5 : decode cL_below 5 = .ok (.iload_n 3, 1) := dTo2_122.1.2.2.2.2.1
theorem dL_below_6 : decode cL_below 6 = .ok (.invokevirtual 138, 3) := dTo2_122.1.2.2.2.2.2.1
theorem dL_below_9 : decode cL_below 9 = .ok (.i2l, 1) := dTo2_122.1.2.2.2.2.2.2.1
theorem dL_below_10 : decode cL_below 10 = .ok (.putfield 13, 3) := dTo2_122.1.2.2.2.2.2.2.2.1
theorem dL_below_13 : decode cL_below 13 = .ok (.goto 7, 3) := dTo2_122.1.2.2.2.2.2.2.2.2.1
theorem dL_below_16 : decode cL_below 16 = .ok (.astore 5, 2) := dTo2_122.1.2.2.2.2.2.2.2.2.2.1
theorem dL_below_18 : decode cL_below 18 = .ok (.iconst 1, 1) := dTo2_122.2.1.1
theorem dL_below_19 : decode cL_below 19 = .ok (.ireturn, 1) := dTo2_122.2.1.2.1
theorem dL_below_20 : decode cL_below 20 = .ok (.iconst 0, 1) := dTo2_122.2.1.2.2.1
theorem dL_below_21 : decode cL_below 21 = .ok (.ireturn, 1) := dTo2_122.2.1.2.2.2.1
theorem dTo2_123 : dQ cL_rises [[(0, zop25, 4, 0), (2, zop42, 0, 0), (3, zop27, 0, 0), (4, zop28, 0, 0), (5, zop29, 0, 0), (6, zop182, 0, 141), (9, zop153, 0, 7), (12, zop10, 0, 0), (13, zop167, 0, 4), (16, zop9, 0, 0)], [(17, zop181, 0, 13), (20, zop167, 0, 7), (23, zop58, 5, 0), (25, zop4, 0, 0), (26, zop172, 0, 0), (27, zop3, 0, 0), (28, zop172, 0, 0)]] := dQ_of _ _ (by decide +kernel)
theorem dL_rises_0 : decode cL_rises 0 = .ok (.aload 4, 2) := dTo2_123.1.1
theorem dL_rises_2 : decode cL_rises 2 = .ok (.aload_n 0, 1) := dTo2_123.1.2.1
theorem dL_rises_3 : decode cL_rises 3 = .ok (.iload_n 1, 1) := dTo2_123.1.2.2.1
theorem dL_rises_4 : decode cL_rises 4 = .ok (.iload_n 2, 1) := dTo2_123.1.2.2.2.1
theorem dL_rises_5 : decode cL_rises 5 = .ok (.iload_n 3, 1) := dTo2_123.1.2.2.2.2.1
theorem dL_rises_6 : decode cL_rises 6 = .ok (.invokevirtual 141, 3) := dTo2_123.1.2.2.2.2.2.1
theorem dL_rises_9 : decode cL_rises 9 = .ok (.ifCond .eq 7, 3) := dTo2_123.1.2.2.2.2.2.2.1
theorem dL_rises_12 : decode cL_rises 12 = .ok (.lconst 1, 1) := dTo2_123.1.2.2.2.2.2.2.2.1
theorem dL_rises_13 : decode cL_rises 13 = .ok (.goto 4, 3) := dTo2_123.1.2.2.2.2.2.2.2.2.1
theorem dL_rises_16 : decode cL_rises 16 = .ok (.lconst 0, 1) := dTo2_123.1.2.2.2.2.2.2.2.2.2.1
theorem dL_rises_17 : decode cL_rises 17 = .ok (.putfield 13, 3) := dTo2_123.2.1.1
theorem dL_rises_20 : decode cL_rises 20 = .ok (.goto 7, 3) := dTo2_123.2.1.2.1
theorem dL_rises_23 : decode cL_rises 23 = .ok (.astore 5, 2) := dTo2_123.2.1.2.2.1
theorem dL_rises_25 : decode cL_rises 25 = .ok (.iconst 1, 1) := dTo2_123.2.1.2.2.2.1
theorem dL_rises_26 : decode cL_rises 26 = .ok (.ireturn, 1) := dTo2_123.2.1.2.2.2.2.1
theorem dL_rises_27 : decode cL_rises 27 = .ok (.iconst 0, 1) := dTo2_123.2.1.2.2.2.2.2.1
theorem dL_rises_28 : decode cL_rises 28 = .ok (.ireturn, 1) := dTo2_123.2.1.2.2.2.2.2.2.1
theorem dTo2_124 : dQ cL_between [[(0, zop44, 0, 0), (1, zop42, 0, 0), (2, zop27, 0, 0), (3, zop182, 0, 145), (6, zop153, 0, 7), (9, zop10, 0, 0), (10, zop167, 0, 4), (13, zop9, 0, 0), (14, zop181, 0, 13), (17, zop167, 0, 6)], [(20, zop78, 0, 0), (21, zop4, 0, 0), (22, zop172, 0, 0), (23, zop3, 0, 0), (24, zop172, 0, 0)]] := dQ_of _ _ (by decide +kernel)
theorem dL_between_0 : decode cL_between 0 = .ok (.aload_n 2, 1) := dTo2_124.1.1
theorem dL_between_1 : decode cL_between 1 = .ok (.aload_n 0, 1) := dTo2_124.1.2.1
theorem dL_between_2 : decode cL_between 2 = .ok (.iload_n 1, 1) := dTo2_124.1.2.2.1
theorem dL_between_3 : decode cL_between 3 = .ok (.invokevirtual 145, 3) := dTo2_124.1.2.2.2.1
theorem dL_between_6 : decode cL_between 6 = .ok (.ifCond .eq 7, 3) := dTo2_124.1.2.2.2.2.1
theorem dL_between_9 : decode cL_between 9 = .ok (.lconst 1, 1) := dTo2_124.1.2.2.2.2.2.1
theorem dL_between_10 : decode cL_between 10 = .ok (.goto 4, 3) := dTo2_124.1.2.2.2.2.2.2.1
theorem dL_between_13 : decode cL_between 13 = .ok (.lconst 0, 1) := dTo2_124.1.2.2.2.2.2.2.2.1
theorem dL_between_14 : decode cL_between 14 = .ok (.putfield 13, 3) := dTo2_124.1.2.2.2.2.2.2.2.2.1
theorem dL_between_17 : decode cL_between 17 = .ok (.goto 6, 3) := dTo2_124.1.2.2.2.2.2.2.2.2.2.1
theorem dL_between_20 : decode cL_between 20 = .ok (.astore_n 3, 1) := dTo2_124.2.1.1
theorem dL_between_21 : decode cL_between 21 = .ok (.iconst 1, 1) := dTo2_124.2.1.2.1
theorem dL_between_22 : decode cL_between 22 = .ok (.ireturn, 1) := dTo2_124.2.1.2.2.1
theorem dL_between_23 : decode cL_between 23 = .ok (.iconst 0, 1) := dTo2_124.2.1.2.2.2.1
theorem dL_between_24 : decode cL_between 24 = .ok (.ireturn, 1) := dTo2_124.2.1.2.2.2.2.1
theorem dTo2_125 : dQ cL_lies [[(0, zop44, 0, 0), (1, zop42, 0, 0), (2, zop27, 0, 0), (3, zop182, 0, 148), (6, zop153, 0, 7), (9, zop10, 0, 0), (10, zop167, 0, 4), (13, zop9, 0, 0), (14, zop181, 0, 13), (17, zop167, 0, 6)], [(20, zop78, 0, 0), (21, zop4, 0, 0), (22, zop172, 0, 0), (23, zop3, 0, 0), (24, zop172, 0, 0)]] := dQ_of _ _ (by decide +kernel)
theorem dL_lies_0 : decode cL_lies 0 = .ok (.aload_n 2, 1) := dTo2_125.1.1
theorem dL_lies_1 : decode cL_lies 1 = .ok (.aload_n 0, 1) := dTo2_125.1.2.1
theorem dL_lies_2 : decode cL_lies 2 = .ok (.iload_n 1, 1) := dTo2_125.1.2.2.1
theorem dL_lies_3 : decode cL_lies 3 = .ok (.invokevirtual 148, 3) := dTo2_125.1.2.2.2.1
theorem dL_lies_6 : decode cL_lies 6 = .ok (.ifCond .eq 7, 3) := dTo2_125.1.2.2.2.2.1
theorem dL_lies_9 : decode cL_lies 9 = .ok (.lconst 1, 1) := dTo2_125.1.2.2.2.2.2.1
theorem dL_lies_10 : decode cL_lies 10 = .ok (.goto 4, 3) := dTo2_125.1.2.2.2.2.2.2.1
theorem dL_lies_13 : decode cL_lies 13 = .ok (.lconst 0, 1) := dTo2_125.1.2.2.2.2.2.2.2.1
theorem dL_lies_14 : decode cL_lies 14 = .ok (.putfield 13, 3) := dTo2_125.1.2.2.2.2.2.2.2.2.1
theorem dL_lies_17 : decode cL_lies 17 = .ok (.goto 6, 3) := dTo2_125.1.2.2.2.2.2.2.2.2.2.1
theorem dL_lies_20 : decode cL_lies 20 = .ok (.astore_n 3, 1) := dTo2_125.2.1.1
theorem dL_lies_21 : decode cL_lies 21 = .ok (.iconst 1, 1) := dTo2_125.2.1.2.1
theorem dL_lies_22 : decode cL_lies 22 = .ok (.ireturn, 1) := dTo2_125.2.1.2.2.1
theorem dL_lies_23 : decode cL_lies 23 = .ok (.iconst 0, 1) := dTo2_125.2.1.2.2.2.1
theorem dL_lies_24 : decode cL_lies 24 = .ok (.ireturn, 1) := dTo2_125.2.1.2.2.2.2.1
theorem dTo2_126 : dQ cL_undone [[(0, zop44, 0, 0), (1, zop42, 0, 0), (2, zop27, 0, 0), (3, zop182, 0, 151), (6, zop153, 0, 7), (9, zop10, 0, 0), (10, zop167, 0, 4), (13, zop9, 0, 0), (14, zop181, 0, 13), (17, zop167, 0, 6)], [(20, zop78, 0, 0), (21, zop4, 0, 0), (22, zop172, 0, 0), (23, zop3, 0, 0), (24, zop172, 0, 0)]] := dQ_of _ _ (by decide +kernel)
theorem dL_undone_0 : decode cL_undone 0 = .ok (.aload_n 2, 1) := dTo2_126.1.1
theorem dL_undone_1 : decode cL_undone 1 = .ok (.aload_n 0, 1) := dTo2_126.1.2.1
theorem dL_undone_2 : decode cL_undone 2 = .ok (.iload_n 1, 1) := dTo2_126.1.2.2.1
theorem dL_undone_3 : decode cL_undone 3 = .ok (.invokevirtual 151, 3) := dTo2_126.1.2.2.2.1
theorem dL_undone_6 : decode cL_undone 6 = .ok (.ifCond .eq 7, 3) := dTo2_126.1.2.2.2.2.1
theorem dL_undone_9 : decode cL_undone 9 = .ok (.lconst 1, 1) := dTo2_126.1.2.2.2.2.2.1
theorem dL_undone_10 : decode cL_undone 10 = .ok (.goto 4, 3) := dTo2_126.1.2.2.2.2.2.2.1
theorem dL_undone_13 : decode cL_undone 13 = .ok (.lconst 0, 1) := dTo2_126.1.2.2.2.2.2.2.2.1
theorem dL_undone_14 : decode cL_undone 14 = .ok (.putfield 13, 3) := dTo2_126.1.2.2.2.2.2.2.2.2.1
theorem dL_undone_17 : decode cL_undone 17 = .ok (.goto 6, 3) := dTo2_126.1.2.2.2.2.2.2.2.2.2.1
theorem dL_undone_20 : decode cL_undone 20 = .ok (.astore_n 3, 1) := dTo2_126.2.1.1
theorem dL_undone_21 : decode cL_undone 21 = .ok (.iconst 1, 1) := dTo2_126.2.1.2.1
theorem dL_undone_22 : decode cL_undone 22 = .ok (.ireturn, 1) := dTo2_126.2.1.2.2.1
theorem dL_undone_23 : decode cL_undone 23 = .ok (.iconst 0, 1) := dTo2_126.2.1.2.2.2.1
theorem dL_undone_24 : decode cL_undone 24 = .ok (.ireturn, 1) := dTo2_126.2.1.2.2.2.2.1
theorem dTo2_127 : dQ cL_comesBack [[(0, zop44, 0, 0), (1, zop42, 0, 0), (2, zop27, 0, 0), (3, zop182, 0, 154), (6, zop153, 0, 7), (9, zop10, 0, 0), (10, zop167, 0, 4), (13, zop9, 0, 0), (14, zop181, 0, 13), (17, zop167, 0, 6)], [(20, zop78, 0, 0), (21, zop4, 0, 0), (22, zop172, 0, 0), (23, zop3, 0, 0), (24, zop172, 0, 0)]] := dQ_of _ _ (by decide +kernel)
theorem dL_comesBack_0 : decode cL_comesBack 0 = .ok (.aload_n 2, 1) := dTo2_127.1.1
theorem dL_comesBack_1 : decode cL_comesBack 1 = .ok (.aload_n 0, 1) := dTo2_127.1.2.1
theorem dL_comesBack_2 : decode cL_comesBack 2 = .ok (.iload_n 1, 1) := dTo2_127.1.2.2.1
theorem dL_comesBack_3 : decode cL_comesBack 3 = .ok (.invokevirtual 154, 3) := dTo2_127.1.2.2.2.1
theorem dL_comesBack_6 : decode cL_comesBack 6 = .ok (.ifCond .eq 7, 3) := dTo2_127.1.2.2.2.2.1
theorem dL_comesBack_9 : decode cL_comesBack 9 = .ok (.lconst 1, 1) := dTo2_127.1.2.2.2.2.2.1
theorem dL_comesBack_10 : decode cL_comesBack 10 = .ok (.goto 4, 3) := dTo2_127.1.2.2.2.2.2.2.1
theorem dL_comesBack_13 : decode cL_comesBack 13 = .ok (.lconst 0, 1) := dTo2_127.1.2.2.2.2.2.2.2.1
theorem dL_comesBack_14 : decode cL_comesBack 14 = .ok (.putfield 13, 3) := dTo2_127.1.2.2.2.2.2.2.2.2.1
theorem dL_comesBack_17 : decode cL_comesBack 17 = .ok (.goto 6, 3) := dTo2_127.1.2.2.2.2.2.2.2.2.2.1
theorem dL_comesBack_20 : decode cL_comesBack 20 = .ok (.astore_n 3, 1) := dTo2_127.2.1.1
theorem dL_comesBack_21 : decode cL_comesBack 21 = .ok (.iconst 1, 1) := dTo2_127.2.1.2.1
theorem dL_comesBack_22 : decode cL_comesBack 22 = .ok (.ireturn, 1) := dTo2_127.2.1.2.2.1
theorem dL_comesBack_23 : decode cL_comesBack 23 = .ok (.iconst 0, 1) := dTo2_127.2.1.2.2.2.1
theorem dL_comesBack_24 : decode cL_comesBack 24 = .ok (.ireturn, 1) := dTo2_127.2.1.2.2.2.2.1
theorem dTo2_128 : dQ cL_comesForth [[(0, zop44, 0, 0), (1, zop42, 0, 0), (2, zop27, 0, 0), (3, zop182, 0, 157), (6, zop153, 0, 7), (9, zop10, 0, 0), (10, zop167, 0, 4), (13, zop9, 0, 0), (14, zop181, 0, 13), (17, zop167, 0, 6)], [(20, zop78, 0, 0), (21, zop4, 0, 0), (22, zop172, 0, 0), (23, zop3, 0, 0), (24, zop172, 0, 0)]] := dQ_of _ _ (by decide +kernel)
theorem dL_comesForth_0 : decode cL_comesForth 0 = .ok (.aload_n 2, 1) := dTo2_128.1.1
theorem dL_comesForth_1 : decode cL_comesForth 1 = .ok (.aload_n 0, 1) := dTo2_128.1.2.1
theorem dL_comesForth_2 : decode cL_comesForth 2 = .ok (.iload_n 1, 1) := dTo2_128.1.2.2.1
theorem dL_comesForth_3 : decode cL_comesForth 3 = .ok (.invokevirtual 157, 3) := dTo2_128.1.2.2.2.1
theorem dL_comesForth_6 : decode cL_comesForth 6 = .ok (.ifCond .eq 7, 3) := dTo2_128.1.2.2.2.2.1
theorem dL_comesForth_9 : decode cL_comesForth 9 = .ok (.lconst 1, 1) := dTo2_128.1.2.2.2.2.2.1
theorem dL_comesForth_10 : decode cL_comesForth 10 = .ok (.goto 4, 3) := dTo2_128.1.2.2.2.2.2.2.1
theorem dL_comesForth_13 : decode cL_comesForth 13 = .ok (.lconst 0, 1) := dTo2_128.1.2.2.2.2.2.2.2.1
theorem dL_comesForth_14 : decode cL_comesForth 14 = .ok (.putfield 13, 3) := dTo2_128.1.2.2.2.2.2.2.2.2.1
theorem dL_comesForth_17 : decode cL_comesForth 17 = .ok (.goto 6, 3) := dTo2_128.1.2.2.2.2.2.2.2.2.2.1
theorem dL_comesForth_20 : decode cL_comesForth 20 = .ok (.astore_n 3, 1) := dTo2_128.2.1.1
theorem dL_comesForth_21 : decode cL_comesForth 21 = .ok (.iconst 1, 1) := dTo2_128.2.1.2.1
theorem dL_comesForth_22 : decode cL_comesForth 22 = .ok (.ireturn, 1) := dTo2_128.2.1.2.2.1
theorem dL_comesForth_23 : decode cL_comesForth 23 = .ok (.iconst 0, 1) := dTo2_128.2.1.2.2.2.1
theorem dL_comesForth_24 : decode cL_comesForth 24 = .ok (.ireturn, 1) := dTo2_128.2.1.2.2.2.2.1
theorem dTo2_129 : dQ cL_opposite [[(0, zop44, 0, 0), (1, zop42, 0, 0), (2, zop27, 0, 0), (3, zop182, 0, 160), (6, zop153, 0, 7), (9, zop10, 0, 0), (10, zop167, 0, 4), (13, zop9, 0, 0), (14, zop181, 0, 13), (17, zop167, 0, 6)], [(20, zop78, 0, 0), (21, zop4, 0, 0), (22, zop172, 0, 0), (23, zop3, 0, 0), (24, zop172, 0, 0)]] := dQ_of _ _ (by decide +kernel)
theorem dL_opposite_0 : decode cL_opposite 0 = .ok (.aload_n 2, 1) := dTo2_129.1.1
theorem dL_opposite_1 : decode cL_opposite 1 = .ok (.aload_n 0, 1) := dTo2_129.1.2.1
theorem dL_opposite_2 : decode cL_opposite 2 = .ok (.iload_n 1, 1) := dTo2_129.1.2.2.1
theorem dL_opposite_3 : decode cL_opposite 3 = .ok (.invokevirtual 160, 3) := dTo2_129.1.2.2.2.1
theorem dL_opposite_6 : decode cL_opposite 6 = .ok (.ifCond .eq 7, 3) := dTo2_129.1.2.2.2.2.1
theorem dL_opposite_9 : decode cL_opposite 9 = .ok (.lconst 1, 1) := dTo2_129.1.2.2.2.2.2.1
theorem dL_opposite_10 : decode cL_opposite 10 = .ok (.goto 4, 3) := dTo2_129.1.2.2.2.2.2.2.1
theorem dL_opposite_13 : decode cL_opposite 13 = .ok (.lconst 0, 1) := dTo2_129.1.2.2.2.2.2.2.2.1
theorem dL_opposite_14 : decode cL_opposite 14 = .ok (.putfield 13, 3) := dTo2_129.1.2.2.2.2.2.2.2.2.1
theorem dL_opposite_17 : decode cL_opposite 17 = .ok (.goto 6, 3) := dTo2_129.1.2.2.2.2.2.2.2.2.2.1
theorem dL_opposite_20 : decode cL_opposite 20 = .ok (.astore_n 3, 1) := dTo2_129.2.1.1
theorem dL_opposite_21 : decode cL_opposite 21 = .ok (.iconst 1, 1) := dTo2_129.2.1.2.1
theorem dL_opposite_22 : decode cL_opposite 22 = .ok (.ireturn, 1) := dTo2_129.2.1.2.2.1
theorem dL_opposite_23 : decode cL_opposite 23 = .ok (.iconst 0, 1) := dTo2_129.2.1.2.2.2.1
theorem dL_opposite_24 : decode cL_opposite 24 = .ok (.ireturn, 1) := dTo2_129.2.1.2.2.2.2.1
theorem dTo2_130 : dQ cL_house [[(0, zop44, 0, 0), (1, zop42, 0, 0), (2, zop27, 0, 0), (3, zop182, 0, 163), (6, zop133, 0, 0), (7, zop181, 0, 13), (10, zop167, 0, 6), (13, zop78, 0, 0), (14, zop4, 0, 0), (15, zop172, 0, 0)], [(16, zop3, 0, 0), (17, zop172, 0, 0)]] := dQ_of _ _ (by decide +kernel)
theorem dL_house_0 : decode cL_house 0 = .ok (.aload_n 2, 1) := dTo2_130.1.1
theorem dL_house_1 : decode cL_house 1 = .ok (.aload_n 0, 1) := dTo2_130.1.2.1
theorem dL_house_2 : decode cL_house 2 = .ok (.iload_n 1, 1) := dTo2_130.1.2.2.1
theorem dL_house_3 : decode cL_house 3 = .ok (.invokevirtual 163, 3) := dTo2_130.1.2.2.2.1
theorem dL_house_6 : decode cL_house 6 = .ok (.i2l, 1) := dTo2_130.1.2.2.2.2.1
theorem dL_house_7 : decode cL_house 7 = .ok (.putfield 13, 3) := dTo2_130.1.2.2.2.2.2.1
theorem dL_house_10 : decode cL_house 10 = .ok (.goto 6, 3) := dTo2_130.1.2.2.2.2.2.2.1
theorem dL_house_13 : decode cL_house 13 = .ok (.astore_n 3, 1) := dTo2_130.1.2.2.2.2.2.2.2.1
theorem dL_house_14 : decode cL_house 14 = .ok (.iconst 1, 1) := dTo2_130.1.2.2.2.2.2.2.2.2.1
theorem dL_house_15 : decode cL_house 15 = .ok (.ireturn, 1) := dTo2_130.1.2.2.2.2.2.2.2.2.2.1
theorem dL_house_16 : decode cL_house 16 = .ok (.iconst 0, 1) := dTo2_130.2.1.1
theorem dL_house_17 : decode cL_house 17 = .ok (.ireturn, 1) := dTo2_130.2.1.2.1
