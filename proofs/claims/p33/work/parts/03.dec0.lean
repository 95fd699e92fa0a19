theorem dX0_change_1 : decode cX0_change 1 = .ok (.tableswitch 42 1 3 #[27, 32, 37], 27) := by decide +kernel
theorem dTo0_0 : dQ cX0_change [[(0, zop26, 0, 0), (28, zop27, 0, 0), (29, zop184, 0, 7), (32, zop172, 0, 0), (33, zop27, 0, 0), (34, zop184, 0, 13), (37, zop172, 0, 0), (38, zop27, 0, 0), (39, zop184, 0, 16), (42, zop172, 0, 0)], [(43, zop2, 0, 0), (44, zop172, 0, 0)]] := dQ_of _ _ (by decide +kernel)
theorem dX0_change_0 : decode cX0_change 0 = .ok (.iload_n 0, 1) := dTo0_0.1.1
theorem dX0_change_28 : decode cX0_change 28 = .ok (.iload_n 1, 1) := dTo0_0.1.2.1
theorem dX0_change_29 : decode cX0_change 29 = .ok (.invokestatic 7, 3) := dTo0_0.1.2.2.1
theorem dX0_change_32 : decode cX0_change 32 = .ok (.ireturn, 1) := dTo0_0.1.2.2.2.1
theorem dX0_change_33 : decode cX0_change 33 = .ok (.iload_n 1, 1) := dTo0_0.1.2.2.2.2.1
theorem dX0_change_34 : decode cX0_change 34 = .ok (.invokestatic 13, 3) := dTo0_0.1.2.2.2.2.2.1
theorem dX0_change_37 : decode cX0_change 37 = .ok (.ireturn, 1) := dTo0_0.1.2.2.2.2.2.2.1
theorem dX0_change_38 : decode cX0_change 38 = .ok (.iload_n 1, 1) := dTo0_0.1.2.2.2.2.2.2.2.1
theorem dX0_change_39 : decode cX0_change 39 = .ok (.invokestatic 16, 3) := dTo0_0.1.2.2.2.2.2.2.2.2.1
theorem dX0_change_42 : decode cX0_change 42 = .ok (.ireturn, 1) := dTo0_0.1.2.2.2.2.2.2.2.2.2.1
theorem dX0_change_43 : decode cX0_change 43 = .ok (.iconst (-1), 1) := dTo0_0.2.1.1
theorem dX0_change_44 : decode cX0_change 44 = .ok (.ireturn, 1) := dTo0_0.2.1.2.1
theorem dX0_powered_9 : decode cX0_powered 9 = .ok (.lookupswitch 60 #[(0, 27), (1, 44)], 27) := by decide +kernel
theorem dTo0_1 : dQ cX0_powered [[(0, zop26, 0, 0), (1, zop184, 0, 21), (4, zop60, 0, 0), (5, zop26, 0, 0), (6, zop184, 0, 24), (36, zop27, 0, 0), (37, zop154, 0, 10), (40, zop7, 0, 0), (41, zop184, 0, 27), (44, zop167, 0, 8)], [(47, zop5, 0, 0), (48, zop27, 0, 0), (49, zop184, 0, 30), (52, zop172, 0, 0), (53, zop26, 0, 0), (54, zop184, 0, 34), (57, zop153, 0, 10), (60, zop3, 0, 0), (61, zop184, 0, 38), (64, zop167, 0, 4)], [(67, zop26, 0, 0), (68, zop172, 0, 0), (69, zop2, 0, 0), (70, zop172, 0, 0)]] := dQ_of _ _ (by decide +kernel)
theorem dX0_powered_0 : decode cX0_powered 0 = .ok (.iload_n 0, 1) := dTo0_1.1.1
theorem dX0_powered_1 : decode cX0_powered 1 = .ok (.invokestatic 21, 3) := dTo0_1.1.2.1
theorem dX0_powered_4 : decode cX0_powered 4 = .ok (.istore_n 1, 1) := dTo0_1.1.2.2.1
theorem dX0_powered_5 : decode cX0_powered 5 = .ok (.iload_n 0, 1) := dTo0_1.1.2.2.2.1
theorem dX0_powered_6 : decode cX0_powered 6 = .ok (.invokestatic 24, 3) := dTo0_1.1.2.2.2.2.1
theorem dX0_powered_36 : decode cX0_powered 36 = .ok (.iload_n 1, 1) := dTo0_1.1.2.2.2.2.2.1
theorem dX0_powered_37 : decode cX0_powered 37 = .ok (.ifCond .ne 10, 3) := dTo0_1.1.2.2.2.2.2.2.1
theorem dX0_powered_40 : decode cX0_powered 40 = .ok (.iconst 4, 1) := dTo0_1.1.2.2.2.2.2.2.2.1
theorem dX0_powered_41 : decode cX0_powered 41 = .ok (.invokestatic 27, 3) := dTo0_1.1.2.2.2.2.2.2.2.2.1
theorem dX0_powered_44 : decode cX0_powered 44 = .ok (.goto 8, 3) := dTo0_1.1.2.2.2.2.2.2.2.2.2.1
theorem dX0_powered_47 : decode cX0_powered 47 = .ok (.iconst 2, 1) := dTo0_1.2.1.1
theorem dX0_powered_48 : decode cX0_powered 48 = .ok (.iload_n 1, 1) := dTo0_1.2.1.2.1
theorem dX0_powered_49 : decode cX0_powered 49 = .ok (.invokestatic 30, 3) := dTo0_1.2.1.2.2.1
theorem dX0_powered_52 : decode cX0_powered 52 = .ok (.ireturn, 1) := dTo0_1.2.1.2.2.2.1
theorem dX0_powered_53 : decode cX0_powered 53 = .ok (.iload_n 0, 1) := dTo0_1.2.1.2.2.2.2.1
theorem dX0_powered_54 : decode cX0_powered 54 = .ok (.invokestatic 34, 3) := dTo0_1.2.1.2.2.2.2.2.1
theorem dX0_powered_57 : decode cX0_powered 57 = .ok (.ifCond .eq 10, 3) := dTo0_1.2.1.2.2.2.2.2.2.1
theorem dX0_powered_60 : decode cX0_powered 60 = .ok (.iconst 0, 1) := dTo0_1.2.1.2.2.2.2.2.2.2.1
theorem dX0_powered_61 : decode cX0_powered 61 = .ok (.invokestatic 38, 3) := dTo0_1.2.1.2.2.2.2.2.2.2.2.1
theorem dX0_powered_64 : decode cX0_powered 64 = .ok (.goto 4, 3) := dTo0_1.2.1.2.2.2.2.2.2.2.2.2.1
theorem dX0_powered_67 : decode cX0_powered 67 = .ok (.iload_n 0, 1) := dTo0_1.2.2.1.1
theorem dX0_powered_68 : decode cX0_powered 68 = .ok (.ireturn, 1) := dTo0_1.2.2.1.2.1
theorem dX0_powered_69 : decode cX0_powered 69 = .ok (.iconst (-1), 1) := dTo0_1.2.2.1.2.2.1
theorem dX0_powered_70 : decode cX0_powered 70 = .ok (.ireturn, 1) := dTo0_1.2.2.1.2.2.2.1
theorem dX0_lessened_9 : decode cX0_lessened 9 = .ok (.tableswitch 83 0 4 #[35, 59, 83, 83, 76], 35) := by decide +kernel
theorem dTo0_2 : dQ cX0_lessened [[(0, zop26, 0, 0), (1, zop184, 0, 21), (4, zop60, 0, 0), (5, zop26, 0, 0), (6, zop184, 0, 24), (44, zop27, 0, 0), (45, zop154, 0, 5), (48, zop26, 0, 0), (49, zop172, 0, 0), (50, zop5, 0, 0)], [(51, zop27, 0, 0), (52, zop184, 0, 42), (55, zop153, 0, 11), (58, zop6, 0, 0), (59, zop27, 0, 0), (60, zop184, 0, 30), (63, zop167, 0, 4), (66, zop2, 0, 0), (67, zop172, 0, 0), (68, zop26, 0, 0)], [(69, zop184, 0, 34), (72, zop153, 0, 11), (75, zop16, 252, 0), (77, zop184, 0, 27), (80, zop167, 0, 4), (83, zop26, 0, 0), (84, zop172, 0, 0), (85, zop16, 6, 0), (87, zop27, 0, 0), (88, zop184, 0, 30)], [(91, zop172, 0, 0), (92, zop2, 0, 0), (93, zop172, 0, 0)]] := dQ_of _ _ (by decide +kernel)
theorem dX0_lessened_0 : decode cX0_lessened 0 = .ok (.iload_n 0, 1) := dTo0_2.1.1
theorem dX0_lessened_1 : decode cX0_lessened 1 = .ok (.invokestatic 21, 3) := dTo0_2.1.2.1
theorem dX0_lessened_4 : decode cX0_lessened 4 = .ok (.istore_n 1, 1) := dTo0_2.1.2.2.1
theorem dX0_lessened_5 : decode cX0_lessened 5 = .ok (.iload_n 0, 1) := dTo0_2.1.2.2.2.1
theorem dX0_lessened_6 : decode cX0_lessened 6 = .ok (.invokestatic 24, 3) := dTo0_2.1.2.2.2.2.1
theorem dX0_lessened_44 : decode cX0_lessened 44 = .ok (.iload_n 1, 1) := dTo0_2.1.2.2.2.2.2.1
theorem dX0_lessened_45 : decode cX0_lessened 45 = .ok (.ifCond .ne 5, 3) := dTo0_2.1.2.2.2.2.2.2.1
theorem dX0_lessened_48 : decode cX0_lessened 48 = .ok (.iload_n 0, 1) := dTo0_2.1.2.2.2.2.2.2.2.1
theorem dX0_lessened_49 : decode cX0_lessened 49 = .ok (.ireturn, 1) := dTo0_2.1.2.2.2.2.2.2.2.2.1
theorem dX0_lessened_50 : decode cX0_lessened 50 = .ok (.iconst 2, 1) := dTo0_2.1.2.2.2.2.2.2.2.2.2.1
theorem dX0_lessened_51 : decode cX0_lessened 51 = .ok (.iload_n 1, 1) := dTo0_2.2.1.1
theorem dX0_lessened_52 : decode cX0_lessened 52 = .ok (.invokestatic 42, 3) := dTo0_2.2.1.2.1
theorem dX0_lessened_55 : decode cX0_lessened 55 = .ok (.ifCond .eq 11, 3) := dTo0_2.2.1.2.2.1
theorem dX0_lessened_58 : decode cX0_lessened 58 = .ok (.iconst 3, 1) := dTo0_2.2.1.2.2.2.1
theorem dX0_lessened_59 : decode cX0_lessened 59 = .ok (.iload_n 1, 1) := dTo0_2.2.1.2.2.2.2.1
theorem dX0_lessened_60 : decode cX0_lessened 60 = .ok (.invokestatic 30, 3) := dTo0_2.2.1.2.2.2.2.2.1
theorem dX0_lessened_63 : decode cX0_lessened 63 = .ok (.goto 4, 3) := dTo0_2.2.1.2.2.2.2.2.2.1
theorem dX0_lessened_66 : decode cX0_lessened 66 = .ok (.iconst (-1), 1) := dTo0_2.2.1.2.2.2.2.2.2.2.1
theorem dX0_lessened_67 : decode cX0_lessened 67 = .ok (.ireturn, 1) := dTo0_2.2.1.2.2.2.2.2.2.2.2.1
theorem dX0_lessened_68 : decode cX0_lessened 68 = .ok (.iload_n 0, 1) := dTo0_2.2.1.2.2.2.2.2.2.2.2.2.1
theorem dX0_lessened_69 : decode cX0_lessened 69 = .ok (.invokestatic 34, 3) := dTo0_2.2.2.1.1
theorem dX0_lessened_72 : decode cX0_lessened 72 = .ok (.ifCond .eq 11, 3) := dTo0_2.2.2.1.2.1
theorem dX0_lessened_75 : decode cX0_lessened 75 = .ok (.bipush (-4), 2) := dTo0_2.2.2.1.2.2.1
theorem dX0_lessened_77 : decode cX0_lessened 77 = .ok (.invokestatic 27, 3) := dTo0_2.2.2.1.2.2.2.1
theorem dX0_lessened_80 : decode cX0_lessened 80 = .ok (.goto 4, 3) := dTo0_2.2.2.1.2.2.2.2.1
theorem dX0_lessened_83 : decode cX0_lessened 83 = .ok (.iload_n 0, 1) := dTo0_2.2.2.1.2.2.2.2.2.1
theorem dX0_lessened_84 : decode cX0_lessened 84 = .ok (.ireturn, 1) := dTo0_2.2.2.1.2.2.2.2.2.2.1
theorem dX0_lessened_85 : decode cX0_lessened 85 = .ok (.bipush 6, 2) := dTo0_2.2.2.1.2.2.2.2.2.2.2.1
theorem dX0_lessened_87 : decode cX0_lessened 87 = .ok (.iload_n 1, 1) := dTo0_2.2.2.1.2.2.2.2.2.2.2.2.1
theorem dX0_lessened_88 : decode cX0_lessened 88 = .ok (.invokestatic 30, 3) := dTo0_2.2.2.1.2.2.2.2.2.2.2.2.2.1
theorem dX0_lessened_91 : decode cX0_lessened 91 = .ok (.ireturn, 1) := dTo0_2.2.2.2.1.1
theorem dX0_lessened_92 : decode cX0_lessened 92 = .ok (.iconst (-1), 1) := dTo0_2.2.2.2.1.2.1
theorem dX0_lessened_93 : decode cX0_lessened 93 = .ok (.ireturn, 1) := dTo0_2.2.2.2.1.2.2.1
theorem dX0_logged_9 : decode cX0_logged 9 = .ok (.tableswitch 77 0 3 #[31, 37, 77, 50], 31) := by decide +kernel
theorem dTo0_3 : dQ cX0_logged [[(0, zop26, 0, 0), (1, zop184, 0, 21), (4, zop60, 0, 0), (5, zop26, 0, 0), (6, zop184, 0, 24), (40, zop26, 0, 0), (41, zop27, 0, 0), (42, zop184, 0, 48), (45, zop172, 0, 0), (46, zop26, 0, 0)], [(47, zop184, 0, 34), (50, zop153, 0, 7), (53, zop2, 0, 0), (54, zop167, 0, 4), (57, zop26, 0, 0), (58, zop172, 0, 0), (59, zop27, 0, 0), (60, zop16, 251, 0), (62, zop164, 0, 8), (65, zop27, 0, 0)], [(66, zop184, 0, 27), (69, zop172, 0, 0), (70, zop27, 0, 0), (71, zop16, 224, 0), (73, zop161, 0, 11), (76, zop8, 0, 0), (77, zop27, 0, 0), (78, zop184, 0, 30), (81, zop167, 0, 4), (84, zop2, 0, 0)], [(85, zop172, 0, 0), (86, zop2, 0, 0), (87, zop172, 0, 0)]] := dQ_of _ _ (by decide +kernel)
theorem dX0_logged_0 : decode cX0_logged 0 = .ok (.iload_n 0, 1) := dTo0_3.1.1
theorem dX0_logged_1 : decode cX0_logged 1 = .ok (.invokestatic 21, 3) := dTo0_3.1.2.1
theorem dX0_logged_4 : decode cX0_logged 4 = .ok (.istore_n 1, 1) := dTo0_3.1.2.2.1
theorem dX0_logged_5 : decode cX0_logged 5 = .ok (.iload_n 0, 1) := dTo0_3.1.2.2.2.1
theorem dX0_logged_6 : decode cX0_logged 6 = .ok (.invokestatic 24, 3) := dTo0_3.1.2.2.2.2.1
theorem dX0_logged_40 : decode cX0_logged 40 = .ok (.iload_n 0, 1) := dTo0_3.1.2.2.2.2.2.1
theorem dX0_logged_41 : decode cX0_logged 41 = .ok (.iload_n 1, 1) := dTo0_3.1.2.2.2.2.2.2.1
theorem dX0_logged_42 : decode cX0_logged 42 = .ok (.invokestatic 48, 3) := dTo0_3.1.2.2.2.2.2.2.2.1
theorem dX0_logged_45 : decode cX0_logged 45 = .ok (.ireturn, 1) := dTo0_3.1.2.2.2.2.2.2.2.2.1
theorem dX0_logged_46 : decode cX0_logged 46 = .ok (.iload_n 0, 1) := dTo0_3.1.2.2.2.2.2.2.2.2.2.1
theorem dX0_logged_47 : decode cX0_logged 47 = .ok (.invokestatic 34, 3) := dTo0_3.2.1.1
theorem dX0_logged_50 : decode cX0_logged 50 = .ok (.ifCond .eq 7, 3) := dTo0_3.2.1.2.1
theorem dX0_logged_53 : decode cX0_logged 53 = .ok (.iconst (-1), 1) := dTo0_3.2.1.2.2.1
theorem dX0_logged_54 : decode cX0_logged 54 = .ok (.goto 4, 3) := dTo0_3.2.1.2.2.2.1
theorem dX0_logged_57 : decode cX0_logged 57 = .ok (.iload_n 0, 1) := dTo0_3.2.1.2.2.2.2.1
theorem dX0_logged_58 : decode cX0_logged 58 = .ok (.ireturn, 1) := dTo0_3.2.1.2.2.2.2.2.1
theorem dX0_logged_59 : decode cX0_logged 59 = .ok (.iload_n 1, 1) := dTo0_3.2.1.2.2.2.2.2.2.1
theorem dX0_logged_60 : decode cX0_logged 60 = .ok (.bipush (-5), 2) := dTo0_3.2.1.2.2.2.2.2.2.2.1
theorem dX0_logged_62 : decode cX0_logged 62 = .ok (.if_icmp .le 8, 3) := dTo0_3.2.1.2.2.2.2.2.2.2.2.1
theorem dX0_logged_65 : decode cX0_logged 65 = .ok (.iload_n 1, 1) := dTo0_3.2.1.2.2.2.2.2.2.2.2.2.1
theorem dX0_logged_66 : decode cX0_logged 66 = .ok (.invokestatic 27, 3) := dTo0_3.2.2.1.1
theorem dX0_logged_69 : decode cX0_logged 69 = .ok (.ireturn, 1) := dTo0_3.2.2.1.2.1
theorem dX0_logged_70 : decode cX0_logged 70 = .ok (.iload_n 1, 1) := dTo0_3.2.2.1.2.2.1
theorem dX0_logged_71 : decode cX0_logged 71 = .ok (.bipush (-32), 2) := dTo0_3.2.2.1.2.2.2.1
theorem dX0_logged_73 : decode cX0_logged 73 = .ok (.if_icmp .lt 11, 3) := dTo0_3.2.2.1.2.2.2.2.1
theorem dX0_logged_76 : decode cX0_logged 76 = .ok (.iconst 5, 1) := dTo0_3.2.2.1.2.2.2.2.2.1
theorem dX0_logged_77 : decode cX0_logged 77 = .ok (.iload_n 1, 1) := dTo0_3.2.2.1.2.2.2.2.2.2.1
theorem dX0_logged_78 : decode cX0_logged 78 = .ok (.invokestatic 30, 3) := dTo0_3.2.2.1.2.2.2.2.2.2.2.1
theorem dX0_logged_81 : decode cX0_logged 81 = .ok (.goto 4, 3) := dTo0_3.2.2.1.2.2.2.2.2.2.2.2.1
theorem dX0_logged_84 : decode cX0_logged 84 = .ok (.iconst (-1), 1) := dTo0_3.2.2.1.2.2.2.2.2.2.2.2.2.1
theorem dX0_logged_85 : decode cX0_logged 85 = .ok (.ireturn, 1) := dTo0_3.2.2.2.1.1
theorem dX0_logged_86 : decode cX0_logged 86 = .ok (.iconst (-1), 1) := dTo0_3.2.2.2.1.2.1
theorem dX0_logged_87 : decode cX0_logged 87 = .ok (.ireturn, 1) := dTo0_3.2.2.2.1.2.2.1
theorem dTo0_4 : dQ cX0_loggedQuarter [[(0, zop27, 0, 0), (1, zop154, 0, 5), (4, zop26, 0, 0), (5, zop172, 0, 0), (6, zop27, 0, 0), (7, zop16, 252, 0), (9, zop160, 0, 8), (12, zop4, 0, 0), (13, zop184, 0, 51), (16, zop172, 0, 0)], [(17, zop6, 0, 0), (18, zop27, 0, 0), (19, zop184, 0, 42), (22, zop153, 0, 11), (25, zop7, 0, 0), (26, zop27, 0, 0), (27, zop184, 0, 30), (30, zop167, 0, 4), (33, zop2, 0, 0), (34, zop172, 0, 0)]] := dQ_of _ _ (by decide +kernel)
theorem dX0_loggedQuarter_0 : decode cX0_loggedQuarter 0 = .ok (.iload_n 1, 1) := dTo0_4.1.1
theorem dX0_loggedQuarter_1 : decode cX0_loggedQuarter 1 = .ok (.ifCond .ne 5, 3) := dTo0_4.1.2.1
theorem dX0_loggedQuarter_4 : decode cX0_loggedQuarter 4 = .ok (.iload_n 0, 1) := dTo0_4.1.2.2.1
theorem dX0_loggedQuarter_5 : decode cX0_loggedQuarter 5 = .ok (.ireturn, 1) := dTo0_4.1.2.2.2.1
theorem dX0_loggedQuarter_6 : decode cX0_loggedQuarter 6 = .ok (.iload_n 1, 1) := dTo0_4.1.2.2.2.2.1
theorem dX0_loggedQuarter_7 : decode cX0_loggedQuarter 7 = .ok (.bipush (-4), 2) := dTo0_4.1.2.2.2.2.2.1
theorem dX0_loggedQuarter_9 : decode cX0_loggedQuarter 9 = .ok (.if_icmp .ne 8, 3) := dTo0_4.1.2.2.2.2.2.2.1
theorem dX0_loggedQuarter_12 : decode cX0_loggedQuarter 12 = .ok (.iconst 1, 1) := dTo0_4.1.2.2.2.2.2.2.2.1
theorem dX0_loggedQuarter_13 : decode cX0_loggedQuarter 13 = .ok (.invokestatic 51, 3) := dTo0_4.1.2.2.2.2.2.2.2.2.1
theorem dX0_loggedQuarter_16 : decode cX0_loggedQuarter 16 = .ok (.ireturn, 1) := dTo0_4.1.2.2.2.2.2.2.2.2.2.1
theorem dX0_loggedQuarter_17 : decode cX0_loggedQuarter 17 = .ok (.iconst 3, 1) := dTo0_4.2.1.1
theorem dX0_loggedQuarter_18 : decode cX0_loggedQuarter 18 = .ok (.iload_n 1, 1) := dTo0_4.2.1.2.1
theorem dX0_loggedQuarter_19 : decode cX0_loggedQuarter 19 = .ok (.invokestatic 42, 3) := dTo0_4.2.1.2.2.1
theorem dX0_loggedQuarter_22 : decode cX0_loggedQuarter 22 = .ok (.ifCond .eq 11, 3) := dTo0_4.2.1.2.2.2.1
theorem dX0_loggedQuarter_25 : decode cX0_loggedQuarter 25 = .ok (.iconst 4, 1) := dTo0_4.2.1.2.2.2.2.1
theorem dX0_loggedQuarter_26 : decode cX0_loggedQuarter 26 = .ok (.iload_n 1, 1) := dTo0_4.2.1.2.2.2.2.2.1
theorem dX0_loggedQuarter_27 : decode cX0_loggedQuarter 27 = .ok (.invokestatic 30, 3) := dTo0_4.2.1.2.2.2.2.2.2.1
theorem dX0_loggedQuarter_30 : decode cX0_loggedQuarter 30 = .ok (.goto 4, 3) := dTo0_4.2.1.2.2.2.2.2.2.2.1
theorem dX0_loggedQuarter_33 : decode cX0_loggedQuarter 33 = .ok (.iconst (-1), 1) := dTo0_4.2.1.2.2.2.2.2.2.2.2.1
theorem dX0_loggedQuarter_34 : decode cX0_loggedQuarter 34 = .ok (.ireturn, 1) := dTo0_4.2.1.2.2.2.2.2.2.2.2.2.1
theorem dTo0_5 : dQ cX1_digitsOf [[(0, zop26, 0, 0), (1, zop184, 0, 9), (4, zop26, 0, 0), (5, zop184, 0, 15), (8, zop26, 0, 0), (9, zop184, 0, 18), (12, zop184, 0, 22), (15, zop173, 0, 0)]] := dQ_of _ _ (by decide +kernel)
theorem dX1_digitsOf_0 : decode cX1_digitsOf 0 = .ok (.iload_n 0, 1) := dTo0_5.1.1
theorem dX1_digitsOf_1 : decode cX1_digitsOf 1 = .ok (.invokestatic 9, 3) := dTo0_5.1.2.1
theorem dX1_digitsOf_4 : decode cX1_digitsOf 4 = .ok (.iload_n 0, 1) := dTo0_5.1.2.2.1
theorem dX1_digitsOf_5 : decode cX1_digitsOf 5 = .ok (.invokestatic 15, 3) := dTo0_5.1.2.2.2.1
theorem dX1_digitsOf_8 : decode cX1_digitsOf 8 = .ok (.iload_n 0, 1) := dTo0_5.1.2.2.2.2.1
theorem dX1_digitsOf_9 : decode cX1_digitsOf 9 = .ok (.invokestatic 18, 3) := dTo0_5.1.2.2.2.2.2.1
theorem dX1_digitsOf_12 : decode cX1_digitsOf 12 = .ok (.invokestatic 22, 3) := dTo0_5.1.2.2.2.2.2.2.1
theorem dX1_digitsOf_15 : decode cX1_digitsOf 15 = .ok (.lreturn, 1) := dTo0_5.1.2.2.2.2.2.2.2.1
theorem dX1_ofKind_13 : decode cX1_ofKind 13 = .ok (.tableswitch 77 1 4 #[31, 37, 51, 64], 31) := by decide +kernel
theorem dTo0_6 : dQ cX1_ofKind [[(0, zop28, 0, 0), (1, zop153, 0, 9), (4, zop20, 0, 26), (7, zop167, 0, 4), (10, zop9, 0, 0), (11, zop66, 0, 0), (12, zop26, 0, 0), (44, zop33, 0, 0), (45, zop20, 0, 28), (48, zop129, 0, 0)], [(49, zop173, 0, 0), (50, zop33, 0, 0), (51, zop178, 0, 30), (54, zop27, 0, 0), (55, zop17, 255, 96), (58, zop100, 0, 0), (59, zop184, 0, 36), (62, zop129, 0, 0), (63, zop173, 0, 0), (64, zop33, 0, 0)], [(65, zop178, 0, 40), (68, zop27, 0, 0), (69, zop16, 128, 0), (71, zop100, 0, 0), (72, zop184, 0, 36), (75, zop129, 0, 0), (76, zop173, 0, 0), (77, zop33, 0, 0), (78, zop178, 0, 43), (81, zop27, 0, 0)], [(82, zop16, 253, 0), (84, zop100, 0, 0), (85, zop184, 0, 36), (88, zop129, 0, 0), (89, zop173, 0, 0), (90, zop33, 0, 0), (91, zop27, 0, 0), (92, zop133, 0, 0), (93, zop5, 0, 0), (94, zop184, 0, 46)], [(97, zop129, 0, 0), (98, zop173, 0, 0)]] := dQ_of _ _ (by decide +kernel)
theorem dX1_ofKind_0 : decode cX1_ofKind 0 = .ok (.iload_n 2, 1) := dTo0_6.1.1
theorem dX1_ofKind_1 : decode cX1_ofKind 1 = .ok (.ifCond .eq 9, 3) := dTo0_6.1.2.1
theorem dX1_ofKind_4 : decode cX1_ofKind 4 = .ok (.ldc2_w 26, 3) := dTo0_6.1.2.2.1
theorem dX1_ofKind_7 : decode cX1_ofKind 7 = .ok (.goto 4, 3) := dTo0_6.1.2.2.2.1
theorem dX1_ofKind_10 : decode cX1_ofKind 10 = .ok (.lconst 0, 1) := dTo0_6.1.2.2.2.2.1
theorem dX1_ofKind_11 : decode cX1_ofKind 11 = .ok (.lstore_n 3, 1) := dTo0_6.1.2.2.2.2.2.1
theorem dX1_ofKind_12 : decode cX1_ofKind 12 = .ok (.iload_n 0, 1) := dTo0_6.1.2.2.2.2.2.2.1
theorem dX1_ofKind_44 : decode cX1_ofKind 44 = .ok (.lload_n 3, 1) := dTo0_6.1.2.2.2.2.2.2.2.1
theorem dX1_ofKind_45 : decode cX1_ofKind 45 = .ok (.ldc2_w 28, 3) := dTo0_6.1.2.2.2.2.2.2.2.2.1
theorem dX1_ofKind_48 : decode cX1_ofKind 48 = .ok (.lor, 1) := dTo0_6.1.2.2.2.2.2.2.2.2.2.1
theorem dX1_ofKind_49 : decode cX1_ofKind 49 = .ok (.lreturn, 1) := dTo0_6.2.1.1
theorem dX1_ofKind_50 : decode cX1_ofKind 50 = .ok (.lload_n 3, 1) := dTo0_6.2.1.2.1
theorem dX1_ofKind_51 : decode cX1_ofKind 51 = .ok (.getstatic 30, 3) := dTo0_6.2.1.2.2.1
theorem dX1_ofKind_54 : decode cX1_ofKind 54 = .ok (.iload_n 1, 1) := dTo0_6.2.1.2.2.2.1
theorem dX1_ofKind_55 : decode cX1_ofKind 55 = .ok (.sipush (-160), 3) := dTo0_6.2.1.2.2.2.2.1
theorem dX1_ofKind_58 : decode cX1_ofKind 58 = .ok (.isub, 1) := dTo0_6.2.1.2.2.2.2.2.1
theorem dX1_ofKind_59 : decode cX1_ofKind 59 = .ok (.invokestatic 36, 3) := dTo0_6.2.1.2.2.2.2.2.2.1
theorem dX1_ofKind_62 : decode cX1_ofKind 62 = .ok (.lor, 1) := dTo0_6.2.1.2.2.2.2.2.2.2.1
theorem dX1_ofKind_63 : decode cX1_ofKind 63 = .ok (.lreturn, 1) := dTo0_6.2.1.2.2.2.2.2.2.2.2.1
theorem dX1_ofKind_64 : decode cX1_ofKind 64 = .ok (.lload_n 3, 1) := dTo0_6.2.1.2.2.2.2.2.2.2.2.2.1
theorem dX1_ofKind_65 : decode cX1_ofKind 65 = .ok (.getstatic 40, 3) := dTo0_6.2.2.1.1
theorem dX1_ofKind_68 : decode cX1_ofKind 68 = .ok (.iload_n 1, 1) := dTo0_6.2.2.1.2.1
theorem dX1_ofKind_69 : decode cX1_ofKind 69 = .ok (.bipush (-128), 2) := dTo0_6.2.2.1.2.2.1
theorem dX1_ofKind_71 : decode cX1_ofKind 71 = .ok (.isub, 1) := dTo0_6.2.2.1.2.2.2.1
theorem dX1_ofKind_72 : decode cX1_ofKind 72 = .ok (.invokestatic 36, 3) := dTo0_6.2.2.1.2.2.2.2.1
theorem dX1_ofKind_75 : decode cX1_ofKind 75 = .ok (.lor, 1) := dTo0_6.2.2.1.2.2.2.2.2.1
theorem dX1_ofKind_76 : decode cX1_ofKind 76 = .ok (.lreturn, 1) := dTo0_6.2.2.1.2.2.2.2.2.2.1
theorem dX1_ofKind_77 : decode cX1_ofKind 77 = .ok (.lload_n 3, 1) := dTo0_6.2.2.1.2.2.2.2.2.2.2.1
theorem dX1_ofKind_78 : decode cX1_ofKind 78 = .ok (.getstatic 43, 3) := dTo0_6.2.2.1.2.2.2.2.2.2.2.2.1
theorem dX1_ofKind_81 : decode cX1_ofKind 81 = .ok (.iload_n 1, 1) := dTo0_6.2.2.1.2.2.2.2.2.2.2.2.2.1
theorem dX1_ofKind_82 : decode cX1_ofKind 82 = .ok (.bipush (-3), 2) := dTo0_6.2.2.2.1.1
theorem dX1_ofKind_84 : decode cX1_ofKind 84 = .ok (.isub, 1) := dTo0_6.2.2.2.1.2.1
theorem dX1_ofKind_85 : decode cX1_ofKind 85 = .ok (.invokestatic 36, 3) := dTo0_6.2.2.2.1.2.2.1
theorem dX1_ofKind_88 : decode cX1_ofKind 88 = .ok (.lor, 1) := dTo0_6.2.2.2.1.2.2.2.1
theorem dX1_ofKind_89 : decode cX1_ofKind 89 = .ok (.lreturn, 1) := dTo0_6.2.2.2.1.2.2.2.2.1
theorem dX1_ofKind_90 : decode cX1_ofKind 90 = .ok (.lload_n 3, 1) := dTo0_6.2.2.2.1.2.2.2.2.2.1
theorem dX1_ofKind_91 : decode cX1_ofKind 91 = .ok (.iload_n 1, 1) := dTo0_6.2.2.2.1.2.2.2.2.2.2.1
theorem dX1_ofKind_92 : decode cX1_ofKind 92 = .ok (.i2l, 1) := dTo0_6.2.2.2.1.2.2.2.2.2.2.2.1
theorem dX1_ofKind_93 : decode cX1_ofKind 93 = .ok (.iconst 2, 1) := dTo0_6.2.2.2.1.2.2.2.2.2.2.2.2.1
theorem dX1_ofKind_94 : decode cX1_ofKind 94 = .ok (.invokestatic 46, 3) := dTo0_6.2.2.2.1.2.2.2.2.2.2.2.2.2.1
theorem dX1_ofKind_97 : decode cX1_ofKind 97 = .ok (.lor, 1) := dTo0_6.2.2.2.2.1.1
theorem dX1_ofKind_98 : decode cX1_ofKind 98 = .ok (.lreturn, 1) := dTo0_6.2.2.2.2.1.2.1
theorem dTo0_7 : dQ cX1_scaled [[(0, zop30, 0, 0), (1, zop9, 0, 0), (2, zop148, 0, 0), (3, zop154, 0, 5), (6, zop9, 0, 0), (7, zop173, 0, 0), (8, zop30, 0, 0), (9, zop9, 0, 0), (10, zop148, 0, 0), (11, zop156, 0, 8)], [(14, zop30, 0, 0), (15, zop117, 0, 0), (16, zop167, 0, 4), (19, zop30, 0, 0), (20, zop66, 0, 0), (21, zop17, 4, 51), (24, zop28, 0, 0), (25, zop100, 0, 0), (26, zop133, 0, 0), (27, zop55, 5, 0)], [(29, zop3, 0, 0), (30, zop54, 7, 0), (32, zop21, 7, 0), (34, zop16, 52, 0), (36, zop162, 0, 27), (39, zop33, 0, 0), (40, zop20, 0, 50), (43, zop148, 0, 0), (44, zop156, 0, 19), (47, zop33, 0, 0)], [(48, zop4, 0, 0), (49, zop121, 0, 0), (50, zop66, 0, 0), (51, zop22, 5, 0), (53, zop10, 0, 0), (54, zop101, 0, 0), (55, zop55, 5, 0), (57, zop132, 7, 1), (60, zop167, 255, 228), (63, zop22, 5, 0)], [(65, zop16, 52, 0), (67, zop121, 0, 0), (68, zop33, 0, 0), (69, zop20, 0, 52), (72, zop127, 0, 0), (73, zop129, 0, 0), (74, zop55, 7, 0), (76, zop30, 0, 0), (77, zop9, 0, 0), (78, zop148, 0, 0)], [(79, zop156, 0, 12), (82, zop22, 7, 0), (84, zop20, 0, 26), (87, zop129, 0, 0), (88, zop167, 0, 5), (91, zop22, 7, 0), (93, zop173, 0, 0)]] := dQ_of _ _ (by decide +kernel)
theorem dX1_scaled_0 : decode cX1_scaled 0 = .ok (.lload_n 0, 1) := dTo0_7.1.1
theorem dX1_scaled_1 : decode cX1_scaled 1 = .ok (.lconst 0, 1) := dTo0_7.1.2.1
theorem dX1_scaled_2 : decode cX1_scaled 2 = .ok (.lcmp, 1) := dTo0_7.1.2.2.1
theorem dX1_scaled_3 : decode cX1_scaled 3 = .ok (.ifCond .ne 5, 3) := dTo0_7.1.2.2.2.1
theorem dX1_scaled_6 : decode cX1_scaled 6 = .ok (.lconst 0, 1) := dTo0_7.1.2.2.2.2.1
theorem dX1_scaled_7 : decode cX1_scaled 7 = .ok (.lreturn, 1) := dTo0_7.1.2.2.2.2.2.1
theorem dX1_scaled_8 : decode cX1_scaled 8 = .ok (.lload_n 0, 1) := dTo0_7.1.2.2.2.2.2.2.1
theorem dX1_scaled_9 : decode cX1_scaled 9 = .ok (.lconst 0, 1) := dTo0_7.1.2.2.2.2.2.2.2.1
theorem dX1_scaled_10 : decode cX1_scaled 10 = .ok (.lcmp, 1) := dTo0_7.1.2.2.2.2.2.2.2.2.1
theorem dX1_scaled_11 : decode cX1_scaled 11 = .ok (.ifCond .ge 8, 3) := dTo0_7.1.2.2.2.2.2.2.2.2.2.1
theorem dX1_scaled_14 : decode cX1_scaled 14 = .ok (.lload_n 0, 1) := dTo0_7.2.1.1
theorem dX1_scaled_15 : decode cX1_scaled 15 = .ok (.lneg, 1) := dTo0_7.2.1.2.1
theorem dX1_scaled_16 : decode cX1_scaled 16 = .ok (.goto 4, 3) := dTo0_7.2.1.2.2.1
theorem dX1_scaled_19 : decode cX1_scaled 19 = .ok (.lload_n 0, 1) := dTo0_7.2.1.2.2.2.1
theorem dX1_scaled_20 : decode cX1_scaled 20 = .ok (.lstore_n 3, 1) := dTo0_7.2.1.2.2.2.2.1
theorem dX1_scaled_21 : decode cX1_scaled 21 = .ok (.sipush 1075, 3) := dTo0_7.2.1.2.2.2.2.2.1
theorem dX1_scaled_24 : decode cX1_scaled 24 = .ok (.iload_n 2, 1) := dTo0_7.2.1.2.2.2.2.2.2.1
theorem dX1_scaled_25 : decode cX1_scaled 25 = .ok (.isub, 1) := dTo0_7.2.1.2.2.2.2.2.2.2.1
theorem dX1_scaled_26 : decode cX1_scaled 26 = .ok (.i2l, 1) := dTo0_7.2.1.2.2.2.2.2.2.2.2.1
theorem dX1_scaled_27 : decode cX1_scaled 27 = .ok (.lstore 5, 2) := dTo0_7.2.1.2.2.2.2.2.2.2.2.2.1
theorem dX1_scaled_29 : decode cX1_scaled 29 = .ok (.iconst 0, 1) := dTo0_7.2.2.1.1
theorem dX1_scaled_30 : decode cX1_scaled 30 = .ok (.istore 7, 2) := dTo0_7.2.2.1.2.1
theorem dX1_scaled_32 : decode cX1_scaled 32 = .ok (.iload 7, 2) := dTo0_7.2.2.1.2.2.1
theorem dX1_scaled_34 : decode cX1_scaled 34 = .ok (.bipush 52, 2) := dTo0_7.2.2.1.2.2.2.1
theorem dX1_scaled_36 : decode cX1_scaled 36 = .ok (.if_icmp .ge 27, 3) := dTo0_7.2.2.1.2.2.2.2.1
theorem dX1_scaled_39 : decode cX1_scaled 39 = .ok (.lload_n 3, 1) := dTo0_7.2.2.1.2.2.2.2.2.1
theorem dX1_scaled_40 : decode cX1_scaled 40 = .ok (.ldc2_w 50, 3) := dTo0_7.2.2.1.2.2.2.2.2.2.1
theorem dX1_scaled_43 : decode cX1_scaled 43 = .ok (.lcmp, 1) := dTo0_7.2.2.1.2.2.2.2.2.2.2.1
theorem dX1_scaled_44 : decode cX1_scaled 44 = .ok (.ifCond .ge 19, 3) := dTo0_7.2.2.1.2.2.2.2.2.2.2.2.1
theorem dX1_scaled_47 : decode cX1_scaled 47 = .ok (.lload_n 3, 1) := dTo0_7.2.2.1.2.2.2.2.2.2.2.2.2.1
theorem dX1_scaled_48 : decode cX1_scaled 48 = .ok (.iconst 1, 1) := dTo0_7.2.2.2.1.1
theorem dX1_scaled_49 : decode cX1_scaled 49 = .ok (.lshl, 1) := dTo0_7.2.2.2.1.2.1
theorem dX1_scaled_50 : decode cX1_scaled 50 = .ok (.lstore_n 3, 1) := dTo0_7.2.2.2.1.2.2.1
theorem dX1_scaled_51 : decode cX1_scaled 51 = .ok (.lload 5, 2) := dTo0_7.2.2.2.1.2.2.2.1
theorem dX1_scaled_53 : decode cX1_scaled 53 = .ok (.lconst 1, 1) := dTo0_7.2.2.2.1.2.2.2.2.1
theorem dX1_scaled_54 : decode cX1_scaled 54 = .ok (.lsub, 1) := dTo0_7.2.2.2.1.2.2.2.2.2.1
theorem dX1_scaled_55 : decode cX1_scaled 55 = .ok (.lstore 5, 2) := dTo0_7.2.2.2.1.2.2.2.2.2.2.1
theorem dX1_scaled_57 : decode cX1_scaled 57 = .ok (.iinc 7 1, 3) := dTo0_7.2.2.2.1.2.2.2.2.2.2.2.1
theorem dX1_scaled_60 : decode cX1_scaled 60 = .ok (.goto (-28), 3) := dTo0_7.2.2.2.1.2.2.2.2.2.2.2.2.1
theorem dX1_scaled_63 : decode cX1_scaled 63 = .ok (.lload 5, 2) := dTo0_7.2.2.2.1.2.2.2.2.2.2.2.2.2.1
theorem dX1_scaled_65 : decode cX1_scaled 65 = .ok (.bipush 52, 2) := dTo0_7.2.2.2.2.1.1
theorem dX1_scaled_67 : decode cX1_scaled 67 = .ok (.lshl, 1) := dTo0_7.2.2.2.2.1.2.1
theorem dX1_scaled_68 : decode cX1_scaled 68 = .ok (.lload_n 3, 1) := dTo0_7.2.2.2.2.1.2.2.1
theorem dX1_scaled_69 : decode cX1_scaled 69 = .ok (.ldc2_w 52, 3) := dTo0_7.2.2.2.2.1.2.2.2.1
theorem dX1_scaled_72 : decode cX1_scaled 72 = .ok (.land, 1) := dTo0_7.2.2.2.2.1.2.2.2.2.1
theorem dX1_scaled_73 : decode cX1_scaled 73 = .ok (.lor, 1) := dTo0_7.2.2.2.2.1.2.2.2.2.2.1
theorem dX1_scaled_74 : decode cX1_scaled 74 = .ok (.lstore 7, 2) := dTo0_7.2.2.2.2.1.2.2.2.2.2.2.1
theorem dX1_scaled_76 : decode cX1_scaled 76 = .ok (.lload_n 0, 1) := dTo0_7.2.2.2.2.1.2.2.2.2.2.2.2.1
theorem dX1_scaled_77 : decode cX1_scaled 77 = .ok (.lconst 0, 1) := dTo0_7.2.2.2.2.1.2.2.2.2.2.2.2.2.1
theorem dX1_scaled_78 : decode cX1_scaled 78 = .ok (.lcmp, 1) := dTo0_7.2.2.2.2.1.2.2.2.2.2.2.2.2.2.1
theorem dX1_scaled_79 : decode cX1_scaled 79 = .ok (.ifCond .ge 12, 3) := dTo0_7.2.2.2.2.2.1.1
theorem dX1_scaled_82 : decode cX1_scaled 82 = .ok (.lload 7, 2) := dTo0_7.2.2.2.2.2.1.2.1
theorem dX1_scaled_84 : decode cX1_scaled 84 = .ok (.ldc2_w 26, 3) := dTo0_7.2.2.2.2.2.1.2.2.1
theorem dX1_scaled_87 : decode cX1_scaled 87 = .ok (.lor, 1) := dTo0_7.2.2.2.2.2.1.2.2.2.1
theorem dX1_scaled_88 : decode cX1_scaled 88 = .ok (.goto 5, 3) := dTo0_7.2.2.2.2.2.1.2.2.2.2.1
theorem dX1_scaled_91 : decode cX1_scaled 91 = .ok (.lload 7, 2) := dTo0_7.2.2.2.2.2.1.2.2.2.2.2.1
theorem dX1_scaled_93 : decode cX1_scaled 93 = .ok (.lreturn, 1) := dTo0_7.2.2.2.2.2.1.2.2.2.2.2.2.1
theorem dTo0_8 : dQ cX1_mantissaOf [[(0, zop20, 0, 50), (3, zop30, 0, 0), (4, zop20, 0, 52), (7, zop127, 0, 0), (8, zop129, 0, 0), (9, zop173, 0, 0)]] := dQ_of _ _ (by decide +kernel)
theorem dX1_mantissaOf_0 : decode cX1_mantissaOf 0 = .ok (.ldc2_w 50, 3) := dTo0_8.1.1
theorem dX1_mantissaOf_3 : decode cX1_mantissaOf 3 = .ok (.lload_n 0, 1) := dTo0_8.1.2.1
theorem dX1_mantissaOf_4 : decode cX1_mantissaOf 4 = .ok (.ldc2_w 52, 3) := dTo0_8.1.2.2.1
theorem dX1_mantissaOf_7 : decode cX1_mantissaOf 7 = .ok (.land, 1) := dTo0_8.1.2.2.2.1
theorem dX1_mantissaOf_8 : decode cX1_mantissaOf 8 = .ok (.lor, 1) := dTo0_8.1.2.2.2.2.1
theorem dX1_mantissaOf_9 : decode cX1_mantissaOf 9 = .ok (.lreturn, 1) := dTo0_8.1.2.2.2.2.2.1
theorem dTo0_9 : dQ cX1_exponentOf [[(0, zop30, 0, 0), (1, zop16, 52, 0), (3, zop123, 0, 0), (4, zop136, 0, 0), (5, zop17, 7, 255), (8, zop126, 0, 0), (9, zop172, 0, 0)]] := dQ_of _ _ (by decide +kernel)
theorem dX1_exponentOf_0 : decode cX1_exponentOf 0 = .ok (.lload_n 0, 1) := dTo0_9.1.1
theorem dX1_exponentOf_1 : decode cX1_exponentOf 1 = .ok (.bipush 52, 2) := dTo0_9.1.2.1
theorem dX1_exponentOf_3 : decode cX1_exponentOf 3 = .ok (.lshr, 1) := dTo0_9.1.2.2.1
theorem dX1_exponentOf_4 : decode cX1_exponentOf 4 = .ok (.l2i, 1) := dTo0_9.1.2.2.2.1
theorem dX1_exponentOf_5 : decode cX1_exponentOf 5 = .ok (.sipush 2047, 3) := dTo0_9.1.2.2.2.2.1
theorem dX1_exponentOf_8 : decode cX1_exponentOf 8 = .ok (.iand, 1) := dTo0_9.1.2.2.2.2.2.1
theorem dX1_exponentOf_9 : decode cX1_exponentOf 9 = .ok (.ireturn, 1) := dTo0_9.1.2.2.2.2.2.2.1
theorem dTo0_10 : dQ cX1_compare [[(0, zop30, 0, 0), (1, zop32, 0, 0), (2, zop148, 0, 0), (3, zop154, 0, 5), (6, zop3, 0, 0), (7, zop172, 0, 0), (8, zop30, 0, 0), (9, zop9, 0, 0), (10, zop148, 0, 0), (11, zop156, 0, 23)], [(14, zop32, 0, 0), (15, zop9, 0, 0), (16, zop148, 0, 0), (17, zop156, 0, 17), (20, zop30, 0, 0), (21, zop32, 0, 0), (22, zop148, 0, 0), (23, zop158, 0, 7), (26, zop4, 0, 0), (27, zop167, 0, 18)], [(30, zop3, 0, 0), (31, zop167, 0, 14), (34, zop30, 0, 0), (35, zop32, 0, 0), (36, zop148, 0, 0), (37, zop156, 0, 7), (40, zop4, 0, 0), (41, zop167, 0, 4), (44, zop3, 0, 0), (45, zop54, 4, 0)], [(47, zop21, 4, 0), (49, zop153, 0, 7), (52, zop2, 0, 0), (53, zop167, 0, 4), (56, zop4, 0, 0), (57, zop172, 0, 0)]] := dQ_of _ _ (by decide +kernel)
theorem dX1_compare_0 : decode cX1_compare 0 = .ok (.lload_n 0, 1) := dTo0_10.1.1
theorem dX1_compare_1 : decode cX1_compare 1 = .ok (.lload_n 2, 1) := dTo0_10.1.2.1
theorem dX1_compare_2 : decode cX1_compare 2 = .ok (.lcmp, 1) := dTo0_10.1.2.2.1
theorem dX1_compare_3 : decode cX1_compare 3 = .ok (.ifCond .ne 5, 3) := dTo0_10.1.2.2.2.1
theorem dX1_compare_6 : decode cX1_compare 6 = .ok (.iconst 0, 1) := dTo0_10.1.2.2.2.2.1
theorem dX1_compare_7 : decode cX1_compare 7 = .ok (.ireturn, 1) := dTo0_10.1.2.2.2.2.2.1
theorem dX1_compare_8 : decode cX1_compare 8 = .ok (.lload_n 0, 1) := dTo0_10.1.2.2.2.2.2.2.1
theorem dX1_compare_9 : decode cX1_compare 9 = .ok (.lconst 0, 1) := dTo0_10.1.2.2.2.2.2.2.2.1
theorem dX1_compare_10 : decode cX1_compare 10 = .ok (.lcmp, 1) := dTo0_10.1.2.2.2.2.2.2.2.2.1
theorem dX1_compare_11 : decode cX1_compare 11 = .ok (.ifCond .ge 23, 3) := dTo0_10.1.2.2.2.2.2.2.2.2.2.1
theorem dX1_compare_14 : decode cX1_compare 14 = .ok (.lload_n 2, 1) := dTo0_10.2.1.1
theorem dX1_compare_15 : decode cX1_compare 15 = .ok (.lconst 0, 1) := dTo0_10.2.1.2.1
theorem dX1_compare_16 : decode cX1_compare 16 = .ok (.lcmp, 1) := dTo0_10.2.1.2.2.1
theorem dX1_compare_17 : decode cX1_compare 17 = .ok (.ifCond .ge 17, 3) := dTo0_10.2.1.2.2.2.1
theorem dX1_compare_20 : decode cX1_compare 20 = .ok (.lload_n 0, 1) := dTo0_10.2.1.2.2.2.2.1
theorem dX1_compare_21 : decode cX1_compare 21 = .ok (.lload_n 2, 1) := dTo0_10.2.1.2.2.2.2.2.1
theorem dX1_compare_22 : decode cX1_compare 22 = .ok (.lcmp, 1) := dTo0_10.2.1.2.2.2.2.2.2.1
theorem dX1_compare_23 : decode cX1_compare 23 = .ok (.ifCond .le 7, 3) := dTo0_10.2.1.2.2.2.2.2.2.2.1
theorem dX1_compare_26 : decode cX1_compare 26 = .ok (.iconst 1, 1) := dTo0_10.2.1.2.2.2.2.2.2.2.2.1
theorem dX1_compare_27 : decode cX1_compare 27 = .ok (.goto 18, 3) := dTo0_10.2.1.2.2.2.2.2.2.2.2.2.1
theorem dX1_compare_30 : decode cX1_compare 30 = .ok (.iconst 0, 1) := dTo0_10.2.2.1.1
theorem dX1_compare_31 : decode cX1_compare 31 = .ok (.goto 14, 3) := dTo0_10.2.2.1.2.1
theorem dX1_compare_34 : decode cX1_compare 34 = .ok (.lload_n 0, 1) := dTo0_10.2.2.1.2.2.1
theorem dX1_compare_35 : decode cX1_compare 35 = .ok (.lload_n 2, 1) := dTo0_10.2.2.1.2.2.2.1
theorem dX1_compare_36 : decode cX1_compare 36 = .ok (.lcmp, 1) := dTo0_10.2.2.1.2.2.2.2.1
theorem dX1_compare_37 : decode cX1_compare 37 = .ok (.ifCond .ge 7, 3) := dTo0_10.2.2.1.2.2.2.2.2.1
theorem dX1_compare_40 : decode cX1_compare 40 = .ok (.iconst 1, 1) := dTo0_10.2.2.1.2.2.2.2.2.2.1
theorem dX1_compare_41 : decode cX1_compare 41 = .ok (.goto 4, 3) := dTo0_10.2.2.1.2.2.2.2.2.2.2.1
theorem dX1_compare_44 : decode cX1_compare 44 = .ok (.iconst 0, 1) := dTo0_10.2.2.1.2.2.2.2.2.2.2.2.1
theorem dX1_compare_45 : decode cX1_compare 45 = .ok (.istore 4, 2) := dTo0_10.2.2.1.2.2.2.2.2.2.2.2.2.1
theorem dX1_compare_47 : decode cX1_compare 47 = .ok (.iload 4, 2) := dTo0_10.2.2.2.1.1
theorem dX1_compare_49 : decode cX1_compare 49 = .ok (.ifCond .eq 7, 3) := dTo0_10.2.2.2.1.2.1
theorem dX1_compare_52 : decode cX1_compare 52 = .ok (.iconst (-1), 1) := dTo0_10.2.2.2.1.2.2.1
theorem dX1_compare_53 : decode cX1_compare 53 = .ok (.goto 4, 3) := dTo0_10.2.2.2.1.2.2.2.1
theorem dX1_compare_56 : decode cX1_compare 56 = .ok (.iconst 1, 1) := dTo0_10.2.2.2.1.2.2.2.2.1
theorem dX1_compare_57 : decode cX1_compare 57 = .ok (.ireturn, 1) := dTo0_10.2.2.2.1.2.2.2.2.2.1
theorem dTo0_11 : dQ cX1_steps [[(0, zop30, 0, 0), (1, zop32, 0, 0), (2, zop101, 0, 0), (3, zop184, 0, 54), (6, zop173, 0, 0)]] := dQ_of _ _ (by decide +kernel)
theorem dX1_steps_0 : decode cX1_steps 0 = .ok (.lload_n 0, 1) := dTo0_11.1.1
theorem dX1_steps_1 : decode cX1_steps 1 = .ok (.lload_n 2, 1) := dTo0_11.1.2.1
theorem dX1_steps_2 : decode cX1_steps 2 = .ok (.lsub, 1) := dTo0_11.1.2.2.1
theorem dX1_steps_3 : decode cX1_steps 3 = .ok (.invokestatic 54, 3) := dTo0_11.1.2.2.2.1
theorem dX1_steps_6 : decode cX1_steps 6 = .ok (.lreturn, 1) := dTo0_11.1.2.2.2.2.1
theorem dTo0_12 : dQ cX1_heightOf [[(0, zop30, 0, 0), (1, zop184, 0, 60), (4, zop17, 3, 255), (7, zop100, 0, 0), (8, zop172, 0, 0)]] := dQ_of _ _ (by decide +kernel)
theorem dX1_heightOf_0 : decode cX1_heightOf 0 = .ok (.lload_n 0, 1) := dTo0_12.1.1
theorem dX1_heightOf_1 : decode cX1_heightOf 1 = .ok (.invokestatic 60, 3) := dTo0_12.1.2.1
theorem dX1_heightOf_4 : decode cX1_heightOf 4 = .ok (.sipush 1023, 3) := dTo0_12.1.2.2.1
theorem dX1_heightOf_7 : decode cX1_heightOf 7 = .ok (.isub, 1) := dTo0_12.1.2.2.2.1
theorem dX1_heightOf_8 : decode cX1_heightOf 8 = .ok (.ireturn, 1) := dTo0_12.1.2.2.2.2.1
theorem dTo0_13 : dQ cX1_firstDigits [[(0, zop30, 0, 0), (1, zop184, 0, 64), (4, zop16, 22, 0), (6, zop123, 0, 0), (7, zop136, 0, 0), (8, zop172, 0, 0)]] := dQ_of _ _ (by decide +kernel)
theorem dX1_firstDigits_0 : decode cX1_firstDigits 0 = .ok (.lload_n 0, 1) := dTo0_13.1.1
theorem dX1_firstDigits_1 : decode cX1_firstDigits 1 = .ok (.invokestatic 64, 3) := dTo0_13.1.2.1
theorem dX1_firstDigits_4 : decode cX1_firstDigits 4 = .ok (.bipush 22, 2) := dTo0_13.1.2.2.1
theorem dX1_firstDigits_6 : decode cX1_firstDigits 6 = .ok (.lshr, 1) := dTo0_13.1.2.2.2.1
theorem dX1_firstDigits_7 : decode cX1_firstDigits 7 = .ok (.l2i, 1) := dTo0_13.1.2.2.2.2.1
theorem dX1_firstDigits_8 : decode cX1_firstDigits 8 = .ok (.ireturn, 1) := dTo0_13.1.2.2.2.2.2.1
theorem dTo0_14 : dQ cX1_roundedDown [[(0, zop30, 0, 0), (1, zop9, 0, 0), (2, zop148, 0, 0), (3, zop153, 0, 11), (6, zop30, 0, 0), (7, zop20, 0, 26), (10, zop148, 0, 0), (11, zop154, 0, 5), (14, zop9, 0, 0), (15, zop173, 0, 0)], [(16, zop30, 0, 0), (17, zop184, 0, 64), (20, zop66, 0, 0), (21, zop17, 4, 51), (24, zop30, 0, 0), (25, zop184, 0, 60), (28, zop100, 0, 0), (29, zop28, 0, 0), (30, zop100, 0, 0), (31, zop54, 5, 0)], [(33, zop21, 5, 0), (35, zop156, 0, 19), (38, zop30, 0, 0), (39, zop9, 0, 0), (40, zop148, 0, 0), (41, zop156, 0, 9), (44, zop20, 0, 67), (47, zop167, 0, 6), (50, zop20, 0, 69), (53, zop173, 0, 0)], [(54, zop21, 5, 0), (56, zop16, 52, 0), (58, zop164, 0, 7), (61, zop9, 0, 0), (62, zop167, 0, 7), (65, zop33, 0, 0), (66, zop21, 5, 0), (68, zop123, 0, 0), (69, zop55, 6, 0), (71, zop21, 5, 0)], [(73, zop16, 52, 0), (75, zop163, 0, 13), (78, zop22, 6, 0), (80, zop21, 5, 0), (82, zop121, 0, 0), (83, zop33, 0, 0), (84, zop148, 0, 0), (85, zop153, 0, 7), (88, zop4, 0, 0), (89, zop167, 0, 4)], [(92, zop3, 0, 0), (93, zop54, 8, 0), (95, zop30, 0, 0), (96, zop9, 0, 0), (97, zop148, 0, 0), (98, zop156, 0, 20), (101, zop21, 8, 0), (103, zop153, 0, 11), (106, zop22, 6, 0), (108, zop117, 0, 0)]] := dQ_of _ _ (by decide +kernel)
theorem dX1_roundedDown_0 : decode cX1_roundedDown 0 = .ok (.lload_n 0, 1) := dTo0_14.1.1
theorem dX1_roundedDown_1 : decode cX1_roundedDown 1 = .ok (.lconst 0, 1) := dTo0_14.1.2.1
theorem dX1_roundedDown_2 : decode cX1_roundedDown 2 = .ok (.lcmp, 1) := dTo0_14.1.2.2.1
theorem dX1_roundedDown_3 : decode cX1_roundedDown 3 = .ok (.ifCond .eq 11, 3) := dTo0_14.1.2.2.2.1
theorem dX1_roundedDown_6 : decode cX1_roundedDown 6 = .ok (.lload_n 0, 1) := dTo0_14.1.2.2.2.2.1
theorem dX1_roundedDown_7 : decode cX1_roundedDown 7 = .ok (.ldc2_w 26, 3) := dTo0_14.1.2.2.2.2.2.1
theorem dX1_roundedDown_10 : decode cX1_roundedDown 10 = .ok (.lcmp, 1) := dTo0_14.1.2.2.2.2.2.2.1
theorem dX1_roundedDown_11 : decode cX1_roundedDown 11 = .ok (.ifCond .ne 5, 3) := dTo0_14.1.2.2.2.2.2.2.2.1
theorem dX1_roundedDown_14 : decode cX1_roundedDown 14 = .ok (.lconst 0, 1) := dTo0_14.1.2.2.2.2.2.2.2.2.1
theorem dX1_roundedDown_15 : decode cX1_roundedDown 15 = .ok (.lreturn, 1) := dTo0_14.1.2.2.2.2.2.2.2.2.2.1
theorem dX1_roundedDown_16 : decode cX1_roundedDown 16 = .ok (.lload_n 0, 1) := dTo0_14.2.1.1
theorem dX1_roundedDown_17 : decode cX1_roundedDown 17 = .ok (.invokestatic 64, 3) := dTo0_14.2.1.2.1
theorem dX1_roundedDown_20 : decode cX1_roundedDown 20 = .ok (.lstore_n 3, 1) := dTo0_14.2.1.2.2.1
theorem dX1_roundedDown_21 : decode cX1_roundedDown 21 = .ok (.sipush 1075, 3) := dTo0_14.2.1.2.2.2.1
theorem dX1_roundedDown_24 : decode cX1_roundedDown 24 = .ok (.lload_n 0, 1) := dTo0_14.2.1.2.2.2.2.1
theorem dX1_roundedDown_25 : decode cX1_roundedDown 25 = .ok (.invokestatic 60, 3) := dTo0_14.2.1.2.2.2.2.2.1
theorem dX1_roundedDown_28 : decode cX1_roundedDown 28 = .ok (.isub, 1) := dTo0_14.2.1.2.2.2.2.2.2.1
theorem dX1_roundedDown_29 : decode cX1_roundedDown 29 = .ok (.iload_n 2, 1) := dTo0_14.2.1.2.2.2.2.2.2.2.1
theorem dX1_roundedDown_30 : decode cX1_roundedDown 30 = .ok (.isub, 1) := dTo0_14.2.1.2.2.2.2.2.2.2.2.1
theorem dX1_roundedDown_31 : decode cX1_roundedDown 31 = .ok (.istore 5, 2) := dTo0_14.2.1.2.2.2.2.2.2.2.2.2.1
theorem dX1_roundedDown_33 : decode cX1_roundedDown 33 = .ok (.iload 5, 2) := dTo0_14.2.2.1.1
theorem dX1_roundedDown_35 : decode cX1_roundedDown 35 = .ok (.ifCond .ge 19, 3) := dTo0_14.2.2.1.2.1
theorem dX1_roundedDown_38 : decode cX1_roundedDown 38 = .ok (.lload_n 0, 1) := dTo0_14.2.2.1.2.2.1
theorem dX1_roundedDown_39 : decode cX1_roundedDown 39 = .ok (.lconst 0, 1) := dTo0_14.2.2.1.2.2.2.1
theorem dX1_roundedDown_40 : decode cX1_roundedDown 40 = .ok (.lcmp, 1) := dTo0_14.2.2.1.2.2.2.2.1
theorem dX1_roundedDown_41 : decode cX1_roundedDown 41 = .ok (.ifCond .ge 9, 3) := dTo0_14.2.2.1.2.2.2.2.2.1
theorem dX1_roundedDown_44 : decode cX1_roundedDown 44 = .ok (.ldc2_w 67, 3) := dTo0_14.2.2.1.2.2.2.2.2.2.1
theorem dX1_roundedDown_47 : decode cX1_roundedDown 47 = .ok (.goto 6, 3) := dTo0_14.2.2.1.2.2.2.2.2.2.2.1
theorem dX1_roundedDown_50 : decode cX1_roundedDown 50 = .ok (.ldc2_w 69, 3) := dTo0_14.2.2.1.2.2.2.2.2.2.2.2.1
theorem dX1_roundedDown_53 : decode cX1_roundedDown 53 = .ok (.lreturn, 1) := dTo0_14.2.2.1.2.2.2.2.2.2.2.2.2.1
theorem dX1_roundedDown_54 : decode cX1_roundedDown 54 = .ok (.iload 5, 2) := dTo0_14.2.2.2.1.1
theorem dX1_roundedDown_56 : decode cX1_roundedDown 56 = .ok (.bipush 52, 2) := dTo0_14.2.2.2.1.2.1
theorem dX1_roundedDown_58 : decode cX1_roundedDown 58 = .ok (.if_icmp .le 7, 3) := dTo0_14.2.2.2.1.2.2.1
theorem dX1_roundedDown_61 : decode cX1_roundedDown 61 = .ok (.lconst 0, 1) := dTo0_14.2.2.2.1.2.2.2.1
theorem dX1_roundedDown_62 : decode cX1_roundedDown 62 = .ok (.goto 7, 3) := dTo0_14.2.2.2.1.2.2.2.2.1
theorem dX1_roundedDown_65 : decode cX1_roundedDown 65 = .ok (.lload_n 3, 1) := dTo0_14.2.2.2.1.2.2.2.2.2.1
theorem dX1_roundedDown_66 : decode cX1_roundedDown 66 = .ok (.iload 5, 2) := dTo0_14.2.2.2.1.2.2.2.2.2.2.1
theorem dX1_roundedDown_68 : decode cX1_roundedDown 68 = .ok (.lshr, 1) := dTo0_14.2.2.2.1.2.2.2.2.2.2.2.1
theorem dX1_roundedDown_69 : decode cX1_roundedDown 69 = .ok (.lstore 6, 2) := dTo0_14.2.2.2.1.2.2.2.2.2.2.2.2.1
theorem dX1_roundedDown_71 : decode cX1_roundedDown 71 = .ok (.iload 5, 2) := dTo0_14.2.2.2.1.2.2.2.2.2.2.2.2.2.1
theorem dX1_roundedDown_73 : decode cX1_roundedDown 73 = .ok (.bipush 52, 2) := dTo0_14.2.2.2.2.1.1
theorem dX1_roundedDown_75 : decode cX1_roundedDown 75 = .ok (.if_icmp .gt 13, 3) := dTo0_14.2.2.2.2.1.2.1
theorem dX1_roundedDown_78 : decode cX1_roundedDown 78 = .ok (.lload 6, 2) := dTo0_14.2.2.2.2.1.2.2.1
theorem dX1_roundedDown_80 : decode cX1_roundedDown 80 = .ok (.iload 5, 2) := dTo0_14.2.2.2.2.1.2.2.2.1
theorem dX1_roundedDown_82 : decode cX1_roundedDown 82 = .ok (.lshl, 1) := dTo0_14.2.2.2.2.1.2.2.2.2.1
theorem dX1_roundedDown_83 : decode cX1_roundedDown 83 = .ok (.lload_n 3, 1) := dTo0_14.2.2.2.2.1.2.2.2.2.2.1
theorem dX1_roundedDown_84 : decode cX1_roundedDown 84 = .ok (.lcmp, 1) := dTo0_14.2.2.2.2.1.2.2.2.2.2.2.1
theorem dX1_roundedDown_85 : decode cX1_roundedDown 85 = .ok (.ifCond .eq 7, 3) := dTo0_14.2.2.2.2.1.2.2.2.2.2.2.2.1
theorem dX1_roundedDown_88 : decode cX1_roundedDown 88 = .ok (.iconst 1, 1) := dTo0_14.2.2.2.2.1.2.2.2.2.2.2.2.2.1
theorem dX1_roundedDown_89 : decode cX1_roundedDown 89 = .ok (.goto 4, 3) := dTo0_14.2.2.2.2.1.2.2.2.2.2.2.2.2.2.1
theorem dX1_roundedDown_92 : decode cX1_roundedDown 92 = .ok (.iconst 0, 1) := dTo0_14.2.2.2.2.2.1.1
theorem dX1_roundedDown_93 : decode cX1_roundedDown 93 = .ok (.istore 8, 2) := dTo0_14.2.2.2.2.2.1.2.1
theorem dX1_roundedDown_95 : decode cX1_roundedDown 95 = .ok (.lload_n 0, 1) := dTo0_14.2.2.2.2.2.1.2.2.1
theorem dX1_roundedDown_96 : decode cX1_roundedDown 96 = .ok (.lconst 0, 1) := dTo0_14.2.2.2.2.2.1.2.2.2.1
theorem dX1_roundedDown_97 : decode cX1_roundedDown 97 = .ok (.lcmp, 1) := dTo0_14.2.2.2.2.2.1.2.2.2.2.1
theorem dX1_roundedDown_98 : decode cX1_roundedDown 98 = .ok (.ifCond .ge 20, 3) := dTo0_14.2.2.2.2.2.1.2.2.2.2.2.1
theorem dX1_roundedDown_101 : decode cX1_roundedDown 101 = .ok (.iload 8, 2) := dTo0_14.2.2.2.2.2.1.2.2.2.2.2.2.1
theorem dX1_roundedDown_103 : decode cX1_roundedDown 103 = .ok (.ifCond .eq 11, 3) := dTo0_14.2.2.2.2.2.1.2.2.2.2.2.2.2.1
theorem dX1_roundedDown_106 : decode cX1_roundedDown 106 = .ok (.lload 6, 2) := dTo0_14.2.2.2.2.2.1.2.2.2.2.2.2.2.2.1
theorem dX1_roundedDown_108 : decode cX1_roundedDown 108 = .ok (.lneg, 1) := dTo0_14.2.2.2.2.2.1.2.2.2.2.2.2.2.2.2.1
theorem dTo0_15 : dQ cX1_roundedDown [[(109, zop10, 0, 0), (110, zop101, 0, 0), (111, zop167, 0, 6), (114, zop22, 6, 0), (116, zop117, 0, 0), (117, zop173, 0, 0), (118, zop22, 6, 0), (120, zop173, 0, 0)]] := dQ_of _ _ (by decide +kernel)
theorem dX1_roundedDown_109 : decode cX1_roundedDown 109 = .ok (.lconst 1, 1) := dTo0_15.1.1
theorem dX1_roundedDown_110 : decode cX1_roundedDown 110 = .ok (.lsub, 1) := dTo0_15.1.2.1
theorem dX1_roundedDown_111 : decode cX1_roundedDown 111 = .ok (.goto 6, 3) := dTo0_15.1.2.2.1
theorem dX1_roundedDown_114 : decode cX1_roundedDown 114 = .ok (.lload 6, 2) := dTo0_15.1.2.2.2.1
theorem dX1_roundedDown_116 : decode cX1_roundedDown 116 = .ok (.lneg, 1) := dTo0_15.1.2.2.2.2.1
theorem dX1_roundedDown_117 : decode cX1_roundedDown 117 = .ok (.lreturn, 1) := dTo0_15.1.2.2.2.2.2.1
theorem dX1_roundedDown_118 : decode cX1_roundedDown 118 = .ok (.lload 6, 2) := dTo0_15.1.2.2.2.2.2.2.1
theorem dX1_roundedDown_120 : decode cX1_roundedDown 120 = .ok (.lreturn, 1) := dTo0_15.1.2.2.2.2.2.2.2.1
theorem dTo0_16 : dQ cX1_asDouble [[(0, zop30, 0, 0), (1, zop184, 0, 64), (4, zop138, 0, 0), (5, zop73, 0, 0), (6, zop30, 0, 0), (7, zop184, 0, 60), (10, zop17, 4, 51), (13, zop100, 0, 0), (14, zop54, 4, 0), (16, zop3, 0, 0)], [(17, zop54, 5, 0), (19, zop21, 5, 0), (21, zop21, 4, 0), (23, zop162, 0, 15), (26, zop40, 0, 0), (27, zop20, 0, 71), (30, zop107, 0, 0), (31, zop73, 0, 0), (32, zop132, 5, 1), (35, zop167, 255, 240)], [(38, zop3, 0, 0), (39, zop54, 5, 0), (41, zop21, 5, 0), (43, zop21, 4, 0), (45, zop116, 0, 0), (46, zop162, 0, 15), (49, zop40, 0, 0), (50, zop20, 0, 71), (53, zop111, 0, 0), (54, zop73, 0, 0)], [(55, zop132, 5, 1), (58, zop167, 255, 239), (61, zop40, 0, 0), (62, zop175, 0, 0)]] := dQ_of _ _ (by decide +kernel)
theorem dX1_asDouble_0 : decode cX1_asDouble 0 = .ok (.lload_n 0, 1) := dTo0_16.1.1
theorem dX1_asDouble_1 : decode cX1_asDouble 1 = .ok (.invokestatic 64, 3) := dTo0_16.1.2.1
theorem dX1_asDouble_4 : decode cX1_asDouble 4 = .ok (.l2d, 1) := dTo0_16.1.2.2.1
theorem dX1_asDouble_5 : decode cX1_asDouble 5 = .ok (.dstore_n 2, 1) := dTo0_16.1.2.2.2.1
theorem dX1_asDouble_6 : decode cX1_asDouble 6 = .ok (.lload_n 0, 1) := dTo0_16.1.2.2.2.2.1
theorem dX1_asDouble_7 : decode cX1_asDouble 7 = .ok (.invokestatic 60, 3) := dTo0_16.1.2.2.2.2.2.1
theorem dX1_asDouble_10 : decode cX1_asDouble 10 = .ok (.sipush 1075, 3) := dTo0_16.1.2.2.2.2.2.2.1
theorem dX1_asDouble_13 : decode cX1_asDouble 13 = .ok (.isub, 1) := dTo0_16.1.2.2.2.2.2.2.2.1
theorem dX1_asDouble_14 : decode cX1_asDouble 14 = .ok (.istore 4, 2) := dTo0_16.1.2.2.2.2.2.2.2.2.1
theorem dX1_asDouble_16 : decode cX1_asDouble 16 = .ok (.iconst 0, 1) := dTo0_16.1.2.2.2.2.2.2.2.2.2.1
theorem dX1_asDouble_17 : decode cX1_asDouble 17 = .ok (.istore 5, 2) := dTo0_16.2.1.1
theorem dX1_asDouble_19 : decode cX1_asDouble 19 = .ok (.iload 5, 2) := dTo0_16.2.1.2.1
theorem dX1_asDouble_21 : decode cX1_asDouble 21 = .ok (.iload 4, 2) := dTo0_16.2.1.2.2.1
theorem dX1_asDouble_23 : decode cX1_asDouble 23 = .ok (.if_icmp .ge 15, 3) := dTo0_16.2.1.2.2.2.1
theorem dX1_asDouble_26 : decode cX1_asDouble 26 = .ok (.dload_n 2, 1) := dTo0_16.2.1.2.2.2.2.1
theorem dX1_asDouble_27 : decode cX1_asDouble 27 = .ok (.ldc2_w 71, 3) := dTo0_16.2.1.2.2.2.2.2.1
theorem dX1_asDouble_30 : decode cX1_asDouble 30 = .ok (.dmul, 1) := dTo0_16.2.1.2.2.2.2.2.2.1
theorem dX1_asDouble_31 : decode cX1_asDouble 31 = .ok (.dstore_n 2, 1) := dTo0_16.2.1.2.2.2.2.2.2.2.1
theorem dX1_asDouble_32 : decode cX1_asDouble 32 = .ok (.iinc 5 1, 3) := dTo0_16.2.1.2.2.2.2.2.2.2.2.1
theorem dX1_asDouble_35 : decode cX1_asDouble 35 = .ok (.goto (-16), 3) := dTo0_16.2.1.2.2.2.2.2.2.2.2.2.1
theorem dX1_asDouble_38 : decode cX1_asDouble 38 = .ok (.iconst 0, 1) := dTo0_16.2.2.1.1
theorem dX1_asDouble_39 : decode cX1_asDouble 39 = .ok (.istore 5, 2) := dTo0_16.2.2.1.2.1
theorem dX1_asDouble_41 : decode cX1_asDouble 41 = .ok (.iload 5, 2) := dTo0_16.2.2.1.2.2.1
theorem dX1_asDouble_43 : decode cX1_asDouble 43 = .ok (.iload 4, 2) := dTo0_16.2.2.1.2.2.2.1
theorem dX1_asDouble_45 : decode cX1_asDouble 45 = .ok (.ineg, 1) := dTo0_16.2.2.1.2.2.2.2.1
theorem dX1_asDouble_46 : decode cX1_asDouble 46 = .ok (.if_icmp .ge 15, 3) := dTo0_16.2.2.1.2.2.2.2.2.1
theorem dX1_asDouble_49 : decode cX1_asDouble 49 = .ok (.dload_n 2, 1) := dTo0_16.2.2.1.2.2.2.2.2.2.1
theorem dX1_asDouble_50 : decode cX1_asDouble 50 = .ok (.ldc2_w 71, 3) := dTo0_16.2.2.1.2.2.2.2.2.2.2.1
theorem dX1_asDouble_53 : decode cX1_asDouble 53 = .ok (.ddiv, 1) := dTo0_16.2.2.1.2.2.2.2.2.2.2.2.1
theorem dX1_asDouble_54 : decode cX1_asDouble 54 = .ok (.dstore_n 2, 1) := dTo0_16.2.2.1.2.2.2.2.2.2.2.2.2.1
theorem dX1_asDouble_55 : decode cX1_asDouble 55 = .ok (.iinc 5 1, 3) := dTo0_16.2.2.2.1.1
theorem dX1_asDouble_58 : decode cX1_asDouble 58 = .ok (.goto (-17), 3) := dTo0_16.2.2.2.1.2.1
theorem dX1_asDouble_61 : decode cX1_asDouble 61 = .ok (.dload_n 2, 1) := dTo0_16.2.2.2.1.2.2.1
theorem dX1_asDouble_62 : decode cX1_asDouble 62 = .ok (.dreturn, 1) := dTo0_16.2.2.2.1.2.2.2.1
theorem dTo0_17 : dQ cX1_stepsFromOne [[(0, zop38, 0, 0), (1, zop15, 0, 0), (2, zop103, 0, 0), (3, zop73, 0, 0), (4, zop40, 0, 0), (5, zop14, 0, 0), (6, zop151, 0, 0), (7, zop155, 0, 11), (10, zop40, 0, 0), (11, zop20, 0, 73)], [(14, zop107, 0, 0), (15, zop167, 0, 9), (18, zop40, 0, 0), (19, zop119, 0, 0), (20, zop20, 0, 75), (23, zop107, 0, 0), (24, zop175, 0, 0)]] := dQ_of _ _ (by decide +kernel)
theorem dX1_stepsFromOne_0 : decode cX1_stepsFromOne 0 = .ok (.dload_n 0, 1) := dTo0_17.1.1
theorem dX1_stepsFromOne_1 : decode cX1_stepsFromOne 1 = .ok (.dconst 1, 1) := dTo0_17.1.2.1
theorem dX1_stepsFromOne_2 : decode cX1_stepsFromOne 2 = .ok (.dsub, 1) := dTo0_17.1.2.2.1
theorem dX1_stepsFromOne_3 : decode cX1_stepsFromOne 3 = .ok (.dstore_n 2, 1) := dTo0_17.1.2.2.2.1
theorem dX1_stepsFromOne_4 : decode cX1_stepsFromOne 4 = .ok (.dload_n 2, 1) := dTo0_17.1.2.2.2.2.1
theorem dX1_stepsFromOne_5 : decode cX1_stepsFromOne 5 = .ok (.dconst 0, 1) := dTo0_17.1.2.2.2.2.2.1
theorem dX1_stepsFromOne_6 : decode cX1_stepsFromOne 6 = .ok (.dcmp .l, 1) := dTo0_17.1.2.2.2.2.2.2.1
theorem dX1_stepsFromOne_7 : decode cX1_stepsFromOne 7 = .ok (.ifCond .lt 11, 3) := dTo0_17.1.2.2.2.2.2.2.2.1
theorem dX1_stepsFromOne_10 : decode cX1_stepsFromOne 10 = .ok (.dload_n 2, 1) := dTo0_17.1.2.2.2.2.2.2.2.2.1
theorem dX1_stepsFromOne_11 : decode cX1_stepsFromOne 11 = .ok (.ldc2_w 73, 3) := dTo0_17.1.2.2.2.2.2.2.2.2.2.1
theorem dX1_stepsFromOne_14 : decode cX1_stepsFromOne 14 = .ok (.dmul, 1) := dTo0_17.2.1.1
theorem dX1_stepsFromOne_15 : decode cX1_stepsFromOne 15 = .ok (.goto 9, 3) := dTo0_17.2.1.2.1
theorem dX1_stepsFromOne_18 : decode cX1_stepsFromOne 18 = .ok (.dload_n 2, 1) := dTo0_17.2.1.2.2.1
theorem dX1_stepsFromOne_19 : decode cX1_stepsFromOne 19 = .ok (.dneg, 1) := dTo0_17.2.1.2.2.2.1
theorem dX1_stepsFromOne_20 : decode cX1_stepsFromOne 20 = .ok (.ldc2_w 75, 3) := dTo0_17.2.1.2.2.2.2.1
theorem dX1_stepsFromOne_23 : decode cX1_stepsFromOne 23 = .ok (.dmul, 1) := dTo0_17.2.1.2.2.2.2.2.1
theorem dX1_stepsFromOne_24 : decode cX1_stepsFromOne 24 = .ok (.dreturn, 1) := dTo0_17.2.1.2.2.2.2.2.2.1
theorem dTo0_18 : dQ cX2_make [[(0, zop26, 0, 0), (1, zop27, 0, 0), (2, zop27, 0, 0), (3, zop156, 0, 12), (6, zop26, 0, 0), (7, zop5, 0, 0), (8, zop159, 0, 7), (11, zop4, 0, 0), (12, zop167, 0, 4), (15, zop3, 0, 0)], [(16, zop184, 0, 9), (19, zop172, 0, 0)]] := dQ_of _ _ (by decide +kernel)
theorem dX2_make_0 : decode cX2_make 0 = .ok (.iload_n 0, 1) := dTo0_18.1.1
theorem dX2_make_1 : decode cX2_make 1 = .ok (.iload_n 1, 1) := dTo0_18.1.2.1
theorem dX2_make_2 : decode cX2_make 2 = .ok (.iload_n 1, 1) := dTo0_18.1.2.2.1
theorem dX2_make_3 : decode cX2_make 3 = .ok (.ifCond .ge 12, 3) := dTo0_18.1.2.2.2.1
theorem dX2_make_6 : decode cX2_make 6 = .ok (.iload_n 0, 1) := dTo0_18.1.2.2.2.2.1
theorem dX2_make_7 : decode cX2_make 7 = .ok (.iconst 2, 1) := dTo0_18.1.2.2.2.2.2.1
theorem dX2_make_8 : decode cX2_make 8 = .ok (.if_icmp .eq 7, 3) := dTo0_18.1.2.2.2.2.2.2.1
theorem dX2_make_11 : decode cX2_make 11 = .ok (.iconst 1, 1) := dTo0_18.1.2.2.2.2.2.2.2.1
theorem dX2_make_12 : decode cX2_make 12 = .ok (.goto 4, 3) := dTo0_18.1.2.2.2.2.2.2.2.2.1
theorem dX2_make_15 : decode cX2_make 15 = .ok (.iconst 0, 1) := dTo0_18.1.2.2.2.2.2.2.2.2.2.1
theorem dX2_make_16 : decode cX2_make 16 = .ok (.invokestatic 9, 3) := dTo0_18.2.1.1
theorem dX2_make_19 : decode cX2_make 19 = .ok (.ireturn, 1) := dTo0_18.2.1.2.1
theorem dTo0_19 : dQ cX2_quarters [[(0, zop3, 0, 0), (1, zop26, 0, 0), (2, zop184, 0, 13), (5, zop172, 0, 0)]] := dQ_of _ _ (by decide +kernel)
theorem dX2_quarters_0 : decode cX2_quarters 0 = .ok (.iconst 0, 1) := dTo0_19.1.1
theorem dX2_quarters_1 : decode cX2_quarters 1 = .ok (.iload_n 0, 1) := dTo0_19.1.2.1
theorem dX2_quarters_2 : decode cX2_quarters 2 = .ok (.invokestatic 13, 3) := dTo0_19.1.2.2.1
theorem dX2_quarters_5 : decode cX2_quarters 5 = .ok (.ireturn, 1) := dTo0_19.1.2.2.2.1
theorem dTo0_20 : dQ cX2_nought [[(0, zop3, 0, 0), (1, zop3, 0, 0), (2, zop26, 0, 0), (3, zop184, 0, 9), (6, zop172, 0, 0)]] := dQ_of _ _ (by decide +kernel)
theorem dX2_nought_0 : decode cX2_nought 0 = .ok (.iconst 0, 1) := dTo0_20.1.1
theorem dX2_nought_1 : decode cX2_nought 1 = .ok (.iconst 0, 1) := dTo0_20.1.2.1
theorem dX2_nought_2 : decode cX2_nought 2 = .ok (.iload_n 0, 1) := dTo0_20.1.2.2.1
theorem dX2_nought_3 : decode cX2_nought 3 = .ok (.invokestatic 9, 3) := dTo0_20.1.2.2.2.1
theorem dX2_nought_6 : decode cX2_nought 6 = .ok (.ireturn, 1) := dTo0_20.1.2.2.2.2.1
theorem dTo0_21 : dQ cX2_withoutEnd [[(0, zop4, 0, 0), (1, zop26, 0, 0), (2, zop153, 0, 9), (5, zop17, 252, 24), (8, zop167, 0, 6), (11, zop17, 3, 232), (14, zop26, 0, 0), (15, zop184, 0, 9), (18, zop172, 0, 0)]] := dQ_of _ _ (by decide +kernel)
theorem dX2_withoutEnd_0 : decode cX2_withoutEnd 0 = .ok (.iconst 1, 1) := dTo0_21.1.1
theorem dX2_withoutEnd_1 : decode cX2_withoutEnd 1 = .ok (.iload_n 0, 1) := dTo0_21.1.2.1
theorem dX2_withoutEnd_2 : decode cX2_withoutEnd 2 = .ok (.ifCond .eq 9, 3) := dTo0_21.1.2.2.1
theorem dX2_withoutEnd_5 : decode cX2_withoutEnd 5 = .ok (.sipush (-1000), 3) := dTo0_21.1.2.2.2.1
theorem dX2_withoutEnd_8 : decode cX2_withoutEnd 8 = .ok (.goto 6, 3) := dTo0_21.1.2.2.2.2.1
theorem dX2_withoutEnd_11 : decode cX2_withoutEnd 11 = .ok (.sipush 1000, 3) := dTo0_21.1.2.2.2.2.2.1
theorem dX2_withoutEnd_14 : decode cX2_withoutEnd 14 = .ok (.iload_n 0, 1) := dTo0_21.1.2.2.2.2.2.2.1
theorem dX2_withoutEnd_15 : decode cX2_withoutEnd 15 = .ok (.invokestatic 9, 3) := dTo0_21.1.2.2.2.2.2.2.2.1
theorem dX2_withoutEnd_18 : decode cX2_withoutEnd 18 = .ok (.ireturn, 1) := dTo0_21.1.2.2.2.2.2.2.2.2.1
theorem dTo0_22 : dQ cX2_makeSigned [[(0, zop26, 0, 0), (1, zop16, 12, 0), (3, zop120, 0, 0), (4, zop28, 0, 0), (5, zop153, 0, 9), (8, zop17, 8, 0), (11, zop167, 0, 4), (14, zop3, 0, 0), (15, zop128, 0, 0), (16, zop27, 0, 0)], [(17, zop17, 4, 0), (20, zop96, 0, 0), (21, zop128, 0, 0), (22, zop172, 0, 0)]] := dQ_of _ _ (by decide +kernel)
theorem dX2_makeSigned_0 : decode cX2_makeSigned 0 = .ok (.iload_n 0, 1) := dTo0_22.1.1
theorem dX2_makeSigned_1 : decode cX2_makeSigned 1 = .ok (.bipush 12, 2) := dTo0_22.1.2.1
theorem dX2_makeSigned_3 : decode cX2_makeSigned 3 = .ok (.ishl, 1) := dTo0_22.1.2.2.1
theorem dX2_makeSigned_4 : decode cX2_makeSigned 4 = .ok (.iload_n 2, 1) := dTo0_22.1.2.2.2.1
theorem dX2_makeSigned_5 : decode cX2_makeSigned 5 = .ok (.ifCond .eq 9, 3) := dTo0_22.1.2.2.2.2.1
theorem dX2_makeSigned_8 : decode cX2_makeSigned 8 = .ok (.sipush 2048, 3) := dTo0_22.1.2.2.2.2.2.1
theorem dX2_makeSigned_11 : decode cX2_makeSigned 11 = .ok (.goto 4, 3) := dTo0_22.1.2.2.2.2.2.2.1
theorem dX2_makeSigned_14 : decode cX2_makeSigned 14 = .ok (.iconst 0, 1) := dTo0_22.1.2.2.2.2.2.2.2.1
theorem dX2_makeSigned_15 : decode cX2_makeSigned 15 = .ok (.ior, 1) := dTo0_22.1.2.2.2.2.2.2.2.2.1
theorem dX2_makeSigned_16 : decode cX2_makeSigned 16 = .ok (.iload_n 1, 1) := dTo0_22.1.2.2.2.2.2.2.2.2.2.1
theorem dX2_makeSigned_17 : decode cX2_makeSigned 17 = .ok (.sipush 1024, 3) := dTo0_22.2.1.1
theorem dX2_makeSigned_20 : decode cX2_makeSigned 20 = .ok (.iadd, 1) := dTo0_22.2.1.2.1
theorem dX2_makeSigned_21 : decode cX2_makeSigned 21 = .ok (.ior, 1) := dTo0_22.2.1.2.2.1
theorem dX2_makeSigned_22 : decode cX2_makeSigned 22 = .ok (.ireturn, 1) := dTo0_22.2.1.2.2.2.1
theorem dTo0_23 : dQ cX2_kindOf [[(0, zop26, 0, 0), (1, zop16, 12, 0), (3, zop122, 0, 0), (4, zop172, 0, 0)]] := dQ_of _ _ (by decide +kernel)
theorem dX2_kindOf_0 : decode cX2_kindOf 0 = .ok (.iload_n 0, 1) := dTo0_23.1.1
theorem dX2_kindOf_1 : decode cX2_kindOf 1 = .ok (.bipush 12, 2) := dTo0_23.1.2.1
theorem dX2_kindOf_3 : decode cX2_kindOf 3 = .ok (.ishr, 1) := dTo0_23.1.2.2.1
theorem dX2_kindOf_4 : decode cX2_kindOf 4 = .ok (.ireturn, 1) := dTo0_23.1.2.2.2.1
theorem dTo0_24 : dQ cX2_qOf [[(0, zop26, 0, 0), (1, zop17, 7, 255), (4, zop126, 0, 0), (5, zop17, 4, 0), (8, zop100, 0, 0), (9, zop172, 0, 0)]] := dQ_of _ _ (by decide +kernel)
theorem dX2_qOf_0 : decode cX2_qOf 0 = .ok (.iload_n 0, 1) := dTo0_24.1.1
theorem dX2_qOf_1 : decode cX2_qOf 1 = .ok (.sipush 2047, 3) := dTo0_24.1.2.1
theorem dX2_qOf_4 : decode cX2_qOf 4 = .ok (.iand, 1) := dTo0_24.1.2.2.1
theorem dX2_qOf_5 : decode cX2_qOf 5 = .ok (.sipush 1024, 3) := dTo0_24.1.2.2.2.1
theorem dX2_qOf_8 : decode cX2_qOf 8 = .ok (.isub, 1) := dTo0_24.1.2.2.2.2.1
theorem dX2_qOf_9 : decode cX2_qOf 9 = .ok (.ireturn, 1) := dTo0_24.1.2.2.2.2.2.1
theorem dTo0_25 : dQ cX2_isUnder [[(0, zop26, 0, 0), (1, zop17, 8, 0), (4, zop126, 0, 0), (5, zop153, 0, 7), (8, zop4, 0, 0), (9, zop167, 0, 4), (12, zop3, 0, 0), (13, zop172, 0, 0)]] := dQ_of _ _ (by decide +kernel)
theorem dX2_isUnder_0 : decode cX2_isUnder 0 = .ok (.iload_n 0, 1) := dTo0_25.1.1
theorem dX2_isUnder_1 : decode cX2_isUnder 1 = .ok (.sipush 2048, 3) := dTo0_25.1.2.1
theorem dX2_isUnder_4 : decode cX2_isUnder 4 = .ok (.iand, 1) := dTo0_25.1.2.2.1
theorem dX2_isUnder_5 : decode cX2_isUnder 5 = .ok (.ifCond .eq 7, 3) := dTo0_25.1.2.2.2.1
theorem dX2_isUnder_8 : decode cX2_isUnder 8 = .ok (.iconst 1, 1) := dTo0_25.1.2.2.2.2.1
theorem dX2_isUnder_9 : decode cX2_isUnder 9 = .ok (.goto 4, 3) := dTo0_25.1.2.2.2.2.2.1
theorem dX2_isUnder_12 : decode cX2_isUnder 12 = .ok (.iconst 0, 1) := dTo0_25.1.2.2.2.2.2.2.1
theorem dX2_isUnder_13 : decode cX2_isUnder 13 = .ok (.ireturn, 1) := dTo0_25.1.2.2.2.2.2.2.2.1
theorem dTo0_26 : dQ cX2_isNought [[(0, zop26, 0, 0), (1, zop184, 0, 17), (4, zop154, 0, 14), (7, zop26, 0, 0), (8, zop184, 0, 21), (11, zop154, 0, 7), (14, zop4, 0, 0), (15, zop167, 0, 4), (18, zop3, 0, 0), (19, zop172, 0, 0)]] := dQ_of _ _ (by decide +kernel)
theorem dX2_isNought_0 : decode cX2_isNought 0 = .ok (.iload_n 0, 1) := dTo0_26.1.1
theorem dX2_isNought_1 : decode cX2_isNought 1 = .ok (.invokestatic 17, 3) := dTo0_26.1.2.1
theorem dX2_isNought_4 : decode cX2_isNought 4 = .ok (.ifCond .ne 14, 3) := dTo0_26.1.2.2.1
theorem dX2_isNought_7 : decode cX2_isNought 7 = .ok (.iload_n 0, 1) := dTo0_26.1.2.2.2.1
theorem dX2_isNought_8 : decode cX2_isNought 8 = .ok (.invokestatic 21, 3) := dTo0_26.1.2.2.2.2.1
theorem dX2_isNought_11 : decode cX2_isNought 11 = .ok (.ifCond .ne 7, 3) := dTo0_26.1.2.2.2.2.2.1
theorem dX2_isNought_14 : decode cX2_isNought 14 = .ok (.iconst 1, 1) := dTo0_26.1.2.2.2.2.2.2.1
theorem dX2_isNought_15 : decode cX2_isNought 15 = .ok (.goto 4, 3) := dTo0_26.1.2.2.2.2.2.2.2.1
theorem dX2_isNought_18 : decode cX2_isNought 18 = .ok (.iconst 0, 1) := dTo0_26.1.2.2.2.2.2.2.2.2.1
theorem dX2_isNought_19 : decode cX2_isNought 19 = .ok (.ireturn, 1) := dTo0_26.1.2.2.2.2.2.2.2.2.2.1
theorem dTo0_27 : dQ cX2_canBeQuarter [[(0, zop26, 0, 0), (1, zop17, 255, 96), (4, zop161, 0, 14), (7, zop26, 0, 0), (8, zop17, 0, 160), (11, zop163, 0, 7), (14, zop4, 0, 0), (15, zop167, 0, 4), (18, zop3, 0, 0), (19, zop172, 0, 0)]] := dQ_of _ _ (by decide +kernel)
theorem dX2_canBeQuarter_0 : decode cX2_canBeQuarter 0 = .ok (.iload_n 0, 1) := dTo0_27.1.1
theorem dX2_canBeQuarter_1 : decode cX2_canBeQuarter 1 = .ok (.sipush (-160), 3) := dTo0_27.1.2.1
theorem dX2_canBeQuarter_4 : decode cX2_canBeQuarter 4 = .ok (.if_icmp .lt 14, 3) := dTo0_27.1.2.2.1
theorem dX2_canBeQuarter_7 : decode cX2_canBeQuarter 7 = .ok (.iload_n 0, 1) := dTo0_27.1.2.2.2.1
theorem dX2_canBeQuarter_8 : decode cX2_canBeQuarter 8 = .ok (.sipush 160, 3) := dTo0_27.1.2.2.2.2.1
theorem dX2_canBeQuarter_11 : decode cX2_canBeQuarter 11 = .ok (.if_icmp .gt 7, 3) := dTo0_27.1.2.2.2.2.2.1
theorem dX2_canBeQuarter_14 : decode cX2_canBeQuarter 14 = .ok (.iconst 1, 1) := dTo0_27.1.2.2.2.2.2.2.1
theorem dX2_canBeQuarter_15 : decode cX2_canBeQuarter 15 = .ok (.goto 4, 3) := dTo0_27.1.2.2.2.2.2.2.2.1
theorem dX2_canBeQuarter_18 : decode cX2_canBeQuarter 18 = .ok (.iconst 0, 1) := dTo0_27.1.2.2.2.2.2.2.2.2.1
theorem dX2_canBeQuarter_19 : decode cX2_canBeQuarter 19 = .ok (.ireturn, 1) := dTo0_27.1.2.2.2.2.2.2.2.2.2.1
theorem dTo0_28 : dQ cX2_turned [[(0, zop26, 0, 0), (1, zop184, 0, 17), (4, zop26, 0, 0), (5, zop184, 0, 21), (8, zop116, 0, 0), (9, zop26, 0, 0), (10, zop184, 0, 24), (13, zop154, 0, 7), (16, zop4, 0, 0), (17, zop167, 0, 4)], [(20, zop3, 0, 0), (21, zop184, 0, 9), (24, zop172, 0, 0)]] := dQ_of _ _ (by decide +kernel)
theorem dX2_turned_0 : decode cX2_turned 0 = .ok (.iload_n 0, 1) := dTo0_28.1.1
theorem dX2_turned_1 : decode cX2_turned 1 = .ok (.invokestatic 17, 3) := dTo0_28.1.2.1
theorem dX2_turned_4 : decode cX2_turned 4 = .ok (.iload_n 0, 1) := dTo0_28.1.2.2.1
theorem dX2_turned_5 : decode cX2_turned 5 = .ok (.invokestatic 21, 3) := dTo0_28.1.2.2.2.1
theorem dX2_turned_8 : decode cX2_turned 8 = .ok (.ineg, 1) := dTo0_28.1.2.2.2.2.1
theorem dX2_turned_9 : decode cX2_turned 9 = .ok (.iload_n 0, 1) := dTo0_28.1.2.2.2.2.2.1
theorem dX2_turned_10 : decode cX2_turned 10 = .ok (.invokestatic 24, 3) := dTo0_28.1.2.2.2.2.2.2.1
theorem dX2_turned_13 : decode cX2_turned 13 = .ok (.ifCond .ne 7, 3) := dTo0_28.1.2.2.2.2.2.2.2.1
theorem dX2_turned_16 : decode cX2_turned 16 = .ok (.iconst 1, 1) := dTo0_28.1.2.2.2.2.2.2.2.2.1
theorem dX2_turned_17 : decode cX2_turned 17 = .ok (.goto 4, 3) := dTo0_28.1.2.2.2.2.2.2.2.2.2.1
theorem dX2_turned_20 : decode cX2_turned 20 = .ok (.iconst 0, 1) := dTo0_28.2.1.1
theorem dX2_turned_21 : decode cX2_turned 21 = .ok (.invokestatic 9, 3) := dTo0_28.2.1.2.1
theorem dX2_turned_24 : decode cX2_turned 24 = .ok (.ireturn, 1) := dTo0_28.2.1.2.2.1
theorem dTo0_29 : dQ cX2_hasWhole [[(0, zop26, 0, 0), (1, zop184, 0, 17), (4, zop60, 0, 0), (5, zop27, 0, 0), (6, zop4, 0, 0), (7, zop159, 0, 18), (10, zop27, 0, 0), (11, zop8, 0, 0), (12, zop159, 0, 13), (15, zop27, 0, 0)], [(16, zop16, 6, 0), (18, zop159, 0, 7), (21, zop4, 0, 0), (22, zop167, 0, 4), (25, zop3, 0, 0), (26, zop172, 0, 0)]] := dQ_of _ _ (by decide +kernel)
theorem dX2_hasWhole_0 : decode cX2_hasWhole 0 = .ok (.iload_n 0, 1) := dTo0_29.1.1
theorem dX2_hasWhole_1 : decode cX2_hasWhole 1 = .ok (.invokestatic 17, 3) := dTo0_29.1.2.1
theorem dX2_hasWhole_4 : decode cX2_hasWhole 4 = .ok (.istore_n 1, 1) := dTo0_29.1.2.2.1
theorem dX2_hasWhole_5 : decode cX2_hasWhole 5 = .ok (.iload_n 1, 1) := dTo0_29.1.2.2.2.1
theorem dX2_hasWhole_6 : decode cX2_hasWhole 6 = .ok (.iconst 1, 1) := dTo0_29.1.2.2.2.2.1
theorem dX2_hasWhole_7 : decode cX2_hasWhole 7 = .ok (.if_icmp .eq 18, 3) := dTo0_29.1.2.2.2.2.2.1
theorem dX2_hasWhole_10 : decode cX2_hasWhole 10 = .ok (.iload_n 1, 1) := dTo0_29.1.2.2.2.2.2.2.1
theorem dX2_hasWhole_11 : decode cX2_hasWhole 11 = .ok (.iconst 5, 1) := dTo0_29.1.2.2.2.2.2.2.2.1
theorem dX2_hasWhole_12 : decode cX2_hasWhole 12 = .ok (.if_icmp .eq 13, 3) := dTo0_29.1.2.2.2.2.2.2.2.2.1
theorem dX2_hasWhole_15 : decode cX2_hasWhole 15 = .ok (.iload_n 1, 1) := dTo0_29.1.2.2.2.2.2.2.2.2.2.1
theorem dX2_hasWhole_16 : decode cX2_hasWhole 16 = .ok (.bipush 6, 2) := dTo0_29.2.1.1
theorem dX2_hasWhole_18 : decode cX2_hasWhole 18 = .ok (.if_icmp .eq 7, 3) := dTo0_29.2.1.2.1
theorem dX2_hasWhole_21 : decode cX2_hasWhole 21 = .ok (.iconst 1, 1) := dTo0_29.2.1.2.2.1
theorem dX2_hasWhole_22 : decode cX2_hasWhole 22 = .ok (.goto 4, 3) := dTo0_29.2.1.2.2.2.1
theorem dX2_hasWhole_25 : decode cX2_hasWhole 25 = .ok (.iconst 0, 1) := dTo0_29.2.1.2.2.2.2.1
theorem dX2_hasWhole_26 : decode cX2_hasWhole 26 = .ok (.ireturn, 1) := dTo0_29.2.1.2.2.2.2.2.1
theorem dTo0_30 : dQ cX2_hasHeight [[(0, zop26, 0, 0), (1, zop184, 0, 28), (4, zop153, 0, 14), (7, zop26, 0, 0), (8, zop184, 0, 31), (11, zop154, 0, 7), (14, zop4, 0, 0), (15, zop167, 0, 4), (18, zop3, 0, 0), (19, zop172, 0, 0)]] := dQ_of _ _ (by decide +kernel)
theorem dX2_hasHeight_0 : decode cX2_hasHeight 0 = .ok (.iload_n 0, 1) := dTo0_30.1.1
theorem dX2_hasHeight_1 : decode cX2_hasHeight 1 = .ok (.invokestatic 28, 3) := dTo0_30.1.2.1
theorem dX2_hasHeight_4 : decode cX2_hasHeight 4 = .ok (.ifCond .eq 14, 3) := dTo0_30.1.2.2.1
theorem dX2_hasHeight_7 : decode cX2_hasHeight 7 = .ok (.iload_n 0, 1) := dTo0_30.1.2.2.2.1
theorem dX2_hasHeight_8 : decode cX2_hasHeight 8 = .ok (.invokestatic 31, 3) := dTo0_30.1.2.2.2.2.1
theorem dX2_hasHeight_11 : decode cX2_hasHeight 11 = .ok (.ifCond .ne 7, 3) := dTo0_30.1.2.2.2.2.2.1
theorem dX2_hasHeight_14 : decode cX2_hasHeight 14 = .ok (.iconst 1, 1) := dTo0_30.1.2.2.2.2.2.2.1
theorem dX2_hasHeight_15 : decode cX2_hasHeight 15 = .ok (.goto 4, 3) := dTo0_30.1.2.2.2.2.2.2.2.1
theorem dX2_hasHeight_18 : decode cX2_hasHeight 18 = .ok (.iconst 0, 1) := dTo0_30.1.2.2.2.2.2.2.2.2.1
theorem dX2_hasHeight_19 : decode cX2_hasHeight 19 = .ok (.ireturn, 1) := dTo0_30.1.2.2.2.2.2.2.2.2.2.1
theorem dTo0_31 : dQ cX2_hasToldDigits [[(0, zop26, 0, 0), (1, zop184, 0, 17), (4, zop153, 0, 11), (7, zop26, 0, 0), (8, zop184, 0, 17), (11, zop4, 0, 0), (12, zop160, 0, 7), (15, zop4, 0, 0), (16, zop167, 0, 4), (19, zop3, 0, 0)], [(20, zop172, 0, 0)]] := dQ_of _ _ (by decide +kernel)
theorem dX2_hasToldDigits_0 : decode cX2_hasToldDigits 0 = .ok (.iload_n 0, 1) := dTo0_31.1.1
theorem dX2_hasToldDigits_1 : decode cX2_hasToldDigits 1 = .ok (.invokestatic 17, 3) := dTo0_31.1.2.1
theorem dX2_hasToldDigits_4 : decode cX2_hasToldDigits 4 = .ok (.ifCond .eq 11, 3) := dTo0_31.1.2.2.1
theorem dX2_hasToldDigits_7 : decode cX2_hasToldDigits 7 = .ok (.iload_n 0, 1) := dTo0_31.1.2.2.2.1
theorem dX2_hasToldDigits_8 : decode cX2_hasToldDigits 8 = .ok (.invokestatic 17, 3) := dTo0_31.1.2.2.2.2.1
theorem dX2_hasToldDigits_11 : decode cX2_hasToldDigits 11 = .ok (.iconst 1, 1) := dTo0_31.1.2.2.2.2.2.1
theorem dX2_hasToldDigits_12 : decode cX2_hasToldDigits 12 = .ok (.if_icmp .ne 7, 3) := dTo0_31.1.2.2.2.2.2.2.1
theorem dX2_hasToldDigits_15 : decode cX2_hasToldDigits 15 = .ok (.iconst 1, 1) := dTo0_31.1.2.2.2.2.2.2.2.1
theorem dX2_hasToldDigits_16 : decode cX2_hasToldDigits 16 = .ok (.goto 4, 3) := dTo0_31.1.2.2.2.2.2.2.2.2.1
theorem dX2_hasToldDigits_19 : decode cX2_hasToldDigits 19 = .ok (.iconst 0, 1) := dTo0_31.1.2.2.2.2.2.2.2.2.2.1
theorem dX2_hasToldDigits_20 : decode cX2_hasToldDigits 20 = .ok (.ireturn, 1) := dTo0_31.2.1.1
theorem dTo0_32 : dQ cX2_areNear [[(0, zop26, 0, 0), (1, zop184, 0, 17), (4, zop27, 0, 0), (5, zop184, 0, 17), (8, zop159, 0, 32), (11, zop26, 0, 0), (12, zop184, 0, 21), (15, zop27, 0, 0), (16, zop184, 0, 21), (19, zop160, 0, 21)], [(22, zop26, 0, 0), (23, zop184, 0, 34), (26, zop153, 0, 14), (29, zop27, 0, 0), (30, zop184, 0, 34), (33, zop153, 0, 7), (36, zop4, 0, 0), (37, zop167, 0, 4), (40, zop3, 0, 0), (41, zop172, 0, 0)]] := dQ_of _ _ (by decide +kernel)
theorem dX2_areNear_0 : decode cX2_areNear 0 = .ok (.iload_n 0, 1) := dTo0_32.1.1
theorem dX2_areNear_1 : decode cX2_areNear 1 = .ok (.invokestatic 17, 3) := dTo0_32.1.2.1
theorem dX2_areNear_4 : decode cX2_areNear 4 = .ok (.iload_n 1, 1) := dTo0_32.1.2.2.1
theorem dX2_areNear_5 : decode cX2_areNear 5 = .ok (.invokestatic 17, 3) := dTo0_32.1.2.2.2.1
theorem dX2_areNear_8 : decode cX2_areNear 8 = .ok (.if_icmp .eq 32, 3) := dTo0_32.1.2.2.2.2.1
theorem dX2_areNear_11 : decode cX2_areNear 11 = .ok (.iload_n 0, 1) := dTo0_32.1.2.2.2.2.2.1
theorem dX2_areNear_12 : decode cX2_areNear 12 = .ok (.invokestatic 21, 3) := dTo0_32.1.2.2.2.2.2.2.1
theorem dX2_areNear_15 : decode cX2_areNear 15 = .ok (.iload_n 1, 1) := dTo0_32.1.2.2.2.2.2.2.2.1
theorem dX2_areNear_16 : decode cX2_areNear 16 = .ok (.invokestatic 21, 3) := dTo0_32.1.2.2.2.2.2.2.2.2.1
theorem dX2_areNear_19 : decode cX2_areNear 19 = .ok (.if_icmp .ne 21, 3) := dTo0_32.1.2.2.2.2.2.2.2.2.2.1
theorem dX2_areNear_22 : decode cX2_areNear 22 = .ok (.iload_n 0, 1) := dTo0_32.2.1.1
theorem dX2_areNear_23 : decode cX2_areNear 23 = .ok (.invokestatic 34, 3) := dTo0_32.2.1.2.1
theorem dX2_areNear_26 : decode cX2_areNear 26 = .ok (.ifCond .eq 14, 3) := dTo0_32.2.1.2.2.1
theorem dX2_areNear_29 : decode cX2_areNear 29 = .ok (.iload_n 1, 1) := dTo0_32.2.1.2.2.2.1
theorem dX2_areNear_30 : decode cX2_areNear 30 = .ok (.invokestatic 34, 3) := dTo0_32.2.1.2.2.2.2.1
theorem dX2_areNear_33 : decode cX2_areNear 33 = .ok (.ifCond .eq 7, 3) := dTo0_32.2.1.2.2.2.2.2.1
theorem dX2_areNear_36 : decode cX2_areNear 36 = .ok (.iconst 1, 1) := dTo0_32.2.1.2.2.2.2.2.2.1
theorem dX2_areNear_37 : decode cX2_areNear 37 = .ok (.goto 4, 3) := dTo0_32.2.1.2.2.2.2.2.2.2.1
theorem dX2_areNear_40 : decode cX2_areNear 40 = .ok (.iconst 0, 1) := dTo0_32.2.1.2.2.2.2.2.2.2.2.1
theorem dX2_areNear_41 : decode cX2_areNear 41 = .ok (.ireturn, 1) := dTo0_32.2.1.2.2.2.2.2.2.2.2.2.1
theorem dTo0_33 : dQ cX2_hasQuarterAsTrue [[(0, zop26, 0, 0), (1, zop184, 0, 17), (4, zop60, 0, 0), (5, zop27, 0, 0), (6, zop153, 0, 14), (9, zop27, 0, 0), (10, zop8, 0, 0), (11, zop159, 0, 9), (14, zop27, 0, 0), (15, zop16, 6, 0)], [(17, zop160, 0, 7), (20, zop4, 0, 0), (21, zop167, 0, 4), (24, zop3, 0, 0), (25, zop172, 0, 0)]] := dQ_of _ _ (by decide +kernel)
theorem dX2_hasQuarterAsTrue_0 : decode cX2_hasQuarterAsTrue 0 = .ok (.iload_n 0, 1) := dTo0_33.1.1
theorem dX2_hasQuarterAsTrue_1 : decode cX2_hasQuarterAsTrue 1 = .ok (.invokestatic 17, 3) := dTo0_33.1.2.1
theorem dX2_hasQuarterAsTrue_4 : decode cX2_hasQuarterAsTrue 4 = .ok (.istore_n 1, 1) := dTo0_33.1.2.2.1
theorem dX2_hasQuarterAsTrue_5 : decode cX2_hasQuarterAsTrue 5 = .ok (.iload_n 1, 1) := dTo0_33.1.2.2.2.1
theorem dX2_hasQuarterAsTrue_6 : decode cX2_hasQuarterAsTrue 6 = .ok (.ifCond .eq 14, 3) := dTo0_33.1.2.2.2.2.1
theorem dX2_hasQuarterAsTrue_9 : decode cX2_hasQuarterAsTrue 9 = .ok (.iload_n 1, 1) := dTo0_33.1.2.2.2.2.2.1
theorem dX2_hasQuarterAsTrue_10 : decode cX2_hasQuarterAsTrue 10 = .ok (.iconst 5, 1) := dTo0_33.1.2.2.2.2.2.2.1
theorem dX2_hasQuarterAsTrue_11 : decode cX2_hasQuarterAsTrue 11 = .ok (.if_icmp .eq 9, 3) := dTo0_33.1.2.2.2.2.2.2.2.1
theorem dX2_hasQuarterAsTrue_14 : decode cX2_hasQuarterAsTrue 14 = .ok (.iload_n 1, 1) := dTo0_33.1.2.2.2.2.2.2.2.2.1
theorem dX2_hasQuarterAsTrue_15 : decode cX2_hasQuarterAsTrue 15 = .ok (.bipush 6, 2) := dTo0_33.1.2.2.2.2.2.2.2.2.2.1
theorem dX2_hasQuarterAsTrue_17 : decode cX2_hasQuarterAsTrue 17 = .ok (.if_icmp .ne 7, 3) := dTo0_33.2.1.1
theorem dX2_hasQuarterAsTrue_20 : decode cX2_hasQuarterAsTrue 20 = .ok (.iconst 1, 1) := dTo0_33.2.1.2.1
theorem dX2_hasQuarterAsTrue_21 : decode cX2_hasQuarterAsTrue 21 = .ok (.goto 4, 3) := dTo0_33.2.1.2.2.1
theorem dX2_hasQuarterAsTrue_24 : decode cX2_hasQuarterAsTrue 24 = .ok (.iconst 0, 1) := dTo0_33.2.1.2.2.2.1
theorem dX2_hasQuarterAsTrue_25 : decode cX2_hasQuarterAsTrue 25 = .ok (.ireturn, 1) := dTo0_33.2.1.2.2.2.2.1
theorem dTo0_34 : dQ cX2_mostSteps [[(0, zop26, 0, 0), (1, zop16, 244, 0), (3, zop161, 0, 5), (6, zop5, 0, 0), (7, zop172, 0, 0), (8, zop26, 0, 0), (9, zop16, 240, 0), (11, zop161, 0, 5), (14, zop8, 0, 0), (15, zop172, 0, 0)], [(16, zop26, 0, 0), (17, zop16, 236, 0), (19, zop161, 0, 6), (22, zop16, 6, 0), (24, zop172, 0, 0), (25, zop26, 0, 0), (26, zop16, 232, 0), (28, zop161, 0, 6), (31, zop16, 10, 0), (33, zop172, 0, 0)], [(34, zop26, 0, 0), (35, zop16, 228, 0), (37, zop161, 0, 8), (40, zop16, 53, 0), (42, zop167, 0, 5), (45, zop16, 124, 0), (47, zop172, 0, 0)]] := dQ_of _ _ (by decide +kernel)
theorem dX2_mostSteps_0 : decode cX2_mostSteps 0 = .ok (.iload_n 0, 1) := dTo0_34.1.1
theorem dX2_mostSteps_1 : decode cX2_mostSteps 1 = .ok (.bipush (-12), 2) := dTo0_34.1.2.1
theorem dX2_mostSteps_3 : decode cX2_mostSteps 3 = .ok (.if_icmp .lt 5, 3) := dTo0_34.1.2.2.1
theorem dX2_mostSteps_6 : decode cX2_mostSteps 6 = .ok (.iconst 2, 1) := dTo0_34.1.2.2.2.1
theorem dX2_mostSteps_7 : decode cX2_mostSteps 7 = .ok (.ireturn, 1) := dTo0_34.1.2.2.2.2.1
theorem dX2_mostSteps_8 : decode cX2_mostSteps 8 = .ok (.iload_n 0, 1) := dTo0_34.1.2.2.2.2.2.1
theorem dX2_mostSteps_9 : decode cX2_mostSteps 9 = .ok (.bipush (-16), 2) := dTo0_34.1.2.2.2.2.2.2.1
theorem dX2_mostSteps_11 : decode cX2_mostSteps 11 = .ok (.if_icmp .lt 5, 3) := dTo0_34.1.2.2.2.2.2.2.2.1
theorem dX2_mostSteps_14 : decode cX2_mostSteps 14 = .ok (.iconst 5, 1) := dTo0_34.1.2.2.2.2.2.2.2.2.1
theorem dX2_mostSteps_15 : decode cX2_mostSteps 15 = .ok (.ireturn, 1) := dTo0_34.1.2.2.2.2.2.2.2.2.2.1
theorem dX2_mostSteps_16 : decode cX2_mostSteps 16 = .ok (.iload_n 0, 1) := dTo0_34.2.1.1
theorem dX2_mostSteps_17 : decode cX2_mostSteps 17 = .ok (.bipush (-20), 2) := dTo0_34.2.1.2.1
theorem dX2_mostSteps_19 : decode cX2_mostSteps 19 = .ok (.if_icmp .lt 6, 3) := dTo0_34.2.1.2.2.1
theorem dX2_mostSteps_22 : decode cX2_mostSteps 22 = .ok (.bipush 6, 2) := dTo0_34.2.1.2.2.2.1
theorem dX2_mostSteps_24 : decode cX2_mostSteps 24 = .ok (.ireturn, 1) := dTo0_34.2.1.2.2.2.2.1
theorem dX2_mostSteps_25 : decode cX2_mostSteps 25 = .ok (.iload_n 0, 1) := dTo0_34.2.1.2.2.2.2.2.1
theorem dX2_mostSteps_26 : decode cX2_mostSteps 26 = .ok (.bipush (-24), 2) := dTo0_34.2.1.2.2.2.2.2.2.1
theorem dX2_mostSteps_28 : decode cX2_mostSteps 28 = .ok (.if_icmp .lt 6, 3) := dTo0_34.2.1.2.2.2.2.2.2.2.1
theorem dX2_mostSteps_31 : decode cX2_mostSteps 31 = .ok (.bipush 10, 2) := dTo0_34.2.1.2.2.2.2.2.2.2.2.1
theorem dX2_mostSteps_33 : decode cX2_mostSteps 33 = .ok (.ireturn, 1) := dTo0_34.2.1.2.2.2.2.2.2.2.2.2.1
theorem dX2_mostSteps_34 : decode cX2_mostSteps 34 = .ok (.iload_n 0, 1) := dTo0_34.2.2.1.1
theorem dX2_mostSteps_35 : decode cX2_mostSteps 35 = .ok (.bipush (-28), 2) := dTo0_34.2.2.1.2.1
theorem dX2_mostSteps_37 : decode cX2_mostSteps 37 = .ok (.if_icmp .lt 8, 3) := dTo0_34.2.2.1.2.2.1
theorem dX2_mostSteps_40 : decode cX2_mostSteps 40 = .ok (.bipush 53, 2) := dTo0_34.2.2.1.2.2.2.1
theorem dX2_mostSteps_42 : decode cX2_mostSteps 42 = .ok (.goto 5, 3) := dTo0_34.2.2.1.2.2.2.2.1
theorem dX2_mostSteps_45 : decode cX2_mostSteps 45 = .ok (.bipush 124, 2) := dTo0_34.2.2.1.2.2.2.2.2.1
theorem dX2_mostSteps_47 : decode cX2_mostSteps 47 = .ok (.ireturn, 1) := dTo0_34.2.2.1.2.2.2.2.2.2.1
theorem dTo0_35 : dQ cX2_textOf [[(0, zop187, 0, 37), (3, zop89, 0, 0), (4, zop183, 0, 39), (7, zop76, 0, 0), (8, zop26, 0, 0), (9, zop184, 0, 31), (12, zop154, 0, 11), (15, zop26, 0, 0), (16, zop184, 0, 17), (19, zop4, 0, 0)], [(20, zop160, 0, 46), (23, zop43, 0, 0), (24, zop26, 0, 0), (25, zop184, 0, 24), (28, zop153, 0, 8), (31, zop18, 40, 0), (33, zop167, 0, 5), (36, zop18, 42, 0), (38, zop182, 0, 44), (41, zop87, 0, 0)], [(42, zop43, 0, 0), (43, zop26, 0, 0), (44, zop184, 0, 31), (47, zop153, 0, 8), (50, zop18, 48, 0), (52, zop167, 0, 5), (55, zop18, 50, 0), (57, zop182, 0, 44), (60, zop87, 0, 0), (61, zop43, 0, 0)], [(62, zop182, 0, 52), (65, zop176, 0, 0), (66, zop43, 0, 0), (67, zop26, 0, 0), (68, zop184, 0, 17), (71, zop184, 0, 56), (74, zop182, 0, 44), (77, zop87, 0, 0), (78, zop43, 0, 0), (79, zop16, 32, 0)], [(81, zop182, 0, 60), (84, zop87, 0, 0), (85, zop43, 0, 0), (86, zop26, 0, 0), (87, zop184, 0, 21), (90, zop182, 0, 63), (93, zop87, 0, 0), (94, zop43, 0, 0), (95, zop182, 0, 52), (98, zop176, 0, 0)]] := dQ_of _ _ (by decide +kernel)
theorem dX2_textOf_0 : decode cX2_textOf 0 = .ok (.new 37, 3) := dTo0_35.1.1
theorem dX2_textOf_3 : decode cX2_textOf 3 = .ok (.dup, 1) := dTo0_35.1.2.1
theorem dX2_textOf_4 : decode cX2_textOf 4 = .ok (.invokespecial 39, 3) := dTo0_35.1.2.2.1
theorem dX2_textOf_7 : decode cX2_textOf 7 = .ok (.astore_n 1, 1) := dTo0_35.1.2.2.2.1
theorem dX2_textOf_8 : decode cX2_textOf 8 = .ok (.iload_n 0, 1) := dTo0_35.1.2.2.2.2.1
theorem dX2_textOf_9 : decode cX2_textOf 9 = .ok (.invokestatic 31, 3) := dTo0_35.1.2.2.2.2.2.1
theorem dX2_textOf_12 : decode cX2_textOf 12 = .ok (.ifCond .ne 11, 3) := dTo0_35.1.2.2.2.2.2.2.1
theorem dX2_textOf_15 : decode cX2_textOf 15 = .ok (.iload_n 0, 1) := dTo0_35.1.2.2.2.2.2.2.2.1
theorem dX2_textOf_16 : decode cX2_textOf 16 = .ok (.invokestatic 17, 3) := dTo0_35.1.2.2.2.2.2.2.2.2.1
theorem dX2_textOf_19 : decode cX2_textOf 19 = .ok (.iconst 1, 1) := dTo0_35.1.2.2.2.2.2.2.2.2.2.1
theorem dX2_textOf_20 : decode cX2_textOf 20 = .ok (.if_icmp .ne 46, 3) := dTo0_35.2.1.1
theorem dX2_textOf_23 : decode cX2_textOf 23 = .ok (.aload_n 1, 1) := dTo0_35.2.1.2.1
theorem dX2_textOf_24 : decode cX2_textOf 24 = .ok (.iload_n 0, 1) := dTo0_35.2.1.2.2.1
theorem dX2_textOf_25 : decode cX2_textOf 25 = .ok (.invokestatic 24, 3) := dTo0_35.2.1.2.2.2.1
theorem dX2_textOf_28 : decode cX2_textOf 28 = .ok (.ifCond .eq 8, 3) := dTo0_35.2.1.2.2.2.2.1
theorem dX2_textOf_31 : decode cX2_textOf 31 = .ok (.ldc 40, 2) := dTo0_35.2.1.2.2.2.2.2.1
theorem dX2_textOf_33 : decode cX2_textOf 33 = .ok (.goto 5, 3) := dTo0_35.2.1.2.2.2.2.2.2.1
theorem dX2_textOf_36 : decode cX2_textOf 36 = .ok (.ldc 42, 2) := dTo0_35.2.1.2.2.2.2.2.2.2.1
theorem dX2_textOf_38 : decode cX2_textOf 38 = .ok (.invokevirtual 44, 3) := dTo0_35.2.1.2.2.2.2.2.2.2.2.1
theorem dX2_textOf_41 : decode cX2_textOf 41 = .ok (.pop, 1) := dTo0_35.2.1.2.2.2.2.2.2.2.2.2.1
theorem dX2_textOf_42 : decode cX2_textOf 42 = .ok (.aload_n 1, 1) := dTo0_35.2.2.1.1
theorem dX2_textOf_43 : decode cX2_textOf 43 = .ok (.iload_n 0, 1) := dTo0_35.2.2.1.2.1
theorem dX2_textOf_44 : decode cX2_textOf 44 = .ok (.invokestatic 31, 3) := dTo0_35.2.2.1.2.2.1
theorem dX2_textOf_47 : decode cX2_textOf 47 = .ok (.ifCond .eq 8, 3) := dTo0_35.2.2.1.2.2.2.1
theorem dX2_textOf_50 : decode cX2_textOf 50 = .ok (.ldc 48, 2) := dTo0_35.2.2.1.2.2.2.2.1
theorem dX2_textOf_52 : decode cX2_textOf 52 = .ok (.goto 5, 3) := dTo0_35.2.2.1.2.2.2.2.2.1
theorem dX2_textOf_55 : decode cX2_textOf 55 = .ok (.ldc 50, 2) := dTo0_35.2.2.1.2.2.2.2.2.2.1
theorem dX2_textOf_57 : decode cX2_textOf 57 = .ok (.invokevirtual 44, 3) := dTo0_35.2.2.1.2.2.2.2.2.2.2.1
theorem dX2_textOf_60 : decode cX2_textOf 60 = .ok (.pop, 1) := dTo0_35.2.2.1.2.2.2.2.2.2.2.2.1
theorem dX2_textOf_61 : decode cX2_textOf 61 = .ok (.aload_n 1, 1) := dTo0_35.2.2.1.2.2.2.2.2.2.2.2.2.1
theorem dX2_textOf_62 : decode cX2_textOf 62 = .ok (.invokevirtual 52, 3) := dTo0_35.2.2.2.1.1
theorem dX2_textOf_65 : decode cX2_textOf 65 = .ok (.areturn, 1) := dTo0_35.2.2.2.1.2.1
theorem dX2_textOf_66 : decode cX2_textOf 66 = .ok (.aload_n 1, 1) := dTo0_35.2.2.2.1.2.2.1
theorem dX2_textOf_67 : decode cX2_textOf 67 = .ok (.iload_n 0, 1) := dTo0_35.2.2.2.1.2.2.2.1
theorem dX2_textOf_68 : decode cX2_textOf 68 = .ok (.invokestatic 17, 3) := dTo0_35.2.2.2.1.2.2.2.2.1
theorem dX2_textOf_71 : decode cX2_textOf 71 = .ok (.invokestatic 56, 3) := dTo0_35.2.2.2.1.2.2.2.2.2.1
theorem dX2_textOf_74 : decode cX2_textOf 74 = .ok (.invokevirtual 44, 3) := dTo0_35.2.2.2.1.2.2.2.2.2.2.1
theorem dX2_textOf_77 : decode cX2_textOf 77 = .ok (.pop, 1) := dTo0_35.2.2.2.1.2.2.2.2.2.2.2.1
theorem dX2_textOf_78 : decode cX2_textOf 78 = .ok (.aload_n 1, 1) := dTo0_35.2.2.2.1.2.2.2.2.2.2.2.2.1
theorem dX2_textOf_79 : decode cX2_textOf 79 = .ok (.bipush 32, 2) := dTo0_35.2.2.2.1.2.2.2.2.2.2.2.2.2.1
theorem dX2_textOf_81 : decode cX2_textOf 81 = .ok (.invokevirtual 60, 3) := dTo0_35.2.2.2.2.1.1
theorem dX2_textOf_84 : decode cX2_textOf 84 = .ok (.pop, 1) := dTo0_35.2.2.2.2.1.2.1
theorem dX2_textOf_85 : decode cX2_textOf 85 = .ok (.aload_n 1, 1) := dTo0_35.2.2.2.2.1.2.2.1
theorem dX2_textOf_86 : decode cX2_textOf 86 = .ok (.iload_n 0, 1) := dTo0_35.2.2.2.2.1.2.2.2.1
theorem dX2_textOf_87 : decode cX2_textOf 87 = .ok (.invokestatic 21, 3) := dTo0_35.2.2.2.2.1.2.2.2.2.1
theorem dX2_textOf_90 : decode cX2_textOf 90 = .ok (.invokevirtual 63, 3) := dTo0_35.2.2.2.2.1.2.2.2.2.2.1
theorem dX2_textOf_93 : decode cX2_textOf 93 = .ok (.pop, 1) := dTo0_35.2.2.2.2.1.2.2.2.2.2.2.1
theorem dX2_textOf_94 : decode cX2_textOf 94 = .ok (.aload_n 1, 1) := dTo0_35.2.2.2.2.1.2.2.2.2.2.2.2.1
theorem dX2_textOf_95 : decode cX2_textOf 95 = .ok (.invokevirtual 52, 3) := dTo0_35.2.2.2.2.1.2.2.2.2.2.2.2.2.1
theorem dX2_textOf_98 : decode cX2_textOf 98 = .ok (.areturn, 1) := dTo0_35.2.2.2.2.1.2.2.2.2.2.2.2.2.2.1
theorem dX2_nameOf_1 : decode cX2_nameOf 1 = .ok (.tableswitch 50 2 6 #[35, 38, 41, 44, 47], 35) := by decide +kernel
theorem dTo0_36 : dQ cX2_nameOf [[(0, zop26, 0, 0), (36, zop18, 66, 0), (38, zop176, 0, 0), (39, zop18, 68, 0), (41, zop176, 0, 0), (42, zop18, 70, 0), (44, zop176, 0, 0), (45, zop18, 72, 0), (47, zop176, 0, 0), (48, zop18, 74, 0)], [(50, zop176, 0, 0), (51, zop18, 76, 0), (53, zop176, 0, 0)]] := dQ_of _ _ (by decide +kernel)
theorem dX2_nameOf_0 : decode cX2_nameOf 0 = .ok (.iload_n 0, 1) := dTo0_36.1.1
theorem dX2_nameOf_36 : decode cX2_nameOf 36 = .ok (.ldc 66, 2) := dTo0_36.1.2.1
theorem dX2_nameOf_38 : decode cX2_nameOf 38 = .ok (.areturn, 1) := dTo0_36.1.2.2.1
theorem dX2_nameOf_39 : decode cX2_nameOf 39 = .ok (.ldc 68, 2) := dTo0_36.1.2.2.2.1
theorem dX2_nameOf_41 : decode cX2_nameOf 41 = .ok (.areturn, 1) := dTo0_36.1.2.2.2.2.1
theorem dX2_nameOf_42 : decode cX2_nameOf 42 = .ok (.ldc 70, 2) := dTo0_36.1.2.2.2.2.2.1
theorem dX2_nameOf_44 : decode cX2_nameOf 44 = .ok (.areturn, 1) := dTo0_36.1.2.2.2.2.2.2.1
theorem dX2_nameOf_45 : decode cX2_nameOf 45 = .ok (.ldc 72, 2) := dTo0_36.1.2.2.2.2.2.2.2.1
theorem dX2_nameOf_47 : decode cX2_nameOf 47 = .ok (.areturn, 1) := dTo0_36.1.2.2.2.2.2.2.2.2.1
theorem dX2_nameOf_48 : decode cX2_nameOf 48 = .ok (.ldc 74, 2) := dTo0_36.1.2.2.2.2.2.2.2.2.2.1
theorem dX2_nameOf_50 : decode cX2_nameOf 50 = .ok (.areturn, 1) := dTo0_36.2.1.1
theorem dX2_nameOf_51 : decode cX2_nameOf 51 = .ok (.ldc 76, 2) := dTo0_36.2.1.2.1
theorem dX2_nameOf_53 : decode cX2_nameOf 53 = .ok (.areturn, 1) := dTo0_36.2.1.2.2.1
theorem dTo0_37 : dQ cX3_take [[(0, zop27, 0, 0), (1, zop155, 0, 15), (4, zop27, 0, 0), (5, zop42, 0, 0), (6, zop190, 0, 0), (7, zop162, 0, 9), (10, zop42, 0, 0), (11, zop27, 0, 0), (12, zop47, 0, 0), (13, zop167, 0, 4)], [(16, zop9, 0, 0), (17, zop173, 0, 0)]] := dQ_of _ _ (by decide +kernel)
theorem dX3_take_0 : decode cX3_take 0 = .ok (.iload_n 1, 1) := dTo0_37.1.1
theorem dX3_take_1 : decode cX3_take 1 = .ok (.ifCond .lt 15, 3) := dTo0_37.1.2.1
theorem dX3_take_4 : decode cX3_take 4 = .ok (.iload_n 1, 1) := dTo0_37.1.2.2.1
theorem dX3_take_5 : decode cX3_take 5 = .ok (.aload_n 0, 1) := dTo0_37.1.2.2.2.1
theorem dX3_take_6 : decode cX3_take 6 = .ok (.arraylength, 1) := dTo0_37.1.2.2.2.2.1
theorem dX3_take_7 : decode cX3_take 7 = .ok (.if_icmp .ge 9, 3) := dTo0_37.1.2.2.2.2.2.1
theorem dX3_take_10 : decode cX3_take 10 = .ok (.aload_n 0, 1) := dTo0_37.1.2.2.2.2.2.2.1
theorem dX3_take_11 : decode cX3_take 11 = .ok (.iload_n 1, 1) := dTo0_37.1.2.2.2.2.2.2.2.1
theorem dX3_take_12 : decode cX3_take 12 = .ok (.laload, 1) := dTo0_37.1.2.2.2.2.2.2.2.2.1
theorem dX3_take_13 : decode cX3_take 13 = .ok (.goto 4, 3) := dTo0_37.1.2.2.2.2.2.2.2.2.2.1
theorem dX3_take_16 : decode cX3_take 16 = .ok (.lconst 0, 1) := dTo0_37.2.1.1
theorem dX3_take_17 : decode cX3_take 17 = .ok (.lreturn, 1) := dTo0_37.2.1.2.1
theorem dX4_firstQ_1 : decode cX4_firstQ 1 = .ok (.lookupswitch 33 #[(2, 27), (3, 30)], 27) := by decide +kernel
theorem dTo0_38 : dQ cX4_firstQ [[(0, zop26, 0, 0), (28, zop16, 128, 0), (30, zop172, 0, 0), (31, zop16, 253, 0), (33, zop172, 0, 0), (34, zop17, 255, 96), (37, zop172, 0, 0)]] := dQ_of _ _ (by decide +kernel)
theorem dX4_firstQ_0 : decode cX4_firstQ 0 = .ok (.iload_n 0, 1) := dTo0_38.1.1
theorem dX4_firstQ_28 : decode cX4_firstQ 28 = .ok (.bipush (-128), 2) := dTo0_38.1.2.1
theorem dX4_firstQ_30 : decode cX4_firstQ 30 = .ok (.ireturn, 1) := dTo0_38.1.2.2.1
theorem dX4_firstQ_31 : decode cX4_firstQ 31 = .ok (.bipush (-3), 2) := dTo0_38.1.2.2.2.1
theorem dX4_firstQ_33 : decode cX4_firstQ 33 = .ok (.ireturn, 1) := dTo0_38.1.2.2.2.2.1
theorem dX4_firstQ_34 : decode cX4_firstQ 34 = .ok (.sipush (-160), 3) := dTo0_38.1.2.2.2.2.2.1
theorem dX4_firstQ_37 : decode cX4_firstQ 37 = .ok (.ireturn, 1) := dTo0_38.1.2.2.2.2.2.2.1
theorem dTo0_39 : dQ cX4_lastQ [[(0, zop26, 0, 0), (1, zop5, 0, 0), (2, zop160, 0, 9), (5, zop17, 0, 144), (8, zop167, 0, 6), (11, zop17, 0, 160), (14, zop172, 0, 0)]] := dQ_of _ _ (by decide +kernel)
theorem dX4_lastQ_0 : decode cX4_lastQ 0 = .ok (.iload_n 0, 1) := dTo0_39.1.1
theorem dX4_lastQ_1 : decode cX4_lastQ 1 = .ok (.iconst 2, 1) := dTo0_39.1.2.1
theorem dX4_lastQ_2 : decode cX4_lastQ 2 = .ok (.if_icmp .ne 9, 3) := dTo0_39.1.2.2.1
theorem dX4_lastQ_5 : decode cX4_lastQ 5 = .ok (.sipush 144, 3) := dTo0_39.1.2.2.2.1
theorem dX4_lastQ_8 : decode cX4_lastQ 8 = .ok (.goto 6, 3) := dTo0_39.1.2.2.2.2.1
theorem dX4_lastQ_11 : decode cX4_lastQ 11 = .ok (.sipush 160, 3) := dTo0_39.1.2.2.2.2.2.1
theorem dX4_lastQ_14 : decode cX4_lastQ 14 = .ok (.ireturn, 1) := dTo0_39.1.2.2.2.2.2.2.1
theorem dTo0_40 : dQ cX4_has [[(0, zop27, 0, 0), (1, zop26, 0, 0), (2, zop184, 0, 13), (5, zop161, 0, 15), (8, zop27, 0, 0), (9, zop26, 0, 0), (10, zop184, 0, 19), (13, zop163, 0, 7), (16, zop4, 0, 0), (17, zop167, 0, 4)], [(20, zop3, 0, 0), (21, zop172, 0, 0)]] := dQ_of _ _ (by decide +kernel)
theorem dX4_has_0 : decode cX4_has 0 = .ok (.iload_n 1, 1) := dTo0_40.1.1
theorem dX4_has_1 : decode cX4_has 1 = .ok (.iload_n 0, 1) := dTo0_40.1.2.1
theorem dX4_has_2 : decode cX4_has 2 = .ok (.invokestatic 13, 3) := dTo0_40.1.2.2.1
theorem dX4_has_5 : decode cX4_has 5 = .ok (.if_icmp .lt 15, 3) := dTo0_40.1.2.2.2.1
theorem dX4_has_8 : decode cX4_has 8 = .ok (.iload_n 1, 1) := dTo0_40.1.2.2.2.2.1
theorem dX4_has_9 : decode cX4_has 9 = .ok (.iload_n 0, 1) := dTo0_40.1.2.2.2.2.2.1
theorem dX4_has_10 : decode cX4_has 10 = .ok (.invokestatic 19, 3) := dTo0_40.1.2.2.2.2.2.2.1
theorem dX4_has_13 : decode cX4_has 13 = .ok (.if_icmp .gt 7, 3) := dTo0_40.1.2.2.2.2.2.2.2.1
theorem dX4_has_16 : decode cX4_has 16 = .ok (.iconst 1, 1) := dTo0_40.1.2.2.2.2.2.2.2.2.1
theorem dX4_has_17 : decode cX4_has 17 = .ok (.goto 4, 3) := dTo0_40.1.2.2.2.2.2.2.2.2.2.1
theorem dX4_has_20 : decode cX4_has 20 = .ok (.iconst 0, 1) := dTo0_40.2.1.1
theorem dX4_has_21 : decode cX4_has 21 = .ok (.ireturn, 1) := dTo0_40.2.1.2.1
theorem dX4_digitsAt_1 : decode cX4_digitsAt 1 = .ok (.tableswitch 64 1 3 #[27, 34, 49], 27) := by decide +kernel
theorem dTo0_41 : dQ cX4_digitsAt [[(0, zop26, 0, 0), (28, zop5, 0, 0), (29, zop27, 0, 0), (30, zop3, 0, 0), (31, zop184, 0, 22), (34, zop173, 0, 0), (35, zop6, 0, 0), (36, zop27, 0, 0), (37, zop27, 0, 0), (38, zop156, 0, 7)], [(41, zop4, 0, 0), (42, zop167, 0, 4), (45, zop3, 0, 0), (46, zop184, 0, 22), (49, zop173, 0, 0), (50, zop7, 0, 0), (51, zop27, 0, 0), (52, zop27, 0, 0), (53, zop156, 0, 7), (56, zop4, 0, 0)], [(57, zop167, 0, 4), (60, zop3, 0, 0), (61, zop184, 0, 22), (64, zop173, 0, 0), (65, zop27, 0, 0), (66, zop133, 0, 0), (67, zop5, 0, 0), (68, zop184, 0, 28), (71, zop173, 0, 0)]] := dQ_of _ _ (by decide +kernel)
theorem dX4_digitsAt_0 : decode cX4_digitsAt 0 = .ok (.iload_n 0, 1) := dTo0_41.1.1
theorem dX4_digitsAt_28 : decode cX4_digitsAt 28 = .ok (.iconst 2, 1) := dTo0_41.1.2.1
theorem dX4_digitsAt_29 : decode cX4_digitsAt 29 = .ok (.iload_n 1, 1) := dTo0_41.1.2.2.1
theorem dX4_digitsAt_30 : decode cX4_digitsAt 30 = .ok (.iconst 0, 1) := dTo0_41.1.2.2.2.1
theorem dX4_digitsAt_31 : decode cX4_digitsAt 31 = .ok (.invokestatic 22, 3) := dTo0_41.1.2.2.2.2.1
theorem dX4_digitsAt_34 : decode cX4_digitsAt 34 = .ok (.lreturn, 1) := dTo0_41.1.2.2.2.2.2.1
theorem dX4_digitsAt_35 : decode cX4_digitsAt 35 = .ok (.iconst 3, 1) := dTo0_41.1.2.2.2.2.2.2.1
theorem dX4_digitsAt_36 : decode cX4_digitsAt 36 = .ok (.iload_n 1, 1) := dTo0_41.1.2.2.2.2.2.2.2.1
theorem dX4_digitsAt_37 : decode cX4_digitsAt 37 = .ok (.iload_n 1, 1) := dTo0_41.1.2.2.2.2.2.2.2.2.1
theorem dX4_digitsAt_38 : decode cX4_digitsAt 38 = .ok (.ifCond .ge 7, 3) := dTo0_41.1.2.2.2.2.2.2.2.2.2.1
theorem dX4_digitsAt_41 : decode cX4_digitsAt 41 = .ok (.iconst 1, 1) := dTo0_41.2.1.1
theorem dX4_digitsAt_42 : decode cX4_digitsAt 42 = .ok (.goto 4, 3) := dTo0_41.2.1.2.1
theorem dX4_digitsAt_45 : decode cX4_digitsAt 45 = .ok (.iconst 0, 1) := dTo0_41.2.1.2.2.1
theorem dX4_digitsAt_46 : decode cX4_digitsAt 46 = .ok (.invokestatic 22, 3) := dTo0_41.2.1.2.2.2.1
theorem dX4_digitsAt_49 : decode cX4_digitsAt 49 = .ok (.lreturn, 1) := dTo0_41.2.1.2.2.2.2.1
theorem dX4_digitsAt_50 : decode cX4_digitsAt 50 = .ok (.iconst 4, 1) := dTo0_41.2.1.2.2.2.2.2.1
theorem dX4_digitsAt_51 : decode cX4_digitsAt 51 = .ok (.iload_n 1, 1) := dTo0_41.2.1.2.2.2.2.2.2.1
theorem dX4_digitsAt_52 : decode cX4_digitsAt 52 = .ok (.iload_n 1, 1) := dTo0_41.2.1.2.2.2.2.2.2.2.1
theorem dX4_digitsAt_53 : decode cX4_digitsAt 53 = .ok (.ifCond .ge 7, 3) := dTo0_41.2.1.2.2.2.2.2.2.2.2.1
theorem dX4_digitsAt_56 : decode cX4_digitsAt 56 = .ok (.iconst 1, 1) := dTo0_41.2.1.2.2.2.2.2.2.2.2.2.1
theorem dX4_digitsAt_57 : decode cX4_digitsAt 57 = .ok (.goto 4, 3) := dTo0_41.2.2.1.1
theorem dX4_digitsAt_60 : decode cX4_digitsAt 60 = .ok (.iconst 0, 1) := dTo0_41.2.2.1.2.1
theorem dX4_digitsAt_61 : decode cX4_digitsAt 61 = .ok (.invokestatic 22, 3) := dTo0_41.2.2.1.2.2.1
theorem dX4_digitsAt_64 : decode cX4_digitsAt 64 = .ok (.lreturn, 1) := dTo0_41.2.2.1.2.2.2.1
theorem dX4_digitsAt_65 : decode cX4_digitsAt 65 = .ok (.iload_n 1, 1) := dTo0_41.2.2.1.2.2.2.2.1
theorem dX4_digitsAt_66 : decode cX4_digitsAt 66 = .ok (.i2l, 1) := dTo0_41.2.2.1.2.2.2.2.2.1
theorem dX4_digitsAt_67 : decode cX4_digitsAt 67 = .ok (.iconst 2, 1) := dTo0_41.2.2.1.2.2.2.2.2.2.1
theorem dX4_digitsAt_68 : decode cX4_digitsAt 68 = .ok (.invokestatic 28, 3) := dTo0_41.2.2.1.2.2.2.2.2.2.2.1
theorem dX4_digitsAt_71 : decode cX4_digitsAt 71 = .ok (.lreturn, 1) := dTo0_41.2.2.1.2.2.2.2.2.2.2.2.1
theorem dTo0_42 : dQ cX4_countAhead [[(0, zop26, 0, 0), (1, zop184, 0, 13), (4, zop62, 0, 0), (5, zop29, 0, 0), (6, zop54, 4, 0), (8, zop26, 0, 0), (9, zop184, 0, 19), (12, zop4, 0, 0), (13, zop96, 0, 0), (14, zop54, 5, 0)], [(16, zop3, 0, 0), (17, zop54, 6, 0), (19, zop21, 6, 0), (21, zop16, 10, 0), (23, zop162, 0, 51), (26, zop21, 4, 0), (28, zop21, 5, 0), (30, zop162, 0, 44), (33, zop21, 4, 0), (35, zop21, 5, 0)], [(37, zop96, 0, 0), (38, zop4, 0, 0), (39, zop122, 0, 0), (40, zop54, 7, 0), (42, zop26, 0, 0), (43, zop21, 7, 0), (45, zop184, 0, 32), (48, zop31, 0, 0), (49, zop184, 0, 36), (52, zop156, 0, 12)], [(55, zop21, 7, 0), (57, zop4, 0, 0), (58, zop96, 0, 0), (59, zop54, 4, 0), (61, zop167, 0, 7), (64, zop21, 7, 0), (66, zop54, 5, 0), (68, zop132, 6, 1), (71, zop167, 255, 204), (74, zop21, 4, 0)], [(76, zop29, 0, 0), (77, zop100, 0, 0), (78, zop54, 6, 0), (80, zop26, 0, 0), (81, zop154, 0, 17), (84, zop20, 0, 40), (87, zop31, 0, 0), (88, zop184, 0, 36), (91, zop156, 0, 7), (94, zop4, 0, 0)], [(95, zop167, 0, 4), (98, zop3, 0, 0), (99, zop54, 7, 0), (101, zop21, 7, 0), (103, zop153, 0, 10), (106, zop21, 6, 0), (108, zop4, 0, 0), (109, zop96, 0, 0), (110, zop167, 0, 5), (113, zop21, 6, 0)]] := dQ_of _ _ (by decide +kernel)
theorem dX4_countAhead_0 : decode cX4_countAhead 0 = .ok (.iload_n 0, 1) := dTo0_42.1.1
theorem dX4_countAhead_1 : decode cX4_countAhead 1 = .ok (.invokestatic 13, 3) := dTo0_42.1.2.1
theorem dX4_countAhead_4 : decode cX4_countAhead 4 = .ok (.istore_n 3, 1) := dTo0_42.1.2.2.1
theorem dX4_countAhead_5 : decode cX4_countAhead 5 = .ok (.iload_n 3, 1) := dTo0_42.1.2.2.2.1
theorem dX4_countAhead_6 : decode cX4_countAhead 6 = .ok (.istore 4, 2) := dTo0_42.1.2.2.2.2.1
theorem dX4_countAhead_8 : decode cX4_countAhead 8 = .ok (.iload_n 0, 1) := dTo0_42.1.2.2.2.2.2.1
theorem dX4_countAhead_9 : decode cX4_countAhead 9 = .ok (.invokestatic 19, 3) := dTo0_42.1.2.2.2.2.2.2.1
theorem dX4_countAhead_12 : decode cX4_countAhead 12 = .ok (.iconst 1, 1) := dTo0_42.1.2.2.2.2.2.2.2.1
theorem dX4_countAhead_13 : decode cX4_countAhead 13 = .ok (.iadd, 1) := dTo0_42.1.2.2.2.2.2.2.2.2.1
theorem dX4_countAhead_14 : decode cX4_countAhead 14 = .ok (.istore 5, 2) := dTo0_42.1.2.2.2.2.2.2.2.2.2.1
theorem dX4_countAhead_16 : decode cX4_countAhead 16 = .ok (.iconst 0, 1) := dTo0_42.2.1.1
theorem dX4_countAhead_17 : decode cX4_countAhead 17 = .ok (.istore 6, 2) := dTo0_42.2.1.2.1
theorem dX4_countAhead_19 : decode cX4_countAhead 19 = .ok (.iload 6, 2) := dTo0_42.2.1.2.2.1
theorem dX4_countAhead_21 : decode cX4_countAhead 21 = .ok (.bipush 10, 2) := dTo0_42.2.1.2.2.2.1
theorem dX4_countAhead_23 : decode cX4_countAhead 23 = .ok (.if_icmp .ge 51, 3) := dTo0_42.2.1.2.2.2.2.1
theorem dX4_countAhead_26 : decode cX4_countAhead 26 = .ok (.iload 4, 2) := dTo0_42.2.1.2.2.2.2.2.1
theorem dX4_countAhead_28 : decode cX4_countAhead 28 = .ok (.iload 5, 2) := dTo0_42.2.1.2.2.2.2.2.2.1
theorem dX4_countAhead_30 : decode cX4_countAhead 30 = .ok (.if_icmp .ge 44, 3) := dTo0_42.2.1.2.2.2.2.2.2.2.1
theorem dX4_countAhead_33 : decode cX4_countAhead 33 = .ok (.iload 4, 2) := dTo0_42.2.1.2.2.2.2.2.2.2.2.1
theorem dX4_countAhead_35 : decode cX4_countAhead 35 = .ok (.iload 5, 2) := dTo0_42.2.1.2.2.2.2.2.2.2.2.2.1
theorem dX4_countAhead_37 : decode cX4_countAhead 37 = .ok (.iadd, 1) := dTo0_42.2.2.1.1
theorem dX4_countAhead_38 : decode cX4_countAhead 38 = .ok (.iconst 1, 1) := dTo0_42.2.2.1.2.1
theorem dX4_countAhead_39 : decode cX4_countAhead 39 = .ok (.ishr, 1) := dTo0_42.2.2.1.2.2.1
theorem dX4_countAhead_40 : decode cX4_countAhead 40 = .ok (.istore 7, 2) := dTo0_42.2.2.1.2.2.2.1
theorem dX4_countAhead_42 : decode cX4_countAhead 42 = .ok (.iload_n 0, 1) := dTo0_42.2.2.1.2.2.2.2.1
theorem dX4_countAhead_43 : decode cX4_countAhead 43 = .ok (.iload 7, 2) := dTo0_42.2.2.1.2.2.2.2.2.1
theorem dX4_countAhead_45 : decode cX4_countAhead 45 = .ok (.invokestatic 32, 3) := dTo0_42.2.2.1.2.2.2.2.2.2.1
theorem dX4_countAhead_48 : decode cX4_countAhead 48 = .ok (.lload_n 1, 1) := dTo0_42.2.2.1.2.2.2.2.2.2.2.1
theorem dX4_countAhead_49 : decode cX4_countAhead 49 = .ok (.invokestatic 36, 3) := dTo0_42.2.2.1.2.2.2.2.2.2.2.2.1
theorem dX4_countAhead_52 : decode cX4_countAhead 52 = .ok (.ifCond .ge 12, 3) := dTo0_42.2.2.1.2.2.2.2.2.2.2.2.2.1
theorem dX4_countAhead_55 : decode cX4_countAhead 55 = .ok (.iload 7, 2) := dTo0_42.2.2.2.1.1
theorem dX4_countAhead_57 : decode cX4_countAhead 57 = .ok (.iconst 1, 1) := dTo0_42.2.2.2.1.2.1
theorem dX4_countAhead_58 : decode cX4_countAhead 58 = .ok (.iadd, 1) := dTo0_42.2.2.2.1.2.2.1
theorem dX4_countAhead_59 : decode cX4_countAhead 59 = .ok (.istore 4, 2) := dTo0_42.2.2.2.1.2.2.2.1
theorem dX4_countAhead_61 : decode cX4_countAhead 61 = .ok (.goto 7, 3) := dTo0_42.2.2.2.1.2.2.2.2.1
theorem dX4_countAhead_64 : decode cX4_countAhead 64 = .ok (.iload 7, 2) := dTo0_42.2.2.2.1.2.2.2.2.2.1
theorem dX4_countAhead_66 : decode cX4_countAhead 66 = .ok (.istore 5, 2) := dTo0_42.2.2.2.1.2.2.2.2.2.2.1
theorem dX4_countAhead_68 : decode cX4_countAhead 68 = .ok (.iinc 6 1, 3) := dTo0_42.2.2.2.1.2.2.2.2.2.2.2.1
theorem dX4_countAhead_71 : decode cX4_countAhead 71 = .ok (.goto (-52), 3) := dTo0_42.2.2.2.1.2.2.2.2.2.2.2.2.1
theorem dX4_countAhead_74 : decode cX4_countAhead 74 = .ok (.iload 4, 2) := dTo0_42.2.2.2.1.2.2.2.2.2.2.2.2.2.1
theorem dX4_countAhead_76 : decode cX4_countAhead 76 = .ok (.iload_n 3, 1) := dTo0_42.2.2.2.2.1.1
theorem dX4_countAhead_77 : decode cX4_countAhead 77 = .ok (.isub, 1) := dTo0_42.2.2.2.2.1.2.1
theorem dX4_countAhead_78 : decode cX4_countAhead 78 = .ok (.istore 6, 2) := dTo0_42.2.2.2.2.1.2.2.1
theorem dX4_countAhead_80 : decode cX4_countAhead 80 = .ok (.iload_n 0, 1) := dTo0_42.2.2.2.2.1.2.2.2.1
theorem dX4_countAhead_81 : decode cX4_countAhead 81 = .ok (.ifCond .ne 17, 3) := dTo0_42.2.2.2.2.1.2.2.2.2.1
theorem dX4_countAhead_84 : decode cX4_countAhead 84 = .ok (.ldc2_w 40, 3) := dTo0_42.2.2.2.2.1.2.2.2.2.2.1
theorem dX4_countAhead_87 : decode cX4_countAhead 87 = .ok (.lload_n 1, 1) := dTo0_42.2.2.2.2.1.2.2.2.2.2.2.1
theorem dX4_countAhead_88 : decode cX4_countAhead 88 = .ok (.invokestatic 36, 3) := dTo0_42.2.2.2.2.1.2.2.2.2.2.2.2.1
theorem dX4_countAhead_91 : decode cX4_countAhead 91 = .ok (.ifCond .ge 7, 3) := dTo0_42.2.2.2.2.1.2.2.2.2.2.2.2.2.1
theorem dX4_countAhead_94 : decode cX4_countAhead 94 = .ok (.iconst 1, 1) := dTo0_42.2.2.2.2.1.2.2.2.2.2.2.2.2.2.1
theorem dX4_countAhead_95 : decode cX4_countAhead 95 = .ok (.goto 4, 3) := dTo0_42.2.2.2.2.2.1.1
theorem dX4_countAhead_98 : decode cX4_countAhead 98 = .ok (.iconst 0, 1) := dTo0_42.2.2.2.2.2.1.2.1
theorem dX4_countAhead_99 : decode cX4_countAhead 99 = .ok (.istore 7, 2) := dTo0_42.2.2.2.2.2.1.2.2.1
theorem dX4_countAhead_101 : decode cX4_countAhead 101 = .ok (.iload 7, 2) := dTo0_42.2.2.2.2.2.1.2.2.2.1
theorem dX4_countAhead_103 : decode cX4_countAhead 103 = .ok (.ifCond .eq 10, 3) := dTo0_42.2.2.2.2.2.1.2.2.2.2.1
theorem dX4_countAhead_106 : decode cX4_countAhead 106 = .ok (.iload 6, 2) := dTo0_42.2.2.2.2.2.1.2.2.2.2.2.1
theorem dX4_countAhead_108 : decode cX4_countAhead 108 = .ok (.iconst 1, 1) := dTo0_42.2.2.2.2.2.1.2.2.2.2.2.2.1
theorem dX4_countAhead_109 : decode cX4_countAhead 109 = .ok (.iadd, 1) := dTo0_42.2.2.2.2.2.1.2.2.2.2.2.2.2.1
theorem dX4_countAhead_110 : decode cX4_countAhead 110 = .ok (.goto 5, 3) := dTo0_42.2.2.2.2.2.1.2.2.2.2.2.2.2.2.1
theorem dX4_countAhead_113 : decode cX4_countAhead 113 = .ok (.iload 6, 2) := dTo0_42.2.2.2.2.2.1.2.2.2.2.2.2.2.2.2.1
theorem dTo0_43 : dQ cX4_countAhead [[(115, zop172, 0, 0)]] := dQ_of _ _ (by decide +kernel)
theorem dX4_countAhead_115 : decode cX4_countAhead 115 = .ok (.ireturn, 1) := dTo0_43.1.1
theorem dX5_init_7 : decode cX5_init 7 = .ok (.newarray .int, 2) := by decide +kernel
theorem dX5_init_15 : decode cX5_init 15 = .ok (.newarray .long, 2) := by decide +kernel
theorem dX5_init_23 : decode cX5_init 23 = .ok (.newarray .int, 2) := by decide +kernel
theorem dTo0_44 : dQ cX5_init [[(0, zop42, 0, 0), (1, zop183, 0, 1), (4, zop42, 0, 0), (5, zop16, 8, 0), (9, zop181, 0, 9), (12, zop42, 0, 0), (13, zop16, 8, 0), (17, zop181, 0, 13), (20, zop42, 0, 0), (21, zop16, 8, 0)], [(25, zop181, 0, 17), (28, zop3, 0, 0), (29, zop60, 0, 0), (30, zop27, 0, 0), (31, zop16, 8, 0), (33, zop162, 0, 34), (36, zop42, 0, 0), (37, zop180, 0, 9), (40, zop27, 0, 0), (41, zop3, 0, 0)], [(42, zop184, 0, 20), (45, zop79, 0, 0), (46, zop42, 0, 0), (47, zop180, 0, 13), (50, zop27, 0, 0), (51, zop42, 0, 0), (52, zop180, 0, 9), (55, zop27, 0, 0), (56, zop46, 0, 0), (57, zop184, 0, 26)], [(60, zop80, 0, 0), (61, zop132, 1, 1), (64, zop167, 255, 222), (67, zop177, 0, 0)]] := dQ_of _ _ (by decide +kernel)
theorem dX5_init_0 : decode cX5_init 0 = .ok (.aload_n 0, 1) := dTo0_44.1.1
theorem dX5_init_1 : decode cX5_init 1 = .ok (.invokespecial 1, 3) := dTo0_44.1.2.1
theorem dX5_init_4 : decode cX5_init 4 = .ok (.aload_n 0, 1) := dTo0_44.1.2.2.1
theorem dX5_init_5 : decode cX5_init 5 = .ok (.bipush 8, 2) := dTo0_44.1.2.2.2.1
theorem dX5_init_9 : decode cX5_init 9 = .ok (.putfield 9, 3) := dTo0_44.1.2.2.2.2.1
theorem dX5_init_12 : decode cX5_init 12 = .ok (.aload_n 0, 1) := dTo0_44.1.2.2.2.2.2.1
theorem dX5_init_13 : decode cX5_init 13 = .ok (.bipush 8, 2) := dTo0_44.1.2.2.2.2.2.2.1
theorem dX5_init_17 : decode cX5_init 17 = .ok (.putfield 13, 3) := dTo0_44.1.2.2.2.2.2.2.2.1
theorem dX5_init_20 : decode cX5_init 20 = .ok (.aload_n 0, 1) := dTo0_44.1.2.2.2.2.2.2.2.2.1
theorem dX5_init_21 : decode cX5_init 21 = .ok (.bipush 8, 2) := dTo0_44.1.2.2.2.2.2.2.2.2.2.1
theorem dX5_init_25 : decode cX5_init 25 = .ok (.putfield 17, 3) := dTo0_44.2.1.1
theorem dX5_init_28 : decode cX5_init 28 = .ok (.iconst 0, 1) := dTo0_44.2.1.2.1
theorem dX5_init_29 : decode cX5_init 29 = .ok (.istore_n 1, 1) := dTo0_44.2.1.2.2.1
theorem dX5_init_30 : decode cX5_init 30 = .ok (.iload_n 1, 1) := dTo0_44.2.1.2.2.2.1
theorem dX5_init_31 : decode cX5_init 31 = .ok (.bipush 8, 2) := dTo0_44.2.1.2.2.2.2.1
theorem dX5_init_33 : decode cX5_init 33 = .ok (.if_icmp .ge 34, 3) := dTo0_44.2.1.2.2.2.2.2.1
theorem dX5_init_36 : decode cX5_init 36 = .ok (.aload_n 0, 1) := dTo0_44.2.1.2.2.2.2.2.2.1
theorem dX5_init_37 : decode cX5_init 37 = .ok (.getfield 9, 3) := dTo0_44.2.1.2.2.2.2.2.2.2.1
theorem dX5_init_40 : decode cX5_init 40 = .ok (.iload_n 1, 1) := dTo0_44.2.1.2.2.2.2.2.2.2.2.1
theorem dX5_init_41 : decode cX5_init 41 = .ok (.iconst 0, 1) := dTo0_44.2.1.2.2.2.2.2.2.2.2.2.1
theorem dX5_init_42 : decode cX5_init 42 = .ok (.invokestatic 20, 3) := dTo0_44.2.2.1.1
theorem dX5_init_45 : decode cX5_init 45 = .ok (.iastore, 1) := dTo0_44.2.2.1.2.1
theorem dX5_init_46 : decode cX5_init 46 = .ok (.aload_n 0, 1) := dTo0_44.2.2.1.2.2.1
theorem dX5_init_47 : decode cX5_init 47 = .ok (.getfield 13, 3) := dTo0_44.2.2.1.2.2.2.1
theorem dX5_init_50 : decode cX5_init 50 = .ok (.iload_n 1, 1) := dTo0_44.2.2.1.2.2.2.2.1
theorem dX5_init_51 : decode cX5_init 51 = .ok (.aload_n 0, 1) := dTo0_44.2.2.1.2.2.2.2.2.1
theorem dX5_init_52 : decode cX5_init 52 = .ok (.getfield 9, 3) := dTo0_44.2.2.1.2.2.2.2.2.2.1
theorem dX5_init_55 : decode cX5_init 55 = .ok (.iload_n 1, 1) := dTo0_44.2.2.1.2.2.2.2.2.2.2.1
theorem dX5_init_56 : decode cX5_init 56 = .ok (.iaload, 1) := dTo0_44.2.2.1.2.2.2.2.2.2.2.2.1
theorem dX5_init_57 : decode cX5_init 57 = .ok (.invokestatic 26, 3) := dTo0_44.2.2.1.2.2.2.2.2.2.2.2.2.1
theorem dX5_init_60 : decode cX5_init 60 = .ok (.lastore, 1) := dTo0_44.2.2.2.1.1
theorem dX5_init_61 : decode cX5_init 61 = .ok (.iinc 1 1, 3) := dTo0_44.2.2.2.1.2.1
theorem dX5_init_64 : decode cX5_init 64 = .ok (.goto (-34), 3) := dTo0_44.2.2.2.1.2.2.1
theorem dX5_init_67 : decode cX5_init 67 = .ok (.return_, 1) := dTo0_44.2.2.2.1.2.2.2.1
theorem dTo0_45 : dQ cX5_quarter [[(0, zop27, 0, 0), (1, zop184, 0, 32), (4, zop28, 0, 0), (5, zop17, 255, 96), (8, zop17, 0, 160), (11, zop184, 0, 36), (14, zop42, 0, 0), (15, zop27, 0, 0), (16, zop28, 0, 0), (17, zop184, 0, 40)], [(20, zop182, 0, 44), (23, zop172, 0, 0)]] := dQ_of _ _ (by decide +kernel)
theorem dX5_quarter_0 : decode cX5_quarter 0 = .ok (.iload_n 1, 1) := dTo0_45.1.1
theorem dX5_quarter_1 : decode cX5_quarter 1 = .ok (.invokestatic 32, 3) := dTo0_45.1.2.1
theorem dX5_quarter_4 : decode cX5_quarter 4 = .ok (.iload_n 2, 1) := dTo0_45.1.2.2.1
theorem dX5_quarter_5 : decode cX5_quarter 5 = .ok (.sipush (-160), 3) := dTo0_45.1.2.2.2.1
theorem dX5_quarter_8 : decode cX5_quarter 8 = .ok (.sipush 160, 3) := dTo0_45.1.2.2.2.2.1
theorem dX5_quarter_11 : decode cX5_quarter 11 = .ok (.invokestatic 36, 3) := dTo0_45.1.2.2.2.2.2.1
theorem dX5_quarter_14 : decode cX5_quarter 14 = .ok (.aload_n 0, 1) := dTo0_45.1.2.2.2.2.2.2.1
theorem dX5_quarter_15 : decode cX5_quarter 15 = .ok (.iload_n 1, 1) := dTo0_45.1.2.2.2.2.2.2.2.1
theorem dX5_quarter_16 : decode cX5_quarter 16 = .ok (.iload_n 2, 1) := dTo0_45.1.2.2.2.2.2.2.2.2.1
theorem dX5_quarter_17 : decode cX5_quarter 17 = .ok (.invokestatic 40, 3) := dTo0_45.1.2.2.2.2.2.2.2.2.2.1
theorem dX5_quarter_20 : decode cX5_quarter 20 = .ok (.invokevirtual 44, 3) := dTo0_45.2.1.1
theorem dX5_quarter_23 : decode cX5_quarter 23 = .ok (.ireturn, 1) := dTo0_45.2.1.2.1
theorem dTo0_46 : dQ cX5_zero [[(0, zop27, 0, 0), (1, zop184, 0, 32), (4, zop42, 0, 0), (5, zop27, 0, 0), (6, zop28, 0, 0), (7, zop184, 0, 20), (10, zop182, 0, 44), (13, zop172, 0, 0)]] := dQ_of _ _ (by decide +kernel)
theorem dX5_zero_0 : decode cX5_zero 0 = .ok (.iload_n 1, 1) := dTo0_46.1.1
theorem dX5_zero_1 : decode cX5_zero 1 = .ok (.invokestatic 32, 3) := dTo0_46.1.2.1
theorem dX5_zero_4 : decode cX5_zero 4 = .ok (.aload_n 0, 1) := dTo0_46.1.2.2.1
theorem dX5_zero_5 : decode cX5_zero 5 = .ok (.iload_n 1, 1) := dTo0_46.1.2.2.2.1
theorem dX5_zero_6 : decode cX5_zero 6 = .ok (.iload_n 2, 1) := dTo0_46.1.2.2.2.2.1
theorem dX5_zero_7 : decode cX5_zero 7 = .ok (.invokestatic 20, 3) := dTo0_46.1.2.2.2.2.2.1
theorem dX5_zero_10 : decode cX5_zero 10 = .ok (.invokevirtual 44, 3) := dTo0_46.1.2.2.2.2.2.2.1
theorem dX5_zero_13 : decode cX5_zero 13 = .ok (.ireturn, 1) := dTo0_46.1.2.2.2.2.2.2.2.1
theorem dTo0_47 : dQ cX5_endless [[(0, zop27, 0, 0), (1, zop184, 0, 32), (4, zop42, 0, 0), (5, zop27, 0, 0), (6, zop28, 0, 0), (7, zop184, 0, 48), (10, zop182, 0, 44), (13, zop172, 0, 0)]] := dQ_of _ _ (by decide +kernel)
theorem dX5_endless_0 : decode cX5_endless 0 = .ok (.iload_n 1, 1) := dTo0_47.1.1
theorem dX5_endless_1 : decode cX5_endless 1 = .ok (.invokestatic 32, 3) := dTo0_47.1.2.1
theorem dX5_endless_4 : decode cX5_endless 4 = .ok (.aload_n 0, 1) := dTo0_47.1.2.2.1
theorem dX5_endless_5 : decode cX5_endless 5 = .ok (.iload_n 1, 1) := dTo0_47.1.2.2.2.1
theorem dX5_endless_6 : decode cX5_endless 6 = .ok (.iload_n 2, 1) := dTo0_47.1.2.2.2.2.1
theorem dX5_endless_7 : decode cX5_endless 7 = .ok (.invokestatic 48, 3) := dTo0_47.1.2.2.2.2.2.1
theorem dX5_endless_10 : decode cX5_endless 10 = .ok (.invokevirtual 44, 3) := dTo0_47.1.2.2.2.2.2.2.1
theorem dX5_endless_13 : decode cX5_endless 13 = .ok (.ireturn, 1) := dTo0_47.1.2.2.2.2.2.2.2.1
theorem dTo0_48 : dQ cX5_row [[(0, zop27, 0, 0), (1, zop17, 255, 96), (4, zop17, 0, 160), (7, zop184, 0, 36), (10, zop28, 0, 0), (11, zop16, 216, 0), (13, zop16, 40, 0), (15, zop184, 0, 36), (18, zop27, 0, 0), (19, zop16, 7, 0)], [(21, zop28, 0, 0), (22, zop104, 0, 0), (23, zop96, 0, 0), (24, zop184, 0, 51), (27, zop154, 0, 8), (30, zop42, 0, 0), (31, zop182, 0, 55), (34, zop172, 0, 0), (35, zop42, 0, 0), (36, zop182, 0, 59)], [(39, zop3, 0, 0), (40, zop62, 0, 0), (41, zop29, 0, 0), (42, zop16, 8, 0), (44, zop162, 0, 22), (47, zop42, 0, 0), (48, zop29, 0, 0), (49, zop27, 0, 0), (50, zop29, 0, 0), (51, zop28, 0, 0)], [(52, zop104, 0, 0), (53, zop96, 0, 0), (54, zop184, 0, 40), (57, zop182, 0, 62), (60, zop132, 3, 1), (63, zop167, 255, 234), (66, zop42, 0, 0), (67, zop42, 0, 0), (68, zop182, 0, 66), (71, zop182, 0, 69)], [(74, zop172, 0, 0)]] := dQ_of _ _ (by decide +kernel)
theorem dX5_row_0 : decode cX5_row 0 = .ok (.iload_n 1, 1) := dTo0_48.1.1
theorem dX5_row_1 : decode cX5_row 1 = .ok (.sipush (-160), 3) := dTo0_48.1.2.1
theorem dX5_row_4 : decode cX5_row 4 = .ok (.sipush 160, 3) := dTo0_48.1.2.2.1
theorem dX5_row_7 : decode cX5_row 7 = .ok (.invokestatic 36, 3) := dTo0_48.1.2.2.2.1
theorem dX5_row_10 : decode cX5_row 10 = .ok (.iload_n 2, 1) := dTo0_48.1.2.2.2.2.1
theorem dX5_row_11 : decode cX5_row 11 = .ok (.bipush (-40), 2) := dTo0_48.1.2.2.2.2.2.1
theorem dX5_row_13 : decode cX5_row 13 = .ok (.bipush 40, 2) := dTo0_48.1.2.2.2.2.2.2.1
theorem dX5_row_15 : decode cX5_row 15 = .ok (.invokestatic 36, 3) := dTo0_48.1.2.2.2.2.2.2.2.1
theorem dX5_row_18 : decode cX5_row 18 = .ok (.iload_n 1, 1) := dTo0_48.1.2.2.2.2.2.2.2.2.1
theorem dX5_row_19 : decode cX5_row 19 = .ok (.bipush 7, 2) := dTo0_48.1.2.2.2.2.2.2.2.2.2.1
theorem dX5_row_21 : decode cX5_row 21 = .ok (.iload_n 2, 1) := dTo0_48.2.1.1
theorem dX5_row_22 : decode cX5_row 22 = .ok (.imul, 1) := dTo0_48.2.1.2.1
theorem dX5_row_23 : decode cX5_row 23 = .ok (.iadd, 1) := dTo0_48.2.1.2.2.1
theorem dX5_row_24 : decode cX5_row 24 = .ok (.invokestatic 51, 3) := dTo0_48.2.1.2.2.2.1
theorem dX5_row_27 : decode cX5_row 27 = .ok (.ifCond .ne 8, 3) := dTo0_48.2.1.2.2.2.2.1
theorem dX5_row_30 : decode cX5_row 30 = .ok (.aload_n 0, 1) := dTo0_48.2.1.2.2.2.2.2.1
theorem dX5_row_31 : decode cX5_row 31 = .ok (.invokevirtual 55, 3) := dTo0_48.2.1.2.2.2.2.2.2.1
theorem dX5_row_34 : decode cX5_row 34 = .ok (.ireturn, 1) := dTo0_48.2.1.2.2.2.2.2.2.2.1
theorem dX5_row_35 : decode cX5_row 35 = .ok (.aload_n 0, 1) := dTo0_48.2.1.2.2.2.2.2.2.2.2.1
theorem dX5_row_36 : decode cX5_row 36 = .ok (.invokevirtual 59, 3) := dTo0_48.2.1.2.2.2.2.2.2.2.2.2.1
theorem dX5_row_39 : decode cX5_row 39 = .ok (.iconst 0, 1) := dTo0_48.2.2.1.1
theorem dX5_row_40 : decode cX5_row 40 = .ok (.istore_n 3, 1) := dTo0_48.2.2.1.2.1
theorem dX5_row_41 : decode cX5_row 41 = .ok (.iload_n 3, 1) := dTo0_48.2.2.1.2.2.1
theorem dX5_row_42 : decode cX5_row 42 = .ok (.bipush 8, 2) := dTo0_48.2.2.1.2.2.2.1
theorem dX5_row_44 : decode cX5_row 44 = .ok (.if_icmp .ge 22, 3) := dTo0_48.2.2.1.2.2.2.2.1
theorem dX5_row_47 : decode cX5_row 47 = .ok (.aload_n 0, 1) := dTo0_48.2.2.1.2.2.2.2.2.1
theorem dX5_row_48 : decode cX5_row 48 = .ok (.iload_n 3, 1) := dTo0_48.2.2.1.2.2.2.2.2.2.1
theorem dX5_row_49 : decode cX5_row 49 = .ok (.iload_n 1, 1) := dTo0_48.2.2.1.2.2.2.2.2.2.2.1
theorem dX5_row_50 : decode cX5_row 50 = .ok (.iload_n 3, 1) := dTo0_48.2.2.1.2.2.2.2.2.2.2.2.1
theorem dX5_row_51 : decode cX5_row 51 = .ok (.iload_n 2, 1) := dTo0_48.2.2.1.2.2.2.2.2.2.2.2.2.1
theorem dX5_row_52 : decode cX5_row 52 = .ok (.imul, 1) := dTo0_48.2.2.2.1.1
theorem dX5_row_53 : decode cX5_row 53 = .ok (.iadd, 1) := dTo0_48.2.2.2.1.2.1
theorem dX5_row_54 : decode cX5_row 54 = .ok (.invokestatic 40, 3) := dTo0_48.2.2.2.1.2.2.1
theorem dX5_row_57 : decode cX5_row 57 = .ok (.invokevirtual 62, 3) := dTo0_48.2.2.2.1.2.2.2.1
theorem dX5_row_60 : decode cX5_row 60 = .ok (.iinc 3 1, 3) := dTo0_48.2.2.2.1.2.2.2.2.1
theorem dX5_row_63 : decode cX5_row 63 = .ok (.goto (-22), 3) := dTo0_48.2.2.2.1.2.2.2.2.2.1
theorem dX5_row_66 : decode cX5_row 66 = .ok (.aload_n 0, 1) := dTo0_48.2.2.2.1.2.2.2.2.2.2.1
theorem dX5_row_67 : decode cX5_row 67 = .ok (.aload_n 0, 1) := dTo0_48.2.2.2.1.2.2.2.2.2.2.2.1
theorem dX5_row_68 : decode cX5_row 68 = .ok (.invokevirtual 66, 3) := dTo0_48.2.2.2.1.2.2.2.2.2.2.2.2.1
theorem dX5_row_71 : decode cX5_row 71 = .ok (.invokevirtual 69, 3) := dTo0_48.2.2.2.1.2.2.2.2.2.2.2.2.2.1
theorem dX5_row_74 : decode cX5_row 74 = .ok (.ireturn, 1) := dTo0_48.2.2.2.2.1.1
theorem dTo0_49 : dQ cX5_wipe [[(0, zop42, 0, 0), (1, zop182, 0, 59), (4, zop3, 0, 0), (5, zop60, 0, 0), (6, zop27, 0, 0), (7, zop16, 8, 0), (9, zop162, 0, 18), (12, zop42, 0, 0), (13, zop27, 0, 0), (14, zop3, 0, 0)], [(15, zop184, 0, 20), (18, zop182, 0, 62), (21, zop132, 1, 1), (24, zop167, 255, 238), (27, zop42, 0, 0), (28, zop42, 0, 0), (29, zop182, 0, 66), (32, zop182, 0, 69), (35, zop172, 0, 0)]] := dQ_of _ _ (by decide +kernel)
theorem dX5_wipe_0 : decode cX5_wipe 0 = .ok (.aload_n 0, 1) := dTo0_49.1.1
theorem dX5_wipe_1 : decode cX5_wipe 1 = .ok (.invokevirtual 59, 3) := dTo0_49.1.2.1
theorem dX5_wipe_4 : decode cX5_wipe 4 = .ok (.iconst 0, 1) := dTo0_49.1.2.2.1
theorem dX5_wipe_5 : decode cX5_wipe 5 = .ok (.istore_n 1, 1) := dTo0_49.1.2.2.2.1
theorem dX5_wipe_6 : decode cX5_wipe 6 = .ok (.iload_n 1, 1) := dTo0_49.1.2.2.2.2.1
theorem dX5_wipe_7 : decode cX5_wipe 7 = .ok (.bipush 8, 2) := dTo0_49.1.2.2.2.2.2.1
theorem dX5_wipe_9 : decode cX5_wipe 9 = .ok (.if_icmp .ge 18, 3) := dTo0_49.1.2.2.2.2.2.2.1
theorem dX5_wipe_12 : decode cX5_wipe 12 = .ok (.aload_n 0, 1) := dTo0_49.1.2.2.2.2.2.2.2.1
theorem dX5_wipe_13 : decode cX5_wipe 13 = .ok (.iload_n 1, 1) := dTo0_49.1.2.2.2.2.2.2.2.2.1
theorem dX5_wipe_14 : decode cX5_wipe 14 = .ok (.iconst 0, 1) := dTo0_49.1.2.2.2.2.2.2.2.2.2.1
theorem dX5_wipe_15 : decode cX5_wipe 15 = .ok (.invokestatic 20, 3) := dTo0_49.2.1.1
theorem dX5_wipe_18 : decode cX5_wipe 18 = .ok (.invokevirtual 62, 3) := dTo0_49.2.1.2.1
theorem dX5_wipe_21 : decode cX5_wipe 21 = .ok (.iinc 1 1, 3) := dTo0_49.2.1.2.2.1
theorem dX5_wipe_24 : decode cX5_wipe 24 = .ok (.goto (-18), 3) := dTo0_49.2.1.2.2.2.1
theorem dX5_wipe_27 : decode cX5_wipe 27 = .ok (.aload_n 0, 1) := dTo0_49.2.1.2.2.2.2.1
theorem dX5_wipe_28 : decode cX5_wipe 28 = .ok (.aload_n 0, 1) := dTo0_49.2.1.2.2.2.2.2.1
theorem dX5_wipe_29 : decode cX5_wipe 29 = .ok (.invokevirtual 66, 3) := dTo0_49.2.1.2.2.2.2.2.2.1
theorem dX5_wipe_32 : decode cX5_wipe 32 = .ok (.invokevirtual 69, 3) := dTo0_49.2.1.2.2.2.2.2.2.2.1
theorem dX5_wipe_35 : decode cX5_wipe 35 = .ok (.ireturn, 1) := dTo0_49.2.1.2.2.2.2.2.2.2.2.1
theorem dTo0_50 : dQ cX5_copy [[(0, zop27, 0, 0), (1, zop184, 0, 32), (4, zop28, 0, 0), (5, zop184, 0, 32), (8, zop42, 0, 0), (9, zop28, 0, 0), (10, zop42, 0, 0), (11, zop180, 0, 9), (14, zop27, 0, 0), (15, zop46, 0, 0)], [(16, zop182, 0, 44), (19, zop172, 0, 0)]] := dQ_of _ _ (by decide +kernel)
theorem dX5_copy_0 : decode cX5_copy 0 = .ok (.iload_n 1, 1) := dTo0_50.1.1
theorem dX5_copy_1 : decode cX5_copy 1 = .ok (.invokestatic 32, 3) := dTo0_50.1.2.1
theorem dX5_copy_4 : decode cX5_copy 4 = .ok (.iload_n 2, 1) := dTo0_50.1.2.2.1
theorem dX5_copy_5 : decode cX5_copy 5 = .ok (.invokestatic 32, 3) := dTo0_50.1.2.2.2.1
theorem dX5_copy_8 : decode cX5_copy 8 = .ok (.aload_n 0, 1) := dTo0_50.1.2.2.2.2.1
theorem dX5_copy_9 : decode cX5_copy 9 = .ok (.iload_n 2, 1) := dTo0_50.1.2.2.2.2.2.1
theorem dX5_copy_10 : decode cX5_copy 10 = .ok (.aload_n 0, 1) := dTo0_50.1.2.2.2.2.2.2.1
theorem dX5_copy_11 : decode cX5_copy 11 = .ok (.getfield 9, 3) := dTo0_50.1.2.2.2.2.2.2.2.1
theorem dX5_copy_14 : decode cX5_copy 14 = .ok (.iload_n 1, 1) := dTo0_50.1.2.2.2.2.2.2.2.2.1
theorem dX5_copy_15 : decode cX5_copy 15 = .ok (.iaload, 1) := dTo0_50.1.2.2.2.2.2.2.2.2.2.1
theorem dX5_copy_16 : decode cX5_copy 16 = .ok (.invokevirtual 44, 3) := dTo0_50.2.1.1
theorem dX5_copy_19 : decode cX5_copy 19 = .ok (.ireturn, 1) := dTo0_50.2.1.2.1
theorem dTo0_51 : dQ cX5_swap [[(0, zop27, 0, 0), (1, zop184, 0, 32), (4, zop28, 0, 0), (5, zop184, 0, 32), (8, zop42, 0, 0), (9, zop180, 0, 9), (12, zop27, 0, 0), (13, zop46, 0, 0), (14, zop62, 0, 0), (15, zop42, 0, 0)], [(16, zop27, 0, 0), (17, zop42, 0, 0), (18, zop180, 0, 9), (21, zop28, 0, 0), (22, zop46, 0, 0), (23, zop182, 0, 62), (26, zop42, 0, 0), (27, zop28, 0, 0), (28, zop29, 0, 0), (29, zop182, 0, 44)], [(32, zop172, 0, 0)]] := dQ_of _ _ (by decide +kernel)
theorem dX5_swap_0 : decode cX5_swap 0 = .ok (.iload_n 1, 1) := dTo0_51.1.1
theorem dX5_swap_1 : decode cX5_swap 1 = .ok (.invokestatic 32, 3) := dTo0_51.1.2.1
theorem dX5_swap_4 : decode cX5_swap 4 = .ok (.iload_n 2, 1) := dTo0_51.1.2.2.1
theorem dX5_swap_5 : decode cX5_swap 5 = .ok (.invokestatic 32, 3) := dTo0_51.1.2.2.2.1
theorem dX5_swap_8 : decode cX5_swap 8 = .ok (.aload_n 0, 1) := dTo0_51.1.2.2.2.2.1
theorem dX5_swap_9 : decode cX5_swap 9 = .ok (.getfield 9, 3) := dTo0_51.1.2.2.2.2.2.1
theorem dX5_swap_12 : decode cX5_swap 12 = .ok (.iload_n 1, 1) := dTo0_51.1.2.2.2.2.2.2.1
theorem dX5_swap_13 : decode cX5_swap 13 = .ok (.iaload, 1) := dTo0_51.1.2.2.2.2.2.2.2.1
theorem dX5_swap_14 : decode cX5_swap 14 = .ok (.istore_n 3, 1) := dTo0_51.1.2.2.2.2.2.2.2.2.1
theorem dX5_swap_15 : decode cX5_swap 15 = .ok (.aload_n 0, 1) := dTo0_51.1.2.2.2.2.2.2.2.2.2.1
theorem dX5_swap_16 : decode cX5_swap 16 = .ok (.iload_n 1, 1) := dTo0_51.2.1.1
theorem dX5_swap_17 : decode cX5_swap 17 = .ok (.aload_n 0, 1) := dTo0_51.2.1.2.1
theorem dX5_swap_18 : decode cX5_swap 18 = .ok (.getfield 9, 3) := dTo0_51.2.1.2.2.1
theorem dX5_swap_21 : decode cX5_swap 21 = .ok (.iload_n 2, 1) := dTo0_51.2.1.2.2.2.1
theorem dX5_swap_22 : decode cX5_swap 22 = .ok (.iaload, 1) := dTo0_51.2.1.2.2.2.2.1
theorem dX5_swap_23 : decode cX5_swap 23 = .ok (.invokevirtual 62, 3) := dTo0_51.2.1.2.2.2.2.2.1
theorem dX5_swap_26 : decode cX5_swap 26 = .ok (.aload_n 0, 1) := dTo0_51.2.1.2.2.2.2.2.2.1
theorem dX5_swap_27 : decode cX5_swap 27 = .ok (.iload_n 2, 1) := dTo0_51.2.1.2.2.2.2.2.2.2.1
theorem dX5_swap_28 : decode cX5_swap 28 = .ok (.iload_n 3, 1) := dTo0_51.2.1.2.2.2.2.2.2.2.2.1
theorem dX5_swap_29 : decode cX5_swap 29 = .ok (.invokevirtual 44, 3) := dTo0_51.2.1.2.2.2.2.2.2.2.2.2.1
theorem dX5_swap_32 : decode cX5_swap 32 = .ok (.ireturn, 1) := dTo0_51.2.2.1.1
theorem dTo0_52 : dQ cX5_step [[(0, zop27, 0, 0), (1, zop184, 0, 32), (4, zop28, 0, 0), (5, zop17, 254, 192), (8, zop17, 1, 64), (11, zop184, 0, 36), (14, zop42, 0, 0), (15, zop180, 0, 9), (18, zop27, 0, 0), (19, zop46, 0, 0)], [(20, zop184, 0, 72), (23, zop28, 0, 0), (24, zop96, 0, 0), (25, zop62, 0, 0), (26, zop42, 0, 0), (27, zop180, 0, 9), (30, zop27, 0, 0), (31, zop46, 0, 0), (32, zop184, 0, 75), (35, zop154, 0, 10)], [(38, zop29, 0, 0), (39, zop184, 0, 51), (42, zop154, 0, 8), (45, zop42, 0, 0), (46, zop182, 0, 55), (49, zop172, 0, 0), (50, zop42, 0, 0), (51, zop27, 0, 0), (52, zop29, 0, 0), (53, zop184, 0, 40)], [(56, zop182, 0, 44), (59, zop172, 0, 0)]] := dQ_of _ _ (by decide +kernel)
theorem dX5_step_0 : decode cX5_step 0 = .ok (.iload_n 1, 1) := dTo0_52.1.1
theorem dX5_step_1 : decode cX5_step 1 = .ok (.invokestatic 32, 3) := dTo0_52.1.2.1
theorem dX5_step_4 : decode cX5_step 4 = .ok (.iload_n 2, 1) := dTo0_52.1.2.2.1
theorem dX5_step_5 : decode cX5_step 5 = .ok (.sipush (-320), 3) := dTo0_52.1.2.2.2.1
theorem dX5_step_8 : decode cX5_step 8 = .ok (.sipush 320, 3) := dTo0_52.1.2.2.2.2.1
theorem dX5_step_11 : decode cX5_step 11 = .ok (.invokestatic 36, 3) := dTo0_52.1.2.2.2.2.2.1
theorem dX5_step_14 : decode cX5_step 14 = .ok (.aload_n 0, 1) := dTo0_52.1.2.2.2.2.2.2.1
theorem dX5_step_15 : decode cX5_step 15 = .ok (.getfield 9, 3) := dTo0_52.1.2.2.2.2.2.2.2.1
theorem dX5_step_18 : decode cX5_step 18 = .ok (.iload_n 1, 1) := dTo0_52.1.2.2.2.2.2.2.2.2.1
theorem dX5_step_19 : decode cX5_step 19 = .ok (.iaload, 1) := dTo0_52.1.2.2.2.2.2.2.2.2.2.1
theorem dX5_step_20 : decode cX5_step 20 = .ok (.invokestatic 72, 3) := dTo0_52.2.1.1
theorem dX5_step_23 : decode cX5_step 23 = .ok (.iload_n 2, 1) := dTo0_52.2.1.2.1
theorem dX5_step_24 : decode cX5_step 24 = .ok (.iadd, 1) := dTo0_52.2.1.2.2.1
theorem dX5_step_25 : decode cX5_step 25 = .ok (.istore_n 3, 1) := dTo0_52.2.1.2.2.2.1
theorem dX5_step_26 : decode cX5_step 26 = .ok (.aload_n 0, 1) := dTo0_52.2.1.2.2.2.2.1
theorem dX5_step_27 : decode cX5_step 27 = .ok (.getfield 9, 3) := dTo0_52.2.1.2.2.2.2.2.1
theorem dX5_step_30 : decode cX5_step 30 = .ok (.iload_n 1, 1) := dTo0_52.2.1.2.2.2.2.2.2.1
theorem dX5_step_31 : decode cX5_step 31 = .ok (.iaload, 1) := dTo0_52.2.1.2.2.2.2.2.2.2.1
theorem dX5_step_32 : decode cX5_step 32 = .ok (.invokestatic 75, 3) := dTo0_52.2.1.2.2.2.2.2.2.2.2.1
theorem dX5_step_35 : decode cX5_step 35 = .ok (.ifCond .ne 10, 3) := dTo0_52.2.1.2.2.2.2.2.2.2.2.2.1
theorem dX5_step_38 : decode cX5_step 38 = .ok (.iload_n 3, 1) := dTo0_52.2.2.1.1
theorem dX5_step_39 : decode cX5_step 39 = .ok (.invokestatic 51, 3) := dTo0_52.2.2.1.2.1
theorem dX5_step_42 : decode cX5_step 42 = .ok (.ifCond .ne 8, 3) := dTo0_52.2.2.1.2.2.1
theorem dX5_step_45 : decode cX5_step 45 = .ok (.aload_n 0, 1) := dTo0_52.2.2.1.2.2.2.1
theorem dX5_step_46 : decode cX5_step 46 = .ok (.invokevirtual 55, 3) := dTo0_52.2.2.1.2.2.2.2.1
theorem dX5_step_49 : decode cX5_step 49 = .ok (.ireturn, 1) := dTo0_52.2.2.1.2.2.2.2.2.1
theorem dX5_step_50 : decode cX5_step 50 = .ok (.aload_n 0, 1) := dTo0_52.2.2.1.2.2.2.2.2.2.1
theorem dX5_step_51 : decode cX5_step 51 = .ok (.iload_n 1, 1) := dTo0_52.2.2.1.2.2.2.2.2.2.2.1
theorem dX5_step_52 : decode cX5_step 52 = .ok (.iload_n 3, 1) := dTo0_52.2.2.1.2.2.2.2.2.2.2.2.1
theorem dX5_step_53 : decode cX5_step 53 = .ok (.invokestatic 40, 3) := dTo0_52.2.2.1.2.2.2.2.2.2.2.2.2.1
theorem dX5_step_56 : decode cX5_step 56 = .ok (.invokevirtual 44, 3) := dTo0_52.2.2.2.1.1
theorem dX5_step_59 : decode cX5_step 59 = .ok (.ireturn, 1) := dTo0_52.2.2.2.1.2.1
theorem dTo0_53 : dQ cX5_turn [[(0, zop27, 0, 0), (1, zop184, 0, 32), (4, zop42, 0, 0), (5, zop180, 0, 9), (8, zop27, 0, 0), (9, zop46, 0, 0), (10, zop184, 0, 75), (13, zop61, 0, 0), (14, zop28, 0, 0), (15, zop153, 0, 13)], [(18, zop28, 0, 0), (19, zop4, 0, 0), (20, zop159, 0, 8), (23, zop42, 0, 0), (24, zop182, 0, 55), (27, zop172, 0, 0), (28, zop42, 0, 0), (29, zop27, 0, 0), (30, zop42, 0, 0), (31, zop180, 0, 9)], [(34, zop27, 0, 0), (35, zop46, 0, 0), (36, zop184, 0, 78), (39, zop182, 0, 44), (42, zop172, 0, 0)]] := dQ_of _ _ (by decide +kernel)
theorem dX5_turn_0 : decode cX5_turn 0 = .ok (.iload_n 1, 1) := dTo0_53.1.1
theorem dX5_turn_1 : decode cX5_turn 1 = .ok (.invokestatic 32, 3) := dTo0_53.1.2.1
theorem dX5_turn_4 : decode cX5_turn 4 = .ok (.aload_n 0, 1) := dTo0_53.1.2.2.1
theorem dX5_turn_5 : decode cX5_turn 5 = .ok (.getfield 9, 3) := dTo0_53.1.2.2.2.1
theorem dX5_turn_8 : decode cX5_turn 8 = .ok (.iload_n 1, 1) := dTo0_53.1.2.2.2.2.1
theorem dX5_turn_9 : decode cX5_turn 9 = .ok (.iaload, 1) := dTo0_53.1.2.2.2.2.2.1
theorem dX5_turn_10 : decode cX5_turn 10 = .ok (.invokestatic 75, 3) := dTo0_53.1.2.2.2.2.2.2.1
theorem dX5_turn_13 : decode cX5_turn 13 = .ok (.istore_n 2, 1) := dTo0_53.1.2.2.2.2.2.2.2.1
theorem dX5_turn_14 : decode cX5_turn 14 = .ok (.iload_n 2, 1) := dTo0_53.1.2.2.2.2.2.2.2.2.1
theorem dX5_turn_15 : decode cX5_turn 15 = .ok (.ifCond .eq 13, 3) := dTo0_53.1.2.2.2.2.2.2.2.2.2.1
theorem dX5_turn_18 : decode cX5_turn 18 = .ok (.iload_n 2, 1) := dTo0_53.2.1.1
theorem dX5_turn_19 : decode cX5_turn 19 = .ok (.iconst 1, 1) := dTo0_53.2.1.2.1
theorem dX5_turn_20 : decode cX5_turn 20 = .ok (.if_icmp .eq 8, 3) := dTo0_53.2.1.2.2.1
theorem dX5_turn_23 : decode cX5_turn 23 = .ok (.aload_n 0, 1) := dTo0_53.2.1.2.2.2.1
theorem dX5_turn_24 : decode cX5_turn 24 = .ok (.invokevirtual 55, 3) := dTo0_53.2.1.2.2.2.2.1
theorem dX5_turn_27 : decode cX5_turn 27 = .ok (.ireturn, 1) := dTo0_53.2.1.2.2.2.2.2.1
theorem dX5_turn_28 : decode cX5_turn 28 = .ok (.aload_n 0, 1) := dTo0_53.2.1.2.2.2.2.2.2.1
theorem dX5_turn_29 : decode cX5_turn 29 = .ok (.iload_n 1, 1) := dTo0_53.2.1.2.2.2.2.2.2.2.1
theorem dX5_turn_30 : decode cX5_turn 30 = .ok (.aload_n 0, 1) := dTo0_53.2.1.2.2.2.2.2.2.2.2.1
theorem dX5_turn_31 : decode cX5_turn 31 = .ok (.getfield 9, 3) := dTo0_53.2.1.2.2.2.2.2.2.2.2.2.1
theorem dX5_turn_34 : decode cX5_turn 34 = .ok (.iload_n 1, 1) := dTo0_53.2.2.1.1
theorem dX5_turn_35 : decode cX5_turn 35 = .ok (.iaload, 1) := dTo0_53.2.2.1.2.1
theorem dX5_turn_36 : decode cX5_turn 36 = .ok (.invokestatic 78, 3) := dTo0_53.2.2.1.2.2.1
theorem dX5_turn_39 : decode cX5_turn 39 = .ok (.invokevirtual 44, 3) := dTo0_53.2.2.1.2.2.2.1
theorem dX5_turn_42 : decode cX5_turn 42 = .ok (.ireturn, 1) := dTo0_53.2.2.1.2.2.2.2.1
theorem dTo0_54 : dQ cX5_power [[(0, zop42, 0, 0), (1, zop4, 0, 0), (2, zop27, 0, 0), (3, zop28, 0, 0), (4, zop182, 0, 83), (7, zop172, 0, 0)]] := dQ_of _ _ (by decide +kernel)
theorem dX5_power_0 : decode cX5_power 0 = .ok (.aload_n 0, 1) := dTo0_54.1.1
theorem dX5_power_1 : decode cX5_power 1 = .ok (.iconst 1, 1) := dTo0_54.1.2.1
theorem dX5_power_2 : decode cX5_power 2 = .ok (.iload_n 1, 1) := dTo0_54.1.2.2.1
theorem dX5_power_3 : decode cX5_power 3 = .ok (.iload_n 2, 1) := dTo0_54.1.2.2.2.1
theorem dX5_power_4 : decode cX5_power 4 = .ok (.invokevirtual 83, 3) := dTo0_54.1.2.2.2.2.1
theorem dX5_power_7 : decode cX5_power 7 = .ok (.ireturn, 1) := dTo0_54.1.2.2.2.2.2.1
theorem dTo0_55 : dQ cX5_lessen [[(0, zop42, 0, 0), (1, zop5, 0, 0), (2, zop27, 0, 0), (3, zop28, 0, 0), (4, zop182, 0, 83), (7, zop172, 0, 0)]] := dQ_of _ _ (by decide +kernel)
theorem dX5_lessen_0 : decode cX5_lessen 0 = .ok (.aload_n 0, 1) := dTo0_55.1.1
theorem dX5_lessen_1 : decode cX5_lessen 1 = .ok (.iconst 2, 1) := dTo0_55.1.2.1
theorem dX5_lessen_2 : decode cX5_lessen 2 = .ok (.iload_n 1, 1) := dTo0_55.1.2.2.1
theorem dX5_lessen_3 : decode cX5_lessen 3 = .ok (.iload_n 2, 1) := dTo0_55.1.2.2.2.1
theorem dX5_lessen_4 : decode cX5_lessen 4 = .ok (.invokevirtual 83, 3) := dTo0_55.1.2.2.2.2.1
theorem dX5_lessen_7 : decode cX5_lessen 7 = .ok (.ireturn, 1) := dTo0_55.1.2.2.2.2.2.1
theorem dTo0_56 : dQ cX5_log [[(0, zop42, 0, 0), (1, zop6, 0, 0), (2, zop27, 0, 0), (3, zop28, 0, 0), (4, zop182, 0, 83), (7, zop172, 0, 0)]] := dQ_of _ _ (by decide +kernel)
theorem dX5_log_0 : decode cX5_log 0 = .ok (.aload_n 0, 1) := dTo0_56.1.1
theorem dX5_log_1 : decode cX5_log 1 = .ok (.iconst 3, 1) := dTo0_56.1.2.1
theorem dX5_log_2 : decode cX5_log 2 = .ok (.iload_n 1, 1) := dTo0_56.1.2.2.1
theorem dX5_log_3 : decode cX5_log 3 = .ok (.iload_n 2, 1) := dTo0_56.1.2.2.2.1
theorem dX5_log_4 : decode cX5_log 4 = .ok (.invokevirtual 83, 3) := dTo0_56.1.2.2.2.2.1
theorem dX5_log_7 : decode cX5_log 7 = .ok (.ireturn, 1) := dTo0_56.1.2.2.2.2.2.1
theorem dTo0_57 : dQ cX5_all [[(0, zop27, 0, 0), (1, zop4, 0, 0), (2, zop6, 0, 0), (3, zop184, 0, 36), (6, zop3, 0, 0), (7, zop61, 0, 0), (8, zop3, 0, 0), (9, zop62, 0, 0), (10, zop29, 0, 0), (11, zop16, 8, 0)], [(13, zop162, 0, 37), (16, zop27, 0, 0), (17, zop42, 0, 0), (18, zop180, 0, 9), (21, zop29, 0, 0), (22, zop46, 0, 0), (23, zop184, 0, 87), (26, zop54, 4, 0), (28, zop21, 4, 0), (30, zop2, 0, 0)], [(31, zop159, 0, 13), (34, zop42, 0, 0), (35, zop29, 0, 0), (36, zop21, 4, 0), (38, zop182, 0, 62), (41, zop132, 2, 1), (44, zop132, 3, 1), (47, zop167, 255, 219), (50, zop42, 0, 0), (51, zop28, 0, 0)], [(52, zop182, 0, 69), (55, zop172, 0, 0)]] := dQ_of _ _ (by decide +kernel)
theorem dX5_all_0 : decode cX5_all 0 = .ok (.iload_n 1, 1) := dTo0_57.1.1
theorem dX5_all_1 : decode cX5_all 1 = .ok (.iconst 1, 1) := dTo0_57.1.2.1
theorem dX5_all_2 : decode cX5_all 2 = .ok (.iconst 3, 1) := dTo0_57.1.2.2.1
theorem dX5_all_3 : decode cX5_all 3 = .ok (.invokestatic 36, 3) := dTo0_57.1.2.2.2.1
theorem dX5_all_6 : decode cX5_all 6 = .ok (.iconst 0, 1) := dTo0_57.1.2.2.2.2.1
theorem dX5_all_7 : decode cX5_all 7 = .ok (.istore_n 2, 1) := dTo0_57.1.2.2.2.2.2.1
theorem dX5_all_8 : decode cX5_all 8 = .ok (.iconst 0, 1) := dTo0_57.1.2.2.2.2.2.2.1
theorem dX5_all_9 : decode cX5_all 9 = .ok (.istore_n 3, 1) := dTo0_57.1.2.2.2.2.2.2.2.1
theorem dX5_all_10 : decode cX5_all 10 = .ok (.iload_n 3, 1) := dTo0_57.1.2.2.2.2.2.2.2.2.1
theorem dX5_all_11 : decode cX5_all 11 = .ok (.bipush 8, 2) := dTo0_57.1.2.2.2.2.2.2.2.2.2.1
theorem dX5_all_13 : decode cX5_all 13 = .ok (.if_icmp .ge 37, 3) := dTo0_57.2.1.1
theorem dX5_all_16 : decode cX5_all 16 = .ok (.iload_n 1, 1) := dTo0_57.2.1.2.1
theorem dX5_all_17 : decode cX5_all 17 = .ok (.aload_n 0, 1) := dTo0_57.2.1.2.2.1
theorem dX5_all_18 : decode cX5_all 18 = .ok (.getfield 9, 3) := dTo0_57.2.1.2.2.2.1
theorem dX5_all_21 : decode cX5_all 21 = .ok (.iload_n 3, 1) := dTo0_57.2.1.2.2.2.2.1
theorem dX5_all_22 : decode cX5_all 22 = .ok (.iaload, 1) := dTo0_57.2.1.2.2.2.2.2.1
theorem dX5_all_23 : decode cX5_all 23 = .ok (.invokestatic 87, 3) := dTo0_57.2.1.2.2.2.2.2.2.1
theorem dX5_all_26 : decode cX5_all 26 = .ok (.istore 4, 2) := dTo0_57.2.1.2.2.2.2.2.2.2.1
theorem dX5_all_28 : decode cX5_all 28 = .ok (.iload 4, 2) := dTo0_57.2.1.2.2.2.2.2.2.2.2.1
theorem dX5_all_30 : decode cX5_all 30 = .ok (.iconst (-1), 1) := dTo0_57.2.1.2.2.2.2.2.2.2.2.2.1
theorem dX5_all_31 : decode cX5_all 31 = .ok (.if_icmp .eq 13, 3) := dTo0_57.2.2.1.1
theorem dX5_all_34 : decode cX5_all 34 = .ok (.aload_n 0, 1) := dTo0_57.2.2.1.2.1
theorem dX5_all_35 : decode cX5_all 35 = .ok (.iload_n 3, 1) := dTo0_57.2.2.1.2.2.1
theorem dX5_all_36 : decode cX5_all 36 = .ok (.iload 4, 2) := dTo0_57.2.2.1.2.2.2.1
theorem dX5_all_38 : decode cX5_all 38 = .ok (.invokevirtual 62, 3) := dTo0_57.2.2.1.2.2.2.2.1
theorem dX5_all_41 : decode cX5_all 41 = .ok (.iinc 2 1, 3) := dTo0_57.2.2.1.2.2.2.2.2.1
theorem dX5_all_44 : decode cX5_all 44 = .ok (.iinc 3 1, 3) := dTo0_57.2.2.1.2.2.2.2.2.2.1
theorem dX5_all_47 : decode cX5_all 47 = .ok (.goto (-37), 3) := dTo0_57.2.2.1.2.2.2.2.2.2.2.1
theorem dX5_all_50 : decode cX5_all 50 = .ok (.aload_n 0, 1) := dTo0_57.2.2.1.2.2.2.2.2.2.2.2.1
theorem dX5_all_51 : decode cX5_all 51 = .ok (.iload_n 2, 1) := dTo0_57.2.2.1.2.2.2.2.2.2.2.2.2.1
theorem dX5_all_52 : decode cX5_all 52 = .ok (.invokevirtual 69, 3) := dTo0_57.2.2.2.1.1
theorem dX5_all_55 : decode cX5_all 55 = .ok (.ireturn, 1) := dTo0_57.2.2.2.1.2.1
theorem dTo0_58 : dQ cX5_greater [[(0, zop27, 0, 0), (1, zop184, 0, 32), (4, zop28, 0, 0), (5, zop184, 0, 32), (8, zop29, 0, 0), (9, zop184, 0, 32), (12, zop42, 0, 0), (13, zop29, 0, 0), (14, zop42, 0, 0), (15, zop27, 0, 0)], [(16, zop28, 0, 0), (17, zop182, 0, 90), (20, zop156, 0, 12), (23, zop42, 0, 0), (24, zop180, 0, 9), (27, zop28, 0, 0), (28, zop46, 0, 0), (29, zop167, 0, 9), (32, zop42, 0, 0), (33, zop180, 0, 9)], [(36, zop27, 0, 0), (37, zop46, 0, 0), (38, zop182, 0, 44), (41, zop172, 0, 0)]] := dQ_of _ _ (by decide +kernel)
theorem dX5_greater_0 : decode cX5_greater 0 = .ok (.iload_n 1, 1) := dTo0_58.1.1
theorem dX5_greater_1 : decode cX5_greater 1 = .ok (.invokestatic 32, 3) := dTo0_58.1.2.1
theorem dX5_greater_4 : decode cX5_greater 4 = .ok (.iload_n 2, 1) := dTo0_58.1.2.2.1
theorem dX5_greater_5 : decode cX5_greater 5 = .ok (.invokestatic 32, 3) := dTo0_58.1.2.2.2.1
theorem dX5_greater_8 : decode cX5_greater 8 = .ok (.iload_n 3, 1) := dTo0_58.1.2.2.2.2.1
theorem dX5_greater_9 : decode cX5_greater 9 = .ok (.invokestatic 32, 3) := dTo0_58.1.2.2.2.2.2.1
theorem dX5_greater_12 : decode cX5_greater 12 = .ok (.aload_n 0, 1) := dTo0_58.1.2.2.2.2.2.2.1
theorem dX5_greater_13 : decode cX5_greater 13 = .ok (.iload_n 3, 1) := dTo0_58.1.2.2.2.2.2.2.2.1
theorem dX5_greater_14 : decode cX5_greater 14 = .ok (.aload_n 0, 1) := dTo0_58.1.2.2.2.2.2.2.2.2.1
theorem dX5_greater_15 : decode cX5_greater 15 = .ok (.iload_n 1, 1) := dTo0_58.1.2.2.2.2.2.2.2.2.2.1
theorem dX5_greater_16 : decode cX5_greater 16 = .ok (.iload_n 2, 1) := dTo0_58.2.1.1
theorem dX5_greater_17 : decode cX5_greater 17 = .ok (.invokevirtual 90, 3) := dTo0_58.2.1.2.1
theorem dX5_greater_20 : decode cX5_greater 20 = .ok (.ifCond .ge 12, 3) := dTo0_58.2.1.2.2.1
theorem dX5_greater_23 : decode cX5_greater 23 = .ok (.aload_n 0, 1) := dTo0_58.2.1.2.2.2.1
theorem dX5_greater_24 : decode cX5_greater 24 = .ok (.getfield 9, 3) := dTo0_58.2.1.2.2.2.2.1
theorem dX5_greater_27 : decode cX5_greater 27 = .ok (.iload_n 2, 1) := dTo0_58.2.1.2.2.2.2.2.1
theorem dX5_greater_28 : decode cX5_greater 28 = .ok (.iaload, 1) := dTo0_58.2.1.2.2.2.2.2.2.1
theorem dX5_greater_29 : decode cX5_greater 29 = .ok (.goto 9, 3) := dTo0_58.2.1.2.2.2.2.2.2.2.1
theorem dX5_greater_32 : decode cX5_greater 32 = .ok (.aload_n 0, 1) := dTo0_58.2.1.2.2.2.2.2.2.2.2.1
theorem dX5_greater_33 : decode cX5_greater 33 = .ok (.getfield 9, 3) := dTo0_58.2.1.2.2.2.2.2.2.2.2.2.1
theorem dX5_greater_36 : decode cX5_greater 36 = .ok (.iload_n 1, 1) := dTo0_58.2.2.1.1
theorem dX5_greater_37 : decode cX5_greater 37 = .ok (.iaload, 1) := dTo0_58.2.2.1.2.1
theorem dX5_greater_38 : decode cX5_greater 38 = .ok (.invokevirtual 44, 3) := dTo0_58.2.2.1.2.2.1
theorem dX5_greater_41 : decode cX5_greater 41 = .ok (.ireturn, 1) := dTo0_58.2.2.1.2.2.2.1
theorem dTo0_59 : dQ cX5_lesser [[(0, zop27, 0, 0), (1, zop184, 0, 32), (4, zop28, 0, 0), (5, zop184, 0, 32), (8, zop29, 0, 0), (9, zop184, 0, 32), (12, zop42, 0, 0), (13, zop29, 0, 0), (14, zop42, 0, 0), (15, zop27, 0, 0)], [(16, zop28, 0, 0), (17, zop182, 0, 90), (20, zop158, 0, 12), (23, zop42, 0, 0), (24, zop180, 0, 9), (27, zop28, 0, 0), (28, zop46, 0, 0), (29, zop167, 0, 9), (32, zop42, 0, 0), (33, zop180, 0, 9)], [(36, zop27, 0, 0), (37, zop46, 0, 0), (38, zop182, 0, 44), (41, zop172, 0, 0)]] := dQ_of _ _ (by decide +kernel)
theorem dX5_lesser_0 : decode cX5_lesser 0 = .ok (.iload_n 1, 1) := dTo0_59.1.1
theorem dX5_lesser_1 : decode cX5_lesser 1 = .ok (.invokestatic 32, 3) := dTo0_59.1.2.1
theorem dX5_lesser_4 : decode cX5_lesser 4 = .ok (.iload_n 2, 1) := dTo0_59.1.2.2.1
theorem dX5_lesser_5 : decode cX5_lesser 5 = .ok (.invokestatic 32, 3) := dTo0_59.1.2.2.2.1
theorem dX5_lesser_8 : decode cX5_lesser 8 = .ok (.iload_n 3, 1) := dTo0_59.1.2.2.2.2.1
theorem dX5_lesser_9 : decode cX5_lesser 9 = .ok (.invokestatic 32, 3) := dTo0_59.1.2.2.2.2.2.1
theorem dX5_lesser_12 : decode cX5_lesser 12 = .ok (.aload_n 0, 1) := dTo0_59.1.2.2.2.2.2.2.1
theorem dX5_lesser_13 : decode cX5_lesser 13 = .ok (.iload_n 3, 1) := dTo0_59.1.2.2.2.2.2.2.2.1
theorem dX5_lesser_14 : decode cX5_lesser 14 = .ok (.aload_n 0, 1) := dTo0_59.1.2.2.2.2.2.2.2.2.1
theorem dX5_lesser_15 : decode cX5_lesser 15 = .ok (.iload_n 1, 1) := dTo0_59.1.2.2.2.2.2.2.2.2.2.1
theorem dX5_lesser_16 : decode cX5_lesser 16 = .ok (.iload_n 2, 1) := dTo0_59.2.1.1
theorem dX5_lesser_17 : decode cX5_lesser 17 = .ok (.invokevirtual 90, 3) := dTo0_59.2.1.2.1
theorem dX5_lesser_20 : decode cX5_lesser 20 = .ok (.ifCond .le 12, 3) := dTo0_59.2.1.2.2.1
theorem dX5_lesser_23 : decode cX5_lesser 23 = .ok (.aload_n 0, 1) := dTo0_59.2.1.2.2.2.1
theorem dX5_lesser_24 : decode cX5_lesser 24 = .ok (.getfield 9, 3) := dTo0_59.2.1.2.2.2.2.1
theorem dX5_lesser_27 : decode cX5_lesser 27 = .ok (.iload_n 2, 1) := dTo0_59.2.1.2.2.2.2.2.1
theorem dX5_lesser_28 : decode cX5_lesser 28 = .ok (.iaload, 1) := dTo0_59.2.1.2.2.2.2.2.2.1
theorem dX5_lesser_29 : decode cX5_lesser 29 = .ok (.goto 9, 3) := dTo0_59.2.1.2.2.2.2.2.2.2.1
theorem dX5_lesser_32 : decode cX5_lesser 32 = .ok (.aload_n 0, 1) := dTo0_59.2.1.2.2.2.2.2.2.2.2.1
theorem dX5_lesser_33 : decode cX5_lesser 33 = .ok (.getfield 9, 3) := dTo0_59.2.1.2.2.2.2.2.2.2.2.2.1
theorem dX5_lesser_36 : decode cX5_lesser 36 = .ok (.iload_n 1, 1) := dTo0_59.2.2.1.1
theorem dX5_lesser_37 : decode cX5_lesser 37 = .ok (.iaload, 1) := dTo0_59.2.2.1.2.1
theorem dX5_lesser_38 : decode cX5_lesser 38 = .ok (.invokevirtual 44, 3) := dTo0_59.2.2.1.2.2.1
theorem dX5_lesser_41 : decode cX5_lesser 41 = .ok (.ireturn, 1) := dTo0_59.2.2.1.2.2.2.1
theorem dTo0_60 : dQ cX5_end [[(0, zop28, 0, 0), (1, zop184, 0, 32), (4, zop3, 0, 0), (5, zop62, 0, 0), (6, zop4, 0, 0), (7, zop54, 4, 0), (9, zop21, 4, 0), (11, zop16, 8, 0), (13, zop162, 0, 38), (16, zop42, 0, 0)], [(17, zop21, 4, 0), (19, zop29, 0, 0), (20, zop182, 0, 90), (23, zop54, 5, 0), (25, zop27, 0, 0), (26, zop153, 0, 11), (29, zop21, 5, 0), (31, zop158, 0, 14), (34, zop167, 0, 8), (37, zop21, 5, 0)], [(39, zop156, 0, 6), (42, zop21, 4, 0), (44, zop62, 0, 0), (45, zop132, 4, 1), (48, zop167, 255, 217), (51, zop42, 0, 0), (52, zop28, 0, 0), (53, zop42, 0, 0), (54, zop180, 0, 9), (57, zop29, 0, 0)], [(58, zop46, 0, 0), (59, zop182, 0, 44), (62, zop172, 0, 0)]] := dQ_of _ _ (by decide +kernel)
theorem dX5_end_0 : decode cX5_end 0 = .ok (.iload_n 2, 1) := dTo0_60.1.1
theorem dX5_end_1 : decode cX5_end 1 = .ok (.invokestatic 32, 3) := dTo0_60.1.2.1
theorem dX5_end_4 : decode cX5_end 4 = .ok (.iconst 0, 1) := dTo0_60.1.2.2.1
theorem dX5_end_5 : decode cX5_end 5 = .ok (.istore_n 3, 1) := dTo0_60.1.2.2.2.1
theorem dX5_end_6 : decode cX5_end 6 = .ok (.iconst 1, 1) := dTo0_60.1.2.2.2.2.1
theorem dX5_end_7 : decode cX5_end 7 = .ok (.istore 4, 2) := dTo0_60.1.2.2.2.2.2.1
theorem dX5_end_9 : decode cX5_end 9 = .ok (.iload 4, 2) := dTo0_60.1.2.2.2.2.2.2.1
theorem dX5_end_11 : decode cX5_end 11 = .ok (.bipush 8, 2) := dTo0_60.1.2.2.2.2.2.2.2.1
theorem dX5_end_13 : decode cX5_end 13 = .ok (.if_icmp .ge 38, 3) := dTo0_60.1.2.2.2.2.2.2.2.2.1
theorem dX5_end_16 : decode cX5_end 16 = .ok (.aload_n 0, 1) := dTo0_60.1.2.2.2.2.2.2.2.2.2.1
theorem dX5_end_17 : decode cX5_end 17 = .ok (.iload 4, 2) := dTo0_60.2.1.1
theorem dX5_end_19 : decode cX5_end 19 = .ok (.iload_n 3, 1) := dTo0_60.2.1.2.1
theorem dX5_end_20 : decode cX5_end 20 = .ok (.invokevirtual 90, 3) := dTo0_60.2.1.2.2.1
theorem dX5_end_23 : decode cX5_end 23 = .ok (.istore 5, 2) := dTo0_60.2.1.2.2.2.1
theorem dX5_end_25 : decode cX5_end 25 = .ok (.iload_n 1, 1) := dTo0_60.2.1.2.2.2.2.1
theorem dX5_end_26 : decode cX5_end 26 = .ok (.ifCond .eq 11, 3) := dTo0_60.2.1.2.2.2.2.2.1
theorem dX5_end_29 : decode cX5_end 29 = .ok (.iload 5, 2) := dTo0_60.2.1.2.2.2.2.2.2.1
theorem dX5_end_31 : decode cX5_end 31 = .ok (.ifCond .le 14, 3) := dTo0_60.2.1.2.2.2.2.2.2.2.1
theorem dX5_end_34 : decode cX5_end 34 = .ok (.goto 8, 3) := dTo0_60.2.1.2.2.2.2.2.2.2.2.1
theorem dX5_end_37 : decode cX5_end 37 = .ok (.iload 5, 2) := dTo0_60.2.1.2.2.2.2.2.2.2.2.2.1
theorem dX5_end_39 : decode cX5_end 39 = .ok (.ifCond .ge 6, 3) := dTo0_60.2.2.1.1
theorem dX5_end_42 : decode cX5_end 42 = .ok (.iload 4, 2) := dTo0_60.2.2.1.2.1
theorem dX5_end_44 : decode cX5_end 44 = .ok (.istore_n 3, 1) := dTo0_60.2.2.1.2.2.1
theorem dX5_end_45 : decode cX5_end 45 = .ok (.iinc 4 1, 3) := dTo0_60.2.2.1.2.2.2.1
theorem dX5_end_48 : decode cX5_end 48 = .ok (.goto (-39), 3) := dTo0_60.2.2.1.2.2.2.2.1
theorem dX5_end_51 : decode cX5_end 51 = .ok (.aload_n 0, 1) := dTo0_60.2.2.1.2.2.2.2.2.1
theorem dX5_end_52 : decode cX5_end 52 = .ok (.iload_n 2, 1) := dTo0_60.2.2.1.2.2.2.2.2.2.1
theorem dX5_end_53 : decode cX5_end 53 = .ok (.aload_n 0, 1) := dTo0_60.2.2.1.2.2.2.2.2.2.2.1
theorem dX5_end_54 : decode cX5_end 54 = .ok (.getfield 9, 3) := dTo0_60.2.2.1.2.2.2.2.2.2.2.2.1
theorem dX5_end_57 : decode cX5_end 57 = .ok (.iload_n 3, 1) := dTo0_60.2.2.1.2.2.2.2.2.2.2.2.2.1
theorem dX5_end_58 : decode cX5_end 58 = .ok (.iaload, 1) := dTo0_60.2.2.2.1.1
theorem dX5_end_59 : decode cX5_end 59 = .ok (.invokevirtual 44, 3) := dTo0_60.2.2.2.1.2.1
theorem dX5_end_62 : decode cX5_end 62 = .ok (.ireturn, 1) := dTo0_60.2.2.2.1.2.2.1
theorem dTo0_61 : dQ cX5_sort [[(0, zop42, 0, 0), (1, zop182, 0, 59), (4, zop4, 0, 0), (5, zop60, 0, 0), (6, zop27, 0, 0), (7, zop16, 8, 0), (9, zop162, 0, 60), (12, zop27, 0, 0), (13, zop61, 0, 0), (14, zop28, 0, 0)], [(15, zop158, 0, 48), (18, zop42, 0, 0), (19, zop28, 0, 0), (20, zop28, 0, 0), (21, zop4, 0, 0), (22, zop100, 0, 0), (23, zop182, 0, 90), (26, zop156, 0, 37), (29, zop42, 0, 0), (30, zop180, 0, 9)], [(33, zop28, 0, 0), (34, zop46, 0, 0), (35, zop62, 0, 0), (36, zop42, 0, 0), (37, zop28, 0, 0), (38, zop42, 0, 0), (39, zop180, 0, 9), (42, zop28, 0, 0), (43, zop4, 0, 0), (44, zop100, 0, 0)], [(45, zop46, 0, 0), (46, zop182, 0, 62), (49, zop42, 0, 0), (50, zop28, 0, 0), (51, zop4, 0, 0), (52, zop100, 0, 0), (53, zop29, 0, 0), (54, zop182, 0, 62), (57, zop132, 2, 255), (60, zop167, 255, 210)], [(63, zop132, 1, 1), (66, zop167, 255, 196), (69, zop42, 0, 0), (70, zop42, 0, 0), (71, zop182, 0, 66), (74, zop182, 0, 69), (77, zop172, 0, 0)]] := dQ_of _ _ (by decide +kernel)
theorem dX5_sort_0 : decode cX5_sort 0 = .ok (.aload_n 0, 1) := dTo0_61.1.1
theorem dX5_sort_1 : decode cX5_sort 1 = .ok (.invokevirtual 59, 3) := dTo0_61.1.2.1
theorem dX5_sort_4 : decode cX5_sort 4 = .ok (.iconst 1, 1) := dTo0_61.1.2.2.1
theorem dX5_sort_5 : decode cX5_sort 5 = .ok (.istore_n 1, 1) := dTo0_61.1.2.2.2.1
theorem dX5_sort_6 : decode cX5_sort 6 = .ok (.iload_n 1, 1) := dTo0_61.1.2.2.2.2.1
theorem dX5_sort_7 : decode cX5_sort 7 = .ok (.bipush 8, 2) := dTo0_61.1.2.2.2.2.2.1
theorem dX5_sort_9 : decode cX5_sort 9 = .ok (.if_icmp .ge 60, 3) := dTo0_61.1.2.2.2.2.2.2.1
theorem dX5_sort_12 : decode cX5_sort 12 = .ok (.iload_n 1, 1) := dTo0_61.1.2.2.2.2.2.2.2.1
theorem dX5_sort_13 : decode cX5_sort 13 = .ok (.istore_n 2, 1) := dTo0_61.1.2.2.2.2.2.2.2.2.1
theorem dX5_sort_14 : decode cX5_sort 14 = .ok (.iload_n 2, 1) := dTo0_61.1.2.2.2.2.2.2.2.2.2.1
theorem dX5_sort_15 : decode cX5_sort 15 = .ok (.ifCond .le 48, 3) := dTo0_61.2.1.1
theorem dX5_sort_18 : decode cX5_sort 18 = .ok (.aload_n 0, 1) := dTo0_61.2.1.2.1
theorem dX5_sort_19 : decode cX5_sort 19 = .ok (.iload_n 2, 1) := dTo0_61.2.1.2.2.1
theorem dX5_sort_20 : decode cX5_sort 20 = .ok (.iload_n 2, 1) := dTo0_61.2.1.2.2.2.1
theorem dX5_sort_21 : decode cX5_sort 21 = .ok (.iconst 1, 1) := dTo0_61.2.1.2.2.2.2.1
theorem dX5_sort_22 : decode cX5_sort 22 = .ok (.isub, 1) := dTo0_61.2.1.2.2.2.2.2.1
theorem dX5_sort_23 : decode cX5_sort 23 = .ok (.invokevirtual 90, 3) := dTo0_61.2.1.2.2.2.2.2.2.1
theorem dX5_sort_26 : decode cX5_sort 26 = .ok (.ifCond .ge 37, 3) := dTo0_61.2.1.2.2.2.2.2.2.2.1
theorem dX5_sort_29 : decode cX5_sort 29 = .ok (.aload_n 0, 1) := dTo0_61.2.1.2.2.2.2.2.2.2.2.1
theorem dX5_sort_30 : decode cX5_sort 30 = .ok (.getfield 9, 3) := dTo0_61.2.1.2.2.2.2.2.2.2.2.2.1
theorem dX5_sort_33 : decode cX5_sort 33 = .ok (.iload_n 2, 1) := dTo0_61.2.2.1.1
theorem dX5_sort_34 : decode cX5_sort 34 = .ok (.iaload, 1) := dTo0_61.2.2.1.2.1
theorem dX5_sort_35 : decode cX5_sort 35 = .ok (.istore_n 3, 1) := dTo0_61.2.2.1.2.2.1
theorem dX5_sort_36 : decode cX5_sort 36 = .ok (.aload_n 0, 1) := dTo0_61.2.2.1.2.2.2.1
theorem dX5_sort_37 : decode cX5_sort 37 = .ok (.iload_n 2, 1) := dTo0_61.2.2.1.2.2.2.2.1
theorem dX5_sort_38 : decode cX5_sort 38 = .ok (.aload_n 0, 1) := dTo0_61.2.2.1.2.2.2.2.2.1
theorem dX5_sort_39 : decode cX5_sort 39 = .ok (.getfield 9, 3) := dTo0_61.2.2.1.2.2.2.2.2.2.1
theorem dX5_sort_42 : decode cX5_sort 42 = .ok (.iload_n 2, 1) := dTo0_61.2.2.1.2.2.2.2.2.2.2.1
theorem dX5_sort_43 : decode cX5_sort 43 = .ok (.iconst 1, 1) := dTo0_61.2.2.1.2.2.2.2.2.2.2.2.1
theorem dX5_sort_44 : decode cX5_sort 44 = .ok (.isub, 1) := dTo0_61.2.2.1.2.2.2.2.2.2.2.2.2.1
theorem dX5_sort_45 : decode cX5_sort 45 = .ok (.iaload, 1) := dTo0_61.2.2.2.1.1
theorem dX5_sort_46 : decode cX5_sort 46 = .ok (.invokevirtual 62, 3) := dTo0_61.2.2.2.1.2.1
theorem dX5_sort_49 : decode cX5_sort 49 = .ok (.aload_n 0, 1) := dTo0_61.2.2.2.1.2.2.1
theorem dX5_sort_50 : decode cX5_sort 50 = .ok (.iload_n 2, 1) := dTo0_61.2.2.2.1.2.2.2.1
theorem dX5_sort_51 : decode cX5_sort 51 = .ok (.iconst 1, 1) := dTo0_61.2.2.2.1.2.2.2.2.1
theorem dX5_sort_52 : decode cX5_sort 52 = .ok (.isub, 1) := dTo0_61.2.2.2.1.2.2.2.2.2.1
theorem dX5_sort_53 : decode cX5_sort 53 = .ok (.iload_n 3, 1) := dTo0_61.2.2.2.1.2.2.2.2.2.2.1
theorem dX5_sort_54 : decode cX5_sort 54 = .ok (.invokevirtual 62, 3) := dTo0_61.2.2.2.1.2.2.2.2.2.2.2.1
theorem dX5_sort_57 : decode cX5_sort 57 = .ok (.iinc 2 (-1), 3) := dTo0_61.2.2.2.1.2.2.2.2.2.2.2.2.1
theorem dX5_sort_60 : decode cX5_sort 60 = .ok (.goto (-46), 3) := dTo0_61.2.2.2.1.2.2.2.2.2.2.2.2.2.1
theorem dX5_sort_63 : decode cX5_sort 63 = .ok (.iinc 1 1, 3) := dTo0_61.2.2.2.2.1.1
theorem dX5_sort_66 : decode cX5_sort 66 = .ok (.goto (-60), 3) := dTo0_61.2.2.2.2.1.2.1
theorem dX5_sort_69 : decode cX5_sort 69 = .ok (.aload_n 0, 1) := dTo0_61.2.2.2.2.1.2.2.1
theorem dX5_sort_70 : decode cX5_sort 70 = .ok (.aload_n 0, 1) := dTo0_61.2.2.2.2.1.2.2.2.1
theorem dX5_sort_71 : decode cX5_sort 71 = .ok (.invokevirtual 66, 3) := dTo0_61.2.2.2.2.1.2.2.2.2.1
theorem dX5_sort_74 : decode cX5_sort 74 = .ok (.invokevirtual 69, 3) := dTo0_61.2.2.2.2.1.2.2.2.2.2.1
theorem dX5_sort_77 : decode cX5_sort 77 = .ok (.ireturn, 1) := dTo0_61.2.2.2.2.1.2.2.2.2.2.2.1
theorem dTo0_62 : dQ cX5_kind [[(0, zop27, 0, 0), (1, zop184, 0, 32), (4, zop42, 0, 0), (5, zop180, 0, 9), (8, zop27, 0, 0), (9, zop46, 0, 0), (10, zop184, 0, 75), (13, zop172, 0, 0)]] := dQ_of _ _ (by decide +kernel)
theorem dX5_kind_0 : decode cX5_kind 0 = .ok (.iload_n 1, 1) := dTo0_62.1.1
theorem dX5_kind_1 : decode cX5_kind 1 = .ok (.invokestatic 32, 3) := dTo0_62.1.2.1
theorem dX5_kind_4 : decode cX5_kind 4 = .ok (.aload_n 0, 1) := dTo0_62.1.2.2.1
theorem dX5_kind_5 : decode cX5_kind 5 = .ok (.getfield 9, 3) := dTo0_62.1.2.2.2.1
theorem dX5_kind_8 : decode cX5_kind 8 = .ok (.iload_n 1, 1) := dTo0_62.1.2.2.2.2.1
theorem dX5_kind_9 : decode cX5_kind 9 = .ok (.iaload, 1) := dTo0_62.1.2.2.2.2.2.1
theorem dX5_kind_10 : decode cX5_kind 10 = .ok (.invokestatic 75, 3) := dTo0_62.1.2.2.2.2.2.2.1
theorem dX5_kind_13 : decode cX5_kind 13 = .ok (.ireturn, 1) := dTo0_62.1.2.2.2.2.2.2.2.1
theorem dTo0_63 : dQ cX5_of [[(0, zop27, 0, 0), (1, zop184, 0, 32), (4, zop42, 0, 0), (5, zop180, 0, 9), (8, zop27, 0, 0), (9, zop46, 0, 0), (10, zop184, 0, 72), (13, zop172, 0, 0)]] := dQ_of _ _ (by decide +kernel)
theorem dX5_of_0 : decode cX5_of 0 = .ok (.iload_n 1, 1) := dTo0_63.1.1
theorem dX5_of_1 : decode cX5_of 1 = .ok (.invokestatic 32, 3) := dTo0_63.1.2.1
theorem dX5_of_4 : decode cX5_of 4 = .ok (.aload_n 0, 1) := dTo0_63.1.2.2.1
theorem dX5_of_5 : decode cX5_of 5 = .ok (.getfield 9, 3) := dTo0_63.1.2.2.2.1
theorem dX5_of_8 : decode cX5_of 8 = .ok (.iload_n 1, 1) := dTo0_63.1.2.2.2.2.1
theorem dX5_of_9 : decode cX5_of 9 = .ok (.iaload, 1) := dTo0_63.1.2.2.2.2.2.1
theorem dX5_of_10 : decode cX5_of 10 = .ok (.invokestatic 72, 3) := dTo0_63.1.2.2.2.2.2.2.1
theorem dX5_of_13 : decode cX5_of 13 = .ok (.ireturn, 1) := dTo0_63.1.2.2.2.2.2.2.2.1
theorem dTo0_64 : dQ cX5_isBelow [[(0, zop27, 0, 0), (1, zop184, 0, 32), (4, zop42, 0, 0), (5, zop180, 0, 9), (8, zop27, 0, 0), (9, zop46, 0, 0), (10, zop184, 0, 93), (13, zop172, 0, 0)]] := dQ_of _ _ (by decide +kernel)
theorem dX5_isBelow_0 : decode cX5_isBelow 0 = .ok (.iload_n 1, 1) := dTo0_64.1.1
theorem dX5_isBelow_1 : decode cX5_isBelow 1 = .ok (.invokestatic 32, 3) := dTo0_64.1.2.1
theorem dX5_isBelow_4 : decode cX5_isBelow 4 = .ok (.aload_n 0, 1) := dTo0_64.1.2.2.1
theorem dX5_isBelow_5 : decode cX5_isBelow 5 = .ok (.getfield 9, 3) := dTo0_64.1.2.2.2.1
theorem dX5_isBelow_8 : decode cX5_isBelow 8 = .ok (.iload_n 1, 1) := dTo0_64.1.2.2.2.2.1
theorem dX5_isBelow_9 : decode cX5_isBelow 9 = .ok (.iaload, 1) := dTo0_64.1.2.2.2.2.2.1
theorem dX5_isBelow_10 : decode cX5_isBelow 10 = .ok (.invokestatic 93, 3) := dTo0_64.1.2.2.2.2.2.2.1
theorem dX5_isBelow_13 : decode cX5_isBelow 13 = .ok (.ireturn, 1) := dTo0_64.1.2.2.2.2.2.2.2.1
theorem dTo0_65 : dQ cX5_isZero [[(0, zop27, 0, 0), (1, zop184, 0, 32), (4, zop42, 0, 0), (5, zop180, 0, 9), (8, zop27, 0, 0), (9, zop46, 0, 0), (10, zop184, 0, 96), (13, zop172, 0, 0)]] := dQ_of _ _ (by decide +kernel)
theorem dX5_isZero_0 : decode cX5_isZero 0 = .ok (.iload_n 1, 1) := dTo0_65.1.1
theorem dX5_isZero_1 : decode cX5_isZero 1 = .ok (.invokestatic 32, 3) := dTo0_65.1.2.1
theorem dX5_isZero_4 : decode cX5_isZero 4 = .ok (.aload_n 0, 1) := dTo0_65.1.2.2.1
theorem dX5_isZero_5 : decode cX5_isZero 5 = .ok (.getfield 9, 3) := dTo0_65.1.2.2.2.1
theorem dX5_isZero_8 : decode cX5_isZero 8 = .ok (.iload_n 1, 1) := dTo0_65.1.2.2.2.2.1
theorem dX5_isZero_9 : decode cX5_isZero 9 = .ok (.iaload, 1) := dTo0_65.1.2.2.2.2.2.1
theorem dX5_isZero_10 : decode cX5_isZero 10 = .ok (.invokestatic 96, 3) := dTo0_65.1.2.2.2.2.2.2.1
theorem dX5_isZero_13 : decode cX5_isZero 13 = .ok (.ireturn, 1) := dTo0_65.1.2.2.2.2.2.2.2.1
theorem dTo0_66 : dQ cX5_isEndless [[(0, zop27, 0, 0), (1, zop184, 0, 32), (4, zop42, 0, 0), (5, zop180, 0, 9), (8, zop27, 0, 0), (9, zop46, 0, 0), (10, zop184, 0, 75), (13, zop4, 0, 0), (14, zop160, 0, 7), (17, zop4, 0, 0)], [(18, zop167, 0, 4), (21, zop3, 0, 0), (22, zop172, 0, 0)]] := dQ_of _ _ (by decide +kernel)
theorem dX5_isEndless_0 : decode cX5_isEndless 0 = .ok (.iload_n 1, 1) := dTo0_66.1.1
theorem dX5_isEndless_1 : decode cX5_isEndless 1 = .ok (.invokestatic 32, 3) := dTo0_66.1.2.1
theorem dX5_isEndless_4 : decode cX5_isEndless 4 = .ok (.aload_n 0, 1) := dTo0_66.1.2.2.1
theorem dX5_isEndless_5 : decode cX5_isEndless 5 = .ok (.getfield 9, 3) := dTo0_66.1.2.2.2.1
theorem dX5_isEndless_8 : decode cX5_isEndless 8 = .ok (.iload_n 1, 1) := dTo0_66.1.2.2.2.2.1
theorem dX5_isEndless_9 : decode cX5_isEndless 9 = .ok (.iaload, 1) := dTo0_66.1.2.2.2.2.2.1
theorem dX5_isEndless_10 : decode cX5_isEndless 10 = .ok (.invokestatic 75, 3) := dTo0_66.1.2.2.2.2.2.2.1
theorem dX5_isEndless_13 : decode cX5_isEndless 13 = .ok (.iconst 1, 1) := dTo0_66.1.2.2.2.2.2.2.2.1
theorem dX5_isEndless_14 : decode cX5_isEndless 14 = .ok (.if_icmp .ne 7, 3) := dTo0_66.1.2.2.2.2.2.2.2.2.1
theorem dX5_isEndless_17 : decode cX5_isEndless 17 = .ok (.iconst 1, 1) := dTo0_66.1.2.2.2.2.2.2.2.2.2.1
theorem dX5_isEndless_18 : decode cX5_isEndless 18 = .ok (.goto 4, 3) := dTo0_66.2.1.1
theorem dX5_isEndless_21 : decode cX5_isEndless 21 = .ok (.iconst 0, 1) := dTo0_66.2.1.2.1
theorem dX5_isEndless_22 : decode cX5_isEndless 22 = .ok (.ireturn, 1) := dTo0_66.2.1.2.2.1
theorem dTo0_67 : dQ cX5_whole [[(0, zop27, 0, 0), (1, zop184, 0, 32), (4, zop28, 0, 0), (5, zop16, 194, 0), (7, zop16, 90, 0), (9, zop184, 0, 36), (12, zop42, 0, 0), (13, zop180, 0, 9), (16, zop27, 0, 0), (17, zop46, 0, 0)], [(18, zop184, 0, 99), (21, zop154, 0, 13), (24, zop187, 0, 102), (27, zop89, 0, 0), (28, zop18, 104, 0), (30, zop183, 0, 106), (33, zop191, 0, 0), (34, zop42, 0, 0), (35, zop180, 0, 13), (38, zop27, 0, 0)], [(39, zop47, 0, 0), (40, zop28, 0, 0), (41, zop184, 0, 109), (44, zop184, 0, 113), (47, zop172, 0, 0)]] := dQ_of _ _ (by decide +kernel)
theorem dX5_whole_0 : decode cX5_whole 0 = .ok (.iload_n 1, 1) := dTo0_67.1.1
theorem dX5_whole_1 : decode cX5_whole 1 = .ok (.invokestatic 32, 3) := dTo0_67.1.2.1
theorem dX5_whole_4 : decode cX5_whole 4 = .ok (.iload_n 2, 1) := dTo0_67.1.2.2.1
theorem dX5_whole_5 : decode cX5_whole 5 = .ok (.bipush (-62), 2) := dTo0_67.1.2.2.2.1
theorem dX5_whole_7 : decode cX5_whole 7 = .ok (.bipush 90, 2) := dTo0_67.1.2.2.2.2.1
theorem dX5_whole_9 : decode cX5_whole 9 = .ok (.invokestatic 36, 3) := dTo0_67.1.2.2.2.2.2.1
theorem dX5_whole_12 : decode cX5_whole 12 = .ok (.aload_n 0, 1) := dTo0_67.1.2.2.2.2.2.2.1
theorem dX5_whole_13 : decode cX5_whole 13 = .ok (.getfield 9, 3) := dTo0_67.1.2.2.2.2.2.2.2.1
theorem dX5_whole_16 : decode cX5_whole 16 = .ok (.iload_n 1, 1) := dTo0_67.1.2.2.2.2.2.2.2.2.1
theorem dX5_whole_17 : decode cX5_whole 17 = .ok (.iaload, 1) := dTo0_67.1.2.2.2.2.2.2.2.2.2.1
theorem dX5_whole_18 : decode cX5_whole 18 = .ok (.invokestatic 99, 3) := dTo0_67.2.1.1
theorem dX5_whole_21 : decode cX5_whole 21 = .ok (.ifCond .ne 13, 3) := dTo0_67.2.1.2.1
theorem dX5_whole_24 : decode cX5_whole 24 = .ok (.new 102, 3) := dTo0_67.2.1.2.2.1
theorem dX5_whole_27 : decode cX5_whole 27 = .ok (.dup, 1) := dTo0_67.2.1.2.2.2.1
theorem dX5_whole_28 : decode cX5_whole 28 = .ok (.ldc 104, 2) := dTo0_67.2.1.2.2.2.2.1
theorem dX5_whole_30 : decode cX5_whole 30 = .ok (.invokespecial 106, 3) := dTo0_67.2.1.2.2.2.2.2.1
theorem dX5_whole_33 : decode cX5_whole 33 = .ok (.athrow, 1) := dTo0_67.2.1.2.2.2.2.2.2.1
theorem dX5_whole_34 : decode cX5_whole 34 = .ok (.aload_n 0, 1) := dTo0_67.2.1.2.2.2.2.2.2.2.1
theorem dX5_whole_35 : decode cX5_whole 35 = .ok (.getfield 13, 3) := dTo0_67.2.1.2.2.2.2.2.2.2.2.1
theorem dX5_whole_38 : decode cX5_whole 38 = .ok (.iload_n 1, 1) := dTo0_67.2.1.2.2.2.2.2.2.2.2.2.1
theorem dX5_whole_39 : decode cX5_whole 39 = .ok (.laload, 1) := dTo0_67.2.2.1.1
theorem dX5_whole_40 : decode cX5_whole 40 = .ok (.iload_n 2, 1) := dTo0_67.2.2.1.2.1
theorem dX5_whole_41 : decode cX5_whole 41 = .ok (.invokestatic 109, 3) := dTo0_67.2.2.1.2.2.1
theorem dX5_whole_44 : decode cX5_whole 44 = .ok (.invokestatic 113, 3) := dTo0_67.2.2.1.2.2.2.1
theorem dX5_whole_47 : decode cX5_whole 47 = .ok (.ireturn, 1) := dTo0_67.2.2.1.2.2.2.2.1
theorem dTo0_68 : dQ cX5_height [[(0, zop27, 0, 0), (1, zop184, 0, 32), (4, zop42, 0, 0), (5, zop27, 0, 0), (6, zop182, 0, 117), (9, zop42, 0, 0), (10, zop180, 0, 13), (13, zop27, 0, 0), (14, zop47, 0, 0), (15, zop184, 0, 120)], [(18, zop172, 0, 0)]] := dQ_of _ _ (by decide +kernel)
theorem dX5_height_0 : decode cX5_height 0 = .ok (.iload_n 1, 1) := dTo0_68.1.1
theorem dX5_height_1 : decode cX5_height 1 = .ok (.invokestatic 32, 3) := dTo0_68.1.2.1
theorem dX5_height_4 : decode cX5_height 4 = .ok (.aload_n 0, 1) := dTo0_68.1.2.2.1
theorem dX5_height_5 : decode cX5_height 5 = .ok (.iload_n 1, 1) := dTo0_68.1.2.2.2.1
theorem dX5_height_6 : decode cX5_height 6 = .ok (.invokevirtual 117, 3) := dTo0_68.1.2.2.2.2.1
theorem dX5_height_9 : decode cX5_height 9 = .ok (.aload_n 0, 1) := dTo0_68.1.2.2.2.2.2.1
theorem dX5_height_10 : decode cX5_height 10 = .ok (.getfield 13, 3) := dTo0_68.1.2.2.2.2.2.2.1
theorem dX5_height_13 : decode cX5_height 13 = .ok (.iload_n 1, 1) := dTo0_68.1.2.2.2.2.2.2.2.1
theorem dX5_height_14 : decode cX5_height 14 = .ok (.laload, 1) := dTo0_68.1.2.2.2.2.2.2.2.2.1
theorem dX5_height_15 : decode cX5_height 15 = .ok (.invokestatic 120, 3) := dTo0_68.1.2.2.2.2.2.2.2.2.2.1
theorem dX5_height_18 : decode cX5_height 18 = .ok (.ireturn, 1) := dTo0_68.2.1.1
theorem dTo0_69 : dQ cX5_digits [[(0, zop27, 0, 0), (1, zop184, 0, 32), (4, zop42, 0, 0), (5, zop27, 0, 0), (6, zop182, 0, 117), (9, zop42, 0, 0), (10, zop180, 0, 13), (13, zop27, 0, 0), (14, zop47, 0, 0), (15, zop184, 0, 123)], [(18, zop172, 0, 0)]] := dQ_of _ _ (by decide +kernel)
theorem dX5_digits_0 : decode cX5_digits 0 = .ok (.iload_n 1, 1) := dTo0_69.1.1
theorem dX5_digits_1 : decode cX5_digits 1 = .ok (.invokestatic 32, 3) := dTo0_69.1.2.1
theorem dX5_digits_4 : decode cX5_digits 4 = .ok (.aload_n 0, 1) := dTo0_69.1.2.2.1
theorem dX5_digits_5 : decode cX5_digits 5 = .ok (.iload_n 1, 1) := dTo0_69.1.2.2.2.1
theorem dX5_digits_6 : decode cX5_digits 6 = .ok (.invokevirtual 117, 3) := dTo0_69.1.2.2.2.2.1
theorem dX5_digits_9 : decode cX5_digits 9 = .ok (.aload_n 0, 1) := dTo0_69.1.2.2.2.2.2.1
theorem dX5_digits_10 : decode cX5_digits 10 = .ok (.getfield 13, 3) := dTo0_69.1.2.2.2.2.2.2.1
theorem dX5_digits_13 : decode cX5_digits 13 = .ok (.iload_n 1, 1) := dTo0_69.1.2.2.2.2.2.2.2.1
theorem dX5_digits_14 : decode cX5_digits 14 = .ok (.laload, 1) := dTo0_69.1.2.2.2.2.2.2.2.2.1
theorem dX5_digits_15 : decode cX5_digits 15 = .ok (.invokestatic 123, 3) := dTo0_69.1.2.2.2.2.2.2.2.2.2.1
theorem dX5_digits_18 : decode cX5_digits 18 = .ok (.ireturn, 1) := dTo0_69.2.1.1
theorem dTo0_70 : dQ cX5_upper [[(0, zop27, 0, 0), (1, zop184, 0, 32), (4, zop42, 0, 0), (5, zop27, 0, 0), (6, zop182, 0, 126), (9, zop42, 0, 0), (10, zop180, 0, 13), (13, zop27, 0, 0), (14, zop47, 0, 0), (15, zop16, 32, 0)], [(17, zop123, 0, 0), (18, zop136, 0, 0), (19, zop172, 0, 0)]] := dQ_of _ _ (by decide +kernel)
theorem dX5_upper_0 : decode cX5_upper 0 = .ok (.iload_n 1, 1) := dTo0_70.1.1
theorem dX5_upper_1 : decode cX5_upper 1 = .ok (.invokestatic 32, 3) := dTo0_70.1.2.1
theorem dX5_upper_4 : decode cX5_upper 4 = .ok (.aload_n 0, 1) := dTo0_70.1.2.2.1
theorem dX5_upper_5 : decode cX5_upper 5 = .ok (.iload_n 1, 1) := dTo0_70.1.2.2.2.1
theorem dX5_upper_6 : decode cX5_upper 6 = .ok (.invokevirtual 126, 3) := dTo0_70.1.2.2.2.2.1
theorem dX5_upper_9 : decode cX5_upper 9 = .ok (.aload_n 0, 1) := dTo0_70.1.2.2.2.2.2.1
theorem dX5_upper_10 : decode cX5_upper 10 = .ok (.getfield 13, 3) := dTo0_70.1.2.2.2.2.2.2.1
theorem dX5_upper_13 : decode cX5_upper 13 = .ok (.iload_n 1, 1) := dTo0_70.1.2.2.2.2.2.2.2.1
theorem dX5_upper_14 : decode cX5_upper 14 = .ok (.laload, 1) := dTo0_70.1.2.2.2.2.2.2.2.2.1
theorem dX5_upper_15 : decode cX5_upper 15 = .ok (.bipush 32, 2) := dTo0_70.1.2.2.2.2.2.2.2.2.2.1
theorem dX5_upper_17 : decode cX5_upper 17 = .ok (.lshr, 1) := dTo0_70.2.1.1
theorem dX5_upper_18 : decode cX5_upper 18 = .ok (.l2i, 1) := dTo0_70.2.1.2.1
theorem dX5_upper_19 : decode cX5_upper 19 = .ok (.ireturn, 1) := dTo0_70.2.1.2.2.1
theorem dTo0_71 : dQ cX5_lower [[(0, zop27, 0, 0), (1, zop184, 0, 32), (4, zop42, 0, 0), (5, zop27, 0, 0), (6, zop182, 0, 126), (9, zop42, 0, 0), (10, zop180, 0, 13), (13, zop27, 0, 0), (14, zop47, 0, 0), (15, zop136, 0, 0)], [(16, zop172, 0, 0)]] := dQ_of _ _ (by decide +kernel)
theorem dX5_lower_0 : decode cX5_lower 0 = .ok (.iload_n 1, 1) := dTo0_71.1.1
theorem dX5_lower_1 : decode cX5_lower 1 = .ok (.invokestatic 32, 3) := dTo0_71.1.2.1
theorem dX5_lower_4 : decode cX5_lower 4 = .ok (.aload_n 0, 1) := dTo0_71.1.2.2.1
theorem dX5_lower_5 : decode cX5_lower 5 = .ok (.iload_n 1, 1) := dTo0_71.1.2.2.2.1
theorem dX5_lower_6 : decode cX5_lower 6 = .ok (.invokevirtual 126, 3) := dTo0_71.1.2.2.2.2.1
theorem dX5_lower_9 : decode cX5_lower 9 = .ok (.aload_n 0, 1) := dTo0_71.1.2.2.2.2.2.1
theorem dX5_lower_10 : decode cX5_lower 10 = .ok (.getfield 13, 3) := dTo0_71.1.2.2.2.2.2.2.1
theorem dX5_lower_13 : decode cX5_lower 13 = .ok (.iload_n 1, 1) := dTo0_71.1.2.2.2.2.2.2.2.1
theorem dX5_lower_14 : decode cX5_lower 14 = .ok (.laload, 1) := dTo0_71.1.2.2.2.2.2.2.2.2.1
theorem dX5_lower_15 : decode cX5_lower 15 = .ok (.l2i, 1) := dTo0_71.1.2.2.2.2.2.2.2.2.2.1
theorem dX5_lower_16 : decode cX5_lower 16 = .ok (.ireturn, 1) := dTo0_71.2.1.1
theorem dTo0_72 : dQ cX5_text [[(0, zop27, 0, 0), (1, zop184, 0, 32), (4, zop42, 0, 0), (5, zop180, 0, 9), (8, zop27, 0, 0), (9, zop46, 0, 0), (10, zop184, 0, 129), (13, zop176, 0, 0)]] := dQ_of _ _ (by decide +kernel)
theorem dX5_text_0 : decode cX5_text 0 = .ok (.iload_n 1, 1) := dTo0_72.1.1
theorem dX5_text_1 : decode cX5_text 1 = .ok (.invokestatic 32, 3) := dTo0_72.1.2.1
theorem dX5_text_4 : decode cX5_text 4 = .ok (.aload_n 0, 1) := dTo0_72.1.2.2.1
theorem dX5_text_5 : decode cX5_text 5 = .ok (.getfield 9, 3) := dTo0_72.1.2.2.2.1
theorem dX5_text_8 : decode cX5_text 8 = .ok (.iload_n 1, 1) := dTo0_72.1.2.2.2.2.1
theorem dX5_text_9 : decode cX5_text 9 = .ok (.iaload, 1) := dTo0_72.1.2.2.2.2.2.1
theorem dX5_text_10 : decode cX5_text 10 = .ok (.invokestatic 129, 3) := dTo0_72.1.2.2.2.2.2.2.1
theorem dX5_text_13 : decode cX5_text 13 = .ok (.areturn, 1) := dTo0_72.1.2.2.2.2.2.2.2.1
theorem dTo0_73 : dQ cX5_order [[(0, zop27, 0, 0), (1, zop184, 0, 32), (4, zop28, 0, 0), (5, zop184, 0, 32), (8, zop42, 0, 0), (9, zop180, 0, 9), (12, zop27, 0, 0), (13, zop46, 0, 0), (14, zop42, 0, 0), (15, zop180, 0, 9)], [(18, zop28, 0, 0), (19, zop46, 0, 0), (20, zop184, 0, 133), (23, zop153, 0, 7), (26, zop5, 0, 0), (27, zop167, 0, 9), (30, zop42, 0, 0), (31, zop27, 0, 0), (32, zop28, 0, 0), (33, zop182, 0, 90)], [(36, zop172, 0, 0)]] := dQ_of _ _ (by decide +kernel)
theorem dX5_order_0 : decode cX5_order 0 = .ok (.iload_n 1, 1) := dTo0_73.1.1
theorem dX5_order_1 : decode cX5_order 1 = .ok (.invokestatic 32, 3) := dTo0_73.1.2.1
theorem dX5_order_4 : decode cX5_order 4 = .ok (.iload_n 2, 1) := dTo0_73.1.2.2.1
theorem dX5_order_5 : decode cX5_order 5 = .ok (.invokestatic 32, 3) := dTo0_73.1.2.2.2.1
theorem dX5_order_8 : decode cX5_order 8 = .ok (.aload_n 0, 1) := dTo0_73.1.2.2.2.2.1
theorem dX5_order_9 : decode cX5_order 9 = .ok (.getfield 9, 3) := dTo0_73.1.2.2.2.2.2.1
theorem dX5_order_12 : decode cX5_order 12 = .ok (.iload_n 1, 1) := dTo0_73.1.2.2.2.2.2.2.1
theorem dX5_order_13 : decode cX5_order 13 = .ok (.iaload, 1) := dTo0_73.1.2.2.2.2.2.2.2.1
theorem dX5_order_14 : decode cX5_order 14 = .ok (.aload_n 0, 1) := dTo0_73.1.2.2.2.2.2.2.2.2.1
theorem dX5_order_15 : decode cX5_order 15 = .ok (.getfield 9, 3) := dTo0_73.1.2.2.2.2.2.2.2.2.2.1
theorem dX5_order_18 : decode cX5_order 18 = .ok (.iload_n 2, 1) := dTo0_73.2.1.1
theorem dX5_order_19 : decode cX5_order 19 = .ok (.iaload, 1) := dTo0_73.2.1.2.1
theorem dX5_order_20 : decode cX5_order 20 = .ok (.invokestatic 133, 3) := dTo0_73.2.1.2.2.1
theorem dX5_order_23 : decode cX5_order 23 = .ok (.ifCond .eq 7, 3) := dTo0_73.2.1.2.2.2.1
theorem dX5_order_26 : decode cX5_order 26 = .ok (.iconst 2, 1) := dTo0_73.2.1.2.2.2.2.1
theorem dX5_order_27 : decode cX5_order 27 = .ok (.goto 9, 3) := dTo0_73.2.1.2.2.2.2.2.1
theorem dX5_order_30 : decode cX5_order 30 = .ok (.aload_n 0, 1) := dTo0_73.2.1.2.2.2.2.2.2.1
theorem dX5_order_31 : decode cX5_order 31 = .ok (.iload_n 1, 1) := dTo0_73.2.1.2.2.2.2.2.2.2.1
theorem dX5_order_32 : decode cX5_order 32 = .ok (.iload_n 2, 1) := dTo0_73.2.1.2.2.2.2.2.2.2.2.1
theorem dX5_order_33 : decode cX5_order 33 = .ok (.invokevirtual 90, 3) := dTo0_73.2.1.2.2.2.2.2.2.2.2.2.1
theorem dX5_order_36 : decode cX5_order 36 = .ok (.ireturn, 1) := dTo0_73.2.2.1.1
theorem dTo0_74 : dQ cX5_isAlike [[(0, zop27, 0, 0), (1, zop184, 0, 32), (4, zop28, 0, 0), (5, zop184, 0, 32), (8, zop42, 0, 0), (9, zop180, 0, 9), (12, zop27, 0, 0), (13, zop46, 0, 0), (14, zop42, 0, 0), (15, zop180, 0, 9)], [(18, zop28, 0, 0), (19, zop46, 0, 0), (20, zop160, 0, 7), (23, zop4, 0, 0), (24, zop167, 0, 4), (27, zop3, 0, 0), (28, zop172, 0, 0)]] := dQ_of _ _ (by decide +kernel)
theorem dX5_isAlike_0 : decode cX5_isAlike 0 = .ok (.iload_n 1, 1) := dTo0_74.1.1
theorem dX5_isAlike_1 : decode cX5_isAlike 1 = .ok (.invokestatic 32, 3) := dTo0_74.1.2.1
theorem dX5_isAlike_4 : decode cX5_isAlike 4 = .ok (.iload_n 2, 1) := dTo0_74.1.2.2.1
theorem dX5_isAlike_5 : decode cX5_isAlike 5 = .ok (.invokestatic 32, 3) := dTo0_74.1.2.2.2.1
theorem dX5_isAlike_8 : decode cX5_isAlike 8 = .ok (.aload_n 0, 1) := dTo0_74.1.2.2.2.2.1
theorem dX5_isAlike_9 : decode cX5_isAlike 9 = .ok (.getfield 9, 3) := dTo0_74.1.2.2.2.2.2.1
theorem dX5_isAlike_12 : decode cX5_isAlike 12 = .ok (.iload_n 1, 1) := dTo0_74.1.2.2.2.2.2.2.1
theorem dX5_isAlike_13 : decode cX5_isAlike 13 = .ok (.iaload, 1) := dTo0_74.1.2.2.2.2.2.2.2.1
theorem dX5_isAlike_14 : decode cX5_isAlike 14 = .ok (.aload_n 0, 1) := dTo0_74.1.2.2.2.2.2.2.2.2.1
theorem dX5_isAlike_15 : decode cX5_isAlike 15 = .ok (.getfield 9, 3) := dTo0_74.1.2.2.2.2.2.2.2.2.2.1
theorem dX5_isAlike_18 : decode cX5_isAlike 18 = .ok (.iload_n 2, 1) := dTo0_74.2.1.1
theorem dX5_isAlike_19 : decode cX5_isAlike 19 = .ok (.iaload, 1) := dTo0_74.2.1.2.1
theorem dX5_isAlike_20 : decode cX5_isAlike 20 = .ok (.if_icmp .ne 7, 3) := dTo0_74.2.1.2.2.1
theorem dX5_isAlike_23 : decode cX5_isAlike 23 = .ok (.iconst 1, 1) := dTo0_74.2.1.2.2.2.1
theorem dX5_isAlike_24 : decode cX5_isAlike 24 = .ok (.goto 4, 3) := dTo0_74.2.1.2.2.2.2.1
theorem dX5_isAlike_27 : decode cX5_isAlike 27 = .ok (.iconst 0, 1) := dTo0_74.2.1.2.2.2.2.2.1
theorem dX5_isAlike_28 : decode cX5_isAlike 28 = .ok (.ireturn, 1) := dTo0_74.2.1.2.2.2.2.2.2.1
theorem dTo0_75 : dQ cX5_isNear [[(0, zop27, 0, 0), (1, zop184, 0, 32), (4, zop28, 0, 0), (5, zop184, 0, 32), (8, zop42, 0, 0), (9, zop180, 0, 9), (12, zop27, 0, 0), (13, zop46, 0, 0), (14, zop42, 0, 0), (15, zop180, 0, 9)], [(18, zop28, 0, 0), (19, zop46, 0, 0), (20, zop184, 0, 133), (23, zop172, 0, 0)]] := dQ_of _ _ (by decide +kernel)
theorem dX5_isNear_0 : decode cX5_isNear 0 = .ok (.iload_n 1, 1) := dTo0_75.1.1
theorem dX5_isNear_1 : decode cX5_isNear 1 = .ok (.invokestatic 32, 3) := dTo0_75.1.2.1
theorem dX5_isNear_4 : decode cX5_isNear 4 = .ok (.iload_n 2, 1) := dTo0_75.1.2.2.1
theorem dX5_isNear_5 : decode cX5_isNear 5 = .ok (.invokestatic 32, 3) := dTo0_75.1.2.2.2.1
theorem dX5_isNear_8 : decode cX5_isNear 8 = .ok (.aload_n 0, 1) := dTo0_75.1.2.2.2.2.1
theorem dX5_isNear_9 : decode cX5_isNear 9 = .ok (.getfield 9, 3) := dTo0_75.1.2.2.2.2.2.1
theorem dX5_isNear_12 : decode cX5_isNear 12 = .ok (.iload_n 1, 1) := dTo0_75.1.2.2.2.2.2.2.1
theorem dX5_isNear_13 : decode cX5_isNear 13 = .ok (.iaload, 1) := dTo0_75.1.2.2.2.2.2.2.2.1
theorem dX5_isNear_14 : decode cX5_isNear 14 = .ok (.aload_n 0, 1) := dTo0_75.1.2.2.2.2.2.2.2.2.1
theorem dX5_isNear_15 : decode cX5_isNear 15 = .ok (.getfield 9, 3) := dTo0_75.1.2.2.2.2.2.2.2.2.2.1
theorem dX5_isNear_18 : decode cX5_isNear 18 = .ok (.iload_n 2, 1) := dTo0_75.2.1.1
theorem dX5_isNear_19 : decode cX5_isNear 19 = .ok (.iaload, 1) := dTo0_75.2.1.2.1
theorem dX5_isNear_20 : decode cX5_isNear 20 = .ok (.invokestatic 133, 3) := dTo0_75.2.1.2.2.1
theorem dX5_isNear_23 : decode cX5_isNear 23 = .ok (.ireturn, 1) := dTo0_75.2.1.2.2.2.1
theorem dTo0_76 : dQ cX5_most [[(0, zop27, 0, 0), (1, zop184, 0, 32), (4, zop28, 0, 0), (5, zop184, 0, 32), (8, zop42, 0, 0), (9, zop27, 0, 0), (10, zop28, 0, 0), (11, zop182, 0, 137), (14, zop42, 0, 0), (15, zop180, 0, 9)], [(18, zop27, 0, 0), (19, zop46, 0, 0), (20, zop184, 0, 72), (23, zop184, 0, 140), (26, zop172, 0, 0)]] := dQ_of _ _ (by decide +kernel)
theorem dX5_most_0 : decode cX5_most 0 = .ok (.iload_n 1, 1) := dTo0_76.1.1
theorem dX5_most_1 : decode cX5_most 1 = .ok (.invokestatic 32, 3) := dTo0_76.1.2.1
theorem dX5_most_4 : decode cX5_most 4 = .ok (.iload_n 2, 1) := dTo0_76.1.2.2.1
theorem dX5_most_5 : decode cX5_most 5 = .ok (.invokestatic 32, 3) := dTo0_76.1.2.2.2.1
theorem dX5_most_8 : decode cX5_most 8 = .ok (.aload_n 0, 1) := dTo0_76.1.2.2.2.2.1
theorem dX5_most_9 : decode cX5_most 9 = .ok (.iload_n 1, 1) := dTo0_76.1.2.2.2.2.2.1
theorem dX5_most_10 : decode cX5_most 10 = .ok (.iload_n 2, 1) := dTo0_76.1.2.2.2.2.2.2.1
theorem dX5_most_11 : decode cX5_most 11 = .ok (.invokevirtual 137, 3) := dTo0_76.1.2.2.2.2.2.2.2.1
theorem dX5_most_14 : decode cX5_most 14 = .ok (.aload_n 0, 1) := dTo0_76.1.2.2.2.2.2.2.2.2.1
theorem dX5_most_15 : decode cX5_most 15 = .ok (.getfield 9, 3) := dTo0_76.1.2.2.2.2.2.2.2.2.2.1
theorem dX5_most_18 : decode cX5_most 18 = .ok (.iload_n 1, 1) := dTo0_76.2.1.1
theorem dX5_most_19 : decode cX5_most 19 = .ok (.iaload, 1) := dTo0_76.2.1.2.1
theorem dX5_most_20 : decode cX5_most 20 = .ok (.invokestatic 72, 3) := dTo0_76.2.1.2.2.1
theorem dX5_most_23 : decode cX5_most 23 = .ok (.invokestatic 140, 3) := dTo0_76.2.1.2.2.2.1
theorem dX5_most_26 : decode cX5_most 26 = .ok (.ireturn, 1) := dTo0_76.2.1.2.2.2.2.1
theorem dTo0_77 : dQ cX5_isWithin [[(0, zop27, 0, 0), (1, zop184, 0, 32), (4, zop28, 0, 0), (5, zop184, 0, 32), (8, zop42, 0, 0), (9, zop27, 0, 0), (10, zop28, 0, 0), (11, zop182, 0, 137), (14, zop42, 0, 0), (15, zop180, 0, 9)], [(18, zop27, 0, 0), (19, zop46, 0, 0), (20, zop42, 0, 0), (21, zop180, 0, 9), (24, zop28, 0, 0), (25, zop46, 0, 0), (26, zop184, 0, 143), (29, zop172, 0, 0)]] := dQ_of _ _ (by decide +kernel)
theorem dX5_isWithin_0 : decode cX5_isWithin 0 = .ok (.iload_n 1, 1) := dTo0_77.1.1
theorem dX5_isWithin_1 : decode cX5_isWithin 1 = .ok (.invokestatic 32, 3) := dTo0_77.1.2.1
theorem dX5_isWithin_4 : decode cX5_isWithin 4 = .ok (.iload_n 2, 1) := dTo0_77.1.2.2.1
theorem dX5_isWithin_5 : decode cX5_isWithin 5 = .ok (.invokestatic 32, 3) := dTo0_77.1.2.2.2.1
theorem dX5_isWithin_8 : decode cX5_isWithin 8 = .ok (.aload_n 0, 1) := dTo0_77.1.2.2.2.2.1
theorem dX5_isWithin_9 : decode cX5_isWithin 9 = .ok (.iload_n 1, 1) := dTo0_77.1.2.2.2.2.2.1
theorem dX5_isWithin_10 : decode cX5_isWithin 10 = .ok (.iload_n 2, 1) := dTo0_77.1.2.2.2.2.2.2.1
theorem dX5_isWithin_11 : decode cX5_isWithin 11 = .ok (.invokevirtual 137, 3) := dTo0_77.1.2.2.2.2.2.2.2.1
theorem dX5_isWithin_14 : decode cX5_isWithin 14 = .ok (.aload_n 0, 1) := dTo0_77.1.2.2.2.2.2.2.2.2.1
theorem dX5_isWithin_15 : decode cX5_isWithin 15 = .ok (.getfield 9, 3) := dTo0_77.1.2.2.2.2.2.2.2.2.2.1
theorem dX5_isWithin_18 : decode cX5_isWithin 18 = .ok (.iload_n 1, 1) := dTo0_77.2.1.1
theorem dX5_isWithin_19 : decode cX5_isWithin 19 = .ok (.iaload, 1) := dTo0_77.2.1.2.1
theorem dX5_isWithin_20 : decode cX5_isWithin 20 = .ok (.aload_n 0, 1) := dTo0_77.2.1.2.2.1
theorem dX5_isWithin_21 : decode cX5_isWithin 21 = .ok (.getfield 9, 3) := dTo0_77.2.1.2.2.2.1
theorem dX5_isWithin_24 : decode cX5_isWithin 24 = .ok (.iload_n 2, 1) := dTo0_77.2.1.2.2.2.2.1
theorem dX5_isWithin_25 : decode cX5_isWithin 25 = .ok (.iaload, 1) := dTo0_77.2.1.2.2.2.2.2.1
theorem dX5_isWithin_26 : decode cX5_isWithin 26 = .ok (.invokestatic 143, 3) := dTo0_77.2.1.2.2.2.2.2.2.1
theorem dX5_isWithin_29 : decode cX5_isWithin 29 = .ok (.ireturn, 1) := dTo0_77.2.1.2.2.2.2.2.2.2.1
theorem dTo0_78 : dQ cX5_find [[(0, zop27, 0, 0), (1, zop184, 0, 32), (4, zop27, 0, 0), (5, zop62, 0, 0), (6, zop3, 0, 0), (7, zop54, 4, 0), (9, zop21, 4, 0), (11, zop16, 8, 0), (13, zop162, 0, 47), (16, zop42, 0, 0)], [(17, zop180, 0, 9), (20, zop21, 4, 0), (22, zop46, 0, 0), (23, zop42, 0, 0), (24, zop180, 0, 9), (27, zop27, 0, 0), (28, zop46, 0, 0), (29, zop160, 0, 25), (32, zop28, 0, 0), (33, zop153, 0, 12)], [(36, zop21, 4, 0), (38, zop29, 0, 0), (39, zop164, 0, 15), (42, zop167, 0, 9), (45, zop21, 4, 0), (47, zop29, 0, 0), (48, zop162, 0, 6), (51, zop21, 4, 0), (53, zop62, 0, 0), (54, zop132, 4, 1)], [(57, zop167, 255, 208), (60, zop29, 0, 0), (61, zop172, 0, 0)]] := dQ_of _ _ (by decide +kernel)
theorem dX5_find_0 : decode cX5_find 0 = .ok (.iload_n 1, 1) := dTo0_78.1.1
theorem dX5_find_1 : decode cX5_find 1 = .ok (.invokestatic 32, 3) := dTo0_78.1.2.1
theorem dX5_find_4 : decode cX5_find 4 = .ok (.iload_n 1, 1) := dTo0_78.1.2.2.1
theorem dX5_find_5 : decode cX5_find 5 = .ok (.istore_n 3, 1) := dTo0_78.1.2.2.2.1
theorem dX5_find_6 : decode cX5_find 6 = .ok (.iconst 0, 1) := dTo0_78.1.2.2.2.2.1
theorem dX5_find_7 : decode cX5_find 7 = .ok (.istore 4, 2) := dTo0_78.1.2.2.2.2.2.1
theorem dX5_find_9 : decode cX5_find 9 = .ok (.iload 4, 2) := dTo0_78.1.2.2.2.2.2.2.1
theorem dX5_find_11 : decode cX5_find 11 = .ok (.bipush 8, 2) := dTo0_78.1.2.2.2.2.2.2.2.1
theorem dX5_find_13 : decode cX5_find 13 = .ok (.if_icmp .ge 47, 3) := dTo0_78.1.2.2.2.2.2.2.2.2.1
theorem dX5_find_16 : decode cX5_find 16 = .ok (.aload_n 0, 1) := dTo0_78.1.2.2.2.2.2.2.2.2.2.1
theorem dX5_find_17 : decode cX5_find 17 = .ok (.getfield 9, 3) := dTo0_78.2.1.1
theorem dX5_find_20 : decode cX5_find 20 = .ok (.iload 4, 2) := dTo0_78.2.1.2.1
theorem dX5_find_22 : decode cX5_find 22 = .ok (.iaload, 1) := dTo0_78.2.1.2.2.1
theorem dX5_find_23 : decode cX5_find 23 = .ok (.aload_n 0, 1) := dTo0_78.2.1.2.2.2.1
theorem dX5_find_24 : decode cX5_find 24 = .ok (.getfield 9, 3) := dTo0_78.2.1.2.2.2.2.1
theorem dX5_find_27 : decode cX5_find 27 = .ok (.iload_n 1, 1) := dTo0_78.2.1.2.2.2.2.2.1
theorem dX5_find_28 : decode cX5_find 28 = .ok (.iaload, 1) := dTo0_78.2.1.2.2.2.2.2.2.1
theorem dX5_find_29 : decode cX5_find 29 = .ok (.if_icmp .ne 25, 3) := dTo0_78.2.1.2.2.2.2.2.2.2.1
theorem dX5_find_32 : decode cX5_find 32 = .ok (.iload_n 2, 1) := dTo0_78.2.1.2.2.2.2.2.2.2.2.1
theorem dX5_find_33 : decode cX5_find 33 = .ok (.ifCond .eq 12, 3) := dTo0_78.2.1.2.2.2.2.2.2.2.2.2.1
theorem dX5_find_36 : decode cX5_find 36 = .ok (.iload 4, 2) := dTo0_78.2.2.1.1
theorem dX5_find_38 : decode cX5_find 38 = .ok (.iload_n 3, 1) := dTo0_78.2.2.1.2.1
theorem dX5_find_39 : decode cX5_find 39 = .ok (.if_icmp .le 15, 3) := dTo0_78.2.2.1.2.2.1
theorem dX5_find_42 : decode cX5_find 42 = .ok (.goto 9, 3) := dTo0_78.2.2.1.2.2.2.1
theorem dX5_find_45 : decode cX5_find 45 = .ok (.iload 4, 2) := dTo0_78.2.2.1.2.2.2.2.1
theorem dX5_find_47 : decode cX5_find 47 = .ok (.iload_n 3, 1) := dTo0_78.2.2.1.2.2.2.2.2.1
theorem dX5_find_48 : decode cX5_find 48 = .ok (.if_icmp .ge 6, 3) := dTo0_78.2.2.1.2.2.2.2.2.2.1
theorem dX5_find_51 : decode cX5_find 51 = .ok (.iload 4, 2) := dTo0_78.2.2.1.2.2.2.2.2.2.2.1
theorem dX5_find_53 : decode cX5_find 53 = .ok (.istore_n 3, 1) := dTo0_78.2.2.1.2.2.2.2.2.2.2.2.1
theorem dX5_find_54 : decode cX5_find 54 = .ok (.iinc 4 1, 3) := dTo0_78.2.2.1.2.2.2.2.2.2.2.2.2.1
theorem dX5_find_57 : decode cX5_find 57 = .ok (.goto (-48), 3) := dTo0_78.2.2.2.1.1
theorem dX5_find_60 : decode cX5_find 60 = .ok (.iload_n 3, 1) := dTo0_78.2.2.2.1.2.1
theorem dX5_find_61 : decode cX5_find 61 = .ok (.ireturn, 1) := dTo0_78.2.2.2.1.2.2.1
theorem dTo0_79 : dQ cX5_rank [[(0, zop27, 0, 0), (1, zop184, 0, 32), (4, zop3, 0, 0), (5, zop61, 0, 0), (6, zop3, 0, 0), (7, zop62, 0, 0), (8, zop29, 0, 0), (9, zop16, 8, 0), (11, zop162, 0, 21), (14, zop42, 0, 0)], [(15, zop29, 0, 0), (16, zop27, 0, 0), (17, zop182, 0, 90), (20, zop156, 0, 6), (23, zop132, 2, 1), (26, zop132, 3, 1), (29, zop167, 255, 235), (32, zop28, 0, 0), (33, zop172, 0, 0)]] := dQ_of _ _ (by decide +kernel)
theorem dX5_rank_0 : decode cX5_rank 0 = .ok (.iload_n 1, 1) := dTo0_79.1.1
theorem dX5_rank_1 : decode cX5_rank 1 = .ok (.invokestatic 32, 3) := dTo0_79.1.2.1
theorem dX5_rank_4 : decode cX5_rank 4 = .ok (.iconst 0, 1) := dTo0_79.1.2.2.1
theorem dX5_rank_5 : decode cX5_rank 5 = .ok (.istore_n 2, 1) := dTo0_79.1.2.2.2.1
theorem dX5_rank_6 : decode cX5_rank 6 = .ok (.iconst 0, 1) := dTo0_79.1.2.2.2.2.1
theorem dX5_rank_7 : decode cX5_rank 7 = .ok (.istore_n 3, 1) := dTo0_79.1.2.2.2.2.2.1
theorem dX5_rank_8 : decode cX5_rank 8 = .ok (.iload_n 3, 1) := dTo0_79.1.2.2.2.2.2.2.1
theorem dX5_rank_9 : decode cX5_rank 9 = .ok (.bipush 8, 2) := dTo0_79.1.2.2.2.2.2.2.2.1
theorem dX5_rank_11 : decode cX5_rank 11 = .ok (.if_icmp .ge 21, 3) := dTo0_79.1.2.2.2.2.2.2.2.2.1
theorem dX5_rank_14 : decode cX5_rank 14 = .ok (.aload_n 0, 1) := dTo0_79.1.2.2.2.2.2.2.2.2.2.1
theorem dX5_rank_15 : decode cX5_rank 15 = .ok (.iload_n 3, 1) := dTo0_79.2.1.1
theorem dX5_rank_16 : decode cX5_rank 16 = .ok (.iload_n 1, 1) := dTo0_79.2.1.2.1
theorem dX5_rank_17 : decode cX5_rank 17 = .ok (.invokevirtual 90, 3) := dTo0_79.2.1.2.2.1
theorem dX5_rank_20 : decode cX5_rank 20 = .ok (.ifCond .ge 6, 3) := dTo0_79.2.1.2.2.2.1
theorem dX5_rank_23 : decode cX5_rank 23 = .ok (.iinc 2 1, 3) := dTo0_79.2.1.2.2.2.2.1
theorem dX5_rank_26 : decode cX5_rank 26 = .ok (.iinc 3 1, 3) := dTo0_79.2.1.2.2.2.2.2.1
theorem dX5_rank_29 : decode cX5_rank 29 = .ok (.goto (-21), 3) := dTo0_79.2.1.2.2.2.2.2.2.1
theorem dX5_rank_32 : decode cX5_rank 32 = .ok (.iload_n 2, 1) := dTo0_79.2.1.2.2.2.2.2.2.2.1
theorem dX5_rank_33 : decode cX5_rank 33 = .ok (.ireturn, 1) := dTo0_79.2.1.2.2.2.2.2.2.2.2.1
theorem dTo0_80 : dQ cX5_before [[(0, zop28, 0, 0), (1, zop184, 0, 32), (4, zop27, 0, 0), (5, zop184, 0, 146), (8, zop27, 0, 0), (9, zop42, 0, 0), (10, zop180, 0, 13), (13, zop28, 0, 0), (14, zop47, 0, 0), (15, zop184, 0, 149)], [(18, zop172, 0, 0)]] := dQ_of _ _ (by decide +kernel)
theorem dX5_before_0 : decode cX5_before 0 = .ok (.iload_n 2, 1) := dTo0_80.1.1
theorem dX5_before_1 : decode cX5_before 1 = .ok (.invokestatic 32, 3) := dTo0_80.1.2.1
theorem dX5_before_4 : decode cX5_before 4 = .ok (.iload_n 1, 1) := dTo0_80.1.2.2.1
theorem dX5_before_5 : decode cX5_before 5 = .ok (.invokestatic 146, 3) := dTo0_80.1.2.2.2.1
theorem dX5_before_8 : decode cX5_before 8 = .ok (.iload_n 1, 1) := dTo0_80.1.2.2.2.2.1
theorem dX5_before_9 : decode cX5_before 9 = .ok (.aload_n 0, 1) := dTo0_80.1.2.2.2.2.2.1
theorem dX5_before_10 : decode cX5_before 10 = .ok (.getfield 13, 3) := dTo0_80.1.2.2.2.2.2.2.1
theorem dX5_before_13 : decode cX5_before 13 = .ok (.iload_n 2, 1) := dTo0_80.1.2.2.2.2.2.2.2.1
theorem dX5_before_14 : decode cX5_before 14 = .ok (.laload, 1) := dTo0_80.1.2.2.2.2.2.2.2.2.1
theorem dX5_before_15 : decode cX5_before 15 = .ok (.invokestatic 149, 3) := dTo0_80.1.2.2.2.2.2.2.2.2.2.1
theorem dX5_before_18 : decode cX5_before 18 = .ok (.ireturn, 1) := dTo0_80.2.1.1
theorem dTo0_81 : dQ cX5_answer [[(0, zop27, 0, 0), (1, zop4, 0, 0), (2, zop6, 0, 0), (3, zop184, 0, 36), (6, zop28, 0, 0), (7, zop27, 0, 0), (8, zop184, 0, 155), (11, zop27, 0, 0), (12, zop184, 0, 158), (15, zop184, 0, 36)], [(18, zop29, 0, 0), (19, zop16, 194, 0), (21, zop16, 90, 0), (23, zop184, 0, 36), (26, zop27, 0, 0), (27, zop28, 0, 0), (28, zop184, 0, 161), (31, zop29, 0, 0), (32, zop184, 0, 109), (35, zop184, 0, 113)], [(38, zop172, 0, 0)]] := dQ_of _ _ (by decide +kernel)
theorem dX5_answer_0 : decode cX5_answer 0 = .ok (.iload_n 1, 1) := dTo0_81.1.1
theorem dX5_answer_1 : decode cX5_answer 1 = .ok (.iconst 1, 1) := dTo0_81.1.2.1
theorem dX5_answer_2 : decode cX5_answer 2 = .ok (.iconst 3, 1) := dTo0_81.1.2.2.1
theorem dX5_answer_3 : decode cX5_answer 3 = .ok (.invokestatic 36, 3) := dTo0_81.1.2.2.2.1
theorem dX5_answer_6 : decode cX5_answer 6 = .ok (.iload_n 2, 1) := dTo0_81.1.2.2.2.2.1
theorem dX5_answer_7 : decode cX5_answer 7 = .ok (.iload_n 1, 1) := dTo0_81.1.2.2.2.2.2.1
theorem dX5_answer_8 : decode cX5_answer 8 = .ok (.invokestatic 155, 3) := dTo0_81.1.2.2.2.2.2.2.1
theorem dX5_answer_11 : decode cX5_answer 11 = .ok (.iload_n 1, 1) := dTo0_81.1.2.2.2.2.2.2.2.1
theorem dX5_answer_12 : decode cX5_answer 12 = .ok (.invokestatic 158, 3) := dTo0_81.1.2.2.2.2.2.2.2.2.1
theorem dX5_answer_15 : decode cX5_answer 15 = .ok (.invokestatic 36, 3) := dTo0_81.1.2.2.2.2.2.2.2.2.2.1
theorem dX5_answer_18 : decode cX5_answer 18 = .ok (.iload_n 3, 1) := dTo0_81.2.1.1
theorem dX5_answer_19 : decode cX5_answer 19 = .ok (.bipush (-62), 2) := dTo0_81.2.1.2.1
theorem dX5_answer_21 : decode cX5_answer 21 = .ok (.bipush 90, 2) := dTo0_81.2.1.2.2.1
theorem dX5_answer_23 : decode cX5_answer 23 = .ok (.invokestatic 36, 3) := dTo0_81.2.1.2.2.2.1
theorem dX5_answer_26 : decode cX5_answer 26 = .ok (.iload_n 1, 1) := dTo0_81.2.1.2.2.2.2.1
theorem dX5_answer_27 : decode cX5_answer 27 = .ok (.iload_n 2, 1) := dTo0_81.2.1.2.2.2.2.2.1
theorem dX5_answer_28 : decode cX5_answer 28 = .ok (.invokestatic 161, 3) := dTo0_81.2.1.2.2.2.2.2.2.1
theorem dX5_answer_31 : decode cX5_answer 31 = .ok (.iload_n 3, 1) := dTo0_81.2.1.2.2.2.2.2.2.2.1
theorem dX5_answer_32 : decode cX5_answer 32 = .ok (.invokestatic 109, 3) := dTo0_81.2.1.2.2.2.2.2.2.2.2.1
theorem dX5_answer_35 : decode cX5_answer 35 = .ok (.invokestatic 113, 3) := dTo0_81.2.1.2.2.2.2.2.2.2.2.2.1
theorem dX5_answer_38 : decode cX5_answer 38 = .ok (.ireturn, 1) := dTo0_81.2.2.1.1
theorem dTo0_82 : dQ cX5_below [[(0, zop27, 0, 0), (1, zop184, 0, 146), (4, zop29, 0, 0), (5, zop16, 194, 0), (7, zop16, 90, 0), (9, zop184, 0, 36), (12, zop27, 0, 0), (13, zop28, 0, 0), (14, zop154, 0, 9), (17, zop20, 0, 165)], [(20, zop167, 0, 9), (23, zop28, 0, 0), (24, zop133, 0, 0), (25, zop29, 0, 0), (26, zop184, 0, 167), (29, zop184, 0, 149), (32, zop172, 0, 0)]] := dQ_of _ _ (by decide +kernel)
theorem dX5_below_0 : decode cX5_below 0 = .ok (.iload_n 1, 1) := dTo0_82.1.1
theorem dX5_below_1 : decode cX5_below 1 = .ok (.invokestatic 146, 3) := dTo0_82.1.2.1
theorem dX5_below_4 : decode cX5_below 4 = .ok (.iload_n 3, 1) := dTo0_82.1.2.2.1
theorem dX5_below_5 : decode cX5_below 5 = .ok (.bipush (-62), 2) := dTo0_82.1.2.2.2.1
theorem dX5_below_7 : decode cX5_below 7 = .ok (.bipush 90, 2) := dTo0_82.1.2.2.2.2.1
theorem dX5_below_9 : decode cX5_below 9 = .ok (.invokestatic 36, 3) := dTo0_82.1.2.2.2.2.2.1
theorem dX5_below_12 : decode cX5_below 12 = .ok (.iload_n 1, 1) := dTo0_82.1.2.2.2.2.2.2.1
theorem dX5_below_13 : decode cX5_below 13 = .ok (.iload_n 2, 1) := dTo0_82.1.2.2.2.2.2.2.2.1
theorem dX5_below_14 : decode cX5_below 14 = .ok (.ifCond .ne 9, 3) := dTo0_82.1.2.2.2.2.2.2.2.2.1
theorem dX5_below_17 : decode cX5_below 17 = .ok (.ldc2_w 165, 3) := dTo0_82.1.2.2.2.2.2.2.2.2.2.1
theorem dX5_below_20 : decode cX5_below 20 = .ok (.goto 9, 3) := dTo0_82.2.1.1
theorem dX5_below_23 : decode cX5_below 23 = .ok (.iload_n 2, 1) := dTo0_82.2.1.2.1
theorem dX5_below_24 : decode cX5_below 24 = .ok (.i2l, 1) := dTo0_82.2.1.2.2.1
theorem dX5_below_25 : decode cX5_below 25 = .ok (.iload_n 3, 1) := dTo0_82.2.1.2.2.2.1
theorem dX5_below_26 : decode cX5_below 26 = .ok (.invokestatic 167, 3) := dTo0_82.2.1.2.2.2.2.1
theorem dX5_below_29 : decode cX5_below 29 = .ok (.invokestatic 149, 3) := dTo0_82.2.1.2.2.2.2.2.1
theorem dX5_below_32 : decode cX5_below 32 = .ok (.ireturn, 1) := dTo0_82.2.1.2.2.2.2.2.2.1
theorem dTo0_83 : dQ cX5_rises [[(0, zop27, 0, 0), (1, zop184, 0, 146), (4, zop28, 0, 0), (5, zop27, 0, 0), (6, zop184, 0, 155), (9, zop27, 0, 0), (10, zop184, 0, 158), (13, zop184, 0, 36), (16, zop29, 0, 0), (17, zop28, 0, 0)], [(18, zop27, 0, 0), (19, zop184, 0, 158), (22, zop184, 0, 36), (25, zop28, 0, 0), (26, zop54, 4, 0), (28, zop21, 4, 0), (30, zop29, 0, 0), (31, zop162, 0, 31), (34, zop27, 0, 0), (35, zop21, 4, 0)], [(37, zop184, 0, 161), (40, zop27, 0, 0), (41, zop21, 4, 0), (43, zop4, 0, 0), (44, zop96, 0, 0), (45, zop184, 0, 161), (48, zop184, 0, 170), (51, zop155, 0, 5), (54, zop3, 0, 0), (55, zop172, 0, 0)], [(56, zop132, 4, 1), (59, zop167, 255, 225), (62, zop4, 0, 0), (63, zop172, 0, 0)]] := dQ_of _ _ (by decide +kernel)
theorem dX5_rises_0 : decode cX5_rises 0 = .ok (.iload_n 1, 1) := dTo0_83.1.1
theorem dX5_rises_1 : decode cX5_rises 1 = .ok (.invokestatic 146, 3) := dTo0_83.1.2.1
theorem dX5_rises_4 : decode cX5_rises 4 = .ok (.iload_n 2, 1) := dTo0_83.1.2.2.1
theorem dX5_rises_5 : decode cX5_rises 5 = .ok (.iload_n 1, 1) := dTo0_83.1.2.2.2.1
theorem dX5_rises_6 : decode cX5_rises 6 = .ok (.invokestatic 155, 3) := dTo0_83.1.2.2.2.2.1
theorem dX5_rises_9 : decode cX5_rises 9 = .ok (.iload_n 1, 1) := dTo0_83.1.2.2.2.2.2.1
theorem dX5_rises_10 : decode cX5_rises 10 = .ok (.invokestatic 158, 3) := dTo0_83.1.2.2.2.2.2.2.1
theorem dX5_rises_13 : decode cX5_rises 13 = .ok (.invokestatic 36, 3) := dTo0_83.1.2.2.2.2.2.2.2.1
theorem dX5_rises_16 : decode cX5_rises 16 = .ok (.iload_n 3, 1) := dTo0_83.1.2.2.2.2.2.2.2.2.1
theorem dX5_rises_17 : decode cX5_rises 17 = .ok (.iload_n 2, 1) := dTo0_83.1.2.2.2.2.2.2.2.2.2.1
theorem dX5_rises_18 : decode cX5_rises 18 = .ok (.iload_n 1, 1) := dTo0_83.2.1.1
theorem dX5_rises_19 : decode cX5_rises 19 = .ok (.invokestatic 158, 3) := dTo0_83.2.1.2.1
theorem dX5_rises_22 : decode cX5_rises 22 = .ok (.invokestatic 36, 3) := dTo0_83.2.1.2.2.1
theorem dX5_rises_25 : decode cX5_rises 25 = .ok (.iload_n 2, 1) := dTo0_83.2.1.2.2.2.1
theorem dX5_rises_26 : decode cX5_rises 26 = .ok (.istore 4, 2) := dTo0_83.2.1.2.2.2.2.1
theorem dX5_rises_28 : decode cX5_rises 28 = .ok (.iload 4, 2) := dTo0_83.2.1.2.2.2.2.2.1
theorem dX5_rises_30 : decode cX5_rises 30 = .ok (.iload_n 3, 1) := dTo0_83.2.1.2.2.2.2.2.2.1
theorem dX5_rises_31 : decode cX5_rises 31 = .ok (.if_icmp .ge 31, 3) := dTo0_83.2.1.2.2.2.2.2.2.2.1
theorem dX5_rises_34 : decode cX5_rises 34 = .ok (.iload_n 1, 1) := dTo0_83.2.1.2.2.2.2.2.2.2.2.1
theorem dX5_rises_35 : decode cX5_rises 35 = .ok (.iload 4, 2) := dTo0_83.2.1.2.2.2.2.2.2.2.2.2.1
theorem dX5_rises_37 : decode cX5_rises 37 = .ok (.invokestatic 161, 3) := dTo0_83.2.2.1.1
theorem dX5_rises_40 : decode cX5_rises 40 = .ok (.iload_n 1, 1) := dTo0_83.2.2.1.2.1
theorem dX5_rises_41 : decode cX5_rises 41 = .ok (.iload 4, 2) := dTo0_83.2.2.1.2.2.1
theorem dX5_rises_43 : decode cX5_rises 43 = .ok (.iconst 1, 1) := dTo0_83.2.2.1.2.2.2.1
theorem dX5_rises_44 : decode cX5_rises 44 = .ok (.iadd, 1) := dTo0_83.2.2.1.2.2.2.2.1
theorem dX5_rises_45 : decode cX5_rises 45 = .ok (.invokestatic 161, 3) := dTo0_83.2.2.1.2.2.2.2.2.1
theorem dX5_rises_48 : decode cX5_rises 48 = .ok (.invokestatic 170, 3) := dTo0_83.2.2.1.2.2.2.2.2.2.1
theorem dX5_rises_51 : decode cX5_rises 51 = .ok (.ifCond .lt 5, 3) := dTo0_83.2.2.1.2.2.2.2.2.2.2.1
theorem dX5_rises_54 : decode cX5_rises 54 = .ok (.iconst 0, 1) := dTo0_83.2.2.1.2.2.2.2.2.2.2.2.1
theorem dX5_rises_55 : decode cX5_rises 55 = .ok (.ireturn, 1) := dTo0_83.2.2.1.2.2.2.2.2.2.2.2.2.1
theorem dX5_rises_56 : decode cX5_rises 56 = .ok (.iinc 4 1, 3) := dTo0_83.2.2.2.1.1
theorem dX5_rises_59 : decode cX5_rises 59 = .ok (.goto (-31), 3) := dTo0_83.2.2.2.1.2.1
theorem dX5_rises_62 : decode cX5_rises 62 = .ok (.iconst 1, 1) := dTo0_83.2.2.2.1.2.2.1
theorem dX5_rises_63 : decode cX5_rises 63 = .ok (.ireturn, 1) := dTo0_83.2.2.2.1.2.2.2.1
theorem dTo0_84 : dQ cX5_between [[(0, zop27, 0, 0), (1, zop5, 0, 0), (2, zop184, 0, 155), (5, zop5, 0, 0), (6, zop184, 0, 158), (9, zop184, 0, 36), (12, zop27, 0, 0), (13, zop184, 0, 174), (16, zop172, 0, 0)]] := dQ_of _ _ (by decide +kernel)
theorem dX5_between_0 : decode cX5_between 0 = .ok (.iload_n 1, 1) := dTo0_84.1.1
theorem dX5_between_1 : decode cX5_between 1 = .ok (.iconst 2, 1) := dTo0_84.1.2.1
theorem dX5_between_2 : decode cX5_between 2 = .ok (.invokestatic 155, 3) := dTo0_84.1.2.2.1
theorem dX5_between_5 : decode cX5_between 5 = .ok (.iconst 2, 1) := dTo0_84.1.2.2.2.1
theorem dX5_between_6 : decode cX5_between 6 = .ok (.invokestatic 158, 3) := dTo0_84.1.2.2.2.2.1
theorem dX5_between_9 : decode cX5_between 9 = .ok (.invokestatic 36, 3) := dTo0_84.1.2.2.2.2.2.1
theorem dX5_between_12 : decode cX5_between 12 = .ok (.iload_n 1, 1) := dTo0_84.1.2.2.2.2.2.2.1
theorem dX5_between_13 : decode cX5_between 13 = .ok (.invokestatic 174, 3) := dTo0_84.1.2.2.2.2.2.2.2.1
theorem dX5_between_16 : decode cX5_between 16 = .ok (.ireturn, 1) := dTo0_84.1.2.2.2.2.2.2.2.2.1
theorem dTo0_85 : dQ cX5_lies [[(0, zop27, 0, 0), (1, zop6, 0, 0), (2, zop184, 0, 155), (5, zop6, 0, 0), (6, zop184, 0, 158), (9, zop184, 0, 36), (12, zop27, 0, 0), (13, zop184, 0, 177), (16, zop172, 0, 0)]] := dQ_of _ _ (by decide +kernel)
theorem dX5_lies_0 : decode cX5_lies 0 = .ok (.iload_n 1, 1) := dTo0_85.1.1
theorem dX5_lies_1 : decode cX5_lies 1 = .ok (.iconst 3, 1) := dTo0_85.1.2.1
theorem dX5_lies_2 : decode cX5_lies 2 = .ok (.invokestatic 155, 3) := dTo0_85.1.2.2.1
theorem dX5_lies_5 : decode cX5_lies 5 = .ok (.iconst 3, 1) := dTo0_85.1.2.2.2.1
theorem dX5_lies_6 : decode cX5_lies 6 = .ok (.invokestatic 158, 3) := dTo0_85.1.2.2.2.2.1
theorem dX5_lies_9 : decode cX5_lies 9 = .ok (.invokestatic 36, 3) := dTo0_85.1.2.2.2.2.2.1
theorem dX5_lies_12 : decode cX5_lies 12 = .ok (.iload_n 1, 1) := dTo0_85.1.2.2.2.2.2.2.1
theorem dX5_lies_13 : decode cX5_lies 13 = .ok (.invokestatic 177, 3) := dTo0_85.1.2.2.2.2.2.2.2.1
theorem dX5_lies_16 : decode cX5_lies 16 = .ok (.ireturn, 1) := dTo0_85.1.2.2.2.2.2.2.2.2.1
theorem dTo0_86 : dQ cX5_undone [[(0, zop27, 0, 0), (1, zop16, 252, 0), (3, zop17, 0, 144), (6, zop184, 0, 36), (9, zop5, 0, 0), (10, zop27, 0, 0), (11, zop184, 0, 40), (14, zop184, 0, 87), (17, zop61, 0, 0), (18, zop6, 0, 0)], [(19, zop28, 0, 0), (20, zop184, 0, 87), (23, zop62, 0, 0), (24, zop29, 0, 0), (25, zop2, 0, 0), (26, zop159, 0, 22), (29, zop29, 0, 0), (30, zop184, 0, 26), (33, zop27, 0, 0), (34, zop184, 0, 40)], [(37, zop184, 0, 26), (40, zop148, 0, 0), (41, zop154, 0, 7), (44, zop4, 0, 0), (45, zop167, 0, 4), (48, zop3, 0, 0), (49, zop172, 0, 0)]] := dQ_of _ _ (by decide +kernel)
theorem dX5_undone_0 : decode cX5_undone 0 = .ok (.iload_n 1, 1) := dTo0_86.1.1
theorem dX5_undone_1 : decode cX5_undone 1 = .ok (.bipush (-4), 2) := dTo0_86.1.2.1
theorem dX5_undone_3 : decode cX5_undone 3 = .ok (.sipush 144, 3) := dTo0_86.1.2.2.1
theorem dX5_undone_6 : decode cX5_undone 6 = .ok (.invokestatic 36, 3) := dTo0_86.1.2.2.2.1
theorem dX5_undone_9 : decode cX5_undone 9 = .ok (.iconst 2, 1) := dTo0_86.1.2.2.2.2.1
theorem dX5_undone_10 : decode cX5_undone 10 = .ok (.iload_n 1, 1) := dTo0_86.1.2.2.2.2.2.1
theorem dX5_undone_11 : decode cX5_undone 11 = .ok (.invokestatic 40, 3) := dTo0_86.1.2.2.2.2.2.2.1
theorem dX5_undone_14 : decode cX5_undone 14 = .ok (.invokestatic 87, 3) := dTo0_86.1.2.2.2.2.2.2.2.1
theorem dX5_undone_17 : decode cX5_undone 17 = .ok (.istore_n 2, 1) := dTo0_86.1.2.2.2.2.2.2.2.2.1
theorem dX5_undone_18 : decode cX5_undone 18 = .ok (.iconst 3, 1) := dTo0_86.1.2.2.2.2.2.2.2.2.2.1
theorem dX5_undone_19 : decode cX5_undone 19 = .ok (.iload_n 2, 1) := dTo0_86.2.1.1
theorem dX5_undone_20 : decode cX5_undone 20 = .ok (.invokestatic 87, 3) := dTo0_86.2.1.2.1
theorem dX5_undone_23 : decode cX5_undone 23 = .ok (.istore_n 3, 1) := dTo0_86.2.1.2.2.1
theorem dX5_undone_24 : decode cX5_undone 24 = .ok (.iload_n 3, 1) := dTo0_86.2.1.2.2.2.1
theorem dX5_undone_25 : decode cX5_undone 25 = .ok (.iconst (-1), 1) := dTo0_86.2.1.2.2.2.2.1
theorem dX5_undone_26 : decode cX5_undone 26 = .ok (.if_icmp .eq 22, 3) := dTo0_86.2.1.2.2.2.2.2.1
theorem dX5_undone_29 : decode cX5_undone 29 = .ok (.iload_n 3, 1) := dTo0_86.2.1.2.2.2.2.2.2.1
theorem dX5_undone_30 : decode cX5_undone 30 = .ok (.invokestatic 26, 3) := dTo0_86.2.1.2.2.2.2.2.2.2.1
theorem dX5_undone_33 : decode cX5_undone 33 = .ok (.iload_n 1, 1) := dTo0_86.2.1.2.2.2.2.2.2.2.2.1
theorem dX5_undone_34 : decode cX5_undone 34 = .ok (.invokestatic 40, 3) := dTo0_86.2.1.2.2.2.2.2.2.2.2.2.1
theorem dX5_undone_37 : decode cX5_undone 37 = .ok (.invokestatic 26, 3) := dTo0_86.2.2.1.1
theorem dX5_undone_40 : decode cX5_undone 40 = .ok (.lcmp, 1) := dTo0_86.2.2.1.2.1
theorem dX5_undone_41 : decode cX5_undone 41 = .ok (.ifCond .ne 7, 3) := dTo0_86.2.2.1.2.2.1
theorem dX5_undone_44 : decode cX5_undone 44 = .ok (.iconst 1, 1) := dTo0_86.2.2.1.2.2.2.1
theorem dX5_undone_45 : decode cX5_undone 45 = .ok (.goto 4, 3) := dTo0_86.2.2.1.2.2.2.2.1
theorem dX5_undone_48 : decode cX5_undone 48 = .ok (.iconst 0, 1) := dTo0_86.2.2.1.2.2.2.2.2.1
theorem dX5_undone_49 : decode cX5_undone 49 = .ok (.ireturn, 1) := dTo0_86.2.2.1.2.2.2.2.2.2.1
theorem dTo0_87 : dQ cX5_comesBack [[(0, zop27, 0, 0), (1, zop16, 224, 0), (3, zop16, 251, 0), (5, zop184, 0, 36), (8, zop8, 0, 0), (9, zop27, 0, 0), (10, zop184, 0, 180), (13, zop27, 0, 0), (14, zop184, 0, 40), (17, zop184, 0, 143)], [(20, zop172, 0, 0)]] := dQ_of _ _ (by decide +kernel)
theorem dX5_comesBack_0 : decode cX5_comesBack 0 = .ok (.iload_n 1, 1) := dTo0_87.1.1
theorem dX5_comesBack_1 : decode cX5_comesBack 1 = .ok (.bipush (-32), 2) := dTo0_87.1.2.1
theorem dX5_comesBack_3 : decode cX5_comesBack 3 = .ok (.bipush (-5), 2) := dTo0_87.1.2.2.1
theorem dX5_comesBack_5 : decode cX5_comesBack 5 = .ok (.invokestatic 36, 3) := dTo0_87.1.2.2.2.1
theorem dX5_comesBack_8 : decode cX5_comesBack 8 = .ok (.iconst 5, 1) := dTo0_87.1.2.2.2.2.1
theorem dX5_comesBack_9 : decode cX5_comesBack 9 = .ok (.iload_n 1, 1) := dTo0_87.1.2.2.2.2.2.1
theorem dX5_comesBack_10 : decode cX5_comesBack 10 = .ok (.invokestatic 180, 3) := dTo0_87.1.2.2.2.2.2.2.1
theorem dX5_comesBack_13 : decode cX5_comesBack 13 = .ok (.iload_n 1, 1) := dTo0_87.1.2.2.2.2.2.2.2.1
theorem dX5_comesBack_14 : decode cX5_comesBack 14 = .ok (.invokestatic 40, 3) := dTo0_87.1.2.2.2.2.2.2.2.2.1
theorem dX5_comesBack_17 : decode cX5_comesBack 17 = .ok (.invokestatic 143, 3) := dTo0_87.1.2.2.2.2.2.2.2.2.2.1
theorem dX5_comesBack_20 : decode cX5_comesBack 20 = .ok (.ireturn, 1) := dTo0_87.2.1.1
theorem dTo0_88 : dQ cX5_comesForth [[(0, zop27, 0, 0), (1, zop6, 0, 0), (2, zop184, 0, 155), (5, zop6, 0, 0), (6, zop184, 0, 158), (9, zop184, 0, 36), (12, zop6, 0, 0), (13, zop27, 0, 0), (14, zop184, 0, 40), (17, zop184, 0, 87)], [(20, zop61, 0, 0), (21, zop5, 0, 0), (22, zop28, 0, 0), (23, zop184, 0, 87), (26, zop62, 0, 0), (27, zop29, 0, 0), (28, zop2, 0, 0), (29, zop159, 0, 28), (32, zop29, 0, 0), (33, zop184, 0, 26)], [(36, zop27, 0, 0), (37, zop184, 0, 40), (40, zop184, 0, 26), (43, zop184, 0, 183), (46, zop20, 0, 187), (49, zop148, 0, 0), (50, zop157, 0, 7), (53, zop4, 0, 0), (54, zop167, 0, 4), (57, zop3, 0, 0)], [(58, zop172, 0, 0)]] := dQ_of _ _ (by decide +kernel)
theorem dX5_comesForth_0 : decode cX5_comesForth 0 = .ok (.iload_n 1, 1) := dTo0_88.1.1
theorem dX5_comesForth_1 : decode cX5_comesForth 1 = .ok (.iconst 3, 1) := dTo0_88.1.2.1
theorem dX5_comesForth_2 : decode cX5_comesForth 2 = .ok (.invokestatic 155, 3) := dTo0_88.1.2.2.1
theorem dX5_comesForth_5 : decode cX5_comesForth 5 = .ok (.iconst 3, 1) := dTo0_88.1.2.2.2.1
theorem dX5_comesForth_6 : decode cX5_comesForth 6 = .ok (.invokestatic 158, 3) := dTo0_88.1.2.2.2.2.1
theorem dX5_comesForth_9 : decode cX5_comesForth 9 = .ok (.invokestatic 36, 3) := dTo0_88.1.2.2.2.2.2.1
theorem dX5_comesForth_12 : decode cX5_comesForth 12 = .ok (.iconst 3, 1) := dTo0_88.1.2.2.2.2.2.2.1
theorem dX5_comesForth_13 : decode cX5_comesForth 13 = .ok (.iload_n 1, 1) := dTo0_88.1.2.2.2.2.2.2.2.1
theorem dX5_comesForth_14 : decode cX5_comesForth 14 = .ok (.invokestatic 40, 3) := dTo0_88.1.2.2.2.2.2.2.2.2.1
theorem dX5_comesForth_17 : decode cX5_comesForth 17 = .ok (.invokestatic 87, 3) := dTo0_88.1.2.2.2.2.2.2.2.2.2.1
theorem dX5_comesForth_20 : decode cX5_comesForth 20 = .ok (.istore_n 2, 1) := dTo0_88.2.1.1
theorem dX5_comesForth_21 : decode cX5_comesForth 21 = .ok (.iconst 2, 1) := dTo0_88.2.1.2.1
theorem dX5_comesForth_22 : decode cX5_comesForth 22 = .ok (.iload_n 2, 1) := dTo0_88.2.1.2.2.1
theorem dX5_comesForth_23 : decode cX5_comesForth 23 = .ok (.invokestatic 87, 3) := dTo0_88.2.1.2.2.2.1
theorem dX5_comesForth_26 : decode cX5_comesForth 26 = .ok (.istore_n 3, 1) := dTo0_88.2.1.2.2.2.2.1
theorem dX5_comesForth_27 : decode cX5_comesForth 27 = .ok (.iload_n 3, 1) := dTo0_88.2.1.2.2.2.2.2.1
theorem dX5_comesForth_28 : decode cX5_comesForth 28 = .ok (.iconst (-1), 1) := dTo0_88.2.1.2.2.2.2.2.2.1
theorem dX5_comesForth_29 : decode cX5_comesForth 29 = .ok (.if_icmp .eq 28, 3) := dTo0_88.2.1.2.2.2.2.2.2.2.1
theorem dX5_comesForth_32 : decode cX5_comesForth 32 = .ok (.iload_n 3, 1) := dTo0_88.2.1.2.2.2.2.2.2.2.2.1
theorem dX5_comesForth_33 : decode cX5_comesForth 33 = .ok (.invokestatic 26, 3) := dTo0_88.2.1.2.2.2.2.2.2.2.2.2.1
theorem dX5_comesForth_36 : decode cX5_comesForth 36 = .ok (.iload_n 1, 1) := dTo0_88.2.2.1.1
theorem dX5_comesForth_37 : decode cX5_comesForth 37 = .ok (.invokestatic 40, 3) := dTo0_88.2.2.1.2.1
theorem dX5_comesForth_40 : decode cX5_comesForth 40 = .ok (.invokestatic 26, 3) := dTo0_88.2.2.1.2.2.1
theorem dX5_comesForth_43 : decode cX5_comesForth 43 = .ok (.invokestatic 183, 3) := dTo0_88.2.2.1.2.2.2.1
theorem dX5_comesForth_46 : decode cX5_comesForth 46 = .ok (.ldc2_w 187, 3) := dTo0_88.2.2.1.2.2.2.2.1
theorem dX5_comesForth_49 : decode cX5_comesForth 49 = .ok (.lcmp, 1) := dTo0_88.2.2.1.2.2.2.2.2.1
theorem dX5_comesForth_50 : decode cX5_comesForth 50 = .ok (.ifCond .gt 7, 3) := dTo0_88.2.2.1.2.2.2.2.2.2.1
theorem dX5_comesForth_53 : decode cX5_comesForth 53 = .ok (.iconst 1, 1) := dTo0_88.2.2.1.2.2.2.2.2.2.2.1
theorem dX5_comesForth_54 : decode cX5_comesForth 54 = .ok (.goto 4, 3) := dTo0_88.2.2.1.2.2.2.2.2.2.2.2.1
theorem dX5_comesForth_57 : decode cX5_comesForth 57 = .ok (.iconst 0, 1) := dTo0_88.2.2.1.2.2.2.2.2.2.2.2.2.1
theorem dX5_comesForth_58 : decode cX5_comesForth 58 = .ok (.ireturn, 1) := dTo0_88.2.2.2.1.1
theorem dTo0_89 : dQ cX5_opposite [[(0, zop27, 0, 0), (1, zop17, 255, 96), (4, zop17, 0, 160), (7, zop184, 0, 36), (10, zop4, 0, 0), (11, zop27, 0, 0), (12, zop184, 0, 161), (15, zop184, 0, 189), (18, zop73, 0, 0), (19, zop4, 0, 0)], [(20, zop27, 0, 0), (21, zop116, 0, 0), (22, zop184, 0, 161), (25, zop184, 0, 189), (28, zop57, 4, 0), (30, zop40, 0, 0), (31, zop24, 4, 0), (33, zop107, 0, 0), (34, zop184, 0, 193), (37, zop20, 0, 197)], [(40, zop152, 0, 0), (41, zop157, 0, 7), (44, zop4, 0, 0), (45, zop167, 0, 4), (48, zop3, 0, 0), (49, zop172, 0, 0)]] := dQ_of _ _ (by decide +kernel)
theorem dX5_opposite_0 : decode cX5_opposite 0 = .ok (.iload_n 1, 1) := dTo0_89.1.1
theorem dX5_opposite_1 : decode cX5_opposite 1 = .ok (.sipush (-160), 3) := dTo0_89.1.2.1
theorem dX5_opposite_4 : decode cX5_opposite 4 = .ok (.sipush 160, 3) := dTo0_89.1.2.2.1
theorem dX5_opposite_7 : decode cX5_opposite 7 = .ok (.invokestatic 36, 3) := dTo0_89.1.2.2.2.1
theorem dX5_opposite_10 : decode cX5_opposite 10 = .ok (.iconst 1, 1) := dTo0_89.1.2.2.2.2.1
theorem dX5_opposite_11 : decode cX5_opposite 11 = .ok (.iload_n 1, 1) := dTo0_89.1.2.2.2.2.2.1
theorem dX5_opposite_12 : decode cX5_opposite 12 = .ok (.invokestatic 161, 3) := dTo0_89.1.2.2.2.2.2.2.1
theorem dX5_opposite_15 : decode cX5_opposite 15 = .ok (.invokestatic 189, 3) := dTo0_89.1.2.2.2.2.2.2.2.1
theorem dX5_opposite_18 : decode cX5_opposite 18 = .ok (.dstore_n 2, 1) := dTo0_89.1.2.2.2.2.2.2.2.2.1
theorem dX5_opposite_19 : decode cX5_opposite 19 = .ok (.iconst 1, 1) := dTo0_89.1.2.2.2.2.2.2.2.2.2.1
theorem dX5_opposite_20 : decode cX5_opposite 20 = .ok (.iload_n 1, 1) := dTo0_89.2.1.1
theorem dX5_opposite_21 : decode cX5_opposite 21 = .ok (.ineg, 1) := dTo0_89.2.1.2.1
theorem dX5_opposite_22 : decode cX5_opposite 22 = .ok (.invokestatic 161, 3) := dTo0_89.2.1.2.2.1
theorem dX5_opposite_25 : decode cX5_opposite 25 = .ok (.invokestatic 189, 3) := dTo0_89.2.1.2.2.2.1
theorem dX5_opposite_28 : decode cX5_opposite 28 = .ok (.dstore 4, 2) := dTo0_89.2.1.2.2.2.2.1
theorem dX5_opposite_30 : decode cX5_opposite 30 = .ok (.dload_n 2, 1) := dTo0_89.2.1.2.2.2.2.2.1
theorem dX5_opposite_31 : decode cX5_opposite 31 = .ok (.dload 4, 2) := dTo0_89.2.1.2.2.2.2.2.2.1
theorem dX5_opposite_33 : decode cX5_opposite 33 = .ok (.dmul, 1) := dTo0_89.2.1.2.2.2.2.2.2.2.1
theorem dX5_opposite_34 : decode cX5_opposite 34 = .ok (.invokestatic 193, 3) := dTo0_89.2.1.2.2.2.2.2.2.2.2.1
theorem dX5_opposite_37 : decode cX5_opposite 37 = .ok (.ldc2_w 197, 3) := dTo0_89.2.1.2.2.2.2.2.2.2.2.2.1
theorem dX5_opposite_40 : decode cX5_opposite 40 = .ok (.dcmp .g, 1) := dTo0_89.2.2.1.1
theorem dX5_opposite_41 : decode cX5_opposite 41 = .ok (.ifCond .gt 7, 3) := dTo0_89.2.2.1.2.1
theorem dX5_opposite_44 : decode cX5_opposite 44 = .ok (.iconst 1, 1) := dTo0_89.2.2.1.2.2.1
theorem dX5_opposite_45 : decode cX5_opposite 45 = .ok (.goto 4, 3) := dTo0_89.2.2.1.2.2.2.1
theorem dX5_opposite_48 : decode cX5_opposite 48 = .ok (.iconst 0, 1) := dTo0_89.2.2.1.2.2.2.2.1
theorem dX5_opposite_49 : decode cX5_opposite 49 = .ok (.ireturn, 1) := dTo0_89.2.2.1.2.2.2.2.2.1
theorem dX5_house_7 : decode cX5_house 7 = .ok (.tableswitch 49 0 3 #[29, 34, 39, 44], 29) := by decide +kernel
theorem dTo0_90 : dQ cX5_house [[(0, zop27, 0, 0), (1, zop3, 0, 0), (2, zop7, 0, 0), (3, zop184, 0, 36), (6, zop27, 0, 0), (36, zop42, 0, 0), (37, zop180, 0, 199), (40, zop172, 0, 0), (41, zop42, 0, 0), (42, zop180, 0, 203)], [(45, zop172, 0, 0), (46, zop42, 0, 0), (47, zop180, 0, 206), (50, zop172, 0, 0), (51, zop42, 0, 0), (52, zop182, 0, 209), (55, zop172, 0, 0), (56, zop42, 0, 0), (57, zop182, 0, 212), (60, zop172, 0, 0)]] := dQ_of _ _ (by decide +kernel)
theorem dX5_house_0 : decode cX5_house 0 = .ok (.iload_n 1, 1) := dTo0_90.1.1
theorem dX5_house_1 : decode cX5_house 1 = .ok (.iconst 0, 1) := dTo0_90.1.2.1
theorem dX5_house_2 : decode cX5_house 2 = .ok (.iconst 4, 1) := dTo0_90.1.2.2.1
theorem dX5_house_3 : decode cX5_house 3 = .ok (.invokestatic 36, 3) := dTo0_90.1.2.2.2.1
theorem dX5_house_6 : decode cX5_house 6 = .ok (.iload_n 1, 1) := dTo0_90.1.2.2.2.2.1
theorem dX5_house_36 : decode cX5_house 36 = .ok (.aload_n 0, 1) := dTo0_90.1.2.2.2.2.2.1
theorem dX5_house_37 : decode cX5_house 37 = .ok (.getfield 199, 3) := dTo0_90.1.2.2.2.2.2.2.1
theorem dX5_house_40 : decode cX5_house 40 = .ok (.ireturn, 1) := dTo0_90.1.2.2.2.2.2.2.2.1
theorem dX5_house_41 : decode cX5_house 41 = .ok (.aload_n 0, 1) := dTo0_90.1.2.2.2.2.2.2.2.2.1
theorem dX5_house_42 : decode cX5_house 42 = .ok (.getfield 203, 3) := dTo0_90.1.2.2.2.2.2.2.2.2.2.1
theorem dX5_house_45 : decode cX5_house 45 = .ok (.ireturn, 1) := dTo0_90.2.1.1
theorem dX5_house_46 : decode cX5_house 46 = .ok (.aload_n 0, 1) := dTo0_90.2.1.2.1
theorem dX5_house_47 : decode cX5_house 47 = .ok (.getfield 206, 3) := dTo0_90.2.1.2.2.1
theorem dX5_house_50 : decode cX5_house 50 = .ok (.ireturn, 1) := dTo0_90.2.1.2.2.2.1
theorem dX5_house_51 : decode cX5_house 51 = .ok (.aload_n 0, 1) := dTo0_90.2.1.2.2.2.2.1
theorem dX5_house_52 : decode cX5_house 52 = .ok (.invokevirtual 209, 3) := dTo0_90.2.1.2.2.2.2.2.1
theorem dX5_house_55 : decode cX5_house 55 = .ok (.ireturn, 1) := dTo0_90.2.1.2.2.2.2.2.2.1
theorem dX5_house_56 : decode cX5_house 56 = .ok (.aload_n 0, 1) := dTo0_90.2.1.2.2.2.2.2.2.2.1
theorem dX5_house_57 : decode cX5_house 57 = .ok (.invokevirtual 212, 3) := dTo0_90.2.1.2.2.2.2.2.2.2.2.1
theorem dX5_house_60 : decode cX5_house 60 = .ok (.ireturn, 1) := dTo0_90.2.1.2.2.2.2.2.2.2.2.2.1
theorem dTo0_91 : dQ cX5_knock [[(0, zop42, 0, 0), (1, zop89, 0, 0), (2, zop180, 0, 206), (5, zop4, 0, 0), (6, zop96, 0, 0), (7, zop181, 0, 206), (10, zop42, 0, 0), (11, zop180, 0, 206), (14, zop172, 0, 0)]] := dQ_of _ _ (by decide +kernel)
theorem dX5_knock_0 : decode cX5_knock 0 = .ok (.aload_n 0, 1) := dTo0_91.1.1
theorem dX5_knock_1 : decode cX5_knock 1 = .ok (.dup, 1) := dTo0_91.1.2.1
theorem dX5_knock_2 : decode cX5_knock 2 = .ok (.getfield 206, 3) := dTo0_91.1.2.2.1
theorem dX5_knock_5 : decode cX5_knock 5 = .ok (.iconst 1, 1) := dTo0_91.1.2.2.2.1
theorem dX5_knock_6 : decode cX5_knock 6 = .ok (.iadd, 1) := dTo0_91.1.2.2.2.2.1
theorem dX5_knock_7 : decode cX5_knock 7 = .ok (.putfield 206, 3) := dTo0_91.1.2.2.2.2.2.1
theorem dX5_knock_10 : decode cX5_knock 10 = .ok (.aload_n 0, 1) := dTo0_91.1.2.2.2.2.2.2.1
theorem dX5_knock_11 : decode cX5_knock 11 = .ok (.getfield 206, 3) := dTo0_91.1.2.2.2.2.2.2.2.1
theorem dX5_knock_14 : decode cX5_knock 14 = .ok (.ireturn, 1) := dTo0_91.1.2.2.2.2.2.2.2.2.1
theorem dTo0_92 : dQ cX5_isSound [[(0, zop3, 0, 0), (1, zop60, 0, 0), (2, zop27, 0, 0), (3, zop16, 8, 0), (5, zop162, 0, 69), (8, zop42, 0, 0), (9, zop180, 0, 13), (12, zop27, 0, 0), (13, zop47, 0, 0), (14, zop42, 0, 0)], [(15, zop180, 0, 9), (18, zop27, 0, 0), (19, zop46, 0, 0), (20, zop184, 0, 26), (23, zop148, 0, 0), (24, zop154, 0, 15), (27, zop42, 0, 0), (28, zop180, 0, 9), (31, zop27, 0, 0), (32, zop46, 0, 0)], [(33, zop184, 0, 215), (36, zop154, 0, 5), (39, zop3, 0, 0), (40, zop172, 0, 0), (41, zop27, 0, 0), (42, zop4, 0, 0), (43, zop96, 0, 0), (44, zop61, 0, 0), (45, zop28, 0, 0), (46, zop16, 8, 0)], [(48, zop162, 0, 20), (51, zop42, 0, 0), (52, zop27, 0, 0), (53, zop28, 0, 0), (54, zop182, 0, 218), (57, zop154, 0, 5), (60, zop3, 0, 0), (61, zop172, 0, 0), (62, zop132, 2, 1), (65, zop167, 255, 236)], [(68, zop132, 1, 1), (71, zop167, 255, 187), (74, zop42, 0, 0), (75, zop182, 0, 221), (78, zop172, 0, 0)]] := dQ_of _ _ (by decide +kernel)
theorem dX5_isSound_0 : decode cX5_isSound 0 = .ok (.iconst 0, 1) := dTo0_92.1.1
theorem dX5_isSound_1 : decode cX5_isSound 1 = .ok (.istore_n 1, 1) := dTo0_92.1.2.1
theorem dX5_isSound_2 : decode cX5_isSound 2 = .ok (.iload_n 1, 1) := dTo0_92.1.2.2.1
theorem dX5_isSound_3 : decode cX5_isSound 3 = .ok (.bipush 8, 2) := dTo0_92.1.2.2.2.1
theorem dX5_isSound_5 : decode cX5_isSound 5 = .ok (.if_icmp .ge 69, 3) := dTo0_92.1.2.2.2.2.1
theorem dX5_isSound_8 : decode cX5_isSound 8 = .ok (.aload_n 0, 1) := dTo0_92.1.2.2.2.2.2.1
theorem dX5_isSound_9 : decode cX5_isSound 9 = .ok (.getfield 13, 3) := dTo0_92.1.2.2.2.2.2.2.1
theorem dX5_isSound_12 : decode cX5_isSound 12 = .ok (.iload_n 1, 1) := dTo0_92.1.2.2.2.2.2.2.2.1
theorem dX5_isSound_13 : decode cX5_isSound 13 = .ok (.laload, 1) := dTo0_92.1.2.2.2.2.2.2.2.2.1
theorem dX5_isSound_14 : decode cX5_isSound 14 = .ok (.aload_n 0, 1) := dTo0_92.1.2.2.2.2.2.2.2.2.2.1
theorem dX5_isSound_15 : decode cX5_isSound 15 = .ok (.getfield 9, 3) := dTo0_92.2.1.1
theorem dX5_isSound_18 : decode cX5_isSound 18 = .ok (.iload_n 1, 1) := dTo0_92.2.1.2.1
theorem dX5_isSound_19 : decode cX5_isSound 19 = .ok (.iaload, 1) := dTo0_92.2.1.2.2.1
theorem dX5_isSound_20 : decode cX5_isSound 20 = .ok (.invokestatic 26, 3) := dTo0_92.2.1.2.2.2.1
theorem dX5_isSound_23 : decode cX5_isSound 23 = .ok (.lcmp, 1) := dTo0_92.2.1.2.2.2.2.1
theorem dX5_isSound_24 : decode cX5_isSound 24 = .ok (.ifCond .ne 15, 3) := dTo0_92.2.1.2.2.2.2.2.1
theorem dX5_isSound_27 : decode cX5_isSound 27 = .ok (.aload_n 0, 1) := dTo0_92.2.1.2.2.2.2.2.2.1
theorem dX5_isSound_28 : decode cX5_isSound 28 = .ok (.getfield 9, 3) := dTo0_92.2.1.2.2.2.2.2.2.2.1
theorem dX5_isSound_31 : decode cX5_isSound 31 = .ok (.iload_n 1, 1) := dTo0_92.2.1.2.2.2.2.2.2.2.2.1
theorem dX5_isSound_32 : decode cX5_isSound 32 = .ok (.iaload, 1) := dTo0_92.2.1.2.2.2.2.2.2.2.2.2.1
theorem dX5_isSound_33 : decode cX5_isSound 33 = .ok (.invokestatic 215, 3) := dTo0_92.2.2.1.1
theorem dX5_isSound_36 : decode cX5_isSound 36 = .ok (.ifCond .ne 5, 3) := dTo0_92.2.2.1.2.1
theorem dX5_isSound_39 : decode cX5_isSound 39 = .ok (.iconst 0, 1) := dTo0_92.2.2.1.2.2.1
theorem dX5_isSound_40 : decode cX5_isSound 40 = .ok (.ireturn, 1) := dTo0_92.2.2.1.2.2.2.1
theorem dX5_isSound_41 : decode cX5_isSound 41 = .ok (.iload_n 1, 1) := dTo0_92.2.2.1.2.2.2.2.1
theorem dX5_isSound_42 : decode cX5_isSound 42 = .ok (.iconst 1, 1) := dTo0_92.2.2.1.2.2.2.2.2.1
theorem dX5_isSound_43 : decode cX5_isSound 43 = .ok (.iadd, 1) := dTo0_92.2.2.1.2.2.2.2.2.2.1
theorem dX5_isSound_44 : decode cX5_isSound 44 = .ok (.istore_n 2, 1) := dTo0_92.2.2.1.2.2.2.2.2.2.2.1
theorem dX5_isSound_45 : decode cX5_isSound 45 = .ok (.iload_n 2, 1) := dTo0_92.2.2.1.2.2.2.2.2.2.2.2.1
theorem dX5_isSound_46 : decode cX5_isSound 46 = .ok (.bipush 8, 2) := dTo0_92.2.2.1.2.2.2.2.2.2.2.2.2.1
theorem dX5_isSound_48 : decode cX5_isSound 48 = .ok (.if_icmp .ge 20, 3) := dTo0_92.2.2.2.1.1
theorem dX5_isSound_51 : decode cX5_isSound 51 = .ok (.aload_n 0, 1) := dTo0_92.2.2.2.1.2.1
theorem dX5_isSound_52 : decode cX5_isSound 52 = .ok (.iload_n 1, 1) := dTo0_92.2.2.2.1.2.2.1
theorem dX5_isSound_53 : decode cX5_isSound 53 = .ok (.iload_n 2, 1) := dTo0_92.2.2.2.1.2.2.2.1
theorem dX5_isSound_54 : decode cX5_isSound 54 = .ok (.invokevirtual 218, 3) := dTo0_92.2.2.2.1.2.2.2.2.1
theorem dX5_isSound_57 : decode cX5_isSound 57 = .ok (.ifCond .ne 5, 3) := dTo0_92.2.2.2.1.2.2.2.2.2.1
theorem dX5_isSound_60 : decode cX5_isSound 60 = .ok (.iconst 0, 1) := dTo0_92.2.2.2.1.2.2.2.2.2.2.1
theorem dX5_isSound_61 : decode cX5_isSound 61 = .ok (.ireturn, 1) := dTo0_92.2.2.2.1.2.2.2.2.2.2.2.1
theorem dX5_isSound_62 : decode cX5_isSound 62 = .ok (.iinc 2 1, 3) := dTo0_92.2.2.2.1.2.2.2.2.2.2.2.2.1
theorem dX5_isSound_65 : decode cX5_isSound 65 = .ok (.goto (-20), 3) := dTo0_92.2.2.2.1.2.2.2.2.2.2.2.2.2.1
theorem dX5_isSound_68 : decode cX5_isSound 68 = .ok (.iinc 1 1, 3) := dTo0_92.2.2.2.2.1.1
theorem dX5_isSound_71 : decode cX5_isSound 71 = .ok (.goto (-69), 3) := dTo0_92.2.2.2.2.1.2.1
theorem dX5_isSound_74 : decode cX5_isSound 74 = .ok (.aload_n 0, 1) := dTo0_92.2.2.2.2.1.2.2.1
theorem dX5_isSound_75 : decode cX5_isSound 75 = .ok (.invokevirtual 221, 3) := dTo0_92.2.2.2.2.1.2.2.2.1
theorem dX5_isSound_78 : decode cX5_isSound 78 = .ok (.ireturn, 1) := dTo0_92.2.2.2.2.1.2.2.2.2.1
theorem dTo0_93 : dQ cX5_digest [[(0, zop20, 0, 225), (3, zop64, 0, 0), (4, zop3, 0, 0), (5, zop62, 0, 0), (6, zop29, 0, 0), (7, zop16, 8, 0), (9, zop162, 0, 16), (12, zop42, 0, 0), (13, zop31, 0, 0), (14, zop29, 0, 0)], [(15, zop182, 0, 227), (18, zop64, 0, 0), (19, zop132, 3, 1), (22, zop167, 255, 240), (25, zop3, 0, 0), (26, zop62, 0, 0), (27, zop29, 0, 0), (28, zop16, 8, 0), (30, zop162, 0, 42), (33, zop29, 0, 0)], [(34, zop4, 0, 0), (35, zop96, 0, 0), (36, zop54, 4, 0), (38, zop21, 4, 0), (40, zop16, 8, 0), (42, zop162, 0, 24), (45, zop31, 0, 0), (46, zop20, 0, 230), (49, zop105, 0, 0), (50, zop42, 0, 0)], [(51, zop29, 0, 0), (52, zop21, 4, 0), (54, zop182, 0, 232), (57, zop133, 0, 0), (58, zop97, 0, 0), (59, zop64, 0, 0), (60, zop132, 4, 1), (63, zop167, 255, 231), (66, zop132, 3, 1), (69, zop167, 255, 214)], [(72, zop3, 0, 0), (73, zop62, 0, 0), (74, zop29, 0, 0), (75, zop7, 0, 0), (76, zop163, 0, 22), (79, zop31, 0, 0), (80, zop20, 0, 230), (83, zop105, 0, 0), (84, zop42, 0, 0), (85, zop29, 0, 0)], [(86, zop182, 0, 235), (89, zop133, 0, 0), (90, zop97, 0, 0), (91, zop64, 0, 0), (92, zop132, 3, 1), (95, zop167, 255, 235), (98, zop31, 0, 0), (99, zop20, 0, 230), (102, zop105, 0, 0), (103, zop42, 0, 0)]] := dQ_of _ _ (by decide +kernel)
theorem dX5_digest_0 : decode cX5_digest 0 = .ok (.ldc2_w 225, 3) := dTo0_93.1.1
theorem dX5_digest_3 : decode cX5_digest 3 = .ok (.lstore_n 1, 1) := dTo0_93.1.2.1
theorem dX5_digest_4 : decode cX5_digest 4 = .ok (.iconst 0, 1) := dTo0_93.1.2.2.1
theorem dX5_digest_5 : decode cX5_digest 5 = .ok (.istore_n 3, 1) := dTo0_93.1.2.2.2.1
theorem dX5_digest_6 : decode cX5_digest 6 = .ok (.iload_n 3, 1) := dTo0_93.1.2.2.2.2.1
theorem dX5_digest_7 : decode cX5_digest 7 = .ok (.bipush 8, 2) := dTo0_93.1.2.2.2.2.2.1
theorem dX5_digest_9 : decode cX5_digest 9 = .ok (.if_icmp .ge 16, 3) := dTo0_93.1.2.2.2.2.2.2.1
theorem dX5_digest_12 : decode cX5_digest 12 = .ok (.aload_n 0, 1) := dTo0_93.1.2.2.2.2.2.2.2.1
theorem dX5_digest_13 : decode cX5_digest 13 = .ok (.lload_n 1, 1) := dTo0_93.1.2.2.2.2.2.2.2.2.1
theorem dX5_digest_14 : decode cX5_digest 14 = .ok (.iload_n 3, 1) := dTo0_93.1.2.2.2.2.2.2.2.2.2.1
theorem dX5_digest_15 : decode cX5_digest 15 = .ok (.invokevirtual 227, 3) := dTo0_93.2.1.1
theorem dX5_digest_18 : decode cX5_digest 18 = .ok (.lstore_n 1, 1) := dTo0_93.2.1.2.1
theorem dX5_digest_19 : decode cX5_digest 19 = .ok (.iinc 3 1, 3) := dTo0_93.2.1.2.2.1
theorem dX5_digest_22 : decode cX5_digest 22 = .ok (.goto (-16), 3) := dTo0_93.2.1.2.2.2.1
theorem dX5_digest_25 : decode cX5_digest 25 = .ok (.iconst 0, 1) := dTo0_93.2.1.2.2.2.2.1
theorem dX5_digest_26 : decode cX5_digest 26 = .ok (.istore_n 3, 1) := dTo0_93.2.1.2.2.2.2.2.1
theorem dX5_digest_27 : decode cX5_digest 27 = .ok (.iload_n 3, 1) := dTo0_93.2.1.2.2.2.2.2.2.1
theorem dX5_digest_28 : decode cX5_digest 28 = .ok (.bipush 8, 2) := dTo0_93.2.1.2.2.2.2.2.2.2.1
theorem dX5_digest_30 : decode cX5_digest 30 = .ok (.if_icmp .ge 42, 3) := dTo0_93.2.1.2.2.2.2.2.2.2.2.1
theorem dX5_digest_33 : decode cX5_digest 33 = .ok (.iload_n 3, 1) := dTo0_93.2.1.2.2.2.2.2.2.2.2.2.1
theorem dX5_digest_34 : decode cX5_digest 34 = .ok (.iconst 1, 1) := dTo0_93.2.2.1.1
theorem dX5_digest_35 : decode cX5_digest 35 = .ok (.iadd, 1) := dTo0_93.2.2.1.2.1
theorem dX5_digest_36 : decode cX5_digest 36 = .ok (.istore 4, 2) := dTo0_93.2.2.1.2.2.1
theorem dX5_digest_38 : decode cX5_digest 38 = .ok (.iload 4, 2) := dTo0_93.2.2.1.2.2.2.1
theorem dX5_digest_40 : decode cX5_digest 40 = .ok (.bipush 8, 2) := dTo0_93.2.2.1.2.2.2.2.1
theorem dX5_digest_42 : decode cX5_digest 42 = .ok (.if_icmp .ge 24, 3) := dTo0_93.2.2.1.2.2.2.2.2.1
theorem dX5_digest_45 : decode cX5_digest 45 = .ok (.lload_n 1, 1) := dTo0_93.2.2.1.2.2.2.2.2.2.1
theorem dX5_digest_46 : decode cX5_digest 46 = .ok (.ldc2_w 230, 3) := dTo0_93.2.2.1.2.2.2.2.2.2.2.1
theorem dX5_digest_49 : decode cX5_digest 49 = .ok (.lmul, 1) := dTo0_93.2.2.1.2.2.2.2.2.2.2.2.1
theorem dX5_digest_50 : decode cX5_digest 50 = .ok (.aload_n 0, 1) := dTo0_93.2.2.1.2.2.2.2.2.2.2.2.2.1
theorem dX5_digest_51 : decode cX5_digest 51 = .ok (.iload_n 3, 1) := dTo0_93.2.2.2.1.1
theorem dX5_digest_52 : decode cX5_digest 52 = .ok (.iload 4, 2) := dTo0_93.2.2.2.1.2.1
theorem dX5_digest_54 : decode cX5_digest 54 = .ok (.invokevirtual 232, 3) := dTo0_93.2.2.2.1.2.2.1
theorem dX5_digest_57 : decode cX5_digest 57 = .ok (.i2l, 1) := dTo0_93.2.2.2.1.2.2.2.1
theorem dX5_digest_58 : decode cX5_digest 58 = .ok (.ladd, 1) := dTo0_93.2.2.2.1.2.2.2.2.1
theorem dX5_digest_59 : decode cX5_digest 59 = .ok (.lstore_n 1, 1) := dTo0_93.2.2.2.1.2.2.2.2.2.1
theorem dX5_digest_60 : decode cX5_digest 60 = .ok (.iinc 4 1, 3) := dTo0_93.2.2.2.1.2.2.2.2.2.2.1
theorem dX5_digest_63 : decode cX5_digest 63 = .ok (.goto (-25), 3) := dTo0_93.2.2.2.1.2.2.2.2.2.2.2.1
theorem dX5_digest_66 : decode cX5_digest 66 = .ok (.iinc 3 1, 3) := dTo0_93.2.2.2.1.2.2.2.2.2.2.2.2.1
theorem dX5_digest_69 : decode cX5_digest 69 = .ok (.goto (-42), 3) := dTo0_93.2.2.2.1.2.2.2.2.2.2.2.2.2.1
theorem dX5_digest_72 : decode cX5_digest 72 = .ok (.iconst 0, 1) := dTo0_93.2.2.2.2.1.1
theorem dX5_digest_73 : decode cX5_digest 73 = .ok (.istore_n 3, 1) := dTo0_93.2.2.2.2.1.2.1
theorem dX5_digest_74 : decode cX5_digest 74 = .ok (.iload_n 3, 1) := dTo0_93.2.2.2.2.1.2.2.1
theorem dX5_digest_75 : decode cX5_digest 75 = .ok (.iconst 4, 1) := dTo0_93.2.2.2.2.1.2.2.2.1
theorem dX5_digest_76 : decode cX5_digest 76 = .ok (.if_icmp .gt 22, 3) := dTo0_93.2.2.2.2.1.2.2.2.2.1
theorem dX5_digest_79 : decode cX5_digest 79 = .ok (.lload_n 1, 1) := dTo0_93.2.2.2.2.1.2.2.2.2.2.1
theorem dX5_digest_80 : decode cX5_digest 80 = .ok (.ldc2_w 230, 3) := dTo0_93.2.2.2.2.1.2.2.2.2.2.2.1
theorem dX5_digest_83 : decode cX5_digest 83 = .ok (.lmul, 1) := dTo0_93.2.2.2.2.1.2.2.2.2.2.2.2.1
theorem dX5_digest_84 : decode cX5_digest 84 = .ok (.aload_n 0, 1) := dTo0_93.2.2.2.2.1.2.2.2.2.2.2.2.2.1
theorem dX5_digest_85 : decode cX5_digest 85 = .ok (.iload_n 3, 1) := dTo0_93.2.2.2.2.1.2.2.2.2.2.2.2.2.2.1
theorem dX5_digest_86 : decode cX5_digest 86 = .ok (.invokevirtual 235, 3) := dTo0_93.2.2.2.2.2.1.1
theorem dX5_digest_89 : decode cX5_digest 89 = .ok (.i2l, 1) := dTo0_93.2.2.2.2.2.1.2.1
theorem dX5_digest_90 : decode cX5_digest 90 = .ok (.ladd, 1) := dTo0_93.2.2.2.2.2.1.2.2.1
theorem dX5_digest_91 : decode cX5_digest 91 = .ok (.lstore_n 1, 1) := dTo0_93.2.2.2.2.2.1.2.2.2.1
theorem dX5_digest_92 : decode cX5_digest 92 = .ok (.iinc 3 1, 3) := dTo0_93.2.2.2.2.2.1.2.2.2.2.1
theorem dX5_digest_95 : decode cX5_digest 95 = .ok (.goto (-21), 3) := dTo0_93.2.2.2.2.2.1.2.2.2.2.2.1
theorem dX5_digest_98 : decode cX5_digest 98 = .ok (.lload_n 1, 1) := dTo0_93.2.2.2.2.2.1.2.2.2.2.2.2.1
theorem dX5_digest_99 : decode cX5_digest 99 = .ok (.ldc2_w 230, 3) := dTo0_93.2.2.2.2.2.1.2.2.2.2.2.2.2.1
theorem dX5_digest_102 : decode cX5_digest 102 = .ok (.lmul, 1) := dTo0_93.2.2.2.2.2.1.2.2.2.2.2.2.2.2.1
theorem dX5_digest_103 : decode cX5_digest 103 = .ok (.aload_n 0, 1) := dTo0_93.2.2.2.2.2.1.2.2.2.2.2.2.2.2.2.1
theorem dTo0_94 : dQ cX5_digest [[(104, zop182, 0, 238), (107, zop153, 0, 7), (110, zop4, 0, 0), (111, zop167, 0, 4), (114, zop3, 0, 0), (115, zop133, 0, 0), (116, zop97, 0, 0), (117, zop173, 0, 0)]] := dQ_of _ _ (by decide +kernel)
theorem dX5_digest_104 : decode cX5_digest 104 = .ok (.invokevirtual 238, 3) := dTo0_94.1.1
theorem dX5_digest_107 : decode cX5_digest 107 = .ok (.ifCond .eq 7, 3) := dTo0_94.1.2.1
theorem dX5_digest_110 : decode cX5_digest 110 = .ok (.iconst 1, 1) := dTo0_94.1.2.2.1
theorem dX5_digest_111 : decode cX5_digest 111 = .ok (.goto 4, 3) := dTo0_94.1.2.2.2.1
theorem dX5_digest_114 : decode cX5_digest 114 = .ok (.iconst 0, 1) := dTo0_94.1.2.2.2.2.1
theorem dX5_digest_115 : decode cX5_digest 115 = .ok (.i2l, 1) := dTo0_94.1.2.2.2.2.2.1
theorem dX5_digest_116 : decode cX5_digest 116 = .ok (.ladd, 1) := dTo0_94.1.2.2.2.2.2.2.1
theorem dX5_digest_117 : decode cX5_digest 117 = .ok (.lreturn, 1) := dTo0_94.1.2.2.2.2.2.2.2.1
theorem dTo0_95 : dQ cX5_place [[(0, zop42, 0, 0), (1, zop180, 0, 9), (4, zop27, 0, 0), (5, zop28, 0, 0), (6, zop79, 0, 0), (7, zop42, 0, 0), (8, zop180, 0, 13), (11, zop27, 0, 0), (12, zop28, 0, 0), (13, zop184, 0, 26)], [(16, zop80, 0, 0), (17, zop177, 0, 0)]] := dQ_of _ _ (by decide +kernel)
theorem dX5_place_0 : decode cX5_place 0 = .ok (.aload_n 0, 1) := dTo0_95.1.1
theorem dX5_place_1 : decode cX5_place 1 = .ok (.getfield 9, 3) := dTo0_95.1.2.1
theorem dX5_place_4 : decode cX5_place 4 = .ok (.iload_n 1, 1) := dTo0_95.1.2.2.1
theorem dX5_place_5 : decode cX5_place 5 = .ok (.iload_n 2, 1) := dTo0_95.1.2.2.2.1
theorem dX5_place_6 : decode cX5_place 6 = .ok (.iastore, 1) := dTo0_95.1.2.2.2.2.1
theorem dX5_place_7 : decode cX5_place 7 = .ok (.aload_n 0, 1) := dTo0_95.1.2.2.2.2.2.1
theorem dX5_place_8 : decode cX5_place 8 = .ok (.getfield 13, 3) := dTo0_95.1.2.2.2.2.2.2.1
theorem dX5_place_11 : decode cX5_place 11 = .ok (.iload_n 1, 1) := dTo0_95.1.2.2.2.2.2.2.2.1
theorem dX5_place_12 : decode cX5_place 12 = .ok (.iload_n 2, 1) := dTo0_95.1.2.2.2.2.2.2.2.2.1
theorem dX5_place_13 : decode cX5_place 13 = .ok (.invokestatic 26, 3) := dTo0_95.1.2.2.2.2.2.2.2.2.2.1
theorem dX5_place_16 : decode cX5_place 16 = .ok (.lastore, 1) := dTo0_95.2.1.1
theorem dX5_place_17 : decode cX5_place 17 = .ok (.return_, 1) := dTo0_95.2.1.2.1
theorem dTo0_96 : dQ cX5_bring [[(0, zop42, 0, 0), (1, zop180, 0, 9), (4, zop27, 0, 0), (5, zop46, 0, 0), (6, zop28, 0, 0), (7, zop160, 0, 7), (10, zop3, 0, 0), (11, zop167, 0, 4), (14, zop4, 0, 0), (15, zop62, 0, 0)], [(16, zop42, 0, 0), (17, zop27, 0, 0), (18, zop28, 0, 0), (19, zop182, 0, 62), (22, zop42, 0, 0), (23, zop29, 0, 0), (24, zop182, 0, 69), (27, zop172, 0, 0)]] := dQ_of _ _ (by decide +kernel)
theorem dX5_bring_0 : decode cX5_bring 0 = .ok (.aload_n 0, 1) := dTo0_96.1.1
theorem dX5_bring_1 : decode cX5_bring 1 = .ok (.getfield 9, 3) := dTo0_96.1.2.1
theorem dX5_bring_4 : decode cX5_bring 4 = .ok (.iload_n 1, 1) := dTo0_96.1.2.2.1
theorem dX5_bring_5 : decode cX5_bring 5 = .ok (.iaload, 1) := dTo0_96.1.2.2.2.1
theorem dX5_bring_6 : decode cX5_bring 6 = .ok (.iload_n 2, 1) := dTo0_96.1.2.2.2.2.1
theorem dX5_bring_7 : decode cX5_bring 7 = .ok (.if_icmp .ne 7, 3) := dTo0_96.1.2.2.2.2.2.1
theorem dX5_bring_10 : decode cX5_bring 10 = .ok (.iconst 0, 1) := dTo0_96.1.2.2.2.2.2.2.1
theorem dX5_bring_11 : decode cX5_bring 11 = .ok (.goto 4, 3) := dTo0_96.1.2.2.2.2.2.2.2.1
theorem dX5_bring_14 : decode cX5_bring 14 = .ok (.iconst 1, 1) := dTo0_96.1.2.2.2.2.2.2.2.2.1
theorem dX5_bring_15 : decode cX5_bring 15 = .ok (.istore_n 3, 1) := dTo0_96.1.2.2.2.2.2.2.2.2.2.1
theorem dX5_bring_16 : decode cX5_bring 16 = .ok (.aload_n 0, 1) := dTo0_96.2.1.1
theorem dX5_bring_17 : decode cX5_bring 17 = .ok (.iload_n 1, 1) := dTo0_96.2.1.2.1
theorem dX5_bring_18 : decode cX5_bring 18 = .ok (.iload_n 2, 1) := dTo0_96.2.1.2.2.1
theorem dX5_bring_19 : decode cX5_bring 19 = .ok (.invokevirtual 62, 3) := dTo0_96.2.1.2.2.2.1
theorem dX5_bring_22 : decode cX5_bring 22 = .ok (.aload_n 0, 1) := dTo0_96.2.1.2.2.2.2.1
theorem dX5_bring_23 : decode cX5_bring 23 = .ok (.iload_n 3, 1) := dTo0_96.2.1.2.2.2.2.2.1
theorem dX5_bring_24 : decode cX5_bring 24 = .ok (.invokevirtual 69, 3) := dTo0_96.2.1.2.2.2.2.2.2.1
theorem dX5_bring_27 : decode cX5_bring 27 = .ok (.ireturn, 1) := dTo0_96.2.1.2.2.2.2.2.2.2.1
theorem dTo0_97 : dQ cX5_bringChanged [[(0, zop28, 0, 0), (1, zop184, 0, 32), (4, zop29, 0, 0), (5, zop184, 0, 32), (8, zop27, 0, 0), (9, zop42, 0, 0), (10, zop180, 0, 9), (13, zop28, 0, 0), (14, zop46, 0, 0), (15, zop184, 0, 87)], [(18, zop54, 4, 0), (20, zop21, 4, 0), (22, zop2, 0, 0), (23, zop160, 0, 10), (26, zop42, 0, 0), (27, zop182, 0, 55), (30, zop167, 0, 10), (33, zop42, 0, 0), (34, zop29, 0, 0), (35, zop21, 4, 0)], [(37, zop182, 0, 44), (40, zop172, 0, 0)]] := dQ_of _ _ (by decide +kernel)
theorem dX5_bringChanged_0 : decode cX5_bringChanged 0 = .ok (.iload_n 2, 1) := dTo0_97.1.1
theorem dX5_bringChanged_1 : decode cX5_bringChanged 1 = .ok (.invokestatic 32, 3) := dTo0_97.1.2.1
theorem dX5_bringChanged_4 : decode cX5_bringChanged 4 = .ok (.iload_n 3, 1) := dTo0_97.1.2.2.1
theorem dX5_bringChanged_5 : decode cX5_bringChanged 5 = .ok (.invokestatic 32, 3) := dTo0_97.1.2.2.2.1
theorem dX5_bringChanged_8 : decode cX5_bringChanged 8 = .ok (.iload_n 1, 1) := dTo0_97.1.2.2.2.2.1
theorem dX5_bringChanged_9 : decode cX5_bringChanged 9 = .ok (.aload_n 0, 1) := dTo0_97.1.2.2.2.2.2.1
theorem dX5_bringChanged_10 : decode cX5_bringChanged 10 = .ok (.getfield 9, 3) := dTo0_97.1.2.2.2.2.2.2.1
theorem dX5_bringChanged_13 : decode cX5_bringChanged 13 = .ok (.iload_n 2, 1) := dTo0_97.1.2.2.2.2.2.2.2.1
theorem dX5_bringChanged_14 : decode cX5_bringChanged 14 = .ok (.iaload, 1) := dTo0_97.1.2.2.2.2.2.2.2.2.1
theorem dX5_bringChanged_15 : decode cX5_bringChanged 15 = .ok (.invokestatic 87, 3) := dTo0_97.1.2.2.2.2.2.2.2.2.2.1
theorem dX5_bringChanged_18 : decode cX5_bringChanged 18 = .ok (.istore 4, 2) := dTo0_97.2.1.1
theorem dX5_bringChanged_20 : decode cX5_bringChanged 20 = .ok (.iload 4, 2) := dTo0_97.2.1.2.1
theorem dX5_bringChanged_22 : decode cX5_bringChanged 22 = .ok (.iconst (-1), 1) := dTo0_97.2.1.2.2.1
theorem dX5_bringChanged_23 : decode cX5_bringChanged 23 = .ok (.if_icmp .ne 10, 3) := dTo0_97.2.1.2.2.2.1
theorem dX5_bringChanged_26 : decode cX5_bringChanged 26 = .ok (.aload_n 0, 1) := dTo0_97.2.1.2.2.2.2.1
theorem dX5_bringChanged_27 : decode cX5_bringChanged 27 = .ok (.invokevirtual 55, 3) := dTo0_97.2.1.2.2.2.2.2.1
theorem dX5_bringChanged_30 : decode cX5_bringChanged 30 = .ok (.goto 10, 3) := dTo0_97.2.1.2.2.2.2.2.2.1
theorem dX5_bringChanged_33 : decode cX5_bringChanged 33 = .ok (.aload_n 0, 1) := dTo0_97.2.1.2.2.2.2.2.2.2.1
theorem dX5_bringChanged_34 : decode cX5_bringChanged 34 = .ok (.iload_n 3, 1) := dTo0_97.2.1.2.2.2.2.2.2.2.2.1
theorem dX5_bringChanged_35 : decode cX5_bringChanged 35 = .ok (.iload 4, 2) := dTo0_97.2.1.2.2.2.2.2.2.2.2.2.1
theorem dX5_bringChanged_37 : decode cX5_bringChanged 37 = .ok (.invokevirtual 44, 3) := dTo0_97.2.2.1.1
theorem dX5_bringChanged_40 : decode cX5_bringChanged 40 = .ok (.ireturn, 1) := dTo0_97.2.2.1.2.1
theorem dTo0_98 : dQ cX5_countAct [[(0, zop42, 0, 0), (1, zop89, 0, 0), (2, zop180, 0, 199), (5, zop4, 0, 0), (6, zop96, 0, 0), (7, zop181, 0, 199), (10, zop27, 0, 0), (11, zop172, 0, 0)]] := dQ_of _ _ (by decide +kernel)
theorem dX5_countAct_0 : decode cX5_countAct 0 = .ok (.aload_n 0, 1) := dTo0_98.1.1
theorem dX5_countAct_1 : decode cX5_countAct 1 = .ok (.dup, 1) := dTo0_98.1.2.1
theorem dX5_countAct_2 : decode cX5_countAct 2 = .ok (.getfield 199, 3) := dTo0_98.1.2.2.1
theorem dX5_countAct_5 : decode cX5_countAct 5 = .ok (.iconst 1, 1) := dTo0_98.1.2.2.2.1
theorem dX5_countAct_6 : decode cX5_countAct 6 = .ok (.iadd, 1) := dTo0_98.1.2.2.2.2.1
theorem dX5_countAct_7 : decode cX5_countAct 7 = .ok (.putfield 199, 3) := dTo0_98.1.2.2.2.2.2.1
theorem dX5_countAct_10 : decode cX5_countAct 10 = .ok (.iload_n 1, 1) := dTo0_98.1.2.2.2.2.2.2.1
theorem dX5_countAct_11 : decode cX5_countAct 11 = .ok (.ireturn, 1) := dTo0_98.1.2.2.2.2.2.2.2.1
theorem dTo0_99 : dQ cX5_refuse [[(0, zop42, 0, 0), (1, zop89, 0, 0), (2, zop180, 0, 203), (5, zop4, 0, 0), (6, zop96, 0, 0), (7, zop181, 0, 203), (10, zop16, 247, 0), (12, zop172, 0, 0)]] := dQ_of _ _ (by decide +kernel)
theorem dX5_refuse_0 : decode cX5_refuse 0 = .ok (.aload_n 0, 1) := dTo0_99.1.1
theorem dX5_refuse_1 : decode cX5_refuse 1 = .ok (.dup, 1) := dTo0_99.1.2.1
theorem dX5_refuse_2 : decode cX5_refuse 2 = .ok (.getfield 203, 3) := dTo0_99.1.2.2.1
theorem dX5_refuse_5 : decode cX5_refuse 5 = .ok (.iconst 1, 1) := dTo0_99.1.2.2.2.1
theorem dX5_refuse_6 : decode cX5_refuse 6 = .ok (.iadd, 1) := dTo0_99.1.2.2.2.2.1
theorem dX5_refuse_7 : decode cX5_refuse 7 = .ok (.putfield 203, 3) := dTo0_99.1.2.2.2.2.2.1
theorem dX5_refuse_10 : decode cX5_refuse 10 = .ok (.bipush (-9), 2) := dTo0_99.1.2.2.2.2.2.2.1
theorem dX5_refuse_12 : decode cX5_refuse 12 = .ok (.ireturn, 1) := dTo0_99.1.2.2.2.2.2.2.2.1
theorem dTo0_100 : dQ cX5_remember [[(0, zop3, 0, 0), (1, zop60, 0, 0), (2, zop27, 0, 0), (3, zop16, 8, 0), (5, zop162, 0, 21), (8, zop42, 0, 0), (9, zop180, 0, 17), (12, zop27, 0, 0), (13, zop42, 0, 0), (14, zop180, 0, 9)], [(17, zop27, 0, 0), (18, zop46, 0, 0), (19, zop79, 0, 0), (20, zop132, 1, 1), (23, zop167, 255, 235), (26, zop177, 0, 0)]] := dQ_of _ _ (by decide +kernel)
theorem dX5_remember_0 : decode cX5_remember 0 = .ok (.iconst 0, 1) := dTo0_100.1.1
theorem dX5_remember_1 : decode cX5_remember 1 = .ok (.istore_n 1, 1) := dTo0_100.1.2.1
theorem dX5_remember_2 : decode cX5_remember 2 = .ok (.iload_n 1, 1) := dTo0_100.1.2.2.1
theorem dX5_remember_3 : decode cX5_remember 3 = .ok (.bipush 8, 2) := dTo0_100.1.2.2.2.1
theorem dX5_remember_5 : decode cX5_remember 5 = .ok (.if_icmp .ge 21, 3) := dTo0_100.1.2.2.2.2.1
theorem dX5_remember_8 : decode cX5_remember 8 = .ok (.aload_n 0, 1) := dTo0_100.1.2.2.2.2.2.1
theorem dX5_remember_9 : decode cX5_remember 9 = .ok (.getfield 17, 3) := dTo0_100.1.2.2.2.2.2.2.1
theorem dX5_remember_12 : decode cX5_remember 12 = .ok (.iload_n 1, 1) := dTo0_100.1.2.2.2.2.2.2.2.1
theorem dX5_remember_13 : decode cX5_remember 13 = .ok (.aload_n 0, 1) := dTo0_100.1.2.2.2.2.2.2.2.2.1
theorem dX5_remember_14 : decode cX5_remember 14 = .ok (.getfield 9, 3) := dTo0_100.1.2.2.2.2.2.2.2.2.2.1
theorem dX5_remember_17 : decode cX5_remember 17 = .ok (.iload_n 1, 1) := dTo0_100.2.1.1
theorem dX5_remember_18 : decode cX5_remember 18 = .ok (.iaload, 1) := dTo0_100.2.1.2.1
theorem dX5_remember_19 : decode cX5_remember 19 = .ok (.iastore, 1) := dTo0_100.2.1.2.2.1
theorem dX5_remember_20 : decode cX5_remember 20 = .ok (.iinc 1 1, 3) := dTo0_100.2.1.2.2.2.1
theorem dX5_remember_23 : decode cX5_remember 23 = .ok (.goto (-21), 3) := dTo0_100.2.1.2.2.2.2.1
theorem dX5_remember_26 : decode cX5_remember 26 = .ok (.return_, 1) := dTo0_100.2.1.2.2.2.2.2.1
theorem dTo0_101 : dQ cX5_changedCells [[(0, zop3, 0, 0), (1, zop60, 0, 0), (2, zop3, 0, 0), (3, zop61, 0, 0), (4, zop28, 0, 0), (5, zop16, 8, 0), (7, zop162, 0, 27), (10, zop42, 0, 0), (11, zop180, 0, 9), (14, zop28, 0, 0)], [(15, zop46, 0, 0), (16, zop42, 0, 0), (17, zop180, 0, 17), (20, zop28, 0, 0), (21, zop46, 0, 0), (22, zop159, 0, 6), (25, zop132, 1, 1), (28, zop132, 2, 1), (31, zop167, 255, 229), (34, zop27, 0, 0)], [(35, zop172, 0, 0)]] := dQ_of _ _ (by decide +kernel)
theorem dX5_changedCells_0 : decode cX5_changedCells 0 = .ok (.iconst 0, 1) := dTo0_101.1.1
theorem dX5_changedCells_1 : decode cX5_changedCells 1 = .ok (.istore_n 1, 1) := dTo0_101.1.2.1
theorem dX5_changedCells_2 : decode cX5_changedCells 2 = .ok (.iconst 0, 1) := dTo0_101.1.2.2.1
theorem dX5_changedCells_3 : decode cX5_changedCells 3 = .ok (.istore_n 2, 1) := dTo0_101.1.2.2.2.1
theorem dX5_changedCells_4 : decode cX5_changedCells 4 = .ok (.iload_n 2, 1) := dTo0_101.1.2.2.2.2.1
theorem dX5_changedCells_5 : decode cX5_changedCells 5 = .ok (.bipush 8, 2) := dTo0_101.1.2.2.2.2.2.1
theorem dX5_changedCells_7 : decode cX5_changedCells 7 = .ok (.if_icmp .ge 27, 3) := dTo0_101.1.2.2.2.2.2.2.1
theorem dX5_changedCells_10 : decode cX5_changedCells 10 = .ok (.aload_n 0, 1) := dTo0_101.1.2.2.2.2.2.2.2.1
theorem dX5_changedCells_11 : decode cX5_changedCells 11 = .ok (.getfield 9, 3) := dTo0_101.1.2.2.2.2.2.2.2.2.1
theorem dX5_changedCells_14 : decode cX5_changedCells 14 = .ok (.iload_n 2, 1) := dTo0_101.1.2.2.2.2.2.2.2.2.2.1
theorem dX5_changedCells_15 : decode cX5_changedCells 15 = .ok (.iaload, 1) := dTo0_101.2.1.1
theorem dX5_changedCells_16 : decode cX5_changedCells 16 = .ok (.aload_n 0, 1) := dTo0_101.2.1.2.1
theorem dX5_changedCells_17 : decode cX5_changedCells 17 = .ok (.getfield 17, 3) := dTo0_101.2.1.2.2.1
theorem dX5_changedCells_20 : decode cX5_changedCells 20 = .ok (.iload_n 2, 1) := dTo0_101.2.1.2.2.2.1
theorem dX5_changedCells_21 : decode cX5_changedCells 21 = .ok (.iaload, 1) := dTo0_101.2.1.2.2.2.2.1
theorem dX5_changedCells_22 : decode cX5_changedCells 22 = .ok (.if_icmp .eq 6, 3) := dTo0_101.2.1.2.2.2.2.2.1
theorem dX5_changedCells_25 : decode cX5_changedCells 25 = .ok (.iinc 1 1, 3) := dTo0_101.2.1.2.2.2.2.2.2.1
theorem dX5_changedCells_28 : decode cX5_changedCells 28 = .ok (.iinc 2 1, 3) := dTo0_101.2.1.2.2.2.2.2.2.2.1
theorem dX5_changedCells_31 : decode cX5_changedCells 31 = .ok (.goto (-27), 3) := dTo0_101.2.1.2.2.2.2.2.2.2.2.1
theorem dX5_changedCells_34 : decode cX5_changedCells 34 = .ok (.iload_n 1, 1) := dTo0_101.2.1.2.2.2.2.2.2.2.2.2.1
theorem dX5_changedCells_35 : decode cX5_changedCells 35 = .ok (.ireturn, 1) := dTo0_101.2.2.1.1
theorem dTo0_102 : dQ cX5_compareCells [[(0, zop42, 0, 0), (1, zop180, 0, 13), (4, zop27, 0, 0), (5, zop47, 0, 0), (6, zop42, 0, 0), (7, zop180, 0, 13), (10, zop28, 0, 0), (11, zop47, 0, 0), (12, zop184, 0, 170), (15, zop172, 0, 0)]] := dQ_of _ _ (by decide +kernel)
theorem dX5_compareCells_0 : decode cX5_compareCells 0 = .ok (.aload_n 0, 1) := dTo0_102.1.1
theorem dX5_compareCells_1 : decode cX5_compareCells 1 = .ok (.getfield 13, 3) := dTo0_102.1.2.1
theorem dX5_compareCells_4 : decode cX5_compareCells 4 = .ok (.iload_n 1, 1) := dTo0_102.1.2.2.1
theorem dX5_compareCells_5 : decode cX5_compareCells 5 = .ok (.laload, 1) := dTo0_102.1.2.2.2.1
theorem dX5_compareCells_6 : decode cX5_compareCells 6 = .ok (.aload_n 0, 1) := dTo0_102.1.2.2.2.2.1
theorem dX5_compareCells_7 : decode cX5_compareCells 7 = .ok (.getfield 13, 3) := dTo0_102.1.2.2.2.2.2.1
theorem dX5_compareCells_10 : decode cX5_compareCells 10 = .ok (.iload_n 2, 1) := dTo0_102.1.2.2.2.2.2.2.1
theorem dX5_compareCells_11 : decode cX5_compareCells 11 = .ok (.laload, 1) := dTo0_102.1.2.2.2.2.2.2.2.1
theorem dX5_compareCells_12 : decode cX5_compareCells 12 = .ok (.invokestatic 170, 3) := dTo0_102.1.2.2.2.2.2.2.2.2.1
theorem dX5_compareCells_15 : decode cX5_compareCells 15 = .ok (.ireturn, 1) := dTo0_102.1.2.2.2.2.2.2.2.2.2.1
theorem dTo0_103 : dQ cX5_cellsWithQuarters [[(0, zop3, 0, 0), (1, zop60, 0, 0), (2, zop3, 0, 0), (3, zop61, 0, 0), (4, zop28, 0, 0), (5, zop16, 8, 0), (7, zop162, 0, 24), (10, zop42, 0, 0), (11, zop180, 0, 9), (14, zop28, 0, 0)], [(15, zop46, 0, 0), (16, zop184, 0, 75), (19, zop154, 0, 6), (22, zop132, 1, 1), (25, zop132, 2, 1), (28, zop167, 255, 232), (31, zop27, 0, 0), (32, zop172, 0, 0)]] := dQ_of _ _ (by decide +kernel)
theorem dX5_cellsWithQuarters_0 : decode cX5_cellsWithQuarters 0 = .ok (.iconst 0, 1) := dTo0_103.1.1
theorem dX5_cellsWithQuarters_1 : decode cX5_cellsWithQuarters 1 = .ok (.istore_n 1, 1) := dTo0_103.1.2.1
theorem dX5_cellsWithQuarters_2 : decode cX5_cellsWithQuarters 2 = .ok (.iconst 0, 1) := dTo0_103.1.2.2.1
theorem dX5_cellsWithQuarters_3 : decode cX5_cellsWithQuarters 3 = .ok (.istore_n 2, 1) := dTo0_103.1.2.2.2.1
theorem dX5_cellsWithQuarters_4 : decode cX5_cellsWithQuarters 4 = .ok (.iload_n 2, 1) := dTo0_103.1.2.2.2.2.1
theorem dX5_cellsWithQuarters_5 : decode cX5_cellsWithQuarters 5 = .ok (.bipush 8, 2) := dTo0_103.1.2.2.2.2.2.1
theorem dX5_cellsWithQuarters_7 : decode cX5_cellsWithQuarters 7 = .ok (.if_icmp .ge 24, 3) := dTo0_103.1.2.2.2.2.2.2.1
theorem dX5_cellsWithQuarters_10 : decode cX5_cellsWithQuarters 10 = .ok (.aload_n 0, 1) := dTo0_103.1.2.2.2.2.2.2.2.1
theorem dX5_cellsWithQuarters_11 : decode cX5_cellsWithQuarters 11 = .ok (.getfield 9, 3) := dTo0_103.1.2.2.2.2.2.2.2.2.1
theorem dX5_cellsWithQuarters_14 : decode cX5_cellsWithQuarters 14 = .ok (.iload_n 2, 1) := dTo0_103.1.2.2.2.2.2.2.2.2.2.1
theorem dX5_cellsWithQuarters_15 : decode cX5_cellsWithQuarters 15 = .ok (.iaload, 1) := dTo0_103.2.1.1
theorem dX5_cellsWithQuarters_16 : decode cX5_cellsWithQuarters 16 = .ok (.invokestatic 75, 3) := dTo0_103.2.1.2.1
theorem dX5_cellsWithQuarters_19 : decode cX5_cellsWithQuarters 19 = .ok (.ifCond .ne 6, 3) := dTo0_103.2.1.2.2.1
theorem dX5_cellsWithQuarters_22 : decode cX5_cellsWithQuarters 22 = .ok (.iinc 1 1, 3) := dTo0_103.2.1.2.2.2.1
theorem dX5_cellsWithQuarters_25 : decode cX5_cellsWithQuarters 25 = .ok (.iinc 2 1, 3) := dTo0_103.2.1.2.2.2.2.1
theorem dX5_cellsWithQuarters_28 : decode cX5_cellsWithQuarters 28 = .ok (.goto (-24), 3) := dTo0_103.2.1.2.2.2.2.2.1
theorem dX5_cellsWithQuarters_31 : decode cX5_cellsWithQuarters 31 = .ok (.iload_n 1, 1) := dTo0_103.2.1.2.2.2.2.2.2.1
theorem dX5_cellsWithQuarters_32 : decode cX5_cellsWithQuarters 32 = .ok (.ireturn, 1) := dTo0_103.2.1.2.2.2.2.2.2.2.1
theorem dTo0_104 : dQ cX5_nearPairs [[(0, zop3, 0, 0), (1, zop60, 0, 0), (2, zop3, 0, 0), (3, zop61, 0, 0), (4, zop28, 0, 0), (5, zop16, 8, 0), (7, zop162, 0, 46), (10, zop28, 0, 0), (11, zop4, 0, 0), (12, zop96, 0, 0)], [(13, zop62, 0, 0), (14, zop29, 0, 0), (15, zop16, 8, 0), (17, zop162, 0, 30), (20, zop42, 0, 0), (21, zop180, 0, 9), (24, zop28, 0, 0), (25, zop46, 0, 0), (26, zop42, 0, 0), (27, zop180, 0, 9)], [(30, zop29, 0, 0), (31, zop46, 0, 0), (32, zop184, 0, 133), (35, zop153, 0, 6), (38, zop132, 1, 1), (41, zop132, 3, 1), (44, zop167, 255, 226), (47, zop132, 2, 1), (50, zop167, 255, 210), (53, zop27, 0, 0)], [(54, zop172, 0, 0)]] := dQ_of _ _ (by decide +kernel)
theorem dX5_nearPairs_0 : decode cX5_nearPairs 0 = .ok (.iconst 0, 1) := dTo0_104.1.1
theorem dX5_nearPairs_1 : decode cX5_nearPairs 1 = .ok (.istore_n 1, 1) := dTo0_104.1.2.1
theorem dX5_nearPairs_2 : decode cX5_nearPairs 2 = .ok (.iconst 0, 1) := dTo0_104.1.2.2.1
theorem dX5_nearPairs_3 : decode cX5_nearPairs 3 = .ok (.istore_n 2, 1) := dTo0_104.1.2.2.2.1
theorem dX5_nearPairs_4 : decode cX5_nearPairs 4 = .ok (.iload_n 2, 1) := dTo0_104.1.2.2.2.2.1
theorem dX5_nearPairs_5 : decode cX5_nearPairs 5 = .ok (.bipush 8, 2) := dTo0_104.1.2.2.2.2.2.1
theorem dX5_nearPairs_7 : decode cX5_nearPairs 7 = .ok (.if_icmp .ge 46, 3) := dTo0_104.1.2.2.2.2.2.2.1
theorem dX5_nearPairs_10 : decode cX5_nearPairs 10 = .ok (.iload_n 2, 1) := dTo0_104.1.2.2.2.2.2.2.2.1
theorem dX5_nearPairs_11 : decode cX5_nearPairs 11 = .ok (.iconst 1, 1) := dTo0_104.1.2.2.2.2.2.2.2.2.1
theorem dX5_nearPairs_12 : decode cX5_nearPairs 12 = .ok (.iadd, 1) := dTo0_104.1.2.2.2.2.2.2.2.2.2.1
theorem dX5_nearPairs_13 : decode cX5_nearPairs 13 = .ok (.istore_n 3, 1) := dTo0_104.2.1.1
theorem dX5_nearPairs_14 : decode cX5_nearPairs 14 = .ok (.iload_n 3, 1) := dTo0_104.2.1.2.1
theorem dX5_nearPairs_15 : decode cX5_nearPairs 15 = .ok (.bipush 8, 2) := dTo0_104.2.1.2.2.1
theorem dX5_nearPairs_17 : decode cX5_nearPairs 17 = .ok (.if_icmp .ge 30, 3) := dTo0_104.2.1.2.2.2.1
theorem dX5_nearPairs_20 : decode cX5_nearPairs 20 = .ok (.aload_n 0, 1) := dTo0_104.2.1.2.2.2.2.1
theorem dX5_nearPairs_21 : decode cX5_nearPairs 21 = .ok (.getfield 9, 3) := dTo0_104.2.1.2.2.2.2.2.1
theorem dX5_nearPairs_24 : decode cX5_nearPairs 24 = .ok (.iload_n 2, 1) := dTo0_104.2.1.2.2.2.2.2.2.1
theorem dX5_nearPairs_25 : decode cX5_nearPairs 25 = .ok (.iaload, 1) := dTo0_104.2.1.2.2.2.2.2.2.2.1
theorem dX5_nearPairs_26 : decode cX5_nearPairs 26 = .ok (.aload_n 0, 1) := dTo0_104.2.1.2.2.2.2.2.2.2.2.1
theorem dX5_nearPairs_27 : decode cX5_nearPairs 27 = .ok (.getfield 9, 3) := dTo0_104.2.1.2.2.2.2.2.2.2.2.2.1
theorem dX5_nearPairs_30 : decode cX5_nearPairs 30 = .ok (.iload_n 3, 1) := dTo0_104.2.2.1.1
theorem dX5_nearPairs_31 : decode cX5_nearPairs 31 = .ok (.iaload, 1) := dTo0_104.2.2.1.2.1
theorem dX5_nearPairs_32 : decode cX5_nearPairs 32 = .ok (.invokestatic 133, 3) := dTo0_104.2.2.1.2.2.1
theorem dX5_nearPairs_35 : decode cX5_nearPairs 35 = .ok (.ifCond .eq 6, 3) := dTo0_104.2.2.1.2.2.2.1
theorem dX5_nearPairs_38 : decode cX5_nearPairs 38 = .ok (.iinc 1 1, 3) := dTo0_104.2.2.1.2.2.2.2.1
theorem dX5_nearPairs_41 : decode cX5_nearPairs 41 = .ok (.iinc 3 1, 3) := dTo0_104.2.2.1.2.2.2.2.2.1
theorem dX5_nearPairs_44 : decode cX5_nearPairs 44 = .ok (.goto (-30), 3) := dTo0_104.2.2.1.2.2.2.2.2.2.1
theorem dX5_nearPairs_47 : decode cX5_nearPairs 47 = .ok (.iinc 2 1, 3) := dTo0_104.2.2.1.2.2.2.2.2.2.2.1
theorem dX5_nearPairs_50 : decode cX5_nearPairs 50 = .ok (.goto (-46), 3) := dTo0_104.2.2.1.2.2.2.2.2.2.2.2.1
theorem dX5_nearPairs_53 : decode cX5_nearPairs 53 = .ok (.iload_n 1, 1) := dTo0_104.2.2.1.2.2.2.2.2.2.2.2.2.1
theorem dX5_nearPairs_54 : decode cX5_nearPairs 54 = .ok (.ireturn, 1) := dTo0_104.2.2.2.1.1
theorem dTo0_105 : dQ cX5_areWithin [[(0, zop26, 0, 0), (1, zop184, 0, 26), (4, zop27, 0, 0), (5, zop184, 0, 26), (8, zop184, 0, 183), (11, zop26, 0, 0), (12, zop184, 0, 72), (15, zop184, 0, 140), (18, zop133, 0, 0), (19, zop148, 0, 0)], [(20, zop157, 0, 7), (23, zop4, 0, 0), (24, zop167, 0, 4), (27, zop3, 0, 0), (28, zop172, 0, 0)]] := dQ_of _ _ (by decide +kernel)
theorem dX5_areWithin_0 : decode cX5_areWithin 0 = .ok (.iload_n 0, 1) := dTo0_105.1.1
theorem dX5_areWithin_1 : decode cX5_areWithin 1 = .ok (.invokestatic 26, 3) := dTo0_105.1.2.1
theorem dX5_areWithin_4 : decode cX5_areWithin 4 = .ok (.iload_n 1, 1) := dTo0_105.1.2.2.1
theorem dX5_areWithin_5 : decode cX5_areWithin 5 = .ok (.invokestatic 26, 3) := dTo0_105.1.2.2.2.1
theorem dX5_areWithin_8 : decode cX5_areWithin 8 = .ok (.invokestatic 183, 3) := dTo0_105.1.2.2.2.2.1
theorem dX5_areWithin_11 : decode cX5_areWithin 11 = .ok (.iload_n 0, 1) := dTo0_105.1.2.2.2.2.2.1
theorem dX5_areWithin_12 : decode cX5_areWithin 12 = .ok (.invokestatic 72, 3) := dTo0_105.1.2.2.2.2.2.2.1
theorem dX5_areWithin_15 : decode cX5_areWithin 15 = .ok (.invokestatic 140, 3) := dTo0_105.1.2.2.2.2.2.2.2.1
theorem dX5_areWithin_18 : decode cX5_areWithin 18 = .ok (.i2l, 1) := dTo0_105.1.2.2.2.2.2.2.2.2.1
theorem dX5_areWithin_19 : decode cX5_areWithin 19 = .ok (.lcmp, 1) := dTo0_105.1.2.2.2.2.2.2.2.2.2.1
theorem dX5_areWithin_20 : decode cX5_areWithin 20 = .ok (.ifCond .gt 7, 3) := dTo0_105.2.1.1
theorem dX5_areWithin_23 : decode cX5_areWithin 23 = .ok (.iconst 1, 1) := dTo0_105.2.1.2.1
theorem dX5_areWithin_24 : decode cX5_areWithin 24 = .ok (.goto 4, 3) := dTo0_105.2.1.2.2.1
theorem dX5_areWithin_27 : decode cX5_areWithin 27 = .ok (.iconst 0, 1) := dTo0_105.2.1.2.2.2.1
theorem dX5_areWithin_28 : decode cX5_areWithin 28 = .ok (.ireturn, 1) := dTo0_105.2.1.2.2.2.2.1
theorem dTo0_106 : dQ cX5_liesBetween [[(0, zop5, 0, 0), (1, zop26, 0, 0), (2, zop184, 0, 161), (5, zop64, 0, 0), (6, zop31, 0, 0), (7, zop20, 0, 241), (10, zop3, 0, 0), (11, zop184, 0, 167), (14, zop184, 0, 170), (17, zop158, 0, 32)], [(20, zop31, 0, 0), (21, zop26, 0, 0), (22, zop133, 0, 0), (23, zop5, 0, 0), (24, zop184, 0, 167), (27, zop184, 0, 170), (30, zop158, 0, 19), (33, zop31, 0, 0), (34, zop4, 0, 0), (35, zop26, 0, 0)], [(36, zop184, 0, 161), (39, zop184, 0, 170), (42, zop156, 0, 7), (45, zop4, 0, 0), (46, zop167, 0, 4), (49, zop3, 0, 0), (50, zop172, 0, 0)]] := dQ_of _ _ (by decide +kernel)
theorem dX5_liesBetween_0 : decode cX5_liesBetween 0 = .ok (.iconst 2, 1) := dTo0_106.1.1
theorem dX5_liesBetween_1 : decode cX5_liesBetween 1 = .ok (.iload_n 0, 1) := dTo0_106.1.2.1
theorem dX5_liesBetween_2 : decode cX5_liesBetween 2 = .ok (.invokestatic 161, 3) := dTo0_106.1.2.2.1
theorem dX5_liesBetween_5 : decode cX5_liesBetween 5 = .ok (.lstore_n 1, 1) := dTo0_106.1.2.2.2.1
theorem dX5_liesBetween_6 : decode cX5_liesBetween 6 = .ok (.lload_n 1, 1) := dTo0_106.1.2.2.2.2.1
theorem dX5_liesBetween_7 : decode cX5_liesBetween 7 = .ok (.ldc2_w 241, 3) := dTo0_106.1.2.2.2.2.2.1
theorem dX5_liesBetween_10 : decode cX5_liesBetween 10 = .ok (.iconst 0, 1) := dTo0_106.1.2.2.2.2.2.2.1
theorem dX5_liesBetween_11 : decode cX5_liesBetween 11 = .ok (.invokestatic 167, 3) := dTo0_106.1.2.2.2.2.2.2.2.1
theorem dX5_liesBetween_14 : decode cX5_liesBetween 14 = .ok (.invokestatic 170, 3) := dTo0_106.1.2.2.2.2.2.2.2.2.1
theorem dX5_liesBetween_17 : decode cX5_liesBetween 17 = .ok (.ifCond .le 32, 3) := dTo0_106.1.2.2.2.2.2.2.2.2.2.1
theorem dX5_liesBetween_20 : decode cX5_liesBetween 20 = .ok (.lload_n 1, 1) := dTo0_106.2.1.1
theorem dX5_liesBetween_21 : decode cX5_liesBetween 21 = .ok (.iload_n 0, 1) := dTo0_106.2.1.2.1
theorem dX5_liesBetween_22 : decode cX5_liesBetween 22 = .ok (.i2l, 1) := dTo0_106.2.1.2.2.1
theorem dX5_liesBetween_23 : decode cX5_liesBetween 23 = .ok (.iconst 2, 1) := dTo0_106.2.1.2.2.2.1
theorem dX5_liesBetween_24 : decode cX5_liesBetween 24 = .ok (.invokestatic 167, 3) := dTo0_106.2.1.2.2.2.2.1
theorem dX5_liesBetween_27 : decode cX5_liesBetween 27 = .ok (.invokestatic 170, 3) := dTo0_106.2.1.2.2.2.2.2.1
theorem dX5_liesBetween_30 : decode cX5_liesBetween 30 = .ok (.ifCond .le 19, 3) := dTo0_106.2.1.2.2.2.2.2.2.1
theorem dX5_liesBetween_33 : decode cX5_liesBetween 33 = .ok (.lload_n 1, 1) := dTo0_106.2.1.2.2.2.2.2.2.2.1
theorem dX5_liesBetween_34 : decode cX5_liesBetween 34 = .ok (.iconst 1, 1) := dTo0_106.2.1.2.2.2.2.2.2.2.2.1
theorem dX5_liesBetween_35 : decode cX5_liesBetween 35 = .ok (.iload_n 0, 1) := dTo0_106.2.1.2.2.2.2.2.2.2.2.2.1
theorem dX5_liesBetween_36 : decode cX5_liesBetween 36 = .ok (.invokestatic 161, 3) := dTo0_106.2.2.1.1
theorem dX5_liesBetween_39 : decode cX5_liesBetween 39 = .ok (.invokestatic 170, 3) := dTo0_106.2.2.1.2.1
theorem dX5_liesBetween_42 : decode cX5_liesBetween 42 = .ok (.ifCond .ge 7, 3) := dTo0_106.2.2.1.2.2.1
theorem dX5_liesBetween_45 : decode cX5_liesBetween 45 = .ok (.iconst 1, 1) := dTo0_106.2.2.1.2.2.2.1
theorem dX5_liesBetween_46 : decode cX5_liesBetween 46 = .ok (.goto 4, 3) := dTo0_106.2.2.1.2.2.2.2.1
theorem dX5_liesBetween_49 : decode cX5_liesBetween 49 = .ok (.iconst 0, 1) := dTo0_106.2.2.1.2.2.2.2.2.1
theorem dX5_liesBetween_50 : decode cX5_liesBetween 50 = .ok (.ireturn, 1) := dTo0_106.2.2.1.2.2.2.2.2.2.1
theorem dTo0_107 : dQ cX5_liesUnderQuarter [[(0, zop6, 0, 0), (1, zop26, 0, 0), (2, zop184, 0, 161), (5, zop26, 0, 0), (6, zop133, 0, 0), (7, zop5, 0, 0), (8, zop184, 0, 167), (11, zop184, 0, 170), (14, zop156, 0, 7), (17, zop4, 0, 0)], [(18, zop167, 0, 4), (21, zop3, 0, 0), (22, zop172, 0, 0)]] := dQ_of _ _ (by decide +kernel)
theorem dX5_liesUnderQuarter_0 : decode cX5_liesUnderQuarter 0 = .ok (.iconst 3, 1) := dTo0_107.1.1
theorem dX5_liesUnderQuarter_1 : decode cX5_liesUnderQuarter 1 = .ok (.iload_n 0, 1) := dTo0_107.1.2.1
theorem dX5_liesUnderQuarter_2 : decode cX5_liesUnderQuarter 2 = .ok (.invokestatic 161, 3) := dTo0_107.1.2.2.1
theorem dX5_liesUnderQuarter_5 : decode cX5_liesUnderQuarter 5 = .ok (.iload_n 0, 1) := dTo0_107.1.2.2.2.1
theorem dX5_liesUnderQuarter_6 : decode cX5_liesUnderQuarter 6 = .ok (.i2l, 1) := dTo0_107.1.2.2.2.2.1
theorem dX5_liesUnderQuarter_7 : decode cX5_liesUnderQuarter 7 = .ok (.iconst 2, 1) := dTo0_107.1.2.2.2.2.2.1
theorem dX5_liesUnderQuarter_8 : decode cX5_liesUnderQuarter 8 = .ok (.invokestatic 167, 3) := dTo0_107.1.2.2.2.2.2.2.1
theorem dX5_liesUnderQuarter_11 : decode cX5_liesUnderQuarter 11 = .ok (.invokestatic 170, 3) := dTo0_107.1.2.2.2.2.2.2.2.1
theorem dX5_liesUnderQuarter_14 : decode cX5_liesUnderQuarter 14 = .ok (.ifCond .ge 7, 3) := dTo0_107.1.2.2.2.2.2.2.2.2.1
theorem dX5_liesUnderQuarter_17 : decode cX5_liesUnderQuarter 17 = .ok (.iconst 1, 1) := dTo0_107.1.2.2.2.2.2.2.2.2.2.1
theorem dX5_liesUnderQuarter_18 : decode cX5_liesUnderQuarter 18 = .ok (.goto 4, 3) := dTo0_107.2.1.1
theorem dX5_liesUnderQuarter_21 : decode cX5_liesUnderQuarter 21 = .ok (.iconst 0, 1) := dTo0_107.2.1.2.1
theorem dX5_liesUnderQuarter_22 : decode cX5_liesUnderQuarter 22 = .ok (.ireturn, 1) := dTo0_107.2.1.2.2.1
theorem dX5_isInItsPlace_9 : decode cX5_isInItsPlace 9 = .ok (.tableswitch 60 2 4 #[27, 50, 55], 27) := by decide +kernel
theorem dTo0_108 : dQ cX5_isInItsPlace [[(0, zop26, 0, 0), (1, zop184, 0, 72), (4, zop60, 0, 0), (5, zop26, 0, 0), (6, zop184, 0, 75), (36, zop26, 0, 0), (37, zop184, 0, 26), (40, zop3, 0, 0), (41, zop184, 0, 20), (44, zop184, 0, 26)], [(47, zop184, 0, 170), (50, zop158, 0, 7), (53, zop4, 0, 0), (54, zop167, 0, 4), (57, zop3, 0, 0), (58, zop172, 0, 0), (59, zop27, 0, 0), (60, zop184, 0, 174), (63, zop172, 0, 0), (64, zop27, 0, 0)], [(65, zop184, 0, 177), (68, zop172, 0, 0), (69, zop4, 0, 0), (70, zop172, 0, 0)]] := dQ_of _ _ (by decide +kernel)
theorem dX5_isInItsPlace_0 : decode cX5_isInItsPlace 0 = .ok (.iload_n 0, 1) := dTo0_108.1.1
theorem dX5_isInItsPlace_1 : decode cX5_isInItsPlace 1 = .ok (.invokestatic 72, 3) := dTo0_108.1.2.1
theorem dX5_isInItsPlace_4 : decode cX5_isInItsPlace 4 = .ok (.istore_n 1, 1) := dTo0_108.1.2.2.1
theorem dX5_isInItsPlace_5 : decode cX5_isInItsPlace 5 = .ok (.iload_n 0, 1) := dTo0_108.1.2.2.2.1
theorem dX5_isInItsPlace_6 : decode cX5_isInItsPlace 6 = .ok (.invokestatic 75, 3) := dTo0_108.1.2.2.2.2.1
theorem dX5_isInItsPlace_36 : decode cX5_isInItsPlace 36 = .ok (.iload_n 0, 1) := dTo0_108.1.2.2.2.2.2.1
theorem dX5_isInItsPlace_37 : decode cX5_isInItsPlace 37 = .ok (.invokestatic 26, 3) := dTo0_108.1.2.2.2.2.2.2.1
theorem dX5_isInItsPlace_40 : decode cX5_isInItsPlace 40 = .ok (.iconst 0, 1) := dTo0_108.1.2.2.2.2.2.2.2.1
theorem dX5_isInItsPlace_41 : decode cX5_isInItsPlace 41 = .ok (.invokestatic 20, 3) := dTo0_108.1.2.2.2.2.2.2.2.2.1
theorem dX5_isInItsPlace_44 : decode cX5_isInItsPlace 44 = .ok (.invokestatic 26, 3) := dTo0_108.1.2.2.2.2.2.2.2.2.2.1
theorem dX5_isInItsPlace_47 : decode cX5_isInItsPlace 47 = .ok (.invokestatic 170, 3) := dTo0_108.2.1.1
theorem dX5_isInItsPlace_50 : decode cX5_isInItsPlace 50 = .ok (.ifCond .le 7, 3) := dTo0_108.2.1.2.1
theorem dX5_isInItsPlace_53 : decode cX5_isInItsPlace 53 = .ok (.iconst 1, 1) := dTo0_108.2.1.2.2.1
theorem dX5_isInItsPlace_54 : decode cX5_isInItsPlace 54 = .ok (.goto 4, 3) := dTo0_108.2.1.2.2.2.1
theorem dX5_isInItsPlace_57 : decode cX5_isInItsPlace 57 = .ok (.iconst 0, 1) := dTo0_108.2.1.2.2.2.2.1
theorem dX5_isInItsPlace_58 : decode cX5_isInItsPlace 58 = .ok (.ireturn, 1) := dTo0_108.2.1.2.2.2.2.2.1
theorem dX5_isInItsPlace_59 : decode cX5_isInItsPlace 59 = .ok (.iload_n 1, 1) := dTo0_108.2.1.2.2.2.2.2.2.1
theorem dX5_isInItsPlace_60 : decode cX5_isInItsPlace 60 = .ok (.invokestatic 174, 3) := dTo0_108.2.1.2.2.2.2.2.2.2.1
theorem dX5_isInItsPlace_63 : decode cX5_isInItsPlace 63 = .ok (.ireturn, 1) := dTo0_108.2.1.2.2.2.2.2.2.2.2.1
theorem dX5_isInItsPlace_64 : decode cX5_isInItsPlace 64 = .ok (.iload_n 1, 1) := dTo0_108.2.1.2.2.2.2.2.2.2.2.2.1
theorem dX5_isInItsPlace_65 : decode cX5_isInItsPlace 65 = .ok (.invokestatic 177, 3) := dTo0_108.2.2.1.1
theorem dX5_isInItsPlace_68 : decode cX5_isInItsPlace 68 = .ok (.ireturn, 1) := dTo0_108.2.2.1.2.1
theorem dX5_isInItsPlace_69 : decode cX5_isInItsPlace 69 = .ok (.iconst 1, 1) := dTo0_108.2.2.1.2.2.1
theorem dX5_isInItsPlace_70 : decode cX5_isInItsPlace 70 = .ok (.ireturn, 1) := dTo0_108.2.2.1.2.2.2.1
theorem dTo0_109 : dQ cX5_isPairSound [[(0, zop42, 0, 0), (1, zop180, 0, 9), (4, zop27, 0, 0), (5, zop46, 0, 0), (6, zop42, 0, 0), (7, zop180, 0, 9), (10, zop28, 0, 0), (11, zop46, 0, 0), (12, zop184, 0, 133), (15, zop153, 0, 19)], [(18, zop42, 0, 0), (19, zop180, 0, 9), (22, zop27, 0, 0), (23, zop46, 0, 0), (24, zop42, 0, 0), (25, zop180, 0, 9), (28, zop28, 0, 0), (29, zop46, 0, 0), (30, zop184, 0, 143), (33, zop172, 0, 0)], [(34, zop42, 0, 0), (35, zop27, 0, 0), (36, zop28, 0, 0), (37, zop182, 0, 90), (40, zop62, 0, 0), (41, zop29, 0, 0), (42, zop42, 0, 0), (43, zop28, 0, 0), (44, zop27, 0, 0), (45, zop182, 0, 90)], [(48, zop116, 0, 0), (49, zop160, 0, 39), (52, zop29, 0, 0), (53, zop154, 0, 7), (56, zop4, 0, 0), (57, zop167, 0, 4), (60, zop3, 0, 0), (61, zop42, 0, 0), (62, zop180, 0, 9), (65, zop27, 0, 0)], [(66, zop46, 0, 0), (67, zop42, 0, 0), (68, zop180, 0, 9), (71, zop28, 0, 0), (72, zop46, 0, 0), (73, zop160, 0, 7), (76, zop4, 0, 0), (77, zop167, 0, 4), (80, zop3, 0, 0), (81, zop160, 0, 7)], [(84, zop4, 0, 0), (85, zop167, 0, 4), (88, zop3, 0, 0), (89, zop172, 0, 0)]] := dQ_of _ _ (by decide +kernel)
theorem dX5_isPairSound_0 : decode cX5_isPairSound 0 = .ok (.aload_n 0, 1) := dTo0_109.1.1
theorem dX5_isPairSound_1 : decode cX5_isPairSound 1 = .ok (.getfield 9, 3) := dTo0_109.1.2.1
theorem dX5_isPairSound_4 : decode cX5_isPairSound 4 = .ok (.iload_n 1, 1) := dTo0_109.1.2.2.1
theorem dX5_isPairSound_5 : decode cX5_isPairSound 5 = .ok (.iaload, 1) := dTo0_109.1.2.2.2.1
theorem dX5_isPairSound_6 : decode cX5_isPairSound 6 = .ok (.aload_n 0, 1) := dTo0_109.1.2.2.2.2.1
theorem dX5_isPairSound_7 : decode cX5_isPairSound 7 = .ok (.getfield 9, 3) := dTo0_109.1.2.2.2.2.2.1
theorem dX5_isPairSound_10 : decode cX5_isPairSound 10 = .ok (.iload_n 2, 1) := dTo0_109.1.2.2.2.2.2.2.1
theorem dX5_isPairSound_11 : decode cX5_isPairSound 11 = .ok (.iaload, 1) := dTo0_109.1.2.2.2.2.2.2.2.1
theorem dX5_isPairSound_12 : decode cX5_isPairSound 12 = .ok (.invokestatic 133, 3) := dTo0_109.1.2.2.2.2.2.2.2.2.1
theorem dX5_isPairSound_15 : decode cX5_isPairSound 15 = .ok (.ifCond .eq 19, 3) := dTo0_109.1.2.2.2.2.2.2.2.2.2.1
theorem dX5_isPairSound_18 : decode cX5_isPairSound 18 = .ok (.aload_n 0, 1) := dTo0_109.2.1.1
theorem dX5_isPairSound_19 : decode cX5_isPairSound 19 = .ok (.getfield 9, 3) := dTo0_109.2.1.2.1
theorem dX5_isPairSound_22 : decode cX5_isPairSound 22 = .ok (.iload_n 1, 1) := dTo0_109.2.1.2.2.1
theorem dX5_isPairSound_23 : decode cX5_isPairSound 23 = .ok (.iaload, 1) := dTo0_109.2.1.2.2.2.1
theorem dX5_isPairSound_24 : decode cX5_isPairSound 24 = .ok (.aload_n 0, 1) := dTo0_109.2.1.2.2.2.2.1
theorem dX5_isPairSound_25 : decode cX5_isPairSound 25 = .ok (.getfield 9, 3) := dTo0_109.2.1.2.2.2.2.2.1
theorem dX5_isPairSound_28 : decode cX5_isPairSound 28 = .ok (.iload_n 2, 1) := dTo0_109.2.1.2.2.2.2.2.2.1
theorem dX5_isPairSound_29 : decode cX5_isPairSound 29 = .ok (.iaload, 1) := dTo0_109.2.1.2.2.2.2.2.2.2.1
theorem dX5_isPairSound_30 : decode cX5_isPairSound 30 = .ok (.invokestatic 143, 3) := dTo0_109.2.1.2.2.2.2.2.2.2.2.1
theorem dX5_isPairSound_33 : decode cX5_isPairSound 33 = .ok (.ireturn, 1) := dTo0_109.2.1.2.2.2.2.2.2.2.2.2.1
theorem dX5_isPairSound_34 : decode cX5_isPairSound 34 = .ok (.aload_n 0, 1) := dTo0_109.2.2.1.1
theorem dX5_isPairSound_35 : decode cX5_isPairSound 35 = .ok (.iload_n 1, 1) := dTo0_109.2.2.1.2.1
theorem dX5_isPairSound_36 : decode cX5_isPairSound 36 = .ok (.iload_n 2, 1) := dTo0_109.2.2.1.2.2.1
theorem dX5_isPairSound_37 : decode cX5_isPairSound 37 = .ok (.invokevirtual 90, 3) := dTo0_109.2.2.1.2.2.2.1
theorem dX5_isPairSound_40 : decode cX5_isPairSound 40 = .ok (.istore_n 3, 1) := dTo0_109.2.2.1.2.2.2.2.1
theorem dX5_isPairSound_41 : decode cX5_isPairSound 41 = .ok (.iload_n 3, 1) := dTo0_109.2.2.1.2.2.2.2.2.1
theorem dX5_isPairSound_42 : decode cX5_isPairSound 42 = .ok (.aload_n 0, 1) := dTo0_109.2.2.1.2.2.2.2.2.2.1
theorem dX5_isPairSound_43 : decode cX5_isPairSound 43 = .ok (.iload_n 2, 1) := dTo0_109.2.2.1.2.2.2.2.2.2.2.1
theorem dX5_isPairSound_44 : decode cX5_isPairSound 44 = .ok (.iload_n 1, 1) := dTo0_109.2.2.1.2.2.2.2.2.2.2.2.1
theorem dX5_isPairSound_45 : decode cX5_isPairSound 45 = .ok (.invokevirtual 90, 3) := dTo0_109.2.2.1.2.2.2.2.2.2.2.2.2.1
theorem dX5_isPairSound_48 : decode cX5_isPairSound 48 = .ok (.ineg, 1) := dTo0_109.2.2.2.1.1
theorem dX5_isPairSound_49 : decode cX5_isPairSound 49 = .ok (.if_icmp .ne 39, 3) := dTo0_109.2.2.2.1.2.1
theorem dX5_isPairSound_52 : decode cX5_isPairSound 52 = .ok (.iload_n 3, 1) := dTo0_109.2.2.2.1.2.2.1
theorem dX5_isPairSound_53 : decode cX5_isPairSound 53 = .ok (.ifCond .ne 7, 3) := dTo0_109.2.2.2.1.2.2.2.1
theorem dX5_isPairSound_56 : decode cX5_isPairSound 56 = .ok (.iconst 1, 1) := dTo0_109.2.2.2.1.2.2.2.2.1
theorem dX5_isPairSound_57 : decode cX5_isPairSound 57 = .ok (.goto 4, 3) := dTo0_109.2.2.2.1.2.2.2.2.2.1
theorem dX5_isPairSound_60 : decode cX5_isPairSound 60 = .ok (.iconst 0, 1) := dTo0_109.2.2.2.1.2.2.2.2.2.2.1
theorem dX5_isPairSound_61 : decode cX5_isPairSound 61 = .ok (.aload_n 0, 1) := dTo0_109.2.2.2.1.2.2.2.2.2.2.2.1
theorem dX5_isPairSound_62 : decode cX5_isPairSound 62 = .ok (.getfield 9, 3) := dTo0_109.2.2.2.1.2.2.2.2.2.2.2.2.1
theorem dX5_isPairSound_65 : decode cX5_isPairSound 65 = .ok (.iload_n 1, 1) := dTo0_109.2.2.2.1.2.2.2.2.2.2.2.2.2.1
theorem dX5_isPairSound_66 : decode cX5_isPairSound 66 = .ok (.iaload, 1) := dTo0_109.2.2.2.2.1.1
theorem dX5_isPairSound_67 : decode cX5_isPairSound 67 = .ok (.aload_n 0, 1) := dTo0_109.2.2.2.2.1.2.1
theorem dX5_isPairSound_68 : decode cX5_isPairSound 68 = .ok (.getfield 9, 3) := dTo0_109.2.2.2.2.1.2.2.1
theorem dX5_isPairSound_71 : decode cX5_isPairSound 71 = .ok (.iload_n 2, 1) := dTo0_109.2.2.2.2.1.2.2.2.1
theorem dX5_isPairSound_72 : decode cX5_isPairSound 72 = .ok (.iaload, 1) := dTo0_109.2.2.2.2.1.2.2.2.2.1
theorem dX5_isPairSound_73 : decode cX5_isPairSound 73 = .ok (.if_icmp .ne 7, 3) := dTo0_109.2.2.2.2.1.2.2.2.2.2.1
theorem dX5_isPairSound_76 : decode cX5_isPairSound 76 = .ok (.iconst 1, 1) := dTo0_109.2.2.2.2.1.2.2.2.2.2.2.1
theorem dX5_isPairSound_77 : decode cX5_isPairSound 77 = .ok (.goto 4, 3) := dTo0_109.2.2.2.2.1.2.2.2.2.2.2.2.1
theorem dX5_isPairSound_80 : decode cX5_isPairSound 80 = .ok (.iconst 0, 1) := dTo0_109.2.2.2.2.1.2.2.2.2.2.2.2.2.1
theorem dX5_isPairSound_81 : decode cX5_isPairSound 81 = .ok (.if_icmp .ne 7, 3) := dTo0_109.2.2.2.2.1.2.2.2.2.2.2.2.2.2.1
theorem dX5_isPairSound_84 : decode cX5_isPairSound 84 = .ok (.iconst 1, 1) := dTo0_109.2.2.2.2.2.1.1
theorem dX5_isPairSound_85 : decode cX5_isPairSound 85 = .ok (.goto 4, 3) := dTo0_109.2.2.2.2.2.1.2.1
theorem dX5_isPairSound_88 : decode cX5_isPairSound 88 = .ok (.iconst 0, 1) := dTo0_109.2.2.2.2.2.1.2.2.1
theorem dX5_isPairSound_89 : decode cX5_isPairSound 89 = .ok (.ireturn, 1) := dTo0_109.2.2.2.2.2.1.2.2.2.1
theorem dTo0_110 : dQ cX5_areTriplesSound [[(0, zop3, 0, 0), (1, zop60, 0, 0), (2, zop27, 0, 0), (3, zop16, 8, 0), (5, zop162, 0, 80), (8, zop3, 0, 0), (9, zop61, 0, 0), (10, zop28, 0, 0), (11, zop16, 8, 0), (13, zop162, 0, 66)], [(16, zop42, 0, 0), (17, zop27, 0, 0), (18, zop28, 0, 0), (19, zop182, 0, 90), (22, zop157, 0, 7), (25, zop4, 0, 0), (26, zop167, 0, 4), (29, zop3, 0, 0), (30, zop62, 0, 0), (31, zop3, 0, 0)], [(32, zop54, 4, 0), (34, zop21, 4, 0), (36, zop16, 8, 0), (38, zop162, 0, 35), (41, zop29, 0, 0), (42, zop153, 0, 31), (45, zop42, 0, 0), (46, zop28, 0, 0), (47, zop21, 4, 0), (49, zop182, 0, 90)], [(52, zop157, 0, 15), (55, zop42, 0, 0), (56, zop27, 0, 0), (57, zop21, 4, 0), (59, zop182, 0, 90), (62, zop158, 0, 5), (65, zop3, 0, 0), (66, zop172, 0, 0), (67, zop132, 4, 1), (70, zop167, 255, 220)], [(73, zop132, 2, 1), (76, zop167, 255, 190), (79, zop132, 1, 1), (82, zop167, 255, 176), (85, zop4, 0, 0), (86, zop172, 0, 0)]] := dQ_of _ _ (by decide +kernel)
theorem dX5_areTriplesSound_0 : decode cX5_areTriplesSound 0 = .ok (.iconst 0, 1) := dTo0_110.1.1
theorem dX5_areTriplesSound_1 : decode cX5_areTriplesSound 1 = .ok (.istore_n 1, 1) := dTo0_110.1.2.1
theorem dX5_areTriplesSound_2 : decode cX5_areTriplesSound 2 = .ok (.iload_n 1, 1) := dTo0_110.1.2.2.1
theorem dX5_areTriplesSound_3 : decode cX5_areTriplesSound 3 = .ok (.bipush 8, 2) := dTo0_110.1.2.2.2.1
theorem dX5_areTriplesSound_5 : decode cX5_areTriplesSound 5 = .ok (.if_icmp .ge 80, 3) := dTo0_110.1.2.2.2.2.1
theorem dX5_areTriplesSound_8 : decode cX5_areTriplesSound 8 = .ok (.iconst 0, 1) := dTo0_110.1.2.2.2.2.2.1
theorem dX5_areTriplesSound_9 : decode cX5_areTriplesSound 9 = .ok (.istore_n 2, 1) := dTo0_110.1.2.2.2.2.2.2.1
theorem dX5_areTriplesSound_10 : decode cX5_areTriplesSound 10 = .ok (.iload_n 2, 1) := dTo0_110.1.2.2.2.2.2.2.2.1
theorem dX5_areTriplesSound_11 : decode cX5_areTriplesSound 11 = .ok (.bipush 8, 2) := dTo0_110.1.2.2.2.2.2.2.2.2.1
theorem dX5_areTriplesSound_13 : decode cX5_areTriplesSound 13 = .ok (.if_icmp .ge 66, 3) := dTo0_110.1.2.2.2.2.2.2.2.2.2.1
theorem dX5_areTriplesSound_16 : decode cX5_areTriplesSound 16 = .ok (.aload_n 0, 1) := dTo0_110.2.1.1
theorem dX5_areTriplesSound_17 : decode cX5_areTriplesSound 17 = .ok (.iload_n 1, 1) := dTo0_110.2.1.2.1
theorem dX5_areTriplesSound_18 : decode cX5_areTriplesSound 18 = .ok (.iload_n 2, 1) := dTo0_110.2.1.2.2.1
theorem dX5_areTriplesSound_19 : decode cX5_areTriplesSound 19 = .ok (.invokevirtual 90, 3) := dTo0_110.2.1.2.2.2.1
theorem dX5_areTriplesSound_22 : decode cX5_areTriplesSound 22 = .ok (.ifCond .gt 7, 3) := dTo0_110.2.1.2.2.2.2.1
theorem dX5_areTriplesSound_25 : decode cX5_areTriplesSound 25 = .ok (.iconst 1, 1) := dTo0_110.2.1.2.2.2.2.2.1
theorem dX5_areTriplesSound_26 : decode cX5_areTriplesSound 26 = .ok (.goto 4, 3) := dTo0_110.2.1.2.2.2.2.2.2.1
theorem dX5_areTriplesSound_29 : decode cX5_areTriplesSound 29 = .ok (.iconst 0, 1) := dTo0_110.2.1.2.2.2.2.2.2.2.1
theorem dX5_areTriplesSound_30 : decode cX5_areTriplesSound 30 = .ok (.istore_n 3, 1) := dTo0_110.2.1.2.2.2.2.2.2.2.2.1
theorem dX5_areTriplesSound_31 : decode cX5_areTriplesSound 31 = .ok (.iconst 0, 1) := dTo0_110.2.1.2.2.2.2.2.2.2.2.2.1
theorem dX5_areTriplesSound_32 : decode cX5_areTriplesSound 32 = .ok (.istore 4, 2) := dTo0_110.2.2.1.1
theorem dX5_areTriplesSound_34 : decode cX5_areTriplesSound 34 = .ok (.iload 4, 2) := dTo0_110.2.2.1.2.1
theorem dX5_areTriplesSound_36 : decode cX5_areTriplesSound 36 = .ok (.bipush 8, 2) := dTo0_110.2.2.1.2.2.1
theorem dX5_areTriplesSound_38 : decode cX5_areTriplesSound 38 = .ok (.if_icmp .ge 35, 3) := dTo0_110.2.2.1.2.2.2.1
theorem dX5_areTriplesSound_41 : decode cX5_areTriplesSound 41 = .ok (.iload_n 3, 1) := dTo0_110.2.2.1.2.2.2.2.1
theorem dX5_areTriplesSound_42 : decode cX5_areTriplesSound 42 = .ok (.ifCond .eq 31, 3) := dTo0_110.2.2.1.2.2.2.2.2.1
theorem dX5_areTriplesSound_45 : decode cX5_areTriplesSound 45 = .ok (.aload_n 0, 1) := dTo0_110.2.2.1.2.2.2.2.2.2.1
theorem dX5_areTriplesSound_46 : decode cX5_areTriplesSound 46 = .ok (.iload_n 2, 1) := dTo0_110.2.2.1.2.2.2.2.2.2.2.1
theorem dX5_areTriplesSound_47 : decode cX5_areTriplesSound 47 = .ok (.iload 4, 2) := dTo0_110.2.2.1.2.2.2.2.2.2.2.2.1
theorem dX5_areTriplesSound_49 : decode cX5_areTriplesSound 49 = .ok (.invokevirtual 90, 3) := dTo0_110.2.2.1.2.2.2.2.2.2.2.2.2.1
theorem dX5_areTriplesSound_52 : decode cX5_areTriplesSound 52 = .ok (.ifCond .gt 15, 3) := dTo0_110.2.2.2.1.1
theorem dX5_areTriplesSound_55 : decode cX5_areTriplesSound 55 = .ok (.aload_n 0, 1) := dTo0_110.2.2.2.1.2.1
theorem dX5_areTriplesSound_56 : decode cX5_areTriplesSound 56 = .ok (.iload_n 1, 1) := dTo0_110.2.2.2.1.2.2.1
theorem dX5_areTriplesSound_57 : decode cX5_areTriplesSound 57 = .ok (.iload 4, 2) := dTo0_110.2.2.2.1.2.2.2.1
theorem dX5_areTriplesSound_59 : decode cX5_areTriplesSound 59 = .ok (.invokevirtual 90, 3) := dTo0_110.2.2.2.1.2.2.2.2.1
theorem dX5_areTriplesSound_62 : decode cX5_areTriplesSound 62 = .ok (.ifCond .le 5, 3) := dTo0_110.2.2.2.1.2.2.2.2.2.1
theorem dX5_areTriplesSound_65 : decode cX5_areTriplesSound 65 = .ok (.iconst 0, 1) := dTo0_110.2.2.2.1.2.2.2.2.2.2.1
theorem dX5_areTriplesSound_66 : decode cX5_areTriplesSound 66 = .ok (.ireturn, 1) := dTo0_110.2.2.2.1.2.2.2.2.2.2.2.1
theorem dX5_areTriplesSound_67 : decode cX5_areTriplesSound 67 = .ok (.iinc 4 1, 3) := dTo0_110.2.2.2.1.2.2.2.2.2.2.2.2.1
theorem dX5_areTriplesSound_70 : decode cX5_areTriplesSound 70 = .ok (.goto (-36), 3) := dTo0_110.2.2.2.1.2.2.2.2.2.2.2.2.2.1
theorem dX5_areTriplesSound_73 : decode cX5_areTriplesSound 73 = .ok (.iinc 2 1, 3) := dTo0_110.2.2.2.2.1.1
theorem dX5_areTriplesSound_76 : decode cX5_areTriplesSound 76 = .ok (.goto (-66), 3) := dTo0_110.2.2.2.2.1.2.1
theorem dX5_areTriplesSound_79 : decode cX5_areTriplesSound 79 = .ok (.iinc 1 1, 3) := dTo0_110.2.2.2.2.1.2.2.1
theorem dX5_areTriplesSound_82 : decode cX5_areTriplesSound 82 = .ok (.goto (-80), 3) := dTo0_110.2.2.2.2.1.2.2.2.1
theorem dX5_areTriplesSound_85 : decode cX5_areTriplesSound 85 = .ok (.iconst 1, 1) := dTo0_110.2.2.2.2.1.2.2.2.2.1
theorem dX5_areTriplesSound_86 : decode cX5_areTriplesSound 86 = .ok (.ireturn, 1) := dTo0_110.2.2.2.2.1.2.2.2.2.2.1
theorem dTo0_111 : dQ cX5_digestCell [[(0, zop31, 0, 0), (1, zop20, 0, 230), (4, zop105, 0, 0), (5, zop42, 0, 0), (6, zop29, 0, 0), (7, zop182, 0, 243), (10, zop133, 0, 0), (11, zop97, 0, 0), (12, zop55, 4, 0), (14, zop22, 4, 0)], [(16, zop20, 0, 230), (19, zop105, 0, 0), (20, zop42, 0, 0), (21, zop29, 0, 0), (22, zop182, 0, 246), (25, zop133, 0, 0), (26, zop97, 0, 0), (27, zop55, 4, 0), (29, zop22, 4, 0), (31, zop20, 0, 230)], [(34, zop105, 0, 0), (35, zop42, 0, 0), (36, zop29, 0, 0), (37, zop182, 0, 249), (40, zop153, 0, 7), (43, zop4, 0, 0), (44, zop167, 0, 4), (47, zop3, 0, 0), (48, zop133, 0, 0), (49, zop97, 0, 0)], [(50, zop55, 4, 0), (52, zop42, 0, 0), (53, zop180, 0, 9), (56, zop29, 0, 0), (57, zop46, 0, 0), (58, zop184, 0, 252), (61, zop153, 0, 36), (64, zop22, 4, 0), (66, zop20, 0, 230), (69, zop105, 0, 0)], [(70, zop42, 0, 0), (71, zop29, 0, 0), (72, zop182, 0, 255), (75, zop133, 0, 0), (76, zop97, 0, 0), (77, zop55, 4, 0), (79, zop22, 4, 0), (81, zop20, 0, 230), (84, zop105, 0, 0), (85, zop42, 0, 0)], [(86, zop29, 0, 0), (87, zop182, 1, 2), (90, zop133, 0, 0), (91, zop97, 0, 0), (92, zop55, 4, 0), (94, zop167, 0, 11), (97, zop22, 4, 0), (99, zop20, 0, 230), (102, zop105, 0, 0), (103, zop55, 4, 0)]] := dQ_of _ _ (by decide +kernel)
theorem dX5_digestCell_0 : decode cX5_digestCell 0 = .ok (.lload_n 1, 1) := dTo0_111.1.1
theorem dX5_digestCell_1 : decode cX5_digestCell 1 = .ok (.ldc2_w 230, 3) := dTo0_111.1.2.1
theorem dX5_digestCell_4 : decode cX5_digestCell 4 = .ok (.lmul, 1) := dTo0_111.1.2.2.1
theorem dX5_digestCell_5 : decode cX5_digestCell 5 = .ok (.aload_n 0, 1) := dTo0_111.1.2.2.2.1
theorem dX5_digestCell_6 : decode cX5_digestCell 6 = .ok (.iload_n 3, 1) := dTo0_111.1.2.2.2.2.1
theorem dX5_digestCell_7 : decode cX5_digestCell 7 = .ok (.invokevirtual 243, 3) := dTo0_111.1.2.2.2.2.2.1
theorem dX5_digestCell_10 : decode cX5_digestCell 10 = .ok (.i2l, 1) := dTo0_111.1.2.2.2.2.2.2.1
theorem dX5_digestCell_11 : decode cX5_digestCell 11 = .ok (.ladd, 1) := dTo0_111.1.2.2.2.2.2.2.2.1
theorem dX5_digestCell_12 : decode cX5_digestCell 12 = .ok (.lstore 4, 2) := dTo0_111.1.2.2.2.2.2.2.2.2.1
theorem dX5_digestCell_14 : decode cX5_digestCell 14 = .ok (.lload 4, 2) := dTo0_111.1.2.2.2.2.2.2.2.2.2.1
theorem dX5_digestCell_16 : decode cX5_digestCell 16 = .ok (.ldc2_w 230, 3) := dTo0_111.2.1.1
theorem dX5_digestCell_19 : decode cX5_digestCell 19 = .ok (.lmul, 1) := dTo0_111.2.1.2.1
theorem dX5_digestCell_20 : decode cX5_digestCell 20 = .ok (.aload_n 0, 1) := dTo0_111.2.1.2.2.1
theorem dX5_digestCell_21 : decode cX5_digestCell 21 = .ok (.iload_n 3, 1) := dTo0_111.2.1.2.2.2.1
theorem dX5_digestCell_22 : decode cX5_digestCell 22 = .ok (.invokevirtual 246, 3) := dTo0_111.2.1.2.2.2.2.1
theorem dX5_digestCell_25 : decode cX5_digestCell 25 = .ok (.i2l, 1) := dTo0_111.2.1.2.2.2.2.2.1
theorem dX5_digestCell_26 : decode cX5_digestCell 26 = .ok (.ladd, 1) := dTo0_111.2.1.2.2.2.2.2.2.1
theorem dX5_digestCell_27 : decode cX5_digestCell 27 = .ok (.lstore 4, 2) := dTo0_111.2.1.2.2.2.2.2.2.2.1
theorem dX5_digestCell_29 : decode cX5_digestCell 29 = .ok (.lload 4, 2) := dTo0_111.2.1.2.2.2.2.2.2.2.2.1
theorem dX5_digestCell_31 : decode cX5_digestCell 31 = .ok (.ldc2_w 230, 3) := dTo0_111.2.1.2.2.2.2.2.2.2.2.2.1
theorem dX5_digestCell_34 : decode cX5_digestCell 34 = .ok (.lmul, 1) := dTo0_111.2.2.1.1
theorem dX5_digestCell_35 : decode cX5_digestCell 35 = .ok (.aload_n 0, 1) := dTo0_111.2.2.1.2.1
theorem dX5_digestCell_36 : decode cX5_digestCell 36 = .ok (.iload_n 3, 1) := dTo0_111.2.2.1.2.2.1
theorem dX5_digestCell_37 : decode cX5_digestCell 37 = .ok (.invokevirtual 249, 3) := dTo0_111.2.2.1.2.2.2.1
theorem dX5_digestCell_40 : decode cX5_digestCell 40 = .ok (.ifCond .eq 7, 3) := dTo0_111.2.2.1.2.2.2.2.1
theorem dX5_digestCell_43 : decode cX5_digestCell 43 = .ok (.iconst 1, 1) := dTo0_111.2.2.1.2.2.2.2.2.1
theorem dX5_digestCell_44 : decode cX5_digestCell 44 = .ok (.goto 4, 3) := dTo0_111.2.2.1.2.2.2.2.2.2.1
theorem dX5_digestCell_47 : decode cX5_digestCell 47 = .ok (.iconst 0, 1) := dTo0_111.2.2.1.2.2.2.2.2.2.2.1
theorem dX5_digestCell_48 : decode cX5_digestCell 48 = .ok (.i2l, 1) := dTo0_111.2.2.1.2.2.2.2.2.2.2.2.1
theorem dX5_digestCell_49 : decode cX5_digestCell 49 = .ok (.ladd, 1) := dTo0_111.2.2.1.2.2.2.2.2.2.2.2.2.1
theorem dX5_digestCell_50 : decode cX5_digestCell 50 = .ok (.lstore 4, 2) := dTo0_111.2.2.2.1.1
theorem dX5_digestCell_52 : decode cX5_digestCell 52 = .ok (.aload_n 0, 1) := dTo0_111.2.2.2.1.2.1
theorem dX5_digestCell_53 : decode cX5_digestCell 53 = .ok (.getfield 9, 3) := dTo0_111.2.2.2.1.2.2.1
theorem dX5_digestCell_56 : decode cX5_digestCell 56 = .ok (.iload_n 3, 1) := dTo0_111.2.2.2.1.2.2.2.1
theorem dX5_digestCell_57 : decode cX5_digestCell 57 = .ok (.iaload, 1) := dTo0_111.2.2.2.1.2.2.2.2.1
theorem dX5_digestCell_58 : decode cX5_digestCell 58 = .ok (.invokestatic 252, 3) := dTo0_111.2.2.2.1.2.2.2.2.2.1
theorem dX5_digestCell_61 : decode cX5_digestCell 61 = .ok (.ifCond .eq 36, 3) := dTo0_111.2.2.2.1.2.2.2.2.2.2.1
theorem dX5_digestCell_64 : decode cX5_digestCell 64 = .ok (.lload 4, 2) := dTo0_111.2.2.2.1.2.2.2.2.2.2.2.1
theorem dX5_digestCell_66 : decode cX5_digestCell 66 = .ok (.ldc2_w 230, 3) := dTo0_111.2.2.2.1.2.2.2.2.2.2.2.2.1
theorem dX5_digestCell_69 : decode cX5_digestCell 69 = .ok (.lmul, 1) := dTo0_111.2.2.2.1.2.2.2.2.2.2.2.2.2.1
theorem dX5_digestCell_70 : decode cX5_digestCell 70 = .ok (.aload_n 0, 1) := dTo0_111.2.2.2.2.1.1
theorem dX5_digestCell_71 : decode cX5_digestCell 71 = .ok (.iload_n 3, 1) := dTo0_111.2.2.2.2.1.2.1
theorem dX5_digestCell_72 : decode cX5_digestCell 72 = .ok (.invokevirtual 255, 3) := dTo0_111.2.2.2.2.1.2.2.1
theorem dX5_digestCell_75 : decode cX5_digestCell 75 = .ok (.i2l, 1) := dTo0_111.2.2.2.2.1.2.2.2.1
theorem dX5_digestCell_76 : decode cX5_digestCell 76 = .ok (.ladd, 1) := dTo0_111.2.2.2.2.1.2.2.2.2.1
theorem dX5_digestCell_77 : decode cX5_digestCell 77 = .ok (.lstore 4, 2) := dTo0_111.2.2.2.2.1.2.2.2.2.2.1
theorem dX5_digestCell_79 : decode cX5_digestCell 79 = .ok (.lload 4, 2) := dTo0_111.2.2.2.2.1.2.2.2.2.2.2.1
theorem dX5_digestCell_81 : decode cX5_digestCell 81 = .ok (.ldc2_w 230, 3) := dTo0_111.2.2.2.2.1.2.2.2.2.2.2.2.1
theorem dX5_digestCell_84 : decode cX5_digestCell 84 = .ok (.lmul, 1) := dTo0_111.2.2.2.2.1.2.2.2.2.2.2.2.2.1
theorem dX5_digestCell_85 : decode cX5_digestCell 85 = .ok (.aload_n 0, 1) := dTo0_111.2.2.2.2.1.2.2.2.2.2.2.2.2.2.1
theorem dX5_digestCell_86 : decode cX5_digestCell 86 = .ok (.iload_n 3, 1) := dTo0_111.2.2.2.2.2.1.1
theorem dX5_digestCell_87 : decode cX5_digestCell 87 = .ok (.invokevirtual 258, 3) := dTo0_111.2.2.2.2.2.1.2.1
theorem dX5_digestCell_90 : decode cX5_digestCell 90 = .ok (.i2l, 1) := dTo0_111.2.2.2.2.2.1.2.2.1
theorem dX5_digestCell_91 : decode cX5_digestCell 91 = .ok (.ladd, 1) := dTo0_111.2.2.2.2.2.1.2.2.2.1
theorem dX5_digestCell_92 : decode cX5_digestCell 92 = .ok (.lstore 4, 2) := dTo0_111.2.2.2.2.2.1.2.2.2.2.1
theorem dX5_digestCell_94 : decode cX5_digestCell 94 = .ok (.goto 11, 3) := dTo0_111.2.2.2.2.2.1.2.2.2.2.2.1
theorem dX5_digestCell_97 : decode cX5_digestCell 97 = .ok (.lload 4, 2) := dTo0_111.2.2.2.2.2.1.2.2.2.2.2.2.1
theorem dX5_digestCell_99 : decode cX5_digestCell 99 = .ok (.ldc2_w 230, 3) := dTo0_111.2.2.2.2.2.1.2.2.2.2.2.2.2.1
theorem dX5_digestCell_102 : decode cX5_digestCell 102 = .ok (.lmul, 1) := dTo0_111.2.2.2.2.2.1.2.2.2.2.2.2.2.2.1
theorem dX5_digestCell_103 : decode cX5_digestCell 103 = .ok (.lstore 4, 2) := dTo0_111.2.2.2.2.2.1.2.2.2.2.2.2.2.2.2.1
theorem dTo0_112 : dQ cX5_digestCell [[(105, zop42, 0, 0), (106, zop180, 0, 9), (109, zop29, 0, 0), (110, zop46, 0, 0), (111, zop184, 1, 5), (114, zop153, 0, 36), (117, zop22, 4, 0), (119, zop20, 0, 230), (122, zop105, 0, 0), (123, zop42, 0, 0)], [(124, zop29, 0, 0), (125, zop182, 1, 8), (128, zop133, 0, 0), (129, zop97, 0, 0), (130, zop55, 4, 0), (132, zop22, 4, 0), (134, zop20, 0, 230), (137, zop105, 0, 0), (138, zop42, 0, 0), (139, zop29, 0, 0)], [(140, zop182, 1, 11), (143, zop133, 0, 0), (144, zop97, 0, 0), (145, zop55, 4, 0), (147, zop167, 0, 11), (150, zop22, 4, 0), (152, zop20, 0, 230), (155, zop105, 0, 0), (156, zop55, 4, 0), (158, zop22, 4, 0)], [(160, zop20, 0, 230), (163, zop105, 0, 0), (164, zop42, 0, 0), (165, zop29, 0, 0), (166, zop3, 0, 0), (167, zop182, 1, 14), (170, zop133, 0, 0), (171, zop97, 0, 0), (172, zop55, 4, 0), (174, zop22, 4, 0)], [(176, zop20, 0, 230), (179, zop105, 0, 0), (180, zop42, 0, 0), (181, zop29, 0, 0), (182, zop4, 0, 0), (183, zop182, 1, 14), (186, zop133, 0, 0), (187, zop97, 0, 0), (188, zop55, 4, 0), (190, zop22, 4, 0)], [(192, zop20, 0, 230), (195, zop105, 0, 0), (196, zop42, 0, 0), (197, zop29, 0, 0), (198, zop182, 1, 18), (201, zop133, 0, 0), (202, zop97, 0, 0), (203, zop55, 4, 0), (205, zop3, 0, 0), (206, zop54, 6, 0)]] := dQ_of _ _ (by decide +kernel)
theorem dX5_digestCell_105 : decode cX5_digestCell 105 = .ok (.aload_n 0, 1) := dTo0_112.1.1
theorem dX5_digestCell_106 : decode cX5_digestCell 106 = .ok (.getfield 9, 3) := dTo0_112.1.2.1
theorem dX5_digestCell_109 : decode cX5_digestCell 109 = .ok (.iload_n 3, 1) := dTo0_112.1.2.2.1
theorem dX5_digestCell_110 : decode cX5_digestCell 110 = .ok (.iaload, 1) := dTo0_112.1.2.2.2.1
theorem dX5_digestCell_111 : decode cX5_digestCell 111 = .ok (.invokestatic 261, 3) := dTo0_112.1.2.2.2.2.1
theorem dX5_digestCell_114 : decode cX5_digestCell 114 = .ok (.ifCond .eq 36, 3) := dTo0_112.1.2.2.2.2.2.1
theorem dX5_digestCell_117 : decode cX5_digestCell 117 = .ok (.lload 4, 2) := dTo0_112.1.2.2.2.2.2.2.1
theorem dX5_digestCell_119 : decode cX5_digestCell 119 = .ok (.ldc2_w 230, 3) := dTo0_112.1.2.2.2.2.2.2.2.1
theorem dX5_digestCell_122 : decode cX5_digestCell 122 = .ok (.lmul, 1) := dTo0_112.1.2.2.2.2.2.2.2.2.1
theorem dX5_digestCell_123 : decode cX5_digestCell 123 = .ok (.aload_n 0, 1) := dTo0_112.1.2.2.2.2.2.2.2.2.2.1
theorem dX5_digestCell_124 : decode cX5_digestCell 124 = .ok (.iload_n 3, 1) := dTo0_112.2.1.1
theorem dX5_digestCell_125 : decode cX5_digestCell 125 = .ok (.invokevirtual 264, 3) := dTo0_112.2.1.2.1
theorem dX5_digestCell_128 : decode cX5_digestCell 128 = .ok (.i2l, 1) := dTo0_112.2.1.2.2.1
theorem dX5_digestCell_129 : decode cX5_digestCell 129 = .ok (.ladd, 1) := dTo0_112.2.1.2.2.2.1
theorem dX5_digestCell_130 : decode cX5_digestCell 130 = .ok (.lstore 4, 2) := dTo0_112.2.1.2.2.2.2.1
theorem dX5_digestCell_132 : decode cX5_digestCell 132 = .ok (.lload 4, 2) := dTo0_112.2.1.2.2.2.2.2.1
theorem dX5_digestCell_134 : decode cX5_digestCell 134 = .ok (.ldc2_w 230, 3) := dTo0_112.2.1.2.2.2.2.2.2.1
theorem dX5_digestCell_137 : decode cX5_digestCell 137 = .ok (.lmul, 1) := dTo0_112.2.1.2.2.2.2.2.2.2.1
theorem dX5_digestCell_138 : decode cX5_digestCell 138 = .ok (.aload_n 0, 1) := dTo0_112.2.1.2.2.2.2.2.2.2.2.1
theorem dX5_digestCell_139 : decode cX5_digestCell 139 = .ok (.iload_n 3, 1) := dTo0_112.2.1.2.2.2.2.2.2.2.2.2.1
theorem dX5_digestCell_140 : decode cX5_digestCell 140 = .ok (.invokevirtual 267, 3) := dTo0_112.2.2.1.1
theorem dX5_digestCell_143 : decode cX5_digestCell 143 = .ok (.i2l, 1) := dTo0_112.2.2.1.2.1
theorem dX5_digestCell_144 : decode cX5_digestCell 144 = .ok (.ladd, 1) := dTo0_112.2.2.1.2.2.1
theorem dX5_digestCell_145 : decode cX5_digestCell 145 = .ok (.lstore 4, 2) := dTo0_112.2.2.1.2.2.2.1
theorem dX5_digestCell_147 : decode cX5_digestCell 147 = .ok (.goto 11, 3) := dTo0_112.2.2.1.2.2.2.2.1
theorem dX5_digestCell_150 : decode cX5_digestCell 150 = .ok (.lload 4, 2) := dTo0_112.2.2.1.2.2.2.2.2.1
theorem dX5_digestCell_152 : decode cX5_digestCell 152 = .ok (.ldc2_w 230, 3) := dTo0_112.2.2.1.2.2.2.2.2.2.1
theorem dX5_digestCell_155 : decode cX5_digestCell 155 = .ok (.lmul, 1) := dTo0_112.2.2.1.2.2.2.2.2.2.2.1
theorem dX5_digestCell_156 : decode cX5_digestCell 156 = .ok (.lstore 4, 2) := dTo0_112.2.2.1.2.2.2.2.2.2.2.2.1
theorem dX5_digestCell_158 : decode cX5_digestCell 158 = .ok (.lload 4, 2) := dTo0_112.2.2.1.2.2.2.2.2.2.2.2.2.1
theorem dX5_digestCell_160 : decode cX5_digestCell 160 = .ok (.ldc2_w 230, 3) := dTo0_112.2.2.2.1.1
theorem dX5_digestCell_163 : decode cX5_digestCell 163 = .ok (.lmul, 1) := dTo0_112.2.2.2.1.2.1
theorem dX5_digestCell_164 : decode cX5_digestCell 164 = .ok (.aload_n 0, 1) := dTo0_112.2.2.2.1.2.2.1
theorem dX5_digestCell_165 : decode cX5_digestCell 165 = .ok (.iload_n 3, 1) := dTo0_112.2.2.2.1.2.2.2.1
theorem dX5_digestCell_166 : decode cX5_digestCell 166 = .ok (.iconst 0, 1) := dTo0_112.2.2.2.1.2.2.2.2.1
theorem dX5_digestCell_167 : decode cX5_digestCell 167 = .ok (.invokevirtual 270, 3) := dTo0_112.2.2.2.1.2.2.2.2.2.1
theorem dX5_digestCell_170 : decode cX5_digestCell 170 = .ok (.i2l, 1) := dTo0_112.2.2.2.1.2.2.2.2.2.2.1
theorem dX5_digestCell_171 : decode cX5_digestCell 171 = .ok (.ladd, 1) := dTo0_112.2.2.2.1.2.2.2.2.2.2.2.1
theorem dX5_digestCell_172 : decode cX5_digestCell 172 = .ok (.lstore 4, 2) := dTo0_112.2.2.2.1.2.2.2.2.2.2.2.2.1
theorem dX5_digestCell_174 : decode cX5_digestCell 174 = .ok (.lload 4, 2) := dTo0_112.2.2.2.1.2.2.2.2.2.2.2.2.2.1
theorem dX5_digestCell_176 : decode cX5_digestCell 176 = .ok (.ldc2_w 230, 3) := dTo0_112.2.2.2.2.1.1
theorem dX5_digestCell_179 : decode cX5_digestCell 179 = .ok (.lmul, 1) := dTo0_112.2.2.2.2.1.2.1
theorem dX5_digestCell_180 : decode cX5_digestCell 180 = .ok (.aload_n 0, 1) := dTo0_112.2.2.2.2.1.2.2.1
theorem dX5_digestCell_181 : decode cX5_digestCell 181 = .ok (.iload_n 3, 1) := dTo0_112.2.2.2.2.1.2.2.2.1
theorem dX5_digestCell_182 : decode cX5_digestCell 182 = .ok (.iconst 1, 1) := dTo0_112.2.2.2.2.1.2.2.2.2.1
theorem dX5_digestCell_183 : decode cX5_digestCell 183 = .ok (.invokevirtual 270, 3) := dTo0_112.2.2.2.2.1.2.2.2.2.2.1
theorem dX5_digestCell_186 : decode cX5_digestCell 186 = .ok (.i2l, 1) := dTo0_112.2.2.2.2.1.2.2.2.2.2.2.1
theorem dX5_digestCell_187 : decode cX5_digestCell 187 = .ok (.ladd, 1) := dTo0_112.2.2.2.2.1.2.2.2.2.2.2.2.1
theorem dX5_digestCell_188 : decode cX5_digestCell 188 = .ok (.lstore 4, 2) := dTo0_112.2.2.2.2.1.2.2.2.2.2.2.2.2.1
theorem dX5_digestCell_190 : decode cX5_digestCell 190 = .ok (.lload 4, 2) := dTo0_112.2.2.2.2.1.2.2.2.2.2.2.2.2.2.1
theorem dX5_digestCell_192 : decode cX5_digestCell 192 = .ok (.ldc2_w 230, 3) := dTo0_112.2.2.2.2.2.1.1
theorem dX5_digestCell_195 : decode cX5_digestCell 195 = .ok (.lmul, 1) := dTo0_112.2.2.2.2.2.1.2.1
theorem dX5_digestCell_196 : decode cX5_digestCell 196 = .ok (.aload_n 0, 1) := dTo0_112.2.2.2.2.2.1.2.2.1
theorem dX5_digestCell_197 : decode cX5_digestCell 197 = .ok (.iload_n 3, 1) := dTo0_112.2.2.2.2.2.1.2.2.2.1
theorem dX5_digestCell_198 : decode cX5_digestCell 198 = .ok (.invokevirtual 274, 3) := dTo0_112.2.2.2.2.2.1.2.2.2.2.1
theorem dX5_digestCell_201 : decode cX5_digestCell 201 = .ok (.i2l, 1) := dTo0_112.2.2.2.2.2.1.2.2.2.2.2.1
theorem dX5_digestCell_202 : decode cX5_digestCell 202 = .ok (.ladd, 1) := dTo0_112.2.2.2.2.2.1.2.2.2.2.2.2.1
theorem dX5_digestCell_203 : decode cX5_digestCell 203 = .ok (.lstore 4, 2) := dTo0_112.2.2.2.2.2.1.2.2.2.2.2.2.2.1
theorem dX5_digestCell_205 : decode cX5_digestCell 205 = .ok (.iconst 0, 1) := dTo0_112.2.2.2.2.2.1.2.2.2.2.2.2.2.2.1
theorem dX5_digestCell_206 : decode cX5_digestCell 206 = .ok (.istore 6, 2) := dTo0_112.2.2.2.2.2.1.2.2.2.2.2.2.2.2.2.1
theorem dTo0_113 : dQ cX5_digestCell [[(208, zop21, 6, 0), (210, zop6, 0, 0), (211, zop163, 0, 26), (214, zop22, 4, 0), (216, zop20, 0, 230), (219, zop105, 0, 0), (220, zop42, 0, 0), (221, zop21, 6, 0), (223, zop29, 0, 0), (224, zop182, 1, 21)], [(227, zop133, 0, 0), (228, zop97, 0, 0), (229, zop55, 4, 0), (231, zop132, 6, 1), (234, zop167, 255, 230), (237, zop22, 4, 0), (239, zop173, 0, 0)]] := dQ_of _ _ (by decide +kernel)
theorem dX5_digestCell_208 : decode cX5_digestCell 208 = .ok (.iload 6, 2) := dTo0_113.1.1
theorem dX5_digestCell_210 : decode cX5_digestCell 210 = .ok (.iconst 3, 1) := dTo0_113.1.2.1
theorem dX5_digestCell_211 : decode cX5_digestCell 211 = .ok (.if_icmp .gt 26, 3) := dTo0_113.1.2.2.1
theorem dX5_digestCell_214 : decode cX5_digestCell 214 = .ok (.lload 4, 2) := dTo0_113.1.2.2.2.1
theorem dX5_digestCell_216 : decode cX5_digestCell 216 = .ok (.ldc2_w 230, 3) := dTo0_113.1.2.2.2.2.1
theorem dX5_digestCell_219 : decode cX5_digestCell 219 = .ok (.lmul, 1) := dTo0_113.1.2.2.2.2.2.1
theorem dX5_digestCell_220 : decode cX5_digestCell 220 = .ok (.aload_n 0, 1) := dTo0_113.1.2.2.2.2.2.2.1
theorem dX5_digestCell_221 : decode cX5_digestCell 221 = .ok (.iload 6, 2) := dTo0_113.1.2.2.2.2.2.2.2.1
theorem dX5_digestCell_223 : decode cX5_digestCell 223 = .ok (.iload_n 3, 1) := dTo0_113.1.2.2.2.2.2.2.2.2.1
theorem dX5_digestCell_224 : decode cX5_digestCell 224 = .ok (.invokevirtual 277, 3) := dTo0_113.1.2.2.2.2.2.2.2.2.2.1
theorem dX5_digestCell_227 : decode cX5_digestCell 227 = .ok (.i2l, 1) := dTo0_113.2.1.1
theorem dX5_digestCell_228 : decode cX5_digestCell 228 = .ok (.ladd, 1) := dTo0_113.2.1.2.1
theorem dX5_digestCell_229 : decode cX5_digestCell 229 = .ok (.lstore 4, 2) := dTo0_113.2.1.2.2.1
theorem dX5_digestCell_231 : decode cX5_digestCell 231 = .ok (.iinc 6 1, 3) := dTo0_113.2.1.2.2.2.1
theorem dX5_digestCell_234 : decode cX5_digestCell 234 = .ok (.goto (-26), 3) := dTo0_113.2.1.2.2.2.2.1
theorem dX5_digestCell_237 : decode cX5_digestCell 237 = .ok (.lload 4, 2) := dTo0_113.2.1.2.2.2.2.2.1
theorem dX5_digestCell_239 : decode cX5_digestCell 239 = .ok (.lreturn, 1) := dTo0_113.2.1.2.2.2.2.2.2.1
theorem dTo0_114 : dQ cX5_checkCell [[(0, zop26, 0, 0), (1, zop155, 0, 9), (4, zop26, 0, 0), (5, zop16, 8, 0), (7, zop161, 0, 14), (10, zop187, 1, 24), (13, zop89, 0, 0), (14, zop19, 1, 26), (17, zop183, 1, 28), (20, zop191, 0, 0)], [(21, zop177, 0, 0)]] := dQ_of _ _ (by decide +kernel)
theorem dX5_checkCell_0 : decode cX5_checkCell 0 = .ok (.iload_n 0, 1) := dTo0_114.1.1
theorem dX5_checkCell_1 : decode cX5_checkCell 1 = .ok (.ifCond .lt 9, 3) := dTo0_114.1.2.1
theorem dX5_checkCell_4 : decode cX5_checkCell 4 = .ok (.iload_n 0, 1) := dTo0_114.1.2.2.1
theorem dX5_checkCell_5 : decode cX5_checkCell 5 = .ok (.bipush 8, 2) := dTo0_114.1.2.2.2.1
theorem dX5_checkCell_7 : decode cX5_checkCell 7 = .ok (.if_icmp .lt 14, 3) := dTo0_114.1.2.2.2.2.1
theorem dX5_checkCell_10 : decode cX5_checkCell 10 = .ok (.new 280, 3) := dTo0_114.1.2.2.2.2.2.1
theorem dX5_checkCell_13 : decode cX5_checkCell 13 = .ok (.dup, 1) := dTo0_114.1.2.2.2.2.2.2.1
theorem dX5_checkCell_14 : decode cX5_checkCell 14 = .ok (.ldc_w 282, 3) := dTo0_114.1.2.2.2.2.2.2.2.1
theorem dX5_checkCell_17 : decode cX5_checkCell 17 = .ok (.invokespecial 284, 3) := dTo0_114.1.2.2.2.2.2.2.2.2.1
theorem dX5_checkCell_20 : decode cX5_checkCell 20 = .ok (.athrow, 1) := dTo0_114.1.2.2.2.2.2.2.2.2.2.1
theorem dX5_checkCell_21 : decode cX5_checkCell 21 = .ok (.return_, 1) := dTo0_114.2.1.1
theorem dTo0_115 : dQ cX5_checkRange [[(0, zop26, 0, 0), (1, zop27, 0, 0), (2, zop161, 0, 8), (5, zop26, 0, 0), (6, zop28, 0, 0), (7, zop164, 0, 14), (10, zop187, 1, 29), (13, zop89, 0, 0), (14, zop19, 1, 31), (17, zop183, 1, 33)], [(20, zop191, 0, 0), (21, zop177, 0, 0)]] := dQ_of _ _ (by decide +kernel)
theorem dX5_checkRange_0 : decode cX5_checkRange 0 = .ok (.iload_n 0, 1) := dTo0_115.1.1
theorem dX5_checkRange_1 : decode cX5_checkRange 1 = .ok (.iload_n 1, 1) := dTo0_115.1.2.1
theorem dX5_checkRange_2 : decode cX5_checkRange 2 = .ok (.if_icmp .lt 8, 3) := dTo0_115.1.2.2.1
theorem dX5_checkRange_5 : decode cX5_checkRange 5 = .ok (.iload_n 0, 1) := dTo0_115.1.2.2.2.1
theorem dX5_checkRange_6 : decode cX5_checkRange 6 = .ok (.iload_n 2, 1) := dTo0_115.1.2.2.2.2.1
theorem dX5_checkRange_7 : decode cX5_checkRange 7 = .ok (.if_icmp .le 14, 3) := dTo0_115.1.2.2.2.2.2.1
theorem dX5_checkRange_10 : decode cX5_checkRange 10 = .ok (.new 285, 3) := dTo0_115.1.2.2.2.2.2.2.1
theorem dX5_checkRange_13 : decode cX5_checkRange 13 = .ok (.dup, 1) := dTo0_115.1.2.2.2.2.2.2.2.1
theorem dX5_checkRange_14 : decode cX5_checkRange 14 = .ok (.ldc_w 287, 3) := dTo0_115.1.2.2.2.2.2.2.2.2.1
theorem dX5_checkRange_17 : decode cX5_checkRange 17 = .ok (.invokespecial 289, 3) := dTo0_115.1.2.2.2.2.2.2.2.2.2.1
theorem dX5_checkRange_20 : decode cX5_checkRange 20 = .ok (.athrow, 1) := dTo0_115.2.1.1
theorem dX5_checkRange_21 : decode cX5_checkRange 21 = .ok (.return_, 1) := dTo0_115.2.1.2.1
theorem dTo0_116 : dQ cX5_checkSeries [[(0, zop26, 0, 0), (1, zop3, 0, 0), (2, zop6, 0, 0), (3, zop184, 0, 36), (6, zop177, 0, 0)]] := dQ_of _ _ (by decide +kernel)
theorem dX5_checkSeries_0 : decode cX5_checkSeries 0 = .ok (.iload_n 0, 1) := dTo0_116.1.1
theorem dX5_checkSeries_1 : decode cX5_checkSeries 1 = .ok (.iconst 0, 1) := dTo0_116.1.2.1
theorem dX5_checkSeries_2 : decode cX5_checkSeries 2 = .ok (.iconst 3, 1) := dTo0_116.1.2.2.1
theorem dX5_checkSeries_3 : decode cX5_checkSeries 3 = .ok (.invokestatic 36, 3) := dTo0_116.1.2.2.2.1
theorem dX5_checkSeries_6 : decode cX5_checkSeries 6 = .ok (.return_, 1) := dTo0_116.1.2.2.2.2.1
theorem dTo0_117 : dQ cX5_checkHeight [[(0, zop42, 0, 0), (1, zop180, 0, 9), (4, zop27, 0, 0), (5, zop46, 0, 0), (6, zop184, 0, 252), (9, zop154, 0, 14), (12, zop187, 0, 102), (15, zop89, 0, 0), (16, zop19, 1, 34), (19, zop183, 0, 106)], [(22, zop191, 0, 0), (23, zop177, 0, 0)]] := dQ_of _ _ (by decide +kernel)
theorem dX5_checkHeight_0 : decode cX5_checkHeight 0 = .ok (.aload_n 0, 1) := dTo0_117.1.1
theorem dX5_checkHeight_1 : decode cX5_checkHeight 1 = .ok (.getfield 9, 3) := dTo0_117.1.2.1
theorem dX5_checkHeight_4 : decode cX5_checkHeight 4 = .ok (.iload_n 1, 1) := dTo0_117.1.2.2.1
theorem dX5_checkHeight_5 : decode cX5_checkHeight 5 = .ok (.iaload, 1) := dTo0_117.1.2.2.2.1
theorem dX5_checkHeight_6 : decode cX5_checkHeight 6 = .ok (.invokestatic 252, 3) := dTo0_117.1.2.2.2.2.1
theorem dX5_checkHeight_9 : decode cX5_checkHeight 9 = .ok (.ifCond .ne 14, 3) := dTo0_117.1.2.2.2.2.2.1
theorem dX5_checkHeight_12 : decode cX5_checkHeight 12 = .ok (.new 102, 3) := dTo0_117.1.2.2.2.2.2.2.1
theorem dX5_checkHeight_15 : decode cX5_checkHeight 15 = .ok (.dup, 1) := dTo0_117.1.2.2.2.2.2.2.2.1
theorem dX5_checkHeight_16 : decode cX5_checkHeight 16 = .ok (.ldc_w 290, 3) := dTo0_117.1.2.2.2.2.2.2.2.2.1
theorem dX5_checkHeight_19 : decode cX5_checkHeight 19 = .ok (.invokespecial 106, 3) := dTo0_117.1.2.2.2.2.2.2.2.2.2.1
theorem dX5_checkHeight_22 : decode cX5_checkHeight 22 = .ok (.athrow, 1) := dTo0_117.2.1.1
theorem dX5_checkHeight_23 : decode cX5_checkHeight 23 = .ok (.return_, 1) := dTo0_117.2.1.2.1
theorem dTo0_118 : dQ cX5_checkToldDigits [[(0, zop42, 0, 0), (1, zop180, 0, 9), (4, zop27, 0, 0), (5, zop46, 0, 0), (6, zop184, 1, 5), (9, zop154, 0, 14), (12, zop187, 0, 102), (15, zop89, 0, 0), (16, zop19, 1, 36), (19, zop183, 0, 106)], [(22, zop191, 0, 0), (23, zop177, 0, 0)]] := dQ_of _ _ (by decide +kernel)
theorem dX5_checkToldDigits_0 : decode cX5_checkToldDigits 0 = .ok (.aload_n 0, 1) := dTo0_118.1.1
theorem dX5_checkToldDigits_1 : decode cX5_checkToldDigits 1 = .ok (.getfield 9, 3) := dTo0_118.1.2.1
theorem dX5_checkToldDigits_4 : decode cX5_checkToldDigits 4 = .ok (.iload_n 1, 1) := dTo0_118.1.2.2.1
theorem dX5_checkToldDigits_5 : decode cX5_checkToldDigits 5 = .ok (.iaload, 1) := dTo0_118.1.2.2.2.1
theorem dX5_checkToldDigits_6 : decode cX5_checkToldDigits 6 = .ok (.invokestatic 261, 3) := dTo0_118.1.2.2.2.2.1
theorem dX5_checkToldDigits_9 : decode cX5_checkToldDigits 9 = .ok (.ifCond .ne 14, 3) := dTo0_118.1.2.2.2.2.2.1
theorem dX5_checkToldDigits_12 : decode cX5_checkToldDigits 12 = .ok (.new 102, 3) := dTo0_118.1.2.2.2.2.2.2.1
theorem dX5_checkToldDigits_15 : decode cX5_checkToldDigits 15 = .ok (.dup, 1) := dTo0_118.1.2.2.2.2.2.2.2.1
theorem dX5_checkToldDigits_16 : decode cX5_checkToldDigits 16 = .ok (.ldc_w 292, 3) := dTo0_118.1.2.2.2.2.2.2.2.2.1
theorem dX5_checkToldDigits_19 : decode cX5_checkToldDigits 19 = .ok (.invokespecial 106, 3) := dTo0_118.1.2.2.2.2.2.2.2.2.2.1
theorem dX5_checkToldDigits_22 : decode cX5_checkToldDigits 22 = .ok (.athrow, 1) := dTo0_118.2.1.1
theorem dX5_checkToldDigits_23 : decode cX5_checkToldDigits 23 = .ok (.return_, 1) := dTo0_118.2.1.2.1
theorem dTo0_119 : dQ cX5_checkNear [[(0, zop42, 0, 0), (1, zop180, 0, 9), (4, zop27, 0, 0), (5, zop46, 0, 0), (6, zop42, 0, 0), (7, zop180, 0, 9), (10, zop28, 0, 0), (11, zop46, 0, 0), (12, zop184, 0, 133), (15, zop154, 0, 14)], [(18, zop187, 0, 102), (21, zop89, 0, 0), (22, zop19, 1, 38), (25, zop183, 0, 106), (28, zop191, 0, 0), (29, zop177, 0, 0)]] := dQ_of _ _ (by decide +kernel)
theorem dX5_checkNear_0 : decode cX5_checkNear 0 = .ok (.aload_n 0, 1) := dTo0_119.1.1
theorem dX5_checkNear_1 : decode cX5_checkNear 1 = .ok (.getfield 9, 3) := dTo0_119.1.2.1
theorem dX5_checkNear_4 : decode cX5_checkNear 4 = .ok (.iload_n 1, 1) := dTo0_119.1.2.2.1
theorem dX5_checkNear_5 : decode cX5_checkNear 5 = .ok (.iaload, 1) := dTo0_119.1.2.2.2.1
theorem dX5_checkNear_6 : decode cX5_checkNear 6 = .ok (.aload_n 0, 1) := dTo0_119.1.2.2.2.2.1
theorem dX5_checkNear_7 : decode cX5_checkNear 7 = .ok (.getfield 9, 3) := dTo0_119.1.2.2.2.2.2.1
theorem dX5_checkNear_10 : decode cX5_checkNear 10 = .ok (.iload_n 2, 1) := dTo0_119.1.2.2.2.2.2.2.1
theorem dX5_checkNear_11 : decode cX5_checkNear 11 = .ok (.iaload, 1) := dTo0_119.1.2.2.2.2.2.2.2.1
theorem dX5_checkNear_12 : decode cX5_checkNear 12 = .ok (.invokestatic 133, 3) := dTo0_119.1.2.2.2.2.2.2.2.2.1
theorem dX5_checkNear_15 : decode cX5_checkNear 15 = .ok (.ifCond .ne 14, 3) := dTo0_119.1.2.2.2.2.2.2.2.2.2.1
theorem dX5_checkNear_18 : decode cX5_checkNear 18 = .ok (.new 102, 3) := dTo0_119.2.1.1
theorem dX5_checkNear_21 : decode cX5_checkNear 21 = .ok (.dup, 1) := dTo0_119.2.1.2.1
theorem dX5_checkNear_22 : decode cX5_checkNear 22 = .ok (.ldc_w 294, 3) := dTo0_119.2.1.2.2.1
theorem dX5_checkNear_25 : decode cX5_checkNear 25 = .ok (.invokespecial 106, 3) := dTo0_119.2.1.2.2.2.1
theorem dX5_checkNear_28 : decode cX5_checkNear 28 = .ok (.athrow, 1) := dTo0_119.2.1.2.2.2.2.1
theorem dX5_checkNear_29 : decode cX5_checkNear 29 = .ok (.return_, 1) := dTo0_119.2.1.2.2.2.2.2.1
theorem dTo0_120 : dQ cX5_checkedInt [[(0, zop30, 0, 0), (1, zop20, 1, 40), (4, zop148, 0, 0), (5, zop155, 0, 11), (8, zop30, 0, 0), (9, zop20, 1, 42), (12, zop148, 0, 0), (13, zop158, 0, 14), (16, zop187, 0, 102), (19, zop89, 0, 0)], [(20, zop19, 1, 44), (23, zop183, 0, 106), (26, zop191, 0, 0), (27, zop30, 0, 0), (28, zop136, 0, 0), (29, zop172, 0, 0)]] := dQ_of _ _ (by decide +kernel)
theorem dX5_checkedInt_0 : decode cX5_checkedInt 0 = .ok (.lload_n 0, 1) := dTo0_120.1.1
theorem dX5_checkedInt_1 : decode cX5_checkedInt 1 = .ok (.ldc2_w 296, 3) := dTo0_120.1.2.1
theorem dX5_checkedInt_4 : decode cX5_checkedInt 4 = .ok (.lcmp, 1) := dTo0_120.1.2.2.1
theorem dX5_checkedInt_5 : decode cX5_checkedInt 5 = .ok (.ifCond .lt 11, 3) := dTo0_120.1.2.2.2.1
theorem dX5_checkedInt_8 : decode cX5_checkedInt 8 = .ok (.lload_n 0, 1) := dTo0_120.1.2.2.2.2.1
theorem dX5_checkedInt_9 : decode cX5_checkedInt 9 = .ok (.ldc2_w 298, 3) := dTo0_120.1.2.2.2.2.2.1
theorem dX5_checkedInt_12 : decode cX5_checkedInt 12 = .ok (.lcmp, 1) := dTo0_120.1.2.2.2.2.2.2.1
theorem dX5_checkedInt_13 : decode cX5_checkedInt 13 = .ok (.ifCond .le 14, 3) := dTo0_120.1.2.2.2.2.2.2.2.1
theorem dX5_checkedInt_16 : decode cX5_checkedInt 16 = .ok (.new 102, 3) := dTo0_120.1.2.2.2.2.2.2.2.2.1
theorem dX5_checkedInt_19 : decode cX5_checkedInt 19 = .ok (.dup, 1) := dTo0_120.1.2.2.2.2.2.2.2.2.2.1
theorem dX5_checkedInt_20 : decode cX5_checkedInt 20 = .ok (.ldc_w 300, 3) := dTo0_120.2.1.1
theorem dX5_checkedInt_23 : decode cX5_checkedInt 23 = .ok (.invokespecial 106, 3) := dTo0_120.2.1.2.1
theorem dX5_checkedInt_26 : decode cX5_checkedInt 26 = .ok (.athrow, 1) := dTo0_120.2.1.2.2.1
theorem dX5_checkedInt_27 : decode cX5_checkedInt 27 = .ok (.lload_n 0, 1) := dTo0_120.2.1.2.2.2.1
theorem dX5_checkedInt_28 : decode cX5_checkedInt 28 = .ok (.l2i, 1) := dTo0_120.2.1.2.2.2.2.1
theorem dX5_checkedInt_29 : decode cX5_checkedInt 29 = .ok (.ireturn, 1) := dTo0_120.2.1.2.2.2.2.2.1
theorem dTo0_121 : dQ cX6_init [[(0, zop42, 0, 0), (1, zop183, 0, 1), (4, zop177, 0, 0)]] := dQ_of _ _ (by decide +kernel)
theorem dX6_init_0 : decode cX6_init 0 = .ok (.aload_n 0, 1) := dTo0_121.1.1
theorem dX6_init_1 : decode cX6_init 1 = .ok (.invokespecial 1, 3) := dTo0_121.1.2.1
theorem dX6_init_4 : decode cX6_init 4 = .ok (.return_, 1) := dTo0_121.1.2.2.1
theorem dX7_init_36 : decode cX7_init 36 = .ok (.newarray .int, 2) := by decide +kernel
theorem dX7_init_44 : decode cX7_init 44 = .ok (.newarray .int, 2) := by decide +kernel
theorem dX7_init_52 : decode cX7_init 52 = .ok (.newarray .int, 2) := by decide +kernel
theorem dX7_init_60 : decode cX7_init 60 = .ok (.newarray .boolean, 2) := by decide +kernel
theorem dTo0_122 : dQ cX7_init [[(0, zop42, 0, 0), (1, zop183, 0, 1), (4, zop42, 0, 0), (5, zop17, 1, 65), (8, zop189, 0, 9), (11, zop181, 0, 11), (14, zop42, 0, 0), (15, zop17, 0, 164), (18, zop189, 0, 9), (21, zop181, 0, 15)], [(24, zop42, 0, 0), (25, zop4, 0, 0), (26, zop6, 0, 0), (27, zop184, 0, 18), (30, zop181, 0, 22), (33, zop42, 0, 0), (34, zop16, 22, 0), (38, zop181, 0, 25), (41, zop42, 0, 0), (42, zop16, 8, 0)], [(46, zop181, 0, 28), (49, zop42, 0, 0), (50, zop16, 8, 0), (54, zop181, 0, 31), (57, zop42, 0, 0), (58, zop16, 8, 0), (62, zop181, 0, 34), (65, zop42, 0, 0), (66, zop180, 0, 11), (69, zop17, 0, 160)], [(72, zop7, 0, 0), (73, zop184, 0, 38), (76, zop83, 0, 0), (77, zop3, 0, 0), (78, zop184, 0, 42), (81, zop76, 0, 0), (82, zop4, 0, 0), (83, zop184, 0, 42), (86, zop77, 0, 0), (87, zop4, 0, 0)], [(88, zop62, 0, 0), (89, zop29, 0, 0), (90, zop17, 0, 160), (93, zop163, 0, 63), (96, zop42, 0, 0), (97, zop180, 0, 11), (100, zop17, 0, 160), (103, zop29, 0, 0), (104, zop96, 0, 0), (105, zop42, 0, 0)], [(106, zop42, 0, 0), (107, zop180, 0, 11), (110, zop17, 0, 160), (113, zop29, 0, 0), (114, zop96, 0, 0), (115, zop4, 0, 0), (116, zop100, 0, 0), (117, zop50, 0, 0), (118, zop43, 0, 0), (119, zop182, 0, 46)]] := dQ_of _ _ (by decide +kernel)
theorem dX7_init_0 : decode cX7_init 0 = .ok (.aload_n 0, 1) := dTo0_122.1.1
theorem dX7_init_1 : decode cX7_init 1 = .ok (.invokespecial 1, 3) := dTo0_122.1.2.1
theorem dX7_init_4 : decode cX7_init 4 = .ok (.aload_n 0, 1) := dTo0_122.1.2.2.1
theorem dX7_init_5 : decode cX7_init 5 = .ok (.sipush 321, 3) := dTo0_122.1.2.2.2.1
theorem dX7_init_8 : decode cX7_init 8 = .ok (.anewarray 9, 3) := dTo0_122.1.2.2.2.2.1
theorem dX7_init_11 : decode cX7_init 11 = .ok (.putfield 11, 3) := dTo0_122.1.2.2.2.2.2.1
theorem dX7_init_14 : decode cX7_init 14 = .ok (.aload_n 0, 1) := dTo0_122.1.2.2.2.2.2.2.1
theorem dX7_init_15 : decode cX7_init 15 = .ok (.sipush 164, 3) := dTo0_122.1.2.2.2.2.2.2.2.1
theorem dX7_init_18 : decode cX7_init 18 = .ok (.anewarray 9, 3) := dTo0_122.1.2.2.2.2.2.2.2.2.1
theorem dX7_init_21 : decode cX7_init 21 = .ok (.putfield 15, 3) := dTo0_122.1.2.2.2.2.2.2.2.2.2.1
theorem dX7_init_24 : decode cX7_init 24 = .ok (.aload_n 0, 1) := dTo0_122.2.1.1
theorem dX7_init_25 : decode cX7_init 25 = .ok (.iconst 1, 1) := dTo0_122.2.1.2.1
theorem dX7_init_26 : decode cX7_init 26 = .ok (.iconst 3, 1) := dTo0_122.2.1.2.2.1
theorem dX7_init_27 : decode cX7_init 27 = .ok (.invokestatic 18, 3) := dTo0_122.2.1.2.2.2.1
theorem dX7_init_30 : decode cX7_init 30 = .ok (.putfield 22, 3) := dTo0_122.2.1.2.2.2.2.1
theorem dX7_init_33 : decode cX7_init 33 = .ok (.aload_n 0, 1) := dTo0_122.2.1.2.2.2.2.2.1
theorem dX7_init_34 : decode cX7_init 34 = .ok (.bipush 22, 2) := dTo0_122.2.1.2.2.2.2.2.2.1
theorem dX7_init_38 : decode cX7_init 38 = .ok (.putfield 25, 3) := dTo0_122.2.1.2.2.2.2.2.2.2.1
theorem dX7_init_41 : decode cX7_init 41 = .ok (.aload_n 0, 1) := dTo0_122.2.1.2.2.2.2.2.2.2.2.1
theorem dX7_init_42 : decode cX7_init 42 = .ok (.bipush 8, 2) := dTo0_122.2.1.2.2.2.2.2.2.2.2.2.1
theorem dX7_init_46 : decode cX7_init 46 = .ok (.putfield 28, 3) := dTo0_122.2.2.1.1
theorem dX7_init_49 : decode cX7_init 49 = .ok (.aload_n 0, 1) := dTo0_122.2.2.1.2.1
theorem dX7_init_50 : decode cX7_init 50 = .ok (.bipush 8, 2) := dTo0_122.2.2.1.2.2.1
theorem dX7_init_54 : decode cX7_init 54 = .ok (.putfield 31, 3) := dTo0_122.2.2.1.2.2.2.1
theorem dX7_init_57 : decode cX7_init 57 = .ok (.aload_n 0, 1) := dTo0_122.2.2.1.2.2.2.2.1
theorem dX7_init_58 : decode cX7_init 58 = .ok (.bipush 8, 2) := dTo0_122.2.2.1.2.2.2.2.2.1
theorem dX7_init_62 : decode cX7_init 62 = .ok (.putfield 34, 3) := dTo0_122.2.2.1.2.2.2.2.2.2.1
theorem dX7_init_65 : decode cX7_init 65 = .ok (.aload_n 0, 1) := dTo0_122.2.2.1.2.2.2.2.2.2.2.1
theorem dX7_init_66 : decode cX7_init 66 = .ok (.getfield 11, 3) := dTo0_122.2.2.1.2.2.2.2.2.2.2.2.1
theorem dX7_init_69 : decode cX7_init 69 = .ok (.sipush 160, 3) := dTo0_122.2.2.1.2.2.2.2.2.2.2.2.2.1
theorem dX7_init_72 : decode cX7_init 72 = .ok (.iconst 4, 1) := dTo0_122.2.2.2.1.1
theorem dX7_init_73 : decode cX7_init 73 = .ok (.invokestatic 38, 3) := dTo0_122.2.2.2.1.2.1
theorem dX7_init_76 : decode cX7_init 76 = .ok (.aastore, 1) := dTo0_122.2.2.2.1.2.2.1
theorem dX7_init_77 : decode cX7_init 77 = .ok (.iconst 0, 1) := dTo0_122.2.2.2.1.2.2.2.1
theorem dX7_init_78 : decode cX7_init 78 = .ok (.invokestatic 42, 3) := dTo0_122.2.2.2.1.2.2.2.2.1
theorem dX7_init_81 : decode cX7_init 81 = .ok (.astore_n 1, 1) := dTo0_122.2.2.2.1.2.2.2.2.2.1
theorem dX7_init_82 : decode cX7_init 82 = .ok (.iconst 1, 1) := dTo0_122.2.2.2.1.2.2.2.2.2.2.1
theorem dX7_init_83 : decode cX7_init 83 = .ok (.invokestatic 42, 3) := dTo0_122.2.2.2.1.2.2.2.2.2.2.2.1
theorem dX7_init_86 : decode cX7_init 86 = .ok (.astore_n 2, 1) := dTo0_122.2.2.2.1.2.2.2.2.2.2.2.2.1
theorem dX7_init_87 : decode cX7_init 87 = .ok (.iconst 1, 1) := dTo0_122.2.2.2.1.2.2.2.2.2.2.2.2.2.1
theorem dX7_init_88 : decode cX7_init 88 = .ok (.istore_n 3, 1) := dTo0_122.2.2.2.2.1.1
theorem dX7_init_89 : decode cX7_init 89 = .ok (.iload_n 3, 1) := dTo0_122.2.2.2.2.1.2.1
theorem dX7_init_90 : decode cX7_init 90 = .ok (.sipush 160, 3) := dTo0_122.2.2.2.2.1.2.2.1
theorem dX7_init_93 : decode cX7_init 93 = .ok (.if_icmp .gt 63, 3) := dTo0_122.2.2.2.2.1.2.2.2.1
theorem dX7_init_96 : decode cX7_init 96 = .ok (.aload_n 0, 1) := dTo0_122.2.2.2.2.1.2.2.2.2.1
theorem dX7_init_97 : decode cX7_init 97 = .ok (.getfield 11, 3) := dTo0_122.2.2.2.2.1.2.2.2.2.2.1
theorem dX7_init_100 : decode cX7_init 100 = .ok (.sipush 160, 3) := dTo0_122.2.2.2.2.1.2.2.2.2.2.2.1
theorem dX7_init_103 : decode cX7_init 103 = .ok (.iload_n 3, 1) := dTo0_122.2.2.2.2.1.2.2.2.2.2.2.2.1
theorem dX7_init_104 : decode cX7_init 104 = .ok (.iadd, 1) := dTo0_122.2.2.2.2.1.2.2.2.2.2.2.2.2.1
theorem dX7_init_105 : decode cX7_init 105 = .ok (.aload_n 0, 1) := dTo0_122.2.2.2.2.1.2.2.2.2.2.2.2.2.2.1
theorem dX7_init_106 : decode cX7_init 106 = .ok (.aload_n 0, 1) := dTo0_122.2.2.2.2.2.1.1
theorem dX7_init_107 : decode cX7_init 107 = .ok (.getfield 11, 3) := dTo0_122.2.2.2.2.2.1.2.1
theorem dX7_init_110 : decode cX7_init 110 = .ok (.sipush 160, 3) := dTo0_122.2.2.2.2.2.1.2.2.1
theorem dX7_init_113 : decode cX7_init 113 = .ok (.iload_n 3, 1) := dTo0_122.2.2.2.2.2.1.2.2.2.1
theorem dX7_init_114 : decode cX7_init 114 = .ok (.iadd, 1) := dTo0_122.2.2.2.2.2.1.2.2.2.2.1
theorem dX7_init_115 : decode cX7_init 115 = .ok (.iconst 1, 1) := dTo0_122.2.2.2.2.2.1.2.2.2.2.2.1
theorem dX7_init_116 : decode cX7_init 116 = .ok (.isub, 1) := dTo0_122.2.2.2.2.2.1.2.2.2.2.2.2.1
theorem dX7_init_117 : decode cX7_init 117 = .ok (.aaload, 1) := dTo0_122.2.2.2.2.2.1.2.2.2.2.2.2.2.1
theorem dX7_init_118 : decode cX7_init 118 = .ok (.aload_n 1, 1) := dTo0_122.2.2.2.2.2.1.2.2.2.2.2.2.2.2.1
theorem dX7_init_119 : decode cX7_init 119 = .ok (.invokevirtual 46, 3) := dTo0_122.2.2.2.2.2.1.2.2.2.2.2.2.2.2.2.1
theorem dTo0_123 : dQ cX7_init [[(122, zop83, 0, 0), (123, zop42, 0, 0), (124, zop180, 0, 11), (127, zop17, 0, 160), (130, zop29, 0, 0), (131, zop100, 0, 0), (132, zop42, 0, 0), (133, zop42, 0, 0), (134, zop180, 0, 11), (137, zop17, 0, 160)], [(140, zop29, 0, 0), (141, zop100, 0, 0), (142, zop4, 0, 0), (143, zop96, 0, 0), (144, zop50, 0, 0), (145, zop44, 0, 0), (146, zop182, 0, 46), (149, zop83, 0, 0), (150, zop132, 3, 1), (153, zop167, 255, 192)], [(156, zop177, 0, 0)]] := dQ_of _ _ (by decide +kernel)
theorem dX7_init_122 : decode cX7_init 122 = .ok (.aastore, 1) := dTo0_123.1.1
theorem dX7_init_123 : decode cX7_init 123 = .ok (.aload_n 0, 1) := dTo0_123.1.2.1
theorem dX7_init_124 : decode cX7_init 124 = .ok (.getfield 11, 3) := dTo0_123.1.2.2.1
theorem dX7_init_127 : decode cX7_init 127 = .ok (.sipush 160, 3) := dTo0_123.1.2.2.2.1
theorem dX7_init_130 : decode cX7_init 130 = .ok (.iload_n 3, 1) := dTo0_123.1.2.2.2.2.1
theorem dX7_init_131 : decode cX7_init 131 = .ok (.isub, 1) := dTo0_123.1.2.2.2.2.2.1
theorem dX7_init_132 : decode cX7_init 132 = .ok (.aload_n 0, 1) := dTo0_123.1.2.2.2.2.2.2.1
theorem dX7_init_133 : decode cX7_init 133 = .ok (.aload_n 0, 1) := dTo0_123.1.2.2.2.2.2.2.2.1
theorem dX7_init_134 : decode cX7_init 134 = .ok (.getfield 11, 3) := dTo0_123.1.2.2.2.2.2.2.2.2.1
theorem dX7_init_137 : decode cX7_init 137 = .ok (.sipush 160, 3) := dTo0_123.1.2.2.2.2.2.2.2.2.2.1
theorem dX7_init_140 : decode cX7_init 140 = .ok (.iload_n 3, 1) := dTo0_123.2.1.1
theorem dX7_init_141 : decode cX7_init 141 = .ok (.isub, 1) := dTo0_123.2.1.2.1
theorem dX7_init_142 : decode cX7_init 142 = .ok (.iconst 1, 1) := dTo0_123.2.1.2.2.1
theorem dX7_init_143 : decode cX7_init 143 = .ok (.iadd, 1) := dTo0_123.2.1.2.2.2.1
theorem dX7_init_144 : decode cX7_init 144 = .ok (.aaload, 1) := dTo0_123.2.1.2.2.2.2.1
theorem dX7_init_145 : decode cX7_init 145 = .ok (.aload_n 2, 1) := dTo0_123.2.1.2.2.2.2.2.1
theorem dX7_init_146 : decode cX7_init 146 = .ok (.invokevirtual 46, 3) := dTo0_123.2.1.2.2.2.2.2.2.1
theorem dX7_init_149 : decode cX7_init 149 = .ok (.aastore, 1) := dTo0_123.2.1.2.2.2.2.2.2.2.1
theorem dX7_init_150 : decode cX7_init 150 = .ok (.iinc 3 1, 3) := dTo0_123.2.1.2.2.2.2.2.2.2.2.1
theorem dX7_init_153 : decode cX7_init 153 = .ok (.goto (-64), 3) := dTo0_123.2.1.2.2.2.2.2.2.2.2.2.1
theorem dX7_init_156 : decode cX7_init 156 = .ok (.return_, 1) := dTo0_123.2.2.1.1
theorem dTo0_124 : dQ cX7_thrown [[(0, zop42, 0, 0), (1, zop180, 0, 50), (4, zop172, 0, 0)]] := dQ_of _ _ (by decide +kernel)
theorem dX7_thrown_0 : decode cX7_thrown 0 = .ok (.aload_n 0, 1) := dTo0_124.1.1
theorem dX7_thrown_1 : decode cX7_thrown 1 = .ok (.getfield 50, 3) := dTo0_124.1.2.1
theorem dX7_thrown_4 : decode cX7_thrown 4 = .ok (.ireturn, 1) := dTo0_124.1.2.2.1
theorem dTo0_125 : dQ cX7_add [[(0, zop28, 0, 0), (1, zop153, 0, 7), (4, zop10, 0, 0), (5, zop167, 0, 4), (8, zop9, 0, 0), (9, zop66, 0, 0), (10, zop3, 0, 0), (11, zop54, 5, 0), (13, zop21, 5, 0), (15, zop16, 11, 0)], [(17, zop162, 0, 55), (20, zop33, 0, 0), (21, zop42, 0, 0), (22, zop21, 5, 0), (24, zop46, 0, 0), (25, zop133, 0, 0), (26, zop20, 0, 54), (29, zop127, 0, 0), (30, zop28, 0, 0), (31, zop153, 0, 12)], [(34, zop43, 0, 0), (35, zop21, 5, 0), (37, zop46, 0, 0), (38, zop2, 0, 0), (39, zop130, 0, 0), (40, zop167, 0, 7), (43, zop43, 0, 0), (44, zop21, 5, 0), (46, zop46, 0, 0), (47, zop133, 0, 0)], [(48, zop20, 0, 54), (51, zop127, 0, 0), (52, zop97, 0, 0), (53, zop97, 0, 0), (54, zop66, 0, 0), (55, zop42, 0, 0), (56, zop21, 5, 0), (58, zop33, 0, 0), (59, zop136, 0, 0), (60, zop79, 0, 0)], [(61, zop33, 0, 0), (62, zop16, 32, 0), (64, zop125, 0, 0), (65, zop66, 0, 0), (66, zop132, 5, 1)]] := dQ_of _ _ (by decide +kernel)
theorem dX7_add_0 : decode cX7_add 0 = .ok (.iload_n 2, 1) := dTo0_125.1.1
theorem dX7_add_1 : decode cX7_add 1 = .ok (.ifCond .eq 7, 3) := dTo0_125.1.2.1
theorem dX7_add_4 : decode cX7_add 4 = .ok (.lconst 1, 1) := dTo0_125.1.2.2.1
theorem dX7_add_5 : decode cX7_add 5 = .ok (.goto 4, 3) := dTo0_125.1.2.2.2.1
theorem dX7_add_8 : decode cX7_add 8 = .ok (.lconst 0, 1) := dTo0_125.1.2.2.2.2.1
theorem dX7_add_9 : decode cX7_add 9 = .ok (.lstore_n 3, 1) := dTo0_125.1.2.2.2.2.2.1
theorem dX7_add_10 : decode cX7_add 10 = .ok (.iconst 0, 1) := dTo0_125.1.2.2.2.2.2.2.1
theorem dX7_add_11 : decode cX7_add 11 = .ok (.istore 5, 2) := dTo0_125.1.2.2.2.2.2.2.2.1
theorem dX7_add_13 : decode cX7_add 13 = .ok (.iload 5, 2) := dTo0_125.1.2.2.2.2.2.2.2.2.1
theorem dX7_add_15 : decode cX7_add 15 = .ok (.bipush 11, 2) := dTo0_125.1.2.2.2.2.2.2.2.2.2.1
theorem dX7_add_17 : decode cX7_add 17 = .ok (.if_icmp .ge 55, 3) := dTo0_125.2.1.1
theorem dX7_add_20 : decode cX7_add 20 = .ok (.lload_n 3, 1) := dTo0_125.2.1.2.1
theorem dX7_add_21 : decode cX7_add 21 = .ok (.aload_n 0, 1) := dTo0_125.2.1.2.2.1
theorem dX7_add_22 : decode cX7_add 22 = .ok (.iload 5, 2) := dTo0_125.2.1.2.2.2.1
theorem dX7_add_24 : decode cX7_add 24 = .ok (.iaload, 1) := dTo0_125.2.1.2.2.2.2.1
theorem dX7_add_25 : decode cX7_add 25 = .ok (.i2l, 1) := dTo0_125.2.1.2.2.2.2.2.1
theorem dX7_add_26 : decode cX7_add 26 = .ok (.ldc2_w 54, 3) := dTo0_125.2.1.2.2.2.2.2.2.1
theorem dX7_add_29 : decode cX7_add 29 = .ok (.land, 1) := dTo0_125.2.1.2.2.2.2.2.2.2.1
theorem dX7_add_30 : decode cX7_add 30 = .ok (.iload_n 2, 1) := dTo0_125.2.1.2.2.2.2.2.2.2.2.1
theorem dX7_add_31 : decode cX7_add 31 = .ok (.ifCond .eq 12, 3) := dTo0_125.2.1.2.2.2.2.2.2.2.2.2.1
theorem dX7_add_34 : decode cX7_add 34 = .ok (.aload_n 1, 1) := dTo0_125.2.2.1.1
theorem dX7_add_35 : decode cX7_add 35 = .ok (.iload 5, 2) := dTo0_125.2.2.1.2.1
theorem dX7_add_37 : decode cX7_add 37 = .ok (.iaload, 1) := dTo0_125.2.2.1.2.2.1
theorem dX7_add_38 : decode cX7_add 38 = .ok (.iconst (-1), 1) := dTo0_125.2.2.1.2.2.2.1
theorem dX7_add_39 : decode cX7_add 39 = .ok (.ixor, 1) := dTo0_125.2.2.1.2.2.2.2.1
theorem dX7_add_40 : decode cX7_add 40 = .ok (.goto 7, 3) := dTo0_125.2.2.1.2.2.2.2.2.1
theorem dX7_add_43 : decode cX7_add 43 = .ok (.aload_n 1, 1) := dTo0_125.2.2.1.2.2.2.2.2.2.1
theorem dX7_add_44 : decode cX7_add 44 = .ok (.iload 5, 2) := dTo0_125.2.2.1.2.2.2.2.2.2.2.1
theorem dX7_add_46 : decode cX7_add 46 = .ok (.iaload, 1) := dTo0_125.2.2.1.2.2.2.2.2.2.2.2.1
theorem dX7_add_47 : decode cX7_add 47 = .ok (.i2l, 1) := dTo0_125.2.2.1.2.2.2.2.2.2.2.2.2.1
theorem dX7_add_48 : decode cX7_add 48 = .ok (.ldc2_w 54, 3) := dTo0_125.2.2.2.1.1
theorem dX7_add_51 : decode cX7_add 51 = .ok (.land, 1) := dTo0_125.2.2.2.1.2.1
theorem dX7_add_52 : decode cX7_add 52 = .ok (.ladd, 1) := dTo0_125.2.2.2.1.2.2.1
theorem dX7_add_53 : decode cX7_add 53 = .ok (.ladd, 1) := dTo0_125.2.2.2.1.2.2.2.1
theorem dX7_add_54 : decode cX7_add 54 = .ok (.lstore_n 3, 1) := dTo0_125.2.2.2.1.2.2.2.2.1
theorem dX7_add_55 : decode cX7_add 55 = .ok (.aload_n 0, 1) := dTo0_125.2.2.2.1.2.2.2.2.2.1
theorem dX7_add_56 : decode cX7_add 56 = .ok (.iload 5, 2) := dTo0_125.2.2.2.1.2.2.2.2.2.2.1
theorem dX7_add_58 : decode cX7_add 58 = .ok (.lload_n 3, 1) := dTo0_125.2.2.2.1.2.2.2.2.2.2.2.1
theorem dX7_add_59 : decode cX7_add 59 = .ok (.l2i, 1) := dTo0_125.2.2.2.1.2.2.2.2.2.2.2.2.1
theorem dX7_add_60 : decode cX7_add 60 = .ok (.iastore, 1) := dTo0_125.2.2.2.1.2.2.2.2.2.2.2.2.2.1
theorem dX7_add_61 : decode cX7_add 61 = .ok (.lload_n 3, 1) := dTo0_125.2.2.2.2.1.1
theorem dX7_add_62 : decode cX7_add 62 = .ok (.bipush 32, 2) := dTo0_125.2.2.2.2.1.2.1
theorem dX7_add_64 : decode cX7_add 64 = .ok (.lushr, 1) := dTo0_125.2.2.2.2.1.2.2.1
theorem dX7_add_65 : decode cX7_add 65 = .ok (.lstore_n 3, 1) := dTo0_125.2.2.2.2.1.2.2.2.1
theorem dX7_add_66 : decode cX7_add 66 = .ok (.iinc 5 1, 3) := dTo0_125.2.2.2.2.1.2.2.2.2.1
