theorem rd_look_of {k i : Nat} {l : List rd_Et} {e : rd_Et} (h : rd_nth rd_ct k = some l) (h2 : rd_nth l i = some e) : rd_look k i = some e := by
  unfold rd_look
  rw [h]
  exact h2
theorem L_1_0 : rd_look 1 0 = some (0, .aload_n 0, 1, []) := rd_look_of LL_1 rfl
theorem L_1_1 : rd_look 1 1 = some (1, .getfield 32, 3, [0, 9, 5]) := rd_look_of LL_1 rfl
theorem L_1_2 : rd_look 1 2 = some (4, .sipush 20000, 3, []) := rd_look_of LL_1 rfl
theorem L_1_3 : rd_look 1 3 = some (7, .if_icmp .lt 7, 3, [6]) := rd_look_of LL_1 rfl
theorem L_1_4 : rd_look 1 4 = some (10, .iconst 1, 1, []) := rd_look_of LL_1 rfl
theorem L_1_5 : rd_look 1 5 = some (11, .goto 4, 3, [7]) := rd_look_of LL_1 rfl
theorem L_1_6 : rd_look 1 6 = some (14, .iconst 0, 1, []) := rd_look_of LL_1 rfl
theorem L_1_7 : rd_look 1 7 = some (15, .ireturn, 1, []) := rd_look_of LL_1 rfl
theorem L_2_0 : rd_look 2 0 = some (0, .aload_n 0, 1, []) := rd_look_of LL_2 rfl
theorem L_2_1 : rd_look 2 1 = some (1, .getfield 32, 3, [0, 9, 5]) := rd_look_of LL_2 rfl
theorem L_2_2 : rd_look 2 2 = some (4, .ireturn, 1, []) := rd_look_of LL_2 rfl
theorem L_3_0 : rd_look 3 0 = some (0, .aload_n 0, 1, []) := rd_look_of LL_3 rfl
theorem L_3_1 : rd_look 3 1 = some (1, .getfield 18, 3, [0, 5, 1]) := rd_look_of LL_3 rfl
theorem L_3_2 : rd_look 3 2 = some (4, .iconst 0, 1, []) := rd_look_of LL_3 rfl
theorem L_3_3 : rd_look 3 3 = some (5, .invokestatic 54, 3, [193, 2, 2]) := rd_look_of LL_3 rfl
theorem L_3_4 : rd_look 3 4 = some (8, .aload_n 0, 1, []) := rd_look_of LL_3 rfl
theorem L_3_5 : rd_look 3 5 = some (9, .getfield 22, 3, [0, 6, 2]) := rd_look_of LL_3 rfl
theorem L_3_6 : rd_look 3 6 = some (12, .iconst (-1), 1, []) := rd_look_of LL_3 rfl
theorem L_3_7 : rd_look 3 7 = some (13, .invokestatic 54, 3, [193, 2, 2]) := rd_look_of LL_3 rfl
theorem L_3_8 : rd_look 3 8 = some (16, .aload_n 0, 1, []) := rd_look_of LL_3 rfl
theorem L_3_9 : rd_look 3 9 = some (17, .getfield 12, 3, [0, 4, 0]) := rd_look_of LL_3 rfl
theorem L_3_10 : rd_look 3 10 = some (20, .invokevirtual 60, 3, [96, 0, 3, 9]) := rd_look_of LL_3 rfl
theorem L_3_11 : rd_look 3 11 = some (23, .aload_n 0, 1, []) := rd_look_of LL_3 rfl
theorem L_3_12 : rd_look 3 12 = some (24, .iconst 0, 1, []) := rd_look_of LL_3 rfl
theorem L_3_13 : rd_look 3 13 = some (25, .putfield 35, 3, [0, 10, 6, 0]) := rd_look_of LL_3 rfl
theorem L_3_14 : rd_look 3 14 = some (28, .return_, 1, []) := rd_look_of LL_3 rfl
theorem L_4_0 : rd_look 4 0 = some (0, .aload_n 0, 1, []) := rd_look_of LL_4 rfl
theorem L_4_1 : rd_look 4 1 = some (1, .getfield 35, 3, [0, 10, 6]) := rd_look_of LL_4 rfl
theorem L_4_2 : rd_look 4 2 = some (4, .aload_n 0, 1, []) := rd_look_of LL_4 rfl
theorem L_4_3 : rd_look 4 3 = some (5, .getfield 38, 3, [0, 0, 7]) := rd_look_of LL_4 rfl
theorem L_4_4 : rd_look 4 4 = some (8, .invokevirtual 63, 3, [17, 0, 4, 1]) := rd_look_of LL_4 rfl
theorem L_4_5 : rd_look 4 5 = some (11, .if_icmp .ge 7, 3, [8]) := rd_look_of LL_4 rfl
theorem L_4_6 : rd_look 4 6 = some (14, .iconst 1, 1, []) := rd_look_of LL_4 rfl
theorem L_4_7 : rd_look 4 7 = some (15, .goto 4, 3, [9]) := rd_look_of LL_4 rfl
theorem L_4_8 : rd_look 4 8 = some (18, .iconst 0, 1, []) := rd_look_of LL_4 rfl
theorem L_4_9 : rd_look 4 9 = some (19, .ireturn, 1, []) := rd_look_of LL_4 rfl
theorem L_5_0 : rd_look 5 0 = some (0, .aload_n 0, 1, []) := rd_look_of LL_5 rfl
theorem L_5_1 : rd_look 5 1 = some (1, .getfield 35, 3, [0, 10, 6]) := rd_look_of LL_5 rfl
theorem L_5_2 : rd_look 5 2 = some (4, .istore_n 1, 1, []) := rd_look_of LL_5 rfl
theorem L_5_3 : rd_look 5 3 = some (5, .aload_n 0, 1, []) := rd_look_of LL_5 rfl
theorem L_5_4 : rd_look 5 4 = some (6, .getfield 38, 3, [0, 0, 7]) := rd_look_of LL_5 rfl
theorem L_5_5 : rd_look 5 5 = some (9, .getfield 69, 3, [1, 2, 11]) := rd_look_of LL_5 rfl
theorem L_5_6 : rd_look 5 6 = some (12, .iload_n 1, 1, []) := rd_look_of LL_5 rfl
theorem L_5_7 : rd_look 5 7 = some (13, .iaload, 1, []) := rd_look_of LL_5 rfl
theorem L_5_8 : rd_look 5 8 = some (14, .istore_n 2, 1, []) := rd_look_of LL_5 rfl
theorem L_5_9 : rd_look 5 9 = some (15, .aload_n 0, 1, []) := rd_look_of LL_5 rfl
theorem L_5_10 : rd_look 5 10 = some (16, .getfield 38, 3, [0, 0, 7]) := rd_look_of LL_5 rfl
theorem L_5_11 : rd_look 5 11 = some (19, .getfield 72, 3, [1, 3, 12]) := rd_look_of LL_5 rfl
theorem L_5_12 : rd_look 5 12 = some (22, .iload_n 1, 1, []) := rd_look_of LL_5 rfl
theorem L_5_13 : rd_look 5 13 = some (23, .iaload, 1, []) := rd_look_of LL_5 rfl
theorem L_5_14 : rd_look 5 14 = some (24, .istore_n 3, 1, []) := rd_look_of LL_5 rfl
theorem L_5_15 : rd_look 5 15 = some (25, .aload_n 0, 1, []) := rd_look_of LL_5 rfl
theorem L_5_16 : rd_look 5 16 = some (26, .getfield 38, 3, [0, 0, 7]) := rd_look_of LL_5 rfl
theorem L_5_17 : rd_look 5 17 = some (29, .getfield 75, 3, [1, 4, 13]) := rd_look_of LL_5 rfl
theorem L_5_18 : rd_look 5 18 = some (32, .iload_n 1, 1, []) := rd_look_of LL_5 rfl
theorem L_5_19 : rd_look 5 19 = some (33, .iaload, 1, []) := rd_look_of LL_5 rfl
theorem L_5_20 : rd_look 5 20 = some (34, .istore 4, 2, []) := rd_look_of LL_5 rfl
theorem L_5_21 : rd_look 5 21 = some (36, .aload_n 0, 1, []) := rd_look_of LL_5 rfl
theorem L_5_22 : rd_look 5 22 = some (37, .dup, 1, []) := rd_look_of LL_5 rfl
theorem L_5_23 : rd_look 5 23 = some (38, .getfield 32, 3, [0, 9, 5]) := rd_look_of LL_5 rfl
theorem L_5_24 : rd_look 5 24 = some (41, .iconst 1, 1, []) := rd_look_of LL_5 rfl
theorem L_5_25 : rd_look 5 25 = some (42, .iadd, 1, []) := rd_look_of LL_5 rfl
theorem L_5_26 : rd_look 5 26 = some (43, .putfield 32, 3, [0, 9, 5, 0]) := rd_look_of LL_5 rfl
theorem L_5_27 : rd_look 5 27 = some (46, .aload_n 0, 1, []) := rd_look_of LL_5 rfl
theorem L_5_28 : rd_look 5 28 = some (47, .iload_n 1, 1, []) := rd_look_of LL_5 rfl
theorem L_5_29 : rd_look 5 29 = some (48, .iconst 1, 1, []) := rd_look_of LL_5 rfl
theorem L_5_30 : rd_look 5 30 = some (49, .iadd, 1, []) := rd_look_of LL_5 rfl
theorem L_5_31 : rd_look 5 31 = some (50, .putfield 35, 3, [0, 10, 6, 0]) := rd_look_of LL_5 rfl
theorem L_5_32 : rd_look 5 32 = some (53, .aload_n 0, 1, []) := rd_look_of LL_5 rfl
theorem L_5_33 : rd_look 5 33 = some (54, .getfield 38, 3, [0, 0, 7]) := rd_look_of LL_5 rfl
theorem L_5_34 : rd_look 5 34 = some (57, .getfield 78, 3, [1, 1, 14]) := rd_look_of LL_5 rfl
theorem L_5_35 : rd_look 5 35 = some (60, .iload_n 1, 1, []) := rd_look_of LL_5 rfl
theorem L_5_36 : rd_look 5 36 = some (61, .iaload, 1, []) := rd_look_of LL_5 rfl
theorem L_5_37 : rd_look 5 37 = some (62, .tableswitch 200 0 8 #[50, 59, 76, 100, 112, 119, 149, 169, 171], 50, [133, 38, 45, 58, 72, 80, 85, 102, 113, 115]) := rd_look_of LL_5 rfl
theorem L_5_38 : rd_look 5 38 = some (112, .aload_n 0, 1, []) := rd_look_of LL_5 rfl
theorem L_5_39 : rd_look 5 39 = some (113, .getfield 18, 3, [0, 5, 1]) := rd_look_of LL_5 rfl
theorem L_5_40 : rd_look 5 40 = some (116, .iload_n 2, 1, []) := rd_look_of LL_5 rfl
theorem L_5_41 : rd_look 5 41 = some (117, .iload_n 3, 1, []) := rd_look_of LL_5 rfl
theorem L_5_42 : rd_look 5 42 = some (118, .iastore, 1, []) := rd_look_of LL_5 rfl
theorem L_5_43 : rd_look 5 43 = some (119, .iconst (-1), 1, []) := rd_look_of LL_5 rfl
theorem L_5_44 : rd_look 5 44 = some (120, .ireturn, 1, []) := rd_look_of LL_5 rfl
theorem L_5_45 : rd_look 5 45 = some (121, .aload_n 0, 1, []) := rd_look_of LL_5 rfl
theorem L_5_46 : rd_look 5 46 = some (122, .getfield 18, 3, [0, 5, 1]) := rd_look_of LL_5 rfl
theorem L_5_47 : rd_look 5 47 = some (125, .iload_n 2, 1, []) := rd_look_of LL_5 rfl
theorem L_5_48 : rd_look 5 48 = some (126, .dup2, 1, []) := rd_look_of LL_5 rfl
theorem L_5_49 : rd_look 5 49 = some (127, .iaload, 1, []) := rd_look_of LL_5 rfl
theorem L_5_50 : rd_look 5 50 = some (128, .aload_n 0, 1, []) := rd_look_of LL_5 rfl
theorem L_5_51 : rd_look 5 51 = some (129, .getfield 18, 3, [0, 5, 1]) := rd_look_of LL_5 rfl
theorem L_5_52 : rd_look 5 52 = some (132, .iload_n 3, 1, []) := rd_look_of LL_5 rfl
theorem L_5_53 : rd_look 5 53 = some (133, .iaload, 1, []) := rd_look_of LL_5 rfl
theorem L_5_54 : rd_look 5 54 = some (134, .iadd, 1, []) := rd_look_of LL_5 rfl
theorem L_5_55 : rd_look 5 55 = some (135, .iastore, 1, []) := rd_look_of LL_5 rfl
theorem L_5_56 : rd_look 5 56 = some (136, .iconst (-1), 1, []) := rd_look_of LL_5 rfl
theorem L_5_57 : rd_look 5 57 = some (137, .ireturn, 1, []) := rd_look_of LL_5 rfl
theorem L_5_58 : rd_look 5 58 = some (138, .aload_n 0, 1, []) := rd_look_of LL_5 rfl
theorem L_5_59 : rd_look 5 59 = some (139, .getfield 22, 3, [0, 6, 2]) := rd_look_of LL_5 rfl
theorem L_5_60 : rd_look 5 60 = some (142, .iload_n 2, 1, []) := rd_look_of LL_5 rfl
theorem L_5_61 : rd_look 5 61 = some (143, .aload_n 0, 1, []) := rd_look_of LL_5 rfl
theorem L_5_62 : rd_look 5 62 = some (144, .getfield 46, 3, [0, 2, 9]) := rd_look_of LL_5 rfl
theorem L_5_63 : rd_look 5 63 = some (147, .iload_n 3, 1, []) := rd_look_of LL_5 rfl
theorem L_5_64 : rd_look 5 64 = some (148, .invokevirtual 81, 3, [88, 1, 5, 8]) := rd_look_of LL_5 rfl
theorem L_5_65 : rd_look 5 65 = some (151, .ifCond .eq 7, 3, [68]) := rd_look_of LL_5 rfl
theorem L_5_66 : rd_look 5 66 = some (154, .iload_n 3, 1, []) := rd_look_of LL_5 rfl
theorem L_5_67 : rd_look 5 67 = some (155, .goto 4, 3, [69]) := rd_look_of LL_5 rfl
theorem L_5_68 : rd_look 5 68 = some (158, .iconst (-1), 1, []) := rd_look_of LL_5 rfl
theorem L_5_69 : rd_look 5 69 = some (159, .iastore, 1, []) := rd_look_of LL_5 rfl
theorem L_5_70 : rd_look 5 70 = some (160, .iconst (-1), 1, []) := rd_look_of LL_5 rfl
theorem L_5_71 : rd_look 5 71 = some (161, .ireturn, 1, []) := rd_look_of LL_5 rfl
theorem L_5_72 : rd_look 5 72 = some (162, .aload_n 0, 1, []) := rd_look_of LL_5 rfl
theorem L_5_73 : rd_look 5 73 = some (163, .aload_n 0, 1, []) := rd_look_of LL_5 rfl
theorem L_5_74 : rd_look 5 74 = some (164, .getfield 22, 3, [0, 6, 2]) := rd_look_of LL_5 rfl
theorem L_5_75 : rd_look 5 75 = some (167, .iload_n 2, 1, []) := rd_look_of LL_5 rfl
theorem L_5_76 : rd_look 5 76 = some (168, .iaload, 1, []) := rd_look_of LL_5 rfl
theorem L_5_77 : rd_look 5 77 = some (169, .iload_n 3, 1, []) := rd_look_of LL_5 rfl
theorem L_5_78 : rd_look 5 78 = some (170, .invokevirtual 87, 3, [6, 2, 6, 0]) := rd_look_of LL_5 rfl
theorem L_5_79 : rd_look 5 79 = some (173, .ireturn, 1, []) := rd_look_of LL_5 rfl
theorem L_5_80 : rd_look 5 80 = some (174, .aload_n 0, 1, []) := rd_look_of LL_5 rfl
theorem L_5_81 : rd_look 5 81 = some (175, .iload_n 2, 1, []) := rd_look_of LL_5 rfl
theorem L_5_82 : rd_look 5 82 = some (176, .putfield 35, 3, [0, 10, 6, 0]) := rd_look_of LL_5 rfl
theorem L_5_83 : rd_look 5 83 = some (179, .iconst (-1), 1, []) := rd_look_of LL_5 rfl
theorem L_5_84 : rd_look 5 84 = some (180, .ireturn, 1, []) := rd_look_of LL_5 rfl
theorem L_5_85 : rd_look 5 85 = some (181, .aload_n 0, 1, []) := rd_look_of LL_5 rfl
theorem L_5_86 : rd_look 5 86 = some (182, .aload_n 0, 1, []) := rd_look_of LL_5 rfl
theorem L_5_87 : rd_look 5 87 = some (183, .getfield 18, 3, [0, 5, 1]) := rd_look_of LL_5 rfl
theorem L_5_88 : rd_look 5 88 = some (186, .iload_n 2, 1, []) := rd_look_of LL_5 rfl
theorem L_5_89 : rd_look 5 89 = some (187, .iaload, 1, []) := rd_look_of LL_5 rfl
theorem L_5_90 : rd_look 5 90 = some (188, .aload_n 0, 1, []) := rd_look_of LL_5 rfl
theorem L_5_91 : rd_look 5 91 = some (189, .getfield 18, 3, [0, 5, 1]) := rd_look_of LL_5 rfl
theorem L_5_92 : rd_look 5 92 = some (192, .iload_n 3, 1, []) := rd_look_of LL_5 rfl
theorem L_5_93 : rd_look 5 93 = some (193, .iaload, 1, []) := rd_look_of LL_5 rfl
theorem L_5_94 : rd_look 5 94 = some (194, .if_icmp .ge 8, 3, [97]) := rd_look_of LL_5 rfl
theorem L_5_95 : rd_look 5 95 = some (197, .iload 4, 2, []) := rd_look_of LL_5 rfl
theorem L_5_96 : rd_look 5 96 = some (199, .goto 7, 3, [99]) := rd_look_of LL_5 rfl
theorem L_5_97 : rd_look 5 97 = some (202, .aload_n 0, 1, []) := rd_look_of LL_5 rfl
theorem L_5_98 : rd_look 5 98 = some (203, .getfield 35, 3, [0, 10, 6]) := rd_look_of LL_5 rfl
theorem L_5_99 : rd_look 5 99 = some (206, .putfield 35, 3, [0, 10, 6, 0]) := rd_look_of LL_5 rfl
theorem L_5_100 : rd_look 5 100 = some (209, .iconst (-1), 1, []) := rd_look_of LL_5 rfl
theorem L_5_101 : rd_look 5 101 = some (210, .ireturn, 1, []) := rd_look_of LL_5 rfl
theorem L_5_102 : rd_look 5 102 = some (211, .aload_n 0, 1, []) := rd_look_of LL_5 rfl
theorem L_5_103 : rd_look 5 103 = some (212, .getfield 12, 3, [0, 4, 0]) := rd_look_of LL_5 rfl
theorem L_5_104 : rd_look 5 104 = some (215, .iload_n 1, 1, []) := rd_look_of LL_5 rfl
theorem L_5_105 : rd_look 5 105 = some (216, .iload_n 2, 1, []) := rd_look_of LL_5 rfl
theorem L_5_106 : rd_look 5 106 = some (217, .iload_n 3, 1, []) := rd_look_of LL_5 rfl
theorem L_5_107 : rd_look 5 107 = some (218, .invokevirtual 91, 3, [97, 3, 7, 9]) := rd_look_of LL_5 rfl
theorem L_5_108 : rd_look 5 108 = some (221, .ifCond .eq 7, 3, [111]) := rd_look_of LL_5 rfl
theorem L_5_109 : rd_look 5 109 = some (224, .iconst (-1), 1, []) := rd_look_of LL_5 rfl
theorem L_5_110 : rd_look 5 110 = some (225, .goto 5, 3, [112]) := rd_look_of LL_5 rfl
theorem L_5_111 : rd_look 5 111 = some (228, .bipush 11, 2, []) := rd_look_of LL_5 rfl
theorem L_5_112 : rd_look 5 112 = some (230, .ireturn, 1, []) := rd_look_of LL_5 rfl
theorem L_5_113 : rd_look 5 113 = some (231, .iload_n 2, 1, []) := rd_look_of LL_5 rfl
theorem L_5_114 : rd_look 5 114 = some (232, .ireturn, 1, []) := rd_look_of LL_5 rfl
theorem L_5_115 : rd_look 5 115 = some (233, .aload_n 0, 1, []) := rd_look_of LL_5 rfl
theorem L_5_116 : rd_look 5 116 = some (234, .getfield 18, 3, [0, 5, 1]) := rd_look_of LL_5 rfl
theorem L_5_117 : rd_look 5 117 = some (237, .iload 4, 2, []) := rd_look_of LL_5 rfl
theorem L_5_118 : rd_look 5 118 = some (239, .aload_n 0, 1, []) := rd_look_of LL_5 rfl
theorem L_5_119 : rd_look 5 119 = some (240, .getfield 22, 3, [0, 6, 2]) := rd_look_of LL_5 rfl
theorem L_5_120 : rd_look 5 120 = some (243, .iload_n 2, 1, []) := rd_look_of LL_5 rfl
theorem L_5_121 : rd_look 5 121 = some (244, .iaload, 1, []) := rd_look_of LL_5 rfl
theorem L_5_122 : rd_look 5 122 = some (245, .aload_n 0, 1, []) := rd_look_of LL_5 rfl
theorem L_5_123 : rd_look 5 123 = some (246, .getfield 22, 3, [0, 6, 2]) := rd_look_of LL_5 rfl
theorem L_5_124 : rd_look 5 124 = some (249, .iload_n 3, 1, []) := rd_look_of LL_5 rfl
theorem L_5_125 : rd_look 5 125 = some (250, .iaload, 1, []) := rd_look_of LL_5 rfl
theorem L_5_126 : rd_look 5 126 = some (251, .if_icmp .ne 7, 3, [129]) := rd_look_of LL_5 rfl
theorem L_5_127 : rd_look 5 127 = some (254, .iconst 1, 1, []) := rd_look_of LL_5 rfl
theorem L_5_128 : rd_look 5 128 = some (255, .goto 4, 3, [130]) := rd_look_of LL_5 rfl
theorem L_5_129 : rd_look 5 129 = some (258, .iconst 0, 1, []) := rd_look_of LL_5 rfl
theorem L_5_130 : rd_look 5 130 = some (259, .iastore, 1, []) := rd_look_of LL_5 rfl
theorem L_5_131 : rd_look 5 131 = some (260, .iconst (-1), 1, []) := rd_look_of LL_5 rfl
theorem L_5_132 : rd_look 5 132 = some (261, .ireturn, 1, []) := rd_look_of LL_5 rfl
theorem L_5_133 : rd_look 5 133 = some (262, .aload_n 0, 1, []) := rd_look_of LL_5 rfl
theorem L_5_134 : rd_look 5 134 = some (263, .aload_n 0, 1, []) := rd_look_of LL_5 rfl
theorem L_5_135 : rd_look 5 135 = some (264, .getfield 18, 3, [0, 5, 1]) := rd_look_of LL_5 rfl
theorem L_5_136 : rd_look 5 136 = some (267, .iload_n 2, 1, []) := rd_look_of LL_5 rfl
theorem L_5_137 : rd_look 5 137 = some (268, .iaload, 1, []) := rd_look_of LL_5 rfl
theorem L_5_138 : rd_look 5 138 = some (269, .invokevirtual 95, 3, [8, 1, 8, 0]) := rd_look_of LL_5 rfl
theorem L_5_139 : rd_look 5 139 = some (272, .iconst (-1), 1, []) := rd_look_of LL_5 rfl
theorem L_5_140 : rd_look 5 140 = some (273, .ireturn, 1, []) := rd_look_of LL_5 rfl
theorem L_6_0 : rd_look 6 0 = some (0, .iload_n 1, 1, []) := rd_look_of LL_6 rfl
theorem L_6_1 : rd_look 6 1 = some (1, .iconst (-1), 1, []) := rd_look_of LL_6 rfl
theorem L_6_2 : rd_look 6 2 = some (2, .if_icmp .ne 6, 3, [5]) := rd_look_of LL_6 rfl
theorem L_6_3 : rd_look 6 3 = some (5, .bipush 9, 2, []) := rd_look_of LL_6 rfl
theorem L_6_4 : rd_look 6 4 = some (7, .ireturn, 1, []) := rd_look_of LL_6 rfl
theorem L_6_5 : rd_look 6 5 = some (8, .aload_n 0, 1, []) := rd_look_of LL_6 rfl
theorem L_6_6 : rd_look 6 6 = some (9, .getfield 46, 3, [0, 2, 9]) := rd_look_of LL_6 rfl
theorem L_6_7 : rd_look 6 7 = some (12, .iload_n 1, 1, []) := rd_look_of LL_6 rfl
theorem L_6_8 : rd_look 6 8 = some (13, .iload_n 2, 1, []) := rd_look_of LL_6 rfl
theorem L_6_9 : rd_look 6 9 = some (14, .invokevirtual 99, 3, [92, 2, 9, 8]) := rd_look_of LL_6 rfl
theorem L_6_10 : rd_look 6 10 = some (17, .istore_n 3, 1, []) := rd_look_of LL_6 rfl
theorem L_6_11 : rd_look 6 11 = some (18, .iload_n 3, 1, []) := rd_look_of LL_6 rfl
theorem L_6_12 : rd_look 6 12 = some (19, .iconst (-1), 1, []) := rd_look_of LL_6 rfl
theorem L_6_13 : rd_look 6 13 = some (20, .if_icmp .ne 6, 3, [16]) := rd_look_of LL_6 rfl
theorem L_6_14 : rd_look 6 14 = some (23, .bipush 10, 2, []) := rd_look_of LL_6 rfl
theorem L_6_15 : rd_look 6 15 = some (25, .ireturn, 1, []) := rd_look_of LL_6 rfl
theorem L_6_16 : rd_look 6 16 = some (26, .aload_n 0, 1, []) := rd_look_of LL_6 rfl
theorem L_6_17 : rd_look 6 17 = some (27, .getfield 50, 3, [0, 3, 10]) := rd_look_of LL_6 rfl
theorem L_6_18 : rd_look 6 18 = some (30, .iload_n 1, 1, []) := rd_look_of LL_6 rfl
theorem L_6_19 : rd_look 6 19 = some (31, .iload_n 2, 1, []) := rd_look_of LL_6 rfl
theorem L_6_20 : rd_look 6 20 = some (32, .iload_n 3, 1, []) := rd_look_of LL_6 rfl
theorem L_6_21 : rd_look 6 21 = some (33, .invokevirtual 102, 3, [77, 3, 10, 7]) := rd_look_of LL_6 rfl
theorem L_6_22 : rd_look 6 22 = some (36, .aload_n 0, 1, []) := rd_look_of LL_6 rfl
theorem L_6_23 : rd_look 6 23 = some (37, .iload_n 3, 1, []) := rd_look_of LL_6 rfl
theorem L_6_24 : rd_look 6 24 = some (38, .invokevirtual 108, 3, [7, 1, 11, 0]) := rd_look_of LL_6 rfl
theorem L_6_25 : rd_look 6 25 = some (41, .aload_n 0, 1, []) := rd_look_of LL_6 rfl
theorem L_6_26 : rd_look 6 26 = some (42, .getfield 50, 3, [0, 3, 10]) := rd_look_of LL_6 rfl
theorem L_6_27 : rd_look 6 27 = some (45, .invokevirtual 111, 3, [79, 0, 12, 7]) := rd_look_of LL_6 rfl
theorem L_6_28 : rd_look 6 28 = some (48, .aload_n 0, 1, []) := rd_look_of LL_6 rfl
theorem L_6_29 : rd_look 6 29 = some (49, .getfield 50, 3, [0, 3, 10]) := rd_look_of LL_6 rfl
theorem L_6_30 : rd_look 6 30 = some (52, .getfield 114, 3, [7, 4, 15]) := rd_look_of LL_6 rfl
theorem L_6_31 : rd_look 6 31 = some (55, .bipush 8, 2, []) := rd_look_of LL_6 rfl
theorem L_6_32 : rd_look 6 32 = some (57, .iaload, 1, []) := rd_look_of LL_6 rfl
theorem L_6_33 : rd_look 6 33 = some (58, .iconst (-1), 1, []) := rd_look_of LL_6 rfl
theorem L_6_34 : rd_look 6 34 = some (59, .if_icmp .eq 14, 3, [41]) := rd_look_of LL_6 rfl
theorem L_6_35 : rd_look 6 35 = some (62, .aload_n 0, 1, []) := rd_look_of LL_6 rfl
theorem L_6_36 : rd_look 6 36 = some (63, .getfield 50, 3, [0, 3, 10]) := rd_look_of LL_6 rfl
theorem L_6_37 : rd_look 6 37 = some (66, .getfield 114, 3, [7, 4, 15]) := rd_look_of LL_6 rfl
theorem L_6_38 : rd_look 6 38 = some (69, .bipush 8, 2, []) := rd_look_of LL_6 rfl
theorem L_6_39 : rd_look 6 39 = some (71, .iaload, 1, []) := rd_look_of LL_6 rfl
theorem L_6_40 : rd_look 6 40 = some (72, .ireturn, 1, []) := rd_look_of LL_6 rfl
theorem L_6_41 : rd_look 6 41 = some (73, .aload_n 0, 1, []) := rd_look_of LL_6 rfl
theorem L_6_42 : rd_look 6 42 = some (74, .getfield 42, 3, [0, 1, 8]) := rd_look_of LL_6 rfl
theorem L_6_43 : rd_look 6 43 = some (77, .iload_n 3, 1, []) := rd_look_of LL_6 rfl
theorem L_6_44 : rd_look 6 44 = some (78, .invokevirtual 117, 3, [45, 1, 13, 3]) := rd_look_of LL_6 rfl
theorem L_6_45 : rd_look 6 45 = some (81, .iconst 1, 1, []) := rd_look_of LL_6 rfl
theorem L_6_46 : rd_look 6 46 = some (82, .if_icmp .ne 23, 3, [57]) := rd_look_of LL_6 rfl
theorem L_6_47 : rd_look 6 47 = some (85, .aload_n 0, 1, []) := rd_look_of LL_6 rfl
theorem L_6_48 : rd_look 6 48 = some (86, .getfield 18, 3, [0, 5, 1]) := rd_look_of LL_6 rfl
theorem L_6_49 : rd_look 6 49 = some (89, .bipush 7, 2, []) := rd_look_of LL_6 rfl
theorem L_6_50 : rd_look 6 50 = some (91, .aload_n 0, 1, []) := rd_look_of LL_6 rfl
theorem L_6_51 : rd_look 6 51 = some (92, .getfield 50, 3, [0, 3, 10]) := rd_look_of LL_6 rfl
theorem L_6_52 : rd_look 6 52 = some (95, .getfield 114, 3, [7, 4, 15]) := rd_look_of LL_6 rfl
theorem L_6_53 : rd_look 6 53 = some (98, .bipush 7, 2, []) := rd_look_of LL_6 rfl
theorem L_6_54 : rd_look 6 54 = some (100, .iaload, 1, []) := rd_look_of LL_6 rfl
theorem L_6_55 : rd_look 6 55 = some (101, .iastore, 1, []) := rd_look_of LL_6 rfl
theorem L_6_56 : rd_look 6 56 = some (102, .goto 31, 3, [72]) := rd_look_of LL_6 rfl
theorem L_6_57 : rd_look 6 57 = some (105, .aload_n 0, 1, []) := rd_look_of LL_6 rfl
theorem L_6_58 : rd_look 6 58 = some (106, .getfield 42, 3, [0, 1, 8]) := rd_look_of LL_6 rfl
theorem L_6_59 : rd_look 6 59 = some (109, .iload_n 3, 1, []) := rd_look_of LL_6 rfl
theorem L_6_60 : rd_look 6 60 = some (110, .invokevirtual 117, 3, [45, 1, 13, 3]) := rd_look_of LL_6 rfl
theorem L_6_61 : rd_look 6 61 = some (113, .iconst 2, 1, []) := rd_look_of LL_6 rfl
theorem L_6_62 : rd_look 6 62 = some (114, .if_icmp .ne 19, 3, [72]) := rd_look_of LL_6 rfl
theorem L_6_63 : rd_look 6 63 = some (117, .aload_n 0, 1, []) := rd_look_of LL_6 rfl
theorem L_6_64 : rd_look 6 64 = some (118, .getfield 22, 3, [0, 6, 2]) := rd_look_of LL_6 rfl
theorem L_6_65 : rd_look 6 65 = some (121, .iconst 3, 1, []) := rd_look_of LL_6 rfl
theorem L_6_66 : rd_look 6 66 = some (122, .aload_n 0, 1, []) := rd_look_of LL_6 rfl
theorem L_6_67 : rd_look 6 67 = some (123, .getfield 50, 3, [0, 3, 10]) := rd_look_of LL_6 rfl
theorem L_6_68 : rd_look 6 68 = some (126, .getfield 114, 3, [7, 4, 15]) := rd_look_of LL_6 rfl
theorem L_6_69 : rd_look 6 69 = some (129, .bipush 7, 2, []) := rd_look_of LL_6 rfl
theorem L_6_70 : rd_look 6 70 = some (131, .iaload, 1, []) := rd_look_of LL_6 rfl
theorem L_6_71 : rd_look 6 71 = some (132, .iastore, 1, []) := rd_look_of LL_6 rfl
theorem L_6_72 : rd_look 6 72 = some (133, .iconst (-1), 1, []) := rd_look_of LL_6 rfl
theorem L_6_73 : rd_look 6 73 = some (134, .ireturn, 1, []) := rd_look_of LL_6 rfl
theorem L_7_0 : rd_look 7 0 = some (0, .iconst 0, 1, []) := rd_look_of LL_7 rfl
theorem L_7_1 : rd_look 7 1 = some (1, .istore_n 2, 1, []) := rd_look_of LL_7 rfl
theorem L_7_2 : rd_look 7 2 = some (2, .iconst 0, 1, []) := rd_look_of LL_7 rfl
theorem L_7_3 : rd_look 7 3 = some (3, .istore_n 3, 1, []) := rd_look_of LL_7 rfl
theorem L_7_4 : rd_look 7 4 = some (4, .iconst 0, 1, []) := rd_look_of LL_7 rfl
theorem L_7_5 : rd_look 7 5 = some (5, .istore 4, 2, []) := rd_look_of LL_7 rfl
theorem L_7_6 : rd_look 7 6 = some (7, .iload 4, 2, []) := rd_look_of LL_7 rfl
theorem L_7_7 : rd_look 7 7 = some (9, .iconst 3, 1, []) := rd_look_of LL_7 rfl
theorem L_7_8 : rd_look 7 8 = some (10, .if_icmp .ge 61, 3, [36]) := rd_look_of LL_7 rfl
theorem L_7_9 : rd_look 7 9 = some (13, .aload_n 0, 1, []) := rd_look_of LL_7 rfl
theorem L_7_10 : rd_look 7 10 = some (14, .getfield 42, 3, [0, 1, 8]) := rd_look_of LL_7 rfl
theorem L_7_11 : rd_look 7 11 = some (17, .iload_n 1, 1, []) := rd_look_of LL_7 rfl
theorem L_7_12 : rd_look 7 12 = some (18, .iload 4, 2, []) := rd_look_of LL_7 rfl
theorem L_7_13 : rd_look 7 13 = some (20, .invokevirtual 123, 3, [44, 2, 14, 3]) := rd_look_of LL_7 rfl
theorem L_7_14 : rd_look 7 14 = some (23, .ifCond .eq 24, 3, [25]) := rd_look_of LL_7 rfl
theorem L_7_15 : rd_look 7 15 = some (26, .aload_n 0, 1, []) := rd_look_of LL_7 rfl
theorem L_7_16 : rd_look 7 16 = some (27, .getfield 50, 3, [0, 3, 10]) := rd_look_of LL_7 rfl
theorem L_7_17 : rd_look 7 17 = some (30, .iload 4, 2, []) := rd_look_of LL_7 rfl
theorem L_7_18 : rd_look 7 18 = some (32, .aload_n 0, 1, []) := rd_look_of LL_7 rfl
theorem L_7_19 : rd_look 7 19 = some (33, .getfield 22, 3, [0, 6, 2]) := rd_look_of LL_7 rfl
theorem L_7_20 : rd_look 7 20 = some (36, .iload_n 3, 1, []) := rd_look_of LL_7 rfl
theorem L_7_21 : rd_look 7 21 = some (37, .iaload, 1, []) := rd_look_of LL_7 rfl
theorem L_7_22 : rd_look 7 22 = some (38, .invokevirtual 127, 3, [78, 2, 15, 7]) := rd_look_of LL_7 rfl
theorem L_7_23 : rd_look 7 23 = some (41, .iinc 3 1, 3, []) := rd_look_of LL_7 rfl
theorem L_7_24 : rd_look 7 24 = some (44, .goto 21, 3, [34]) := rd_look_of LL_7 rfl
theorem L_7_25 : rd_look 7 25 = some (47, .aload_n 0, 1, []) := rd_look_of LL_7 rfl
theorem L_7_26 : rd_look 7 26 = some (48, .getfield 50, 3, [0, 3, 10]) := rd_look_of LL_7 rfl
theorem L_7_27 : rd_look 7 27 = some (51, .iload 4, 2, []) := rd_look_of LL_7 rfl
theorem L_7_28 : rd_look 7 28 = some (53, .aload_n 0, 1, []) := rd_look_of LL_7 rfl
theorem L_7_29 : rd_look 7 29 = some (54, .getfield 18, 3, [0, 5, 1]) := rd_look_of LL_7 rfl
theorem L_7_30 : rd_look 7 30 = some (57, .iload_n 2, 1, []) := rd_look_of LL_7 rfl
theorem L_7_31 : rd_look 7 31 = some (58, .iaload, 1, []) := rd_look_of LL_7 rfl
theorem L_7_32 : rd_look 7 32 = some (59, .invokevirtual 127, 3, [78, 2, 15, 7]) := rd_look_of LL_7 rfl
theorem L_7_33 : rd_look 7 33 = some (62, .iinc 2 1, 3, []) := rd_look_of LL_7 rfl
theorem L_7_34 : rd_look 7 34 = some (65, .iinc 4 1, 3, []) := rd_look_of LL_7 rfl
theorem L_7_35 : rd_look 7 35 = some (68, .goto (-61), 3, [6]) := rd_look_of LL_7 rfl
theorem L_7_36 : rd_look 7 36 = some (71, .return_, 1, []) := rd_look_of LL_7 rfl
theorem L_8_0 : rd_look 8 0 = some (0, .aload_n 0, 1, []) := rd_look_of LL_8 rfl
theorem L_8_1 : rd_look 8 1 = some (1, .getfield 28, 3, [0, 8, 4]) := rd_look_of LL_8 rfl
theorem L_8_2 : rd_look 8 2 = some (4, .bipush 100, 2, []) := rd_look_of LL_8 rfl
theorem L_8_3 : rd_look 8 3 = some (6, .if_icmp .ge 23, 3, [16]) := rd_look_of LL_8 rfl
theorem L_8_4 : rd_look 8 4 = some (9, .aload_n 0, 1, []) := rd_look_of LL_8 rfl
theorem L_8_5 : rd_look 8 5 = some (10, .getfield 25, 3, [0, 7, 3]) := rd_look_of LL_8 rfl
theorem L_8_6 : rd_look 8 6 = some (13, .aload_n 0, 1, []) := rd_look_of LL_8 rfl
theorem L_8_7 : rd_look 8 7 = some (14, .getfield 28, 3, [0, 8, 4]) := rd_look_of LL_8 rfl
theorem L_8_8 : rd_look 8 8 = some (17, .iload_n 1, 1, []) := rd_look_of LL_8 rfl
theorem L_8_9 : rd_look 8 9 = some (18, .iastore, 1, []) := rd_look_of LL_8 rfl
theorem L_8_10 : rd_look 8 10 = some (19, .aload_n 0, 1, []) := rd_look_of LL_8 rfl
theorem L_8_11 : rd_look 8 11 = some (20, .dup, 1, []) := rd_look_of LL_8 rfl
theorem L_8_12 : rd_look 8 12 = some (21, .getfield 28, 3, [0, 8, 4]) := rd_look_of LL_8 rfl
theorem L_8_13 : rd_look 8 13 = some (24, .iconst 1, 1, []) := rd_look_of LL_8 rfl
theorem L_8_14 : rd_look 8 14 = some (25, .iadd, 1, []) := rd_look_of LL_8 rfl
theorem L_8_15 : rd_look 8 15 = some (26, .putfield 28, 3, [0, 8, 4, 0]) := rd_look_of LL_8 rfl
theorem L_8_16 : rd_look 8 16 = some (29, .return_, 1, []) := rd_look_of LL_8 rfl
theorem L_9_0 : rd_look 9 0 = some (0, .aload_n 0, 1, []) := rd_look_of LL_9 rfl
theorem L_9_1 : rd_look 9 1 = some (1, .getfield 12, 3, [0, 4, 0]) := rd_look_of LL_9 rfl
theorem L_9_2 : rd_look 9 2 = some (4, .invokevirtual 131, 3, [99, 0, 16, 9]) := rd_look_of LL_9 rfl
theorem L_9_3 : rd_look 9 3 = some (7, .istore_n 2, 1, []) := rd_look_of LL_9 rfl
theorem L_9_4 : rd_look 9 4 = some (8, .iload_n 2, 1, []) := rd_look_of LL_9 rfl
theorem L_9_5 : rd_look 9 5 = some (9, .iconst (-1), 1, []) := rd_look_of LL_9 rfl
theorem L_9_6 : rd_look 9 6 = some (10, .if_icmp .ne 5, 3, [9]) := rd_look_of LL_9 rfl
theorem L_9_7 : rd_look 9 7 = some (13, .iconst 0, 1, []) := rd_look_of LL_9 rfl
theorem L_9_8 : rd_look 9 8 = some (14, .ireturn, 1, []) := rd_look_of LL_9 rfl
theorem L_9_9 : rd_look 9 9 = some (15, .aload_n 0, 1, []) := rd_look_of LL_9 rfl
theorem L_9_10 : rd_look 9 10 = some (16, .getfield 18, 3, [0, 5, 1]) := rd_look_of LL_9 rfl
theorem L_9_11 : rd_look 9 11 = some (19, .bipush 6, 2, []) := rd_look_of LL_9 rfl
theorem L_9_12 : rd_look 9 12 = some (21, .iload_n 1, 1, []) := rd_look_of LL_9 rfl
theorem L_9_13 : rd_look 9 13 = some (22, .iastore, 1, []) := rd_look_of LL_9 rfl
theorem L_9_14 : rd_look 9 14 = some (23, .aload_n 0, 1, []) := rd_look_of LL_9 rfl
theorem L_9_15 : rd_look 9 15 = some (24, .iload_n 2, 1, []) := rd_look_of LL_9 rfl
theorem L_9_16 : rd_look 9 16 = some (25, .putfield 35, 3, [0, 10, 6, 0]) := rd_look_of LL_9 rfl
theorem L_9_17 : rd_look 9 17 = some (28, .iconst 1, 1, []) := rd_look_of LL_9 rfl
theorem L_9_18 : rd_look 9 18 = some (29, .ireturn, 1, []) := rd_look_of LL_9 rfl
theorem L_10_0 : rd_look 10 0 = some (0, .aload_n 0, 1, []) := rd_look_of LL_10 rfl
theorem L_10_1 : rd_look 10 1 = some (1, .getfield 12, 3, [0, 4, 0]) := rd_look_of LL_10 rfl
theorem L_10_2 : rd_look 10 2 = some (4, .aload_n 0, 1, []) := rd_look_of LL_10 rfl
theorem L_10_3 : rd_look 10 3 = some (5, .getfield 35, 3, [0, 10, 6]) := rd_look_of LL_10 rfl
theorem L_10_4 : rd_look 10 4 = some (8, .invokevirtual 134, 3, [98, 1, 17, 9]) := rd_look_of LL_10 rfl
theorem L_10_5 : rd_look 10 5 = some (11, .return_, 1, []) := rd_look_of LL_10 rfl
theorem L_11_0 : rd_look 11 0 = some (0, .aload_n 0, 1, []) := rd_look_of LL_11 rfl
theorem L_11_1 : rd_look 11 1 = some (1, .getfield 28, 3, [0, 8, 4]) := rd_look_of LL_11 rfl
theorem L_11_2 : rd_look 11 2 = some (4, .ireturn, 1, []) := rd_look_of LL_11 rfl
theorem L_12_0 : rd_look 12 0 = some (0, .aload_n 0, 1, []) := rd_look_of LL_12 rfl
theorem L_12_1 : rd_look 12 1 = some (1, .getfield 25, 3, [0, 7, 3]) := rd_look_of LL_12 rfl
theorem L_12_2 : rd_look 12 2 = some (4, .iload_n 1, 1, []) := rd_look_of LL_12 rfl
theorem L_12_3 : rd_look 12 3 = some (5, .iaload, 1, []) := rd_look_of LL_12 rfl
theorem L_12_4 : rd_look 12 4 = some (6, .ireturn, 1, []) := rd_look_of LL_12 rfl
theorem L_13_0 : rd_look 13 0 = some (0, .aload_n 0, 1, []) := rd_look_of LL_13 rfl
theorem L_13_1 : rd_look 13 1 = some (1, .iconst 0, 1, []) := rd_look_of LL_13 rfl
theorem L_13_2 : rd_look 13 2 = some (2, .putfield 28, 3, [0, 8, 4, 0]) := rd_look_of LL_13 rfl
theorem L_13_3 : rd_look 13 3 = some (5, .return_, 1, []) := rd_look_of LL_13 rfl
theorem L_15_0 : rd_look 15 0 = some (0, .iload_n 0, 1, []) := rd_look_of LL_15 rfl
theorem L_15_1 : rd_look 15 1 = some (1, .ifCond .lt 9, 3, [5]) := rd_look_of LL_15 rfl
theorem L_15_2 : rd_look 15 2 = some (4, .iload_n 0, 1, []) := rd_look_of LL_15 rfl
theorem L_15_3 : rd_look 15 3 = some (5, .bipush 9, 2, []) := rd_look_of LL_15 rfl
theorem L_15_4 : rd_look 15 4 = some (7, .if_icmp .le 5, 3, [7]) := rd_look_of LL_15 rfl
theorem L_15_5 : rd_look 15 5 = some (10, .iconst 0, 1, []) := rd_look_of LL_15 rfl
theorem L_15_6 : rd_look 15 6 = some (11, .ireturn, 1, []) := rd_look_of LL_15 rfl
theorem L_15_7 : rd_look 15 7 = some (12, .iload_n 0, 1, []) := rd_look_of LL_15 rfl
theorem L_15_8 : rd_look 15 8 = some (13, .bipush 6, 2, []) := rd_look_of LL_15 rfl
theorem L_15_9 : rd_look 15 9 = some (15, .imul, 1, []) := rd_look_of LL_15 rfl
theorem L_15_10 : rd_look 15 10 = some (16, .istore 4, 2, []) := rd_look_of LL_15 rfl
theorem L_15_11 : rd_look 15 11 = some (18, .iload_n 1, 1, []) := rd_look_of LL_15 rfl
theorem L_15_12 : rd_look 15 12 = some (19, .iload 4, 2, []) := rd_look_of LL_15 rfl
theorem L_15_13 : rd_look 15 13 = some (21, .invokestatic 28, 3, [16, 2, 19]) := rd_look_of LL_15 rfl
theorem L_15_14 : rd_look 15 14 = some (24, .ifCond .eq 29, 3, [29]) := rd_look_of LL_15 rfl
theorem L_15_15 : rd_look 15 15 = some (27, .iload_n 2, 1, []) := rd_look_of LL_15 rfl
theorem L_15_16 : rd_look 15 16 = some (28, .iload 4, 2, []) := rd_look_of LL_15 rfl
theorem L_15_17 : rd_look 15 17 = some (30, .iconst 2, 1, []) := rd_look_of LL_15 rfl
theorem L_15_18 : rd_look 15 18 = some (31, .iadd, 1, []) := rd_look_of LL_15 rfl
theorem L_15_19 : rd_look 15 19 = some (32, .invokestatic 28, 3, [16, 2, 19]) := rd_look_of LL_15 rfl
theorem L_15_20 : rd_look 15 20 = some (35, .ifCond .eq 18, 3, [29]) := rd_look_of LL_15 rfl
theorem L_15_21 : rd_look 15 21 = some (38, .iload_n 3, 1, []) := rd_look_of LL_15 rfl
theorem L_15_22 : rd_look 15 22 = some (39, .iload 4, 2, []) := rd_look_of LL_15 rfl
theorem L_15_23 : rd_look 15 23 = some (41, .iconst 4, 1, []) := rd_look_of LL_15 rfl
theorem L_15_24 : rd_look 15 24 = some (42, .iadd, 1, []) := rd_look_of LL_15 rfl
theorem L_15_25 : rd_look 15 25 = some (43, .invokestatic 28, 3, [16, 2, 19]) := rd_look_of LL_15 rfl
theorem L_15_26 : rd_look 15 26 = some (46, .ifCond .eq 7, 3, [29]) := rd_look_of LL_15 rfl
theorem L_15_27 : rd_look 15 27 = some (49, .iconst 1, 1, []) := rd_look_of LL_15 rfl
theorem L_15_28 : rd_look 15 28 = some (50, .goto 4, 3, [30]) := rd_look_of LL_15 rfl
theorem L_15_29 : rd_look 15 29 = some (53, .iconst 0, 1, []) := rd_look_of LL_15 rfl
theorem L_15_30 : rd_look 15 30 = some (54, .ireturn, 1, []) := rd_look_of LL_15 rfl
theorem L_16_0 : rd_look 16 0 = some (0, .getstatic 32, 3, [21]) := rd_look_of LL_16 rfl
theorem L_16_1 : rd_look 16 1 = some (3, .iload_n 1, 1, []) := rd_look_of LL_16 rfl
theorem L_16_2 : rd_look 16 2 = some (4, .iaload, 1, []) := rd_look_of LL_16 rfl
theorem L_16_3 : rd_look 16 3 = some (5, .iload_n 0, 1, []) := rd_look_of LL_16 rfl
theorem L_16_4 : rd_look 16 4 = some (6, .if_icmp .gt 18, 3, [14]) := rd_look_of LL_16 rfl
theorem L_16_5 : rd_look 16 5 = some (9, .iload_n 0, 1, []) := rd_look_of LL_16 rfl
theorem L_16_6 : rd_look 16 6 = some (10, .getstatic 32, 3, [21]) := rd_look_of LL_16 rfl
theorem L_16_7 : rd_look 16 7 = some (13, .iload_n 1, 1, []) := rd_look_of LL_16 rfl
theorem L_16_8 : rd_look 16 8 = some (14, .iconst 1, 1, []) := rd_look_of LL_16 rfl
theorem L_16_9 : rd_look 16 9 = some (15, .iadd, 1, []) := rd_look_of LL_16 rfl
theorem L_16_10 : rd_look 16 10 = some (16, .iaload, 1, []) := rd_look_of LL_16 rfl
theorem L_16_11 : rd_look 16 11 = some (17, .if_icmp .gt 7, 3, [14]) := rd_look_of LL_16 rfl
theorem L_16_12 : rd_look 16 12 = some (20, .iconst 1, 1, []) := rd_look_of LL_16 rfl
theorem L_16_13 : rd_look 16 13 = some (21, .goto 4, 3, [15]) := rd_look_of LL_16 rfl
theorem L_16_14 : rd_look 16 14 = some (24, .iconst 0, 1, []) := rd_look_of LL_16 rfl
theorem L_16_15 : rd_look 16 15 = some (25, .ireturn, 1, []) := rd_look_of LL_16 rfl
theorem L_17_0 : rd_look 17 0 = some (0, .aload_n 0, 1, []) := rd_look_of LL_17 rfl
theorem L_17_1 : rd_look 17 1 = some (1, .getfield 9, 3, [1, 0, 16]) := rd_look_of LL_17 rfl
theorem L_17_2 : rd_look 17 2 = some (4, .ireturn, 1, []) := rd_look_of LL_17 rfl
theorem L_18_0 : rd_look 18 0 = some (0, .aload_n 0, 1, []) := rd_look_of LL_18 rfl
theorem L_18_1 : rd_look 18 1 = some (1, .getfield 9, 3, [1, 0, 16]) := rd_look_of LL_18 rfl
theorem L_18_2 : rd_look 18 2 = some (4, .bipush 60, 2, []) := rd_look_of LL_18 rfl
theorem L_18_3 : rd_look 18 3 = some (6, .if_icmp .lt 6, 3, [6]) := rd_look_of LL_18 rfl
theorem L_18_4 : rd_look 18 4 = some (9, .bipush (-3), 2, []) := rd_look_of LL_18 rfl
theorem L_18_5 : rd_look 18 5 = some (11, .ireturn, 1, []) := rd_look_of LL_18 rfl
theorem L_18_6 : rd_look 18 6 = some (12, .aload_n 0, 1, []) := rd_look_of LL_18 rfl
theorem L_18_7 : rd_look 18 7 = some (13, .getfield 9, 3, [1, 0, 16]) := rd_look_of LL_18 rfl
theorem L_18_8 : rd_look 18 8 = some (16, .istore 5, 2, []) := rd_look_of LL_18 rfl
theorem L_18_9 : rd_look 18 9 = some (18, .aload_n 0, 1, []) := rd_look_of LL_18 rfl
theorem L_18_10 : rd_look 18 10 = some (19, .getfield 15, 3, [1, 1, 17]) := rd_look_of LL_18 rfl
theorem L_18_11 : rd_look 18 11 = some (22, .iload 5, 2, []) := rd_look_of LL_18 rfl
theorem L_18_12 : rd_look 18 12 = some (24, .iload_n 1, 1, []) := rd_look_of LL_18 rfl
theorem L_18_13 : rd_look 18 13 = some (25, .iastore, 1, []) := rd_look_of LL_18 rfl
theorem L_18_14 : rd_look 18 14 = some (26, .aload_n 0, 1, []) := rd_look_of LL_18 rfl
theorem L_18_15 : rd_look 18 15 = some (27, .getfield 19, 3, [1, 2, 18]) := rd_look_of LL_18 rfl
theorem L_18_16 : rd_look 18 16 = some (30, .iload 5, 2, []) := rd_look_of LL_18 rfl
theorem L_18_17 : rd_look 18 17 = some (32, .iload_n 2, 1, []) := rd_look_of LL_18 rfl
theorem L_18_18 : rd_look 18 18 = some (33, .iastore, 1, []) := rd_look_of LL_18 rfl
theorem L_18_19 : rd_look 18 19 = some (34, .aload_n 0, 1, []) := rd_look_of LL_18 rfl
theorem L_18_20 : rd_look 18 20 = some (35, .getfield 22, 3, [1, 3, 19]) := rd_look_of LL_18 rfl
theorem L_18_21 : rd_look 18 21 = some (38, .iload 5, 2, []) := rd_look_of LL_18 rfl
theorem L_18_22 : rd_look 18 22 = some (40, .iload_n 3, 1, []) := rd_look_of LL_18 rfl
theorem L_18_23 : rd_look 18 23 = some (41, .iastore, 1, []) := rd_look_of LL_18 rfl
theorem L_18_24 : rd_look 18 24 = some (42, .aload_n 0, 1, []) := rd_look_of LL_18 rfl
theorem L_18_25 : rd_look 18 25 = some (43, .getfield 25, 3, [1, 4, 20]) := rd_look_of LL_18 rfl
theorem L_18_26 : rd_look 18 26 = some (46, .iload 5, 2, []) := rd_look_of LL_18 rfl
theorem L_18_27 : rd_look 18 27 = some (48, .iload 4, 2, []) := rd_look_of LL_18 rfl
theorem L_18_28 : rd_look 18 28 = some (50, .iastore, 1, []) := rd_look_of LL_18 rfl
theorem L_18_29 : rd_look 18 29 = some (51, .aload_n 0, 1, []) := rd_look_of LL_18 rfl
theorem L_18_30 : rd_look 18 30 = some (52, .dup, 1, []) := rd_look_of LL_18 rfl
theorem L_18_31 : rd_look 18 31 = some (53, .getfield 9, 3, [1, 0, 16]) := rd_look_of LL_18 rfl
theorem L_18_32 : rd_look 18 32 = some (56, .iconst 1, 1, []) := rd_look_of LL_18 rfl
theorem L_18_33 : rd_look 18 33 = some (57, .iadd, 1, []) := rd_look_of LL_18 rfl
theorem L_18_34 : rd_look 18 34 = some (58, .putfield 9, 3, [1, 0, 16, 0]) := rd_look_of LL_18 rfl
theorem L_18_35 : rd_look 18 35 = some (61, .iload 5, 2, []) := rd_look_of LL_18 rfl
theorem L_18_36 : rd_look 18 36 = some (63, .ireturn, 1, []) := rd_look_of LL_18 rfl
theorem L_19_0 : rd_look 19 0 = some (0, .aload_n 0, 1, []) := rd_look_of LL_19 rfl
theorem L_19_1 : rd_look 19 1 = some (1, .getfield 9, 3, [1, 0, 16]) := rd_look_of LL_19 rfl
theorem L_19_2 : rd_look 19 2 = some (4, .istore_n 1, 1, []) := rd_look_of LL_19 rfl
theorem L_19_3 : rd_look 19 3 = some (5, .aload_n 0, 1, []) := rd_look_of LL_19 rfl
theorem L_19_4 : rd_look 19 4 = some (6, .iconst 0, 1, []) := rd_look_of LL_19 rfl
theorem L_19_5 : rd_look 19 5 = some (7, .putfield 9, 3, [1, 0, 16, 0]) := rd_look_of LL_19 rfl
theorem L_19_6 : rd_look 19 6 = some (10, .iload_n 1, 1, []) := rd_look_of LL_19 rfl
theorem L_19_7 : rd_look 19 7 = some (11, .ireturn, 1, []) := rd_look_of LL_19 rfl
theorem L_21_0 : rd_look 21 0 = some (0, .aload_n 0, 1, []) := rd_look_of LL_21 rfl
theorem L_21_1 : rd_look 21 1 = some (1, .getfield 43, 3, [2, 0, 31]) := rd_look_of LL_21 rfl
theorem L_21_2 : rd_look 21 2 = some (4, .iload_n 1, 1, []) := rd_look_of LL_21 rfl
theorem L_21_3 : rd_look 21 3 = some (5, .iload_n 2, 1, []) := rd_look_of LL_21 rfl
theorem L_21_4 : rd_look 21 4 = some (6, .iload_n 3, 1, []) := rd_look_of LL_21 rfl
theorem L_21_5 : rd_look 21 5 = some (7, .invokevirtual 47, 3, [57, 3, 21, 5]) := rd_look_of LL_21 rfl
theorem L_21_6 : rd_look 21 6 = some (10, .istore 6, 2, []) := rd_look_of LL_21 rfl
theorem L_21_7 : rd_look 21 7 = some (12, .iload 6, 2, []) := rd_look_of LL_21 rfl
theorem L_21_8 : rd_look 21 8 = some (14, .bipush (-3), 2, []) := rd_look_of LL_21 rfl
theorem L_21_9 : rd_look 21 9 = some (16, .if_icmp .eq 21, 3, [20]) := rd_look_of LL_21 rfl
theorem L_21_10 : rd_look 21 10 = some (19, .aload_n 0, 1, []) := rd_look_of LL_21 rfl
theorem L_21_11 : rd_look 21 11 = some (20, .getfield 11, 3, [2, 1, 22]) := rd_look_of LL_21 rfl
theorem L_21_12 : rd_look 21 12 = some (23, .iload 6, 2, []) := rd_look_of LL_21 rfl
theorem L_21_13 : rd_look 21 13 = some (25, .iload 4, 2, []) := rd_look_of LL_21 rfl
theorem L_21_14 : rd_look 21 14 = some (27, .iastore, 1, []) := rd_look_of LL_21 rfl
theorem L_21_15 : rd_look 21 15 = some (28, .aload_n 0, 1, []) := rd_look_of LL_21 rfl
theorem L_21_16 : rd_look 21 16 = some (29, .getfield 15, 3, [2, 2, 23]) := rd_look_of LL_21 rfl
theorem L_21_17 : rd_look 21 17 = some (32, .iload 6, 2, []) := rd_look_of LL_21 rfl
theorem L_21_18 : rd_look 21 18 = some (34, .iload 5, 2, []) := rd_look_of LL_21 rfl
theorem L_21_19 : rd_look 21 19 = some (36, .iastore, 1, []) := rd_look_of LL_21 rfl
theorem L_21_20 : rd_look 21 20 = some (37, .iload 6, 2, []) := rd_look_of LL_21 rfl
theorem L_21_21 : rd_look 21 21 = some (39, .ireturn, 1, []) := rd_look_of LL_21 rfl
theorem L_22_0 : rd_look 22 0 = some (0, .aload_n 0, 1, []) := rd_look_of LL_22 rfl
theorem L_22_1 : rd_look 22 1 = some (1, .getfield 18, 3, [2, 3, 24]) := rd_look_of LL_22 rfl
theorem L_22_2 : rd_look 22 2 = some (4, .ireturn, 1, []) := rd_look_of LL_22 rfl
theorem L_23_0 : rd_look 23 0 = some (0, .aload_n 0, 1, []) := rd_look_of LL_23 rfl
theorem L_23_1 : rd_look 23 1 = some (1, .getfield 18, 3, [2, 3, 24]) := rd_look_of LL_23 rfl
theorem L_23_2 : rd_look 23 2 = some (4, .bipush 40, 2, []) := rd_look_of LL_23 rfl
theorem L_23_3 : rd_look 23 3 = some (6, .if_icmp .lt 6, 3, [6]) := rd_look_of LL_23 rfl
theorem L_23_4 : rd_look 23 4 = some (9, .bipush (-3), 2, []) := rd_look_of LL_23 rfl
theorem L_23_5 : rd_look 23 5 = some (11, .ireturn, 1, []) := rd_look_of LL_23 rfl
theorem L_23_6 : rd_look 23 6 = some (12, .aload_n 0, 1, []) := rd_look_of LL_23 rfl
theorem L_23_7 : rd_look 23 7 = some (13, .getfield 22, 3, [2, 4, 25]) := rd_look_of LL_23 rfl
theorem L_23_8 : rd_look 23 8 = some (16, .aload_n 0, 1, []) := rd_look_of LL_23 rfl
theorem L_23_9 : rd_look 23 9 = some (17, .getfield 18, 3, [2, 3, 24]) := rd_look_of LL_23 rfl
theorem L_23_10 : rd_look 23 10 = some (20, .iload_n 1, 1, []) := rd_look_of LL_23 rfl
theorem L_23_11 : rd_look 23 11 = some (21, .iastore, 1, []) := rd_look_of LL_23 rfl
theorem L_23_12 : rd_look 23 12 = some (22, .aload_n 0, 1, []) := rd_look_of LL_23 rfl
theorem L_23_13 : rd_look 23 13 = some (23, .getfield 25, 3, [2, 5, 26]) := rd_look_of LL_23 rfl
theorem L_23_14 : rd_look 23 14 = some (26, .aload_n 0, 1, []) := rd_look_of LL_23 rfl
theorem L_23_15 : rd_look 23 15 = some (27, .getfield 18, 3, [2, 3, 24]) := rd_look_of LL_23 rfl
theorem L_23_16 : rd_look 23 16 = some (30, .iload_n 2, 1, []) := rd_look_of LL_23 rfl
theorem L_23_17 : rd_look 23 17 = some (31, .iastore, 1, []) := rd_look_of LL_23 rfl
theorem L_23_18 : rd_look 23 18 = some (32, .aload_n 0, 1, []) := rd_look_of LL_23 rfl
theorem L_23_19 : rd_look 23 19 = some (33, .dup, 1, []) := rd_look_of LL_23 rfl
theorem L_23_20 : rd_look 23 20 = some (34, .getfield 18, 3, [2, 3, 24]) := rd_look_of LL_23 rfl
theorem L_23_21 : rd_look 23 21 = some (37, .iconst 1, 1, []) := rd_look_of LL_23 rfl
theorem L_23_22 : rd_look 23 22 = some (38, .iadd, 1, []) := rd_look_of LL_23 rfl
theorem L_23_23 : rd_look 23 23 = some (39, .putfield 18, 3, [2, 3, 24, 0]) := rd_look_of LL_23 rfl
theorem L_23_24 : rd_look 23 24 = some (42, .aload_n 0, 1, []) := rd_look_of LL_23 rfl
theorem L_23_25 : rd_look 23 25 = some (43, .getfield 18, 3, [2, 3, 24]) := rd_look_of LL_23 rfl
theorem L_23_26 : rd_look 23 26 = some (46, .ireturn, 1, []) := rd_look_of LL_23 rfl
theorem L_24_0 : rd_look 24 0 = some (0, .iconst 0, 1, []) := rd_look_of LL_24 rfl
theorem L_24_1 : rd_look 24 1 = some (1, .istore_n 3, 1, []) := rd_look_of LL_24 rfl
theorem L_24_2 : rd_look 24 2 = some (2, .iconst 0, 1, []) := rd_look_of LL_24 rfl
theorem L_24_3 : rd_look 24 3 = some (3, .istore 4, 2, []) := rd_look_of LL_24 rfl
theorem L_24_4 : rd_look 24 4 = some (5, .iload 4, 2, []) := rd_look_of LL_24 rfl
theorem L_24_5 : rd_look 24 5 = some (7, .aload_n 2, 1, []) := rd_look_of LL_24 rfl
theorem L_24_6 : rd_look 24 6 = some (8, .invokevirtual 53, 3, [49, 0, 22, 4]) := rd_look_of LL_24 rfl
theorem L_24_7 : rd_look 24 7 = some (11, .if_icmp .ge 32, 3, [21]) := rd_look_of LL_24 rfl
theorem L_24_8 : rd_look 24 8 = some (14, .aload_n 0, 1, []) := rd_look_of LL_24 rfl
theorem L_24_9 : rd_look 24 9 = some (15, .getfield 43, 3, [2, 0, 31]) := rd_look_of LL_24 rfl
theorem L_24_10 : rd_look 24 10 = some (18, .iload_n 1, 1, []) := rd_look_of LL_24 rfl
theorem L_24_11 : rd_look 24 11 = some (19, .aload_n 2, 1, []) := rd_look_of LL_24 rfl
theorem L_24_12 : rd_look 24 12 = some (20, .getfield 57, 3, [4, 0, 32]) := rd_look_of LL_24 rfl
theorem L_24_13 : rd_look 24 13 = some (23, .iload 4, 2, []) := rd_look_of LL_24 rfl
theorem L_24_14 : rd_look 24 14 = some (25, .bipush 9, 2, []) := rd_look_of LL_24 rfl
theorem L_24_15 : rd_look 24 15 = some (27, .imul, 1, []) := rd_look_of LL_24 rfl
theorem L_24_16 : rd_look 24 16 = some (28, .invokevirtual 60, 3, [63, 3, 23, 5]) := rd_look_of LL_24 rfl
theorem L_24_17 : rd_look 24 17 = some (31, .ifCond .eq 6, 3, [19]) := rd_look_of LL_24 rfl
theorem L_24_18 : rd_look 24 18 = some (34, .iinc 3 1, 3, []) := rd_look_of LL_24 rfl
theorem L_24_19 : rd_look 24 19 = some (37, .iinc 4 1, 3, []) := rd_look_of LL_24 rfl
theorem L_24_20 : rd_look 24 20 = some (40, .goto (-35), 3, [4]) := rd_look_of LL_24 rfl
theorem L_24_21 : rd_look 24 21 = some (43, .iload_n 3, 1, []) := rd_look_of LL_24 rfl
theorem L_24_22 : rd_look 24 22 = some (44, .ireturn, 1, []) := rd_look_of LL_24 rfl
theorem L_25_0 : rd_look 25 0 = some (0, .iconst 0, 1, []) := rd_look_of LL_25 rfl
theorem L_25_1 : rd_look 25 1 = some (1, .istore_n 2, 1, []) := rd_look_of LL_25 rfl
theorem L_25_2 : rd_look 25 2 = some (2, .iload_n 2, 1, []) := rd_look_of LL_25 rfl
theorem L_25_3 : rd_look 25 3 = some (3, .aload_n 1, 1, []) := rd_look_of LL_25 rfl
theorem L_25_4 : rd_look 25 4 = some (4, .invokevirtual 53, 3, [49, 0, 22, 4]) := rd_look_of LL_25 rfl
theorem L_25_5 : rd_look 25 5 = some (7, .if_icmp .ge 16, 3, [13]) := rd_look_of LL_25 rfl
theorem L_25_6 : rd_look 25 6 = some (10, .aload_n 0, 1, []) := rd_look_of LL_25 rfl
theorem L_25_7 : rd_look 25 7 = some (11, .getfield 39, 3, [2, 9, 30]) := rd_look_of LL_25 rfl
theorem L_25_8 : rd_look 25 8 = some (14, .iload_n 2, 1, []) := rd_look_of LL_25 rfl
theorem L_25_9 : rd_look 25 9 = some (15, .iconst 0, 1, []) := rd_look_of LL_25 rfl
theorem L_25_10 : rd_look 25 10 = some (16, .bastore, 1, []) := rd_look_of LL_25 rfl
theorem L_25_11 : rd_look 25 11 = some (17, .iinc 2 1, 3, []) := rd_look_of LL_25 rfl
theorem L_25_12 : rd_look 25 12 = some (20, .goto (-18), 3, [2]) := rd_look_of LL_25 rfl
theorem L_25_13 : rd_look 25 13 = some (23, .iconst 0, 1, []) := rd_look_of LL_25 rfl
theorem L_25_14 : rd_look 25 14 = some (24, .istore_n 2, 1, []) := rd_look_of LL_25 rfl
theorem L_25_15 : rd_look 25 15 = some (25, .iload_n 2, 1, []) := rd_look_of LL_25 rfl
theorem L_25_16 : rd_look 25 16 = some (26, .aload_n 0, 1, []) := rd_look_of LL_25 rfl
theorem L_25_17 : rd_look 25 17 = some (27, .getfield 43, 3, [2, 0, 31]) := rd_look_of LL_25 rfl
theorem L_25_18 : rd_look 25 18 = some (30, .invokevirtual 64, 3, [55, 0, 24, 5]) := rd_look_of LL_25 rfl
theorem L_25_19 : rd_look 25 19 = some (33, .if_icmp .ge 15, 3, [26]) := rd_look_of LL_25 rfl
theorem L_25_20 : rd_look 25 20 = some (36, .aload_n 0, 1, []) := rd_look_of LL_25 rfl
theorem L_25_21 : rd_look 25 21 = some (37, .iload_n 2, 1, []) := rd_look_of LL_25 rfl
theorem L_25_22 : rd_look 25 22 = some (38, .aload_n 1, 1, []) := rd_look_of LL_25 rfl
theorem L_25_23 : rd_look 25 23 = some (39, .invokevirtual 65, 3, [26, 2, 25, 2]) := rd_look_of LL_25 rfl
theorem L_25_24 : rd_look 25 24 = some (42, .iinc 2 1, 3, []) := rd_look_of LL_25 rfl
theorem L_25_25 : rd_look 25 25 = some (45, .goto (-20), 3, [15]) := rd_look_of LL_25 rfl
theorem L_25_26 : rd_look 25 26 = some (48, .return_, 1, []) := rd_look_of LL_25 rfl
theorem L_26_0 : rd_look 26 0 = some (0, .aload_n 0, 1, []) := rd_look_of LL_26 rfl
theorem L_26_1 : rd_look 26 1 = some (1, .getfield 28, 3, [2, 6, 27]) := rd_look_of LL_26 rfl
theorem L_26_2 : rd_look 26 2 = some (4, .iload_n 1, 1, []) := rd_look_of LL_26 rfl
theorem L_26_3 : rd_look 26 3 = some (5, .iconst 0, 1, []) := rd_look_of LL_26 rfl
theorem L_26_4 : rd_look 26 4 = some (6, .iastore, 1, []) := rd_look_of LL_26 rfl
theorem L_26_5 : rd_look 26 5 = some (7, .aload_n 0, 1, []) := rd_look_of LL_26 rfl
theorem L_26_6 : rd_look 26 6 = some (8, .getfield 31, 3, [2, 7, 28]) := rd_look_of LL_26 rfl
theorem L_26_7 : rd_look 26 7 = some (11, .iload_n 1, 1, []) := rd_look_of LL_26 rfl
theorem L_26_8 : rd_look 26 8 = some (12, .iconst (-1), 1, []) := rd_look_of LL_26 rfl
theorem L_26_9 : rd_look 26 9 = some (13, .iastore, 1, []) := rd_look_of LL_26 rfl
theorem L_26_10 : rd_look 26 10 = some (14, .aload_n 0, 1, []) := rd_look_of LL_26 rfl
theorem L_26_11 : rd_look 26 11 = some (15, .getfield 34, 3, [2, 8, 29]) := rd_look_of LL_26 rfl
theorem L_26_12 : rd_look 26 12 = some (18, .iload_n 1, 1, []) := rd_look_of LL_26 rfl
theorem L_26_13 : rd_look 26 13 = some (19, .iconst (-1), 1, []) := rd_look_of LL_26 rfl
theorem L_26_14 : rd_look 26 14 = some (20, .iastore, 1, []) := rd_look_of LL_26 rfl
theorem L_26_15 : rd_look 26 15 = some (21, .iconst 0, 1, []) := rd_look_of LL_26 rfl
theorem L_26_16 : rd_look 26 16 = some (22, .istore_n 3, 1, []) := rd_look_of LL_26 rfl
theorem L_26_17 : rd_look 26 17 = some (23, .iload_n 3, 1, []) := rd_look_of LL_26 rfl
theorem L_26_18 : rd_look 26 18 = some (24, .aload_n 2, 1, []) := rd_look_of LL_26 rfl
theorem L_26_19 : rd_look 26 19 = some (25, .invokevirtual 53, 3, [49, 0, 22, 4]) := rd_look_of LL_26 rfl
theorem L_26_20 : rd_look 26 20 = some (28, .if_icmp .ge 68, 3, [61]) := rd_look_of LL_26 rfl
theorem L_26_21 : rd_look 26 21 = some (31, .aload_n 0, 1, []) := rd_look_of LL_26 rfl
theorem L_26_22 : rd_look 26 22 = some (32, .getfield 43, 3, [2, 0, 31]) := rd_look_of LL_26 rfl
theorem L_26_23 : rd_look 26 23 = some (35, .iload_n 1, 1, []) := rd_look_of LL_26 rfl
theorem L_26_24 : rd_look 26 24 = some (36, .aload_n 2, 1, []) := rd_look_of LL_26 rfl
theorem L_26_25 : rd_look 26 25 = some (37, .getfield 57, 3, [4, 0, 32]) := rd_look_of LL_26 rfl
theorem L_26_26 : rd_look 26 26 = some (40, .iload_n 3, 1, []) := rd_look_of LL_26 rfl
theorem L_26_27 : rd_look 26 27 = some (41, .bipush 9, 2, []) := rd_look_of LL_26 rfl
theorem L_26_28 : rd_look 26 28 = some (43, .imul, 1, []) := rd_look_of LL_26 rfl
theorem L_26_29 : rd_look 26 29 = some (44, .invokevirtual 60, 3, [63, 3, 23, 5]) := rd_look_of LL_26 rfl
theorem L_26_30 : rd_look 26 30 = some (47, .ifCond .eq 43, 3, [59]) := rd_look_of LL_26 rfl
theorem L_26_31 : rd_look 26 31 = some (50, .aload_n 0, 1, []) := rd_look_of LL_26 rfl
theorem L_26_32 : rd_look 26 32 = some (51, .getfield 28, 3, [2, 6, 27]) := rd_look_of LL_26 rfl
theorem L_26_33 : rd_look 26 33 = some (54, .iload_n 1, 1, []) := rd_look_of LL_26 rfl
theorem L_26_34 : rd_look 26 34 = some (55, .iaload, 1, []) := rd_look_of LL_26 rfl
theorem L_26_35 : rd_look 26 35 = some (56, .ifCond .ne 10, 3, [41]) := rd_look_of LL_26 rfl
theorem L_26_36 : rd_look 26 36 = some (59, .aload_n 0, 1, []) := rd_look_of LL_26 rfl
theorem L_26_37 : rd_look 26 37 = some (60, .getfield 31, 3, [2, 7, 28]) := rd_look_of LL_26 rfl
theorem L_26_38 : rd_look 26 38 = some (63, .iload_n 1, 1, []) := rd_look_of LL_26 rfl
theorem L_26_39 : rd_look 26 39 = some (64, .iload_n 3, 1, []) := rd_look_of LL_26 rfl
theorem L_26_40 : rd_look 26 40 = some (65, .iastore, 1, []) := rd_look_of LL_26 rfl
theorem L_26_41 : rd_look 26 41 = some (66, .aload_n 0, 1, []) := rd_look_of LL_26 rfl
theorem L_26_42 : rd_look 26 42 = some (67, .getfield 34, 3, [2, 8, 29]) := rd_look_of LL_26 rfl
theorem L_26_43 : rd_look 26 43 = some (70, .iload_n 1, 1, []) := rd_look_of LL_26 rfl
theorem L_26_44 : rd_look 26 44 = some (71, .iload_n 3, 1, []) := rd_look_of LL_26 rfl
theorem L_26_45 : rd_look 26 45 = some (72, .iastore, 1, []) := rd_look_of LL_26 rfl
theorem L_26_46 : rd_look 26 46 = some (73, .aload_n 0, 1, []) := rd_look_of LL_26 rfl
theorem L_26_47 : rd_look 26 47 = some (74, .getfield 28, 3, [2, 6, 27]) := rd_look_of LL_26 rfl
theorem L_26_48 : rd_look 26 48 = some (77, .iload_n 1, 1, []) := rd_look_of LL_26 rfl
theorem L_26_49 : rd_look 26 49 = some (78, .dup2, 1, []) := rd_look_of LL_26 rfl
theorem L_26_50 : rd_look 26 50 = some (79, .iaload, 1, []) := rd_look_of LL_26 rfl
theorem L_26_51 : rd_look 26 51 = some (80, .iconst 1, 1, []) := rd_look_of LL_26 rfl
theorem L_26_52 : rd_look 26 52 = some (81, .iadd, 1, []) := rd_look_of LL_26 rfl
theorem L_26_53 : rd_look 26 53 = some (82, .iastore, 1, []) := rd_look_of LL_26 rfl
theorem L_26_54 : rd_look 26 54 = some (83, .aload_n 0, 1, []) := rd_look_of LL_26 rfl
theorem L_26_55 : rd_look 26 55 = some (84, .getfield 39, 3, [2, 9, 30]) := rd_look_of LL_26 rfl
theorem L_26_56 : rd_look 26 56 = some (87, .iload_n 3, 1, []) := rd_look_of LL_26 rfl
theorem L_26_57 : rd_look 26 57 = some (88, .iconst 1, 1, []) := rd_look_of LL_26 rfl
theorem L_26_58 : rd_look 26 58 = some (89, .bastore, 1, []) := rd_look_of LL_26 rfl
theorem L_26_59 : rd_look 26 59 = some (90, .iinc 3 1, 3, []) := rd_look_of LL_26 rfl
theorem L_26_60 : rd_look 26 60 = some (93, .goto (-70), 3, [17]) := rd_look_of LL_26 rfl
theorem L_26_61 : rd_look 26 61 = some (96, .return_, 1, []) := rd_look_of LL_26 rfl
theorem L_27_0 : rd_look 27 0 = some (0, .aload_n 0, 1, []) := rd_look_of LL_27 rfl
theorem L_27_1 : rd_look 27 1 = some (1, .getfield 28, 3, [2, 6, 27]) := rd_look_of LL_27 rfl
theorem L_27_2 : rd_look 27 2 = some (4, .iload_n 1, 1, []) := rd_look_of LL_27 rfl
theorem L_27_3 : rd_look 27 3 = some (5, .iaload, 1, []) := rd_look_of LL_27 rfl
theorem L_27_4 : rd_look 27 4 = some (6, .ireturn, 1, []) := rd_look_of LL_27 rfl
theorem L_28_0 : rd_look 28 0 = some (0, .aload_n 0, 1, []) := rd_look_of LL_28 rfl
theorem L_28_1 : rd_look 28 1 = some (1, .getfield 28, 3, [2, 6, 27]) := rd_look_of LL_28 rfl
theorem L_28_2 : rd_look 28 2 = some (4, .iload_n 1, 1, []) := rd_look_of LL_28 rfl
theorem L_28_3 : rd_look 28 3 = some (5, .iaload, 1, []) := rd_look_of LL_28 rfl
theorem L_28_4 : rd_look 28 4 = some (6, .aload_n 0, 1, []) := rd_look_of LL_28 rfl
theorem L_28_5 : rd_look 28 5 = some (7, .getfield 11, 3, [2, 1, 22]) := rd_look_of LL_28 rfl
theorem L_28_6 : rd_look 28 6 = some (10, .iload_n 1, 1, []) := rd_look_of LL_28 rfl
theorem L_28_7 : rd_look 28 7 = some (11, .iaload, 1, []) := rd_look_of LL_28 rfl
theorem L_28_8 : rd_look 28 8 = some (12, .if_icmp .ge 7, 3, [11]) := rd_look_of LL_28 rfl
theorem L_28_9 : rd_look 28 9 = some (15, .iconst 1, 1, []) := rd_look_of LL_28 rfl
theorem L_28_10 : rd_look 28 10 = some (16, .goto 4, 3, [12]) := rd_look_of LL_28 rfl
theorem L_28_11 : rd_look 28 11 = some (19, .iconst 0, 1, []) := rd_look_of LL_28 rfl
theorem L_28_12 : rd_look 28 12 = some (20, .ireturn, 1, []) := rd_look_of LL_28 rfl
theorem L_29_0 : rd_look 29 0 = some (0, .aload_n 0, 1, []) := rd_look_of LL_29 rfl
theorem L_29_1 : rd_look 29 1 = some (1, .getfield 28, 3, [2, 6, 27]) := rd_look_of LL_29 rfl
theorem L_29_2 : rd_look 29 2 = some (4, .iload_n 1, 1, []) := rd_look_of LL_29 rfl
theorem L_29_3 : rd_look 29 3 = some (5, .iaload, 1, []) := rd_look_of LL_29 rfl
theorem L_29_4 : rd_look 29 4 = some (6, .aload_n 0, 1, []) := rd_look_of LL_29 rfl
theorem L_29_5 : rd_look 29 5 = some (7, .getfield 15, 3, [2, 2, 23]) := rd_look_of LL_29 rfl
theorem L_29_6 : rd_look 29 6 = some (10, .iload_n 1, 1, []) := rd_look_of LL_29 rfl
theorem L_29_7 : rd_look 29 7 = some (11, .iaload, 1, []) := rd_look_of LL_29 rfl
theorem L_29_8 : rd_look 29 8 = some (12, .if_icmp .le 7, 3, [11]) := rd_look_of LL_29 rfl
theorem L_29_9 : rd_look 29 9 = some (15, .iconst 1, 1, []) := rd_look_of LL_29 rfl
theorem L_29_10 : rd_look 29 10 = some (16, .goto 4, 3, [12]) := rd_look_of LL_29 rfl
theorem L_29_11 : rd_look 29 11 = some (19, .iconst 0, 1, []) := rd_look_of LL_29 rfl
theorem L_29_12 : rd_look 29 12 = some (20, .ireturn, 1, []) := rd_look_of LL_29 rfl
theorem L_30_0 : rd_look 30 0 = some (0, .aload_n 0, 1, []) := rd_look_of LL_30 rfl
theorem L_30_1 : rd_look 30 1 = some (1, .getfield 39, 3, [2, 9, 30]) := rd_look_of LL_30 rfl
theorem L_30_2 : rd_look 30 2 = some (4, .iload_n 1, 1, []) := rd_look_of LL_30 rfl
theorem L_30_3 : rd_look 30 3 = some (5, .baload, 1, []) := rd_look_of LL_30 rfl
theorem L_30_4 : rd_look 30 4 = some (6, .ireturn, 1, []) := rd_look_of LL_30 rfl
theorem L_31_0 : rd_look 31 0 = some (0, .aload_n 0, 1, []) := rd_look_of LL_31 rfl
theorem L_31_1 : rd_look 31 1 = some (1, .getfield 31, 3, [2, 7, 28]) := rd_look_of LL_31 rfl
theorem L_31_2 : rd_look 31 2 = some (4, .aload_n 0, 1, []) := rd_look_of LL_31 rfl
theorem L_31_3 : rd_look 31 3 = some (5, .getfield 25, 3, [2, 5, 26]) := rd_look_of LL_31 rfl
theorem L_31_4 : rd_look 31 4 = some (8, .iload_n 1, 1, []) := rd_look_of LL_31 rfl
theorem L_31_5 : rd_look 31 5 = some (9, .iaload, 1, []) := rd_look_of LL_31 rfl
theorem L_31_6 : rd_look 31 6 = some (10, .iaload, 1, []) := rd_look_of LL_31 rfl
theorem L_31_7 : rd_look 31 7 = some (11, .istore_n 2, 1, []) := rd_look_of LL_31 rfl
theorem L_31_8 : rd_look 31 8 = some (12, .aload_n 0, 1, []) := rd_look_of LL_31 rfl
theorem L_31_9 : rd_look 31 9 = some (13, .getfield 34, 3, [2, 8, 29]) := rd_look_of LL_31 rfl
theorem L_31_10 : rd_look 31 10 = some (16, .aload_n 0, 1, []) := rd_look_of LL_31 rfl
theorem L_31_11 : rd_look 31 11 = some (17, .getfield 22, 3, [2, 4, 25]) := rd_look_of LL_31 rfl
theorem L_31_12 : rd_look 31 12 = some (20, .iload_n 1, 1, []) := rd_look_of LL_31 rfl
theorem L_31_13 : rd_look 31 13 = some (21, .iaload, 1, []) := rd_look_of LL_31 rfl
theorem L_31_14 : rd_look 31 14 = some (22, .iaload, 1, []) := rd_look_of LL_31 rfl
theorem L_31_15 : rd_look 31 15 = some (23, .istore_n 3, 1, []) := rd_look_of LL_31 rfl
theorem L_31_16 : rd_look 31 16 = some (24, .iload_n 2, 1, []) := rd_look_of LL_31 rfl
theorem L_31_17 : rd_look 31 17 = some (25, .iconst (-1), 1, []) := rd_look_of LL_31 rfl
theorem L_31_18 : rd_look 31 18 = some (26, .if_icmp .eq 12, 3, [24]) := rd_look_of LL_31 rfl
theorem L_31_19 : rd_look 31 19 = some (29, .iload_n 2, 1, []) := rd_look_of LL_31 rfl
theorem L_31_20 : rd_look 31 20 = some (30, .iload_n 3, 1, []) := rd_look_of LL_31 rfl
theorem L_31_21 : rd_look 31 21 = some (31, .if_icmp .ge 7, 3, [24]) := rd_look_of LL_31 rfl
theorem L_31_22 : rd_look 31 22 = some (34, .iload_n 2, 1, []) := rd_look_of LL_31 rfl
theorem L_31_23 : rd_look 31 23 = some (35, .goto 4, 3, [25]) := rd_look_of LL_31 rfl
theorem L_31_24 : rd_look 31 24 = some (38, .iconst (-1), 1, []) := rd_look_of LL_31 rfl
theorem L_31_25 : rd_look 31 25 = some (39, .ireturn, 1, []) := rd_look_of LL_31 rfl
theorem L_33_0 : rd_look 33 0 = some (0, .aload_n 0, 1, []) := rd_look_of LL_33 rfl
theorem L_33_1 : rd_look 33 1 = some (1, .getfield 9, 3, [3, 0, 33]) := rd_look_of LL_33 rfl
theorem L_33_2 : rd_look 33 2 = some (4, .ireturn, 1, []) := rd_look_of LL_33 rfl
theorem L_34_0 : rd_look 34 0 = some (0, .iload_n 1, 1, []) := rd_look_of LL_34 rfl
theorem L_34_1 : rd_look 34 1 = some (1, .ifCond .lt 15, 3, [8]) := rd_look_of LL_34 rfl
theorem L_34_2 : rd_look 34 2 = some (4, .iload_n 1, 1, []) := rd_look_of LL_34 rfl
theorem L_34_3 : rd_look 34 3 = some (5, .aload_n 0, 1, []) := rd_look_of LL_34 rfl
theorem L_34_4 : rd_look 34 4 = some (6, .getfield 9, 3, [3, 0, 33]) := rd_look_of LL_34 rfl
theorem L_34_5 : rd_look 34 5 = some (9, .if_icmp .ge 7, 3, [8]) := rd_look_of LL_34 rfl
theorem L_34_6 : rd_look 34 6 = some (12, .iconst 1, 1, []) := rd_look_of LL_34 rfl
theorem L_34_7 : rd_look 34 7 = some (13, .goto 4, 3, [9]) := rd_look_of LL_34 rfl
theorem L_34_8 : rd_look 34 8 = some (16, .iconst 0, 1, []) := rd_look_of LL_34 rfl
theorem L_34_9 : rd_look 34 9 = some (17, .ireturn, 1, []) := rd_look_of LL_34 rfl
theorem L_35_0 : rd_look 35 0 = some (0, .aload_n 0, 1, []) := rd_look_of LL_35 rfl
theorem L_35_1 : rd_look 35 1 = some (1, .getfield 9, 3, [3, 0, 33]) := rd_look_of LL_35 rfl
theorem L_35_2 : rd_look 35 2 = some (4, .bipush 12, 2, []) := rd_look_of LL_35 rfl
theorem L_35_3 : rd_look 35 3 = some (6, .if_icmp .lt 6, 3, [6]) := rd_look_of LL_35 rfl
theorem L_35_4 : rd_look 35 4 = some (9, .bipush (-3), 2, []) := rd_look_of LL_35 rfl
theorem L_35_5 : rd_look 35 5 = some (11, .ireturn, 1, []) := rd_look_of LL_35 rfl
theorem L_35_6 : rd_look 35 6 = some (12, .aload_n 0, 1, []) := rd_look_of LL_35 rfl
theorem L_35_7 : rd_look 35 7 = some (13, .getfield 9, 3, [3, 0, 33]) := rd_look_of LL_35 rfl
theorem L_35_8 : rd_look 35 8 = some (16, .istore_n 2, 1, []) := rd_look_of LL_35 rfl
theorem L_35_9 : rd_look 35 9 = some (17, .aload_n 0, 1, []) := rd_look_of LL_35 rfl
theorem L_35_10 : rd_look 35 10 = some (18, .getfield 19, 3, [3, 2, 35]) := rd_look_of LL_35 rfl
theorem L_35_11 : rd_look 35 11 = some (21, .iload_n 2, 1, []) := rd_look_of LL_35 rfl
theorem L_35_12 : rd_look 35 12 = some (22, .iconst 1, 1, []) := rd_look_of LL_35 rfl
theorem L_35_13 : rd_look 35 13 = some (23, .iload_n 2, 1, []) := rd_look_of LL_35 rfl
theorem L_35_14 : rd_look 35 14 = some (24, .ishl, 1, []) := rd_look_of LL_35 rfl
theorem L_35_15 : rd_look 35 15 = some (25, .iastore, 1, []) := rd_look_of LL_35 rfl
theorem L_35_16 : rd_look 35 16 = some (26, .aload_n 0, 1, []) := rd_look_of LL_35 rfl
theorem L_35_17 : rd_look 35 17 = some (27, .iload_n 1, 1, []) := rd_look_of LL_35 rfl
theorem L_35_18 : rd_look 35 18 = some (28, .invokevirtual 38, 3, [34, 1, 27, 3]) := rd_look_of LL_35 rfl
theorem L_35_19 : rd_look 35 19 = some (31, .ifCond .eq 9, 3, [24]) := rd_look_of LL_35 rfl
theorem L_35_20 : rd_look 35 20 = some (34, .aload_n 0, 1, []) := rd_look_of LL_35 rfl
theorem L_35_21 : rd_look 35 21 = some (35, .iload_n 2, 1, []) := rd_look_of LL_35 rfl
theorem L_35_22 : rd_look 35 22 = some (36, .iload_n 1, 1, []) := rd_look_of LL_35 rfl
theorem L_35_23 : rd_look 35 23 = some (37, .invokevirtual 42, 3, [36, 2, 28, 3]) := rd_look_of LL_35 rfl
theorem L_35_24 : rd_look 35 24 = some (40, .aload_n 0, 1, []) := rd_look_of LL_35 rfl
theorem L_35_25 : rd_look 35 25 = some (41, .dup, 1, []) := rd_look_of LL_35 rfl
theorem L_35_26 : rd_look 35 26 = some (42, .getfield 9, 3, [3, 0, 33]) := rd_look_of LL_35 rfl
theorem L_35_27 : rd_look 35 27 = some (45, .iconst 1, 1, []) := rd_look_of LL_35 rfl
theorem L_35_28 : rd_look 35 28 = some (46, .iadd, 1, []) := rd_look_of LL_35 rfl
theorem L_35_29 : rd_look 35 29 = some (47, .putfield 9, 3, [3, 0, 33, 0]) := rd_look_of LL_35 rfl
theorem L_35_30 : rd_look 35 30 = some (50, .iload_n 2, 1, []) := rd_look_of LL_35 rfl
theorem L_35_31 : rd_look 35 31 = some (51, .ireturn, 1, []) := rd_look_of LL_35 rfl
theorem L_36_0 : rd_look 36 0 = some (0, .iload_n 1, 1, []) := rd_look_of LL_36 rfl
theorem L_36_1 : rd_look 36 1 = some (1, .bipush 8, 2, []) := rd_look_of LL_36 rfl
theorem L_36_2 : rd_look 36 2 = some (3, .imul, 1, []) := rd_look_of LL_36 rfl
theorem L_36_3 : rd_look 36 3 = some (4, .istore_n 3, 1, []) := rd_look_of LL_36 rfl
theorem L_36_4 : rd_look 36 4 = some (5, .iload_n 2, 1, []) := rd_look_of LL_36 rfl
theorem L_36_5 : rd_look 36 5 = some (6, .bipush 8, 2, []) := rd_look_of LL_36 rfl
theorem L_36_6 : rd_look 36 6 = some (8, .imul, 1, []) := rd_look_of LL_36 rfl
theorem L_36_7 : rd_look 36 7 = some (9, .istore 4, 2, []) := rd_look_of LL_36 rfl
theorem L_36_8 : rd_look 36 8 = some (11, .aload_n 0, 1, []) := rd_look_of LL_36 rfl
theorem L_36_9 : rd_look 36 9 = some (12, .getfield 19, 3, [3, 2, 35]) := rd_look_of LL_36 rfl
theorem L_36_10 : rd_look 36 10 = some (15, .iload_n 1, 1, []) := rd_look_of LL_36 rfl
theorem L_36_11 : rd_look 36 11 = some (16, .dup2, 1, []) := rd_look_of LL_36 rfl
theorem L_36_12 : rd_look 36 12 = some (17, .iaload, 1, []) := rd_look_of LL_36 rfl
theorem L_36_13 : rd_look 36 13 = some (18, .aload_n 0, 1, []) := rd_look_of LL_36 rfl
theorem L_36_14 : rd_look 36 14 = some (19, .getfield 19, 3, [3, 2, 35]) := rd_look_of LL_36 rfl
theorem L_36_15 : rd_look 36 15 = some (22, .iload_n 2, 1, []) := rd_look_of LL_36 rfl
theorem L_36_16 : rd_look 36 16 = some (23, .iaload, 1, []) := rd_look_of LL_36 rfl
theorem L_36_17 : rd_look 36 17 = some (24, .ior, 1, []) := rd_look_of LL_36 rfl
theorem L_36_18 : rd_look 36 18 = some (25, .iastore, 1, []) := rd_look_of LL_36 rfl
theorem L_36_19 : rd_look 36 19 = some (26, .aload_n 0, 1, []) := rd_look_of LL_36 rfl
theorem L_36_20 : rd_look 36 20 = some (27, .getfield 15, 3, [3, 1, 34]) := rd_look_of LL_36 rfl
theorem L_36_21 : rd_look 36 21 = some (30, .iload_n 1, 1, []) := rd_look_of LL_36 rfl
theorem L_36_22 : rd_look 36 22 = some (31, .aload_n 0, 1, []) := rd_look_of LL_36 rfl
theorem L_36_23 : rd_look 36 23 = some (32, .getfield 15, 3, [3, 1, 34]) := rd_look_of LL_36 rfl
theorem L_36_24 : rd_look 36 24 = some (35, .iload_n 2, 1, []) := rd_look_of LL_36 rfl
theorem L_36_25 : rd_look 36 25 = some (36, .iaload, 1, []) := rd_look_of LL_36 rfl
theorem L_36_26 : rd_look 36 26 = some (37, .iastore, 1, []) := rd_look_of LL_36 rfl
theorem L_36_27 : rd_look 36 27 = some (38, .aload_n 0, 1, []) := rd_look_of LL_36 rfl
theorem L_36_28 : rd_look 36 28 = some (39, .getfield 26, 3, [3, 4, 37]) := rd_look_of LL_36 rfl
theorem L_36_29 : rd_look 36 29 = some (42, .iload 4, 2, []) := rd_look_of LL_36 rfl
theorem L_36_30 : rd_look 36 30 = some (44, .aload_n 0, 1, []) := rd_look_of LL_36 rfl
theorem L_36_31 : rd_look 36 31 = some (45, .getfield 26, 3, [3, 4, 37]) := rd_look_of LL_36 rfl
theorem L_36_32 : rd_look 36 32 = some (48, .iload_n 3, 1, []) := rd_look_of LL_36 rfl
theorem L_36_33 : rd_look 36 33 = some (49, .bipush 8, 2, []) := rd_look_of LL_36 rfl
theorem L_36_34 : rd_look 36 34 = some (51, .invokestatic 46, 3, [1000, 29]) := rd_look_of LL_36 rfl
theorem L_36_35 : rd_look 36 35 = some (54, .aload_n 0, 1, []) := rd_look_of LL_36 rfl
theorem L_36_36 : rd_look 36 36 = some (55, .getfield 29, 3, [3, 5, 38]) := rd_look_of LL_36 rfl
theorem L_36_37 : rd_look 36 37 = some (58, .iload 4, 2, []) := rd_look_of LL_36 rfl
theorem L_36_38 : rd_look 36 38 = some (60, .aload_n 0, 1, []) := rd_look_of LL_36 rfl
theorem L_36_39 : rd_look 36 39 = some (61, .getfield 29, 3, [3, 5, 38]) := rd_look_of LL_36 rfl
theorem L_36_40 : rd_look 36 40 = some (64, .iload_n 3, 1, []) := rd_look_of LL_36 rfl
theorem L_36_41 : rd_look 36 41 = some (65, .bipush 8, 2, []) := rd_look_of LL_36 rfl
theorem L_36_42 : rd_look 36 42 = some (67, .invokestatic 46, 3, [1000, 29]) := rd_look_of LL_36 rfl
theorem L_36_43 : rd_look 36 43 = some (70, .aload_n 0, 1, []) := rd_look_of LL_36 rfl
theorem L_36_44 : rd_look 36 44 = some (71, .getfield 32, 3, [3, 6, 39]) := rd_look_of LL_36 rfl
theorem L_36_45 : rd_look 36 45 = some (74, .iload 4, 2, []) := rd_look_of LL_36 rfl
theorem L_36_46 : rd_look 36 46 = some (76, .aload_n 0, 1, []) := rd_look_of LL_36 rfl
theorem L_36_47 : rd_look 36 47 = some (77, .getfield 32, 3, [3, 6, 39]) := rd_look_of LL_36 rfl
theorem L_36_48 : rd_look 36 48 = some (80, .iload_n 3, 1, []) := rd_look_of LL_36 rfl
theorem L_36_49 : rd_look 36 49 = some (81, .bipush 8, 2, []) := rd_look_of LL_36 rfl
theorem L_36_50 : rd_look 36 50 = some (83, .invokestatic 46, 3, [1000, 29]) := rd_look_of LL_36 rfl
theorem L_36_51 : rd_look 36 51 = some (86, .aload_n 0, 1, []) := rd_look_of LL_36 rfl
theorem L_36_52 : rd_look 36 52 = some (87, .getfield 35, 3, [3, 7, 40]) := rd_look_of LL_36 rfl
theorem L_36_53 : rd_look 36 53 = some (90, .iload 4, 2, []) := rd_look_of LL_36 rfl
theorem L_36_54 : rd_look 36 54 = some (92, .aload_n 0, 1, []) := rd_look_of LL_36 rfl
theorem L_36_55 : rd_look 36 55 = some (93, .getfield 35, 3, [3, 7, 40]) := rd_look_of LL_36 rfl
theorem L_36_56 : rd_look 36 56 = some (96, .iload_n 3, 1, []) := rd_look_of LL_36 rfl
theorem L_36_57 : rd_look 36 57 = some (97, .bipush 8, 2, []) := rd_look_of LL_36 rfl
theorem L_36_58 : rd_look 36 58 = some (99, .invokestatic 46, 3, [1000, 29]) := rd_look_of LL_36 rfl
theorem L_36_59 : rd_look 36 59 = some (102, .aload_n 0, 1, []) := rd_look_of LL_36 rfl
theorem L_36_60 : rd_look 36 60 = some (103, .getfield 22, 3, [3, 3, 36]) := rd_look_of LL_36 rfl
theorem L_36_61 : rd_look 36 61 = some (106, .iload_n 2, 1, []) := rd_look_of LL_36 rfl
theorem L_36_62 : rd_look 36 62 = some (107, .iconst 1, 1, []) := rd_look_of LL_36 rfl
theorem L_36_63 : rd_look 36 63 = some (108, .bastore, 1, []) := rd_look_of LL_36 rfl
theorem L_36_64 : rd_look 36 64 = some (109, .return_, 1, []) := rd_look_of LL_36 rfl
theorem L_37_0 : rd_look 37 0 = some (0, .aload_n 0, 1, []) := rd_look_of LL_37 rfl
theorem L_37_1 : rd_look 37 1 = some (1, .getfield 22, 3, [3, 3, 36]) := rd_look_of LL_37 rfl
theorem L_37_2 : rd_look 37 2 = some (4, .iload_n 1, 1, []) := rd_look_of LL_37 rfl
theorem L_37_3 : rd_look 37 3 = some (5, .baload, 1, []) := rd_look_of LL_37 rfl
theorem L_37_4 : rd_look 37 4 = some (6, .ireturn, 1, []) := rd_look_of LL_37 rfl
theorem L_38_0 : rd_look 38 0 = some (0, .aload_n 0, 1, []) := rd_look_of LL_38 rfl
theorem L_38_1 : rd_look 38 1 = some (1, .getfield 22, 3, [3, 3, 36]) := rd_look_of LL_38 rfl
theorem L_38_2 : rd_look 38 2 = some (4, .iload_n 1, 1, []) := rd_look_of LL_38 rfl
theorem L_38_3 : rd_look 38 3 = some (5, .iconst 1, 1, []) := rd_look_of LL_38 rfl
theorem L_38_4 : rd_look 38 4 = some (6, .bastore, 1, []) := rd_look_of LL_38 rfl
theorem L_38_5 : rd_look 38 5 = some (7, .return_, 1, []) := rd_look_of LL_38 rfl
theorem L_39_0 : rd_look 39 0 = some (0, .aload_n 0, 1, []) := rd_look_of LL_39 rfl
theorem L_39_1 : rd_look 39 1 = some (1, .getfield 15, 3, [3, 1, 34]) := rd_look_of LL_39 rfl
theorem L_39_2 : rd_look 39 2 = some (4, .iload_n 1, 1, []) := rd_look_of LL_39 rfl
theorem L_39_3 : rd_look 39 3 = some (5, .iaload, 1, []) := rd_look_of LL_39 rfl
theorem L_39_4 : rd_look 39 4 = some (6, .istore 6, 2, []) := rd_look_of LL_39 rfl
theorem L_39_5 : rd_look 39 5 = some (8, .iload 6, 2, []) := rd_look_of LL_39 rfl
theorem L_39_6 : rd_look 39 6 = some (10, .bipush 8, 2, []) := rd_look_of LL_39 rfl
theorem L_39_7 : rd_look 39 7 = some (12, .if_icmp .lt 6, 3, [10]) := rd_look_of LL_39 rfl
theorem L_39_8 : rd_look 39 8 = some (15, .bipush (-3), 2, []) := rd_look_of LL_39 rfl
theorem L_39_9 : rd_look 39 9 = some (17, .ireturn, 1, []) := rd_look_of LL_39 rfl
theorem L_39_10 : rd_look 39 10 = some (18, .iload_n 1, 1, []) := rd_look_of LL_39 rfl
theorem L_39_11 : rd_look 39 11 = some (19, .bipush 8, 2, []) := rd_look_of LL_39 rfl
theorem L_39_12 : rd_look 39 12 = some (21, .imul, 1, []) := rd_look_of LL_39 rfl
theorem L_39_13 : rd_look 39 13 = some (22, .iload 6, 2, []) := rd_look_of LL_39 rfl
theorem L_39_14 : rd_look 39 14 = some (24, .iadd, 1, []) := rd_look_of LL_39 rfl
theorem L_39_15 : rd_look 39 15 = some (25, .istore 7, 2, []) := rd_look_of LL_39 rfl
theorem L_39_16 : rd_look 39 16 = some (27, .aload_n 0, 1, []) := rd_look_of LL_39 rfl
theorem L_39_17 : rd_look 39 17 = some (28, .getfield 26, 3, [3, 4, 37]) := rd_look_of LL_39 rfl
theorem L_39_18 : rd_look 39 18 = some (31, .iload 7, 2, []) := rd_look_of LL_39 rfl
theorem L_39_19 : rd_look 39 19 = some (33, .iload_n 2, 1, []) := rd_look_of LL_39 rfl
theorem L_39_20 : rd_look 39 20 = some (34, .iastore, 1, []) := rd_look_of LL_39 rfl
theorem L_39_21 : rd_look 39 21 = some (35, .aload_n 0, 1, []) := rd_look_of LL_39 rfl
theorem L_39_22 : rd_look 39 22 = some (36, .getfield 29, 3, [3, 5, 38]) := rd_look_of LL_39 rfl
theorem L_39_23 : rd_look 39 23 = some (39, .iload 7, 2, []) := rd_look_of LL_39 rfl
theorem L_39_24 : rd_look 39 24 = some (41, .iload_n 3, 1, []) := rd_look_of LL_39 rfl
theorem L_39_25 : rd_look 39 25 = some (42, .iastore, 1, []) := rd_look_of LL_39 rfl
theorem L_39_26 : rd_look 39 26 = some (43, .aload_n 0, 1, []) := rd_look_of LL_39 rfl
theorem L_39_27 : rd_look 39 27 = some (44, .getfield 32, 3, [3, 6, 39]) := rd_look_of LL_39 rfl
theorem L_39_28 : rd_look 39 28 = some (47, .iload 7, 2, []) := rd_look_of LL_39 rfl
theorem L_39_29 : rd_look 39 29 = some (49, .iload 4, 2, []) := rd_look_of LL_39 rfl
theorem L_39_30 : rd_look 39 30 = some (51, .iastore, 1, []) := rd_look_of LL_39 rfl
theorem L_39_31 : rd_look 39 31 = some (52, .aload_n 0, 1, []) := rd_look_of LL_39 rfl
theorem L_39_32 : rd_look 39 32 = some (53, .getfield 35, 3, [3, 7, 40]) := rd_look_of LL_39 rfl
theorem L_39_33 : rd_look 39 33 = some (56, .iload 7, 2, []) := rd_look_of LL_39 rfl
theorem L_39_34 : rd_look 39 34 = some (58, .iload 5, 2, []) := rd_look_of LL_39 rfl
theorem L_39_35 : rd_look 39 35 = some (60, .iastore, 1, []) := rd_look_of LL_39 rfl
theorem L_39_36 : rd_look 39 36 = some (61, .aload_n 0, 1, []) := rd_look_of LL_39 rfl
theorem L_39_37 : rd_look 39 37 = some (62, .getfield 15, 3, [3, 1, 34]) := rd_look_of LL_39 rfl
theorem L_39_38 : rd_look 39 38 = some (65, .iload_n 1, 1, []) := rd_look_of LL_39 rfl
theorem L_39_39 : rd_look 39 39 = some (66, .dup2, 1, []) := rd_look_of LL_39 rfl
theorem L_39_40 : rd_look 39 40 = some (67, .iaload, 1, []) := rd_look_of LL_39 rfl
theorem L_39_41 : rd_look 39 41 = some (68, .iconst 1, 1, []) := rd_look_of LL_39 rfl
theorem L_39_42 : rd_look 39 42 = some (69, .iadd, 1, []) := rd_look_of LL_39 rfl
theorem L_39_43 : rd_look 39 43 = some (70, .iastore, 1, []) := rd_look_of LL_39 rfl
theorem L_39_44 : rd_look 39 44 = some (71, .iload 6, 2, []) := rd_look_of LL_39 rfl
theorem L_39_45 : rd_look 39 45 = some (73, .ireturn, 1, []) := rd_look_of LL_39 rfl
theorem L_40_0 : rd_look 40 0 = some (0, .aload_n 0, 1, []) := rd_look_of LL_40 rfl
theorem L_40_1 : rd_look 40 1 = some (1, .getfield 15, 3, [3, 1, 34]) := rd_look_of LL_40 rfl
theorem L_40_2 : rd_look 40 2 = some (4, .iload_n 1, 1, []) := rd_look_of LL_40 rfl
theorem L_40_3 : rd_look 40 3 = some (5, .iaload, 1, []) := rd_look_of LL_40 rfl
theorem L_40_4 : rd_look 40 4 = some (6, .ireturn, 1, []) := rd_look_of LL_40 rfl
theorem L_41_0 : rd_look 41 0 = some (0, .aload_n 0, 1, []) := rd_look_of LL_41 rfl
theorem L_41_1 : rd_look 41 1 = some (1, .getfield 19, 3, [3, 2, 35]) := rd_look_of LL_41 rfl
theorem L_41_2 : rd_look 41 2 = some (4, .iload_n 1, 1, []) := rd_look_of LL_41 rfl
theorem L_41_3 : rd_look 41 3 = some (5, .iaload, 1, []) := rd_look_of LL_41 rfl
theorem L_41_4 : rd_look 41 4 = some (6, .ireturn, 1, []) := rd_look_of LL_41 rfl
theorem L_42_0 : rd_look 42 0 = some (0, .iload_n 2, 1, []) := rd_look_of LL_42 rfl
theorem L_42_1 : rd_look 42 1 = some (1, .ifCond .lt 13, 3, [8]) := rd_look_of LL_42 rfl
theorem L_42_2 : rd_look 42 2 = some (4, .iload_n 2, 1, []) := rd_look_of LL_42 rfl
theorem L_42_3 : rd_look 42 3 = some (5, .aload_n 0, 1, []) := rd_look_of LL_42 rfl
theorem L_42_4 : rd_look 42 4 = some (6, .getfield 15, 3, [3, 1, 34]) := rd_look_of LL_42 rfl
theorem L_42_5 : rd_look 42 5 = some (9, .iload_n 1, 1, []) := rd_look_of LL_42 rfl
theorem L_42_6 : rd_look 42 6 = some (10, .iaload, 1, []) := rd_look_of LL_42 rfl
theorem L_42_7 : rd_look 42 7 = some (11, .if_icmp .lt 5, 3, [10]) := rd_look_of LL_42 rfl
theorem L_42_8 : rd_look 42 8 = some (14, .iconst (-1), 1, []) := rd_look_of LL_42 rfl
theorem L_42_9 : rd_look 42 9 = some (15, .ireturn, 1, []) := rd_look_of LL_42 rfl
theorem L_42_10 : rd_look 42 10 = some (16, .iload_n 1, 1, []) := rd_look_of LL_42 rfl
theorem L_42_11 : rd_look 42 11 = some (17, .bipush 8, 2, []) := rd_look_of LL_42 rfl
theorem L_42_12 : rd_look 42 12 = some (19, .imul, 1, []) := rd_look_of LL_42 rfl
theorem L_42_13 : rd_look 42 13 = some (20, .iload_n 2, 1, []) := rd_look_of LL_42 rfl
theorem L_42_14 : rd_look 42 14 = some (21, .iadd, 1, []) := rd_look_of LL_42 rfl
theorem L_42_15 : rd_look 42 15 = some (22, .ireturn, 1, []) := rd_look_of LL_42 rfl
theorem L_43_0 : rd_look 43 0 = some (0, .iload_n 2, 1, []) := rd_look_of LL_43 rfl
theorem L_43_1 : rd_look 43 1 = some (1, .ifCond .lt 17, 3, [10]) := rd_look_of LL_43 rfl
theorem L_43_2 : rd_look 43 2 = some (4, .iload_n 2, 1, []) := rd_look_of LL_43 rfl
theorem L_43_3 : rd_look 43 3 = some (5, .aload_n 0, 1, []) := rd_look_of LL_43 rfl
theorem L_43_4 : rd_look 43 4 = some (6, .getfield 26, 3, [3, 4, 37]) := rd_look_of LL_43 rfl
theorem L_43_5 : rd_look 43 5 = some (9, .iload_n 1, 1, []) := rd_look_of LL_43 rfl
theorem L_43_6 : rd_look 43 6 = some (10, .iaload, 1, []) := rd_look_of LL_43 rfl
theorem L_43_7 : rd_look 43 7 = some (11, .if_icmp .ge 7, 3, [10]) := rd_look_of LL_43 rfl
theorem L_43_8 : rd_look 43 8 = some (14, .iconst 1, 1, []) := rd_look_of LL_43 rfl
theorem L_43_9 : rd_look 43 9 = some (15, .goto 4, 3, [11]) := rd_look_of LL_43 rfl
theorem L_43_10 : rd_look 43 10 = some (18, .iconst 0, 1, []) := rd_look_of LL_43 rfl
theorem L_43_11 : rd_look 43 11 = some (19, .ireturn, 1, []) := rd_look_of LL_43 rfl
theorem L_44_0 : rd_look 44 0 = some (0, .aload_n 0, 1, []) := rd_look_of LL_44 rfl
theorem L_44_1 : rd_look 44 1 = some (1, .iload_n 1, 1, []) := rd_look_of LL_44 rfl
theorem L_44_2 : rd_look 44 2 = some (2, .iload_n 2, 1, []) := rd_look_of LL_44 rfl
theorem L_44_3 : rd_look 44 3 = some (3, .invokevirtual 52, 3, [43, 2, 30, 3]) := rd_look_of LL_44 rfl
theorem L_44_4 : rd_look 44 4 = some (6, .ifCond .eq 21, 3, [17]) := rd_look_of LL_44 rfl
theorem L_44_5 : rd_look 44 5 = some (9, .aload_n 0, 1, []) := rd_look_of LL_44 rfl
theorem L_44_6 : rd_look 44 6 = some (10, .getfield 29, 3, [3, 5, 38]) := rd_look_of LL_44 rfl
theorem L_44_7 : rd_look 44 7 = some (13, .iload_n 1, 1, []) := rd_look_of LL_44 rfl
theorem L_44_8 : rd_look 44 8 = some (14, .iaload, 1, []) := rd_look_of LL_44 rfl
theorem L_44_9 : rd_look 44 9 = some (15, .iload_n 2, 1, []) := rd_look_of LL_44 rfl
theorem L_44_10 : rd_look 44 10 = some (16, .ishr, 1, []) := rd_look_of LL_44 rfl
theorem L_44_11 : rd_look 44 11 = some (17, .iconst 1, 1, []) := rd_look_of LL_44 rfl
theorem L_44_12 : rd_look 44 12 = some (18, .iand, 1, []) := rd_look_of LL_44 rfl
theorem L_44_13 : rd_look 44 13 = some (19, .iconst 1, 1, []) := rd_look_of LL_44 rfl
theorem L_44_14 : rd_look 44 14 = some (20, .if_icmp .ne 7, 3, [17]) := rd_look_of LL_44 rfl
theorem L_44_15 : rd_look 44 15 = some (23, .iconst 1, 1, []) := rd_look_of LL_44 rfl
theorem L_44_16 : rd_look 44 16 = some (24, .goto 4, 3, [18]) := rd_look_of LL_44 rfl
theorem L_44_17 : rd_look 44 17 = some (27, .iconst 0, 1, []) := rd_look_of LL_44 rfl
theorem L_44_18 : rd_look 44 18 = some (28, .ireturn, 1, []) := rd_look_of LL_44 rfl
theorem L_45_0 : rd_look 45 0 = some (0, .aload_n 0, 1, []) := rd_look_of LL_45 rfl
theorem L_45_1 : rd_look 45 1 = some (1, .getfield 32, 3, [3, 6, 39]) := rd_look_of LL_45 rfl
theorem L_45_2 : rd_look 45 2 = some (4, .iload_n 1, 1, []) := rd_look_of LL_45 rfl
theorem L_45_3 : rd_look 45 3 = some (5, .iaload, 1, []) := rd_look_of LL_45 rfl
theorem L_45_4 : rd_look 45 4 = some (6, .ireturn, 1, []) := rd_look_of LL_45 rfl
theorem L_46_0 : rd_look 46 0 = some (0, .aload_n 0, 1, []) := rd_look_of LL_46 rfl
theorem L_46_1 : rd_look 46 1 = some (1, .getfield 35, 3, [3, 7, 40]) := rd_look_of LL_46 rfl
theorem L_46_2 : rd_look 46 2 = some (4, .iload_n 1, 1, []) := rd_look_of LL_46 rfl
theorem L_46_3 : rd_look 46 3 = some (5, .iaload, 1, []) := rd_look_of LL_46 rfl
theorem L_46_4 : rd_look 46 4 = some (6, .iload_n 2, 1, []) := rd_look_of LL_46 rfl
theorem L_46_5 : rd_look 46 5 = some (7, .ishr, 1, []) := rd_look_of LL_46 rfl
theorem L_46_6 : rd_look 46 6 = some (8, .iconst 1, 1, []) := rd_look_of LL_46 rfl
theorem L_46_7 : rd_look 46 7 = some (9, .iand, 1, []) := rd_look_of LL_46 rfl
theorem L_46_8 : rd_look 46 8 = some (10, .iconst 1, 1, []) := rd_look_of LL_46 rfl
theorem L_46_9 : rd_look 46 9 = some (11, .if_icmp .ne 7, 3, [12]) := rd_look_of LL_46 rfl
theorem L_46_10 : rd_look 46 10 = some (14, .iconst 1, 1, []) := rd_look_of LL_46 rfl
theorem L_46_11 : rd_look 46 11 = some (15, .goto 4, 3, [13]) := rd_look_of LL_46 rfl
theorem L_46_12 : rd_look 46 12 = some (18, .iconst 0, 1, []) := rd_look_of LL_46 rfl
theorem L_46_13 : rd_look 46 13 = some (19, .ireturn, 1, []) := rd_look_of LL_46 rfl
theorem L_48_0 : rd_look 48 0 = some (0, .aload_n 0, 1, []) := rd_look_of LL_48 rfl
theorem L_48_1 : rd_look 48 1 = some (1, .getfield 18, 3, [4, 2, 43]) := rd_look_of LL_48 rfl
theorem L_48_2 : rd_look 48 2 = some (4, .ireturn, 1, []) := rd_look_of LL_48 rfl
theorem L_49_0 : rd_look 49 0 = some (0, .aload_n 0, 1, []) := rd_look_of LL_49 rfl
theorem L_49_1 : rd_look 49 1 = some (1, .getfield 22, 3, [4, 3, 44]) := rd_look_of LL_49 rfl
theorem L_49_2 : rd_look 49 2 = some (4, .ireturn, 1, []) := rd_look_of LL_49 rfl
theorem L_50_0 : rd_look 50 0 = some (0, .aload_n 0, 1, []) := rd_look_of LL_50 rfl
theorem L_50_1 : rd_look 50 1 = some (1, .getfield 26, 3, [4, 4, 45]) := rd_look_of LL_50 rfl
theorem L_50_2 : rd_look 50 2 = some (4, .ireturn, 1, []) := rd_look_of LL_50 rfl
theorem L_51_0 : rd_look 51 0 = some (0, .aload_n 0, 1, []) := rd_look_of LL_51 rfl
theorem L_51_1 : rd_look 51 1 = some (1, .getfield 11, 3, [4, 0, 41]) := rd_look_of LL_51 rfl
theorem L_51_2 : rd_look 51 2 = some (4, .iload_n 1, 1, []) := rd_look_of LL_51 rfl
theorem L_51_3 : rd_look 51 3 = some (5, .bipush 9, 2, []) := rd_look_of LL_51 rfl
theorem L_51_4 : rd_look 51 4 = some (7, .imul, 1, []) := rd_look_of LL_51 rfl
theorem L_51_5 : rd_look 51 5 = some (8, .iload_n 2, 1, []) := rd_look_of LL_51 rfl
theorem L_51_6 : rd_look 51 6 = some (9, .iadd, 1, []) := rd_look_of LL_51 rfl
theorem L_51_7 : rd_look 51 7 = some (10, .iaload, 1, []) := rd_look_of LL_51 rfl
theorem L_51_8 : rd_look 51 8 = some (11, .ireturn, 1, []) := rd_look_of LL_51 rfl
theorem L_52_0 : rd_look 52 0 = some (0, .aload_n 0, 1, []) := rd_look_of LL_52 rfl
theorem L_52_1 : rd_look 52 1 = some (1, .iconst 1, 1, []) := rd_look_of LL_52 rfl
theorem L_52_2 : rd_look 52 2 = some (2, .putfield 18, 3, [4, 2, 43, 1]) := rd_look_of LL_52 rfl
theorem L_52_3 : rd_look 52 3 = some (5, .aload_n 0, 1, []) := rd_look_of LL_52 rfl
theorem L_52_4 : rd_look 52 4 = some (6, .getfield 22, 3, [4, 3, 44]) := rd_look_of LL_52 rfl
theorem L_52_5 : rd_look 52 5 = some (9, .sipush 500, 3, []) := rd_look_of LL_52 rfl
theorem L_52_6 : rd_look 52 6 = some (12, .if_icmp .lt 14, 3, [14]) := rd_look_of LL_52 rfl
theorem L_52_7 : rd_look 52 7 = some (15, .aload_n 0, 1, []) := rd_look_of LL_52 rfl
theorem L_52_8 : rd_look 52 8 = some (16, .dup, 1, []) := rd_look_of LL_52 rfl
theorem L_52_9 : rd_look 52 9 = some (17, .getfield 26, 3, [4, 4, 45]) := rd_look_of LL_52 rfl
theorem L_52_10 : rd_look 52 10 = some (20, .iconst 1, 1, []) := rd_look_of LL_52 rfl
theorem L_52_11 : rd_look 52 11 = some (21, .iadd, 1, []) := rd_look_of LL_52 rfl
theorem L_52_12 : rd_look 52 12 = some (22, .putfield 26, 3, [4, 4, 45, 0]) := rd_look_of LL_52 rfl
theorem L_52_13 : rd_look 52 13 = some (25, .return_, 1, []) := rd_look_of LL_52 rfl
theorem L_52_14 : rd_look 52 14 = some (26, .aload_n 0, 1, []) := rd_look_of LL_52 rfl
theorem L_52_15 : rd_look 52 15 = some (27, .getfield 15, 3, [4, 1, 42]) := rd_look_of LL_52 rfl
theorem L_52_16 : rd_look 52 16 = some (30, .iconst 0, 1, []) := rd_look_of LL_52 rfl
theorem L_52_17 : rd_look 52 17 = some (31, .aload_n 0, 1, []) := rd_look_of LL_52 rfl
theorem L_52_18 : rd_look 52 18 = some (32, .getfield 11, 3, [4, 0, 41]) := rd_look_of LL_52 rfl
theorem L_52_19 : rd_look 52 19 = some (35, .aload_n 0, 1, []) := rd_look_of LL_52 rfl
theorem L_52_20 : rd_look 52 20 = some (36, .getfield 22, 3, [4, 3, 44]) := rd_look_of LL_52 rfl
theorem L_52_21 : rd_look 52 21 = some (39, .bipush 9, 2, []) := rd_look_of LL_52 rfl
theorem L_52_22 : rd_look 52 22 = some (41, .imul, 1, []) := rd_look_of LL_52 rfl
theorem L_52_23 : rd_look 52 23 = some (42, .bipush 9, 2, []) := rd_look_of LL_52 rfl
theorem L_52_24 : rd_look 52 24 = some (44, .invokestatic 29, 3, [1000, 32]) := rd_look_of LL_52 rfl
theorem L_52_25 : rd_look 52 25 = some (47, .aload_n 0, 1, []) := rd_look_of LL_52 rfl
theorem L_52_26 : rd_look 52 26 = some (48, .dup, 1, []) := rd_look_of LL_52 rfl
theorem L_52_27 : rd_look 52 27 = some (49, .getfield 22, 3, [4, 3, 44]) := rd_look_of LL_52 rfl
theorem L_52_28 : rd_look 52 28 = some (52, .iconst 1, 1, []) := rd_look_of LL_52 rfl
theorem L_52_29 : rd_look 52 29 = some (53, .iadd, 1, []) := rd_look_of LL_52 rfl
theorem L_52_30 : rd_look 52 30 = some (54, .putfield 22, 3, [4, 3, 44, 0]) := rd_look_of LL_52 rfl
theorem L_52_31 : rd_look 52 31 = some (57, .return_, 1, []) := rd_look_of LL_52 rfl
theorem L_53_0 : rd_look 53 0 = some (0, .aload_n 0, 1, []) := rd_look_of LL_53 rfl
theorem L_53_1 : rd_look 53 1 = some (1, .iconst 0, 1, []) := rd_look_of LL_53 rfl
theorem L_53_2 : rd_look 53 2 = some (2, .putfield 22, 3, [4, 3, 44, 0]) := rd_look_of LL_53 rfl
theorem L_53_3 : rd_look 53 3 = some (5, .aload_n 0, 1, []) := rd_look_of LL_53 rfl
theorem L_53_4 : rd_look 53 4 = some (6, .iconst 0, 1, []) := rd_look_of LL_53 rfl
theorem L_53_5 : rd_look 53 5 = some (7, .putfield 26, 3, [4, 4, 45, 0]) := rd_look_of LL_53 rfl
theorem L_53_6 : rd_look 53 6 = some (10, .return_, 1, []) := rd_look_of LL_53 rfl
theorem L_55_0 : rd_look 55 0 = some (0, .aload_n 0, 1, []) := rd_look_of LL_55 rfl
theorem L_55_1 : rd_look 55 1 = some (1, .getfield 9, 3, [5, 3, 46]) := rd_look_of LL_55 rfl
theorem L_55_2 : rd_look 55 2 = some (4, .ireturn, 1, []) := rd_look_of LL_55 rfl
theorem L_56_0 : rd_look 56 0 = some (0, .iload_n 1, 1, []) := rd_look_of LL_56 rfl
theorem L_56_1 : rd_look 56 1 = some (1, .ifCond .lt 15, 3, [8]) := rd_look_of LL_56 rfl
theorem L_56_2 : rd_look 56 2 = some (4, .iload_n 1, 1, []) := rd_look_of LL_56 rfl
theorem L_56_3 : rd_look 56 3 = some (5, .aload_n 0, 1, []) := rd_look_of LL_56 rfl
theorem L_56_4 : rd_look 56 4 = some (6, .getfield 9, 3, [5, 3, 46]) := rd_look_of LL_56 rfl
theorem L_56_5 : rd_look 56 5 = some (9, .if_icmp .ge 7, 3, [8]) := rd_look_of LL_56 rfl
theorem L_56_6 : rd_look 56 6 = some (12, .iconst 1, 1, []) := rd_look_of LL_56 rfl
theorem L_56_7 : rd_look 56 7 = some (13, .goto 4, 3, [9]) := rd_look_of LL_56 rfl
theorem L_56_8 : rd_look 56 8 = some (16, .iconst 0, 1, []) := rd_look_of LL_56 rfl
theorem L_56_9 : rd_look 56 9 = some (17, .ireturn, 1, []) := rd_look_of LL_56 rfl
theorem L_57_0 : rd_look 57 0 = some (0, .aload_n 0, 1, []) := rd_look_of LL_57 rfl
theorem L_57_1 : rd_look 57 1 = some (1, .getfield 9, 3, [5, 3, 46]) := rd_look_of LL_57 rfl
theorem L_57_2 : rd_look 57 2 = some (4, .aload_n 0, 1, []) := rd_look_of LL_57 rfl
theorem L_57_3 : rd_look 57 3 = some (5, .getfield 15, 3, [5, 0, 47]) := rd_look_of LL_57 rfl
theorem L_57_4 : rd_look 57 4 = some (8, .if_icmp .lt 6, 3, [7]) := rd_look_of LL_57 rfl
theorem L_57_5 : rd_look 57 5 = some (11, .bipush (-3), 2, []) := rd_look_of LL_57 rfl
theorem L_57_6 : rd_look 57 6 = some (13, .ireturn, 1, []) := rd_look_of LL_57 rfl
theorem L_57_7 : rd_look 57 7 = some (14, .aload_n 0, 1, []) := rd_look_of LL_57 rfl
theorem L_57_8 : rd_look 57 8 = some (15, .getfield 9, 3, [5, 3, 46]) := rd_look_of LL_57 rfl
theorem L_57_9 : rd_look 57 9 = some (18, .istore 4, 2, []) := rd_look_of LL_57 rfl
theorem L_57_10 : rd_look 57 10 = some (20, .aload_n 0, 1, []) := rd_look_of LL_57 rfl
theorem L_57_11 : rd_look 57 11 = some (21, .getfield 26, 3, [5, 4, 50]) := rd_look_of LL_57 rfl
theorem L_57_12 : rd_look 57 12 = some (24, .iload 4, 2, []) := rd_look_of LL_57 rfl
theorem L_57_13 : rd_look 57 13 = some (26, .iload_n 1, 1, []) := rd_look_of LL_57 rfl
theorem L_57_14 : rd_look 57 14 = some (27, .iastore, 1, []) := rd_look_of LL_57 rfl
theorem L_57_15 : rd_look 57 15 = some (28, .aload_n 0, 1, []) := rd_look_of LL_57 rfl
theorem L_57_16 : rd_look 57 16 = some (29, .getfield 30, 3, [5, 5, 51]) := rd_look_of LL_57 rfl
theorem L_57_17 : rd_look 57 17 = some (32, .iload 4, 2, []) := rd_look_of LL_57 rfl
theorem L_57_18 : rd_look 57 18 = some (34, .iload_n 2, 1, []) := rd_look_of LL_57 rfl
theorem L_57_19 : rd_look 57 19 = some (35, .iastore, 1, []) := rd_look_of LL_57 rfl
theorem L_57_20 : rd_look 57 20 = some (36, .aload_n 0, 1, []) := rd_look_of LL_57 rfl
theorem L_57_21 : rd_look 57 21 = some (37, .getfield 33, 3, [5, 6, 52]) := rd_look_of LL_57 rfl
theorem L_57_22 : rd_look 57 22 = some (40, .iload 4, 2, []) := rd_look_of LL_57 rfl
theorem L_57_23 : rd_look 57 23 = some (42, .iload_n 3, 1, []) := rd_look_of LL_57 rfl
theorem L_57_24 : rd_look 57 24 = some (43, .iastore, 1, []) := rd_look_of LL_57 rfl
theorem L_57_25 : rd_look 57 25 = some (44, .aload_n 0, 1, []) := rd_look_of LL_57 rfl
theorem L_57_26 : rd_look 57 26 = some (45, .dup, 1, []) := rd_look_of LL_57 rfl
theorem L_57_27 : rd_look 57 27 = some (46, .getfield 9, 3, [5, 3, 46]) := rd_look_of LL_57 rfl
theorem L_57_28 : rd_look 57 28 = some (49, .iconst 1, 1, []) := rd_look_of LL_57 rfl
theorem L_57_29 : rd_look 57 29 = some (50, .iadd, 1, []) := rd_look_of LL_57 rfl
theorem L_57_30 : rd_look 57 30 = some (51, .putfield 9, 3, [5, 3, 46, 0]) := rd_look_of LL_57 rfl
theorem L_57_31 : rd_look 57 31 = some (54, .iload 4, 2, []) := rd_look_of LL_57 rfl
theorem L_57_32 : rd_look 57 32 = some (56, .ireturn, 1, []) := rd_look_of LL_57 rfl
theorem L_58_0 : rd_look 58 0 = some (0, .aload_n 0, 1, []) := rd_look_of LL_58 rfl
theorem L_58_1 : rd_look 58 1 = some (1, .getfield 33, 3, [5, 6, 52]) := rd_look_of LL_58 rfl
theorem L_58_2 : rd_look 58 2 = some (4, .iload_n 1, 1, []) := rd_look_of LL_58 rfl
theorem L_58_3 : rd_look 58 3 = some (5, .iaload, 1, []) := rd_look_of LL_58 rfl
theorem L_58_4 : rd_look 58 4 = some (6, .ireturn, 1, []) := rd_look_of LL_58 rfl
theorem L_59_0 : rd_look 59 0 = some (0, .aload_n 0, 1, []) := rd_look_of LL_59 rfl
theorem L_59_1 : rd_look 59 1 = some (1, .iload_n 1, 1, []) := rd_look_of LL_59 rfl
theorem L_59_2 : rd_look 59 2 = some (2, .invokevirtual 45, 3, [56, 1, 34, 5]) := rd_look_of LL_59 rfl
theorem L_59_3 : rd_look 59 3 = some (5, .ifCond .eq 24, 3, [15]) := rd_look_of LL_59 rfl
theorem L_59_4 : rd_look 59 4 = some (8, .aload_n 0, 1, []) := rd_look_of LL_59 rfl
theorem L_59_5 : rd_look 59 5 = some (9, .getfield 18, 3, [5, 1, 48]) := rd_look_of LL_59 rfl
theorem L_59_6 : rd_look 59 6 = some (12, .aload_n 0, 1, []) := rd_look_of LL_59 rfl
theorem L_59_7 : rd_look 59 7 = some (13, .getfield 33, 3, [5, 6, 52]) := rd_look_of LL_59 rfl
theorem L_59_8 : rd_look 59 8 = some (16, .iload_n 1, 1, []) := rd_look_of LL_59 rfl
theorem L_59_9 : rd_look 59 9 = some (17, .iaload, 1, []) := rd_look_of LL_59 rfl
theorem L_59_10 : rd_look 59 10 = some (18, .iload_n 2, 1, []) := rd_look_of LL_59 rfl
theorem L_59_11 : rd_look 59 11 = some (19, .invokevirtual 49, 3, [43, 2, 35, 3]) := rd_look_of LL_59 rfl
theorem L_59_12 : rd_look 59 12 = some (22, .ifCond .eq 7, 3, [15]) := rd_look_of LL_59 rfl
theorem L_59_13 : rd_look 59 13 = some (25, .iconst 1, 1, []) := rd_look_of LL_59 rfl
theorem L_59_14 : rd_look 59 14 = some (26, .goto 4, 3, [16]) := rd_look_of LL_59 rfl
theorem L_59_15 : rd_look 59 15 = some (29, .iconst 0, 1, []) := rd_look_of LL_59 rfl
theorem L_59_16 : rd_look 59 16 = some (30, .ireturn, 1, []) := rd_look_of LL_59 rfl
theorem L_60_0 : rd_look 60 0 = some (0, .aload_n 0, 1, []) := rd_look_of LL_60 rfl
theorem L_60_1 : rd_look 60 1 = some (1, .getfield 36, 3, [5, 7, 53]) := rd_look_of LL_60 rfl
theorem L_60_2 : rd_look 60 2 = some (4, .iload_n 1, 1, []) := rd_look_of LL_60 rfl
theorem L_60_3 : rd_look 60 3 = some (5, .iconst 3, 1, []) := rd_look_of LL_60 rfl
theorem L_60_4 : rd_look 60 4 = some (6, .imul, 1, []) := rd_look_of LL_60 rfl
theorem L_60_5 : rd_look 60 5 = some (7, .iload_n 2, 1, []) := rd_look_of LL_60 rfl
theorem L_60_6 : rd_look 60 6 = some (8, .iadd, 1, []) := rd_look_of LL_60 rfl
theorem L_60_7 : rd_look 60 7 = some (9, .iaload, 1, []) := rd_look_of LL_60 rfl
theorem L_60_8 : rd_look 60 8 = some (10, .bipush 6, 2, []) := rd_look_of LL_60 rfl
theorem L_60_9 : rd_look 60 9 = some (12, .if_icmp .ne 7, 3, [12]) := rd_look_of LL_60 rfl
theorem L_60_10 : rd_look 60 10 = some (15, .iconst 1, 1, []) := rd_look_of LL_60 rfl
theorem L_60_11 : rd_look 60 11 = some (16, .goto 4, 3, [13]) := rd_look_of LL_60 rfl
theorem L_60_12 : rd_look 60 12 = some (19, .iconst 0, 1, []) := rd_look_of LL_60 rfl
theorem L_60_13 : rd_look 60 13 = some (20, .ireturn, 1, []) := rd_look_of LL_60 rfl
theorem L_61_0 : rd_look 61 0 = some (0, .aload_n 0, 1, []) := rd_look_of LL_61 rfl
theorem L_61_1 : rd_look 61 1 = some (1, .iload_n 1, 1, []) := rd_look_of LL_61 rfl
theorem L_61_2 : rd_look 61 2 = some (2, .iload_n 2, 1, []) := rd_look_of LL_61 rfl
theorem L_61_3 : rd_look 61 3 = some (3, .invokevirtual 55, 3, [59, 2, 36, 5]) := rd_look_of LL_61 rfl
theorem L_61_4 : rd_look 61 4 = some (6, .ifCond .ne 5, 3, [7]) := rd_look_of LL_61 rfl
theorem L_61_5 : rd_look 61 5 = some (9, .iconst (-1), 1, []) := rd_look_of LL_61 rfl
theorem L_61_6 : rd_look 61 6 = some (10, .ireturn, 1, []) := rd_look_of LL_61 rfl
theorem L_61_7 : rd_look 61 7 = some (11, .aload_n 0, 1, []) := rd_look_of LL_61 rfl
theorem L_61_8 : rd_look 61 8 = some (12, .aload_n 0, 1, []) := rd_look_of LL_61 rfl
theorem L_61_9 : rd_look 61 9 = some (13, .getfield 18, 3, [5, 1, 48]) := rd_look_of LL_61 rfl
theorem L_61_10 : rd_look 61 10 = some (16, .aload_n 0, 1, []) := rd_look_of LL_61 rfl
theorem L_61_11 : rd_look 61 11 = some (17, .getfield 33, 3, [5, 6, 52]) := rd_look_of LL_61 rfl
theorem L_61_12 : rd_look 61 12 = some (20, .iload_n 1, 1, []) := rd_look_of LL_61 rfl
theorem L_61_13 : rd_look 61 13 = some (21, .iaload, 1, []) := rd_look_of LL_61 rfl
theorem L_61_14 : rd_look 61 14 = some (22, .iload_n 2, 1, []) := rd_look_of LL_61 rfl
theorem L_61_15 : rd_look 61 15 = some (23, .invokevirtual 58, 3, [44, 2, 37, 3]) := rd_look_of LL_61 rfl
theorem L_61_16 : rd_look 61 16 = some (26, .iload_n 3, 1, []) := rd_look_of LL_61 rfl
theorem L_61_17 : rd_look 61 17 = some (27, .iload 4, 2, []) := rd_look_of LL_61 rfl
theorem L_61_18 : rd_look 61 18 = some (29, .invokevirtual 61, 3, [62, 3, 38, 5]) := rd_look_of LL_61 rfl
theorem L_61_19 : rd_look 61 19 = some (32, .ifCond .ne 5, 3, [22]) := rd_look_of LL_61 rfl
theorem L_61_20 : rd_look 61 20 = some (35, .iconst (-1), 1, []) := rd_look_of LL_61 rfl
theorem L_61_21 : rd_look 61 21 = some (36, .ireturn, 1, []) := rd_look_of LL_61 rfl
theorem L_61_22 : rd_look 61 22 = some (37, .iload_n 1, 1, []) := rd_look_of LL_61 rfl
theorem L_61_23 : rd_look 61 23 = some (38, .iconst 3, 1, []) := rd_look_of LL_61 rfl
theorem L_61_24 : rd_look 61 24 = some (39, .imul, 1, []) := rd_look_of LL_61 rfl
theorem L_61_25 : rd_look 61 25 = some (40, .iload_n 2, 1, []) := rd_look_of LL_61 rfl
theorem L_61_26 : rd_look 61 26 = some (41, .iadd, 1, []) := rd_look_of LL_61 rfl
theorem L_61_27 : rd_look 61 27 = some (42, .istore 6, 2, []) := rd_look_of LL_61 rfl
theorem L_61_28 : rd_look 61 28 = some (44, .aload_n 0, 1, []) := rd_look_of LL_61 rfl
theorem L_61_29 : rd_look 61 29 = some (45, .getfield 36, 3, [5, 7, 53]) := rd_look_of LL_61 rfl
theorem L_61_30 : rd_look 61 30 = some (48, .iload 6, 2, []) := rd_look_of LL_61 rfl
theorem L_61_31 : rd_look 61 31 = some (50, .iload_n 3, 1, []) := rd_look_of LL_61 rfl
theorem L_61_32 : rd_look 61 32 = some (51, .iastore, 1, []) := rd_look_of LL_61 rfl
theorem L_61_33 : rd_look 61 33 = some (52, .aload_n 0, 1, []) := rd_look_of LL_61 rfl
theorem L_61_34 : rd_look 61 34 = some (53, .getfield 39, 3, [5, 8, 54]) := rd_look_of LL_61 rfl
theorem L_61_35 : rd_look 61 35 = some (56, .iload 6, 2, []) := rd_look_of LL_61 rfl
theorem L_61_36 : rd_look 61 36 = some (58, .iload 4, 2, []) := rd_look_of LL_61 rfl
theorem L_61_37 : rd_look 61 37 = some (60, .iastore, 1, []) := rd_look_of LL_61 rfl
theorem L_61_38 : rd_look 61 38 = some (61, .aload_n 0, 1, []) := rd_look_of LL_61 rfl
theorem L_61_39 : rd_look 61 39 = some (62, .getfield 42, 3, [5, 9, 55]) := rd_look_of LL_61 rfl
theorem L_61_40 : rd_look 61 40 = some (65, .iload 6, 2, []) := rd_look_of LL_61 rfl
theorem L_61_41 : rd_look 61 41 = some (67, .iload 5, 2, []) := rd_look_of LL_61 rfl
theorem L_61_42 : rd_look 61 42 = some (69, .iastore, 1, []) := rd_look_of LL_61 rfl
theorem L_61_43 : rd_look 61 43 = some (70, .iconst 1, 1, []) := rd_look_of LL_61 rfl
theorem L_61_44 : rd_look 61 44 = some (71, .ireturn, 1, []) := rd_look_of LL_61 rfl
theorem L_62_0 : rd_look 62 0 = some (0, .iload_n 2, 1, []) := rd_look_of LL_62 rfl
theorem L_62_1 : rd_look 62 1 = some (1, .tableswitch 122 0 6 #[43, 45, 66, 76, 97, 118, 120], 43, [47, 2, 4, 15, 21, 32, 43, 45]) := rd_look_of LL_62 rfl
theorem L_62_2 : rd_look 62 2 = some (44, .iconst 1, 1, []) := rd_look_of LL_62 rfl
theorem L_62_3 : rd_look 62 3 = some (45, .ireturn, 1, []) := rd_look_of LL_62 rfl
theorem L_62_4 : rd_look 62 4 = some (46, .iload_n 1, 1, []) := rd_look_of LL_62 rfl
theorem L_62_5 : rd_look 62 5 = some (47, .ifCond .eq 14, 3, [11]) := rd_look_of LL_62 rfl
theorem L_62_6 : rd_look 62 6 = some (50, .aload_n 0, 1, []) := rd_look_of LL_62 rfl
theorem L_62_7 : rd_look 62 7 = some (51, .getfield 22, 3, [5, 2, 49]) := rd_look_of LL_62 rfl
theorem L_62_8 : rd_look 62 8 = some (54, .iload_n 3, 1, []) := rd_look_of LL_62 rfl
theorem L_62_9 : rd_look 62 9 = some (55, .invokevirtual 65, 3, [88, 1, 39, 8]) := rd_look_of LL_62 rfl
theorem L_62_10 : rd_look 62 10 = some (58, .ifCond .eq 7, 3, [13]) := rd_look_of LL_62 rfl
theorem L_62_11 : rd_look 62 11 = some (61, .iconst 1, 1, []) := rd_look_of LL_62 rfl
theorem L_62_12 : rd_look 62 12 = some (62, .goto 4, 3, [14]) := rd_look_of LL_62 rfl
theorem L_62_13 : rd_look 62 13 = some (65, .iconst 0, 1, []) := rd_look_of LL_62 rfl
theorem L_62_14 : rd_look 62 14 = some (66, .ireturn, 1, []) := rd_look_of LL_62 rfl
theorem L_62_15 : rd_look 62 15 = some (67, .iload_n 1, 1, []) := rd_look_of LL_62 rfl
theorem L_62_16 : rd_look 62 16 = some (68, .ifCond .ne 7, 3, [19]) := rd_look_of LL_62 rfl
theorem L_62_17 : rd_look 62 17 = some (71, .iconst 1, 1, []) := rd_look_of LL_62 rfl
theorem L_62_18 : rd_look 62 18 = some (72, .goto 4, 3, [20]) := rd_look_of LL_62 rfl
theorem L_62_19 : rd_look 62 19 = some (75, .iconst 0, 1, []) := rd_look_of LL_62 rfl
theorem L_62_20 : rd_look 62 20 = some (76, .ireturn, 1, []) := rd_look_of LL_62 rfl
theorem L_62_21 : rd_look 62 21 = some (77, .iload_n 1, 1, []) := rd_look_of LL_62 rfl
theorem L_62_22 : rd_look 62 22 = some (78, .ifCond .eq 14, 3, [28]) := rd_look_of LL_62 rfl
theorem L_62_23 : rd_look 62 23 = some (81, .aload_n 0, 1, []) := rd_look_of LL_62 rfl
theorem L_62_24 : rd_look 62 24 = some (82, .getfield 22, 3, [5, 2, 49]) := rd_look_of LL_62 rfl
theorem L_62_25 : rd_look 62 25 = some (85, .iload_n 3, 1, []) := rd_look_of LL_62 rfl
theorem L_62_26 : rd_look 62 26 = some (86, .invokevirtual 65, 3, [88, 1, 39, 8]) := rd_look_of LL_62 rfl
theorem L_62_27 : rd_look 62 27 = some (89, .ifCond .eq 7, 3, [30]) := rd_look_of LL_62 rfl
theorem L_62_28 : rd_look 62 28 = some (92, .iconst 1, 1, []) := rd_look_of LL_62 rfl
theorem L_62_29 : rd_look 62 29 = some (93, .goto 4, 3, [31]) := rd_look_of LL_62 rfl
theorem L_62_30 : rd_look 62 30 = some (96, .iconst 0, 1, []) := rd_look_of LL_62 rfl
theorem L_62_31 : rd_look 62 31 = some (97, .ireturn, 1, []) := rd_look_of LL_62 rfl
theorem L_62_32 : rd_look 62 32 = some (98, .iload_n 1, 1, []) := rd_look_of LL_62 rfl
theorem L_62_33 : rd_look 62 33 = some (99, .ifCond .eq 18, 3, [41]) := rd_look_of LL_62 rfl
theorem L_62_34 : rd_look 62 34 = some (102, .aload_n 0, 1, []) := rd_look_of LL_62 rfl
theorem L_62_35 : rd_look 62 35 = some (103, .getfield 18, 3, [5, 1, 48]) := rd_look_of LL_62 rfl
theorem L_62_36 : rd_look 62 36 = some (106, .iload_n 3, 1, []) := rd_look_of LL_62 rfl
theorem L_62_37 : rd_look 62 37 = some (107, .invokevirtual 68, 3, [34, 1, 40, 3]) := rd_look_of LL_62 rfl
theorem L_62_38 : rd_look 62 38 = some (110, .ifCond .eq 7, 3, [41]) := rd_look_of LL_62 rfl
theorem L_62_39 : rd_look 62 39 = some (113, .iconst 1, 1, []) := rd_look_of LL_62 rfl
theorem L_62_40 : rd_look 62 40 = some (114, .goto 4, 3, [42]) := rd_look_of LL_62 rfl
theorem L_62_41 : rd_look 62 41 = some (117, .iconst 0, 1, []) := rd_look_of LL_62 rfl
theorem L_62_42 : rd_look 62 42 = some (118, .ireturn, 1, []) := rd_look_of LL_62 rfl
theorem L_62_43 : rd_look 62 43 = some (119, .iload_n 1, 1, []) := rd_look_of LL_62 rfl
theorem L_62_44 : rd_look 62 44 = some (120, .ireturn, 1, []) := rd_look_of LL_62 rfl
theorem L_62_45 : rd_look 62 45 = some (121, .iconst 1, 1, []) := rd_look_of LL_62 rfl
theorem L_62_46 : rd_look 62 46 = some (122, .ireturn, 1, []) := rd_look_of LL_62 rfl
theorem L_62_47 : rd_look 62 47 = some (123, .iconst 0, 1, []) := rd_look_of LL_62 rfl
theorem L_62_48 : rd_look 62 48 = some (124, .ireturn, 1, []) := rd_look_of LL_62 rfl
theorem L_63_0 : rd_look 63 0 = some (0, .aload_n 0, 1, []) := rd_look_of LL_63 rfl
theorem L_63_1 : rd_look 63 1 = some (1, .getfield 26, 3, [5, 4, 50]) := rd_look_of LL_63 rfl
theorem L_63_2 : rd_look 63 2 = some (4, .iload_n 1, 1, []) := rd_look_of LL_63 rfl
theorem L_63_3 : rd_look 63 3 = some (5, .iaload, 1, []) := rd_look_of LL_63 rfl
theorem L_63_4 : rd_look 63 4 = some (6, .aload_n 2, 1, []) := rd_look_of LL_63 rfl
theorem L_63_5 : rd_look 63 5 = some (7, .iload_n 3, 1, []) := rd_look_of LL_63 rfl
theorem L_63_6 : rd_look 63 6 = some (8, .iconst 0, 1, []) := rd_look_of LL_63 rfl
theorem L_63_7 : rd_look 63 7 = some (9, .iadd, 1, []) := rd_look_of LL_63 rfl
theorem L_63_8 : rd_look 63 8 = some (10, .iaload, 1, []) := rd_look_of LL_63 rfl
theorem L_63_9 : rd_look 63 9 = some (11, .if_icmp .ne 17, 3, [20]) := rd_look_of LL_63 rfl
theorem L_63_10 : rd_look 63 10 = some (14, .aload_n 0, 1, []) := rd_look_of LL_63 rfl
theorem L_63_11 : rd_look 63 11 = some (15, .getfield 30, 3, [5, 5, 51]) := rd_look_of LL_63 rfl
theorem L_63_12 : rd_look 63 12 = some (18, .iload_n 1, 1, []) := rd_look_of LL_63 rfl
theorem L_63_13 : rd_look 63 13 = some (19, .iaload, 1, []) := rd_look_of LL_63 rfl
theorem L_63_14 : rd_look 63 14 = some (20, .aload_n 2, 1, []) := rd_look_of LL_63 rfl
theorem L_63_15 : rd_look 63 15 = some (21, .iload_n 3, 1, []) := rd_look_of LL_63 rfl
theorem L_63_16 : rd_look 63 16 = some (22, .iconst 1, 1, []) := rd_look_of LL_63 rfl
theorem L_63_17 : rd_look 63 17 = some (23, .iadd, 1, []) := rd_look_of LL_63 rfl
theorem L_63_18 : rd_look 63 18 = some (24, .iaload, 1, []) := rd_look_of LL_63 rfl
theorem L_63_19 : rd_look 63 19 = some (25, .if_icmp .eq 5, 3, [22]) := rd_look_of LL_63 rfl
theorem L_63_20 : rd_look 63 20 = some (28, .iconst 0, 1, []) := rd_look_of LL_63 rfl
theorem L_63_21 : rd_look 63 21 = some (29, .ireturn, 1, []) := rd_look_of LL_63 rfl
theorem L_63_22 : rd_look 63 22 = some (30, .iconst 0, 1, []) := rd_look_of LL_63 rfl
theorem L_63_23 : rd_look 63 23 = some (31, .istore 4, 2, []) := rd_look_of LL_63 rfl
theorem L_63_24 : rd_look 63 24 = some (33, .iload 4, 2, []) := rd_look_of LL_63 rfl
theorem L_63_25 : rd_look 63 25 = some (35, .iconst 3, 1, []) := rd_look_of LL_63 rfl
theorem L_63_26 : rd_look 63 26 = some (36, .if_icmp .ge 32, 3, [46]) := rd_look_of LL_63 rfl
theorem L_63_27 : rd_look 63 27 = some (39, .aload_n 0, 1, []) := rd_look_of LL_63 rfl
theorem L_63_28 : rd_look 63 28 = some (40, .iload_n 1, 1, []) := rd_look_of LL_63 rfl
theorem L_63_29 : rd_look 63 29 = some (41, .iconst 3, 1, []) := rd_look_of LL_63 rfl
theorem L_63_30 : rd_look 63 30 = some (42, .imul, 1, []) := rd_look_of LL_63 rfl
theorem L_63_31 : rd_look 63 31 = some (43, .iload 4, 2, []) := rd_look_of LL_63 rfl
theorem L_63_32 : rd_look 63 32 = some (45, .iadd, 1, []) := rd_look_of LL_63 rfl
theorem L_63_33 : rd_look 63 33 = some (46, .aload_n 2, 1, []) := rd_look_of LL_63 rfl
theorem L_63_34 : rd_look 63 34 = some (47, .iload_n 3, 1, []) := rd_look_of LL_63 rfl
theorem L_63_35 : rd_look 63 35 = some (48, .iconst 2, 1, []) := rd_look_of LL_63 rfl
theorem L_63_36 : rd_look 63 36 = some (49, .iadd, 1, []) := rd_look_of LL_63 rfl
theorem L_63_37 : rd_look 63 37 = some (50, .iload 4, 2, []) := rd_look_of LL_63 rfl
theorem L_63_38 : rd_look 63 38 = some (52, .iadd, 1, []) := rd_look_of LL_63 rfl
theorem L_63_39 : rd_look 63 39 = some (53, .iaload, 1, []) := rd_look_of LL_63 rfl
theorem L_63_40 : rd_look 63 40 = some (54, .invokevirtual 69, 3, [64, 2, 41, 5]) := rd_look_of LL_63 rfl
theorem L_63_41 : rd_look 63 41 = some (57, .ifCond .ne 5, 3, [44]) := rd_look_of LL_63 rfl
theorem L_63_42 : rd_look 63 42 = some (60, .iconst 0, 1, []) := rd_look_of LL_63 rfl
theorem L_63_43 : rd_look 63 43 = some (61, .ireturn, 1, []) := rd_look_of LL_63 rfl
theorem L_63_44 : rd_look 63 44 = some (62, .iinc 4 1, 3, []) := rd_look_of LL_63 rfl
theorem L_63_45 : rd_look 63 45 = some (65, .goto (-32), 3, [24]) := rd_look_of LL_63 rfl
theorem L_63_46 : rd_look 63 46 = some (68, .iconst 1, 1, []) := rd_look_of LL_63 rfl
theorem L_63_47 : rd_look 63 47 = some (69, .ireturn, 1, []) := rd_look_of LL_63 rfl
theorem L_64_0 : rd_look 64 0 = some (0, .aload_n 0, 1, []) := rd_look_of LL_64 rfl
theorem L_64_1 : rd_look 64 1 = some (1, .getfield 36, 3, [5, 7, 53]) := rd_look_of LL_64 rfl
theorem L_64_2 : rd_look 64 2 = some (4, .iload_n 1, 1, []) := rd_look_of LL_64 rfl
theorem L_64_3 : rd_look 64 3 = some (5, .iaload, 1, []) := rd_look_of LL_64 rfl
theorem L_64_4 : rd_look 64 4 = some (6, .tableswitch 131 1 5 #[34, 50, 76, 92, 120], 34, [64, 5, 15, 31, 41, 57]) := rd_look_of LL_64 rfl
theorem L_64_5 : rd_look 64 5 = some (40, .iload_n 2, 1, []) := rd_look_of LL_64 rfl
theorem L_64_6 : rd_look 64 6 = some (41, .aload_n 0, 1, []) := rd_look_of LL_64 rfl
theorem L_64_7 : rd_look 64 7 = some (42, .getfield 39, 3, [5, 8, 54]) := rd_look_of LL_64 rfl
theorem L_64_8 : rd_look 64 8 = some (45, .iload_n 1, 1, []) := rd_look_of LL_64 rfl
theorem L_64_9 : rd_look 64 9 = some (46, .iaload, 1, []) := rd_look_of LL_64 rfl
theorem L_64_10 : rd_look 64 10 = some (47, .if_icmp .ne 7, 3, [13]) := rd_look_of LL_64 rfl
theorem L_64_11 : rd_look 64 11 = some (50, .iconst 1, 1, []) := rd_look_of LL_64 rfl
theorem L_64_12 : rd_look 64 12 = some (51, .goto 4, 3, [14]) := rd_look_of LL_64 rfl
theorem L_64_13 : rd_look 64 13 = some (54, .iconst 0, 1, []) := rd_look_of LL_64 rfl
theorem L_64_14 : rd_look 64 14 = some (55, .ireturn, 1, []) := rd_look_of LL_64 rfl
theorem L_64_15 : rd_look 64 15 = some (56, .aload_n 0, 1, []) := rd_look_of LL_64 rfl
theorem L_64_16 : rd_look 64 16 = some (57, .getfield 39, 3, [5, 8, 54]) := rd_look_of LL_64 rfl
theorem L_64_17 : rd_look 64 17 = some (60, .iload_n 1, 1, []) := rd_look_of LL_64 rfl
theorem L_64_18 : rd_look 64 18 = some (61, .iaload, 1, []) := rd_look_of LL_64 rfl
theorem L_64_19 : rd_look 64 19 = some (62, .iload_n 2, 1, []) := rd_look_of LL_64 rfl
theorem L_64_20 : rd_look 64 20 = some (63, .if_icmp .gt 17, 3, [29]) := rd_look_of LL_64 rfl
theorem L_64_21 : rd_look 64 21 = some (66, .iload_n 2, 1, []) := rd_look_of LL_64 rfl
theorem L_64_22 : rd_look 64 22 = some (67, .aload_n 0, 1, []) := rd_look_of LL_64 rfl
theorem L_64_23 : rd_look 64 23 = some (68, .getfield 42, 3, [5, 9, 55]) := rd_look_of LL_64 rfl
theorem L_64_24 : rd_look 64 24 = some (71, .iload_n 1, 1, []) := rd_look_of LL_64 rfl
theorem L_64_25 : rd_look 64 25 = some (72, .iaload, 1, []) := rd_look_of LL_64 rfl
theorem L_64_26 : rd_look 64 26 = some (73, .if_icmp .gt 7, 3, [29]) := rd_look_of LL_64 rfl
theorem L_64_27 : rd_look 64 27 = some (76, .iconst 1, 1, []) := rd_look_of LL_64 rfl
theorem L_64_28 : rd_look 64 28 = some (77, .goto 4, 3, [30]) := rd_look_of LL_64 rfl
theorem L_64_29 : rd_look 64 29 = some (80, .iconst 0, 1, []) := rd_look_of LL_64 rfl
theorem L_64_30 : rd_look 64 30 = some (81, .ireturn, 1, []) := rd_look_of LL_64 rfl
theorem L_64_31 : rd_look 64 31 = some (82, .iload_n 2, 1, []) := rd_look_of LL_64 rfl
theorem L_64_32 : rd_look 64 32 = some (83, .aload_n 0, 1, []) := rd_look_of LL_64 rfl
theorem L_64_33 : rd_look 64 33 = some (84, .getfield 39, 3, [5, 8, 54]) := rd_look_of LL_64 rfl
theorem L_64_34 : rd_look 64 34 = some (87, .iload_n 1, 1, []) := rd_look_of LL_64 rfl
theorem L_64_35 : rd_look 64 35 = some (88, .iaload, 1, []) := rd_look_of LL_64 rfl
theorem L_64_36 : rd_look 64 36 = some (89, .if_icmp .eq 7, 3, [39]) := rd_look_of LL_64 rfl
theorem L_64_37 : rd_look 64 37 = some (92, .iconst 1, 1, []) := rd_look_of LL_64 rfl
theorem L_64_38 : rd_look 64 38 = some (93, .goto 4, 3, [40]) := rd_look_of LL_64 rfl
theorem L_64_39 : rd_look 64 39 = some (96, .iconst 0, 1, []) := rd_look_of LL_64 rfl
theorem L_64_40 : rd_look 64 40 = some (97, .ireturn, 1, []) := rd_look_of LL_64 rfl
theorem L_64_41 : rd_look 64 41 = some (98, .iload_n 2, 1, []) := rd_look_of LL_64 rfl
theorem L_64_42 : rd_look 64 42 = some (99, .iconst (-1), 1, []) := rd_look_of LL_64 rfl
theorem L_64_43 : rd_look 64 43 = some (100, .if_icmp .eq 24, 3, [55]) := rd_look_of LL_64 rfl
theorem L_64_44 : rd_look 64 44 = some (103, .aload_n 0, 1, []) := rd_look_of LL_64 rfl
theorem L_64_45 : rd_look 64 45 = some (104, .getfield 22, 3, [5, 2, 49]) := rd_look_of LL_64 rfl
theorem L_64_46 : rd_look 64 46 = some (107, .iload_n 2, 1, []) := rd_look_of LL_64 rfl
theorem L_64_47 : rd_look 64 47 = some (108, .aload_n 0, 1, []) := rd_look_of LL_64 rfl
theorem L_64_48 : rd_look 64 48 = some (109, .getfield 39, 3, [5, 8, 54]) := rd_look_of LL_64 rfl
theorem L_64_49 : rd_look 64 49 = some (112, .iload_n 1, 1, []) := rd_look_of LL_64 rfl
theorem L_64_50 : rd_look 64 50 = some (113, .iaload, 1, []) := rd_look_of LL_64 rfl
theorem L_64_51 : rd_look 64 51 = some (114, .invokevirtual 72, 3, [90, 2, 42, 8]) := rd_look_of LL_64 rfl
theorem L_64_52 : rd_look 64 52 = some (117, .ifCond .eq 7, 3, [55]) := rd_look_of LL_64 rfl
theorem L_64_53 : rd_look 64 53 = some (120, .iconst 1, 1, []) := rd_look_of LL_64 rfl
theorem L_64_54 : rd_look 64 54 = some (121, .goto 4, 3, [56]) := rd_look_of LL_64 rfl
theorem L_64_55 : rd_look 64 55 = some (124, .iconst 0, 1, []) := rd_look_of LL_64 rfl
theorem L_64_56 : rd_look 64 56 = some (125, .ireturn, 1, []) := rd_look_of LL_64 rfl
theorem L_64_57 : rd_look 64 57 = some (126, .iload_n 2, 1, []) := rd_look_of LL_64 rfl
theorem L_64_58 : rd_look 64 58 = some (127, .iconst (-1), 1, []) := rd_look_of LL_64 rfl
theorem L_64_59 : rd_look 64 59 = some (128, .if_icmp .ne 7, 3, [62]) := rd_look_of LL_64 rfl
theorem L_64_60 : rd_look 64 60 = some (131, .iconst 1, 1, []) := rd_look_of LL_64 rfl
theorem L_64_61 : rd_look 64 61 = some (132, .goto 4, 3, [63]) := rd_look_of LL_64 rfl
theorem L_64_62 : rd_look 64 62 = some (135, .iconst 0, 1, []) := rd_look_of LL_64 rfl
theorem L_64_63 : rd_look 64 63 = some (136, .ireturn, 1, []) := rd_look_of LL_64 rfl
theorem L_64_64 : rd_look 64 64 = some (137, .iconst 1, 1, []) := rd_look_of LL_64 rfl
theorem L_64_65 : rd_look 64 65 = some (138, .ireturn, 1, []) := rd_look_of LL_64 rfl
theorem L_66_0 : rd_look 66 0 = some (0, .iload_n 2, 1, []) := rd_look_of LL_66 rfl
theorem L_66_1 : rd_look 66 1 = some (1, .tableswitch 100 0 5 #[39, 41, 63, 79, 81, 98], 39, [38, 2, 4, 16, 25, 27, 36]) := rd_look_of LL_66 rfl
theorem L_66_2 : rd_look 66 2 = some (40, .iconst 1, 1, []) := rd_look_of LL_66 rfl
theorem L_66_3 : rd_look 66 3 = some (41, .ireturn, 1, []) := rd_look_of LL_66 rfl
theorem L_66_4 : rd_look 66 4 = some (42, .iload_n 3, 1, []) := rd_look_of LL_66 rfl
theorem L_66_5 : rd_look 66 5 = some (43, .iconst (-1), 1, []) := rd_look_of LL_66 rfl
theorem L_66_6 : rd_look 66 6 = some (44, .if_icmp .eq 14, 3, [12]) := rd_look_of LL_66 rfl
theorem L_66_7 : rd_look 66 7 = some (47, .aload_n 0, 1, []) := rd_look_of LL_66 rfl
theorem L_66_8 : rd_look 66 8 = some (48, .getfield 39, 3, [6, 2, 64]) := rd_look_of LL_66 rfl
theorem L_66_9 : rd_look 66 9 = some (51, .iload_n 3, 1, []) := rd_look_of LL_66 rfl
theorem L_66_10 : rd_look 66 10 = some (52, .invokevirtual 43, 3, [88, 1, 44, 8]) := rd_look_of LL_66 rfl
theorem L_66_11 : rd_look 66 11 = some (55, .ifCond .eq 7, 3, [14]) := rd_look_of LL_66 rfl
theorem L_66_12 : rd_look 66 12 = some (58, .iconst 1, 1, []) := rd_look_of LL_66 rfl
theorem L_66_13 : rd_look 66 13 = some (59, .goto 4, 3, [15]) := rd_look_of LL_66 rfl
theorem L_66_14 : rd_look 66 14 = some (62, .iconst 0, 1, []) := rd_look_of LL_66 rfl
theorem L_66_15 : rd_look 66 15 = some (63, .ireturn, 1, []) := rd_look_of LL_66 rfl
theorem L_66_16 : rd_look 66 16 = some (64, .iload_n 3, 1, []) := rd_look_of LL_66 rfl
theorem L_66_17 : rd_look 66 17 = some (65, .ifCond .lt 13, 3, [23]) := rd_look_of LL_66 rfl
theorem L_66_18 : rd_look 66 18 = some (68, .iload_n 3, 1, []) := rd_look_of LL_66 rfl
theorem L_66_19 : rd_look 66 19 = some (69, .bipush 7, 2, []) := rd_look_of LL_66 rfl
theorem L_66_20 : rd_look 66 20 = some (71, .if_icmp .gt 7, 3, [23]) := rd_look_of LL_66 rfl
theorem L_66_21 : rd_look 66 21 = some (74, .iconst 1, 1, []) := rd_look_of LL_66 rfl
theorem L_66_22 : rd_look 66 22 = some (75, .goto 4, 3, [24]) := rd_look_of LL_66 rfl
theorem L_66_23 : rd_look 66 23 = some (78, .iconst 0, 1, []) := rd_look_of LL_66 rfl
theorem L_66_24 : rd_look 66 24 = some (79, .ireturn, 1, []) := rd_look_of LL_66 rfl
theorem L_66_25 : rd_look 66 25 = some (80, .iconst 1, 1, []) := rd_look_of LL_66 rfl
theorem L_66_26 : rd_look 66 26 = some (81, .ireturn, 1, []) := rd_look_of LL_66 rfl
theorem L_66_27 : rd_look 66 27 = some (82, .aload_n 0, 1, []) := rd_look_of LL_66 rfl
theorem L_66_28 : rd_look 66 28 = some (83, .getfield 35, 3, [6, 1, 63]) := rd_look_of LL_66 rfl
theorem L_66_29 : rd_look 66 29 = some (86, .aload_n 0, 1, []) := rd_look_of LL_66 rfl
theorem L_66_30 : rd_look 66 30 = some (87, .getfield 31, 3, [6, 0, 62]) := rd_look_of LL_66 rfl
theorem L_66_31 : rd_look 66 31 = some (90, .iload_n 1, 1, []) := rd_look_of LL_66 rfl
theorem L_66_32 : rd_look 66 32 = some (91, .invokevirtual 49, 3, [58, 1, 45, 5]) := rd_look_of LL_66 rfl
theorem L_66_33 : rd_look 66 33 = some (94, .iload_n 3, 1, []) := rd_look_of LL_66 rfl
theorem L_66_34 : rd_look 66 34 = some (95, .invokevirtual 55, 3, [43, 2, 46, 3]) := rd_look_of LL_66 rfl
theorem L_66_35 : rd_look 66 35 = some (98, .ireturn, 1, []) := rd_look_of LL_66 rfl
theorem L_66_36 : rd_look 66 36 = some (99, .iconst 1, 1, []) := rd_look_of LL_66 rfl
theorem L_66_37 : rd_look 66 37 = some (100, .ireturn, 1, []) := rd_look_of LL_66 rfl
theorem L_66_38 : rd_look 66 38 = some (101, .iconst 0, 1, []) := rd_look_of LL_66 rfl
theorem L_66_39 : rd_look 66 39 = some (102, .ireturn, 1, []) := rd_look_of LL_66 rfl
theorem L_67_0 : rd_look 67 0 = some (0, .aload_n 0, 1, []) := rd_look_of LL_67 rfl
theorem L_67_1 : rd_look 67 1 = some (1, .getfield 11, 3, [6, 3, 56]) := rd_look_of LL_67 rfl
theorem L_67_2 : rd_look 67 2 = some (4, .iload_n 1, 1, []) := rd_look_of LL_67 rfl
theorem L_67_3 : rd_look 67 3 = some (5, .iaload, 1, []) := rd_look_of LL_67 rfl
theorem L_67_4 : rd_look 67 4 = some (6, .bipush 6, 2, []) := rd_look_of LL_67 rfl
theorem L_67_5 : rd_look 67 5 = some (8, .if_icmp .lt 6, 3, [8]) := rd_look_of LL_67 rfl
theorem L_67_6 : rd_look 67 6 = some (11, .bipush (-3), 2, []) := rd_look_of LL_67 rfl
theorem L_67_7 : rd_look 67 7 = some (13, .ireturn, 1, []) := rd_look_of LL_67 rfl
theorem L_67_8 : rd_look 67 8 = some (14, .iload_n 1, 1, []) := rd_look_of LL_67 rfl
theorem L_67_9 : rd_look 67 9 = some (15, .bipush 6, 2, []) := rd_look_of LL_67 rfl
theorem L_67_10 : rd_look 67 10 = some (17, .imul, 1, []) := rd_look_of LL_67 rfl
theorem L_67_11 : rd_look 67 11 = some (18, .aload_n 0, 1, []) := rd_look_of LL_67 rfl
theorem L_67_12 : rd_look 67 12 = some (19, .getfield 11, 3, [6, 3, 56]) := rd_look_of LL_67 rfl
theorem L_67_13 : rd_look 67 13 = some (22, .iload_n 1, 1, []) := rd_look_of LL_67 rfl
theorem L_67_14 : rd_look 67 14 = some (23, .iaload, 1, []) := rd_look_of LL_67 rfl
theorem L_67_15 : rd_look 67 15 = some (24, .iadd, 1, []) := rd_look_of LL_67 rfl
theorem L_67_16 : rd_look 67 16 = some (25, .istore 4, 2, []) := rd_look_of LL_67 rfl
theorem L_67_17 : rd_look 67 17 = some (27, .aload_n 0, 1, []) := rd_look_of LL_67 rfl
theorem L_67_18 : rd_look 67 18 = some (28, .getfield 15, 3, [6, 4, 57]) := rd_look_of LL_67 rfl
theorem L_67_19 : rd_look 67 19 = some (31, .iload 4, 2, []) := rd_look_of LL_67 rfl
theorem L_67_20 : rd_look 67 20 = some (33, .iload_n 2, 1, []) := rd_look_of LL_67 rfl
theorem L_67_21 : rd_look 67 21 = some (34, .iastore, 1, []) := rd_look_of LL_67 rfl
theorem L_67_22 : rd_look 67 22 = some (35, .aload_n 0, 1, []) := rd_look_of LL_67 rfl
theorem L_67_23 : rd_look 67 23 = some (36, .getfield 18, 3, [6, 5, 58]) := rd_look_of LL_67 rfl
theorem L_67_24 : rd_look 67 24 = some (39, .iload 4, 2, []) := rd_look_of LL_67 rfl
theorem L_67_25 : rd_look 67 25 = some (41, .iload_n 3, 1, []) := rd_look_of LL_67 rfl
theorem L_67_26 : rd_look 67 26 = some (42, .iastore, 1, []) := rd_look_of LL_67 rfl
theorem L_67_27 : rd_look 67 27 = some (43, .aload_n 0, 1, []) := rd_look_of LL_67 rfl
theorem L_67_28 : rd_look 67 28 = some (44, .getfield 11, 3, [6, 3, 56]) := rd_look_of LL_67 rfl
theorem L_67_29 : rd_look 67 29 = some (47, .iload_n 1, 1, []) := rd_look_of LL_67 rfl
theorem L_67_30 : rd_look 67 30 = some (48, .dup2, 1, []) := rd_look_of LL_67 rfl
theorem L_67_31 : rd_look 67 31 = some (49, .iaload, 1, []) := rd_look_of LL_67 rfl
theorem L_67_32 : rd_look 67 32 = some (50, .iconst 1, 1, []) := rd_look_of LL_67 rfl
theorem L_67_33 : rd_look 67 33 = some (51, .iadd, 1, []) := rd_look_of LL_67 rfl
theorem L_67_34 : rd_look 67 34 = some (52, .iastore, 1, []) := rd_look_of LL_67 rfl
theorem L_67_35 : rd_look 67 35 = some (53, .aload_n 0, 1, []) := rd_look_of LL_67 rfl
theorem L_67_36 : rd_look 67 36 = some (54, .getfield 11, 3, [6, 3, 56]) := rd_look_of LL_67 rfl
theorem L_67_37 : rd_look 67 37 = some (57, .iload_n 1, 1, []) := rd_look_of LL_67 rfl
theorem L_67_38 : rd_look 67 38 = some (58, .iaload, 1, []) := rd_look_of LL_67 rfl
theorem L_67_39 : rd_look 67 39 = some (59, .ireturn, 1, []) := rd_look_of LL_67 rfl
theorem L_68_0 : rd_look 68 0 = some (0, .aload_n 0, 1, []) := rd_look_of LL_68 rfl
theorem L_68_1 : rd_look 68 1 = some (1, .getfield 31, 3, [6, 0, 62]) := rd_look_of LL_68 rfl
theorem L_68_2 : rd_look 68 2 = some (4, .invokevirtual 61, 3, [55, 0, 47, 5]) := rd_look_of LL_68 rfl
theorem L_68_3 : rd_look 68 3 = some (7, .iconst 1, 1, []) := rd_look_of LL_68 rfl
theorem L_68_4 : rd_look 68 4 = some (8, .isub, 1, []) := rd_look_of LL_68 rfl
theorem L_68_5 : rd_look 68 5 = some (9, .istore_n 2, 1, []) := rd_look_of LL_68 rfl
theorem L_68_6 : rd_look 68 6 = some (10, .iload_n 2, 1, []) := rd_look_of LL_68 rfl
theorem L_68_7 : rd_look 68 7 = some (11, .ifCond .lt 33, 3, [24]) := rd_look_of LL_68 rfl
theorem L_68_8 : rd_look 68 8 = some (14, .aload_n 0, 1, []) := rd_look_of LL_68 rfl
theorem L_68_9 : rd_look 68 9 = some (15, .getfield 11, 3, [6, 3, 56]) := rd_look_of LL_68 rfl
theorem L_68_10 : rd_look 68 10 = some (18, .iload_n 2, 1, []) := rd_look_of LL_68 rfl
theorem L_68_11 : rd_look 68 11 = some (19, .iaload, 1, []) := rd_look_of LL_68 rfl
theorem L_68_12 : rd_look 68 12 = some (20, .ifCond .le 18, 3, [22]) := rd_look_of LL_68 rfl
theorem L_68_13 : rd_look 68 13 = some (23, .aload_n 0, 1, []) := rd_look_of LL_68 rfl
theorem L_68_14 : rd_look 68 14 = some (24, .getfield 31, 3, [6, 0, 62]) := rd_look_of LL_68 rfl
theorem L_68_15 : rd_look 68 15 = some (27, .iload_n 2, 1, []) := rd_look_of LL_68 rfl
theorem L_68_16 : rd_look 68 16 = some (28, .aload_n 1, 1, []) := rd_look_of LL_68 rfl
theorem L_68_17 : rd_look 68 17 = some (29, .iconst 0, 1, []) := rd_look_of LL_68 rfl
theorem L_68_18 : rd_look 68 18 = some (30, .invokevirtual 65, 3, [63, 3, 48, 5]) := rd_look_of LL_68 rfl
theorem L_68_19 : rd_look 68 19 = some (33, .ifCond .eq 5, 3, [22]) := rd_look_of LL_68 rfl
theorem L_68_20 : rd_look 68 20 = some (36, .iload_n 2, 1, []) := rd_look_of LL_68 rfl
theorem L_68_21 : rd_look 68 21 = some (37, .ireturn, 1, []) := rd_look_of LL_68 rfl
theorem L_68_22 : rd_look 68 22 = some (38, .iinc 2 (-1), 3, []) := rd_look_of LL_68 rfl
theorem L_68_23 : rd_look 68 23 = some (41, .goto (-31), 3, [6]) := rd_look_of LL_68 rfl
theorem L_68_24 : rd_look 68 24 = some (44, .iconst (-1), 1, []) := rd_look_of LL_68 rfl
theorem L_68_25 : rd_look 68 25 = some (45, .ireturn, 1, []) := rd_look_of LL_68 rfl
theorem L_69_0 : rd_look 69 0 = some (0, .iconst 0, 1, []) := rd_look_of LL_69 rfl
theorem L_69_1 : rd_look 69 1 = some (1, .istore_n 3, 1, []) := rd_look_of LL_69 rfl
theorem L_69_2 : rd_look 69 2 = some (2, .iload_n 3, 1, []) := rd_look_of LL_69 rfl
theorem L_69_3 : rd_look 69 3 = some (3, .iconst 3, 1, []) := rd_look_of LL_69 rfl
theorem L_69_4 : rd_look 69 4 = some (4, .if_icmp .ge 47, 3, [35]) := rd_look_of LL_69 rfl
theorem L_69_5 : rd_look 69 5 = some (7, .aload_n 0, 1, []) := rd_look_of LL_69 rfl
theorem L_69_6 : rd_look 69 6 = some (8, .getfield 31, 3, [6, 0, 62]) := rd_look_of LL_69 rfl
theorem L_69_7 : rd_look 69 7 = some (11, .iload_n 1, 1, []) := rd_look_of LL_69 rfl
theorem L_69_8 : rd_look 69 8 = some (12, .iload_n 3, 1, []) := rd_look_of LL_69 rfl
theorem L_69_9 : rd_look 69 9 = some (13, .invokevirtual 69, 3, [60, 2, 49, 5]) := rd_look_of LL_69 rfl
theorem L_69_10 : rd_look 69 10 = some (16, .ifCond .eq 29, 3, [33]) := rd_look_of LL_69 rfl
theorem L_69_11 : rd_look 69 11 = some (19, .aload_n 0, 1, []) := rd_look_of LL_69 rfl
theorem L_69_12 : rd_look 69 12 = some (20, .getfield 24, 3, [6, 7, 60]) := rd_look_of LL_69 rfl
theorem L_69_13 : rd_look 69 13 = some (23, .iload_n 1, 1, []) := rd_look_of LL_69 rfl
theorem L_69_14 : rd_look 69 14 = some (24, .iconst 3, 1, []) := rd_look_of LL_69 rfl
theorem L_69_15 : rd_look 69 15 = some (25, .imul, 1, []) := rd_look_of LL_69 rfl
theorem L_69_16 : rd_look 69 16 = some (26, .iload_n 3, 1, []) := rd_look_of LL_69 rfl
theorem L_69_17 : rd_look 69 17 = some (27, .iadd, 1, []) := rd_look_of LL_69 rfl
theorem L_69_18 : rd_look 69 18 = some (28, .iconst 1, 1, []) := rd_look_of LL_69 rfl
theorem L_69_19 : rd_look 69 19 = some (29, .bastore, 1, []) := rd_look_of LL_69 rfl
theorem L_69_20 : rd_look 69 20 = some (30, .aload_n 0, 1, []) := rd_look_of LL_69 rfl
theorem L_69_21 : rd_look 69 21 = some (31, .getfield 28, 3, [6, 8, 61]) := rd_look_of LL_69 rfl
theorem L_69_22 : rd_look 69 22 = some (34, .iload_n 1, 1, []) := rd_look_of LL_69 rfl
theorem L_69_23 : rd_look 69 23 = some (35, .iconst 3, 1, []) := rd_look_of LL_69 rfl
theorem L_69_24 : rd_look 69 24 = some (36, .imul, 1, []) := rd_look_of LL_69 rfl
theorem L_69_25 : rd_look 69 25 = some (37, .iload_n 3, 1, []) := rd_look_of LL_69 rfl
theorem L_69_26 : rd_look 69 26 = some (38, .iadd, 1, []) := rd_look_of LL_69 rfl
theorem L_69_27 : rd_look 69 27 = some (39, .aload_n 2, 1, []) := rd_look_of LL_69 rfl
theorem L_69_28 : rd_look 69 28 = some (40, .iconst 2, 1, []) := rd_look_of LL_69 rfl
theorem L_69_29 : rd_look 69 29 = some (41, .iload_n 3, 1, []) := rd_look_of LL_69 rfl
theorem L_69_30 : rd_look 69 30 = some (42, .iadd, 1, []) := rd_look_of LL_69 rfl
theorem L_69_31 : rd_look 69 31 = some (43, .iaload, 1, []) := rd_look_of LL_69 rfl
theorem L_69_32 : rd_look 69 32 = some (44, .iastore, 1, []) := rd_look_of LL_69 rfl
theorem L_69_33 : rd_look 69 33 = some (45, .iinc 3 1, 3, []) := rd_look_of LL_69 rfl
theorem L_69_34 : rd_look 69 34 = some (48, .goto (-46), 3, [2]) := rd_look_of LL_69 rfl
theorem L_69_35 : rd_look 69 35 = some (51, .aload_n 0, 1, []) := rd_look_of LL_69 rfl
theorem L_69_36 : rd_look 69 36 = some (52, .getfield 21, 3, [6, 6, 59]) := rd_look_of LL_69 rfl
theorem L_69_37 : rd_look 69 37 = some (55, .iload_n 1, 1, []) := rd_look_of LL_69 rfl
theorem L_69_38 : rd_look 69 38 = some (56, .iaload, 1, []) := rd_look_of LL_69 rfl
theorem L_69_39 : rd_look 69 39 = some (57, .aload_n 0, 1, []) := rd_look_of LL_69 rfl
theorem L_69_40 : rd_look 69 40 = some (58, .getfield 11, 3, [6, 3, 56]) := rd_look_of LL_69 rfl
theorem L_69_41 : rd_look 69 41 = some (61, .iload_n 1, 1, []) := rd_look_of LL_69 rfl
theorem L_69_42 : rd_look 69 42 = some (62, .iaload, 1, []) := rd_look_of LL_69 rfl
theorem L_69_43 : rd_look 69 43 = some (63, .iconst 1, 1, []) := rd_look_of LL_69 rfl
theorem L_69_44 : rd_look 69 44 = some (64, .isub, 1, []) := rd_look_of LL_69 rfl
theorem L_69_45 : rd_look 69 45 = some (65, .invokestatic 72, 3, [1001, 50]) := rd_look_of LL_69 rfl
theorem L_69_46 : rd_look 69 46 = some (68, .istore_n 3, 1, []) := rd_look_of LL_69 rfl
theorem L_69_47 : rd_look 69 47 = some (69, .aload_n 0, 1, []) := rd_look_of LL_69 rfl
theorem L_69_48 : rd_look 69 48 = some (70, .getfield 21, 3, [6, 6, 59]) := rd_look_of LL_69 rfl
theorem L_69_49 : rd_look 69 49 = some (73, .iload_n 1, 1, []) := rd_look_of LL_69 rfl
theorem L_69_50 : rd_look 69 50 = some (74, .aload_n 0, 1, []) := rd_look_of LL_69 rfl
theorem L_69_51 : rd_look 69 51 = some (75, .getfield 21, 3, [6, 6, 59]) := rd_look_of LL_69 rfl
theorem L_69_52 : rd_look 69 52 = some (78, .iload_n 1, 1, []) := rd_look_of LL_69 rfl
theorem L_69_53 : rd_look 69 53 = some (79, .iaload, 1, []) := rd_look_of LL_69 rfl
theorem L_69_54 : rd_look 69 54 = some (80, .iconst 1, 1, []) := rd_look_of LL_69 rfl
theorem L_69_55 : rd_look 69 55 = some (81, .iadd, 1, []) := rd_look_of LL_69 rfl
theorem L_69_56 : rd_look 69 56 = some (82, .bipush 6, 2, []) := rd_look_of LL_69 rfl
theorem L_69_57 : rd_look 69 57 = some (84, .invokestatic 72, 3, [1001, 50]) := rd_look_of LL_69 rfl
theorem L_69_58 : rd_look 69 58 = some (87, .iastore, 1, []) := rd_look_of LL_69 rfl
theorem L_69_59 : rd_look 69 59 = some (88, .iload_n 1, 1, []) := rd_look_of LL_69 rfl
theorem L_69_60 : rd_look 69 60 = some (89, .bipush 6, 2, []) := rd_look_of LL_69 rfl
theorem L_69_61 : rd_look 69 61 = some (91, .imul, 1, []) := rd_look_of LL_69 rfl
theorem L_69_62 : rd_look 69 62 = some (92, .iload_n 3, 1, []) := rd_look_of LL_69 rfl
theorem L_69_63 : rd_look 69 63 = some (93, .iadd, 1, []) := rd_look_of LL_69 rfl
theorem L_69_64 : rd_look 69 64 = some (94, .ireturn, 1, []) := rd_look_of LL_69 rfl
theorem L_70_0 : rd_look 70 0 = some (0, .aload_n 0, 1, []) := rd_look_of LL_70 rfl
theorem L_70_1 : rd_look 70 1 = some (1, .getfield 15, 3, [6, 4, 57]) := rd_look_of LL_70 rfl
theorem L_70_2 : rd_look 70 2 = some (4, .iload_n 1, 1, []) := rd_look_of LL_70 rfl
theorem L_70_3 : rd_look 70 3 = some (5, .iaload, 1, []) := rd_look_of LL_70 rfl
theorem L_70_4 : rd_look 70 4 = some (6, .ireturn, 1, []) := rd_look_of LL_70 rfl
theorem L_71_0 : rd_look 71 0 = some (0, .aload_n 0, 1, []) := rd_look_of LL_71 rfl
theorem L_71_1 : rd_look 71 1 = some (1, .getfield 18, 3, [6, 5, 58]) := rd_look_of LL_71 rfl
theorem L_71_2 : rd_look 71 2 = some (4, .iload_n 1, 1, []) := rd_look_of LL_71 rfl
theorem L_71_3 : rd_look 71 3 = some (5, .iaload, 1, []) := rd_look_of LL_71 rfl
theorem L_71_4 : rd_look 71 4 = some (6, .ireturn, 1, []) := rd_look_of LL_71 rfl
theorem L_72_0 : rd_look 72 0 = some (0, .aload_n 0, 1, []) := rd_look_of LL_72 rfl
theorem L_72_1 : rd_look 72 1 = some (1, .getfield 24, 3, [6, 7, 60]) := rd_look_of LL_72 rfl
theorem L_72_2 : rd_look 72 2 = some (4, .iload_n 1, 1, []) := rd_look_of LL_72 rfl
theorem L_72_3 : rd_look 72 3 = some (5, .iconst 3, 1, []) := rd_look_of LL_72 rfl
theorem L_72_4 : rd_look 72 4 = some (6, .imul, 1, []) := rd_look_of LL_72 rfl
theorem L_72_5 : rd_look 72 5 = some (7, .iload_n 2, 1, []) := rd_look_of LL_72 rfl
theorem L_72_6 : rd_look 72 6 = some (8, .iadd, 1, []) := rd_look_of LL_72 rfl
theorem L_72_7 : rd_look 72 7 = some (9, .baload, 1, []) := rd_look_of LL_72 rfl
theorem L_72_8 : rd_look 72 8 = some (10, .ireturn, 1, []) := rd_look_of LL_72 rfl
theorem L_73_0 : rd_look 73 0 = some (0, .aload_n 0, 1, []) := rd_look_of LL_73 rfl
theorem L_73_1 : rd_look 73 1 = some (1, .getfield 28, 3, [6, 8, 61]) := rd_look_of LL_73 rfl
theorem L_73_2 : rd_look 73 2 = some (4, .iload_n 1, 1, []) := rd_look_of LL_73 rfl
theorem L_73_3 : rd_look 73 3 = some (5, .iconst 3, 1, []) := rd_look_of LL_73 rfl
theorem L_73_4 : rd_look 73 4 = some (6, .imul, 1, []) := rd_look_of LL_73 rfl
theorem L_73_5 : rd_look 73 5 = some (7, .iload_n 2, 1, []) := rd_look_of LL_73 rfl
theorem L_73_6 : rd_look 73 6 = some (8, .iadd, 1, []) := rd_look_of LL_73 rfl
theorem L_73_7 : rd_look 73 7 = some (9, .iaload, 1, []) := rd_look_of LL_73 rfl
theorem L_73_8 : rd_look 73 8 = some (10, .ireturn, 1, []) := rd_look_of LL_73 rfl
theorem L_74_0 : rd_look 74 0 = some (0, .aload_n 0, 1, []) := rd_look_of LL_74 rfl
theorem L_74_1 : rd_look 74 1 = some (1, .getfield 24, 3, [6, 7, 60]) := rd_look_of LL_74 rfl
theorem L_74_2 : rd_look 74 2 = some (4, .iload_n 1, 1, []) := rd_look_of LL_74 rfl
theorem L_74_3 : rd_look 74 3 = some (5, .iconst 3, 1, []) := rd_look_of LL_74 rfl
theorem L_74_4 : rd_look 74 4 = some (6, .imul, 1, []) := rd_look_of LL_74 rfl
theorem L_74_5 : rd_look 74 5 = some (7, .iload_n 2, 1, []) := rd_look_of LL_74 rfl
theorem L_74_6 : rd_look 74 6 = some (8, .iadd, 1, []) := rd_look_of LL_74 rfl
theorem L_74_7 : rd_look 74 7 = some (9, .iconst 0, 1, []) := rd_look_of LL_74 rfl
theorem L_74_8 : rd_look 74 8 = some (10, .bastore, 1, []) := rd_look_of LL_74 rfl
theorem L_74_9 : rd_look 74 9 = some (11, .return_, 1, []) := rd_look_of LL_74 rfl
theorem L_75_0 : rd_look 75 0 = some (0, .aload_n 0, 1, []) := rd_look_of LL_75 rfl
theorem L_75_1 : rd_look 75 1 = some (1, .getfield 21, 3, [6, 6, 59]) := rd_look_of LL_75 rfl
theorem L_75_2 : rd_look 75 2 = some (4, .iconst 0, 1, []) := rd_look_of LL_75 rfl
theorem L_75_3 : rd_look 75 3 = some (5, .invokestatic 78, 3, [193, 2, 51]) := rd_look_of LL_75 rfl
theorem L_75_4 : rd_look 75 4 = some (8, .iconst 0, 1, []) := rd_look_of LL_75 rfl
theorem L_75_5 : rd_look 75 5 = some (9, .istore_n 1, 1, []) := rd_look_of LL_75 rfl
theorem L_75_6 : rd_look 75 6 = some (10, .iload_n 1, 1, []) := rd_look_of LL_75 rfl
theorem L_75_7 : rd_look 75 7 = some (11, .aload_n 0, 1, []) := rd_look_of LL_75 rfl
theorem L_75_8 : rd_look 75 8 = some (12, .getfield 24, 3, [6, 7, 60]) := rd_look_of LL_75 rfl
theorem L_75_9 : rd_look 75 9 = some (15, .arraylength, 1, []) := rd_look_of LL_75 rfl
theorem L_75_10 : rd_look 75 10 = some (16, .if_icmp .ge 16, 3, [18]) := rd_look_of LL_75 rfl
theorem L_75_11 : rd_look 75 11 = some (19, .aload_n 0, 1, []) := rd_look_of LL_75 rfl
theorem L_75_12 : rd_look 75 12 = some (20, .getfield 24, 3, [6, 7, 60]) := rd_look_of LL_75 rfl
theorem L_75_13 : rd_look 75 13 = some (23, .iload_n 1, 1, []) := rd_look_of LL_75 rfl
theorem L_75_14 : rd_look 75 14 = some (24, .iconst 0, 1, []) := rd_look_of LL_75 rfl
theorem L_75_15 : rd_look 75 15 = some (25, .bastore, 1, []) := rd_look_of LL_75 rfl
theorem L_75_16 : rd_look 75 16 = some (26, .iinc 1 1, 3, []) := rd_look_of LL_75 rfl
theorem L_75_17 : rd_look 75 17 = some (29, .goto (-19), 3, [6]) := rd_look_of LL_75 rfl
theorem L_75_18 : rd_look 75 18 = some (32, .return_, 1, []) := rd_look_of LL_75 rfl
theorem L_77_0 : rd_look 77 0 = some (0, .aload_n 0, 1, []) := rd_look_of LL_77 rfl
theorem L_77_1 : rd_look 77 1 = some (1, .iload_n 3, 1, []) := rd_look_of LL_77 rfl
theorem L_77_2 : rd_look 77 2 = some (2, .putfield 15, 3, [7, 6, 66, 0]) := rd_look_of LL_77 rfl
theorem L_77_3 : rd_look 77 3 = some (5, .aload_n 0, 1, []) := rd_look_of LL_77 rfl
theorem L_77_4 : rd_look 77 4 = some (6, .iconst 0, 1, []) := rd_look_of LL_77 rfl
theorem L_77_5 : rd_look 77 5 = some (7, .putfield 19, 3, [7, 7, 67, 0]) := rd_look_of LL_77 rfl
theorem L_77_6 : rd_look 77 6 = some (10, .aload_n 0, 1, []) := rd_look_of LL_77 rfl
theorem L_77_7 : rd_look 77 7 = some (11, .getfield 43, 3, [7, 4, 73]) := rd_look_of LL_77 rfl
theorem L_77_8 : rd_look 77 8 = some (14, .iconst 0, 1, []) := rd_look_of LL_77 rfl
theorem L_77_9 : rd_look 77 9 = some (15, .iload_n 1, 1, []) := rd_look_of LL_77 rfl
theorem L_77_10 : rd_look 77 10 = some (16, .iastore, 1, []) := rd_look_of LL_77 rfl
theorem L_77_11 : rd_look 77 11 = some (17, .aload_n 0, 1, []) := rd_look_of LL_77 rfl
theorem L_77_12 : rd_look 77 12 = some (18, .getfield 43, 3, [7, 4, 73]) := rd_look_of LL_77 rfl
theorem L_77_13 : rd_look 77 13 = some (21, .iconst 1, 1, []) := rd_look_of LL_77 rfl
theorem L_77_14 : rd_look 77 14 = some (22, .iload_n 2, 1, []) := rd_look_of LL_77 rfl
theorem L_77_15 : rd_look 77 15 = some (23, .iastore, 1, []) := rd_look_of LL_77 rfl
theorem L_77_16 : rd_look 77 16 = some (24, .iconst 0, 1, []) := rd_look_of LL_77 rfl
theorem L_77_17 : rd_look 77 17 = some (25, .istore 4, 2, []) := rd_look_of LL_77 rfl
theorem L_77_18 : rd_look 77 18 = some (27, .iload 4, 2, []) := rd_look_of LL_77 rfl
theorem L_77_19 : rd_look 77 19 = some (29, .iconst 3, 1, []) := rd_look_of LL_77 rfl
theorem L_77_20 : rd_look 77 20 = some (30, .if_icmp .ge 19, 3, [30]) := rd_look_of LL_77 rfl
theorem L_77_21 : rd_look 77 21 = some (33, .aload_n 0, 1, []) := rd_look_of LL_77 rfl
theorem L_77_22 : rd_look 77 22 = some (34, .getfield 43, 3, [7, 4, 73]) := rd_look_of LL_77 rfl
theorem L_77_23 : rd_look 77 23 = some (37, .iconst 2, 1, []) := rd_look_of LL_77 rfl
theorem L_77_24 : rd_look 77 24 = some (38, .iload 4, 2, []) := rd_look_of LL_77 rfl
theorem L_77_25 : rd_look 77 25 = some (40, .iadd, 1, []) := rd_look_of LL_77 rfl
theorem L_77_26 : rd_look 77 26 = some (41, .iconst 0, 1, []) := rd_look_of LL_77 rfl
theorem L_77_27 : rd_look 77 27 = some (42, .iastore, 1, []) := rd_look_of LL_77 rfl
theorem L_77_28 : rd_look 77 28 = some (43, .iinc 4 1, 3, []) := rd_look_of LL_77 rfl
theorem L_77_29 : rd_look 77 29 = some (46, .goto (-19), 3, [18]) := rd_look_of LL_77 rfl
theorem L_77_30 : rd_look 77 30 = some (49, .return_, 1, []) := rd_look_of LL_77 rfl
theorem L_78_0 : rd_look 78 0 = some (0, .aload_n 0, 1, []) := rd_look_of LL_78 rfl
theorem L_78_1 : rd_look 78 1 = some (1, .getfield 22, 3, [7, 0, 68]) := rd_look_of LL_78 rfl
theorem L_78_2 : rd_look 78 2 = some (4, .aload_n 0, 1, []) := rd_look_of LL_78 rfl
theorem L_78_3 : rd_look 78 3 = some (5, .getfield 15, 3, [7, 6, 66]) := rd_look_of LL_78 rfl
theorem L_78_4 : rd_look 78 4 = some (8, .iload_n 1, 1, []) := rd_look_of LL_78 rfl
theorem L_78_5 : rd_look 78 5 = some (9, .invokevirtual 46, 3, [43, 2, 53, 3]) := rd_look_of LL_78 rfl
theorem L_78_6 : rd_look 78 6 = some (12, .ifCond .ne 4, 3, [8]) := rd_look_of LL_78 rfl
theorem L_78_7 : rd_look 78 7 = some (15, .return_, 1, []) := rd_look_of LL_78 rfl
theorem L_78_8 : rd_look 78 8 = some (16, .aload_n 0, 1, []) := rd_look_of LL_78 rfl
theorem L_78_9 : rd_look 78 9 = some (17, .getfield 43, 3, [7, 4, 73]) := rd_look_of LL_78 rfl
theorem L_78_10 : rd_look 78 10 = some (20, .iconst 2, 1, []) := rd_look_of LL_78 rfl
theorem L_78_11 : rd_look 78 11 = some (21, .iload_n 1, 1, []) := rd_look_of LL_78 rfl
theorem L_78_12 : rd_look 78 12 = some (22, .iadd, 1, []) := rd_look_of LL_78 rfl
theorem L_78_13 : rd_look 78 13 = some (23, .iload_n 2, 1, []) := rd_look_of LL_78 rfl
theorem L_78_14 : rd_look 78 14 = some (24, .iastore, 1, []) := rd_look_of LL_78 rfl
theorem L_78_15 : rd_look 78 15 = some (25, .aload_n 0, 1, []) := rd_look_of LL_78 rfl
theorem L_78_16 : rd_look 78 16 = some (26, .getfield 22, 3, [7, 0, 68]) := rd_look_of LL_78 rfl
theorem L_78_17 : rd_look 78 17 = some (29, .aload_n 0, 1, []) := rd_look_of LL_78 rfl
theorem L_78_18 : rd_look 78 18 = some (30, .getfield 15, 3, [7, 6, 66]) := rd_look_of LL_78 rfl
theorem L_78_19 : rd_look 78 19 = some (33, .iload_n 1, 1, []) := rd_look_of LL_78 rfl
theorem L_78_20 : rd_look 78 20 = some (34, .invokevirtual 52, 3, [44, 2, 54, 3]) := rd_look_of LL_78 rfl
theorem L_78_21 : rd_look 78 21 = some (37, .ifCond .ne 13, 3, [28]) := rd_look_of LL_78 rfl
theorem L_78_22 : rd_look 78 22 = some (40, .aload_n 0, 1, []) := rd_look_of LL_78 rfl
theorem L_78_23 : rd_look 78 23 = some (41, .dup, 1, []) := rd_look_of LL_78 rfl
theorem L_78_24 : rd_look 78 24 = some (42, .getfield 19, 3, [7, 7, 67]) := rd_look_of LL_78 rfl
theorem L_78_25 : rd_look 78 25 = some (45, .iload_n 2, 1, []) := rd_look_of LL_78 rfl
theorem L_78_26 : rd_look 78 26 = some (46, .iadd, 1, []) := rd_look_of LL_78 rfl
theorem L_78_27 : rd_look 78 27 = some (47, .putfield 19, 3, [7, 7, 67, 0]) := rd_look_of LL_78 rfl
theorem L_78_28 : rd_look 78 28 = some (50, .return_, 1, []) := rd_look_of LL_78 rfl
theorem L_79_0 : rd_look 79 0 = some (0, .aload_n 0, 1, []) := rd_look_of LL_79 rfl
theorem L_79_1 : rd_look 79 1 = some (1, .getfield 30, 3, [7, 2, 70]) := rd_look_of LL_79 rfl
theorem L_79_2 : rd_look 79 2 = some (4, .aload_n 0, 1, []) := rd_look_of LL_79 rfl
theorem L_79_3 : rd_look 79 3 = some (5, .getfield 43, 3, [7, 4, 73]) := rd_look_of LL_79 rfl
theorem L_79_4 : rd_look 79 4 = some (8, .invokevirtual 55, 3, [68, 1, 55, 6]) := rd_look_of LL_79 rfl
theorem L_79_5 : rd_look 79 5 = some (11, .istore_n 1, 1, []) := rd_look_of LL_79 rfl
theorem L_79_6 : rd_look 79 6 = some (12, .aload_n 0, 1, []) := rd_look_of LL_79 rfl
theorem L_79_7 : rd_look 79 7 = some (13, .getfield 43, 3, [7, 4, 73]) := rd_look_of LL_79 rfl
theorem L_79_8 : rd_look 79 8 = some (16, .iconst 5, 1, []) := rd_look_of LL_79 rfl
theorem L_79_9 : rd_look 79 9 = some (17, .iconst 0, 1, []) := rd_look_of LL_79 rfl
theorem L_79_10 : rd_look 79 10 = some (18, .iastore, 1, []) := rd_look_of LL_79 rfl
theorem L_79_11 : rd_look 79 11 = some (19, .aload_n 0, 1, []) := rd_look_of LL_79 rfl
theorem L_79_12 : rd_look 79 12 = some (20, .getfield 43, 3, [7, 4, 73]) := rd_look_of LL_79 rfl
theorem L_79_13 : rd_look 79 13 = some (23, .bipush 6, 2, []) := rd_look_of LL_79 rfl
theorem L_79_14 : rd_look 79 14 = some (25, .iload_n 1, 1, []) := rd_look_of LL_79 rfl
theorem L_79_15 : rd_look 79 15 = some (26, .iastore, 1, []) := rd_look_of LL_79 rfl
theorem L_79_16 : rd_look 79 16 = some (27, .aload_n 0, 1, []) := rd_look_of LL_79 rfl
theorem L_79_17 : rd_look 79 17 = some (28, .getfield 43, 3, [7, 4, 73]) := rd_look_of LL_79 rfl
theorem L_79_18 : rd_look 79 18 = some (31, .bipush 7, 2, []) := rd_look_of LL_79 rfl
theorem L_79_19 : rd_look 79 19 = some (33, .aload_n 0, 1, []) := rd_look_of LL_79 rfl
theorem L_79_20 : rd_look 79 20 = some (34, .getfield 22, 3, [7, 0, 68]) := rd_look_of LL_79 rfl
theorem L_79_21 : rd_look 79 21 = some (37, .aload_n 0, 1, []) := rd_look_of LL_79 rfl
theorem L_79_22 : rd_look 79 22 = some (38, .getfield 15, 3, [7, 6, 66]) := rd_look_of LL_79 rfl
theorem L_79_23 : rd_look 79 23 = some (41, .invokevirtual 61, 3, [45, 1, 56, 3]) := rd_look_of LL_79 rfl
theorem L_79_24 : rd_look 79 24 = some (44, .iconst 2, 1, []) := rd_look_of LL_79 rfl
theorem L_79_25 : rd_look 79 25 = some (45, .if_icmp .ne 7, 3, [28]) := rd_look_of LL_79 rfl
theorem L_79_26 : rd_look 79 26 = some (48, .iconst (-1), 1, []) := rd_look_of LL_79 rfl
theorem L_79_27 : rd_look 79 27 = some (49, .goto 4, 3, [29]) := rd_look_of LL_79 rfl
theorem L_79_28 : rd_look 79 28 = some (52, .iconst 0, 1, []) := rd_look_of LL_79 rfl
theorem L_79_29 : rd_look 79 29 = some (53, .iastore, 1, []) := rd_look_of LL_79 rfl
theorem L_79_30 : rd_look 79 30 = some (54, .aload_n 0, 1, []) := rd_look_of LL_79 rfl
theorem L_79_31 : rd_look 79 31 = some (55, .getfield 43, 3, [7, 4, 73]) := rd_look_of LL_79 rfl
theorem L_79_32 : rd_look 79 32 = some (58, .bipush 8, 2, []) := rd_look_of LL_79 rfl
theorem L_79_33 : rd_look 79 33 = some (60, .iconst (-1), 1, []) := rd_look_of LL_79 rfl
theorem L_79_34 : rd_look 79 34 = some (61, .iastore, 1, []) := rd_look_of LL_79 rfl
theorem L_79_35 : rd_look 79 35 = some (62, .iload_n 1, 1, []) := rd_look_of LL_79 rfl
theorem L_79_36 : rd_look 79 36 = some (63, .iconst (-1), 1, []) := rd_look_of LL_79 rfl
theorem L_79_37 : rd_look 79 37 = some (64, .if_icmp .ne 10, 3, [41]) := rd_look_of LL_79 rfl
theorem L_79_38 : rd_look 79 38 = some (67, .aload_n 0, 1, []) := rd_look_of LL_79 rfl
theorem L_79_39 : rd_look 79 39 = some (68, .invokevirtual 65, 3, [81, 0, 57, 7]) := rd_look_of LL_79 rfl
theorem L_79_40 : rd_look 79 40 = some (71, .goto 19, 3, [49]) := rd_look_of LL_79 rfl
theorem L_79_41 : rd_look 79 41 = some (74, .aload_n 0, 1, []) := rd_look_of LL_79 rfl
theorem L_79_42 : rd_look 79 42 = some (75, .aload_n 0, 1, []) := rd_look_of LL_79 rfl
theorem L_79_43 : rd_look 79 43 = some (76, .getfield 30, 3, [7, 2, 70]) := rd_look_of LL_79 rfl
theorem L_79_44 : rd_look 79 44 = some (79, .iload_n 1, 1, []) := rd_look_of LL_79 rfl
theorem L_79_45 : rd_look 79 45 = some (80, .aload_n 0, 1, []) := rd_look_of LL_79 rfl
theorem L_79_46 : rd_look 79 46 = some (81, .getfield 43, 3, [7, 4, 73]) := rd_look_of LL_79 rfl
theorem L_79_47 : rd_look 79 47 = some (84, .invokevirtual 68, 3, [69, 2, 58, 6]) := rd_look_of LL_79 rfl
theorem L_79_48 : rd_look 79 48 = some (87, .invokevirtual 72, 3, [80, 1, 59, 7]) := rd_look_of LL_79 rfl
theorem L_79_49 : rd_look 79 49 = some (90, .aload_n 0, 1, []) := rd_look_of LL_79 rfl
theorem L_79_50 : rd_look 79 50 = some (91, .getfield 34, 3, [7, 3, 71]) := rd_look_of LL_79 rfl
theorem L_79_51 : rd_look 79 51 = some (94, .invokevirtual 76, 3, [52, 0, 60, 4]) := rd_look_of LL_79 rfl
theorem L_79_52 : rd_look 79 52 = some (97, .return_, 1, []) := rd_look_of LL_79 rfl
theorem L_80_0 : rd_look 80 0 = some (0, .aload_n 0, 1, []) := rd_look_of LL_80 rfl
theorem L_80_1 : rd_look 80 1 = some (1, .getfield 30, 3, [7, 2, 70]) := rd_look_of LL_80 rfl
theorem L_80_2 : rd_look 80 2 = some (4, .iload_n 1, 1, []) := rd_look_of LL_80 rfl
theorem L_80_3 : rd_look 80 3 = some (5, .invokevirtual 79, 3, [71, 1, 61, 6]) := rd_look_of LL_80 rfl
theorem L_80_4 : rd_look 80 4 = some (8, .istore_n 2, 1, []) := rd_look_of LL_80 rfl
theorem L_80_5 : rd_look 80 5 = some (9, .aload_n 0, 1, []) := rd_look_of LL_80 rfl
theorem L_80_6 : rd_look 80 6 = some (10, .getfield 30, 3, [7, 2, 70]) := rd_look_of LL_80 rfl
theorem L_80_7 : rd_look 80 7 = some (13, .iload_n 1, 1, []) := rd_look_of LL_80 rfl
theorem L_80_8 : rd_look 80 8 = some (14, .invokevirtual 82, 3, [70, 1, 62, 6]) := rd_look_of LL_80 rfl
theorem L_80_9 : rd_look 80 9 = some (17, .tableswitch 80 0 4 #[35, 43, 51, 59, 72], 35, [33, 10, 14, 18, 22, 29]) := rd_look_of LL_80 rfl
theorem L_80_10 : rd_look 80 10 = some (52, .aload_n 0, 1, []) := rd_look_of LL_80 rfl
theorem L_80_11 : rd_look 80 11 = some (53, .iload_n 2, 1, []) := rd_look_of LL_80 rfl
theorem L_80_12 : rd_look 80 12 = some (54, .invokevirtual 85, 3, [83, 1, 63, 7]) := rd_look_of LL_80 rfl
theorem L_80_13 : rd_look 80 13 = some (57, .goto 44, 3, [35]) := rd_look_of LL_80 rfl
theorem L_80_14 : rd_look 80 14 = some (60, .aload_n 0, 1, []) := rd_look_of LL_80 rfl
theorem L_80_15 : rd_look 80 15 = some (61, .iload_n 2, 1, []) := rd_look_of LL_80 rfl
theorem L_80_16 : rd_look 80 16 = some (62, .invokevirtual 88, 3, [84, 1, 64, 7]) := rd_look_of LL_80 rfl
theorem L_80_17 : rd_look 80 17 = some (65, .goto 36, 3, [35]) := rd_look_of LL_80 rfl
theorem L_80_18 : rd_look 80 18 = some (68, .aload_n 0, 1, []) := rd_look_of LL_80 rfl
theorem L_80_19 : rd_look 80 19 = some (69, .iload_n 2, 1, []) := rd_look_of LL_80 rfl
theorem L_80_20 : rd_look 80 20 = some (70, .invokevirtual 91, 3, [85, 1, 65, 7]) := rd_look_of LL_80 rfl
theorem L_80_21 : rd_look 80 21 = some (73, .goto 28, 3, [35]) := rd_look_of LL_80 rfl
theorem L_80_22 : rd_look 80 22 = some (76, .aload_n 0, 1, []) := rd_look_of LL_80 rfl
theorem L_80_23 : rd_look 80 23 = some (77, .iload_n 2, 1, []) := rd_look_of LL_80 rfl
theorem L_80_24 : rd_look 80 24 = some (78, .aload_n 0, 1, []) := rd_look_of LL_80 rfl
theorem L_80_25 : rd_look 80 25 = some (79, .getfield 19, 3, [7, 7, 67]) := rd_look_of LL_80 rfl
theorem L_80_26 : rd_look 80 26 = some (82, .iadd, 1, []) := rd_look_of LL_80 rfl
theorem L_80_27 : rd_look 80 27 = some (83, .invokevirtual 85, 3, [83, 1, 63, 7]) := rd_look_of LL_80 rfl
theorem L_80_28 : rd_look 80 28 = some (86, .goto 15, 3, [35]) := rd_look_of LL_80 rfl
theorem L_80_29 : rd_look 80 29 = some (89, .aload_n 0, 1, []) := rd_look_of LL_80 rfl
theorem L_80_30 : rd_look 80 30 = some (90, .iload_n 2, 1, []) := rd_look_of LL_80 rfl
theorem L_80_31 : rd_look 80 31 = some (91, .invokevirtual 94, 3, [82, 1, 66, 7]) := rd_look_of LL_80 rfl
theorem L_80_32 : rd_look 80 32 = some (94, .goto 7, 3, [35]) := rd_look_of LL_80 rfl
theorem L_80_33 : rd_look 80 33 = some (97, .aload_n 0, 1, []) := rd_look_of LL_80 rfl
theorem L_80_34 : rd_look 80 34 = some (98, .invokevirtual 65, 3, [81, 0, 57, 7]) := rd_look_of LL_80 rfl
theorem L_80_35 : rd_look 80 35 = some (101, .return_, 1, []) := rd_look_of LL_80 rfl
theorem L_81_0 : rd_look 81 0 = some (0, .aload_n 0, 1, []) := rd_look_of LL_81 rfl
theorem L_81_1 : rd_look 81 1 = some (1, .getfield 26, 3, [7, 1, 69]) := rd_look_of LL_81 rfl
theorem L_81_2 : rd_look 81 2 = some (4, .aload_n 0, 1, []) := rd_look_of LL_81 rfl
theorem L_81_3 : rd_look 81 3 = some (5, .getfield 43, 3, [7, 4, 73]) := rd_look_of LL_81 rfl
theorem L_81_4 : rd_look 81 4 = some (8, .iconst 0, 1, []) := rd_look_of LL_81 rfl
theorem L_81_5 : rd_look 81 5 = some (9, .iaload, 1, []) := rd_look_of LL_81 rfl
theorem L_81_6 : rd_look 81 6 = some (10, .invokevirtual 97, 3, [91, 1, 67, 8]) := rd_look_of LL_81 rfl
theorem L_81_7 : rd_look 81 7 = some (13, .istore_n 1, 1, []) := rd_look_of LL_81 rfl
theorem L_81_8 : rd_look 81 8 = some (14, .iload_n 1, 1, []) := rd_look_of LL_81 rfl
theorem L_81_9 : rd_look 81 9 = some (15, .iconst (-1), 1, []) := rd_look_of LL_81 rfl
theorem L_81_10 : rd_look 81 10 = some (16, .if_icmp .ne 11, 3, [17]) := rd_look_of LL_81 rfl
theorem L_81_11 : rd_look 81 11 = some (19, .aload_n 0, 1, []) := rd_look_of LL_81 rfl
theorem L_81_12 : rd_look 81 12 = some (20, .getfield 43, 3, [7, 4, 73]) := rd_look_of LL_81 rfl
theorem L_81_13 : rd_look 81 13 = some (23, .iconst 5, 1, []) := rd_look_of LL_81 rfl
theorem L_81_14 : rd_look 81 14 = some (24, .iconst 3, 1, []) := rd_look_of LL_81 rfl
theorem L_81_15 : rd_look 81 15 = some (25, .iastore, 1, []) := rd_look_of LL_81 rfl
theorem L_81_16 : rd_look 81 16 = some (26, .return_, 1, []) := rd_look_of LL_81 rfl
theorem L_81_17 : rd_look 81 17 = some (27, .aload_n 0, 1, []) := rd_look_of LL_81 rfl
theorem L_81_18 : rd_look 81 18 = some (28, .getfield 9, 3, [7, 5, 65]) := rd_look_of LL_81 rfl
theorem L_81_19 : rd_look 81 19 = some (31, .iload_n 1, 1, []) := rd_look_of LL_81 rfl
theorem L_81_20 : rd_look 81 20 = some (32, .iaload, 1, []) := rd_look_of LL_81 rfl
theorem L_81_21 : rd_look 81 21 = some (33, .aload_n 0, 1, []) := rd_look_of LL_81 rfl
theorem L_81_22 : rd_look 81 22 = some (34, .getfield 19, 3, [7, 7, 67]) := rd_look_of LL_81 rfl
theorem L_81_23 : rd_look 81 23 = some (37, .iadd, 1, []) := rd_look_of LL_81 rfl
theorem L_81_24 : rd_look 81 24 = some (38, .istore_n 2, 1, []) := rd_look_of LL_81 rfl
theorem L_81_25 : rd_look 81 25 = some (39, .iload_n 2, 1, []) := rd_look_of LL_81 rfl
theorem L_81_26 : rd_look 81 26 = some (40, .ifCond .lt 10, 3, [30]) := rd_look_of LL_81 rfl
theorem L_81_27 : rd_look 81 27 = some (43, .iload_n 2, 1, []) := rd_look_of LL_81 rfl
theorem L_81_28 : rd_look 81 28 = some (44, .sipush 255, 3, []) := rd_look_of LL_81 rfl
theorem L_81_29 : rd_look 81 29 = some (47, .if_icmp .le 10, 3, [34]) := rd_look_of LL_81 rfl
theorem L_81_30 : rd_look 81 30 = some (50, .aload_n 0, 1, []) := rd_look_of LL_81 rfl
theorem L_81_31 : rd_look 81 31 = some (51, .bipush 7, 2, []) := rd_look_of LL_81 rfl
theorem L_81_32 : rd_look 81 32 = some (53, .invokevirtual 91, 3, [85, 1, 65, 7]) := rd_look_of LL_81 rfl
theorem L_81_33 : rd_look 81 33 = some (56, .return_, 1, []) := rd_look_of LL_81 rfl
theorem L_81_34 : rd_look 81 34 = some (57, .aload_n 0, 1, []) := rd_look_of LL_81 rfl
theorem L_81_35 : rd_look 81 35 = some (58, .getfield 9, 3, [7, 5, 65]) := rd_look_of LL_81 rfl
theorem L_81_36 : rd_look 81 36 = some (61, .iload_n 1, 1, []) := rd_look_of LL_81 rfl
theorem L_81_37 : rd_look 81 37 = some (62, .iload_n 2, 1, []) := rd_look_of LL_81 rfl
theorem L_81_38 : rd_look 81 38 = some (63, .iastore, 1, []) := rd_look_of LL_81 rfl
theorem L_81_39 : rd_look 81 39 = some (64, .aload_n 0, 1, []) := rd_look_of LL_81 rfl
theorem L_81_40 : rd_look 81 40 = some (65, .iload_n 2, 1, []) := rd_look_of LL_81 rfl
theorem L_81_41 : rd_look 81 41 = some (66, .invokevirtual 85, 3, [83, 1, 63, 7]) := rd_look_of LL_81 rfl
theorem L_81_42 : rd_look 81 42 = some (69, .return_, 1, []) := rd_look_of LL_81 rfl
theorem L_82_0 : rd_look 82 0 = some (0, .aload_n 0, 1, []) := rd_look_of LL_82 rfl
theorem L_82_1 : rd_look 82 1 = some (1, .getfield 22, 3, [7, 0, 68]) := rd_look_of LL_82 rfl
theorem L_82_2 : rd_look 82 2 = some (4, .aload_n 0, 1, []) := rd_look_of LL_82 rfl
theorem L_82_3 : rd_look 82 3 = some (5, .getfield 15, 3, [7, 6, 66]) := rd_look_of LL_82 rfl
theorem L_82_4 : rd_look 82 4 = some (8, .iload_n 1, 1, []) := rd_look_of LL_82 rfl
theorem L_82_5 : rd_look 82 5 = some (9, .invokevirtual 52, 3, [44, 2, 54, 3]) := rd_look_of LL_82 rfl
theorem L_82_6 : rd_look 82 6 = some (12, .ifCond .eq 18, 3, [16]) := rd_look_of LL_82 rfl
theorem L_82_7 : rd_look 82 7 = some (15, .aload_n 0, 1, []) := rd_look_of LL_82 rfl
theorem L_82_8 : rd_look 82 8 = some (16, .aload_n 0, 1, []) := rd_look_of LL_82 rfl
theorem L_82_9 : rd_look 82 9 = some (17, .getfield 43, 3, [7, 4, 73]) := rd_look_of LL_82 rfl
theorem L_82_10 : rd_look 82 10 = some (20, .iconst 2, 1, []) := rd_look_of LL_82 rfl
theorem L_82_11 : rd_look 82 11 = some (21, .iload_n 1, 1, []) := rd_look_of LL_82 rfl
theorem L_82_12 : rd_look 82 12 = some (22, .iadd, 1, []) := rd_look_of LL_82 rfl
theorem L_82_13 : rd_look 82 13 = some (23, .iaload, 1, []) := rd_look_of LL_82 rfl
theorem L_82_14 : rd_look 82 14 = some (24, .invokevirtual 88, 3, [84, 1, 64, 7]) := rd_look_of LL_82 rfl
theorem L_82_15 : rd_look 82 15 = some (27, .goto 15, 3, [24]) := rd_look_of LL_82 rfl
theorem L_82_16 : rd_look 82 16 = some (30, .aload_n 0, 1, []) := rd_look_of LL_82 rfl
theorem L_82_17 : rd_look 82 17 = some (31, .aload_n 0, 1, []) := rd_look_of LL_82 rfl
theorem L_82_18 : rd_look 82 18 = some (32, .getfield 43, 3, [7, 4, 73]) := rd_look_of LL_82 rfl
theorem L_82_19 : rd_look 82 19 = some (35, .iconst 2, 1, []) := rd_look_of LL_82 rfl
theorem L_82_20 : rd_look 82 20 = some (36, .iload_n 1, 1, []) := rd_look_of LL_82 rfl
theorem L_82_21 : rd_look 82 21 = some (37, .iadd, 1, []) := rd_look_of LL_82 rfl
theorem L_82_22 : rd_look 82 22 = some (38, .iaload, 1, []) := rd_look_of LL_82 rfl
theorem L_82_23 : rd_look 82 23 = some (39, .invokevirtual 85, 3, [83, 1, 63, 7]) := rd_look_of LL_82 rfl
theorem L_82_24 : rd_look 82 24 = some (42, .return_, 1, []) := rd_look_of LL_82 rfl
theorem L_83_0 : rd_look 83 0 = some (0, .aload_n 0, 1, []) := rd_look_of LL_83 rfl
theorem L_83_1 : rd_look 83 1 = some (1, .getfield 22, 3, [7, 0, 68]) := rd_look_of LL_83 rfl
theorem L_83_2 : rd_look 83 2 = some (4, .aload_n 0, 1, []) := rd_look_of LL_83 rfl
theorem L_83_3 : rd_look 83 3 = some (5, .getfield 15, 3, [7, 6, 66]) := rd_look_of LL_83 rfl
theorem L_83_4 : rd_look 83 4 = some (8, .invokevirtual 61, 3, [45, 1, 56, 3]) := rd_look_of LL_83 rfl
theorem L_83_5 : rd_look 83 5 = some (11, .iconst 1, 1, []) := rd_look_of LL_83 rfl
theorem L_83_6 : rd_look 83 6 = some (12, .if_icmp .ne 11, 3, [12]) := rd_look_of LL_83 rfl
theorem L_83_7 : rd_look 83 7 = some (15, .aload_n 0, 1, []) := rd_look_of LL_83 rfl
theorem L_83_8 : rd_look 83 8 = some (16, .getfield 43, 3, [7, 4, 73]) := rd_look_of LL_83 rfl
theorem L_83_9 : rd_look 83 9 = some (19, .bipush 7, 2, []) := rd_look_of LL_83 rfl
theorem L_83_10 : rd_look 83 10 = some (21, .iload_n 1, 1, []) := rd_look_of LL_83 rfl
theorem L_83_11 : rd_look 83 11 = some (22, .iastore, 1, []) := rd_look_of LL_83 rfl
theorem L_83_12 : rd_look 83 12 = some (23, .return_, 1, []) := rd_look_of LL_83 rfl
theorem L_84_0 : rd_look 84 0 = some (0, .aload_n 0, 1, []) := rd_look_of LL_84 rfl
theorem L_84_1 : rd_look 84 1 = some (1, .getfield 22, 3, [7, 0, 68]) := rd_look_of LL_84 rfl
theorem L_84_2 : rd_look 84 2 = some (4, .aload_n 0, 1, []) := rd_look_of LL_84 rfl
theorem L_84_3 : rd_look 84 3 = some (5, .getfield 15, 3, [7, 6, 66]) := rd_look_of LL_84 rfl
theorem L_84_4 : rd_look 84 4 = some (8, .invokevirtual 61, 3, [45, 1, 56, 3]) := rd_look_of LL_84 rfl
theorem L_84_5 : rd_look 84 5 = some (11, .iconst 2, 1, []) := rd_look_of LL_84 rfl
theorem L_84_6 : rd_look 84 6 = some (12, .if_icmp .ne 11, 3, [12]) := rd_look_of LL_84 rfl
theorem L_84_7 : rd_look 84 7 = some (15, .aload_n 0, 1, []) := rd_look_of LL_84 rfl
theorem L_84_8 : rd_look 84 8 = some (16, .getfield 43, 3, [7, 4, 73]) := rd_look_of LL_84 rfl
theorem L_84_9 : rd_look 84 9 = some (19, .bipush 7, 2, []) := rd_look_of LL_84 rfl
theorem L_84_10 : rd_look 84 10 = some (21, .iload_n 1, 1, []) := rd_look_of LL_84 rfl
theorem L_84_11 : rd_look 84 11 = some (22, .iastore, 1, []) := rd_look_of LL_84 rfl
theorem L_84_12 : rd_look 84 12 = some (23, .return_, 1, []) := rd_look_of LL_84 rfl
theorem L_85_0 : rd_look 85 0 = some (0, .aload_n 0, 1, []) := rd_look_of LL_85 rfl
theorem L_85_1 : rd_look 85 1 = some (1, .getfield 22, 3, [7, 0, 68]) := rd_look_of LL_85 rfl
theorem L_85_2 : rd_look 85 2 = some (4, .aload_n 0, 1, []) := rd_look_of LL_85 rfl
theorem L_85_3 : rd_look 85 3 = some (5, .getfield 15, 3, [7, 6, 66]) := rd_look_of LL_85 rfl
theorem L_85_4 : rd_look 85 4 = some (8, .iload_n 1, 1, []) := rd_look_of LL_85 rfl
theorem L_85_5 : rd_look 85 5 = some (9, .invokevirtual 102, 3, [46, 2, 68, 3]) := rd_look_of LL_85 rfl
theorem L_85_6 : rd_look 85 6 = some (12, .istore_n 2, 1, []) := rd_look_of LL_85 rfl
theorem L_85_7 : rd_look 85 7 = some (13, .aload_n 0, 1, []) := rd_look_of LL_85 rfl
theorem L_85_8 : rd_look 85 8 = some (14, .getfield 43, 3, [7, 4, 73]) := rd_look_of LL_85 rfl
theorem L_85_9 : rd_look 85 9 = some (17, .iconst 5, 1, []) := rd_look_of LL_85 rfl
theorem L_85_10 : rd_look 85 10 = some (18, .iload_n 2, 1, []) := rd_look_of LL_85 rfl
theorem L_85_11 : rd_look 85 11 = some (19, .ifCond .eq 7, 3, [14]) := rd_look_of LL_85 rfl
theorem L_85_12 : rd_look 85 12 = some (22, .iconst 1, 1, []) := rd_look_of LL_85 rfl
theorem L_85_13 : rd_look 85 13 = some (23, .goto 4, 3, [15]) := rd_look_of LL_85 rfl
theorem L_85_14 : rd_look 85 14 = some (26, .iconst 2, 1, []) := rd_look_of LL_85 rfl
theorem L_85_15 : rd_look 85 15 = some (27, .iastore, 1, []) := rd_look_of LL_85 rfl
theorem L_85_16 : rd_look 85 16 = some (28, .aload_n 0, 1, []) := rd_look_of LL_85 rfl
theorem L_85_17 : rd_look 85 17 = some (29, .getfield 43, 3, [7, 4, 73]) := rd_look_of LL_85 rfl
theorem L_85_18 : rd_look 85 18 = some (32, .bipush 8, 2, []) := rd_look_of LL_85 rfl
theorem L_85_19 : rd_look 85 19 = some (34, .iload_n 2, 1, []) := rd_look_of LL_85 rfl
theorem L_85_20 : rd_look 85 20 = some (35, .ifCond .eq 7, 3, [23]) := rd_look_of LL_85 rfl
theorem L_85_21 : rd_look 85 21 = some (38, .iload_n 1, 1, []) := rd_look_of LL_85 rfl
theorem L_85_22 : rd_look 85 22 = some (39, .goto 5, 3, [24]) := rd_look_of LL_85 rfl
theorem L_85_23 : rd_look 85 23 = some (42, .bipush 8, 2, []) := rd_look_of LL_85 rfl
theorem L_85_24 : rd_look 85 24 = some (44, .iastore, 1, []) := rd_look_of LL_85 rfl
theorem L_85_25 : rd_look 85 25 = some (45, .return_, 1, []) := rd_look_of LL_85 rfl
theorem L_87_0 : rd_look 87 0 = some (0, .aload_n 0, 1, []) := rd_look_of LL_87 rfl
theorem L_87_1 : rd_look 87 1 = some (1, .getfield 9, 3, [8, 1, 74]) := rd_look_of LL_87 rfl
theorem L_87_2 : rd_look 87 2 = some (4, .ireturn, 1, []) := rd_look_of LL_87 rfl
theorem L_88_0 : rd_look 88 0 = some (0, .iload_n 1, 1, []) := rd_look_of LL_88 rfl
theorem L_88_1 : rd_look 88 1 = some (1, .ifCond .lt 15, 3, [8]) := rd_look_of LL_88 rfl
theorem L_88_2 : rd_look 88 2 = some (4, .iload_n 1, 1, []) := rd_look_of LL_88 rfl
theorem L_88_3 : rd_look 88 3 = some (5, .aload_n 0, 1, []) := rd_look_of LL_88 rfl
theorem L_88_4 : rd_look 88 4 = some (6, .getfield 9, 3, [8, 1, 74]) := rd_look_of LL_88 rfl
theorem L_88_5 : rd_look 88 5 = some (9, .if_icmp .ge 7, 3, [8]) := rd_look_of LL_88 rfl
theorem L_88_6 : rd_look 88 6 = some (12, .iconst 1, 1, []) := rd_look_of LL_88 rfl
theorem L_88_7 : rd_look 88 7 = some (13, .goto 4, 3, [9]) := rd_look_of LL_88 rfl
theorem L_88_8 : rd_look 88 8 = some (16, .iconst 0, 1, []) := rd_look_of LL_88 rfl
theorem L_88_9 : rd_look 88 9 = some (17, .ireturn, 1, []) := rd_look_of LL_88 rfl
theorem L_89_0 : rd_look 89 0 = some (0, .aload_n 0, 1, []) := rd_look_of LL_89 rfl
theorem L_89_1 : rd_look 89 1 = some (1, .getfield 9, 3, [8, 1, 74]) := rd_look_of LL_89 rfl
theorem L_89_2 : rd_look 89 2 = some (4, .bipush 24, 2, []) := rd_look_of LL_89 rfl
theorem L_89_3 : rd_look 89 3 = some (6, .if_icmp .lt 6, 3, [6]) := rd_look_of LL_89 rfl
theorem L_89_4 : rd_look 89 4 = some (9, .bipush (-3), 2, []) := rd_look_of LL_89 rfl
theorem L_89_5 : rd_look 89 5 = some (11, .ireturn, 1, []) := rd_look_of LL_89 rfl
theorem L_89_6 : rd_look 89 6 = some (12, .aload_n 0, 1, []) := rd_look_of LL_89 rfl
theorem L_89_7 : rd_look 89 7 = some (13, .getfield 9, 3, [8, 1, 74]) := rd_look_of LL_89 rfl
theorem L_89_8 : rd_look 89 8 = some (16, .istore_n 3, 1, []) := rd_look_of LL_89 rfl
theorem L_89_9 : rd_look 89 9 = some (17, .aload_n 0, 1, []) := rd_look_of LL_89 rfl
theorem L_89_10 : rd_look 89 10 = some (18, .getfield 15, 3, [8, 2, 75]) := rd_look_of LL_89 rfl
theorem L_89_11 : rd_look 89 11 = some (21, .iload_n 3, 1, []) := rd_look_of LL_89 rfl
theorem L_89_12 : rd_look 89 12 = some (22, .iload_n 1, 1, []) := rd_look_of LL_89 rfl
theorem L_89_13 : rd_look 89 13 = some (23, .iastore, 1, []) := rd_look_of LL_89 rfl
theorem L_89_14 : rd_look 89 14 = some (24, .aload_n 0, 1, []) := rd_look_of LL_89 rfl
theorem L_89_15 : rd_look 89 15 = some (25, .getfield 19, 3, [8, 3, 76]) := rd_look_of LL_89 rfl
theorem L_89_16 : rd_look 89 16 = some (28, .iload_n 3, 1, []) := rd_look_of LL_89 rfl
theorem L_89_17 : rd_look 89 17 = some (29, .aload_n 0, 1, []) := rd_look_of LL_89 rfl
theorem L_89_18 : rd_look 89 18 = some (30, .getfield 29, 3, [8, 0, 79]) := rd_look_of LL_89 rfl
theorem L_89_19 : rd_look 89 19 = some (33, .iload_n 1, 1, []) := rd_look_of LL_89 rfl
theorem L_89_20 : rd_look 89 20 = some (34, .invokevirtual 33, 3, [41, 1, 70, 3]) := rd_look_of LL_89 rfl
theorem L_89_21 : rd_look 89 21 = some (37, .iastore, 1, []) := rd_look_of LL_89 rfl
theorem L_89_22 : rd_look 89 22 = some (38, .aload_n 0, 1, []) := rd_look_of LL_89 rfl
theorem L_89_23 : rd_look 89 23 = some (39, .getfield 22, 3, [8, 4, 77]) := rd_look_of LL_89 rfl
theorem L_89_24 : rd_look 89 24 = some (42, .iload_n 3, 1, []) := rd_look_of LL_89 rfl
theorem L_89_25 : rd_look 89 25 = some (43, .iload_n 2, 1, []) := rd_look_of LL_89 rfl
theorem L_89_26 : rd_look 89 26 = some (44, .iastore, 1, []) := rd_look_of LL_89 rfl
theorem L_89_27 : rd_look 89 27 = some (45, .aload_n 0, 1, []) := rd_look_of LL_89 rfl
theorem L_89_28 : rd_look 89 28 = some (46, .getfield 29, 3, [8, 0, 79]) := rd_look_of LL_89 rfl
theorem L_89_29 : rd_look 89 29 = some (49, .iload_n 1, 1, []) := rd_look_of LL_89 rfl
theorem L_89_30 : rd_look 89 30 = some (50, .invokevirtual 38, 3, [38, 1, 71, 3]) := rd_look_of LL_89 rfl
theorem L_89_31 : rd_look 89 31 = some (53, .aload_n 0, 1, []) := rd_look_of LL_89 rfl
theorem L_89_32 : rd_look 89 32 = some (54, .dup, 1, []) := rd_look_of LL_89 rfl
theorem L_89_33 : rd_look 89 33 = some (55, .getfield 9, 3, [8, 1, 74]) := rd_look_of LL_89 rfl
theorem L_89_34 : rd_look 89 34 = some (58, .iconst 1, 1, []) := rd_look_of LL_89 rfl
theorem L_89_35 : rd_look 89 35 = some (59, .iadd, 1, []) := rd_look_of LL_89 rfl
theorem L_89_36 : rd_look 89 36 = some (60, .putfield 9, 3, [8, 1, 74, 0]) := rd_look_of LL_89 rfl
theorem L_89_37 : rd_look 89 37 = some (63, .iload_n 3, 1, []) := rd_look_of LL_89 rfl
theorem L_89_38 : rd_look 89 38 = some (64, .ireturn, 1, []) := rd_look_of LL_89 rfl
theorem L_90_0 : rd_look 90 0 = some (0, .aload_n 0, 1, []) := rd_look_of LL_90 rfl
theorem L_90_1 : rd_look 90 1 = some (1, .getfield 19, 3, [8, 3, 76]) := rd_look_of LL_90 rfl
theorem L_90_2 : rd_look 90 2 = some (4, .iload_n 1, 1, []) := rd_look_of LL_90 rfl
theorem L_90_3 : rd_look 90 3 = some (5, .iaload, 1, []) := rd_look_of LL_90 rfl
theorem L_90_4 : rd_look 90 4 = some (6, .iload_n 2, 1, []) := rd_look_of LL_90 rfl
theorem L_90_5 : rd_look 90 5 = some (7, .ishr, 1, []) := rd_look_of LL_90 rfl
theorem L_90_6 : rd_look 90 6 = some (8, .iconst 1, 1, []) := rd_look_of LL_90 rfl
theorem L_90_7 : rd_look 90 7 = some (9, .iand, 1, []) := rd_look_of LL_90 rfl
theorem L_90_8 : rd_look 90 8 = some (10, .iconst 1, 1, []) := rd_look_of LL_90 rfl
theorem L_90_9 : rd_look 90 9 = some (11, .if_icmp .ne 7, 3, [12]) := rd_look_of LL_90 rfl
theorem L_90_10 : rd_look 90 10 = some (14, .iconst 1, 1, []) := rd_look_of LL_90 rfl
theorem L_90_11 : rd_look 90 11 = some (15, .goto 4, 3, [13]) := rd_look_of LL_90 rfl
theorem L_90_12 : rd_look 90 12 = some (18, .iconst 0, 1, []) := rd_look_of LL_90 rfl
theorem L_90_13 : rd_look 90 13 = some (19, .ireturn, 1, []) := rd_look_of LL_90 rfl
theorem L_91_0 : rd_look 91 0 = some (0, .aload_n 0, 1, []) := rd_look_of LL_91 rfl
theorem L_91_1 : rd_look 91 1 = some (1, .getfield 22, 3, [8, 4, 77]) := rd_look_of LL_91 rfl
theorem L_91_2 : rd_look 91 2 = some (4, .iload_n 1, 1, []) := rd_look_of LL_91 rfl
theorem L_91_3 : rd_look 91 3 = some (5, .iaload, 1, []) := rd_look_of LL_91 rfl
theorem L_91_4 : rd_look 91 4 = some (6, .ireturn, 1, []) := rd_look_of LL_91 rfl
theorem L_92_0 : rd_look 92 0 = some (0, .aload_n 0, 1, []) := rd_look_of LL_92 rfl
theorem L_92_1 : rd_look 92 1 = some (1, .iload_n 1, 1, []) := rd_look_of LL_92 rfl
theorem L_92_2 : rd_look 92 2 = some (2, .invokevirtual 42, 3, [88, 1, 72, 8]) := rd_look_of LL_92 rfl
theorem L_92_3 : rd_look 92 3 = some (5, .ifCond .eq 20, 3, [13]) := rd_look_of LL_92 rfl
theorem L_92_4 : rd_look 92 4 = some (8, .aload_n 0, 1, []) := rd_look_of LL_92 rfl
theorem L_92_5 : rd_look 92 5 = some (9, .getfield 29, 3, [8, 0, 79]) := rd_look_of LL_92 rfl
theorem L_92_6 : rd_look 92 6 = some (12, .aload_n 0, 1, []) := rd_look_of LL_92 rfl
theorem L_92_7 : rd_look 92 7 = some (13, .getfield 15, 3, [8, 2, 75]) := rd_look_of LL_92 rfl
theorem L_92_8 : rd_look 92 8 = some (16, .iload_n 1, 1, []) := rd_look_of LL_92 rfl
theorem L_92_9 : rd_look 92 9 = some (17, .iaload, 1, []) := rd_look_of LL_92 rfl
theorem L_92_10 : rd_look 92 10 = some (18, .iload_n 2, 1, []) := rd_look_of LL_92 rfl
theorem L_92_11 : rd_look 92 11 = some (19, .invokevirtual 46, 3, [42, 2, 73, 3]) := rd_look_of LL_92 rfl
theorem L_92_12 : rd_look 92 12 = some (22, .goto 4, 3, [14]) := rd_look_of LL_92 rfl
theorem L_92_13 : rd_look 92 13 = some (25, .iconst (-1), 1, []) := rd_look_of LL_92 rfl
theorem L_92_14 : rd_look 92 14 = some (26, .ireturn, 1, []) := rd_look_of LL_92 rfl
theorem L_93_0 : rd_look 93 0 = some (0, .aload_n 0, 1, []) := rd_look_of LL_93 rfl
theorem L_93_1 : rd_look 93 1 = some (1, .getfield 25, 3, [8, 5, 78]) := rd_look_of LL_93 rfl
theorem L_93_2 : rd_look 93 2 = some (4, .iload_n 1, 1, []) := rd_look_of LL_93 rfl
theorem L_93_3 : rd_look 93 3 = some (5, .baload, 1, []) := rd_look_of LL_93 rfl
theorem L_93_4 : rd_look 93 4 = some (6, .ireturn, 1, []) := rd_look_of LL_93 rfl
theorem L_94_0 : rd_look 94 0 = some (0, .aload_n 0, 1, []) := rd_look_of LL_94 rfl
theorem L_94_1 : rd_look 94 1 = some (1, .getfield 25, 3, [8, 5, 78]) := rd_look_of LL_94 rfl
theorem L_94_2 : rd_look 94 2 = some (4, .iload_n 1, 1, []) := rd_look_of LL_94 rfl
theorem L_94_3 : rd_look 94 3 = some (5, .baload, 1, []) := rd_look_of LL_94 rfl
theorem L_94_4 : rd_look 94 4 = some (6, .istore_n 3, 1, []) := rd_look_of LL_94 rfl
theorem L_94_5 : rd_look 94 5 = some (7, .aload_n 0, 1, []) := rd_look_of LL_94 rfl
theorem L_94_6 : rd_look 94 6 = some (8, .getfield 25, 3, [8, 5, 78]) := rd_look_of LL_94 rfl
theorem L_94_7 : rd_look 94 7 = some (11, .iload_n 1, 1, []) := rd_look_of LL_94 rfl
theorem L_94_8 : rd_look 94 8 = some (12, .iload_n 2, 1, []) := rd_look_of LL_94 rfl
theorem L_94_9 : rd_look 94 9 = some (13, .bastore, 1, []) := rd_look_of LL_94 rfl
theorem L_94_10 : rd_look 94 10 = some (14, .iload_n 3, 1, []) := rd_look_of LL_94 rfl
theorem L_94_11 : rd_look 94 11 = some (15, .ireturn, 1, []) := rd_look_of LL_94 rfl
theorem L_96_0 : rd_look 96 0 = some (0, .aload_n 0, 1, []) := rd_look_of LL_96 rfl
theorem L_96_1 : rd_look 96 1 = some (1, .iconst 0, 1, []) := rd_look_of LL_96 rfl
theorem L_96_2 : rd_look 96 2 = some (2, .putfield 9, 3, [9, 0, 80, 0]) := rd_look_of LL_96 rfl
theorem L_96_3 : rd_look 96 3 = some (5, .return_, 1, []) := rd_look_of LL_96 rfl
theorem L_97_0 : rd_look 97 0 = some (0, .aload_n 0, 1, []) := rd_look_of LL_97 rfl
theorem L_97_1 : rd_look 97 1 = some (1, .getfield 9, 3, [9, 0, 80]) := rd_look_of LL_97 rfl
theorem L_97_2 : rd_look 97 2 = some (4, .bipush 10, 2, []) := rd_look_of LL_97 rfl
theorem L_97_3 : rd_look 97 3 = some (6, .if_icmp .lt 5, 3, [6]) := rd_look_of LL_97 rfl
theorem L_97_4 : rd_look 97 4 = some (9, .iconst 0, 1, []) := rd_look_of LL_97 rfl
theorem L_97_5 : rd_look 97 5 = some (10, .ireturn, 1, []) := rd_look_of LL_97 rfl
theorem L_97_6 : rd_look 97 6 = some (11, .aload_n 0, 1, []) := rd_look_of LL_97 rfl
theorem L_97_7 : rd_look 97 7 = some (12, .getfield 15, 3, [9, 1, 81]) := rd_look_of LL_97 rfl
theorem L_97_8 : rd_look 97 8 = some (15, .aload_n 0, 1, []) := rd_look_of LL_97 rfl
theorem L_97_9 : rd_look 97 9 = some (16, .getfield 9, 3, [9, 0, 80]) := rd_look_of LL_97 rfl
theorem L_97_10 : rd_look 97 10 = some (19, .iload_n 1, 1, []) := rd_look_of LL_97 rfl
theorem L_97_11 : rd_look 97 11 = some (20, .iconst 1, 1, []) := rd_look_of LL_97 rfl
theorem L_97_12 : rd_look 97 12 = some (21, .iadd, 1, []) := rd_look_of LL_97 rfl
theorem L_97_13 : rd_look 97 13 = some (22, .iastore, 1, []) := rd_look_of LL_97 rfl
theorem L_97_14 : rd_look 97 14 = some (23, .aload_n 0, 1, []) := rd_look_of LL_97 rfl
theorem L_97_15 : rd_look 97 15 = some (24, .getfield 19, 3, [9, 2, 82]) := rd_look_of LL_97 rfl
theorem L_97_16 : rd_look 97 16 = some (27, .aload_n 0, 1, []) := rd_look_of LL_97 rfl
theorem L_97_17 : rd_look 97 17 = some (28, .getfield 9, 3, [9, 0, 80]) := rd_look_of LL_97 rfl
theorem L_97_18 : rd_look 97 18 = some (31, .iload_n 1, 1, []) := rd_look_of LL_97 rfl
theorem L_97_19 : rd_look 97 19 = some (32, .iload_n 2, 1, []) := rd_look_of LL_97 rfl
theorem L_97_20 : rd_look 97 20 = some (33, .iadd, 1, []) := rd_look_of LL_97 rfl
theorem L_97_21 : rd_look 97 21 = some (34, .iastore, 1, []) := rd_look_of LL_97 rfl
theorem L_97_22 : rd_look 97 22 = some (35, .aload_n 0, 1, []) := rd_look_of LL_97 rfl
theorem L_97_23 : rd_look 97 23 = some (36, .getfield 22, 3, [9, 3, 83]) := rd_look_of LL_97 rfl
theorem L_97_24 : rd_look 97 24 = some (39, .aload_n 0, 1, []) := rd_look_of LL_97 rfl
theorem L_97_25 : rd_look 97 25 = some (40, .getfield 9, 3, [9, 0, 80]) := rd_look_of LL_97 rfl
theorem L_97_26 : rd_look 97 26 = some (43, .iload_n 3, 1, []) := rd_look_of LL_97 rfl
theorem L_97_27 : rd_look 97 27 = some (44, .iastore, 1, []) := rd_look_of LL_97 rfl
theorem L_97_28 : rd_look 97 28 = some (45, .aload_n 0, 1, []) := rd_look_of LL_97 rfl
theorem L_97_29 : rd_look 97 29 = some (46, .dup, 1, []) := rd_look_of LL_97 rfl
theorem L_97_30 : rd_look 97 30 = some (47, .getfield 9, 3, [9, 0, 80]) := rd_look_of LL_97 rfl
theorem L_97_31 : rd_look 97 31 = some (50, .iconst 1, 1, []) := rd_look_of LL_97 rfl
theorem L_97_32 : rd_look 97 32 = some (51, .iadd, 1, []) := rd_look_of LL_97 rfl
theorem L_97_33 : rd_look 97 33 = some (52, .putfield 9, 3, [9, 0, 80, 0]) := rd_look_of LL_97 rfl
theorem L_97_34 : rd_look 97 34 = some (55, .iconst 1, 1, []) := rd_look_of LL_97 rfl
theorem L_97_35 : rd_look 97 35 = some (56, .ireturn, 1, []) := rd_look_of LL_97 rfl
theorem L_98_0 : rd_look 98 0 = some (0, .iconst 0, 1, []) := rd_look_of LL_98 rfl
theorem L_98_1 : rd_look 98 1 = some (1, .istore_n 2, 1, []) := rd_look_of LL_98 rfl
theorem L_98_2 : rd_look 98 2 = some (2, .iconst 0, 1, []) := rd_look_of LL_98 rfl
theorem L_98_3 : rd_look 98 3 = some (3, .istore_n 3, 1, []) := rd_look_of LL_98 rfl
theorem L_98_4 : rd_look 98 4 = some (4, .iload_n 3, 1, []) := rd_look_of LL_98 rfl
theorem L_98_5 : rd_look 98 5 = some (5, .aload_n 0, 1, []) := rd_look_of LL_98 rfl
theorem L_98_6 : rd_look 98 6 = some (6, .getfield 9, 3, [9, 0, 80]) := rd_look_of LL_98 rfl
theorem L_98_7 : rd_look 98 7 = some (9, .if_icmp .ge 68, 3, [47]) := rd_look_of LL_98 rfl
theorem L_98_8 : rd_look 98 8 = some (12, .aload_n 0, 1, []) := rd_look_of LL_98 rfl
theorem L_98_9 : rd_look 98 9 = some (13, .getfield 15, 3, [9, 1, 81]) := rd_look_of LL_98 rfl
theorem L_98_10 : rd_look 98 10 = some (16, .iload_n 3, 1, []) := rd_look_of LL_98 rfl
theorem L_98_11 : rd_look 98 11 = some (17, .iaload, 1, []) := rd_look_of LL_98 rfl
theorem L_98_12 : rd_look 98 12 = some (18, .iload_n 1, 1, []) := rd_look_of LL_98 rfl
theorem L_98_13 : rd_look 98 13 = some (19, .if_icmp .gt 52, 3, [45]) := rd_look_of LL_98 rfl
theorem L_98_14 : rd_look 98 14 = some (22, .iload_n 1, 1, []) := rd_look_of LL_98 rfl
theorem L_98_15 : rd_look 98 15 = some (23, .aload_n 0, 1, []) := rd_look_of LL_98 rfl
theorem L_98_16 : rd_look 98 16 = some (24, .getfield 19, 3, [9, 2, 82]) := rd_look_of LL_98 rfl
theorem L_98_17 : rd_look 98 17 = some (27, .iload_n 3, 1, []) := rd_look_of LL_98 rfl
theorem L_98_18 : rd_look 98 18 = some (28, .iaload, 1, []) := rd_look_of LL_98 rfl
theorem L_98_19 : rd_look 98 19 = some (29, .if_icmp .gt 42, 3, [45]) := rd_look_of LL_98 rfl
theorem L_98_20 : rd_look 98 20 = some (32, .aload_n 0, 1, []) := rd_look_of LL_98 rfl
theorem L_98_21 : rd_look 98 21 = some (33, .getfield 15, 3, [9, 1, 81]) := rd_look_of LL_98 rfl
theorem L_98_22 : rd_look 98 22 = some (36, .iload_n 2, 1, []) := rd_look_of LL_98 rfl
theorem L_98_23 : rd_look 98 23 = some (37, .aload_n 0, 1, []) := rd_look_of LL_98 rfl
theorem L_98_24 : rd_look 98 24 = some (38, .getfield 15, 3, [9, 1, 81]) := rd_look_of LL_98 rfl
theorem L_98_25 : rd_look 98 25 = some (41, .iload_n 3, 1, []) := rd_look_of LL_98 rfl
theorem L_98_26 : rd_look 98 26 = some (42, .iaload, 1, []) := rd_look_of LL_98 rfl
theorem L_98_27 : rd_look 98 27 = some (43, .iastore, 1, []) := rd_look_of LL_98 rfl
theorem L_98_28 : rd_look 98 28 = some (44, .aload_n 0, 1, []) := rd_look_of LL_98 rfl
theorem L_98_29 : rd_look 98 29 = some (45, .getfield 19, 3, [9, 2, 82]) := rd_look_of LL_98 rfl
theorem L_98_30 : rd_look 98 30 = some (48, .iload_n 2, 1, []) := rd_look_of LL_98 rfl
theorem L_98_31 : rd_look 98 31 = some (49, .aload_n 0, 1, []) := rd_look_of LL_98 rfl
theorem L_98_32 : rd_look 98 32 = some (50, .getfield 19, 3, [9, 2, 82]) := rd_look_of LL_98 rfl
theorem L_98_33 : rd_look 98 33 = some (53, .iload_n 3, 1, []) := rd_look_of LL_98 rfl
theorem L_98_34 : rd_look 98 34 = some (54, .iaload, 1, []) := rd_look_of LL_98 rfl
theorem L_98_35 : rd_look 98 35 = some (55, .iastore, 1, []) := rd_look_of LL_98 rfl
theorem L_98_36 : rd_look 98 36 = some (56, .aload_n 0, 1, []) := rd_look_of LL_98 rfl
theorem L_98_37 : rd_look 98 37 = some (57, .getfield 22, 3, [9, 3, 83]) := rd_look_of LL_98 rfl
theorem L_98_38 : rd_look 98 38 = some (60, .iload_n 2, 1, []) := rd_look_of LL_98 rfl
theorem L_98_39 : rd_look 98 39 = some (61, .aload_n 0, 1, []) := rd_look_of LL_98 rfl
theorem L_98_40 : rd_look 98 40 = some (62, .getfield 22, 3, [9, 3, 83]) := rd_look_of LL_98 rfl
theorem L_98_41 : rd_look 98 41 = some (65, .iload_n 3, 1, []) := rd_look_of LL_98 rfl
theorem L_98_42 : rd_look 98 42 = some (66, .iaload, 1, []) := rd_look_of LL_98 rfl
theorem L_98_43 : rd_look 98 43 = some (67, .iastore, 1, []) := rd_look_of LL_98 rfl
theorem L_98_44 : rd_look 98 44 = some (68, .iinc 2 1, 3, []) := rd_look_of LL_98 rfl
theorem L_98_45 : rd_look 98 45 = some (71, .iinc 3 1, 3, []) := rd_look_of LL_98 rfl
theorem L_98_46 : rd_look 98 46 = some (74, .goto (-70), 3, [4]) := rd_look_of LL_98 rfl
theorem L_98_47 : rd_look 98 47 = some (77, .aload_n 0, 1, []) := rd_look_of LL_98 rfl
theorem L_98_48 : rd_look 98 48 = some (78, .iload_n 2, 1, []) := rd_look_of LL_98 rfl
theorem L_98_49 : rd_look 98 49 = some (79, .putfield 9, 3, [9, 0, 80, 0]) := rd_look_of LL_98 rfl
theorem L_98_50 : rd_look 98 50 = some (82, .return_, 1, []) := rd_look_of LL_98 rfl
theorem L_99_0 : rd_look 99 0 = some (0, .aload_n 0, 1, []) := rd_look_of LL_99 rfl
theorem L_99_1 : rd_look 99 1 = some (1, .getfield 9, 3, [9, 0, 80]) := rd_look_of LL_99 rfl
theorem L_99_2 : rd_look 99 2 = some (4, .ifCond .ne 5, 3, [5]) := rd_look_of LL_99 rfl
theorem L_99_3 : rd_look 99 3 = some (7, .iconst (-1), 1, []) := rd_look_of LL_99 rfl
theorem L_99_4 : rd_look 99 4 = some (8, .ireturn, 1, []) := rd_look_of LL_99 rfl
theorem L_99_5 : rd_look 99 5 = some (9, .aload_n 0, 1, []) := rd_look_of LL_99 rfl
theorem L_99_6 : rd_look 99 6 = some (10, .dup, 1, []) := rd_look_of LL_99 rfl
theorem L_99_7 : rd_look 99 7 = some (11, .getfield 9, 3, [9, 0, 80]) := rd_look_of LL_99 rfl
theorem L_99_8 : rd_look 99 8 = some (14, .iconst 1, 1, []) := rd_look_of LL_99 rfl
theorem L_99_9 : rd_look 99 9 = some (15, .isub, 1, []) := rd_look_of LL_99 rfl
theorem L_99_10 : rd_look 99 10 = some (16, .putfield 9, 3, [9, 0, 80, 0]) := rd_look_of LL_99 rfl
theorem L_99_11 : rd_look 99 11 = some (19, .aload_n 0, 1, []) := rd_look_of LL_99 rfl
theorem L_99_12 : rd_look 99 12 = some (20, .getfield 22, 3, [9, 3, 83]) := rd_look_of LL_99 rfl
theorem L_99_13 : rd_look 99 13 = some (23, .aload_n 0, 1, []) := rd_look_of LL_99 rfl
theorem L_99_14 : rd_look 99 14 = some (24, .getfield 9, 3, [9, 0, 80]) := rd_look_of LL_99 rfl
theorem L_99_15 : rd_look 99 15 = some (27, .iaload, 1, []) := rd_look_of LL_99 rfl
theorem L_99_16 : rd_look 99 16 = some (28, .ireturn, 1, []) := rd_look_of LL_99 rfl
theorem L_101_0 : rd_look 101 0 = some (0, .aload_n 0, 1, []) := rd_look_of LL_101 rfl
theorem L_101_1 : rd_look 101 1 = some (1, .getfield 15, 3, [10, 1, 85]) := rd_look_of LL_101 rfl
theorem L_101_2 : rd_look 101 2 = some (4, .ireturn, 1, []) := rd_look_of LL_101 rfl
theorem L_102_0 : rd_look 102 0 = some (0, .aload_n 0, 1, []) := rd_look_of LL_102 rfl
theorem L_102_1 : rd_look 102 1 = some (1, .getfield 11, 3, [10, 0, 84]) := rd_look_of LL_102 rfl
theorem L_102_2 : rd_look 102 2 = some (4, .iload_n 1, 1, []) := rd_look_of LL_102 rfl
theorem L_102_3 : rd_look 102 3 = some (5, .iconst 3, 1, []) := rd_look_of LL_102 rfl
theorem L_102_4 : rd_look 102 4 = some (6, .imul, 1, []) := rd_look_of LL_102 rfl
theorem L_102_5 : rd_look 102 5 = some (7, .iload_n 2, 1, []) := rd_look_of LL_102 rfl
theorem L_102_6 : rd_look 102 6 = some (8, .iadd, 1, []) := rd_look_of LL_102 rfl
theorem L_102_7 : rd_look 102 7 = some (9, .iaload, 1, []) := rd_look_of LL_102 rfl
theorem L_102_8 : rd_look 102 8 = some (10, .ireturn, 1, []) := rd_look_of LL_102 rfl
theorem L_103_0 : rd_look 103 0 = some (0, .aload_n 0, 1, []) := rd_look_of LL_103 rfl
theorem L_103_1 : rd_look 103 1 = some (1, .iconst 0, 1, []) := rd_look_of LL_103 rfl
theorem L_103_2 : rd_look 103 2 = some (2, .putfield 15, 3, [10, 1, 85, 0]) := rd_look_of LL_103 rfl
theorem L_103_3 : rd_look 103 3 = some (5, .aload_n 0, 1, []) := rd_look_of LL_103 rfl
theorem L_103_4 : rd_look 103 4 = some (6, .aload_n 1, 1, []) := rd_look_of LL_103 rfl
theorem L_103_5 : rd_look 103 5 = some (7, .invokevirtual 19, 3, [104, 1, 76, 10]) := rd_look_of LL_103 rfl
theorem L_103_6 : rd_look 103 6 = some (10, .aload_n 0, 1, []) := rd_look_of LL_103 rfl
theorem L_103_7 : rd_look 103 7 = some (11, .aload_n 1, 1, []) := rd_look_of LL_103 rfl
theorem L_103_8 : rd_look 103 8 = some (12, .invokevirtual 23, 3, [105, 1, 77, 10]) := rd_look_of LL_103 rfl
theorem L_103_9 : rd_look 103 9 = some (15, .iconst 0, 1, []) := rd_look_of LL_103 rfl
theorem L_103_10 : rd_look 103 10 = some (16, .istore 4, 2, []) := rd_look_of LL_103 rfl
theorem L_103_11 : rd_look 103 11 = some (18, .iload 4, 2, []) := rd_look_of LL_103 rfl
theorem L_103_12 : rd_look 103 12 = some (20, .aload_n 2, 1, []) := rd_look_of LL_103 rfl
theorem L_103_13 : rd_look 103 13 = some (21, .invokevirtual 26, 3, [49, 0, 78, 4]) := rd_look_of LL_103 rfl
theorem L_103_14 : rd_look 103 14 = some (24, .if_icmp .ge 87, 3, [58]) := rd_look_of LL_103 rfl
theorem L_103_15 : rd_look 103 15 = some (27, .aload_n 1, 1, []) := rd_look_of LL_103 rfl
theorem L_103_16 : rd_look 103 16 = some (28, .iload 4, 2, []) := rd_look_of LL_103 rfl
theorem L_103_17 : rd_look 103 17 = some (30, .invokevirtual 31, 3, [30, 1, 79, 2]) := rd_look_of LL_103 rfl
theorem L_103_18 : rd_look 103 18 = some (33, .istore 5, 2, []) := rd_look_of LL_103 rfl
theorem L_103_19 : rd_look 103 19 = some (35, .aload_n 2, 1, []) := rd_look_of LL_103 rfl
theorem L_103_20 : rd_look 103 20 = some (36, .iload 4, 2, []) := rd_look_of LL_103 rfl
theorem L_103_21 : rd_look 103 21 = some (38, .iconst 5, 1, []) := rd_look_of LL_103 rfl
theorem L_103_22 : rd_look 103 22 = some (39, .invokevirtual 37, 3, [51, 2, 80, 4]) := rd_look_of LL_103 rfl
theorem L_103_23 : rd_look 103 23 = some (42, .istore 6, 2, []) := rd_look_of LL_103 rfl
theorem L_103_24 : rd_look 103 24 = some (44, .iload 5, 2, []) := rd_look_of LL_103 rfl
theorem L_103_25 : rd_look 103 25 = some (46, .ifCond .ne 25, 3, [38]) := rd_look_of LL_103 rfl
theorem L_103_26 : rd_look 103 26 = some (49, .aload_n 3, 1, []) := rd_look_of LL_103 rfl
theorem L_103_27 : rd_look 103 27 = some (50, .aload_n 2, 1, []) := rd_look_of LL_103 rfl
theorem L_103_28 : rd_look 103 28 = some (51, .iload 4, 2, []) := rd_look_of LL_103 rfl
theorem L_103_29 : rd_look 103 29 = some (53, .iconst 0, 1, []) := rd_look_of LL_103 rfl
theorem L_103_30 : rd_look 103 30 = some (54, .invokevirtual 37, 3, [51, 2, 80, 4]) := rd_look_of LL_103 rfl
theorem L_103_31 : rd_look 103 31 = some (57, .invokevirtual 41, 3, [93, 1, 81, 8]) := rd_look_of LL_103 rfl
theorem L_103_32 : rd_look 103 32 = some (60, .ifCond .eq 11, 3, [38]) := rd_look_of LL_103 rfl
theorem L_103_33 : rd_look 103 33 = some (63, .aload_n 0, 1, []) := rd_look_of LL_103 rfl
theorem L_103_34 : rd_look 103 34 = some (64, .iconst 4, 1, []) := rd_look_of LL_103 rfl
theorem L_103_35 : rd_look 103 35 = some (65, .iload 4, 2, []) := rd_look_of LL_103 rfl
theorem L_103_36 : rd_look 103 36 = some (67, .iconst 0, 1, []) := rd_look_of LL_103 rfl
theorem L_103_37 : rd_look 103 37 = some (68, .invokevirtual 46, 3, [106, 3, 82, 10]) := rd_look_of LL_103 rfl
theorem L_103_38 : rd_look 103 38 = some (71, .iload 6, 2, []) := rd_look_of LL_103 rfl
theorem L_103_39 : rd_look 103 39 = some (73, .iconst 2, 1, []) := rd_look_of LL_103 rfl
theorem L_103_40 : rd_look 103 40 = some (74, .if_icmp .ne 11, 3, [46]) := rd_look_of LL_103 rfl
theorem L_103_41 : rd_look 103 41 = some (77, .aload_n 0, 1, []) := rd_look_of LL_103 rfl
theorem L_103_42 : rd_look 103 42 = some (78, .iconst 5, 1, []) := rd_look_of LL_103 rfl
theorem L_103_43 : rd_look 103 43 = some (79, .iload 4, 2, []) := rd_look_of LL_103 rfl
theorem L_103_44 : rd_look 103 44 = some (81, .iconst 0, 1, []) := rd_look_of LL_103 rfl
theorem L_103_45 : rd_look 103 45 = some (82, .invokevirtual 46, 3, [106, 3, 82, 10]) := rd_look_of LL_103 rfl
theorem L_103_46 : rd_look 103 46 = some (85, .iload 5, 2, []) := rd_look_of LL_103 rfl
theorem L_103_47 : rd_look 103 47 = some (87, .ifCond .ne 18, 3, [56]) := rd_look_of LL_103 rfl
theorem L_103_48 : rd_look 103 48 = some (90, .iload 6, 2, []) := rd_look_of LL_103 rfl
theorem L_103_49 : rd_look 103 49 = some (92, .iconst 3, 1, []) := rd_look_of LL_103 rfl
theorem L_103_50 : rd_look 103 50 = some (93, .if_icmp .ne 12, 3, [56]) := rd_look_of LL_103 rfl
theorem L_103_51 : rd_look 103 51 = some (96, .aload_n 0, 1, []) := rd_look_of LL_103 rfl
theorem L_103_52 : rd_look 103 52 = some (97, .bipush 6, 2, []) := rd_look_of LL_103 rfl
theorem L_103_53 : rd_look 103 53 = some (99, .iload 4, 2, []) := rd_look_of LL_103 rfl
theorem L_103_54 : rd_look 103 54 = some (101, .iconst 0, 1, []) := rd_look_of LL_103 rfl
theorem L_103_55 : rd_look 103 55 = some (102, .invokevirtual 46, 3, [106, 3, 82, 10]) := rd_look_of LL_103 rfl
theorem L_103_56 : rd_look 103 56 = some (105, .iinc 4 1, 3, []) := rd_look_of LL_103 rfl
theorem L_103_57 : rd_look 103 57 = some (108, .goto (-90), 3, [11]) := rd_look_of LL_103 rfl
theorem L_103_58 : rd_look 103 58 = some (111, .return_, 1, []) := rd_look_of LL_103 rfl
theorem L_104_0 : rd_look 104 0 = some (0, .iconst 0, 1, []) := rd_look_of LL_104 rfl
theorem L_104_1 : rd_look 104 1 = some (1, .istore_n 2, 1, []) := rd_look_of LL_104 rfl
theorem L_104_2 : rd_look 104 2 = some (2, .iload_n 2, 1, []) := rd_look_of LL_104 rfl
theorem L_104_3 : rd_look 104 3 = some (3, .aload_n 1, 1, []) := rd_look_of LL_104 rfl
theorem L_104_4 : rd_look 104 4 = some (4, .getfield 50, 3, [2, 0, 86]) := rd_look_of LL_104 rfl
theorem L_104_5 : rd_look 104 5 = some (7, .invokevirtual 54, 3, [55, 0, 83, 5]) := rd_look_of LL_104 rfl
theorem L_104_6 : rd_look 104 6 = some (10, .if_icmp .ge 50, 3, [32]) := rd_look_of LL_104 rfl
theorem L_104_7 : rd_look 104 7 = some (13, .aload_n 1, 1, []) := rd_look_of LL_104 rfl
theorem L_104_8 : rd_look 104 8 = some (14, .iload_n 2, 1, []) := rd_look_of LL_104 rfl
theorem L_104_9 : rd_look 104 9 = some (15, .invokevirtual 57, 3, [28, 1, 84, 2]) := rd_look_of LL_104 rfl
theorem L_104_10 : rd_look 104 10 = some (18, .ifCond .eq 17, 3, [19]) := rd_look_of LL_104 rfl
theorem L_104_11 : rd_look 104 11 = some (21, .aload_n 0, 1, []) := rd_look_of LL_104 rfl
theorem L_104_12 : rd_look 104 12 = some (22, .iconst 1, 1, []) := rd_look_of LL_104 rfl
theorem L_104_13 : rd_look 104 13 = some (23, .iload_n 2, 1, []) := rd_look_of LL_104 rfl
theorem L_104_14 : rd_look 104 14 = some (24, .aload_n 1, 1, []) := rd_look_of LL_104 rfl
theorem L_104_15 : rd_look 104 15 = some (25, .iload_n 2, 1, []) := rd_look_of LL_104 rfl
theorem L_104_16 : rd_look 104 16 = some (26, .invokevirtual 60, 3, [27, 1, 85, 2]) := rd_look_of LL_104 rfl
theorem L_104_17 : rd_look 104 17 = some (29, .invokevirtual 46, 3, [106, 3, 82, 10]) := rd_look_of LL_104 rfl
theorem L_104_18 : rd_look 104 18 = some (32, .goto 22, 3, [30]) := rd_look_of LL_104 rfl
theorem L_104_19 : rd_look 104 19 = some (35, .aload_n 1, 1, []) := rd_look_of LL_104 rfl
theorem L_104_20 : rd_look 104 20 = some (36, .iload_n 2, 1, []) := rd_look_of LL_104 rfl
theorem L_104_21 : rd_look 104 21 = some (37, .invokevirtual 64, 3, [29, 1, 86, 2]) := rd_look_of LL_104 rfl
theorem L_104_22 : rd_look 104 22 = some (40, .ifCond .eq 14, 3, [30]) := rd_look_of LL_104 rfl
theorem L_104_23 : rd_look 104 23 = some (43, .aload_n 0, 1, []) := rd_look_of LL_104 rfl
theorem L_104_24 : rd_look 104 24 = some (44, .iconst 2, 1, []) := rd_look_of LL_104 rfl
theorem L_104_25 : rd_look 104 25 = some (45, .iload_n 2, 1, []) := rd_look_of LL_104 rfl
theorem L_104_26 : rd_look 104 26 = some (46, .aload_n 1, 1, []) := rd_look_of LL_104 rfl
theorem L_104_27 : rd_look 104 27 = some (47, .iload_n 2, 1, []) := rd_look_of LL_104 rfl
theorem L_104_28 : rd_look 104 28 = some (48, .invokevirtual 60, 3, [27, 1, 85, 2]) := rd_look_of LL_104 rfl
theorem L_104_29 : rd_look 104 29 = some (51, .invokevirtual 46, 3, [106, 3, 82, 10]) := rd_look_of LL_104 rfl
theorem L_104_30 : rd_look 104 30 = some (54, .iinc 2 1, 3, []) := rd_look_of LL_104 rfl
theorem L_104_31 : rd_look 104 31 = some (57, .goto (-55), 3, [2]) := rd_look_of LL_104 rfl
theorem L_104_32 : rd_look 104 32 = some (60, .return_, 1, []) := rd_look_of LL_104 rfl
theorem L_105_0 : rd_look 105 0 = some (0, .iconst 0, 1, []) := rd_look_of LL_105 rfl
theorem L_105_1 : rd_look 105 1 = some (1, .istore_n 2, 1, []) := rd_look_of LL_105 rfl
theorem L_105_2 : rd_look 105 2 = some (2, .iload_n 2, 1, []) := rd_look_of LL_105 rfl
theorem L_105_3 : rd_look 105 3 = some (3, .aload_n 1, 1, []) := rd_look_of LL_105 rfl
theorem L_105_4 : rd_look 105 4 = some (4, .invokevirtual 67, 3, [22, 0, 87, 2]) := rd_look_of LL_105 rfl
theorem L_105_5 : rd_look 105 5 = some (7, .if_icmp .ge 27, 3, [20]) := rd_look_of LL_105 rfl
theorem L_105_6 : rd_look 105 6 = some (10, .aload_n 1, 1, []) := rd_look_of LL_105 rfl
theorem L_105_7 : rd_look 105 7 = some (11, .iload_n 2, 1, []) := rd_look_of LL_105 rfl
theorem L_105_8 : rd_look 105 8 = some (12, .invokevirtual 70, 3, [31, 1, 88, 2]) := rd_look_of LL_105 rfl
theorem L_105_9 : rd_look 105 9 = some (15, .istore_n 3, 1, []) := rd_look_of LL_105 rfl
theorem L_105_10 : rd_look 105 10 = some (16, .iload_n 3, 1, []) := rd_look_of LL_105 rfl
theorem L_105_11 : rd_look 105 11 = some (17, .iconst (-1), 1, []) := rd_look_of LL_105 rfl
theorem L_105_12 : rd_look 105 12 = some (18, .if_icmp .eq 10, 3, [18]) := rd_look_of LL_105 rfl
theorem L_105_13 : rd_look 105 13 = some (21, .aload_n 0, 1, []) := rd_look_of LL_105 rfl
theorem L_105_14 : rd_look 105 14 = some (22, .iconst 3, 1, []) := rd_look_of LL_105 rfl
theorem L_105_15 : rd_look 105 15 = some (23, .iload_n 2, 1, []) := rd_look_of LL_105 rfl
theorem L_105_16 : rd_look 105 16 = some (24, .iload_n 3, 1, []) := rd_look_of LL_105 rfl
theorem L_105_17 : rd_look 105 17 = some (25, .invokevirtual 46, 3, [106, 3, 82, 10]) := rd_look_of LL_105 rfl
theorem L_105_18 : rd_look 105 18 = some (28, .iinc 2 1, 3, []) := rd_look_of LL_105 rfl
theorem L_105_19 : rd_look 105 19 = some (31, .goto (-29), 3, [2]) := rd_look_of LL_105 rfl
theorem L_105_20 : rd_look 105 20 = some (34, .return_, 1, []) := rd_look_of LL_105 rfl
theorem L_106_0 : rd_look 106 0 = some (0, .aload_n 0, 1, []) := rd_look_of LL_106 rfl
theorem L_106_1 : rd_look 106 1 = some (1, .getfield 15, 3, [10, 1, 85]) := rd_look_of LL_106 rfl
theorem L_106_2 : rd_look 106 2 = some (4, .bipush 60, 2, []) := rd_look_of LL_106 rfl
theorem L_106_3 : rd_look 106 3 = some (6, .if_icmp .lt 4, 3, [5]) := rd_look_of LL_106 rfl
theorem L_106_4 : rd_look 106 4 = some (9, .return_, 1, []) := rd_look_of LL_106 rfl
theorem L_106_5 : rd_look 106 5 = some (10, .aload_n 0, 1, []) := rd_look_of LL_106 rfl
theorem L_106_6 : rd_look 106 6 = some (11, .getfield 15, 3, [10, 1, 85]) := rd_look_of LL_106 rfl
theorem L_106_7 : rd_look 106 7 = some (14, .iconst 3, 1, []) := rd_look_of LL_106 rfl
theorem L_106_8 : rd_look 106 8 = some (15, .imul, 1, []) := rd_look_of LL_106 rfl
theorem L_106_9 : rd_look 106 9 = some (16, .istore 4, 2, []) := rd_look_of LL_106 rfl
theorem L_106_10 : rd_look 106 10 = some (18, .aload_n 0, 1, []) := rd_look_of LL_106 rfl
theorem L_106_11 : rd_look 106 11 = some (19, .getfield 11, 3, [10, 0, 84]) := rd_look_of LL_106 rfl
theorem L_106_12 : rd_look 106 12 = some (22, .iload 4, 2, []) := rd_look_of LL_106 rfl
theorem L_106_13 : rd_look 106 13 = some (24, .iload_n 1, 1, []) := rd_look_of LL_106 rfl
theorem L_106_14 : rd_look 106 14 = some (25, .iastore, 1, []) := rd_look_of LL_106 rfl
theorem L_106_15 : rd_look 106 15 = some (26, .aload_n 0, 1, []) := rd_look_of LL_106 rfl
theorem L_106_16 : rd_look 106 16 = some (27, .getfield 11, 3, [10, 0, 84]) := rd_look_of LL_106 rfl
theorem L_106_17 : rd_look 106 17 = some (30, .iload 4, 2, []) := rd_look_of LL_106 rfl
theorem L_106_18 : rd_look 106 18 = some (32, .iconst 1, 1, []) := rd_look_of LL_106 rfl
theorem L_106_19 : rd_look 106 19 = some (33, .iadd, 1, []) := rd_look_of LL_106 rfl
theorem L_106_20 : rd_look 106 20 = some (34, .iload_n 2, 1, []) := rd_look_of LL_106 rfl
theorem L_106_21 : rd_look 106 21 = some (35, .iastore, 1, []) := rd_look_of LL_106 rfl
theorem L_106_22 : rd_look 106 22 = some (36, .aload_n 0, 1, []) := rd_look_of LL_106 rfl
theorem L_106_23 : rd_look 106 23 = some (37, .getfield 11, 3, [10, 0, 84]) := rd_look_of LL_106 rfl
theorem L_106_24 : rd_look 106 24 = some (40, .iload 4, 2, []) := rd_look_of LL_106 rfl
theorem L_106_25 : rd_look 106 25 = some (42, .iconst 2, 1, []) := rd_look_of LL_106 rfl
theorem L_106_26 : rd_look 106 26 = some (43, .iadd, 1, []) := rd_look_of LL_106 rfl
theorem L_106_27 : rd_look 106 27 = some (44, .iload_n 3, 1, []) := rd_look_of LL_106 rfl
theorem L_106_28 : rd_look 106 28 = some (45, .iastore, 1, []) := rd_look_of LL_106 rfl
theorem L_106_29 : rd_look 106 29 = some (46, .aload_n 0, 1, []) := rd_look_of LL_106 rfl
theorem L_106_30 : rd_look 106 30 = some (47, .dup, 1, []) := rd_look_of LL_106 rfl
theorem L_106_31 : rd_look 106 31 = some (48, .getfield 15, 3, [10, 1, 85]) := rd_look_of LL_106 rfl
theorem L_106_32 : rd_look 106 32 = some (51, .iconst 1, 1, []) := rd_look_of LL_106 rfl
theorem L_106_33 : rd_look 106 33 = some (52, .iadd, 1, []) := rd_look_of LL_106 rfl
theorem L_106_34 : rd_look 106 34 = some (53, .putfield 15, 3, [10, 1, 85, 0]) := rd_look_of LL_106 rfl
theorem L_106_35 : rd_look 106 35 = some (56, .return_, 1, []) := rd_look_of LL_106 rfl
theorem L_108_0 : rd_look 108 0 = some (0, .iload_n 1, 1, []) := rd_look_of LL_108 rfl
theorem L_108_1 : rd_look 108 1 = some (1, .iconst (-1), 1, []) := rd_look_of LL_108 rfl
theorem L_108_2 : rd_look 108 2 = some (2, .if_icmp .eq 16, 3, [10]) := rd_look_of LL_108 rfl
theorem L_108_3 : rd_look 108 3 = some (5, .aload_n 0, 1, []) := rd_look_of LL_108 rfl
theorem L_108_4 : rd_look 108 4 = some (6, .getfield 10, 3, [11, 0, 87]) := rd_look_of LL_108 rfl
theorem L_108_5 : rd_look 108 5 = some (9, .iload_n 1, 1, []) := rd_look_of LL_108 rfl
theorem L_108_6 : rd_look 108 6 = some (10, .invokevirtual 87, 3, [34, 1, 100, 3]) := rd_look_of LL_108 rfl
theorem L_108_7 : rd_look 108 7 = some (13, .ifCond .ne 5, 3, [10]) := rd_look_of LL_108 rfl
theorem L_108_8 : rd_look 108 8 = some (16, .iconst (-1), 1, []) := rd_look_of LL_108 rfl
theorem L_108_9 : rd_look 108 9 = some (17, .ireturn, 1, []) := rd_look_of LL_108 rfl
theorem L_108_10 : rd_look 108 10 = some (18, .aload_n 0, 1, []) := rd_look_of LL_108 rfl
theorem L_108_11 : rd_look 108 11 = some (19, .getfield 10, 3, [11, 0, 87]) := rd_look_of LL_108 rfl
theorem L_108_12 : rd_look 108 12 = some (22, .iload_n 1, 1, []) := rd_look_of LL_108 rfl
theorem L_108_13 : rd_look 108 13 = some (23, .invokevirtual 91, 3, [35, 1, 101, 3]) := rd_look_of LL_108 rfl
theorem L_108_14 : rd_look 108 14 = some (26, .ireturn, 1, []) := rd_look_of LL_108 rfl
theorem L_109_0 : rd_look 109 0 = some (0, .aload_n 0, 1, []) := rd_look_of LL_109 rfl
theorem L_109_1 : rd_look 109 1 = some (1, .getfield 10, 3, [11, 0, 87]) := rd_look_of LL_109 rfl
theorem L_109_2 : rd_look 109 2 = some (4, .iload_n 1, 1, []) := rd_look_of LL_109 rfl
theorem L_109_3 : rd_look 109 3 = some (5, .invokevirtual 87, 3, [34, 1, 100, 3]) := rd_look_of LL_109 rfl
theorem L_109_4 : rd_look 109 4 = some (8, .ifCond .eq 23, 3, [17]) := rd_look_of LL_109 rfl
theorem L_109_5 : rd_look 109 5 = some (11, .iload_n 2, 1, []) := rd_look_of LL_109 rfl
theorem L_109_6 : rd_look 109 6 = some (12, .ifCond .lt 19, 3, [17]) := rd_look_of LL_109 rfl
theorem L_109_7 : rd_look 109 7 = some (15, .iload_n 2, 1, []) := rd_look_of LL_109 rfl
theorem L_109_8 : rd_look 109 8 = some (16, .iconst 3, 1, []) := rd_look_of LL_109 rfl
theorem L_109_9 : rd_look 109 9 = some (17, .if_icmp .gt 14, 3, [17]) := rd_look_of LL_109 rfl
theorem L_109_10 : rd_look 109 10 = some (20, .iload_n 3, 1, []) := rd_look_of LL_109 rfl
theorem L_109_11 : rd_look 109 11 = some (21, .ifCond .lt 10, 3, [17]) := rd_look_of LL_109 rfl
theorem L_109_12 : rd_look 109 12 = some (24, .iload_n 3, 1, []) := rd_look_of LL_109 rfl
theorem L_109_13 : rd_look 109 13 = some (25, .iconst 1, 1, []) := rd_look_of LL_109 rfl
theorem L_109_14 : rd_look 109 14 = some (26, .iload_n 2, 1, []) := rd_look_of LL_109 rfl
theorem L_109_15 : rd_look 109 15 = some (27, .ishl, 1, []) := rd_look_of LL_109 rfl
theorem L_109_16 : rd_look 109 16 = some (28, .if_icmp .lt 5, 3, [19]) := rd_look_of LL_109 rfl
theorem L_109_17 : rd_look 109 17 = some (31, .iconst (-1), 1, []) := rd_look_of LL_109 rfl
theorem L_109_18 : rd_look 109 18 = some (32, .ireturn, 1, []) := rd_look_of LL_109 rfl
theorem L_109_19 : rd_look 109 19 = some (33, .iload 4, 2, []) := rd_look_of LL_109 rfl
theorem L_109_20 : rd_look 109 20 = some (35, .ifCond .lt 22, 3, [29]) := rd_look_of LL_109 rfl
theorem L_109_21 : rd_look 109 21 = some (38, .iload 4, 2, []) := rd_look_of LL_109 rfl
theorem L_109_22 : rd_look 109 22 = some (40, .iconst 2, 1, []) := rd_look_of LL_109 rfl
theorem L_109_23 : rd_look 109 23 = some (41, .if_icmp .gt 16, 3, [29]) := rd_look_of LL_109 rfl
theorem L_109_24 : rd_look 109 24 = some (44, .iload 5, 2, []) := rd_look_of LL_109 rfl
theorem L_109_25 : rd_look 109 25 = some (46, .ifCond .lt 11, 3, [29]) := rd_look_of LL_109 rfl
theorem L_109_26 : rd_look 109 26 = some (49, .iload 5, 2, []) := rd_look_of LL_109 rfl
theorem L_109_27 : rd_look 109 27 = some (51, .sipush 255, 3, []) := rd_look_of LL_109 rfl
theorem L_109_28 : rd_look 109 28 = some (54, .if_icmp .le 5, 3, [31]) := rd_look_of LL_109 rfl
theorem L_109_29 : rd_look 109 29 = some (57, .iconst (-1), 1, []) := rd_look_of LL_109 rfl
theorem L_109_30 : rd_look 109 30 = some (58, .ireturn, 1, []) := rd_look_of LL_109 rfl
theorem L_109_31 : rd_look 109 31 = some (59, .aload_n 0, 1, []) := rd_look_of LL_109 rfl
theorem L_109_32 : rd_look 109 32 = some (60, .getfield 10, 3, [11, 0, 87]) := rd_look_of LL_109 rfl
theorem L_109_33 : rd_look 109 33 = some (63, .iload_n 1, 1, []) := rd_look_of LL_109 rfl
theorem L_109_34 : rd_look 109 34 = some (64, .invokevirtual 95, 3, [37, 1, 102, 3]) := rd_look_of LL_109 rfl
theorem L_109_35 : rd_look 109 35 = some (67, .ifCond .eq 6, 3, [38]) := rd_look_of LL_109 rfl
theorem L_109_36 : rd_look 109 36 = some (70, .bipush (-2), 2, []) := rd_look_of LL_109 rfl
theorem L_109_37 : rd_look 109 37 = some (72, .ireturn, 1, []) := rd_look_of LL_109 rfl
theorem L_109_38 : rd_look 109 38 = some (73, .aload_n 0, 1, []) := rd_look_of LL_109 rfl
theorem L_109_39 : rd_look 109 39 = some (74, .getfield 10, 3, [11, 0, 87]) := rd_look_of LL_109 rfl
theorem L_109_40 : rd_look 109 40 = some (77, .iload_n 1, 1, []) := rd_look_of LL_109 rfl
theorem L_109_41 : rd_look 109 41 = some (78, .iload_n 2, 1, []) := rd_look_of LL_109 rfl
theorem L_109_42 : rd_look 109 42 = some (79, .iload_n 3, 1, []) := rd_look_of LL_109 rfl
theorem L_109_43 : rd_look 109 43 = some (80, .iload 4, 2, []) := rd_look_of LL_109 rfl
theorem L_109_44 : rd_look 109 44 = some (82, .iload 5, 2, []) := rd_look_of LL_109 rfl
theorem L_109_45 : rd_look 109 45 = some (84, .invokevirtual 98, 3, [39, 5, 103, 3]) := rd_look_of LL_109 rfl
theorem L_109_46 : rd_look 109 46 = some (87, .ireturn, 1, []) := rd_look_of LL_109 rfl
theorem L_110_0 : rd_look 110 0 = some (0, .aload_n 0, 1, []) := rd_look_of LL_110 rfl
theorem L_110_1 : rd_look 110 1 = some (1, .getfield 10, 3, [11, 0, 87]) := rd_look_of LL_110 rfl
theorem L_110_2 : rd_look 110 2 = some (4, .iload_n 1, 1, []) := rd_look_of LL_110 rfl
theorem L_110_3 : rd_look 110 3 = some (5, .invokevirtual 87, 3, [34, 1, 100, 3]) := rd_look_of LL_110 rfl
theorem L_110_4 : rd_look 110 4 = some (8, .ifCond .eq 14, 3, [11]) := rd_look_of LL_110 rfl
theorem L_110_5 : rd_look 110 5 = some (11, .iload_n 2, 1, []) := rd_look_of LL_110 rfl
theorem L_110_6 : rd_look 110 6 = some (12, .iconst (-1), 1, []) := rd_look_of LL_110 rfl
theorem L_110_7 : rd_look 110 7 = some (13, .if_icmp .lt 9, 3, [11]) := rd_look_of LL_110 rfl
theorem L_110_8 : rd_look 110 8 = some (16, .iload_n 2, 1, []) := rd_look_of LL_110 rfl
theorem L_110_9 : rd_look 110 9 = some (17, .bipush 6, 2, []) := rd_look_of LL_110 rfl
theorem L_110_10 : rd_look 110 10 = some (19, .if_icmp .lt 5, 3, [13]) := rd_look_of LL_110 rfl
theorem L_110_11 : rd_look 110 11 = some (22, .iconst (-1), 1, []) := rd_look_of LL_110 rfl
theorem L_110_12 : rd_look 110 12 = some (23, .ireturn, 1, []) := rd_look_of LL_110 rfl
theorem L_110_13 : rd_look 110 13 = some (24, .aload_n 0, 1, []) := rd_look_of LL_110 rfl
theorem L_110_14 : rd_look 110 14 = some (25, .getfield 21, 3, [11, 1, 88]) := rd_look_of LL_110 rfl
theorem L_110_15 : rd_look 110 15 = some (28, .iload_n 1, 1, []) := rd_look_of LL_110 rfl
theorem L_110_16 : rd_look 110 16 = some (29, .iload_n 2, 1, []) := rd_look_of LL_110 rfl
theorem L_110_17 : rd_look 110 17 = some (30, .invokevirtual 102, 3, [89, 2, 104, 8]) := rd_look_of LL_110 rfl
theorem L_110_18 : rd_look 110 18 = some (33, .ireturn, 1, []) := rd_look_of LL_110 rfl
theorem L_111_0 : rd_look 111 0 = some (0, .aload_n 0, 1, []) := rd_look_of LL_111 rfl
theorem L_111_1 : rd_look 111 1 = some (1, .getfield 21, 3, [11, 1, 88]) := rd_look_of LL_111 rfl
theorem L_111_2 : rd_look 111 2 = some (4, .iload_n 1, 1, []) := rd_look_of LL_111 rfl
theorem L_111_3 : rd_look 111 3 = some (5, .invokevirtual 105, 3, [88, 1, 105, 8]) := rd_look_of LL_111 rfl
theorem L_111_4 : rd_look 111 4 = some (8, .ifCond .eq 14, 3, [10]) := rd_look_of LL_111 rfl
theorem L_111_5 : rd_look 111 5 = some (11, .aload_n 0, 1, []) := rd_look_of LL_111 rfl
theorem L_111_6 : rd_look 111 6 = some (12, .getfield 10, 3, [11, 0, 87]) := rd_look_of LL_111 rfl
theorem L_111_7 : rd_look 111 7 = some (15, .iload_n 2, 1, []) := rd_look_of LL_111 rfl
theorem L_111_8 : rd_look 111 8 = some (16, .invokevirtual 87, 3, [34, 1, 100, 3]) := rd_look_of LL_111 rfl
theorem L_111_9 : rd_look 111 9 = some (19, .ifCond .ne 5, 3, [12]) := rd_look_of LL_111 rfl
theorem L_111_10 : rd_look 111 10 = some (22, .iconst (-1), 1, []) := rd_look_of LL_111 rfl
theorem L_111_11 : rd_look 111 11 = some (23, .ireturn, 1, []) := rd_look_of LL_111 rfl
theorem L_111_12 : rd_look 111 12 = some (24, .aload_n 0, 1, []) := rd_look_of LL_111 rfl
theorem L_111_13 : rd_look 111 13 = some (25, .getfield 21, 3, [11, 1, 88]) := rd_look_of LL_111 rfl
theorem L_111_14 : rd_look 111 14 = some (28, .iload_n 1, 1, []) := rd_look_of LL_111 rfl
theorem L_111_15 : rd_look 111 15 = some (29, .iload_n 2, 1, []) := rd_look_of LL_111 rfl
theorem L_111_16 : rd_look 111 16 = some (30, .invokevirtual 106, 3, [90, 2, 106, 8]) := rd_look_of LL_111 rfl
theorem L_111_17 : rd_look 111 17 = some (33, .ifCond .eq 7, 3, [20]) := rd_look_of LL_111 rfl
theorem L_111_18 : rd_look 111 18 = some (36, .iconst 1, 1, []) := rd_look_of LL_111 rfl
theorem L_111_19 : rd_look 111 19 = some (37, .goto 4, 3, [21]) := rd_look_of LL_111 rfl
theorem L_111_20 : rd_look 111 20 = some (40, .iconst 0, 1, []) := rd_look_of LL_111 rfl
theorem L_111_21 : rd_look 111 21 = some (41, .ireturn, 1, []) := rd_look_of LL_111 rfl
theorem L_112_0 : rd_look 112 0 = some (0, .iload_n 1, 1, []) := rd_look_of LL_112 rfl
theorem L_112_1 : rd_look 112 1 = some (1, .ifCond .lt 9, 3, [5]) := rd_look_of LL_112 rfl
theorem L_112_2 : rd_look 112 2 = some (4, .iload_n 1, 1, []) := rd_look_of LL_112 rfl
theorem L_112_3 : rd_look 112 3 = some (5, .bipush 6, 2, []) := rd_look_of LL_112 rfl
theorem L_112_4 : rd_look 112 4 = some (7, .if_icmp .lt 5, 3, [7]) := rd_look_of LL_112 rfl
theorem L_112_5 : rd_look 112 5 = some (10, .iconst (-1), 1, []) := rd_look_of LL_112 rfl
theorem L_112_6 : rd_look 112 6 = some (11, .ireturn, 1, []) := rd_look_of LL_112 rfl
theorem L_112_7 : rd_look 112 7 = some (12, .aload_n 0, 1, []) := rd_look_of LL_112 rfl
theorem L_112_8 : rd_look 112 8 = some (13, .getfield 51, 3, [11, 4, 91]) := rd_look_of LL_112 rfl
theorem L_112_9 : rd_look 112 9 = some (16, .getfield 110, 3, [7, 5, 96]) := rd_look_of LL_112 rfl
theorem L_112_10 : rd_look 112 10 = some (19, .iload_n 1, 1, []) := rd_look_of LL_112 rfl
theorem L_112_11 : rd_look 112 11 = some (20, .iaload, 1, []) := rd_look_of LL_112 rfl
theorem L_112_12 : rd_look 112 12 = some (21, .ireturn, 1, []) := rd_look_of LL_112 rfl
theorem L_113_0 : rd_look 113 0 = some (0, .aload_n 0, 1, []) := rd_look_of LL_113 rfl
theorem L_113_1 : rd_look 113 1 = some (1, .getfield 21, 3, [11, 1, 88]) := rd_look_of LL_113 rfl
theorem L_113_2 : rd_look 113 2 = some (4, .iload_n 1, 1, []) := rd_look_of LL_113 rfl
theorem L_113_3 : rd_look 113 3 = some (5, .iload_n 2, 1, []) := rd_look_of LL_113 rfl
theorem L_113_4 : rd_look 113 4 = some (6, .invokevirtual 114, 3, [92, 2, 107, 8]) := rd_look_of LL_113 rfl
theorem L_113_5 : rd_look 113 5 = some (9, .istore_n 3, 1, []) := rd_look_of LL_113 rfl
theorem L_113_6 : rd_look 113 6 = some (10, .iload_n 3, 1, []) := rd_look_of LL_113 rfl
theorem L_113_7 : rd_look 113 7 = some (11, .iconst (-1), 1, []) := rd_look_of LL_113 rfl
theorem L_113_8 : rd_look 113 8 = some (12, .if_icmp .ne 5, 3, [11]) := rd_look_of LL_113 rfl
theorem L_113_9 : rd_look 113 9 = some (15, .iconst (-1), 1, []) := rd_look_of LL_113 rfl
theorem L_113_10 : rd_look 113 10 = some (16, .ireturn, 1, []) := rd_look_of LL_113 rfl
theorem L_113_11 : rd_look 113 11 = some (17, .aload_n 0, 1, []) := rd_look_of LL_113 rfl
theorem L_113_12 : rd_look 113 12 = some (18, .getfield 35, 3, [11, 2, 89]) := rd_look_of LL_113 rfl
theorem L_113_13 : rd_look 113 13 = some (21, .getfield 117, 3, [6, 0, 97]) := rd_look_of LL_113 rfl
theorem L_113_14 : rd_look 113 14 = some (24, .iload_n 1, 1, []) := rd_look_of LL_113 rfl
theorem L_113_15 : rd_look 113 15 = some (25, .iload_n 2, 1, []) := rd_look_of LL_113 rfl
theorem L_113_16 : rd_look 113 16 = some (26, .iload_n 3, 1, []) := rd_look_of LL_113 rfl
theorem L_113_17 : rd_look 113 17 = some (27, .invokevirtual 121, 3, [57, 3, 108, 5]) := rd_look_of LL_113 rfl
theorem L_113_18 : rd_look 113 18 = some (30, .ireturn, 1, []) := rd_look_of LL_113 rfl
theorem L_114_0 : rd_look 114 0 = some (0, .aload_n 0, 1, []) := rd_look_of LL_114 rfl
theorem L_114_1 : rd_look 114 1 = some (1, .getfield 35, 3, [11, 2, 89]) := rd_look_of LL_114 rfl
theorem L_114_2 : rd_look 114 2 = some (4, .getfield 117, 3, [6, 0, 97]) := rd_look_of LL_114 rfl
theorem L_114_3 : rd_look 114 3 = some (7, .iload_n 1, 1, []) := rd_look_of LL_114 rfl
theorem L_114_4 : rd_look 114 4 = some (8, .iload_n 2, 1, []) := rd_look_of LL_114 rfl
theorem L_114_5 : rd_look 114 5 = some (9, .iload_n 3, 1, []) := rd_look_of LL_114 rfl
theorem L_114_6 : rd_look 114 6 = some (10, .iload 4, 2, []) := rd_look_of LL_114 rfl
theorem L_114_7 : rd_look 114 7 = some (12, .iload 5, 2, []) := rd_look_of LL_114 rfl
theorem L_114_8 : rd_look 114 8 = some (14, .invokevirtual 124, 3, [61, 5, 109, 5]) := rd_look_of LL_114 rfl
theorem L_114_9 : rd_look 114 9 = some (17, .istore 6, 2, []) := rd_look_of LL_114 rfl
theorem L_114_10 : rd_look 114 10 = some (19, .iload 6, 2, []) := rd_look_of LL_114 rfl
theorem L_114_11 : rd_look 114 11 = some (21, .iconst (-1), 1, []) := rd_look_of LL_114 rfl
theorem L_114_12 : rd_look 114 12 = some (22, .if_icmp .eq 12, 3, [18]) := rd_look_of LL_114 rfl
theorem L_114_13 : rd_look 114 13 = some (25, .aload_n 0, 1, []) := rd_look_of LL_114 rfl
theorem L_114_14 : rd_look 114 14 = some (26, .getfield 35, 3, [11, 2, 89]) := rd_look_of LL_114 rfl
theorem L_114_15 : rd_look 114 15 = some (29, .iload_n 1, 1, []) := rd_look_of LL_114 rfl
theorem L_114_16 : rd_look 114 16 = some (30, .iload_n 2, 1, []) := rd_look_of LL_114 rfl
theorem L_114_17 : rd_look 114 17 = some (31, .invokevirtual 127, 3, [74, 2, 110, 6]) := rd_look_of LL_114 rfl
theorem L_114_18 : rd_look 114 18 = some (34, .iload 6, 2, []) := rd_look_of LL_114 rfl
theorem L_114_19 : rd_look 114 19 = some (36, .ireturn, 1, []) := rd_look_of LL_114 rfl
theorem L_115_0 : rd_look 115 0 = some (0, .aload_n 0, 1, []) := rd_look_of LL_115 rfl
theorem L_115_1 : rd_look 115 1 = some (1, .getfield 35, 3, [11, 2, 89]) := rd_look_of LL_115 rfl
theorem L_115_2 : rd_look 115 2 = some (4, .getfield 117, 3, [6, 0, 97]) := rd_look_of LL_115 rfl
theorem L_115_3 : rd_look 115 3 = some (7, .iload_n 1, 1, []) := rd_look_of LL_115 rfl
theorem L_115_4 : rd_look 115 4 = some (8, .invokevirtual 131, 3, [56, 1, 111, 5]) := rd_look_of LL_115 rfl
theorem L_115_5 : rd_look 115 5 = some (11, .ifCond .eq 16, 3, [13]) := rd_look_of LL_115 rfl
theorem L_115_6 : rd_look 115 6 = some (14, .aload_n 0, 1, []) := rd_look_of LL_115 rfl
theorem L_115_7 : rd_look 115 7 = some (15, .getfield 35, 3, [11, 2, 89]) := rd_look_of LL_115 rfl
theorem L_115_8 : rd_look 115 8 = some (18, .iload_n 1, 1, []) := rd_look_of LL_115 rfl
theorem L_115_9 : rd_look 115 9 = some (19, .iload_n 2, 1, []) := rd_look_of LL_115 rfl
theorem L_115_10 : rd_look 115 10 = some (20, .iload_n 3, 1, []) := rd_look_of LL_115 rfl
theorem L_115_11 : rd_look 115 11 = some (21, .invokevirtual 132, 3, [66, 3, 112, 6]) := rd_look_of LL_115 rfl
theorem L_115_12 : rd_look 115 12 = some (24, .ifCond .ne 5, 3, [15]) := rd_look_of LL_115 rfl
theorem L_115_13 : rd_look 115 13 = some (27, .iconst (-1), 1, []) := rd_look_of LL_115 rfl
theorem L_115_14 : rd_look 115 14 = some (28, .ireturn, 1, []) := rd_look_of LL_115 rfl
theorem L_115_15 : rd_look 115 15 = some (29, .aload_n 0, 1, []) := rd_look_of LL_115 rfl
theorem L_115_16 : rd_look 115 16 = some (30, .getfield 35, 3, [11, 2, 89]) := rd_look_of LL_115 rfl
theorem L_115_17 : rd_look 115 17 = some (33, .iload_n 1, 1, []) := rd_look_of LL_115 rfl
theorem L_115_18 : rd_look 115 18 = some (34, .iload_n 2, 1, []) := rd_look_of LL_115 rfl
theorem L_115_19 : rd_look 115 19 = some (35, .iload_n 3, 1, []) := rd_look_of LL_115 rfl
theorem L_115_20 : rd_look 115 20 = some (36, .invokevirtual 136, 3, [67, 3, 113, 6]) := rd_look_of LL_115 rfl
theorem L_115_21 : rd_look 115 21 = some (39, .ireturn, 1, []) := rd_look_of LL_115 rfl
theorem L_116_0 : rd_look 116 0 = some (0, .aload_n 0, 1, []) := rd_look_of LL_116 rfl
theorem L_116_1 : rd_look 116 1 = some (1, .getfield 35, 3, [11, 2, 89]) := rd_look_of LL_116 rfl
theorem L_116_2 : rd_look 116 2 = some (4, .getfield 117, 3, [6, 0, 97]) := rd_look_of LL_116 rfl
theorem L_116_3 : rd_look 116 3 = some (7, .iload_n 1, 1, []) := rd_look_of LL_116 rfl
theorem L_116_4 : rd_look 116 4 = some (8, .iload_n 2, 1, []) := rd_look_of LL_116 rfl
theorem L_116_5 : rd_look 116 5 = some (9, .invokevirtual 139, 3, [59, 2, 114, 5]) := rd_look_of LL_116 rfl
theorem L_116_6 : rd_look 116 6 = some (12, .ifCond .ne 7, 3, [9]) := rd_look_of LL_116 rfl
theorem L_116_7 : rd_look 116 7 = some (15, .sipush (-1001), 3, []) := rd_look_of LL_116 rfl
theorem L_116_8 : rd_look 116 8 = some (18, .ireturn, 1, []) := rd_look_of LL_116 rfl
theorem L_116_9 : rd_look 116 9 = some (19, .aload_n 0, 1, []) := rd_look_of LL_116 rfl
theorem L_116_10 : rd_look 116 10 = some (20, .getfield 35, 3, [11, 2, 89]) := rd_look_of LL_116 rfl
theorem L_116_11 : rd_look 116 11 = some (23, .iload_n 1, 1, []) := rd_look_of LL_116 rfl
theorem L_116_12 : rd_look 116 12 = some (24, .iload_n 2, 1, []) := rd_look_of LL_116 rfl
theorem L_116_13 : rd_look 116 13 = some (25, .invokevirtual 142, 3, [72, 2, 115, 6]) := rd_look_of LL_116 rfl
theorem L_116_14 : rd_look 116 14 = some (28, .ifCond .eq 15, 3, [21]) := rd_look_of LL_116 rfl
theorem L_116_15 : rd_look 116 15 = some (31, .aload_n 0, 1, []) := rd_look_of LL_116 rfl
theorem L_116_16 : rd_look 116 16 = some (32, .getfield 35, 3, [11, 2, 89]) := rd_look_of LL_116 rfl
theorem L_116_17 : rd_look 116 17 = some (35, .iload_n 1, 1, []) := rd_look_of LL_116 rfl
theorem L_116_18 : rd_look 116 18 = some (36, .iload_n 2, 1, []) := rd_look_of LL_116 rfl
theorem L_116_19 : rd_look 116 19 = some (37, .invokevirtual 145, 3, [73, 2, 116, 6]) := rd_look_of LL_116 rfl
theorem L_116_20 : rd_look 116 20 = some (40, .goto 6, 3, [22]) := rd_look_of LL_116 rfl
theorem L_116_21 : rd_look 116 21 = some (43, .sipush (-1002), 3, []) := rd_look_of LL_116 rfl
theorem L_116_22 : rd_look 116 22 = some (46, .ireturn, 1, []) := rd_look_of LL_116 rfl
theorem L_117_0 : rd_look 117 0 = some (0, .aload_n 0, 1, []) := rd_look_of LL_117 rfl
theorem L_117_1 : rd_look 117 1 = some (1, .getfield 21, 3, [11, 1, 88]) := rd_look_of LL_117 rfl
theorem L_117_2 : rd_look 117 2 = some (4, .iload_n 1, 1, []) := rd_look_of LL_117 rfl
theorem L_117_3 : rd_look 117 3 = some (5, .iload_n 2, 1, []) := rd_look_of LL_117 rfl
theorem L_117_4 : rd_look 117 4 = some (6, .invokevirtual 114, 3, [92, 2, 107, 8]) := rd_look_of LL_117 rfl
theorem L_117_5 : rd_look 117 5 = some (9, .istore 6, 2, []) := rd_look_of LL_117 rfl
theorem L_117_6 : rd_look 117 6 = some (11, .iload 6, 2, []) := rd_look_of LL_117 rfl
theorem L_117_7 : rd_look 117 7 = some (13, .iconst (-1), 1, []) := rd_look_of LL_117 rfl
theorem L_117_8 : rd_look 117 8 = some (14, .if_icmp .ne 5, 3, [11]) := rd_look_of LL_117 rfl
theorem L_117_9 : rd_look 117 9 = some (17, .iconst (-1), 1, []) := rd_look_of LL_117 rfl
theorem L_117_10 : rd_look 117 10 = some (18, .ireturn, 1, []) := rd_look_of LL_117 rfl
theorem L_117_11 : rd_look 117 11 = some (19, .aload_n 0, 1, []) := rd_look_of LL_117 rfl
theorem L_117_12 : rd_look 117 12 = some (20, .iload 6, 2, []) := rd_look_of LL_117 rfl
theorem L_117_13 : rd_look 117 13 = some (22, .iconst 0, 1, []) := rd_look_of LL_117 rfl
theorem L_117_14 : rd_look 117 14 = some (23, .iload_n 3, 1, []) := rd_look_of LL_117 rfl
theorem L_117_15 : rd_look 117 15 = some (24, .invokevirtual 148, 3, [118, 3, 117, 11]) := rd_look_of LL_117 rfl
theorem L_117_16 : rd_look 117 16 = some (27, .ifCond .eq 27, 3, [29]) := rd_look_of LL_117 rfl
theorem L_117_17 : rd_look 117 17 = some (30, .aload_n 0, 1, []) := rd_look_of LL_117 rfl
theorem L_117_18 : rd_look 117 18 = some (31, .iload 6, 2, []) := rd_look_of LL_117 rfl
theorem L_117_19 : rd_look 117 19 = some (33, .iconst 1, 1, []) := rd_look_of LL_117 rfl
theorem L_117_20 : rd_look 117 20 = some (34, .iload 4, 2, []) := rd_look_of LL_117 rfl
theorem L_117_21 : rd_look 117 21 = some (36, .invokevirtual 148, 3, [118, 3, 117, 11]) := rd_look_of LL_117 rfl
theorem L_117_22 : rd_look 117 22 = some (39, .ifCond .eq 15, 3, [29]) := rd_look_of LL_117 rfl
theorem L_117_23 : rd_look 117 23 = some (42, .aload_n 0, 1, []) := rd_look_of LL_117 rfl
theorem L_117_24 : rd_look 117 24 = some (43, .iload 6, 2, []) := rd_look_of LL_117 rfl
theorem L_117_25 : rd_look 117 25 = some (45, .iconst 2, 1, []) := rd_look_of LL_117 rfl
theorem L_117_26 : rd_look 117 26 = some (46, .iload 5, 2, []) := rd_look_of LL_117 rfl
theorem L_117_27 : rd_look 117 27 = some (48, .invokevirtual 148, 3, [118, 3, 117, 11]) := rd_look_of LL_117 rfl
theorem L_117_28 : rd_look 117 28 = some (51, .ifCond .ne 5, 3, [31]) := rd_look_of LL_117 rfl
theorem L_117_29 : rd_look 117 29 = some (54, .iconst (-1), 1, []) := rd_look_of LL_117 rfl
theorem L_117_30 : rd_look 117 30 = some (55, .ireturn, 1, []) := rd_look_of LL_117 rfl
theorem L_117_31 : rd_look 117 31 = some (56, .aload_n 0, 1, []) := rd_look_of LL_117 rfl
theorem L_117_32 : rd_look 117 32 = some (57, .getfield 51, 3, [11, 4, 91]) := rd_look_of LL_117 rfl
theorem L_117_33 : rd_look 117 33 = some (60, .iload_n 1, 1, []) := rd_look_of LL_117 rfl
theorem L_117_34 : rd_look 117 34 = some (61, .iload_n 2, 1, []) := rd_look_of LL_117 rfl
theorem L_117_35 : rd_look 117 35 = some (62, .iload 6, 2, []) := rd_look_of LL_117 rfl
theorem L_117_36 : rd_look 117 36 = some (64, .invokevirtual 151, 3, [77, 3, 118, 7]) := rd_look_of LL_117 rfl
theorem L_117_37 : rd_look 117 37 = some (67, .aload_n 0, 1, []) := rd_look_of LL_117 rfl
theorem L_117_38 : rd_look 117 38 = some (68, .getfield 51, 3, [11, 4, 91]) := rd_look_of LL_117 rfl
theorem L_117_39 : rd_look 117 39 = some (71, .iconst 0, 1, []) := rd_look_of LL_117 rfl
theorem L_117_40 : rd_look 117 40 = some (72, .iload_n 3, 1, []) := rd_look_of LL_117 rfl
theorem L_117_41 : rd_look 117 41 = some (73, .invokevirtual 155, 3, [78, 2, 119, 7]) := rd_look_of LL_117 rfl
theorem L_117_42 : rd_look 117 42 = some (76, .aload_n 0, 1, []) := rd_look_of LL_117 rfl
theorem L_117_43 : rd_look 117 43 = some (77, .getfield 51, 3, [11, 4, 91]) := rd_look_of LL_117 rfl
theorem L_117_44 : rd_look 117 44 = some (80, .iconst 1, 1, []) := rd_look_of LL_117 rfl
theorem L_117_45 : rd_look 117 45 = some (81, .iload 4, 2, []) := rd_look_of LL_117 rfl
theorem L_117_46 : rd_look 117 46 = some (83, .invokevirtual 155, 3, [78, 2, 119, 7]) := rd_look_of LL_117 rfl
theorem L_117_47 : rd_look 117 47 = some (86, .aload_n 0, 1, []) := rd_look_of LL_117 rfl
theorem L_117_48 : rd_look 117 48 = some (87, .getfield 51, 3, [11, 4, 91]) := rd_look_of LL_117 rfl
theorem L_117_49 : rd_look 117 49 = some (90, .iconst 2, 1, []) := rd_look_of LL_117 rfl
theorem L_117_50 : rd_look 117 50 = some (91, .iload 5, 2, []) := rd_look_of LL_117 rfl
theorem L_117_51 : rd_look 117 51 = some (93, .invokevirtual 155, 3, [78, 2, 119, 7]) := rd_look_of LL_117 rfl
theorem L_117_52 : rd_look 117 52 = some (96, .aload_n 0, 1, []) := rd_look_of LL_117 rfl
theorem L_117_53 : rd_look 117 53 = some (97, .getfield 51, 3, [11, 4, 91]) := rd_look_of LL_117 rfl
theorem L_117_54 : rd_look 117 54 = some (100, .invokevirtual 158, 3, [79, 0, 120, 7]) := rd_look_of LL_117 rfl
theorem L_117_55 : rd_look 117 55 = some (103, .aload_n 0, 1, []) := rd_look_of LL_117 rfl
theorem L_117_56 : rd_look 117 56 = some (104, .getfield 42, 3, [11, 3, 90]) := rd_look_of LL_117 rfl
theorem L_117_57 : rd_look 117 57 = some (107, .getfield 161, 3, [4, 1, 98]) := rd_look_of LL_117 rfl
theorem L_117_58 : rd_look 117 58 = some (110, .iconst 5, 1, []) := rd_look_of LL_117 rfl
theorem L_117_59 : rd_look 117 59 = some (111, .iaload, 1, []) := rd_look_of LL_117 rfl
theorem L_117_60 : rd_look 117 60 = some (112, .ireturn, 1, []) := rd_look_of LL_117 rfl
theorem L_118_0 : rd_look 118 0 = some (0, .aload_n 0, 1, []) := rd_look_of LL_118 rfl
theorem L_118_1 : rd_look 118 1 = some (1, .getfield 10, 3, [11, 0, 87]) := rd_look_of LL_118 rfl
theorem L_118_2 : rd_look 118 2 = some (4, .iload_n 1, 1, []) := rd_look_of LL_118 rfl
theorem L_118_3 : rd_look 118 3 = some (5, .iload_n 2, 1, []) := rd_look_of LL_118 rfl
theorem L_118_4 : rd_look 118 4 = some (6, .invokevirtual 164, 3, [44, 2, 121, 3]) := rd_look_of LL_118 rfl
theorem L_118_5 : rd_look 118 5 = some (9, .ifCond .eq 19, 3, [14]) := rd_look_of LL_118 rfl
theorem L_118_6 : rd_look 118 6 = some (12, .iload_n 3, 1, []) := rd_look_of LL_118 rfl
theorem L_118_7 : rd_look 118 7 = some (13, .iconst (-1), 1, []) := rd_look_of LL_118 rfl
theorem L_118_8 : rd_look 118 8 = some (14, .if_icmp .eq 14, 3, [14]) := rd_look_of LL_118 rfl
theorem L_118_9 : rd_look 118 9 = some (17, .aload_n 0, 1, []) := rd_look_of LL_118 rfl
theorem L_118_10 : rd_look 118 10 = some (18, .getfield 21, 3, [11, 1, 88]) := rd_look_of LL_118 rfl
theorem L_118_11 : rd_look 118 11 = some (21, .iload_n 3, 1, []) := rd_look_of LL_118 rfl
theorem L_118_12 : rd_look 118 12 = some (22, .invokevirtual 105, 3, [88, 1, 105, 8]) := rd_look_of LL_118 rfl
theorem L_118_13 : rd_look 118 13 = some (25, .ifCond .eq 7, 3, [16]) := rd_look_of LL_118 rfl
theorem L_118_14 : rd_look 118 14 = some (28, .iconst 1, 1, []) := rd_look_of LL_118 rfl
theorem L_118_15 : rd_look 118 15 = some (29, .goto 4, 3, [17]) := rd_look_of LL_118 rfl
theorem L_118_16 : rd_look 118 16 = some (32, .iconst 0, 1, []) := rd_look_of LL_118 rfl
theorem L_118_17 : rd_look 118 17 = some (33, .ireturn, 1, []) := rd_look_of LL_118 rfl
theorem L_119_0 : rd_look 119 0 = some (0, .aload_n 0, 1, []) := rd_look_of LL_119 rfl
theorem L_119_1 : rd_look 119 1 = some (1, .getfield 42, 3, [11, 3, 90]) := rd_look_of LL_119 rfl
theorem L_119_2 : rd_look 119 2 = some (4, .invokevirtual 167, 3, [48, 0, 122, 4]) := rd_look_of LL_119 rfl
theorem L_119_3 : rd_look 119 3 = some (7, .ifCond .ne 7, 3, [6]) := rd_look_of LL_119 rfl
theorem L_119_4 : rd_look 119 4 = some (10, .sipush (-1001), 3, []) := rd_look_of LL_119 rfl
theorem L_119_5 : rd_look 119 5 = some (13, .ireturn, 1, []) := rd_look_of LL_119 rfl
theorem L_119_6 : rd_look 119 6 = some (14, .iload_n 1, 1, []) := rd_look_of LL_119 rfl
theorem L_119_7 : rd_look 119 7 = some (15, .tableswitch 72 0 3 #[29, 39, 50, 61], 29, [32, 8, 14, 20, 26]) := rd_look_of LL_119 rfl
theorem L_119_8 : rd_look 119 8 = some (44, .aload_n 0, 1, []) := rd_look_of LL_119 rfl
theorem L_119_9 : rd_look 119 9 = some (45, .getfield 42, 3, [11, 3, 90]) := rd_look_of LL_119 rfl
theorem L_119_10 : rd_look 119 10 = some (48, .getfield 161, 3, [4, 1, 98]) := rd_look_of LL_119 rfl
theorem L_119_11 : rd_look 119 11 = some (51, .iconst 5, 1, []) := rd_look_of LL_119 rfl
theorem L_119_12 : rd_look 119 12 = some (52, .iaload, 1, []) := rd_look_of LL_119 rfl
theorem L_119_13 : rd_look 119 13 = some (53, .ireturn, 1, []) := rd_look_of LL_119 rfl
theorem L_119_14 : rd_look 119 14 = some (54, .aload_n 0, 1, []) := rd_look_of LL_119 rfl
theorem L_119_15 : rd_look 119 15 = some (55, .getfield 42, 3, [11, 3, 90]) := rd_look_of LL_119 rfl
theorem L_119_16 : rd_look 119 16 = some (58, .getfield 161, 3, [4, 1, 98]) := rd_look_of LL_119 rfl
theorem L_119_17 : rd_look 119 17 = some (61, .bipush 7, 2, []) := rd_look_of LL_119 rfl
theorem L_119_18 : rd_look 119 18 = some (63, .iaload, 1, []) := rd_look_of LL_119 rfl
theorem L_119_19 : rd_look 119 19 = some (64, .ireturn, 1, []) := rd_look_of LL_119 rfl
theorem L_119_20 : rd_look 119 20 = some (65, .aload_n 0, 1, []) := rd_look_of LL_119 rfl
theorem L_119_21 : rd_look 119 21 = some (66, .getfield 42, 3, [11, 3, 90]) := rd_look_of LL_119 rfl
theorem L_119_22 : rd_look 119 22 = some (69, .getfield 161, 3, [4, 1, 98]) := rd_look_of LL_119 rfl
theorem L_119_23 : rd_look 119 23 = some (72, .bipush 8, 2, []) := rd_look_of LL_119 rfl
theorem L_119_24 : rd_look 119 24 = some (74, .iaload, 1, []) := rd_look_of LL_119 rfl
theorem L_119_25 : rd_look 119 25 = some (75, .ireturn, 1, []) := rd_look_of LL_119 rfl
theorem L_119_26 : rd_look 119 26 = some (76, .aload_n 0, 1, []) := rd_look_of LL_119 rfl
theorem L_119_27 : rd_look 119 27 = some (77, .getfield 42, 3, [11, 3, 90]) := rd_look_of LL_119 rfl
theorem L_119_28 : rd_look 119 28 = some (80, .getfield 161, 3, [4, 1, 98]) := rd_look_of LL_119 rfl
theorem L_119_29 : rd_look 119 29 = some (83, .bipush 6, 2, []) := rd_look_of LL_119 rfl
theorem L_119_30 : rd_look 119 30 = some (85, .iaload, 1, []) := rd_look_of LL_119 rfl
theorem L_119_31 : rd_look 119 31 = some (86, .ireturn, 1, []) := rd_look_of LL_119 rfl
theorem L_119_32 : rd_look 119 32 = some (87, .sipush (-1001), 3, []) := rd_look_of LL_119 rfl
theorem L_119_33 : rd_look 119 33 = some (90, .ireturn, 1, []) := rd_look_of LL_119 rfl
theorem L_120_0 : rd_look 120 0 = some (0, .iload_n 1, 1, []) := rd_look_of LL_120 rfl
theorem L_120_1 : rd_look 120 1 = some (1, .ifCond .lt 24, 3, [12]) := rd_look_of LL_120 rfl
theorem L_120_2 : rd_look 120 2 = some (4, .iload_n 1, 1, []) := rd_look_of LL_120 rfl
theorem L_120_3 : rd_look 120 3 = some (5, .aload_n 0, 1, []) := rd_look_of LL_120 rfl
theorem L_120_4 : rd_look 120 4 = some (6, .getfield 42, 3, [11, 3, 90]) := rd_look_of LL_120 rfl
theorem L_120_5 : rd_look 120 5 = some (9, .invokevirtual 171, 3, [49, 0, 123, 4]) := rd_look_of LL_120 rfl
theorem L_120_6 : rd_look 120 6 = some (12, .if_icmp .ge 13, 3, [12]) := rd_look_of LL_120 rfl
theorem L_120_7 : rd_look 120 7 = some (15, .iload_n 2, 1, []) := rd_look_of LL_120 rfl
theorem L_120_8 : rd_look 120 8 = some (16, .ifCond .lt 9, 3, [12]) := rd_look_of LL_120 rfl
theorem L_120_9 : rd_look 120 9 = some (19, .iload_n 2, 1, []) := rd_look_of LL_120 rfl
theorem L_120_10 : rd_look 120 10 = some (20, .bipush 9, 2, []) := rd_look_of LL_120 rfl
theorem L_120_11 : rd_look 120 11 = some (22, .if_icmp .lt 7, 3, [14]) := rd_look_of LL_120 rfl
theorem L_120_12 : rd_look 120 12 = some (25, .sipush (-1001), 3, []) := rd_look_of LL_120 rfl
theorem L_120_13 : rd_look 120 13 = some (28, .ireturn, 1, []) := rd_look_of LL_120 rfl
theorem L_120_14 : rd_look 120 14 = some (29, .aload_n 0, 1, []) := rd_look_of LL_120 rfl
theorem L_120_15 : rd_look 120 15 = some (30, .getfield 42, 3, [11, 3, 90]) := rd_look_of LL_120 rfl
theorem L_120_16 : rd_look 120 16 = some (33, .iload_n 1, 1, []) := rd_look_of LL_120 rfl
theorem L_120_17 : rd_look 120 17 = some (34, .iload_n 2, 1, []) := rd_look_of LL_120 rfl
theorem L_120_18 : rd_look 120 18 = some (35, .invokevirtual 175, 3, [51, 2, 124, 4]) := rd_look_of LL_120 rfl
theorem L_120_19 : rd_look 120 19 = some (38, .ireturn, 1, []) := rd_look_of LL_120 rfl
theorem L_121_0 : rd_look 121 0 = some (0, .aload_n 0, 1, []) := rd_look_of LL_121 rfl
theorem L_121_1 : rd_look 121 1 = some (1, .getfield 21, 3, [11, 1, 88]) := rd_look_of LL_121 rfl
theorem L_121_2 : rd_look 121 2 = some (4, .iload_n 1, 1, []) := rd_look_of LL_121 rfl
theorem L_121_3 : rd_look 121 3 = some (5, .iload_n 2, 1, []) := rd_look_of LL_121 rfl
theorem L_121_4 : rd_look 121 4 = some (6, .invokevirtual 114, 3, [92, 2, 107, 8]) := rd_look_of LL_121 rfl
theorem L_121_5 : rd_look 121 5 = some (9, .istore 5, 2, []) := rd_look_of LL_121 rfl
theorem L_121_6 : rd_look 121 6 = some (11, .iload 5, 2, []) := rd_look_of LL_121 rfl
theorem L_121_7 : rd_look 121 7 = some (13, .iconst (-1), 1, []) := rd_look_of LL_121 rfl
theorem L_121_8 : rd_look 121 8 = some (14, .if_icmp .eq 13, 3, [14]) := rd_look_of LL_121 rfl
theorem L_121_9 : rd_look 121 9 = some (17, .iload_n 3, 1, []) := rd_look_of LL_121 rfl
theorem L_121_10 : rd_look 121 10 = some (18, .ifCond .lt 9, 3, [14]) := rd_look_of LL_121 rfl
theorem L_121_11 : rd_look 121 11 = some (21, .iload 4, 2, []) := rd_look_of LL_121 rfl
theorem L_121_12 : rd_look 121 12 = some (23, .iload_n 3, 1, []) := rd_look_of LL_121 rfl
theorem L_121_13 : rd_look 121 13 = some (24, .if_icmp .ge 5, 3, [16]) := rd_look_of LL_121 rfl
theorem L_121_14 : rd_look 121 14 = some (27, .iconst (-1), 1, []) := rd_look_of LL_121 rfl
theorem L_121_15 : rd_look 121 15 = some (28, .ireturn, 1, []) := rd_look_of LL_121 rfl
theorem L_121_16 : rd_look 121 16 = some (29, .aload_n 0, 1, []) := rd_look_of LL_121 rfl
theorem L_121_17 : rd_look 121 17 = some (30, .getfield 60, 3, [11, 5, 92]) := rd_look_of LL_121 rfl
theorem L_121_18 : rd_look 121 18 = some (33, .iload_n 1, 1, []) := rd_look_of LL_121 rfl
theorem L_121_19 : rd_look 121 19 = some (34, .iload_n 2, 1, []) := rd_look_of LL_121 rfl
theorem L_121_20 : rd_look 121 20 = some (35, .iload 5, 2, []) := rd_look_of LL_121 rfl
theorem L_121_21 : rd_look 121 21 = some (37, .iload_n 3, 1, []) := rd_look_of LL_121 rfl
theorem L_121_22 : rd_look 121 22 = some (38, .iload 4, 2, []) := rd_look_of LL_121 rfl
theorem L_121_23 : rd_look 121 23 = some (40, .invokevirtual 178, 3, [21, 5, 125, 2]) := rd_look_of LL_121 rfl
theorem L_121_24 : rd_look 121 24 = some (43, .ireturn, 1, []) := rd_look_of LL_121 rfl
theorem L_122_0 : rd_look 122 0 = some (0, .aload_n 0, 1, []) := rd_look_of LL_122 rfl
theorem L_122_1 : rd_look 122 1 = some (1, .getfield 60, 3, [11, 5, 92]) := rd_look_of LL_122 rfl
theorem L_122_2 : rd_look 122 2 = some (4, .getfield 180, 3, [2, 0, 99]) := rd_look_of LL_122 rfl
theorem L_122_3 : rd_look 122 3 = some (7, .iload_n 1, 1, []) := rd_look_of LL_122 rfl
theorem L_122_4 : rd_look 122 4 = some (8, .iload_n 2, 1, []) := rd_look_of LL_122 rfl
theorem L_122_5 : rd_look 122 5 = some (9, .iload_n 3, 1, []) := rd_look_of LL_122 rfl
theorem L_122_6 : rd_look 122 6 = some (10, .iload 4, 2, []) := rd_look_of LL_122 rfl
theorem L_122_7 : rd_look 122 7 = some (12, .iload 5, 2, []) := rd_look_of LL_122 rfl
theorem L_122_8 : rd_look 122 8 = some (14, .invokevirtual 124, 3, [61, 5, 109, 5]) := rd_look_of LL_122 rfl
theorem L_122_9 : rd_look 122 9 = some (17, .ireturn, 1, []) := rd_look_of LL_122 rfl
theorem L_123_0 : rd_look 123 0 = some (0, .aload_n 0, 1, []) := rd_look_of LL_123 rfl
theorem L_123_1 : rd_look 123 1 = some (1, .getfield 60, 3, [11, 5, 92]) := rd_look_of LL_123 rfl
theorem L_123_2 : rd_look 123 2 = some (4, .getfield 180, 3, [2, 0, 99]) := rd_look_of LL_123 rfl
theorem L_123_3 : rd_look 123 3 = some (7, .astore_n 3, 1, []) := rd_look_of LL_123 rfl
theorem L_123_4 : rd_look 123 4 = some (8, .aload_n 3, 1, []) := rd_look_of LL_123 rfl
theorem L_123_5 : rd_look 123 5 = some (9, .iload_n 1, 1, []) := rd_look_of LL_123 rfl
theorem L_123_6 : rd_look 123 6 = some (10, .invokevirtual 131, 3, [56, 1, 111, 5]) := rd_look_of LL_123 rfl
theorem L_123_7 : rd_look 123 7 = some (13, .ifCond .eq 16, 3, [15]) := rd_look_of LL_123 rfl
theorem L_123_8 : rd_look 123 8 = some (16, .aload_n 3, 1, []) := rd_look_of LL_123 rfl
theorem L_123_9 : rd_look 123 9 = some (17, .iload_n 2, 1, []) := rd_look_of LL_123 rfl
theorem L_123_10 : rd_look 123 10 = some (18, .invokevirtual 131, 3, [56, 1, 111, 5]) := rd_look_of LL_123 rfl
theorem L_123_11 : rd_look 123 11 = some (21, .ifCond .eq 8, 3, [15]) := rd_look_of LL_123 rfl
theorem L_123_12 : rd_look 123 12 = some (24, .iload_n 1, 1, []) := rd_look_of LL_123 rfl
theorem L_123_13 : rd_look 123 13 = some (25, .iload_n 2, 1, []) := rd_look_of LL_123 rfl
theorem L_123_14 : rd_look 123 14 = some (26, .if_icmp .ne 5, 3, [17]) := rd_look_of LL_123 rfl
theorem L_123_15 : rd_look 123 15 = some (29, .iconst (-1), 1, []) := rd_look_of LL_123 rfl
theorem L_123_16 : rd_look 123 16 = some (30, .ireturn, 1, []) := rd_look_of LL_123 rfl
theorem L_123_17 : rd_look 123 17 = some (31, .aload_n 0, 1, []) := rd_look_of LL_123 rfl
theorem L_123_18 : rd_look 123 18 = some (32, .getfield 60, 3, [11, 5, 92]) := rd_look_of LL_123 rfl
theorem L_123_19 : rd_look 123 19 = some (35, .iload_n 1, 1, []) := rd_look_of LL_123 rfl
theorem L_123_20 : rd_look 123 20 = some (36, .iload_n 2, 1, []) := rd_look_of LL_123 rfl
theorem L_123_21 : rd_look 123 21 = some (37, .invokevirtual 181, 3, [23, 2, 126, 2]) := rd_look_of LL_123 rfl
theorem L_123_22 : rd_look 123 22 = some (40, .ireturn, 1, []) := rd_look_of LL_123 rfl
theorem L_124_0 : rd_look 124 0 = some (0, .aload_n 0, 1, []) := rd_look_of LL_124 rfl
theorem L_124_1 : rd_look 124 1 = some (1, .getfield 21, 3, [11, 1, 88]) := rd_look_of LL_124 rfl
theorem L_124_2 : rd_look 124 2 = some (4, .iload_n 1, 1, []) := rd_look_of LL_124 rfl
theorem L_124_3 : rd_look 124 3 = some (5, .invokevirtual 105, 3, [88, 1, 105, 8]) := rd_look_of LL_124 rfl
theorem L_124_4 : rd_look 124 4 = some (8, .ifCond .ne 5, 3, [7]) := rd_look_of LL_124 rfl
theorem L_124_5 : rd_look 124 5 = some (11, .iconst (-1), 1, []) := rd_look_of LL_124 rfl
theorem L_124_6 : rd_look 124 6 = some (12, .ireturn, 1, []) := rd_look_of LL_124 rfl
theorem L_124_7 : rd_look 124 7 = some (13, .aload_n 0, 1, []) := rd_look_of LL_124 rfl
theorem L_124_8 : rd_look 124 8 = some (14, .getfield 21, 3, [11, 1, 88]) := rd_look_of LL_124 rfl
theorem L_124_9 : rd_look 124 9 = some (17, .iload_n 1, 1, []) := rd_look_of LL_124 rfl
theorem L_124_10 : rd_look 124 10 = some (18, .iload_n 2, 1, []) := rd_look_of LL_124 rfl
theorem L_124_11 : rd_look 124 11 = some (19, .invokevirtual 184, 3, [94, 2, 127, 8]) := rd_look_of LL_124 rfl
theorem L_124_12 : rd_look 124 12 = some (22, .ifCond .eq 7, 3, [15]) := rd_look_of LL_124 rfl
theorem L_124_13 : rd_look 124 13 = some (25, .iconst 1, 1, []) := rd_look_of LL_124 rfl
theorem L_124_14 : rd_look 124 14 = some (26, .goto 4, 3, [16]) := rd_look_of LL_124 rfl
theorem L_124_15 : rd_look 124 15 = some (29, .iconst 0, 1, []) := rd_look_of LL_124 rfl
theorem L_124_16 : rd_look 124 16 = some (30, .ireturn, 1, []) := rd_look_of LL_124 rfl
theorem L_125_0 : rd_look 125 0 = some (0, .aload_n 0, 1, []) := rd_look_of LL_125 rfl
theorem L_125_1 : rd_look 125 1 = some (1, .getfield 60, 3, [11, 5, 92]) := rd_look_of LL_125 rfl
theorem L_125_2 : rd_look 125 2 = some (4, .getfield 180, 3, [2, 0, 99]) := rd_look_of LL_125 rfl
theorem L_125_3 : rd_look 125 3 = some (7, .iload_n 1, 1, []) := rd_look_of LL_125 rfl
theorem L_125_4 : rd_look 125 4 = some (8, .invokevirtual 131, 3, [56, 1, 111, 5]) := rd_look_of LL_125 rfl
theorem L_125_5 : rd_look 125 5 = some (11, .ifCond .ne 5, 3, [8]) := rd_look_of LL_125 rfl
theorem L_125_6 : rd_look 125 6 = some (14, .iconst (-1), 1, []) := rd_look_of LL_125 rfl
theorem L_125_7 : rd_look 125 7 = some (15, .ireturn, 1, []) := rd_look_of LL_125 rfl
theorem L_125_8 : rd_look 125 8 = some (16, .aload_n 0, 1, []) := rd_look_of LL_125 rfl
theorem L_125_9 : rd_look 125 9 = some (17, .getfield 60, 3, [11, 5, 92]) := rd_look_of LL_125 rfl
theorem L_125_10 : rd_look 125 10 = some (20, .iload_n 1, 1, []) := rd_look_of LL_125 rfl
theorem L_125_11 : rd_look 125 11 = some (21, .aload_n 0, 1, []) := rd_look_of LL_125 rfl
theorem L_125_12 : rd_look 125 12 = some (22, .getfield 42, 3, [11, 3, 90]) := rd_look_of LL_125 rfl
theorem L_125_13 : rd_look 125 13 = some (25, .invokevirtual 188, 3, [24, 2, 128, 2]) := rd_look_of LL_125 rfl
theorem L_125_14 : rd_look 125 14 = some (28, .ireturn, 1, []) := rd_look_of LL_125 rfl
theorem L_126_0 : rd_look 126 0 = some (0, .aload_n 0, 1, []) := rd_look_of LL_126 rfl
theorem L_126_1 : rd_look 126 1 = some (1, .getfield 60, 3, [11, 5, 92]) := rd_look_of LL_126 rfl
theorem L_126_2 : rd_look 126 2 = some (4, .aload_n 0, 1, []) := rd_look_of LL_126 rfl
theorem L_126_3 : rd_look 126 3 = some (5, .getfield 42, 3, [11, 3, 90]) := rd_look_of LL_126 rfl
theorem L_126_4 : rd_look 126 4 = some (8, .invokevirtual 192, 3, [25, 1, 129, 2]) := rd_look_of LL_126 rfl
theorem L_126_5 : rd_look 126 5 = some (11, .aload_n 0, 1, []) := rd_look_of LL_126 rfl
theorem L_126_6 : rd_look 126 6 = some (12, .getfield 67, 3, [11, 6, 93]) := rd_look_of LL_126 rfl
theorem L_126_7 : rd_look 126 7 = some (15, .aload_n 0, 1, []) := rd_look_of LL_126 rfl
theorem L_126_8 : rd_look 126 8 = some (16, .getfield 60, 3, [11, 5, 92]) := rd_look_of LL_126 rfl
theorem L_126_9 : rd_look 126 9 = some (19, .aload_n 0, 1, []) := rd_look_of LL_126 rfl
theorem L_126_10 : rd_look 126 10 = some (20, .getfield 42, 3, [11, 3, 90]) := rd_look_of LL_126 rfl
theorem L_126_11 : rd_look 126 11 = some (23, .aload_n 0, 1, []) := rd_look_of LL_126 rfl
theorem L_126_12 : rd_look 126 12 = some (24, .getfield 21, 3, [11, 1, 88]) := rd_look_of LL_126 rfl
theorem L_126_13 : rd_look 126 13 = some (27, .invokevirtual 196, 3, [103, 3, 130, 10]) := rd_look_of LL_126 rfl
theorem L_126_14 : rd_look 126 14 = some (30, .aload_n 0, 1, []) := rd_look_of LL_126 rfl
theorem L_126_15 : rd_look 126 15 = some (31, .getfield 67, 3, [11, 6, 93]) := rd_look_of LL_126 rfl
theorem L_126_16 : rd_look 126 16 = some (34, .invokevirtual 200, 3, [101, 0, 131, 10]) := rd_look_of LL_126 rfl
theorem L_126_17 : rd_look 126 17 = some (37, .ireturn, 1, []) := rd_look_of LL_126 rfl
theorem L_127_0 : rd_look 127 0 = some (0, .iload_n 1, 1, []) := rd_look_of LL_127 rfl
theorem L_127_1 : rd_look 127 1 = some (1, .ifCond .lt 23, 3, [12]) := rd_look_of LL_127 rfl
theorem L_127_2 : rd_look 127 2 = some (4, .iload_n 1, 1, []) := rd_look_of LL_127 rfl
theorem L_127_3 : rd_look 127 3 = some (5, .aload_n 0, 1, []) := rd_look_of LL_127 rfl
theorem L_127_4 : rd_look 127 4 = some (6, .getfield 67, 3, [11, 6, 93]) := rd_look_of LL_127 rfl
theorem L_127_5 : rd_look 127 5 = some (9, .invokevirtual 200, 3, [101, 0, 131, 10]) := rd_look_of LL_127 rfl
theorem L_127_6 : rd_look 127 6 = some (12, .if_icmp .ge 12, 3, [12]) := rd_look_of LL_127 rfl
theorem L_127_7 : rd_look 127 7 = some (15, .iload_n 2, 1, []) := rd_look_of LL_127 rfl
theorem L_127_8 : rd_look 127 8 = some (16, .ifCond .lt 8, 3, [12]) := rd_look_of LL_127 rfl
theorem L_127_9 : rd_look 127 9 = some (19, .iload_n 2, 1, []) := rd_look_of LL_127 rfl
theorem L_127_10 : rd_look 127 10 = some (20, .iconst 3, 1, []) := rd_look_of LL_127 rfl
theorem L_127_11 : rd_look 127 11 = some (21, .if_icmp .lt 5, 3, [14]) := rd_look_of LL_127 rfl
theorem L_127_12 : rd_look 127 12 = some (24, .iconst (-1), 1, []) := rd_look_of LL_127 rfl
theorem L_127_13 : rd_look 127 13 = some (25, .ireturn, 1, []) := rd_look_of LL_127 rfl
theorem L_127_14 : rd_look 127 14 = some (26, .aload_n 0, 1, []) := rd_look_of LL_127 rfl
theorem L_127_15 : rd_look 127 15 = some (27, .getfield 67, 3, [11, 6, 93]) := rd_look_of LL_127 rfl
theorem L_127_16 : rd_look 127 16 = some (30, .iload_n 1, 1, []) := rd_look_of LL_127 rfl
theorem L_127_17 : rd_look 127 17 = some (31, .iload_n 2, 1, []) := rd_look_of LL_127 rfl
theorem L_127_18 : rd_look 127 18 = some (32, .invokevirtual 201, 3, [102, 2, 132, 10]) := rd_look_of LL_127 rfl
theorem L_127_19 : rd_look 127 19 = some (35, .ireturn, 1, []) := rd_look_of LL_127 rfl
theorem L_128_0 : rd_look 128 0 = some (0, .iload_n 1, 1, []) := rd_look_of LL_128 rfl
theorem L_128_1 : rd_look 128 1 = some (1, .iload_n 2, 1, []) := rd_look_of LL_128 rfl
theorem L_128_2 : rd_look 128 2 = some (2, .iload_n 3, 1, []) := rd_look_of LL_128 rfl
theorem L_128_3 : rd_look 128 3 = some (3, .iload 4, 2, []) := rd_look_of LL_128 rfl
theorem L_128_4 : rd_look 128 4 = some (5, .invokestatic 204, 3, [15, 4, 133]) := rd_look_of LL_128 rfl
theorem L_128_5 : rd_look 128 5 = some (8, .ifCond .ne 5, 3, [8]) := rd_look_of LL_128 rfl
theorem L_128_6 : rd_look 128 6 = some (11, .iconst (-1), 1, []) := rd_look_of LL_128 rfl
theorem L_128_7 : rd_look 128 7 = some (12, .ireturn, 1, []) := rd_look_of LL_128 rfl
theorem L_128_8 : rd_look 128 8 = some (13, .aload_n 0, 1, []) := rd_look_of LL_128 rfl
theorem L_128_9 : rd_look 128 9 = some (14, .getfield 74, 3, [11, 7, 94]) := rd_look_of LL_128 rfl
theorem L_128_10 : rd_look 128 10 = some (17, .iload_n 1, 1, []) := rd_look_of LL_128 rfl
theorem L_128_11 : rd_look 128 11 = some (18, .iload_n 2, 1, []) := rd_look_of LL_128 rfl
theorem L_128_12 : rd_look 128 12 = some (19, .iload_n 3, 1, []) := rd_look_of LL_128 rfl
theorem L_128_13 : rd_look 128 13 = some (20, .iload 4, 2, []) := rd_look_of LL_128 rfl
theorem L_128_14 : rd_look 128 14 = some (22, .invokevirtual 208, 3, [18, 4, 134, 1]) := rd_look_of LL_128 rfl
theorem L_128_15 : rd_look 128 15 = some (25, .ireturn, 1, []) := rd_look_of LL_128 rfl
theorem L_129_0 : rd_look 129 0 = some (0, .aload_n 0, 1, []) := rd_look_of LL_129 rfl
theorem L_129_1 : rd_look 129 1 = some (1, .getfield 74, 3, [11, 7, 94]) := rd_look_of LL_129 rfl
theorem L_129_2 : rd_look 129 2 = some (4, .invokevirtual 211, 3, [19, 0, 135, 1]) := rd_look_of LL_129 rfl
theorem L_129_3 : rd_look 129 3 = some (7, .ireturn, 1, []) := rd_look_of LL_129 rfl
theorem L_130_0 : rd_look 130 0 = some (0, .iload_n 1, 1, []) := rd_look_of LL_130 rfl
theorem L_130_1 : rd_look 130 1 = some (1, .iconst 1, 1, []) := rd_look_of LL_130 rfl
theorem L_130_2 : rd_look 130 2 = some (2, .if_icmp .lt 10, 3, [6]) := rd_look_of LL_130 rfl
theorem L_130_3 : rd_look 130 3 = some (5, .iload_n 1, 1, []) := rd_look_of LL_130 rfl
theorem L_130_4 : rd_look 130 4 = some (6, .sipush 1000, 3, []) := rd_look_of LL_130 rfl
theorem L_130_5 : rd_look 130 5 = some (9, .if_icmp .le 5, 3, [8]) := rd_look_of LL_130 rfl
theorem L_130_6 : rd_look 130 6 = some (12, .iconst (-1), 1, []) := rd_look_of LL_130 rfl
theorem L_130_7 : rd_look 130 7 = some (13, .ireturn, 1, []) := rd_look_of LL_130 rfl
theorem L_130_8 : rd_look 130 8 = some (14, .aload_n 0, 1, []) := rd_look_of LL_130 rfl
theorem L_130_9 : rd_look 130 9 = some (15, .getfield 83, 3, [11, 8, 95]) := rd_look_of LL_130 rfl
theorem L_130_10 : rd_look 130 10 = some (18, .invokevirtual 214, 3, [1, 0, 136, 0]) := rd_look_of LL_130 rfl
theorem L_130_11 : rd_look 130 11 = some (21, .ifCond .eq 6, 3, [14]) := rd_look_of LL_130 rfl
theorem L_130_12 : rd_look 130 12 = some (24, .bipush (-3), 2, []) := rd_look_of LL_130 rfl
theorem L_130_13 : rd_look 130 13 = some (26, .ireturn, 1, []) := rd_look_of LL_130 rfl
theorem L_130_14 : rd_look 130 14 = some (27, .aload_n 0, 1, []) := rd_look_of LL_130 rfl
theorem L_130_15 : rd_look 130 15 = some (28, .getfield 83, 3, [11, 8, 95]) := rd_look_of LL_130 rfl
theorem L_130_16 : rd_look 130 16 = some (31, .invokevirtual 217, 3, [3, 0, 137, 0]) := rd_look_of LL_130 rfl
theorem L_130_17 : rd_look 130 17 = some (34, .iconst 0, 1, []) := rd_look_of LL_130 rfl
theorem L_130_18 : rd_look 130 18 = some (35, .istore_n 2, 1, []) := rd_look_of LL_130 rfl
theorem L_130_19 : rd_look 130 19 = some (36, .iload_n 2, 1, []) := rd_look_of LL_130 rfl
theorem L_130_20 : rd_look 130 20 = some (37, .iload_n 1, 1, []) := rd_look_of LL_130 rfl
theorem L_130_21 : rd_look 130 21 = some (38, .if_icmp .ge 54, 3, [47]) := rd_look_of LL_130 rfl
theorem L_130_22 : rd_look 130 22 = some (41, .aload_n 0, 1, []) := rd_look_of LL_130 rfl
theorem L_130_23 : rd_look 130 23 = some (42, .getfield 83, 3, [11, 8, 95]) := rd_look_of LL_130 rfl
theorem L_130_24 : rd_look 130 24 = some (45, .invokevirtual 219, 3, [4, 0, 138, 0]) := rd_look_of LL_130 rfl
theorem L_130_25 : rd_look 130 25 = some (48, .ifCond .eq 44, 3, [47]) := rd_look_of LL_130 rfl
theorem L_130_26 : rd_look 130 26 = some (51, .aload_n 0, 1, []) := rd_look_of LL_130 rfl
theorem L_130_27 : rd_look 130 27 = some (52, .getfield 83, 3, [11, 8, 95]) := rd_look_of LL_130 rfl
theorem L_130_28 : rd_look 130 28 = some (55, .invokevirtual 222, 3, [5, 0, 139, 0]) := rd_look_of LL_130 rfl
theorem L_130_29 : rd_look 130 29 = some (58, .istore_n 3, 1, []) := rd_look_of LL_130 rfl
theorem L_130_30 : rd_look 130 30 = some (59, .iload_n 3, 1, []) := rd_look_of LL_130 rfl
theorem L_130_31 : rd_look 130 31 = some (60, .iconst (-1), 1, []) := rd_look_of LL_130 rfl
theorem L_130_32 : rd_look 130 32 = some (61, .if_icmp .eq 18, 3, [42]) := rd_look_of LL_130 rfl
theorem L_130_33 : rd_look 130 33 = some (64, .aload_n 0, 1, []) := rd_look_of LL_130 rfl
theorem L_130_34 : rd_look 130 34 = some (65, .getfield 83, 3, [11, 8, 95]) := rd_look_of LL_130 rfl
theorem L_130_35 : rd_look 130 35 = some (68, .iload_n 3, 1, []) := rd_look_of LL_130 rfl
theorem L_130_36 : rd_look 130 36 = some (69, .invokevirtual 225, 3, [9, 1, 140, 0]) := rd_look_of LL_130 rfl
theorem L_130_37 : rd_look 130 37 = some (72, .ifCond .ne 7, 3, [42]) := rd_look_of LL_130 rfl
theorem L_130_38 : rd_look 130 38 = some (75, .iload_n 3, 1, []) := rd_look_of LL_130 rfl
theorem L_130_39 : rd_look 130 39 = some (76, .iconst 1, 1, []) := rd_look_of LL_130 rfl
theorem L_130_40 : rd_look 130 40 = some (77, .iadd, 1, []) := rd_look_of LL_130 rfl
theorem L_130_41 : rd_look 130 41 = some (78, .ireturn, 1, []) := rd_look_of LL_130 rfl
theorem L_130_42 : rd_look 130 42 = some (79, .aload_n 0, 1, []) := rd_look_of LL_130 rfl
theorem L_130_43 : rd_look 130 43 = some (80, .getfield 83, 3, [11, 8, 95]) := rd_look_of LL_130 rfl
theorem L_130_44 : rd_look 130 44 = some (83, .invokevirtual 228, 3, [10, 0, 141, 0]) := rd_look_of LL_130 rfl
theorem L_130_45 : rd_look 130 45 = some (86, .iinc 2 1, 3, []) := rd_look_of LL_130 rfl
theorem L_130_46 : rd_look 130 46 = some (89, .goto (-53), 3, [19]) := rd_look_of LL_130 rfl
theorem L_130_47 : rd_look 130 47 = some (92, .aload_n 0, 1, []) := rd_look_of LL_130 rfl
theorem L_130_48 : rd_look 130 48 = some (93, .getfield 83, 3, [11, 8, 95]) := rd_look_of LL_130 rfl
theorem L_130_49 : rd_look 130 49 = some (96, .invokevirtual 219, 3, [4, 0, 138, 0]) := rd_look_of LL_130 rfl
theorem L_130_50 : rd_look 130 50 = some (99, .ifCond .eq 8, 3, [53]) := rd_look_of LL_130 rfl
theorem L_130_51 : rd_look 130 51 = some (102, .bipush (-4), 2, []) := rd_look_of LL_130 rfl
theorem L_130_52 : rd_look 130 52 = some (104, .goto 4, 3, [54]) := rd_look_of LL_130 rfl
theorem L_130_53 : rd_look 130 53 = some (107, .iconst 0, 1, []) := rd_look_of LL_130 rfl
theorem L_130_54 : rd_look 130 54 = some (108, .ireturn, 1, []) := rd_look_of LL_130 rfl
theorem L_131_0 : rd_look 131 0 = some (0, .iload_n 1, 1, []) := rd_look_of LL_131 rfl
theorem L_131_1 : rd_look 131 1 = some (1, .ifCond .lt 9, 3, [5]) := rd_look_of LL_131 rfl
theorem L_131_2 : rd_look 131 2 = some (4, .iload_n 1, 1, []) := rd_look_of LL_131 rfl
theorem L_131_3 : rd_look 131 3 = some (5, .bipush 12, 2, []) := rd_look_of LL_131 rfl
theorem L_131_4 : rd_look 131 4 = some (7, .if_icmp .lt 7, 3, [7]) := rd_look_of LL_131 rfl
theorem L_131_5 : rd_look 131 5 = some (10, .sipush (-1001), 3, []) := rd_look_of LL_131 rfl
theorem L_131_6 : rd_look 131 6 = some (13, .ireturn, 1, []) := rd_look_of LL_131 rfl
theorem L_131_7 : rd_look 131 7 = some (14, .iload_n 1, 1, []) := rd_look_of LL_131 rfl
theorem L_131_8 : rd_look 131 8 = some (15, .bipush 8, 2, []) := rd_look_of LL_131 rfl
theorem L_131_9 : rd_look 131 9 = some (17, .if_icmp .ge 15, 3, [16]) := rd_look_of LL_131 rfl
theorem L_131_10 : rd_look 131 10 = some (20, .aload_n 0, 1, []) := rd_look_of LL_131 rfl
theorem L_131_11 : rd_look 131 11 = some (21, .getfield 83, 3, [11, 8, 95]) := rd_look_of LL_131 rfl
theorem L_131_12 : rd_look 131 12 = some (24, .getfield 231, 3, [0, 5, 100]) := rd_look_of LL_131 rfl
theorem L_131_13 : rd_look 131 13 = some (27, .iload_n 1, 1, []) := rd_look_of LL_131 rfl
theorem L_131_14 : rd_look 131 14 = some (28, .iaload, 1, []) := rd_look_of LL_131 rfl
theorem L_131_15 : rd_look 131 15 = some (29, .goto 15, 3, [23]) := rd_look_of LL_131 rfl
theorem L_131_16 : rd_look 131 16 = some (32, .aload_n 0, 1, []) := rd_look_of LL_131 rfl
theorem L_131_17 : rd_look 131 17 = some (33, .getfield 83, 3, [11, 8, 95]) := rd_look_of LL_131 rfl
theorem L_131_18 : rd_look 131 18 = some (36, .getfield 234, 3, [0, 6, 101]) := rd_look_of LL_131 rfl
theorem L_131_19 : rd_look 131 19 = some (39, .iload_n 1, 1, []) := rd_look_of LL_131 rfl
theorem L_131_20 : rd_look 131 20 = some (40, .bipush 8, 2, []) := rd_look_of LL_131 rfl
theorem L_131_21 : rd_look 131 21 = some (42, .isub, 1, []) := rd_look_of LL_131 rfl
theorem L_131_22 : rd_look 131 22 = some (43, .iaload, 1, []) := rd_look_of LL_131 rfl
theorem L_131_23 : rd_look 131 23 = some (44, .ireturn, 1, []) := rd_look_of LL_131 rfl
theorem L_132_0 : rd_look 132 0 = some (0, .iload_n 1, 1, []) := rd_look_of LL_132 rfl
theorem L_132_1 : rd_look 132 1 = some (1, .ifCond .lt 14, 3, [7]) := rd_look_of LL_132 rfl
theorem L_132_2 : rd_look 132 2 = some (4, .iload_n 1, 1, []) := rd_look_of LL_132 rfl
theorem L_132_3 : rd_look 132 3 = some (5, .aload_n 0, 1, []) := rd_look_of LL_132 rfl
theorem L_132_4 : rd_look 132 4 = some (6, .getfield 83, 3, [11, 8, 95]) := rd_look_of LL_132 rfl
theorem L_132_5 : rd_look 132 5 = some (9, .invokevirtual 237, 3, [11, 0, 142, 0]) := rd_look_of LL_132 rfl
theorem L_132_6 : rd_look 132 6 = some (12, .if_icmp .lt 7, 3, [9]) := rd_look_of LL_132 rfl
theorem L_132_7 : rd_look 132 7 = some (15, .sipush (-1001), 3, []) := rd_look_of LL_132 rfl
theorem L_132_8 : rd_look 132 8 = some (18, .ireturn, 1, []) := rd_look_of LL_132 rfl
theorem L_132_9 : rd_look 132 9 = some (19, .aload_n 0, 1, []) := rd_look_of LL_132 rfl
theorem L_132_10 : rd_look 132 10 = some (20, .getfield 83, 3, [11, 8, 95]) := rd_look_of LL_132 rfl
theorem L_132_11 : rd_look 132 11 = some (23, .iload_n 1, 1, []) := rd_look_of LL_132 rfl
theorem L_132_12 : rd_look 132 12 = some (24, .invokevirtual 240, 3, [12, 1, 143, 0]) := rd_look_of LL_132 rfl
theorem L_132_13 : rd_look 132 13 = some (27, .ireturn, 1, []) := rd_look_of LL_132 rfl
theorem L_133_0 : rd_look 133 0 = some (0, .iload_n 1, 1, []) := rd_look_of LL_133 rfl
theorem L_133_1 : rd_look 133 1 = some (1, .tableswitch 141 0 9 #[55, 63, 71, 82, 90, 98, 109, 117, 125, 133], 55, [44, 2, 6, 10, 15, 19, 23, 28, 32, 36, 40]) := rd_look_of LL_133 rfl
theorem L_133_2 : rd_look 133 2 = some (56, .aload_n 0, 1, []) := rd_look_of LL_133 rfl
theorem L_133_3 : rd_look 133 3 = some (57, .getfield 10, 3, [11, 0, 87]) := rd_look_of LL_133 rfl
theorem L_133_4 : rd_look 133 4 = some (60, .invokevirtual 243, 3, [33, 0, 144, 3]) := rd_look_of LL_133 rfl
theorem L_133_5 : rd_look 133 5 = some (63, .ireturn, 1, []) := rd_look_of LL_133 rfl
theorem L_133_6 : rd_look 133 6 = some (64, .aload_n 0, 1, []) := rd_look_of LL_133 rfl
theorem L_133_7 : rd_look 133 7 = some (65, .getfield 21, 3, [11, 1, 88]) := rd_look_of LL_133 rfl
theorem L_133_8 : rd_look 133 8 = some (68, .invokevirtual 244, 3, [87, 0, 145, 8]) := rd_look_of LL_133 rfl
theorem L_133_9 : rd_look 133 9 = some (71, .ireturn, 1, []) := rd_look_of LL_133 rfl
theorem L_133_10 : rd_look 133 10 = some (72, .aload_n 0, 1, []) := rd_look_of LL_133 rfl
theorem L_133_11 : rd_look 133 11 = some (73, .getfield 35, 3, [11, 2, 89]) := rd_look_of LL_133 rfl
theorem L_133_12 : rd_look 133 12 = some (76, .getfield 117, 3, [6, 0, 97]) := rd_look_of LL_133 rfl
theorem L_133_13 : rd_look 133 13 = some (79, .invokevirtual 245, 3, [55, 0, 146, 5]) := rd_look_of LL_133 rfl
theorem L_133_14 : rd_look 133 14 = some (82, .ireturn, 1, []) := rd_look_of LL_133 rfl
theorem L_133_15 : rd_look 133 15 = some (83, .aload_n 0, 1, []) := rd_look_of LL_133 rfl
theorem L_133_16 : rd_look 133 16 = some (84, .getfield 42, 3, [11, 3, 90]) := rd_look_of LL_133 rfl
theorem L_133_17 : rd_look 133 17 = some (87, .invokevirtual 171, 3, [49, 0, 123, 4]) := rd_look_of LL_133 rfl
theorem L_133_18 : rd_look 133 18 = some (90, .ireturn, 1, []) := rd_look_of LL_133 rfl
theorem L_133_19 : rd_look 133 19 = some (91, .aload_n 0, 1, []) := rd_look_of LL_133 rfl
theorem L_133_20 : rd_look 133 20 = some (92, .getfield 42, 3, [11, 3, 90]) := rd_look_of LL_133 rfl
theorem L_133_21 : rd_look 133 21 = some (95, .invokevirtual 246, 3, [50, 0, 147, 4]) := rd_look_of LL_133 rfl
theorem L_133_22 : rd_look 133 22 = some (98, .ireturn, 1, []) := rd_look_of LL_133 rfl
theorem L_133_23 : rd_look 133 23 = some (99, .aload_n 0, 1, []) := rd_look_of LL_133 rfl
theorem L_133_24 : rd_look 133 24 = some (100, .getfield 60, 3, [11, 5, 92]) := rd_look_of LL_133 rfl
theorem L_133_25 : rd_look 133 25 = some (103, .getfield 180, 3, [2, 0, 99]) := rd_look_of LL_133 rfl
theorem L_133_26 : rd_look 133 26 = some (106, .invokevirtual 245, 3, [55, 0, 146, 5]) := rd_look_of LL_133 rfl
theorem L_133_27 : rd_look 133 27 = some (109, .ireturn, 1, []) := rd_look_of LL_133 rfl
theorem L_133_28 : rd_look 133 28 = some (110, .aload_n 0, 1, []) := rd_look_of LL_133 rfl
theorem L_133_29 : rd_look 133 29 = some (111, .getfield 60, 3, [11, 5, 92]) := rd_look_of LL_133 rfl
theorem L_133_30 : rd_look 133 30 = some (114, .invokevirtual 249, 3, [22, 0, 148, 2]) := rd_look_of LL_133 rfl
theorem L_133_31 : rd_look 133 31 = some (117, .ireturn, 1, []) := rd_look_of LL_133 rfl
theorem L_133_32 : rd_look 133 32 = some (118, .aload_n 0, 1, []) := rd_look_of LL_133 rfl
theorem L_133_33 : rd_look 133 33 = some (119, .getfield 74, 3, [11, 7, 94]) := rd_look_of LL_133 rfl
theorem L_133_34 : rd_look 133 34 = some (122, .invokevirtual 252, 3, [17, 0, 149, 1]) := rd_look_of LL_133 rfl
theorem L_133_35 : rd_look 133 35 = some (125, .ireturn, 1, []) := rd_look_of LL_133 rfl
theorem L_133_36 : rd_look 133 36 = some (126, .aload_n 0, 1, []) := rd_look_of LL_133 rfl
theorem L_133_37 : rd_look 133 37 = some (127, .getfield 83, 3, [11, 8, 95]) := rd_look_of LL_133 rfl
theorem L_133_38 : rd_look 133 38 = some (130, .invokevirtual 253, 3, [2, 0, 150, 0]) := rd_look_of LL_133 rfl
theorem L_133_39 : rd_look 133 39 = some (133, .ireturn, 1, []) := rd_look_of LL_133 rfl
theorem L_133_40 : rd_look 133 40 = some (134, .aload_n 0, 1, []) := rd_look_of LL_133 rfl
theorem L_133_41 : rd_look 133 41 = some (135, .getfield 83, 3, [11, 8, 95]) := rd_look_of LL_133 rfl
theorem L_133_42 : rd_look 133 42 = some (138, .invokevirtual 237, 3, [11, 0, 142, 0]) := rd_look_of LL_133 rfl
theorem L_133_43 : rd_look 133 43 = some (141, .ireturn, 1, []) := rd_look_of LL_133 rfl
theorem L_133_44 : rd_look 133 44 = some (142, .aload_n 0, 1, []) := rd_look_of LL_133 rfl
theorem L_133_45 : rd_look 133 45 = some (143, .iload_n 1, 1, []) := rd_look_of LL_133 rfl
theorem L_133_46 : rd_look 133 46 = some (144, .invokevirtual 256, 3, [134, 1, 151, 11]) := rd_look_of LL_133 rfl
theorem L_133_47 : rd_look 133 47 = some (147, .ireturn, 1, []) := rd_look_of LL_133 rfl
theorem L_134_0 : rd_look 134 0 = some (0, .iload_n 1, 1, []) := rd_look_of LL_134 rfl
theorem L_134_1 : rd_look 134 1 = some (1, .bipush 10, 2, []) := rd_look_of LL_134 rfl
theorem L_134_2 : rd_look 134 2 = some (3, .if_icmp .lt 17, 3, [10]) := rd_look_of LL_134 rfl
theorem L_134_3 : rd_look 134 3 = some (6, .aload_n 0, 1, []) := rd_look_of LL_134 rfl
theorem L_134_4 : rd_look 134 4 = some (7, .getfield 10, 3, [11, 0, 87]) := rd_look_of LL_134 rfl
theorem L_134_5 : rd_look 134 5 = some (10, .iload_n 1, 1, []) := rd_look_of LL_134 rfl
theorem L_134_6 : rd_look 134 6 = some (11, .bipush 10, 2, []) := rd_look_of LL_134 rfl
theorem L_134_7 : rd_look 134 7 = some (13, .isub, 1, []) := rd_look_of LL_134 rfl
theorem L_134_8 : rd_look 134 8 = some (14, .invokevirtual 87, 3, [34, 1, 100, 3]) := rd_look_of LL_134 rfl
theorem L_134_9 : rd_look 134 9 = some (17, .ifCond .ne 5, 3, [12]) := rd_look_of LL_134 rfl
theorem L_134_10 : rd_look 134 10 = some (20, .iconst (-1), 1, []) := rd_look_of LL_134 rfl
theorem L_134_11 : rd_look 134 11 = some (21, .ireturn, 1, []) := rd_look_of LL_134 rfl
theorem L_134_12 : rd_look 134 12 = some (22, .aload_n 0, 1, []) := rd_look_of LL_134 rfl
theorem L_134_13 : rd_look 134 13 = some (23, .getfield 10, 3, [11, 0, 87]) := rd_look_of LL_134 rfl
theorem L_134_14 : rd_look 134 14 = some (26, .iload_n 1, 1, []) := rd_look_of LL_134 rfl
theorem L_134_15 : rd_look 134 15 = some (27, .bipush 10, 2, []) := rd_look_of LL_134 rfl
theorem L_134_16 : rd_look 134 16 = some (29, .isub, 1, []) := rd_look_of LL_134 rfl
theorem L_134_17 : rd_look 134 17 = some (30, .invokevirtual 259, 3, [40, 1, 152, 3]) := rd_look_of LL_134 rfl
theorem L_134_18 : rd_look 134 18 = some (33, .ireturn, 1, []) := rd_look_of LL_134 rfl
theorem L_135_0 : rd_look 135 0 = some (0, .aload_n 0, 1, []) := rd_look_of LL_135 rfl
theorem L_135_1 : rd_look 135 1 = some (1, .getfield 42, 3, [11, 3, 90]) := rd_look_of LL_135 rfl
theorem L_135_2 : rd_look 135 2 = some (4, .invokevirtual 171, 3, [49, 0, 123, 4]) := rd_look_of LL_135 rfl
theorem L_135_3 : rd_look 135 3 = some (7, .istore_n 1, 1, []) := rd_look_of LL_135 rfl
theorem L_135_4 : rd_look 135 4 = some (8, .aload_n 0, 1, []) := rd_look_of LL_135 rfl
theorem L_135_5 : rd_look 135 5 = some (9, .getfield 42, 3, [11, 3, 90]) := rd_look_of LL_135 rfl
theorem L_135_6 : rd_look 135 6 = some (12, .invokevirtual 262, 3, [53, 0, 153, 4]) := rd_look_of LL_135 rfl
theorem L_135_7 : rd_look 135 7 = some (15, .aload_n 0, 1, []) := rd_look_of LL_135 rfl
theorem L_135_8 : rd_look 135 8 = some (16, .getfield 35, 3, [11, 2, 89]) := rd_look_of LL_135 rfl
theorem L_135_9 : rd_look 135 9 = some (19, .invokevirtual 265, 3, [75, 0, 154, 6]) := rd_look_of LL_135 rfl
theorem L_135_10 : rd_look 135 10 = some (22, .aload_n 0, 1, []) := rd_look_of LL_135 rfl
theorem L_135_11 : rd_look 135 11 = some (23, .getfield 83, 3, [11, 8, 95]) := rd_look_of LL_135 rfl
theorem L_135_12 : rd_look 135 12 = some (26, .invokevirtual 268, 3, [13, 0, 155, 0]) := rd_look_of LL_135 rfl
theorem L_135_13 : rd_look 135 13 = some (29, .aload_n 0, 1, []) := rd_look_of LL_135 rfl
theorem L_135_14 : rd_look 135 14 = some (30, .getfield 51, 3, [11, 4, 91]) := rd_look_of LL_135 rfl
theorem L_135_15 : rd_look 135 15 = some (33, .getfield 110, 3, [7, 5, 96]) := rd_look_of LL_135 rfl
theorem L_135_16 : rd_look 135 16 = some (36, .iconst 0, 1, []) := rd_look_of LL_135 rfl
theorem L_135_17 : rd_look 135 17 = some (37, .invokestatic 271, 3, [193, 2, 156]) := rd_look_of LL_135 rfl
theorem L_135_18 : rd_look 135 18 = some (40, .iload_n 1, 1, []) := rd_look_of LL_135 rfl
theorem L_135_19 : rd_look 135 19 = some (41, .ireturn, 1, []) := rd_look_of LL_135 rfl
theorem L_137_0 : rd_look 137 0 = some (0, .iload_n 0, 1, []) := rd_look_of LL_137 rfl
theorem L_137_1 : rd_look 137 1 = some (1, .iload_n 1, 1, []) := rd_look_of LL_137 rfl
theorem L_137_2 : rd_look 137 2 = some (2, .if_icmp .lt 12, 3, [8]) := rd_look_of LL_137 rfl
theorem L_137_3 : rd_look 137 3 = some (5, .iload_n 0, 1, []) := rd_look_of LL_137 rfl
theorem L_137_4 : rd_look 137 4 = some (6, .iload_n 2, 1, []) := rd_look_of LL_137 rfl
theorem L_137_5 : rd_look 137 5 = some (7, .if_icmp .gt 7, 3, [8]) := rd_look_of LL_137 rfl
theorem L_137_6 : rd_look 137 6 = some (10, .iconst 1, 1, []) := rd_look_of LL_137 rfl
theorem L_137_7 : rd_look 137 7 = some (11, .goto 4, 3, [9]) := rd_look_of LL_137 rfl
theorem L_137_8 : rd_look 137 8 = some (14, .iconst 0, 1, []) := rd_look_of LL_137 rfl
theorem L_137_9 : rd_look 137 9 = some (15, .ireturn, 1, []) := rd_look_of LL_137 rfl
theorem L_138_0 : rd_look 138 0 = some (0, .iload_n 1, 1, []) := rd_look_of LL_138 rfl
theorem L_138_1 : rd_look 138 1 = some (1, .iconst (-1), 1, []) := rd_look_of LL_138 rfl
theorem L_138_2 : rd_look 138 2 = some (2, .aload_n 0, 1, []) := rd_look_of LL_138 rfl
theorem L_138_3 : rd_look 138 3 = some (3, .getfield 129, 3, [12, 0, 141]) := rd_look_of LL_138 rfl
theorem L_138_4 : rd_look 138 4 = some (6, .iconst 1, 1, []) := rd_look_of LL_138 rfl
theorem L_138_5 : rd_look 138 5 = some (7, .isub, 1, []) := rd_look_of LL_138 rfl
theorem L_138_6 : rd_look 138 6 = some (8, .invokestatic 133, 3, [137, 3, 158]) := rd_look_of LL_138 rfl
theorem L_138_7 : rd_look 138 7 = some (11, .ifCond .ne 5, 3, [10]) := rd_look_of LL_138 rfl
theorem L_138_8 : rd_look 138 8 = some (14, .iconst (-1), 1, []) := rd_look_of LL_138 rfl
theorem L_138_9 : rd_look 138 9 = some (15, .ireturn, 1, []) := rd_look_of LL_138 rfl
theorem L_138_10 : rd_look 138 10 = some (16, .aload_n 0, 1, []) := rd_look_of LL_138 rfl
theorem L_138_11 : rd_look 138 11 = some (17, .getfield 129, 3, [12, 0, 141]) := rd_look_of LL_138 rfl
theorem L_138_12 : rd_look 138 12 = some (20, .bipush 12, 2, []) := rd_look_of LL_138 rfl
theorem L_138_13 : rd_look 138 13 = some (22, .if_icmp .ne 6, 3, [16]) := rd_look_of LL_138 rfl
theorem L_138_14 : rd_look 138 14 = some (25, .bipush (-3), 2, []) := rd_look_of LL_138 rfl
theorem L_138_15 : rd_look 138 15 = some (27, .ireturn, 1, []) := rd_look_of LL_138 rfl
theorem L_138_16 : rd_look 138 16 = some (28, .aload_n 0, 1, []) := rd_look_of LL_138 rfl
theorem L_138_17 : rd_look 138 17 = some (29, .getfield 7, 3, [12, 1, 102]) := rd_look_of LL_138 rfl
theorem L_138_18 : rd_look 138 18 = some (32, .aload_n 0, 1, []) := rd_look_of LL_138 rfl
theorem L_138_19 : rd_look 138 19 = some (33, .getfield 129, 3, [12, 0, 141]) := rd_look_of LL_138 rfl
theorem L_138_20 : rd_look 138 20 = some (36, .iload_n 1, 1, []) := rd_look_of LL_138 rfl
theorem L_138_21 : rd_look 138 21 = some (37, .iastore, 1, []) := rd_look_of LL_138 rfl
theorem L_138_22 : rd_look 138 22 = some (38, .aload_n 0, 1, []) := rd_look_of LL_138 rfl
theorem L_138_23 : rd_look 138 23 = some (39, .getfield 13, 3, [12, 2, 103]) := rd_look_of LL_138 rfl
theorem L_138_24 : rd_look 138 24 = some (42, .aload_n 0, 1, []) := rd_look_of LL_138 rfl
theorem L_138_25 : rd_look 138 25 = some (43, .getfield 129, 3, [12, 0, 141]) := rd_look_of LL_138 rfl
theorem L_138_26 : rd_look 138 26 = some (46, .iload_n 1, 1, []) := rd_look_of LL_138 rfl
theorem L_138_27 : rd_look 138 27 = some (47, .ifCond .ge 7, 3, [30]) := rd_look_of LL_138 rfl
theorem L_138_28 : rd_look 138 28 = some (50, .iconst 0, 1, []) := rd_look_of LL_138 rfl
theorem L_138_29 : rd_look 138 29 = some (51, .goto 9, 3, [34]) := rd_look_of LL_138 rfl
theorem L_138_30 : rd_look 138 30 = some (54, .aload_n 0, 1, []) := rd_look_of LL_138 rfl
theorem L_138_31 : rd_look 138 31 = some (55, .getfield 13, 3, [12, 2, 103]) := rd_look_of LL_138 rfl
theorem L_138_32 : rd_look 138 32 = some (58, .iload_n 1, 1, []) := rd_look_of LL_138 rfl
theorem L_138_33 : rd_look 138 33 = some (59, .iaload, 1, []) := rd_look_of LL_138 rfl
theorem L_138_34 : rd_look 138 34 = some (60, .iastore, 1, []) := rd_look_of LL_138 rfl
theorem L_138_35 : rd_look 138 35 = some (61, .iconst 0, 1, []) := rd_look_of LL_138 rfl
theorem L_138_36 : rd_look 138 36 = some (62, .istore_n 2, 1, []) := rd_look_of LL_138 rfl
theorem L_138_37 : rd_look 138 37 = some (63, .iload_n 2, 1, []) := rd_look_of LL_138 rfl
theorem L_138_38 : rd_look 138 38 = some (64, .aload_n 0, 1, []) := rd_look_of LL_138 rfl
theorem L_138_39 : rd_look 138 39 = some (65, .getfield 13, 3, [12, 2, 103]) := rd_look_of LL_138 rfl
theorem L_138_40 : rd_look 138 40 = some (68, .aload_n 0, 1, []) := rd_look_of LL_138 rfl
theorem L_138_41 : rd_look 138 41 = some (69, .getfield 129, 3, [12, 0, 141]) := rd_look_of LL_138 rfl
theorem L_138_42 : rd_look 138 42 = some (72, .iaload, 1, []) := rd_look_of LL_138 rfl
theorem L_138_43 : rd_look 138 43 = some (73, .if_icmp .ge 79, 3, [91]) := rd_look_of LL_138 rfl
theorem L_138_44 : rd_look 138 44 = some (76, .bipush 8, 2, []) := rd_look_of LL_138 rfl
theorem L_138_45 : rd_look 138 45 = some (78, .iload_n 1, 1, []) := rd_look_of LL_138 rfl
theorem L_138_46 : rd_look 138 46 = some (79, .imul, 1, []) := rd_look_of LL_138 rfl
theorem L_138_47 : rd_look 138 47 = some (80, .iload_n 2, 1, []) := rd_look_of LL_138 rfl
theorem L_138_48 : rd_look 138 48 = some (81, .iadd, 1, []) := rd_look_of LL_138 rfl
theorem L_138_49 : rd_look 138 49 = some (82, .istore_n 3, 1, []) := rd_look_of LL_138 rfl
theorem L_138_50 : rd_look 138 50 = some (83, .bipush 8, 2, []) := rd_look_of LL_138 rfl
theorem L_138_51 : rd_look 138 51 = some (85, .aload_n 0, 1, []) := rd_look_of LL_138 rfl
theorem L_138_52 : rd_look 138 52 = some (86, .getfield 129, 3, [12, 0, 141]) := rd_look_of LL_138 rfl
theorem L_138_53 : rd_look 138 53 = some (89, .imul, 1, []) := rd_look_of LL_138 rfl
theorem L_138_54 : rd_look 138 54 = some (90, .iload_n 2, 1, []) := rd_look_of LL_138 rfl
theorem L_138_55 : rd_look 138 55 = some (91, .iadd, 1, []) := rd_look_of LL_138 rfl
theorem L_138_56 : rd_look 138 56 = some (92, .istore 4, 2, []) := rd_look_of LL_138 rfl
theorem L_138_57 : rd_look 138 57 = some (94, .aload_n 0, 1, []) := rd_look_of LL_138 rfl
theorem L_138_58 : rd_look 138 58 = some (95, .getfield 16, 3, [12, 3, 104]) := rd_look_of LL_138 rfl
theorem L_138_59 : rd_look 138 59 = some (98, .iload 4, 2, []) := rd_look_of LL_138 rfl
theorem L_138_60 : rd_look 138 60 = some (100, .aload_n 0, 1, []) := rd_look_of LL_138 rfl
theorem L_138_61 : rd_look 138 61 = some (101, .getfield 16, 3, [12, 3, 104]) := rd_look_of LL_138 rfl
theorem L_138_62 : rd_look 138 62 = some (104, .iload_n 3, 1, []) := rd_look_of LL_138 rfl
theorem L_138_63 : rd_look 138 63 = some (105, .iaload, 1, []) := rd_look_of LL_138 rfl
theorem L_138_64 : rd_look 138 64 = some (106, .iastore, 1, []) := rd_look_of LL_138 rfl
theorem L_138_65 : rd_look 138 65 = some (107, .aload_n 0, 1, []) := rd_look_of LL_138 rfl
theorem L_138_66 : rd_look 138 66 = some (108, .getfield 19, 3, [12, 4, 105]) := rd_look_of LL_138 rfl
theorem L_138_67 : rd_look 138 67 = some (111, .iload 4, 2, []) := rd_look_of LL_138 rfl
theorem L_138_68 : rd_look 138 68 = some (113, .aload_n 0, 1, []) := rd_look_of LL_138 rfl
theorem L_138_69 : rd_look 138 69 = some (114, .getfield 19, 3, [12, 4, 105]) := rd_look_of LL_138 rfl
theorem L_138_70 : rd_look 138 70 = some (117, .iload_n 3, 1, []) := rd_look_of LL_138 rfl
theorem L_138_71 : rd_look 138 71 = some (118, .iaload, 1, []) := rd_look_of LL_138 rfl
theorem L_138_72 : rd_look 138 72 = some (119, .iastore, 1, []) := rd_look_of LL_138 rfl
theorem L_138_73 : rd_look 138 73 = some (120, .aload_n 0, 1, []) := rd_look_of LL_138 rfl
theorem L_138_74 : rd_look 138 74 = some (121, .getfield 22, 3, [12, 5, 106]) := rd_look_of LL_138 rfl
theorem L_138_75 : rd_look 138 75 = some (124, .iload 4, 2, []) := rd_look_of LL_138 rfl
theorem L_138_76 : rd_look 138 76 = some (126, .aload_n 0, 1, []) := rd_look_of LL_138 rfl
theorem L_138_77 : rd_look 138 77 = some (127, .getfield 22, 3, [12, 5, 106]) := rd_look_of LL_138 rfl
theorem L_138_78 : rd_look 138 78 = some (130, .iload_n 3, 1, []) := rd_look_of LL_138 rfl
theorem L_138_79 : rd_look 138 79 = some (131, .iaload, 1, []) := rd_look_of LL_138 rfl
theorem L_138_80 : rd_look 138 80 = some (132, .iastore, 1, []) := rd_look_of LL_138 rfl
theorem L_138_81 : rd_look 138 81 = some (133, .aload_n 0, 1, []) := rd_look_of LL_138 rfl
theorem L_138_82 : rd_look 138 82 = some (134, .getfield 25, 3, [12, 6, 107]) := rd_look_of LL_138 rfl
theorem L_138_83 : rd_look 138 83 = some (137, .iload 4, 2, []) := rd_look_of LL_138 rfl
theorem L_138_84 : rd_look 138 84 = some (139, .aload_n 0, 1, []) := rd_look_of LL_138 rfl
theorem L_138_85 : rd_look 138 85 = some (140, .getfield 25, 3, [12, 6, 107]) := rd_look_of LL_138 rfl
theorem L_138_86 : rd_look 138 86 = some (143, .iload_n 3, 1, []) := rd_look_of LL_138 rfl
theorem L_138_87 : rd_look 138 87 = some (144, .iaload, 1, []) := rd_look_of LL_138 rfl
theorem L_138_88 : rd_look 138 88 = some (145, .iastore, 1, []) := rd_look_of LL_138 rfl
theorem L_138_89 : rd_look 138 89 = some (146, .iinc 2 1, 3, []) := rd_look_of LL_138 rfl
theorem L_138_90 : rd_look 138 90 = some (149, .goto (-86), 3, [37]) := rd_look_of LL_138 rfl
theorem L_138_91 : rd_look 138 91 = some (152, .aload_n 0, 1, []) := rd_look_of LL_138 rfl
theorem L_138_92 : rd_look 138 92 = some (153, .dup, 1, []) := rd_look_of LL_138 rfl
theorem L_138_93 : rd_look 138 93 = some (154, .getfield 129, 3, [12, 0, 141]) := rd_look_of LL_138 rfl
theorem L_138_94 : rd_look 138 94 = some (157, .iconst 1, 1, []) := rd_look_of LL_138 rfl
theorem L_138_95 : rd_look 138 95 = some (158, .iadd, 1, []) := rd_look_of LL_138 rfl
theorem L_138_96 : rd_look 138 96 = some (159, .putfield 129, 3, [12, 0, 141, 0]) := rd_look_of LL_138 rfl
theorem L_138_97 : rd_look 138 97 = some (162, .aload_n 0, 1, []) := rd_look_of LL_138 rfl
theorem L_138_98 : rd_look 138 98 = some (163, .getfield 129, 3, [12, 0, 141]) := rd_look_of LL_138 rfl
theorem L_138_99 : rd_look 138 99 = some (166, .iconst 1, 1, []) := rd_look_of LL_138 rfl
theorem L_138_100 : rd_look 138 100 = some (167, .isub, 1, []) := rd_look_of LL_138 rfl
theorem L_138_101 : rd_look 138 101 = some (168, .ireturn, 1, []) := rd_look_of LL_138 rfl
theorem L_139_0 : rd_look 139 0 = some (0, .iload_n 1, 1, []) := rd_look_of LL_139 rfl
theorem L_139_1 : rd_look 139 1 = some (1, .istore_n 3, 1, []) := rd_look_of LL_139 rfl
theorem L_139_2 : rd_look 139 2 = some (2, .iload_n 3, 1, []) := rd_look_of LL_139 rfl
theorem L_139_3 : rd_look 139 3 = some (3, .ifCond .lt 18, 3, [13]) := rd_look_of LL_139 rfl
theorem L_139_4 : rd_look 139 4 = some (6, .iload_n 3, 1, []) := rd_look_of LL_139 rfl
theorem L_139_5 : rd_look 139 5 = some (7, .iload_n 2, 1, []) := rd_look_of LL_139 rfl
theorem L_139_6 : rd_look 139 6 = some (8, .if_icmp .eq 13, 3, [13]) := rd_look_of LL_139 rfl
theorem L_139_7 : rd_look 139 7 = some (11, .aload_n 0, 1, []) := rd_look_of LL_139 rfl
theorem L_139_8 : rd_look 139 8 = some (12, .getfield 7, 3, [12, 1, 102]) := rd_look_of LL_139 rfl
theorem L_139_9 : rd_look 139 9 = some (15, .iload_n 3, 1, []) := rd_look_of LL_139 rfl
theorem L_139_10 : rd_look 139 10 = some (16, .iaload, 1, []) := rd_look_of LL_139 rfl
theorem L_139_11 : rd_look 139 11 = some (17, .istore_n 3, 1, []) := rd_look_of LL_139 rfl
theorem L_139_12 : rd_look 139 12 = some (18, .goto (-16), 3, [2]) := rd_look_of LL_139 rfl
theorem L_139_13 : rd_look 139 13 = some (21, .iload_n 3, 1, []) := rd_look_of LL_139 rfl
theorem L_139_14 : rd_look 139 14 = some (22, .ifCond .lt 7, 3, [17]) := rd_look_of LL_139 rfl
theorem L_139_15 : rd_look 139 15 = some (25, .iconst 1, 1, []) := rd_look_of LL_139 rfl
theorem L_139_16 : rd_look 139 16 = some (26, .goto 4, 3, [18]) := rd_look_of LL_139 rfl
theorem L_139_17 : rd_look 139 17 = some (29, .iconst 0, 1, []) := rd_look_of LL_139 rfl
theorem L_139_18 : rd_look 139 18 = some (30, .ireturn, 1, []) := rd_look_of LL_139 rfl
theorem L_140_0 : rd_look 140 0 = some (0, .iload_n 1, 1, []) := rd_look_of LL_140 rfl
theorem L_140_1 : rd_look 140 1 = some (1, .iconst 0, 1, []) := rd_look_of LL_140 rfl
theorem L_140_2 : rd_look 140 2 = some (2, .aload_n 0, 1, []) := rd_look_of LL_140 rfl
theorem L_140_3 : rd_look 140 3 = some (3, .getfield 129, 3, [12, 0, 141]) := rd_look_of LL_140 rfl
theorem L_140_4 : rd_look 140 4 = some (6, .iconst 1, 1, []) := rd_look_of LL_140 rfl
theorem L_140_5 : rd_look 140 5 = some (7, .isub, 1, []) := rd_look_of LL_140 rfl
theorem L_140_6 : rd_look 140 6 = some (8, .invokestatic 133, 3, [137, 3, 158]) := rd_look_of LL_140 rfl
theorem L_140_7 : rd_look 140 7 = some (11, .ifCond .eq 47, 3, [32]) := rd_look_of LL_140 rfl
theorem L_140_8 : rd_look 140 8 = some (14, .iload_n 2, 1, []) := rd_look_of LL_140 rfl
theorem L_140_9 : rd_look 140 9 = some (15, .iconst 0, 1, []) := rd_look_of LL_140 rfl
theorem L_140_10 : rd_look 140 10 = some (16, .iconst 3, 1, []) := rd_look_of LL_140 rfl
theorem L_140_11 : rd_look 140 11 = some (17, .invokestatic 133, 3, [137, 3, 158]) := rd_look_of LL_140 rfl
theorem L_140_12 : rd_look 140 12 = some (20, .ifCond .eq 38, 3, [32]) := rd_look_of LL_140 rfl
theorem L_140_13 : rd_look 140 13 = some (23, .iload_n 3, 1, []) := rd_look_of LL_140 rfl
theorem L_140_14 : rd_look 140 14 = some (24, .iconst 0, 1, []) := rd_look_of LL_140 rfl
theorem L_140_15 : rd_look 140 15 = some (25, .iconst 1, 1, []) := rd_look_of LL_140 rfl
theorem L_140_16 : rd_look 140 16 = some (26, .iload_n 2, 1, []) := rd_look_of LL_140 rfl
theorem L_140_17 : rd_look 140 17 = some (27, .ishl, 1, []) := rd_look_of LL_140 rfl
theorem L_140_18 : rd_look 140 18 = some (28, .iconst 1, 1, []) := rd_look_of LL_140 rfl
theorem L_140_19 : rd_look 140 19 = some (29, .isub, 1, []) := rd_look_of LL_140 rfl
theorem L_140_20 : rd_look 140 20 = some (30, .invokestatic 133, 3, [137, 3, 158]) := rd_look_of LL_140 rfl
theorem L_140_21 : rd_look 140 21 = some (33, .ifCond .eq 25, 3, [32]) := rd_look_of LL_140 rfl
theorem L_140_22 : rd_look 140 22 = some (36, .iload 4, 2, []) := rd_look_of LL_140 rfl
theorem L_140_23 : rd_look 140 23 = some (38, .iconst 0, 1, []) := rd_look_of LL_140 rfl
theorem L_140_24 : rd_look 140 24 = some (39, .iconst 2, 1, []) := rd_look_of LL_140 rfl
theorem L_140_25 : rd_look 140 25 = some (40, .invokestatic 133, 3, [137, 3, 158]) := rd_look_of LL_140 rfl
theorem L_140_26 : rd_look 140 26 = some (43, .ifCond .eq 15, 3, [32]) := rd_look_of LL_140 rfl
theorem L_140_27 : rd_look 140 27 = some (46, .iload 5, 2, []) := rd_look_of LL_140 rfl
theorem L_140_28 : rd_look 140 28 = some (48, .iconst 0, 1, []) := rd_look_of LL_140 rfl
theorem L_140_29 : rd_look 140 29 = some (49, .sipush 255, 3, []) := rd_look_of LL_140 rfl
theorem L_140_30 : rd_look 140 30 = some (52, .invokestatic 133, 3, [137, 3, 158]) := rd_look_of LL_140 rfl
theorem L_140_31 : rd_look 140 31 = some (55, .ifCond .ne 5, 3, [34]) := rd_look_of LL_140 rfl
theorem L_140_32 : rd_look 140 32 = some (58, .iconst (-1), 1, []) := rd_look_of LL_140 rfl
theorem L_140_33 : rd_look 140 33 = some (59, .ireturn, 1, []) := rd_look_of LL_140 rfl
theorem L_140_34 : rd_look 140 34 = some (60, .iconst 0, 1, []) := rd_look_of LL_140 rfl
theorem L_140_35 : rd_look 140 35 = some (61, .istore 6, 2, []) := rd_look_of LL_140 rfl
theorem L_140_36 : rd_look 140 36 = some (63, .iconst 0, 1, []) := rd_look_of LL_140 rfl
theorem L_140_37 : rd_look 140 37 = some (64, .istore 7, 2, []) := rd_look_of LL_140 rfl
theorem L_140_38 : rd_look 140 38 = some (66, .iload 7, 2, []) := rd_look_of LL_140 rfl
theorem L_140_39 : rd_look 140 39 = some (68, .aload_n 0, 1, []) := rd_look_of LL_140 rfl
theorem L_140_40 : rd_look 140 40 = some (69, .getfield 129, 3, [12, 0, 141]) := rd_look_of LL_140 rfl
theorem L_140_41 : rd_look 140 41 = some (72, .if_icmp .ge 32, 3, [56]) := rd_look_of LL_140 rfl
theorem L_140_42 : rd_look 140 42 = some (75, .iload 6, 2, []) := rd_look_of LL_140 rfl
theorem L_140_43 : rd_look 140 43 = some (77, .ifCond .ne 14, 3, [50]) := rd_look_of LL_140 rfl
theorem L_140_44 : rd_look 140 44 = some (80, .aload_n 0, 1, []) := rd_look_of LL_140 rfl
theorem L_140_45 : rd_look 140 45 = some (81, .getfield 7, 3, [12, 1, 102]) := rd_look_of LL_140 rfl
theorem L_140_46 : rd_look 140 46 = some (84, .iload 7, 2, []) := rd_look_of LL_140 rfl
theorem L_140_47 : rd_look 140 47 = some (86, .iaload, 1, []) := rd_look_of LL_140 rfl
theorem L_140_48 : rd_look 140 48 = some (87, .iload_n 1, 1, []) := rd_look_of LL_140 rfl
theorem L_140_49 : rd_look 140 49 = some (88, .if_icmp .ne 7, 3, [52]) := rd_look_of LL_140 rfl
theorem L_140_50 : rd_look 140 50 = some (91, .iconst 1, 1, []) := rd_look_of LL_140 rfl
theorem L_140_51 : rd_look 140 51 = some (92, .goto 4, 3, [53]) := rd_look_of LL_140 rfl
theorem L_140_52 : rd_look 140 52 = some (95, .iconst 0, 1, []) := rd_look_of LL_140 rfl
theorem L_140_53 : rd_look 140 53 = some (96, .istore 6, 2, []) := rd_look_of LL_140 rfl
theorem L_140_54 : rd_look 140 54 = some (98, .iinc 7 1, 3, []) := rd_look_of LL_140 rfl
theorem L_140_55 : rd_look 140 55 = some (101, .goto (-35), 3, [38]) := rd_look_of LL_140 rfl
theorem L_140_56 : rd_look 140 56 = some (104, .iconst 0, 1, []) := rd_look_of LL_140 rfl
theorem L_140_57 : rd_look 140 57 = some (105, .istore 7, 2, []) := rd_look_of LL_140 rfl
theorem L_140_58 : rd_look 140 58 = some (107, .iload 7, 2, []) := rd_look_of LL_140 rfl
theorem L_140_59 : rd_look 140 59 = some (109, .aload_n 0, 1, []) := rd_look_of LL_140 rfl
theorem L_140_60 : rd_look 140 60 = some (110, .getfield 137, 3, [12, 7, 142]) := rd_look_of LL_140 rfl
theorem L_140_61 : rd_look 140 61 = some (113, .if_icmp .ge 36, 3, [78]) := rd_look_of LL_140 rfl
theorem L_140_62 : rd_look 140 62 = some (116, .iload 6, 2, []) := rd_look_of LL_140 rfl
theorem L_140_63 : rd_look 140 63 = some (118, .ifCond .ne 18, 3, [72]) := rd_look_of LL_140 rfl
theorem L_140_64 : rd_look 140 64 = some (121, .aload_n 0, 1, []) := rd_look_of LL_140 rfl
theorem L_140_65 : rd_look 140 65 = some (122, .aload_n 0, 1, []) := rd_look_of LL_140 rfl
theorem L_140_66 : rd_look 140 66 = some (123, .getfield 28, 3, [12, 8, 108]) := rd_look_of LL_140 rfl
theorem L_140_67 : rd_look 140 67 = some (126, .iload 7, 2, []) := rd_look_of LL_140 rfl
theorem L_140_68 : rd_look 140 68 = some (128, .iaload, 1, []) := rd_look_of LL_140 rfl
theorem L_140_69 : rd_look 140 69 = some (129, .iload_n 1, 1, []) := rd_look_of LL_140 rfl
theorem L_140_70 : rd_look 140 70 = some (130, .invokevirtual 140, 3, [139, 2, 159, 12]) := rd_look_of LL_140 rfl
theorem L_140_71 : rd_look 140 71 = some (133, .ifCond .eq 7, 3, [74]) := rd_look_of LL_140 rfl
theorem L_140_72 : rd_look 140 72 = some (136, .iconst 1, 1, []) := rd_look_of LL_140 rfl
theorem L_140_73 : rd_look 140 73 = some (137, .goto 4, 3, [75]) := rd_look_of LL_140 rfl
theorem L_140_74 : rd_look 140 74 = some (140, .iconst 0, 1, []) := rd_look_of LL_140 rfl
theorem L_140_75 : rd_look 140 75 = some (141, .istore 6, 2, []) := rd_look_of LL_140 rfl
theorem L_140_76 : rd_look 140 76 = some (143, .iinc 7 1, 3, []) := rd_look_of LL_140 rfl
theorem L_140_77 : rd_look 140 77 = some (146, .goto (-39), 3, [58]) := rd_look_of LL_140 rfl
theorem L_140_78 : rd_look 140 78 = some (149, .iload 6, 2, []) := rd_look_of LL_140 rfl
theorem L_140_79 : rd_look 140 79 = some (151, .ifCond .eq 6, 3, [82]) := rd_look_of LL_140 rfl
theorem L_140_80 : rd_look 140 80 = some (154, .bipush (-2), 2, []) := rd_look_of LL_140 rfl
theorem L_140_81 : rd_look 140 81 = some (156, .ireturn, 1, []) := rd_look_of LL_140 rfl
theorem L_140_82 : rd_look 140 82 = some (157, .aload_n 0, 1, []) := rd_look_of LL_140 rfl
theorem L_140_83 : rd_look 140 83 = some (158, .getfield 13, 3, [12, 2, 103]) := rd_look_of LL_140 rfl
theorem L_140_84 : rd_look 140 84 = some (161, .iload_n 1, 1, []) := rd_look_of LL_140 rfl
theorem L_140_85 : rd_look 140 85 = some (162, .iaload, 1, []) := rd_look_of LL_140 rfl
theorem L_140_86 : rd_look 140 86 = some (163, .bipush 8, 2, []) := rd_look_of LL_140 rfl
theorem L_140_87 : rd_look 140 87 = some (165, .if_icmp .ne 6, 3, [90]) := rd_look_of LL_140 rfl
theorem L_140_88 : rd_look 140 88 = some (168, .bipush (-3), 2, []) := rd_look_of LL_140 rfl
theorem L_140_89 : rd_look 140 89 = some (170, .ireturn, 1, []) := rd_look_of LL_140 rfl
theorem L_140_90 : rd_look 140 90 = some (171, .bipush 8, 2, []) := rd_look_of LL_140 rfl
theorem L_140_91 : rd_look 140 91 = some (173, .iload_n 1, 1, []) := rd_look_of LL_140 rfl
theorem L_140_92 : rd_look 140 92 = some (174, .imul, 1, []) := rd_look_of LL_140 rfl
theorem L_140_93 : rd_look 140 93 = some (175, .aload_n 0, 1, []) := rd_look_of LL_140 rfl
theorem L_140_94 : rd_look 140 94 = some (176, .getfield 13, 3, [12, 2, 103]) := rd_look_of LL_140 rfl
theorem L_140_95 : rd_look 140 95 = some (179, .iload_n 1, 1, []) := rd_look_of LL_140 rfl
theorem L_140_96 : rd_look 140 96 = some (180, .iaload, 1, []) := rd_look_of LL_140 rfl
theorem L_140_97 : rd_look 140 97 = some (181, .iadd, 1, []) := rd_look_of LL_140 rfl
theorem L_140_98 : rd_look 140 98 = some (182, .istore 7, 2, []) := rd_look_of LL_140 rfl
theorem L_140_99 : rd_look 140 99 = some (184, .aload_n 0, 1, []) := rd_look_of LL_140 rfl
theorem L_140_100 : rd_look 140 100 = some (185, .getfield 16, 3, [12, 3, 104]) := rd_look_of LL_140 rfl
theorem L_140_101 : rd_look 140 101 = some (188, .iload 7, 2, []) := rd_look_of LL_140 rfl
theorem L_140_102 : rd_look 140 102 = some (190, .iload_n 2, 1, []) := rd_look_of LL_140 rfl
theorem L_140_103 : rd_look 140 103 = some (191, .iastore, 1, []) := rd_look_of LL_140 rfl
theorem L_140_104 : rd_look 140 104 = some (192, .aload_n 0, 1, []) := rd_look_of LL_140 rfl
theorem L_140_105 : rd_look 140 105 = some (193, .getfield 19, 3, [12, 4, 105]) := rd_look_of LL_140 rfl
theorem L_140_106 : rd_look 140 106 = some (196, .iload 7, 2, []) := rd_look_of LL_140 rfl
theorem L_140_107 : rd_look 140 107 = some (198, .iload_n 3, 1, []) := rd_look_of LL_140 rfl
theorem L_140_108 : rd_look 140 108 = some (199, .iastore, 1, []) := rd_look_of LL_140 rfl
theorem L_140_109 : rd_look 140 109 = some (200, .aload_n 0, 1, []) := rd_look_of LL_140 rfl
theorem L_140_110 : rd_look 140 110 = some (201, .getfield 22, 3, [12, 5, 106]) := rd_look_of LL_140 rfl
theorem L_140_111 : rd_look 140 111 = some (204, .iload 7, 2, []) := rd_look_of LL_140 rfl
theorem L_140_112 : rd_look 140 112 = some (206, .iload 4, 2, []) := rd_look_of LL_140 rfl
theorem L_140_113 : rd_look 140 113 = some (208, .iastore, 1, []) := rd_look_of LL_140 rfl
theorem L_140_114 : rd_look 140 114 = some (209, .aload_n 0, 1, []) := rd_look_of LL_140 rfl
theorem L_140_115 : rd_look 140 115 = some (210, .getfield 25, 3, [12, 6, 107]) := rd_look_of LL_140 rfl
theorem L_140_116 : rd_look 140 116 = some (213, .iload 7, 2, []) := rd_look_of LL_140 rfl
theorem L_140_117 : rd_look 140 117 = some (215, .iload 5, 2, []) := rd_look_of LL_140 rfl
theorem L_140_118 : rd_look 140 118 = some (217, .iastore, 1, []) := rd_look_of LL_140 rfl
theorem L_140_119 : rd_look 140 119 = some (218, .aload_n 0, 1, []) := rd_look_of LL_140 rfl
theorem L_140_120 : rd_look 140 120 = some (219, .getfield 13, 3, [12, 2, 103]) := rd_look_of LL_140 rfl
theorem L_140_121 : rd_look 140 121 = some (222, .iload_n 1, 1, []) := rd_look_of LL_140 rfl
theorem L_140_122 : rd_look 140 122 = some (223, .dup2, 1, []) := rd_look_of LL_140 rfl
theorem L_140_123 : rd_look 140 123 = some (224, .iaload, 1, []) := rd_look_of LL_140 rfl
theorem L_140_124 : rd_look 140 124 = some (225, .iconst 1, 1, []) := rd_look_of LL_140 rfl
theorem L_140_125 : rd_look 140 125 = some (226, .iadd, 1, []) := rd_look_of LL_140 rfl
theorem L_140_126 : rd_look 140 126 = some (227, .iastore, 1, []) := rd_look_of LL_140 rfl
theorem L_140_127 : rd_look 140 127 = some (228, .aload_n 0, 1, []) := rd_look_of LL_140 rfl
theorem L_140_128 : rd_look 140 128 = some (229, .getfield 13, 3, [12, 2, 103]) := rd_look_of LL_140 rfl
theorem L_140_129 : rd_look 140 129 = some (232, .iload_n 1, 1, []) := rd_look_of LL_140 rfl
theorem L_140_130 : rd_look 140 130 = some (233, .iaload, 1, []) := rd_look_of LL_140 rfl
theorem L_140_131 : rd_look 140 131 = some (234, .iconst 1, 1, []) := rd_look_of LL_140 rfl
theorem L_140_132 : rd_look 140 132 = some (235, .isub, 1, []) := rd_look_of LL_140 rfl
theorem L_140_133 : rd_look 140 133 = some (236, .ireturn, 1, []) := rd_look_of LL_140 rfl
theorem L_141_0 : rd_look 141 0 = some (0, .iload_n 1, 1, []) := rd_look_of LL_141 rfl
theorem L_141_1 : rd_look 141 1 = some (1, .iconst 0, 1, []) := rd_look_of LL_141 rfl
theorem L_141_2 : rd_look 141 2 = some (2, .aload_n 0, 1, []) := rd_look_of LL_141 rfl
theorem L_141_3 : rd_look 141 3 = some (3, .getfield 129, 3, [12, 0, 141]) := rd_look_of LL_141 rfl
theorem L_141_4 : rd_look 141 4 = some (6, .iconst 1, 1, []) := rd_look_of LL_141 rfl
theorem L_141_5 : rd_look 141 5 = some (7, .isub, 1, []) := rd_look_of LL_141 rfl
theorem L_141_6 : rd_look 141 6 = some (8, .invokestatic 133, 3, [137, 3, 158]) := rd_look_of LL_141 rfl
theorem L_141_7 : rd_look 141 7 = some (11, .ifCond .eq 12, 3, [13]) := rd_look_of LL_141 rfl
theorem L_141_8 : rd_look 141 8 = some (14, .iload_n 2, 1, []) := rd_look_of LL_141 rfl
theorem L_141_9 : rd_look 141 9 = some (15, .iconst (-1), 1, []) := rd_look_of LL_141 rfl
theorem L_141_10 : rd_look 141 10 = some (16, .iconst 5, 1, []) := rd_look_of LL_141 rfl
theorem L_141_11 : rd_look 141 11 = some (17, .invokestatic 133, 3, [137, 3, 158]) := rd_look_of LL_141 rfl
theorem L_141_12 : rd_look 141 12 = some (20, .ifCond .ne 5, 3, [15]) := rd_look_of LL_141 rfl
theorem L_141_13 : rd_look 141 13 = some (23, .iconst (-1), 1, []) := rd_look_of LL_141 rfl
theorem L_141_14 : rd_look 141 14 = some (24, .ireturn, 1, []) := rd_look_of LL_141 rfl
theorem L_141_15 : rd_look 141 15 = some (25, .aload_n 0, 1, []) := rd_look_of LL_141 rfl
theorem L_141_16 : rd_look 141 16 = some (26, .getfield 137, 3, [12, 7, 142]) := rd_look_of LL_141 rfl
theorem L_141_17 : rd_look 141 17 = some (29, .bipush 24, 2, []) := rd_look_of LL_141 rfl
theorem L_141_18 : rd_look 141 18 = some (31, .if_icmp .ne 6, 3, [21]) := rd_look_of LL_141 rfl
theorem L_141_19 : rd_look 141 19 = some (34, .bipush (-3), 2, []) := rd_look_of LL_141 rfl
theorem L_141_20 : rd_look 141 20 = some (36, .ireturn, 1, []) := rd_look_of LL_141 rfl
theorem L_141_21 : rd_look 141 21 = some (37, .aload_n 0, 1, []) := rd_look_of LL_141 rfl
theorem L_141_22 : rd_look 141 22 = some (38, .getfield 28, 3, [12, 8, 108]) := rd_look_of LL_141 rfl
theorem L_141_23 : rd_look 141 23 = some (41, .aload_n 0, 1, []) := rd_look_of LL_141 rfl
theorem L_141_24 : rd_look 141 24 = some (42, .getfield 137, 3, [12, 7, 142]) := rd_look_of LL_141 rfl
theorem L_141_25 : rd_look 141 25 = some (45, .iload_n 1, 1, []) := rd_look_of LL_141 rfl
theorem L_141_26 : rd_look 141 26 = some (46, .iastore, 1, []) := rd_look_of LL_141 rfl
theorem L_141_27 : rd_look 141 27 = some (47, .aload_n 0, 1, []) := rd_look_of LL_141 rfl
theorem L_141_28 : rd_look 141 28 = some (48, .getfield 31, 3, [12, 9, 109]) := rd_look_of LL_141 rfl
theorem L_141_29 : rd_look 141 29 = some (51, .aload_n 0, 1, []) := rd_look_of LL_141 rfl
theorem L_141_30 : rd_look 141 30 = some (52, .getfield 137, 3, [12, 7, 142]) := rd_look_of LL_141 rfl
theorem L_141_31 : rd_look 141 31 = some (55, .iload_n 2, 1, []) := rd_look_of LL_141 rfl
theorem L_141_32 : rd_look 141 32 = some (56, .iastore, 1, []) := rd_look_of LL_141 rfl
theorem L_141_33 : rd_look 141 33 = some (57, .aload_n 0, 1, []) := rd_look_of LL_141 rfl
theorem L_141_34 : rd_look 141 34 = some (58, .dup, 1, []) := rd_look_of LL_141 rfl
theorem L_141_35 : rd_look 141 35 = some (59, .getfield 137, 3, [12, 7, 142]) := rd_look_of LL_141 rfl
theorem L_141_36 : rd_look 141 36 = some (62, .iconst 1, 1, []) := rd_look_of LL_141 rfl
theorem L_141_37 : rd_look 141 37 = some (63, .iadd, 1, []) := rd_look_of LL_141 rfl
theorem L_141_38 : rd_look 141 38 = some (64, .putfield 137, 3, [12, 7, 142, 0]) := rd_look_of LL_141 rfl
theorem L_141_39 : rd_look 141 39 = some (67, .aload_n 0, 1, []) := rd_look_of LL_141 rfl
theorem L_141_40 : rd_look 141 40 = some (68, .getfield 137, 3, [12, 7, 142]) := rd_look_of LL_141 rfl
theorem L_141_41 : rd_look 141 41 = some (71, .iconst 1, 1, []) := rd_look_of LL_141 rfl
theorem L_141_42 : rd_look 141 42 = some (72, .isub, 1, []) := rd_look_of LL_141 rfl
theorem L_141_43 : rd_look 141 43 = some (73, .ireturn, 1, []) := rd_look_of LL_141 rfl
theorem L_142_0 : rd_look 142 0 = some (0, .iload_n 1, 1, []) := rd_look_of LL_142 rfl
theorem L_142_1 : rd_look 142 1 = some (1, .iconst 0, 1, []) := rd_look_of LL_142 rfl
theorem L_142_2 : rd_look 142 2 = some (2, .aload_n 0, 1, []) := rd_look_of LL_142 rfl
theorem L_142_3 : rd_look 142 3 = some (3, .getfield 137, 3, [12, 7, 142]) := rd_look_of LL_142 rfl
theorem L_142_4 : rd_look 142 4 = some (6, .iconst 1, 1, []) := rd_look_of LL_142 rfl
theorem L_142_5 : rd_look 142 5 = some (7, .isub, 1, []) := rd_look_of LL_142 rfl
theorem L_142_6 : rd_look 142 6 = some (8, .invokestatic 133, 3, [137, 3, 158]) := rd_look_of LL_142 rfl
theorem L_142_7 : rd_look 142 7 = some (11, .ireturn, 1, []) := rd_look_of LL_142 rfl
theorem L_143_0 : rd_look 143 0 = some (0, .aload_n 0, 1, []) := rd_look_of LL_143 rfl
theorem L_143_1 : rd_look 143 1 = some (1, .iload_n 1, 1, []) := rd_look_of LL_143 rfl
theorem L_143_2 : rd_look 143 2 = some (2, .invokevirtual 144, 3, [142, 1, 160, 12]) := rd_look_of LL_143 rfl
theorem L_143_3 : rd_look 143 3 = some (5, .ifCond .eq 17, 3, [12]) := rd_look_of LL_143 rfl
theorem L_143_4 : rd_look 143 4 = some (8, .iload_n 2, 1, []) := rd_look_of LL_143 rfl
theorem L_143_5 : rd_look 143 5 = some (9, .iconst 0, 1, []) := rd_look_of LL_143 rfl
theorem L_143_6 : rd_look 143 6 = some (10, .aload_n 0, 1, []) := rd_look_of LL_143 rfl
theorem L_143_7 : rd_look 143 7 = some (11, .getfield 129, 3, [12, 0, 141]) := rd_look_of LL_143 rfl
theorem L_143_8 : rd_look 143 8 = some (14, .iconst 1, 1, []) := rd_look_of LL_143 rfl
theorem L_143_9 : rd_look 143 9 = some (15, .isub, 1, []) := rd_look_of LL_143 rfl
theorem L_143_10 : rd_look 143 10 = some (16, .invokestatic 133, 3, [137, 3, 158]) := rd_look_of LL_143 rfl
theorem L_143_11 : rd_look 143 11 = some (19, .ifCond .ne 7, 3, [14]) := rd_look_of LL_143 rfl
theorem L_143_12 : rd_look 143 12 = some (22, .iconst (-1), 1, []) := rd_look_of LL_143 rfl
theorem L_143_13 : rd_look 143 13 = some (23, .goto 22, 3, [25]) := rd_look_of LL_143 rfl
theorem L_143_14 : rd_look 143 14 = some (26, .aload_n 0, 1, []) := rd_look_of LL_143 rfl
theorem L_143_15 : rd_look 143 15 = some (27, .aload_n 0, 1, []) := rd_look_of LL_143 rfl
theorem L_143_16 : rd_look 143 16 = some (28, .getfield 28, 3, [12, 8, 108]) := rd_look_of LL_143 rfl
theorem L_143_17 : rd_look 143 17 = some (31, .iload_n 1, 1, []) := rd_look_of LL_143 rfl
theorem L_143_18 : rd_look 143 18 = some (32, .iaload, 1, []) := rd_look_of LL_143 rfl
theorem L_143_19 : rd_look 143 19 = some (33, .iload_n 2, 1, []) := rd_look_of LL_143 rfl
theorem L_143_20 : rd_look 143 20 = some (34, .invokevirtual 140, 3, [139, 2, 159, 12]) := rd_look_of LL_143 rfl
theorem L_143_21 : rd_look 143 21 = some (37, .ifCond .eq 7, 3, [24]) := rd_look_of LL_143 rfl
theorem L_143_22 : rd_look 143 22 = some (40, .iconst 1, 1, []) := rd_look_of LL_143 rfl
theorem L_143_23 : rd_look 143 23 = some (41, .goto 4, 3, [25]) := rd_look_of LL_143 rfl
theorem L_143_24 : rd_look 143 24 = some (44, .iconst 0, 1, []) := rd_look_of LL_143 rfl
theorem L_143_25 : rd_look 143 25 = some (45, .ireturn, 1, []) := rd_look_of LL_143 rfl
theorem L_144_0 : rd_look 144 0 = some (0, .iload_n 1, 1, []) := rd_look_of LL_144 rfl
theorem L_144_1 : rd_look 144 1 = some (1, .iconst 0, 1, []) := rd_look_of LL_144 rfl
theorem L_144_2 : rd_look 144 2 = some (2, .iconst 5, 1, []) := rd_look_of LL_144 rfl
theorem L_144_3 : rd_look 144 3 = some (3, .invokestatic 133, 3, [137, 3, 158]) := rd_look_of LL_144 rfl
theorem L_144_4 : rd_look 144 4 = some (6, .ifCond .eq 12, 3, [10]) := rd_look_of LL_144 rfl
theorem L_144_5 : rd_look 144 5 = some (9, .aload_n 0, 1, []) := rd_look_of LL_144 rfl
theorem L_144_6 : rd_look 144 6 = some (10, .getfield 34, 3, [12, 10, 110]) := rd_look_of LL_144 rfl
theorem L_144_7 : rd_look 144 7 = some (13, .iload_n 1, 1, []) := rd_look_of LL_144 rfl
theorem L_144_8 : rd_look 144 8 = some (14, .iaload, 1, []) := rd_look_of LL_144 rfl
theorem L_144_9 : rd_look 144 9 = some (15, .goto 4, 3, [11]) := rd_look_of LL_144 rfl
theorem L_144_10 : rd_look 144 10 = some (18, .iconst (-1), 1, []) := rd_look_of LL_144 rfl
theorem L_144_11 : rd_look 144 11 = some (19, .ireturn, 1, []) := rd_look_of LL_144 rfl
theorem L_145_0 : rd_look 145 0 = some (0, .iload_n 2, 1, []) := rd_look_of LL_145 rfl
theorem L_145_1 : rd_look 145 1 = some (1, .iconst 0, 1, []) := rd_look_of LL_145 rfl
theorem L_145_2 : rd_look 145 2 = some (2, .aload_n 0, 1, []) := rd_look_of LL_145 rfl
theorem L_145_3 : rd_look 145 3 = some (3, .getfield 13, 3, [12, 2, 103]) := rd_look_of LL_145 rfl
theorem L_145_4 : rd_look 145 4 = some (6, .aload_n 0, 1, []) := rd_look_of LL_145 rfl
theorem L_145_5 : rd_look 145 5 = some (7, .getfield 28, 3, [12, 8, 108]) := rd_look_of LL_145 rfl
theorem L_145_6 : rd_look 145 6 = some (10, .iload_n 1, 1, []) := rd_look_of LL_145 rfl
theorem L_145_7 : rd_look 145 7 = some (11, .iaload, 1, []) := rd_look_of LL_145 rfl
theorem L_145_8 : rd_look 145 8 = some (12, .iaload, 1, []) := rd_look_of LL_145 rfl
theorem L_145_9 : rd_look 145 9 = some (13, .iconst 1, 1, []) := rd_look_of LL_145 rfl
theorem L_145_10 : rd_look 145 10 = some (14, .isub, 1, []) := rd_look_of LL_145 rfl
theorem L_145_11 : rd_look 145 11 = some (15, .invokestatic 133, 3, [137, 3, 158]) := rd_look_of LL_145 rfl
theorem L_145_12 : rd_look 145 12 = some (18, .ireturn, 1, []) := rd_look_of LL_145 rfl
theorem L_146_0 : rd_look 146 0 = some (0, .bipush 8, 2, []) := rd_look_of LL_146 rfl
theorem L_146_1 : rd_look 146 1 = some (2, .aload_n 0, 1, []) := rd_look_of LL_146 rfl
theorem L_146_2 : rd_look 146 2 = some (3, .getfield 28, 3, [12, 8, 108]) := rd_look_of LL_146 rfl
theorem L_146_3 : rd_look 146 3 = some (6, .iload_n 1, 1, []) := rd_look_of LL_146 rfl
theorem L_146_4 : rd_look 146 4 = some (7, .iaload, 1, []) := rd_look_of LL_146 rfl
theorem L_146_5 : rd_look 146 5 = some (8, .imul, 1, []) := rd_look_of LL_146 rfl
theorem L_146_6 : rd_look 146 6 = some (9, .iload_n 2, 1, []) := rd_look_of LL_146 rfl
theorem L_146_7 : rd_look 146 7 = some (10, .iadd, 1, []) := rd_look_of LL_146 rfl
theorem L_146_8 : rd_look 146 8 = some (11, .ireturn, 1, []) := rd_look_of LL_146 rfl
theorem L_147_0 : rd_look 147 0 = some (0, .aload_n 0, 1, []) := rd_look_of LL_147 rfl
theorem L_147_1 : rd_look 147 1 = some (1, .getfield 19, 3, [12, 4, 105]) := rd_look_of LL_147 rfl
theorem L_147_2 : rd_look 147 2 = some (4, .aload_n 0, 1, []) := rd_look_of LL_147 rfl
theorem L_147_3 : rd_look 147 3 = some (5, .iload_n 1, 1, []) := rd_look_of LL_147 rfl
theorem L_147_4 : rd_look 147 4 = some (6, .iload_n 2, 1, []) := rd_look_of LL_147 rfl
theorem L_147_5 : rd_look 147 5 = some (7, .invokevirtual 148, 3, [146, 2, 161, 12]) := rd_look_of LL_147 rfl
theorem L_147_6 : rd_look 147 6 = some (10, .iaload, 1, []) := rd_look_of LL_147 rfl
theorem L_147_7 : rd_look 147 7 = some (11, .iload_n 3, 1, []) := rd_look_of LL_147 rfl
theorem L_147_8 : rd_look 147 8 = some (12, .ishr, 1, []) := rd_look_of LL_147 rfl
theorem L_147_9 : rd_look 147 9 = some (13, .iconst 1, 1, []) := rd_look_of LL_147 rfl
theorem L_147_10 : rd_look 147 10 = some (14, .iand, 1, []) := rd_look_of LL_147 rfl
theorem L_147_11 : rd_look 147 11 = some (15, .iconst 1, 1, []) := rd_look_of LL_147 rfl
theorem L_147_12 : rd_look 147 12 = some (16, .if_icmp .ne 7, 3, [15]) := rd_look_of LL_147 rfl
theorem L_147_13 : rd_look 147 13 = some (19, .iconst 1, 1, []) := rd_look_of LL_147 rfl
theorem L_147_14 : rd_look 147 14 = some (20, .goto 4, 3, [16]) := rd_look_of LL_147 rfl
theorem L_147_15 : rd_look 147 15 = some (23, .iconst 0, 1, []) := rd_look_of LL_147 rfl
theorem L_147_16 : rd_look 147 16 = some (24, .ireturn, 1, []) := rd_look_of LL_147 rfl
theorem L_148_0 : rd_look 148 0 = some (0, .aload_n 0, 1, []) := rd_look_of LL_148 rfl
theorem L_148_1 : rd_look 148 1 = some (1, .getfield 37, 3, [12, 11, 111]) := rd_look_of LL_148 rfl
theorem L_148_2 : rd_look 148 2 = some (4, .iload_n 1, 1, []) := rd_look_of LL_148 rfl
theorem L_148_3 : rd_look 148 3 = some (5, .iload_n 2, 1, []) := rd_look_of LL_148 rfl
theorem L_148_4 : rd_look 148 4 = some (6, .iastore, 1, []) := rd_look_of LL_148 rfl
theorem L_148_5 : rd_look 148 5 = some (7, .aload_n 0, 1, []) := rd_look_of LL_148 rfl
theorem L_148_6 : rd_look 148 6 = some (8, .getfield 40, 3, [12, 12, 112]) := rd_look_of LL_148 rfl
theorem L_148_7 : rd_look 148 7 = some (11, .iload_n 1, 1, []) := rd_look_of LL_148 rfl
theorem L_148_8 : rd_look 148 8 = some (12, .iload_n 3, 1, []) := rd_look_of LL_148 rfl
theorem L_148_9 : rd_look 148 9 = some (13, .iastore, 1, []) := rd_look_of LL_148 rfl
theorem L_148_10 : rd_look 148 10 = some (14, .iconst 0, 1, []) := rd_look_of LL_148 rfl
theorem L_148_11 : rd_look 148 11 = some (15, .istore 4, 2, []) := rd_look_of LL_148 rfl
theorem L_148_12 : rd_look 148 12 = some (17, .iload 4, 2, []) := rd_look_of LL_148 rfl
theorem L_148_13 : rd_look 148 13 = some (19, .iconst 3, 1, []) := rd_look_of LL_148 rfl
theorem L_148_14 : rd_look 148 14 = some (20, .if_icmp .ge 21, 3, [26]) := rd_look_of LL_148 rfl
theorem L_148_15 : rd_look 148 15 = some (23, .aload_n 0, 1, []) := rd_look_of LL_148 rfl
theorem L_148_16 : rd_look 148 16 = some (24, .getfield 43, 3, [12, 13, 113]) := rd_look_of LL_148 rfl
theorem L_148_17 : rd_look 148 17 = some (27, .iconst 3, 1, []) := rd_look_of LL_148 rfl
theorem L_148_18 : rd_look 148 18 = some (28, .iload_n 1, 1, []) := rd_look_of LL_148 rfl
theorem L_148_19 : rd_look 148 19 = some (29, .imul, 1, []) := rd_look_of LL_148 rfl
theorem L_148_20 : rd_look 148 20 = some (30, .iload 4, 2, []) := rd_look_of LL_148 rfl
theorem L_148_21 : rd_look 148 21 = some (32, .iadd, 1, []) := rd_look_of LL_148 rfl
theorem L_148_22 : rd_look 148 22 = some (33, .iconst 0, 1, []) := rd_look_of LL_148 rfl
theorem L_148_23 : rd_look 148 23 = some (34, .iastore, 1, []) := rd_look_of LL_148 rfl
theorem L_148_24 : rd_look 148 24 = some (35, .iinc 4 1, 3, []) := rd_look_of LL_148 rfl
theorem L_148_25 : rd_look 148 25 = some (38, .goto (-21), 3, [12]) := rd_look_of LL_148 rfl
theorem L_148_26 : rd_look 148 26 = some (41, .return_, 1, []) := rd_look_of LL_148 rfl
theorem L_149_0 : rd_look 149 0 = some (0, .aload_n 0, 1, []) := rd_look_of LL_149 rfl
theorem L_149_1 : rd_look 149 1 = some (1, .getfield 37, 3, [12, 11, 111]) := rd_look_of LL_149 rfl
theorem L_149_2 : rd_look 149 2 = some (4, .iload_n 1, 1, []) := rd_look_of LL_149 rfl
theorem L_149_3 : rd_look 149 3 = some (5, .iaload, 1, []) := rd_look_of LL_149 rfl
theorem L_149_4 : rd_look 149 4 = some (6, .istore 6, 2, []) := rd_look_of LL_149 rfl
theorem L_149_5 : rd_look 149 5 = some (8, .iload_n 2, 1, []) := rd_look_of LL_149 rfl
theorem L_149_6 : rd_look 149 6 = some (9, .iconst 0, 1, []) := rd_look_of LL_149 rfl
theorem L_149_7 : rd_look 149 7 = some (10, .aload_n 0, 1, []) := rd_look_of LL_149 rfl
theorem L_149_8 : rd_look 149 8 = some (11, .getfield 16, 3, [12, 3, 104]) := rd_look_of LL_149 rfl
theorem L_149_9 : rd_look 149 9 = some (14, .aload_n 0, 1, []) := rd_look_of LL_149 rfl
theorem L_149_10 : rd_look 149 10 = some (15, .iload 6, 2, []) := rd_look_of LL_149 rfl
theorem L_149_11 : rd_look 149 11 = some (17, .aload_n 0, 1, []) := rd_look_of LL_149 rfl
theorem L_149_12 : rd_look 149 12 = some (18, .getfield 40, 3, [12, 12, 112]) := rd_look_of LL_149 rfl
theorem L_149_13 : rd_look 149 13 = some (21, .iload_n 1, 1, []) := rd_look_of LL_149 rfl
theorem L_149_14 : rd_look 149 14 = some (22, .iaload, 1, []) := rd_look_of LL_149 rfl
theorem L_149_15 : rd_look 149 15 = some (23, .invokevirtual 148, 3, [146, 2, 161, 12]) := rd_look_of LL_149 rfl
theorem L_149_16 : rd_look 149 16 = some (26, .iaload, 1, []) := rd_look_of LL_149 rfl
theorem L_149_17 : rd_look 149 17 = some (27, .iconst 1, 1, []) := rd_look_of LL_149 rfl
theorem L_149_18 : rd_look 149 18 = some (28, .isub, 1, []) := rd_look_of LL_149 rfl
theorem L_149_19 : rd_look 149 19 = some (29, .invokestatic 133, 3, [137, 3, 158]) := rd_look_of LL_149 rfl
theorem L_149_20 : rd_look 149 20 = some (32, .ifCond .eq 13, 3, [26]) := rd_look_of LL_149 rfl
theorem L_149_21 : rd_look 149 21 = some (35, .iload_n 3, 1, []) := rd_look_of LL_149 rfl
theorem L_149_22 : rd_look 149 22 = some (36, .iconst 0, 1, []) := rd_look_of LL_149 rfl
theorem L_149_23 : rd_look 149 23 = some (37, .bipush 6, 2, []) := rd_look_of LL_149 rfl
theorem L_149_24 : rd_look 149 24 = some (39, .invokestatic 133, 3, [137, 3, 158]) := rd_look_of LL_149 rfl
theorem L_149_25 : rd_look 149 25 = some (42, .ifCond .ne 5, 3, [28]) := rd_look_of LL_149 rfl
theorem L_149_26 : rd_look 149 26 = some (45, .iconst (-1), 1, []) := rd_look_of LL_149 rfl
theorem L_149_27 : rd_look 149 27 = some (46, .ireturn, 1, []) := rd_look_of LL_149 rfl
theorem L_149_28 : rd_look 149 28 = some (47, .aload_n 0, 1, []) := rd_look_of LL_149 rfl
theorem L_149_29 : rd_look 149 29 = some (48, .iload 6, 2, []) := rd_look_of LL_149 rfl
theorem L_149_30 : rd_look 149 30 = some (50, .aload_n 0, 1, []) := rd_look_of LL_149 rfl
theorem L_149_31 : rd_look 149 31 = some (51, .getfield 40, 3, [12, 12, 112]) := rd_look_of LL_149 rfl
theorem L_149_32 : rd_look 149 32 = some (54, .iload_n 1, 1, []) := rd_look_of LL_149 rfl
theorem L_149_33 : rd_look 149 33 = some (55, .iaload, 1, []) := rd_look_of LL_149 rfl
theorem L_149_34 : rd_look 149 34 = some (56, .iload_n 2, 1, []) := rd_look_of LL_149 rfl
theorem L_149_35 : rd_look 149 35 = some (57, .invokevirtual 152, 3, [147, 3, 162, 12]) := rd_look_of LL_149 rfl
theorem L_149_36 : rd_look 149 36 = some (60, .istore 7, 2, []) := rd_look_of LL_149 rfl
theorem L_149_37 : rd_look 149 37 = some (62, .iload 7, 2, []) := rd_look_of LL_149 rfl
theorem L_149_38 : rd_look 149 38 = some (64, .ifCond .eq 11, 3, [43]) := rd_look_of LL_149 rfl
theorem L_149_39 : rd_look 149 39 = some (67, .iload_n 3, 1, []) := rd_look_of LL_149 rfl
theorem L_149_40 : rd_look 149 40 = some (68, .iconst 2, 1, []) := rd_look_of LL_149 rfl
theorem L_149_41 : rd_look 149 41 = some (69, .if_icmp .ne 18, 3, [51]) := rd_look_of LL_149 rfl
theorem L_149_42 : rd_look 149 42 = some (72, .goto 13, 3, [49]) := rd_look_of LL_149 rfl
theorem L_149_43 : rd_look 149 43 = some (75, .iload_n 3, 1, []) := rd_look_of LL_149 rfl
theorem L_149_44 : rd_look 149 44 = some (76, .iconst 4, 1, []) := rd_look_of LL_149 rfl
theorem L_149_45 : rd_look 149 45 = some (77, .if_icmp .eq 8, 3, [49]) := rd_look_of LL_149 rfl
theorem L_149_46 : rd_look 149 46 = some (80, .iload_n 3, 1, []) := rd_look_of LL_149 rfl
theorem L_149_47 : rd_look 149 47 = some (81, .iconst 5, 1, []) := rd_look_of LL_149 rfl
theorem L_149_48 : rd_look 149 48 = some (82, .if_icmp .ne 5, 3, [51]) := rd_look_of LL_149 rfl
theorem L_149_49 : rd_look 149 49 = some (85, .iconst (-1), 1, []) := rd_look_of LL_149 rfl
theorem L_149_50 : rd_look 149 50 = some (86, .ireturn, 1, []) := rd_look_of LL_149 rfl
theorem L_149_51 : rd_look 149 51 = some (87, .iload 7, 2, []) := rd_look_of LL_149 rfl
theorem L_149_52 : rd_look 149 52 = some (89, .ifCond .eq 22, 3, [63]) := rd_look_of LL_149 rfl
theorem L_149_53 : rd_look 149 53 = some (92, .iload_n 3, 1, []) := rd_look_of LL_149 rfl
theorem L_149_54 : rd_look 149 54 = some (93, .iconst 1, 1, []) := rd_look_of LL_149 rfl
theorem L_149_55 : rd_look 149 55 = some (94, .if_icmp .eq 8, 3, [59]) := rd_look_of LL_149 rfl
theorem L_149_56 : rd_look 149 56 = some (97, .iload_n 3, 1, []) := rd_look_of LL_149 rfl
theorem L_149_57 : rd_look 149 57 = some (98, .iconst 3, 1, []) := rd_look_of LL_149 rfl
theorem L_149_58 : rd_look 149 58 = some (99, .if_icmp .ne 12, 3, [63]) := rd_look_of LL_149 rfl
theorem L_149_59 : rd_look 149 59 = some (102, .aload_n 0, 1, []) := rd_look_of LL_149 rfl
theorem L_149_60 : rd_look 149 60 = some (103, .iload 4, 2, []) := rd_look_of LL_149 rfl
theorem L_149_61 : rd_look 149 61 = some (105, .invokevirtual 144, 3, [142, 1, 160, 12]) := rd_look_of LL_149 rfl
theorem L_149_62 : rd_look 149 62 = some (108, .ifCond .eq 23, 3, [74]) := rd_look_of LL_149 rfl
theorem L_149_63 : rd_look 149 63 = some (111, .iload_n 3, 1, []) := rd_look_of LL_149 rfl
theorem L_149_64 : rd_look 149 64 = some (112, .iconst 4, 1, []) := rd_look_of LL_149 rfl
theorem L_149_65 : rd_look 149 65 = some (113, .if_icmp .ne 20, 3, [76]) := rd_look_of LL_149 rfl
theorem L_149_66 : rd_look 149 66 = some (116, .iload 4, 2, []) := rd_look_of LL_149 rfl
theorem L_149_67 : rd_look 149 67 = some (118, .iconst 0, 1, []) := rd_look_of LL_149 rfl
theorem L_149_68 : rd_look 149 68 = some (119, .aload_n 0, 1, []) := rd_look_of LL_149 rfl
theorem L_149_69 : rd_look 149 69 = some (120, .getfield 129, 3, [12, 0, 141]) := rd_look_of LL_149 rfl
theorem L_149_70 : rd_look 149 70 = some (123, .iconst 1, 1, []) := rd_look_of LL_149 rfl
theorem L_149_71 : rd_look 149 71 = some (124, .isub, 1, []) := rd_look_of LL_149 rfl
theorem L_149_72 : rd_look 149 72 = some (125, .invokestatic 133, 3, [137, 3, 158]) := rd_look_of LL_149 rfl
theorem L_149_73 : rd_look 149 73 = some (128, .ifCond .ne 5, 3, [76]) := rd_look_of LL_149 rfl
theorem L_149_74 : rd_look 149 74 = some (131, .iconst (-1), 1, []) := rd_look_of LL_149 rfl
theorem L_149_75 : rd_look 149 75 = some (132, .ireturn, 1, []) := rd_look_of LL_149 rfl
theorem L_149_76 : rd_look 149 76 = some (133, .aload_n 0, 1, []) := rd_look_of LL_149 rfl
theorem L_149_77 : rd_look 149 77 = some (134, .getfield 43, 3, [12, 13, 113]) := rd_look_of LL_149 rfl
theorem L_149_78 : rd_look 149 78 = some (137, .iconst 3, 1, []) := rd_look_of LL_149 rfl
theorem L_149_79 : rd_look 149 79 = some (138, .iload_n 1, 1, []) := rd_look_of LL_149 rfl
theorem L_149_80 : rd_look 149 80 = some (139, .imul, 1, []) := rd_look_of LL_149 rfl
theorem L_149_81 : rd_look 149 81 = some (140, .iload_n 2, 1, []) := rd_look_of LL_149 rfl
theorem L_149_82 : rd_look 149 82 = some (141, .iadd, 1, []) := rd_look_of LL_149 rfl
theorem L_149_83 : rd_look 149 83 = some (142, .iload_n 3, 1, []) := rd_look_of LL_149 rfl
theorem L_149_84 : rd_look 149 84 = some (143, .iastore, 1, []) := rd_look_of LL_149 rfl
theorem L_149_85 : rd_look 149 85 = some (144, .aload_n 0, 1, []) := rd_look_of LL_149 rfl
theorem L_149_86 : rd_look 149 86 = some (145, .getfield 46, 3, [12, 14, 114]) := rd_look_of LL_149 rfl
theorem L_149_87 : rd_look 149 87 = some (148, .iconst 3, 1, []) := rd_look_of LL_149 rfl
theorem L_149_88 : rd_look 149 88 = some (149, .iload_n 1, 1, []) := rd_look_of LL_149 rfl
theorem L_149_89 : rd_look 149 89 = some (150, .imul, 1, []) := rd_look_of LL_149 rfl
theorem L_149_90 : rd_look 149 90 = some (151, .iload_n 2, 1, []) := rd_look_of LL_149 rfl
theorem L_149_91 : rd_look 149 91 = some (152, .iadd, 1, []) := rd_look_of LL_149 rfl
theorem L_149_92 : rd_look 149 92 = some (153, .iload 4, 2, []) := rd_look_of LL_149 rfl
theorem L_149_93 : rd_look 149 93 = some (155, .iastore, 1, []) := rd_look_of LL_149 rfl
theorem L_149_94 : rd_look 149 94 = some (156, .aload_n 0, 1, []) := rd_look_of LL_149 rfl
theorem L_149_95 : rd_look 149 95 = some (157, .getfield 49, 3, [12, 15, 115]) := rd_look_of LL_149 rfl
theorem L_149_96 : rd_look 149 96 = some (160, .iconst 3, 1, []) := rd_look_of LL_149 rfl
theorem L_149_97 : rd_look 149 97 = some (161, .iload_n 1, 1, []) := rd_look_of LL_149 rfl
theorem L_149_98 : rd_look 149 98 = some (162, .imul, 1, []) := rd_look_of LL_149 rfl
theorem L_149_99 : rd_look 149 99 = some (163, .iload_n 2, 1, []) := rd_look_of LL_149 rfl
theorem L_149_100 : rd_look 149 100 = some (164, .iadd, 1, []) := rd_look_of LL_149 rfl
theorem L_149_101 : rd_look 149 101 = some (165, .iload 5, 2, []) := rd_look_of LL_149 rfl
theorem L_149_102 : rd_look 149 102 = some (167, .iastore, 1, []) := rd_look_of LL_149 rfl
theorem L_149_103 : rd_look 149 103 = some (168, .iconst 1, 1, []) := rd_look_of LL_149 rfl
theorem L_149_104 : rd_look 149 104 = some (169, .ireturn, 1, []) := rd_look_of LL_149 rfl
theorem L_150_0 : rd_look 150 0 = some (0, .aload_n 0, 1, []) := rd_look_of LL_150 rfl
theorem L_150_1 : rd_look 150 1 = some (1, .getfield 43, 3, [12, 13, 113]) := rd_look_of LL_150 rfl
theorem L_150_2 : rd_look 150 2 = some (4, .iload_n 1, 1, []) := rd_look_of LL_150 rfl
theorem L_150_3 : rd_look 150 3 = some (5, .iaload, 1, []) := rd_look_of LL_150 rfl
theorem L_150_4 : rd_look 150 4 = some (6, .tableswitch 122 1 5 #[34, 50, 67, 83, 112], 34, [59, 5, 15, 26, 36, 53]) := rd_look_of LL_150 rfl
theorem L_150_5 : rd_look 150 5 = some (40, .iload_n 2, 1, []) := rd_look_of LL_150 rfl
theorem L_150_6 : rd_look 150 6 = some (41, .aload_n 0, 1, []) := rd_look_of LL_150 rfl
theorem L_150_7 : rd_look 150 7 = some (42, .getfield 46, 3, [12, 14, 114]) := rd_look_of LL_150 rfl
theorem L_150_8 : rd_look 150 8 = some (45, .iload_n 1, 1, []) := rd_look_of LL_150 rfl
theorem L_150_9 : rd_look 150 9 = some (46, .iaload, 1, []) := rd_look_of LL_150 rfl
theorem L_150_10 : rd_look 150 10 = some (47, .if_icmp .ne 7, 3, [13]) := rd_look_of LL_150 rfl
theorem L_150_11 : rd_look 150 11 = some (50, .iconst 1, 1, []) := rd_look_of LL_150 rfl
theorem L_150_12 : rd_look 150 12 = some (51, .goto 4, 3, [14]) := rd_look_of LL_150 rfl
theorem L_150_13 : rd_look 150 13 = some (54, .iconst 0, 1, []) := rd_look_of LL_150 rfl
theorem L_150_14 : rd_look 150 14 = some (55, .ireturn, 1, []) := rd_look_of LL_150 rfl
theorem L_150_15 : rd_look 150 15 = some (56, .iload_n 2, 1, []) := rd_look_of LL_150 rfl
theorem L_150_16 : rd_look 150 16 = some (57, .aload_n 0, 1, []) := rd_look_of LL_150 rfl
theorem L_150_17 : rd_look 150 17 = some (58, .getfield 46, 3, [12, 14, 114]) := rd_look_of LL_150 rfl
theorem L_150_18 : rd_look 150 18 = some (61, .iload_n 1, 1, []) := rd_look_of LL_150 rfl
theorem L_150_19 : rd_look 150 19 = some (62, .iaload, 1, []) := rd_look_of LL_150 rfl
theorem L_150_20 : rd_look 150 20 = some (63, .aload_n 0, 1, []) := rd_look_of LL_150 rfl
theorem L_150_21 : rd_look 150 21 = some (64, .getfield 49, 3, [12, 15, 115]) := rd_look_of LL_150 rfl
theorem L_150_22 : rd_look 150 22 = some (67, .iload_n 1, 1, []) := rd_look_of LL_150 rfl
theorem L_150_23 : rd_look 150 23 = some (68, .iaload, 1, []) := rd_look_of LL_150 rfl
theorem L_150_24 : rd_look 150 24 = some (69, .invokestatic 133, 3, [137, 3, 158]) := rd_look_of LL_150 rfl
theorem L_150_25 : rd_look 150 25 = some (72, .ireturn, 1, []) := rd_look_of LL_150 rfl
theorem L_150_26 : rd_look 150 26 = some (73, .iload_n 2, 1, []) := rd_look_of LL_150 rfl
theorem L_150_27 : rd_look 150 27 = some (74, .aload_n 0, 1, []) := rd_look_of LL_150 rfl
theorem L_150_28 : rd_look 150 28 = some (75, .getfield 46, 3, [12, 14, 114]) := rd_look_of LL_150 rfl
theorem L_150_29 : rd_look 150 29 = some (78, .iload_n 1, 1, []) := rd_look_of LL_150 rfl
theorem L_150_30 : rd_look 150 30 = some (79, .iaload, 1, []) := rd_look_of LL_150 rfl
theorem L_150_31 : rd_look 150 31 = some (80, .if_icmp .eq 7, 3, [34]) := rd_look_of LL_150 rfl
theorem L_150_32 : rd_look 150 32 = some (83, .iconst 1, 1, []) := rd_look_of LL_150 rfl
theorem L_150_33 : rd_look 150 33 = some (84, .goto 4, 3, [35]) := rd_look_of LL_150 rfl
theorem L_150_34 : rd_look 150 34 = some (87, .iconst 0, 1, []) := rd_look_of LL_150 rfl
theorem L_150_35 : rd_look 150 35 = some (88, .ireturn, 1, []) := rd_look_of LL_150 rfl
theorem L_150_36 : rd_look 150 36 = some (89, .iload_n 2, 1, []) := rd_look_of LL_150 rfl
theorem L_150_37 : rd_look 150 37 = some (90, .ifCond .lt 26, 3, [51]) := rd_look_of LL_150 rfl
theorem L_150_38 : rd_look 150 38 = some (93, .aload_n 0, 1, []) := rd_look_of LL_150 rfl
theorem L_150_39 : rd_look 150 39 = some (94, .aload_n 0, 1, []) := rd_look_of LL_150 rfl
theorem L_150_40 : rd_look 150 40 = some (95, .getfield 28, 3, [12, 8, 108]) := rd_look_of LL_150 rfl
theorem L_150_41 : rd_look 150 41 = some (98, .iload_n 2, 1, []) := rd_look_of LL_150 rfl
theorem L_150_42 : rd_look 150 42 = some (99, .iaload, 1, []) := rd_look_of LL_150 rfl
theorem L_150_43 : rd_look 150 43 = some (100, .aload_n 0, 1, []) := rd_look_of LL_150 rfl
theorem L_150_44 : rd_look 150 44 = some (101, .getfield 46, 3, [12, 14, 114]) := rd_look_of LL_150 rfl
theorem L_150_45 : rd_look 150 45 = some (104, .iload_n 1, 1, []) := rd_look_of LL_150 rfl
theorem L_150_46 : rd_look 150 46 = some (105, .iaload, 1, []) := rd_look_of LL_150 rfl
theorem L_150_47 : rd_look 150 47 = some (106, .invokevirtual 140, 3, [139, 2, 159, 12]) := rd_look_of LL_150 rfl
theorem L_150_48 : rd_look 150 48 = some (109, .ifCond .eq 7, 3, [51]) := rd_look_of LL_150 rfl
theorem L_150_49 : rd_look 150 49 = some (112, .iconst 1, 1, []) := rd_look_of LL_150 rfl
theorem L_150_50 : rd_look 150 50 = some (113, .goto 4, 3, [52]) := rd_look_of LL_150 rfl
theorem L_150_51 : rd_look 150 51 = some (116, .iconst 0, 1, []) := rd_look_of LL_150 rfl
theorem L_150_52 : rd_look 150 52 = some (117, .ireturn, 1, []) := rd_look_of LL_150 rfl
theorem L_150_53 : rd_look 150 53 = some (118, .iload_n 2, 1, []) := rd_look_of LL_150 rfl
theorem L_150_54 : rd_look 150 54 = some (119, .ifCond .ge 7, 3, [57]) := rd_look_of LL_150 rfl
theorem L_150_55 : rd_look 150 55 = some (122, .iconst 1, 1, []) := rd_look_of LL_150 rfl
theorem L_150_56 : rd_look 150 56 = some (123, .goto 4, 3, [58]) := rd_look_of LL_150 rfl
theorem L_150_57 : rd_look 150 57 = some (126, .iconst 0, 1, []) := rd_look_of LL_150 rfl
theorem L_150_58 : rd_look 150 58 = some (127, .ireturn, 1, []) := rd_look_of LL_150 rfl
theorem L_150_59 : rd_look 150 59 = some (128, .iconst 1, 1, []) := rd_look_of LL_150 rfl
theorem L_150_60 : rd_look 150 60 = some (129, .ireturn, 1, []) := rd_look_of LL_150 rfl
theorem L_151_0 : rd_look 151 0 = some (0, .aload_n 0, 1, []) := rd_look_of LL_151 rfl
theorem L_151_1 : rd_look 151 1 = some (1, .getfield 37, 3, [12, 11, 111]) := rd_look_of LL_151 rfl
theorem L_151_2 : rd_look 151 2 = some (4, .iload_n 1, 1, []) := rd_look_of LL_151 rfl
theorem L_151_3 : rd_look 151 3 = some (5, .iaload, 1, []) := rd_look_of LL_151 rfl
theorem L_151_4 : rd_look 151 4 = some (6, .iload_n 2, 1, []) := rd_look_of LL_151 rfl
theorem L_151_5 : rd_look 151 5 = some (7, .if_icmp .ne 13, 3, [12]) := rd_look_of LL_151 rfl
theorem L_151_6 : rd_look 151 6 = some (10, .aload_n 0, 1, []) := rd_look_of LL_151 rfl
theorem L_151_7 : rd_look 151 7 = some (11, .getfield 40, 3, [12, 12, 112]) := rd_look_of LL_151 rfl
theorem L_151_8 : rd_look 151 8 = some (14, .iload_n 1, 1, []) := rd_look_of LL_151 rfl
theorem L_151_9 : rd_look 151 9 = some (15, .iaload, 1, []) := rd_look_of LL_151 rfl
theorem L_151_10 : rd_look 151 10 = some (16, .iload_n 3, 1, []) := rd_look_of LL_151 rfl
theorem L_151_11 : rd_look 151 11 = some (17, .if_icmp .eq 5, 3, [14]) := rd_look_of LL_151 rfl
theorem L_151_12 : rd_look 151 12 = some (20, .iconst 0, 1, []) := rd_look_of LL_151 rfl
theorem L_151_13 : rd_look 151 13 = some (21, .ireturn, 1, []) := rd_look_of LL_151 rfl
theorem L_151_14 : rd_look 151 14 = some (22, .aload_n 0, 1, []) := rd_look_of LL_151 rfl
theorem L_151_15 : rd_look 151 15 = some (23, .getfield 16, 3, [12, 3, 104]) := rd_look_of LL_151 rfl
theorem L_151_16 : rd_look 151 16 = some (26, .aload_n 0, 1, []) := rd_look_of LL_151 rfl
theorem L_151_17 : rd_look 151 17 = some (27, .iload_n 2, 1, []) := rd_look_of LL_151 rfl
theorem L_151_18 : rd_look 151 18 = some (28, .iload_n 3, 1, []) := rd_look_of LL_151 rfl
theorem L_151_19 : rd_look 151 19 = some (29, .invokevirtual 148, 3, [146, 2, 161, 12]) := rd_look_of LL_151 rfl
theorem L_151_20 : rd_look 151 20 = some (32, .iaload, 1, []) := rd_look_of LL_151 rfl
theorem L_151_21 : rd_look 151 21 = some (33, .istore 7, 2, []) := rd_look_of LL_151 rfl
theorem L_151_22 : rd_look 151 22 = some (35, .iload 7, 2, []) := rd_look_of LL_151 rfl
theorem L_151_23 : rd_look 151 23 = some (37, .iconst 1, 1, []) := rd_look_of LL_151 rfl
theorem L_151_24 : rd_look 151 24 = some (38, .if_icmp .lt 15, 3, [32]) := rd_look_of LL_151 rfl
theorem L_151_25 : rd_look 151 25 = some (41, .aload_n 0, 1, []) := rd_look_of LL_151 rfl
theorem L_151_26 : rd_look 151 26 = some (42, .iconst 3, 1, []) := rd_look_of LL_151 rfl
theorem L_151_27 : rd_look 151 27 = some (43, .iload_n 1, 1, []) := rd_look_of LL_151 rfl
theorem L_151_28 : rd_look 151 28 = some (44, .imul, 1, []) := rd_look_of LL_151 rfl
theorem L_151_29 : rd_look 151 29 = some (45, .iload 4, 2, []) := rd_look_of LL_151 rfl
theorem L_151_30 : rd_look 151 30 = some (47, .invokevirtual 155, 3, [150, 2, 163, 12]) := rd_look_of LL_151 rfl
theorem L_151_31 : rd_look 151 31 = some (50, .ifCond .eq 47, 3, [58]) := rd_look_of LL_151 rfl
theorem L_151_32 : rd_look 151 32 = some (53, .iload 7, 2, []) := rd_look_of LL_151 rfl
theorem L_151_33 : rd_look 151 33 = some (55, .iconst 2, 1, []) := rd_look_of LL_151 rfl
theorem L_151_34 : rd_look 151 34 = some (56, .if_icmp .lt 17, 3, [44]) := rd_look_of LL_151 rfl
theorem L_151_35 : rd_look 151 35 = some (59, .aload_n 0, 1, []) := rd_look_of LL_151 rfl
theorem L_151_36 : rd_look 151 36 = some (60, .iconst 3, 1, []) := rd_look_of LL_151 rfl
theorem L_151_37 : rd_look 151 37 = some (61, .iload_n 1, 1, []) := rd_look_of LL_151 rfl
theorem L_151_38 : rd_look 151 38 = some (62, .imul, 1, []) := rd_look_of LL_151 rfl
theorem L_151_39 : rd_look 151 39 = some (63, .iconst 1, 1, []) := rd_look_of LL_151 rfl
theorem L_151_40 : rd_look 151 40 = some (64, .iadd, 1, []) := rd_look_of LL_151 rfl
theorem L_151_41 : rd_look 151 41 = some (65, .iload 5, 2, []) := rd_look_of LL_151 rfl
theorem L_151_42 : rd_look 151 42 = some (67, .invokevirtual 155, 3, [150, 2, 163, 12]) := rd_look_of LL_151 rfl
theorem L_151_43 : rd_look 151 43 = some (70, .ifCond .eq 27, 3, [58]) := rd_look_of LL_151 rfl
theorem L_151_44 : rd_look 151 44 = some (73, .iload 7, 2, []) := rd_look_of LL_151 rfl
theorem L_151_45 : rd_look 151 45 = some (75, .iconst 3, 1, []) := rd_look_of LL_151 rfl
theorem L_151_46 : rd_look 151 46 = some (76, .if_icmp .lt 17, 3, [56]) := rd_look_of LL_151 rfl
theorem L_151_47 : rd_look 151 47 = some (79, .aload_n 0, 1, []) := rd_look_of LL_151 rfl
theorem L_151_48 : rd_look 151 48 = some (80, .iconst 3, 1, []) := rd_look_of LL_151 rfl
theorem L_151_49 : rd_look 151 49 = some (81, .iload_n 1, 1, []) := rd_look_of LL_151 rfl
theorem L_151_50 : rd_look 151 50 = some (82, .imul, 1, []) := rd_look_of LL_151 rfl
theorem L_151_51 : rd_look 151 51 = some (83, .iconst 2, 1, []) := rd_look_of LL_151 rfl
theorem L_151_52 : rd_look 151 52 = some (84, .iadd, 1, []) := rd_look_of LL_151 rfl
theorem L_151_53 : rd_look 151 53 = some (85, .iload 6, 2, []) := rd_look_of LL_151 rfl
theorem L_151_54 : rd_look 151 54 = some (87, .invokevirtual 155, 3, [150, 2, 163, 12]) := rd_look_of LL_151 rfl
theorem L_151_55 : rd_look 151 55 = some (90, .ifCond .eq 7, 3, [58]) := rd_look_of LL_151 rfl
theorem L_151_56 : rd_look 151 56 = some (93, .iconst 1, 1, []) := rd_look_of LL_151 rfl
theorem L_151_57 : rd_look 151 57 = some (94, .goto 4, 3, [59]) := rd_look_of LL_151 rfl
theorem L_151_58 : rd_look 151 58 = some (97, .iconst 0, 1, []) := rd_look_of LL_151 rfl
theorem L_151_59 : rd_look 151 59 = some (98, .ireturn, 1, []) := rd_look_of LL_151 rfl
theorem L_152_0 : rd_look 152 0 = some (0, .iload_n 1, 1, []) := rd_look_of LL_152 rfl
theorem L_152_1 : rd_look 152 1 = some (1, .iconst 0, 1, []) := rd_look_of LL_152 rfl
theorem L_152_2 : rd_look 152 2 = some (2, .aload_n 0, 1, []) := rd_look_of LL_152 rfl
theorem L_152_3 : rd_look 152 3 = some (3, .getfield 158, 3, [12, 16, 143]) := rd_look_of LL_152 rfl
theorem L_152_4 : rd_look 152 4 = some (6, .iconst 1, 1, []) := rd_look_of LL_152 rfl
theorem L_152_5 : rd_look 152 5 = some (7, .isub, 1, []) := rd_look_of LL_152 rfl
theorem L_152_6 : rd_look 152 6 = some (8, .invokestatic 133, 3, [137, 3, 158]) := rd_look_of LL_152 rfl
theorem L_152_7 : rd_look 152 7 = some (11, .ireturn, 1, []) := rd_look_of LL_152 rfl
theorem L_153_0 : rd_look 153 0 = some (0, .aload_n 0, 1, []) := rd_look_of LL_153 rfl
theorem L_153_1 : rd_look 153 1 = some (1, .iload_n 1, 1, []) := rd_look_of LL_153 rfl
theorem L_153_2 : rd_look 153 2 = some (2, .invokevirtual 144, 3, [142, 1, 160, 12]) := rd_look_of LL_153 rfl
theorem L_153_3 : rd_look 153 3 = some (5, .ifCond .eq 12, 3, [9]) := rd_look_of LL_153 rfl
theorem L_153_4 : rd_look 153 4 = some (8, .aload_n 0, 1, []) := rd_look_of LL_153 rfl
theorem L_153_5 : rd_look 153 5 = some (9, .iload_n 1, 1, []) := rd_look_of LL_153 rfl
theorem L_153_6 : rd_look 153 6 = some (10, .iload_n 2, 1, []) := rd_look_of LL_153 rfl
theorem L_153_7 : rd_look 153 7 = some (11, .invokevirtual 161, 3, [145, 2, 164, 12]) := rd_look_of LL_153 rfl
theorem L_153_8 : rd_look 153 8 = some (14, .ifCond .ne 5, 3, [11]) := rd_look_of LL_153 rfl
theorem L_153_9 : rd_look 153 9 = some (17, .iconst (-1), 1, []) := rd_look_of LL_153 rfl
theorem L_153_10 : rd_look 153 10 = some (18, .ireturn, 1, []) := rd_look_of LL_153 rfl
theorem L_153_11 : rd_look 153 11 = some (19, .aload_n 0, 1, []) := rd_look_of LL_153 rfl
theorem L_153_12 : rd_look 153 12 = some (20, .getfield 158, 3, [12, 16, 143]) := rd_look_of LL_153 rfl
theorem L_153_13 : rd_look 153 13 = some (23, .bipush 80, 2, []) := rd_look_of LL_153 rfl
theorem L_153_14 : rd_look 153 14 = some (25, .if_icmp .ne 6, 3, [17]) := rd_look_of LL_153 rfl
theorem L_153_15 : rd_look 153 15 = some (28, .bipush (-3), 2, []) := rd_look_of LL_153 rfl
theorem L_153_16 : rd_look 153 16 = some (30, .ireturn, 1, []) := rd_look_of LL_153 rfl
theorem L_153_17 : rd_look 153 17 = some (31, .aload_n 0, 1, []) := rd_look_of LL_153 rfl
theorem L_153_18 : rd_look 153 18 = some (32, .aload_n 0, 1, []) := rd_look_of LL_153 rfl
theorem L_153_19 : rd_look 153 19 = some (33, .getfield 158, 3, [12, 16, 143]) := rd_look_of LL_153 rfl
theorem L_153_20 : rd_look 153 20 = some (36, .iload_n 1, 1, []) := rd_look_of LL_153 rfl
theorem L_153_21 : rd_look 153 21 = some (37, .iload_n 2, 1, []) := rd_look_of LL_153 rfl
theorem L_153_22 : rd_look 153 22 = some (38, .invokevirtual 164, 3, [148, 3, 165, 12]) := rd_look_of LL_153 rfl
theorem L_153_23 : rd_look 153 23 = some (41, .aload_n 0, 1, []) := rd_look_of LL_153 rfl
theorem L_153_24 : rd_look 153 24 = some (42, .getfield 52, 3, [12, 17, 116]) := rd_look_of LL_153 rfl
theorem L_153_25 : rd_look 153 25 = some (45, .aload_n 0, 1, []) := rd_look_of LL_153 rfl
theorem L_153_26 : rd_look 153 26 = some (46, .getfield 158, 3, [12, 16, 143]) := rd_look_of LL_153 rfl
theorem L_153_27 : rd_look 153 27 = some (49, .iconst 0, 1, []) := rd_look_of LL_153 rfl
theorem L_153_28 : rd_look 153 28 = some (50, .iastore, 1, []) := rd_look_of LL_153 rfl
theorem L_153_29 : rd_look 153 29 = some (51, .aload_n 0, 1, []) := rd_look_of LL_153 rfl
theorem L_153_30 : rd_look 153 30 = some (52, .getfield 61, 3, [12, 20, 119]) := rd_look_of LL_153 rfl
theorem L_153_31 : rd_look 153 31 = some (55, .aload_n 0, 1, []) := rd_look_of LL_153 rfl
theorem L_153_32 : rd_look 153 32 = some (56, .getfield 158, 3, [12, 16, 143]) := rd_look_of LL_153 rfl
theorem L_153_33 : rd_look 153 33 = some (59, .iconst 0, 1, []) := rd_look_of LL_153 rfl
theorem L_153_34 : rd_look 153 34 = some (60, .iastore, 1, []) := rd_look_of LL_153 rfl
theorem L_153_35 : rd_look 153 35 = some (61, .iconst 0, 1, []) := rd_look_of LL_153 rfl
theorem L_153_36 : rd_look 153 36 = some (62, .istore_n 3, 1, []) := rd_look_of LL_153 rfl
theorem L_153_37 : rd_look 153 37 = some (63, .iload_n 3, 1, []) := rd_look_of LL_153 rfl
theorem L_153_38 : rd_look 153 38 = some (64, .iconst 3, 1, []) := rd_look_of LL_153 rfl
theorem L_153_39 : rd_look 153 39 = some (65, .if_icmp .ge 23, 3, [52]) := rd_look_of LL_153 rfl
theorem L_153_40 : rd_look 153 40 = some (68, .aload_n 0, 1, []) := rd_look_of LL_153 rfl
theorem L_153_41 : rd_look 153 41 = some (69, .getfield 64, 3, [12, 21, 120]) := rd_look_of LL_153 rfl
theorem L_153_42 : rd_look 153 42 = some (72, .iconst 3, 1, []) := rd_look_of LL_153 rfl
theorem L_153_43 : rd_look 153 43 = some (73, .aload_n 0, 1, []) := rd_look_of LL_153 rfl
theorem L_153_44 : rd_look 153 44 = some (74, .getfield 158, 3, [12, 16, 143]) := rd_look_of LL_153 rfl
theorem L_153_45 : rd_look 153 45 = some (77, .imul, 1, []) := rd_look_of LL_153 rfl
theorem L_153_46 : rd_look 153 46 = some (78, .iload_n 3, 1, []) := rd_look_of LL_153 rfl
theorem L_153_47 : rd_look 153 47 = some (79, .iadd, 1, []) := rd_look_of LL_153 rfl
theorem L_153_48 : rd_look 153 48 = some (80, .iconst 0, 1, []) := rd_look_of LL_153 rfl
theorem L_153_49 : rd_look 153 49 = some (81, .bastore, 1, []) := rd_look_of LL_153 rfl
theorem L_153_50 : rd_look 153 50 = some (82, .iinc 3 1, 3, []) := rd_look_of LL_153 rfl
theorem L_153_51 : rd_look 153 51 = some (85, .goto (-22), 3, [37]) := rd_look_of LL_153 rfl
theorem L_153_52 : rd_look 153 52 = some (88, .aload_n 0, 1, []) := rd_look_of LL_153 rfl
theorem L_153_53 : rd_look 153 53 = some (89, .dup, 1, []) := rd_look_of LL_153 rfl
theorem L_153_54 : rd_look 153 54 = some (90, .getfield 158, 3, [12, 16, 143]) := rd_look_of LL_153 rfl
theorem L_153_55 : rd_look 153 55 = some (93, .iconst 1, 1, []) := rd_look_of LL_153 rfl
theorem L_153_56 : rd_look 153 56 = some (94, .iadd, 1, []) := rd_look_of LL_153 rfl
theorem L_153_57 : rd_look 153 57 = some (95, .putfield 158, 3, [12, 16, 143, 0]) := rd_look_of LL_153 rfl
theorem L_153_58 : rd_look 153 58 = some (98, .aload_n 0, 1, []) := rd_look_of LL_153 rfl
theorem L_153_59 : rd_look 153 59 = some (99, .getfield 158, 3, [12, 16, 143]) := rd_look_of LL_153 rfl
theorem L_153_60 : rd_look 153 60 = some (102, .iconst 1, 1, []) := rd_look_of LL_153 rfl
theorem L_153_61 : rd_look 153 61 = some (103, .isub, 1, []) := rd_look_of LL_153 rfl
theorem L_153_62 : rd_look 153 62 = some (104, .ireturn, 1, []) := rd_look_of LL_153 rfl
theorem L_154_0 : rd_look 154 0 = some (0, .aload_n 0, 1, []) := rd_look_of LL_154 rfl
theorem L_154_1 : rd_look 154 1 = some (1, .iload_n 1, 1, []) := rd_look_of LL_154 rfl
theorem L_154_2 : rd_look 154 2 = some (2, .invokevirtual 168, 3, [152, 1, 166, 12]) := rd_look_of LL_154 rfl
theorem L_154_3 : rd_look 154 3 = some (5, .ifCond .ne 5, 3, [6]) := rd_look_of LL_154 rfl
theorem L_154_4 : rd_look 154 4 = some (8, .iconst (-1), 1, []) := rd_look_of LL_154 rfl
theorem L_154_5 : rd_look 154 5 = some (9, .ireturn, 1, []) := rd_look_of LL_154 rfl
theorem L_154_6 : rd_look 154 6 = some (10, .aload_n 0, 1, []) := rd_look_of LL_154 rfl
theorem L_154_7 : rd_look 154 7 = some (11, .iload_n 1, 1, []) := rd_look_of LL_154 rfl
theorem L_154_8 : rd_look 154 8 = some (12, .iload_n 2, 1, []) := rd_look_of LL_154 rfl
theorem L_154_9 : rd_look 154 9 = some (13, .iload_n 3, 1, []) := rd_look_of LL_154 rfl
theorem L_154_10 : rd_look 154 10 = some (14, .iload 4, 2, []) := rd_look_of LL_154 rfl
theorem L_154_11 : rd_look 154 11 = some (16, .iload 5, 2, []) := rd_look_of LL_154 rfl
theorem L_154_12 : rd_look 154 12 = some (18, .invokevirtual 171, 3, [149, 5, 167, 12]) := rd_look_of LL_154 rfl
theorem L_154_13 : rd_look 154 13 = some (21, .istore 6, 2, []) := rd_look_of LL_154 rfl
theorem L_154_14 : rd_look 154 14 = some (23, .iload 6, 2, []) := rd_look_of LL_154 rfl
theorem L_154_15 : rd_look 154 15 = some (25, .iconst 1, 1, []) := rd_look_of LL_154 rfl
theorem L_154_16 : rd_look 154 16 = some (26, .if_icmp .ne 14, 3, [26]) := rd_look_of LL_154 rfl
theorem L_154_17 : rd_look 154 17 = some (29, .aload_n 0, 1, []) := rd_look_of LL_154 rfl
theorem L_154_18 : rd_look 154 18 = some (30, .getfield 64, 3, [12, 21, 120]) := rd_look_of LL_154 rfl
theorem L_154_19 : rd_look 154 19 = some (33, .iconst 3, 1, []) := rd_look_of LL_154 rfl
theorem L_154_20 : rd_look 154 20 = some (34, .iload_n 1, 1, []) := rd_look_of LL_154 rfl
theorem L_154_21 : rd_look 154 21 = some (35, .imul, 1, []) := rd_look_of LL_154 rfl
theorem L_154_22 : rd_look 154 22 = some (36, .iload_n 2, 1, []) := rd_look_of LL_154 rfl
theorem L_154_23 : rd_look 154 23 = some (37, .iadd, 1, []) := rd_look_of LL_154 rfl
theorem L_154_24 : rd_look 154 24 = some (38, .iconst 0, 1, []) := rd_look_of LL_154 rfl
theorem L_154_25 : rd_look 154 25 = some (39, .bastore, 1, []) := rd_look_of LL_154 rfl
theorem L_154_26 : rd_look 154 26 = some (40, .iload 6, 2, []) := rd_look_of LL_154 rfl
theorem L_154_27 : rd_look 154 27 = some (42, .ireturn, 1, []) := rd_look_of LL_154 rfl
theorem L_155_0 : rd_look 155 0 = some (0, .aload_n 0, 1, []) := rd_look_of LL_155 rfl
theorem L_155_1 : rd_look 155 1 = some (1, .iload_n 1, 1, []) := rd_look_of LL_155 rfl
theorem L_155_2 : rd_look 155 2 = some (2, .invokevirtual 168, 3, [152, 1, 166, 12]) := rd_look_of LL_155 rfl
theorem L_155_3 : rd_look 155 3 = some (5, .ifCond .eq 12, 3, [9]) := rd_look_of LL_155 rfl
theorem L_155_4 : rd_look 155 4 = some (8, .iload_n 2, 1, []) := rd_look_of LL_155 rfl
theorem L_155_5 : rd_look 155 5 = some (9, .iconst 0, 1, []) := rd_look_of LL_155 rfl
theorem L_155_6 : rd_look 155 6 = some (10, .iconst 5, 1, []) := rd_look_of LL_155 rfl
theorem L_155_7 : rd_look 155 7 = some (11, .invokestatic 133, 3, [137, 3, 158]) := rd_look_of LL_155 rfl
theorem L_155_8 : rd_look 155 8 = some (14, .ifCond .ne 5, 3, [11]) := rd_look_of LL_155 rfl
theorem L_155_9 : rd_look 155 9 = some (17, .iconst (-1), 1, []) := rd_look_of LL_155 rfl
theorem L_155_10 : rd_look 155 10 = some (18, .ireturn, 1, []) := rd_look_of LL_155 rfl
theorem L_155_11 : rd_look 155 11 = some (19, .aload_n 0, 1, []) := rd_look_of LL_155 rfl
theorem L_155_12 : rd_look 155 12 = some (20, .getfield 16, 3, [12, 3, 104]) := rd_look_of LL_155 rfl
theorem L_155_13 : rd_look 155 13 = some (23, .aload_n 0, 1, []) := rd_look_of LL_155 rfl
theorem L_155_14 : rd_look 155 14 = some (24, .aload_n 0, 1, []) := rd_look_of LL_155 rfl
theorem L_155_15 : rd_look 155 15 = some (25, .getfield 37, 3, [12, 11, 111]) := rd_look_of LL_155 rfl
theorem L_155_16 : rd_look 155 16 = some (28, .iload_n 1, 1, []) := rd_look_of LL_155 rfl
theorem L_155_17 : rd_look 155 17 = some (29, .iaload, 1, []) := rd_look_of LL_155 rfl
theorem L_155_18 : rd_look 155 18 = some (30, .aload_n 0, 1, []) := rd_look_of LL_155 rfl
theorem L_155_19 : rd_look 155 19 = some (31, .getfield 40, 3, [12, 12, 112]) := rd_look_of LL_155 rfl
theorem L_155_20 : rd_look 155 20 = some (34, .iload_n 1, 1, []) := rd_look_of LL_155 rfl
theorem L_155_21 : rd_look 155 21 = some (35, .iaload, 1, []) := rd_look_of LL_155 rfl
theorem L_155_22 : rd_look 155 22 = some (36, .invokevirtual 148, 3, [146, 2, 161, 12]) := rd_look_of LL_155 rfl
theorem L_155_23 : rd_look 155 23 = some (39, .iaload, 1, []) := rd_look_of LL_155 rfl
theorem L_155_24 : rd_look 155 24 = some (40, .istore 4, 2, []) := rd_look_of LL_155 rfl
theorem L_155_25 : rd_look 155 25 = some (42, .iload_n 2, 1, []) := rd_look_of LL_155 rfl
theorem L_155_26 : rd_look 155 26 = some (43, .iconst 1, 1, []) := rd_look_of LL_155 rfl
theorem L_155_27 : rd_look 155 27 = some (44, .if_icmp .ne 17, 3, [36]) := rd_look_of LL_155 rfl
theorem L_155_28 : rd_look 155 28 = some (47, .iload_n 3, 1, []) := rd_look_of LL_155 rfl
theorem L_155_29 : rd_look 155 29 = some (48, .iconst (-1), 1, []) := rd_look_of LL_155 rfl
theorem L_155_30 : rd_look 155 30 = some (49, .aload_n 0, 1, []) := rd_look_of LL_155 rfl
theorem L_155_31 : rd_look 155 31 = some (50, .getfield 137, 3, [12, 7, 142]) := rd_look_of LL_155 rfl
theorem L_155_32 : rd_look 155 32 = some (53, .iconst 1, 1, []) := rd_look_of LL_155 rfl
theorem L_155_33 : rd_look 155 33 = some (54, .isub, 1, []) := rd_look_of LL_155 rfl
theorem L_155_34 : rd_look 155 34 = some (55, .invokestatic 133, 3, [137, 3, 158]) := rd_look_of LL_155 rfl
theorem L_155_35 : rd_look 155 35 = some (58, .ifCond .eq 35, 3, [54]) := rd_look_of LL_155 rfl
theorem L_155_36 : rd_look 155 36 = some (61, .iload_n 2, 1, []) := rd_look_of LL_155 rfl
theorem L_155_37 : rd_look 155 37 = some (62, .iconst 2, 1, []) := rd_look_of LL_155 rfl
theorem L_155_38 : rd_look 155 38 = some (63, .if_icmp .ne 13, 3, [44]) := rd_look_of LL_155 rfl
theorem L_155_39 : rd_look 155 39 = some (66, .iload_n 3, 1, []) := rd_look_of LL_155 rfl
theorem L_155_40 : rd_look 155 40 = some (67, .iconst 0, 1, []) := rd_look_of LL_155 rfl
theorem L_155_41 : rd_look 155 41 = some (68, .bipush 7, 2, []) := rd_look_of LL_155 rfl
theorem L_155_42 : rd_look 155 42 = some (70, .invokestatic 133, 3, [137, 3, 158]) := rd_look_of LL_155 rfl
theorem L_155_43 : rd_look 155 43 = some (73, .ifCond .eq 20, 3, [54]) := rd_look_of LL_155 rfl
theorem L_155_44 : rd_look 155 44 = some (76, .iload_n 2, 1, []) := rd_look_of LL_155 rfl
theorem L_155_45 : rd_look 155 45 = some (77, .iconst 4, 1, []) := rd_look_of LL_155 rfl
theorem L_155_46 : rd_look 155 46 = some (78, .if_icmp .ne 17, 3, [56]) := rd_look_of LL_155 rfl
theorem L_155_47 : rd_look 155 47 = some (81, .iload_n 3, 1, []) := rd_look_of LL_155 rfl
theorem L_155_48 : rd_look 155 48 = some (82, .iconst 0, 1, []) := rd_look_of LL_155 rfl
theorem L_155_49 : rd_look 155 49 = some (83, .iload 4, 2, []) := rd_look_of LL_155 rfl
theorem L_155_50 : rd_look 155 50 = some (85, .iconst 1, 1, []) := rd_look_of LL_155 rfl
theorem L_155_51 : rd_look 155 51 = some (86, .isub, 1, []) := rd_look_of LL_155 rfl
theorem L_155_52 : rd_look 155 52 = some (87, .invokestatic 133, 3, [137, 3, 158]) := rd_look_of LL_155 rfl
theorem L_155_53 : rd_look 155 53 = some (90, .ifCond .ne 5, 3, [56]) := rd_look_of LL_155 rfl
theorem L_155_54 : rd_look 155 54 = some (93, .iconst (-1), 1, []) := rd_look_of LL_155 rfl
theorem L_155_55 : rd_look 155 55 = some (94, .ireturn, 1, []) := rd_look_of LL_155 rfl
theorem L_155_56 : rd_look 155 56 = some (95, .aload_n 0, 1, []) := rd_look_of LL_155 rfl
theorem L_155_57 : rd_look 155 57 = some (96, .getfield 52, 3, [12, 17, 116]) := rd_look_of LL_155 rfl
theorem L_155_58 : rd_look 155 58 = some (99, .iload_n 1, 1, []) := rd_look_of LL_155 rfl
theorem L_155_59 : rd_look 155 59 = some (100, .iaload, 1, []) := rd_look_of LL_155 rfl
theorem L_155_60 : rd_look 155 60 = some (101, .bipush 6, 2, []) := rd_look_of LL_155 rfl
theorem L_155_61 : rd_look 155 61 = some (103, .if_icmp .ne 6, 3, [64]) := rd_look_of LL_155 rfl
theorem L_155_62 : rd_look 155 62 = some (106, .bipush (-3), 2, []) := rd_look_of LL_155 rfl
theorem L_155_63 : rd_look 155 63 = some (108, .ireturn, 1, []) := rd_look_of LL_155 rfl
theorem L_155_64 : rd_look 155 64 = some (109, .aload_n 0, 1, []) := rd_look_of LL_155 rfl
theorem L_155_65 : rd_look 155 65 = some (110, .getfield 55, 3, [12, 18, 117]) := rd_look_of LL_155 rfl
theorem L_155_66 : rd_look 155 66 = some (113, .bipush 6, 2, []) := rd_look_of LL_155 rfl
theorem L_155_67 : rd_look 155 67 = some (115, .iload_n 1, 1, []) := rd_look_of LL_155 rfl
theorem L_155_68 : rd_look 155 68 = some (116, .imul, 1, []) := rd_look_of LL_155 rfl
theorem L_155_69 : rd_look 155 69 = some (117, .aload_n 0, 1, []) := rd_look_of LL_155 rfl
theorem L_155_70 : rd_look 155 70 = some (118, .getfield 52, 3, [12, 17, 116]) := rd_look_of LL_155 rfl
theorem L_155_71 : rd_look 155 71 = some (121, .iload_n 1, 1, []) := rd_look_of LL_155 rfl
theorem L_155_72 : rd_look 155 72 = some (122, .iaload, 1, []) := rd_look_of LL_155 rfl
theorem L_155_73 : rd_look 155 73 = some (123, .iadd, 1, []) := rd_look_of LL_155 rfl
theorem L_155_74 : rd_look 155 74 = some (124, .iload_n 2, 1, []) := rd_look_of LL_155 rfl
theorem L_155_75 : rd_look 155 75 = some (125, .iastore, 1, []) := rd_look_of LL_155 rfl
theorem L_155_76 : rd_look 155 76 = some (126, .aload_n 0, 1, []) := rd_look_of LL_155 rfl
theorem L_155_77 : rd_look 155 77 = some (127, .getfield 58, 3, [12, 19, 118]) := rd_look_of LL_155 rfl
theorem L_155_78 : rd_look 155 78 = some (130, .bipush 6, 2, []) := rd_look_of LL_155 rfl
theorem L_155_79 : rd_look 155 79 = some (132, .iload_n 1, 1, []) := rd_look_of LL_155 rfl
theorem L_155_80 : rd_look 155 80 = some (133, .imul, 1, []) := rd_look_of LL_155 rfl
theorem L_155_81 : rd_look 155 81 = some (134, .aload_n 0, 1, []) := rd_look_of LL_155 rfl
theorem L_155_82 : rd_look 155 82 = some (135, .getfield 52, 3, [12, 17, 116]) := rd_look_of LL_155 rfl
theorem L_155_83 : rd_look 155 83 = some (138, .iload_n 1, 1, []) := rd_look_of LL_155 rfl
theorem L_155_84 : rd_look 155 84 = some (139, .iaload, 1, []) := rd_look_of LL_155 rfl
theorem L_155_85 : rd_look 155 85 = some (140, .iadd, 1, []) := rd_look_of LL_155 rfl
theorem L_155_86 : rd_look 155 86 = some (141, .iload_n 3, 1, []) := rd_look_of LL_155 rfl
theorem L_155_87 : rd_look 155 87 = some (142, .iastore, 1, []) := rd_look_of LL_155 rfl
theorem L_155_88 : rd_look 155 88 = some (143, .aload_n 0, 1, []) := rd_look_of LL_155 rfl
theorem L_155_89 : rd_look 155 89 = some (144, .getfield 52, 3, [12, 17, 116]) := rd_look_of LL_155 rfl
theorem L_155_90 : rd_look 155 90 = some (147, .iload_n 1, 1, []) := rd_look_of LL_155 rfl
theorem L_155_91 : rd_look 155 91 = some (148, .dup2, 1, []) := rd_look_of LL_155 rfl
theorem L_155_92 : rd_look 155 92 = some (149, .iaload, 1, []) := rd_look_of LL_155 rfl
theorem L_155_93 : rd_look 155 93 = some (150, .iconst 1, 1, []) := rd_look_of LL_155 rfl
theorem L_155_94 : rd_look 155 94 = some (151, .iadd, 1, []) := rd_look_of LL_155 rfl
theorem L_155_95 : rd_look 155 95 = some (152, .iastore, 1, []) := rd_look_of LL_155 rfl
theorem L_155_96 : rd_look 155 96 = some (153, .aload_n 0, 1, []) := rd_look_of LL_155 rfl
theorem L_155_97 : rd_look 155 97 = some (154, .getfield 52, 3, [12, 17, 116]) := rd_look_of LL_155 rfl
theorem L_155_98 : rd_look 155 98 = some (157, .iload_n 1, 1, []) := rd_look_of LL_155 rfl
theorem L_155_99 : rd_look 155 99 = some (158, .iaload, 1, []) := rd_look_of LL_155 rfl
theorem L_155_100 : rd_look 155 100 = some (159, .ireturn, 1, []) := rd_look_of LL_155 rfl
theorem L_156_0 : rd_look 156 0 = some (0, .aload_n 0, 1, []) := rd_look_of LL_156 rfl
theorem L_156_1 : rd_look 156 1 = some (1, .iload_n 1, 1, []) := rd_look_of LL_156 rfl
theorem L_156_2 : rd_look 156 2 = some (2, .invokevirtual 168, 3, [152, 1, 166, 12]) := rd_look_of LL_156 rfl
theorem L_156_3 : rd_look 156 3 = some (5, .ifCond .eq 34, 3, [23]) := rd_look_of LL_156 rfl
theorem L_156_4 : rd_look 156 4 = some (8, .iload_n 2, 1, []) := rd_look_of LL_156 rfl
theorem L_156_5 : rd_look 156 5 = some (9, .iconst 0, 1, []) := rd_look_of LL_156 rfl
theorem L_156_6 : rd_look 156 6 = some (10, .aload_n 0, 1, []) := rd_look_of LL_156 rfl
theorem L_156_7 : rd_look 156 7 = some (11, .getfield 16, 3, [12, 3, 104]) := rd_look_of LL_156 rfl
theorem L_156_8 : rd_look 156 8 = some (14, .aload_n 0, 1, []) := rd_look_of LL_156 rfl
theorem L_156_9 : rd_look 156 9 = some (15, .aload_n 0, 1, []) := rd_look_of LL_156 rfl
theorem L_156_10 : rd_look 156 10 = some (16, .getfield 37, 3, [12, 11, 111]) := rd_look_of LL_156 rfl
theorem L_156_11 : rd_look 156 11 = some (19, .iload_n 1, 1, []) := rd_look_of LL_156 rfl
theorem L_156_12 : rd_look 156 12 = some (20, .iaload, 1, []) := rd_look_of LL_156 rfl
theorem L_156_13 : rd_look 156 13 = some (21, .aload_n 0, 1, []) := rd_look_of LL_156 rfl
theorem L_156_14 : rd_look 156 14 = some (22, .getfield 40, 3, [12, 12, 112]) := rd_look_of LL_156 rfl
theorem L_156_15 : rd_look 156 15 = some (25, .iload_n 1, 1, []) := rd_look_of LL_156 rfl
theorem L_156_16 : rd_look 156 16 = some (26, .iaload, 1, []) := rd_look_of LL_156 rfl
theorem L_156_17 : rd_look 156 17 = some (27, .invokevirtual 148, 3, [146, 2, 161, 12]) := rd_look_of LL_156 rfl
theorem L_156_18 : rd_look 156 18 = some (30, .iaload, 1, []) := rd_look_of LL_156 rfl
theorem L_156_19 : rd_look 156 19 = some (31, .iconst 1, 1, []) := rd_look_of LL_156 rfl
theorem L_156_20 : rd_look 156 20 = some (32, .isub, 1, []) := rd_look_of LL_156 rfl
theorem L_156_21 : rd_look 156 21 = some (33, .invokestatic 133, 3, [137, 3, 158]) := rd_look_of LL_156 rfl
theorem L_156_22 : rd_look 156 22 = some (36, .ifCond .ne 7, 3, [25]) := rd_look_of LL_156 rfl
theorem L_156_23 : rd_look 156 23 = some (39, .sipush (-1001), 3, []) := rd_look_of LL_156 rfl
theorem L_156_24 : rd_look 156 24 = some (42, .ireturn, 1, []) := rd_look_of LL_156 rfl
theorem L_156_25 : rd_look 156 25 = some (43, .aload_n 0, 1, []) := rd_look_of LL_156 rfl
theorem L_156_26 : rd_look 156 26 = some (44, .getfield 43, 3, [12, 13, 113]) := rd_look_of LL_156 rfl
theorem L_156_27 : rd_look 156 27 = some (47, .iconst 3, 1, []) := rd_look_of LL_156 rfl
theorem L_156_28 : rd_look 156 28 = some (48, .iload_n 1, 1, []) := rd_look_of LL_156 rfl
theorem L_156_29 : rd_look 156 29 = some (49, .imul, 1, []) := rd_look_of LL_156 rfl
theorem L_156_30 : rd_look 156 30 = some (50, .iload_n 2, 1, []) := rd_look_of LL_156 rfl
theorem L_156_31 : rd_look 156 31 = some (51, .iadd, 1, []) := rd_look_of LL_156 rfl
theorem L_156_32 : rd_look 156 32 = some (52, .iaload, 1, []) := rd_look_of LL_156 rfl
theorem L_156_33 : rd_look 156 33 = some (53, .bipush 6, 2, []) := rd_look_of LL_156 rfl
theorem L_156_34 : rd_look 156 34 = some (55, .if_icmp .ne 29, 3, [53]) := rd_look_of LL_156 rfl
theorem L_156_35 : rd_look 156 35 = some (58, .aload_n 0, 1, []) := rd_look_of LL_156 rfl
theorem L_156_36 : rd_look 156 36 = some (59, .getfield 64, 3, [12, 21, 120]) := rd_look_of LL_156 rfl
theorem L_156_37 : rd_look 156 37 = some (62, .iconst 3, 1, []) := rd_look_of LL_156 rfl
theorem L_156_38 : rd_look 156 38 = some (63, .iload_n 1, 1, []) := rd_look_of LL_156 rfl
theorem L_156_39 : rd_look 156 39 = some (64, .imul, 1, []) := rd_look_of LL_156 rfl
theorem L_156_40 : rd_look 156 40 = some (65, .iload_n 2, 1, []) := rd_look_of LL_156 rfl
theorem L_156_41 : rd_look 156 41 = some (66, .iadd, 1, []) := rd_look_of LL_156 rfl
theorem L_156_42 : rd_look 156 42 = some (67, .baload, 1, []) := rd_look_of LL_156 rfl
theorem L_156_43 : rd_look 156 43 = some (68, .ifCond .eq 16, 3, [53]) := rd_look_of LL_156 rfl
theorem L_156_44 : rd_look 156 44 = some (71, .aload_n 0, 1, []) := rd_look_of LL_156 rfl
theorem L_156_45 : rd_look 156 45 = some (72, .getfield 68, 3, [12, 22, 121]) := rd_look_of LL_156 rfl
theorem L_156_46 : rd_look 156 46 = some (75, .iconst 3, 1, []) := rd_look_of LL_156 rfl
theorem L_156_47 : rd_look 156 47 = some (76, .iload_n 1, 1, []) := rd_look_of LL_156 rfl
theorem L_156_48 : rd_look 156 48 = some (77, .imul, 1, []) := rd_look_of LL_156 rfl
theorem L_156_49 : rd_look 156 49 = some (78, .iload_n 2, 1, []) := rd_look_of LL_156 rfl
theorem L_156_50 : rd_look 156 50 = some (79, .iadd, 1, []) := rd_look_of LL_156 rfl
theorem L_156_51 : rd_look 156 51 = some (80, .iaload, 1, []) := rd_look_of LL_156 rfl
theorem L_156_52 : rd_look 156 52 = some (81, .goto 6, 3, [54]) := rd_look_of LL_156 rfl
theorem L_156_53 : rd_look 156 53 = some (84, .sipush (-1002), 3, []) := rd_look_of LL_156 rfl
theorem L_156_54 : rd_look 156 54 = some (87, .ireturn, 1, []) := rd_look_of LL_156 rfl
theorem L_157_0 : rd_look 157 0 = some (0, .aload_n 0, 1, []) := rd_look_of LL_157 rfl
theorem L_157_1 : rd_look 157 1 = some (1, .iload_n 1, 1, []) := rd_look_of LL_157 rfl
theorem L_157_2 : rd_look 157 2 = some (2, .putfield 175, 3, [12, 28, 144, 0]) := rd_look_of LL_157 rfl
theorem L_157_3 : rd_look 157 3 = some (5, .aload_n 0, 1, []) := rd_look_of LL_157 rfl
theorem L_157_4 : rd_look 157 4 = some (6, .iload_n 2, 1, []) := rd_look_of LL_157 rfl
theorem L_157_5 : rd_look 157 5 = some (7, .putfield 178, 3, [12, 29, 145, 0]) := rd_look_of LL_157 rfl
theorem L_157_6 : rd_look 157 6 = some (10, .return_, 1, []) := rd_look_of LL_157 rfl
theorem L_158_0 : rd_look 158 0 = some (0, .aload_n 0, 1, []) := rd_look_of LL_158 rfl
theorem L_158_1 : rd_look 158 1 = some (1, .getfield 25, 3, [12, 6, 107]) := rd_look_of LL_158 rfl
theorem L_158_2 : rd_look 158 2 = some (4, .iload_n 1, 1, []) := rd_look_of LL_158 rfl
theorem L_158_3 : rd_look 158 3 = some (5, .iaload, 1, []) := rd_look_of LL_158 rfl
theorem L_158_4 : rd_look 158 4 = some (6, .iload_n 2, 1, []) := rd_look_of LL_158 rfl
theorem L_158_5 : rd_look 158 5 = some (7, .ishr, 1, []) := rd_look_of LL_158 rfl
theorem L_158_6 : rd_look 158 6 = some (8, .iconst 1, 1, []) := rd_look_of LL_158 rfl
theorem L_158_7 : rd_look 158 7 = some (9, .iand, 1, []) := rd_look_of LL_158 rfl
theorem L_158_8 : rd_look 158 8 = some (10, .iconst 1, 1, []) := rd_look_of LL_158 rfl
theorem L_158_9 : rd_look 158 9 = some (11, .if_icmp .ne 7, 3, [12]) := rd_look_of LL_158 rfl
theorem L_158_10 : rd_look 158 10 = some (14, .iconst 1, 1, []) := rd_look_of LL_158 rfl
theorem L_158_11 : rd_look 158 11 = some (15, .goto 4, 3, [13]) := rd_look_of LL_158 rfl
theorem L_158_12 : rd_look 158 12 = some (18, .iconst 0, 1, []) := rd_look_of LL_158 rfl
theorem L_158_13 : rd_look 158 13 = some (19, .istore_n 3, 1, []) := rd_look_of LL_158 rfl
theorem L_158_14 : rd_look 158 14 = some (20, .aload_n 0, 1, []) := rd_look_of LL_158 rfl
theorem L_158_15 : rd_look 158 15 = some (21, .iload_n 3, 1, []) := rd_look_of LL_158 rfl
theorem L_158_16 : rd_look 158 16 = some (22, .ifCond .eq 7, 3, [19]) := rd_look_of LL_158 rfl
theorem L_158_17 : rd_look 158 17 = some (25, .iload_n 2, 1, []) := rd_look_of LL_158 rfl
theorem L_158_18 : rd_look 158 18 = some (26, .goto 5, 3, [20]) := rd_look_of LL_158 rfl
theorem L_158_19 : rd_look 158 19 = some (29, .bipush 8, 2, []) := rd_look_of LL_158 rfl
theorem L_158_20 : rd_look 158 20 = some (31, .putfield 181, 3, [12, 30, 146, 0]) := rd_look_of LL_158 rfl
theorem L_158_21 : rd_look 158 21 = some (34, .aload_n 0, 1, []) := rd_look_of LL_158 rfl
theorem L_158_22 : rd_look 158 22 = some (35, .iload_n 3, 1, []) := rd_look_of LL_158 rfl
theorem L_158_23 : rd_look 158 23 = some (36, .ifCond .eq 7, 3, [26]) := rd_look_of LL_158 rfl
theorem L_158_24 : rd_look 158 24 = some (39, .iconst 1, 1, []) := rd_look_of LL_158 rfl
theorem L_158_25 : rd_look 158 25 = some (40, .goto 4, 3, [27]) := rd_look_of LL_158 rfl
theorem L_158_26 : rd_look 158 26 = some (43, .iconst 2, 1, []) := rd_look_of LL_158 rfl
theorem L_158_27 : rd_look 158 27 = some (44, .putfield 184, 3, [12, 31, 147, 0]) := rd_look_of LL_158 rfl
theorem L_158_28 : rd_look 158 28 = some (47, .return_, 1, []) := rd_look_of LL_158 rfl
theorem L_159_0 : rd_look 159 0 = some (0, .aload_n 0, 1, []) := rd_look_of LL_159 rfl
theorem L_159_1 : rd_look 159 1 = some (1, .getfield 16, 3, [12, 3, 104]) := rd_look_of LL_159 rfl
theorem L_159_2 : rd_look 159 2 = some (4, .iload_n 1, 1, []) := rd_look_of LL_159 rfl
theorem L_159_3 : rd_look 159 3 = some (5, .iaload, 1, []) := rd_look_of LL_159 rfl
theorem L_159_4 : rd_look 159 4 = some (6, .istore 5, 2, []) := rd_look_of LL_159 rfl
theorem L_159_5 : rd_look 159 5 = some (8, .aload_n 0, 1, []) := rd_look_of LL_159 rfl
theorem L_159_6 : rd_look 159 6 = some (9, .getfield 19, 3, [12, 4, 105]) := rd_look_of LL_159 rfl
theorem L_159_7 : rd_look 159 7 = some (12, .iload_n 1, 1, []) := rd_look_of LL_159 rfl
theorem L_159_8 : rd_look 159 8 = some (13, .iaload, 1, []) := rd_look_of LL_159 rfl
theorem L_159_9 : rd_look 159 9 = some (14, .istore 6, 2, []) := rd_look_of LL_159 rfl
theorem L_159_10 : rd_look 159 10 = some (16, .iload 5, 2, []) := rd_look_of LL_159 rfl
theorem L_159_11 : rd_look 159 11 = some (18, .ifCond .le 14, 3, [18]) := rd_look_of LL_159 rfl
theorem L_159_12 : rd_look 159 12 = some (21, .iload 6, 2, []) := rd_look_of LL_159 rfl
theorem L_159_13 : rd_look 159 13 = some (23, .iconst 1, 1, []) := rd_look_of LL_159 rfl
theorem L_159_14 : rd_look 159 14 = some (24, .iand, 1, []) := rd_look_of LL_159 rfl
theorem L_159_15 : rd_look 159 15 = some (25, .ifCond .ne 7, 3, [18]) := rd_look_of LL_159 rfl
theorem L_159_16 : rd_look 159 16 = some (28, .iload_n 2, 1, []) := rd_look_of LL_159 rfl
theorem L_159_17 : rd_look 159 17 = some (29, .goto 4, 3, [19]) := rd_look_of LL_159 rfl
theorem L_159_18 : rd_look 159 18 = some (32, .iconst 0, 1, []) := rd_look_of LL_159 rfl
theorem L_159_19 : rd_look 159 19 = some (33, .istore 7, 2, []) := rd_look_of LL_159 rfl
theorem L_159_20 : rd_look 159 20 = some (35, .iload 7, 2, []) := rd_look_of LL_159 rfl
theorem L_159_21 : rd_look 159 21 = some (37, .iload 5, 2, []) := rd_look_of LL_159 rfl
theorem L_159_22 : rd_look 159 22 = some (39, .iconst 1, 1, []) := rd_look_of LL_159 rfl
theorem L_159_23 : rd_look 159 23 = some (40, .if_icmp .le 14, 3, [30]) := rd_look_of LL_159 rfl
theorem L_159_24 : rd_look 159 24 = some (43, .iload 6, 2, []) := rd_look_of LL_159 rfl
theorem L_159_25 : rd_look 159 25 = some (45, .iconst 2, 1, []) := rd_look_of LL_159 rfl
theorem L_159_26 : rd_look 159 26 = some (46, .iand, 1, []) := rd_look_of LL_159 rfl
theorem L_159_27 : rd_look 159 27 = some (47, .ifCond .ne 7, 3, [30]) := rd_look_of LL_159 rfl
theorem L_159_28 : rd_look 159 28 = some (50, .iload_n 3, 1, []) := rd_look_of LL_159 rfl
theorem L_159_29 : rd_look 159 29 = some (51, .goto 4, 3, [31]) := rd_look_of LL_159 rfl
theorem L_159_30 : rd_look 159 30 = some (54, .iconst 0, 1, []) := rd_look_of LL_159 rfl
theorem L_159_31 : rd_look 159 31 = some (55, .iadd, 1, []) := rd_look_of LL_159 rfl
theorem L_159_32 : rd_look 159 32 = some (56, .istore 7, 2, []) := rd_look_of LL_159 rfl
theorem L_159_33 : rd_look 159 33 = some (58, .iload 7, 2, []) := rd_look_of LL_159 rfl
theorem L_159_34 : rd_look 159 34 = some (60, .iload 5, 2, []) := rd_look_of LL_159 rfl
theorem L_159_35 : rd_look 159 35 = some (62, .iconst 2, 1, []) := rd_look_of LL_159 rfl
theorem L_159_36 : rd_look 159 36 = some (63, .if_icmp .le 15, 3, [43]) := rd_look_of LL_159 rfl
theorem L_159_37 : rd_look 159 37 = some (66, .iload 6, 2, []) := rd_look_of LL_159 rfl
theorem L_159_38 : rd_look 159 38 = some (68, .iconst 4, 1, []) := rd_look_of LL_159 rfl
theorem L_159_39 : rd_look 159 39 = some (69, .iand, 1, []) := rd_look_of LL_159 rfl
theorem L_159_40 : rd_look 159 40 = some (70, .ifCond .ne 8, 3, [43]) := rd_look_of LL_159 rfl
theorem L_159_41 : rd_look 159 41 = some (73, .iload 4, 2, []) := rd_look_of LL_159 rfl
theorem L_159_42 : rd_look 159 42 = some (75, .goto 4, 3, [44]) := rd_look_of LL_159 rfl
theorem L_159_43 : rd_look 159 43 = some (78, .iconst 0, 1, []) := rd_look_of LL_159 rfl
theorem L_159_44 : rd_look 159 44 = some (79, .iadd, 1, []) := rd_look_of LL_159 rfl
theorem L_159_45 : rd_look 159 45 = some (80, .ireturn, 1, []) := rd_look_of LL_159 rfl
theorem L_160_0 : rd_look 160 0 = some (0, .aload_n 0, 1, []) := rd_look_of LL_160 rfl
theorem L_160_1 : rd_look 160 1 = some (1, .getfield 31, 3, [12, 9, 109]) := rd_look_of LL_160 rfl
theorem L_160_2 : rd_look 160 2 = some (4, .iload_n 1, 1, []) := rd_look_of LL_160 rfl
theorem L_160_3 : rd_look 160 3 = some (5, .iaload, 1, []) := rd_look_of LL_160 rfl
theorem L_160_4 : rd_look 160 4 = some (6, .istore 4, 2, []) := rd_look_of LL_160 rfl
theorem L_160_5 : rd_look 160 5 = some (8, .iload 4, 2, []) := rd_look_of LL_160 rfl
theorem L_160_6 : rd_look 160 6 = some (10, .ifCond .ge 9, 3, [11]) := rd_look_of LL_160 rfl
theorem L_160_7 : rd_look 160 7 = some (13, .aload_n 0, 1, []) := rd_look_of LL_160 rfl
theorem L_160_8 : rd_look 160 8 = some (14, .iconst 3, 1, []) := rd_look_of LL_160 rfl
theorem L_160_9 : rd_look 160 9 = some (15, .putfield 184, 3, [12, 31, 147, 0]) := rd_look_of LL_160 rfl
theorem L_160_10 : rd_look 160 10 = some (18, .return_, 1, []) := rd_look_of LL_160 rfl
theorem L_160_11 : rd_look 160 11 = some (19, .aload_n 0, 1, []) := rd_look_of LL_160 rfl
theorem L_160_12 : rd_look 160 12 = some (20, .getfield 34, 3, [12, 10, 110]) := rd_look_of LL_160 rfl
theorem L_160_13 : rd_look 160 13 = some (23, .iload 4, 2, []) := rd_look_of LL_160 rfl
theorem L_160_14 : rd_look 160 14 = some (25, .iaload, 1, []) := rd_look_of LL_160 rfl
theorem L_160_15 : rd_look 160 15 = some (26, .iload_n 3, 1, []) := rd_look_of LL_160 rfl
theorem L_160_16 : rd_look 160 16 = some (27, .iadd, 1, []) := rd_look_of LL_160 rfl
theorem L_160_17 : rd_look 160 17 = some (28, .istore 5, 2, []) := rd_look_of LL_160 rfl
theorem L_160_18 : rd_look 160 18 = some (30, .iload 5, 2, []) := rd_look_of LL_160 rfl
theorem L_160_19 : rd_look 160 19 = some (32, .iconst 0, 1, []) := rd_look_of LL_160 rfl
theorem L_160_20 : rd_look 160 20 = some (33, .sipush 255, 3, []) := rd_look_of LL_160 rfl
theorem L_160_21 : rd_look 160 21 = some (36, .invokestatic 133, 3, [137, 3, 158]) := rd_look_of LL_160 rfl
theorem L_160_22 : rd_look 160 22 = some (39, .ifCond .ne 11, 3, [28]) := rd_look_of LL_160 rfl
theorem L_160_23 : rd_look 160 23 = some (42, .aload_n 0, 1, []) := rd_look_of LL_160 rfl
theorem L_160_24 : rd_look 160 24 = some (43, .iload_n 2, 1, []) := rd_look_of LL_160 rfl
theorem L_160_25 : rd_look 160 25 = some (44, .bipush 7, 2, []) := rd_look_of LL_160 rfl
theorem L_160_26 : rd_look 160 26 = some (46, .invokevirtual 187, 3, [158, 2, 168, 12]) := rd_look_of LL_160 rfl
theorem L_160_27 : rd_look 160 27 = some (49, .return_, 1, []) := rd_look_of LL_160 rfl
theorem L_160_28 : rd_look 160 28 = some (50, .aload_n 0, 1, []) := rd_look_of LL_160 rfl
theorem L_160_29 : rd_look 160 29 = some (51, .getfield 34, 3, [12, 10, 110]) := rd_look_of LL_160 rfl
theorem L_160_30 : rd_look 160 30 = some (54, .iload 4, 2, []) := rd_look_of LL_160 rfl
theorem L_160_31 : rd_look 160 31 = some (56, .iload 5, 2, []) := rd_look_of LL_160 rfl
theorem L_160_32 : rd_look 160 32 = some (58, .iastore, 1, []) := rd_look_of LL_160 rfl
theorem L_160_33 : rd_look 160 33 = some (59, .aload_n 0, 1, []) := rd_look_of LL_160 rfl
theorem L_160_34 : rd_look 160 34 = some (60, .iconst 1, 1, []) := rd_look_of LL_160 rfl
theorem L_160_35 : rd_look 160 35 = some (61, .iload 5, 2, []) := rd_look_of LL_160 rfl
theorem L_160_36 : rd_look 160 36 = some (63, .invokevirtual 191, 3, [157, 2, 169, 12]) := rd_look_of LL_160 rfl
theorem L_160_37 : rd_look 160 37 = some (66, .return_, 1, []) := rd_look_of LL_160 rfl
theorem L_161_0 : rd_look 161 0 = some (0, .aload_n 0, 1, []) := rd_look_of LL_161 rfl
theorem L_161_1 : rd_look 161 1 = some (1, .getfield 158, 3, [12, 16, 143]) := rd_look_of LL_161 rfl
theorem L_161_2 : rd_look 161 2 = some (4, .iconst 1, 1, []) := rd_look_of LL_161 rfl
theorem L_161_3 : rd_look 161 3 = some (5, .isub, 1, []) := rd_look_of LL_161 rfl
theorem L_161_4 : rd_look 161 4 = some (6, .istore 6, 2, []) := rd_look_of LL_161 rfl
theorem L_161_5 : rd_look 161 5 = some (8, .iload 6, 2, []) := rd_look_of LL_161 rfl
theorem L_161_6 : rd_look 161 6 = some (10, .ifCond .lt 38, 3, [25]) := rd_look_of LL_161 rfl
theorem L_161_7 : rd_look 161 7 = some (13, .aload_n 0, 1, []) := rd_look_of LL_161 rfl
theorem L_161_8 : rd_look 161 8 = some (14, .getfield 52, 3, [12, 17, 116]) := rd_look_of LL_161 rfl
theorem L_161_9 : rd_look 161 9 = some (17, .iload 6, 2, []) := rd_look_of LL_161 rfl
theorem L_161_10 : rd_look 161 10 = some (19, .iaload, 1, []) := rd_look_of LL_161 rfl
theorem L_161_11 : rd_look 161 11 = some (20, .ifCond .le 22, 3, [23]) := rd_look_of LL_161 rfl
theorem L_161_12 : rd_look 161 12 = some (23, .aload_n 0, 1, []) := rd_look_of LL_161 rfl
theorem L_161_13 : rd_look 161 13 = some (24, .iload 6, 2, []) := rd_look_of LL_161 rfl
theorem L_161_14 : rd_look 161 14 = some (26, .iload_n 1, 1, []) := rd_look_of LL_161 rfl
theorem L_161_15 : rd_look 161 15 = some (27, .iload_n 2, 1, []) := rd_look_of LL_161 rfl
theorem L_161_16 : rd_look 161 16 = some (28, .iload_n 3, 1, []) := rd_look_of LL_161 rfl
theorem L_161_17 : rd_look 161 17 = some (29, .iload 4, 2, []) := rd_look_of LL_161 rfl
theorem L_161_18 : rd_look 161 18 = some (31, .iload 5, 2, []) := rd_look_of LL_161 rfl
theorem L_161_19 : rd_look 161 19 = some (33, .invokevirtual 194, 3, [151, 6, 170, 12]) := rd_look_of LL_161 rfl
theorem L_161_20 : rd_look 161 20 = some (36, .ifCond .eq 6, 3, [23]) := rd_look_of LL_161 rfl
theorem L_161_21 : rd_look 161 21 = some (39, .iload 6, 2, []) := rd_look_of LL_161 rfl
theorem L_161_22 : rd_look 161 22 = some (41, .ireturn, 1, []) := rd_look_of LL_161 rfl
theorem L_161_23 : rd_look 161 23 = some (42, .iinc 6 (-1), 3, []) := rd_look_of LL_161 rfl
theorem L_161_24 : rd_look 161 24 = some (45, .goto (-37), 3, [5]) := rd_look_of LL_161 rfl
theorem L_161_25 : rd_look 161 25 = some (48, .iconst (-1), 1, []) := rd_look_of LL_161 rfl
theorem L_161_26 : rd_look 161 26 = some (49, .ireturn, 1, []) := rd_look_of LL_161 rfl
theorem L_162_0 : rd_look 162 0 = some (0, .aload_n 0, 1, []) := rd_look_of LL_162 rfl
theorem L_162_1 : rd_look 162 1 = some (1, .getfield 61, 3, [12, 20, 119]) := rd_look_of LL_162 rfl
theorem L_162_2 : rd_look 162 2 = some (4, .iload_n 1, 1, []) := rd_look_of LL_162 rfl
theorem L_162_3 : rd_look 162 3 = some (5, .iaload, 1, []) := rd_look_of LL_162 rfl
theorem L_162_4 : rd_look 162 4 = some (6, .aload_n 0, 1, []) := rd_look_of LL_162 rfl
theorem L_162_5 : rd_look 162 5 = some (7, .getfield 52, 3, [12, 17, 116]) := rd_look_of LL_162 rfl
theorem L_162_6 : rd_look 162 6 = some (10, .iload_n 1, 1, []) := rd_look_of LL_162 rfl
theorem L_162_7 : rd_look 162 7 = some (11, .iaload, 1, []) := rd_look_of LL_162 rfl
theorem L_162_8 : rd_look 162 8 = some (12, .if_icmp .ge 12, 3, [14]) := rd_look_of LL_162 rfl
theorem L_162_9 : rd_look 162 9 = some (15, .aload_n 0, 1, []) := rd_look_of LL_162 rfl
theorem L_162_10 : rd_look 162 10 = some (16, .getfield 61, 3, [12, 20, 119]) := rd_look_of LL_162 rfl
theorem L_162_11 : rd_look 162 11 = some (19, .iload_n 1, 1, []) := rd_look_of LL_162 rfl
theorem L_162_12 : rd_look 162 12 = some (20, .iaload, 1, []) := rd_look_of LL_162 rfl
theorem L_162_13 : rd_look 162 13 = some (21, .goto 11, 3, [20]) := rd_look_of LL_162 rfl
theorem L_162_14 : rd_look 162 14 = some (24, .aload_n 0, 1, []) := rd_look_of LL_162 rfl
theorem L_162_15 : rd_look 162 15 = some (25, .getfield 52, 3, [12, 17, 116]) := rd_look_of LL_162 rfl
theorem L_162_16 : rd_look 162 16 = some (28, .iload_n 1, 1, []) := rd_look_of LL_162 rfl
theorem L_162_17 : rd_look 162 17 = some (29, .iaload, 1, []) := rd_look_of LL_162 rfl
theorem L_162_18 : rd_look 162 18 = some (30, .iconst 1, 1, []) := rd_look_of LL_162 rfl
theorem L_162_19 : rd_look 162 19 = some (31, .isub, 1, []) := rd_look_of LL_162 rfl
theorem L_162_20 : rd_look 162 20 = some (32, .istore 7, 2, []) := rd_look_of LL_162 rfl
theorem L_162_21 : rd_look 162 21 = some (34, .aload_n 0, 1, []) := rd_look_of LL_162 rfl
theorem L_162_22 : rd_look 162 22 = some (35, .getfield 61, 3, [12, 20, 119]) := rd_look_of LL_162 rfl
theorem L_162_23 : rd_look 162 23 = some (38, .iload_n 1, 1, []) := rd_look_of LL_162 rfl
theorem L_162_24 : rd_look 162 24 = some (39, .dup2, 1, []) := rd_look_of LL_162 rfl
theorem L_162_25 : rd_look 162 25 = some (40, .iaload, 1, []) := rd_look_of LL_162 rfl
theorem L_162_26 : rd_look 162 26 = some (41, .iconst 1, 1, []) := rd_look_of LL_162 rfl
theorem L_162_27 : rd_look 162 27 = some (42, .iadd, 1, []) := rd_look_of LL_162 rfl
theorem L_162_28 : rd_look 162 28 = some (43, .iastore, 1, []) := rd_look_of LL_162 rfl
theorem L_162_29 : rd_look 162 29 = some (44, .iconst 0, 1, []) := rd_look_of LL_162 rfl
theorem L_162_30 : rd_look 162 30 = some (45, .istore 8, 2, []) := rd_look_of LL_162 rfl
theorem L_162_31 : rd_look 162 31 = some (47, .iload 8, 2, []) := rd_look_of LL_162 rfl
theorem L_162_32 : rd_look 162 32 = some (49, .aload_n 0, 1, []) := rd_look_of LL_162 rfl
theorem L_162_33 : rd_look 162 33 = some (50, .getfield 16, 3, [12, 3, 104]) := rd_look_of LL_162 rfl
theorem L_162_34 : rd_look 162 34 = some (53, .iload_n 3, 1, []) := rd_look_of LL_162 rfl
theorem L_162_35 : rd_look 162 35 = some (54, .iaload, 1, []) := rd_look_of LL_162 rfl
theorem L_162_36 : rd_look 162 36 = some (55, .if_icmp .ge 71, 3, [76]) := rd_look_of LL_162 rfl
theorem L_162_37 : rd_look 162 37 = some (58, .aload_n 0, 1, []) := rd_look_of LL_162 rfl
theorem L_162_38 : rd_look 162 38 = some (59, .getfield 43, 3, [12, 13, 113]) := rd_look_of LL_162 rfl
theorem L_162_39 : rd_look 162 39 = some (62, .iconst 3, 1, []) := rd_look_of LL_162 rfl
theorem L_162_40 : rd_look 162 40 = some (63, .iload_n 1, 1, []) := rd_look_of LL_162 rfl
theorem L_162_41 : rd_look 162 41 = some (64, .imul, 1, []) := rd_look_of LL_162 rfl
theorem L_162_42 : rd_look 162 42 = some (65, .iload 8, 2, []) := rd_look_of LL_162 rfl
theorem L_162_43 : rd_look 162 43 = some (67, .iadd, 1, []) := rd_look_of LL_162 rfl
theorem L_162_44 : rd_look 162 44 = some (68, .iaload, 1, []) := rd_look_of LL_162 rfl
theorem L_162_45 : rd_look 162 45 = some (69, .bipush 6, 2, []) := rd_look_of LL_162 rfl
theorem L_162_46 : rd_look 162 46 = some (71, .if_icmp .ne 49, 3, [74]) := rd_look_of LL_162 rfl
theorem L_162_47 : rd_look 162 47 = some (74, .aload_n 0, 1, []) := rd_look_of LL_162 rfl
theorem L_162_48 : rd_look 162 48 = some (75, .getfield 64, 3, [12, 21, 120]) := rd_look_of LL_162 rfl
theorem L_162_49 : rd_look 162 49 = some (78, .iconst 3, 1, []) := rd_look_of LL_162 rfl
theorem L_162_50 : rd_look 162 50 = some (79, .iload_n 1, 1, []) := rd_look_of LL_162 rfl
theorem L_162_51 : rd_look 162 51 = some (80, .imul, 1, []) := rd_look_of LL_162 rfl
theorem L_162_52 : rd_look 162 52 = some (81, .iload 8, 2, []) := rd_look_of LL_162 rfl
theorem L_162_53 : rd_look 162 53 = some (83, .iadd, 1, []) := rd_look_of LL_162 rfl
theorem L_162_54 : rd_look 162 54 = some (84, .iconst 1, 1, []) := rd_look_of LL_162 rfl
theorem L_162_55 : rd_look 162 55 = some (85, .bastore, 1, []) := rd_look_of LL_162 rfl
theorem L_162_56 : rd_look 162 56 = some (86, .aload_n 0, 1, []) := rd_look_of LL_162 rfl
theorem L_162_57 : rd_look 162 57 = some (87, .getfield 68, 3, [12, 22, 121]) := rd_look_of LL_162 rfl
theorem L_162_58 : rd_look 162 58 = some (90, .iconst 3, 1, []) := rd_look_of LL_162 rfl
theorem L_162_59 : rd_look 162 59 = some (91, .iload_n 1, 1, []) := rd_look_of LL_162 rfl
theorem L_162_60 : rd_look 162 60 = some (92, .imul, 1, []) := rd_look_of LL_162 rfl
theorem L_162_61 : rd_look 162 61 = some (93, .iload 8, 2, []) := rd_look_of LL_162 rfl
theorem L_162_62 : rd_look 162 62 = some (95, .iadd, 1, []) := rd_look_of LL_162 rfl
theorem L_162_63 : rd_look 162 63 = some (96, .iload 8, 2, []) := rd_look_of LL_162 rfl
theorem L_162_64 : rd_look 162 64 = some (98, .ifCond .ne 8, 3, [67]) := rd_look_of LL_162 rfl
theorem L_162_65 : rd_look 162 65 = some (101, .iload 4, 2, []) := rd_look_of LL_162 rfl
theorem L_162_66 : rd_look 162 66 = some (103, .goto 16, 3, [73]) := rd_look_of LL_162 rfl
theorem L_162_67 : rd_look 162 67 = some (106, .iload 8, 2, []) := rd_look_of LL_162 rfl
theorem L_162_68 : rd_look 162 68 = some (108, .iconst 1, 1, []) := rd_look_of LL_162 rfl
theorem L_162_69 : rd_look 162 69 = some (109, .if_icmp .ne 8, 3, [72]) := rd_look_of LL_162 rfl
theorem L_162_70 : rd_look 162 70 = some (112, .iload 5, 2, []) := rd_look_of LL_162 rfl
theorem L_162_71 : rd_look 162 71 = some (114, .goto 5, 3, [73]) := rd_look_of LL_162 rfl
theorem L_162_72 : rd_look 162 72 = some (117, .iload 6, 2, []) := rd_look_of LL_162 rfl
theorem L_162_73 : rd_look 162 73 = some (119, .iastore, 1, []) := rd_look_of LL_162 rfl
theorem L_162_74 : rd_look 162 74 = some (120, .iinc 8 1, 3, []) := rd_look_of LL_162 rfl
theorem L_162_75 : rd_look 162 75 = some (123, .goto (-76), 3, [31]) := rd_look_of LL_162 rfl
theorem L_162_76 : rd_look 162 76 = some (126, .aload_n 0, 1, []) := rd_look_of LL_162 rfl
theorem L_162_77 : rd_look 162 77 = some (127, .getfield 58, 3, [12, 19, 118]) := rd_look_of LL_162 rfl
theorem L_162_78 : rd_look 162 78 = some (130, .bipush 6, 2, []) := rd_look_of LL_162 rfl
theorem L_162_79 : rd_look 162 79 = some (132, .iload_n 1, 1, []) := rd_look_of LL_162 rfl
theorem L_162_80 : rd_look 162 80 = some (133, .imul, 1, []) := rd_look_of LL_162 rfl
theorem L_162_81 : rd_look 162 81 = some (134, .iload 7, 2, []) := rd_look_of LL_162 rfl
theorem L_162_82 : rd_look 162 82 = some (136, .iadd, 1, []) := rd_look_of LL_162 rfl
theorem L_162_83 : rd_look 162 83 = some (137, .iaload, 1, []) := rd_look_of LL_162 rfl
theorem L_162_84 : rd_look 162 84 = some (138, .istore 8, 2, []) := rd_look_of LL_162 rfl
theorem L_162_85 : rd_look 162 85 = some (140, .aload_n 0, 1, []) := rd_look_of LL_162 rfl
theorem L_162_86 : rd_look 162 86 = some (141, .getfield 55, 3, [12, 18, 117]) := rd_look_of LL_162 rfl
theorem L_162_87 : rd_look 162 87 = some (144, .bipush 6, 2, []) := rd_look_of LL_162 rfl
theorem L_162_88 : rd_look 162 88 = some (146, .iload_n 1, 1, []) := rd_look_of LL_162 rfl
theorem L_162_89 : rd_look 162 89 = some (147, .imul, 1, []) := rd_look_of LL_162 rfl
theorem L_162_90 : rd_look 162 90 = some (148, .iload 7, 2, []) := rd_look_of LL_162 rfl
theorem L_162_91 : rd_look 162 91 = some (150, .iadd, 1, []) := rd_look_of LL_162 rfl
theorem L_162_92 : rd_look 162 92 = some (151, .iaload, 1, []) := rd_look_of LL_162 rfl
theorem L_162_93 : rd_look 162 93 = some (152, .tableswitch 138 0 4 #[36, 46, 56, 66, 88], 36, [147, 94, 99, 104, 109, 121]) := rd_look_of LL_162 rfl
theorem L_162_94 : rd_look 162 94 = some (188, .aload_n 0, 1, []) := rd_look_of LL_162 rfl
theorem L_162_95 : rd_look 162 95 = some (189, .iconst 1, 1, []) := rd_look_of LL_162 rfl
theorem L_162_96 : rd_look 162 96 = some (190, .iload 8, 2, []) := rd_look_of LL_162 rfl
theorem L_162_97 : rd_look 162 97 = some (192, .invokevirtual 191, 3, [157, 2, 169, 12]) := rd_look_of LL_162 rfl
theorem L_162_98 : rd_look 162 98 = some (195, .goto 112, 3, [157]) := rd_look_of LL_162 rfl
theorem L_162_99 : rd_look 162 99 = some (198, .aload_n 0, 1, []) := rd_look_of LL_162 rfl
theorem L_162_100 : rd_look 162 100 = some (199, .iconst 2, 1, []) := rd_look_of LL_162 rfl
theorem L_162_101 : rd_look 162 101 = some (200, .iload 8, 2, []) := rd_look_of LL_162 rfl
theorem L_162_102 : rd_look 162 102 = some (202, .invokevirtual 191, 3, [157, 2, 169, 12]) := rd_look_of LL_162 rfl
theorem L_162_103 : rd_look 162 103 = some (205, .goto 102, 3, [157]) := rd_look_of LL_162 rfl
theorem L_162_104 : rd_look 162 104 = some (208, .aload_n 0, 1, []) := rd_look_of LL_162 rfl
theorem L_162_105 : rd_look 162 105 = some (209, .iload_n 3, 1, []) := rd_look_of LL_162 rfl
theorem L_162_106 : rd_look 162 106 = some (210, .iload 8, 2, []) := rd_look_of LL_162 rfl
theorem L_162_107 : rd_look 162 107 = some (212, .invokevirtual 187, 3, [158, 2, 168, 12]) := rd_look_of LL_162 rfl
theorem L_162_108 : rd_look 162 108 = some (215, .goto 92, 3, [157]) := rd_look_of LL_162 rfl
theorem L_162_109 : rd_look 162 109 = some (218, .aload_n 0, 1, []) := rd_look_of LL_162 rfl
theorem L_162_110 : rd_look 162 110 = some (219, .iconst 1, 1, []) := rd_look_of LL_162 rfl
theorem L_162_111 : rd_look 162 111 = some (220, .iload 8, 2, []) := rd_look_of LL_162 rfl
theorem L_162_112 : rd_look 162 112 = some (222, .aload_n 0, 1, []) := rd_look_of LL_162 rfl
theorem L_162_113 : rd_look 162 113 = some (223, .iload_n 3, 1, []) := rd_look_of LL_162 rfl
theorem L_162_114 : rd_look 162 114 = some (224, .iload 4, 2, []) := rd_look_of LL_162 rfl
theorem L_162_115 : rd_look 162 115 = some (226, .iload 5, 2, []) := rd_look_of LL_162 rfl
theorem L_162_116 : rd_look 162 116 = some (228, .iload 6, 2, []) := rd_look_of LL_162 rfl
theorem L_162_117 : rd_look 162 117 = some (230, .invokevirtual 198, 3, [159, 4, 171, 12]) := rd_look_of LL_162 rfl
theorem L_162_118 : rd_look 162 118 = some (233, .iadd, 1, []) := rd_look_of LL_162 rfl
theorem L_162_119 : rd_look 162 119 = some (234, .invokevirtual 191, 3, [157, 2, 169, 12]) := rd_look_of LL_162 rfl
theorem L_162_120 : rd_look 162 120 = some (237, .goto 70, 3, [157]) := rd_look_of LL_162 rfl
theorem L_162_121 : rd_look 162 121 = some (240, .aload_n 0, 1, []) := rd_look_of LL_162 rfl
theorem L_162_122 : rd_look 162 122 = some (241, .aload_n 0, 1, []) := rd_look_of LL_162 rfl
theorem L_162_123 : rd_look 162 123 = some (242, .getfield 19, 3, [12, 4, 105]) := rd_look_of LL_162 rfl
theorem L_162_124 : rd_look 162 124 = some (245, .iload_n 3, 1, []) := rd_look_of LL_162 rfl
theorem L_162_125 : rd_look 162 125 = some (246, .iaload, 1, []) := rd_look_of LL_162 rfl
theorem L_162_126 : rd_look 162 126 = some (247, .iload 8, 2, []) := rd_look_of LL_162 rfl
theorem L_162_127 : rd_look 162 127 = some (249, .ishr, 1, []) := rd_look_of LL_162 rfl
theorem L_162_128 : rd_look 162 128 = some (250, .iconst 1, 1, []) := rd_look_of LL_162 rfl
theorem L_162_129 : rd_look 162 129 = some (251, .iand, 1, []) := rd_look_of LL_162 rfl
theorem L_162_130 : rd_look 162 130 = some (252, .iconst 1, 1, []) := rd_look_of LL_162 rfl
theorem L_162_131 : rd_look 162 131 = some (253, .if_icmp .ne 7, 3, [134]) := rd_look_of LL_162 rfl
theorem L_162_132 : rd_look 162 132 = some (256, .iconst 2, 1, []) := rd_look_of LL_162 rfl
theorem L_162_133 : rd_look 162 133 = some (257, .goto 4, 3, [135]) := rd_look_of LL_162 rfl
theorem L_162_134 : rd_look 162 134 = some (260, .iconst 1, 1, []) := rd_look_of LL_162 rfl
theorem L_162_135 : rd_look 162 135 = some (261, .iload 8, 2, []) := rd_look_of LL_162 rfl
theorem L_162_136 : rd_look 162 136 = some (263, .ifCond .ne 8, 3, [139]) := rd_look_of LL_162 rfl
theorem L_162_137 : rd_look 162 137 = some (266, .iload 4, 2, []) := rd_look_of LL_162 rfl
theorem L_162_138 : rd_look 162 138 = some (268, .goto 16, 3, [145]) := rd_look_of LL_162 rfl
theorem L_162_139 : rd_look 162 139 = some (271, .iload 8, 2, []) := rd_look_of LL_162 rfl
theorem L_162_140 : rd_look 162 140 = some (273, .iconst 1, 1, []) := rd_look_of LL_162 rfl
theorem L_162_141 : rd_look 162 141 = some (274, .if_icmp .ne 8, 3, [144]) := rd_look_of LL_162 rfl
theorem L_162_142 : rd_look 162 142 = some (277, .iload 5, 2, []) := rd_look_of LL_162 rfl
theorem L_162_143 : rd_look 162 143 = some (279, .goto 5, 3, [145]) := rd_look_of LL_162 rfl
theorem L_162_144 : rd_look 162 144 = some (282, .iload 6, 2, []) := rd_look_of LL_162 rfl
theorem L_162_145 : rd_look 162 145 = some (284, .invokevirtual 191, 3, [157, 2, 169, 12]) := rd_look_of LL_162 rfl
theorem L_162_146 : rd_look 162 146 = some (287, .goto 20, 3, [157]) := rd_look_of LL_162 rfl
theorem L_162_147 : rd_look 162 147 = some (290, .aload_n 0, 1, []) := rd_look_of LL_162 rfl
theorem L_162_148 : rd_look 162 148 = some (291, .iload_n 2, 1, []) := rd_look_of LL_162 rfl
theorem L_162_149 : rd_look 162 149 = some (292, .iload_n 3, 1, []) := rd_look_of LL_162 rfl
theorem L_162_150 : rd_look 162 150 = some (293, .aload_n 0, 1, []) := rd_look_of LL_162 rfl
theorem L_162_151 : rd_look 162 151 = some (294, .iload_n 3, 1, []) := rd_look_of LL_162 rfl
theorem L_162_152 : rd_look 162 152 = some (295, .iload 4, 2, []) := rd_look_of LL_162 rfl
theorem L_162_153 : rd_look 162 153 = some (297, .iload 5, 2, []) := rd_look_of LL_162 rfl
theorem L_162_154 : rd_look 162 154 = some (299, .iload 6, 2, []) := rd_look_of LL_162 rfl
theorem L_162_155 : rd_look 162 155 = some (301, .invokevirtual 198, 3, [159, 4, 171, 12]) := rd_look_of LL_162 rfl
theorem L_162_156 : rd_look 162 156 = some (304, .invokevirtual 202, 3, [160, 3, 172, 12]) := rd_look_of LL_162 rfl
theorem L_162_157 : rd_look 162 157 = some (307, .return_, 1, []) := rd_look_of LL_162 rfl
theorem L_163_0 : rd_look 163 0 = some (0, .aload_n 0, 1, []) := rd_look_of LL_163 rfl
theorem L_163_1 : rd_look 163 1 = some (1, .iload_n 1, 1, []) := rd_look_of LL_163 rfl
theorem L_163_2 : rd_look 163 2 = some (2, .iload_n 2, 1, []) := rd_look_of LL_163 rfl
theorem L_163_3 : rd_look 163 3 = some (3, .invokevirtual 148, 3, [146, 2, 161, 12]) := rd_look_of LL_163 rfl
theorem L_163_4 : rd_look 163 4 = some (6, .istore 6, 2, []) := rd_look_of LL_163 rfl
theorem L_163_5 : rd_look 163 5 = some (8, .aload_n 0, 1, []) := rd_look_of LL_163 rfl
theorem L_163_6 : rd_look 163 6 = some (9, .getfield 16, 3, [12, 3, 104]) := rd_look_of LL_163 rfl
theorem L_163_7 : rd_look 163 7 = some (12, .iload 6, 2, []) := rd_look_of LL_163 rfl
theorem L_163_8 : rd_look 163 8 = some (14, .iaload, 1, []) := rd_look_of LL_163 rfl
theorem L_163_9 : rd_look 163 9 = some (15, .istore 7, 2, []) := rd_look_of LL_163 rfl
theorem L_163_10 : rd_look 163 10 = some (17, .aload_n 0, 1, []) := rd_look_of LL_163 rfl
theorem L_163_11 : rd_look 163 11 = some (18, .iconst 0, 1, []) := rd_look_of LL_163 rfl
theorem L_163_12 : rd_look 163 12 = some (19, .putfield 175, 3, [12, 28, 144, 0]) := rd_look_of LL_163 rfl
theorem L_163_13 : rd_look 163 13 = some (22, .aload_n 0, 1, []) := rd_look_of LL_163 rfl
theorem L_163_14 : rd_look 163 14 = some (23, .iconst 0, 1, []) := rd_look_of LL_163 rfl
theorem L_163_15 : rd_look 163 15 = some (24, .putfield 178, 3, [12, 29, 145, 0]) := rd_look_of LL_163 rfl
theorem L_163_16 : rd_look 163 16 = some (27, .aload_n 0, 1, []) := rd_look_of LL_163 rfl
theorem L_163_17 : rd_look 163 17 = some (28, .iconst (-1), 1, []) := rd_look_of LL_163 rfl
theorem L_163_18 : rd_look 163 18 = some (29, .putfield 181, 3, [12, 30, 146, 0]) := rd_look_of LL_163 rfl
theorem L_163_19 : rd_look 163 19 = some (32, .aload_n 0, 1, []) := rd_look_of LL_163 rfl
theorem L_163_20 : rd_look 163 20 = some (33, .iconst 0, 1, []) := rd_look_of LL_163 rfl
theorem L_163_21 : rd_look 163 21 = some (34, .putfield 184, 3, [12, 31, 147, 0]) := rd_look_of LL_163 rfl
theorem L_163_22 : rd_look 163 22 = some (37, .aload_n 0, 1, []) := rd_look_of LL_163 rfl
theorem L_163_23 : rd_look 163 23 = some (38, .iload_n 1, 1, []) := rd_look_of LL_163 rfl
theorem L_163_24 : rd_look 163 24 = some (39, .iload_n 2, 1, []) := rd_look_of LL_163 rfl
theorem L_163_25 : rd_look 163 25 = some (40, .iload_n 3, 1, []) := rd_look_of LL_163 rfl
theorem L_163_26 : rd_look 163 26 = some (41, .iload 4, 2, []) := rd_look_of LL_163 rfl
theorem L_163_27 : rd_look 163 27 = some (43, .iload 5, 2, []) := rd_look_of LL_163 rfl
theorem L_163_28 : rd_look 163 28 = some (45, .invokevirtual 205, 3, [161, 5, 173, 12]) := rd_look_of LL_163 rfl
theorem L_163_29 : rd_look 163 29 = some (48, .istore 8, 2, []) := rd_look_of LL_163 rfl
theorem L_163_30 : rd_look 163 30 = some (50, .iload 8, 2, []) := rd_look_of LL_163 rfl
theorem L_163_31 : rd_look 163 31 = some (52, .ifCond .lt 20, 3, [41]) := rd_look_of LL_163 rfl
theorem L_163_32 : rd_look 163 32 = some (55, .aload_n 0, 1, []) := rd_look_of LL_163 rfl
theorem L_163_33 : rd_look 163 33 = some (56, .iload 8, 2, []) := rd_look_of LL_163 rfl
theorem L_163_34 : rd_look 163 34 = some (58, .iload_n 1, 1, []) := rd_look_of LL_163 rfl
theorem L_163_35 : rd_look 163 35 = some (59, .iload 6, 2, []) := rd_look_of LL_163 rfl
theorem L_163_36 : rd_look 163 36 = some (61, .iload_n 3, 1, []) := rd_look_of LL_163 rfl
theorem L_163_37 : rd_look 163 37 = some (62, .iload 4, 2, []) := rd_look_of LL_163 rfl
theorem L_163_38 : rd_look 163 38 = some (64, .iload 5, 2, []) := rd_look_of LL_163 rfl
theorem L_163_39 : rd_look 163 39 = some (66, .invokevirtual 208, 3, [162, 6, 174, 12]) := rd_look_of LL_163 rfl
theorem L_163_40 : rd_look 163 40 = some (69, .goto 21, 3, [51]) := rd_look_of LL_163 rfl
theorem L_163_41 : rd_look 163 41 = some (72, .aload_n 0, 1, []) := rd_look_of LL_163 rfl
theorem L_163_42 : rd_look 163 42 = some (73, .iload_n 1, 1, []) := rd_look_of LL_163 rfl
theorem L_163_43 : rd_look 163 43 = some (74, .iload 6, 2, []) := rd_look_of LL_163 rfl
theorem L_163_44 : rd_look 163 44 = some (76, .aload_n 0, 1, []) := rd_look_of LL_163 rfl
theorem L_163_45 : rd_look 163 45 = some (77, .iload 6, 2, []) := rd_look_of LL_163 rfl
theorem L_163_46 : rd_look 163 46 = some (79, .iload_n 3, 1, []) := rd_look_of LL_163 rfl
theorem L_163_47 : rd_look 163 47 = some (80, .iload 4, 2, []) := rd_look_of LL_163 rfl
theorem L_163_48 : rd_look 163 48 = some (82, .iload 5, 2, []) := rd_look_of LL_163 rfl
theorem L_163_49 : rd_look 163 49 = some (84, .invokevirtual 198, 3, [159, 4, 171, 12]) := rd_look_of LL_163 rfl
theorem L_163_50 : rd_look 163 50 = some (87, .invokevirtual 202, 3, [160, 3, 172, 12]) := rd_look_of LL_163 rfl
theorem L_163_51 : rd_look 163 51 = some (90, .aload_n 0, 1, []) := rd_look_of LL_163 rfl
theorem L_163_52 : rd_look 163 52 = some (91, .getfield 22, 3, [12, 5, 106]) := rd_look_of LL_163 rfl
theorem L_163_53 : rd_look 163 53 = some (94, .iload 6, 2, []) := rd_look_of LL_163 rfl
theorem L_163_54 : rd_look 163 54 = some (96, .iaload, 1, []) := rd_look_of LL_163 rfl
theorem L_163_55 : rd_look 163 55 = some (97, .iconst 1, 1, []) := rd_look_of LL_163 rfl
theorem L_163_56 : rd_look 163 56 = some (98, .if_icmp .ne 22, 3, [66]) := rd_look_of LL_163 rfl
theorem L_163_57 : rd_look 163 57 = some (101, .aload_n 0, 1, []) := rd_look_of LL_163 rfl
theorem L_163_58 : rd_look 163 58 = some (102, .getfield 175, 3, [12, 28, 144]) := rd_look_of LL_163 rfl
theorem L_163_59 : rd_look 163 59 = some (105, .iconst 1, 1, []) := rd_look_of LL_163 rfl
theorem L_163_60 : rd_look 163 60 = some (106, .if_icmp .ne 10, 3, [64]) := rd_look_of LL_163 rfl
theorem L_163_61 : rd_look 163 61 = some (109, .aload_n 0, 1, []) := rd_look_of LL_163 rfl
theorem L_163_62 : rd_look 163 62 = some (110, .getfield 178, 3, [12, 29, 145]) := rd_look_of LL_163 rfl
theorem L_163_63 : rd_look 163 63 = some (113, .goto 38, 3, [82]) := rd_look_of LL_163 rfl
theorem L_163_64 : rd_look 163 64 = some (116, .iconst 0, 1, []) := rd_look_of LL_163 rfl
theorem L_163_65 : rd_look 163 65 = some (117, .goto 34, 3, [82]) := rd_look_of LL_163 rfl
theorem L_163_66 : rd_look 163 66 = some (120, .aload_n 0, 1, []) := rd_look_of LL_163 rfl
theorem L_163_67 : rd_look 163 67 = some (121, .getfield 22, 3, [12, 5, 106]) := rd_look_of LL_163 rfl
theorem L_163_68 : rd_look 163 68 = some (124, .iload 6, 2, []) := rd_look_of LL_163 rfl
theorem L_163_69 : rd_look 163 69 = some (126, .iaload, 1, []) := rd_look_of LL_163 rfl
theorem L_163_70 : rd_look 163 70 = some (127, .iconst 2, 1, []) := rd_look_of LL_163 rfl
theorem L_163_71 : rd_look 163 71 = some (128, .if_icmp .ne 22, 3, [81]) := rd_look_of LL_163 rfl
theorem L_163_72 : rd_look 163 72 = some (131, .aload_n 0, 1, []) := rd_look_of LL_163 rfl
theorem L_163_73 : rd_look 163 73 = some (132, .getfield 175, 3, [12, 28, 144]) := rd_look_of LL_163 rfl
theorem L_163_74 : rd_look 163 74 = some (135, .iconst 2, 1, []) := rd_look_of LL_163 rfl
theorem L_163_75 : rd_look 163 75 = some (136, .if_icmp .ne 10, 3, [79]) := rd_look_of LL_163 rfl
theorem L_163_76 : rd_look 163 76 = some (139, .aload_n 0, 1, []) := rd_look_of LL_163 rfl
theorem L_163_77 : rd_look 163 77 = some (140, .getfield 178, 3, [12, 29, 145]) := rd_look_of LL_163 rfl
theorem L_163_78 : rd_look 163 78 = some (143, .goto 8, 3, [82]) := rd_look_of LL_163 rfl
theorem L_163_79 : rd_look 163 79 = some (146, .iconst (-1), 1, []) := rd_look_of LL_163 rfl
theorem L_163_80 : rd_look 163 80 = some (147, .goto 4, 3, [82]) := rd_look_of LL_163 rfl
theorem L_163_81 : rd_look 163 81 = some (150, .iconst 0, 1, []) := rd_look_of LL_163 rfl
theorem L_163_82 : rd_look 163 82 = some (151, .istore 9, 2, []) := rd_look_of LL_163 rfl
theorem L_163_83 : rd_look 163 83 = some (153, .aload_n 0, 1, []) := rd_look_of LL_163 rfl
theorem L_163_84 : rd_look 163 84 = some (154, .iload 9, 2, []) := rd_look_of LL_163 rfl
theorem L_163_85 : rd_look 163 85 = some (156, .putfield 178, 3, [12, 29, 145, 0]) := rd_look_of LL_163 rfl
theorem L_163_86 : rd_look 163 86 = some (159, .aload_n 0, 1, []) := rd_look_of LL_163 rfl
theorem L_163_87 : rd_look 163 87 = some (160, .getfield 74, 3, [12, 27, 123]) := rd_look_of LL_163 rfl
theorem L_163_88 : rd_look 163 88 = some (163, .iconst 0, 1, []) := rd_look_of LL_163 rfl
theorem L_163_89 : rd_look 163 89 = some (164, .aload_n 0, 1, []) := rd_look_of LL_163 rfl
theorem L_163_90 : rd_look 163 90 = some (165, .getfield 184, 3, [12, 31, 147]) := rd_look_of LL_163 rfl
theorem L_163_91 : rd_look 163 91 = some (168, .iastore, 1, []) := rd_look_of LL_163 rfl
theorem L_163_92 : rd_look 163 92 = some (169, .aload_n 0, 1, []) := rd_look_of LL_163 rfl
theorem L_163_93 : rd_look 163 93 = some (170, .getfield 74, 3, [12, 27, 123]) := rd_look_of LL_163 rfl
theorem L_163_94 : rd_look 163 94 = some (173, .iconst 1, 1, []) := rd_look_of LL_163 rfl
theorem L_163_95 : rd_look 163 95 = some (174, .iload 9, 2, []) := rd_look_of LL_163 rfl
theorem L_163_96 : rd_look 163 96 = some (176, .iastore, 1, []) := rd_look_of LL_163 rfl
theorem L_163_97 : rd_look 163 97 = some (177, .aload_n 0, 1, []) := rd_look_of LL_163 rfl
theorem L_163_98 : rd_look 163 98 = some (178, .getfield 74, 3, [12, 27, 123]) := rd_look_of LL_163 rfl
theorem L_163_99 : rd_look 163 99 = some (181, .iconst 2, 1, []) := rd_look_of LL_163 rfl
theorem L_163_100 : rd_look 163 100 = some (182, .aload_n 0, 1, []) := rd_look_of LL_163 rfl
theorem L_163_101 : rd_look 163 101 = some (183, .getfield 181, 3, [12, 30, 146]) := rd_look_of LL_163 rfl
theorem L_163_102 : rd_look 163 102 = some (186, .iastore, 1, []) := rd_look_of LL_163 rfl
theorem L_163_103 : rd_look 163 103 = some (187, .aload_n 0, 1, []) := rd_look_of LL_163 rfl
theorem L_163_104 : rd_look 163 104 = some (188, .getfield 74, 3, [12, 27, 123]) := rd_look_of LL_163 rfl
theorem L_163_105 : rd_look 163 105 = some (191, .iconst 3, 1, []) := rd_look_of LL_163 rfl
theorem L_163_106 : rd_look 163 106 = some (192, .iload 8, 2, []) := rd_look_of LL_163 rfl
theorem L_163_107 : rd_look 163 107 = some (194, .iastore, 1, []) := rd_look_of LL_163 rfl
theorem L_163_108 : rd_look 163 108 = some (195, .aload_n 0, 1, []) := rd_look_of LL_163 rfl
theorem L_163_109 : rd_look 163 109 = some (196, .iconst 1, 1, []) := rd_look_of LL_163 rfl
theorem L_163_110 : rd_look 163 110 = some (197, .putfield 212, 3, [12, 26, 148, 1]) := rd_look_of LL_163 rfl
theorem L_163_111 : rd_look 163 111 = some (200, .aload_n 0, 1, []) := rd_look_of LL_163 rfl
theorem L_163_112 : rd_look 163 112 = some (201, .getfield 215, 3, [12, 23, 149]) := rd_look_of LL_163 rfl
theorem L_163_113 : rd_look 163 113 = some (204, .sipush 500, 3, []) := rd_look_of LL_163 rfl
theorem L_163_114 : rd_look 163 114 = some (207, .if_icmp .ne 14, 3, [122]) := rd_look_of LL_163 rfl
theorem L_163_115 : rd_look 163 115 = some (210, .aload_n 0, 1, []) := rd_look_of LL_163 rfl
theorem L_163_116 : rd_look 163 116 = some (211, .dup, 1, []) := rd_look_of LL_163 rfl
theorem L_163_117 : rd_look 163 117 = some (212, .getfield 218, 3, [12, 24, 150]) := rd_look_of LL_163 rfl
theorem L_163_118 : rd_look 163 118 = some (215, .iconst 1, 1, []) := rd_look_of LL_163 rfl
theorem L_163_119 : rd_look 163 119 = some (216, .iadd, 1, []) := rd_look_of LL_163 rfl
theorem L_163_120 : rd_look 163 120 = some (217, .putfield 218, 3, [12, 24, 150, 0]) := rd_look_of LL_163 rfl
theorem L_163_121 : rd_look 163 121 = some (220, .return_, 1, []) := rd_look_of LL_163 rfl
theorem L_163_122 : rd_look 163 122 = some (221, .bipush 9, 2, []) := rd_look_of LL_163 rfl
theorem L_163_123 : rd_look 163 123 = some (223, .aload_n 0, 1, []) := rd_look_of LL_163 rfl
theorem L_163_124 : rd_look 163 124 = some (224, .getfield 215, 3, [12, 23, 149]) := rd_look_of LL_163 rfl
theorem L_163_125 : rd_look 163 125 = some (227, .imul, 1, []) := rd_look_of LL_163 rfl
theorem L_163_126 : rd_look 163 126 = some (228, .istore 10, 2, []) := rd_look_of LL_163 rfl
theorem L_163_127 : rd_look 163 127 = some (230, .aload_n 0, 1, []) := rd_look_of LL_163 rfl
theorem L_163_128 : rd_look 163 128 = some (231, .getfield 71, 3, [12, 25, 122]) := rd_look_of LL_163 rfl
theorem L_163_129 : rd_look 163 129 = some (234, .iload 10, 2, []) := rd_look_of LL_163 rfl
theorem L_163_130 : rd_look 163 130 = some (236, .iload_n 1, 1, []) := rd_look_of LL_163 rfl
theorem L_163_131 : rd_look 163 131 = some (237, .iastore, 1, []) := rd_look_of LL_163 rfl
theorem L_163_132 : rd_look 163 132 = some (238, .aload_n 0, 1, []) := rd_look_of LL_163 rfl
theorem L_163_133 : rd_look 163 133 = some (239, .getfield 71, 3, [12, 25, 122]) := rd_look_of LL_163 rfl
theorem L_163_134 : rd_look 163 134 = some (242, .iload 10, 2, []) := rd_look_of LL_163 rfl
theorem L_163_135 : rd_look 163 135 = some (244, .iconst 1, 1, []) := rd_look_of LL_163 rfl
theorem L_163_136 : rd_look 163 136 = some (245, .iadd, 1, []) := rd_look_of LL_163 rfl
theorem L_163_137 : rd_look 163 137 = some (246, .iload_n 2, 1, []) := rd_look_of LL_163 rfl
theorem L_163_138 : rd_look 163 138 = some (247, .iastore, 1, []) := rd_look_of LL_163 rfl
theorem L_163_139 : rd_look 163 139 = some (248, .aload_n 0, 1, []) := rd_look_of LL_163 rfl
theorem L_163_140 : rd_look 163 140 = some (249, .getfield 71, 3, [12, 25, 122]) := rd_look_of LL_163 rfl
theorem L_163_141 : rd_look 163 141 = some (252, .iload 10, 2, []) := rd_look_of LL_163 rfl
theorem L_163_142 : rd_look 163 142 = some (254, .iconst 2, 1, []) := rd_look_of LL_163 rfl
theorem L_163_143 : rd_look 163 143 = some (255, .iadd, 1, []) := rd_look_of LL_163 rfl
theorem L_163_144 : rd_look 163 144 = some (256, .iload 7, 2, []) := rd_look_of LL_163 rfl
theorem L_163_145 : rd_look 163 145 = some (258, .ifCond .le 7, 3, [148]) := rd_look_of LL_163 rfl
theorem L_163_146 : rd_look 163 146 = some (261, .iload_n 3, 1, []) := rd_look_of LL_163 rfl
theorem L_163_147 : rd_look 163 147 = some (262, .goto 4, 3, [149]) := rd_look_of LL_163 rfl
theorem L_163_148 : rd_look 163 148 = some (265, .iconst 0, 1, []) := rd_look_of LL_163 rfl
theorem L_163_149 : rd_look 163 149 = some (266, .iastore, 1, []) := rd_look_of LL_163 rfl
theorem L_163_150 : rd_look 163 150 = some (267, .aload_n 0, 1, []) := rd_look_of LL_163 rfl
theorem L_163_151 : rd_look 163 151 = some (268, .getfield 71, 3, [12, 25, 122]) := rd_look_of LL_163 rfl
theorem L_163_152 : rd_look 163 152 = some (271, .iload 10, 2, []) := rd_look_of LL_163 rfl
theorem L_163_153 : rd_look 163 153 = some (273, .iconst 3, 1, []) := rd_look_of LL_163 rfl
theorem L_163_154 : rd_look 163 154 = some (274, .iadd, 1, []) := rd_look_of LL_163 rfl
theorem L_163_155 : rd_look 163 155 = some (275, .iload 7, 2, []) := rd_look_of LL_163 rfl
theorem L_163_156 : rd_look 163 156 = some (277, .iconst 1, 1, []) := rd_look_of LL_163 rfl
theorem L_163_157 : rd_look 163 157 = some (278, .if_icmp .le 8, 3, [160]) := rd_look_of LL_163 rfl
theorem L_163_158 : rd_look 163 158 = some (281, .iload 4, 2, []) := rd_look_of LL_163 rfl
theorem L_163_159 : rd_look 163 159 = some (283, .goto 4, 3, [161]) := rd_look_of LL_163 rfl
theorem L_163_160 : rd_look 163 160 = some (286, .iconst 0, 1, []) := rd_look_of LL_163 rfl
theorem L_163_161 : rd_look 163 161 = some (287, .iastore, 1, []) := rd_look_of LL_163 rfl
theorem L_163_162 : rd_look 163 162 = some (288, .aload_n 0, 1, []) := rd_look_of LL_163 rfl
theorem L_163_163 : rd_look 163 163 = some (289, .getfield 71, 3, [12, 25, 122]) := rd_look_of LL_163 rfl
theorem L_163_164 : rd_look 163 164 = some (292, .iload 10, 2, []) := rd_look_of LL_163 rfl
theorem L_163_165 : rd_look 163 165 = some (294, .iconst 4, 1, []) := rd_look_of LL_163 rfl
theorem L_163_166 : rd_look 163 166 = some (295, .iadd, 1, []) := rd_look_of LL_163 rfl
theorem L_163_167 : rd_look 163 167 = some (296, .iload 7, 2, []) := rd_look_of LL_163 rfl
theorem L_163_168 : rd_look 163 168 = some (298, .iconst 2, 1, []) := rd_look_of LL_163 rfl
theorem L_163_169 : rd_look 163 169 = some (299, .if_icmp .le 8, 3, [172]) := rd_look_of LL_163 rfl
theorem L_163_170 : rd_look 163 170 = some (302, .iload 5, 2, []) := rd_look_of LL_163 rfl
theorem L_163_171 : rd_look 163 171 = some (304, .goto 4, 3, [173]) := rd_look_of LL_163 rfl
theorem L_163_172 : rd_look 163 172 = some (307, .iconst 0, 1, []) := rd_look_of LL_163 rfl
theorem L_163_173 : rd_look 163 173 = some (308, .iastore, 1, []) := rd_look_of LL_163 rfl
theorem L_163_174 : rd_look 163 174 = some (309, .aload_n 0, 1, []) := rd_look_of LL_163 rfl
theorem L_163_175 : rd_look 163 175 = some (310, .getfield 71, 3, [12, 25, 122]) := rd_look_of LL_163 rfl
theorem L_163_176 : rd_look 163 176 = some (313, .iload 10, 2, []) := rd_look_of LL_163 rfl
theorem L_163_177 : rd_look 163 177 = some (315, .iconst 5, 1, []) := rd_look_of LL_163 rfl
theorem L_163_178 : rd_look 163 178 = some (316, .iadd, 1, []) := rd_look_of LL_163 rfl
theorem L_163_179 : rd_look 163 179 = some (317, .aload_n 0, 1, []) := rd_look_of LL_163 rfl
theorem L_163_180 : rd_look 163 180 = some (318, .getfield 184, 3, [12, 31, 147]) := rd_look_of LL_163 rfl
theorem L_163_181 : rd_look 163 181 = some (321, .iastore, 1, []) := rd_look_of LL_163 rfl
theorem L_163_182 : rd_look 163 182 = some (322, .aload_n 0, 1, []) := rd_look_of LL_163 rfl
theorem L_163_183 : rd_look 163 183 = some (323, .getfield 71, 3, [12, 25, 122]) := rd_look_of LL_163 rfl
theorem L_163_184 : rd_look 163 184 = some (326, .iload 10, 2, []) := rd_look_of LL_163 rfl
theorem L_163_185 : rd_look 163 185 = some (328, .bipush 6, 2, []) := rd_look_of LL_163 rfl
theorem L_163_186 : rd_look 163 186 = some (330, .iadd, 1, []) := rd_look_of LL_163 rfl
theorem L_163_187 : rd_look 163 187 = some (331, .iload 8, 2, []) := rd_look_of LL_163 rfl
theorem L_163_188 : rd_look 163 188 = some (333, .iastore, 1, []) := rd_look_of LL_163 rfl
theorem L_163_189 : rd_look 163 189 = some (334, .aload_n 0, 1, []) := rd_look_of LL_163 rfl
theorem L_163_190 : rd_look 163 190 = some (335, .getfield 71, 3, [12, 25, 122]) := rd_look_of LL_163 rfl
theorem L_163_191 : rd_look 163 191 = some (338, .iload 10, 2, []) := rd_look_of LL_163 rfl
theorem L_163_192 : rd_look 163 192 = some (340, .bipush 7, 2, []) := rd_look_of LL_163 rfl
theorem L_163_193 : rd_look 163 193 = some (342, .iadd, 1, []) := rd_look_of LL_163 rfl
theorem L_163_194 : rd_look 163 194 = some (343, .iload 9, 2, []) := rd_look_of LL_163 rfl
theorem L_163_195 : rd_look 163 195 = some (345, .iastore, 1, []) := rd_look_of LL_163 rfl
theorem L_163_196 : rd_look 163 196 = some (346, .aload_n 0, 1, []) := rd_look_of LL_163 rfl
theorem L_163_197 : rd_look 163 197 = some (347, .getfield 71, 3, [12, 25, 122]) := rd_look_of LL_163 rfl
theorem L_163_198 : rd_look 163 198 = some (350, .iload 10, 2, []) := rd_look_of LL_163 rfl
theorem L_163_199 : rd_look 163 199 = some (352, .bipush 8, 2, []) := rd_look_of LL_163 rfl
theorem L_163_200 : rd_look 163 200 = some (354, .iadd, 1, []) := rd_look_of LL_163 rfl
theorem L_163_201 : rd_look 163 201 = some (355, .aload_n 0, 1, []) := rd_look_of LL_163 rfl
theorem L_163_202 : rd_look 163 202 = some (356, .getfield 181, 3, [12, 30, 146]) := rd_look_of LL_163 rfl
theorem L_163_203 : rd_look 163 203 = some (359, .iastore, 1, []) := rd_look_of LL_163 rfl
theorem L_163_204 : rd_look 163 204 = some (360, .aload_n 0, 1, []) := rd_look_of LL_163 rfl
theorem L_163_205 : rd_look 163 205 = some (361, .dup, 1, []) := rd_look_of LL_163 rfl
theorem L_163_206 : rd_look 163 206 = some (362, .getfield 215, 3, [12, 23, 149]) := rd_look_of LL_163 rfl
theorem L_163_207 : rd_look 163 207 = some (365, .iconst 1, 1, []) := rd_look_of LL_163 rfl
theorem L_163_208 : rd_look 163 208 = some (366, .iadd, 1, []) := rd_look_of LL_163 rfl
theorem L_163_209 : rd_look 163 209 = some (367, .putfield 215, 3, [12, 23, 149, 0]) := rd_look_of LL_163 rfl
theorem L_163_210 : rd_look 163 210 = some (370, .return_, 1, []) := rd_look_of LL_163 rfl
theorem L_164_0 : rd_look 164 0 = some (0, .aload_n 0, 1, []) := rd_look_of LL_164 rfl
theorem L_164_1 : rd_look 164 1 = some (1, .iload_n 1, 1, []) := rd_look_of LL_164 rfl
theorem L_164_2 : rd_look 164 2 = some (2, .iload_n 2, 1, []) := rd_look_of LL_164 rfl
theorem L_164_3 : rd_look 164 3 = some (3, .invokevirtual 148, 3, [146, 2, 161, 12]) := rd_look_of LL_164 rfl
theorem L_164_4 : rd_look 164 4 = some (6, .istore 5, 2, []) := rd_look_of LL_164 rfl
theorem L_164_5 : rd_look 164 5 = some (8, .iload_n 3, 1, []) := rd_look_of LL_164 rfl
theorem L_164_6 : rd_look 164 6 = some (9, .aload_n 0, 1, []) := rd_look_of LL_164 rfl
theorem L_164_7 : rd_look 164 7 = some (10, .getfield 16, 3, [12, 3, 104]) := rd_look_of LL_164 rfl
theorem L_164_8 : rd_look 164 8 = some (13, .iload 5, 2, []) := rd_look_of LL_164 rfl
theorem L_164_9 : rd_look 164 9 = some (15, .iaload, 1, []) := rd_look_of LL_164 rfl
theorem L_164_10 : rd_look 164 10 = some (16, .if_icmp .ge 32, 3, [28]) := rd_look_of LL_164 rfl
theorem L_164_11 : rd_look 164 11 = some (19, .aload_n 0, 1, []) := rd_look_of LL_164 rfl
theorem L_164_12 : rd_look 164 12 = some (20, .getfield 19, 3, [12, 4, 105]) := rd_look_of LL_164 rfl
theorem L_164_13 : rd_look 164 13 = some (23, .iload 5, 2, []) := rd_look_of LL_164 rfl
theorem L_164_14 : rd_look 164 14 = some (25, .iaload, 1, []) := rd_look_of LL_164 rfl
theorem L_164_15 : rd_look 164 15 = some (26, .iload_n 3, 1, []) := rd_look_of LL_164 rfl
theorem L_164_16 : rd_look 164 16 = some (27, .ishr, 1, []) := rd_look_of LL_164 rfl
theorem L_164_17 : rd_look 164 17 = some (28, .iconst 1, 1, []) := rd_look_of LL_164 rfl
theorem L_164_18 : rd_look 164 18 = some (29, .iand, 1, []) := rd_look_of LL_164 rfl
theorem L_164_19 : rd_look 164 19 = some (30, .ifCond .eq 18, 3, [28]) := rd_look_of LL_164 rfl
theorem L_164_20 : rd_look 164 20 = some (33, .iload 4, 2, []) := rd_look_of LL_164 rfl
theorem L_164_21 : rd_look 164 21 = some (35, .iconst (-1), 1, []) := rd_look_of LL_164 rfl
theorem L_164_22 : rd_look 164 22 = some (36, .aload_n 0, 1, []) := rd_look_of LL_164 rfl
theorem L_164_23 : rd_look 164 23 = some (37, .getfield 137, 3, [12, 7, 142]) := rd_look_of LL_164 rfl
theorem L_164_24 : rd_look 164 24 = some (40, .iconst 1, 1, []) := rd_look_of LL_164 rfl
theorem L_164_25 : rd_look 164 25 = some (41, .isub, 1, []) := rd_look_of LL_164 rfl
theorem L_164_26 : rd_look 164 26 = some (42, .invokestatic 133, 3, [137, 3, 158]) := rd_look_of LL_164 rfl
theorem L_164_27 : rd_look 164 27 = some (45, .ifCond .eq 7, 3, [30]) := rd_look_of LL_164 rfl
theorem L_164_28 : rd_look 164 28 = some (48, .iconst 1, 1, []) := rd_look_of LL_164 rfl
theorem L_164_29 : rd_look 164 29 = some (49, .goto 4, 3, [31]) := rd_look_of LL_164 rfl
theorem L_164_30 : rd_look 164 30 = some (52, .iconst 0, 1, []) := rd_look_of LL_164 rfl
theorem L_164_31 : rd_look 164 31 = some (53, .ireturn, 1, []) := rd_look_of LL_164 rfl
theorem L_165_0 : rd_look 165 0 = some (0, .aload_n 0, 1, []) := rd_look_of LL_165 rfl
theorem L_165_1 : rd_look 165 1 = some (1, .iload_n 1, 1, []) := rd_look_of LL_165 rfl
theorem L_165_2 : rd_look 165 2 = some (2, .invokevirtual 144, 3, [142, 1, 160, 12]) := rd_look_of LL_165 rfl
theorem L_165_3 : rd_look 165 3 = some (5, .ifCond .eq 47, 3, [30]) := rd_look_of LL_165 rfl
theorem L_165_4 : rd_look 165 4 = some (8, .aload_n 0, 1, []) := rd_look_of LL_165 rfl
theorem L_165_5 : rd_look 165 5 = some (9, .iload_n 1, 1, []) := rd_look_of LL_165 rfl
theorem L_165_6 : rd_look 165 6 = some (10, .iload_n 2, 1, []) := rd_look_of LL_165 rfl
theorem L_165_7 : rd_look 165 7 = some (11, .invokevirtual 161, 3, [145, 2, 164, 12]) := rd_look_of LL_165 rfl
theorem L_165_8 : rd_look 165 8 = some (14, .ifCond .eq 38, 3, [30]) := rd_look_of LL_165 rfl
theorem L_165_9 : rd_look 165 9 = some (17, .aload_n 0, 1, []) := rd_look_of LL_165 rfl
theorem L_165_10 : rd_look 165 10 = some (18, .iload_n 1, 1, []) := rd_look_of LL_165 rfl
theorem L_165_11 : rd_look 165 11 = some (19, .iload_n 2, 1, []) := rd_look_of LL_165 rfl
theorem L_165_12 : rd_look 165 12 = some (20, .iconst 0, 1, []) := rd_look_of LL_165 rfl
theorem L_165_13 : rd_look 165 13 = some (21, .iload_n 3, 1, []) := rd_look_of LL_165 rfl
theorem L_165_14 : rd_look 165 14 = some (22, .invokevirtual 221, 3, [164, 4, 175, 12]) := rd_look_of LL_165 rfl
theorem L_165_15 : rd_look 165 15 = some (25, .ifCond .eq 27, 3, [30]) := rd_look_of LL_165 rfl
theorem L_165_16 : rd_look 165 16 = some (28, .aload_n 0, 1, []) := rd_look_of LL_165 rfl
theorem L_165_17 : rd_look 165 17 = some (29, .iload_n 1, 1, []) := rd_look_of LL_165 rfl
theorem L_165_18 : rd_look 165 18 = some (30, .iload_n 2, 1, []) := rd_look_of LL_165 rfl
theorem L_165_19 : rd_look 165 19 = some (31, .iconst 1, 1, []) := rd_look_of LL_165 rfl
theorem L_165_20 : rd_look 165 20 = some (32, .iload 4, 2, []) := rd_look_of LL_165 rfl
theorem L_165_21 : rd_look 165 21 = some (34, .invokevirtual 221, 3, [164, 4, 175, 12]) := rd_look_of LL_165 rfl
theorem L_165_22 : rd_look 165 22 = some (37, .ifCond .eq 15, 3, [30]) := rd_look_of LL_165 rfl
theorem L_165_23 : rd_look 165 23 = some (40, .aload_n 0, 1, []) := rd_look_of LL_165 rfl
theorem L_165_24 : rd_look 165 24 = some (41, .iload_n 1, 1, []) := rd_look_of LL_165 rfl
theorem L_165_25 : rd_look 165 25 = some (42, .iload_n 2, 1, []) := rd_look_of LL_165 rfl
theorem L_165_26 : rd_look 165 26 = some (43, .iconst 2, 1, []) := rd_look_of LL_165 rfl
theorem L_165_27 : rd_look 165 27 = some (44, .iload 5, 2, []) := rd_look_of LL_165 rfl
theorem L_165_28 : rd_look 165 28 = some (46, .invokevirtual 221, 3, [164, 4, 175, 12]) := rd_look_of LL_165 rfl
theorem L_165_29 : rd_look 165 29 = some (49, .ifCond .ne 5, 3, [32]) := rd_look_of LL_165 rfl
theorem L_165_30 : rd_look 165 30 = some (52, .iconst (-1), 1, []) := rd_look_of LL_165 rfl
theorem L_165_31 : rd_look 165 31 = some (53, .ireturn, 1, []) := rd_look_of LL_165 rfl
theorem L_165_32 : rd_look 165 32 = some (54, .aload_n 0, 1, []) := rd_look_of LL_165 rfl
theorem L_165_33 : rd_look 165 33 = some (55, .iload_n 1, 1, []) := rd_look_of LL_165 rfl
theorem L_165_34 : rd_look 165 34 = some (56, .iload_n 2, 1, []) := rd_look_of LL_165 rfl
theorem L_165_35 : rd_look 165 35 = some (57, .iload_n 3, 1, []) := rd_look_of LL_165 rfl
theorem L_165_36 : rd_look 165 36 = some (58, .iload 4, 2, []) := rd_look_of LL_165 rfl
theorem L_165_37 : rd_look 165 37 = some (60, .iload 5, 2, []) := rd_look_of LL_165 rfl
theorem L_165_38 : rd_look 165 38 = some (62, .invokevirtual 225, 3, [163, 5, 176, 12]) := rd_look_of LL_165 rfl
theorem L_165_39 : rd_look 165 39 = some (65, .aload_n 0, 1, []) := rd_look_of LL_165 rfl
theorem L_165_40 : rd_look 165 40 = some (66, .getfield 184, 3, [12, 31, 147]) := rd_look_of LL_165 rfl
theorem L_165_41 : rd_look 165 41 = some (69, .ireturn, 1, []) := rd_look_of LL_165 rfl
theorem L_166_0 : rd_look 166 0 = some (0, .aload_n 0, 1, []) := rd_look_of LL_166 rfl
theorem L_166_1 : rd_look 166 1 = some (1, .getfield 212, 3, [12, 26, 148]) := rd_look_of LL_166 rfl
theorem L_166_2 : rd_look 166 2 = some (4, .ifCond .eq 21, 3, [13]) := rd_look_of LL_166 rfl
theorem L_166_3 : rd_look 166 3 = some (7, .iload_n 1, 1, []) := rd_look_of LL_166 rfl
theorem L_166_4 : rd_look 166 4 = some (8, .iconst 0, 1, []) := rd_look_of LL_166 rfl
theorem L_166_5 : rd_look 166 5 = some (9, .iconst 3, 1, []) := rd_look_of LL_166 rfl
theorem L_166_6 : rd_look 166 6 = some (10, .invokestatic 133, 3, [137, 3, 158]) := rd_look_of LL_166 rfl
theorem L_166_7 : rd_look 166 7 = some (13, .ifCond .eq 12, 3, [13]) := rd_look_of LL_166 rfl
theorem L_166_8 : rd_look 166 8 = some (16, .aload_n 0, 1, []) := rd_look_of LL_166 rfl
theorem L_166_9 : rd_look 166 9 = some (17, .getfield 74, 3, [12, 27, 123]) := rd_look_of LL_166 rfl
theorem L_166_10 : rd_look 166 10 = some (20, .iload_n 1, 1, []) := rd_look_of LL_166 rfl
theorem L_166_11 : rd_look 166 11 = some (21, .iaload, 1, []) := rd_look_of LL_166 rfl
theorem L_166_12 : rd_look 166 12 = some (22, .goto 6, 3, [14]) := rd_look_of LL_166 rfl
theorem L_166_13 : rd_look 166 13 = some (25, .sipush (-1001), 3, []) := rd_look_of LL_166 rfl
theorem L_166_14 : rd_look 166 14 = some (28, .ireturn, 1, []) := rd_look_of LL_166 rfl
theorem L_167_0 : rd_look 167 0 = some (0, .iload_n 1, 1, []) := rd_look_of LL_167 rfl
theorem L_167_1 : rd_look 167 1 = some (1, .iconst 0, 1, []) := rd_look_of LL_167 rfl
theorem L_167_2 : rd_look 167 2 = some (2, .aload_n 0, 1, []) := rd_look_of LL_167 rfl
theorem L_167_3 : rd_look 167 3 = some (3, .getfield 215, 3, [12, 23, 149]) := rd_look_of LL_167 rfl
theorem L_167_4 : rd_look 167 4 = some (6, .iconst 1, 1, []) := rd_look_of LL_167 rfl
theorem L_167_5 : rd_look 167 5 = some (7, .isub, 1, []) := rd_look_of LL_167 rfl
theorem L_167_6 : rd_look 167 6 = some (8, .invokestatic 133, 3, [137, 3, 158]) := rd_look_of LL_167 rfl
theorem L_167_7 : rd_look 167 7 = some (11, .ifCond .eq 27, 3, [22]) := rd_look_of LL_167 rfl
theorem L_167_8 : rd_look 167 8 = some (14, .iload_n 2, 1, []) := rd_look_of LL_167 rfl
theorem L_167_9 : rd_look 167 9 = some (15, .iconst 0, 1, []) := rd_look_of LL_167 rfl
theorem L_167_10 : rd_look 167 10 = some (16, .bipush 8, 2, []) := rd_look_of LL_167 rfl
theorem L_167_11 : rd_look 167 11 = some (18, .invokestatic 133, 3, [137, 3, 158]) := rd_look_of LL_167 rfl
theorem L_167_12 : rd_look 167 12 = some (21, .ifCond .eq 17, 3, [22]) := rd_look_of LL_167 rfl
theorem L_167_13 : rd_look 167 13 = some (24, .aload_n 0, 1, []) := rd_look_of LL_167 rfl
theorem L_167_14 : rd_look 167 14 = some (25, .getfield 71, 3, [12, 25, 122]) := rd_look_of LL_167 rfl
theorem L_167_15 : rd_look 167 15 = some (28, .bipush 9, 2, []) := rd_look_of LL_167 rfl
theorem L_167_16 : rd_look 167 16 = some (30, .iload_n 1, 1, []) := rd_look_of LL_167 rfl
theorem L_167_17 : rd_look 167 17 = some (31, .imul, 1, []) := rd_look_of LL_167 rfl
theorem L_167_18 : rd_look 167 18 = some (32, .iload_n 2, 1, []) := rd_look_of LL_167 rfl
theorem L_167_19 : rd_look 167 19 = some (33, .iadd, 1, []) := rd_look_of LL_167 rfl
theorem L_167_20 : rd_look 167 20 = some (34, .iaload, 1, []) := rd_look_of LL_167 rfl
theorem L_167_21 : rd_look 167 21 = some (35, .goto 6, 3, [23]) := rd_look_of LL_167 rfl
theorem L_167_22 : rd_look 167 22 = some (38, .sipush (-1001), 3, []) := rd_look_of LL_167 rfl
theorem L_167_23 : rd_look 167 23 = some (41, .ireturn, 1, []) := rd_look_of LL_167 rfl
theorem L_168_0 : rd_look 168 0 = some (0, .iload_n 1, 1, []) := rd_look_of LL_168 rfl
theorem L_168_1 : rd_look 168 1 = some (1, .iconst 0, 1, []) := rd_look_of LL_168 rfl
theorem L_168_2 : rd_look 168 2 = some (2, .aload_n 0, 1, []) := rd_look_of LL_168 rfl
theorem L_168_3 : rd_look 168 3 = some (3, .getfield 229, 3, [12, 32, 151]) := rd_look_of LL_168 rfl
theorem L_168_4 : rd_look 168 4 = some (6, .iconst 1, 1, []) := rd_look_of LL_168 rfl
theorem L_168_5 : rd_look 168 5 = some (7, .isub, 1, []) := rd_look_of LL_168 rfl
theorem L_168_6 : rd_look 168 6 = some (8, .invokestatic 133, 3, [137, 3, 158]) := rd_look_of LL_168 rfl
theorem L_168_7 : rd_look 168 7 = some (11, .ireturn, 1, []) := rd_look_of LL_168 rfl
theorem L_169_0 : rd_look 169 0 = some (0, .aload_n 0, 1, []) := rd_look_of LL_169 rfl
theorem L_169_1 : rd_look 169 1 = some (1, .iload_n 1, 1, []) := rd_look_of LL_169 rfl
theorem L_169_2 : rd_look 169 2 = some (2, .invokevirtual 144, 3, [142, 1, 160, 12]) := rd_look_of LL_169 rfl
theorem L_169_3 : rd_look 169 3 = some (5, .ifCond .eq 22, 3, [14]) := rd_look_of LL_169 rfl
theorem L_169_4 : rd_look 169 4 = some (8, .aload_n 0, 1, []) := rd_look_of LL_169 rfl
theorem L_169_5 : rd_look 169 5 = some (9, .iload_n 1, 1, []) := rd_look_of LL_169 rfl
theorem L_169_6 : rd_look 169 6 = some (10, .iload_n 2, 1, []) := rd_look_of LL_169 rfl
theorem L_169_7 : rd_look 169 7 = some (11, .invokevirtual 161, 3, [145, 2, 164, 12]) := rd_look_of LL_169 rfl
theorem L_169_8 : rd_look 169 8 = some (14, .ifCond .eq 13, 3, [14]) := rd_look_of LL_169 rfl
theorem L_169_9 : rd_look 169 9 = some (17, .iload_n 3, 1, []) := rd_look_of LL_169 rfl
theorem L_169_10 : rd_look 169 10 = some (18, .ifCond .lt 9, 3, [14]) := rd_look_of LL_169 rfl
theorem L_169_11 : rd_look 169 11 = some (21, .iload 4, 2, []) := rd_look_of LL_169 rfl
theorem L_169_12 : rd_look 169 12 = some (23, .iload_n 3, 1, []) := rd_look_of LL_169 rfl
theorem L_169_13 : rd_look 169 13 = some (24, .if_icmp .ge 5, 3, [16]) := rd_look_of LL_169 rfl
theorem L_169_14 : rd_look 169 14 = some (27, .iconst (-1), 1, []) := rd_look_of LL_169 rfl
theorem L_169_15 : rd_look 169 15 = some (28, .ireturn, 1, []) := rd_look_of LL_169 rfl
theorem L_169_16 : rd_look 169 16 = some (29, .aload_n 0, 1, []) := rd_look_of LL_169 rfl
theorem L_169_17 : rd_look 169 17 = some (30, .getfield 229, 3, [12, 32, 151]) := rd_look_of LL_169 rfl
theorem L_169_18 : rd_look 169 18 = some (33, .bipush 40, 2, []) := rd_look_of LL_169 rfl
theorem L_169_19 : rd_look 169 19 = some (35, .if_icmp .ne 6, 3, [22]) := rd_look_of LL_169 rfl
theorem L_169_20 : rd_look 169 20 = some (38, .bipush (-3), 2, []) := rd_look_of LL_169 rfl
theorem L_169_21 : rd_look 169 21 = some (40, .ireturn, 1, []) := rd_look_of LL_169 rfl
theorem L_169_22 : rd_look 169 22 = some (41, .aload_n 0, 1, []) := rd_look_of LL_169 rfl
theorem L_169_23 : rd_look 169 23 = some (42, .bipush 80, 2, []) := rd_look_of LL_169 rfl
theorem L_169_24 : rd_look 169 24 = some (44, .aload_n 0, 1, []) := rd_look_of LL_169 rfl
theorem L_169_25 : rd_look 169 25 = some (45, .getfield 229, 3, [12, 32, 151]) := rd_look_of LL_169 rfl
theorem L_169_26 : rd_look 169 26 = some (48, .iadd, 1, []) := rd_look_of LL_169 rfl
theorem L_169_27 : rd_look 169 27 = some (49, .iload_n 1, 1, []) := rd_look_of LL_169 rfl
theorem L_169_28 : rd_look 169 28 = some (50, .iload_n 2, 1, []) := rd_look_of LL_169 rfl
theorem L_169_29 : rd_look 169 29 = some (51, .invokevirtual 164, 3, [148, 3, 165, 12]) := rd_look_of LL_169 rfl
theorem L_169_30 : rd_look 169 30 = some (54, .aload_n 0, 1, []) := rd_look_of LL_169 rfl
theorem L_169_31 : rd_look 169 31 = some (55, .getfield 77, 3, [12, 33, 124]) := rd_look_of LL_169 rfl
theorem L_169_32 : rd_look 169 32 = some (58, .aload_n 0, 1, []) := rd_look_of LL_169 rfl
theorem L_169_33 : rd_look 169 33 = some (59, .getfield 229, 3, [12, 32, 151]) := rd_look_of LL_169 rfl
theorem L_169_34 : rd_look 169 34 = some (62, .iload_n 3, 1, []) := rd_look_of LL_169 rfl
theorem L_169_35 : rd_look 169 35 = some (63, .iastore, 1, []) := rd_look_of LL_169 rfl
theorem L_169_36 : rd_look 169 36 = some (64, .aload_n 0, 1, []) := rd_look_of LL_169 rfl
theorem L_169_37 : rd_look 169 37 = some (65, .getfield 80, 3, [12, 34, 125]) := rd_look_of LL_169 rfl
theorem L_169_38 : rd_look 169 38 = some (68, .aload_n 0, 1, []) := rd_look_of LL_169 rfl
theorem L_169_39 : rd_look 169 39 = some (69, .getfield 229, 3, [12, 32, 151]) := rd_look_of LL_169 rfl
theorem L_169_40 : rd_look 169 40 = some (72, .iload 4, 2, []) := rd_look_of LL_169 rfl
theorem L_169_41 : rd_look 169 41 = some (74, .iastore, 1, []) := rd_look_of LL_169 rfl
theorem L_169_42 : rd_look 169 42 = some (75, .aload_n 0, 1, []) := rd_look_of LL_169 rfl
theorem L_169_43 : rd_look 169 43 = some (76, .dup, 1, []) := rd_look_of LL_169 rfl
theorem L_169_44 : rd_look 169 44 = some (77, .getfield 229, 3, [12, 32, 151]) := rd_look_of LL_169 rfl
theorem L_169_45 : rd_look 169 45 = some (80, .iconst 1, 1, []) := rd_look_of LL_169 rfl
theorem L_169_46 : rd_look 169 46 = some (81, .iadd, 1, []) := rd_look_of LL_169 rfl
theorem L_169_47 : rd_look 169 47 = some (82, .putfield 229, 3, [12, 32, 151, 0]) := rd_look_of LL_169 rfl
theorem L_169_48 : rd_look 169 48 = some (85, .aload_n 0, 1, []) := rd_look_of LL_169 rfl
theorem L_169_49 : rd_look 169 49 = some (86, .getfield 229, 3, [12, 32, 151]) := rd_look_of LL_169 rfl
theorem L_169_50 : rd_look 169 50 = some (89, .iconst 1, 1, []) := rd_look_of LL_169 rfl
theorem L_169_51 : rd_look 169 51 = some (90, .isub, 1, []) := rd_look_of LL_169 rfl
theorem L_169_52 : rd_look 169 52 = some (91, .ireturn, 1, []) := rd_look_of LL_169 rfl
theorem L_170_0 : rd_look 170 0 = some (0, .aload_n 0, 1, []) := rd_look_of LL_170 rfl
theorem L_170_1 : rd_look 170 1 = some (1, .iload_n 1, 1, []) := rd_look_of LL_170 rfl
theorem L_170_2 : rd_look 170 2 = some (2, .invokevirtual 232, 3, [168, 1, 177, 12]) := rd_look_of LL_170 rfl
theorem L_170_3 : rd_look 170 3 = some (5, .ifCond .eq 20, 3, [14]) := rd_look_of LL_170 rfl
theorem L_170_4 : rd_look 170 4 = some (8, .aload_n 0, 1, []) := rd_look_of LL_170 rfl
theorem L_170_5 : rd_look 170 5 = some (9, .bipush 80, 2, []) := rd_look_of LL_170 rfl
theorem L_170_6 : rd_look 170 6 = some (11, .iload_n 1, 1, []) := rd_look_of LL_170 rfl
theorem L_170_7 : rd_look 170 7 = some (12, .iadd, 1, []) := rd_look_of LL_170 rfl
theorem L_170_8 : rd_look 170 8 = some (13, .iload_n 2, 1, []) := rd_look_of LL_170 rfl
theorem L_170_9 : rd_look 170 9 = some (14, .iload_n 3, 1, []) := rd_look_of LL_170 rfl
theorem L_170_10 : rd_look 170 10 = some (15, .iload 4, 2, []) := rd_look_of LL_170 rfl
theorem L_170_11 : rd_look 170 11 = some (17, .iload 5, 2, []) := rd_look_of LL_170 rfl
theorem L_170_12 : rd_look 170 12 = some (19, .invokevirtual 171, 3, [149, 5, 167, 12]) := rd_look_of LL_170 rfl
theorem L_170_13 : rd_look 170 13 = some (22, .goto 4, 3, [15]) := rd_look_of LL_170 rfl
theorem L_170_14 : rd_look 170 14 = some (25, .iconst (-1), 1, []) := rd_look_of LL_170 rfl
theorem L_170_15 : rd_look 170 15 = some (26, .ireturn, 1, []) := rd_look_of LL_170 rfl
theorem L_171_0 : rd_look 171 0 = some (0, .aload_n 0, 1, []) := rd_look_of LL_171 rfl
theorem L_171_1 : rd_look 171 1 = some (1, .iload_n 1, 1, []) := rd_look_of LL_171 rfl
theorem L_171_2 : rd_look 171 2 = some (2, .invokevirtual 232, 3, [168, 1, 177, 12]) := rd_look_of LL_171 rfl
theorem L_171_3 : rd_look 171 3 = some (5, .ifCond .eq 16, 3, [11]) := rd_look_of LL_171 rfl
theorem L_171_4 : rd_look 171 4 = some (8, .aload_n 0, 1, []) := rd_look_of LL_171 rfl
theorem L_171_5 : rd_look 171 5 = some (9, .iload_n 2, 1, []) := rd_look_of LL_171 rfl
theorem L_171_6 : rd_look 171 6 = some (10, .invokevirtual 232, 3, [168, 1, 177, 12]) := rd_look_of LL_171 rfl
theorem L_171_7 : rd_look 171 7 = some (13, .ifCond .eq 8, 3, [11]) := rd_look_of LL_171 rfl
theorem L_171_8 : rd_look 171 8 = some (16, .iload_n 1, 1, []) := rd_look_of LL_171 rfl
theorem L_171_9 : rd_look 171 9 = some (17, .iload_n 2, 1, []) := rd_look_of LL_171 rfl
theorem L_171_10 : rd_look 171 10 = some (18, .if_icmp .ne 5, 3, [13]) := rd_look_of LL_171 rfl
theorem L_171_11 : rd_look 171 11 = some (21, .iconst (-1), 1, []) := rd_look_of LL_171 rfl
theorem L_171_12 : rd_look 171 12 = some (22, .ireturn, 1, []) := rd_look_of LL_171 rfl
theorem L_171_13 : rd_look 171 13 = some (23, .aload_n 0, 1, []) := rd_look_of LL_171 rfl
theorem L_171_14 : rd_look 171 14 = some (24, .getfield 235, 3, [12, 35, 152]) := rd_look_of LL_171 rfl
theorem L_171_15 : rd_look 171 15 = some (27, .bipush 40, 2, []) := rd_look_of LL_171 rfl
theorem L_171_16 : rd_look 171 16 = some (29, .if_icmp .ne 6, 3, [19]) := rd_look_of LL_171 rfl
theorem L_171_17 : rd_look 171 17 = some (32, .bipush (-3), 2, []) := rd_look_of LL_171 rfl
theorem L_171_18 : rd_look 171 18 = some (34, .ireturn, 1, []) := rd_look_of LL_171 rfl
theorem L_171_19 : rd_look 171 19 = some (35, .aload_n 0, 1, []) := rd_look_of LL_171 rfl
theorem L_171_20 : rd_look 171 20 = some (36, .getfield 83, 3, [12, 36, 126]) := rd_look_of LL_171 rfl
theorem L_171_21 : rd_look 171 21 = some (39, .aload_n 0, 1, []) := rd_look_of LL_171 rfl
theorem L_171_22 : rd_look 171 22 = some (40, .getfield 235, 3, [12, 35, 152]) := rd_look_of LL_171 rfl
theorem L_171_23 : rd_look 171 23 = some (43, .iload_n 1, 1, []) := rd_look_of LL_171 rfl
theorem L_171_24 : rd_look 171 24 = some (44, .iastore, 1, []) := rd_look_of LL_171 rfl
theorem L_171_25 : rd_look 171 25 = some (45, .aload_n 0, 1, []) := rd_look_of LL_171 rfl
theorem L_171_26 : rd_look 171 26 = some (46, .getfield 86, 3, [12, 37, 127]) := rd_look_of LL_171 rfl
theorem L_171_27 : rd_look 171 27 = some (49, .aload_n 0, 1, []) := rd_look_of LL_171 rfl
theorem L_171_28 : rd_look 171 28 = some (50, .getfield 235, 3, [12, 35, 152]) := rd_look_of LL_171 rfl
theorem L_171_29 : rd_look 171 29 = some (53, .iload_n 2, 1, []) := rd_look_of LL_171 rfl
theorem L_171_30 : rd_look 171 30 = some (54, .iastore, 1, []) := rd_look_of LL_171 rfl
theorem L_171_31 : rd_look 171 31 = some (55, .aload_n 0, 1, []) := rd_look_of LL_171 rfl
theorem L_171_32 : rd_look 171 32 = some (56, .dup, 1, []) := rd_look_of LL_171 rfl
theorem L_171_33 : rd_look 171 33 = some (57, .getfield 235, 3, [12, 35, 152]) := rd_look_of LL_171 rfl
theorem L_171_34 : rd_look 171 34 = some (60, .iconst 1, 1, []) := rd_look_of LL_171 rfl
theorem L_171_35 : rd_look 171 35 = some (61, .iadd, 1, []) := rd_look_of LL_171 rfl
theorem L_171_36 : rd_look 171 36 = some (62, .putfield 235, 3, [12, 35, 152, 0]) := rd_look_of LL_171 rfl
theorem L_171_37 : rd_look 171 37 = some (65, .aload_n 0, 1, []) := rd_look_of LL_171 rfl
theorem L_171_38 : rd_look 171 38 = some (66, .getfield 235, 3, [12, 35, 152]) := rd_look_of LL_171 rfl
theorem L_171_39 : rd_look 171 39 = some (69, .ireturn, 1, []) := rd_look_of LL_171 rfl
theorem L_172_0 : rd_look 172 0 = some (0, .aload_n 0, 1, []) := rd_look_of LL_172 rfl
theorem L_172_1 : rd_look 172 1 = some (1, .iload_n 1, 1, []) := rd_look_of LL_172 rfl
theorem L_172_2 : rd_look 172 2 = some (2, .invokevirtual 144, 3, [142, 1, 160, 12]) := rd_look_of LL_172 rfl
theorem L_172_3 : rd_look 172 3 = some (5, .ifCond .ne 5, 3, [6]) := rd_look_of LL_172 rfl
theorem L_172_4 : rd_look 172 4 = some (8, .iconst (-1), 1, []) := rd_look_of LL_172 rfl
theorem L_172_5 : rd_look 172 5 = some (9, .ireturn, 1, []) := rd_look_of LL_172 rfl
theorem L_172_6 : rd_look 172 6 = some (10, .aload_n 0, 1, []) := rd_look_of LL_172 rfl
theorem L_172_7 : rd_look 172 7 = some (11, .getfield 89, 3, [12, 38, 128]) := rd_look_of LL_172 rfl
theorem L_172_8 : rd_look 172 8 = some (14, .iload_n 1, 1, []) := rd_look_of LL_172 rfl
theorem L_172_9 : rd_look 172 9 = some (15, .baload, 1, []) := rd_look_of LL_172 rfl
theorem L_172_10 : rd_look 172 10 = some (16, .ifCond .eq 7, 3, [13]) := rd_look_of LL_172 rfl
theorem L_172_11 : rd_look 172 11 = some (19, .iconst 1, 1, []) := rd_look_of LL_172 rfl
theorem L_172_12 : rd_look 172 12 = some (20, .goto 4, 3, [14]) := rd_look_of LL_172 rfl
theorem L_172_13 : rd_look 172 13 = some (23, .iconst 0, 1, []) := rd_look_of LL_172 rfl
theorem L_172_14 : rd_look 172 14 = some (24, .istore_n 3, 1, []) := rd_look_of LL_172 rfl
theorem L_172_15 : rd_look 172 15 = some (25, .aload_n 0, 1, []) := rd_look_of LL_172 rfl
theorem L_172_16 : rd_look 172 16 = some (26, .getfield 89, 3, [12, 38, 128]) := rd_look_of LL_172 rfl
theorem L_172_17 : rd_look 172 17 = some (29, .iload_n 1, 1, []) := rd_look_of LL_172 rfl
theorem L_172_18 : rd_look 172 18 = some (30, .iload_n 2, 1, []) := rd_look_of LL_172 rfl
theorem L_172_19 : rd_look 172 19 = some (31, .bastore, 1, []) := rd_look_of LL_172 rfl
theorem L_172_20 : rd_look 172 20 = some (32, .iload_n 3, 1, []) := rd_look_of LL_172 rfl
theorem L_172_21 : rd_look 172 21 = some (33, .ireturn, 1, []) := rd_look_of LL_172 rfl
theorem L_173_0 : rd_look 173 0 = some (0, .bipush 9, 2, []) := rd_look_of LL_173 rfl
theorem L_173_1 : rd_look 173 1 = some (2, .iload_n 1, 1, []) := rd_look_of LL_173 rfl
theorem L_173_2 : rd_look 173 2 = some (3, .imul, 1, []) := rd_look_of LL_173 rfl
theorem L_173_3 : rd_look 173 3 = some (4, .istore_n 3, 1, []) := rd_look_of LL_173 rfl
theorem L_173_4 : rd_look 173 4 = some (5, .aload_n 0, 1, []) := rd_look_of LL_173 rfl
theorem L_173_5 : rd_look 173 5 = some (6, .bipush 80, 2, []) := rd_look_of LL_173 rfl
theorem L_173_6 : rd_look 173 6 = some (8, .iload_n 2, 1, []) := rd_look_of LL_173 rfl
theorem L_173_7 : rd_look 173 7 = some (9, .iadd, 1, []) := rd_look_of LL_173 rfl
theorem L_173_8 : rd_look 173 8 = some (10, .aload_n 0, 1, []) := rd_look_of LL_173 rfl
theorem L_173_9 : rd_look 173 9 = some (11, .getfield 71, 3, [12, 25, 122]) := rd_look_of LL_173 rfl
theorem L_173_10 : rd_look 173 10 = some (14, .iload_n 3, 1, []) := rd_look_of LL_173 rfl
theorem L_173_11 : rd_look 173 11 = some (15, .iaload, 1, []) := rd_look_of LL_173 rfl
theorem L_173_12 : rd_look 173 12 = some (16, .aload_n 0, 1, []) := rd_look_of LL_173 rfl
theorem L_173_13 : rd_look 173 13 = some (17, .getfield 71, 3, [12, 25, 122]) := rd_look_of LL_173 rfl
theorem L_173_14 : rd_look 173 14 = some (20, .iload_n 3, 1, []) := rd_look_of LL_173 rfl
theorem L_173_15 : rd_look 173 15 = some (21, .iconst 1, 1, []) := rd_look_of LL_173 rfl
theorem L_173_16 : rd_look 173 16 = some (22, .iadd, 1, []) := rd_look_of LL_173 rfl
theorem L_173_17 : rd_look 173 17 = some (23, .iaload, 1, []) := rd_look_of LL_173 rfl
theorem L_173_18 : rd_look 173 18 = some (24, .aload_n 0, 1, []) := rd_look_of LL_173 rfl
theorem L_173_19 : rd_look 173 19 = some (25, .getfield 71, 3, [12, 25, 122]) := rd_look_of LL_173 rfl
theorem L_173_20 : rd_look 173 20 = some (28, .iload_n 3, 1, []) := rd_look_of LL_173 rfl
theorem L_173_21 : rd_look 173 21 = some (29, .iconst 2, 1, []) := rd_look_of LL_173 rfl
theorem L_173_22 : rd_look 173 22 = some (30, .iadd, 1, []) := rd_look_of LL_173 rfl
theorem L_173_23 : rd_look 173 23 = some (31, .iaload, 1, []) := rd_look_of LL_173 rfl
theorem L_173_24 : rd_look 173 24 = some (32, .aload_n 0, 1, []) := rd_look_of LL_173 rfl
theorem L_173_25 : rd_look 173 25 = some (33, .getfield 71, 3, [12, 25, 122]) := rd_look_of LL_173 rfl
theorem L_173_26 : rd_look 173 26 = some (36, .iload_n 3, 1, []) := rd_look_of LL_173 rfl
theorem L_173_27 : rd_look 173 27 = some (37, .iconst 3, 1, []) := rd_look_of LL_173 rfl
theorem L_173_28 : rd_look 173 28 = some (38, .iadd, 1, []) := rd_look_of LL_173 rfl
theorem L_173_29 : rd_look 173 29 = some (39, .iaload, 1, []) := rd_look_of LL_173 rfl
theorem L_173_30 : rd_look 173 30 = some (40, .aload_n 0, 1, []) := rd_look_of LL_173 rfl
theorem L_173_31 : rd_look 173 31 = some (41, .getfield 71, 3, [12, 25, 122]) := rd_look_of LL_173 rfl
theorem L_173_32 : rd_look 173 32 = some (44, .iload_n 3, 1, []) := rd_look_of LL_173 rfl
theorem L_173_33 : rd_look 173 33 = some (45, .iconst 4, 1, []) := rd_look_of LL_173 rfl
theorem L_173_34 : rd_look 173 34 = some (46, .iadd, 1, []) := rd_look_of LL_173 rfl
theorem L_173_35 : rd_look 173 35 = some (47, .iaload, 1, []) := rd_look_of LL_173 rfl
theorem L_173_36 : rd_look 173 36 = some (48, .invokevirtual 194, 3, [151, 6, 170, 12]) := rd_look_of LL_173 rfl
theorem L_173_37 : rd_look 173 37 = some (51, .ireturn, 1, []) := rd_look_of LL_173 rfl
theorem L_174_0 : rd_look 174 0 = some (0, .iconst 0, 1, []) := rd_look_of LL_174 rfl
theorem L_174_1 : rd_look 174 1 = some (1, .istore_n 2, 1, []) := rd_look_of LL_174 rfl
theorem L_174_2 : rd_look 174 2 = some (2, .iconst 0, 1, []) := rd_look_of LL_174 rfl
theorem L_174_3 : rd_look 174 3 = some (3, .istore_n 3, 1, []) := rd_look_of LL_174 rfl
theorem L_174_4 : rd_look 174 4 = some (4, .iload_n 3, 1, []) := rd_look_of LL_174 rfl
theorem L_174_5 : rd_look 174 5 = some (5, .aload_n 0, 1, []) := rd_look_of LL_174 rfl
theorem L_174_6 : rd_look 174 6 = some (6, .getfield 215, 3, [12, 23, 149]) := rd_look_of LL_174 rfl
theorem L_174_7 : rd_look 174 7 = some (9, .if_icmp .ge 26, 3, [21]) := rd_look_of LL_174 rfl
theorem L_174_8 : rd_look 174 8 = some (12, .iload_n 2, 1, []) := rd_look_of LL_174 rfl
theorem L_174_9 : rd_look 174 9 = some (13, .aload_n 0, 1, []) := rd_look_of LL_174 rfl
theorem L_174_10 : rd_look 174 10 = some (14, .iload_n 3, 1, []) := rd_look_of LL_174 rfl
theorem L_174_11 : rd_look 174 11 = some (15, .iload_n 1, 1, []) := rd_look_of LL_174 rfl
theorem L_174_12 : rd_look 174 12 = some (16, .invokevirtual 238, 3, [173, 2, 178, 12]) := rd_look_of LL_174 rfl
theorem L_174_13 : rd_look 174 13 = some (19, .ifCond .eq 7, 3, [16]) := rd_look_of LL_174 rfl
theorem L_174_14 : rd_look 174 14 = some (22, .iconst 1, 1, []) := rd_look_of LL_174 rfl
theorem L_174_15 : rd_look 174 15 = some (23, .goto 4, 3, [17]) := rd_look_of LL_174 rfl
theorem L_174_16 : rd_look 174 16 = some (26, .iconst 0, 1, []) := rd_look_of LL_174 rfl
theorem L_174_17 : rd_look 174 17 = some (27, .iadd, 1, []) := rd_look_of LL_174 rfl
theorem L_174_18 : rd_look 174 18 = some (28, .istore_n 2, 1, []) := rd_look_of LL_174 rfl
theorem L_174_19 : rd_look 174 19 = some (29, .iinc 3 1, 3, []) := rd_look_of LL_174 rfl
theorem L_174_20 : rd_look 174 20 = some (32, .goto (-28), 3, [4]) := rd_look_of LL_174 rfl
theorem L_174_21 : rd_look 174 21 = some (35, .iload_n 2, 1, []) := rd_look_of LL_174 rfl
theorem L_174_22 : rd_look 174 22 = some (36, .ireturn, 1, []) := rd_look_of LL_174 rfl
theorem L_175_0 : rd_look 175 0 = some (0, .aload_n 0, 1, []) := rd_look_of LL_175 rfl
theorem L_175_1 : rd_look 175 1 = some (1, .iload_n 1, 1, []) := rd_look_of LL_175 rfl
theorem L_175_2 : rd_look 175 2 = some (2, .invokevirtual 232, 3, [168, 1, 177, 12]) := rd_look_of LL_175 rfl
theorem L_175_3 : rd_look 175 3 = some (5, .ifCond .eq 11, 3, [8]) := rd_look_of LL_175 rfl
theorem L_175_4 : rd_look 175 4 = some (8, .aload_n 0, 1, []) := rd_look_of LL_175 rfl
theorem L_175_5 : rd_look 175 5 = some (9, .iload_n 1, 1, []) := rd_look_of LL_175 rfl
theorem L_175_6 : rd_look 175 6 = some (10, .invokevirtual 241, 3, [174, 1, 179, 12]) := rd_look_of LL_175 rfl
theorem L_175_7 : rd_look 175 7 = some (13, .goto 4, 3, [9]) := rd_look_of LL_175 rfl
theorem L_175_8 : rd_look 175 8 = some (16, .iconst (-1), 1, []) := rd_look_of LL_175 rfl
theorem L_175_9 : rd_look 175 9 = some (17, .ireturn, 1, []) := rd_look_of LL_175 rfl
theorem L_176_0 : rd_look 176 0 = some (0, .aload_n 0, 1, []) := rd_look_of LL_176 rfl
theorem L_176_1 : rd_look 176 1 = some (1, .getfield 245, 3, [12, 39, 153]) := rd_look_of LL_176 rfl
theorem L_176_2 : rd_look 176 2 = some (4, .bipush 60, 2, []) := rd_look_of LL_176 rfl
theorem L_176_3 : rd_look 176 3 = some (6, .if_icmp .ge 53, 3, [38]) := rd_look_of LL_176 rfl
theorem L_176_4 : rd_look 176 4 = some (9, .aload_n 0, 1, []) := rd_look_of LL_176 rfl
theorem L_176_5 : rd_look 176 5 = some (10, .getfield 92, 3, [12, 40, 129]) := rd_look_of LL_176 rfl
theorem L_176_6 : rd_look 176 6 = some (13, .iconst 3, 1, []) := rd_look_of LL_176 rfl
theorem L_176_7 : rd_look 176 7 = some (14, .aload_n 0, 1, []) := rd_look_of LL_176 rfl
theorem L_176_8 : rd_look 176 8 = some (15, .getfield 245, 3, [12, 39, 153]) := rd_look_of LL_176 rfl
theorem L_176_9 : rd_look 176 9 = some (18, .imul, 1, []) := rd_look_of LL_176 rfl
theorem L_176_10 : rd_look 176 10 = some (19, .iload_n 1, 1, []) := rd_look_of LL_176 rfl
theorem L_176_11 : rd_look 176 11 = some (20, .iastore, 1, []) := rd_look_of LL_176 rfl
theorem L_176_12 : rd_look 176 12 = some (21, .aload_n 0, 1, []) := rd_look_of LL_176 rfl
theorem L_176_13 : rd_look 176 13 = some (22, .getfield 92, 3, [12, 40, 129]) := rd_look_of LL_176 rfl
theorem L_176_14 : rd_look 176 14 = some (25, .iconst 3, 1, []) := rd_look_of LL_176 rfl
theorem L_176_15 : rd_look 176 15 = some (26, .aload_n 0, 1, []) := rd_look_of LL_176 rfl
theorem L_176_16 : rd_look 176 16 = some (27, .getfield 245, 3, [12, 39, 153]) := rd_look_of LL_176 rfl
theorem L_176_17 : rd_look 176 17 = some (30, .imul, 1, []) := rd_look_of LL_176 rfl
theorem L_176_18 : rd_look 176 18 = some (31, .iconst 1, 1, []) := rd_look_of LL_176 rfl
theorem L_176_19 : rd_look 176 19 = some (32, .iadd, 1, []) := rd_look_of LL_176 rfl
theorem L_176_20 : rd_look 176 20 = some (33, .iload_n 2, 1, []) := rd_look_of LL_176 rfl
theorem L_176_21 : rd_look 176 21 = some (34, .iastore, 1, []) := rd_look_of LL_176 rfl
theorem L_176_22 : rd_look 176 22 = some (35, .aload_n 0, 1, []) := rd_look_of LL_176 rfl
theorem L_176_23 : rd_look 176 23 = some (36, .getfield 92, 3, [12, 40, 129]) := rd_look_of LL_176 rfl
theorem L_176_24 : rd_look 176 24 = some (39, .iconst 3, 1, []) := rd_look_of LL_176 rfl
theorem L_176_25 : rd_look 176 25 = some (40, .aload_n 0, 1, []) := rd_look_of LL_176 rfl
theorem L_176_26 : rd_look 176 26 = some (41, .getfield 245, 3, [12, 39, 153]) := rd_look_of LL_176 rfl
theorem L_176_27 : rd_look 176 27 = some (44, .imul, 1, []) := rd_look_of LL_176 rfl
theorem L_176_28 : rd_look 176 28 = some (45, .iconst 2, 1, []) := rd_look_of LL_176 rfl
theorem L_176_29 : rd_look 176 29 = some (46, .iadd, 1, []) := rd_look_of LL_176 rfl
theorem L_176_30 : rd_look 176 30 = some (47, .iload_n 3, 1, []) := rd_look_of LL_176 rfl
theorem L_176_31 : rd_look 176 31 = some (48, .iastore, 1, []) := rd_look_of LL_176 rfl
theorem L_176_32 : rd_look 176 32 = some (49, .aload_n 0, 1, []) := rd_look_of LL_176 rfl
theorem L_176_33 : rd_look 176 33 = some (50, .dup, 1, []) := rd_look_of LL_176 rfl
theorem L_176_34 : rd_look 176 34 = some (51, .getfield 245, 3, [12, 39, 153]) := rd_look_of LL_176 rfl
theorem L_176_35 : rd_look 176 35 = some (54, .iconst 1, 1, []) := rd_look_of LL_176 rfl
theorem L_176_36 : rd_look 176 36 = some (55, .iadd, 1, []) := rd_look_of LL_176 rfl
theorem L_176_37 : rd_look 176 37 = some (56, .putfield 245, 3, [12, 39, 153, 0]) := rd_look_of LL_176 rfl
theorem L_176_38 : rd_look 176 38 = some (59, .return_, 1, []) := rd_look_of LL_176 rfl
theorem L_177_0 : rd_look 177 0 = some (0, .iconst (-1), 1, []) := rd_look_of LL_177 rfl
theorem L_177_1 : rd_look 177 1 = some (1, .istore_n 2, 1, []) := rd_look_of LL_177 rfl
theorem L_177_2 : rd_look 177 2 = some (2, .iconst 0, 1, []) := rd_look_of LL_177 rfl
theorem L_177_3 : rd_look 177 3 = some (3, .istore_n 3, 1, []) := rd_look_of LL_177 rfl
theorem L_177_4 : rd_look 177 4 = some (4, .iload_n 3, 1, []) := rd_look_of LL_177 rfl
theorem L_177_5 : rd_look 177 5 = some (5, .aload_n 0, 1, []) := rd_look_of LL_177 rfl
theorem L_177_6 : rd_look 177 6 = some (6, .getfield 215, 3, [12, 23, 149]) := rd_look_of LL_177 rfl
theorem L_177_7 : rd_look 177 7 = some (9, .if_icmp .ge 29, 3, [22]) := rd_look_of LL_177 rfl
theorem L_177_8 : rd_look 177 8 = some (12, .aload_n 0, 1, []) := rd_look_of LL_177 rfl
theorem L_177_9 : rd_look 177 9 = some (13, .iload_n 3, 1, []) := rd_look_of LL_177 rfl
theorem L_177_10 : rd_look 177 10 = some (14, .aload_n 0, 1, []) := rd_look_of LL_177 rfl
theorem L_177_11 : rd_look 177 11 = some (15, .getfield 83, 3, [12, 36, 126]) := rd_look_of LL_177 rfl
theorem L_177_12 : rd_look 177 12 = some (18, .iload_n 1, 1, []) := rd_look_of LL_177 rfl
theorem L_177_13 : rd_look 177 13 = some (19, .iaload, 1, []) := rd_look_of LL_177 rfl
theorem L_177_14 : rd_look 177 14 = some (20, .invokevirtual 238, 3, [173, 2, 178, 12]) := rd_look_of LL_177 rfl
theorem L_177_15 : rd_look 177 15 = some (23, .ifCond .eq 7, 3, [18]) := rd_look_of LL_177 rfl
theorem L_177_16 : rd_look 177 16 = some (26, .iload_n 3, 1, []) := rd_look_of LL_177 rfl
theorem L_177_17 : rd_look 177 17 = some (27, .goto 4, 3, [19]) := rd_look_of LL_177 rfl
theorem L_177_18 : rd_look 177 18 = some (30, .iload_n 2, 1, []) := rd_look_of LL_177 rfl
theorem L_177_19 : rd_look 177 19 = some (31, .istore_n 2, 1, []) := rd_look_of LL_177 rfl
theorem L_177_20 : rd_look 177 20 = some (32, .iinc 3 1, 3, []) := rd_look_of LL_177 rfl
theorem L_177_21 : rd_look 177 21 = some (35, .goto (-31), 3, [4]) := rd_look_of LL_177 rfl
theorem L_177_22 : rd_look 177 22 = some (38, .iconst 0, 1, []) := rd_look_of LL_177 rfl
theorem L_177_23 : rd_look 177 23 = some (39, .istore_n 3, 1, []) := rd_look_of LL_177 rfl
theorem L_177_24 : rd_look 177 24 = some (40, .iload_n 3, 1, []) := rd_look_of LL_177 rfl
theorem L_177_25 : rd_look 177 25 = some (41, .iload_n 2, 1, []) := rd_look_of LL_177 rfl
theorem L_177_26 : rd_look 177 26 = some (42, .if_icmp .ge 25, 3, [39]) := rd_look_of LL_177 rfl
theorem L_177_27 : rd_look 177 27 = some (45, .aload_n 0, 1, []) := rd_look_of LL_177 rfl
theorem L_177_28 : rd_look 177 28 = some (46, .iload_n 3, 1, []) := rd_look_of LL_177 rfl
theorem L_177_29 : rd_look 177 29 = some (47, .aload_n 0, 1, []) := rd_look_of LL_177 rfl
theorem L_177_30 : rd_look 177 30 = some (48, .getfield 86, 3, [12, 37, 127]) := rd_look_of LL_177 rfl
theorem L_177_31 : rd_look 177 31 = some (51, .iload_n 1, 1, []) := rd_look_of LL_177 rfl
theorem L_177_32 : rd_look 177 32 = some (52, .iaload, 1, []) := rd_look_of LL_177 rfl
theorem L_177_33 : rd_look 177 33 = some (53, .invokevirtual 238, 3, [173, 2, 178, 12]) := rd_look_of LL_177 rfl
theorem L_177_34 : rd_look 177 34 = some (56, .ifCond .eq 5, 3, [37]) := rd_look_of LL_177 rfl
theorem L_177_35 : rd_look 177 35 = some (59, .iload_n 3, 1, []) := rd_look_of LL_177 rfl
theorem L_177_36 : rd_look 177 36 = some (60, .ireturn, 1, []) := rd_look_of LL_177 rfl
theorem L_177_37 : rd_look 177 37 = some (61, .iinc 3 1, 3, []) := rd_look_of LL_177 rfl
theorem L_177_38 : rd_look 177 38 = some (64, .goto (-24), 3, [24]) := rd_look_of LL_177 rfl
theorem L_177_39 : rd_look 177 39 = some (67, .iconst (-1), 1, []) := rd_look_of LL_177 rfl
theorem L_177_40 : rd_look 177 40 = some (68, .ireturn, 1, []) := rd_look_of LL_177 rfl
theorem L_178_0 : rd_look 178 0 = some (0, .iconst 0, 1, []) := rd_look_of LL_178 rfl
theorem L_178_1 : rd_look 178 1 = some (1, .istore_n 2, 1, []) := rd_look_of LL_178 rfl
theorem L_178_2 : rd_look 178 2 = some (2, .iconst 0, 1, []) := rd_look_of LL_178 rfl
theorem L_178_3 : rd_look 178 3 = some (3, .istore_n 3, 1, []) := rd_look_of LL_178 rfl
theorem L_178_4 : rd_look 178 4 = some (4, .iload_n 3, 1, []) := rd_look_of LL_178 rfl
theorem L_178_5 : rd_look 178 5 = some (5, .aload_n 0, 1, []) := rd_look_of LL_178 rfl
theorem L_178_6 : rd_look 178 6 = some (6, .getfield 229, 3, [12, 32, 151]) := rd_look_of LL_178 rfl
theorem L_178_7 : rd_look 178 7 = some (9, .if_icmp .ge 20, 3, [17]) := rd_look_of LL_178 rfl
theorem L_178_8 : rd_look 178 8 = some (12, .iload_n 2, 1, []) := rd_look_of LL_178 rfl
theorem L_178_9 : rd_look 178 9 = some (13, .ifCond .ne 16, 3, [17]) := rd_look_of LL_178 rfl
theorem L_178_10 : rd_look 178 10 = some (16, .aload_n 0, 1, []) := rd_look_of LL_178 rfl
theorem L_178_11 : rd_look 178 11 = some (17, .iload_n 1, 1, []) := rd_look_of LL_178 rfl
theorem L_178_12 : rd_look 178 12 = some (18, .iload_n 3, 1, []) := rd_look_of LL_178 rfl
theorem L_178_13 : rd_look 178 13 = some (19, .invokevirtual 238, 3, [173, 2, 178, 12]) := rd_look_of LL_178 rfl
theorem L_178_14 : rd_look 178 14 = some (22, .istore_n 2, 1, []) := rd_look_of LL_178 rfl
theorem L_178_15 : rd_look 178 15 = some (23, .iinc 3 1, 3, []) := rd_look_of LL_178 rfl
theorem L_178_16 : rd_look 178 16 = some (26, .goto (-22), 3, [4]) := rd_look_of LL_178 rfl
theorem L_178_17 : rd_look 178 17 = some (29, .iload_n 2, 1, []) := rd_look_of LL_178 rfl
theorem L_178_18 : rd_look 178 18 = some (30, .ireturn, 1, []) := rd_look_of LL_178 rfl
theorem L_179_0 : rd_look 179 0 = some (0, .aload_n 0, 1, []) := rd_look_of LL_179 rfl
theorem L_179_1 : rd_look 179 1 = some (1, .iconst 0, 1, []) := rd_look_of LL_179 rfl
theorem L_179_2 : rd_look 179 2 = some (2, .putfield 245, 3, [12, 39, 153, 0]) := rd_look_of LL_179 rfl
theorem L_179_3 : rd_look 179 3 = some (5, .iconst 0, 1, []) := rd_look_of LL_179 rfl
theorem L_179_4 : rd_look 179 4 = some (6, .istore_n 1, 1, []) := rd_look_of LL_179 rfl
theorem L_179_5 : rd_look 179 5 = some (7, .iload_n 1, 1, []) := rd_look_of LL_179 rfl
theorem L_179_6 : rd_look 179 6 = some (8, .aload_n 0, 1, []) := rd_look_of LL_179 rfl
theorem L_179_7 : rd_look 179 7 = some (9, .getfield 229, 3, [12, 32, 151]) := rd_look_of LL_179 rfl
theorem L_179_8 : rd_look 179 8 = some (12, .if_icmp .ge 56, 3, [40]) := rd_look_of LL_179 rfl
theorem L_179_9 : rd_look 179 9 = some (15, .aload_n 0, 1, []) := rd_look_of LL_179 rfl
theorem L_179_10 : rd_look 179 10 = some (16, .iload_n 1, 1, []) := rd_look_of LL_179 rfl
theorem L_179_11 : rd_look 179 11 = some (17, .invokevirtual 241, 3, [174, 1, 179, 12]) := rd_look_of LL_179 rfl
theorem L_179_12 : rd_look 179 12 = some (20, .istore_n 2, 1, []) := rd_look_of LL_179 rfl
theorem L_179_13 : rd_look 179 13 = some (21, .iload_n 2, 1, []) := rd_look_of LL_179 rfl
theorem L_179_14 : rd_look 179 14 = some (22, .aload_n 0, 1, []) := rd_look_of LL_179 rfl
theorem L_179_15 : rd_look 179 15 = some (23, .getfield 77, 3, [12, 33, 124]) := rd_look_of LL_179 rfl
theorem L_179_16 : rd_look 179 16 = some (26, .iload_n 1, 1, []) := rd_look_of LL_179 rfl
theorem L_179_17 : rd_look 179 17 = some (27, .iaload, 1, []) := rd_look_of LL_179 rfl
theorem L_179_18 : rd_look 179 18 = some (28, .if_icmp .lt 13, 3, [25]) := rd_look_of LL_179 rfl
theorem L_179_19 : rd_look 179 19 = some (31, .iload_n 2, 1, []) := rd_look_of LL_179 rfl
theorem L_179_20 : rd_look 179 20 = some (32, .aload_n 0, 1, []) := rd_look_of LL_179 rfl
theorem L_179_21 : rd_look 179 21 = some (33, .getfield 80, 3, [12, 34, 125]) := rd_look_of LL_179 rfl
theorem L_179_22 : rd_look 179 22 = some (36, .iload_n 1, 1, []) := rd_look_of LL_179 rfl
theorem L_179_23 : rd_look 179 23 = some (37, .iaload, 1, []) := rd_look_of LL_179 rfl
theorem L_179_24 : rd_look 179 24 = some (38, .if_icmp .le 24, 3, [38]) := rd_look_of LL_179 rfl
theorem L_179_25 : rd_look 179 25 = some (41, .aload_n 0, 1, []) := rd_look_of LL_179 rfl
theorem L_179_26 : rd_look 179 26 = some (42, .iload_n 2, 1, []) := rd_look_of LL_179 rfl
theorem L_179_27 : rd_look 179 27 = some (43, .aload_n 0, 1, []) := rd_look_of LL_179 rfl
theorem L_179_28 : rd_look 179 28 = some (44, .getfield 77, 3, [12, 33, 124]) := rd_look_of LL_179 rfl
theorem L_179_29 : rd_look 179 29 = some (47, .iload_n 1, 1, []) := rd_look_of LL_179 rfl
theorem L_179_30 : rd_look 179 30 = some (48, .iaload, 1, []) := rd_look_of LL_179 rfl
theorem L_179_31 : rd_look 179 31 = some (49, .if_icmp .ge 7, 3, [34]) := rd_look_of LL_179 rfl
theorem L_179_32 : rd_look 179 32 = some (52, .iconst 1, 1, []) := rd_look_of LL_179 rfl
theorem L_179_33 : rd_look 179 33 = some (53, .goto 4, 3, [35]) := rd_look_of LL_179 rfl
theorem L_179_34 : rd_look 179 34 = some (56, .iconst 2, 1, []) := rd_look_of LL_179 rfl
theorem L_179_35 : rd_look 179 35 = some (57, .iload_n 1, 1, []) := rd_look_of LL_179 rfl
theorem L_179_36 : rd_look 179 36 = some (58, .iload_n 2, 1, []) := rd_look_of LL_179 rfl
theorem L_179_37 : rd_look 179 37 = some (59, .invokevirtual 248, 3, [176, 3, 180, 12]) := rd_look_of LL_179 rfl
theorem L_179_38 : rd_look 179 38 = some (62, .iinc 1 1, 3, []) := rd_look_of LL_179 rfl
theorem L_179_39 : rd_look 179 39 = some (65, .goto (-58), 3, [5]) := rd_look_of LL_179 rfl
theorem L_179_40 : rd_look 179 40 = some (68, .iconst 0, 1, []) := rd_look_of LL_179 rfl
theorem L_179_41 : rd_look 179 41 = some (69, .istore_n 1, 1, []) := rd_look_of LL_179 rfl
theorem L_179_42 : rd_look 179 42 = some (70, .iload_n 1, 1, []) := rd_look_of LL_179 rfl
theorem L_179_43 : rd_look 179 43 = some (71, .aload_n 0, 1, []) := rd_look_of LL_179 rfl
theorem L_179_44 : rd_look 179 44 = some (72, .getfield 235, 3, [12, 35, 152]) := rd_look_of LL_179 rfl
theorem L_179_45 : rd_look 179 45 = some (75, .if_icmp .ge 26, 3, [59]) := rd_look_of LL_179 rfl
theorem L_179_46 : rd_look 179 46 = some (78, .aload_n 0, 1, []) := rd_look_of LL_179 rfl
theorem L_179_47 : rd_look 179 47 = some (79, .iload_n 1, 1, []) := rd_look_of LL_179 rfl
theorem L_179_48 : rd_look 179 48 = some (80, .invokevirtual 251, 3, [177, 1, 181, 12]) := rd_look_of LL_179 rfl
theorem L_179_49 : rd_look 179 49 = some (83, .istore_n 2, 1, []) := rd_look_of LL_179 rfl
theorem L_179_50 : rd_look 179 50 = some (84, .iload_n 2, 1, []) := rd_look_of LL_179 rfl
theorem L_179_51 : rd_look 179 51 = some (85, .ifCond .lt 10, 3, [57]) := rd_look_of LL_179 rfl
theorem L_179_52 : rd_look 179 52 = some (88, .aload_n 0, 1, []) := rd_look_of LL_179 rfl
theorem L_179_53 : rd_look 179 53 = some (89, .iconst 3, 1, []) := rd_look_of LL_179 rfl
theorem L_179_54 : rd_look 179 54 = some (90, .iload_n 1, 1, []) := rd_look_of LL_179 rfl
theorem L_179_55 : rd_look 179 55 = some (91, .iload_n 2, 1, []) := rd_look_of LL_179 rfl
theorem L_179_56 : rd_look 179 56 = some (92, .invokevirtual 248, 3, [176, 3, 180, 12]) := rd_look_of LL_179 rfl
theorem L_179_57 : rd_look 179 57 = some (95, .iinc 1 1, 3, []) := rd_look_of LL_179 rfl
theorem L_179_58 : rd_look 179 58 = some (98, .goto (-28), 3, [42]) := rd_look_of LL_179 rfl
theorem L_179_59 : rd_look 179 59 = some (101, .iconst 0, 1, []) := rd_look_of LL_179 rfl
theorem L_179_60 : rd_look 179 60 = some (102, .istore_n 1, 1, []) := rd_look_of LL_179 rfl
theorem L_179_61 : rd_look 179 61 = some (103, .iload_n 1, 1, []) := rd_look_of LL_179 rfl
theorem L_179_62 : rd_look 179 62 = some (104, .aload_n 0, 1, []) := rd_look_of LL_179 rfl
theorem L_179_63 : rd_look 179 63 = some (105, .getfield 215, 3, [12, 23, 149]) := rd_look_of LL_179 rfl
theorem L_179_64 : rd_look 179 64 = some (108, .if_icmp .ge 100, 3, [124]) := rd_look_of LL_179 rfl
theorem L_179_65 : rd_look 179 65 = some (111, .aload_n 0, 1, []) := rd_look_of LL_179 rfl
theorem L_179_66 : rd_look 179 66 = some (112, .iload_n 1, 1, []) := rd_look_of LL_179 rfl
theorem L_179_67 : rd_look 179 67 = some (113, .invokevirtual 254, 3, [178, 1, 182, 12]) := rd_look_of LL_179 rfl
theorem L_179_68 : rd_look 179 68 = some (116, .ifCond .ne 7, 3, [71]) := rd_look_of LL_179 rfl
theorem L_179_69 : rd_look 179 69 = some (119, .iconst 1, 1, []) := rd_look_of LL_179 rfl
theorem L_179_70 : rd_look 179 70 = some (120, .goto 4, 3, [72]) := rd_look_of LL_179 rfl
theorem L_179_71 : rd_look 179 71 = some (123, .iconst 0, 1, []) := rd_look_of LL_179 rfl
theorem L_179_72 : rd_look 179 72 = some (124, .istore_n 2, 1, []) := rd_look_of LL_179 rfl
theorem L_179_73 : rd_look 179 73 = some (125, .iload_n 2, 1, []) := rd_look_of LL_179 rfl
theorem L_179_74 : rd_look 179 74 = some (126, .ifCond .eq 27, 3, [90]) := rd_look_of LL_179 rfl
theorem L_179_75 : rd_look 179 75 = some (129, .aload_n 0, 1, []) := rd_look_of LL_179 rfl
theorem L_179_76 : rd_look 179 76 = some (130, .getfield 89, 3, [12, 38, 128]) := rd_look_of LL_179 rfl
theorem L_179_77 : rd_look 179 77 = some (133, .aload_n 0, 1, []) := rd_look_of LL_179 rfl
theorem L_179_78 : rd_look 179 78 = some (134, .getfield 71, 3, [12, 25, 122]) := rd_look_of LL_179 rfl
theorem L_179_79 : rd_look 179 79 = some (137, .bipush 9, 2, []) := rd_look_of LL_179 rfl
theorem L_179_80 : rd_look 179 80 = some (139, .iload_n 1, 1, []) := rd_look_of LL_179 rfl
theorem L_179_81 : rd_look 179 81 = some (140, .imul, 1, []) := rd_look_of LL_179 rfl
theorem L_179_82 : rd_look 179 82 = some (141, .iaload, 1, []) := rd_look_of LL_179 rfl
theorem L_179_83 : rd_look 179 83 = some (142, .baload, 1, []) := rd_look_of LL_179 rfl
theorem L_179_84 : rd_look 179 84 = some (143, .ifCond .eq 10, 3, [90]) := rd_look_of LL_179 rfl
theorem L_179_85 : rd_look 179 85 = some (146, .aload_n 0, 1, []) := rd_look_of LL_179 rfl
theorem L_179_86 : rd_look 179 86 = some (147, .iconst 4, 1, []) := rd_look_of LL_179 rfl
theorem L_179_87 : rd_look 179 87 = some (148, .iload_n 1, 1, []) := rd_look_of LL_179 rfl
theorem L_179_88 : rd_look 179 88 = some (149, .iconst 0, 1, []) := rd_look_of LL_179 rfl
theorem L_179_89 : rd_look 179 89 = some (150, .invokevirtual 248, 3, [176, 3, 180, 12]) := rd_look_of LL_179 rfl
theorem L_179_90 : rd_look 179 90 = some (153, .aload_n 0, 1, []) := rd_look_of LL_179 rfl
theorem L_179_91 : rd_look 179 91 = some (154, .getfield 71, 3, [12, 25, 122]) := rd_look_of LL_179 rfl
theorem L_179_92 : rd_look 179 92 = some (157, .bipush 9, 2, []) := rd_look_of LL_179 rfl
theorem L_179_93 : rd_look 179 93 = some (159, .iload_n 1, 1, []) := rd_look_of LL_179 rfl
theorem L_179_94 : rd_look 179 94 = some (160, .imul, 1, []) := rd_look_of LL_179 rfl
theorem L_179_95 : rd_look 179 95 = some (161, .iconst 5, 1, []) := rd_look_of LL_179 rfl
theorem L_179_96 : rd_look 179 96 = some (162, .iadd, 1, []) := rd_look_of LL_179 rfl
theorem L_179_97 : rd_look 179 97 = some (163, .iaload, 1, []) := rd_look_of LL_179 rfl
theorem L_179_98 : rd_look 179 98 = some (164, .iconst 2, 1, []) := rd_look_of LL_179 rfl
theorem L_179_99 : rd_look 179 99 = some (165, .if_icmp .ne 10, 3, [105]) := rd_look_of LL_179 rfl
theorem L_179_100 : rd_look 179 100 = some (168, .aload_n 0, 1, []) := rd_look_of LL_179 rfl
theorem L_179_101 : rd_look 179 101 = some (169, .iconst 5, 1, []) := rd_look_of LL_179 rfl
theorem L_179_102 : rd_look 179 102 = some (170, .iload_n 1, 1, []) := rd_look_of LL_179 rfl
theorem L_179_103 : rd_look 179 103 = some (171, .iconst 0, 1, []) := rd_look_of LL_179 rfl
theorem L_179_104 : rd_look 179 104 = some (172, .invokevirtual 248, 3, [176, 3, 180, 12]) := rd_look_of LL_179 rfl
theorem L_179_105 : rd_look 179 105 = some (175, .iload_n 2, 1, []) := rd_look_of LL_179 rfl
theorem L_179_106 : rd_look 179 106 = some (176, .ifCond .eq 26, 3, [122]) := rd_look_of LL_179 rfl
theorem L_179_107 : rd_look 179 107 = some (179, .aload_n 0, 1, []) := rd_look_of LL_179 rfl
theorem L_179_108 : rd_look 179 108 = some (180, .getfield 71, 3, [12, 25, 122]) := rd_look_of LL_179 rfl
theorem L_179_109 : rd_look 179 109 = some (183, .bipush 9, 2, []) := rd_look_of LL_179 rfl
theorem L_179_110 : rd_look 179 110 = some (185, .iload_n 1, 1, []) := rd_look_of LL_179 rfl
theorem L_179_111 : rd_look 179 111 = some (186, .imul, 1, []) := rd_look_of LL_179 rfl
theorem L_179_112 : rd_look 179 112 = some (187, .iconst 5, 1, []) := rd_look_of LL_179 rfl
theorem L_179_113 : rd_look 179 113 = some (188, .iadd, 1, []) := rd_look_of LL_179 rfl
theorem L_179_114 : rd_look 179 114 = some (189, .iaload, 1, []) := rd_look_of LL_179 rfl
theorem L_179_115 : rd_look 179 115 = some (190, .iconst 3, 1, []) := rd_look_of LL_179 rfl
theorem L_179_116 : rd_look 179 116 = some (191, .if_icmp .ne 11, 3, [122]) := rd_look_of LL_179 rfl
theorem L_179_117 : rd_look 179 117 = some (194, .aload_n 0, 1, []) := rd_look_of LL_179 rfl
theorem L_179_118 : rd_look 179 118 = some (195, .bipush 6, 2, []) := rd_look_of LL_179 rfl
theorem L_179_119 : rd_look 179 119 = some (197, .iload_n 1, 1, []) := rd_look_of LL_179 rfl
theorem L_179_120 : rd_look 179 120 = some (198, .iconst 0, 1, []) := rd_look_of LL_179 rfl
theorem L_179_121 : rd_look 179 121 = some (199, .invokevirtual 248, 3, [176, 3, 180, 12]) := rd_look_of LL_179 rfl
theorem L_179_122 : rd_look 179 122 = some (202, .iinc 1 1, 3, []) := rd_look_of LL_179 rfl
theorem L_179_123 : rd_look 179 123 = some (205, .goto (-102), 3, [61]) := rd_look_of LL_179 rfl
theorem L_179_124 : rd_look 179 124 = some (208, .aload_n 0, 1, []) := rd_look_of LL_179 rfl
theorem L_179_125 : rd_look 179 125 = some (209, .getfield 245, 3, [12, 39, 153]) := rd_look_of LL_179 rfl
theorem L_179_126 : rd_look 179 126 = some (212, .ireturn, 1, []) := rd_look_of LL_179 rfl
theorem L_180_0 : rd_look 180 0 = some (0, .iload_n 1, 1, []) := rd_look_of LL_180 rfl
theorem L_180_1 : rd_look 180 1 = some (1, .iconst 0, 1, []) := rd_look_of LL_180 rfl
theorem L_180_2 : rd_look 180 2 = some (2, .aload_n 0, 1, []) := rd_look_of LL_180 rfl
theorem L_180_3 : rd_look 180 3 = some (3, .getfield 245, 3, [12, 39, 153]) := rd_look_of LL_180 rfl
theorem L_180_4 : rd_look 180 4 = some (6, .iconst 1, 1, []) := rd_look_of LL_180 rfl
theorem L_180_5 : rd_look 180 5 = some (7, .isub, 1, []) := rd_look_of LL_180 rfl
theorem L_180_6 : rd_look 180 6 = some (8, .invokestatic 133, 3, [137, 3, 158]) := rd_look_of LL_180 rfl
theorem L_180_7 : rd_look 180 7 = some (11, .ifCond .eq 25, 3, [22]) := rd_look_of LL_180 rfl
theorem L_180_8 : rd_look 180 8 = some (14, .iload_n 2, 1, []) := rd_look_of LL_180 rfl
theorem L_180_9 : rd_look 180 9 = some (15, .iconst 0, 1, []) := rd_look_of LL_180 rfl
theorem L_180_10 : rd_look 180 10 = some (16, .iconst 2, 1, []) := rd_look_of LL_180 rfl
theorem L_180_11 : rd_look 180 11 = some (17, .invokestatic 133, 3, [137, 3, 158]) := rd_look_of LL_180 rfl
theorem L_180_12 : rd_look 180 12 = some (20, .ifCond .eq 16, 3, [22]) := rd_look_of LL_180 rfl
theorem L_180_13 : rd_look 180 13 = some (23, .aload_n 0, 1, []) := rd_look_of LL_180 rfl
theorem L_180_14 : rd_look 180 14 = some (24, .getfield 92, 3, [12, 40, 129]) := rd_look_of LL_180 rfl
theorem L_180_15 : rd_look 180 15 = some (27, .iconst 3, 1, []) := rd_look_of LL_180 rfl
theorem L_180_16 : rd_look 180 16 = some (28, .iload_n 1, 1, []) := rd_look_of LL_180 rfl
theorem L_180_17 : rd_look 180 17 = some (29, .imul, 1, []) := rd_look_of LL_180 rfl
theorem L_180_18 : rd_look 180 18 = some (30, .iload_n 2, 1, []) := rd_look_of LL_180 rfl
theorem L_180_19 : rd_look 180 19 = some (31, .iadd, 1, []) := rd_look_of LL_180 rfl
theorem L_180_20 : rd_look 180 20 = some (32, .iaload, 1, []) := rd_look_of LL_180 rfl
theorem L_180_21 : rd_look 180 21 = some (33, .goto 4, 3, [23]) := rd_look_of LL_180 rfl
theorem L_180_22 : rd_look 180 22 = some (36, .iconst (-1), 1, []) := rd_look_of LL_180 rfl
theorem L_180_23 : rd_look 180 23 = some (37, .ireturn, 1, []) := rd_look_of LL_180 rfl
theorem L_181_0 : rd_look 181 0 = some (0, .iload_n 1, 1, []) := rd_look_of LL_181 rfl
theorem L_181_1 : rd_look 181 1 = some (1, .iconst 0, 1, []) := rd_look_of LL_181 rfl
theorem L_181_2 : rd_look 181 2 = some (2, .bipush 9, 2, []) := rd_look_of LL_181 rfl
theorem L_181_3 : rd_look 181 3 = some (4, .invokestatic 133, 3, [137, 3, 158]) := rd_look_of LL_181 rfl
theorem L_181_4 : rd_look 181 4 = some (7, .istore 5, 2, []) := rd_look_of LL_181 rfl
theorem L_181_5 : rd_look 181 5 = some (9, .iload_n 1, 1, []) := rd_look_of LL_181 rfl
theorem L_181_6 : rd_look 181 6 = some (10, .tableswitch 288 0 9 #[54, 66, 96, 125, 154, 166, 207, 237, 249, 54], 54, [125, 7, 13, 28, 43, 58, 64, 84, 99, 105, 7]) := rd_look_of LL_181 rfl
theorem L_181_7 : rd_look 181 7 = some (64, .iload_n 2, 1, []) := rd_look_of LL_181 rfl
theorem L_181_8 : rd_look 181 8 = some (65, .iconst 0, 1, []) := rd_look_of LL_181 rfl
theorem L_181_9 : rd_look 181 9 = some (66, .bipush 7, 2, []) := rd_look_of LL_181 rfl
theorem L_181_10 : rd_look 181 10 = some (68, .invokestatic 133, 3, [137, 3, 158]) := rd_look_of LL_181 rfl
theorem L_181_11 : rd_look 181 11 = some (71, .istore 5, 2, []) := rd_look_of LL_181 rfl
theorem L_181_12 : rd_look 181 12 = some (73, .goto 225, 3, [125]) := rd_look_of LL_181 rfl
theorem L_181_13 : rd_look 181 13 = some (76, .iload_n 2, 1, []) := rd_look_of LL_181 rfl
theorem L_181_14 : rd_look 181 14 = some (77, .iconst 0, 1, []) := rd_look_of LL_181 rfl
theorem L_181_15 : rd_look 181 15 = some (78, .bipush 7, 2, []) := rd_look_of LL_181 rfl
theorem L_181_16 : rd_look 181 16 = some (80, .invokestatic 133, 3, [137, 3, 158]) := rd_look_of LL_181 rfl
theorem L_181_17 : rd_look 181 17 = some (83, .ifCond .eq 17, 3, [25]) := rd_look_of LL_181 rfl
theorem L_181_18 : rd_look 181 18 = some (86, .iload_n 3, 1, []) := rd_look_of LL_181 rfl
theorem L_181_19 : rd_look 181 19 = some (87, .iconst 0, 1, []) := rd_look_of LL_181 rfl
theorem L_181_20 : rd_look 181 20 = some (88, .bipush 7, 2, []) := rd_look_of LL_181 rfl
theorem L_181_21 : rd_look 181 21 = some (90, .invokestatic 133, 3, [137, 3, 158]) := rd_look_of LL_181 rfl
theorem L_181_22 : rd_look 181 22 = some (93, .ifCond .eq 7, 3, [25]) := rd_look_of LL_181 rfl
theorem L_181_23 : rd_look 181 23 = some (96, .iconst 1, 1, []) := rd_look_of LL_181 rfl
theorem L_181_24 : rd_look 181 24 = some (97, .goto 4, 3, [26]) := rd_look_of LL_181 rfl
theorem L_181_25 : rd_look 181 25 = some (100, .iconst 0, 1, []) := rd_look_of LL_181 rfl
theorem L_181_26 : rd_look 181 26 = some (101, .istore 5, 2, []) := rd_look_of LL_181 rfl
theorem L_181_27 : rd_look 181 27 = some (103, .goto 195, 3, [125]) := rd_look_of LL_181 rfl
theorem L_181_28 : rd_look 181 28 = some (106, .iload_n 2, 1, []) := rd_look_of LL_181 rfl
theorem L_181_29 : rd_look 181 29 = some (107, .iconst 0, 1, []) := rd_look_of LL_181 rfl
theorem L_181_30 : rd_look 181 30 = some (108, .iconst 3, 1, []) := rd_look_of LL_181 rfl
theorem L_181_31 : rd_look 181 31 = some (109, .invokestatic 133, 3, [137, 3, 158]) := rd_look_of LL_181 rfl
theorem L_181_32 : rd_look 181 32 = some (112, .ifCond .eq 17, 3, [40]) := rd_look_of LL_181 rfl
theorem L_181_33 : rd_look 181 33 = some (115, .iload_n 3, 1, []) := rd_look_of LL_181 rfl
theorem L_181_34 : rd_look 181 34 = some (116, .iconst (-1), 1, []) := rd_look_of LL_181 rfl
theorem L_181_35 : rd_look 181 35 = some (117, .bipush 23, 2, []) := rd_look_of LL_181 rfl
theorem L_181_36 : rd_look 181 36 = some (119, .invokestatic 133, 3, [137, 3, 158]) := rd_look_of LL_181 rfl
theorem L_181_37 : rd_look 181 37 = some (122, .ifCond .eq 7, 3, [40]) := rd_look_of LL_181 rfl
theorem L_181_38 : rd_look 181 38 = some (125, .iconst 1, 1, []) := rd_look_of LL_181 rfl
theorem L_181_39 : rd_look 181 39 = some (126, .goto 4, 3, [41]) := rd_look_of LL_181 rfl
theorem L_181_40 : rd_look 181 40 = some (129, .iconst 0, 1, []) := rd_look_of LL_181 rfl
theorem L_181_41 : rd_look 181 41 = some (130, .istore 5, 2, []) := rd_look_of LL_181 rfl
theorem L_181_42 : rd_look 181 42 = some (132, .goto 166, 3, [125]) := rd_look_of LL_181 rfl
theorem L_181_43 : rd_look 181 43 = some (135, .iload_n 2, 1, []) := rd_look_of LL_181 rfl
theorem L_181_44 : rd_look 181 44 = some (136, .iconst 0, 1, []) := rd_look_of LL_181 rfl
theorem L_181_45 : rd_look 181 45 = some (137, .iconst 3, 1, []) := rd_look_of LL_181 rfl
theorem L_181_46 : rd_look 181 46 = some (138, .invokestatic 133, 3, [137, 3, 158]) := rd_look_of LL_181 rfl
theorem L_181_47 : rd_look 181 47 = some (141, .ifCond .eq 17, 3, [55]) := rd_look_of LL_181 rfl
theorem L_181_48 : rd_look 181 48 = some (144, .iload_n 3, 1, []) := rd_look_of LL_181 rfl
theorem L_181_49 : rd_look 181 49 = some (145, .iconst 0, 1, []) := rd_look_of LL_181 rfl
theorem L_181_50 : rd_look 181 50 = some (146, .bipush 7, 2, []) := rd_look_of LL_181 rfl
theorem L_181_51 : rd_look 181 51 = some (148, .invokestatic 133, 3, [137, 3, 158]) := rd_look_of LL_181 rfl
theorem L_181_52 : rd_look 181 52 = some (151, .ifCond .eq 7, 3, [55]) := rd_look_of LL_181 rfl
theorem L_181_53 : rd_look 181 53 = some (154, .iconst 1, 1, []) := rd_look_of LL_181 rfl
theorem L_181_54 : rd_look 181 54 = some (155, .goto 4, 3, [56]) := rd_look_of LL_181 rfl
theorem L_181_55 : rd_look 181 55 = some (158, .iconst 0, 1, []) := rd_look_of LL_181 rfl
theorem L_181_56 : rd_look 181 56 = some (159, .istore 5, 2, []) := rd_look_of LL_181 rfl
theorem L_181_57 : rd_look 181 57 = some (161, .goto 137, 3, [125]) := rd_look_of LL_181 rfl
theorem L_181_58 : rd_look 181 58 = some (164, .iload_n 2, 1, []) := rd_look_of LL_181 rfl
theorem L_181_59 : rd_look 181 59 = some (165, .iconst 0, 1, []) := rd_look_of LL_181 rfl
theorem L_181_60 : rd_look 181 60 = some (166, .bipush 60, 2, []) := rd_look_of LL_181 rfl
theorem L_181_61 : rd_look 181 61 = some (168, .invokestatic 133, 3, [137, 3, 158]) := rd_look_of LL_181 rfl
theorem L_181_62 : rd_look 181 62 = some (171, .istore 5, 2, []) := rd_look_of LL_181 rfl
theorem L_181_63 : rd_look 181 63 = some (173, .goto 125, 3, [125]) := rd_look_of LL_181 rfl
theorem L_181_64 : rd_look 181 64 = some (176, .iload_n 2, 1, []) := rd_look_of LL_181 rfl
theorem L_181_65 : rd_look 181 65 = some (177, .iconst 0, 1, []) := rd_look_of LL_181 rfl
theorem L_181_66 : rd_look 181 66 = some (178, .bipush 7, 2, []) := rd_look_of LL_181 rfl
theorem L_181_67 : rd_look 181 67 = some (180, .invokestatic 133, 3, [137, 3, 158]) := rd_look_of LL_181 rfl
theorem L_181_68 : rd_look 181 68 = some (183, .ifCond .eq 28, 3, [81]) := rd_look_of LL_181 rfl
theorem L_181_69 : rd_look 181 69 = some (186, .iload_n 3, 1, []) := rd_look_of LL_181 rfl
theorem L_181_70 : rd_look 181 70 = some (187, .iconst 0, 1, []) := rd_look_of LL_181 rfl
theorem L_181_71 : rd_look 181 71 = some (188, .bipush 7, 2, []) := rd_look_of LL_181 rfl
theorem L_181_72 : rd_look 181 72 = some (190, .invokestatic 133, 3, [137, 3, 158]) := rd_look_of LL_181 rfl
theorem L_181_73 : rd_look 181 73 = some (193, .ifCond .eq 18, 3, [81]) := rd_look_of LL_181 rfl
theorem L_181_74 : rd_look 181 74 = some (196, .iload 4, 2, []) := rd_look_of LL_181 rfl
theorem L_181_75 : rd_look 181 75 = some (198, .iconst 0, 1, []) := rd_look_of LL_181 rfl
theorem L_181_76 : rd_look 181 76 = some (199, .bipush 60, 2, []) := rd_look_of LL_181 rfl
theorem L_181_77 : rd_look 181 77 = some (201, .invokestatic 133, 3, [137, 3, 158]) := rd_look_of LL_181 rfl
theorem L_181_78 : rd_look 181 78 = some (204, .ifCond .eq 7, 3, [81]) := rd_look_of LL_181 rfl
theorem L_181_79 : rd_look 181 79 = some (207, .iconst 1, 1, []) := rd_look_of LL_181 rfl
theorem L_181_80 : rd_look 181 80 = some (208, .goto 4, 3, [82]) := rd_look_of LL_181 rfl
theorem L_181_81 : rd_look 181 81 = some (211, .iconst 0, 1, []) := rd_look_of LL_181 rfl
theorem L_181_82 : rd_look 181 82 = some (212, .istore 5, 2, []) := rd_look_of LL_181 rfl
theorem L_181_83 : rd_look 181 83 = some (214, .goto 84, 3, [125]) := rd_look_of LL_181 rfl
theorem L_181_84 : rd_look 181 84 = some (217, .iload_n 2, 1, []) := rd_look_of LL_181 rfl
theorem L_181_85 : rd_look 181 85 = some (218, .iconst 1, 1, []) := rd_look_of LL_181 rfl
theorem L_181_86 : rd_look 181 86 = some (219, .bipush 59, 2, []) := rd_look_of LL_181 rfl
theorem L_181_87 : rd_look 181 87 = some (221, .invokestatic 133, 3, [137, 3, 158]) := rd_look_of LL_181 rfl
theorem L_181_88 : rd_look 181 88 = some (224, .ifCond .eq 17, 3, [96]) := rd_look_of LL_181 rfl
theorem L_181_89 : rd_look 181 89 = some (227, .iload_n 3, 1, []) := rd_look_of LL_181 rfl
theorem L_181_90 : rd_look 181 90 = some (228, .iconst 0, 1, []) := rd_look_of LL_181 rfl
theorem L_181_91 : rd_look 181 91 = some (229, .bipush 60, 2, []) := rd_look_of LL_181 rfl
theorem L_181_92 : rd_look 181 92 = some (231, .invokestatic 133, 3, [137, 3, 158]) := rd_look_of LL_181 rfl
theorem L_181_93 : rd_look 181 93 = some (234, .ifCond .eq 7, 3, [96]) := rd_look_of LL_181 rfl
theorem L_181_94 : rd_look 181 94 = some (237, .iconst 1, 1, []) := rd_look_of LL_181 rfl
theorem L_181_95 : rd_look 181 95 = some (238, .goto 4, 3, [97]) := rd_look_of LL_181 rfl
theorem L_181_96 : rd_look 181 96 = some (241, .iconst 0, 1, []) := rd_look_of LL_181 rfl
theorem L_181_97 : rd_look 181 97 = some (242, .istore 5, 2, []) := rd_look_of LL_181 rfl
theorem L_181_98 : rd_look 181 98 = some (244, .goto 54, 3, [125]) := rd_look_of LL_181 rfl
theorem L_181_99 : rd_look 181 99 = some (247, .iload_n 2, 1, []) := rd_look_of LL_181 rfl
theorem L_181_100 : rd_look 181 100 = some (248, .iconst 0, 1, []) := rd_look_of LL_181 rfl
theorem L_181_101 : rd_look 181 101 = some (249, .bipush 11, 2, []) := rd_look_of LL_181 rfl
theorem L_181_102 : rd_look 181 102 = some (251, .invokestatic 133, 3, [137, 3, 158]) := rd_look_of LL_181 rfl
theorem L_181_103 : rd_look 181 103 = some (254, .istore 5, 2, []) := rd_look_of LL_181 rfl
theorem L_181_104 : rd_look 181 104 = some (256, .goto 42, 3, [125]) := rd_look_of LL_181 rfl
theorem L_181_105 : rd_look 181 105 = some (259, .iload_n 2, 1, []) := rd_look_of LL_181 rfl
theorem L_181_106 : rd_look 181 106 = some (260, .iconst 0, 1, []) := rd_look_of LL_181 rfl
theorem L_181_107 : rd_look 181 107 = some (261, .iconst 3, 1, []) := rd_look_of LL_181 rfl
theorem L_181_108 : rd_look 181 108 = some (262, .invokestatic 133, 3, [137, 3, 158]) := rd_look_of LL_181 rfl
theorem L_181_109 : rd_look 181 109 = some (265, .ifCond .eq 27, 3, [122]) := rd_look_of LL_181 rfl
theorem L_181_110 : rd_look 181 110 = some (268, .iload_n 3, 1, []) := rd_look_of LL_181 rfl
theorem L_181_111 : rd_look 181 111 = some (269, .iconst 0, 1, []) := rd_look_of LL_181 rfl
theorem L_181_112 : rd_look 181 112 = some (270, .iconst 3, 1, []) := rd_look_of LL_181 rfl
theorem L_181_113 : rd_look 181 113 = some (271, .invokestatic 133, 3, [137, 3, 158]) := rd_look_of LL_181 rfl
theorem L_181_114 : rd_look 181 114 = some (274, .ifCond .eq 18, 3, [122]) := rd_look_of LL_181 rfl
theorem L_181_115 : rd_look 181 115 = some (277, .iload 4, 2, []) := rd_look_of LL_181 rfl
theorem L_181_116 : rd_look 181 116 = some (279, .iconst 0, 1, []) := rd_look_of LL_181 rfl
theorem L_181_117 : rd_look 181 117 = some (280, .bipush 7, 2, []) := rd_look_of LL_181 rfl
theorem L_181_118 : rd_look 181 118 = some (282, .invokestatic 133, 3, [137, 3, 158]) := rd_look_of LL_181 rfl
theorem L_181_119 : rd_look 181 119 = some (285, .ifCond .eq 7, 3, [122]) := rd_look_of LL_181 rfl
theorem L_181_120 : rd_look 181 120 = some (288, .iconst 1, 1, []) := rd_look_of LL_181 rfl
theorem L_181_121 : rd_look 181 121 = some (289, .goto 4, 3, [123]) := rd_look_of LL_181 rfl
theorem L_181_122 : rd_look 181 122 = some (292, .iconst 0, 1, []) := rd_look_of LL_181 rfl
theorem L_181_123 : rd_look 181 123 = some (293, .istore 5, 2, []) := rd_look_of LL_181 rfl
theorem L_181_124 : rd_look 181 124 = some (295, .goto 3, 3, [125]) := rd_look_of LL_181 rfl
theorem L_181_125 : rd_look 181 125 = some (298, .iload 5, 2, []) := rd_look_of LL_181 rfl
theorem L_181_126 : rd_look 181 126 = some (300, .ifCond .ne 5, 3, [129]) := rd_look_of LL_181 rfl
theorem L_181_127 : rd_look 181 127 = some (303, .iconst (-1), 1, []) := rd_look_of LL_181 rfl
theorem L_181_128 : rd_look 181 128 = some (304, .ireturn, 1, []) := rd_look_of LL_181 rfl
theorem L_181_129 : rd_look 181 129 = some (305, .aload_n 0, 1, []) := rd_look_of LL_181 rfl
theorem L_181_130 : rd_look 181 130 = some (306, .getfield 257, 3, [12, 41, 154]) := rd_look_of LL_181 rfl
theorem L_181_131 : rd_look 181 131 = some (309, .bipush 60, 2, []) := rd_look_of LL_181 rfl
theorem L_181_132 : rd_look 181 132 = some (311, .if_icmp .ne 6, 3, [135]) := rd_look_of LL_181 rfl
theorem L_181_133 : rd_look 181 133 = some (314, .bipush (-3), 2, []) := rd_look_of LL_181 rfl
theorem L_181_134 : rd_look 181 134 = some (316, .ireturn, 1, []) := rd_look_of LL_181 rfl
theorem L_181_135 : rd_look 181 135 = some (317, .aload_n 0, 1, []) := rd_look_of LL_181 rfl
theorem L_181_136 : rd_look 181 136 = some (318, .getfield 95, 3, [12, 42, 130]) := rd_look_of LL_181 rfl
theorem L_181_137 : rd_look 181 137 = some (321, .aload_n 0, 1, []) := rd_look_of LL_181 rfl
theorem L_181_138 : rd_look 181 138 = some (322, .getfield 257, 3, [12, 41, 154]) := rd_look_of LL_181 rfl
theorem L_181_139 : rd_look 181 139 = some (325, .iload_n 1, 1, []) := rd_look_of LL_181 rfl
theorem L_181_140 : rd_look 181 140 = some (326, .iastore, 1, []) := rd_look_of LL_181 rfl
theorem L_181_141 : rd_look 181 141 = some (327, .aload_n 0, 1, []) := rd_look_of LL_181 rfl
theorem L_181_142 : rd_look 181 142 = some (328, .getfield 98, 3, [12, 43, 131]) := rd_look_of LL_181 rfl
theorem L_181_143 : rd_look 181 143 = some (331, .aload_n 0, 1, []) := rd_look_of LL_181 rfl
theorem L_181_144 : rd_look 181 144 = some (332, .getfield 257, 3, [12, 41, 154]) := rd_look_of LL_181 rfl
theorem L_181_145 : rd_look 181 145 = some (335, .iload_n 2, 1, []) := rd_look_of LL_181 rfl
theorem L_181_146 : rd_look 181 146 = some (336, .iastore, 1, []) := rd_look_of LL_181 rfl
theorem L_181_147 : rd_look 181 147 = some (337, .aload_n 0, 1, []) := rd_look_of LL_181 rfl
theorem L_181_148 : rd_look 181 148 = some (338, .getfield 101, 3, [12, 44, 132]) := rd_look_of LL_181 rfl
theorem L_181_149 : rd_look 181 149 = some (341, .aload_n 0, 1, []) := rd_look_of LL_181 rfl
theorem L_181_150 : rd_look 181 150 = some (342, .getfield 257, 3, [12, 41, 154]) := rd_look_of LL_181 rfl
theorem L_181_151 : rd_look 181 151 = some (345, .iload_n 3, 1, []) := rd_look_of LL_181 rfl
theorem L_181_152 : rd_look 181 152 = some (346, .iastore, 1, []) := rd_look_of LL_181 rfl
theorem L_181_153 : rd_look 181 153 = some (347, .aload_n 0, 1, []) := rd_look_of LL_181 rfl
theorem L_181_154 : rd_look 181 154 = some (348, .getfield 104, 3, [12, 45, 133]) := rd_look_of LL_181 rfl
theorem L_181_155 : rd_look 181 155 = some (351, .aload_n 0, 1, []) := rd_look_of LL_181 rfl
theorem L_181_156 : rd_look 181 156 = some (352, .getfield 257, 3, [12, 41, 154]) := rd_look_of LL_181 rfl
theorem L_181_157 : rd_look 181 157 = some (355, .iload 4, 2, []) := rd_look_of LL_181 rfl
theorem L_181_158 : rd_look 181 158 = some (357, .iastore, 1, []) := rd_look_of LL_181 rfl
theorem L_181_159 : rd_look 181 159 = some (358, .aload_n 0, 1, []) := rd_look_of LL_181 rfl
theorem L_181_160 : rd_look 181 160 = some (359, .dup, 1, []) := rd_look_of LL_181 rfl
theorem L_181_161 : rd_look 181 161 = some (360, .getfield 257, 3, [12, 41, 154]) := rd_look_of LL_181 rfl
theorem L_181_162 : rd_look 181 162 = some (363, .iconst 1, 1, []) := rd_look_of LL_181 rfl
theorem L_181_163 : rd_look 181 163 = some (364, .iadd, 1, []) := rd_look_of LL_181 rfl
theorem L_181_164 : rd_look 181 164 = some (365, .putfield 257, 3, [12, 41, 154, 0]) := rd_look_of LL_181 rfl
theorem L_181_165 : rd_look 181 165 = some (368, .aload_n 0, 1, []) := rd_look_of LL_181 rfl
theorem L_181_166 : rd_look 181 166 = some (369, .getfield 257, 3, [12, 41, 154]) := rd_look_of LL_181 rfl
theorem L_181_167 : rd_look 181 167 = some (372, .iconst 1, 1, []) := rd_look_of LL_181 rfl
theorem L_181_168 : rd_look 181 168 = some (373, .isub, 1, []) := rd_look_of LL_181 rfl
theorem L_181_169 : rd_look 181 169 = some (374, .ireturn, 1, []) := rd_look_of LL_181 rfl
theorem L_182_0 : rd_look 182 0 = some (0, .aload_n 0, 1, []) := rd_look_of LL_182 rfl
theorem L_182_1 : rd_look 182 1 = some (1, .getfield 257, 3, [12, 41, 154]) := rd_look_of LL_182 rfl
theorem L_182_2 : rd_look 182 2 = some (4, .istore_n 1, 1, []) := rd_look_of LL_182 rfl
theorem L_182_3 : rd_look 182 3 = some (5, .aload_n 0, 1, []) := rd_look_of LL_182 rfl
theorem L_182_4 : rd_look 182 4 = some (6, .iconst 0, 1, []) := rd_look_of LL_182 rfl
theorem L_182_5 : rd_look 182 5 = some (7, .putfield 257, 3, [12, 41, 154, 0]) := rd_look_of LL_182 rfl
theorem L_182_6 : rd_look 182 6 = some (10, .iload_n 1, 1, []) := rd_look_of LL_182 rfl
theorem L_182_7 : rd_look 182 7 = some (11, .ireturn, 1, []) := rd_look_of LL_182 rfl
theorem L_183_0 : rd_look 183 0 = some (0, .iload_n 2, 1, []) := rd_look_of LL_183 rfl
theorem L_183_1 : rd_look 183 1 = some (1, .aload_n 0, 1, []) := rd_look_of LL_183 rfl
theorem L_183_2 : rd_look 183 2 = some (2, .getfield 16, 3, [12, 3, 104]) := rd_look_of LL_183 rfl
theorem L_183_3 : rd_look 183 3 = some (5, .iload_n 1, 1, []) := rd_look_of LL_183 rfl
theorem L_183_4 : rd_look 183 4 = some (6, .iaload, 1, []) := rd_look_of LL_183 rfl
theorem L_183_5 : rd_look 183 5 = some (7, .if_icmp .lt 5, 3, [8]) := rd_look_of LL_183 rfl
theorem L_183_6 : rd_look 183 6 = some (10, .iconst 0, 1, []) := rd_look_of LL_183 rfl
theorem L_183_7 : rd_look 183 7 = some (11, .ireturn, 1, []) := rd_look_of LL_183 rfl
theorem L_183_8 : rd_look 183 8 = some (12, .aload_n 0, 1, []) := rd_look_of LL_183 rfl
theorem L_183_9 : rd_look 183 9 = some (13, .getfield 19, 3, [12, 4, 105]) := rd_look_of LL_183 rfl
theorem L_183_10 : rd_look 183 10 = some (16, .iload_n 1, 1, []) := rd_look_of LL_183 rfl
theorem L_183_11 : rd_look 183 11 = some (17, .iaload, 1, []) := rd_look_of LL_183 rfl
theorem L_183_12 : rd_look 183 12 = some (18, .iload_n 2, 1, []) := rd_look_of LL_183 rfl
theorem L_183_13 : rd_look 183 13 = some (19, .ishr, 1, []) := rd_look_of LL_183 rfl
theorem L_183_14 : rd_look 183 14 = some (20, .iconst 1, 1, []) := rd_look_of LL_183 rfl
theorem L_183_15 : rd_look 183 15 = some (21, .iand, 1, []) := rd_look_of LL_183 rfl
theorem L_183_16 : rd_look 183 16 = some (22, .iconst 1, 1, []) := rd_look_of LL_183 rfl
theorem L_183_17 : rd_look 183 17 = some (23, .if_icmp .ne 25, 3, [32]) := rd_look_of LL_183 rfl
theorem L_183_18 : rd_look 183 18 = some (26, .aload_n 0, 1, []) := rd_look_of LL_183 rfl
theorem L_183_19 : rd_look 183 19 = some (27, .dup, 1, []) := rd_look_of LL_183 rfl
theorem L_183_20 : rd_look 183 20 = some (28, .getfield 260, 3, [12, 57, 155]) := rd_look_of LL_183 rfl
theorem L_183_21 : rd_look 183 21 = some (31, .iconst 1, 1, []) := rd_look_of LL_183 rfl
theorem L_183_22 : rd_look 183 22 = some (32, .iadd, 1, []) := rd_look_of LL_183 rfl
theorem L_183_23 : rd_look 183 23 = some (33, .putfield 260, 3, [12, 57, 155, 0]) := rd_look_of LL_183 rfl
theorem L_183_24 : rd_look 183 24 = some (36, .aload_n 0, 1, []) := rd_look_of LL_183 rfl
theorem L_183_25 : rd_look 183 25 = some (37, .getfield 110, 3, [12, 47, 135]) := rd_look_of LL_183 rfl
theorem L_183_26 : rd_look 183 26 = some (40, .aload_n 0, 1, []) := rd_look_of LL_183 rfl
theorem L_183_27 : rd_look 183 27 = some (41, .getfield 260, 3, [12, 57, 155]) := rd_look_of LL_183 rfl
theorem L_183_28 : rd_look 183 28 = some (44, .iconst 1, 1, []) := rd_look_of LL_183 rfl
theorem L_183_29 : rd_look 183 29 = some (45, .isub, 1, []) := rd_look_of LL_183 rfl
theorem L_183_30 : rd_look 183 30 = some (46, .iaload, 1, []) := rd_look_of LL_183 rfl
theorem L_183_31 : rd_look 183 31 = some (47, .ireturn, 1, []) := rd_look_of LL_183 rfl
theorem L_183_32 : rd_look 183 32 = some (48, .aload_n 0, 1, []) := rd_look_of LL_183 rfl
theorem L_183_33 : rd_look 183 33 = some (49, .dup, 1, []) := rd_look_of LL_183 rfl
theorem L_183_34 : rd_look 183 34 = some (50, .getfield 263, 3, [12, 56, 156]) := rd_look_of LL_183 rfl
theorem L_183_35 : rd_look 183 35 = some (53, .iconst 1, 1, []) := rd_look_of LL_183 rfl
theorem L_183_36 : rd_look 183 36 = some (54, .iadd, 1, []) := rd_look_of LL_183 rfl
theorem L_183_37 : rd_look 183 37 = some (55, .putfield 263, 3, [12, 56, 156, 0]) := rd_look_of LL_183 rfl
theorem L_183_38 : rd_look 183 38 = some (58, .aload_n 0, 1, []) := rd_look_of LL_183 rfl
theorem L_183_39 : rd_look 183 39 = some (59, .getfield 107, 3, [12, 46, 134]) := rd_look_of LL_183 rfl
theorem L_183_40 : rd_look 183 40 = some (62, .aload_n 0, 1, []) := rd_look_of LL_183 rfl
theorem L_183_41 : rd_look 183 41 = some (63, .getfield 263, 3, [12, 56, 156]) := rd_look_of LL_183 rfl
theorem L_183_42 : rd_look 183 42 = some (66, .iconst 1, 1, []) := rd_look_of LL_183 rfl
theorem L_183_43 : rd_look 183 43 = some (67, .isub, 1, []) := rd_look_of LL_183 rfl
theorem L_183_44 : rd_look 183 44 = some (68, .iaload, 1, []) := rd_look_of LL_183 rfl
theorem L_183_45 : rd_look 183 45 = some (69, .ireturn, 1, []) := rd_look_of LL_183 rfl
theorem L_184_0 : rd_look 184 0 = some (0, .aload_n 0, 1, []) := rd_look_of LL_184 rfl
theorem L_184_1 : rd_look 184 1 = some (1, .getfield 110, 3, [12, 47, 135]) := rd_look_of LL_184 rfl
theorem L_184_2 : rd_look 184 2 = some (4, .iload_n 1, 1, []) := rd_look_of LL_184 rfl
theorem L_184_3 : rd_look 184 3 = some (5, .iaload, 1, []) := rd_look_of LL_184 rfl
theorem L_184_4 : rd_look 184 4 = some (6, .istore_n 3, 1, []) := rd_look_of LL_184 rfl
theorem L_184_5 : rd_look 184 5 = some (7, .iload_n 3, 1, []) := rd_look_of LL_184 rfl
theorem L_184_6 : rd_look 184 6 = some (8, .ifCond .ge 6, 3, [9]) := rd_look_of LL_184 rfl
theorem L_184_7 : rd_look 184 7 = some (11, .bipush 9, 2, []) := rd_look_of LL_184 rfl
theorem L_184_8 : rd_look 184 8 = some (13, .ireturn, 1, []) := rd_look_of LL_184 rfl
theorem L_184_9 : rd_look 184 9 = some (14, .aload_n 0, 1, []) := rd_look_of LL_184 rfl
theorem L_184_10 : rd_look 184 10 = some (15, .iload_n 3, 1, []) := rd_look_of LL_184 rfl
theorem L_184_11 : rd_look 184 11 = some (16, .iload_n 2, 1, []) := rd_look_of LL_184 rfl
theorem L_184_12 : rd_look 184 12 = some (17, .invokevirtual 161, 3, [145, 2, 164, 12]) := rd_look_of LL_184 rfl
theorem L_184_13 : rd_look 184 13 = some (20, .ifCond .ne 6, 3, [16]) := rd_look_of LL_184 rfl
theorem L_184_14 : rd_look 184 14 = some (23, .bipush 10, 2, []) := rd_look_of LL_184 rfl
theorem L_184_15 : rd_look 184 15 = some (25, .ireturn, 1, []) := rd_look_of LL_184 rfl
theorem L_184_16 : rd_look 184 16 = some (26, .aload_n 0, 1, []) := rd_look_of LL_184 rfl
theorem L_184_17 : rd_look 184 17 = some (27, .iload_n 3, 1, []) := rd_look_of LL_184 rfl
theorem L_184_18 : rd_look 184 18 = some (28, .iload_n 2, 1, []) := rd_look_of LL_184 rfl
theorem L_184_19 : rd_look 184 19 = some (29, .invokevirtual 148, 3, [146, 2, 161, 12]) := rd_look_of LL_184 rfl
theorem L_184_20 : rd_look 184 20 = some (32, .istore 4, 2, []) := rd_look_of LL_184 rfl
theorem L_184_21 : rd_look 184 21 = some (34, .aload_n 0, 1, []) := rd_look_of LL_184 rfl
theorem L_184_22 : rd_look 184 22 = some (35, .iconst 0, 1, []) := rd_look_of LL_184 rfl
theorem L_184_23 : rd_look 184 23 = some (36, .putfield 263, 3, [12, 56, 156, 0]) := rd_look_of LL_184 rfl
theorem L_184_24 : rd_look 184 24 = some (39, .aload_n 0, 1, []) := rd_look_of LL_184 rfl
theorem L_184_25 : rd_look 184 25 = some (40, .iconst 0, 1, []) := rd_look_of LL_184 rfl
theorem L_184_26 : rd_look 184 26 = some (41, .putfield 260, 3, [12, 57, 155, 0]) := rd_look_of LL_184 rfl
theorem L_184_27 : rd_look 184 27 = some (44, .aload_n 0, 1, []) := rd_look_of LL_184 rfl
theorem L_184_28 : rd_look 184 28 = some (45, .iload 4, 2, []) := rd_look_of LL_184 rfl
theorem L_184_29 : rd_look 184 29 = some (47, .iconst 0, 1, []) := rd_look_of LL_184 rfl
theorem L_184_30 : rd_look 184 30 = some (48, .invokevirtual 266, 3, [183, 2, 183, 12]) := rd_look_of LL_184 rfl
theorem L_184_31 : rd_look 184 31 = some (51, .istore 5, 2, []) := rd_look_of LL_184 rfl
theorem L_184_32 : rd_look 184 32 = some (53, .aload_n 0, 1, []) := rd_look_of LL_184 rfl
theorem L_184_33 : rd_look 184 33 = some (54, .iload 4, 2, []) := rd_look_of LL_184 rfl
theorem L_184_34 : rd_look 184 34 = some (56, .iconst 1, 1, []) := rd_look_of LL_184 rfl
theorem L_184_35 : rd_look 184 35 = some (57, .invokevirtual 266, 3, [183, 2, 183, 12]) := rd_look_of LL_184 rfl
theorem L_184_36 : rd_look 184 36 = some (60, .istore 6, 2, []) := rd_look_of LL_184 rfl
theorem L_184_37 : rd_look 184 37 = some (62, .aload_n 0, 1, []) := rd_look_of LL_184 rfl
theorem L_184_38 : rd_look 184 38 = some (63, .iload 4, 2, []) := rd_look_of LL_184 rfl
theorem L_184_39 : rd_look 184 39 = some (65, .iconst 2, 1, []) := rd_look_of LL_184 rfl
theorem L_184_40 : rd_look 184 40 = some (66, .invokevirtual 266, 3, [183, 2, 183, 12]) := rd_look_of LL_184 rfl
theorem L_184_41 : rd_look 184 41 = some (69, .istore 7, 2, []) := rd_look_of LL_184 rfl
theorem L_184_42 : rd_look 184 42 = some (71, .aload_n 0, 1, []) := rd_look_of LL_184 rfl
theorem L_184_43 : rd_look 184 43 = some (72, .iload_n 3, 1, []) := rd_look_of LL_184 rfl
theorem L_184_44 : rd_look 184 44 = some (73, .iload_n 2, 1, []) := rd_look_of LL_184 rfl
theorem L_184_45 : rd_look 184 45 = some (74, .iload 5, 2, []) := rd_look_of LL_184 rfl
theorem L_184_46 : rd_look 184 46 = some (76, .iload 6, 2, []) := rd_look_of LL_184 rfl
theorem L_184_47 : rd_look 184 47 = some (78, .iload 7, 2, []) := rd_look_of LL_184 rfl
theorem L_184_48 : rd_look 184 48 = some (80, .invokevirtual 225, 3, [163, 5, 176, 12]) := rd_look_of LL_184 rfl
theorem L_184_49 : rd_look 184 49 = some (83, .aload_n 0, 1, []) := rd_look_of LL_184 rfl
theorem L_184_50 : rd_look 184 50 = some (84, .getfield 181, 3, [12, 30, 146]) := rd_look_of LL_184 rfl
theorem L_184_51 : rd_look 184 51 = some (87, .ifCond .lt 8, 3, [55]) := rd_look_of LL_184 rfl
theorem L_184_52 : rd_look 184 52 = some (90, .aload_n 0, 1, []) := rd_look_of LL_184 rfl
theorem L_184_53 : rd_look 184 53 = some (91, .getfield 181, 3, [12, 30, 146]) := rd_look_of LL_184 rfl
theorem L_184_54 : rd_look 184 54 = some (94, .ireturn, 1, []) := rd_look_of LL_184 rfl
theorem L_184_55 : rd_look 184 55 = some (95, .aload_n 0, 1, []) := rd_look_of LL_184 rfl
theorem L_184_56 : rd_look 184 56 = some (96, .getfield 22, 3, [12, 5, 106]) := rd_look_of LL_184 rfl
theorem L_184_57 : rd_look 184 57 = some (99, .iload 4, 2, []) := rd_look_of LL_184 rfl
theorem L_184_58 : rd_look 184 58 = some (101, .iaload, 1, []) := rd_look_of LL_184 rfl
theorem L_184_59 : rd_look 184 59 = some (102, .iconst 1, 1, []) := rd_look_of LL_184 rfl
theorem L_184_60 : rd_look 184 60 = some (103, .if_icmp .ne 17, 3, [68]) := rd_look_of LL_184 rfl
theorem L_184_61 : rd_look 184 61 = some (106, .aload_n 0, 1, []) := rd_look_of LL_184 rfl
theorem L_184_62 : rd_look 184 62 = some (107, .getfield 107, 3, [12, 46, 134]) := rd_look_of LL_184 rfl
theorem L_184_63 : rd_look 184 63 = some (110, .bipush 7, 2, []) := rd_look_of LL_184 rfl
theorem L_184_64 : rd_look 184 64 = some (112, .aload_n 0, 1, []) := rd_look_of LL_184 rfl
theorem L_184_65 : rd_look 184 65 = some (113, .getfield 178, 3, [12, 29, 145]) := rd_look_of LL_184 rfl
theorem L_184_66 : rd_look 184 66 = some (116, .iastore, 1, []) := rd_look_of LL_184 rfl
theorem L_184_67 : rd_look 184 67 = some (117, .goto 24, 3, [80]) := rd_look_of LL_184 rfl
theorem L_184_68 : rd_look 184 68 = some (120, .aload_n 0, 1, []) := rd_look_of LL_184 rfl
theorem L_184_69 : rd_look 184 69 = some (121, .getfield 22, 3, [12, 5, 106]) := rd_look_of LL_184 rfl
theorem L_184_70 : rd_look 184 70 = some (124, .iload 4, 2, []) := rd_look_of LL_184 rfl
theorem L_184_71 : rd_look 184 71 = some (126, .iaload, 1, []) := rd_look_of LL_184 rfl
theorem L_184_72 : rd_look 184 72 = some (127, .iconst 2, 1, []) := rd_look_of LL_184 rfl
theorem L_184_73 : rd_look 184 73 = some (128, .if_icmp .ne 13, 3, [80]) := rd_look_of LL_184 rfl
theorem L_184_74 : rd_look 184 74 = some (131, .aload_n 0, 1, []) := rd_look_of LL_184 rfl
theorem L_184_75 : rd_look 184 75 = some (132, .getfield 110, 3, [12, 47, 135]) := rd_look_of LL_184 rfl
theorem L_184_76 : rd_look 184 76 = some (135, .iconst 3, 1, []) := rd_look_of LL_184 rfl
theorem L_184_77 : rd_look 184 77 = some (136, .aload_n 0, 1, []) := rd_look_of LL_184 rfl
theorem L_184_78 : rd_look 184 78 = some (137, .getfield 178, 3, [12, 29, 145]) := rd_look_of LL_184 rfl
theorem L_184_79 : rd_look 184 79 = some (140, .iastore, 1, []) := rd_look_of LL_184 rfl
theorem L_184_80 : rd_look 184 80 = some (141, .iconst (-1), 1, []) := rd_look_of LL_184 rfl
theorem L_184_81 : rd_look 184 81 = some (142, .ireturn, 1, []) := rd_look_of LL_184 rfl
theorem L_185_0 : rd_look 185 0 = some (0, .aload_n 0, 1, []) := rd_look_of LL_185 rfl
theorem L_185_1 : rd_look 185 1 = some (1, .getfield 98, 3, [12, 43, 131]) := rd_look_of LL_185 rfl
theorem L_185_2 : rd_look 185 2 = some (4, .iload_n 1, 1, []) := rd_look_of LL_185 rfl
theorem L_185_3 : rd_look 185 3 = some (5, .iaload, 1, []) := rd_look_of LL_185 rfl
theorem L_185_4 : rd_look 185 4 = some (6, .istore_n 2, 1, []) := rd_look_of LL_185 rfl
theorem L_185_5 : rd_look 185 5 = some (7, .aload_n 0, 1, []) := rd_look_of LL_185 rfl
theorem L_185_6 : rd_look 185 6 = some (8, .getfield 101, 3, [12, 44, 132]) := rd_look_of LL_185 rfl
theorem L_185_7 : rd_look 185 7 = some (11, .iload_n 1, 1, []) := rd_look_of LL_185 rfl
theorem L_185_8 : rd_look 185 8 = some (12, .iaload, 1, []) := rd_look_of LL_185 rfl
theorem L_185_9 : rd_look 185 9 = some (13, .istore_n 3, 1, []) := rd_look_of LL_185 rfl
theorem L_185_10 : rd_look 185 10 = some (14, .aload_n 0, 1, []) := rd_look_of LL_185 rfl
theorem L_185_11 : rd_look 185 11 = some (15, .getfield 104, 3, [12, 45, 133]) := rd_look_of LL_185 rfl
theorem L_185_12 : rd_look 185 12 = some (18, .iload_n 1, 1, []) := rd_look_of LL_185 rfl
theorem L_185_13 : rd_look 185 13 = some (19, .iaload, 1, []) := rd_look_of LL_185 rfl
theorem L_185_14 : rd_look 185 14 = some (20, .istore 4, 2, []) := rd_look_of LL_185 rfl
theorem L_185_15 : rd_look 185 15 = some (22, .aload_n 0, 1, []) := rd_look_of LL_185 rfl
theorem L_185_16 : rd_look 185 16 = some (23, .iconst (-1), 1, []) := rd_look_of LL_185 rfl
theorem L_185_17 : rd_look 185 17 = some (24, .putfield 269, 3, [12, 58, 157, 0]) := rd_look_of LL_185 rfl
theorem L_185_18 : rd_look 185 18 = some (27, .aload_n 0, 1, []) := rd_look_of LL_185 rfl
theorem L_185_19 : rd_look 185 19 = some (28, .getfield 95, 3, [12, 42, 130]) := rd_look_of LL_185 rfl
theorem L_185_20 : rd_look 185 20 = some (31, .iload_n 1, 1, []) := rd_look_of LL_185 rfl
theorem L_185_21 : rd_look 185 21 = some (32, .iaload, 1, []) := rd_look_of LL_185 rfl
theorem L_185_22 : rd_look 185 22 = some (33, .tableswitch 243 0 8 #[51, 61, 79, 101, 114, 116, 140, 205, 213], 51, [135, 23, 29, 41, 53, 60, 62, 77, 114, 118]) := rd_look_of LL_185 rfl
theorem L_185_23 : rd_look 185 23 = some (84, .aload_n 0, 1, []) := rd_look_of LL_185 rfl
theorem L_185_24 : rd_look 185 24 = some (85, .getfield 107, 3, [12, 46, 134]) := rd_look_of LL_185 rfl
theorem L_185_25 : rd_look 185 25 = some (88, .iload_n 2, 1, []) := rd_look_of LL_185 rfl
theorem L_185_26 : rd_look 185 26 = some (89, .iload_n 3, 1, []) := rd_look_of LL_185 rfl
theorem L_185_27 : rd_look 185 27 = some (90, .iastore, 1, []) := rd_look_of LL_185 rfl
theorem L_185_28 : rd_look 185 28 = some (91, .goto 219, 3, [154]) := rd_look_of LL_185 rfl
theorem L_185_29 : rd_look 185 29 = some (94, .aload_n 0, 1, []) := rd_look_of LL_185 rfl
theorem L_185_30 : rd_look 185 30 = some (95, .getfield 107, 3, [12, 46, 134]) := rd_look_of LL_185 rfl
theorem L_185_31 : rd_look 185 31 = some (98, .iload_n 2, 1, []) := rd_look_of LL_185 rfl
theorem L_185_32 : rd_look 185 32 = some (99, .dup2, 1, []) := rd_look_of LL_185 rfl
theorem L_185_33 : rd_look 185 33 = some (100, .iaload, 1, []) := rd_look_of LL_185 rfl
theorem L_185_34 : rd_look 185 34 = some (101, .aload_n 0, 1, []) := rd_look_of LL_185 rfl
theorem L_185_35 : rd_look 185 35 = some (102, .getfield 107, 3, [12, 46, 134]) := rd_look_of LL_185 rfl
theorem L_185_36 : rd_look 185 36 = some (105, .iload_n 3, 1, []) := rd_look_of LL_185 rfl
theorem L_185_37 : rd_look 185 37 = some (106, .iaload, 1, []) := rd_look_of LL_185 rfl
theorem L_185_38 : rd_look 185 38 = some (107, .iadd, 1, []) := rd_look_of LL_185 rfl
theorem L_185_39 : rd_look 185 39 = some (108, .iastore, 1, []) := rd_look_of LL_185 rfl
theorem L_185_40 : rd_look 185 40 = some (109, .goto 201, 3, [154]) := rd_look_of LL_185 rfl
theorem L_185_41 : rd_look 185 41 = some (112, .aload_n 0, 1, []) := rd_look_of LL_185 rfl
theorem L_185_42 : rd_look 185 42 = some (113, .getfield 110, 3, [12, 47, 135]) := rd_look_of LL_185 rfl
theorem L_185_43 : rd_look 185 43 = some (116, .iload_n 2, 1, []) := rd_look_of LL_185 rfl
theorem L_185_44 : rd_look 185 44 = some (117, .aload_n 0, 1, []) := rd_look_of LL_185 rfl
theorem L_185_45 : rd_look 185 45 = some (118, .iload_n 3, 1, []) := rd_look_of LL_185 rfl
theorem L_185_46 : rd_look 185 46 = some (119, .invokevirtual 144, 3, [142, 1, 160, 12]) := rd_look_of LL_185 rfl
theorem L_185_47 : rd_look 185 47 = some (122, .ifCond .eq 7, 3, [50]) := rd_look_of LL_185 rfl
theorem L_185_48 : rd_look 185 48 = some (125, .iload_n 3, 1, []) := rd_look_of LL_185 rfl
theorem L_185_49 : rd_look 185 49 = some (126, .goto 4, 3, [51]) := rd_look_of LL_185 rfl
theorem L_185_50 : rd_look 185 50 = some (129, .iconst (-1), 1, []) := rd_look_of LL_185 rfl
theorem L_185_51 : rd_look 185 51 = some (130, .iastore, 1, []) := rd_look_of LL_185 rfl
theorem L_185_52 : rd_look 185 52 = some (131, .goto 179, 3, [154]) := rd_look_of LL_185 rfl
theorem L_185_53 : rd_look 185 53 = some (134, .aload_n 0, 1, []) := rd_look_of LL_185 rfl
theorem L_185_54 : rd_look 185 54 = some (135, .aload_n 0, 1, []) := rd_look_of LL_185 rfl
theorem L_185_55 : rd_look 185 55 = some (136, .iload_n 2, 1, []) := rd_look_of LL_185 rfl
theorem L_185_56 : rd_look 185 56 = some (137, .iload_n 3, 1, []) := rd_look_of LL_185 rfl
theorem L_185_57 : rd_look 185 57 = some (138, .invokevirtual 272, 3, [184, 2, 184, 12]) := rd_look_of LL_185 rfl
theorem L_185_58 : rd_look 185 58 = some (141, .putfield 269, 3, [12, 58, 157, 0]) := rd_look_of LL_185 rfl
theorem L_185_59 : rd_look 185 59 = some (144, .goto 166, 3, [154]) := rd_look_of LL_185 rfl
theorem L_185_60 : rd_look 185 60 = some (147, .iload_n 2, 1, []) := rd_look_of LL_185 rfl
theorem L_185_61 : rd_look 185 61 = some (148, .ireturn, 1, []) := rd_look_of LL_185 rfl
theorem L_185_62 : rd_look 185 62 = some (149, .aload_n 0, 1, []) := rd_look_of LL_185 rfl
theorem L_185_63 : rd_look 185 63 = some (150, .getfield 107, 3, [12, 46, 134]) := rd_look_of LL_185 rfl
theorem L_185_64 : rd_look 185 64 = some (153, .iload_n 2, 1, []) := rd_look_of LL_185 rfl
theorem L_185_65 : rd_look 185 65 = some (154, .iaload, 1, []) := rd_look_of LL_185 rfl
theorem L_185_66 : rd_look 185 66 = some (155, .aload_n 0, 1, []) := rd_look_of LL_185 rfl
theorem L_185_67 : rd_look 185 67 = some (156, .getfield 107, 3, [12, 46, 134]) := rd_look_of LL_185 rfl
theorem L_185_68 : rd_look 185 68 = some (159, .iload_n 3, 1, []) := rd_look_of LL_185 rfl
theorem L_185_69 : rd_look 185 69 = some (160, .iaload, 1, []) := rd_look_of LL_185 rfl
theorem L_185_70 : rd_look 185 70 = some (161, .if_icmp .ge 8, 3, [73]) := rd_look_of LL_185 rfl
theorem L_185_71 : rd_look 185 71 = some (164, .iload 4, 2, []) := rd_look_of LL_185 rfl
theorem L_185_72 : rd_look 185 72 = some (166, .goto 6, 3, [76]) := rd_look_of LL_185 rfl
theorem L_185_73 : rd_look 185 73 = some (169, .iload_n 1, 1, []) := rd_look_of LL_185 rfl
theorem L_185_74 : rd_look 185 74 = some (170, .iconst 1, 1, []) := rd_look_of LL_185 rfl
theorem L_185_75 : rd_look 185 75 = some (171, .iadd, 1, []) := rd_look_of LL_185 rfl
theorem L_185_76 : rd_look 185 76 = some (172, .ireturn, 1, []) := rd_look_of LL_185 rfl
theorem L_185_77 : rd_look 185 77 = some (173, .aload_n 0, 1, []) := rd_look_of LL_185 rfl
theorem L_185_78 : rd_look 185 78 = some (174, .getfield 275, 3, [12, 52, 158]) := rd_look_of LL_185 rfl
theorem L_185_79 : rd_look 185 79 = some (177, .bipush 10, 2, []) := rd_look_of LL_185 rfl
theorem L_185_80 : rd_look 185 80 = some (179, .if_icmp .ne 12, 3, [85]) := rd_look_of LL_185 rfl
theorem L_185_81 : rd_look 185 81 = some (182, .aload_n 0, 1, []) := rd_look_of LL_185 rfl
theorem L_185_82 : rd_look 185 82 = some (183, .bipush 11, 2, []) := rd_look_of LL_185 rfl
theorem L_185_83 : rd_look 185 83 = some (185, .putfield 269, 3, [12, 58, 157, 0]) := rd_look_of LL_185 rfl
theorem L_185_84 : rd_look 185 84 = some (188, .goto 122, 3, [154]) := rd_look_of LL_185 rfl
theorem L_185_85 : rd_look 185 85 = some (191, .aload_n 0, 1, []) := rd_look_of LL_185 rfl
theorem L_185_86 : rd_look 185 86 = some (192, .getfield 120, 3, [12, 53, 138]) := rd_look_of LL_185 rfl
theorem L_185_87 : rd_look 185 87 = some (195, .aload_n 0, 1, []) := rd_look_of LL_185 rfl
theorem L_185_88 : rd_look 185 88 = some (196, .getfield 275, 3, [12, 52, 158]) := rd_look_of LL_185 rfl
theorem L_185_89 : rd_look 185 89 = some (199, .iload_n 1, 1, []) := rd_look_of LL_185 rfl
theorem L_185_90 : rd_look 185 90 = some (200, .iconst 1, 1, []) := rd_look_of LL_185 rfl
theorem L_185_91 : rd_look 185 91 = some (201, .iadd, 1, []) := rd_look_of LL_185 rfl
theorem L_185_92 : rd_look 185 92 = some (202, .iastore, 1, []) := rd_look_of LL_185 rfl
theorem L_185_93 : rd_look 185 93 = some (203, .aload_n 0, 1, []) := rd_look_of LL_185 rfl
theorem L_185_94 : rd_look 185 94 = some (204, .getfield 123, 3, [12, 54, 139]) := rd_look_of LL_185 rfl
theorem L_185_95 : rd_look 185 95 = some (207, .aload_n 0, 1, []) := rd_look_of LL_185 rfl
theorem L_185_96 : rd_look 185 96 = some (208, .getfield 275, 3, [12, 52, 158]) := rd_look_of LL_185 rfl
theorem L_185_97 : rd_look 185 97 = some (211, .iload_n 1, 1, []) := rd_look_of LL_185 rfl
theorem L_185_98 : rd_look 185 98 = some (212, .iload_n 2, 1, []) := rd_look_of LL_185 rfl
theorem L_185_99 : rd_look 185 99 = some (213, .iadd, 1, []) := rd_look_of LL_185 rfl
theorem L_185_100 : rd_look 185 100 = some (214, .iastore, 1, []) := rd_look_of LL_185 rfl
theorem L_185_101 : rd_look 185 101 = some (215, .aload_n 0, 1, []) := rd_look_of LL_185 rfl
theorem L_185_102 : rd_look 185 102 = some (216, .getfield 126, 3, [12, 55, 140]) := rd_look_of LL_185 rfl
theorem L_185_103 : rd_look 185 103 = some (219, .aload_n 0, 1, []) := rd_look_of LL_185 rfl
theorem L_185_104 : rd_look 185 104 = some (220, .getfield 275, 3, [12, 52, 158]) := rd_look_of LL_185 rfl
theorem L_185_105 : rd_look 185 105 = some (223, .iload_n 3, 1, []) := rd_look_of LL_185 rfl
theorem L_185_106 : rd_look 185 106 = some (224, .iastore, 1, []) := rd_look_of LL_185 rfl
theorem L_185_107 : rd_look 185 107 = some (225, .aload_n 0, 1, []) := rd_look_of LL_185 rfl
theorem L_185_108 : rd_look 185 108 = some (226, .dup, 1, []) := rd_look_of LL_185 rfl
theorem L_185_109 : rd_look 185 109 = some (227, .getfield 275, 3, [12, 52, 158]) := rd_look_of LL_185 rfl
theorem L_185_110 : rd_look 185 110 = some (230, .iconst 1, 1, []) := rd_look_of LL_185 rfl
theorem L_185_111 : rd_look 185 111 = some (231, .iadd, 1, []) := rd_look_of LL_185 rfl
theorem L_185_112 : rd_look 185 112 = some (232, .putfield 275, 3, [12, 52, 158, 0]) := rd_look_of LL_185 rfl
theorem L_185_113 : rd_look 185 113 = some (235, .goto 75, 3, [154]) := rd_look_of LL_185 rfl
theorem L_185_114 : rd_look 185 114 = some (238, .aload_n 0, 1, []) := rd_look_of LL_185 rfl
theorem L_185_115 : rd_look 185 115 = some (239, .iload_n 2, 1, []) := rd_look_of LL_185 rfl
theorem L_185_116 : rd_look 185 116 = some (240, .putfield 269, 3, [12, 58, 157, 0]) := rd_look_of LL_185 rfl
theorem L_185_117 : rd_look 185 117 = some (243, .goto 67, 3, [154]) := rd_look_of LL_185 rfl
theorem L_185_118 : rd_look 185 118 = some (246, .aload_n 0, 1, []) := rd_look_of LL_185 rfl
theorem L_185_119 : rd_look 185 119 = some (247, .getfield 107, 3, [12, 46, 134]) := rd_look_of LL_185 rfl
theorem L_185_120 : rd_look 185 120 = some (250, .iload 4, 2, []) := rd_look_of LL_185 rfl
theorem L_185_121 : rd_look 185 121 = some (252, .aload_n 0, 1, []) := rd_look_of LL_185 rfl
theorem L_185_122 : rd_look 185 122 = some (253, .getfield 110, 3, [12, 47, 135]) := rd_look_of LL_185 rfl
theorem L_185_123 : rd_look 185 123 = some (256, .iload_n 2, 1, []) := rd_look_of LL_185 rfl
theorem L_185_124 : rd_look 185 124 = some (257, .iaload, 1, []) := rd_look_of LL_185 rfl
theorem L_185_125 : rd_look 185 125 = some (258, .aload_n 0, 1, []) := rd_look_of LL_185 rfl
theorem L_185_126 : rd_look 185 126 = some (259, .getfield 110, 3, [12, 47, 135]) := rd_look_of LL_185 rfl
theorem L_185_127 : rd_look 185 127 = some (262, .iload_n 3, 1, []) := rd_look_of LL_185 rfl
theorem L_185_128 : rd_look 185 128 = some (263, .iaload, 1, []) := rd_look_of LL_185 rfl
theorem L_185_129 : rd_look 185 129 = some (264, .if_icmp .ne 7, 3, [132]) := rd_look_of LL_185 rfl
theorem L_185_130 : rd_look 185 130 = some (267, .iconst 1, 1, []) := rd_look_of LL_185 rfl
theorem L_185_131 : rd_look 185 131 = some (268, .goto 4, 3, [133]) := rd_look_of LL_185 rfl
theorem L_185_132 : rd_look 185 132 = some (271, .iconst 0, 1, []) := rd_look_of LL_185 rfl
theorem L_185_133 : rd_look 185 133 = some (272, .iastore, 1, []) := rd_look_of LL_185 rfl
theorem L_185_134 : rd_look 185 134 = some (273, .goto 37, 3, [154]) := rd_look_of LL_185 rfl
theorem L_185_135 : rd_look 185 135 = some (276, .aload_n 0, 1, []) := rd_look_of LL_185 rfl
theorem L_185_136 : rd_look 185 136 = some (277, .getfield 278, 3, [12, 50, 159]) := rd_look_of LL_185 rfl
theorem L_185_137 : rd_look 185 137 = some (280, .bipush 100, 2, []) := rd_look_of LL_185 rfl
theorem L_185_138 : rd_look 185 138 = some (282, .if_icmp .ge 28, 3, [154]) := rd_look_of LL_185 rfl
theorem L_185_139 : rd_look 185 139 = some (285, .aload_n 0, 1, []) := rd_look_of LL_185 rfl
theorem L_185_140 : rd_look 185 140 = some (286, .getfield 117, 3, [12, 51, 137]) := rd_look_of LL_185 rfl
theorem L_185_141 : rd_look 185 141 = some (289, .aload_n 0, 1, []) := rd_look_of LL_185 rfl
theorem L_185_142 : rd_look 185 142 = some (290, .getfield 278, 3, [12, 50, 159]) := rd_look_of LL_185 rfl
theorem L_185_143 : rd_look 185 143 = some (293, .aload_n 0, 1, []) := rd_look_of LL_185 rfl
theorem L_185_144 : rd_look 185 144 = some (294, .getfield 107, 3, [12, 46, 134]) := rd_look_of LL_185 rfl
theorem L_185_145 : rd_look 185 145 = some (297, .iload_n 2, 1, []) := rd_look_of LL_185 rfl
theorem L_185_146 : rd_look 185 146 = some (298, .iaload, 1, []) := rd_look_of LL_185 rfl
theorem L_185_147 : rd_look 185 147 = some (299, .iastore, 1, []) := rd_look_of LL_185 rfl
theorem L_185_148 : rd_look 185 148 = some (300, .aload_n 0, 1, []) := rd_look_of LL_185 rfl
theorem L_185_149 : rd_look 185 149 = some (301, .dup, 1, []) := rd_look_of LL_185 rfl
theorem L_185_150 : rd_look 185 150 = some (302, .getfield 278, 3, [12, 50, 159]) := rd_look_of LL_185 rfl
theorem L_185_151 : rd_look 185 151 = some (305, .iconst 1, 1, []) := rd_look_of LL_185 rfl
theorem L_185_152 : rd_look 185 152 = some (306, .iadd, 1, []) := rd_look_of LL_185 rfl
theorem L_185_153 : rd_look 185 153 = some (307, .putfield 278, 3, [12, 50, 159, 0]) := rd_look_of LL_185 rfl
theorem L_185_154 : rd_look 185 154 = some (310, .iload_n 1, 1, []) := rd_look_of LL_185 rfl
theorem L_185_155 : rd_look 185 155 = some (311, .iconst 1, 1, []) := rd_look_of LL_185 rfl
theorem L_185_156 : rd_look 185 156 = some (312, .iadd, 1, []) := rd_look_of LL_185 rfl
theorem L_185_157 : rd_look 185 157 = some (313, .ireturn, 1, []) := rd_look_of LL_185 rfl
theorem L_186_0 : rd_look 186 0 = some (0, .iconst 0, 1, []) := rd_look_of LL_186 rfl
theorem L_186_1 : rd_look 186 1 = some (1, .istore_n 2, 1, []) := rd_look_of LL_186 rfl
theorem L_186_2 : rd_look 186 2 = some (2, .iconst 0, 1, []) := rd_look_of LL_186 rfl
theorem L_186_3 : rd_look 186 3 = some (3, .istore_n 3, 1, []) := rd_look_of LL_186 rfl
theorem L_186_4 : rd_look 186 4 = some (4, .iload_n 3, 1, []) := rd_look_of LL_186 rfl
theorem L_186_5 : rd_look 186 5 = some (5, .aload_n 0, 1, []) := rd_look_of LL_186 rfl
theorem L_186_6 : rd_look 186 6 = some (6, .getfield 275, 3, [12, 52, 158]) := rd_look_of LL_186 rfl
theorem L_186_7 : rd_look 186 7 = some (9, .if_icmp .ge 67, 3, [46]) := rd_look_of LL_186 rfl
theorem L_186_8 : rd_look 186 8 = some (12, .iload_n 1, 1, []) := rd_look_of LL_186 rfl
theorem L_186_9 : rd_look 186 9 = some (13, .aload_n 0, 1, []) := rd_look_of LL_186 rfl
theorem L_186_10 : rd_look 186 10 = some (14, .getfield 120, 3, [12, 53, 138]) := rd_look_of LL_186 rfl
theorem L_186_11 : rd_look 186 11 = some (17, .iload_n 3, 1, []) := rd_look_of LL_186 rfl
theorem L_186_12 : rd_look 186 12 = some (18, .iaload, 1, []) := rd_look_of LL_186 rfl
theorem L_186_13 : rd_look 186 13 = some (19, .aload_n 0, 1, []) := rd_look_of LL_186 rfl
theorem L_186_14 : rd_look 186 14 = some (20, .getfield 123, 3, [12, 54, 139]) := rd_look_of LL_186 rfl
theorem L_186_15 : rd_look 186 15 = some (23, .iload_n 3, 1, []) := rd_look_of LL_186 rfl
theorem L_186_16 : rd_look 186 16 = some (24, .iaload, 1, []) := rd_look_of LL_186 rfl
theorem L_186_17 : rd_look 186 17 = some (25, .invokestatic 133, 3, [137, 3, 158]) := rd_look_of LL_186 rfl
theorem L_186_18 : rd_look 186 18 = some (28, .ifCond .eq 42, 3, [44]) := rd_look_of LL_186 rfl
theorem L_186_19 : rd_look 186 19 = some (31, .aload_n 0, 1, []) := rd_look_of LL_186 rfl
theorem L_186_20 : rd_look 186 20 = some (32, .getfield 120, 3, [12, 53, 138]) := rd_look_of LL_186 rfl
theorem L_186_21 : rd_look 186 21 = some (35, .iload_n 2, 1, []) := rd_look_of LL_186 rfl
theorem L_186_22 : rd_look 186 22 = some (36, .aload_n 0, 1, []) := rd_look_of LL_186 rfl
theorem L_186_23 : rd_look 186 23 = some (37, .getfield 120, 3, [12, 53, 138]) := rd_look_of LL_186 rfl
theorem L_186_24 : rd_look 186 24 = some (40, .iload_n 3, 1, []) := rd_look_of LL_186 rfl
theorem L_186_25 : rd_look 186 25 = some (41, .iaload, 1, []) := rd_look_of LL_186 rfl
theorem L_186_26 : rd_look 186 26 = some (42, .iastore, 1, []) := rd_look_of LL_186 rfl
theorem L_186_27 : rd_look 186 27 = some (43, .aload_n 0, 1, []) := rd_look_of LL_186 rfl
theorem L_186_28 : rd_look 186 28 = some (44, .getfield 123, 3, [12, 54, 139]) := rd_look_of LL_186 rfl
theorem L_186_29 : rd_look 186 29 = some (47, .iload_n 2, 1, []) := rd_look_of LL_186 rfl
theorem L_186_30 : rd_look 186 30 = some (48, .aload_n 0, 1, []) := rd_look_of LL_186 rfl
theorem L_186_31 : rd_look 186 31 = some (49, .getfield 123, 3, [12, 54, 139]) := rd_look_of LL_186 rfl
theorem L_186_32 : rd_look 186 32 = some (52, .iload_n 3, 1, []) := rd_look_of LL_186 rfl
theorem L_186_33 : rd_look 186 33 = some (53, .iaload, 1, []) := rd_look_of LL_186 rfl
theorem L_186_34 : rd_look 186 34 = some (54, .iastore, 1, []) := rd_look_of LL_186 rfl
theorem L_186_35 : rd_look 186 35 = some (55, .aload_n 0, 1, []) := rd_look_of LL_186 rfl
theorem L_186_36 : rd_look 186 36 = some (56, .getfield 126, 3, [12, 55, 140]) := rd_look_of LL_186 rfl
theorem L_186_37 : rd_look 186 37 = some (59, .iload_n 2, 1, []) := rd_look_of LL_186 rfl
theorem L_186_38 : rd_look 186 38 = some (60, .aload_n 0, 1, []) := rd_look_of LL_186 rfl
theorem L_186_39 : rd_look 186 39 = some (61, .getfield 126, 3, [12, 55, 140]) := rd_look_of LL_186 rfl
theorem L_186_40 : rd_look 186 40 = some (64, .iload_n 3, 1, []) := rd_look_of LL_186 rfl
theorem L_186_41 : rd_look 186 41 = some (65, .iaload, 1, []) := rd_look_of LL_186 rfl
theorem L_186_42 : rd_look 186 42 = some (66, .iastore, 1, []) := rd_look_of LL_186 rfl
theorem L_186_43 : rd_look 186 43 = some (67, .iinc 2 1, 3, []) := rd_look_of LL_186 rfl
theorem L_186_44 : rd_look 186 44 = some (70, .iinc 3 1, 3, []) := rd_look_of LL_186 rfl
theorem L_186_45 : rd_look 186 45 = some (73, .goto (-69), 3, [4]) := rd_look_of LL_186 rfl
theorem L_186_46 : rd_look 186 46 = some (76, .aload_n 0, 1, []) := rd_look_of LL_186 rfl
theorem L_186_47 : rd_look 186 47 = some (77, .iload_n 2, 1, []) := rd_look_of LL_186 rfl
theorem L_186_48 : rd_look 186 48 = some (78, .putfield 275, 3, [12, 52, 158, 0]) := rd_look_of LL_186 rfl
theorem L_186_49 : rd_look 186 49 = some (81, .return_, 1, []) := rd_look_of LL_186 rfl
theorem L_187_0 : rd_look 187 0 = some (0, .iload_n 1, 1, []) := rd_look_of LL_187 rfl
theorem L_187_1 : rd_look 187 1 = some (1, .iconst 1, 1, []) := rd_look_of LL_187 rfl
theorem L_187_2 : rd_look 187 2 = some (2, .sipush 1000, 3, []) := rd_look_of LL_187 rfl
theorem L_187_3 : rd_look 187 3 = some (5, .invokestatic 133, 3, [137, 3, 158]) := rd_look_of LL_187 rfl
theorem L_187_4 : rd_look 187 4 = some (8, .ifCond .ne 5, 3, [7]) := rd_look_of LL_187 rfl
theorem L_187_5 : rd_look 187 5 = some (11, .iconst (-1), 1, []) := rd_look_of LL_187 rfl
theorem L_187_6 : rd_look 187 6 = some (12, .ireturn, 1, []) := rd_look_of LL_187 rfl
theorem L_187_7 : rd_look 187 7 = some (13, .aload_n 0, 1, []) := rd_look_of LL_187 rfl
theorem L_187_8 : rd_look 187 8 = some (14, .getfield 281, 3, [12, 49, 160]) := rd_look_of LL_187 rfl
theorem L_187_9 : rd_look 187 9 = some (17, .sipush 20000, 3, []) := rd_look_of LL_187 rfl
theorem L_187_10 : rd_look 187 10 = some (20, .if_icmp .lt 6, 3, [13]) := rd_look_of LL_187 rfl
theorem L_187_11 : rd_look 187 11 = some (23, .bipush (-3), 2, []) := rd_look_of LL_187 rfl
theorem L_187_12 : rd_look 187 12 = some (25, .ireturn, 1, []) := rd_look_of LL_187 rfl
theorem L_187_13 : rd_look 187 13 = some (26, .iconst 0, 1, []) := rd_look_of LL_187 rfl
theorem L_187_14 : rd_look 187 14 = some (27, .istore_n 2, 1, []) := rd_look_of LL_187 rfl
theorem L_187_15 : rd_look 187 15 = some (28, .iload_n 2, 1, []) := rd_look_of LL_187 rfl
theorem L_187_16 : rd_look 187 16 = some (29, .bipush 8, 2, []) := rd_look_of LL_187 rfl
theorem L_187_17 : rd_look 187 17 = some (31, .if_icmp .ge 16, 3, [25]) := rd_look_of LL_187 rfl
theorem L_187_18 : rd_look 187 18 = some (34, .aload_n 0, 1, []) := rd_look_of LL_187 rfl
theorem L_187_19 : rd_look 187 19 = some (35, .getfield 107, 3, [12, 46, 134]) := rd_look_of LL_187 rfl
theorem L_187_20 : rd_look 187 20 = some (38, .iload_n 2, 1, []) := rd_look_of LL_187 rfl
theorem L_187_21 : rd_look 187 21 = some (39, .iconst 0, 1, []) := rd_look_of LL_187 rfl
theorem L_187_22 : rd_look 187 22 = some (40, .iastore, 1, []) := rd_look_of LL_187 rfl
theorem L_187_23 : rd_look 187 23 = some (41, .iinc 2 1, 3, []) := rd_look_of LL_187 rfl
theorem L_187_24 : rd_look 187 24 = some (44, .goto (-16), 3, [15]) := rd_look_of LL_187 rfl
theorem L_187_25 : rd_look 187 25 = some (47, .iconst 0, 1, []) := rd_look_of LL_187 rfl
theorem L_187_26 : rd_look 187 26 = some (48, .istore_n 2, 1, []) := rd_look_of LL_187 rfl
theorem L_187_27 : rd_look 187 27 = some (49, .iload_n 2, 1, []) := rd_look_of LL_187 rfl
theorem L_187_28 : rd_look 187 28 = some (50, .iconst 4, 1, []) := rd_look_of LL_187 rfl
theorem L_187_29 : rd_look 187 29 = some (51, .if_icmp .ge 16, 3, [37]) := rd_look_of LL_187 rfl
theorem L_187_30 : rd_look 187 30 = some (54, .aload_n 0, 1, []) := rd_look_of LL_187 rfl
theorem L_187_31 : rd_look 187 31 = some (55, .getfield 110, 3, [12, 47, 135]) := rd_look_of LL_187 rfl
theorem L_187_32 : rd_look 187 32 = some (58, .iload_n 2, 1, []) := rd_look_of LL_187 rfl
theorem L_187_33 : rd_look 187 33 = some (59, .iconst (-1), 1, []) := rd_look_of LL_187 rfl
theorem L_187_34 : rd_look 187 34 = some (60, .iastore, 1, []) := rd_look_of LL_187 rfl
theorem L_187_35 : rd_look 187 35 = some (61, .iinc 2 1, 3, []) := rd_look_of LL_187 rfl
theorem L_187_36 : rd_look 187 36 = some (64, .goto (-15), 3, [27]) := rd_look_of LL_187 rfl
theorem L_187_37 : rd_look 187 37 = some (67, .aload_n 0, 1, []) := rd_look_of LL_187 rfl
theorem L_187_38 : rd_look 187 38 = some (68, .iconst 0, 1, []) := rd_look_of LL_187 rfl
theorem L_187_39 : rd_look 187 39 = some (69, .putfield 113, 3, [12, 48, 136, 1]) := rd_look_of LL_187 rfl
theorem L_187_40 : rd_look 187 40 = some (72, .aload_n 0, 1, []) := rd_look_of LL_187 rfl
theorem L_187_41 : rd_look 187 41 = some (73, .iconst 0, 1, []) := rd_look_of LL_187 rfl
theorem L_187_42 : rd_look 187 42 = some (74, .putfield 275, 3, [12, 52, 158, 0]) := rd_look_of LL_187 rfl
theorem L_187_43 : rd_look 187 43 = some (77, .iconst 0, 1, []) := rd_look_of LL_187 rfl
theorem L_187_44 : rd_look 187 44 = some (78, .istore_n 2, 1, []) := rd_look_of LL_187 rfl
theorem L_187_45 : rd_look 187 45 = some (79, .iconst 0, 1, []) := rd_look_of LL_187 rfl
theorem L_187_46 : rd_look 187 46 = some (80, .istore_n 3, 1, []) := rd_look_of LL_187 rfl
theorem L_187_47 : rd_look 187 47 = some (81, .iload_n 2, 1, []) := rd_look_of LL_187 rfl
theorem L_187_48 : rd_look 187 48 = some (82, .aload_n 0, 1, []) := rd_look_of LL_187 rfl
theorem L_187_49 : rd_look 187 49 = some (83, .getfield 257, 3, [12, 41, 154]) := rd_look_of LL_187 rfl
theorem L_187_50 : rd_look 187 50 = some (86, .if_icmp .ge 90, 3, [100]) := rd_look_of LL_187 rfl
theorem L_187_51 : rd_look 187 51 = some (89, .iload_n 3, 1, []) := rd_look_of LL_187 rfl
theorem L_187_52 : rd_look 187 52 = some (90, .iload_n 1, 1, []) := rd_look_of LL_187 rfl
theorem L_187_53 : rd_look 187 53 = some (91, .if_icmp .ne 6, 3, [56]) := rd_look_of LL_187 rfl
theorem L_187_54 : rd_look 187 54 = some (94, .bipush (-4), 2, []) := rd_look_of LL_187 rfl
theorem L_187_55 : rd_look 187 55 = some (96, .ireturn, 1, []) := rd_look_of LL_187 rfl
theorem L_187_56 : rd_look 187 56 = some (97, .aload_n 0, 1, []) := rd_look_of LL_187 rfl
theorem L_187_57 : rd_look 187 57 = some (98, .iload_n 2, 1, []) := rd_look_of LL_187 rfl
theorem L_187_58 : rd_look 187 58 = some (99, .invokevirtual 284, 3, [186, 1, 185, 12]) := rd_look_of LL_187 rfl
theorem L_187_59 : rd_look 187 59 = some (102, .iinc 3 1, 3, []) := rd_look_of LL_187 rfl
theorem L_187_60 : rd_look 187 60 = some (105, .aload_n 0, 1, []) := rd_look_of LL_187 rfl
theorem L_187_61 : rd_look 187 61 = some (106, .dup, 1, []) := rd_look_of LL_187 rfl
theorem L_187_62 : rd_look 187 62 = some (107, .getfield 281, 3, [12, 49, 160]) := rd_look_of LL_187 rfl
theorem L_187_63 : rd_look 187 63 = some (110, .iconst 1, 1, []) := rd_look_of LL_187 rfl
theorem L_187_64 : rd_look 187 64 = some (111, .iadd, 1, []) := rd_look_of LL_187 rfl
theorem L_187_65 : rd_look 187 65 = some (112, .putfield 281, 3, [12, 49, 160, 0]) := rd_look_of LL_187 rfl
theorem L_187_66 : rd_look 187 66 = some (115, .aload_n 0, 1, []) := rd_look_of LL_187 rfl
theorem L_187_67 : rd_look 187 67 = some (116, .iload_n 2, 1, []) := rd_look_of LL_187 rfl
theorem L_187_68 : rd_look 187 68 = some (117, .invokevirtual 288, 3, [185, 1, 186, 12]) := rd_look_of LL_187 rfl
theorem L_187_69 : rd_look 187 69 = some (120, .istore_n 2, 1, []) := rd_look_of LL_187 rfl
theorem L_187_70 : rd_look 187 70 = some (121, .aload_n 0, 1, []) := rd_look_of LL_187 rfl
theorem L_187_71 : rd_look 187 71 = some (122, .getfield 269, 3, [12, 58, 157]) := rd_look_of LL_187 rfl
theorem L_187_72 : rd_look 187 72 = some (125, .ifCond .lt (-44), 3, [47]) := rd_look_of LL_187 rfl
theorem L_187_73 : rd_look 187 73 = some (128, .aload_n 0, 1, []) := rd_look_of LL_187 rfl
theorem L_187_74 : rd_look 187 74 = some (129, .getfield 275, 3, [12, 52, 158]) := rd_look_of LL_187 rfl
theorem L_187_75 : rd_look 187 75 = some (132, .ifCond .ne 10, 3, [81]) := rd_look_of LL_187 rfl
theorem L_187_76 : rd_look 187 76 = some (135, .iconst 1, 1, []) := rd_look_of LL_187 rfl
theorem L_187_77 : rd_look 187 77 = some (136, .aload_n 0, 1, []) := rd_look_of LL_187 rfl
theorem L_187_78 : rd_look 187 78 = some (137, .getfield 269, 3, [12, 58, 157]) := rd_look_of LL_187 rfl
theorem L_187_79 : rd_look 187 79 = some (140, .iadd, 1, []) := rd_look_of LL_187 rfl
theorem L_187_80 : rd_look 187 80 = some (141, .ireturn, 1, []) := rd_look_of LL_187 rfl
theorem L_187_81 : rd_look 187 81 = some (142, .aload_n 0, 1, []) := rd_look_of LL_187 rfl
theorem L_187_82 : rd_look 187 82 = some (143, .dup, 1, []) := rd_look_of LL_187 rfl
theorem L_187_83 : rd_look 187 83 = some (144, .getfield 275, 3, [12, 52, 158]) := rd_look_of LL_187 rfl
theorem L_187_84 : rd_look 187 84 = some (147, .iconst 1, 1, []) := rd_look_of LL_187 rfl
theorem L_187_85 : rd_look 187 85 = some (148, .isub, 1, []) := rd_look_of LL_187 rfl
theorem L_187_86 : rd_look 187 86 = some (149, .putfield 275, 3, [12, 52, 158, 0]) := rd_look_of LL_187 rfl
theorem L_187_87 : rd_look 187 87 = some (152, .aload_n 0, 1, []) := rd_look_of LL_187 rfl
theorem L_187_88 : rd_look 187 88 = some (153, .getfield 107, 3, [12, 46, 134]) := rd_look_of LL_187 rfl
theorem L_187_89 : rd_look 187 89 = some (156, .bipush 6, 2, []) := rd_look_of LL_187 rfl
theorem L_187_90 : rd_look 187 90 = some (158, .aload_n 0, 1, []) := rd_look_of LL_187 rfl
theorem L_187_91 : rd_look 187 91 = some (159, .getfield 269, 3, [12, 58, 157]) := rd_look_of LL_187 rfl
theorem L_187_92 : rd_look 187 92 = some (162, .iastore, 1, []) := rd_look_of LL_187 rfl
theorem L_187_93 : rd_look 187 93 = some (163, .aload_n 0, 1, []) := rd_look_of LL_187 rfl
theorem L_187_94 : rd_look 187 94 = some (164, .getfield 126, 3, [12, 55, 140]) := rd_look_of LL_187 rfl
theorem L_187_95 : rd_look 187 95 = some (167, .aload_n 0, 1, []) := rd_look_of LL_187 rfl
theorem L_187_96 : rd_look 187 96 = some (168, .getfield 275, 3, [12, 52, 158]) := rd_look_of LL_187 rfl
theorem L_187_97 : rd_look 187 97 = some (171, .iaload, 1, []) := rd_look_of LL_187 rfl
theorem L_187_98 : rd_look 187 98 = some (172, .istore_n 2, 1, []) := rd_look_of LL_187 rfl
theorem L_187_99 : rd_look 187 99 = some (173, .goto (-92), 3, [47]) := rd_look_of LL_187 rfl
theorem L_187_100 : rd_look 187 100 = some (176, .iconst 0, 1, []) := rd_look_of LL_187 rfl
theorem L_187_101 : rd_look 187 101 = some (177, .ireturn, 1, []) := rd_look_of LL_187 rfl
theorem L_188_0 : rd_look 188 0 = some (0, .iload_n 1, 1, []) := rd_look_of LL_188 rfl
theorem L_188_1 : rd_look 188 1 = some (1, .iconst 0, 1, []) := rd_look_of LL_188 rfl
theorem L_188_2 : rd_look 188 2 = some (2, .bipush 7, 2, []) := rd_look_of LL_188 rfl
theorem L_188_3 : rd_look 188 3 = some (4, .invokestatic 133, 3, [137, 3, 158]) := rd_look_of LL_188 rfl
theorem L_188_4 : rd_look 188 4 = some (7, .ifCond .eq 12, 3, [10]) := rd_look_of LL_188 rfl
theorem L_188_5 : rd_look 188 5 = some (10, .aload_n 0, 1, []) := rd_look_of LL_188 rfl
theorem L_188_6 : rd_look 188 6 = some (11, .getfield 107, 3, [12, 46, 134]) := rd_look_of LL_188 rfl
theorem L_188_7 : rd_look 188 7 = some (14, .iload_n 1, 1, []) := rd_look_of LL_188 rfl
theorem L_188_8 : rd_look 188 8 = some (15, .iaload, 1, []) := rd_look_of LL_188 rfl
theorem L_188_9 : rd_look 188 9 = some (16, .goto 40, 3, [28]) := rd_look_of LL_188 rfl
theorem L_188_10 : rd_look 188 10 = some (19, .iload_n 1, 1, []) := rd_look_of LL_188 rfl
theorem L_188_11 : rd_look 188 11 = some (20, .bipush 8, 2, []) := rd_look_of LL_188 rfl
theorem L_188_12 : rd_look 188 12 = some (22, .bipush 11, 2, []) := rd_look_of LL_188 rfl
theorem L_188_13 : rd_look 188 13 = some (24, .invokestatic 133, 3, [137, 3, 158]) := rd_look_of LL_188 rfl
theorem L_188_14 : rd_look 188 14 = some (27, .ifCond .eq 26, 3, [27]) := rd_look_of LL_188 rfl
theorem L_188_15 : rd_look 188 15 = some (30, .aload_n 0, 1, []) := rd_look_of LL_188 rfl
theorem L_188_16 : rd_look 188 16 = some (31, .getfield 113, 3, [12, 48, 136]) := rd_look_of LL_188 rfl
theorem L_188_17 : rd_look 188 17 = some (34, .ifCond .eq 7, 3, [20]) := rd_look_of LL_188 rfl
theorem L_188_18 : rd_look 188 18 = some (37, .iconst (-1), 1, []) := rd_look_of LL_188 rfl
theorem L_188_19 : rd_look 188 19 = some (38, .goto 18, 3, [28]) := rd_look_of LL_188 rfl
theorem L_188_20 : rd_look 188 20 = some (41, .aload_n 0, 1, []) := rd_look_of LL_188 rfl
theorem L_188_21 : rd_look 188 21 = some (42, .getfield 110, 3, [12, 47, 135]) := rd_look_of LL_188 rfl
theorem L_188_22 : rd_look 188 22 = some (45, .iload_n 1, 1, []) := rd_look_of LL_188 rfl
theorem L_188_23 : rd_look 188 23 = some (46, .bipush 8, 2, []) := rd_look_of LL_188 rfl
theorem L_188_24 : rd_look 188 24 = some (48, .isub, 1, []) := rd_look_of LL_188 rfl
theorem L_188_25 : rd_look 188 25 = some (49, .iaload, 1, []) := rd_look_of LL_188 rfl
theorem L_188_26 : rd_look 188 26 = some (50, .goto 6, 3, [28]) := rd_look_of LL_188 rfl
theorem L_188_27 : rd_look 188 27 = some (53, .sipush (-1001), 3, []) := rd_look_of LL_188 rfl
theorem L_188_28 : rd_look 188 28 = some (56, .ireturn, 1, []) := rd_look_of LL_188 rfl
theorem L_189_0 : rd_look 189 0 = some (0, .iload_n 1, 1, []) := rd_look_of LL_189 rfl
theorem L_189_1 : rd_look 189 1 = some (1, .iconst 0, 1, []) := rd_look_of LL_189 rfl
theorem L_189_2 : rd_look 189 2 = some (2, .aload_n 0, 1, []) := rd_look_of LL_189 rfl
theorem L_189_3 : rd_look 189 3 = some (3, .getfield 278, 3, [12, 50, 159]) := rd_look_of LL_189 rfl
theorem L_189_4 : rd_look 189 4 = some (6, .iconst 1, 1, []) := rd_look_of LL_189 rfl
theorem L_189_5 : rd_look 189 5 = some (7, .isub, 1, []) := rd_look_of LL_189 rfl
theorem L_189_6 : rd_look 189 6 = some (8, .invokestatic 133, 3, [137, 3, 158]) := rd_look_of LL_189 rfl
theorem L_189_7 : rd_look 189 7 = some (11, .ifCond .eq 12, 3, [13]) := rd_look_of LL_189 rfl
theorem L_189_8 : rd_look 189 8 = some (14, .aload_n 0, 1, []) := rd_look_of LL_189 rfl
theorem L_189_9 : rd_look 189 9 = some (15, .getfield 117, 3, [12, 51, 137]) := rd_look_of LL_189 rfl
theorem L_189_10 : rd_look 189 10 = some (18, .iload_n 1, 1, []) := rd_look_of LL_189 rfl
theorem L_189_11 : rd_look 189 11 = some (19, .iaload, 1, []) := rd_look_of LL_189 rfl
theorem L_189_12 : rd_look 189 12 = some (20, .goto 6, 3, [14]) := rd_look_of LL_189 rfl
theorem L_189_13 : rd_look 189 13 = some (23, .sipush (-1001), 3, []) := rd_look_of LL_189 rfl
theorem L_189_14 : rd_look 189 14 = some (26, .ireturn, 1, []) := rd_look_of LL_189 rfl
theorem L_190_0 : rd_look 190 0 = some (0, .iload_n 1, 1, []) := rd_look_of LL_190 rfl
theorem L_190_1 : rd_look 190 1 = some (1, .tableswitch 105 0 9 #[55, 60, 65, 70, 75, 80, 85, 90, 95, 100], 55, [32, 2, 5, 8, 11, 14, 17, 20, 23, 26, 29]) := rd_look_of LL_190 rfl
theorem L_190_2 : rd_look 190 2 = some (56, .aload_n 0, 1, []) := rd_look_of LL_190 rfl
theorem L_190_3 : rd_look 190 3 = some (57, .getfield 129, 3, [12, 0, 141]) := rd_look_of LL_190 rfl
theorem L_190_4 : rd_look 190 4 = some (60, .ireturn, 1, []) := rd_look_of LL_190 rfl
theorem L_190_5 : rd_look 190 5 = some (61, .aload_n 0, 1, []) := rd_look_of LL_190 rfl
theorem L_190_6 : rd_look 190 6 = some (62, .getfield 137, 3, [12, 7, 142]) := rd_look_of LL_190 rfl
theorem L_190_7 : rd_look 190 7 = some (65, .ireturn, 1, []) := rd_look_of LL_190 rfl
theorem L_190_8 : rd_look 190 8 = some (66, .aload_n 0, 1, []) := rd_look_of LL_190 rfl
theorem L_190_9 : rd_look 190 9 = some (67, .getfield 158, 3, [12, 16, 143]) := rd_look_of LL_190 rfl
theorem L_190_10 : rd_look 190 10 = some (70, .ireturn, 1, []) := rd_look_of LL_190 rfl
theorem L_190_11 : rd_look 190 11 = some (71, .aload_n 0, 1, []) := rd_look_of LL_190 rfl
theorem L_190_12 : rd_look 190 12 = some (72, .getfield 215, 3, [12, 23, 149]) := rd_look_of LL_190 rfl
theorem L_190_13 : rd_look 190 13 = some (75, .ireturn, 1, []) := rd_look_of LL_190 rfl
theorem L_190_14 : rd_look 190 14 = some (76, .aload_n 0, 1, []) := rd_look_of LL_190 rfl
theorem L_190_15 : rd_look 190 15 = some (77, .getfield 218, 3, [12, 24, 150]) := rd_look_of LL_190 rfl
theorem L_190_16 : rd_look 190 16 = some (80, .ireturn, 1, []) := rd_look_of LL_190 rfl
theorem L_190_17 : rd_look 190 17 = some (81, .aload_n 0, 1, []) := rd_look_of LL_190 rfl
theorem L_190_18 : rd_look 190 18 = some (82, .getfield 229, 3, [12, 32, 151]) := rd_look_of LL_190 rfl
theorem L_190_19 : rd_look 190 19 = some (85, .ireturn, 1, []) := rd_look_of LL_190 rfl
theorem L_190_20 : rd_look 190 20 = some (86, .aload_n 0, 1, []) := rd_look_of LL_190 rfl
theorem L_190_21 : rd_look 190 21 = some (87, .getfield 235, 3, [12, 35, 152]) := rd_look_of LL_190 rfl
theorem L_190_22 : rd_look 190 22 = some (90, .ireturn, 1, []) := rd_look_of LL_190 rfl
theorem L_190_23 : rd_look 190 23 = some (91, .aload_n 0, 1, []) := rd_look_of LL_190 rfl
theorem L_190_24 : rd_look 190 24 = some (92, .getfield 257, 3, [12, 41, 154]) := rd_look_of LL_190 rfl
theorem L_190_25 : rd_look 190 25 = some (95, .ireturn, 1, []) := rd_look_of LL_190 rfl
theorem L_190_26 : rd_look 190 26 = some (96, .aload_n 0, 1, []) := rd_look_of LL_190 rfl
theorem L_190_27 : rd_look 190 27 = some (97, .getfield 281, 3, [12, 49, 160]) := rd_look_of LL_190 rfl
theorem L_190_28 : rd_look 190 28 = some (100, .ireturn, 1, []) := rd_look_of LL_190 rfl
theorem L_190_29 : rd_look 190 29 = some (101, .aload_n 0, 1, []) := rd_look_of LL_190 rfl
theorem L_190_30 : rd_look 190 30 = some (102, .getfield 278, 3, [12, 50, 159]) := rd_look_of LL_190 rfl
theorem L_190_31 : rd_look 190 31 = some (105, .ireturn, 1, []) := rd_look_of LL_190 rfl
theorem L_190_32 : rd_look 190 32 = some (106, .iload_n 1, 1, []) := rd_look_of LL_190 rfl
theorem L_190_33 : rd_look 190 33 = some (107, .bipush 10, 2, []) := rd_look_of LL_190 rfl
theorem L_190_34 : rd_look 190 34 = some (109, .bipush 9, 2, []) := rd_look_of LL_190 rfl
theorem L_190_35 : rd_look 190 35 = some (111, .aload_n 0, 1, []) := rd_look_of LL_190 rfl
theorem L_190_36 : rd_look 190 36 = some (112, .getfield 129, 3, [12, 0, 141]) := rd_look_of LL_190 rfl
theorem L_190_37 : rd_look 190 37 = some (115, .iadd, 1, []) := rd_look_of LL_190 rfl
theorem L_190_38 : rd_look 190 38 = some (116, .invokestatic 133, 3, [137, 3, 158]) := rd_look_of LL_190 rfl
theorem L_190_39 : rd_look 190 39 = some (119, .ifCond .eq 15, 3, [47]) := rd_look_of LL_190 rfl
theorem L_190_40 : rd_look 190 40 = some (122, .aload_n 0, 1, []) := rd_look_of LL_190 rfl
theorem L_190_41 : rd_look 190 41 = some (123, .getfield 13, 3, [12, 2, 103]) := rd_look_of LL_190 rfl
theorem L_190_42 : rd_look 190 42 = some (126, .iload_n 1, 1, []) := rd_look_of LL_190 rfl
theorem L_190_43 : rd_look 190 43 = some (127, .bipush 10, 2, []) := rd_look_of LL_190 rfl
theorem L_190_44 : rd_look 190 44 = some (129, .isub, 1, []) := rd_look_of LL_190 rfl
theorem L_190_45 : rd_look 190 45 = some (130, .iaload, 1, []) := rd_look_of LL_190 rfl
theorem L_190_46 : rd_look 190 46 = some (131, .goto 4, 3, [48]) := rd_look_of LL_190 rfl
theorem L_190_47 : rd_look 190 47 = some (134, .iconst (-1), 1, []) := rd_look_of LL_190 rfl
theorem L_190_48 : rd_look 190 48 = some (135, .ireturn, 1, []) := rd_look_of LL_190 rfl
theorem L_191_0 : rd_look 191 0 = some (0, .aload_n 0, 1, []) := rd_look_of LL_191 rfl
theorem L_191_1 : rd_look 191 1 = some (1, .getfield 215, 3, [12, 23, 149]) := rd_look_of LL_191 rfl
theorem L_191_2 : rd_look 191 2 = some (4, .istore_n 1, 1, []) := rd_look_of LL_191 rfl
theorem L_191_3 : rd_look 191 3 = some (5, .aload_n 0, 1, []) := rd_look_of LL_191 rfl
theorem L_191_4 : rd_look 191 4 = some (6, .iconst 0, 1, []) := rd_look_of LL_191 rfl
theorem L_191_5 : rd_look 191 5 = some (7, .putfield 215, 3, [12, 23, 149, 0]) := rd_look_of LL_191 rfl
theorem L_191_6 : rd_look 191 6 = some (10, .aload_n 0, 1, []) := rd_look_of LL_191 rfl
theorem L_191_7 : rd_look 191 7 = some (11, .iconst 0, 1, []) := rd_look_of LL_191 rfl
theorem L_191_8 : rd_look 191 8 = some (12, .putfield 218, 3, [12, 24, 150, 0]) := rd_look_of LL_191 rfl
theorem L_191_9 : rd_look 191 9 = some (15, .aload_n 0, 1, []) := rd_look_of LL_191 rfl
theorem L_191_10 : rd_look 191 10 = some (16, .iconst 0, 1, []) := rd_look_of LL_191 rfl
theorem L_191_11 : rd_look 191 11 = some (17, .putfield 278, 3, [12, 50, 159, 0]) := rd_look_of LL_191 rfl
theorem L_191_12 : rd_look 191 12 = some (20, .iconst 0, 1, []) := rd_look_of LL_191 rfl
theorem L_191_13 : rd_look 191 13 = some (21, .istore_n 2, 1, []) := rd_look_of LL_191 rfl
theorem L_191_14 : rd_look 191 14 = some (22, .iload_n 2, 1, []) := rd_look_of LL_191 rfl
theorem L_191_15 : rd_look 191 15 = some (23, .sipush 240, 3, []) := rd_look_of LL_191 rfl
theorem L_191_16 : rd_look 191 16 = some (26, .if_icmp .ge 16, 3, [24]) := rd_look_of LL_191 rfl
theorem L_191_17 : rd_look 191 17 = some (29, .aload_n 0, 1, []) := rd_look_of LL_191 rfl
theorem L_191_18 : rd_look 191 18 = some (30, .getfield 64, 3, [12, 21, 120]) := rd_look_of LL_191 rfl
theorem L_191_19 : rd_look 191 19 = some (33, .iload_n 2, 1, []) := rd_look_of LL_191 rfl
theorem L_191_20 : rd_look 191 20 = some (34, .iconst 0, 1, []) := rd_look_of LL_191 rfl
theorem L_191_21 : rd_look 191 21 = some (35, .bastore, 1, []) := rd_look_of LL_191 rfl
theorem L_191_22 : rd_look 191 22 = some (36, .iinc 2 1, 3, []) := rd_look_of LL_191 rfl
theorem L_191_23 : rd_look 191 23 = some (39, .goto (-17), 3, [14]) := rd_look_of LL_191 rfl
theorem L_191_24 : rd_look 191 24 = some (42, .iconst 0, 1, []) := rd_look_of LL_191 rfl
theorem L_191_25 : rd_look 191 25 = some (43, .istore_n 2, 1, []) := rd_look_of LL_191 rfl
theorem L_191_26 : rd_look 191 26 = some (44, .iload_n 2, 1, []) := rd_look_of LL_191 rfl
theorem L_191_27 : rd_look 191 27 = some (45, .bipush 80, 2, []) := rd_look_of LL_191 rfl
theorem L_191_28 : rd_look 191 28 = some (47, .if_icmp .ge 16, 3, [36]) := rd_look_of LL_191 rfl
theorem L_191_29 : rd_look 191 29 = some (50, .aload_n 0, 1, []) := rd_look_of LL_191 rfl
theorem L_191_30 : rd_look 191 30 = some (51, .getfield 61, 3, [12, 20, 119]) := rd_look_of LL_191 rfl
theorem L_191_31 : rd_look 191 31 = some (54, .iload_n 2, 1, []) := rd_look_of LL_191 rfl
theorem L_191_32 : rd_look 191 32 = some (55, .iconst 0, 1, []) := rd_look_of LL_191 rfl
theorem L_191_33 : rd_look 191 33 = some (56, .iastore, 1, []) := rd_look_of LL_191 rfl
theorem L_191_34 : rd_look 191 34 = some (57, .iinc 2 1, 3, []) := rd_look_of LL_191 rfl
theorem L_191_35 : rd_look 191 35 = some (60, .goto (-16), 3, [26]) := rd_look_of LL_191 rfl
theorem L_191_36 : rd_look 191 36 = some (63, .iconst 0, 1, []) := rd_look_of LL_191 rfl
theorem L_191_37 : rd_look 191 37 = some (64, .istore_n 2, 1, []) := rd_look_of LL_191 rfl
theorem L_191_38 : rd_look 191 38 = some (65, .iload_n 2, 1, []) := rd_look_of LL_191 rfl
theorem L_191_39 : rd_look 191 39 = some (66, .bipush 6, 2, []) := rd_look_of LL_191 rfl
theorem L_191_40 : rd_look 191 40 = some (68, .if_icmp .ge 16, 3, [48]) := rd_look_of LL_191 rfl
theorem L_191_41 : rd_look 191 41 = some (71, .aload_n 0, 1, []) := rd_look_of LL_191 rfl
theorem L_191_42 : rd_look 191 42 = some (72, .getfield 34, 3, [12, 10, 110]) := rd_look_of LL_191 rfl
theorem L_191_43 : rd_look 191 43 = some (75, .iload_n 2, 1, []) := rd_look_of LL_191 rfl
theorem L_191_44 : rd_look 191 44 = some (76, .iconst 0, 1, []) := rd_look_of LL_191 rfl
theorem L_191_45 : rd_look 191 45 = some (77, .iastore, 1, []) := rd_look_of LL_191 rfl
theorem L_191_46 : rd_look 191 46 = some (78, .iinc 2 1, 3, []) := rd_look_of LL_191 rfl
theorem L_191_47 : rd_look 191 47 = some (81, .goto (-16), 3, [38]) := rd_look_of LL_191 rfl
theorem L_191_48 : rd_look 191 48 = some (84, .iload_n 1, 1, []) := rd_look_of LL_191 rfl
theorem L_191_49 : rd_look 191 49 = some (85, .ireturn, 1, []) := rd_look_of LL_191 rfl
theorem L_193_0 : rd_look 193 0 = some (0, .iconst 0, 1, []) := rd_look_of LL_193 rfl
theorem L_193_1 : rd_look 193 1 = some (1, .istore_n 2, 1, []) := rd_look_of LL_193 rfl
theorem L_193_2 : rd_look 193 2 = some (2, .aload_n 0, 1, []) := rd_look_of LL_193 rfl
theorem L_193_3 : rd_look 193 3 = some (3, .arraylength, 1, []) := rd_look_of LL_193 rfl
theorem L_193_4 : rd_look 193 4 = some (4, .istore_n 3, 1, []) := rd_look_of LL_193 rfl
theorem L_193_5 : rd_look 193 5 = some (5, .iload_n 2, 1, []) := rd_look_of LL_193 rfl
theorem L_193_6 : rd_look 193 6 = some (6, .iload_n 3, 1, []) := rd_look_of LL_193 rfl
theorem L_193_7 : rd_look 193 7 = some (7, .if_icmp .ge 13, 3, [14]) := rd_look_of LL_193 rfl
theorem L_193_8 : rd_look 193 8 = some (10, .aload_n 0, 1, []) := rd_look_of LL_193 rfl
theorem L_193_9 : rd_look 193 9 = some (11, .iload_n 2, 1, []) := rd_look_of LL_193 rfl
theorem L_193_10 : rd_look 193 10 = some (12, .iload_n 1, 1, []) := rd_look_of LL_193 rfl
theorem L_193_11 : rd_look 193 11 = some (13, .iastore, 1, []) := rd_look_of LL_193 rfl
theorem L_193_12 : rd_look 193 12 = some (14, .iinc 2 1, 3, []) := rd_look_of LL_193 rfl
theorem L_193_13 : rd_look 193 13 = some (17, .goto (-12), 3, [5]) := rd_look_of LL_193 rfl
theorem L_193_14 : rd_look 193 14 = some (20, .return_, 1, []) := rd_look_of LL_193 rfl
