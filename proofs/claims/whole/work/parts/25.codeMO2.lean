set_option maxRecDepth 100000 in
def L_MO_read : List (Nat × Instr × Nat) := [(0, .aload_n 0, 1), (1, .iconst 0, 1), (2, .putfield 80, 3), (5, .aload_n 0, 1), (6, .aload_n 0, 1), (7, .getfield 105, 3), (10, .ifCond .le 18, 3), (13, .aload_n 0, 1), (14, .getfield 20, 3), (17, .iconst 0, 1), (18, .iaload, 1), (19, .bipush 77, 2), (21, .if_icmp .ne 7, 3), (24, .iconst 1, 1), (25, .goto 4, 3), (28, .iconst 0, 1), (29, .putfield 108, 3), (32, .aload_n 0, 1), (33, .getfield 105, 3), (36, .bipush 8, 2), (38, .if_icmp .lt 55, 3), (41, .aload_n 0, 1), (42, .getfield 20, 3), (45, .iconst 0, 1), (46, .iaload, 1), (47, .aload_n 0, 1), (48, .getfield 20, 3), (51, .iconst 1, 1), (52, .iaload, 1), (53, .if_icmp .ne 40, 3), (56, .aload_n 0, 1), (57, .getfield 20, 3), (60, .iconst 0, 1), (61, .iaload, 1), (62, .bipush 73, 2), (64, .if_icmp .eq 14, 3), (67, .aload_n 0, 1), (68, .getfield 20, 3), (71, .iconst 0, 1), (72, .iaload, 1), (73, .bipush 77, 2), (75, .if_icmp .ne 18, 3), (78, .aload_n 0, 1), (79, .ldc2_w 241, 3), (82, .iconst 2, 1), (83, .invokevirtual 243, 3), (86, .ldc2_w 325, 3), (89, .lcmp, 1), (90, .ifCond .eq 5, 3), (93, .iconst (-1), 1), (94, .ireturn, 1), (95, .aload_n 0, 1), (96, .invokevirtual 327, 3), (99, .ifCond .eq 10, 3), (102, .aload_n 0, 1), (103, .invokevirtual 331, 3), (106, .ifCond .ne 6, 3), (109, .bipush (-2), 2), (111, .ireturn, 1), (112, .aload_n 0, 1), (113, .getfield 216, 3), (116, .aload_n 0, 1), (117, .getfield 219, 3), (120, .iadd, 1), (121, .iconst 1, 1), (122, .isub, 1), (123, .aload_n 0, 1), (124, .getfield 219, 3), (127, .idiv, 1), (128, .istore_n 1, 1), (129, .iconst 0, 1), (130, .istore_n 2, 1), (131, .iload_n 2, 1), (132, .iload_n 1, 1), (133, .if_icmp .ge 35, 3), (136, .aload_n 0, 1), (137, .iconst 5, 1), (138, .iload_n 2, 1), (139, .invokevirtual 260, 3), (142, .aload_n 0, 1), (143, .bipush 7, 2), (145, .iload_n 2, 1), (146, .invokevirtual 260, 3), (149, .ladd, 1), (150, .aload_n 0, 1), (151, .getfield 105, 3), (154, .i2l, 1), (155, .lcmp, 1), (156, .ifCond .le 6, 3), (159, .bipush (-3), 2), (161, .ireturn, 1), (162, .iinc 2 1, 3), (165, .goto (-34), 3), (168, .aload_n 0, 1), (169, .iconst 0, 1), (170, .putfield 264, 3), (173, .iconst 0, 1), (174, .istore_n 2, 1), (175, .iload_n 2, 1), (176, .iload_n 1, 1), (177, .if_icmp .ge 21, 3), (180, .aload_n 0, 1), (181, .getfield 264, 3), (184, .ifCond .ne 14, 3), (187, .aload_n 0, 1), (188, .iload_n 2, 1), (189, .invokevirtual 334, 3), (192, .iinc 2 1, 3), (195, .goto (-20), 3), (198, .aload_n 0, 1), (199, .getfield 264, 3), (202, .ifCond .eq 6, 3), (205, .bipush (-4), 2), (207, .ireturn, 1), (208, .aload_n 0, 1), (209, .aload_n 0, 1), (210, .getfield 128, 3), (213, .putfield 97, 3), (216, .aload_n 0, 1), (217, .aload_n 0, 1), (218, .getfield 131, 3), (221, .putfield 7, 3), (224, .aload_n 0, 1), (225, .aload_n 0, 1), (226, .getfield 216, 3), (229, .putfield 13, 3), (232, .iconst 0, 1), (233, .istore_n 2, 1), (234, .iload_n 2, 1), (235, .sipush 960, 3), (238, .if_icmp .ge 38, 3), (241, .aload_n 0, 1), (242, .getfield 16, 3), (245, .iload_n 2, 1), (246, .iload_n 2, 1), (247, .aload_n 0, 1), (248, .getfield 131, 3), (251, .aload_n 0, 1), (252, .getfield 216, 3), (255, .imul, 1), (256, .if_icmp .ge 12, 3), (259, .aload_n 0, 1), (260, .getfield 35, 3), (263, .iload_n 2, 1), (264, .iaload, 1), (265, .goto 4, 3), (268, .iconst 0, 1), (269, .iastore, 1), (270, .iinc 2 1, 3), (273, .goto (-39), 3), (276, .aload_n 0, 1), (277, .iload_n 1, 1), (278, .invokevirtual 236, 3), (281, .iload_n 1, 1), (282, .ireturn, 1)]
set_option maxRecDepth 100000 in
theorem D_MO_read : ∀ q ∈ L_MO_read, decode prog_14_method_64_code q.1 = .ok q.2 := by decide +kernel
theorem d_MO_read_0 : decode M_MO_read.2.1 0 = .ok (.aload_n 0, 1) := fx_d (q := (0, .aload_n 0, 1)) D_MO_read 0 rfl
theorem d_MO_read_1 : decode M_MO_read.2.1 1 = .ok (.iconst 0, 1) := fx_d (q := (1, .iconst 0, 1)) D_MO_read 1 rfl
theorem d_MO_read_2 : decode M_MO_read.2.1 2 = .ok (.putfield 80, 3) := fx_d (q := (2, .putfield 80, 3)) D_MO_read 2 rfl
theorem d_MO_read_5 : decode M_MO_read.2.1 5 = .ok (.aload_n 0, 1) := fx_d (q := (5, .aload_n 0, 1)) D_MO_read 3 rfl
theorem d_MO_read_6 : decode M_MO_read.2.1 6 = .ok (.aload_n 0, 1) := fx_d (q := (6, .aload_n 0, 1)) D_MO_read 4 rfl
theorem d_MO_read_7 : decode M_MO_read.2.1 7 = .ok (.getfield 105, 3) := fx_d (q := (7, .getfield 105, 3)) D_MO_read 5 rfl
theorem d_MO_read_10 : decode M_MO_read.2.1 10 = .ok (.ifCond .le 18, 3) := fx_d (q := (10, .ifCond .le 18, 3)) D_MO_read 6 rfl
theorem d_MO_read_13 : decode M_MO_read.2.1 13 = .ok (.aload_n 0, 1) := fx_d (q := (13, .aload_n 0, 1)) D_MO_read 7 rfl
theorem d_MO_read_14 : decode M_MO_read.2.1 14 = .ok (.getfield 20, 3) := fx_d (q := (14, .getfield 20, 3)) D_MO_read 8 rfl
theorem d_MO_read_17 : decode M_MO_read.2.1 17 = .ok (.iconst 0, 1) := fx_d (q := (17, .iconst 0, 1)) D_MO_read 9 rfl
theorem d_MO_read_18 : decode M_MO_read.2.1 18 = .ok (.iaload, 1) := fx_d (q := (18, .iaload, 1)) D_MO_read 10 rfl
theorem d_MO_read_19 : decode M_MO_read.2.1 19 = .ok (.bipush 77, 2) := fx_d (q := (19, .bipush 77, 2)) D_MO_read 11 rfl
theorem d_MO_read_21 : decode M_MO_read.2.1 21 = .ok (.if_icmp .ne 7, 3) := fx_d (q := (21, .if_icmp .ne 7, 3)) D_MO_read 12 rfl
theorem d_MO_read_24 : decode M_MO_read.2.1 24 = .ok (.iconst 1, 1) := fx_d (q := (24, .iconst 1, 1)) D_MO_read 13 rfl
theorem d_MO_read_25 : decode M_MO_read.2.1 25 = .ok (.goto 4, 3) := fx_d (q := (25, .goto 4, 3)) D_MO_read 14 rfl
theorem d_MO_read_28 : decode M_MO_read.2.1 28 = .ok (.iconst 0, 1) := fx_d (q := (28, .iconst 0, 1)) D_MO_read 15 rfl
theorem d_MO_read_29 : decode M_MO_read.2.1 29 = .ok (.putfield 108, 3) := fx_d (q := (29, .putfield 108, 3)) D_MO_read 16 rfl
theorem d_MO_read_32 : decode M_MO_read.2.1 32 = .ok (.aload_n 0, 1) := fx_d (q := (32, .aload_n 0, 1)) D_MO_read 17 rfl
theorem d_MO_read_33 : decode M_MO_read.2.1 33 = .ok (.getfield 105, 3) := fx_d (q := (33, .getfield 105, 3)) D_MO_read 18 rfl
theorem d_MO_read_36 : decode M_MO_read.2.1 36 = .ok (.bipush 8, 2) := fx_d (q := (36, .bipush 8, 2)) D_MO_read 19 rfl
theorem d_MO_read_38 : decode M_MO_read.2.1 38 = .ok (.if_icmp .lt 55, 3) := fx_d (q := (38, .if_icmp .lt 55, 3)) D_MO_read 20 rfl
theorem d_MO_read_41 : decode M_MO_read.2.1 41 = .ok (.aload_n 0, 1) := fx_d (q := (41, .aload_n 0, 1)) D_MO_read 21 rfl
theorem d_MO_read_42 : decode M_MO_read.2.1 42 = .ok (.getfield 20, 3) := fx_d (q := (42, .getfield 20, 3)) D_MO_read 22 rfl
theorem d_MO_read_45 : decode M_MO_read.2.1 45 = .ok (.iconst 0, 1) := fx_d (q := (45, .iconst 0, 1)) D_MO_read 23 rfl
theorem d_MO_read_46 : decode M_MO_read.2.1 46 = .ok (.iaload, 1) := fx_d (q := (46, .iaload, 1)) D_MO_read 24 rfl
theorem d_MO_read_47 : decode M_MO_read.2.1 47 = .ok (.aload_n 0, 1) := fx_d (q := (47, .aload_n 0, 1)) D_MO_read 25 rfl
theorem d_MO_read_48 : decode M_MO_read.2.1 48 = .ok (.getfield 20, 3) := fx_d (q := (48, .getfield 20, 3)) D_MO_read 26 rfl
theorem d_MO_read_51 : decode M_MO_read.2.1 51 = .ok (.iconst 1, 1) := fx_d (q := (51, .iconst 1, 1)) D_MO_read 27 rfl
theorem d_MO_read_52 : decode M_MO_read.2.1 52 = .ok (.iaload, 1) := fx_d (q := (52, .iaload, 1)) D_MO_read 28 rfl
theorem d_MO_read_53 : decode M_MO_read.2.1 53 = .ok (.if_icmp .ne 40, 3) := fx_d (q := (53, .if_icmp .ne 40, 3)) D_MO_read 29 rfl
theorem d_MO_read_56 : decode M_MO_read.2.1 56 = .ok (.aload_n 0, 1) := fx_d (q := (56, .aload_n 0, 1)) D_MO_read 30 rfl
theorem d_MO_read_57 : decode M_MO_read.2.1 57 = .ok (.getfield 20, 3) := fx_d (q := (57, .getfield 20, 3)) D_MO_read 31 rfl
theorem d_MO_read_60 : decode M_MO_read.2.1 60 = .ok (.iconst 0, 1) := fx_d (q := (60, .iconst 0, 1)) D_MO_read 32 rfl
theorem d_MO_read_61 : decode M_MO_read.2.1 61 = .ok (.iaload, 1) := fx_d (q := (61, .iaload, 1)) D_MO_read 33 rfl
theorem d_MO_read_62 : decode M_MO_read.2.1 62 = .ok (.bipush 73, 2) := fx_d (q := (62, .bipush 73, 2)) D_MO_read 34 rfl
theorem d_MO_read_64 : decode M_MO_read.2.1 64 = .ok (.if_icmp .eq 14, 3) := fx_d (q := (64, .if_icmp .eq 14, 3)) D_MO_read 35 rfl
theorem d_MO_read_67 : decode M_MO_read.2.1 67 = .ok (.aload_n 0, 1) := fx_d (q := (67, .aload_n 0, 1)) D_MO_read 36 rfl
theorem d_MO_read_68 : decode M_MO_read.2.1 68 = .ok (.getfield 20, 3) := fx_d (q := (68, .getfield 20, 3)) D_MO_read 37 rfl
theorem d_MO_read_71 : decode M_MO_read.2.1 71 = .ok (.iconst 0, 1) := fx_d (q := (71, .iconst 0, 1)) D_MO_read 38 rfl
theorem d_MO_read_72 : decode M_MO_read.2.1 72 = .ok (.iaload, 1) := fx_d (q := (72, .iaload, 1)) D_MO_read 39 rfl
theorem d_MO_read_73 : decode M_MO_read.2.1 73 = .ok (.bipush 77, 2) := fx_d (q := (73, .bipush 77, 2)) D_MO_read 40 rfl
theorem d_MO_read_75 : decode M_MO_read.2.1 75 = .ok (.if_icmp .ne 18, 3) := fx_d (q := (75, .if_icmp .ne 18, 3)) D_MO_read 41 rfl
theorem d_MO_read_78 : decode M_MO_read.2.1 78 = .ok (.aload_n 0, 1) := fx_d (q := (78, .aload_n 0, 1)) D_MO_read 42 rfl
theorem d_MO_read_79 : decode M_MO_read.2.1 79 = .ok (.ldc2_w 241, 3) := fx_d (q := (79, .ldc2_w 241, 3)) D_MO_read 43 rfl
theorem d_MO_read_82 : decode M_MO_read.2.1 82 = .ok (.iconst 2, 1) := fx_d (q := (82, .iconst 2, 1)) D_MO_read 44 rfl
theorem d_MO_read_83 : decode M_MO_read.2.1 83 = .ok (.invokevirtual 243, 3) := fx_d (q := (83, .invokevirtual 243, 3)) D_MO_read 45 rfl
theorem d_MO_read_86 : decode M_MO_read.2.1 86 = .ok (.ldc2_w 325, 3) := fx_d (q := (86, .ldc2_w 325, 3)) D_MO_read 46 rfl
theorem d_MO_read_89 : decode M_MO_read.2.1 89 = .ok (.lcmp, 1) := fx_d (q := (89, .lcmp, 1)) D_MO_read 47 rfl
theorem d_MO_read_90 : decode M_MO_read.2.1 90 = .ok (.ifCond .eq 5, 3) := fx_d (q := (90, .ifCond .eq 5, 3)) D_MO_read 48 rfl
theorem d_MO_read_93 : decode M_MO_read.2.1 93 = .ok (.iconst (-1), 1) := fx_d (q := (93, .iconst (-1), 1)) D_MO_read 49 rfl
theorem d_MO_read_94 : decode M_MO_read.2.1 94 = .ok (.ireturn, 1) := fx_d (q := (94, .ireturn, 1)) D_MO_read 50 rfl
theorem d_MO_read_95 : decode M_MO_read.2.1 95 = .ok (.aload_n 0, 1) := fx_d (q := (95, .aload_n 0, 1)) D_MO_read 51 rfl
theorem d_MO_read_96 : decode M_MO_read.2.1 96 = .ok (.invokevirtual 327, 3) := fx_d (q := (96, .invokevirtual 327, 3)) D_MO_read 52 rfl
theorem d_MO_read_99 : decode M_MO_read.2.1 99 = .ok (.ifCond .eq 10, 3) := fx_d (q := (99, .ifCond .eq 10, 3)) D_MO_read 53 rfl
theorem d_MO_read_102 : decode M_MO_read.2.1 102 = .ok (.aload_n 0, 1) := fx_d (q := (102, .aload_n 0, 1)) D_MO_read 54 rfl
theorem d_MO_read_103 : decode M_MO_read.2.1 103 = .ok (.invokevirtual 331, 3) := fx_d (q := (103, .invokevirtual 331, 3)) D_MO_read 55 rfl
theorem d_MO_read_106 : decode M_MO_read.2.1 106 = .ok (.ifCond .ne 6, 3) := fx_d (q := (106, .ifCond .ne 6, 3)) D_MO_read 56 rfl
theorem d_MO_read_109 : decode M_MO_read.2.1 109 = .ok (.bipush (-2), 2) := fx_d (q := (109, .bipush (-2), 2)) D_MO_read 57 rfl
theorem d_MO_read_111 : decode M_MO_read.2.1 111 = .ok (.ireturn, 1) := fx_d (q := (111, .ireturn, 1)) D_MO_read 58 rfl
theorem d_MO_read_112 : decode M_MO_read.2.1 112 = .ok (.aload_n 0, 1) := fx_d (q := (112, .aload_n 0, 1)) D_MO_read 59 rfl
theorem d_MO_read_113 : decode M_MO_read.2.1 113 = .ok (.getfield 216, 3) := fx_d (q := (113, .getfield 216, 3)) D_MO_read 60 rfl
theorem d_MO_read_116 : decode M_MO_read.2.1 116 = .ok (.aload_n 0, 1) := fx_d (q := (116, .aload_n 0, 1)) D_MO_read 61 rfl
theorem d_MO_read_117 : decode M_MO_read.2.1 117 = .ok (.getfield 219, 3) := fx_d (q := (117, .getfield 219, 3)) D_MO_read 62 rfl
theorem d_MO_read_120 : decode M_MO_read.2.1 120 = .ok (.iadd, 1) := fx_d (q := (120, .iadd, 1)) D_MO_read 63 rfl
theorem d_MO_read_121 : decode M_MO_read.2.1 121 = .ok (.iconst 1, 1) := fx_d (q := (121, .iconst 1, 1)) D_MO_read 64 rfl
theorem d_MO_read_122 : decode M_MO_read.2.1 122 = .ok (.isub, 1) := fx_d (q := (122, .isub, 1)) D_MO_read 65 rfl
theorem d_MO_read_123 : decode M_MO_read.2.1 123 = .ok (.aload_n 0, 1) := fx_d (q := (123, .aload_n 0, 1)) D_MO_read 66 rfl
theorem d_MO_read_124 : decode M_MO_read.2.1 124 = .ok (.getfield 219, 3) := fx_d (q := (124, .getfield 219, 3)) D_MO_read 67 rfl
theorem d_MO_read_127 : decode M_MO_read.2.1 127 = .ok (.idiv, 1) := fx_d (q := (127, .idiv, 1)) D_MO_read 68 rfl
theorem d_MO_read_128 : decode M_MO_read.2.1 128 = .ok (.istore_n 1, 1) := fx_d (q := (128, .istore_n 1, 1)) D_MO_read 69 rfl
theorem d_MO_read_129 : decode M_MO_read.2.1 129 = .ok (.iconst 0, 1) := fx_d (q := (129, .iconst 0, 1)) D_MO_read 70 rfl
theorem d_MO_read_130 : decode M_MO_read.2.1 130 = .ok (.istore_n 2, 1) := fx_d (q := (130, .istore_n 2, 1)) D_MO_read 71 rfl
theorem d_MO_read_131 : decode M_MO_read.2.1 131 = .ok (.iload_n 2, 1) := fx_d (q := (131, .iload_n 2, 1)) D_MO_read 72 rfl
theorem d_MO_read_132 : decode M_MO_read.2.1 132 = .ok (.iload_n 1, 1) := fx_d (q := (132, .iload_n 1, 1)) D_MO_read 73 rfl
theorem d_MO_read_133 : decode M_MO_read.2.1 133 = .ok (.if_icmp .ge 35, 3) := fx_d (q := (133, .if_icmp .ge 35, 3)) D_MO_read 74 rfl
theorem d_MO_read_136 : decode M_MO_read.2.1 136 = .ok (.aload_n 0, 1) := fx_d (q := (136, .aload_n 0, 1)) D_MO_read 75 rfl
theorem d_MO_read_137 : decode M_MO_read.2.1 137 = .ok (.iconst 5, 1) := fx_d (q := (137, .iconst 5, 1)) D_MO_read 76 rfl
theorem d_MO_read_138 : decode M_MO_read.2.1 138 = .ok (.iload_n 2, 1) := fx_d (q := (138, .iload_n 2, 1)) D_MO_read 77 rfl
theorem d_MO_read_139 : decode M_MO_read.2.1 139 = .ok (.invokevirtual 260, 3) := fx_d (q := (139, .invokevirtual 260, 3)) D_MO_read 78 rfl
theorem d_MO_read_142 : decode M_MO_read.2.1 142 = .ok (.aload_n 0, 1) := fx_d (q := (142, .aload_n 0, 1)) D_MO_read 79 rfl
theorem d_MO_read_143 : decode M_MO_read.2.1 143 = .ok (.bipush 7, 2) := fx_d (q := (143, .bipush 7, 2)) D_MO_read 80 rfl
theorem d_MO_read_145 : decode M_MO_read.2.1 145 = .ok (.iload_n 2, 1) := fx_d (q := (145, .iload_n 2, 1)) D_MO_read 81 rfl
theorem d_MO_read_146 : decode M_MO_read.2.1 146 = .ok (.invokevirtual 260, 3) := fx_d (q := (146, .invokevirtual 260, 3)) D_MO_read 82 rfl
theorem d_MO_read_149 : decode M_MO_read.2.1 149 = .ok (.ladd, 1) := fx_d (q := (149, .ladd, 1)) D_MO_read 83 rfl
theorem d_MO_read_150 : decode M_MO_read.2.1 150 = .ok (.aload_n 0, 1) := fx_d (q := (150, .aload_n 0, 1)) D_MO_read 84 rfl
theorem d_MO_read_151 : decode M_MO_read.2.1 151 = .ok (.getfield 105, 3) := fx_d (q := (151, .getfield 105, 3)) D_MO_read 85 rfl
theorem d_MO_read_154 : decode M_MO_read.2.1 154 = .ok (.i2l, 1) := fx_d (q := (154, .i2l, 1)) D_MO_read 86 rfl
theorem d_MO_read_155 : decode M_MO_read.2.1 155 = .ok (.lcmp, 1) := fx_d (q := (155, .lcmp, 1)) D_MO_read 87 rfl
theorem d_MO_read_156 : decode M_MO_read.2.1 156 = .ok (.ifCond .le 6, 3) := fx_d (q := (156, .ifCond .le 6, 3)) D_MO_read 88 rfl
theorem d_MO_read_159 : decode M_MO_read.2.1 159 = .ok (.bipush (-3), 2) := fx_d (q := (159, .bipush (-3), 2)) D_MO_read 89 rfl
theorem d_MO_read_161 : decode M_MO_read.2.1 161 = .ok (.ireturn, 1) := fx_d (q := (161, .ireturn, 1)) D_MO_read 90 rfl
theorem d_MO_read_162 : decode M_MO_read.2.1 162 = .ok (.iinc 2 1, 3) := fx_d (q := (162, .iinc 2 1, 3)) D_MO_read 91 rfl
theorem d_MO_read_165 : decode M_MO_read.2.1 165 = .ok (.goto (-34), 3) := fx_d (q := (165, .goto (-34), 3)) D_MO_read 92 rfl
theorem d_MO_read_168 : decode M_MO_read.2.1 168 = .ok (.aload_n 0, 1) := fx_d (q := (168, .aload_n 0, 1)) D_MO_read 93 rfl
theorem d_MO_read_169 : decode M_MO_read.2.1 169 = .ok (.iconst 0, 1) := fx_d (q := (169, .iconst 0, 1)) D_MO_read 94 rfl
theorem d_MO_read_170 : decode M_MO_read.2.1 170 = .ok (.putfield 264, 3) := fx_d (q := (170, .putfield 264, 3)) D_MO_read 95 rfl
theorem d_MO_read_173 : decode M_MO_read.2.1 173 = .ok (.iconst 0, 1) := fx_d (q := (173, .iconst 0, 1)) D_MO_read 96 rfl
theorem d_MO_read_174 : decode M_MO_read.2.1 174 = .ok (.istore_n 2, 1) := fx_d (q := (174, .istore_n 2, 1)) D_MO_read 97 rfl
theorem d_MO_read_175 : decode M_MO_read.2.1 175 = .ok (.iload_n 2, 1) := fx_d (q := (175, .iload_n 2, 1)) D_MO_read 98 rfl
theorem d_MO_read_176 : decode M_MO_read.2.1 176 = .ok (.iload_n 1, 1) := fx_d (q := (176, .iload_n 1, 1)) D_MO_read 99 rfl
theorem d_MO_read_177 : decode M_MO_read.2.1 177 = .ok (.if_icmp .ge 21, 3) := fx_d (q := (177, .if_icmp .ge 21, 3)) D_MO_read 100 rfl
theorem d_MO_read_180 : decode M_MO_read.2.1 180 = .ok (.aload_n 0, 1) := fx_d (q := (180, .aload_n 0, 1)) D_MO_read 101 rfl
theorem d_MO_read_181 : decode M_MO_read.2.1 181 = .ok (.getfield 264, 3) := fx_d (q := (181, .getfield 264, 3)) D_MO_read 102 rfl
theorem d_MO_read_184 : decode M_MO_read.2.1 184 = .ok (.ifCond .ne 14, 3) := fx_d (q := (184, .ifCond .ne 14, 3)) D_MO_read 103 rfl
theorem d_MO_read_187 : decode M_MO_read.2.1 187 = .ok (.aload_n 0, 1) := fx_d (q := (187, .aload_n 0, 1)) D_MO_read 104 rfl
theorem d_MO_read_188 : decode M_MO_read.2.1 188 = .ok (.iload_n 2, 1) := fx_d (q := (188, .iload_n 2, 1)) D_MO_read 105 rfl
theorem d_MO_read_189 : decode M_MO_read.2.1 189 = .ok (.invokevirtual 334, 3) := fx_d (q := (189, .invokevirtual 334, 3)) D_MO_read 106 rfl
theorem d_MO_read_192 : decode M_MO_read.2.1 192 = .ok (.iinc 2 1, 3) := fx_d (q := (192, .iinc 2 1, 3)) D_MO_read 107 rfl
theorem d_MO_read_195 : decode M_MO_read.2.1 195 = .ok (.goto (-20), 3) := fx_d (q := (195, .goto (-20), 3)) D_MO_read 108 rfl
theorem d_MO_read_198 : decode M_MO_read.2.1 198 = .ok (.aload_n 0, 1) := fx_d (q := (198, .aload_n 0, 1)) D_MO_read 109 rfl
theorem d_MO_read_199 : decode M_MO_read.2.1 199 = .ok (.getfield 264, 3) := fx_d (q := (199, .getfield 264, 3)) D_MO_read 110 rfl
theorem d_MO_read_202 : decode M_MO_read.2.1 202 = .ok (.ifCond .eq 6, 3) := fx_d (q := (202, .ifCond .eq 6, 3)) D_MO_read 111 rfl
theorem d_MO_read_205 : decode M_MO_read.2.1 205 = .ok (.bipush (-4), 2) := fx_d (q := (205, .bipush (-4), 2)) D_MO_read 112 rfl
theorem d_MO_read_207 : decode M_MO_read.2.1 207 = .ok (.ireturn, 1) := fx_d (q := (207, .ireturn, 1)) D_MO_read 113 rfl
theorem d_MO_read_208 : decode M_MO_read.2.1 208 = .ok (.aload_n 0, 1) := fx_d (q := (208, .aload_n 0, 1)) D_MO_read 114 rfl
theorem d_MO_read_209 : decode M_MO_read.2.1 209 = .ok (.aload_n 0, 1) := fx_d (q := (209, .aload_n 0, 1)) D_MO_read 115 rfl
theorem d_MO_read_210 : decode M_MO_read.2.1 210 = .ok (.getfield 128, 3) := fx_d (q := (210, .getfield 128, 3)) D_MO_read 116 rfl
theorem d_MO_read_213 : decode M_MO_read.2.1 213 = .ok (.putfield 97, 3) := fx_d (q := (213, .putfield 97, 3)) D_MO_read 117 rfl
theorem d_MO_read_216 : decode M_MO_read.2.1 216 = .ok (.aload_n 0, 1) := fx_d (q := (216, .aload_n 0, 1)) D_MO_read 118 rfl
theorem d_MO_read_217 : decode M_MO_read.2.1 217 = .ok (.aload_n 0, 1) := fx_d (q := (217, .aload_n 0, 1)) D_MO_read 119 rfl
theorem d_MO_read_218 : decode M_MO_read.2.1 218 = .ok (.getfield 131, 3) := fx_d (q := (218, .getfield 131, 3)) D_MO_read 120 rfl
theorem d_MO_read_221 : decode M_MO_read.2.1 221 = .ok (.putfield 7, 3) := fx_d (q := (221, .putfield 7, 3)) D_MO_read 121 rfl
theorem d_MO_read_224 : decode M_MO_read.2.1 224 = .ok (.aload_n 0, 1) := fx_d (q := (224, .aload_n 0, 1)) D_MO_read 122 rfl
theorem d_MO_read_225 : decode M_MO_read.2.1 225 = .ok (.aload_n 0, 1) := fx_d (q := (225, .aload_n 0, 1)) D_MO_read 123 rfl
theorem d_MO_read_226 : decode M_MO_read.2.1 226 = .ok (.getfield 216, 3) := fx_d (q := (226, .getfield 216, 3)) D_MO_read 124 rfl
theorem d_MO_read_229 : decode M_MO_read.2.1 229 = .ok (.putfield 13, 3) := fx_d (q := (229, .putfield 13, 3)) D_MO_read 125 rfl
theorem d_MO_read_232 : decode M_MO_read.2.1 232 = .ok (.iconst 0, 1) := fx_d (q := (232, .iconst 0, 1)) D_MO_read 126 rfl
theorem d_MO_read_233 : decode M_MO_read.2.1 233 = .ok (.istore_n 2, 1) := fx_d (q := (233, .istore_n 2, 1)) D_MO_read 127 rfl
theorem d_MO_read_234 : decode M_MO_read.2.1 234 = .ok (.iload_n 2, 1) := fx_d (q := (234, .iload_n 2, 1)) D_MO_read 128 rfl
theorem d_MO_read_235 : decode M_MO_read.2.1 235 = .ok (.sipush 960, 3) := fx_d (q := (235, .sipush 960, 3)) D_MO_read 129 rfl
theorem d_MO_read_238 : decode M_MO_read.2.1 238 = .ok (.if_icmp .ge 38, 3) := fx_d (q := (238, .if_icmp .ge 38, 3)) D_MO_read 130 rfl
theorem d_MO_read_241 : decode M_MO_read.2.1 241 = .ok (.aload_n 0, 1) := fx_d (q := (241, .aload_n 0, 1)) D_MO_read 131 rfl
theorem d_MO_read_242 : decode M_MO_read.2.1 242 = .ok (.getfield 16, 3) := fx_d (q := (242, .getfield 16, 3)) D_MO_read 132 rfl
theorem d_MO_read_245 : decode M_MO_read.2.1 245 = .ok (.iload_n 2, 1) := fx_d (q := (245, .iload_n 2, 1)) D_MO_read 133 rfl
theorem d_MO_read_246 : decode M_MO_read.2.1 246 = .ok (.iload_n 2, 1) := fx_d (q := (246, .iload_n 2, 1)) D_MO_read 134 rfl
theorem d_MO_read_247 : decode M_MO_read.2.1 247 = .ok (.aload_n 0, 1) := fx_d (q := (247, .aload_n 0, 1)) D_MO_read 135 rfl
theorem d_MO_read_248 : decode M_MO_read.2.1 248 = .ok (.getfield 131, 3) := fx_d (q := (248, .getfield 131, 3)) D_MO_read 136 rfl
theorem d_MO_read_251 : decode M_MO_read.2.1 251 = .ok (.aload_n 0, 1) := fx_d (q := (251, .aload_n 0, 1)) D_MO_read 137 rfl
theorem d_MO_read_252 : decode M_MO_read.2.1 252 = .ok (.getfield 216, 3) := fx_d (q := (252, .getfield 216, 3)) D_MO_read 138 rfl
theorem d_MO_read_255 : decode M_MO_read.2.1 255 = .ok (.imul, 1) := fx_d (q := (255, .imul, 1)) D_MO_read 139 rfl
theorem d_MO_read_256 : decode M_MO_read.2.1 256 = .ok (.if_icmp .ge 12, 3) := fx_d (q := (256, .if_icmp .ge 12, 3)) D_MO_read 140 rfl
theorem d_MO_read_259 : decode M_MO_read.2.1 259 = .ok (.aload_n 0, 1) := fx_d (q := (259, .aload_n 0, 1)) D_MO_read 141 rfl
theorem d_MO_read_260 : decode M_MO_read.2.1 260 = .ok (.getfield 35, 3) := fx_d (q := (260, .getfield 35, 3)) D_MO_read 142 rfl
theorem d_MO_read_263 : decode M_MO_read.2.1 263 = .ok (.iload_n 2, 1) := fx_d (q := (263, .iload_n 2, 1)) D_MO_read 143 rfl
theorem d_MO_read_264 : decode M_MO_read.2.1 264 = .ok (.iaload, 1) := fx_d (q := (264, .iaload, 1)) D_MO_read 144 rfl
theorem d_MO_read_265 : decode M_MO_read.2.1 265 = .ok (.goto 4, 3) := fx_d (q := (265, .goto 4, 3)) D_MO_read 145 rfl
theorem d_MO_read_268 : decode M_MO_read.2.1 268 = .ok (.iconst 0, 1) := fx_d (q := (268, .iconst 0, 1)) D_MO_read 146 rfl
theorem d_MO_read_269 : decode M_MO_read.2.1 269 = .ok (.iastore, 1) := fx_d (q := (269, .iastore, 1)) D_MO_read 147 rfl
theorem d_MO_read_270 : decode M_MO_read.2.1 270 = .ok (.iinc 2 1, 3) := fx_d (q := (270, .iinc 2 1, 3)) D_MO_read 148 rfl
theorem d_MO_read_273 : decode M_MO_read.2.1 273 = .ok (.goto (-39), 3) := fx_d (q := (273, .goto (-39), 3)) D_MO_read 149 rfl
theorem d_MO_read_276 : decode M_MO_read.2.1 276 = .ok (.aload_n 0, 1) := fx_d (q := (276, .aload_n 0, 1)) D_MO_read 150 rfl
theorem d_MO_read_277 : decode M_MO_read.2.1 277 = .ok (.iload_n 1, 1) := fx_d (q := (277, .iload_n 1, 1)) D_MO_read 151 rfl
theorem d_MO_read_278 : decode M_MO_read.2.1 278 = .ok (.invokevirtual 236, 3) := fx_d (q := (278, .invokevirtual 236, 3)) D_MO_read 152 rfl
theorem d_MO_read_281 : decode M_MO_read.2.1 281 = .ok (.iload_n 1, 1) := fx_d (q := (281, .iload_n 1, 1)) D_MO_read 153 rfl
theorem d_MO_read_282 : decode M_MO_read.2.1 282 = .ok (.ireturn, 1) := fx_d (q := (282, .ireturn, 1)) D_MO_read 154 rfl
set_option maxRecDepth 100000 in
def L_MO_number : List (Nat × Instr × Nat) := [(0, .lconst 0, 1), (1, .lstore 4, 2), (3, .iconst 0, 1), (4, .istore 6, 2), (6, .iload 6, 2), (8, .iload_n 3, 1), (9, .if_icmp .ge 58, 3), (12, .lload_n 1, 1), (13, .iload_n 3, 1), (14, .i2l, 1), (15, .ladd, 1), (16, .aload_n 0, 1), (17, .getfield 105, 3), (20, .i2l, 1), (21, .lcmp, 1), (22, .ifCond .gt 45, 3), (25, .lload 4, 2), (27, .ldc2_w 239, 3), (30, .lmul, 1), (31, .aload_n 0, 1), (32, .getfield 20, 3), (35, .lload_n 1, 1), (36, .l2i, 1), (37, .aload_n 0, 1), (38, .getfield 108, 3), (41, .ifCond .eq 8, 3), (44, .iload 6, 2), (46, .goto 9, 3), (49, .iload_n 3, 1), (50, .iconst 1, 1), (51, .isub, 1), (52, .iload 6, 2), (54, .isub, 1), (55, .iadd, 1), (56, .iaload, 1), (57, .i2l, 1), (58, .ladd, 1), (59, .lstore 4, 2), (61, .iinc 6 1, 3), (64, .goto (-58), 3), (67, .lload 4, 2), (69, .lreturn, 1)]
set_option maxRecDepth 100000 in
theorem D_MO_number : ∀ q ∈ L_MO_number, decode prog_14_method_40_code q.1 = .ok q.2 := by decide +kernel
theorem d_MO_number_0 : decode M_MO_number.2.1 0 = .ok (.lconst 0, 1) := fx_d (q := (0, .lconst 0, 1)) D_MO_number 0 rfl
theorem d_MO_number_1 : decode M_MO_number.2.1 1 = .ok (.lstore 4, 2) := fx_d (q := (1, .lstore 4, 2)) D_MO_number 1 rfl
theorem d_MO_number_3 : decode M_MO_number.2.1 3 = .ok (.iconst 0, 1) := fx_d (q := (3, .iconst 0, 1)) D_MO_number 2 rfl
theorem d_MO_number_4 : decode M_MO_number.2.1 4 = .ok (.istore 6, 2) := fx_d (q := (4, .istore 6, 2)) D_MO_number 3 rfl
theorem d_MO_number_6 : decode M_MO_number.2.1 6 = .ok (.iload 6, 2) := fx_d (q := (6, .iload 6, 2)) D_MO_number 4 rfl
theorem d_MO_number_8 : decode M_MO_number.2.1 8 = .ok (.iload_n 3, 1) := fx_d (q := (8, .iload_n 3, 1)) D_MO_number 5 rfl
theorem d_MO_number_9 : decode M_MO_number.2.1 9 = .ok (.if_icmp .ge 58, 3) := fx_d (q := (9, .if_icmp .ge 58, 3)) D_MO_number 6 rfl
theorem d_MO_number_12 : decode M_MO_number.2.1 12 = .ok (.lload_n 1, 1) := fx_d (q := (12, .lload_n 1, 1)) D_MO_number 7 rfl
theorem d_MO_number_13 : decode M_MO_number.2.1 13 = .ok (.iload_n 3, 1) := fx_d (q := (13, .iload_n 3, 1)) D_MO_number 8 rfl
theorem d_MO_number_14 : decode M_MO_number.2.1 14 = .ok (.i2l, 1) := fx_d (q := (14, .i2l, 1)) D_MO_number 9 rfl
theorem d_MO_number_15 : decode M_MO_number.2.1 15 = .ok (.ladd, 1) := fx_d (q := (15, .ladd, 1)) D_MO_number 10 rfl
theorem d_MO_number_16 : decode M_MO_number.2.1 16 = .ok (.aload_n 0, 1) := fx_d (q := (16, .aload_n 0, 1)) D_MO_number 11 rfl
theorem d_MO_number_17 : decode M_MO_number.2.1 17 = .ok (.getfield 105, 3) := fx_d (q := (17, .getfield 105, 3)) D_MO_number 12 rfl
theorem d_MO_number_20 : decode M_MO_number.2.1 20 = .ok (.i2l, 1) := fx_d (q := (20, .i2l, 1)) D_MO_number 13 rfl
theorem d_MO_number_21 : decode M_MO_number.2.1 21 = .ok (.lcmp, 1) := fx_d (q := (21, .lcmp, 1)) D_MO_number 14 rfl
theorem d_MO_number_22 : decode M_MO_number.2.1 22 = .ok (.ifCond .gt 45, 3) := fx_d (q := (22, .ifCond .gt 45, 3)) D_MO_number 15 rfl
theorem d_MO_number_25 : decode M_MO_number.2.1 25 = .ok (.lload 4, 2) := fx_d (q := (25, .lload 4, 2)) D_MO_number 16 rfl
theorem d_MO_number_27 : decode M_MO_number.2.1 27 = .ok (.ldc2_w 239, 3) := fx_d (q := (27, .ldc2_w 239, 3)) D_MO_number 17 rfl
theorem d_MO_number_30 : decode M_MO_number.2.1 30 = .ok (.lmul, 1) := fx_d (q := (30, .lmul, 1)) D_MO_number 18 rfl
theorem d_MO_number_31 : decode M_MO_number.2.1 31 = .ok (.aload_n 0, 1) := fx_d (q := (31, .aload_n 0, 1)) D_MO_number 19 rfl
theorem d_MO_number_32 : decode M_MO_number.2.1 32 = .ok (.getfield 20, 3) := fx_d (q := (32, .getfield 20, 3)) D_MO_number 20 rfl
theorem d_MO_number_35 : decode M_MO_number.2.1 35 = .ok (.lload_n 1, 1) := fx_d (q := (35, .lload_n 1, 1)) D_MO_number 21 rfl
theorem d_MO_number_36 : decode M_MO_number.2.1 36 = .ok (.l2i, 1) := fx_d (q := (36, .l2i, 1)) D_MO_number 22 rfl
theorem d_MO_number_37 : decode M_MO_number.2.1 37 = .ok (.aload_n 0, 1) := fx_d (q := (37, .aload_n 0, 1)) D_MO_number 23 rfl
theorem d_MO_number_38 : decode M_MO_number.2.1 38 = .ok (.getfield 108, 3) := fx_d (q := (38, .getfield 108, 3)) D_MO_number 24 rfl
theorem d_MO_number_41 : decode M_MO_number.2.1 41 = .ok (.ifCond .eq 8, 3) := fx_d (q := (41, .ifCond .eq 8, 3)) D_MO_number 25 rfl
theorem d_MO_number_44 : decode M_MO_number.2.1 44 = .ok (.iload 6, 2) := fx_d (q := (44, .iload 6, 2)) D_MO_number 26 rfl
theorem d_MO_number_46 : decode M_MO_number.2.1 46 = .ok (.goto 9, 3) := fx_d (q := (46, .goto 9, 3)) D_MO_number 27 rfl
theorem d_MO_number_49 : decode M_MO_number.2.1 49 = .ok (.iload_n 3, 1) := fx_d (q := (49, .iload_n 3, 1)) D_MO_number 28 rfl
theorem d_MO_number_50 : decode M_MO_number.2.1 50 = .ok (.iconst 1, 1) := fx_d (q := (50, .iconst 1, 1)) D_MO_number 29 rfl
theorem d_MO_number_51 : decode M_MO_number.2.1 51 = .ok (.isub, 1) := fx_d (q := (51, .isub, 1)) D_MO_number 30 rfl
theorem d_MO_number_52 : decode M_MO_number.2.1 52 = .ok (.iload 6, 2) := fx_d (q := (52, .iload 6, 2)) D_MO_number 31 rfl
theorem d_MO_number_54 : decode M_MO_number.2.1 54 = .ok (.isub, 1) := fx_d (q := (54, .isub, 1)) D_MO_number 32 rfl
theorem d_MO_number_55 : decode M_MO_number.2.1 55 = .ok (.iadd, 1) := fx_d (q := (55, .iadd, 1)) D_MO_number 33 rfl
theorem d_MO_number_56 : decode M_MO_number.2.1 56 = .ok (.iaload, 1) := fx_d (q := (56, .iaload, 1)) D_MO_number 34 rfl
theorem d_MO_number_57 : decode M_MO_number.2.1 57 = .ok (.i2l, 1) := fx_d (q := (57, .i2l, 1)) D_MO_number 35 rfl
theorem d_MO_number_58 : decode M_MO_number.2.1 58 = .ok (.ladd, 1) := fx_d (q := (58, .ladd, 1)) D_MO_number 36 rfl
theorem d_MO_number_59 : decode M_MO_number.2.1 59 = .ok (.lstore 4, 2) := fx_d (q := (59, .lstore 4, 2)) D_MO_number 37 rfl
theorem d_MO_number_61 : decode M_MO_number.2.1 61 = .ok (.iinc 6 1, 3) := fx_d (q := (61, .iinc 6 1, 3)) D_MO_number 38 rfl
theorem d_MO_number_64 : decode M_MO_number.2.1 64 = .ok (.goto (-58), 3) := fx_d (q := (64, .goto (-58), 3)) D_MO_number 39 rfl
theorem d_MO_number_67 : decode M_MO_number.2.1 67 = .ok (.lload 4, 2) := fx_d (q := (67, .lload 4, 2)) D_MO_number 40 rfl
theorem d_MO_number_69 : decode M_MO_number.2.1 69 = .ok (.lreturn, 1) := fx_d (q := (69, .lreturn, 1)) D_MO_number 41 rfl
set_option maxRecDepth 100000 in
def L_MO_takeTags : List (Nat × Instr × Nat) := [(0, .iconst 0, 1), (1, .istore_n 1, 1), (2, .iload_n 1, 1), (3, .bipush 9, 2), (5, .if_icmp .ge 16, 3), (8, .aload_n 0, 1), (9, .getfield 62, 3), (12, .iload_n 1, 1), (13, .iconst 0, 1), (14, .bastore, 1), (15, .iinc 1 1, 3), (18, .goto (-16), 3), (21, .aload_n 0, 1), (22, .ldc2_w 207, 3), (25, .iconst 4, 1), (26, .invokevirtual 243, 3), (29, .lstore_n 1, 1), (30, .lload_n 1, 1), (31, .ldc2_w 241, 3), (34, .ladd, 1), (35, .aload_n 0, 1), (36, .getfield 105, 3), (39, .i2l, 1), (40, .lcmp, 1), (41, .ifCond .le 5, 3), (44, .iconst 0, 1), (45, .ireturn, 1), (46, .aload_n 0, 1), (47, .lload_n 1, 1), (48, .iconst 2, 1), (49, .invokevirtual 243, 3), (52, .l2i, 1), (53, .istore_n 3, 1), (54, .lload_n 1, 1), (55, .ldc2_w 249, 3), (58, .ladd, 1), (59, .ldc2_w 251, 3), (62, .iload_n 3, 1), (63, .i2l, 1), (64, .lmul, 1), (65, .ladd, 1), (66, .aload_n 0, 1), (67, .getfield 105, 3), (70, .i2l, 1), (71, .lcmp, 1), (72, .ifCond .gt 25, 3), (75, .aload_n 0, 1), (76, .lload_n 1, 1), (77, .ldc2_w 241, 3), (80, .ladd, 1), (81, .ldc2_w 251, 3), (84, .iload_n 3, 1), (85, .i2l, 1), (86, .lmul, 1), (87, .ladd, 1), (88, .iconst 4, 1), (89, .invokevirtual 243, 3), (92, .lconst 0, 1), (93, .lcmp, 1), (94, .ifCond .eq 5, 3), (97, .iconst 0, 1), (98, .ireturn, 1), (99, .iconst (-1), 1), (100, .istore 4, 2), (102, .iconst 1, 1), (103, .istore 5, 2), (105, .iconst 0, 1), (106, .istore 6, 2), (108, .iload 6, 2), (110, .iload_n 3, 1), (111, .if_icmp .ge 80, 3), (114, .lload_n 1, 1), (115, .ldc2_w 241, 3), (118, .ladd, 1), (119, .ldc2_w 251, 3), (122, .iload 6, 2), (124, .i2l, 1), (125, .lmul, 1), (126, .ladd, 1), (127, .lstore 7, 2), (129, .aload_n 0, 1), (130, .lload 7, 2), (132, .iconst 2, 1), (133, .invokevirtual 243, 3), (136, .l2i, 1), (137, .istore 9, 2), (139, .iload 9, 2), (141, .invokestatic 253, 3), (144, .istore 10, 2), (146, .iload 5, 2), (148, .ifCond .eq 30, 3), (151, .iload 9, 2), (153, .iload 4, 2), (155, .if_icmp .le 23, 3), (158, .iload 10, 2), (160, .ifCond .lt 14, 3), (163, .aload_n 0, 1), (164, .iload 10, 2), (166, .lload 7, 2), (168, .invokevirtual 256, 3), (171, .ifCond .eq 7, 3), (174, .iconst 1, 1), (175, .goto 4, 3), (178, .iconst 0, 1), (179, .istore 5, 2), (181, .iload 9, 2), (183, .istore 4, 2), (185, .iinc 6 1, 3), (188, .goto (-80), 3), (191, .iload 5, 2), (193, .ireturn, 1)]
set_option maxRecDepth 100000 in
theorem D_MO_takeTags : ∀ q ∈ L_MO_takeTags, decode prog_14_method_43_code q.1 = .ok q.2 := by decide +kernel
theorem d_MO_takeTags_0 : decode M_MO_takeTags.2.1 0 = .ok (.iconst 0, 1) := fx_d (q := (0, .iconst 0, 1)) D_MO_takeTags 0 rfl
theorem d_MO_takeTags_1 : decode M_MO_takeTags.2.1 1 = .ok (.istore_n 1, 1) := fx_d (q := (1, .istore_n 1, 1)) D_MO_takeTags 1 rfl
theorem d_MO_takeTags_2 : decode M_MO_takeTags.2.1 2 = .ok (.iload_n 1, 1) := fx_d (q := (2, .iload_n 1, 1)) D_MO_takeTags 2 rfl
theorem d_MO_takeTags_3 : decode M_MO_takeTags.2.1 3 = .ok (.bipush 9, 2) := fx_d (q := (3, .bipush 9, 2)) D_MO_takeTags 3 rfl
theorem d_MO_takeTags_5 : decode M_MO_takeTags.2.1 5 = .ok (.if_icmp .ge 16, 3) := fx_d (q := (5, .if_icmp .ge 16, 3)) D_MO_takeTags 4 rfl
theorem d_MO_takeTags_8 : decode M_MO_takeTags.2.1 8 = .ok (.aload_n 0, 1) := fx_d (q := (8, .aload_n 0, 1)) D_MO_takeTags 5 rfl
theorem d_MO_takeTags_9 : decode M_MO_takeTags.2.1 9 = .ok (.getfield 62, 3) := fx_d (q := (9, .getfield 62, 3)) D_MO_takeTags 6 rfl
theorem d_MO_takeTags_12 : decode M_MO_takeTags.2.1 12 = .ok (.iload_n 1, 1) := fx_d (q := (12, .iload_n 1, 1)) D_MO_takeTags 7 rfl
theorem d_MO_takeTags_13 : decode M_MO_takeTags.2.1 13 = .ok (.iconst 0, 1) := fx_d (q := (13, .iconst 0, 1)) D_MO_takeTags 8 rfl
theorem d_MO_takeTags_14 : decode M_MO_takeTags.2.1 14 = .ok (.bastore, 1) := fx_d (q := (14, .bastore, 1)) D_MO_takeTags 9 rfl
theorem d_MO_takeTags_15 : decode M_MO_takeTags.2.1 15 = .ok (.iinc 1 1, 3) := fx_d (q := (15, .iinc 1 1, 3)) D_MO_takeTags 10 rfl
theorem d_MO_takeTags_18 : decode M_MO_takeTags.2.1 18 = .ok (.goto (-16), 3) := fx_d (q := (18, .goto (-16), 3)) D_MO_takeTags 11 rfl
theorem d_MO_takeTags_21 : decode M_MO_takeTags.2.1 21 = .ok (.aload_n 0, 1) := fx_d (q := (21, .aload_n 0, 1)) D_MO_takeTags 12 rfl
theorem d_MO_takeTags_22 : decode M_MO_takeTags.2.1 22 = .ok (.ldc2_w 207, 3) := fx_d (q := (22, .ldc2_w 207, 3)) D_MO_takeTags 13 rfl
theorem d_MO_takeTags_25 : decode M_MO_takeTags.2.1 25 = .ok (.iconst 4, 1) := fx_d (q := (25, .iconst 4, 1)) D_MO_takeTags 14 rfl
theorem d_MO_takeTags_26 : decode M_MO_takeTags.2.1 26 = .ok (.invokevirtual 243, 3) := fx_d (q := (26, .invokevirtual 243, 3)) D_MO_takeTags 15 rfl
theorem d_MO_takeTags_29 : decode M_MO_takeTags.2.1 29 = .ok (.lstore_n 1, 1) := fx_d (q := (29, .lstore_n 1, 1)) D_MO_takeTags 16 rfl
theorem d_MO_takeTags_30 : decode M_MO_takeTags.2.1 30 = .ok (.lload_n 1, 1) := fx_d (q := (30, .lload_n 1, 1)) D_MO_takeTags 17 rfl
theorem d_MO_takeTags_31 : decode M_MO_takeTags.2.1 31 = .ok (.ldc2_w 241, 3) := fx_d (q := (31, .ldc2_w 241, 3)) D_MO_takeTags 18 rfl
theorem d_MO_takeTags_34 : decode M_MO_takeTags.2.1 34 = .ok (.ladd, 1) := fx_d (q := (34, .ladd, 1)) D_MO_takeTags 19 rfl
theorem d_MO_takeTags_35 : decode M_MO_takeTags.2.1 35 = .ok (.aload_n 0, 1) := fx_d (q := (35, .aload_n 0, 1)) D_MO_takeTags 20 rfl
theorem d_MO_takeTags_36 : decode M_MO_takeTags.2.1 36 = .ok (.getfield 105, 3) := fx_d (q := (36, .getfield 105, 3)) D_MO_takeTags 21 rfl
theorem d_MO_takeTags_39 : decode M_MO_takeTags.2.1 39 = .ok (.i2l, 1) := fx_d (q := (39, .i2l, 1)) D_MO_takeTags 22 rfl
theorem d_MO_takeTags_40 : decode M_MO_takeTags.2.1 40 = .ok (.lcmp, 1) := fx_d (q := (40, .lcmp, 1)) D_MO_takeTags 23 rfl
theorem d_MO_takeTags_41 : decode M_MO_takeTags.2.1 41 = .ok (.ifCond .le 5, 3) := fx_d (q := (41, .ifCond .le 5, 3)) D_MO_takeTags 24 rfl
theorem d_MO_takeTags_44 : decode M_MO_takeTags.2.1 44 = .ok (.iconst 0, 1) := fx_d (q := (44, .iconst 0, 1)) D_MO_takeTags 25 rfl
theorem d_MO_takeTags_45 : decode M_MO_takeTags.2.1 45 = .ok (.ireturn, 1) := fx_d (q := (45, .ireturn, 1)) D_MO_takeTags 26 rfl
theorem d_MO_takeTags_46 : decode M_MO_takeTags.2.1 46 = .ok (.aload_n 0, 1) := fx_d (q := (46, .aload_n 0, 1)) D_MO_takeTags 27 rfl
theorem d_MO_takeTags_47 : decode M_MO_takeTags.2.1 47 = .ok (.lload_n 1, 1) := fx_d (q := (47, .lload_n 1, 1)) D_MO_takeTags 28 rfl
theorem d_MO_takeTags_48 : decode M_MO_takeTags.2.1 48 = .ok (.iconst 2, 1) := fx_d (q := (48, .iconst 2, 1)) D_MO_takeTags 29 rfl
theorem d_MO_takeTags_49 : decode M_MO_takeTags.2.1 49 = .ok (.invokevirtual 243, 3) := fx_d (q := (49, .invokevirtual 243, 3)) D_MO_takeTags 30 rfl
theorem d_MO_takeTags_52 : decode M_MO_takeTags.2.1 52 = .ok (.l2i, 1) := fx_d (q := (52, .l2i, 1)) D_MO_takeTags 31 rfl
theorem d_MO_takeTags_53 : decode M_MO_takeTags.2.1 53 = .ok (.istore_n 3, 1) := fx_d (q := (53, .istore_n 3, 1)) D_MO_takeTags 32 rfl
theorem d_MO_takeTags_54 : decode M_MO_takeTags.2.1 54 = .ok (.lload_n 1, 1) := fx_d (q := (54, .lload_n 1, 1)) D_MO_takeTags 33 rfl
theorem d_MO_takeTags_55 : decode M_MO_takeTags.2.1 55 = .ok (.ldc2_w 249, 3) := fx_d (q := (55, .ldc2_w 249, 3)) D_MO_takeTags 34 rfl
theorem d_MO_takeTags_58 : decode M_MO_takeTags.2.1 58 = .ok (.ladd, 1) := fx_d (q := (58, .ladd, 1)) D_MO_takeTags 35 rfl
theorem d_MO_takeTags_59 : decode M_MO_takeTags.2.1 59 = .ok (.ldc2_w 251, 3) := fx_d (q := (59, .ldc2_w 251, 3)) D_MO_takeTags 36 rfl
theorem d_MO_takeTags_62 : decode M_MO_takeTags.2.1 62 = .ok (.iload_n 3, 1) := fx_d (q := (62, .iload_n 3, 1)) D_MO_takeTags 37 rfl
theorem d_MO_takeTags_63 : decode M_MO_takeTags.2.1 63 = .ok (.i2l, 1) := fx_d (q := (63, .i2l, 1)) D_MO_takeTags 38 rfl
theorem d_MO_takeTags_64 : decode M_MO_takeTags.2.1 64 = .ok (.lmul, 1) := fx_d (q := (64, .lmul, 1)) D_MO_takeTags 39 rfl
theorem d_MO_takeTags_65 : decode M_MO_takeTags.2.1 65 = .ok (.ladd, 1) := fx_d (q := (65, .ladd, 1)) D_MO_takeTags 40 rfl
theorem d_MO_takeTags_66 : decode M_MO_takeTags.2.1 66 = .ok (.aload_n 0, 1) := fx_d (q := (66, .aload_n 0, 1)) D_MO_takeTags 41 rfl
theorem d_MO_takeTags_67 : decode M_MO_takeTags.2.1 67 = .ok (.getfield 105, 3) := fx_d (q := (67, .getfield 105, 3)) D_MO_takeTags 42 rfl
theorem d_MO_takeTags_70 : decode M_MO_takeTags.2.1 70 = .ok (.i2l, 1) := fx_d (q := (70, .i2l, 1)) D_MO_takeTags 43 rfl
theorem d_MO_takeTags_71 : decode M_MO_takeTags.2.1 71 = .ok (.lcmp, 1) := fx_d (q := (71, .lcmp, 1)) D_MO_takeTags 44 rfl
theorem d_MO_takeTags_72 : decode M_MO_takeTags.2.1 72 = .ok (.ifCond .gt 25, 3) := fx_d (q := (72, .ifCond .gt 25, 3)) D_MO_takeTags 45 rfl
theorem d_MO_takeTags_75 : decode M_MO_takeTags.2.1 75 = .ok (.aload_n 0, 1) := fx_d (q := (75, .aload_n 0, 1)) D_MO_takeTags 46 rfl
theorem d_MO_takeTags_76 : decode M_MO_takeTags.2.1 76 = .ok (.lload_n 1, 1) := fx_d (q := (76, .lload_n 1, 1)) D_MO_takeTags 47 rfl
theorem d_MO_takeTags_77 : decode M_MO_takeTags.2.1 77 = .ok (.ldc2_w 241, 3) := fx_d (q := (77, .ldc2_w 241, 3)) D_MO_takeTags 48 rfl
theorem d_MO_takeTags_80 : decode M_MO_takeTags.2.1 80 = .ok (.ladd, 1) := fx_d (q := (80, .ladd, 1)) D_MO_takeTags 49 rfl
theorem d_MO_takeTags_81 : decode M_MO_takeTags.2.1 81 = .ok (.ldc2_w 251, 3) := fx_d (q := (81, .ldc2_w 251, 3)) D_MO_takeTags 50 rfl
theorem d_MO_takeTags_84 : decode M_MO_takeTags.2.1 84 = .ok (.iload_n 3, 1) := fx_d (q := (84, .iload_n 3, 1)) D_MO_takeTags 51 rfl
theorem d_MO_takeTags_85 : decode M_MO_takeTags.2.1 85 = .ok (.i2l, 1) := fx_d (q := (85, .i2l, 1)) D_MO_takeTags 52 rfl
theorem d_MO_takeTags_86 : decode M_MO_takeTags.2.1 86 = .ok (.lmul, 1) := fx_d (q := (86, .lmul, 1)) D_MO_takeTags 53 rfl
theorem d_MO_takeTags_87 : decode M_MO_takeTags.2.1 87 = .ok (.ladd, 1) := fx_d (q := (87, .ladd, 1)) D_MO_takeTags 54 rfl
theorem d_MO_takeTags_88 : decode M_MO_takeTags.2.1 88 = .ok (.iconst 4, 1) := fx_d (q := (88, .iconst 4, 1)) D_MO_takeTags 55 rfl
theorem d_MO_takeTags_89 : decode M_MO_takeTags.2.1 89 = .ok (.invokevirtual 243, 3) := fx_d (q := (89, .invokevirtual 243, 3)) D_MO_takeTags 56 rfl
theorem d_MO_takeTags_92 : decode M_MO_takeTags.2.1 92 = .ok (.lconst 0, 1) := fx_d (q := (92, .lconst 0, 1)) D_MO_takeTags 57 rfl
theorem d_MO_takeTags_93 : decode M_MO_takeTags.2.1 93 = .ok (.lcmp, 1) := fx_d (q := (93, .lcmp, 1)) D_MO_takeTags 58 rfl
theorem d_MO_takeTags_94 : decode M_MO_takeTags.2.1 94 = .ok (.ifCond .eq 5, 3) := fx_d (q := (94, .ifCond .eq 5, 3)) D_MO_takeTags 59 rfl
theorem d_MO_takeTags_97 : decode M_MO_takeTags.2.1 97 = .ok (.iconst 0, 1) := fx_d (q := (97, .iconst 0, 1)) D_MO_takeTags 60 rfl
theorem d_MO_takeTags_98 : decode M_MO_takeTags.2.1 98 = .ok (.ireturn, 1) := fx_d (q := (98, .ireturn, 1)) D_MO_takeTags 61 rfl
theorem d_MO_takeTags_99 : decode M_MO_takeTags.2.1 99 = .ok (.iconst (-1), 1) := fx_d (q := (99, .iconst (-1), 1)) D_MO_takeTags 62 rfl
theorem d_MO_takeTags_100 : decode M_MO_takeTags.2.1 100 = .ok (.istore 4, 2) := fx_d (q := (100, .istore 4, 2)) D_MO_takeTags 63 rfl
theorem d_MO_takeTags_102 : decode M_MO_takeTags.2.1 102 = .ok (.iconst 1, 1) := fx_d (q := (102, .iconst 1, 1)) D_MO_takeTags 64 rfl
theorem d_MO_takeTags_103 : decode M_MO_takeTags.2.1 103 = .ok (.istore 5, 2) := fx_d (q := (103, .istore 5, 2)) D_MO_takeTags 65 rfl
theorem d_MO_takeTags_105 : decode M_MO_takeTags.2.1 105 = .ok (.iconst 0, 1) := fx_d (q := (105, .iconst 0, 1)) D_MO_takeTags 66 rfl
theorem d_MO_takeTags_106 : decode M_MO_takeTags.2.1 106 = .ok (.istore 6, 2) := fx_d (q := (106, .istore 6, 2)) D_MO_takeTags 67 rfl
theorem d_MO_takeTags_108 : decode M_MO_takeTags.2.1 108 = .ok (.iload 6, 2) := fx_d (q := (108, .iload 6, 2)) D_MO_takeTags 68 rfl
theorem d_MO_takeTags_110 : decode M_MO_takeTags.2.1 110 = .ok (.iload_n 3, 1) := fx_d (q := (110, .iload_n 3, 1)) D_MO_takeTags 69 rfl
theorem d_MO_takeTags_111 : decode M_MO_takeTags.2.1 111 = .ok (.if_icmp .ge 80, 3) := fx_d (q := (111, .if_icmp .ge 80, 3)) D_MO_takeTags 70 rfl
theorem d_MO_takeTags_114 : decode M_MO_takeTags.2.1 114 = .ok (.lload_n 1, 1) := fx_d (q := (114, .lload_n 1, 1)) D_MO_takeTags 71 rfl
theorem d_MO_takeTags_115 : decode M_MO_takeTags.2.1 115 = .ok (.ldc2_w 241, 3) := fx_d (q := (115, .ldc2_w 241, 3)) D_MO_takeTags 72 rfl
theorem d_MO_takeTags_118 : decode M_MO_takeTags.2.1 118 = .ok (.ladd, 1) := fx_d (q := (118, .ladd, 1)) D_MO_takeTags 73 rfl
theorem d_MO_takeTags_119 : decode M_MO_takeTags.2.1 119 = .ok (.ldc2_w 251, 3) := fx_d (q := (119, .ldc2_w 251, 3)) D_MO_takeTags 74 rfl
theorem d_MO_takeTags_122 : decode M_MO_takeTags.2.1 122 = .ok (.iload 6, 2) := fx_d (q := (122, .iload 6, 2)) D_MO_takeTags 75 rfl
theorem d_MO_takeTags_124 : decode M_MO_takeTags.2.1 124 = .ok (.i2l, 1) := fx_d (q := (124, .i2l, 1)) D_MO_takeTags 76 rfl
theorem d_MO_takeTags_125 : decode M_MO_takeTags.2.1 125 = .ok (.lmul, 1) := fx_d (q := (125, .lmul, 1)) D_MO_takeTags 77 rfl
theorem d_MO_takeTags_126 : decode M_MO_takeTags.2.1 126 = .ok (.ladd, 1) := fx_d (q := (126, .ladd, 1)) D_MO_takeTags 78 rfl
theorem d_MO_takeTags_127 : decode M_MO_takeTags.2.1 127 = .ok (.lstore 7, 2) := fx_d (q := (127, .lstore 7, 2)) D_MO_takeTags 79 rfl
theorem d_MO_takeTags_129 : decode M_MO_takeTags.2.1 129 = .ok (.aload_n 0, 1) := fx_d (q := (129, .aload_n 0, 1)) D_MO_takeTags 80 rfl
theorem d_MO_takeTags_130 : decode M_MO_takeTags.2.1 130 = .ok (.lload 7, 2) := fx_d (q := (130, .lload 7, 2)) D_MO_takeTags 81 rfl
theorem d_MO_takeTags_132 : decode M_MO_takeTags.2.1 132 = .ok (.iconst 2, 1) := fx_d (q := (132, .iconst 2, 1)) D_MO_takeTags 82 rfl
theorem d_MO_takeTags_133 : decode M_MO_takeTags.2.1 133 = .ok (.invokevirtual 243, 3) := fx_d (q := (133, .invokevirtual 243, 3)) D_MO_takeTags 83 rfl
theorem d_MO_takeTags_136 : decode M_MO_takeTags.2.1 136 = .ok (.l2i, 1) := fx_d (q := (136, .l2i, 1)) D_MO_takeTags 84 rfl
theorem d_MO_takeTags_137 : decode M_MO_takeTags.2.1 137 = .ok (.istore 9, 2) := fx_d (q := (137, .istore 9, 2)) D_MO_takeTags 85 rfl
theorem d_MO_takeTags_139 : decode M_MO_takeTags.2.1 139 = .ok (.iload 9, 2) := fx_d (q := (139, .iload 9, 2)) D_MO_takeTags 86 rfl
theorem d_MO_takeTags_141 : decode M_MO_takeTags.2.1 141 = .ok (.invokestatic 253, 3) := fx_d (q := (141, .invokestatic 253, 3)) D_MO_takeTags 87 rfl
theorem d_MO_takeTags_144 : decode M_MO_takeTags.2.1 144 = .ok (.istore 10, 2) := fx_d (q := (144, .istore 10, 2)) D_MO_takeTags 88 rfl
theorem d_MO_takeTags_146 : decode M_MO_takeTags.2.1 146 = .ok (.iload 5, 2) := fx_d (q := (146, .iload 5, 2)) D_MO_takeTags 89 rfl
theorem d_MO_takeTags_148 : decode M_MO_takeTags.2.1 148 = .ok (.ifCond .eq 30, 3) := fx_d (q := (148, .ifCond .eq 30, 3)) D_MO_takeTags 90 rfl
theorem d_MO_takeTags_151 : decode M_MO_takeTags.2.1 151 = .ok (.iload 9, 2) := fx_d (q := (151, .iload 9, 2)) D_MO_takeTags 91 rfl
theorem d_MO_takeTags_153 : decode M_MO_takeTags.2.1 153 = .ok (.iload 4, 2) := fx_d (q := (153, .iload 4, 2)) D_MO_takeTags 92 rfl
theorem d_MO_takeTags_155 : decode M_MO_takeTags.2.1 155 = .ok (.if_icmp .le 23, 3) := fx_d (q := (155, .if_icmp .le 23, 3)) D_MO_takeTags 93 rfl
theorem d_MO_takeTags_158 : decode M_MO_takeTags.2.1 158 = .ok (.iload 10, 2) := fx_d (q := (158, .iload 10, 2)) D_MO_takeTags 94 rfl
theorem d_MO_takeTags_160 : decode M_MO_takeTags.2.1 160 = .ok (.ifCond .lt 14, 3) := fx_d (q := (160, .ifCond .lt 14, 3)) D_MO_takeTags 95 rfl
theorem d_MO_takeTags_163 : decode M_MO_takeTags.2.1 163 = .ok (.aload_n 0, 1) := fx_d (q := (163, .aload_n 0, 1)) D_MO_takeTags 96 rfl
theorem d_MO_takeTags_164 : decode M_MO_takeTags.2.1 164 = .ok (.iload 10, 2) := fx_d (q := (164, .iload 10, 2)) D_MO_takeTags 97 rfl
theorem d_MO_takeTags_166 : decode M_MO_takeTags.2.1 166 = .ok (.lload 7, 2) := fx_d (q := (166, .lload 7, 2)) D_MO_takeTags 98 rfl
theorem d_MO_takeTags_168 : decode M_MO_takeTags.2.1 168 = .ok (.invokevirtual 256, 3) := fx_d (q := (168, .invokevirtual 256, 3)) D_MO_takeTags 99 rfl
theorem d_MO_takeTags_171 : decode M_MO_takeTags.2.1 171 = .ok (.ifCond .eq 7, 3) := fx_d (q := (171, .ifCond .eq 7, 3)) D_MO_takeTags 100 rfl
theorem d_MO_takeTags_174 : decode M_MO_takeTags.2.1 174 = .ok (.iconst 1, 1) := fx_d (q := (174, .iconst 1, 1)) D_MO_takeTags 101 rfl
theorem d_MO_takeTags_175 : decode M_MO_takeTags.2.1 175 = .ok (.goto 4, 3) := fx_d (q := (175, .goto 4, 3)) D_MO_takeTags 102 rfl
theorem d_MO_takeTags_178 : decode M_MO_takeTags.2.1 178 = .ok (.iconst 0, 1) := fx_d (q := (178, .iconst 0, 1)) D_MO_takeTags 103 rfl
theorem d_MO_takeTags_179 : decode M_MO_takeTags.2.1 179 = .ok (.istore 5, 2) := fx_d (q := (179, .istore 5, 2)) D_MO_takeTags 104 rfl
theorem d_MO_takeTags_181 : decode M_MO_takeTags.2.1 181 = .ok (.iload 9, 2) := fx_d (q := (181, .iload 9, 2)) D_MO_takeTags 105 rfl
theorem d_MO_takeTags_183 : decode M_MO_takeTags.2.1 183 = .ok (.istore 4, 2) := fx_d (q := (183, .istore 4, 2)) D_MO_takeTags 106 rfl
theorem d_MO_takeTags_185 : decode M_MO_takeTags.2.1 185 = .ok (.iinc 6 1, 3) := fx_d (q := (185, .iinc 6 1, 3)) D_MO_takeTags 107 rfl
theorem d_MO_takeTags_188 : decode M_MO_takeTags.2.1 188 = .ok (.goto (-80), 3) := fx_d (q := (188, .goto (-80), 3)) D_MO_takeTags 108 rfl
theorem d_MO_takeTags_191 : decode M_MO_takeTags.2.1 191 = .ok (.iload 5, 2) := fx_d (q := (191, .iload 5, 2)) D_MO_takeTags 109 rfl
theorem d_MO_takeTags_193 : decode M_MO_takeTags.2.1 193 = .ok (.ireturn, 1) := fx_d (q := (193, .ireturn, 1)) D_MO_takeTags 110 rfl
set_option maxRecDepth 100000 in
def L_MO_known : List (Nat × Instr × Nat) := [(0, .iload_n 0, 1), (1, .lookupswitch 104 #[(256, 83), (257, 85), (258, 87), (259, 89), (262, 91), (273, 93), (278, 95), (279, 98), (292, 101)], 83), (84, .iconst 0, 1), (85, .ireturn, 1), (86, .iconst 1, 1), (87, .ireturn, 1), (88, .iconst 2, 1), (89, .ireturn, 1), (90, .iconst 3, 1), (91, .ireturn, 1), (92, .iconst 4, 1), (93, .ireturn, 1), (94, .iconst 5, 1), (95, .ireturn, 1), (96, .bipush 6, 2), (98, .ireturn, 1), (99, .bipush 7, 2), (101, .ireturn, 1), (102, .bipush 8, 2), (104, .ireturn, 1), (105, .iconst (-1), 1), (106, .ireturn, 1)]
set_option maxRecDepth 100000 in
theorem D_MO_known : ∀ q ∈ L_MO_known, decode prog_14_method_41_code q.1 = .ok q.2 := by decide +kernel
theorem d_MO_known_0 : decode M_MO_known.2.1 0 = .ok (.iload_n 0, 1) := fx_d (q := (0, .iload_n 0, 1)) D_MO_known 0 rfl
theorem d_MO_known_1 : decode M_MO_known.2.1 1 = .ok (.lookupswitch 104 #[(256, 83), (257, 85), (258, 87), (259, 89), (262, 91), (273, 93), (278, 95), (279, 98), (292, 101)], 83) := fx_d (q := (1, .lookupswitch 104 #[(256, 83), (257, 85), (258, 87), (259, 89), (262, 91), (273, 93), (278, 95), (279, 98), (292, 101)], 83)) D_MO_known 1 rfl
theorem d_MO_known_84 : decode M_MO_known.2.1 84 = .ok (.iconst 0, 1) := fx_d (q := (84, .iconst 0, 1)) D_MO_known 2 rfl
theorem d_MO_known_85 : decode M_MO_known.2.1 85 = .ok (.ireturn, 1) := fx_d (q := (85, .ireturn, 1)) D_MO_known 3 rfl
theorem d_MO_known_86 : decode M_MO_known.2.1 86 = .ok (.iconst 1, 1) := fx_d (q := (86, .iconst 1, 1)) D_MO_known 4 rfl
theorem d_MO_known_87 : decode M_MO_known.2.1 87 = .ok (.ireturn, 1) := fx_d (q := (87, .ireturn, 1)) D_MO_known 5 rfl
theorem d_MO_known_88 : decode M_MO_known.2.1 88 = .ok (.iconst 2, 1) := fx_d (q := (88, .iconst 2, 1)) D_MO_known 6 rfl
theorem d_MO_known_89 : decode M_MO_known.2.1 89 = .ok (.ireturn, 1) := fx_d (q := (89, .ireturn, 1)) D_MO_known 7 rfl
theorem d_MO_known_90 : decode M_MO_known.2.1 90 = .ok (.iconst 3, 1) := fx_d (q := (90, .iconst 3, 1)) D_MO_known 8 rfl
theorem d_MO_known_91 : decode M_MO_known.2.1 91 = .ok (.ireturn, 1) := fx_d (q := (91, .ireturn, 1)) D_MO_known 9 rfl
theorem d_MO_known_92 : decode M_MO_known.2.1 92 = .ok (.iconst 4, 1) := fx_d (q := (92, .iconst 4, 1)) D_MO_known 10 rfl
theorem d_MO_known_93 : decode M_MO_known.2.1 93 = .ok (.ireturn, 1) := fx_d (q := (93, .ireturn, 1)) D_MO_known 11 rfl
theorem d_MO_known_94 : decode M_MO_known.2.1 94 = .ok (.iconst 5, 1) := fx_d (q := (94, .iconst 5, 1)) D_MO_known 12 rfl
theorem d_MO_known_95 : decode M_MO_known.2.1 95 = .ok (.ireturn, 1) := fx_d (q := (95, .ireturn, 1)) D_MO_known 13 rfl
theorem d_MO_known_96 : decode M_MO_known.2.1 96 = .ok (.bipush 6, 2) := fx_d (q := (96, .bipush 6, 2)) D_MO_known 14 rfl
theorem d_MO_known_98 : decode M_MO_known.2.1 98 = .ok (.ireturn, 1) := fx_d (q := (98, .ireturn, 1)) D_MO_known 15 rfl
theorem d_MO_known_99 : decode M_MO_known.2.1 99 = .ok (.bipush 7, 2) := fx_d (q := (99, .bipush 7, 2)) D_MO_known 16 rfl
theorem d_MO_known_101 : decode M_MO_known.2.1 101 = .ok (.ireturn, 1) := fx_d (q := (101, .ireturn, 1)) D_MO_known 17 rfl
theorem d_MO_known_102 : decode M_MO_known.2.1 102 = .ok (.bipush 8, 2) := fx_d (q := (102, .bipush 8, 2)) D_MO_known 18 rfl
theorem d_MO_known_104 : decode M_MO_known.2.1 104 = .ok (.ireturn, 1) := fx_d (q := (104, .ireturn, 1)) D_MO_known 19 rfl
theorem d_MO_known_105 : decode M_MO_known.2.1 105 = .ok (.iconst (-1), 1) := fx_d (q := (105, .iconst (-1), 1)) D_MO_known 20 rfl
theorem d_MO_known_106 : decode M_MO_known.2.1 106 = .ok (.ireturn, 1) := fx_d (q := (106, .ireturn, 1)) D_MO_known 21 rfl
set_option maxRecDepth 100000 in
def L_MO_takeTag : List (Nat × Instr × Nat) := [(0, .aload_n 0, 1), (1, .getfield 62, 3), (4, .iload_n 1, 1), (5, .iconst 1, 1), (6, .bastore, 1), (7, .aload_n 0, 1), (8, .getfield 66, 3), (11, .iload_n 1, 1), (12, .aload_n 0, 1), (13, .lload_n 2, 1), (14, .ldc2_w 241, 3), (17, .ladd, 1), (18, .iconst 2, 1), (19, .invokevirtual 243, 3), (22, .l2i, 1), (23, .iastore, 1), (24, .aload_n 0, 1), (25, .getfield 69, 3), (28, .iload_n 1, 1), (29, .aload_n 0, 1), (30, .lload_n 2, 1), (31, .ldc2_w 207, 3), (34, .ladd, 1), (35, .iconst 4, 1), (36, .invokevirtual 243, 3), (39, .lastore, 1), (40, .aload_n 0, 1), (41, .getfield 66, 3), (44, .iload_n 1, 1), (45, .iaload, 1), (46, .iconst 3, 1), (47, .if_icmp .ne 7, 3), (50, .iconst 2, 1), (51, .goto 4, 3), (54, .iconst 4, 1), (55, .istore 4, 2), (57, .aload_n 0, 1), (58, .getfield 73, 3), (61, .iload_n 1, 1), (62, .aload_n 0, 1), (63, .getfield 69, 3), (66, .iload_n 1, 1), (67, .laload, 1), (68, .iload 4, 2), (70, .i2l, 1), (71, .lmul, 1), (72, .ldc2_w 207, 3), (75, .lcmp, 1), (76, .ifCond .le 16, 3), (79, .aload_n 0, 1), (80, .lload_n 2, 1), (81, .ldc2_w 247, 3), (84, .ladd, 1), (85, .iconst 4, 1), (86, .invokevirtual 243, 3), (89, .goto 8, 3), (92, .lload_n 2, 1), (93, .ldc2_w 247, 3), (96, .ladd, 1), (97, .lastore, 1), (98, .iload_n 1, 1), (99, .iconst 5, 1), (100, .if_icmp .eq 20, 3), (103, .iload_n 1, 1), (104, .bipush 7, 2), (106, .if_icmp .eq 14, 3), (109, .aload_n 0, 1), (110, .getfield 69, 3), (113, .iload_n 1, 1), (114, .laload, 1), (115, .lconst 1, 1), (116, .lcmp, 1), (117, .ifCond .ne 7, 3), (120, .iconst 1, 1), (121, .goto 4, 3), (124, .iconst 0, 1), (125, .istore 5, 2), (127, .aload_n 0, 1), (128, .getfield 66, 3), (131, .iload_n 1, 1), (132, .iaload, 1), (133, .iconst 3, 1), (134, .if_icmp .eq 13, 3), (137, .aload_n 0, 1), (138, .getfield 66, 3), (141, .iload_n 1, 1), (142, .iaload, 1), (143, .iconst 4, 1), (144, .if_icmp .ne 38, 3), (147, .iload 5, 2), (149, .ifCond .eq 33, 3), (152, .aload_n 0, 1), (153, .getfield 73, 3), (156, .iload_n 1, 1), (157, .laload, 1), (158, .aload_n 0, 1), (159, .getfield 69, 3), (162, .iload_n 1, 1), (163, .laload, 1), (164, .iload 4, 2), (166, .i2l, 1), (167, .lmul, 1), (168, .ladd, 1), (169, .aload_n 0, 1), (170, .getfield 105, 3), (173, .i2l, 1), (174, .lcmp, 1), (175, .ifCond .gt 7, 3), (178, .iconst 1, 1), (179, .goto 4, 3), (182, .iconst 0, 1), (183, .ireturn, 1)]
set_option maxRecDepth 100000 in
theorem D_MO_takeTag : ∀ q ∈ L_MO_takeTag, decode prog_14_method_42_code q.1 = .ok q.2 := by decide +kernel
theorem d_MO_takeTag_0 : decode M_MO_takeTag.2.1 0 = .ok (.aload_n 0, 1) := fx_d (q := (0, .aload_n 0, 1)) D_MO_takeTag 0 rfl
theorem d_MO_takeTag_1 : decode M_MO_takeTag.2.1 1 = .ok (.getfield 62, 3) := fx_d (q := (1, .getfield 62, 3)) D_MO_takeTag 1 rfl
theorem d_MO_takeTag_4 : decode M_MO_takeTag.2.1 4 = .ok (.iload_n 1, 1) := fx_d (q := (4, .iload_n 1, 1)) D_MO_takeTag 2 rfl
theorem d_MO_takeTag_5 : decode M_MO_takeTag.2.1 5 = .ok (.iconst 1, 1) := fx_d (q := (5, .iconst 1, 1)) D_MO_takeTag 3 rfl
theorem d_MO_takeTag_6 : decode M_MO_takeTag.2.1 6 = .ok (.bastore, 1) := fx_d (q := (6, .bastore, 1)) D_MO_takeTag 4 rfl
theorem d_MO_takeTag_7 : decode M_MO_takeTag.2.1 7 = .ok (.aload_n 0, 1) := fx_d (q := (7, .aload_n 0, 1)) D_MO_takeTag 5 rfl
theorem d_MO_takeTag_8 : decode M_MO_takeTag.2.1 8 = .ok (.getfield 66, 3) := fx_d (q := (8, .getfield 66, 3)) D_MO_takeTag 6 rfl
theorem d_MO_takeTag_11 : decode M_MO_takeTag.2.1 11 = .ok (.iload_n 1, 1) := fx_d (q := (11, .iload_n 1, 1)) D_MO_takeTag 7 rfl
theorem d_MO_takeTag_12 : decode M_MO_takeTag.2.1 12 = .ok (.aload_n 0, 1) := fx_d (q := (12, .aload_n 0, 1)) D_MO_takeTag 8 rfl
theorem d_MO_takeTag_13 : decode M_MO_takeTag.2.1 13 = .ok (.lload_n 2, 1) := fx_d (q := (13, .lload_n 2, 1)) D_MO_takeTag 9 rfl
theorem d_MO_takeTag_14 : decode M_MO_takeTag.2.1 14 = .ok (.ldc2_w 241, 3) := fx_d (q := (14, .ldc2_w 241, 3)) D_MO_takeTag 10 rfl
theorem d_MO_takeTag_17 : decode M_MO_takeTag.2.1 17 = .ok (.ladd, 1) := fx_d (q := (17, .ladd, 1)) D_MO_takeTag 11 rfl
theorem d_MO_takeTag_18 : decode M_MO_takeTag.2.1 18 = .ok (.iconst 2, 1) := fx_d (q := (18, .iconst 2, 1)) D_MO_takeTag 12 rfl
theorem d_MO_takeTag_19 : decode M_MO_takeTag.2.1 19 = .ok (.invokevirtual 243, 3) := fx_d (q := (19, .invokevirtual 243, 3)) D_MO_takeTag 13 rfl
theorem d_MO_takeTag_22 : decode M_MO_takeTag.2.1 22 = .ok (.l2i, 1) := fx_d (q := (22, .l2i, 1)) D_MO_takeTag 14 rfl
theorem d_MO_takeTag_23 : decode M_MO_takeTag.2.1 23 = .ok (.iastore, 1) := fx_d (q := (23, .iastore, 1)) D_MO_takeTag 15 rfl
theorem d_MO_takeTag_24 : decode M_MO_takeTag.2.1 24 = .ok (.aload_n 0, 1) := fx_d (q := (24, .aload_n 0, 1)) D_MO_takeTag 16 rfl
theorem d_MO_takeTag_25 : decode M_MO_takeTag.2.1 25 = .ok (.getfield 69, 3) := fx_d (q := (25, .getfield 69, 3)) D_MO_takeTag 17 rfl
theorem d_MO_takeTag_28 : decode M_MO_takeTag.2.1 28 = .ok (.iload_n 1, 1) := fx_d (q := (28, .iload_n 1, 1)) D_MO_takeTag 18 rfl
theorem d_MO_takeTag_29 : decode M_MO_takeTag.2.1 29 = .ok (.aload_n 0, 1) := fx_d (q := (29, .aload_n 0, 1)) D_MO_takeTag 19 rfl
theorem d_MO_takeTag_30 : decode M_MO_takeTag.2.1 30 = .ok (.lload_n 2, 1) := fx_d (q := (30, .lload_n 2, 1)) D_MO_takeTag 20 rfl
theorem d_MO_takeTag_31 : decode M_MO_takeTag.2.1 31 = .ok (.ldc2_w 207, 3) := fx_d (q := (31, .ldc2_w 207, 3)) D_MO_takeTag 21 rfl
theorem d_MO_takeTag_34 : decode M_MO_takeTag.2.1 34 = .ok (.ladd, 1) := fx_d (q := (34, .ladd, 1)) D_MO_takeTag 22 rfl
theorem d_MO_takeTag_35 : decode M_MO_takeTag.2.1 35 = .ok (.iconst 4, 1) := fx_d (q := (35, .iconst 4, 1)) D_MO_takeTag 23 rfl
theorem d_MO_takeTag_36 : decode M_MO_takeTag.2.1 36 = .ok (.invokevirtual 243, 3) := fx_d (q := (36, .invokevirtual 243, 3)) D_MO_takeTag 24 rfl
theorem d_MO_takeTag_39 : decode M_MO_takeTag.2.1 39 = .ok (.lastore, 1) := fx_d (q := (39, .lastore, 1)) D_MO_takeTag 25 rfl
theorem d_MO_takeTag_40 : decode M_MO_takeTag.2.1 40 = .ok (.aload_n 0, 1) := fx_d (q := (40, .aload_n 0, 1)) D_MO_takeTag 26 rfl
theorem d_MO_takeTag_41 : decode M_MO_takeTag.2.1 41 = .ok (.getfield 66, 3) := fx_d (q := (41, .getfield 66, 3)) D_MO_takeTag 27 rfl
theorem d_MO_takeTag_44 : decode M_MO_takeTag.2.1 44 = .ok (.iload_n 1, 1) := fx_d (q := (44, .iload_n 1, 1)) D_MO_takeTag 28 rfl
theorem d_MO_takeTag_45 : decode M_MO_takeTag.2.1 45 = .ok (.iaload, 1) := fx_d (q := (45, .iaload, 1)) D_MO_takeTag 29 rfl
theorem d_MO_takeTag_46 : decode M_MO_takeTag.2.1 46 = .ok (.iconst 3, 1) := fx_d (q := (46, .iconst 3, 1)) D_MO_takeTag 30 rfl
theorem d_MO_takeTag_47 : decode M_MO_takeTag.2.1 47 = .ok (.if_icmp .ne 7, 3) := fx_d (q := (47, .if_icmp .ne 7, 3)) D_MO_takeTag 31 rfl
theorem d_MO_takeTag_50 : decode M_MO_takeTag.2.1 50 = .ok (.iconst 2, 1) := fx_d (q := (50, .iconst 2, 1)) D_MO_takeTag 32 rfl
theorem d_MO_takeTag_51 : decode M_MO_takeTag.2.1 51 = .ok (.goto 4, 3) := fx_d (q := (51, .goto 4, 3)) D_MO_takeTag 33 rfl
theorem d_MO_takeTag_54 : decode M_MO_takeTag.2.1 54 = .ok (.iconst 4, 1) := fx_d (q := (54, .iconst 4, 1)) D_MO_takeTag 34 rfl
theorem d_MO_takeTag_55 : decode M_MO_takeTag.2.1 55 = .ok (.istore 4, 2) := fx_d (q := (55, .istore 4, 2)) D_MO_takeTag 35 rfl
theorem d_MO_takeTag_57 : decode M_MO_takeTag.2.1 57 = .ok (.aload_n 0, 1) := fx_d (q := (57, .aload_n 0, 1)) D_MO_takeTag 36 rfl
theorem d_MO_takeTag_58 : decode M_MO_takeTag.2.1 58 = .ok (.getfield 73, 3) := fx_d (q := (58, .getfield 73, 3)) D_MO_takeTag 37 rfl
theorem d_MO_takeTag_61 : decode M_MO_takeTag.2.1 61 = .ok (.iload_n 1, 1) := fx_d (q := (61, .iload_n 1, 1)) D_MO_takeTag 38 rfl
theorem d_MO_takeTag_62 : decode M_MO_takeTag.2.1 62 = .ok (.aload_n 0, 1) := fx_d (q := (62, .aload_n 0, 1)) D_MO_takeTag 39 rfl
theorem d_MO_takeTag_63 : decode M_MO_takeTag.2.1 63 = .ok (.getfield 69, 3) := fx_d (q := (63, .getfield 69, 3)) D_MO_takeTag 40 rfl
theorem d_MO_takeTag_66 : decode M_MO_takeTag.2.1 66 = .ok (.iload_n 1, 1) := fx_d (q := (66, .iload_n 1, 1)) D_MO_takeTag 41 rfl
theorem d_MO_takeTag_67 : decode M_MO_takeTag.2.1 67 = .ok (.laload, 1) := fx_d (q := (67, .laload, 1)) D_MO_takeTag 42 rfl
theorem d_MO_takeTag_68 : decode M_MO_takeTag.2.1 68 = .ok (.iload 4, 2) := fx_d (q := (68, .iload 4, 2)) D_MO_takeTag 43 rfl
theorem d_MO_takeTag_70 : decode M_MO_takeTag.2.1 70 = .ok (.i2l, 1) := fx_d (q := (70, .i2l, 1)) D_MO_takeTag 44 rfl
theorem d_MO_takeTag_71 : decode M_MO_takeTag.2.1 71 = .ok (.lmul, 1) := fx_d (q := (71, .lmul, 1)) D_MO_takeTag 45 rfl
theorem d_MO_takeTag_72 : decode M_MO_takeTag.2.1 72 = .ok (.ldc2_w 207, 3) := fx_d (q := (72, .ldc2_w 207, 3)) D_MO_takeTag 46 rfl
theorem d_MO_takeTag_75 : decode M_MO_takeTag.2.1 75 = .ok (.lcmp, 1) := fx_d (q := (75, .lcmp, 1)) D_MO_takeTag 47 rfl
theorem d_MO_takeTag_76 : decode M_MO_takeTag.2.1 76 = .ok (.ifCond .le 16, 3) := fx_d (q := (76, .ifCond .le 16, 3)) D_MO_takeTag 48 rfl
theorem d_MO_takeTag_79 : decode M_MO_takeTag.2.1 79 = .ok (.aload_n 0, 1) := fx_d (q := (79, .aload_n 0, 1)) D_MO_takeTag 49 rfl
theorem d_MO_takeTag_80 : decode M_MO_takeTag.2.1 80 = .ok (.lload_n 2, 1) := fx_d (q := (80, .lload_n 2, 1)) D_MO_takeTag 50 rfl
theorem d_MO_takeTag_81 : decode M_MO_takeTag.2.1 81 = .ok (.ldc2_w 247, 3) := fx_d (q := (81, .ldc2_w 247, 3)) D_MO_takeTag 51 rfl
theorem d_MO_takeTag_84 : decode M_MO_takeTag.2.1 84 = .ok (.ladd, 1) := fx_d (q := (84, .ladd, 1)) D_MO_takeTag 52 rfl
theorem d_MO_takeTag_85 : decode M_MO_takeTag.2.1 85 = .ok (.iconst 4, 1) := fx_d (q := (85, .iconst 4, 1)) D_MO_takeTag 53 rfl
theorem d_MO_takeTag_86 : decode M_MO_takeTag.2.1 86 = .ok (.invokevirtual 243, 3) := fx_d (q := (86, .invokevirtual 243, 3)) D_MO_takeTag 54 rfl
theorem d_MO_takeTag_89 : decode M_MO_takeTag.2.1 89 = .ok (.goto 8, 3) := fx_d (q := (89, .goto 8, 3)) D_MO_takeTag 55 rfl
theorem d_MO_takeTag_92 : decode M_MO_takeTag.2.1 92 = .ok (.lload_n 2, 1) := fx_d (q := (92, .lload_n 2, 1)) D_MO_takeTag 56 rfl
theorem d_MO_takeTag_93 : decode M_MO_takeTag.2.1 93 = .ok (.ldc2_w 247, 3) := fx_d (q := (93, .ldc2_w 247, 3)) D_MO_takeTag 57 rfl
theorem d_MO_takeTag_96 : decode M_MO_takeTag.2.1 96 = .ok (.ladd, 1) := fx_d (q := (96, .ladd, 1)) D_MO_takeTag 58 rfl
theorem d_MO_takeTag_97 : decode M_MO_takeTag.2.1 97 = .ok (.lastore, 1) := fx_d (q := (97, .lastore, 1)) D_MO_takeTag 59 rfl
theorem d_MO_takeTag_98 : decode M_MO_takeTag.2.1 98 = .ok (.iload_n 1, 1) := fx_d (q := (98, .iload_n 1, 1)) D_MO_takeTag 60 rfl
theorem d_MO_takeTag_99 : decode M_MO_takeTag.2.1 99 = .ok (.iconst 5, 1) := fx_d (q := (99, .iconst 5, 1)) D_MO_takeTag 61 rfl
theorem d_MO_takeTag_100 : decode M_MO_takeTag.2.1 100 = .ok (.if_icmp .eq 20, 3) := fx_d (q := (100, .if_icmp .eq 20, 3)) D_MO_takeTag 62 rfl
theorem d_MO_takeTag_103 : decode M_MO_takeTag.2.1 103 = .ok (.iload_n 1, 1) := fx_d (q := (103, .iload_n 1, 1)) D_MO_takeTag 63 rfl
theorem d_MO_takeTag_104 : decode M_MO_takeTag.2.1 104 = .ok (.bipush 7, 2) := fx_d (q := (104, .bipush 7, 2)) D_MO_takeTag 64 rfl
theorem d_MO_takeTag_106 : decode M_MO_takeTag.2.1 106 = .ok (.if_icmp .eq 14, 3) := fx_d (q := (106, .if_icmp .eq 14, 3)) D_MO_takeTag 65 rfl
theorem d_MO_takeTag_109 : decode M_MO_takeTag.2.1 109 = .ok (.aload_n 0, 1) := fx_d (q := (109, .aload_n 0, 1)) D_MO_takeTag 66 rfl
theorem d_MO_takeTag_110 : decode M_MO_takeTag.2.1 110 = .ok (.getfield 69, 3) := fx_d (q := (110, .getfield 69, 3)) D_MO_takeTag 67 rfl
theorem d_MO_takeTag_113 : decode M_MO_takeTag.2.1 113 = .ok (.iload_n 1, 1) := fx_d (q := (113, .iload_n 1, 1)) D_MO_takeTag 68 rfl
theorem d_MO_takeTag_114 : decode M_MO_takeTag.2.1 114 = .ok (.laload, 1) := fx_d (q := (114, .laload, 1)) D_MO_takeTag 69 rfl
theorem d_MO_takeTag_115 : decode M_MO_takeTag.2.1 115 = .ok (.lconst 1, 1) := fx_d (q := (115, .lconst 1, 1)) D_MO_takeTag 70 rfl
theorem d_MO_takeTag_116 : decode M_MO_takeTag.2.1 116 = .ok (.lcmp, 1) := fx_d (q := (116, .lcmp, 1)) D_MO_takeTag 71 rfl
theorem d_MO_takeTag_117 : decode M_MO_takeTag.2.1 117 = .ok (.ifCond .ne 7, 3) := fx_d (q := (117, .ifCond .ne 7, 3)) D_MO_takeTag 72 rfl
theorem d_MO_takeTag_120 : decode M_MO_takeTag.2.1 120 = .ok (.iconst 1, 1) := fx_d (q := (120, .iconst 1, 1)) D_MO_takeTag 73 rfl
theorem d_MO_takeTag_121 : decode M_MO_takeTag.2.1 121 = .ok (.goto 4, 3) := fx_d (q := (121, .goto 4, 3)) D_MO_takeTag 74 rfl
theorem d_MO_takeTag_124 : decode M_MO_takeTag.2.1 124 = .ok (.iconst 0, 1) := fx_d (q := (124, .iconst 0, 1)) D_MO_takeTag 75 rfl
theorem d_MO_takeTag_125 : decode M_MO_takeTag.2.1 125 = .ok (.istore 5, 2) := fx_d (q := (125, .istore 5, 2)) D_MO_takeTag 76 rfl
theorem d_MO_takeTag_127 : decode M_MO_takeTag.2.1 127 = .ok (.aload_n 0, 1) := fx_d (q := (127, .aload_n 0, 1)) D_MO_takeTag 77 rfl
theorem d_MO_takeTag_128 : decode M_MO_takeTag.2.1 128 = .ok (.getfield 66, 3) := fx_d (q := (128, .getfield 66, 3)) D_MO_takeTag 78 rfl
theorem d_MO_takeTag_131 : decode M_MO_takeTag.2.1 131 = .ok (.iload_n 1, 1) := fx_d (q := (131, .iload_n 1, 1)) D_MO_takeTag 79 rfl
theorem d_MO_takeTag_132 : decode M_MO_takeTag.2.1 132 = .ok (.iaload, 1) := fx_d (q := (132, .iaload, 1)) D_MO_takeTag 80 rfl
theorem d_MO_takeTag_133 : decode M_MO_takeTag.2.1 133 = .ok (.iconst 3, 1) := fx_d (q := (133, .iconst 3, 1)) D_MO_takeTag 81 rfl
theorem d_MO_takeTag_134 : decode M_MO_takeTag.2.1 134 = .ok (.if_icmp .eq 13, 3) := fx_d (q := (134, .if_icmp .eq 13, 3)) D_MO_takeTag 82 rfl
theorem d_MO_takeTag_137 : decode M_MO_takeTag.2.1 137 = .ok (.aload_n 0, 1) := fx_d (q := (137, .aload_n 0, 1)) D_MO_takeTag 83 rfl
theorem d_MO_takeTag_138 : decode M_MO_takeTag.2.1 138 = .ok (.getfield 66, 3) := fx_d (q := (138, .getfield 66, 3)) D_MO_takeTag 84 rfl
theorem d_MO_takeTag_141 : decode M_MO_takeTag.2.1 141 = .ok (.iload_n 1, 1) := fx_d (q := (141, .iload_n 1, 1)) D_MO_takeTag 85 rfl
theorem d_MO_takeTag_142 : decode M_MO_takeTag.2.1 142 = .ok (.iaload, 1) := fx_d (q := (142, .iaload, 1)) D_MO_takeTag 86 rfl
theorem d_MO_takeTag_143 : decode M_MO_takeTag.2.1 143 = .ok (.iconst 4, 1) := fx_d (q := (143, .iconst 4, 1)) D_MO_takeTag 87 rfl
theorem d_MO_takeTag_144 : decode M_MO_takeTag.2.1 144 = .ok (.if_icmp .ne 38, 3) := fx_d (q := (144, .if_icmp .ne 38, 3)) D_MO_takeTag 88 rfl
theorem d_MO_takeTag_147 : decode M_MO_takeTag.2.1 147 = .ok (.iload 5, 2) := fx_d (q := (147, .iload 5, 2)) D_MO_takeTag 89 rfl
theorem d_MO_takeTag_149 : decode M_MO_takeTag.2.1 149 = .ok (.ifCond .eq 33, 3) := fx_d (q := (149, .ifCond .eq 33, 3)) D_MO_takeTag 90 rfl
theorem d_MO_takeTag_152 : decode M_MO_takeTag.2.1 152 = .ok (.aload_n 0, 1) := fx_d (q := (152, .aload_n 0, 1)) D_MO_takeTag 91 rfl
theorem d_MO_takeTag_153 : decode M_MO_takeTag.2.1 153 = .ok (.getfield 73, 3) := fx_d (q := (153, .getfield 73, 3)) D_MO_takeTag 92 rfl
theorem d_MO_takeTag_156 : decode M_MO_takeTag.2.1 156 = .ok (.iload_n 1, 1) := fx_d (q := (156, .iload_n 1, 1)) D_MO_takeTag 93 rfl
theorem d_MO_takeTag_157 : decode M_MO_takeTag.2.1 157 = .ok (.laload, 1) := fx_d (q := (157, .laload, 1)) D_MO_takeTag 94 rfl
theorem d_MO_takeTag_158 : decode M_MO_takeTag.2.1 158 = .ok (.aload_n 0, 1) := fx_d (q := (158, .aload_n 0, 1)) D_MO_takeTag 95 rfl
theorem d_MO_takeTag_159 : decode M_MO_takeTag.2.1 159 = .ok (.getfield 69, 3) := fx_d (q := (159, .getfield 69, 3)) D_MO_takeTag 96 rfl
theorem d_MO_takeTag_162 : decode M_MO_takeTag.2.1 162 = .ok (.iload_n 1, 1) := fx_d (q := (162, .iload_n 1, 1)) D_MO_takeTag 97 rfl
theorem d_MO_takeTag_163 : decode M_MO_takeTag.2.1 163 = .ok (.laload, 1) := fx_d (q := (163, .laload, 1)) D_MO_takeTag 98 rfl
theorem d_MO_takeTag_164 : decode M_MO_takeTag.2.1 164 = .ok (.iload 4, 2) := fx_d (q := (164, .iload 4, 2)) D_MO_takeTag 99 rfl
theorem d_MO_takeTag_166 : decode M_MO_takeTag.2.1 166 = .ok (.i2l, 1) := fx_d (q := (166, .i2l, 1)) D_MO_takeTag 100 rfl
theorem d_MO_takeTag_167 : decode M_MO_takeTag.2.1 167 = .ok (.lmul, 1) := fx_d (q := (167, .lmul, 1)) D_MO_takeTag 101 rfl
theorem d_MO_takeTag_168 : decode M_MO_takeTag.2.1 168 = .ok (.ladd, 1) := fx_d (q := (168, .ladd, 1)) D_MO_takeTag 102 rfl
theorem d_MO_takeTag_169 : decode M_MO_takeTag.2.1 169 = .ok (.aload_n 0, 1) := fx_d (q := (169, .aload_n 0, 1)) D_MO_takeTag 103 rfl
theorem d_MO_takeTag_170 : decode M_MO_takeTag.2.1 170 = .ok (.getfield 105, 3) := fx_d (q := (170, .getfield 105, 3)) D_MO_takeTag 104 rfl
theorem d_MO_takeTag_173 : decode M_MO_takeTag.2.1 173 = .ok (.i2l, 1) := fx_d (q := (173, .i2l, 1)) D_MO_takeTag 105 rfl
theorem d_MO_takeTag_174 : decode M_MO_takeTag.2.1 174 = .ok (.lcmp, 1) := fx_d (q := (174, .lcmp, 1)) D_MO_takeTag 106 rfl
theorem d_MO_takeTag_175 : decode M_MO_takeTag.2.1 175 = .ok (.ifCond .gt 7, 3) := fx_d (q := (175, .ifCond .gt 7, 3)) D_MO_takeTag 107 rfl
theorem d_MO_takeTag_178 : decode M_MO_takeTag.2.1 178 = .ok (.iconst 1, 1) := fx_d (q := (178, .iconst 1, 1)) D_MO_takeTag 108 rfl
theorem d_MO_takeTag_179 : decode M_MO_takeTag.2.1 179 = .ok (.goto 4, 3) := fx_d (q := (179, .goto 4, 3)) D_MO_takeTag 109 rfl
theorem d_MO_takeTag_182 : decode M_MO_takeTag.2.1 182 = .ok (.iconst 0, 1) := fx_d (q := (182, .iconst 0, 1)) D_MO_takeTag 110 rfl
theorem d_MO_takeTag_183 : decode M_MO_takeTag.2.1 183 = .ok (.ireturn, 1) := fx_d (q := (183, .ireturn, 1)) D_MO_takeTag 111 rfl
set_option maxRecDepth 100000 in
def L_MO_fit : List (Nat × Instr × Nat) := [(0, .iconst 0, 1), (1, .istore_n 1, 1), (2, .iload_n 1, 1), (3, .bipush 8, 2), (5, .if_icmp .ge 20, 3), (8, .aload_n 0, 1), (9, .getfield 62, 3), (12, .iload_n 1, 1), (13, .baload, 1), (14, .ifCond .ne 5, 3), (17, .iconst 0, 1), (18, .ireturn, 1), (19, .iinc 1 1, 3), (22, .goto (-20), 3), (25, .aload_n 0, 1), (26, .iconst 2, 1), (27, .iconst 0, 1), (28, .invokevirtual 260, 3), (31, .lstore_n 1, 1), (32, .aload_n 0, 1), (33, .lload_n 1, 1), (34, .ldc2_w 247, 3), (37, .lcmp, 1), (38, .ifCond .ne 7, 3), (41, .iconst 1, 1), (42, .goto 4, 3), (45, .iconst 0, 1), (46, .putfield 128, 3), (49, .lload_n 1, 1), (50, .lconst 1, 1), (51, .lcmp, 1), (52, .ifCond .eq 11, 3), (55, .lload_n 1, 1), (56, .ldc2_w 247, 3), (59, .lcmp, 1), (60, .ifCond .ne 63, 3), (63, .aload_n 0, 1), (64, .getfield 128, 3), (67, .aload_n 0, 1), (68, .iconst 0, 1), (69, .iconst 0, 1), (70, .invokevirtual 260, 3), (73, .aload_n 0, 1), (74, .iconst 1, 1), (75, .iconst 0, 1), (76, .invokevirtual 260, 3), (79, .invokestatic 89, 3), (82, .ifCond .eq 41, 3), (85, .aload_n 0, 1), (86, .iconst 3, 1), (87, .iconst 0, 1), (88, .invokevirtual 260, 3), (91, .invokestatic 222, 3), (94, .ifCond .eq 29, 3), (97, .aload_n 0, 1), (98, .iconst 4, 1), (99, .iconst 0, 1), (100, .invokevirtual 260, 3), (103, .aload_n 0, 1), (104, .getfield 128, 3), (107, .ifCond .eq 7, 3), (110, .lconst 1, 1), (111, .goto 4, 3), (114, .lconst 0, 1), (115, .lcmp, 1), (116, .ifCond .ne 7, 3), (119, .iconst 1, 1), (120, .goto 4, 3), (123, .iconst 0, 1), (124, .istore_n 3, 1), (125, .iload_n 3, 1), (126, .ifCond .eq 58, 3), (129, .aload_n 0, 1), (130, .bipush 6, 2), (132, .iconst 0, 1), (133, .invokevirtual 260, 3), (136, .lconst 1, 1), (137, .lcmp, 1), (138, .ifCond .lt 46, 3), (141, .aload_n 0, 1), (142, .bipush 6, 2), (144, .iconst 0, 1), (145, .invokevirtual 260, 3), (148, .aload_n 0, 1), (149, .iconst 1, 1), (150, .iconst 0, 1), (151, .invokevirtual 260, 3), (154, .lcmp, 1), (155, .ifCond .gt 29, 3), (158, .aload_n 0, 1), (159, .getfield 62, 3), (162, .bipush 8, 2), (164, .baload, 1), (165, .ifCond .eq 15, 3), (168, .aload_n 0, 1), (169, .bipush 8, 2), (171, .iconst 0, 1), (172, .invokevirtual 260, 3), (175, .lconst 1, 1), (176, .lcmp, 1), (177, .ifCond .ne 7, 3), (180, .iconst 1, 1), (181, .goto 4, 3), (184, .iconst 0, 1), (185, .istore_n 3, 1), (186, .iload_n 3, 1), (187, .ifCond .ne 5, 3), (190, .iconst 0, 1), (191, .ireturn, 1), (192, .aload_n 0, 1), (193, .aload_n 0, 1), (194, .iconst 0, 1), (195, .iconst 0, 1), (196, .invokevirtual 260, 3), (199, .l2i, 1), (200, .putfield 131, 3), (203, .aload_n 0, 1), (204, .aload_n 0, 1), (205, .iconst 1, 1), (206, .iconst 0, 1), (207, .invokevirtual 260, 3), (210, .l2i, 1), (211, .putfield 216, 3), (214, .aload_n 0, 1), (215, .aload_n 0, 1), (216, .iconst 3, 1), (217, .iconst 0, 1), (218, .invokevirtual 260, 3), (221, .l2i, 1), (222, .putfield 180, 3), (225, .aload_n 0, 1), (226, .aload_n 0, 1), (227, .bipush 6, 2), (229, .iconst 0, 1), (230, .invokevirtual 260, 3), (233, .l2i, 1), (234, .putfield 219, 3), (237, .aload_n 0, 1), (238, .getfield 216, 3), (241, .aload_n 0, 1), (242, .getfield 219, 3), (245, .iadd, 1), (246, .iconst 1, 1), (247, .isub, 1), (248, .aload_n 0, 1), (249, .getfield 219, 3), (252, .idiv, 1), (253, .istore 4, 2), (255, .aload_n 0, 1), (256, .getfield 180, 3), (259, .iconst 3, 1), (260, .if_icmp .eq 11, 3), (263, .aload_n 0, 1), (264, .getfield 180, 3), (267, .iconst 4, 1), (268, .if_icmp .ne 7, 3), (271, .iconst 1, 1), (272, .goto 4, 3), (275, .iconst 0, 1), (276, .istore 5, 2), (278, .iload 5, 2), (280, .ifCond .eq 10, 3), (283, .aload_n 0, 1), (284, .getfield 128, 3), (287, .ifCond .ne 52, 3), (290, .aload_n 0, 1), (291, .getfield 180, 3), (294, .iconst 3, 1), (295, .if_icmp .ne 13, 3), (298, .aload_n 0, 1), (299, .getfield 62, 3), (302, .bipush 8, 2), (304, .baload, 1), (305, .ifCond .eq 34, 3), (308, .aload_n 0, 1), (309, .getfield 69, 3), (312, .iconst 5, 1), (313, .laload, 1), (314, .iload 4, 2), (316, .i2l, 1), (317, .lcmp, 1), (318, .ifCond .ne 21, 3), (321, .aload_n 0, 1), (322, .getfield 69, 3), (325, .bipush 7, 2), (327, .laload, 1), (328, .iload 4, 2), (330, .i2l, 1), (331, .lcmp, 1), (332, .ifCond .ne 7, 3), (335, .iconst 1, 1), (336, .goto 4, 3), (339, .iconst 0, 1), (340, .ireturn, 1)]
set_option maxRecDepth 100000 in
theorem D_MO_fit : ∀ q ∈ L_MO_fit, decode prog_14_method_45_code q.1 = .ok q.2 := by decide +kernel
theorem d_MO_fit_0 : decode M_MO_fit.2.1 0 = .ok (.iconst 0, 1) := fx_d (q := (0, .iconst 0, 1)) D_MO_fit 0 rfl
theorem d_MO_fit_1 : decode M_MO_fit.2.1 1 = .ok (.istore_n 1, 1) := fx_d (q := (1, .istore_n 1, 1)) D_MO_fit 1 rfl
theorem d_MO_fit_2 : decode M_MO_fit.2.1 2 = .ok (.iload_n 1, 1) := fx_d (q := (2, .iload_n 1, 1)) D_MO_fit 2 rfl
theorem d_MO_fit_3 : decode M_MO_fit.2.1 3 = .ok (.bipush 8, 2) := fx_d (q := (3, .bipush 8, 2)) D_MO_fit 3 rfl
theorem d_MO_fit_5 : decode M_MO_fit.2.1 5 = .ok (.if_icmp .ge 20, 3) := fx_d (q := (5, .if_icmp .ge 20, 3)) D_MO_fit 4 rfl
theorem d_MO_fit_8 : decode M_MO_fit.2.1 8 = .ok (.aload_n 0, 1) := fx_d (q := (8, .aload_n 0, 1)) D_MO_fit 5 rfl
theorem d_MO_fit_9 : decode M_MO_fit.2.1 9 = .ok (.getfield 62, 3) := fx_d (q := (9, .getfield 62, 3)) D_MO_fit 6 rfl
theorem d_MO_fit_12 : decode M_MO_fit.2.1 12 = .ok (.iload_n 1, 1) := fx_d (q := (12, .iload_n 1, 1)) D_MO_fit 7 rfl
theorem d_MO_fit_13 : decode M_MO_fit.2.1 13 = .ok (.baload, 1) := fx_d (q := (13, .baload, 1)) D_MO_fit 8 rfl
theorem d_MO_fit_14 : decode M_MO_fit.2.1 14 = .ok (.ifCond .ne 5, 3) := fx_d (q := (14, .ifCond .ne 5, 3)) D_MO_fit 9 rfl
theorem d_MO_fit_17 : decode M_MO_fit.2.1 17 = .ok (.iconst 0, 1) := fx_d (q := (17, .iconst 0, 1)) D_MO_fit 10 rfl
theorem d_MO_fit_18 : decode M_MO_fit.2.1 18 = .ok (.ireturn, 1) := fx_d (q := (18, .ireturn, 1)) D_MO_fit 11 rfl
theorem d_MO_fit_19 : decode M_MO_fit.2.1 19 = .ok (.iinc 1 1, 3) := fx_d (q := (19, .iinc 1 1, 3)) D_MO_fit 12 rfl
theorem d_MO_fit_22 : decode M_MO_fit.2.1 22 = .ok (.goto (-20), 3) := fx_d (q := (22, .goto (-20), 3)) D_MO_fit 13 rfl
theorem d_MO_fit_25 : decode M_MO_fit.2.1 25 = .ok (.aload_n 0, 1) := fx_d (q := (25, .aload_n 0, 1)) D_MO_fit 14 rfl
theorem d_MO_fit_26 : decode M_MO_fit.2.1 26 = .ok (.iconst 2, 1) := fx_d (q := (26, .iconst 2, 1)) D_MO_fit 15 rfl
theorem d_MO_fit_27 : decode M_MO_fit.2.1 27 = .ok (.iconst 0, 1) := fx_d (q := (27, .iconst 0, 1)) D_MO_fit 16 rfl
theorem d_MO_fit_28 : decode M_MO_fit.2.1 28 = .ok (.invokevirtual 260, 3) := fx_d (q := (28, .invokevirtual 260, 3)) D_MO_fit 17 rfl
theorem d_MO_fit_31 : decode M_MO_fit.2.1 31 = .ok (.lstore_n 1, 1) := fx_d (q := (31, .lstore_n 1, 1)) D_MO_fit 18 rfl
theorem d_MO_fit_32 : decode M_MO_fit.2.1 32 = .ok (.aload_n 0, 1) := fx_d (q := (32, .aload_n 0, 1)) D_MO_fit 19 rfl
theorem d_MO_fit_33 : decode M_MO_fit.2.1 33 = .ok (.lload_n 1, 1) := fx_d (q := (33, .lload_n 1, 1)) D_MO_fit 20 rfl
theorem d_MO_fit_34 : decode M_MO_fit.2.1 34 = .ok (.ldc2_w 247, 3) := fx_d (q := (34, .ldc2_w 247, 3)) D_MO_fit 21 rfl
theorem d_MO_fit_37 : decode M_MO_fit.2.1 37 = .ok (.lcmp, 1) := fx_d (q := (37, .lcmp, 1)) D_MO_fit 22 rfl
theorem d_MO_fit_38 : decode M_MO_fit.2.1 38 = .ok (.ifCond .ne 7, 3) := fx_d (q := (38, .ifCond .ne 7, 3)) D_MO_fit 23 rfl
theorem d_MO_fit_41 : decode M_MO_fit.2.1 41 = .ok (.iconst 1, 1) := fx_d (q := (41, .iconst 1, 1)) D_MO_fit 24 rfl
theorem d_MO_fit_42 : decode M_MO_fit.2.1 42 = .ok (.goto 4, 3) := fx_d (q := (42, .goto 4, 3)) D_MO_fit 25 rfl
theorem d_MO_fit_45 : decode M_MO_fit.2.1 45 = .ok (.iconst 0, 1) := fx_d (q := (45, .iconst 0, 1)) D_MO_fit 26 rfl
theorem d_MO_fit_46 : decode M_MO_fit.2.1 46 = .ok (.putfield 128, 3) := fx_d (q := (46, .putfield 128, 3)) D_MO_fit 27 rfl
theorem d_MO_fit_49 : decode M_MO_fit.2.1 49 = .ok (.lload_n 1, 1) := fx_d (q := (49, .lload_n 1, 1)) D_MO_fit 28 rfl
theorem d_MO_fit_50 : decode M_MO_fit.2.1 50 = .ok (.lconst 1, 1) := fx_d (q := (50, .lconst 1, 1)) D_MO_fit 29 rfl
theorem d_MO_fit_51 : decode M_MO_fit.2.1 51 = .ok (.lcmp, 1) := fx_d (q := (51, .lcmp, 1)) D_MO_fit 30 rfl
theorem d_MO_fit_52 : decode M_MO_fit.2.1 52 = .ok (.ifCond .eq 11, 3) := fx_d (q := (52, .ifCond .eq 11, 3)) D_MO_fit 31 rfl
theorem d_MO_fit_55 : decode M_MO_fit.2.1 55 = .ok (.lload_n 1, 1) := fx_d (q := (55, .lload_n 1, 1)) D_MO_fit 32 rfl
theorem d_MO_fit_56 : decode M_MO_fit.2.1 56 = .ok (.ldc2_w 247, 3) := fx_d (q := (56, .ldc2_w 247, 3)) D_MO_fit 33 rfl
theorem d_MO_fit_59 : decode M_MO_fit.2.1 59 = .ok (.lcmp, 1) := fx_d (q := (59, .lcmp, 1)) D_MO_fit 34 rfl
theorem d_MO_fit_60 : decode M_MO_fit.2.1 60 = .ok (.ifCond .ne 63, 3) := fx_d (q := (60, .ifCond .ne 63, 3)) D_MO_fit 35 rfl
theorem d_MO_fit_63 : decode M_MO_fit.2.1 63 = .ok (.aload_n 0, 1) := fx_d (q := (63, .aload_n 0, 1)) D_MO_fit 36 rfl
theorem d_MO_fit_64 : decode M_MO_fit.2.1 64 = .ok (.getfield 128, 3) := fx_d (q := (64, .getfield 128, 3)) D_MO_fit 37 rfl
theorem d_MO_fit_67 : decode M_MO_fit.2.1 67 = .ok (.aload_n 0, 1) := fx_d (q := (67, .aload_n 0, 1)) D_MO_fit 38 rfl
theorem d_MO_fit_68 : decode M_MO_fit.2.1 68 = .ok (.iconst 0, 1) := fx_d (q := (68, .iconst 0, 1)) D_MO_fit 39 rfl
theorem d_MO_fit_69 : decode M_MO_fit.2.1 69 = .ok (.iconst 0, 1) := fx_d (q := (69, .iconst 0, 1)) D_MO_fit 40 rfl
theorem d_MO_fit_70 : decode M_MO_fit.2.1 70 = .ok (.invokevirtual 260, 3) := fx_d (q := (70, .invokevirtual 260, 3)) D_MO_fit 41 rfl
theorem d_MO_fit_73 : decode M_MO_fit.2.1 73 = .ok (.aload_n 0, 1) := fx_d (q := (73, .aload_n 0, 1)) D_MO_fit 42 rfl
theorem d_MO_fit_74 : decode M_MO_fit.2.1 74 = .ok (.iconst 1, 1) := fx_d (q := (74, .iconst 1, 1)) D_MO_fit 43 rfl
theorem d_MO_fit_75 : decode M_MO_fit.2.1 75 = .ok (.iconst 0, 1) := fx_d (q := (75, .iconst 0, 1)) D_MO_fit 44 rfl
theorem d_MO_fit_76 : decode M_MO_fit.2.1 76 = .ok (.invokevirtual 260, 3) := fx_d (q := (76, .invokevirtual 260, 3)) D_MO_fit 45 rfl
theorem d_MO_fit_79 : decode M_MO_fit.2.1 79 = .ok (.invokestatic 89, 3) := fx_d (q := (79, .invokestatic 89, 3)) D_MO_fit 46 rfl
theorem d_MO_fit_82 : decode M_MO_fit.2.1 82 = .ok (.ifCond .eq 41, 3) := fx_d (q := (82, .ifCond .eq 41, 3)) D_MO_fit 47 rfl
theorem d_MO_fit_85 : decode M_MO_fit.2.1 85 = .ok (.aload_n 0, 1) := fx_d (q := (85, .aload_n 0, 1)) D_MO_fit 48 rfl
theorem d_MO_fit_86 : decode M_MO_fit.2.1 86 = .ok (.iconst 3, 1) := fx_d (q := (86, .iconst 3, 1)) D_MO_fit 49 rfl
theorem d_MO_fit_87 : decode M_MO_fit.2.1 87 = .ok (.iconst 0, 1) := fx_d (q := (87, .iconst 0, 1)) D_MO_fit 50 rfl
theorem d_MO_fit_88 : decode M_MO_fit.2.1 88 = .ok (.invokevirtual 260, 3) := fx_d (q := (88, .invokevirtual 260, 3)) D_MO_fit 51 rfl
theorem d_MO_fit_91 : decode M_MO_fit.2.1 91 = .ok (.invokestatic 222, 3) := fx_d (q := (91, .invokestatic 222, 3)) D_MO_fit 52 rfl
theorem d_MO_fit_94 : decode M_MO_fit.2.1 94 = .ok (.ifCond .eq 29, 3) := fx_d (q := (94, .ifCond .eq 29, 3)) D_MO_fit 53 rfl
theorem d_MO_fit_97 : decode M_MO_fit.2.1 97 = .ok (.aload_n 0, 1) := fx_d (q := (97, .aload_n 0, 1)) D_MO_fit 54 rfl
theorem d_MO_fit_98 : decode M_MO_fit.2.1 98 = .ok (.iconst 4, 1) := fx_d (q := (98, .iconst 4, 1)) D_MO_fit 55 rfl
theorem d_MO_fit_99 : decode M_MO_fit.2.1 99 = .ok (.iconst 0, 1) := fx_d (q := (99, .iconst 0, 1)) D_MO_fit 56 rfl
theorem d_MO_fit_100 : decode M_MO_fit.2.1 100 = .ok (.invokevirtual 260, 3) := fx_d (q := (100, .invokevirtual 260, 3)) D_MO_fit 57 rfl
theorem d_MO_fit_103 : decode M_MO_fit.2.1 103 = .ok (.aload_n 0, 1) := fx_d (q := (103, .aload_n 0, 1)) D_MO_fit 58 rfl
theorem d_MO_fit_104 : decode M_MO_fit.2.1 104 = .ok (.getfield 128, 3) := fx_d (q := (104, .getfield 128, 3)) D_MO_fit 59 rfl
theorem d_MO_fit_107 : decode M_MO_fit.2.1 107 = .ok (.ifCond .eq 7, 3) := fx_d (q := (107, .ifCond .eq 7, 3)) D_MO_fit 60 rfl
theorem d_MO_fit_110 : decode M_MO_fit.2.1 110 = .ok (.lconst 1, 1) := fx_d (q := (110, .lconst 1, 1)) D_MO_fit 61 rfl
theorem d_MO_fit_111 : decode M_MO_fit.2.1 111 = .ok (.goto 4, 3) := fx_d (q := (111, .goto 4, 3)) D_MO_fit 62 rfl
theorem d_MO_fit_114 : decode M_MO_fit.2.1 114 = .ok (.lconst 0, 1) := fx_d (q := (114, .lconst 0, 1)) D_MO_fit 63 rfl
theorem d_MO_fit_115 : decode M_MO_fit.2.1 115 = .ok (.lcmp, 1) := fx_d (q := (115, .lcmp, 1)) D_MO_fit 64 rfl
theorem d_MO_fit_116 : decode M_MO_fit.2.1 116 = .ok (.ifCond .ne 7, 3) := fx_d (q := (116, .ifCond .ne 7, 3)) D_MO_fit 65 rfl
theorem d_MO_fit_119 : decode M_MO_fit.2.1 119 = .ok (.iconst 1, 1) := fx_d (q := (119, .iconst 1, 1)) D_MO_fit 66 rfl
theorem d_MO_fit_120 : decode M_MO_fit.2.1 120 = .ok (.goto 4, 3) := fx_d (q := (120, .goto 4, 3)) D_MO_fit 67 rfl
theorem d_MO_fit_123 : decode M_MO_fit.2.1 123 = .ok (.iconst 0, 1) := fx_d (q := (123, .iconst 0, 1)) D_MO_fit 68 rfl
theorem d_MO_fit_124 : decode M_MO_fit.2.1 124 = .ok (.istore_n 3, 1) := fx_d (q := (124, .istore_n 3, 1)) D_MO_fit 69 rfl
theorem d_MO_fit_125 : decode M_MO_fit.2.1 125 = .ok (.iload_n 3, 1) := fx_d (q := (125, .iload_n 3, 1)) D_MO_fit 70 rfl
theorem d_MO_fit_126 : decode M_MO_fit.2.1 126 = .ok (.ifCond .eq 58, 3) := fx_d (q := (126, .ifCond .eq 58, 3)) D_MO_fit 71 rfl
theorem d_MO_fit_129 : decode M_MO_fit.2.1 129 = .ok (.aload_n 0, 1) := fx_d (q := (129, .aload_n 0, 1)) D_MO_fit 72 rfl
theorem d_MO_fit_130 : decode M_MO_fit.2.1 130 = .ok (.bipush 6, 2) := fx_d (q := (130, .bipush 6, 2)) D_MO_fit 73 rfl
theorem d_MO_fit_132 : decode M_MO_fit.2.1 132 = .ok (.iconst 0, 1) := fx_d (q := (132, .iconst 0, 1)) D_MO_fit 74 rfl
theorem d_MO_fit_133 : decode M_MO_fit.2.1 133 = .ok (.invokevirtual 260, 3) := fx_d (q := (133, .invokevirtual 260, 3)) D_MO_fit 75 rfl
theorem d_MO_fit_136 : decode M_MO_fit.2.1 136 = .ok (.lconst 1, 1) := fx_d (q := (136, .lconst 1, 1)) D_MO_fit 76 rfl
theorem d_MO_fit_137 : decode M_MO_fit.2.1 137 = .ok (.lcmp, 1) := fx_d (q := (137, .lcmp, 1)) D_MO_fit 77 rfl
theorem d_MO_fit_138 : decode M_MO_fit.2.1 138 = .ok (.ifCond .lt 46, 3) := fx_d (q := (138, .ifCond .lt 46, 3)) D_MO_fit 78 rfl
theorem d_MO_fit_141 : decode M_MO_fit.2.1 141 = .ok (.aload_n 0, 1) := fx_d (q := (141, .aload_n 0, 1)) D_MO_fit 79 rfl
theorem d_MO_fit_142 : decode M_MO_fit.2.1 142 = .ok (.bipush 6, 2) := fx_d (q := (142, .bipush 6, 2)) D_MO_fit 80 rfl
theorem d_MO_fit_144 : decode M_MO_fit.2.1 144 = .ok (.iconst 0, 1) := fx_d (q := (144, .iconst 0, 1)) D_MO_fit 81 rfl
theorem d_MO_fit_145 : decode M_MO_fit.2.1 145 = .ok (.invokevirtual 260, 3) := fx_d (q := (145, .invokevirtual 260, 3)) D_MO_fit 82 rfl
theorem d_MO_fit_148 : decode M_MO_fit.2.1 148 = .ok (.aload_n 0, 1) := fx_d (q := (148, .aload_n 0, 1)) D_MO_fit 83 rfl
theorem d_MO_fit_149 : decode M_MO_fit.2.1 149 = .ok (.iconst 1, 1) := fx_d (q := (149, .iconst 1, 1)) D_MO_fit 84 rfl
theorem d_MO_fit_150 : decode M_MO_fit.2.1 150 = .ok (.iconst 0, 1) := fx_d (q := (150, .iconst 0, 1)) D_MO_fit 85 rfl
theorem d_MO_fit_151 : decode M_MO_fit.2.1 151 = .ok (.invokevirtual 260, 3) := fx_d (q := (151, .invokevirtual 260, 3)) D_MO_fit 86 rfl
theorem d_MO_fit_154 : decode M_MO_fit.2.1 154 = .ok (.lcmp, 1) := fx_d (q := (154, .lcmp, 1)) D_MO_fit 87 rfl
theorem d_MO_fit_155 : decode M_MO_fit.2.1 155 = .ok (.ifCond .gt 29, 3) := fx_d (q := (155, .ifCond .gt 29, 3)) D_MO_fit 88 rfl
theorem d_MO_fit_158 : decode M_MO_fit.2.1 158 = .ok (.aload_n 0, 1) := fx_d (q := (158, .aload_n 0, 1)) D_MO_fit 89 rfl
theorem d_MO_fit_159 : decode M_MO_fit.2.1 159 = .ok (.getfield 62, 3) := fx_d (q := (159, .getfield 62, 3)) D_MO_fit 90 rfl
theorem d_MO_fit_162 : decode M_MO_fit.2.1 162 = .ok (.bipush 8, 2) := fx_d (q := (162, .bipush 8, 2)) D_MO_fit 91 rfl
theorem d_MO_fit_164 : decode M_MO_fit.2.1 164 = .ok (.baload, 1) := fx_d (q := (164, .baload, 1)) D_MO_fit 92 rfl
theorem d_MO_fit_165 : decode M_MO_fit.2.1 165 = .ok (.ifCond .eq 15, 3) := fx_d (q := (165, .ifCond .eq 15, 3)) D_MO_fit 93 rfl
theorem d_MO_fit_168 : decode M_MO_fit.2.1 168 = .ok (.aload_n 0, 1) := fx_d (q := (168, .aload_n 0, 1)) D_MO_fit 94 rfl
theorem d_MO_fit_169 : decode M_MO_fit.2.1 169 = .ok (.bipush 8, 2) := fx_d (q := (169, .bipush 8, 2)) D_MO_fit 95 rfl
theorem d_MO_fit_171 : decode M_MO_fit.2.1 171 = .ok (.iconst 0, 1) := fx_d (q := (171, .iconst 0, 1)) D_MO_fit 96 rfl
theorem d_MO_fit_172 : decode M_MO_fit.2.1 172 = .ok (.invokevirtual 260, 3) := fx_d (q := (172, .invokevirtual 260, 3)) D_MO_fit 97 rfl
theorem d_MO_fit_175 : decode M_MO_fit.2.1 175 = .ok (.lconst 1, 1) := fx_d (q := (175, .lconst 1, 1)) D_MO_fit 98 rfl
theorem d_MO_fit_176 : decode M_MO_fit.2.1 176 = .ok (.lcmp, 1) := fx_d (q := (176, .lcmp, 1)) D_MO_fit 99 rfl
theorem d_MO_fit_177 : decode M_MO_fit.2.1 177 = .ok (.ifCond .ne 7, 3) := fx_d (q := (177, .ifCond .ne 7, 3)) D_MO_fit 100 rfl
theorem d_MO_fit_180 : decode M_MO_fit.2.1 180 = .ok (.iconst 1, 1) := fx_d (q := (180, .iconst 1, 1)) D_MO_fit 101 rfl
theorem d_MO_fit_181 : decode M_MO_fit.2.1 181 = .ok (.goto 4, 3) := fx_d (q := (181, .goto 4, 3)) D_MO_fit 102 rfl
theorem d_MO_fit_184 : decode M_MO_fit.2.1 184 = .ok (.iconst 0, 1) := fx_d (q := (184, .iconst 0, 1)) D_MO_fit 103 rfl
theorem d_MO_fit_185 : decode M_MO_fit.2.1 185 = .ok (.istore_n 3, 1) := fx_d (q := (185, .istore_n 3, 1)) D_MO_fit 104 rfl
theorem d_MO_fit_186 : decode M_MO_fit.2.1 186 = .ok (.iload_n 3, 1) := fx_d (q := (186, .iload_n 3, 1)) D_MO_fit 105 rfl
theorem d_MO_fit_187 : decode M_MO_fit.2.1 187 = .ok (.ifCond .ne 5, 3) := fx_d (q := (187, .ifCond .ne 5, 3)) D_MO_fit 106 rfl
theorem d_MO_fit_190 : decode M_MO_fit.2.1 190 = .ok (.iconst 0, 1) := fx_d (q := (190, .iconst 0, 1)) D_MO_fit 107 rfl
theorem d_MO_fit_191 : decode M_MO_fit.2.1 191 = .ok (.ireturn, 1) := fx_d (q := (191, .ireturn, 1)) D_MO_fit 108 rfl
theorem d_MO_fit_192 : decode M_MO_fit.2.1 192 = .ok (.aload_n 0, 1) := fx_d (q := (192, .aload_n 0, 1)) D_MO_fit 109 rfl
theorem d_MO_fit_193 : decode M_MO_fit.2.1 193 = .ok (.aload_n 0, 1) := fx_d (q := (193, .aload_n 0, 1)) D_MO_fit 110 rfl
theorem d_MO_fit_194 : decode M_MO_fit.2.1 194 = .ok (.iconst 0, 1) := fx_d (q := (194, .iconst 0, 1)) D_MO_fit 111 rfl
theorem d_MO_fit_195 : decode M_MO_fit.2.1 195 = .ok (.iconst 0, 1) := fx_d (q := (195, .iconst 0, 1)) D_MO_fit 112 rfl
theorem d_MO_fit_196 : decode M_MO_fit.2.1 196 = .ok (.invokevirtual 260, 3) := fx_d (q := (196, .invokevirtual 260, 3)) D_MO_fit 113 rfl
theorem d_MO_fit_199 : decode M_MO_fit.2.1 199 = .ok (.l2i, 1) := fx_d (q := (199, .l2i, 1)) D_MO_fit 114 rfl
theorem d_MO_fit_200 : decode M_MO_fit.2.1 200 = .ok (.putfield 131, 3) := fx_d (q := (200, .putfield 131, 3)) D_MO_fit 115 rfl
theorem d_MO_fit_203 : decode M_MO_fit.2.1 203 = .ok (.aload_n 0, 1) := fx_d (q := (203, .aload_n 0, 1)) D_MO_fit 116 rfl
theorem d_MO_fit_204 : decode M_MO_fit.2.1 204 = .ok (.aload_n 0, 1) := fx_d (q := (204, .aload_n 0, 1)) D_MO_fit 117 rfl
theorem d_MO_fit_205 : decode M_MO_fit.2.1 205 = .ok (.iconst 1, 1) := fx_d (q := (205, .iconst 1, 1)) D_MO_fit 118 rfl
theorem d_MO_fit_206 : decode M_MO_fit.2.1 206 = .ok (.iconst 0, 1) := fx_d (q := (206, .iconst 0, 1)) D_MO_fit 119 rfl
theorem d_MO_fit_207 : decode M_MO_fit.2.1 207 = .ok (.invokevirtual 260, 3) := fx_d (q := (207, .invokevirtual 260, 3)) D_MO_fit 120 rfl
theorem d_MO_fit_210 : decode M_MO_fit.2.1 210 = .ok (.l2i, 1) := fx_d (q := (210, .l2i, 1)) D_MO_fit 121 rfl
theorem d_MO_fit_211 : decode M_MO_fit.2.1 211 = .ok (.putfield 216, 3) := fx_d (q := (211, .putfield 216, 3)) D_MO_fit 122 rfl
theorem d_MO_fit_214 : decode M_MO_fit.2.1 214 = .ok (.aload_n 0, 1) := fx_d (q := (214, .aload_n 0, 1)) D_MO_fit 123 rfl
theorem d_MO_fit_215 : decode M_MO_fit.2.1 215 = .ok (.aload_n 0, 1) := fx_d (q := (215, .aload_n 0, 1)) D_MO_fit 124 rfl
theorem d_MO_fit_216 : decode M_MO_fit.2.1 216 = .ok (.iconst 3, 1) := fx_d (q := (216, .iconst 3, 1)) D_MO_fit 125 rfl
theorem d_MO_fit_217 : decode M_MO_fit.2.1 217 = .ok (.iconst 0, 1) := fx_d (q := (217, .iconst 0, 1)) D_MO_fit 126 rfl
theorem d_MO_fit_218 : decode M_MO_fit.2.1 218 = .ok (.invokevirtual 260, 3) := fx_d (q := (218, .invokevirtual 260, 3)) D_MO_fit 127 rfl
theorem d_MO_fit_221 : decode M_MO_fit.2.1 221 = .ok (.l2i, 1) := fx_d (q := (221, .l2i, 1)) D_MO_fit 128 rfl
theorem d_MO_fit_222 : decode M_MO_fit.2.1 222 = .ok (.putfield 180, 3) := fx_d (q := (222, .putfield 180, 3)) D_MO_fit 129 rfl
theorem d_MO_fit_225 : decode M_MO_fit.2.1 225 = .ok (.aload_n 0, 1) := fx_d (q := (225, .aload_n 0, 1)) D_MO_fit 130 rfl
theorem d_MO_fit_226 : decode M_MO_fit.2.1 226 = .ok (.aload_n 0, 1) := fx_d (q := (226, .aload_n 0, 1)) D_MO_fit 131 rfl
theorem d_MO_fit_227 : decode M_MO_fit.2.1 227 = .ok (.bipush 6, 2) := fx_d (q := (227, .bipush 6, 2)) D_MO_fit 132 rfl
theorem d_MO_fit_229 : decode M_MO_fit.2.1 229 = .ok (.iconst 0, 1) := fx_d (q := (229, .iconst 0, 1)) D_MO_fit 133 rfl
theorem d_MO_fit_230 : decode M_MO_fit.2.1 230 = .ok (.invokevirtual 260, 3) := fx_d (q := (230, .invokevirtual 260, 3)) D_MO_fit 134 rfl
theorem d_MO_fit_233 : decode M_MO_fit.2.1 233 = .ok (.l2i, 1) := fx_d (q := (233, .l2i, 1)) D_MO_fit 135 rfl
theorem d_MO_fit_234 : decode M_MO_fit.2.1 234 = .ok (.putfield 219, 3) := fx_d (q := (234, .putfield 219, 3)) D_MO_fit 136 rfl
theorem d_MO_fit_237 : decode M_MO_fit.2.1 237 = .ok (.aload_n 0, 1) := fx_d (q := (237, .aload_n 0, 1)) D_MO_fit 137 rfl
theorem d_MO_fit_238 : decode M_MO_fit.2.1 238 = .ok (.getfield 216, 3) := fx_d (q := (238, .getfield 216, 3)) D_MO_fit 138 rfl
theorem d_MO_fit_241 : decode M_MO_fit.2.1 241 = .ok (.aload_n 0, 1) := fx_d (q := (241, .aload_n 0, 1)) D_MO_fit 139 rfl
theorem d_MO_fit_242 : decode M_MO_fit.2.1 242 = .ok (.getfield 219, 3) := fx_d (q := (242, .getfield 219, 3)) D_MO_fit 140 rfl
theorem d_MO_fit_245 : decode M_MO_fit.2.1 245 = .ok (.iadd, 1) := fx_d (q := (245, .iadd, 1)) D_MO_fit 141 rfl
theorem d_MO_fit_246 : decode M_MO_fit.2.1 246 = .ok (.iconst 1, 1) := fx_d (q := (246, .iconst 1, 1)) D_MO_fit 142 rfl
theorem d_MO_fit_247 : decode M_MO_fit.2.1 247 = .ok (.isub, 1) := fx_d (q := (247, .isub, 1)) D_MO_fit 143 rfl
theorem d_MO_fit_248 : decode M_MO_fit.2.1 248 = .ok (.aload_n 0, 1) := fx_d (q := (248, .aload_n 0, 1)) D_MO_fit 144 rfl
theorem d_MO_fit_249 : decode M_MO_fit.2.1 249 = .ok (.getfield 219, 3) := fx_d (q := (249, .getfield 219, 3)) D_MO_fit 145 rfl
theorem d_MO_fit_252 : decode M_MO_fit.2.1 252 = .ok (.idiv, 1) := fx_d (q := (252, .idiv, 1)) D_MO_fit 146 rfl
theorem d_MO_fit_253 : decode M_MO_fit.2.1 253 = .ok (.istore 4, 2) := fx_d (q := (253, .istore 4, 2)) D_MO_fit 147 rfl
theorem d_MO_fit_255 : decode M_MO_fit.2.1 255 = .ok (.aload_n 0, 1) := fx_d (q := (255, .aload_n 0, 1)) D_MO_fit 148 rfl
theorem d_MO_fit_256 : decode M_MO_fit.2.1 256 = .ok (.getfield 180, 3) := fx_d (q := (256, .getfield 180, 3)) D_MO_fit 149 rfl
theorem d_MO_fit_259 : decode M_MO_fit.2.1 259 = .ok (.iconst 3, 1) := fx_d (q := (259, .iconst 3, 1)) D_MO_fit 150 rfl
theorem d_MO_fit_260 : decode M_MO_fit.2.1 260 = .ok (.if_icmp .eq 11, 3) := fx_d (q := (260, .if_icmp .eq 11, 3)) D_MO_fit 151 rfl
theorem d_MO_fit_263 : decode M_MO_fit.2.1 263 = .ok (.aload_n 0, 1) := fx_d (q := (263, .aload_n 0, 1)) D_MO_fit 152 rfl
theorem d_MO_fit_264 : decode M_MO_fit.2.1 264 = .ok (.getfield 180, 3) := fx_d (q := (264, .getfield 180, 3)) D_MO_fit 153 rfl
theorem d_MO_fit_267 : decode M_MO_fit.2.1 267 = .ok (.iconst 4, 1) := fx_d (q := (267, .iconst 4, 1)) D_MO_fit 154 rfl
theorem d_MO_fit_268 : decode M_MO_fit.2.1 268 = .ok (.if_icmp .ne 7, 3) := fx_d (q := (268, .if_icmp .ne 7, 3)) D_MO_fit 155 rfl
theorem d_MO_fit_271 : decode M_MO_fit.2.1 271 = .ok (.iconst 1, 1) := fx_d (q := (271, .iconst 1, 1)) D_MO_fit 156 rfl
theorem d_MO_fit_272 : decode M_MO_fit.2.1 272 = .ok (.goto 4, 3) := fx_d (q := (272, .goto 4, 3)) D_MO_fit 157 rfl
theorem d_MO_fit_275 : decode M_MO_fit.2.1 275 = .ok (.iconst 0, 1) := fx_d (q := (275, .iconst 0, 1)) D_MO_fit 158 rfl
theorem d_MO_fit_276 : decode M_MO_fit.2.1 276 = .ok (.istore 5, 2) := fx_d (q := (276, .istore 5, 2)) D_MO_fit 159 rfl
theorem d_MO_fit_278 : decode M_MO_fit.2.1 278 = .ok (.iload 5, 2) := fx_d (q := (278, .iload 5, 2)) D_MO_fit 160 rfl
theorem d_MO_fit_280 : decode M_MO_fit.2.1 280 = .ok (.ifCond .eq 10, 3) := fx_d (q := (280, .ifCond .eq 10, 3)) D_MO_fit 161 rfl
theorem d_MO_fit_283 : decode M_MO_fit.2.1 283 = .ok (.aload_n 0, 1) := fx_d (q := (283, .aload_n 0, 1)) D_MO_fit 162 rfl
theorem d_MO_fit_284 : decode M_MO_fit.2.1 284 = .ok (.getfield 128, 3) := fx_d (q := (284, .getfield 128, 3)) D_MO_fit 163 rfl
theorem d_MO_fit_287 : decode M_MO_fit.2.1 287 = .ok (.ifCond .ne 52, 3) := fx_d (q := (287, .ifCond .ne 52, 3)) D_MO_fit 164 rfl
theorem d_MO_fit_290 : decode M_MO_fit.2.1 290 = .ok (.aload_n 0, 1) := fx_d (q := (290, .aload_n 0, 1)) D_MO_fit 165 rfl
theorem d_MO_fit_291 : decode M_MO_fit.2.1 291 = .ok (.getfield 180, 3) := fx_d (q := (291, .getfield 180, 3)) D_MO_fit 166 rfl
theorem d_MO_fit_294 : decode M_MO_fit.2.1 294 = .ok (.iconst 3, 1) := fx_d (q := (294, .iconst 3, 1)) D_MO_fit 167 rfl
theorem d_MO_fit_295 : decode M_MO_fit.2.1 295 = .ok (.if_icmp .ne 13, 3) := fx_d (q := (295, .if_icmp .ne 13, 3)) D_MO_fit 168 rfl
theorem d_MO_fit_298 : decode M_MO_fit.2.1 298 = .ok (.aload_n 0, 1) := fx_d (q := (298, .aload_n 0, 1)) D_MO_fit 169 rfl
theorem d_MO_fit_299 : decode M_MO_fit.2.1 299 = .ok (.getfield 62, 3) := fx_d (q := (299, .getfield 62, 3)) D_MO_fit 170 rfl
theorem d_MO_fit_302 : decode M_MO_fit.2.1 302 = .ok (.bipush 8, 2) := fx_d (q := (302, .bipush 8, 2)) D_MO_fit 171 rfl
theorem d_MO_fit_304 : decode M_MO_fit.2.1 304 = .ok (.baload, 1) := fx_d (q := (304, .baload, 1)) D_MO_fit 172 rfl
theorem d_MO_fit_305 : decode M_MO_fit.2.1 305 = .ok (.ifCond .eq 34, 3) := fx_d (q := (305, .ifCond .eq 34, 3)) D_MO_fit 173 rfl
theorem d_MO_fit_308 : decode M_MO_fit.2.1 308 = .ok (.aload_n 0, 1) := fx_d (q := (308, .aload_n 0, 1)) D_MO_fit 174 rfl
theorem d_MO_fit_309 : decode M_MO_fit.2.1 309 = .ok (.getfield 69, 3) := fx_d (q := (309, .getfield 69, 3)) D_MO_fit 175 rfl
theorem d_MO_fit_312 : decode M_MO_fit.2.1 312 = .ok (.iconst 5, 1) := fx_d (q := (312, .iconst 5, 1)) D_MO_fit 176 rfl
theorem d_MO_fit_313 : decode M_MO_fit.2.1 313 = .ok (.laload, 1) := fx_d (q := (313, .laload, 1)) D_MO_fit 177 rfl
theorem d_MO_fit_314 : decode M_MO_fit.2.1 314 = .ok (.iload 4, 2) := fx_d (q := (314, .iload 4, 2)) D_MO_fit 178 rfl
theorem d_MO_fit_316 : decode M_MO_fit.2.1 316 = .ok (.i2l, 1) := fx_d (q := (316, .i2l, 1)) D_MO_fit 179 rfl
theorem d_MO_fit_317 : decode M_MO_fit.2.1 317 = .ok (.lcmp, 1) := fx_d (q := (317, .lcmp, 1)) D_MO_fit 180 rfl
theorem d_MO_fit_318 : decode M_MO_fit.2.1 318 = .ok (.ifCond .ne 21, 3) := fx_d (q := (318, .ifCond .ne 21, 3)) D_MO_fit 181 rfl
theorem d_MO_fit_321 : decode M_MO_fit.2.1 321 = .ok (.aload_n 0, 1) := fx_d (q := (321, .aload_n 0, 1)) D_MO_fit 182 rfl
theorem d_MO_fit_322 : decode M_MO_fit.2.1 322 = .ok (.getfield 69, 3) := fx_d (q := (322, .getfield 69, 3)) D_MO_fit 183 rfl
theorem d_MO_fit_325 : decode M_MO_fit.2.1 325 = .ok (.bipush 7, 2) := fx_d (q := (325, .bipush 7, 2)) D_MO_fit 184 rfl
theorem d_MO_fit_327 : decode M_MO_fit.2.1 327 = .ok (.laload, 1) := fx_d (q := (327, .laload, 1)) D_MO_fit 185 rfl
theorem d_MO_fit_328 : decode M_MO_fit.2.1 328 = .ok (.iload 4, 2) := fx_d (q := (328, .iload 4, 2)) D_MO_fit 186 rfl
theorem d_MO_fit_330 : decode M_MO_fit.2.1 330 = .ok (.i2l, 1) := fx_d (q := (330, .i2l, 1)) D_MO_fit 187 rfl
theorem d_MO_fit_331 : decode M_MO_fit.2.1 331 = .ok (.lcmp, 1) := fx_d (q := (331, .lcmp, 1)) D_MO_fit 188 rfl
theorem d_MO_fit_332 : decode M_MO_fit.2.1 332 = .ok (.ifCond .ne 7, 3) := fx_d (q := (332, .ifCond .ne 7, 3)) D_MO_fit 189 rfl
theorem d_MO_fit_335 : decode M_MO_fit.2.1 335 = .ok (.iconst 1, 1) := fx_d (q := (335, .iconst 1, 1)) D_MO_fit 190 rfl
theorem d_MO_fit_336 : decode M_MO_fit.2.1 336 = .ok (.goto 4, 3) := fx_d (q := (336, .goto 4, 3)) D_MO_fit 191 rfl
theorem d_MO_fit_339 : decode M_MO_fit.2.1 339 = .ok (.iconst 0, 1) := fx_d (q := (339, .iconst 0, 1)) D_MO_fit 192 rfl
theorem d_MO_fit_340 : decode M_MO_fit.2.1 340 = .ok (.ireturn, 1) := fx_d (q := (340, .ireturn, 1)) D_MO_fit 193 rfl
set_option maxRecDepth 100000 in
def L_MO_value : List (Nat × Instr × Nat) := [(0, .aload_n 0, 1), (1, .getfield 66, 3), (4, .iload_n 1, 1), (5, .iaload, 1), (6, .iconst 3, 1), (7, .if_icmp .ne 7, 3), (10, .iconst 2, 1), (11, .goto 4, 3), (14, .iconst 4, 1), (15, .istore_n 3, 1), (16, .aload_n 0, 1), (17, .aload_n 0, 1), (18, .getfield 73, 3), (21, .iload_n 1, 1), (22, .laload, 1), (23, .iload_n 3, 1), (24, .i2l, 1), (25, .iload_n 2, 1), (26, .i2l, 1), (27, .lmul, 1), (28, .ladd, 1), (29, .iload_n 3, 1), (30, .invokevirtual 243, 3), (33, .lreturn, 1)]
set_option maxRecDepth 100000 in
theorem D_MO_value : ∀ q ∈ L_MO_value, decode prog_14_method_44_code q.1 = .ok q.2 := by decide +kernel
theorem d_MO_value_0 : decode M_MO_value.2.1 0 = .ok (.aload_n 0, 1) := fx_d (q := (0, .aload_n 0, 1)) D_MO_value 0 rfl
theorem d_MO_value_1 : decode M_MO_value.2.1 1 = .ok (.getfield 66, 3) := fx_d (q := (1, .getfield 66, 3)) D_MO_value 1 rfl
theorem d_MO_value_4 : decode M_MO_value.2.1 4 = .ok (.iload_n 1, 1) := fx_d (q := (4, .iload_n 1, 1)) D_MO_value 2 rfl
theorem d_MO_value_5 : decode M_MO_value.2.1 5 = .ok (.iaload, 1) := fx_d (q := (5, .iaload, 1)) D_MO_value 3 rfl
theorem d_MO_value_6 : decode M_MO_value.2.1 6 = .ok (.iconst 3, 1) := fx_d (q := (6, .iconst 3, 1)) D_MO_value 4 rfl
theorem d_MO_value_7 : decode M_MO_value.2.1 7 = .ok (.if_icmp .ne 7, 3) := fx_d (q := (7, .if_icmp .ne 7, 3)) D_MO_value 5 rfl
theorem d_MO_value_10 : decode M_MO_value.2.1 10 = .ok (.iconst 2, 1) := fx_d (q := (10, .iconst 2, 1)) D_MO_value 6 rfl
theorem d_MO_value_11 : decode M_MO_value.2.1 11 = .ok (.goto 4, 3) := fx_d (q := (11, .goto 4, 3)) D_MO_value 7 rfl
theorem d_MO_value_14 : decode M_MO_value.2.1 14 = .ok (.iconst 4, 1) := fx_d (q := (14, .iconst 4, 1)) D_MO_value 8 rfl
theorem d_MO_value_15 : decode M_MO_value.2.1 15 = .ok (.istore_n 3, 1) := fx_d (q := (15, .istore_n 3, 1)) D_MO_value 9 rfl
theorem d_MO_value_16 : decode M_MO_value.2.1 16 = .ok (.aload_n 0, 1) := fx_d (q := (16, .aload_n 0, 1)) D_MO_value 10 rfl
theorem d_MO_value_17 : decode M_MO_value.2.1 17 = .ok (.aload_n 0, 1) := fx_d (q := (17, .aload_n 0, 1)) D_MO_value 11 rfl
theorem d_MO_value_18 : decode M_MO_value.2.1 18 = .ok (.getfield 73, 3) := fx_d (q := (18, .getfield 73, 3)) D_MO_value 12 rfl
theorem d_MO_value_21 : decode M_MO_value.2.1 21 = .ok (.iload_n 1, 1) := fx_d (q := (21, .iload_n 1, 1)) D_MO_value 13 rfl
theorem d_MO_value_22 : decode M_MO_value.2.1 22 = .ok (.laload, 1) := fx_d (q := (22, .laload, 1)) D_MO_value 14 rfl
theorem d_MO_value_23 : decode M_MO_value.2.1 23 = .ok (.iload_n 3, 1) := fx_d (q := (23, .iload_n 3, 1)) D_MO_value 15 rfl
theorem d_MO_value_24 : decode M_MO_value.2.1 24 = .ok (.i2l, 1) := fx_d (q := (24, .i2l, 1)) D_MO_value 16 rfl
theorem d_MO_value_25 : decode M_MO_value.2.1 25 = .ok (.iload_n 2, 1) := fx_d (q := (25, .iload_n 2, 1)) D_MO_value 17 rfl
theorem d_MO_value_26 : decode M_MO_value.2.1 26 = .ok (.i2l, 1) := fx_d (q := (26, .i2l, 1)) D_MO_value 18 rfl
theorem d_MO_value_27 : decode M_MO_value.2.1 27 = .ok (.lmul, 1) := fx_d (q := (27, .lmul, 1)) D_MO_value 19 rfl
theorem d_MO_value_28 : decode M_MO_value.2.1 28 = .ok (.ladd, 1) := fx_d (q := (28, .ladd, 1)) D_MO_value 20 rfl
theorem d_MO_value_29 : decode M_MO_value.2.1 29 = .ok (.iload_n 3, 1) := fx_d (q := (29, .iload_n 3, 1)) D_MO_value 21 rfl
theorem d_MO_value_30 : decode M_MO_value.2.1 30 = .ok (.invokevirtual 243, 3) := fx_d (q := (30, .invokevirtual 243, 3)) D_MO_value 22 rfl
theorem d_MO_value_33 : decode M_MO_value.2.1 33 = .ok (.lreturn, 1) := fx_d (q := (33, .lreturn, 1)) D_MO_value 23 rfl
set_option maxRecDepth 100000 in
def L_MO_inStrip : List (Nat × Instr × Nat) := [(0, .iload_n 1, 1), (1, .aload_n 0, 1), (2, .getfield 219, 3), (5, .imul, 1), (6, .istore_n 2, 1), (7, .iload_n 1, 1), (8, .aload_n 0, 1), (9, .getfield 216, 3), (12, .aload_n 0, 1), (13, .getfield 219, 3), (16, .invokestatic 226, 3), (19, .istore_n 3, 1), (20, .aload_n 0, 1), (21, .invokevirtual 137, 3), (24, .iload_n 3, 1), (25, .imul, 1), (26, .istore 4, 2), (28, .aload_n 0, 1), (29, .bipush 8, 2), (31, .aload_n 0, 1), (32, .iconst 5, 1), (33, .iload_n 1, 1), (34, .invokevirtual 260, 3), (37, .l2i, 1), (38, .imul, 1), (39, .putfield 267, 3), (42, .aload_n 0, 1), (43, .aload_n 0, 1), (44, .getfield 267, 3), (47, .bipush 8, 2), (49, .aload_n 0, 1), (50, .bipush 7, 2), (52, .iload_n 1, 1), (53, .invokevirtual 260, 3), (56, .l2i, 1), (57, .imul, 1), (58, .iadd, 1), (59, .putfield 270, 3), (62, .aload_n 0, 1), (63, .iconst 0, 1), (64, .putfield 134, 3), (67, .aload_n 0, 1), (68, .getfield 180, 3), (71, .iconst 3, 1), (72, .if_icmp .eq 11, 3), (75, .aload_n 0, 1), (76, .getfield 180, 3), (79, .iconst 4, 1), (80, .if_icmp .ne 10, 3), (83, .aload_n 0, 1), (84, .iload_n 2, 1), (85, .iload_n 3, 1), (86, .invokevirtual 313, 3), (89, .return_, 1), (90, .aload_n 0, 1), (91, .getfield 180, 3), (94, .iconst 1, 1), (95, .if_icmp .ne 57, 3), (98, .aload_n 0, 1), (99, .aload_n 0, 1), (100, .getfield 270, 3), (103, .aload_n 0, 1), (104, .getfield 267, 3), (107, .isub, 1), (108, .bipush 8, 2), (110, .iload 4, 2), (112, .imul, 1), (113, .if_icmp .ne 7, 3), (116, .iconst 1, 1), (117, .goto 4, 3), (120, .iconst 0, 1), (121, .invokevirtual 273, 3), (124, .pop, 1), (125, .aload_n 0, 1), (126, .getfield 134, 3), (129, .iload 4, 2), (131, .if_icmp .ge 44, 3), (134, .aload_n 0, 1), (135, .getfield 264, 3), (138, .ifCond .ne 37, 3), (141, .aload_n 0, 1), (142, .aload_n 0, 1), (143, .invokevirtual 283, 3), (146, .invokevirtual 286, 3), (149, .goto (-24), 3), (152, .aload_n 0, 1), (153, .getfield 180, 3), (156, .iconst 5, 1), (157, .if_icmp .ne 12, 3), (160, .aload_n 0, 1), (161, .iload 4, 2), (163, .invokevirtual 316, 3), (166, .goto 9, 3), (169, .aload_n 0, 1), (170, .iload 4, 2), (172, .invokevirtual 319, 3), (175, .aload_n 0, 1), (176, .getfield 264, 3), (179, .ifCond .ne 9, 3), (182, .aload_n 0, 1), (183, .iload_n 2, 1), (184, .iload_n 3, 1), (185, .invokevirtual 322, 3), (188, .return_, 1)]
set_option maxRecDepth 100000 in
theorem D_MO_inStrip : ∀ q ∈ L_MO_inStrip, decode prog_14_method_63_code q.1 = .ok q.2 := by decide +kernel
theorem d_MO_inStrip_0 : decode M_MO_inStrip.2.1 0 = .ok (.iload_n 1, 1) := fx_d (q := (0, .iload_n 1, 1)) D_MO_inStrip 0 rfl
theorem d_MO_inStrip_1 : decode M_MO_inStrip.2.1 1 = .ok (.aload_n 0, 1) := fx_d (q := (1, .aload_n 0, 1)) D_MO_inStrip 1 rfl
theorem d_MO_inStrip_2 : decode M_MO_inStrip.2.1 2 = .ok (.getfield 219, 3) := fx_d (q := (2, .getfield 219, 3)) D_MO_inStrip 2 rfl
theorem d_MO_inStrip_5 : decode M_MO_inStrip.2.1 5 = .ok (.imul, 1) := fx_d (q := (5, .imul, 1)) D_MO_inStrip 3 rfl
theorem d_MO_inStrip_6 : decode M_MO_inStrip.2.1 6 = .ok (.istore_n 2, 1) := fx_d (q := (6, .istore_n 2, 1)) D_MO_inStrip 4 rfl
theorem d_MO_inStrip_7 : decode M_MO_inStrip.2.1 7 = .ok (.iload_n 1, 1) := fx_d (q := (7, .iload_n 1, 1)) D_MO_inStrip 5 rfl
theorem d_MO_inStrip_8 : decode M_MO_inStrip.2.1 8 = .ok (.aload_n 0, 1) := fx_d (q := (8, .aload_n 0, 1)) D_MO_inStrip 6 rfl
theorem d_MO_inStrip_9 : decode M_MO_inStrip.2.1 9 = .ok (.getfield 216, 3) := fx_d (q := (9, .getfield 216, 3)) D_MO_inStrip 7 rfl
theorem d_MO_inStrip_12 : decode M_MO_inStrip.2.1 12 = .ok (.aload_n 0, 1) := fx_d (q := (12, .aload_n 0, 1)) D_MO_inStrip 8 rfl
theorem d_MO_inStrip_13 : decode M_MO_inStrip.2.1 13 = .ok (.getfield 219, 3) := fx_d (q := (13, .getfield 219, 3)) D_MO_inStrip 9 rfl
theorem d_MO_inStrip_16 : decode M_MO_inStrip.2.1 16 = .ok (.invokestatic 226, 3) := fx_d (q := (16, .invokestatic 226, 3)) D_MO_inStrip 10 rfl
theorem d_MO_inStrip_19 : decode M_MO_inStrip.2.1 19 = .ok (.istore_n 3, 1) := fx_d (q := (19, .istore_n 3, 1)) D_MO_inStrip 11 rfl
theorem d_MO_inStrip_20 : decode M_MO_inStrip.2.1 20 = .ok (.aload_n 0, 1) := fx_d (q := (20, .aload_n 0, 1)) D_MO_inStrip 12 rfl
theorem d_MO_inStrip_21 : decode M_MO_inStrip.2.1 21 = .ok (.invokevirtual 137, 3) := fx_d (q := (21, .invokevirtual 137, 3)) D_MO_inStrip 13 rfl
theorem d_MO_inStrip_24 : decode M_MO_inStrip.2.1 24 = .ok (.iload_n 3, 1) := fx_d (q := (24, .iload_n 3, 1)) D_MO_inStrip 14 rfl
theorem d_MO_inStrip_25 : decode M_MO_inStrip.2.1 25 = .ok (.imul, 1) := fx_d (q := (25, .imul, 1)) D_MO_inStrip 15 rfl
theorem d_MO_inStrip_26 : decode M_MO_inStrip.2.1 26 = .ok (.istore 4, 2) := fx_d (q := (26, .istore 4, 2)) D_MO_inStrip 16 rfl
theorem d_MO_inStrip_28 : decode M_MO_inStrip.2.1 28 = .ok (.aload_n 0, 1) := fx_d (q := (28, .aload_n 0, 1)) D_MO_inStrip 17 rfl
theorem d_MO_inStrip_29 : decode M_MO_inStrip.2.1 29 = .ok (.bipush 8, 2) := fx_d (q := (29, .bipush 8, 2)) D_MO_inStrip 18 rfl
theorem d_MO_inStrip_31 : decode M_MO_inStrip.2.1 31 = .ok (.aload_n 0, 1) := fx_d (q := (31, .aload_n 0, 1)) D_MO_inStrip 19 rfl
theorem d_MO_inStrip_32 : decode M_MO_inStrip.2.1 32 = .ok (.iconst 5, 1) := fx_d (q := (32, .iconst 5, 1)) D_MO_inStrip 20 rfl
theorem d_MO_inStrip_33 : decode M_MO_inStrip.2.1 33 = .ok (.iload_n 1, 1) := fx_d (q := (33, .iload_n 1, 1)) D_MO_inStrip 21 rfl
theorem d_MO_inStrip_34 : decode M_MO_inStrip.2.1 34 = .ok (.invokevirtual 260, 3) := fx_d (q := (34, .invokevirtual 260, 3)) D_MO_inStrip 22 rfl
theorem d_MO_inStrip_37 : decode M_MO_inStrip.2.1 37 = .ok (.l2i, 1) := fx_d (q := (37, .l2i, 1)) D_MO_inStrip 23 rfl
theorem d_MO_inStrip_38 : decode M_MO_inStrip.2.1 38 = .ok (.imul, 1) := fx_d (q := (38, .imul, 1)) D_MO_inStrip 24 rfl
theorem d_MO_inStrip_39 : decode M_MO_inStrip.2.1 39 = .ok (.putfield 267, 3) := fx_d (q := (39, .putfield 267, 3)) D_MO_inStrip 25 rfl
theorem d_MO_inStrip_42 : decode M_MO_inStrip.2.1 42 = .ok (.aload_n 0, 1) := fx_d (q := (42, .aload_n 0, 1)) D_MO_inStrip 26 rfl
theorem d_MO_inStrip_43 : decode M_MO_inStrip.2.1 43 = .ok (.aload_n 0, 1) := fx_d (q := (43, .aload_n 0, 1)) D_MO_inStrip 27 rfl
theorem d_MO_inStrip_44 : decode M_MO_inStrip.2.1 44 = .ok (.getfield 267, 3) := fx_d (q := (44, .getfield 267, 3)) D_MO_inStrip 28 rfl
theorem d_MO_inStrip_47 : decode M_MO_inStrip.2.1 47 = .ok (.bipush 8, 2) := fx_d (q := (47, .bipush 8, 2)) D_MO_inStrip 29 rfl
theorem d_MO_inStrip_49 : decode M_MO_inStrip.2.1 49 = .ok (.aload_n 0, 1) := fx_d (q := (49, .aload_n 0, 1)) D_MO_inStrip 30 rfl
theorem d_MO_inStrip_50 : decode M_MO_inStrip.2.1 50 = .ok (.bipush 7, 2) := fx_d (q := (50, .bipush 7, 2)) D_MO_inStrip 31 rfl
theorem d_MO_inStrip_52 : decode M_MO_inStrip.2.1 52 = .ok (.iload_n 1, 1) := fx_d (q := (52, .iload_n 1, 1)) D_MO_inStrip 32 rfl
theorem d_MO_inStrip_53 : decode M_MO_inStrip.2.1 53 = .ok (.invokevirtual 260, 3) := fx_d (q := (53, .invokevirtual 260, 3)) D_MO_inStrip 33 rfl
theorem d_MO_inStrip_56 : decode M_MO_inStrip.2.1 56 = .ok (.l2i, 1) := fx_d (q := (56, .l2i, 1)) D_MO_inStrip 34 rfl
theorem d_MO_inStrip_57 : decode M_MO_inStrip.2.1 57 = .ok (.imul, 1) := fx_d (q := (57, .imul, 1)) D_MO_inStrip 35 rfl
theorem d_MO_inStrip_58 : decode M_MO_inStrip.2.1 58 = .ok (.iadd, 1) := fx_d (q := (58, .iadd, 1)) D_MO_inStrip 36 rfl
theorem d_MO_inStrip_59 : decode M_MO_inStrip.2.1 59 = .ok (.putfield 270, 3) := fx_d (q := (59, .putfield 270, 3)) D_MO_inStrip 37 rfl
theorem d_MO_inStrip_62 : decode M_MO_inStrip.2.1 62 = .ok (.aload_n 0, 1) := fx_d (q := (62, .aload_n 0, 1)) D_MO_inStrip 38 rfl
theorem d_MO_inStrip_63 : decode M_MO_inStrip.2.1 63 = .ok (.iconst 0, 1) := fx_d (q := (63, .iconst 0, 1)) D_MO_inStrip 39 rfl
theorem d_MO_inStrip_64 : decode M_MO_inStrip.2.1 64 = .ok (.putfield 134, 3) := fx_d (q := (64, .putfield 134, 3)) D_MO_inStrip 40 rfl
theorem d_MO_inStrip_67 : decode M_MO_inStrip.2.1 67 = .ok (.aload_n 0, 1) := fx_d (q := (67, .aload_n 0, 1)) D_MO_inStrip 41 rfl
theorem d_MO_inStrip_68 : decode M_MO_inStrip.2.1 68 = .ok (.getfield 180, 3) := fx_d (q := (68, .getfield 180, 3)) D_MO_inStrip 42 rfl
theorem d_MO_inStrip_71 : decode M_MO_inStrip.2.1 71 = .ok (.iconst 3, 1) := fx_d (q := (71, .iconst 3, 1)) D_MO_inStrip 43 rfl
theorem d_MO_inStrip_72 : decode M_MO_inStrip.2.1 72 = .ok (.if_icmp .eq 11, 3) := fx_d (q := (72, .if_icmp .eq 11, 3)) D_MO_inStrip 44 rfl
theorem d_MO_inStrip_75 : decode M_MO_inStrip.2.1 75 = .ok (.aload_n 0, 1) := fx_d (q := (75, .aload_n 0, 1)) D_MO_inStrip 45 rfl
theorem d_MO_inStrip_76 : decode M_MO_inStrip.2.1 76 = .ok (.getfield 180, 3) := fx_d (q := (76, .getfield 180, 3)) D_MO_inStrip 46 rfl
theorem d_MO_inStrip_79 : decode M_MO_inStrip.2.1 79 = .ok (.iconst 4, 1) := fx_d (q := (79, .iconst 4, 1)) D_MO_inStrip 47 rfl
theorem d_MO_inStrip_80 : decode M_MO_inStrip.2.1 80 = .ok (.if_icmp .ne 10, 3) := fx_d (q := (80, .if_icmp .ne 10, 3)) D_MO_inStrip 48 rfl
theorem d_MO_inStrip_83 : decode M_MO_inStrip.2.1 83 = .ok (.aload_n 0, 1) := fx_d (q := (83, .aload_n 0, 1)) D_MO_inStrip 49 rfl
theorem d_MO_inStrip_84 : decode M_MO_inStrip.2.1 84 = .ok (.iload_n 2, 1) := fx_d (q := (84, .iload_n 2, 1)) D_MO_inStrip 50 rfl
theorem d_MO_inStrip_85 : decode M_MO_inStrip.2.1 85 = .ok (.iload_n 3, 1) := fx_d (q := (85, .iload_n 3, 1)) D_MO_inStrip 51 rfl
theorem d_MO_inStrip_86 : decode M_MO_inStrip.2.1 86 = .ok (.invokevirtual 313, 3) := fx_d (q := (86, .invokevirtual 313, 3)) D_MO_inStrip 52 rfl
theorem d_MO_inStrip_89 : decode M_MO_inStrip.2.1 89 = .ok (.return_, 1) := fx_d (q := (89, .return_, 1)) D_MO_inStrip 53 rfl
theorem d_MO_inStrip_90 : decode M_MO_inStrip.2.1 90 = .ok (.aload_n 0, 1) := fx_d (q := (90, .aload_n 0, 1)) D_MO_inStrip 54 rfl
theorem d_MO_inStrip_91 : decode M_MO_inStrip.2.1 91 = .ok (.getfield 180, 3) := fx_d (q := (91, .getfield 180, 3)) D_MO_inStrip 55 rfl
theorem d_MO_inStrip_94 : decode M_MO_inStrip.2.1 94 = .ok (.iconst 1, 1) := fx_d (q := (94, .iconst 1, 1)) D_MO_inStrip 56 rfl
theorem d_MO_inStrip_95 : decode M_MO_inStrip.2.1 95 = .ok (.if_icmp .ne 57, 3) := fx_d (q := (95, .if_icmp .ne 57, 3)) D_MO_inStrip 57 rfl
theorem d_MO_inStrip_98 : decode M_MO_inStrip.2.1 98 = .ok (.aload_n 0, 1) := fx_d (q := (98, .aload_n 0, 1)) D_MO_inStrip 58 rfl
theorem d_MO_inStrip_99 : decode M_MO_inStrip.2.1 99 = .ok (.aload_n 0, 1) := fx_d (q := (99, .aload_n 0, 1)) D_MO_inStrip 59 rfl
theorem d_MO_inStrip_100 : decode M_MO_inStrip.2.1 100 = .ok (.getfield 270, 3) := fx_d (q := (100, .getfield 270, 3)) D_MO_inStrip 60 rfl
theorem d_MO_inStrip_103 : decode M_MO_inStrip.2.1 103 = .ok (.aload_n 0, 1) := fx_d (q := (103, .aload_n 0, 1)) D_MO_inStrip 61 rfl
theorem d_MO_inStrip_104 : decode M_MO_inStrip.2.1 104 = .ok (.getfield 267, 3) := fx_d (q := (104, .getfield 267, 3)) D_MO_inStrip 62 rfl
theorem d_MO_inStrip_107 : decode M_MO_inStrip.2.1 107 = .ok (.isub, 1) := fx_d (q := (107, .isub, 1)) D_MO_inStrip 63 rfl
theorem d_MO_inStrip_108 : decode M_MO_inStrip.2.1 108 = .ok (.bipush 8, 2) := fx_d (q := (108, .bipush 8, 2)) D_MO_inStrip 64 rfl
theorem d_MO_inStrip_110 : decode M_MO_inStrip.2.1 110 = .ok (.iload 4, 2) := fx_d (q := (110, .iload 4, 2)) D_MO_inStrip 65 rfl
theorem d_MO_inStrip_112 : decode M_MO_inStrip.2.1 112 = .ok (.imul, 1) := fx_d (q := (112, .imul, 1)) D_MO_inStrip 66 rfl
theorem d_MO_inStrip_113 : decode M_MO_inStrip.2.1 113 = .ok (.if_icmp .ne 7, 3) := fx_d (q := (113, .if_icmp .ne 7, 3)) D_MO_inStrip 67 rfl
theorem d_MO_inStrip_116 : decode M_MO_inStrip.2.1 116 = .ok (.iconst 1, 1) := fx_d (q := (116, .iconst 1, 1)) D_MO_inStrip 68 rfl
theorem d_MO_inStrip_117 : decode M_MO_inStrip.2.1 117 = .ok (.goto 4, 3) := fx_d (q := (117, .goto 4, 3)) D_MO_inStrip 69 rfl
theorem d_MO_inStrip_120 : decode M_MO_inStrip.2.1 120 = .ok (.iconst 0, 1) := fx_d (q := (120, .iconst 0, 1)) D_MO_inStrip 70 rfl
theorem d_MO_inStrip_121 : decode M_MO_inStrip.2.1 121 = .ok (.invokevirtual 273, 3) := fx_d (q := (121, .invokevirtual 273, 3)) D_MO_inStrip 71 rfl
theorem d_MO_inStrip_124 : decode M_MO_inStrip.2.1 124 = .ok (.pop, 1) := fx_d (q := (124, .pop, 1)) D_MO_inStrip 72 rfl
theorem d_MO_inStrip_125 : decode M_MO_inStrip.2.1 125 = .ok (.aload_n 0, 1) := fx_d (q := (125, .aload_n 0, 1)) D_MO_inStrip 73 rfl
theorem d_MO_inStrip_126 : decode M_MO_inStrip.2.1 126 = .ok (.getfield 134, 3) := fx_d (q := (126, .getfield 134, 3)) D_MO_inStrip 74 rfl
theorem d_MO_inStrip_129 : decode M_MO_inStrip.2.1 129 = .ok (.iload 4, 2) := fx_d (q := (129, .iload 4, 2)) D_MO_inStrip 75 rfl
theorem d_MO_inStrip_131 : decode M_MO_inStrip.2.1 131 = .ok (.if_icmp .ge 44, 3) := fx_d (q := (131, .if_icmp .ge 44, 3)) D_MO_inStrip 76 rfl
theorem d_MO_inStrip_134 : decode M_MO_inStrip.2.1 134 = .ok (.aload_n 0, 1) := fx_d (q := (134, .aload_n 0, 1)) D_MO_inStrip 77 rfl
theorem d_MO_inStrip_135 : decode M_MO_inStrip.2.1 135 = .ok (.getfield 264, 3) := fx_d (q := (135, .getfield 264, 3)) D_MO_inStrip 78 rfl
theorem d_MO_inStrip_138 : decode M_MO_inStrip.2.1 138 = .ok (.ifCond .ne 37, 3) := fx_d (q := (138, .ifCond .ne 37, 3)) D_MO_inStrip 79 rfl
theorem d_MO_inStrip_141 : decode M_MO_inStrip.2.1 141 = .ok (.aload_n 0, 1) := fx_d (q := (141, .aload_n 0, 1)) D_MO_inStrip 80 rfl
theorem d_MO_inStrip_142 : decode M_MO_inStrip.2.1 142 = .ok (.aload_n 0, 1) := fx_d (q := (142, .aload_n 0, 1)) D_MO_inStrip 81 rfl
theorem d_MO_inStrip_143 : decode M_MO_inStrip.2.1 143 = .ok (.invokevirtual 283, 3) := fx_d (q := (143, .invokevirtual 283, 3)) D_MO_inStrip 82 rfl
theorem d_MO_inStrip_146 : decode M_MO_inStrip.2.1 146 = .ok (.invokevirtual 286, 3) := fx_d (q := (146, .invokevirtual 286, 3)) D_MO_inStrip 83 rfl
theorem d_MO_inStrip_149 : decode M_MO_inStrip.2.1 149 = .ok (.goto (-24), 3) := fx_d (q := (149, .goto (-24), 3)) D_MO_inStrip 84 rfl
theorem d_MO_inStrip_152 : decode M_MO_inStrip.2.1 152 = .ok (.aload_n 0, 1) := fx_d (q := (152, .aload_n 0, 1)) D_MO_inStrip 85 rfl
theorem d_MO_inStrip_153 : decode M_MO_inStrip.2.1 153 = .ok (.getfield 180, 3) := fx_d (q := (153, .getfield 180, 3)) D_MO_inStrip 86 rfl
theorem d_MO_inStrip_156 : decode M_MO_inStrip.2.1 156 = .ok (.iconst 5, 1) := fx_d (q := (156, .iconst 5, 1)) D_MO_inStrip 87 rfl
theorem d_MO_inStrip_157 : decode M_MO_inStrip.2.1 157 = .ok (.if_icmp .ne 12, 3) := fx_d (q := (157, .if_icmp .ne 12, 3)) D_MO_inStrip 88 rfl
theorem d_MO_inStrip_160 : decode M_MO_inStrip.2.1 160 = .ok (.aload_n 0, 1) := fx_d (q := (160, .aload_n 0, 1)) D_MO_inStrip 89 rfl
theorem d_MO_inStrip_161 : decode M_MO_inStrip.2.1 161 = .ok (.iload 4, 2) := fx_d (q := (161, .iload 4, 2)) D_MO_inStrip 90 rfl
theorem d_MO_inStrip_163 : decode M_MO_inStrip.2.1 163 = .ok (.invokevirtual 316, 3) := fx_d (q := (163, .invokevirtual 316, 3)) D_MO_inStrip 91 rfl
theorem d_MO_inStrip_166 : decode M_MO_inStrip.2.1 166 = .ok (.goto 9, 3) := fx_d (q := (166, .goto 9, 3)) D_MO_inStrip 92 rfl
theorem d_MO_inStrip_169 : decode M_MO_inStrip.2.1 169 = .ok (.aload_n 0, 1) := fx_d (q := (169, .aload_n 0, 1)) D_MO_inStrip 93 rfl
theorem d_MO_inStrip_170 : decode M_MO_inStrip.2.1 170 = .ok (.iload 4, 2) := fx_d (q := (170, .iload 4, 2)) D_MO_inStrip 94 rfl
theorem d_MO_inStrip_172 : decode M_MO_inStrip.2.1 172 = .ok (.invokevirtual 319, 3) := fx_d (q := (172, .invokevirtual 319, 3)) D_MO_inStrip 95 rfl
theorem d_MO_inStrip_175 : decode M_MO_inStrip.2.1 175 = .ok (.aload_n 0, 1) := fx_d (q := (175, .aload_n 0, 1)) D_MO_inStrip 96 rfl
theorem d_MO_inStrip_176 : decode M_MO_inStrip.2.1 176 = .ok (.getfield 264, 3) := fx_d (q := (176, .getfield 264, 3)) D_MO_inStrip 97 rfl
theorem d_MO_inStrip_179 : decode M_MO_inStrip.2.1 179 = .ok (.ifCond .ne 9, 3) := fx_d (q := (179, .ifCond .ne 9, 3)) D_MO_inStrip 98 rfl
theorem d_MO_inStrip_182 : decode M_MO_inStrip.2.1 182 = .ok (.aload_n 0, 1) := fx_d (q := (182, .aload_n 0, 1)) D_MO_inStrip 99 rfl
theorem d_MO_inStrip_183 : decode M_MO_inStrip.2.1 183 = .ok (.iload_n 2, 1) := fx_d (q := (183, .iload_n 2, 1)) D_MO_inStrip 100 rfl
theorem d_MO_inStrip_184 : decode M_MO_inStrip.2.1 184 = .ok (.iload_n 3, 1) := fx_d (q := (184, .iload_n 3, 1)) D_MO_inStrip 101 rfl
theorem d_MO_inStrip_185 : decode M_MO_inStrip.2.1 185 = .ok (.invokevirtual 322, 3) := fx_d (q := (185, .invokevirtual 322, 3)) D_MO_inStrip 102 rfl
theorem d_MO_inStrip_188 : decode M_MO_inStrip.2.1 188 = .ok (.return_, 1) := fx_d (q := (188, .return_, 1)) D_MO_inStrip 103 rfl
set_option maxRecDepth 100000 in
def L_MO_inFax : List (Nat × Instr × Nat) := [(0, .iload_n 1, 1), (1, .istore_n 3, 1), (2, .iload_n 3, 1), (3, .iload_n 1, 1), (4, .iload_n 2, 1), (5, .iadd, 1), (6, .if_icmp .ge 185, 3), (9, .aload_n 0, 1), (10, .getfield 264, 3), (13, .ifCond .ne 178, 3), (16, .iconst 0, 1), (17, .istore 4, 2), (19, .iload 4, 2), (21, .aload_n 0, 1), (22, .getfield 131, 3), (25, .if_icmp .ge 32, 3), (28, .aload_n 0, 1), (29, .getfield 44, 3), (32, .iload 4, 2), (34, .iload_n 3, 1), (35, .iload_n 1, 1), (36, .if_icmp .ne 7, 3), (39, .iconst 0, 1), (40, .goto 10, 3), (43, .aload_n 0, 1), (44, .getfield 41, 3), (47, .iload 4, 2), (49, .iaload, 1), (50, .iastore, 1), (51, .iinc 4 1, 3), (54, .goto (-35), 3), (57, .iconst 0, 1), (58, .istore 4, 2), (60, .aload_n 0, 1), (61, .getfield 180, 3), (64, .iconst 3, 1), (65, .if_icmp .ne 58, 3), (68, .aload_n 0, 1), (69, .aload_n 0, 1), (70, .bipush 12, 2), (72, .invokevirtual 280, 3), (75, .iconst 1, 1), (76, .if_icmp .ne 7, 3), (79, .iconst 1, 1), (80, .goto 4, 3), (83, .iconst 0, 1), (84, .invokevirtual 273, 3), (87, .pop, 1), (88, .aload_n 0, 1), (89, .invokevirtual 277, 3), (92, .iconst 1, 1), (93, .if_icmp .ne 7, 3), (96, .iconst 1, 1), (97, .goto 4, 3), (100, .iconst 0, 1), (101, .istore 4, 2), (103, .aload_n 0, 1), (104, .iload 4, 2), (106, .ifCond .ne 8, 3), (109, .iload_n 3, 1), (110, .iload_n 1, 1), (111, .if_icmp .le 7, 3), (114, .iconst 1, 1), (115, .goto 4, 3), (118, .iconst 0, 1), (119, .invokevirtual 273, 3), (122, .pop, 1), (123, .iload 4, 2), (125, .ifCond .eq 10, 3), (128, .aload_n 0, 1), (129, .invokevirtual 307, 3), (132, .goto 14, 3), (135, .aload_n 0, 1), (136, .getfield 264, 3), (139, .ifCond .ne 7, 3), (142, .aload_n 0, 1), (143, .invokevirtual 310, 3), (146, .iconst 0, 1), (147, .istore 5, 2), (149, .iload 5, 2), (151, .aload_n 0, 1), (152, .getfield 131, 3), (155, .if_icmp .ge 30, 3), (158, .aload_n 0, 1), (159, .getfield 35, 3), (162, .aload_n 0, 1), (163, .getfield 131, 3), (166, .iload_n 3, 1), (167, .imul, 1), (168, .iload 5, 2), (170, .iadd, 1), (171, .aload_n 0, 1), (172, .getfield 41, 3), (175, .iload 5, 2), (177, .iaload, 1), (178, .iastore, 1), (179, .iinc 5 1, 3), (182, .goto (-33), 3), (185, .iinc 3 1, 3), (188, .goto (-186), 3), (191, .aload_n 0, 1), (192, .getfield 180, 3), (195, .iconst 4, 1), (196, .if_icmp .ne 43, 3), (199, .aload_n 0, 1), (200, .aload_n 0, 1), (201, .bipush 12, 2), (203, .invokevirtual 280, 3), (206, .iconst 1, 1), (207, .if_icmp .ne 7, 3), (210, .iconst 1, 1), (211, .goto 4, 3), (214, .iconst 0, 1), (215, .invokevirtual 273, 3), (218, .pop, 1), (219, .aload_n 0, 1), (220, .aload_n 0, 1), (221, .bipush 12, 2), (223, .invokevirtual 280, 3), (226, .iconst 1, 1), (227, .if_icmp .ne 7, 3), (230, .iconst 1, 1), (231, .goto 4, 3), (234, .iconst 0, 1), (235, .invokevirtual 273, 3), (238, .pop, 1), (239, .aload_n 0, 1), (240, .invokevirtual 295, 3), (243, .return_, 1)]
set_option maxRecDepth 100000 in
theorem D_MO_inFax : ∀ q ∈ L_MO_inFax, decode prog_14_method_61_code q.1 = .ok q.2 := by decide +kernel
theorem d_MO_inFax_0 : decode M_MO_inFax.2.1 0 = .ok (.iload_n 1, 1) := fx_d (q := (0, .iload_n 1, 1)) D_MO_inFax 0 rfl
theorem d_MO_inFax_1 : decode M_MO_inFax.2.1 1 = .ok (.istore_n 3, 1) := fx_d (q := (1, .istore_n 3, 1)) D_MO_inFax 1 rfl
theorem d_MO_inFax_2 : decode M_MO_inFax.2.1 2 = .ok (.iload_n 3, 1) := fx_d (q := (2, .iload_n 3, 1)) D_MO_inFax 2 rfl
theorem d_MO_inFax_3 : decode M_MO_inFax.2.1 3 = .ok (.iload_n 1, 1) := fx_d (q := (3, .iload_n 1, 1)) D_MO_inFax 3 rfl
theorem d_MO_inFax_4 : decode M_MO_inFax.2.1 4 = .ok (.iload_n 2, 1) := fx_d (q := (4, .iload_n 2, 1)) D_MO_inFax 4 rfl
theorem d_MO_inFax_5 : decode M_MO_inFax.2.1 5 = .ok (.iadd, 1) := fx_d (q := (5, .iadd, 1)) D_MO_inFax 5 rfl
theorem d_MO_inFax_6 : decode M_MO_inFax.2.1 6 = .ok (.if_icmp .ge 185, 3) := fx_d (q := (6, .if_icmp .ge 185, 3)) D_MO_inFax 6 rfl
theorem d_MO_inFax_9 : decode M_MO_inFax.2.1 9 = .ok (.aload_n 0, 1) := fx_d (q := (9, .aload_n 0, 1)) D_MO_inFax 7 rfl
theorem d_MO_inFax_10 : decode M_MO_inFax.2.1 10 = .ok (.getfield 264, 3) := fx_d (q := (10, .getfield 264, 3)) D_MO_inFax 8 rfl
theorem d_MO_inFax_13 : decode M_MO_inFax.2.1 13 = .ok (.ifCond .ne 178, 3) := fx_d (q := (13, .ifCond .ne 178, 3)) D_MO_inFax 9 rfl
theorem d_MO_inFax_16 : decode M_MO_inFax.2.1 16 = .ok (.iconst 0, 1) := fx_d (q := (16, .iconst 0, 1)) D_MO_inFax 10 rfl
theorem d_MO_inFax_17 : decode M_MO_inFax.2.1 17 = .ok (.istore 4, 2) := fx_d (q := (17, .istore 4, 2)) D_MO_inFax 11 rfl
theorem d_MO_inFax_19 : decode M_MO_inFax.2.1 19 = .ok (.iload 4, 2) := fx_d (q := (19, .iload 4, 2)) D_MO_inFax 12 rfl
theorem d_MO_inFax_21 : decode M_MO_inFax.2.1 21 = .ok (.aload_n 0, 1) := fx_d (q := (21, .aload_n 0, 1)) D_MO_inFax 13 rfl
theorem d_MO_inFax_22 : decode M_MO_inFax.2.1 22 = .ok (.getfield 131, 3) := fx_d (q := (22, .getfield 131, 3)) D_MO_inFax 14 rfl
theorem d_MO_inFax_25 : decode M_MO_inFax.2.1 25 = .ok (.if_icmp .ge 32, 3) := fx_d (q := (25, .if_icmp .ge 32, 3)) D_MO_inFax 15 rfl
theorem d_MO_inFax_28 : decode M_MO_inFax.2.1 28 = .ok (.aload_n 0, 1) := fx_d (q := (28, .aload_n 0, 1)) D_MO_inFax 16 rfl
theorem d_MO_inFax_29 : decode M_MO_inFax.2.1 29 = .ok (.getfield 44, 3) := fx_d (q := (29, .getfield 44, 3)) D_MO_inFax 17 rfl
theorem d_MO_inFax_32 : decode M_MO_inFax.2.1 32 = .ok (.iload 4, 2) := fx_d (q := (32, .iload 4, 2)) D_MO_inFax 18 rfl
theorem d_MO_inFax_34 : decode M_MO_inFax.2.1 34 = .ok (.iload_n 3, 1) := fx_d (q := (34, .iload_n 3, 1)) D_MO_inFax 19 rfl
theorem d_MO_inFax_35 : decode M_MO_inFax.2.1 35 = .ok (.iload_n 1, 1) := fx_d (q := (35, .iload_n 1, 1)) D_MO_inFax 20 rfl
theorem d_MO_inFax_36 : decode M_MO_inFax.2.1 36 = .ok (.if_icmp .ne 7, 3) := fx_d (q := (36, .if_icmp .ne 7, 3)) D_MO_inFax 21 rfl
theorem d_MO_inFax_39 : decode M_MO_inFax.2.1 39 = .ok (.iconst 0, 1) := fx_d (q := (39, .iconst 0, 1)) D_MO_inFax 22 rfl
theorem d_MO_inFax_40 : decode M_MO_inFax.2.1 40 = .ok (.goto 10, 3) := fx_d (q := (40, .goto 10, 3)) D_MO_inFax 23 rfl
theorem d_MO_inFax_43 : decode M_MO_inFax.2.1 43 = .ok (.aload_n 0, 1) := fx_d (q := (43, .aload_n 0, 1)) D_MO_inFax 24 rfl
theorem d_MO_inFax_44 : decode M_MO_inFax.2.1 44 = .ok (.getfield 41, 3) := fx_d (q := (44, .getfield 41, 3)) D_MO_inFax 25 rfl
theorem d_MO_inFax_47 : decode M_MO_inFax.2.1 47 = .ok (.iload 4, 2) := fx_d (q := (47, .iload 4, 2)) D_MO_inFax 26 rfl
theorem d_MO_inFax_49 : decode M_MO_inFax.2.1 49 = .ok (.iaload, 1) := fx_d (q := (49, .iaload, 1)) D_MO_inFax 27 rfl
theorem d_MO_inFax_50 : decode M_MO_inFax.2.1 50 = .ok (.iastore, 1) := fx_d (q := (50, .iastore, 1)) D_MO_inFax 28 rfl
theorem d_MO_inFax_51 : decode M_MO_inFax.2.1 51 = .ok (.iinc 4 1, 3) := fx_d (q := (51, .iinc 4 1, 3)) D_MO_inFax 29 rfl
theorem d_MO_inFax_54 : decode M_MO_inFax.2.1 54 = .ok (.goto (-35), 3) := fx_d (q := (54, .goto (-35), 3)) D_MO_inFax 30 rfl
theorem d_MO_inFax_57 : decode M_MO_inFax.2.1 57 = .ok (.iconst 0, 1) := fx_d (q := (57, .iconst 0, 1)) D_MO_inFax 31 rfl
theorem d_MO_inFax_58 : decode M_MO_inFax.2.1 58 = .ok (.istore 4, 2) := fx_d (q := (58, .istore 4, 2)) D_MO_inFax 32 rfl
theorem d_MO_inFax_60 : decode M_MO_inFax.2.1 60 = .ok (.aload_n 0, 1) := fx_d (q := (60, .aload_n 0, 1)) D_MO_inFax 33 rfl
theorem d_MO_inFax_61 : decode M_MO_inFax.2.1 61 = .ok (.getfield 180, 3) := fx_d (q := (61, .getfield 180, 3)) D_MO_inFax 34 rfl
theorem d_MO_inFax_64 : decode M_MO_inFax.2.1 64 = .ok (.iconst 3, 1) := fx_d (q := (64, .iconst 3, 1)) D_MO_inFax 35 rfl
theorem d_MO_inFax_65 : decode M_MO_inFax.2.1 65 = .ok (.if_icmp .ne 58, 3) := fx_d (q := (65, .if_icmp .ne 58, 3)) D_MO_inFax 36 rfl
theorem d_MO_inFax_68 : decode M_MO_inFax.2.1 68 = .ok (.aload_n 0, 1) := fx_d (q := (68, .aload_n 0, 1)) D_MO_inFax 37 rfl
theorem d_MO_inFax_69 : decode M_MO_inFax.2.1 69 = .ok (.aload_n 0, 1) := fx_d (q := (69, .aload_n 0, 1)) D_MO_inFax 38 rfl
theorem d_MO_inFax_70 : decode M_MO_inFax.2.1 70 = .ok (.bipush 12, 2) := fx_d (q := (70, .bipush 12, 2)) D_MO_inFax 39 rfl
theorem d_MO_inFax_72 : decode M_MO_inFax.2.1 72 = .ok (.invokevirtual 280, 3) := fx_d (q := (72, .invokevirtual 280, 3)) D_MO_inFax 40 rfl
theorem d_MO_inFax_75 : decode M_MO_inFax.2.1 75 = .ok (.iconst 1, 1) := fx_d (q := (75, .iconst 1, 1)) D_MO_inFax 41 rfl
theorem d_MO_inFax_76 : decode M_MO_inFax.2.1 76 = .ok (.if_icmp .ne 7, 3) := fx_d (q := (76, .if_icmp .ne 7, 3)) D_MO_inFax 42 rfl
theorem d_MO_inFax_79 : decode M_MO_inFax.2.1 79 = .ok (.iconst 1, 1) := fx_d (q := (79, .iconst 1, 1)) D_MO_inFax 43 rfl
theorem d_MO_inFax_80 : decode M_MO_inFax.2.1 80 = .ok (.goto 4, 3) := fx_d (q := (80, .goto 4, 3)) D_MO_inFax 44 rfl
theorem d_MO_inFax_83 : decode M_MO_inFax.2.1 83 = .ok (.iconst 0, 1) := fx_d (q := (83, .iconst 0, 1)) D_MO_inFax 45 rfl
theorem d_MO_inFax_84 : decode M_MO_inFax.2.1 84 = .ok (.invokevirtual 273, 3) := fx_d (q := (84, .invokevirtual 273, 3)) D_MO_inFax 46 rfl
theorem d_MO_inFax_87 : decode M_MO_inFax.2.1 87 = .ok (.pop, 1) := fx_d (q := (87, .pop, 1)) D_MO_inFax 47 rfl
theorem d_MO_inFax_88 : decode M_MO_inFax.2.1 88 = .ok (.aload_n 0, 1) := fx_d (q := (88, .aload_n 0, 1)) D_MO_inFax 48 rfl
theorem d_MO_inFax_89 : decode M_MO_inFax.2.1 89 = .ok (.invokevirtual 277, 3) := fx_d (q := (89, .invokevirtual 277, 3)) D_MO_inFax 49 rfl
theorem d_MO_inFax_92 : decode M_MO_inFax.2.1 92 = .ok (.iconst 1, 1) := fx_d (q := (92, .iconst 1, 1)) D_MO_inFax 50 rfl
theorem d_MO_inFax_93 : decode M_MO_inFax.2.1 93 = .ok (.if_icmp .ne 7, 3) := fx_d (q := (93, .if_icmp .ne 7, 3)) D_MO_inFax 51 rfl
theorem d_MO_inFax_96 : decode M_MO_inFax.2.1 96 = .ok (.iconst 1, 1) := fx_d (q := (96, .iconst 1, 1)) D_MO_inFax 52 rfl
theorem d_MO_inFax_97 : decode M_MO_inFax.2.1 97 = .ok (.goto 4, 3) := fx_d (q := (97, .goto 4, 3)) D_MO_inFax 53 rfl
theorem d_MO_inFax_100 : decode M_MO_inFax.2.1 100 = .ok (.iconst 0, 1) := fx_d (q := (100, .iconst 0, 1)) D_MO_inFax 54 rfl
theorem d_MO_inFax_101 : decode M_MO_inFax.2.1 101 = .ok (.istore 4, 2) := fx_d (q := (101, .istore 4, 2)) D_MO_inFax 55 rfl
theorem d_MO_inFax_103 : decode M_MO_inFax.2.1 103 = .ok (.aload_n 0, 1) := fx_d (q := (103, .aload_n 0, 1)) D_MO_inFax 56 rfl
theorem d_MO_inFax_104 : decode M_MO_inFax.2.1 104 = .ok (.iload 4, 2) := fx_d (q := (104, .iload 4, 2)) D_MO_inFax 57 rfl
theorem d_MO_inFax_106 : decode M_MO_inFax.2.1 106 = .ok (.ifCond .ne 8, 3) := fx_d (q := (106, .ifCond .ne 8, 3)) D_MO_inFax 58 rfl
theorem d_MO_inFax_109 : decode M_MO_inFax.2.1 109 = .ok (.iload_n 3, 1) := fx_d (q := (109, .iload_n 3, 1)) D_MO_inFax 59 rfl
theorem d_MO_inFax_110 : decode M_MO_inFax.2.1 110 = .ok (.iload_n 1, 1) := fx_d (q := (110, .iload_n 1, 1)) D_MO_inFax 60 rfl
theorem d_MO_inFax_111 : decode M_MO_inFax.2.1 111 = .ok (.if_icmp .le 7, 3) := fx_d (q := (111, .if_icmp .le 7, 3)) D_MO_inFax 61 rfl
theorem d_MO_inFax_114 : decode M_MO_inFax.2.1 114 = .ok (.iconst 1, 1) := fx_d (q := (114, .iconst 1, 1)) D_MO_inFax 62 rfl
theorem d_MO_inFax_115 : decode M_MO_inFax.2.1 115 = .ok (.goto 4, 3) := fx_d (q := (115, .goto 4, 3)) D_MO_inFax 63 rfl
theorem d_MO_inFax_118 : decode M_MO_inFax.2.1 118 = .ok (.iconst 0, 1) := fx_d (q := (118, .iconst 0, 1)) D_MO_inFax 64 rfl
theorem d_MO_inFax_119 : decode M_MO_inFax.2.1 119 = .ok (.invokevirtual 273, 3) := fx_d (q := (119, .invokevirtual 273, 3)) D_MO_inFax 65 rfl
theorem d_MO_inFax_122 : decode M_MO_inFax.2.1 122 = .ok (.pop, 1) := fx_d (q := (122, .pop, 1)) D_MO_inFax 66 rfl
theorem d_MO_inFax_123 : decode M_MO_inFax.2.1 123 = .ok (.iload 4, 2) := fx_d (q := (123, .iload 4, 2)) D_MO_inFax 67 rfl
theorem d_MO_inFax_125 : decode M_MO_inFax.2.1 125 = .ok (.ifCond .eq 10, 3) := fx_d (q := (125, .ifCond .eq 10, 3)) D_MO_inFax 68 rfl
theorem d_MO_inFax_128 : decode M_MO_inFax.2.1 128 = .ok (.aload_n 0, 1) := fx_d (q := (128, .aload_n 0, 1)) D_MO_inFax 69 rfl
theorem d_MO_inFax_129 : decode M_MO_inFax.2.1 129 = .ok (.invokevirtual 307, 3) := fx_d (q := (129, .invokevirtual 307, 3)) D_MO_inFax 70 rfl
theorem d_MO_inFax_132 : decode M_MO_inFax.2.1 132 = .ok (.goto 14, 3) := fx_d (q := (132, .goto 14, 3)) D_MO_inFax 71 rfl
theorem d_MO_inFax_135 : decode M_MO_inFax.2.1 135 = .ok (.aload_n 0, 1) := fx_d (q := (135, .aload_n 0, 1)) D_MO_inFax 72 rfl
theorem d_MO_inFax_136 : decode M_MO_inFax.2.1 136 = .ok (.getfield 264, 3) := fx_d (q := (136, .getfield 264, 3)) D_MO_inFax 73 rfl
theorem d_MO_inFax_139 : decode M_MO_inFax.2.1 139 = .ok (.ifCond .ne 7, 3) := fx_d (q := (139, .ifCond .ne 7, 3)) D_MO_inFax 74 rfl
theorem d_MO_inFax_142 : decode M_MO_inFax.2.1 142 = .ok (.aload_n 0, 1) := fx_d (q := (142, .aload_n 0, 1)) D_MO_inFax 75 rfl
theorem d_MO_inFax_143 : decode M_MO_inFax.2.1 143 = .ok (.invokevirtual 310, 3) := fx_d (q := (143, .invokevirtual 310, 3)) D_MO_inFax 76 rfl
theorem d_MO_inFax_146 : decode M_MO_inFax.2.1 146 = .ok (.iconst 0, 1) := fx_d (q := (146, .iconst 0, 1)) D_MO_inFax 77 rfl
theorem d_MO_inFax_147 : decode M_MO_inFax.2.1 147 = .ok (.istore 5, 2) := fx_d (q := (147, .istore 5, 2)) D_MO_inFax 78 rfl
theorem d_MO_inFax_149 : decode M_MO_inFax.2.1 149 = .ok (.iload 5, 2) := fx_d (q := (149, .iload 5, 2)) D_MO_inFax 79 rfl
theorem d_MO_inFax_151 : decode M_MO_inFax.2.1 151 = .ok (.aload_n 0, 1) := fx_d (q := (151, .aload_n 0, 1)) D_MO_inFax 80 rfl
theorem d_MO_inFax_152 : decode M_MO_inFax.2.1 152 = .ok (.getfield 131, 3) := fx_d (q := (152, .getfield 131, 3)) D_MO_inFax 81 rfl
theorem d_MO_inFax_155 : decode M_MO_inFax.2.1 155 = .ok (.if_icmp .ge 30, 3) := fx_d (q := (155, .if_icmp .ge 30, 3)) D_MO_inFax 82 rfl
theorem d_MO_inFax_158 : decode M_MO_inFax.2.1 158 = .ok (.aload_n 0, 1) := fx_d (q := (158, .aload_n 0, 1)) D_MO_inFax 83 rfl
theorem d_MO_inFax_159 : decode M_MO_inFax.2.1 159 = .ok (.getfield 35, 3) := fx_d (q := (159, .getfield 35, 3)) D_MO_inFax 84 rfl
theorem d_MO_inFax_162 : decode M_MO_inFax.2.1 162 = .ok (.aload_n 0, 1) := fx_d (q := (162, .aload_n 0, 1)) D_MO_inFax 85 rfl
theorem d_MO_inFax_163 : decode M_MO_inFax.2.1 163 = .ok (.getfield 131, 3) := fx_d (q := (163, .getfield 131, 3)) D_MO_inFax 86 rfl
theorem d_MO_inFax_166 : decode M_MO_inFax.2.1 166 = .ok (.iload_n 3, 1) := fx_d (q := (166, .iload_n 3, 1)) D_MO_inFax 87 rfl
theorem d_MO_inFax_167 : decode M_MO_inFax.2.1 167 = .ok (.imul, 1) := fx_d (q := (167, .imul, 1)) D_MO_inFax 88 rfl
theorem d_MO_inFax_168 : decode M_MO_inFax.2.1 168 = .ok (.iload 5, 2) := fx_d (q := (168, .iload 5, 2)) D_MO_inFax 89 rfl
theorem d_MO_inFax_170 : decode M_MO_inFax.2.1 170 = .ok (.iadd, 1) := fx_d (q := (170, .iadd, 1)) D_MO_inFax 90 rfl
theorem d_MO_inFax_171 : decode M_MO_inFax.2.1 171 = .ok (.aload_n 0, 1) := fx_d (q := (171, .aload_n 0, 1)) D_MO_inFax 91 rfl
theorem d_MO_inFax_172 : decode M_MO_inFax.2.1 172 = .ok (.getfield 41, 3) := fx_d (q := (172, .getfield 41, 3)) D_MO_inFax 92 rfl
theorem d_MO_inFax_175 : decode M_MO_inFax.2.1 175 = .ok (.iload 5, 2) := fx_d (q := (175, .iload 5, 2)) D_MO_inFax 93 rfl
theorem d_MO_inFax_177 : decode M_MO_inFax.2.1 177 = .ok (.iaload, 1) := fx_d (q := (177, .iaload, 1)) D_MO_inFax 94 rfl
theorem d_MO_inFax_178 : decode M_MO_inFax.2.1 178 = .ok (.iastore, 1) := fx_d (q := (178, .iastore, 1)) D_MO_inFax 95 rfl
theorem d_MO_inFax_179 : decode M_MO_inFax.2.1 179 = .ok (.iinc 5 1, 3) := fx_d (q := (179, .iinc 5 1, 3)) D_MO_inFax 96 rfl
theorem d_MO_inFax_182 : decode M_MO_inFax.2.1 182 = .ok (.goto (-33), 3) := fx_d (q := (182, .goto (-33), 3)) D_MO_inFax 97 rfl
theorem d_MO_inFax_185 : decode M_MO_inFax.2.1 185 = .ok (.iinc 3 1, 3) := fx_d (q := (185, .iinc 3 1, 3)) D_MO_inFax 98 rfl
theorem d_MO_inFax_188 : decode M_MO_inFax.2.1 188 = .ok (.goto (-186), 3) := fx_d (q := (188, .goto (-186), 3)) D_MO_inFax 99 rfl
theorem d_MO_inFax_191 : decode M_MO_inFax.2.1 191 = .ok (.aload_n 0, 1) := fx_d (q := (191, .aload_n 0, 1)) D_MO_inFax 100 rfl
theorem d_MO_inFax_192 : decode M_MO_inFax.2.1 192 = .ok (.getfield 180, 3) := fx_d (q := (192, .getfield 180, 3)) D_MO_inFax 101 rfl
theorem d_MO_inFax_195 : decode M_MO_inFax.2.1 195 = .ok (.iconst 4, 1) := fx_d (q := (195, .iconst 4, 1)) D_MO_inFax 102 rfl
theorem d_MO_inFax_196 : decode M_MO_inFax.2.1 196 = .ok (.if_icmp .ne 43, 3) := fx_d (q := (196, .if_icmp .ne 43, 3)) D_MO_inFax 103 rfl
theorem d_MO_inFax_199 : decode M_MO_inFax.2.1 199 = .ok (.aload_n 0, 1) := fx_d (q := (199, .aload_n 0, 1)) D_MO_inFax 104 rfl
theorem d_MO_inFax_200 : decode M_MO_inFax.2.1 200 = .ok (.aload_n 0, 1) := fx_d (q := (200, .aload_n 0, 1)) D_MO_inFax 105 rfl
theorem d_MO_inFax_201 : decode M_MO_inFax.2.1 201 = .ok (.bipush 12, 2) := fx_d (q := (201, .bipush 12, 2)) D_MO_inFax 106 rfl
theorem d_MO_inFax_203 : decode M_MO_inFax.2.1 203 = .ok (.invokevirtual 280, 3) := fx_d (q := (203, .invokevirtual 280, 3)) D_MO_inFax 107 rfl
theorem d_MO_inFax_206 : decode M_MO_inFax.2.1 206 = .ok (.iconst 1, 1) := fx_d (q := (206, .iconst 1, 1)) D_MO_inFax 108 rfl
theorem d_MO_inFax_207 : decode M_MO_inFax.2.1 207 = .ok (.if_icmp .ne 7, 3) := fx_d (q := (207, .if_icmp .ne 7, 3)) D_MO_inFax 109 rfl
theorem d_MO_inFax_210 : decode M_MO_inFax.2.1 210 = .ok (.iconst 1, 1) := fx_d (q := (210, .iconst 1, 1)) D_MO_inFax 110 rfl
theorem d_MO_inFax_211 : decode M_MO_inFax.2.1 211 = .ok (.goto 4, 3) := fx_d (q := (211, .goto 4, 3)) D_MO_inFax 111 rfl
theorem d_MO_inFax_214 : decode M_MO_inFax.2.1 214 = .ok (.iconst 0, 1) := fx_d (q := (214, .iconst 0, 1)) D_MO_inFax 112 rfl
theorem d_MO_inFax_215 : decode M_MO_inFax.2.1 215 = .ok (.invokevirtual 273, 3) := fx_d (q := (215, .invokevirtual 273, 3)) D_MO_inFax 113 rfl
theorem d_MO_inFax_218 : decode M_MO_inFax.2.1 218 = .ok (.pop, 1) := fx_d (q := (218, .pop, 1)) D_MO_inFax 114 rfl
theorem d_MO_inFax_219 : decode M_MO_inFax.2.1 219 = .ok (.aload_n 0, 1) := fx_d (q := (219, .aload_n 0, 1)) D_MO_inFax 115 rfl
theorem d_MO_inFax_220 : decode M_MO_inFax.2.1 220 = .ok (.aload_n 0, 1) := fx_d (q := (220, .aload_n 0, 1)) D_MO_inFax 116 rfl
theorem d_MO_inFax_221 : decode M_MO_inFax.2.1 221 = .ok (.bipush 12, 2) := fx_d (q := (221, .bipush 12, 2)) D_MO_inFax 117 rfl
theorem d_MO_inFax_223 : decode M_MO_inFax.2.1 223 = .ok (.invokevirtual 280, 3) := fx_d (q := (223, .invokevirtual 280, 3)) D_MO_inFax 118 rfl
theorem d_MO_inFax_226 : decode M_MO_inFax.2.1 226 = .ok (.iconst 1, 1) := fx_d (q := (226, .iconst 1, 1)) D_MO_inFax 119 rfl
theorem d_MO_inFax_227 : decode M_MO_inFax.2.1 227 = .ok (.if_icmp .ne 7, 3) := fx_d (q := (227, .if_icmp .ne 7, 3)) D_MO_inFax 120 rfl
theorem d_MO_inFax_230 : decode M_MO_inFax.2.1 230 = .ok (.iconst 1, 1) := fx_d (q := (230, .iconst 1, 1)) D_MO_inFax 121 rfl
theorem d_MO_inFax_231 : decode M_MO_inFax.2.1 231 = .ok (.goto 4, 3) := fx_d (q := (231, .goto 4, 3)) D_MO_inFax 122 rfl
theorem d_MO_inFax_234 : decode M_MO_inFax.2.1 234 = .ok (.iconst 0, 1) := fx_d (q := (234, .iconst 0, 1)) D_MO_inFax 123 rfl
theorem d_MO_inFax_235 : decode M_MO_inFax.2.1 235 = .ok (.invokevirtual 273, 3) := fx_d (q := (235, .invokevirtual 273, 3)) D_MO_inFax 124 rfl
theorem d_MO_inFax_238 : decode M_MO_inFax.2.1 238 = .ok (.pop, 1) := fx_d (q := (238, .pop, 1)) D_MO_inFax 125 rfl
theorem d_MO_inFax_239 : decode M_MO_inFax.2.1 239 = .ok (.aload_n 0, 1) := fx_d (q := (239, .aload_n 0, 1)) D_MO_inFax 126 rfl
theorem d_MO_inFax_240 : decode M_MO_inFax.2.1 240 = .ok (.invokevirtual 295, 3) := fx_d (q := (240, .invokevirtual 295, 3)) D_MO_inFax 127 rfl
theorem d_MO_inFax_243 : decode M_MO_inFax.2.1 243 = .ok (.return_, 1) := fx_d (q := (243, .return_, 1)) D_MO_inFax 128 rfl
