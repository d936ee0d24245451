set_option maxRecDepth 100000 in
def L_FP_init : List (Nat × Instr × Nat) := [(0, .aload_n 0, 1), (1, .invokespecial 1, 3), (4, .new 7, 3), (7, .dup, 1), (8, .invokespecial 9, 3), (11, .astore_n 1, 1), (12, .new 10, 3), (15, .dup, 1), (16, .aload_n 1, 1), (17, .invokespecial 12, 3), (20, .astore_n 2, 1), (21, .new 15, 3), (24, .dup, 1), (25, .aload_n 1, 1), (26, .aload_n 2, 1), (27, .invokespecial 17, 3), (30, .astore_n 3, 1), (31, .aload_n 0, 1), (32, .aload_n 1, 1), (33, .putfield 20, 3), (36, .aload_n 0, 1), (37, .aload_n 2, 1), (38, .putfield 26, 3), (41, .aload_n 0, 1), (42, .new 30, 3), (45, .dup, 1), (46, .aload_n 1, 1), (47, .invokespecial 32, 3), (50, .putfield 33, 3), (53, .aload_n 0, 1), (54, .new 37, 3), (57, .dup, 1), (58, .aload_n 1, 1), (59, .aload_n 2, 1), (60, .invokespecial 39, 3), (63, .putfield 40, 3), (66, .aload_n 0, 1), (67, .new 44, 3), (70, .dup, 1), (71, .aload_n 1, 1), (72, .aload_n 2, 1), (73, .invokespecial 46, 3), (76, .putfield 47, 3), (79, .aload_n 0, 1), (80, .new 50, 3), (83, .dup, 1), (84, .aload_n 1, 1), (85, .aload_n 2, 1), (86, .invokespecial 52, 3), (89, .putfield 53, 3), (92, .aload_n 0, 1), (93, .new 56, 3), (96, .dup, 1), (97, .iconst 1, 1), (98, .aload_n 3, 1), (99, .aload_n 1, 1), (100, .aload_n 2, 1), (101, .invokespecial 58, 3), (104, .putfield 61, 3), (107, .aload_n 0, 1), (108, .new 56, 3), (111, .dup, 1), (112, .iconst 0, 1), (113, .aload_n 3, 1), (114, .aload_n 1, 1), (115, .aload_n 2, 1), (116, .invokespecial 58, 3), (119, .putfield 64, 3), (122, .aload_n 0, 1), (123, .bipush 24, 2), (125, .newarray .int, 2), (127, .putfield 67, 3), (130, .aload_n 0, 1), (131, .bipush 24, 2), (133, .newarray .int, 2), (135, .putfield 71, 3), (138, .aload_n 0, 1), (139, .new 74, 3), (142, .dup, 1), (143, .invokespecial 76, 3), (146, .putfield 77, 3), (149, .aload_n 0, 1), (150, .new 74, 3), (153, .dup, 1), (154, .invokespecial 76, 3), (157, .putfield 81, 3), (160, .return_, 1)]
set_option maxRecDepth 100000 in
theorem D_FP_init : ∀ q ∈ L_FP_init, decode prog_1_method_1_code q.1 = .ok q.2 := by decide +kernel
theorem d_FP_init_0 : decode M_FP_init.2.1 0 = .ok (.aload_n 0, 1) := fx_d (q := (0, .aload_n 0, 1)) D_FP_init 0 rfl
theorem d_FP_init_1 : decode M_FP_init.2.1 1 = .ok (.invokespecial 1, 3) := fx_d (q := (1, .invokespecial 1, 3)) D_FP_init 1 rfl
theorem d_FP_init_4 : decode M_FP_init.2.1 4 = .ok (.new 7, 3) := fx_d (q := (4, .new 7, 3)) D_FP_init 2 rfl
theorem d_FP_init_7 : decode M_FP_init.2.1 7 = .ok (.dup, 1) := fx_d (q := (7, .dup, 1)) D_FP_init 3 rfl
theorem d_FP_init_8 : decode M_FP_init.2.1 8 = .ok (.invokespecial 9, 3) := fx_d (q := (8, .invokespecial 9, 3)) D_FP_init 4 rfl
theorem d_FP_init_11 : decode M_FP_init.2.1 11 = .ok (.astore_n 1, 1) := fx_d (q := (11, .astore_n 1, 1)) D_FP_init 5 rfl
theorem d_FP_init_12 : decode M_FP_init.2.1 12 = .ok (.new 10, 3) := fx_d (q := (12, .new 10, 3)) D_FP_init 6 rfl
theorem d_FP_init_15 : decode M_FP_init.2.1 15 = .ok (.dup, 1) := fx_d (q := (15, .dup, 1)) D_FP_init 7 rfl
theorem d_FP_init_16 : decode M_FP_init.2.1 16 = .ok (.aload_n 1, 1) := fx_d (q := (16, .aload_n 1, 1)) D_FP_init 8 rfl
theorem d_FP_init_17 : decode M_FP_init.2.1 17 = .ok (.invokespecial 12, 3) := fx_d (q := (17, .invokespecial 12, 3)) D_FP_init 9 rfl
theorem d_FP_init_20 : decode M_FP_init.2.1 20 = .ok (.astore_n 2, 1) := fx_d (q := (20, .astore_n 2, 1)) D_FP_init 10 rfl
theorem d_FP_init_21 : decode M_FP_init.2.1 21 = .ok (.new 15, 3) := fx_d (q := (21, .new 15, 3)) D_FP_init 11 rfl
theorem d_FP_init_24 : decode M_FP_init.2.1 24 = .ok (.dup, 1) := fx_d (q := (24, .dup, 1)) D_FP_init 12 rfl
theorem d_FP_init_25 : decode M_FP_init.2.1 25 = .ok (.aload_n 1, 1) := fx_d (q := (25, .aload_n 1, 1)) D_FP_init 13 rfl
theorem d_FP_init_26 : decode M_FP_init.2.1 26 = .ok (.aload_n 2, 1) := fx_d (q := (26, .aload_n 2, 1)) D_FP_init 14 rfl
theorem d_FP_init_27 : decode M_FP_init.2.1 27 = .ok (.invokespecial 17, 3) := fx_d (q := (27, .invokespecial 17, 3)) D_FP_init 15 rfl
theorem d_FP_init_30 : decode M_FP_init.2.1 30 = .ok (.astore_n 3, 1) := fx_d (q := (30, .astore_n 3, 1)) D_FP_init 16 rfl
theorem d_FP_init_31 : decode M_FP_init.2.1 31 = .ok (.aload_n 0, 1) := fx_d (q := (31, .aload_n 0, 1)) D_FP_init 17 rfl
theorem d_FP_init_32 : decode M_FP_init.2.1 32 = .ok (.aload_n 1, 1) := fx_d (q := (32, .aload_n 1, 1)) D_FP_init 18 rfl
theorem d_FP_init_33 : decode M_FP_init.2.1 33 = .ok (.putfield 20, 3) := fx_d (q := (33, .putfield 20, 3)) D_FP_init 19 rfl
theorem d_FP_init_36 : decode M_FP_init.2.1 36 = .ok (.aload_n 0, 1) := fx_d (q := (36, .aload_n 0, 1)) D_FP_init 20 rfl
theorem d_FP_init_37 : decode M_FP_init.2.1 37 = .ok (.aload_n 2, 1) := fx_d (q := (37, .aload_n 2, 1)) D_FP_init 21 rfl
theorem d_FP_init_38 : decode M_FP_init.2.1 38 = .ok (.putfield 26, 3) := fx_d (q := (38, .putfield 26, 3)) D_FP_init 22 rfl
theorem d_FP_init_41 : decode M_FP_init.2.1 41 = .ok (.aload_n 0, 1) := fx_d (q := (41, .aload_n 0, 1)) D_FP_init 23 rfl
theorem d_FP_init_42 : decode M_FP_init.2.1 42 = .ok (.new 30, 3) := fx_d (q := (42, .new 30, 3)) D_FP_init 24 rfl
theorem d_FP_init_45 : decode M_FP_init.2.1 45 = .ok (.dup, 1) := fx_d (q := (45, .dup, 1)) D_FP_init 25 rfl
theorem d_FP_init_46 : decode M_FP_init.2.1 46 = .ok (.aload_n 1, 1) := fx_d (q := (46, .aload_n 1, 1)) D_FP_init 26 rfl
theorem d_FP_init_47 : decode M_FP_init.2.1 47 = .ok (.invokespecial 32, 3) := fx_d (q := (47, .invokespecial 32, 3)) D_FP_init 27 rfl
theorem d_FP_init_50 : decode M_FP_init.2.1 50 = .ok (.putfield 33, 3) := fx_d (q := (50, .putfield 33, 3)) D_FP_init 28 rfl
theorem d_FP_init_53 : decode M_FP_init.2.1 53 = .ok (.aload_n 0, 1) := fx_d (q := (53, .aload_n 0, 1)) D_FP_init 29 rfl
theorem d_FP_init_54 : decode M_FP_init.2.1 54 = .ok (.new 37, 3) := fx_d (q := (54, .new 37, 3)) D_FP_init 30 rfl
theorem d_FP_init_57 : decode M_FP_init.2.1 57 = .ok (.dup, 1) := fx_d (q := (57, .dup, 1)) D_FP_init 31 rfl
theorem d_FP_init_58 : decode M_FP_init.2.1 58 = .ok (.aload_n 1, 1) := fx_d (q := (58, .aload_n 1, 1)) D_FP_init 32 rfl
theorem d_FP_init_59 : decode M_FP_init.2.1 59 = .ok (.aload_n 2, 1) := fx_d (q := (59, .aload_n 2, 1)) D_FP_init 33 rfl
theorem d_FP_init_60 : decode M_FP_init.2.1 60 = .ok (.invokespecial 39, 3) := fx_d (q := (60, .invokespecial 39, 3)) D_FP_init 34 rfl
theorem d_FP_init_63 : decode M_FP_init.2.1 63 = .ok (.putfield 40, 3) := fx_d (q := (63, .putfield 40, 3)) D_FP_init 35 rfl
theorem d_FP_init_66 : decode M_FP_init.2.1 66 = .ok (.aload_n 0, 1) := fx_d (q := (66, .aload_n 0, 1)) D_FP_init 36 rfl
theorem d_FP_init_67 : decode M_FP_init.2.1 67 = .ok (.new 44, 3) := fx_d (q := (67, .new 44, 3)) D_FP_init 37 rfl
theorem d_FP_init_70 : decode M_FP_init.2.1 70 = .ok (.dup, 1) := fx_d (q := (70, .dup, 1)) D_FP_init 38 rfl
theorem d_FP_init_71 : decode M_FP_init.2.1 71 = .ok (.aload_n 1, 1) := fx_d (q := (71, .aload_n 1, 1)) D_FP_init 39 rfl
theorem d_FP_init_72 : decode M_FP_init.2.1 72 = .ok (.aload_n 2, 1) := fx_d (q := (72, .aload_n 2, 1)) D_FP_init 40 rfl
theorem d_FP_init_73 : decode M_FP_init.2.1 73 = .ok (.invokespecial 46, 3) := fx_d (q := (73, .invokespecial 46, 3)) D_FP_init 41 rfl
theorem d_FP_init_76 : decode M_FP_init.2.1 76 = .ok (.putfield 47, 3) := fx_d (q := (76, .putfield 47, 3)) D_FP_init 42 rfl
theorem d_FP_init_79 : decode M_FP_init.2.1 79 = .ok (.aload_n 0, 1) := fx_d (q := (79, .aload_n 0, 1)) D_FP_init 43 rfl
theorem d_FP_init_80 : decode M_FP_init.2.1 80 = .ok (.new 50, 3) := fx_d (q := (80, .new 50, 3)) D_FP_init 44 rfl
theorem d_FP_init_83 : decode M_FP_init.2.1 83 = .ok (.dup, 1) := fx_d (q := (83, .dup, 1)) D_FP_init 45 rfl
theorem d_FP_init_84 : decode M_FP_init.2.1 84 = .ok (.aload_n 1, 1) := fx_d (q := (84, .aload_n 1, 1)) D_FP_init 46 rfl
theorem d_FP_init_85 : decode M_FP_init.2.1 85 = .ok (.aload_n 2, 1) := fx_d (q := (85, .aload_n 2, 1)) D_FP_init 47 rfl
theorem d_FP_init_86 : decode M_FP_init.2.1 86 = .ok (.invokespecial 52, 3) := fx_d (q := (86, .invokespecial 52, 3)) D_FP_init 48 rfl
theorem d_FP_init_89 : decode M_FP_init.2.1 89 = .ok (.putfield 53, 3) := fx_d (q := (89, .putfield 53, 3)) D_FP_init 49 rfl
theorem d_FP_init_92 : decode M_FP_init.2.1 92 = .ok (.aload_n 0, 1) := fx_d (q := (92, .aload_n 0, 1)) D_FP_init 50 rfl
theorem d_FP_init_93 : decode M_FP_init.2.1 93 = .ok (.new 56, 3) := fx_d (q := (93, .new 56, 3)) D_FP_init 51 rfl
theorem d_FP_init_96 : decode M_FP_init.2.1 96 = .ok (.dup, 1) := fx_d (q := (96, .dup, 1)) D_FP_init 52 rfl
theorem d_FP_init_97 : decode M_FP_init.2.1 97 = .ok (.iconst 1, 1) := fx_d (q := (97, .iconst 1, 1)) D_FP_init 53 rfl
theorem d_FP_init_98 : decode M_FP_init.2.1 98 = .ok (.aload_n 3, 1) := fx_d (q := (98, .aload_n 3, 1)) D_FP_init 54 rfl
theorem d_FP_init_99 : decode M_FP_init.2.1 99 = .ok (.aload_n 1, 1) := fx_d (q := (99, .aload_n 1, 1)) D_FP_init 55 rfl
theorem d_FP_init_100 : decode M_FP_init.2.1 100 = .ok (.aload_n 2, 1) := fx_d (q := (100, .aload_n 2, 1)) D_FP_init 56 rfl
theorem d_FP_init_101 : decode M_FP_init.2.1 101 = .ok (.invokespecial 58, 3) := fx_d (q := (101, .invokespecial 58, 3)) D_FP_init 57 rfl
theorem d_FP_init_104 : decode M_FP_init.2.1 104 = .ok (.putfield 61, 3) := fx_d (q := (104, .putfield 61, 3)) D_FP_init 58 rfl
theorem d_FP_init_107 : decode M_FP_init.2.1 107 = .ok (.aload_n 0, 1) := fx_d (q := (107, .aload_n 0, 1)) D_FP_init 59 rfl
theorem d_FP_init_108 : decode M_FP_init.2.1 108 = .ok (.new 56, 3) := fx_d (q := (108, .new 56, 3)) D_FP_init 60 rfl
theorem d_FP_init_111 : decode M_FP_init.2.1 111 = .ok (.dup, 1) := fx_d (q := (111, .dup, 1)) D_FP_init 61 rfl
theorem d_FP_init_112 : decode M_FP_init.2.1 112 = .ok (.iconst 0, 1) := fx_d (q := (112, .iconst 0, 1)) D_FP_init 62 rfl
theorem d_FP_init_113 : decode M_FP_init.2.1 113 = .ok (.aload_n 3, 1) := fx_d (q := (113, .aload_n 3, 1)) D_FP_init 63 rfl
theorem d_FP_init_114 : decode M_FP_init.2.1 114 = .ok (.aload_n 1, 1) := fx_d (q := (114, .aload_n 1, 1)) D_FP_init 64 rfl
theorem d_FP_init_115 : decode M_FP_init.2.1 115 = .ok (.aload_n 2, 1) := fx_d (q := (115, .aload_n 2, 1)) D_FP_init 65 rfl
theorem d_FP_init_116 : decode M_FP_init.2.1 116 = .ok (.invokespecial 58, 3) := fx_d (q := (116, .invokespecial 58, 3)) D_FP_init 66 rfl
theorem d_FP_init_119 : decode M_FP_init.2.1 119 = .ok (.putfield 64, 3) := fx_d (q := (119, .putfield 64, 3)) D_FP_init 67 rfl
theorem d_FP_init_122 : decode M_FP_init.2.1 122 = .ok (.aload_n 0, 1) := fx_d (q := (122, .aload_n 0, 1)) D_FP_init 68 rfl
theorem d_FP_init_123 : decode M_FP_init.2.1 123 = .ok (.bipush 24, 2) := fx_d (q := (123, .bipush 24, 2)) D_FP_init 69 rfl
theorem d_FP_init_125 : decode M_FP_init.2.1 125 = .ok (.newarray .int, 2) := fx_d (q := (125, .newarray .int, 2)) D_FP_init 70 rfl
theorem d_FP_init_127 : decode M_FP_init.2.1 127 = .ok (.putfield 67, 3) := fx_d (q := (127, .putfield 67, 3)) D_FP_init 71 rfl
theorem d_FP_init_130 : decode M_FP_init.2.1 130 = .ok (.aload_n 0, 1) := fx_d (q := (130, .aload_n 0, 1)) D_FP_init 72 rfl
theorem d_FP_init_131 : decode M_FP_init.2.1 131 = .ok (.bipush 24, 2) := fx_d (q := (131, .bipush 24, 2)) D_FP_init 73 rfl
theorem d_FP_init_133 : decode M_FP_init.2.1 133 = .ok (.newarray .int, 2) := fx_d (q := (133, .newarray .int, 2)) D_FP_init 74 rfl
theorem d_FP_init_135 : decode M_FP_init.2.1 135 = .ok (.putfield 71, 3) := fx_d (q := (135, .putfield 71, 3)) D_FP_init 75 rfl
theorem d_FP_init_138 : decode M_FP_init.2.1 138 = .ok (.aload_n 0, 1) := fx_d (q := (138, .aload_n 0, 1)) D_FP_init 76 rfl
theorem d_FP_init_139 : decode M_FP_init.2.1 139 = .ok (.new 74, 3) := fx_d (q := (139, .new 74, 3)) D_FP_init 77 rfl
theorem d_FP_init_142 : decode M_FP_init.2.1 142 = .ok (.dup, 1) := fx_d (q := (142, .dup, 1)) D_FP_init 78 rfl
theorem d_FP_init_143 : decode M_FP_init.2.1 143 = .ok (.invokespecial 76, 3) := fx_d (q := (143, .invokespecial 76, 3)) D_FP_init 79 rfl
theorem d_FP_init_146 : decode M_FP_init.2.1 146 = .ok (.putfield 77, 3) := fx_d (q := (146, .putfield 77, 3)) D_FP_init 80 rfl
theorem d_FP_init_149 : decode M_FP_init.2.1 149 = .ok (.aload_n 0, 1) := fx_d (q := (149, .aload_n 0, 1)) D_FP_init 81 rfl
theorem d_FP_init_150 : decode M_FP_init.2.1 150 = .ok (.new 74, 3) := fx_d (q := (150, .new 74, 3)) D_FP_init 82 rfl
theorem d_FP_init_153 : decode M_FP_init.2.1 153 = .ok (.dup, 1) := fx_d (q := (153, .dup, 1)) D_FP_init 83 rfl
theorem d_FP_init_154 : decode M_FP_init.2.1 154 = .ok (.invokespecial 76, 3) := fx_d (q := (154, .invokespecial 76, 3)) D_FP_init 84 rfl
theorem d_FP_init_157 : decode M_FP_init.2.1 157 = .ok (.putfield 81, 3) := fx_d (q := (157, .putfield 81, 3)) D_FP_init 85 rfl
theorem d_FP_init_160 : decode M_FP_init.2.1 160 = .ok (.return_, 1) := fx_d (q := (160, .return_, 1)) D_FP_init 86 rfl
set_option maxRecDepth 100000 in
def L_FP_lengthOf : List (Nat × Instr × Nat) := [(0, .iconst 0, 1), (1, .istore_n 1, 1), (2, .iload_n 0, 1), (3, .istore_n 2, 1), (4, .iload_n 2, 1), (5, .iconst 1, 1), (6, .if_icmp .le 13, 3), (9, .iinc 1 1, 3), (12, .iload_n 2, 1), (13, .iconst 1, 1), (14, .ishr, 1), (15, .istore_n 2, 1), (16, .goto (-12), 3), (19, .iload_n 1, 1), (20, .ireturn, 1)]
set_option maxRecDepth 100000 in
theorem D_FP_lengthOf : ∀ q ∈ L_FP_lengthOf, decode prog_1_method_18_code q.1 = .ok q.2 := by decide +kernel
theorem d_FP_lengthOf_0 : decode M_FP_lengthOf.2.1 0 = .ok (.iconst 0, 1) := fx_d (q := (0, .iconst 0, 1)) D_FP_lengthOf 0 rfl
theorem d_FP_lengthOf_1 : decode M_FP_lengthOf.2.1 1 = .ok (.istore_n 1, 1) := fx_d (q := (1, .istore_n 1, 1)) D_FP_lengthOf 1 rfl
theorem d_FP_lengthOf_2 : decode M_FP_lengthOf.2.1 2 = .ok (.iload_n 0, 1) := fx_d (q := (2, .iload_n 0, 1)) D_FP_lengthOf 2 rfl
theorem d_FP_lengthOf_3 : decode M_FP_lengthOf.2.1 3 = .ok (.istore_n 2, 1) := fx_d (q := (3, .istore_n 2, 1)) D_FP_lengthOf 3 rfl
theorem d_FP_lengthOf_4 : decode M_FP_lengthOf.2.1 4 = .ok (.iload_n 2, 1) := fx_d (q := (4, .iload_n 2, 1)) D_FP_lengthOf 4 rfl
theorem d_FP_lengthOf_5 : decode M_FP_lengthOf.2.1 5 = .ok (.iconst 1, 1) := fx_d (q := (5, .iconst 1, 1)) D_FP_lengthOf 5 rfl
theorem d_FP_lengthOf_6 : decode M_FP_lengthOf.2.1 6 = .ok (.if_icmp .le 13, 3) := fx_d (q := (6, .if_icmp .le 13, 3)) D_FP_lengthOf 6 rfl
theorem d_FP_lengthOf_9 : decode M_FP_lengthOf.2.1 9 = .ok (.iinc 1 1, 3) := fx_d (q := (9, .iinc 1 1, 3)) D_FP_lengthOf 7 rfl
theorem d_FP_lengthOf_12 : decode M_FP_lengthOf.2.1 12 = .ok (.iload_n 2, 1) := fx_d (q := (12, .iload_n 2, 1)) D_FP_lengthOf 8 rfl
theorem d_FP_lengthOf_13 : decode M_FP_lengthOf.2.1 13 = .ok (.iconst 1, 1) := fx_d (q := (13, .iconst 1, 1)) D_FP_lengthOf 9 rfl
theorem d_FP_lengthOf_14 : decode M_FP_lengthOf.2.1 14 = .ok (.ishr, 1) := fx_d (q := (14, .ishr, 1)) D_FP_lengthOf 10 rfl
theorem d_FP_lengthOf_15 : decode M_FP_lengthOf.2.1 15 = .ok (.istore_n 2, 1) := fx_d (q := (15, .istore_n 2, 1)) D_FP_lengthOf 11 rfl
theorem d_FP_lengthOf_16 : decode M_FP_lengthOf.2.1 16 = .ok (.goto (-12), 3) := fx_d (q := (16, .goto (-12), 3)) D_FP_lengthOf 12 rfl
theorem d_FP_lengthOf_19 : decode M_FP_lengthOf.2.1 19 = .ok (.iload_n 1, 1) := fx_d (q := (19, .iload_n 1, 1)) D_FP_lengthOf 13 rfl
theorem d_FP_lengthOf_20 : decode M_FP_lengthOf.2.1 20 = .ok (.ireturn, 1) := fx_d (q := (20, .ireturn, 1)) D_FP_lengthOf 14 rfl
set_option maxRecDepth 100000 in
def L_FP_get : List (Nat × Instr × Nat) := [(0, .aload_n 0, 1), (1, .getfield 77, 3), (4, .iload_n 1, 1), (5, .iload_n 2, 1), (6, .invokevirtual 95, 3), (9, .ifCond .eq 15, 3), (12, .aload_n 0, 1), (13, .getfield 77, 3), (16, .iload_n 1, 1), (17, .iload_n 2, 1), (18, .invokevirtual 110, 3), (21, .goto 5, 3), (24, .bipush (-9), 2), (26, .ireturn, 1)]
set_option maxRecDepth 100000 in
theorem D_FP_get : ∀ q ∈ L_FP_get, decode prog_1_method_4_code q.1 = .ok q.2 := by decide +kernel
theorem d_FP_get_0 : decode M_FP_get.2.1 0 = .ok (.aload_n 0, 1) := fx_d (q := (0, .aload_n 0, 1)) D_FP_get 0 rfl
theorem d_FP_get_1 : decode M_FP_get.2.1 1 = .ok (.getfield 77, 3) := fx_d (q := (1, .getfield 77, 3)) D_FP_get 1 rfl
theorem d_FP_get_4 : decode M_FP_get.2.1 4 = .ok (.iload_n 1, 1) := fx_d (q := (4, .iload_n 1, 1)) D_FP_get 2 rfl
theorem d_FP_get_5 : decode M_FP_get.2.1 5 = .ok (.iload_n 2, 1) := fx_d (q := (5, .iload_n 2, 1)) D_FP_get 3 rfl
theorem d_FP_get_6 : decode M_FP_get.2.1 6 = .ok (.invokevirtual 95, 3) := fx_d (q := (6, .invokevirtual 95, 3)) D_FP_get 4 rfl
theorem d_FP_get_9 : decode M_FP_get.2.1 9 = .ok (.ifCond .eq 15, 3) := fx_d (q := (9, .ifCond .eq 15, 3)) D_FP_get 5 rfl
theorem d_FP_get_12 : decode M_FP_get.2.1 12 = .ok (.aload_n 0, 1) := fx_d (q := (12, .aload_n 0, 1)) D_FP_get 6 rfl
theorem d_FP_get_13 : decode M_FP_get.2.1 13 = .ok (.getfield 77, 3) := fx_d (q := (13, .getfield 77, 3)) D_FP_get 7 rfl
theorem d_FP_get_16 : decode M_FP_get.2.1 16 = .ok (.iload_n 1, 1) := fx_d (q := (16, .iload_n 1, 1)) D_FP_get 8 rfl
theorem d_FP_get_17 : decode M_FP_get.2.1 17 = .ok (.iload_n 2, 1) := fx_d (q := (17, .iload_n 2, 1)) D_FP_get 9 rfl
theorem d_FP_get_18 : decode M_FP_get.2.1 18 = .ok (.invokevirtual 110, 3) := fx_d (q := (18, .invokevirtual 110, 3)) D_FP_get 10 rfl
theorem d_FP_get_21 : decode M_FP_get.2.1 21 = .ok (.goto 5, 3) := fx_d (q := (21, .goto 5, 3)) D_FP_get 11 rfl
theorem d_FP_get_24 : decode M_FP_get.2.1 24 = .ok (.bipush (-9), 2) := fx_d (q := (24, .bipush (-9), 2)) D_FP_get 12 rfl
theorem d_FP_get_26 : decode M_FP_get.2.1 26 = .ok (.ireturn, 1) := fx_d (q := (26, .ireturn, 1)) D_FP_get 13 rfl
set_option maxRecDepth 100000 in
def L_FP_info : List (Nat × Instr × Nat) := [(0, .iload_n 1, 1), (1, .tableswitch 59 0 2 #[27, 35, 43], 27), (28, .aload_n 0, 1), (29, .getfield 77, 3), (32, .getfield 114, 3), (35, .ireturn, 1), (36, .aload_n 0, 1), (37, .getfield 77, 3), (40, .getfield 118, 3), (43, .ireturn, 1), (44, .aload_n 0, 1), (45, .getfield 77, 3), (48, .getfield 102, 3), (51, .ifCond .eq 7, 3), (54, .iconst 1, 1), (55, .goto 4, 3), (58, .iconst 0, 1), (59, .ireturn, 1), (60, .aload_n 0, 1), (61, .getfield 121, 3), (64, .ifCond .eq 11, 3), (67, .aload_n 0, 1), (68, .iload_n 1, 1), (69, .invokevirtual 124, 3), (72, .goto 5, 3), (75, .bipush (-9), 2), (77, .ireturn, 1)]
set_option maxRecDepth 100000 in
theorem D_FP_info : ∀ q ∈ L_FP_info, decode prog_1_method_5_code q.1 = .ok q.2 := by decide +kernel
theorem d_FP_info_0 : decode M_FP_info.2.1 0 = .ok (.iload_n 1, 1) := fx_d (q := (0, .iload_n 1, 1)) D_FP_info 0 rfl
theorem d_FP_info_1 : decode M_FP_info.2.1 1 = .ok (.tableswitch 59 0 2 #[27, 35, 43], 27) := fx_d (q := (1, .tableswitch 59 0 2 #[27, 35, 43], 27)) D_FP_info 1 rfl
theorem d_FP_info_28 : decode M_FP_info.2.1 28 = .ok (.aload_n 0, 1) := fx_d (q := (28, .aload_n 0, 1)) D_FP_info 2 rfl
theorem d_FP_info_29 : decode M_FP_info.2.1 29 = .ok (.getfield 77, 3) := fx_d (q := (29, .getfield 77, 3)) D_FP_info 3 rfl
theorem d_FP_info_32 : decode M_FP_info.2.1 32 = .ok (.getfield 114, 3) := fx_d (q := (32, .getfield 114, 3)) D_FP_info 4 rfl
theorem d_FP_info_35 : decode M_FP_info.2.1 35 = .ok (.ireturn, 1) := fx_d (q := (35, .ireturn, 1)) D_FP_info 5 rfl
theorem d_FP_info_36 : decode M_FP_info.2.1 36 = .ok (.aload_n 0, 1) := fx_d (q := (36, .aload_n 0, 1)) D_FP_info 6 rfl
theorem d_FP_info_37 : decode M_FP_info.2.1 37 = .ok (.getfield 77, 3) := fx_d (q := (37, .getfield 77, 3)) D_FP_info 7 rfl
theorem d_FP_info_40 : decode M_FP_info.2.1 40 = .ok (.getfield 118, 3) := fx_d (q := (40, .getfield 118, 3)) D_FP_info 8 rfl
theorem d_FP_info_43 : decode M_FP_info.2.1 43 = .ok (.ireturn, 1) := fx_d (q := (43, .ireturn, 1)) D_FP_info 9 rfl
theorem d_FP_info_44 : decode M_FP_info.2.1 44 = .ok (.aload_n 0, 1) := fx_d (q := (44, .aload_n 0, 1)) D_FP_info 10 rfl
theorem d_FP_info_45 : decode M_FP_info.2.1 45 = .ok (.getfield 77, 3) := fx_d (q := (45, .getfield 77, 3)) D_FP_info 11 rfl
theorem d_FP_info_48 : decode M_FP_info.2.1 48 = .ok (.getfield 102, 3) := fx_d (q := (48, .getfield 102, 3)) D_FP_info 12 rfl
theorem d_FP_info_51 : decode M_FP_info.2.1 51 = .ok (.ifCond .eq 7, 3) := fx_d (q := (51, .ifCond .eq 7, 3)) D_FP_info 13 rfl
theorem d_FP_info_54 : decode M_FP_info.2.1 54 = .ok (.iconst 1, 1) := fx_d (q := (54, .iconst 1, 1)) D_FP_info 14 rfl
theorem d_FP_info_55 : decode M_FP_info.2.1 55 = .ok (.goto 4, 3) := fx_d (q := (55, .goto 4, 3)) D_FP_info 15 rfl
theorem d_FP_info_58 : decode M_FP_info.2.1 58 = .ok (.iconst 0, 1) := fx_d (q := (58, .iconst 0, 1)) D_FP_info 16 rfl
theorem d_FP_info_59 : decode M_FP_info.2.1 59 = .ok (.ireturn, 1) := fx_d (q := (59, .ireturn, 1)) D_FP_info 17 rfl
theorem d_FP_info_60 : decode M_FP_info.2.1 60 = .ok (.aload_n 0, 1) := fx_d (q := (60, .aload_n 0, 1)) D_FP_info 18 rfl
theorem d_FP_info_61 : decode M_FP_info.2.1 61 = .ok (.getfield 121, 3) := fx_d (q := (61, .getfield 121, 3)) D_FP_info 19 rfl
theorem d_FP_info_64 : decode M_FP_info.2.1 64 = .ok (.ifCond .eq 11, 3) := fx_d (q := (64, .ifCond .eq 11, 3)) D_FP_info 20 rfl
theorem d_FP_info_67 : decode M_FP_info.2.1 67 = .ok (.aload_n 0, 1) := fx_d (q := (67, .aload_n 0, 1)) D_FP_info 21 rfl
theorem d_FP_info_68 : decode M_FP_info.2.1 68 = .ok (.iload_n 1, 1) := fx_d (q := (68, .iload_n 1, 1)) D_FP_info 22 rfl
theorem d_FP_info_69 : decode M_FP_info.2.1 69 = .ok (.invokevirtual 124, 3) := fx_d (q := (69, .invokevirtual 124, 3)) D_FP_info 23 rfl
theorem d_FP_info_72 : decode M_FP_info.2.1 72 = .ok (.goto 5, 3) := fx_d (q := (72, .goto 5, 3)) D_FP_info 24 rfl
theorem d_FP_info_75 : decode M_FP_info.2.1 75 = .ok (.bipush (-9), 2) := fx_d (q := (75, .bipush (-9), 2)) D_FP_info 25 rfl
theorem d_FP_info_77 : decode M_FP_info.2.1 77 = .ok (.ireturn, 1) := fx_d (q := (77, .ireturn, 1)) D_FP_info 26 rfl
set_option maxRecDepth 100000 in
def L_FP_infoOfFile : List (Nat × Instr × Nat) := [(0, .iload_n 1, 1), (1, .tableswitch 59 3 6 #[31, 36, 49, 54], 31), (32, .aload_n 0, 1), (33, .getfield 216, 3), (36, .ireturn, 1), (37, .aload_n 0, 1), (38, .getfield 219, 3), (41, .ifCond .eq 7, 3), (44, .iconst 1, 1), (45, .goto 4, 3), (48, .iconst 0, 1), (49, .ireturn, 1), (50, .aload_n 0, 1), (51, .getfield 222, 3), (54, .ireturn, 1), (55, .aload_n 0, 1), (56, .getfield 225, 3), (59, .ireturn, 1), (60, .bipush (-9), 2), (62, .ireturn, 1)]
set_option maxRecDepth 100000 in
theorem D_FP_infoOfFile : ∀ q ∈ L_FP_infoOfFile, decode prog_1_method_19_code q.1 = .ok q.2 := by decide +kernel
theorem d_FP_infoOfFile_0 : decode M_FP_infoOfFile.2.1 0 = .ok (.iload_n 1, 1) := fx_d (q := (0, .iload_n 1, 1)) D_FP_infoOfFile 0 rfl
theorem d_FP_infoOfFile_1 : decode M_FP_infoOfFile.2.1 1 = .ok (.tableswitch 59 3 6 #[31, 36, 49, 54], 31) := fx_d (q := (1, .tableswitch 59 3 6 #[31, 36, 49, 54], 31)) D_FP_infoOfFile 1 rfl
theorem d_FP_infoOfFile_32 : decode M_FP_infoOfFile.2.1 32 = .ok (.aload_n 0, 1) := fx_d (q := (32, .aload_n 0, 1)) D_FP_infoOfFile 2 rfl
theorem d_FP_infoOfFile_33 : decode M_FP_infoOfFile.2.1 33 = .ok (.getfield 216, 3) := fx_d (q := (33, .getfield 216, 3)) D_FP_infoOfFile 3 rfl
theorem d_FP_infoOfFile_36 : decode M_FP_infoOfFile.2.1 36 = .ok (.ireturn, 1) := fx_d (q := (36, .ireturn, 1)) D_FP_infoOfFile 4 rfl
theorem d_FP_infoOfFile_37 : decode M_FP_infoOfFile.2.1 37 = .ok (.aload_n 0, 1) := fx_d (q := (37, .aload_n 0, 1)) D_FP_infoOfFile 5 rfl
theorem d_FP_infoOfFile_38 : decode M_FP_infoOfFile.2.1 38 = .ok (.getfield 219, 3) := fx_d (q := (38, .getfield 219, 3)) D_FP_infoOfFile 6 rfl
theorem d_FP_infoOfFile_41 : decode M_FP_infoOfFile.2.1 41 = .ok (.ifCond .eq 7, 3) := fx_d (q := (41, .ifCond .eq 7, 3)) D_FP_infoOfFile 7 rfl
theorem d_FP_infoOfFile_44 : decode M_FP_infoOfFile.2.1 44 = .ok (.iconst 1, 1) := fx_d (q := (44, .iconst 1, 1)) D_FP_infoOfFile 8 rfl
theorem d_FP_infoOfFile_45 : decode M_FP_infoOfFile.2.1 45 = .ok (.goto 4, 3) := fx_d (q := (45, .goto 4, 3)) D_FP_infoOfFile 9 rfl
theorem d_FP_infoOfFile_48 : decode M_FP_infoOfFile.2.1 48 = .ok (.iconst 0, 1) := fx_d (q := (48, .iconst 0, 1)) D_FP_infoOfFile 10 rfl
theorem d_FP_infoOfFile_49 : decode M_FP_infoOfFile.2.1 49 = .ok (.ireturn, 1) := fx_d (q := (49, .ireturn, 1)) D_FP_infoOfFile 11 rfl
theorem d_FP_infoOfFile_50 : decode M_FP_infoOfFile.2.1 50 = .ok (.aload_n 0, 1) := fx_d (q := (50, .aload_n 0, 1)) D_FP_infoOfFile 12 rfl
theorem d_FP_infoOfFile_51 : decode M_FP_infoOfFile.2.1 51 = .ok (.getfield 222, 3) := fx_d (q := (51, .getfield 222, 3)) D_FP_infoOfFile 13 rfl
theorem d_FP_infoOfFile_54 : decode M_FP_infoOfFile.2.1 54 = .ok (.ireturn, 1) := fx_d (q := (54, .ireturn, 1)) D_FP_infoOfFile 14 rfl
theorem d_FP_infoOfFile_55 : decode M_FP_infoOfFile.2.1 55 = .ok (.aload_n 0, 1) := fx_d (q := (55, .aload_n 0, 1)) D_FP_infoOfFile 15 rfl
theorem d_FP_infoOfFile_56 : decode M_FP_infoOfFile.2.1 56 = .ok (.getfield 225, 3) := fx_d (q := (56, .getfield 225, 3)) D_FP_infoOfFile 16 rfl
theorem d_FP_infoOfFile_59 : decode M_FP_infoOfFile.2.1 59 = .ok (.ireturn, 1) := fx_d (q := (59, .ireturn, 1)) D_FP_infoOfFile 17 rfl
theorem d_FP_infoOfFile_60 : decode M_FP_infoOfFile.2.1 60 = .ok (.bipush (-9), 2) := fx_d (q := (60, .bipush (-9), 2)) D_FP_infoOfFile 18 rfl
theorem d_FP_infoOfFile_62 : decode M_FP_infoOfFile.2.1 62 = .ok (.ireturn, 1) := fx_d (q := (62, .ireturn, 1)) D_FP_infoOfFile 19 rfl
set_option maxRecDepth 100000 in
def L_FP_read : List (Nat × Instr × Nat) := [(0, .aload_n 0, 1), (1, .getfield 20, 3), (4, .invokevirtual 163, 3), (7, .ifCond .ne 5, 3), (10, .iconst (-1), 1), (11, .ireturn, 1), (12, .aload_n 0, 1), (13, .getfield 33, 3), (16, .invokevirtual 167, 3), (19, .ifCond .ne 6, 3), (22, .bipush (-2), 2), (24, .ireturn, 1), (25, .aload_n 0, 1), (26, .getfield 33, 3), (29, .invokevirtual 170, 3), (32, .ifCond .ne 6, 3), (35, .bipush (-3), 2), (37, .ireturn, 1), (38, .aload_n 0, 1), (39, .invokevirtual 173, 3), (42, .ifCond .ne 6, 3), (45, .bipush (-4), 2), (47, .ireturn, 1), (48, .aload_n 0, 1), (49, .getfield 77, 3), (52, .astore_n 1, 1), (53, .aload_n 0, 1), (54, .aload_n 0, 1), (55, .getfield 81, 3), (58, .putfield 77, 3), (61, .aload_n 0, 1), (62, .aload_n 1, 1), (63, .putfield 81, 3), (66, .aload_n 0, 1), (67, .aload_n 0, 1), (68, .getfield 33, 3), (71, .getfield 176, 3), (74, .aload_n 0, 1), (75, .getfield 20, 3), (78, .getfield 179, 3), (81, .aload_n 0, 1), (82, .getfield 33, 3), (85, .getfield 182, 3), (88, .aload_n 0, 1), (89, .getfield 33, 3), (92, .getfield 185, 3), (95, .invokevirtual 156, 3), (98, .aload_n 0, 1), (99, .getfield 33, 3), (102, .getfield 185, 3), (105, .ireturn, 1)]
set_option maxRecDepth 100000 in
theorem D_FP_read : ∀ q ∈ L_FP_read, decode prog_1_method_7_code q.1 = .ok q.2 := by decide +kernel
theorem d_FP_read_0 : decode M_FP_read.2.1 0 = .ok (.aload_n 0, 1) := fx_d (q := (0, .aload_n 0, 1)) D_FP_read 0 rfl
theorem d_FP_read_1 : decode M_FP_read.2.1 1 = .ok (.getfield 20, 3) := fx_d (q := (1, .getfield 20, 3)) D_FP_read 1 rfl
theorem d_FP_read_4 : decode M_FP_read.2.1 4 = .ok (.invokevirtual 163, 3) := fx_d (q := (4, .invokevirtual 163, 3)) D_FP_read 2 rfl
theorem d_FP_read_7 : decode M_FP_read.2.1 7 = .ok (.ifCond .ne 5, 3) := fx_d (q := (7, .ifCond .ne 5, 3)) D_FP_read 3 rfl
theorem d_FP_read_10 : decode M_FP_read.2.1 10 = .ok (.iconst (-1), 1) := fx_d (q := (10, .iconst (-1), 1)) D_FP_read 4 rfl
theorem d_FP_read_11 : decode M_FP_read.2.1 11 = .ok (.ireturn, 1) := fx_d (q := (11, .ireturn, 1)) D_FP_read 5 rfl
theorem d_FP_read_12 : decode M_FP_read.2.1 12 = .ok (.aload_n 0, 1) := fx_d (q := (12, .aload_n 0, 1)) D_FP_read 6 rfl
theorem d_FP_read_13 : decode M_FP_read.2.1 13 = .ok (.getfield 33, 3) := fx_d (q := (13, .getfield 33, 3)) D_FP_read 7 rfl
theorem d_FP_read_16 : decode M_FP_read.2.1 16 = .ok (.invokevirtual 167, 3) := fx_d (q := (16, .invokevirtual 167, 3)) D_FP_read 8 rfl
theorem d_FP_read_19 : decode M_FP_read.2.1 19 = .ok (.ifCond .ne 6, 3) := fx_d (q := (19, .ifCond .ne 6, 3)) D_FP_read 9 rfl
theorem d_FP_read_22 : decode M_FP_read.2.1 22 = .ok (.bipush (-2), 2) := fx_d (q := (22, .bipush (-2), 2)) D_FP_read 10 rfl
theorem d_FP_read_24 : decode M_FP_read.2.1 24 = .ok (.ireturn, 1) := fx_d (q := (24, .ireturn, 1)) D_FP_read 11 rfl
theorem d_FP_read_25 : decode M_FP_read.2.1 25 = .ok (.aload_n 0, 1) := fx_d (q := (25, .aload_n 0, 1)) D_FP_read 12 rfl
theorem d_FP_read_26 : decode M_FP_read.2.1 26 = .ok (.getfield 33, 3) := fx_d (q := (26, .getfield 33, 3)) D_FP_read 13 rfl
theorem d_FP_read_29 : decode M_FP_read.2.1 29 = .ok (.invokevirtual 170, 3) := fx_d (q := (29, .invokevirtual 170, 3)) D_FP_read 14 rfl
theorem d_FP_read_32 : decode M_FP_read.2.1 32 = .ok (.ifCond .ne 6, 3) := fx_d (q := (32, .ifCond .ne 6, 3)) D_FP_read 15 rfl
theorem d_FP_read_35 : decode M_FP_read.2.1 35 = .ok (.bipush (-3), 2) := fx_d (q := (35, .bipush (-3), 2)) D_FP_read 16 rfl
theorem d_FP_read_37 : decode M_FP_read.2.1 37 = .ok (.ireturn, 1) := fx_d (q := (37, .ireturn, 1)) D_FP_read 17 rfl
theorem d_FP_read_38 : decode M_FP_read.2.1 38 = .ok (.aload_n 0, 1) := fx_d (q := (38, .aload_n 0, 1)) D_FP_read 18 rfl
theorem d_FP_read_39 : decode M_FP_read.2.1 39 = .ok (.invokevirtual 173, 3) := fx_d (q := (39, .invokevirtual 173, 3)) D_FP_read 19 rfl
theorem d_FP_read_42 : decode M_FP_read.2.1 42 = .ok (.ifCond .ne 6, 3) := fx_d (q := (42, .ifCond .ne 6, 3)) D_FP_read 20 rfl
theorem d_FP_read_45 : decode M_FP_read.2.1 45 = .ok (.bipush (-4), 2) := fx_d (q := (45, .bipush (-4), 2)) D_FP_read 21 rfl
theorem d_FP_read_47 : decode M_FP_read.2.1 47 = .ok (.ireturn, 1) := fx_d (q := (47, .ireturn, 1)) D_FP_read 22 rfl
theorem d_FP_read_48 : decode M_FP_read.2.1 48 = .ok (.aload_n 0, 1) := fx_d (q := (48, .aload_n 0, 1)) D_FP_read 23 rfl
theorem d_FP_read_49 : decode M_FP_read.2.1 49 = .ok (.getfield 77, 3) := fx_d (q := (49, .getfield 77, 3)) D_FP_read 24 rfl
theorem d_FP_read_52 : decode M_FP_read.2.1 52 = .ok (.astore_n 1, 1) := fx_d (q := (52, .astore_n 1, 1)) D_FP_read 25 rfl
theorem d_FP_read_53 : decode M_FP_read.2.1 53 = .ok (.aload_n 0, 1) := fx_d (q := (53, .aload_n 0, 1)) D_FP_read 26 rfl
theorem d_FP_read_54 : decode M_FP_read.2.1 54 = .ok (.aload_n 0, 1) := fx_d (q := (54, .aload_n 0, 1)) D_FP_read 27 rfl
theorem d_FP_read_55 : decode M_FP_read.2.1 55 = .ok (.getfield 81, 3) := fx_d (q := (55, .getfield 81, 3)) D_FP_read 28 rfl
theorem d_FP_read_58 : decode M_FP_read.2.1 58 = .ok (.putfield 77, 3) := fx_d (q := (58, .putfield 77, 3)) D_FP_read 29 rfl
theorem d_FP_read_61 : decode M_FP_read.2.1 61 = .ok (.aload_n 0, 1) := fx_d (q := (61, .aload_n 0, 1)) D_FP_read 30 rfl
theorem d_FP_read_62 : decode M_FP_read.2.1 62 = .ok (.aload_n 1, 1) := fx_d (q := (62, .aload_n 1, 1)) D_FP_read 31 rfl
theorem d_FP_read_63 : decode M_FP_read.2.1 63 = .ok (.putfield 81, 3) := fx_d (q := (63, .putfield 81, 3)) D_FP_read 32 rfl
theorem d_FP_read_66 : decode M_FP_read.2.1 66 = .ok (.aload_n 0, 1) := fx_d (q := (66, .aload_n 0, 1)) D_FP_read 33 rfl
theorem d_FP_read_67 : decode M_FP_read.2.1 67 = .ok (.aload_n 0, 1) := fx_d (q := (67, .aload_n 0, 1)) D_FP_read 34 rfl
theorem d_FP_read_68 : decode M_FP_read.2.1 68 = .ok (.getfield 33, 3) := fx_d (q := (68, .getfield 33, 3)) D_FP_read 35 rfl
theorem d_FP_read_71 : decode M_FP_read.2.1 71 = .ok (.getfield 176, 3) := fx_d (q := (71, .getfield 176, 3)) D_FP_read 36 rfl
theorem d_FP_read_74 : decode M_FP_read.2.1 74 = .ok (.aload_n 0, 1) := fx_d (q := (74, .aload_n 0, 1)) D_FP_read 37 rfl
theorem d_FP_read_75 : decode M_FP_read.2.1 75 = .ok (.getfield 20, 3) := fx_d (q := (75, .getfield 20, 3)) D_FP_read 38 rfl
theorem d_FP_read_78 : decode M_FP_read.2.1 78 = .ok (.getfield 179, 3) := fx_d (q := (78, .getfield 179, 3)) D_FP_read 39 rfl
theorem d_FP_read_81 : decode M_FP_read.2.1 81 = .ok (.aload_n 0, 1) := fx_d (q := (81, .aload_n 0, 1)) D_FP_read 40 rfl
theorem d_FP_read_82 : decode M_FP_read.2.1 82 = .ok (.getfield 33, 3) := fx_d (q := (82, .getfield 33, 3)) D_FP_read 41 rfl
theorem d_FP_read_85 : decode M_FP_read.2.1 85 = .ok (.getfield 182, 3) := fx_d (q := (85, .getfield 182, 3)) D_FP_read 42 rfl
theorem d_FP_read_88 : decode M_FP_read.2.1 88 = .ok (.aload_n 0, 1) := fx_d (q := (88, .aload_n 0, 1)) D_FP_read 43 rfl
theorem d_FP_read_89 : decode M_FP_read.2.1 89 = .ok (.getfield 33, 3) := fx_d (q := (89, .getfield 33, 3)) D_FP_read 44 rfl
theorem d_FP_read_92 : decode M_FP_read.2.1 92 = .ok (.getfield 185, 3) := fx_d (q := (92, .getfield 185, 3)) D_FP_read 45 rfl
theorem d_FP_read_95 : decode M_FP_read.2.1 95 = .ok (.invokevirtual 156, 3) := fx_d (q := (95, .invokevirtual 156, 3)) D_FP_read 46 rfl
theorem d_FP_read_98 : decode M_FP_read.2.1 98 = .ok (.aload_n 0, 1) := fx_d (q := (98, .aload_n 0, 1)) D_FP_read 47 rfl
theorem d_FP_read_99 : decode M_FP_read.2.1 99 = .ok (.getfield 33, 3) := fx_d (q := (99, .getfield 33, 3)) D_FP_read 48 rfl
theorem d_FP_read_102 : decode M_FP_read.2.1 102 = .ok (.getfield 185, 3) := fx_d (q := (102, .getfield 185, 3)) D_FP_read 49 rfl
theorem d_FP_read_105 : decode M_FP_read.2.1 105 = .ok (.ireturn, 1) := fx_d (q := (105, .ireturn, 1)) D_FP_read 50 rfl
set_option maxRecDepth 100000 in
def L_FP_sizeCanBe : List (Nat × Instr × Nat) := [(0, .lload_n 1, 1), (1, .lconst 1, 1), (2, .lcmp, 1), (3, .ifCond .lt 47, 3), (6, .lload_n 1, 1), (7, .iload_n 0, 1), (8, .ifCond .eq 8, 3), (11, .bipush 20, 2), (13, .goto 5, 3), (16, .bipush 40, 2), (18, .i2l, 1), (19, .lcmp, 1), (20, .ifCond .gt 30, 3), (23, .lload_n 3, 1), (24, .lconst 1, 1), (25, .lcmp, 1), (26, .ifCond .lt 24, 3), (29, .lload_n 3, 1), (30, .iload_n 0, 1), (31, .ifCond .eq 8, 3), (34, .bipush 20, 2), (36, .goto 5, 3), (39, .bipush 24, 2), (41, .i2l, 1), (42, .lcmp, 1), (43, .ifCond .gt 7, 3), (46, .iconst 1, 1), (47, .goto 4, 3), (50, .iconst 0, 1), (51, .ireturn, 1)]
set_option maxRecDepth 100000 in
theorem D_FP_sizeCanBe : ∀ q ∈ L_FP_sizeCanBe, decode prog_1_method_16_code q.1 = .ok q.2 := by decide +kernel
theorem d_FP_sizeCanBe_0 : decode M_FP_sizeCanBe.2.1 0 = .ok (.lload_n 1, 1) := fx_d (q := (0, .lload_n 1, 1)) D_FP_sizeCanBe 0 rfl
theorem d_FP_sizeCanBe_1 : decode M_FP_sizeCanBe.2.1 1 = .ok (.lconst 1, 1) := fx_d (q := (1, .lconst 1, 1)) D_FP_sizeCanBe 1 rfl
theorem d_FP_sizeCanBe_2 : decode M_FP_sizeCanBe.2.1 2 = .ok (.lcmp, 1) := fx_d (q := (2, .lcmp, 1)) D_FP_sizeCanBe 2 rfl
theorem d_FP_sizeCanBe_3 : decode M_FP_sizeCanBe.2.1 3 = .ok (.ifCond .lt 47, 3) := fx_d (q := (3, .ifCond .lt 47, 3)) D_FP_sizeCanBe 3 rfl
theorem d_FP_sizeCanBe_6 : decode M_FP_sizeCanBe.2.1 6 = .ok (.lload_n 1, 1) := fx_d (q := (6, .lload_n 1, 1)) D_FP_sizeCanBe 4 rfl
theorem d_FP_sizeCanBe_7 : decode M_FP_sizeCanBe.2.1 7 = .ok (.iload_n 0, 1) := fx_d (q := (7, .iload_n 0, 1)) D_FP_sizeCanBe 5 rfl
theorem d_FP_sizeCanBe_8 : decode M_FP_sizeCanBe.2.1 8 = .ok (.ifCond .eq 8, 3) := fx_d (q := (8, .ifCond .eq 8, 3)) D_FP_sizeCanBe 6 rfl
theorem d_FP_sizeCanBe_11 : decode M_FP_sizeCanBe.2.1 11 = .ok (.bipush 20, 2) := fx_d (q := (11, .bipush 20, 2)) D_FP_sizeCanBe 7 rfl
theorem d_FP_sizeCanBe_13 : decode M_FP_sizeCanBe.2.1 13 = .ok (.goto 5, 3) := fx_d (q := (13, .goto 5, 3)) D_FP_sizeCanBe 8 rfl
theorem d_FP_sizeCanBe_16 : decode M_FP_sizeCanBe.2.1 16 = .ok (.bipush 40, 2) := fx_d (q := (16, .bipush 40, 2)) D_FP_sizeCanBe 9 rfl
theorem d_FP_sizeCanBe_18 : decode M_FP_sizeCanBe.2.1 18 = .ok (.i2l, 1) := fx_d (q := (18, .i2l, 1)) D_FP_sizeCanBe 10 rfl
theorem d_FP_sizeCanBe_19 : decode M_FP_sizeCanBe.2.1 19 = .ok (.lcmp, 1) := fx_d (q := (19, .lcmp, 1)) D_FP_sizeCanBe 11 rfl
theorem d_FP_sizeCanBe_20 : decode M_FP_sizeCanBe.2.1 20 = .ok (.ifCond .gt 30, 3) := fx_d (q := (20, .ifCond .gt 30, 3)) D_FP_sizeCanBe 12 rfl
theorem d_FP_sizeCanBe_23 : decode M_FP_sizeCanBe.2.1 23 = .ok (.lload_n 3, 1) := fx_d (q := (23, .lload_n 3, 1)) D_FP_sizeCanBe 13 rfl
theorem d_FP_sizeCanBe_24 : decode M_FP_sizeCanBe.2.1 24 = .ok (.lconst 1, 1) := fx_d (q := (24, .lconst 1, 1)) D_FP_sizeCanBe 14 rfl
theorem d_FP_sizeCanBe_25 : decode M_FP_sizeCanBe.2.1 25 = .ok (.lcmp, 1) := fx_d (q := (25, .lcmp, 1)) D_FP_sizeCanBe 15 rfl
theorem d_FP_sizeCanBe_26 : decode M_FP_sizeCanBe.2.1 26 = .ok (.ifCond .lt 24, 3) := fx_d (q := (26, .ifCond .lt 24, 3)) D_FP_sizeCanBe 16 rfl
theorem d_FP_sizeCanBe_29 : decode M_FP_sizeCanBe.2.1 29 = .ok (.lload_n 3, 1) := fx_d (q := (29, .lload_n 3, 1)) D_FP_sizeCanBe 17 rfl
theorem d_FP_sizeCanBe_30 : decode M_FP_sizeCanBe.2.1 30 = .ok (.iload_n 0, 1) := fx_d (q := (30, .iload_n 0, 1)) D_FP_sizeCanBe 18 rfl
theorem d_FP_sizeCanBe_31 : decode M_FP_sizeCanBe.2.1 31 = .ok (.ifCond .eq 8, 3) := fx_d (q := (31, .ifCond .eq 8, 3)) D_FP_sizeCanBe 19 rfl
theorem d_FP_sizeCanBe_34 : decode M_FP_sizeCanBe.2.1 34 = .ok (.bipush 20, 2) := fx_d (q := (34, .bipush 20, 2)) D_FP_sizeCanBe 20 rfl
theorem d_FP_sizeCanBe_36 : decode M_FP_sizeCanBe.2.1 36 = .ok (.goto 5, 3) := fx_d (q := (36, .goto 5, 3)) D_FP_sizeCanBe 21 rfl
theorem d_FP_sizeCanBe_39 : decode M_FP_sizeCanBe.2.1 39 = .ok (.bipush 24, 2) := fx_d (q := (39, .bipush 24, 2)) D_FP_sizeCanBe 22 rfl
theorem d_FP_sizeCanBe_41 : decode M_FP_sizeCanBe.2.1 41 = .ok (.i2l, 1) := fx_d (q := (41, .i2l, 1)) D_FP_sizeCanBe 23 rfl
theorem d_FP_sizeCanBe_42 : decode M_FP_sizeCanBe.2.1 42 = .ok (.lcmp, 1) := fx_d (q := (42, .lcmp, 1)) D_FP_sizeCanBe 24 rfl
theorem d_FP_sizeCanBe_43 : decode M_FP_sizeCanBe.2.1 43 = .ok (.ifCond .gt 7, 3) := fx_d (q := (43, .ifCond .gt 7, 3)) D_FP_sizeCanBe 25 rfl
theorem d_FP_sizeCanBe_46 : decode M_FP_sizeCanBe.2.1 46 = .ok (.iconst 1, 1) := fx_d (q := (46, .iconst 1, 1)) D_FP_sizeCanBe 26 rfl
theorem d_FP_sizeCanBe_47 : decode M_FP_sizeCanBe.2.1 47 = .ok (.goto 4, 3) := fx_d (q := (47, .goto 4, 3)) D_FP_sizeCanBe 27 rfl
theorem d_FP_sizeCanBe_50 : decode M_FP_sizeCanBe.2.1 50 = .ok (.iconst 0, 1) := fx_d (q := (50, .iconst 0, 1)) D_FP_sizeCanBe 28 rfl
theorem d_FP_sizeCanBe_51 : decode M_FP_sizeCanBe.2.1 51 = .ok (.ireturn, 1) := fx_d (q := (51, .ireturn, 1)) D_FP_sizeCanBe 29 rfl
set_option maxRecDepth 100000 in
def L_FP_isScheme : List (Nat × Instr × Nat) := [(0, .lload_n 0, 1), (1, .lconst 1, 1), (2, .lcmp, 1), (3, .ifCond .eq 26, 3), (6, .lload_n 0, 1), (7, .ldc2_w 212, 3), (10, .lcmp, 1), (11, .ifCond .eq 18, 3), (14, .lload_n 0, 1), (15, .ldc2_w 214, 3), (18, .lcmp, 1), (19, .ifCond .eq 10, 3), (22, .lload_n 0, 1), (23, .invokestatic 132, 3), (26, .ifCond .eq 7, 3), (29, .iconst 1, 1), (30, .goto 4, 3), (33, .iconst 0, 1), (34, .ireturn, 1)]
set_option maxRecDepth 100000 in
theorem D_FP_isScheme : ∀ q ∈ L_FP_isScheme, decode prog_1_method_15_code q.1 = .ok q.2 := by decide +kernel
theorem d_FP_isScheme_0 : decode M_FP_isScheme.2.1 0 = .ok (.lload_n 0, 1) := fx_d (q := (0, .lload_n 0, 1)) D_FP_isScheme 0 rfl
theorem d_FP_isScheme_1 : decode M_FP_isScheme.2.1 1 = .ok (.lconst 1, 1) := fx_d (q := (1, .lconst 1, 1)) D_FP_isScheme 1 rfl
theorem d_FP_isScheme_2 : decode M_FP_isScheme.2.1 2 = .ok (.lcmp, 1) := fx_d (q := (2, .lcmp, 1)) D_FP_isScheme 2 rfl
theorem d_FP_isScheme_3 : decode M_FP_isScheme.2.1 3 = .ok (.ifCond .eq 26, 3) := fx_d (q := (3, .ifCond .eq 26, 3)) D_FP_isScheme 3 rfl
theorem d_FP_isScheme_6 : decode M_FP_isScheme.2.1 6 = .ok (.lload_n 0, 1) := fx_d (q := (6, .lload_n 0, 1)) D_FP_isScheme 4 rfl
theorem d_FP_isScheme_7 : decode M_FP_isScheme.2.1 7 = .ok (.ldc2_w 212, 3) := fx_d (q := (7, .ldc2_w 212, 3)) D_FP_isScheme 5 rfl
theorem d_FP_isScheme_10 : decode M_FP_isScheme.2.1 10 = .ok (.lcmp, 1) := fx_d (q := (10, .lcmp, 1)) D_FP_isScheme 6 rfl
theorem d_FP_isScheme_11 : decode M_FP_isScheme.2.1 11 = .ok (.ifCond .eq 18, 3) := fx_d (q := (11, .ifCond .eq 18, 3)) D_FP_isScheme 7 rfl
theorem d_FP_isScheme_14 : decode M_FP_isScheme.2.1 14 = .ok (.lload_n 0, 1) := fx_d (q := (14, .lload_n 0, 1)) D_FP_isScheme 8 rfl
theorem d_FP_isScheme_15 : decode M_FP_isScheme.2.1 15 = .ok (.ldc2_w 214, 3) := fx_d (q := (15, .ldc2_w 214, 3)) D_FP_isScheme 9 rfl
theorem d_FP_isScheme_18 : decode M_FP_isScheme.2.1 18 = .ok (.lcmp, 1) := fx_d (q := (18, .lcmp, 1)) D_FP_isScheme 10 rfl
theorem d_FP_isScheme_19 : decode M_FP_isScheme.2.1 19 = .ok (.ifCond .eq 10, 3) := fx_d (q := (19, .ifCond .eq 10, 3)) D_FP_isScheme 11 rfl
theorem d_FP_isScheme_22 : decode M_FP_isScheme.2.1 22 = .ok (.lload_n 0, 1) := fx_d (q := (22, .lload_n 0, 1)) D_FP_isScheme 12 rfl
theorem d_FP_isScheme_23 : decode M_FP_isScheme.2.1 23 = .ok (.invokestatic 132, 3) := fx_d (q := (23, .invokestatic 132, 3)) D_FP_isScheme 13 rfl
theorem d_FP_isScheme_26 : decode M_FP_isScheme.2.1 26 = .ok (.ifCond .eq 7, 3) := fx_d (q := (26, .ifCond .eq 7, 3)) D_FP_isScheme 14 rfl
theorem d_FP_isScheme_29 : decode M_FP_isScheme.2.1 29 = .ok (.iconst 1, 1) := fx_d (q := (29, .iconst 1, 1)) D_FP_isScheme 15 rfl
theorem d_FP_isScheme_30 : decode M_FP_isScheme.2.1 30 = .ok (.goto 4, 3) := fx_d (q := (30, .goto 4, 3)) D_FP_isScheme 16 rfl
theorem d_FP_isScheme_33 : decode M_FP_isScheme.2.1 33 = .ok (.iconst 0, 1) := fx_d (q := (33, .iconst 0, 1)) D_FP_isScheme 17 rfl
theorem d_FP_isScheme_34 : decode M_FP_isScheme.2.1 34 = .ok (.ireturn, 1) := fx_d (q := (34, .ireturn, 1)) D_FP_isScheme 18 rfl
set_option maxRecDepth 100000 in
def L_FP_isFax : List (Nat × Instr × Nat) := [(0, .lload_n 0, 1), (1, .ldc2_w 208, 3), (4, .lcmp, 1), (5, .ifCond .eq 11, 3), (8, .lload_n 0, 1), (9, .ldc2_w 210, 3), (12, .lcmp, 1), (13, .ifCond .ne 7, 3), (16, .iconst 1, 1), (17, .goto 4, 3), (20, .iconst 0, 1), (21, .ireturn, 1)]
set_option maxRecDepth 100000 in
theorem D_FP_isFax : ∀ q ∈ L_FP_isFax, decode prog_1_method_14_code q.1 = .ok q.2 := by decide +kernel
theorem d_FP_isFax_0 : decode M_FP_isFax.2.1 0 = .ok (.lload_n 0, 1) := fx_d (q := (0, .lload_n 0, 1)) D_FP_isFax 0 rfl
theorem d_FP_isFax_1 : decode M_FP_isFax.2.1 1 = .ok (.ldc2_w 208, 3) := fx_d (q := (1, .ldc2_w 208, 3)) D_FP_isFax 1 rfl
theorem d_FP_isFax_4 : decode M_FP_isFax.2.1 4 = .ok (.lcmp, 1) := fx_d (q := (4, .lcmp, 1)) D_FP_isFax 2 rfl
theorem d_FP_isFax_5 : decode M_FP_isFax.2.1 5 = .ok (.ifCond .eq 11, 3) := fx_d (q := (5, .ifCond .eq 11, 3)) D_FP_isFax 3 rfl
theorem d_FP_isFax_8 : decode M_FP_isFax.2.1 8 = .ok (.lload_n 0, 1) := fx_d (q := (8, .lload_n 0, 1)) D_FP_isFax 4 rfl
theorem d_FP_isFax_9 : decode M_FP_isFax.2.1 9 = .ok (.ldc2_w 210, 3) := fx_d (q := (9, .ldc2_w 210, 3)) D_FP_isFax 5 rfl
theorem d_FP_isFax_12 : decode M_FP_isFax.2.1 12 = .ok (.lcmp, 1) := fx_d (q := (12, .lcmp, 1)) D_FP_isFax 6 rfl
theorem d_FP_isFax_13 : decode M_FP_isFax.2.1 13 = .ok (.ifCond .ne 7, 3) := fx_d (q := (13, .ifCond .ne 7, 3)) D_FP_isFax 7 rfl
theorem d_FP_isFax_16 : decode M_FP_isFax.2.1 16 = .ok (.iconst 1, 1) := fx_d (q := (16, .iconst 1, 1)) D_FP_isFax 8 rfl
theorem d_FP_isFax_17 : decode M_FP_isFax.2.1 17 = .ok (.goto 4, 3) := fx_d (q := (17, .goto 4, 3)) D_FP_isFax 9 rfl
theorem d_FP_isFax_20 : decode M_FP_isFax.2.1 20 = .ok (.iconst 0, 1) := fx_d (q := (20, .iconst 0, 1)) D_FP_isFax 10 rfl
theorem d_FP_isFax_21 : decode M_FP_isFax.2.1 21 = .ok (.ireturn, 1) := fx_d (q := (21, .ireturn, 1)) D_FP_isFax 11 rfl
set_option maxRecDepth 100000 in
def L_FP_stripsOf : List (Nat × Instr × Nat) := [(0, .iload_n 1, 1), (1, .iconst 1, 1), (2, .if_icmp .ge 7, 3), (5, .iconst 0, 1), (6, .goto 10, 3), (9, .iload_n 0, 1), (10, .iload_n 1, 1), (11, .iadd, 1), (12, .iconst 1, 1), (13, .isub, 1), (14, .iload_n 1, 1), (15, .idiv, 1), (16, .ireturn, 1)]
set_option maxRecDepth 100000 in
theorem D_FP_stripsOf : ∀ q ∈ L_FP_stripsOf, decode prog_1_method_17_code q.1 = .ok q.2 := by decide +kernel
theorem d_FP_stripsOf_0 : decode M_FP_stripsOf.2.1 0 = .ok (.iload_n 1, 1) := fx_d (q := (0, .iload_n 1, 1)) D_FP_stripsOf 0 rfl
theorem d_FP_stripsOf_1 : decode M_FP_stripsOf.2.1 1 = .ok (.iconst 1, 1) := fx_d (q := (1, .iconst 1, 1)) D_FP_stripsOf 1 rfl
theorem d_FP_stripsOf_2 : decode M_FP_stripsOf.2.1 2 = .ok (.if_icmp .ge 7, 3) := fx_d (q := (2, .if_icmp .ge 7, 3)) D_FP_stripsOf 2 rfl
theorem d_FP_stripsOf_5 : decode M_FP_stripsOf.2.1 5 = .ok (.iconst 0, 1) := fx_d (q := (5, .iconst 0, 1)) D_FP_stripsOf 3 rfl
theorem d_FP_stripsOf_6 : decode M_FP_stripsOf.2.1 6 = .ok (.goto 10, 3) := fx_d (q := (6, .goto 10, 3)) D_FP_stripsOf 4 rfl
theorem d_FP_stripsOf_9 : decode M_FP_stripsOf.2.1 9 = .ok (.iload_n 0, 1) := fx_d (q := (9, .iload_n 0, 1)) D_FP_stripsOf 5 rfl
theorem d_FP_stripsOf_10 : decode M_FP_stripsOf.2.1 10 = .ok (.iload_n 1, 1) := fx_d (q := (10, .iload_n 1, 1)) D_FP_stripsOf 6 rfl
theorem d_FP_stripsOf_11 : decode M_FP_stripsOf.2.1 11 = .ok (.iadd, 1) := fx_d (q := (11, .iadd, 1)) D_FP_stripsOf 7 rfl
theorem d_FP_stripsOf_12 : decode M_FP_stripsOf.2.1 12 = .ok (.iconst 1, 1) := fx_d (q := (12, .iconst 1, 1)) D_FP_stripsOf 8 rfl
theorem d_FP_stripsOf_13 : decode M_FP_stripsOf.2.1 13 = .ok (.isub, 1) := fx_d (q := (13, .isub, 1)) D_FP_stripsOf 9 rfl
theorem d_FP_stripsOf_14 : decode M_FP_stripsOf.2.1 14 = .ok (.iload_n 1, 1) := fx_d (q := (14, .iload_n 1, 1)) D_FP_stripsOf 10 rfl
theorem d_FP_stripsOf_15 : decode M_FP_stripsOf.2.1 15 = .ok (.idiv, 1) := fx_d (q := (15, .idiv, 1)) D_FP_stripsOf 11 rfl
theorem d_FP_stripsOf_16 : decode M_FP_stripsOf.2.1 16 = .ok (.ireturn, 1) := fx_d (q := (16, .ireturn, 1)) D_FP_stripsOf 12 rfl
set_option maxRecDepth 100000 in
def L_FP_unpackStrips : List (Nat × Instr × Nat) := [(0, .aload_n 0, 1), (1, .aload_n 0, 1), (2, .getfield 33, 3), (5, .getfield 176, 3), (8, .invokevirtual 145, 3), (11, .astore_n 1, 1), (12, .aload_n 0, 1), (13, .getfield 81, 3), (16, .aload_n 0, 1), (17, .getfield 33, 3), (20, .getfield 239, 3), (23, .aload_n 0, 1), (24, .getfield 33, 3), (27, .getfield 240, 3), (30, .aload_n 0, 1), (31, .getfield 33, 3), (34, .getfield 241, 3), (37, .invokevirtual 91, 3), (40, .iconst 0, 1), (41, .istore_n 2, 1), (42, .iload_n 2, 1), (43, .aload_n 0, 1), (44, .getfield 33, 3), (47, .getfield 185, 3), (50, .if_icmp .ge 85, 3), (53, .aload_n 0, 1), (54, .getfield 26, 3), (57, .aload_n 0, 1), (58, .getfield 33, 3), (61, .sipush 273, 3), (64, .iload_n 2, 1), (65, .invokevirtual 242, 3), (68, .l2i, 1), (69, .aload_n 0, 1), (70, .getfield 33, 3), (73, .sipush 279, 3), (76, .iload_n 2, 1), (77, .invokevirtual 242, 3), (80, .l2i, 1), (81, .invokevirtual 246, 3), (84, .aload_n 1, 1), (85, .aload_n 0, 1), (86, .getfield 81, 3), (89, .iload_n 2, 1), (90, .aload_n 0, 1), (91, .getfield 33, 3), (94, .getfield 182, 3), (97, .imul, 1), (98, .aload_n 0, 1), (99, .getfield 33, 3), (102, .getfield 241, 3), (105, .iload_n 2, 1), (106, .iconst 1, 1), (107, .iadd, 1), (108, .aload_n 0, 1), (109, .getfield 33, 3), (112, .getfield 182, 3), (115, .imul, 1), (116, .invokestatic 228, 3), (119, .invokeinterface 249 4, 5), (124, .ifCond .ne 5, 3), (127, .iconst 0, 1), (128, .ireturn, 1), (129, .iinc 2 1, 3), (132, .goto (-90), 3), (135, .iconst 1, 1), (136, .ireturn, 1)]
set_option maxRecDepth 100000 in
theorem D_FP_unpackStrips : ∀ q ∈ L_FP_unpackStrips, decode prog_1_method_23_code q.1 = .ok q.2 := by decide +kernel
theorem d_FP_unpackStrips_0 : decode M_FP_unpackStrips.2.1 0 = .ok (.aload_n 0, 1) := fx_d (q := (0, .aload_n 0, 1)) D_FP_unpackStrips 0 rfl
theorem d_FP_unpackStrips_1 : decode M_FP_unpackStrips.2.1 1 = .ok (.aload_n 0, 1) := fx_d (q := (1, .aload_n 0, 1)) D_FP_unpackStrips 1 rfl
theorem d_FP_unpackStrips_2 : decode M_FP_unpackStrips.2.1 2 = .ok (.getfield 33, 3) := fx_d (q := (2, .getfield 33, 3)) D_FP_unpackStrips 2 rfl
theorem d_FP_unpackStrips_5 : decode M_FP_unpackStrips.2.1 5 = .ok (.getfield 176, 3) := fx_d (q := (5, .getfield 176, 3)) D_FP_unpackStrips 3 rfl
theorem d_FP_unpackStrips_8 : decode M_FP_unpackStrips.2.1 8 = .ok (.invokevirtual 145, 3) := fx_d (q := (8, .invokevirtual 145, 3)) D_FP_unpackStrips 4 rfl
theorem d_FP_unpackStrips_11 : decode M_FP_unpackStrips.2.1 11 = .ok (.astore_n 1, 1) := fx_d (q := (11, .astore_n 1, 1)) D_FP_unpackStrips 5 rfl
theorem d_FP_unpackStrips_12 : decode M_FP_unpackStrips.2.1 12 = .ok (.aload_n 0, 1) := fx_d (q := (12, .aload_n 0, 1)) D_FP_unpackStrips 6 rfl
theorem d_FP_unpackStrips_13 : decode M_FP_unpackStrips.2.1 13 = .ok (.getfield 81, 3) := fx_d (q := (13, .getfield 81, 3)) D_FP_unpackStrips 7 rfl
theorem d_FP_unpackStrips_16 : decode M_FP_unpackStrips.2.1 16 = .ok (.aload_n 0, 1) := fx_d (q := (16, .aload_n 0, 1)) D_FP_unpackStrips 8 rfl
theorem d_FP_unpackStrips_17 : decode M_FP_unpackStrips.2.1 17 = .ok (.getfield 33, 3) := fx_d (q := (17, .getfield 33, 3)) D_FP_unpackStrips 9 rfl
theorem d_FP_unpackStrips_20 : decode M_FP_unpackStrips.2.1 20 = .ok (.getfield 239, 3) := fx_d (q := (20, .getfield 239, 3)) D_FP_unpackStrips 10 rfl
theorem d_FP_unpackStrips_23 : decode M_FP_unpackStrips.2.1 23 = .ok (.aload_n 0, 1) := fx_d (q := (23, .aload_n 0, 1)) D_FP_unpackStrips 11 rfl
theorem d_FP_unpackStrips_24 : decode M_FP_unpackStrips.2.1 24 = .ok (.getfield 33, 3) := fx_d (q := (24, .getfield 33, 3)) D_FP_unpackStrips 12 rfl
theorem d_FP_unpackStrips_27 : decode M_FP_unpackStrips.2.1 27 = .ok (.getfield 240, 3) := fx_d (q := (27, .getfield 240, 3)) D_FP_unpackStrips 13 rfl
theorem d_FP_unpackStrips_30 : decode M_FP_unpackStrips.2.1 30 = .ok (.aload_n 0, 1) := fx_d (q := (30, .aload_n 0, 1)) D_FP_unpackStrips 14 rfl
theorem d_FP_unpackStrips_31 : decode M_FP_unpackStrips.2.1 31 = .ok (.getfield 33, 3) := fx_d (q := (31, .getfield 33, 3)) D_FP_unpackStrips 15 rfl
theorem d_FP_unpackStrips_34 : decode M_FP_unpackStrips.2.1 34 = .ok (.getfield 241, 3) := fx_d (q := (34, .getfield 241, 3)) D_FP_unpackStrips 16 rfl
theorem d_FP_unpackStrips_37 : decode M_FP_unpackStrips.2.1 37 = .ok (.invokevirtual 91, 3) := fx_d (q := (37, .invokevirtual 91, 3)) D_FP_unpackStrips 17 rfl
theorem d_FP_unpackStrips_40 : decode M_FP_unpackStrips.2.1 40 = .ok (.iconst 0, 1) := fx_d (q := (40, .iconst 0, 1)) D_FP_unpackStrips 18 rfl
theorem d_FP_unpackStrips_41 : decode M_FP_unpackStrips.2.1 41 = .ok (.istore_n 2, 1) := fx_d (q := (41, .istore_n 2, 1)) D_FP_unpackStrips 19 rfl
theorem d_FP_unpackStrips_42 : decode M_FP_unpackStrips.2.1 42 = .ok (.iload_n 2, 1) := fx_d (q := (42, .iload_n 2, 1)) D_FP_unpackStrips 20 rfl
theorem d_FP_unpackStrips_43 : decode M_FP_unpackStrips.2.1 43 = .ok (.aload_n 0, 1) := fx_d (q := (43, .aload_n 0, 1)) D_FP_unpackStrips 21 rfl
theorem d_FP_unpackStrips_44 : decode M_FP_unpackStrips.2.1 44 = .ok (.getfield 33, 3) := fx_d (q := (44, .getfield 33, 3)) D_FP_unpackStrips 22 rfl
theorem d_FP_unpackStrips_47 : decode M_FP_unpackStrips.2.1 47 = .ok (.getfield 185, 3) := fx_d (q := (47, .getfield 185, 3)) D_FP_unpackStrips 23 rfl
theorem d_FP_unpackStrips_50 : decode M_FP_unpackStrips.2.1 50 = .ok (.if_icmp .ge 85, 3) := fx_d (q := (50, .if_icmp .ge 85, 3)) D_FP_unpackStrips 24 rfl
theorem d_FP_unpackStrips_53 : decode M_FP_unpackStrips.2.1 53 = .ok (.aload_n 0, 1) := fx_d (q := (53, .aload_n 0, 1)) D_FP_unpackStrips 25 rfl
theorem d_FP_unpackStrips_54 : decode M_FP_unpackStrips.2.1 54 = .ok (.getfield 26, 3) := fx_d (q := (54, .getfield 26, 3)) D_FP_unpackStrips 26 rfl
theorem d_FP_unpackStrips_57 : decode M_FP_unpackStrips.2.1 57 = .ok (.aload_n 0, 1) := fx_d (q := (57, .aload_n 0, 1)) D_FP_unpackStrips 27 rfl
theorem d_FP_unpackStrips_58 : decode M_FP_unpackStrips.2.1 58 = .ok (.getfield 33, 3) := fx_d (q := (58, .getfield 33, 3)) D_FP_unpackStrips 28 rfl
theorem d_FP_unpackStrips_61 : decode M_FP_unpackStrips.2.1 61 = .ok (.sipush 273, 3) := fx_d (q := (61, .sipush 273, 3)) D_FP_unpackStrips 29 rfl
theorem d_FP_unpackStrips_64 : decode M_FP_unpackStrips.2.1 64 = .ok (.iload_n 2, 1) := fx_d (q := (64, .iload_n 2, 1)) D_FP_unpackStrips 30 rfl
theorem d_FP_unpackStrips_65 : decode M_FP_unpackStrips.2.1 65 = .ok (.invokevirtual 242, 3) := fx_d (q := (65, .invokevirtual 242, 3)) D_FP_unpackStrips 31 rfl
theorem d_FP_unpackStrips_68 : decode M_FP_unpackStrips.2.1 68 = .ok (.l2i, 1) := fx_d (q := (68, .l2i, 1)) D_FP_unpackStrips 32 rfl
theorem d_FP_unpackStrips_69 : decode M_FP_unpackStrips.2.1 69 = .ok (.aload_n 0, 1) := fx_d (q := (69, .aload_n 0, 1)) D_FP_unpackStrips 33 rfl
theorem d_FP_unpackStrips_70 : decode M_FP_unpackStrips.2.1 70 = .ok (.getfield 33, 3) := fx_d (q := (70, .getfield 33, 3)) D_FP_unpackStrips 34 rfl
theorem d_FP_unpackStrips_73 : decode M_FP_unpackStrips.2.1 73 = .ok (.sipush 279, 3) := fx_d (q := (73, .sipush 279, 3)) D_FP_unpackStrips 35 rfl
theorem d_FP_unpackStrips_76 : decode M_FP_unpackStrips.2.1 76 = .ok (.iload_n 2, 1) := fx_d (q := (76, .iload_n 2, 1)) D_FP_unpackStrips 36 rfl
theorem d_FP_unpackStrips_77 : decode M_FP_unpackStrips.2.1 77 = .ok (.invokevirtual 242, 3) := fx_d (q := (77, .invokevirtual 242, 3)) D_FP_unpackStrips 37 rfl
theorem d_FP_unpackStrips_80 : decode M_FP_unpackStrips.2.1 80 = .ok (.l2i, 1) := fx_d (q := (80, .l2i, 1)) D_FP_unpackStrips 38 rfl
theorem d_FP_unpackStrips_81 : decode M_FP_unpackStrips.2.1 81 = .ok (.invokevirtual 246, 3) := fx_d (q := (81, .invokevirtual 246, 3)) D_FP_unpackStrips 39 rfl
theorem d_FP_unpackStrips_84 : decode M_FP_unpackStrips.2.1 84 = .ok (.aload_n 1, 1) := fx_d (q := (84, .aload_n 1, 1)) D_FP_unpackStrips 40 rfl
theorem d_FP_unpackStrips_85 : decode M_FP_unpackStrips.2.1 85 = .ok (.aload_n 0, 1) := fx_d (q := (85, .aload_n 0, 1)) D_FP_unpackStrips 41 rfl
theorem d_FP_unpackStrips_86 : decode M_FP_unpackStrips.2.1 86 = .ok (.getfield 81, 3) := fx_d (q := (86, .getfield 81, 3)) D_FP_unpackStrips 42 rfl
theorem d_FP_unpackStrips_89 : decode M_FP_unpackStrips.2.1 89 = .ok (.iload_n 2, 1) := fx_d (q := (89, .iload_n 2, 1)) D_FP_unpackStrips 43 rfl
theorem d_FP_unpackStrips_90 : decode M_FP_unpackStrips.2.1 90 = .ok (.aload_n 0, 1) := fx_d (q := (90, .aload_n 0, 1)) D_FP_unpackStrips 44 rfl
theorem d_FP_unpackStrips_91 : decode M_FP_unpackStrips.2.1 91 = .ok (.getfield 33, 3) := fx_d (q := (91, .getfield 33, 3)) D_FP_unpackStrips 45 rfl
theorem d_FP_unpackStrips_94 : decode M_FP_unpackStrips.2.1 94 = .ok (.getfield 182, 3) := fx_d (q := (94, .getfield 182, 3)) D_FP_unpackStrips 46 rfl
theorem d_FP_unpackStrips_97 : decode M_FP_unpackStrips.2.1 97 = .ok (.imul, 1) := fx_d (q := (97, .imul, 1)) D_FP_unpackStrips 47 rfl
theorem d_FP_unpackStrips_98 : decode M_FP_unpackStrips.2.1 98 = .ok (.aload_n 0, 1) := fx_d (q := (98, .aload_n 0, 1)) D_FP_unpackStrips 48 rfl
theorem d_FP_unpackStrips_99 : decode M_FP_unpackStrips.2.1 99 = .ok (.getfield 33, 3) := fx_d (q := (99, .getfield 33, 3)) D_FP_unpackStrips 49 rfl
theorem d_FP_unpackStrips_102 : decode M_FP_unpackStrips.2.1 102 = .ok (.getfield 241, 3) := fx_d (q := (102, .getfield 241, 3)) D_FP_unpackStrips 50 rfl
theorem d_FP_unpackStrips_105 : decode M_FP_unpackStrips.2.1 105 = .ok (.iload_n 2, 1) := fx_d (q := (105, .iload_n 2, 1)) D_FP_unpackStrips 51 rfl
theorem d_FP_unpackStrips_106 : decode M_FP_unpackStrips.2.1 106 = .ok (.iconst 1, 1) := fx_d (q := (106, .iconst 1, 1)) D_FP_unpackStrips 52 rfl
theorem d_FP_unpackStrips_107 : decode M_FP_unpackStrips.2.1 107 = .ok (.iadd, 1) := fx_d (q := (107, .iadd, 1)) D_FP_unpackStrips 53 rfl
theorem d_FP_unpackStrips_108 : decode M_FP_unpackStrips.2.1 108 = .ok (.aload_n 0, 1) := fx_d (q := (108, .aload_n 0, 1)) D_FP_unpackStrips 54 rfl
theorem d_FP_unpackStrips_109 : decode M_FP_unpackStrips.2.1 109 = .ok (.getfield 33, 3) := fx_d (q := (109, .getfield 33, 3)) D_FP_unpackStrips 55 rfl
theorem d_FP_unpackStrips_112 : decode M_FP_unpackStrips.2.1 112 = .ok (.getfield 182, 3) := fx_d (q := (112, .getfield 182, 3)) D_FP_unpackStrips 56 rfl
theorem d_FP_unpackStrips_115 : decode M_FP_unpackStrips.2.1 115 = .ok (.imul, 1) := fx_d (q := (115, .imul, 1)) D_FP_unpackStrips 57 rfl
theorem d_FP_unpackStrips_116 : decode M_FP_unpackStrips.2.1 116 = .ok (.invokestatic 228, 3) := fx_d (q := (116, .invokestatic 228, 3)) D_FP_unpackStrips 58 rfl
theorem d_FP_unpackStrips_119 : decode M_FP_unpackStrips.2.1 119 = .ok (.invokeinterface 249 4, 5) := fx_d (q := (119, .invokeinterface 249 4, 5)) D_FP_unpackStrips 59 rfl
theorem d_FP_unpackStrips_124 : decode M_FP_unpackStrips.2.1 124 = .ok (.ifCond .ne 5, 3) := fx_d (q := (124, .ifCond .ne 5, 3)) D_FP_unpackStrips 60 rfl
theorem d_FP_unpackStrips_127 : decode M_FP_unpackStrips.2.1 127 = .ok (.iconst 0, 1) := fx_d (q := (127, .iconst 0, 1)) D_FP_unpackStrips 61 rfl
theorem d_FP_unpackStrips_128 : decode M_FP_unpackStrips.2.1 128 = .ok (.ireturn, 1) := fx_d (q := (128, .ireturn, 1)) D_FP_unpackStrips 62 rfl
theorem d_FP_unpackStrips_129 : decode M_FP_unpackStrips.2.1 129 = .ok (.iinc 2 1, 3) := fx_d (q := (129, .iinc 2 1, 3)) D_FP_unpackStrips 63 rfl
theorem d_FP_unpackStrips_132 : decode M_FP_unpackStrips.2.1 132 = .ok (.goto (-90), 3) := fx_d (q := (132, .goto (-90), 3)) D_FP_unpackStrips 64 rfl
theorem d_FP_unpackStrips_135 : decode M_FP_unpackStrips.2.1 135 = .ok (.iconst 1, 1) := fx_d (q := (135, .iconst 1, 1)) D_FP_unpackStrips 65 rfl
theorem d_FP_unpackStrips_136 : decode M_FP_unpackStrips.2.1 136 = .ok (.ireturn, 1) := fx_d (q := (136, .ireturn, 1)) D_FP_unpackStrips 66 rfl
set_option maxRecDepth 100000 in
def L_FP_packingOf : List (Nat × Instr × Nat) := [(0, .iload_n 1, 1), (1, .lookupswitch 63 #[(3, 53), (4, 58), (5, 48), (32773, 43)], 43), (44, .aload_n 0, 1), (45, .getfield 47, 3), (48, .areturn, 1), (49, .aload_n 0, 1), (50, .getfield 53, 3), (53, .areturn, 1), (54, .aload_n 0, 1), (55, .getfield 61, 3), (58, .areturn, 1), (59, .aload_n 0, 1), (60, .getfield 64, 3), (63, .areturn, 1), (64, .aload_n 0, 1), (65, .getfield 40, 3), (68, .areturn, 1)]
set_option maxRecDepth 100000 in
theorem D_FP_packingOf : ∀ q ∈ L_FP_packingOf, decode prog_1_method_21_code q.1 = .ok q.2 := by decide +kernel
theorem d_FP_packingOf_0 : decode M_FP_packingOf.2.1 0 = .ok (.iload_n 1, 1) := fx_d (q := (0, .iload_n 1, 1)) D_FP_packingOf 0 rfl
theorem d_FP_packingOf_1 : decode M_FP_packingOf.2.1 1 = .ok (.lookupswitch 63 #[(3, 53), (4, 58), (5, 48), (32773, 43)], 43) := fx_d (q := (1, .lookupswitch 63 #[(3, 53), (4, 58), (5, 48), (32773, 43)], 43)) D_FP_packingOf 1 rfl
theorem d_FP_packingOf_44 : decode M_FP_packingOf.2.1 44 = .ok (.aload_n 0, 1) := fx_d (q := (44, .aload_n 0, 1)) D_FP_packingOf 2 rfl
theorem d_FP_packingOf_45 : decode M_FP_packingOf.2.1 45 = .ok (.getfield 47, 3) := fx_d (q := (45, .getfield 47, 3)) D_FP_packingOf 3 rfl
theorem d_FP_packingOf_48 : decode M_FP_packingOf.2.1 48 = .ok (.areturn, 1) := fx_d (q := (48, .areturn, 1)) D_FP_packingOf 4 rfl
theorem d_FP_packingOf_49 : decode M_FP_packingOf.2.1 49 = .ok (.aload_n 0, 1) := fx_d (q := (49, .aload_n 0, 1)) D_FP_packingOf 5 rfl
theorem d_FP_packingOf_50 : decode M_FP_packingOf.2.1 50 = .ok (.getfield 53, 3) := fx_d (q := (50, .getfield 53, 3)) D_FP_packingOf 6 rfl
theorem d_FP_packingOf_53 : decode M_FP_packingOf.2.1 53 = .ok (.areturn, 1) := fx_d (q := (53, .areturn, 1)) D_FP_packingOf 7 rfl
theorem d_FP_packingOf_54 : decode M_FP_packingOf.2.1 54 = .ok (.aload_n 0, 1) := fx_d (q := (54, .aload_n 0, 1)) D_FP_packingOf 8 rfl
theorem d_FP_packingOf_55 : decode M_FP_packingOf.2.1 55 = .ok (.getfield 61, 3) := fx_d (q := (55, .getfield 61, 3)) D_FP_packingOf 9 rfl
theorem d_FP_packingOf_58 : decode M_FP_packingOf.2.1 58 = .ok (.areturn, 1) := fx_d (q := (58, .areturn, 1)) D_FP_packingOf 10 rfl
theorem d_FP_packingOf_59 : decode M_FP_packingOf.2.1 59 = .ok (.aload_n 0, 1) := fx_d (q := (59, .aload_n 0, 1)) D_FP_packingOf 11 rfl
theorem d_FP_packingOf_60 : decode M_FP_packingOf.2.1 60 = .ok (.getfield 64, 3) := fx_d (q := (60, .getfield 64, 3)) D_FP_packingOf 12 rfl
theorem d_FP_packingOf_63 : decode M_FP_packingOf.2.1 63 = .ok (.areturn, 1) := fx_d (q := (63, .areturn, 1)) D_FP_packingOf 13 rfl
theorem d_FP_packingOf_64 : decode M_FP_packingOf.2.1 64 = .ok (.aload_n 0, 1) := fx_d (q := (64, .aload_n 0, 1)) D_FP_packingOf 14 rfl
theorem d_FP_packingOf_65 : decode M_FP_packingOf.2.1 65 = .ok (.getfield 40, 3) := fx_d (q := (65, .getfield 40, 3)) D_FP_packingOf 15 rfl
theorem d_FP_packingOf_68 : decode M_FP_packingOf.2.1 68 = .ok (.areturn, 1) := fx_d (q := (68, .areturn, 1)) D_FP_packingOf 16 rfl
set_option maxRecDepth 100000 in
def L_FP_know : List (Nat × Instr × Nat) := [(0, .aload_n 0, 1), (1, .iconst 1, 1), (2, .putfield 121, 3), (5, .aload_n 0, 1), (6, .iload_n 1, 1), (7, .putfield 216, 3), (10, .aload_n 0, 1), (11, .iload_n 2, 1), (12, .putfield 219, 3), (15, .aload_n 0, 1), (16, .iload_n 3, 1), (17, .putfield 222, 3), (20, .aload_n 0, 1), (21, .iload 4, 2), (23, .putfield 225, 3), (26, .return_, 1)]
set_option maxRecDepth 100000 in
theorem D_FP_know : ∀ q ∈ L_FP_know, decode prog_1_method_20_code q.1 = .ok q.2 := by decide +kernel
theorem d_FP_know_0 : decode M_FP_know.2.1 0 = .ok (.aload_n 0, 1) := fx_d (q := (0, .aload_n 0, 1)) D_FP_know 0 rfl
theorem d_FP_know_1 : decode M_FP_know.2.1 1 = .ok (.iconst 1, 1) := fx_d (q := (1, .iconst 1, 1)) D_FP_know 1 rfl
theorem d_FP_know_2 : decode M_FP_know.2.1 2 = .ok (.putfield 121, 3) := fx_d (q := (2, .putfield 121, 3)) D_FP_know 2 rfl
theorem d_FP_know_5 : decode M_FP_know.2.1 5 = .ok (.aload_n 0, 1) := fx_d (q := (5, .aload_n 0, 1)) D_FP_know 3 rfl
theorem d_FP_know_6 : decode M_FP_know.2.1 6 = .ok (.iload_n 1, 1) := fx_d (q := (6, .iload_n 1, 1)) D_FP_know 4 rfl
theorem d_FP_know_7 : decode M_FP_know.2.1 7 = .ok (.putfield 216, 3) := fx_d (q := (7, .putfield 216, 3)) D_FP_know 5 rfl
theorem d_FP_know_10 : decode M_FP_know.2.1 10 = .ok (.aload_n 0, 1) := fx_d (q := (10, .aload_n 0, 1)) D_FP_know 6 rfl
theorem d_FP_know_11 : decode M_FP_know.2.1 11 = .ok (.iload_n 2, 1) := fx_d (q := (11, .iload_n 2, 1)) D_FP_know 7 rfl
theorem d_FP_know_12 : decode M_FP_know.2.1 12 = .ok (.putfield 219, 3) := fx_d (q := (12, .putfield 219, 3)) D_FP_know 8 rfl
theorem d_FP_know_15 : decode M_FP_know.2.1 15 = .ok (.aload_n 0, 1) := fx_d (q := (15, .aload_n 0, 1)) D_FP_know 9 rfl
theorem d_FP_know_16 : decode M_FP_know.2.1 16 = .ok (.iload_n 3, 1) := fx_d (q := (16, .iload_n 3, 1)) D_FP_know 10 rfl
theorem d_FP_know_17 : decode M_FP_know.2.1 17 = .ok (.putfield 222, 3) := fx_d (q := (17, .putfield 222, 3)) D_FP_know 11 rfl
theorem d_FP_know_20 : decode M_FP_know.2.1 20 = .ok (.aload_n 0, 1) := fx_d (q := (20, .aload_n 0, 1)) D_FP_know 12 rfl
theorem d_FP_know_21 : decode M_FP_know.2.1 21 = .ok (.iload 4, 2) := fx_d (q := (21, .iload 4, 2)) D_FP_know 13 rfl
theorem d_FP_know_23 : decode M_FP_know.2.1 23 = .ok (.putfield 225, 3) := fx_d (q := (23, .putfield 225, 3)) D_FP_know 14 rfl
theorem d_FP_know_26 : decode M_FP_know.2.1 26 = .ok (.return_, 1) := fx_d (q := (26, .return_, 1)) D_FP_know 15 rfl
set_option maxRecDepth 100000 in
def L_FP_size : List (Nat × Instr × Nat) := [(0, .aload_n 0, 1), (1, .getfield 20, 3), (4, .getfield 160, 3), (7, .ireturn, 1)]
set_option maxRecDepth 100000 in
theorem D_FP_size : ∀ q ∈ L_FP_size, decode prog_1_method_8_code q.1 = .ok q.2 := by decide +kernel
theorem d_FP_size_0 : decode M_FP_size.2.1 0 = .ok (.aload_n 0, 1) := fx_d (q := (0, .aload_n 0, 1)) D_FP_size 0 rfl
theorem d_FP_size_1 : decode M_FP_size.2.1 1 = .ok (.getfield 20, 3) := fx_d (q := (1, .getfield 20, 3)) D_FP_size 1 rfl
theorem d_FP_size_4 : decode M_FP_size.2.1 4 = .ok (.getfield 160, 3) := fx_d (q := (4, .getfield 160, 3)) D_FP_size 2 rfl
theorem d_FP_size_7 : decode M_FP_size.2.1 7 = .ok (.ireturn, 1) := fx_d (q := (7, .ireturn, 1)) D_FP_size 3 rfl
set_option maxRecDepth 100000 in
def L_FP_at : List (Nat × Instr × Nat) := [(0, .aload_n 0, 1), (1, .getfield 20, 3), (4, .iload_n 1, 1), (5, .invokevirtual 188, 3), (8, .ifCond .eq 14, 3), (11, .aload_n 0, 1), (12, .getfield 20, 3), (15, .iload_n 1, 1), (16, .invokevirtual 191, 3), (19, .goto 5, 3), (22, .bipush (-9), 2), (24, .ireturn, 1)]
set_option maxRecDepth 100000 in
theorem D_FP_at : ∀ q ∈ L_FP_at, decode prog_1_method_9_code q.1 = .ok q.2 := by decide +kernel
theorem d_FP_at_0 : decode M_FP_at.2.1 0 = .ok (.aload_n 0, 1) := fx_d (q := (0, .aload_n 0, 1)) D_FP_at 0 rfl
theorem d_FP_at_1 : decode M_FP_at.2.1 1 = .ok (.getfield 20, 3) := fx_d (q := (1, .getfield 20, 3)) D_FP_at 1 rfl
theorem d_FP_at_4 : decode M_FP_at.2.1 4 = .ok (.iload_n 1, 1) := fx_d (q := (4, .iload_n 1, 1)) D_FP_at 2 rfl
theorem d_FP_at_5 : decode M_FP_at.2.1 5 = .ok (.invokevirtual 188, 3) := fx_d (q := (5, .invokevirtual 188, 3)) D_FP_at 3 rfl
theorem d_FP_at_8 : decode M_FP_at.2.1 8 = .ok (.ifCond .eq 14, 3) := fx_d (q := (8, .ifCond .eq 14, 3)) D_FP_at 4 rfl
theorem d_FP_at_11 : decode M_FP_at.2.1 11 = .ok (.aload_n 0, 1) := fx_d (q := (11, .aload_n 0, 1)) D_FP_at 5 rfl
theorem d_FP_at_12 : decode M_FP_at.2.1 12 = .ok (.getfield 20, 3) := fx_d (q := (12, .getfield 20, 3)) D_FP_at 6 rfl
theorem d_FP_at_15 : decode M_FP_at.2.1 15 = .ok (.iload_n 1, 1) := fx_d (q := (15, .iload_n 1, 1)) D_FP_at 7 rfl
theorem d_FP_at_16 : decode M_FP_at.2.1 16 = .ok (.invokevirtual 191, 3) := fx_d (q := (16, .invokevirtual 191, 3)) D_FP_at 8 rfl
theorem d_FP_at_19 : decode M_FP_at.2.1 19 = .ok (.goto 5, 3) := fx_d (q := (19, .goto 5, 3)) D_FP_at 9 rfl
theorem d_FP_at_22 : decode M_FP_at.2.1 22 = .ok (.bipush (-9), 2) := fx_d (q := (22, .bipush (-9), 2)) D_FP_at 10 rfl
theorem d_FP_at_24 : decode M_FP_at.2.1 24 = .ok (.ireturn, 1) := fx_d (q := (24, .ireturn, 1)) D_FP_at 11 rfl
set_option maxRecDepth 100000 in
def L_FP_add : List (Nat × Instr × Nat) := [(0, .iload_n 1, 1), (1, .invokestatic 194, 3), (4, .ifCond .eq 16, 3), (7, .aload_n 0, 1), (8, .getfield 20, 3), (11, .getfield 160, 3), (14, .sipush 2000, 3), (17, .if_icmp .lt 5, 3), (20, .iconst 0, 1), (21, .ireturn, 1), (22, .aload_n 0, 1), (23, .getfield 20, 3), (26, .iload_n 1, 1), (27, .invokevirtual 201, 3), (30, .iconst 1, 1), (31, .ireturn, 1)]
set_option maxRecDepth 100000 in
theorem D_FP_add : ∀ q ∈ L_FP_add, decode prog_1_method_11_code q.1 = .ok q.2 := by decide +kernel
theorem d_FP_add_0 : decode M_FP_add.2.1 0 = .ok (.iload_n 1, 1) := fx_d (q := (0, .iload_n 1, 1)) D_FP_add 0 rfl
theorem d_FP_add_1 : decode M_FP_add.2.1 1 = .ok (.invokestatic 194, 3) := fx_d (q := (1, .invokestatic 194, 3)) D_FP_add 1 rfl
theorem d_FP_add_4 : decode M_FP_add.2.1 4 = .ok (.ifCond .eq 16, 3) := fx_d (q := (4, .ifCond .eq 16, 3)) D_FP_add 2 rfl
theorem d_FP_add_7 : decode M_FP_add.2.1 7 = .ok (.aload_n 0, 1) := fx_d (q := (7, .aload_n 0, 1)) D_FP_add 3 rfl
theorem d_FP_add_8 : decode M_FP_add.2.1 8 = .ok (.getfield 20, 3) := fx_d (q := (8, .getfield 20, 3)) D_FP_add 4 rfl
theorem d_FP_add_11 : decode M_FP_add.2.1 11 = .ok (.getfield 160, 3) := fx_d (q := (11, .getfield 160, 3)) D_FP_add 5 rfl
theorem d_FP_add_14 : decode M_FP_add.2.1 14 = .ok (.sipush 2000, 3) := fx_d (q := (14, .sipush 2000, 3)) D_FP_add 6 rfl
theorem d_FP_add_17 : decode M_FP_add.2.1 17 = .ok (.if_icmp .lt 5, 3) := fx_d (q := (17, .if_icmp .lt 5, 3)) D_FP_add 7 rfl
theorem d_FP_add_20 : decode M_FP_add.2.1 20 = .ok (.iconst 0, 1) := fx_d (q := (20, .iconst 0, 1)) D_FP_add 8 rfl
theorem d_FP_add_21 : decode M_FP_add.2.1 21 = .ok (.ireturn, 1) := fx_d (q := (21, .ireturn, 1)) D_FP_add 9 rfl
theorem d_FP_add_22 : decode M_FP_add.2.1 22 = .ok (.aload_n 0, 1) := fx_d (q := (22, .aload_n 0, 1)) D_FP_add 10 rfl
theorem d_FP_add_23 : decode M_FP_add.2.1 23 = .ok (.getfield 20, 3) := fx_d (q := (23, .getfield 20, 3)) D_FP_add 11 rfl
theorem d_FP_add_26 : decode M_FP_add.2.1 26 = .ok (.iload_n 1, 1) := fx_d (q := (26, .iload_n 1, 1)) D_FP_add 12 rfl
theorem d_FP_add_27 : decode M_FP_add.2.1 27 = .ok (.invokevirtual 201, 3) := fx_d (q := (27, .invokevirtual 201, 3)) D_FP_add 13 rfl
theorem d_FP_add_30 : decode M_FP_add.2.1 30 = .ok (.iconst 1, 1) := fx_d (q := (30, .iconst 1, 1)) D_FP_add 14 rfl
theorem d_FP_add_31 : decode M_FP_add.2.1 31 = .ok (.ireturn, 1) := fx_d (q := (31, .ireturn, 1)) D_FP_add 15 rfl
set_option maxRecDepth 100000 in
def L_FP_isByte : List (Nat × Instr × Nat) := [(0, .iload_n 0, 1), (1, .ifCond .lt 14, 3), (4, .iload_n 0, 1), (5, .sipush 255, 3), (8, .if_icmp .gt 7, 3), (11, .iconst 1, 1), (12, .goto 4, 3), (15, .iconst 0, 1), (16, .ireturn, 1)]
set_option maxRecDepth 100000 in
theorem D_FP_isByte : ∀ q ∈ L_FP_isByte, decode prog_1_method_13_code q.1 = .ok q.2 := by decide +kernel
theorem d_FP_isByte_0 : decode M_FP_isByte.2.1 0 = .ok (.iload_n 0, 1) := fx_d (q := (0, .iload_n 0, 1)) D_FP_isByte 0 rfl
theorem d_FP_isByte_1 : decode M_FP_isByte.2.1 1 = .ok (.ifCond .lt 14, 3) := fx_d (q := (1, .ifCond .lt 14, 3)) D_FP_isByte 1 rfl
theorem d_FP_isByte_4 : decode M_FP_isByte.2.1 4 = .ok (.iload_n 0, 1) := fx_d (q := (4, .iload_n 0, 1)) D_FP_isByte 2 rfl
theorem d_FP_isByte_5 : decode M_FP_isByte.2.1 5 = .ok (.sipush 255, 3) := fx_d (q := (5, .sipush 255, 3)) D_FP_isByte 3 rfl
theorem d_FP_isByte_8 : decode M_FP_isByte.2.1 8 = .ok (.if_icmp .gt 7, 3) := fx_d (q := (8, .if_icmp .gt 7, 3)) D_FP_isByte 4 rfl
theorem d_FP_isByte_11 : decode M_FP_isByte.2.1 11 = .ok (.iconst 1, 1) := fx_d (q := (11, .iconst 1, 1)) D_FP_isByte 5 rfl
theorem d_FP_isByte_12 : decode M_FP_isByte.2.1 12 = .ok (.goto 4, 3) := fx_d (q := (12, .goto 4, 3)) D_FP_isByte 6 rfl
theorem d_FP_isByte_15 : decode M_FP_isByte.2.1 15 = .ok (.iconst 0, 1) := fx_d (q := (15, .iconst 0, 1)) D_FP_isByte 7 rfl
theorem d_FP_isByte_16 : decode M_FP_isByte.2.1 16 = .ok (.ireturn, 1) := fx_d (q := (16, .ireturn, 1)) D_FP_isByte 8 rfl
set_option maxRecDepth 100000 in
def L_FP_blank : List (Nat × Instr × Nat) := [(0, .iload_n 1, 1), (1, .iload_n 2, 1), (2, .i2l, 1), (3, .iload_n 3, 1), (4, .i2l, 1), (5, .invokestatic 84, 3), (8, .ifCond .ne 11, 3), (11, .new 88, 3), (14, .dup, 1), (15, .invokespecial 90, 3), (18, .athrow, 1), (19, .aload_n 0, 1), (20, .getfield 77, 3), (23, .iload_n 1, 1), (24, .iload_n 2, 1), (25, .iload_n 3, 1), (26, .invokevirtual 91, 3), (29, .return_, 1)]
set_option maxRecDepth 100000 in
theorem D_FP_blank : ∀ q ∈ L_FP_blank, decode prog_1_method_2_code q.1 = .ok q.2 := by decide +kernel
theorem d_FP_blank_0 : decode M_FP_blank.2.1 0 = .ok (.iload_n 1, 1) := fx_d (q := (0, .iload_n 1, 1)) D_FP_blank 0 rfl
theorem d_FP_blank_1 : decode M_FP_blank.2.1 1 = .ok (.iload_n 2, 1) := fx_d (q := (1, .iload_n 2, 1)) D_FP_blank 1 rfl
theorem d_FP_blank_2 : decode M_FP_blank.2.1 2 = .ok (.i2l, 1) := fx_d (q := (2, .i2l, 1)) D_FP_blank 2 rfl
theorem d_FP_blank_3 : decode M_FP_blank.2.1 3 = .ok (.iload_n 3, 1) := fx_d (q := (3, .iload_n 3, 1)) D_FP_blank 3 rfl
theorem d_FP_blank_4 : decode M_FP_blank.2.1 4 = .ok (.i2l, 1) := fx_d (q := (4, .i2l, 1)) D_FP_blank 4 rfl
theorem d_FP_blank_5 : decode M_FP_blank.2.1 5 = .ok (.invokestatic 84, 3) := fx_d (q := (5, .invokestatic 84, 3)) D_FP_blank 5 rfl
theorem d_FP_blank_8 : decode M_FP_blank.2.1 8 = .ok (.ifCond .ne 11, 3) := fx_d (q := (8, .ifCond .ne 11, 3)) D_FP_blank 6 rfl
theorem d_FP_blank_11 : decode M_FP_blank.2.1 11 = .ok (.new 88, 3) := fx_d (q := (11, .new 88, 3)) D_FP_blank 7 rfl
theorem d_FP_blank_14 : decode M_FP_blank.2.1 14 = .ok (.dup, 1) := fx_d (q := (14, .dup, 1)) D_FP_blank 8 rfl
theorem d_FP_blank_15 : decode M_FP_blank.2.1 15 = .ok (.invokespecial 90, 3) := fx_d (q := (15, .invokespecial 90, 3)) D_FP_blank 9 rfl
theorem d_FP_blank_18 : decode M_FP_blank.2.1 18 = .ok (.athrow, 1) := fx_d (q := (18, .athrow, 1)) D_FP_blank 10 rfl
theorem d_FP_blank_19 : decode M_FP_blank.2.1 19 = .ok (.aload_n 0, 1) := fx_d (q := (19, .aload_n 0, 1)) D_FP_blank 11 rfl
theorem d_FP_blank_20 : decode M_FP_blank.2.1 20 = .ok (.getfield 77, 3) := fx_d (q := (20, .getfield 77, 3)) D_FP_blank 12 rfl
theorem d_FP_blank_23 : decode M_FP_blank.2.1 23 = .ok (.iload_n 1, 1) := fx_d (q := (23, .iload_n 1, 1)) D_FP_blank 13 rfl
theorem d_FP_blank_24 : decode M_FP_blank.2.1 24 = .ok (.iload_n 2, 1) := fx_d (q := (24, .iload_n 2, 1)) D_FP_blank 14 rfl
theorem d_FP_blank_25 : decode M_FP_blank.2.1 25 = .ok (.iload_n 3, 1) := fx_d (q := (25, .iload_n 3, 1)) D_FP_blank 15 rfl
theorem d_FP_blank_26 : decode M_FP_blank.2.1 26 = .ok (.invokevirtual 91, 3) := fx_d (q := (26, .invokevirtual 91, 3)) D_FP_blank 16 rfl
theorem d_FP_blank_29 : decode M_FP_blank.2.1 29 = .ok (.return_, 1) := fx_d (q := (29, .return_, 1)) D_FP_blank 17 rfl
set_option maxRecDepth 100000 in
def L_FP_set : List (Nat × Instr × Nat) := [(0, .aload_n 0, 1), (1, .getfield 77, 3), (4, .iload_n 1, 1), (5, .iload_n 2, 1), (6, .invokevirtual 95, 3), (9, .ifCond .ne 11, 3), (12, .new 99, 3), (15, .dup, 1), (16, .invokespecial 101, 3), (19, .athrow, 1), (20, .iload_n 3, 1), (21, .ifCond .lt 24, 3), (24, .iload_n 3, 1), (25, .aload_n 0, 1), (26, .getfield 77, 3), (29, .getfield 102, 3), (32, .ifCond .eq 9, 3), (35, .sipush 255, 3), (38, .goto 4, 3), (41, .iconst 1, 1), (42, .if_icmp .le 11, 3), (45, .new 88, 3), (48, .dup, 1), (49, .invokespecial 90, 3), (52, .athrow, 1), (53, .aload_n 0, 1), (54, .getfield 77, 3), (57, .iload_n 1, 1), (58, .iload_n 2, 1), (59, .iload_n 3, 1), (60, .invokevirtual 106, 3), (63, .return_, 1)]
set_option maxRecDepth 100000 in
theorem D_FP_set : ∀ q ∈ L_FP_set, decode prog_1_method_3_code q.1 = .ok q.2 := by decide +kernel
theorem d_FP_set_0 : decode M_FP_set.2.1 0 = .ok (.aload_n 0, 1) := fx_d (q := (0, .aload_n 0, 1)) D_FP_set 0 rfl
theorem d_FP_set_1 : decode M_FP_set.2.1 1 = .ok (.getfield 77, 3) := fx_d (q := (1, .getfield 77, 3)) D_FP_set 1 rfl
theorem d_FP_set_4 : decode M_FP_set.2.1 4 = .ok (.iload_n 1, 1) := fx_d (q := (4, .iload_n 1, 1)) D_FP_set 2 rfl
theorem d_FP_set_5 : decode M_FP_set.2.1 5 = .ok (.iload_n 2, 1) := fx_d (q := (5, .iload_n 2, 1)) D_FP_set 3 rfl
theorem d_FP_set_6 : decode M_FP_set.2.1 6 = .ok (.invokevirtual 95, 3) := fx_d (q := (6, .invokevirtual 95, 3)) D_FP_set 4 rfl
theorem d_FP_set_9 : decode M_FP_set.2.1 9 = .ok (.ifCond .ne 11, 3) := fx_d (q := (9, .ifCond .ne 11, 3)) D_FP_set 5 rfl
theorem d_FP_set_12 : decode M_FP_set.2.1 12 = .ok (.new 99, 3) := fx_d (q := (12, .new 99, 3)) D_FP_set 6 rfl
theorem d_FP_set_15 : decode M_FP_set.2.1 15 = .ok (.dup, 1) := fx_d (q := (15, .dup, 1)) D_FP_set 7 rfl
theorem d_FP_set_16 : decode M_FP_set.2.1 16 = .ok (.invokespecial 101, 3) := fx_d (q := (16, .invokespecial 101, 3)) D_FP_set 8 rfl
theorem d_FP_set_19 : decode M_FP_set.2.1 19 = .ok (.athrow, 1) := fx_d (q := (19, .athrow, 1)) D_FP_set 9 rfl
theorem d_FP_set_20 : decode M_FP_set.2.1 20 = .ok (.iload_n 3, 1) := fx_d (q := (20, .iload_n 3, 1)) D_FP_set 10 rfl
theorem d_FP_set_21 : decode M_FP_set.2.1 21 = .ok (.ifCond .lt 24, 3) := fx_d (q := (21, .ifCond .lt 24, 3)) D_FP_set 11 rfl
theorem d_FP_set_24 : decode M_FP_set.2.1 24 = .ok (.iload_n 3, 1) := fx_d (q := (24, .iload_n 3, 1)) D_FP_set 12 rfl
theorem d_FP_set_25 : decode M_FP_set.2.1 25 = .ok (.aload_n 0, 1) := fx_d (q := (25, .aload_n 0, 1)) D_FP_set 13 rfl
theorem d_FP_set_26 : decode M_FP_set.2.1 26 = .ok (.getfield 77, 3) := fx_d (q := (26, .getfield 77, 3)) D_FP_set 14 rfl
theorem d_FP_set_29 : decode M_FP_set.2.1 29 = .ok (.getfield 102, 3) := fx_d (q := (29, .getfield 102, 3)) D_FP_set 15 rfl
theorem d_FP_set_32 : decode M_FP_set.2.1 32 = .ok (.ifCond .eq 9, 3) := fx_d (q := (32, .ifCond .eq 9, 3)) D_FP_set 16 rfl
theorem d_FP_set_35 : decode M_FP_set.2.1 35 = .ok (.sipush 255, 3) := fx_d (q := (35, .sipush 255, 3)) D_FP_set 17 rfl
theorem d_FP_set_38 : decode M_FP_set.2.1 38 = .ok (.goto 4, 3) := fx_d (q := (38, .goto 4, 3)) D_FP_set 18 rfl
theorem d_FP_set_41 : decode M_FP_set.2.1 41 = .ok (.iconst 1, 1) := fx_d (q := (41, .iconst 1, 1)) D_FP_set 19 rfl
theorem d_FP_set_42 : decode M_FP_set.2.1 42 = .ok (.if_icmp .le 11, 3) := fx_d (q := (42, .if_icmp .le 11, 3)) D_FP_set 20 rfl
theorem d_FP_set_45 : decode M_FP_set.2.1 45 = .ok (.new 88, 3) := fx_d (q := (45, .new 88, 3)) D_FP_set 21 rfl
theorem d_FP_set_48 : decode M_FP_set.2.1 48 = .ok (.dup, 1) := fx_d (q := (48, .dup, 1)) D_FP_set 22 rfl
theorem d_FP_set_49 : decode M_FP_set.2.1 49 = .ok (.invokespecial 90, 3) := fx_d (q := (49, .invokespecial 90, 3)) D_FP_set 23 rfl
theorem d_FP_set_52 : decode M_FP_set.2.1 52 = .ok (.athrow, 1) := fx_d (q := (52, .athrow, 1)) D_FP_set 24 rfl
theorem d_FP_set_53 : decode M_FP_set.2.1 53 = .ok (.aload_n 0, 1) := fx_d (q := (53, .aload_n 0, 1)) D_FP_set 25 rfl
theorem d_FP_set_54 : decode M_FP_set.2.1 54 = .ok (.getfield 77, 3) := fx_d (q := (54, .getfield 77, 3)) D_FP_set 26 rfl
theorem d_FP_set_57 : decode M_FP_set.2.1 57 = .ok (.iload_n 1, 1) := fx_d (q := (57, .iload_n 1, 1)) D_FP_set 27 rfl
theorem d_FP_set_58 : decode M_FP_set.2.1 58 = .ok (.iload_n 2, 1) := fx_d (q := (58, .iload_n 2, 1)) D_FP_set 28 rfl
theorem d_FP_set_59 : decode M_FP_set.2.1 59 = .ok (.iload_n 3, 1) := fx_d (q := (59, .iload_n 3, 1)) D_FP_set 29 rfl
theorem d_FP_set_60 : decode M_FP_set.2.1 60 = .ok (.invokevirtual 106, 3) := fx_d (q := (60, .invokevirtual 106, 3)) D_FP_set 30 rfl
theorem d_FP_set_63 : decode M_FP_set.2.1 63 = .ok (.return_, 1) := fx_d (q := (63, .return_, 1)) D_FP_set 31 rfl
set_option maxRecDepth 100000 in
def L_FP_write : List (Nat × Instr × Nat) := [(0, .iload_n 1, 1), (1, .i2l, 1), (2, .invokestatic 128, 3), (5, .ifCond .eq 19, 3), (8, .iload_n 3, 1), (9, .iconst 1, 1), (10, .if_icmp .lt 14, 3), (13, .iload_n 3, 1), (14, .aload_n 0, 1), (15, .getfield 77, 3), (18, .getfield 118, 3), (21, .if_icmp .le 11, 3), (24, .new 88, 3), (27, .dup, 1), (28, .invokespecial 90, 3), (31, .athrow, 1), (32, .aload_n 0, 1), (33, .getfield 77, 3), (36, .getfield 102, 3), (39, .ifCond .eq 19, 3), (42, .iload_n 1, 1), (43, .i2l, 1), (44, .invokestatic 132, 3), (47, .ifCond .eq 11, 3), (50, .new 135, 3), (53, .dup, 1), (54, .invokespecial 137, 3), (57, .athrow, 1), (58, .aload_n 0, 1), (59, .getfield 77, 3), (62, .getfield 118, 3), (65, .iload_n 3, 1), (66, .invokestatic 138, 3), (69, .istore 4, 2), (71, .aload_n 0, 1), (72, .getfield 20, 3), (75, .iload_n 2, 1), (76, .invokevirtual 141, 3), (79, .aload_n 0, 1), (80, .aload_n 0, 1), (81, .iload_n 1, 1), (82, .invokevirtual 145, 3), (85, .iload_n 3, 1), (86, .iload 4, 2), (88, .invokevirtual 149, 3), (91, .aload_n 0, 1), (92, .iload_n 1, 1), (93, .iload_n 3, 1), (94, .iload 4, 2), (96, .invokevirtual 153, 3), (99, .aload_n 0, 1), (100, .iload_n 1, 1), (101, .iload_n 2, 1), (102, .iload_n 3, 1), (103, .iload 4, 2), (105, .invokevirtual 156, 3), (108, .aload_n 0, 1), (109, .getfield 20, 3), (112, .getfield 160, 3), (115, .ireturn, 1)]
set_option maxRecDepth 100000 in
theorem D_FP_write : ∀ q ∈ L_FP_write, decode prog_1_method_6_code q.1 = .ok q.2 := by decide +kernel
theorem d_FP_write_0 : decode M_FP_write.2.1 0 = .ok (.iload_n 1, 1) := fx_d (q := (0, .iload_n 1, 1)) D_FP_write 0 rfl
theorem d_FP_write_1 : decode M_FP_write.2.1 1 = .ok (.i2l, 1) := fx_d (q := (1, .i2l, 1)) D_FP_write 1 rfl
theorem d_FP_write_2 : decode M_FP_write.2.1 2 = .ok (.invokestatic 128, 3) := fx_d (q := (2, .invokestatic 128, 3)) D_FP_write 2 rfl
theorem d_FP_write_5 : decode M_FP_write.2.1 5 = .ok (.ifCond .eq 19, 3) := fx_d (q := (5, .ifCond .eq 19, 3)) D_FP_write 3 rfl
theorem d_FP_write_8 : decode M_FP_write.2.1 8 = .ok (.iload_n 3, 1) := fx_d (q := (8, .iload_n 3, 1)) D_FP_write 4 rfl
theorem d_FP_write_9 : decode M_FP_write.2.1 9 = .ok (.iconst 1, 1) := fx_d (q := (9, .iconst 1, 1)) D_FP_write 5 rfl
theorem d_FP_write_10 : decode M_FP_write.2.1 10 = .ok (.if_icmp .lt 14, 3) := fx_d (q := (10, .if_icmp .lt 14, 3)) D_FP_write 6 rfl
theorem d_FP_write_13 : decode M_FP_write.2.1 13 = .ok (.iload_n 3, 1) := fx_d (q := (13, .iload_n 3, 1)) D_FP_write 7 rfl
theorem d_FP_write_14 : decode M_FP_write.2.1 14 = .ok (.aload_n 0, 1) := fx_d (q := (14, .aload_n 0, 1)) D_FP_write 8 rfl
theorem d_FP_write_15 : decode M_FP_write.2.1 15 = .ok (.getfield 77, 3) := fx_d (q := (15, .getfield 77, 3)) D_FP_write 9 rfl
theorem d_FP_write_18 : decode M_FP_write.2.1 18 = .ok (.getfield 118, 3) := fx_d (q := (18, .getfield 118, 3)) D_FP_write 10 rfl
theorem d_FP_write_21 : decode M_FP_write.2.1 21 = .ok (.if_icmp .le 11, 3) := fx_d (q := (21, .if_icmp .le 11, 3)) D_FP_write 11 rfl
theorem d_FP_write_24 : decode M_FP_write.2.1 24 = .ok (.new 88, 3) := fx_d (q := (24, .new 88, 3)) D_FP_write 12 rfl
theorem d_FP_write_27 : decode M_FP_write.2.1 27 = .ok (.dup, 1) := fx_d (q := (27, .dup, 1)) D_FP_write 13 rfl
theorem d_FP_write_28 : decode M_FP_write.2.1 28 = .ok (.invokespecial 90, 3) := fx_d (q := (28, .invokespecial 90, 3)) D_FP_write 14 rfl
theorem d_FP_write_31 : decode M_FP_write.2.1 31 = .ok (.athrow, 1) := fx_d (q := (31, .athrow, 1)) D_FP_write 15 rfl
theorem d_FP_write_32 : decode M_FP_write.2.1 32 = .ok (.aload_n 0, 1) := fx_d (q := (32, .aload_n 0, 1)) D_FP_write 16 rfl
theorem d_FP_write_33 : decode M_FP_write.2.1 33 = .ok (.getfield 77, 3) := fx_d (q := (33, .getfield 77, 3)) D_FP_write 17 rfl
theorem d_FP_write_36 : decode M_FP_write.2.1 36 = .ok (.getfield 102, 3) := fx_d (q := (36, .getfield 102, 3)) D_FP_write 18 rfl
theorem d_FP_write_39 : decode M_FP_write.2.1 39 = .ok (.ifCond .eq 19, 3) := fx_d (q := (39, .ifCond .eq 19, 3)) D_FP_write 19 rfl
theorem d_FP_write_42 : decode M_FP_write.2.1 42 = .ok (.iload_n 1, 1) := fx_d (q := (42, .iload_n 1, 1)) D_FP_write 20 rfl
theorem d_FP_write_43 : decode M_FP_write.2.1 43 = .ok (.i2l, 1) := fx_d (q := (43, .i2l, 1)) D_FP_write 21 rfl
theorem d_FP_write_44 : decode M_FP_write.2.1 44 = .ok (.invokestatic 132, 3) := fx_d (q := (44, .invokestatic 132, 3)) D_FP_write 22 rfl
theorem d_FP_write_47 : decode M_FP_write.2.1 47 = .ok (.ifCond .eq 11, 3) := fx_d (q := (47, .ifCond .eq 11, 3)) D_FP_write 23 rfl
theorem d_FP_write_50 : decode M_FP_write.2.1 50 = .ok (.new 135, 3) := fx_d (q := (50, .new 135, 3)) D_FP_write 24 rfl
theorem d_FP_write_53 : decode M_FP_write.2.1 53 = .ok (.dup, 1) := fx_d (q := (53, .dup, 1)) D_FP_write 25 rfl
theorem d_FP_write_54 : decode M_FP_write.2.1 54 = .ok (.invokespecial 137, 3) := fx_d (q := (54, .invokespecial 137, 3)) D_FP_write 26 rfl
theorem d_FP_write_57 : decode M_FP_write.2.1 57 = .ok (.athrow, 1) := fx_d (q := (57, .athrow, 1)) D_FP_write 27 rfl
theorem d_FP_write_58 : decode M_FP_write.2.1 58 = .ok (.aload_n 0, 1) := fx_d (q := (58, .aload_n 0, 1)) D_FP_write 28 rfl
theorem d_FP_write_59 : decode M_FP_write.2.1 59 = .ok (.getfield 77, 3) := fx_d (q := (59, .getfield 77, 3)) D_FP_write 29 rfl
theorem d_FP_write_62 : decode M_FP_write.2.1 62 = .ok (.getfield 118, 3) := fx_d (q := (62, .getfield 118, 3)) D_FP_write 30 rfl
theorem d_FP_write_65 : decode M_FP_write.2.1 65 = .ok (.iload_n 3, 1) := fx_d (q := (65, .iload_n 3, 1)) D_FP_write 31 rfl
theorem d_FP_write_66 : decode M_FP_write.2.1 66 = .ok (.invokestatic 138, 3) := fx_d (q := (66, .invokestatic 138, 3)) D_FP_write 32 rfl
theorem d_FP_write_69 : decode M_FP_write.2.1 69 = .ok (.istore 4, 2) := fx_d (q := (69, .istore 4, 2)) D_FP_write 33 rfl
theorem d_FP_write_71 : decode M_FP_write.2.1 71 = .ok (.aload_n 0, 1) := fx_d (q := (71, .aload_n 0, 1)) D_FP_write 34 rfl
theorem d_FP_write_72 : decode M_FP_write.2.1 72 = .ok (.getfield 20, 3) := fx_d (q := (72, .getfield 20, 3)) D_FP_write 35 rfl
theorem d_FP_write_75 : decode M_FP_write.2.1 75 = .ok (.iload_n 2, 1) := fx_d (q := (75, .iload_n 2, 1)) D_FP_write 36 rfl
theorem d_FP_write_76 : decode M_FP_write.2.1 76 = .ok (.invokevirtual 141, 3) := fx_d (q := (76, .invokevirtual 141, 3)) D_FP_write 37 rfl
theorem d_FP_write_79 : decode M_FP_write.2.1 79 = .ok (.aload_n 0, 1) := fx_d (q := (79, .aload_n 0, 1)) D_FP_write 38 rfl
theorem d_FP_write_80 : decode M_FP_write.2.1 80 = .ok (.aload_n 0, 1) := fx_d (q := (80, .aload_n 0, 1)) D_FP_write 39 rfl
theorem d_FP_write_81 : decode M_FP_write.2.1 81 = .ok (.iload_n 1, 1) := fx_d (q := (81, .iload_n 1, 1)) D_FP_write 40 rfl
theorem d_FP_write_82 : decode M_FP_write.2.1 82 = .ok (.invokevirtual 145, 3) := fx_d (q := (82, .invokevirtual 145, 3)) D_FP_write 41 rfl
theorem d_FP_write_85 : decode M_FP_write.2.1 85 = .ok (.iload_n 3, 1) := fx_d (q := (85, .iload_n 3, 1)) D_FP_write 42 rfl
theorem d_FP_write_86 : decode M_FP_write.2.1 86 = .ok (.iload 4, 2) := fx_d (q := (86, .iload 4, 2)) D_FP_write 43 rfl
theorem d_FP_write_88 : decode M_FP_write.2.1 88 = .ok (.invokevirtual 149, 3) := fx_d (q := (88, .invokevirtual 149, 3)) D_FP_write 44 rfl
theorem d_FP_write_91 : decode M_FP_write.2.1 91 = .ok (.aload_n 0, 1) := fx_d (q := (91, .aload_n 0, 1)) D_FP_write 45 rfl
theorem d_FP_write_92 : decode M_FP_write.2.1 92 = .ok (.iload_n 1, 1) := fx_d (q := (92, .iload_n 1, 1)) D_FP_write 46 rfl
theorem d_FP_write_93 : decode M_FP_write.2.1 93 = .ok (.iload_n 3, 1) := fx_d (q := (93, .iload_n 3, 1)) D_FP_write 47 rfl
theorem d_FP_write_94 : decode M_FP_write.2.1 94 = .ok (.iload 4, 2) := fx_d (q := (94, .iload 4, 2)) D_FP_write 48 rfl
theorem d_FP_write_96 : decode M_FP_write.2.1 96 = .ok (.invokevirtual 153, 3) := fx_d (q := (96, .invokevirtual 153, 3)) D_FP_write 49 rfl
theorem d_FP_write_99 : decode M_FP_write.2.1 99 = .ok (.aload_n 0, 1) := fx_d (q := (99, .aload_n 0, 1)) D_FP_write 50 rfl
theorem d_FP_write_100 : decode M_FP_write.2.1 100 = .ok (.iload_n 1, 1) := fx_d (q := (100, .iload_n 1, 1)) D_FP_write 51 rfl
theorem d_FP_write_101 : decode M_FP_write.2.1 101 = .ok (.iload_n 2, 1) := fx_d (q := (101, .iload_n 2, 1)) D_FP_write 52 rfl
theorem d_FP_write_102 : decode M_FP_write.2.1 102 = .ok (.iload_n 3, 1) := fx_d (q := (102, .iload_n 3, 1)) D_FP_write 53 rfl
theorem d_FP_write_103 : decode M_FP_write.2.1 103 = .ok (.iload 4, 2) := fx_d (q := (103, .iload 4, 2)) D_FP_write 54 rfl
theorem d_FP_write_105 : decode M_FP_write.2.1 105 = .ok (.invokevirtual 156, 3) := fx_d (q := (105, .invokevirtual 156, 3)) D_FP_write 55 rfl
theorem d_FP_write_108 : decode M_FP_write.2.1 108 = .ok (.aload_n 0, 1) := fx_d (q := (108, .aload_n 0, 1)) D_FP_write 56 rfl
theorem d_FP_write_109 : decode M_FP_write.2.1 109 = .ok (.getfield 20, 3) := fx_d (q := (109, .getfield 20, 3)) D_FP_write 57 rfl
theorem d_FP_write_112 : decode M_FP_write.2.1 112 = .ok (.getfield 160, 3) := fx_d (q := (112, .getfield 160, 3)) D_FP_write 58 rfl
theorem d_FP_write_115 : decode M_FP_write.2.1 115 = .ok (.ireturn, 1) := fx_d (q := (115, .ireturn, 1)) D_FP_write 59 rfl
set_option maxRecDepth 100000 in
def L_FP_packStrips : List (Nat × Instr × Nat) := [(0, .iconst 0, 1), (1, .istore 4, 2), (3, .iload 4, 2), (5, .iload_n 3, 1), (6, .if_icmp .ge 82, 3), (9, .iload 4, 2), (11, .bipush 24, 2), (13, .if_icmp .ge 75, 3), (16, .aload_n 0, 1), (17, .getfield 67, 3), (20, .iload 4, 2), (22, .aload_n 0, 1), (23, .getfield 20, 3), (26, .getfield 160, 3), (29, .iastore, 1), (30, .aload_n 1, 1), (31, .aload_n 0, 1), (32, .getfield 77, 3), (35, .iload 4, 2), (37, .iload_n 2, 1), (38, .imul, 1), (39, .aload_n 0, 1), (40, .getfield 77, 3), (43, .getfield 118, 3), (46, .iload 4, 2), (48, .iconst 1, 1), (49, .iadd, 1), (50, .iload_n 2, 1), (51, .imul, 1), (52, .invokestatic 228, 3), (55, .invokeinterface 233 4, 5), (60, .aload_n 0, 1), (61, .getfield 71, 3), (64, .iload 4, 2), (66, .aload_n 0, 1), (67, .getfield 20, 3), (70, .getfield 160, 3), (73, .aload_n 0, 1), (74, .getfield 67, 3), (77, .iload 4, 2), (79, .iaload, 1), (80, .isub, 1), (81, .iastore, 1), (82, .iinc 4 1, 3), (85, .goto (-82), 3), (88, .return_, 1)]
set_option maxRecDepth 100000 in
theorem D_FP_packStrips : ∀ q ∈ L_FP_packStrips, decode prog_1_method_22_code q.1 = .ok q.2 := by decide +kernel
theorem d_FP_packStrips_0 : decode M_FP_packStrips.2.1 0 = .ok (.iconst 0, 1) := fx_d (q := (0, .iconst 0, 1)) D_FP_packStrips 0 rfl
theorem d_FP_packStrips_1 : decode M_FP_packStrips.2.1 1 = .ok (.istore 4, 2) := fx_d (q := (1, .istore 4, 2)) D_FP_packStrips 1 rfl
theorem d_FP_packStrips_3 : decode M_FP_packStrips.2.1 3 = .ok (.iload 4, 2) := fx_d (q := (3, .iload 4, 2)) D_FP_packStrips 2 rfl
theorem d_FP_packStrips_5 : decode M_FP_packStrips.2.1 5 = .ok (.iload_n 3, 1) := fx_d (q := (5, .iload_n 3, 1)) D_FP_packStrips 3 rfl
theorem d_FP_packStrips_6 : decode M_FP_packStrips.2.1 6 = .ok (.if_icmp .ge 82, 3) := fx_d (q := (6, .if_icmp .ge 82, 3)) D_FP_packStrips 4 rfl
theorem d_FP_packStrips_9 : decode M_FP_packStrips.2.1 9 = .ok (.iload 4, 2) := fx_d (q := (9, .iload 4, 2)) D_FP_packStrips 5 rfl
theorem d_FP_packStrips_11 : decode M_FP_packStrips.2.1 11 = .ok (.bipush 24, 2) := fx_d (q := (11, .bipush 24, 2)) D_FP_packStrips 6 rfl
theorem d_FP_packStrips_13 : decode M_FP_packStrips.2.1 13 = .ok (.if_icmp .ge 75, 3) := fx_d (q := (13, .if_icmp .ge 75, 3)) D_FP_packStrips 7 rfl
theorem d_FP_packStrips_16 : decode M_FP_packStrips.2.1 16 = .ok (.aload_n 0, 1) := fx_d (q := (16, .aload_n 0, 1)) D_FP_packStrips 8 rfl
theorem d_FP_packStrips_17 : decode M_FP_packStrips.2.1 17 = .ok (.getfield 67, 3) := fx_d (q := (17, .getfield 67, 3)) D_FP_packStrips 9 rfl
theorem d_FP_packStrips_20 : decode M_FP_packStrips.2.1 20 = .ok (.iload 4, 2) := fx_d (q := (20, .iload 4, 2)) D_FP_packStrips 10 rfl
theorem d_FP_packStrips_22 : decode M_FP_packStrips.2.1 22 = .ok (.aload_n 0, 1) := fx_d (q := (22, .aload_n 0, 1)) D_FP_packStrips 11 rfl
theorem d_FP_packStrips_23 : decode M_FP_packStrips.2.1 23 = .ok (.getfield 20, 3) := fx_d (q := (23, .getfield 20, 3)) D_FP_packStrips 12 rfl
theorem d_FP_packStrips_26 : decode M_FP_packStrips.2.1 26 = .ok (.getfield 160, 3) := fx_d (q := (26, .getfield 160, 3)) D_FP_packStrips 13 rfl
theorem d_FP_packStrips_29 : decode M_FP_packStrips.2.1 29 = .ok (.iastore, 1) := fx_d (q := (29, .iastore, 1)) D_FP_packStrips 14 rfl
theorem d_FP_packStrips_30 : decode M_FP_packStrips.2.1 30 = .ok (.aload_n 1, 1) := fx_d (q := (30, .aload_n 1, 1)) D_FP_packStrips 15 rfl
theorem d_FP_packStrips_31 : decode M_FP_packStrips.2.1 31 = .ok (.aload_n 0, 1) := fx_d (q := (31, .aload_n 0, 1)) D_FP_packStrips 16 rfl
theorem d_FP_packStrips_32 : decode M_FP_packStrips.2.1 32 = .ok (.getfield 77, 3) := fx_d (q := (32, .getfield 77, 3)) D_FP_packStrips 17 rfl
theorem d_FP_packStrips_35 : decode M_FP_packStrips.2.1 35 = .ok (.iload 4, 2) := fx_d (q := (35, .iload 4, 2)) D_FP_packStrips 18 rfl
theorem d_FP_packStrips_37 : decode M_FP_packStrips.2.1 37 = .ok (.iload_n 2, 1) := fx_d (q := (37, .iload_n 2, 1)) D_FP_packStrips 19 rfl
theorem d_FP_packStrips_38 : decode M_FP_packStrips.2.1 38 = .ok (.imul, 1) := fx_d (q := (38, .imul, 1)) D_FP_packStrips 20 rfl
theorem d_FP_packStrips_39 : decode M_FP_packStrips.2.1 39 = .ok (.aload_n 0, 1) := fx_d (q := (39, .aload_n 0, 1)) D_FP_packStrips 21 rfl
theorem d_FP_packStrips_40 : decode M_FP_packStrips.2.1 40 = .ok (.getfield 77, 3) := fx_d (q := (40, .getfield 77, 3)) D_FP_packStrips 22 rfl
theorem d_FP_packStrips_43 : decode M_FP_packStrips.2.1 43 = .ok (.getfield 118, 3) := fx_d (q := (43, .getfield 118, 3)) D_FP_packStrips 23 rfl
theorem d_FP_packStrips_46 : decode M_FP_packStrips.2.1 46 = .ok (.iload 4, 2) := fx_d (q := (46, .iload 4, 2)) D_FP_packStrips 24 rfl
theorem d_FP_packStrips_48 : decode M_FP_packStrips.2.1 48 = .ok (.iconst 1, 1) := fx_d (q := (48, .iconst 1, 1)) D_FP_packStrips 25 rfl
theorem d_FP_packStrips_49 : decode M_FP_packStrips.2.1 49 = .ok (.iadd, 1) := fx_d (q := (49, .iadd, 1)) D_FP_packStrips 26 rfl
theorem d_FP_packStrips_50 : decode M_FP_packStrips.2.1 50 = .ok (.iload_n 2, 1) := fx_d (q := (50, .iload_n 2, 1)) D_FP_packStrips 27 rfl
theorem d_FP_packStrips_51 : decode M_FP_packStrips.2.1 51 = .ok (.imul, 1) := fx_d (q := (51, .imul, 1)) D_FP_packStrips 28 rfl
theorem d_FP_packStrips_52 : decode M_FP_packStrips.2.1 52 = .ok (.invokestatic 228, 3) := fx_d (q := (52, .invokestatic 228, 3)) D_FP_packStrips 29 rfl
theorem d_FP_packStrips_55 : decode M_FP_packStrips.2.1 55 = .ok (.invokeinterface 233 4, 5) := fx_d (q := (55, .invokeinterface 233 4, 5)) D_FP_packStrips 30 rfl
theorem d_FP_packStrips_60 : decode M_FP_packStrips.2.1 60 = .ok (.aload_n 0, 1) := fx_d (q := (60, .aload_n 0, 1)) D_FP_packStrips 31 rfl
theorem d_FP_packStrips_61 : decode M_FP_packStrips.2.1 61 = .ok (.getfield 71, 3) := fx_d (q := (61, .getfield 71, 3)) D_FP_packStrips 32 rfl
theorem d_FP_packStrips_64 : decode M_FP_packStrips.2.1 64 = .ok (.iload 4, 2) := fx_d (q := (64, .iload 4, 2)) D_FP_packStrips 33 rfl
theorem d_FP_packStrips_66 : decode M_FP_packStrips.2.1 66 = .ok (.aload_n 0, 1) := fx_d (q := (66, .aload_n 0, 1)) D_FP_packStrips 34 rfl
theorem d_FP_packStrips_67 : decode M_FP_packStrips.2.1 67 = .ok (.getfield 20, 3) := fx_d (q := (67, .getfield 20, 3)) D_FP_packStrips 35 rfl
theorem d_FP_packStrips_70 : decode M_FP_packStrips.2.1 70 = .ok (.getfield 160, 3) := fx_d (q := (70, .getfield 160, 3)) D_FP_packStrips 36 rfl
theorem d_FP_packStrips_73 : decode M_FP_packStrips.2.1 73 = .ok (.aload_n 0, 1) := fx_d (q := (73, .aload_n 0, 1)) D_FP_packStrips 37 rfl
theorem d_FP_packStrips_74 : decode M_FP_packStrips.2.1 74 = .ok (.getfield 67, 3) := fx_d (q := (74, .getfield 67, 3)) D_FP_packStrips 38 rfl
theorem d_FP_packStrips_77 : decode M_FP_packStrips.2.1 77 = .ok (.iload 4, 2) := fx_d (q := (77, .iload 4, 2)) D_FP_packStrips 39 rfl
theorem d_FP_packStrips_79 : decode M_FP_packStrips.2.1 79 = .ok (.iaload, 1) := fx_d (q := (79, .iaload, 1)) D_FP_packStrips 40 rfl
theorem d_FP_packStrips_80 : decode M_FP_packStrips.2.1 80 = .ok (.isub, 1) := fx_d (q := (80, .isub, 1)) D_FP_packStrips 41 rfl
theorem d_FP_packStrips_81 : decode M_FP_packStrips.2.1 81 = .ok (.iastore, 1) := fx_d (q := (81, .iastore, 1)) D_FP_packStrips 42 rfl
theorem d_FP_packStrips_82 : decode M_FP_packStrips.2.1 82 = .ok (.iinc 4 1, 3) := fx_d (q := (82, .iinc 4 1, 3)) D_FP_packStrips 43 rfl
theorem d_FP_packStrips_85 : decode M_FP_packStrips.2.1 85 = .ok (.goto (-82), 3) := fx_d (q := (85, .goto (-82), 3)) D_FP_packStrips 44 rfl
theorem d_FP_packStrips_88 : decode M_FP_packStrips.2.1 88 = .ok (.return_, 1) := fx_d (q := (88, .return_, 1)) D_FP_packStrips 45 rfl
set_option maxRecDepth 100000 in
def L_FP_writeTags : List (Nat × Instr × Nat) := [(0, .iload_n 3, 1), (1, .iconst 1, 1), (2, .if_icmp .ne 12, 3), (5, .aload_n 0, 1), (6, .getfield 67, 3), (9, .iconst 0, 1), (10, .iaload, 1), (11, .goto 12, 3), (14, .aload_n 0, 1), (15, .aload_n 0, 1), (16, .getfield 67, 3), (19, .iload_n 3, 1), (20, .invokevirtual 253, 3), (23, .istore 4, 2), (25, .iload_n 3, 1), (26, .iconst 1, 1), (27, .if_icmp .ne 12, 3), (30, .aload_n 0, 1), (31, .getfield 71, 3), (34, .iconst 0, 1), (35, .iaload, 1), (36, .goto 12, 3), (39, .aload_n 0, 1), (40, .aload_n 0, 1), (41, .getfield 71, 3), (44, .iload_n 3, 1), (45, .invokevirtual 253, 3), (48, .istore 5, 2), (50, .aload_n 0, 1), (51, .getfield 20, 3), (54, .getfield 160, 3), (57, .iconst 2, 1), (58, .irem, 1), (59, .iconst 1, 1), (60, .if_icmp .ne 11, 3), (63, .aload_n 0, 1), (64, .getfield 20, 3), (67, .iconst 0, 1), (68, .invokevirtual 201, 3), (71, .aload_n 0, 1), (72, .getfield 20, 3), (75, .iconst 4, 1), (76, .iconst 4, 1), (77, .aload_n 0, 1), (78, .getfield 20, 3), (81, .getfield 160, 3), (84, .invokevirtual 257, 3), (87, .iload_n 1, 1), (88, .iconst 3, 1), (89, .if_icmp .ne 7, 3), (92, .iconst 1, 1), (93, .goto 4, 3), (96, .iconst 0, 1), (97, .istore 6, 2), (99, .aload_n 0, 1), (100, .getfield 20, 3), (103, .iconst 2, 1), (104, .iload 6, 2), (106, .ifCond .eq 10, 3), (109, .getstatic 260, 3), (112, .arraylength, 1), (113, .goto 9, 3), (116, .getstatic 260, 3), (119, .arraylength, 1), (120, .iconst 1, 1), (121, .isub, 1), (122, .invokevirtual 263, 3), (125, .aload_n 0, 1), (126, .sipush 256, 3), (129, .aload_n 0, 1), (130, .getfield 77, 3), (133, .getfield 114, 3), (136, .invokevirtual 266, 3), (139, .aload_n 0, 1), (140, .sipush 257, 3), (143, .aload_n 0, 1), (144, .getfield 77, 3), (147, .getfield 118, 3), (150, .invokevirtual 266, 3), (153, .aload_n 0, 1), (154, .sipush 258, 3), (157, .aload_n 0, 1), (158, .getfield 77, 3), (161, .getfield 102, 3), (164, .ifCond .eq 8, 3), (167, .bipush 8, 2), (169, .goto 4, 3), (172, .iconst 1, 1), (173, .invokevirtual 266, 3), (176, .aload_n 0, 1), (177, .sipush 259, 3), (180, .iload_n 1, 1), (181, .invokevirtual 266, 3), (184, .aload_n 0, 1), (185, .sipush 262, 3), (188, .aload_n 0, 1), (189, .getfield 77, 3), (192, .getfield 102, 3), (195, .ifCond .eq 7, 3), (198, .iconst 1, 1), (199, .goto 4, 3), (202, .iconst 0, 1), (203, .invokevirtual 266, 3), (206, .aload_n 0, 1), (207, .sipush 273, 3), (210, .iload_n 3, 1), (211, .iload 4, 2), (213, .invokevirtual 269, 3), (216, .aload_n 0, 1), (217, .sipush 278, 3), (220, .iload_n 2, 1), (221, .invokevirtual 266, 3), (224, .aload_n 0, 1), (225, .sipush 279, 3), (228, .iload_n 3, 1), (229, .iload 5, 2), (231, .invokevirtual 269, 3), (234, .iload 6, 2), (236, .ifCond .eq 12, 3), (239, .aload_n 0, 1), (240, .sipush 292, 3), (243, .iconst 1, 1), (244, .iconst 1, 1), (245, .invokevirtual 269, 3), (248, .aload_n 0, 1), (249, .getfield 20, 3), (252, .iconst 4, 1), (253, .iconst 0, 1), (254, .invokevirtual 263, 3), (257, .return_, 1)]
set_option maxRecDepth 100000 in
theorem D_FP_writeTags : ∀ q ∈ L_FP_writeTags, decode prog_1_method_24_code q.1 = .ok q.2 := by decide +kernel
theorem d_FP_writeTags_0 : decode M_FP_writeTags.2.1 0 = .ok (.iload_n 3, 1) := fx_d (q := (0, .iload_n 3, 1)) D_FP_writeTags 0 rfl
theorem d_FP_writeTags_1 : decode M_FP_writeTags.2.1 1 = .ok (.iconst 1, 1) := fx_d (q := (1, .iconst 1, 1)) D_FP_writeTags 1 rfl
theorem d_FP_writeTags_2 : decode M_FP_writeTags.2.1 2 = .ok (.if_icmp .ne 12, 3) := fx_d (q := (2, .if_icmp .ne 12, 3)) D_FP_writeTags 2 rfl
theorem d_FP_writeTags_5 : decode M_FP_writeTags.2.1 5 = .ok (.aload_n 0, 1) := fx_d (q := (5, .aload_n 0, 1)) D_FP_writeTags 3 rfl
theorem d_FP_writeTags_6 : decode M_FP_writeTags.2.1 6 = .ok (.getfield 67, 3) := fx_d (q := (6, .getfield 67, 3)) D_FP_writeTags 4 rfl
theorem d_FP_writeTags_9 : decode M_FP_writeTags.2.1 9 = .ok (.iconst 0, 1) := fx_d (q := (9, .iconst 0, 1)) D_FP_writeTags 5 rfl
theorem d_FP_writeTags_10 : decode M_FP_writeTags.2.1 10 = .ok (.iaload, 1) := fx_d (q := (10, .iaload, 1)) D_FP_writeTags 6 rfl
theorem d_FP_writeTags_11 : decode M_FP_writeTags.2.1 11 = .ok (.goto 12, 3) := fx_d (q := (11, .goto 12, 3)) D_FP_writeTags 7 rfl
theorem d_FP_writeTags_14 : decode M_FP_writeTags.2.1 14 = .ok (.aload_n 0, 1) := fx_d (q := (14, .aload_n 0, 1)) D_FP_writeTags 8 rfl
theorem d_FP_writeTags_15 : decode M_FP_writeTags.2.1 15 = .ok (.aload_n 0, 1) := fx_d (q := (15, .aload_n 0, 1)) D_FP_writeTags 9 rfl
theorem d_FP_writeTags_16 : decode M_FP_writeTags.2.1 16 = .ok (.getfield 67, 3) := fx_d (q := (16, .getfield 67, 3)) D_FP_writeTags 10 rfl
theorem d_FP_writeTags_19 : decode M_FP_writeTags.2.1 19 = .ok (.iload_n 3, 1) := fx_d (q := (19, .iload_n 3, 1)) D_FP_writeTags 11 rfl
theorem d_FP_writeTags_20 : decode M_FP_writeTags.2.1 20 = .ok (.invokevirtual 253, 3) := fx_d (q := (20, .invokevirtual 253, 3)) D_FP_writeTags 12 rfl
theorem d_FP_writeTags_23 : decode M_FP_writeTags.2.1 23 = .ok (.istore 4, 2) := fx_d (q := (23, .istore 4, 2)) D_FP_writeTags 13 rfl
theorem d_FP_writeTags_25 : decode M_FP_writeTags.2.1 25 = .ok (.iload_n 3, 1) := fx_d (q := (25, .iload_n 3, 1)) D_FP_writeTags 14 rfl
theorem d_FP_writeTags_26 : decode M_FP_writeTags.2.1 26 = .ok (.iconst 1, 1) := fx_d (q := (26, .iconst 1, 1)) D_FP_writeTags 15 rfl
theorem d_FP_writeTags_27 : decode M_FP_writeTags.2.1 27 = .ok (.if_icmp .ne 12, 3) := fx_d (q := (27, .if_icmp .ne 12, 3)) D_FP_writeTags 16 rfl
theorem d_FP_writeTags_30 : decode M_FP_writeTags.2.1 30 = .ok (.aload_n 0, 1) := fx_d (q := (30, .aload_n 0, 1)) D_FP_writeTags 17 rfl
theorem d_FP_writeTags_31 : decode M_FP_writeTags.2.1 31 = .ok (.getfield 71, 3) := fx_d (q := (31, .getfield 71, 3)) D_FP_writeTags 18 rfl
theorem d_FP_writeTags_34 : decode M_FP_writeTags.2.1 34 = .ok (.iconst 0, 1) := fx_d (q := (34, .iconst 0, 1)) D_FP_writeTags 19 rfl
theorem d_FP_writeTags_35 : decode M_FP_writeTags.2.1 35 = .ok (.iaload, 1) := fx_d (q := (35, .iaload, 1)) D_FP_writeTags 20 rfl
theorem d_FP_writeTags_36 : decode M_FP_writeTags.2.1 36 = .ok (.goto 12, 3) := fx_d (q := (36, .goto 12, 3)) D_FP_writeTags 21 rfl
theorem d_FP_writeTags_39 : decode M_FP_writeTags.2.1 39 = .ok (.aload_n 0, 1) := fx_d (q := (39, .aload_n 0, 1)) D_FP_writeTags 22 rfl
theorem d_FP_writeTags_40 : decode M_FP_writeTags.2.1 40 = .ok (.aload_n 0, 1) := fx_d (q := (40, .aload_n 0, 1)) D_FP_writeTags 23 rfl
theorem d_FP_writeTags_41 : decode M_FP_writeTags.2.1 41 = .ok (.getfield 71, 3) := fx_d (q := (41, .getfield 71, 3)) D_FP_writeTags 24 rfl
theorem d_FP_writeTags_44 : decode M_FP_writeTags.2.1 44 = .ok (.iload_n 3, 1) := fx_d (q := (44, .iload_n 3, 1)) D_FP_writeTags 25 rfl
theorem d_FP_writeTags_45 : decode M_FP_writeTags.2.1 45 = .ok (.invokevirtual 253, 3) := fx_d (q := (45, .invokevirtual 253, 3)) D_FP_writeTags 26 rfl
theorem d_FP_writeTags_48 : decode M_FP_writeTags.2.1 48 = .ok (.istore 5, 2) := fx_d (q := (48, .istore 5, 2)) D_FP_writeTags 27 rfl
theorem d_FP_writeTags_50 : decode M_FP_writeTags.2.1 50 = .ok (.aload_n 0, 1) := fx_d (q := (50, .aload_n 0, 1)) D_FP_writeTags 28 rfl
theorem d_FP_writeTags_51 : decode M_FP_writeTags.2.1 51 = .ok (.getfield 20, 3) := fx_d (q := (51, .getfield 20, 3)) D_FP_writeTags 29 rfl
theorem d_FP_writeTags_54 : decode M_FP_writeTags.2.1 54 = .ok (.getfield 160, 3) := fx_d (q := (54, .getfield 160, 3)) D_FP_writeTags 30 rfl
theorem d_FP_writeTags_57 : decode M_FP_writeTags.2.1 57 = .ok (.iconst 2, 1) := fx_d (q := (57, .iconst 2, 1)) D_FP_writeTags 31 rfl
theorem d_FP_writeTags_58 : decode M_FP_writeTags.2.1 58 = .ok (.irem, 1) := fx_d (q := (58, .irem, 1)) D_FP_writeTags 32 rfl
theorem d_FP_writeTags_59 : decode M_FP_writeTags.2.1 59 = .ok (.iconst 1, 1) := fx_d (q := (59, .iconst 1, 1)) D_FP_writeTags 33 rfl
theorem d_FP_writeTags_60 : decode M_FP_writeTags.2.1 60 = .ok (.if_icmp .ne 11, 3) := fx_d (q := (60, .if_icmp .ne 11, 3)) D_FP_writeTags 34 rfl
theorem d_FP_writeTags_63 : decode M_FP_writeTags.2.1 63 = .ok (.aload_n 0, 1) := fx_d (q := (63, .aload_n 0, 1)) D_FP_writeTags 35 rfl
theorem d_FP_writeTags_64 : decode M_FP_writeTags.2.1 64 = .ok (.getfield 20, 3) := fx_d (q := (64, .getfield 20, 3)) D_FP_writeTags 36 rfl
theorem d_FP_writeTags_67 : decode M_FP_writeTags.2.1 67 = .ok (.iconst 0, 1) := fx_d (q := (67, .iconst 0, 1)) D_FP_writeTags 37 rfl
theorem d_FP_writeTags_68 : decode M_FP_writeTags.2.1 68 = .ok (.invokevirtual 201, 3) := fx_d (q := (68, .invokevirtual 201, 3)) D_FP_writeTags 38 rfl
theorem d_FP_writeTags_71 : decode M_FP_writeTags.2.1 71 = .ok (.aload_n 0, 1) := fx_d (q := (71, .aload_n 0, 1)) D_FP_writeTags 39 rfl
theorem d_FP_writeTags_72 : decode M_FP_writeTags.2.1 72 = .ok (.getfield 20, 3) := fx_d (q := (72, .getfield 20, 3)) D_FP_writeTags 40 rfl
theorem d_FP_writeTags_75 : decode M_FP_writeTags.2.1 75 = .ok (.iconst 4, 1) := fx_d (q := (75, .iconst 4, 1)) D_FP_writeTags 41 rfl
theorem d_FP_writeTags_76 : decode M_FP_writeTags.2.1 76 = .ok (.iconst 4, 1) := fx_d (q := (76, .iconst 4, 1)) D_FP_writeTags 42 rfl
theorem d_FP_writeTags_77 : decode M_FP_writeTags.2.1 77 = .ok (.aload_n 0, 1) := fx_d (q := (77, .aload_n 0, 1)) D_FP_writeTags 43 rfl
theorem d_FP_writeTags_78 : decode M_FP_writeTags.2.1 78 = .ok (.getfield 20, 3) := fx_d (q := (78, .getfield 20, 3)) D_FP_writeTags 44 rfl
theorem d_FP_writeTags_81 : decode M_FP_writeTags.2.1 81 = .ok (.getfield 160, 3) := fx_d (q := (81, .getfield 160, 3)) D_FP_writeTags 45 rfl
theorem d_FP_writeTags_84 : decode M_FP_writeTags.2.1 84 = .ok (.invokevirtual 257, 3) := fx_d (q := (84, .invokevirtual 257, 3)) D_FP_writeTags 46 rfl
theorem d_FP_writeTags_87 : decode M_FP_writeTags.2.1 87 = .ok (.iload_n 1, 1) := fx_d (q := (87, .iload_n 1, 1)) D_FP_writeTags 47 rfl
theorem d_FP_writeTags_88 : decode M_FP_writeTags.2.1 88 = .ok (.iconst 3, 1) := fx_d (q := (88, .iconst 3, 1)) D_FP_writeTags 48 rfl
theorem d_FP_writeTags_89 : decode M_FP_writeTags.2.1 89 = .ok (.if_icmp .ne 7, 3) := fx_d (q := (89, .if_icmp .ne 7, 3)) D_FP_writeTags 49 rfl
theorem d_FP_writeTags_92 : decode M_FP_writeTags.2.1 92 = .ok (.iconst 1, 1) := fx_d (q := (92, .iconst 1, 1)) D_FP_writeTags 50 rfl
theorem d_FP_writeTags_93 : decode M_FP_writeTags.2.1 93 = .ok (.goto 4, 3) := fx_d (q := (93, .goto 4, 3)) D_FP_writeTags 51 rfl
theorem d_FP_writeTags_96 : decode M_FP_writeTags.2.1 96 = .ok (.iconst 0, 1) := fx_d (q := (96, .iconst 0, 1)) D_FP_writeTags 52 rfl
theorem d_FP_writeTags_97 : decode M_FP_writeTags.2.1 97 = .ok (.istore 6, 2) := fx_d (q := (97, .istore 6, 2)) D_FP_writeTags 53 rfl
theorem d_FP_writeTags_99 : decode M_FP_writeTags.2.1 99 = .ok (.aload_n 0, 1) := fx_d (q := (99, .aload_n 0, 1)) D_FP_writeTags 54 rfl
theorem d_FP_writeTags_100 : decode M_FP_writeTags.2.1 100 = .ok (.getfield 20, 3) := fx_d (q := (100, .getfield 20, 3)) D_FP_writeTags 55 rfl
theorem d_FP_writeTags_103 : decode M_FP_writeTags.2.1 103 = .ok (.iconst 2, 1) := fx_d (q := (103, .iconst 2, 1)) D_FP_writeTags 56 rfl
theorem d_FP_writeTags_104 : decode M_FP_writeTags.2.1 104 = .ok (.iload 6, 2) := fx_d (q := (104, .iload 6, 2)) D_FP_writeTags 57 rfl
theorem d_FP_writeTags_106 : decode M_FP_writeTags.2.1 106 = .ok (.ifCond .eq 10, 3) := fx_d (q := (106, .ifCond .eq 10, 3)) D_FP_writeTags 58 rfl
theorem d_FP_writeTags_109 : decode M_FP_writeTags.2.1 109 = .ok (.getstatic 260, 3) := fx_d (q := (109, .getstatic 260, 3)) D_FP_writeTags 59 rfl
theorem d_FP_writeTags_112 : decode M_FP_writeTags.2.1 112 = .ok (.arraylength, 1) := fx_d (q := (112, .arraylength, 1)) D_FP_writeTags 60 rfl
theorem d_FP_writeTags_113 : decode M_FP_writeTags.2.1 113 = .ok (.goto 9, 3) := fx_d (q := (113, .goto 9, 3)) D_FP_writeTags 61 rfl
theorem d_FP_writeTags_116 : decode M_FP_writeTags.2.1 116 = .ok (.getstatic 260, 3) := fx_d (q := (116, .getstatic 260, 3)) D_FP_writeTags 62 rfl
theorem d_FP_writeTags_119 : decode M_FP_writeTags.2.1 119 = .ok (.arraylength, 1) := fx_d (q := (119, .arraylength, 1)) D_FP_writeTags 63 rfl
theorem d_FP_writeTags_120 : decode M_FP_writeTags.2.1 120 = .ok (.iconst 1, 1) := fx_d (q := (120, .iconst 1, 1)) D_FP_writeTags 64 rfl
theorem d_FP_writeTags_121 : decode M_FP_writeTags.2.1 121 = .ok (.isub, 1) := fx_d (q := (121, .isub, 1)) D_FP_writeTags 65 rfl
theorem d_FP_writeTags_122 : decode M_FP_writeTags.2.1 122 = .ok (.invokevirtual 263, 3) := fx_d (q := (122, .invokevirtual 263, 3)) D_FP_writeTags 66 rfl
theorem d_FP_writeTags_125 : decode M_FP_writeTags.2.1 125 = .ok (.aload_n 0, 1) := fx_d (q := (125, .aload_n 0, 1)) D_FP_writeTags 67 rfl
theorem d_FP_writeTags_126 : decode M_FP_writeTags.2.1 126 = .ok (.sipush 256, 3) := fx_d (q := (126, .sipush 256, 3)) D_FP_writeTags 68 rfl
theorem d_FP_writeTags_129 : decode M_FP_writeTags.2.1 129 = .ok (.aload_n 0, 1) := fx_d (q := (129, .aload_n 0, 1)) D_FP_writeTags 69 rfl
theorem d_FP_writeTags_130 : decode M_FP_writeTags.2.1 130 = .ok (.getfield 77, 3) := fx_d (q := (130, .getfield 77, 3)) D_FP_writeTags 70 rfl
theorem d_FP_writeTags_133 : decode M_FP_writeTags.2.1 133 = .ok (.getfield 114, 3) := fx_d (q := (133, .getfield 114, 3)) D_FP_writeTags 71 rfl
theorem d_FP_writeTags_136 : decode M_FP_writeTags.2.1 136 = .ok (.invokevirtual 266, 3) := fx_d (q := (136, .invokevirtual 266, 3)) D_FP_writeTags 72 rfl
theorem d_FP_writeTags_139 : decode M_FP_writeTags.2.1 139 = .ok (.aload_n 0, 1) := fx_d (q := (139, .aload_n 0, 1)) D_FP_writeTags 73 rfl
theorem d_FP_writeTags_140 : decode M_FP_writeTags.2.1 140 = .ok (.sipush 257, 3) := fx_d (q := (140, .sipush 257, 3)) D_FP_writeTags 74 rfl
theorem d_FP_writeTags_143 : decode M_FP_writeTags.2.1 143 = .ok (.aload_n 0, 1) := fx_d (q := (143, .aload_n 0, 1)) D_FP_writeTags 75 rfl
theorem d_FP_writeTags_144 : decode M_FP_writeTags.2.1 144 = .ok (.getfield 77, 3) := fx_d (q := (144, .getfield 77, 3)) D_FP_writeTags 76 rfl
theorem d_FP_writeTags_147 : decode M_FP_writeTags.2.1 147 = .ok (.getfield 118, 3) := fx_d (q := (147, .getfield 118, 3)) D_FP_writeTags 77 rfl
theorem d_FP_writeTags_150 : decode M_FP_writeTags.2.1 150 = .ok (.invokevirtual 266, 3) := fx_d (q := (150, .invokevirtual 266, 3)) D_FP_writeTags 78 rfl
theorem d_FP_writeTags_153 : decode M_FP_writeTags.2.1 153 = .ok (.aload_n 0, 1) := fx_d (q := (153, .aload_n 0, 1)) D_FP_writeTags 79 rfl
theorem d_FP_writeTags_154 : decode M_FP_writeTags.2.1 154 = .ok (.sipush 258, 3) := fx_d (q := (154, .sipush 258, 3)) D_FP_writeTags 80 rfl
theorem d_FP_writeTags_157 : decode M_FP_writeTags.2.1 157 = .ok (.aload_n 0, 1) := fx_d (q := (157, .aload_n 0, 1)) D_FP_writeTags 81 rfl
theorem d_FP_writeTags_158 : decode M_FP_writeTags.2.1 158 = .ok (.getfield 77, 3) := fx_d (q := (158, .getfield 77, 3)) D_FP_writeTags 82 rfl
theorem d_FP_writeTags_161 : decode M_FP_writeTags.2.1 161 = .ok (.getfield 102, 3) := fx_d (q := (161, .getfield 102, 3)) D_FP_writeTags 83 rfl
theorem d_FP_writeTags_164 : decode M_FP_writeTags.2.1 164 = .ok (.ifCond .eq 8, 3) := fx_d (q := (164, .ifCond .eq 8, 3)) D_FP_writeTags 84 rfl
theorem d_FP_writeTags_167 : decode M_FP_writeTags.2.1 167 = .ok (.bipush 8, 2) := fx_d (q := (167, .bipush 8, 2)) D_FP_writeTags 85 rfl
theorem d_FP_writeTags_169 : decode M_FP_writeTags.2.1 169 = .ok (.goto 4, 3) := fx_d (q := (169, .goto 4, 3)) D_FP_writeTags 86 rfl
theorem d_FP_writeTags_172 : decode M_FP_writeTags.2.1 172 = .ok (.iconst 1, 1) := fx_d (q := (172, .iconst 1, 1)) D_FP_writeTags 87 rfl
theorem d_FP_writeTags_173 : decode M_FP_writeTags.2.1 173 = .ok (.invokevirtual 266, 3) := fx_d (q := (173, .invokevirtual 266, 3)) D_FP_writeTags 88 rfl
theorem d_FP_writeTags_176 : decode M_FP_writeTags.2.1 176 = .ok (.aload_n 0, 1) := fx_d (q := (176, .aload_n 0, 1)) D_FP_writeTags 89 rfl
theorem d_FP_writeTags_177 : decode M_FP_writeTags.2.1 177 = .ok (.sipush 259, 3) := fx_d (q := (177, .sipush 259, 3)) D_FP_writeTags 90 rfl
theorem d_FP_writeTags_180 : decode M_FP_writeTags.2.1 180 = .ok (.iload_n 1, 1) := fx_d (q := (180, .iload_n 1, 1)) D_FP_writeTags 91 rfl
theorem d_FP_writeTags_181 : decode M_FP_writeTags.2.1 181 = .ok (.invokevirtual 266, 3) := fx_d (q := (181, .invokevirtual 266, 3)) D_FP_writeTags 92 rfl
theorem d_FP_writeTags_184 : decode M_FP_writeTags.2.1 184 = .ok (.aload_n 0, 1) := fx_d (q := (184, .aload_n 0, 1)) D_FP_writeTags 93 rfl
theorem d_FP_writeTags_185 : decode M_FP_writeTags.2.1 185 = .ok (.sipush 262, 3) := fx_d (q := (185, .sipush 262, 3)) D_FP_writeTags 94 rfl
theorem d_FP_writeTags_188 : decode M_FP_writeTags.2.1 188 = .ok (.aload_n 0, 1) := fx_d (q := (188, .aload_n 0, 1)) D_FP_writeTags 95 rfl
theorem d_FP_writeTags_189 : decode M_FP_writeTags.2.1 189 = .ok (.getfield 77, 3) := fx_d (q := (189, .getfield 77, 3)) D_FP_writeTags 96 rfl
theorem d_FP_writeTags_192 : decode M_FP_writeTags.2.1 192 = .ok (.getfield 102, 3) := fx_d (q := (192, .getfield 102, 3)) D_FP_writeTags 97 rfl
theorem d_FP_writeTags_195 : decode M_FP_writeTags.2.1 195 = .ok (.ifCond .eq 7, 3) := fx_d (q := (195, .ifCond .eq 7, 3)) D_FP_writeTags 98 rfl
theorem d_FP_writeTags_198 : decode M_FP_writeTags.2.1 198 = .ok (.iconst 1, 1) := fx_d (q := (198, .iconst 1, 1)) D_FP_writeTags 99 rfl
theorem d_FP_writeTags_199 : decode M_FP_writeTags.2.1 199 = .ok (.goto 4, 3) := fx_d (q := (199, .goto 4, 3)) D_FP_writeTags 100 rfl
theorem d_FP_writeTags_202 : decode M_FP_writeTags.2.1 202 = .ok (.iconst 0, 1) := fx_d (q := (202, .iconst 0, 1)) D_FP_writeTags 101 rfl
theorem d_FP_writeTags_203 : decode M_FP_writeTags.2.1 203 = .ok (.invokevirtual 266, 3) := fx_d (q := (203, .invokevirtual 266, 3)) D_FP_writeTags 102 rfl
theorem d_FP_writeTags_206 : decode M_FP_writeTags.2.1 206 = .ok (.aload_n 0, 1) := fx_d (q := (206, .aload_n 0, 1)) D_FP_writeTags 103 rfl
theorem d_FP_writeTags_207 : decode M_FP_writeTags.2.1 207 = .ok (.sipush 273, 3) := fx_d (q := (207, .sipush 273, 3)) D_FP_writeTags 104 rfl
theorem d_FP_writeTags_210 : decode M_FP_writeTags.2.1 210 = .ok (.iload_n 3, 1) := fx_d (q := (210, .iload_n 3, 1)) D_FP_writeTags 105 rfl
theorem d_FP_writeTags_211 : decode M_FP_writeTags.2.1 211 = .ok (.iload 4, 2) := fx_d (q := (211, .iload 4, 2)) D_FP_writeTags 106 rfl
theorem d_FP_writeTags_213 : decode M_FP_writeTags.2.1 213 = .ok (.invokevirtual 269, 3) := fx_d (q := (213, .invokevirtual 269, 3)) D_FP_writeTags 107 rfl
theorem d_FP_writeTags_216 : decode M_FP_writeTags.2.1 216 = .ok (.aload_n 0, 1) := fx_d (q := (216, .aload_n 0, 1)) D_FP_writeTags 108 rfl
theorem d_FP_writeTags_217 : decode M_FP_writeTags.2.1 217 = .ok (.sipush 278, 3) := fx_d (q := (217, .sipush 278, 3)) D_FP_writeTags 109 rfl
theorem d_FP_writeTags_220 : decode M_FP_writeTags.2.1 220 = .ok (.iload_n 2, 1) := fx_d (q := (220, .iload_n 2, 1)) D_FP_writeTags 110 rfl
theorem d_FP_writeTags_221 : decode M_FP_writeTags.2.1 221 = .ok (.invokevirtual 266, 3) := fx_d (q := (221, .invokevirtual 266, 3)) D_FP_writeTags 111 rfl
theorem d_FP_writeTags_224 : decode M_FP_writeTags.2.1 224 = .ok (.aload_n 0, 1) := fx_d (q := (224, .aload_n 0, 1)) D_FP_writeTags 112 rfl
theorem d_FP_writeTags_225 : decode M_FP_writeTags.2.1 225 = .ok (.sipush 279, 3) := fx_d (q := (225, .sipush 279, 3)) D_FP_writeTags 113 rfl
theorem d_FP_writeTags_228 : decode M_FP_writeTags.2.1 228 = .ok (.iload_n 3, 1) := fx_d (q := (228, .iload_n 3, 1)) D_FP_writeTags 114 rfl
theorem d_FP_writeTags_229 : decode M_FP_writeTags.2.1 229 = .ok (.iload 5, 2) := fx_d (q := (229, .iload 5, 2)) D_FP_writeTags 115 rfl
theorem d_FP_writeTags_231 : decode M_FP_writeTags.2.1 231 = .ok (.invokevirtual 269, 3) := fx_d (q := (231, .invokevirtual 269, 3)) D_FP_writeTags 116 rfl
theorem d_FP_writeTags_234 : decode M_FP_writeTags.2.1 234 = .ok (.iload 6, 2) := fx_d (q := (234, .iload 6, 2)) D_FP_writeTags 117 rfl
theorem d_FP_writeTags_236 : decode M_FP_writeTags.2.1 236 = .ok (.ifCond .eq 12, 3) := fx_d (q := (236, .ifCond .eq 12, 3)) D_FP_writeTags 118 rfl
theorem d_FP_writeTags_239 : decode M_FP_writeTags.2.1 239 = .ok (.aload_n 0, 1) := fx_d (q := (239, .aload_n 0, 1)) D_FP_writeTags 119 rfl
theorem d_FP_writeTags_240 : decode M_FP_writeTags.2.1 240 = .ok (.sipush 292, 3) := fx_d (q := (240, .sipush 292, 3)) D_FP_writeTags 120 rfl
theorem d_FP_writeTags_243 : decode M_FP_writeTags.2.1 243 = .ok (.iconst 1, 1) := fx_d (q := (243, .iconst 1, 1)) D_FP_writeTags 121 rfl
theorem d_FP_writeTags_244 : decode M_FP_writeTags.2.1 244 = .ok (.iconst 1, 1) := fx_d (q := (244, .iconst 1, 1)) D_FP_writeTags 122 rfl
theorem d_FP_writeTags_245 : decode M_FP_writeTags.2.1 245 = .ok (.invokevirtual 269, 3) := fx_d (q := (245, .invokevirtual 269, 3)) D_FP_writeTags 123 rfl
theorem d_FP_writeTags_248 : decode M_FP_writeTags.2.1 248 = .ok (.aload_n 0, 1) := fx_d (q := (248, .aload_n 0, 1)) D_FP_writeTags 124 rfl
theorem d_FP_writeTags_249 : decode M_FP_writeTags.2.1 249 = .ok (.getfield 20, 3) := fx_d (q := (249, .getfield 20, 3)) D_FP_writeTags 125 rfl
theorem d_FP_writeTags_252 : decode M_FP_writeTags.2.1 252 = .ok (.iconst 4, 1) := fx_d (q := (252, .iconst 4, 1)) D_FP_writeTags 126 rfl
theorem d_FP_writeTags_253 : decode M_FP_writeTags.2.1 253 = .ok (.iconst 0, 1) := fx_d (q := (253, .iconst 0, 1)) D_FP_writeTags 127 rfl
theorem d_FP_writeTags_254 : decode M_FP_writeTags.2.1 254 = .ok (.invokevirtual 263, 3) := fx_d (q := (254, .invokevirtual 263, 3)) D_FP_writeTags 128 rfl
theorem d_FP_writeTags_257 : decode M_FP_writeTags.2.1 257 = .ok (.return_, 1) := fx_d (q := (257, .return_, 1)) D_FP_writeTags 129 rfl
set_option maxRecDepth 100000 in
def L_FP_appendLongs : List (Nat × Instr × Nat) := [(0, .aload_n 0, 1), (1, .getfield 20, 3), (4, .getfield 160, 3), (7, .istore_n 3, 1), (8, .iconst 0, 1), (9, .istore 4, 2), (11, .iload 4, 2), (13, .iload_n 2, 1), (14, .if_icmp .ge 28, 3), (17, .iload 4, 2), (19, .aload_n 1, 1), (20, .arraylength, 1), (21, .if_icmp .ge 21, 3), (24, .aload_n 0, 1), (25, .getfield 20, 3), (28, .iconst 4, 1), (29, .aload_n 1, 1), (30, .iload 4, 2), (32, .iaload, 1), (33, .invokevirtual 263, 3), (36, .iinc 4 1, 3), (39, .goto (-28), 3), (42, .iload_n 3, 1), (43, .ireturn, 1)]
set_option maxRecDepth 100000 in
theorem D_FP_appendLongs : ∀ q ∈ L_FP_appendLongs, decode prog_1_method_25_code q.1 = .ok q.2 := by decide +kernel
theorem d_FP_appendLongs_0 : decode M_FP_appendLongs.2.1 0 = .ok (.aload_n 0, 1) := fx_d (q := (0, .aload_n 0, 1)) D_FP_appendLongs 0 rfl
theorem d_FP_appendLongs_1 : decode M_FP_appendLongs.2.1 1 = .ok (.getfield 20, 3) := fx_d (q := (1, .getfield 20, 3)) D_FP_appendLongs 1 rfl
theorem d_FP_appendLongs_4 : decode M_FP_appendLongs.2.1 4 = .ok (.getfield 160, 3) := fx_d (q := (4, .getfield 160, 3)) D_FP_appendLongs 2 rfl
theorem d_FP_appendLongs_7 : decode M_FP_appendLongs.2.1 7 = .ok (.istore_n 3, 1) := fx_d (q := (7, .istore_n 3, 1)) D_FP_appendLongs 3 rfl
theorem d_FP_appendLongs_8 : decode M_FP_appendLongs.2.1 8 = .ok (.iconst 0, 1) := fx_d (q := (8, .iconst 0, 1)) D_FP_appendLongs 4 rfl
theorem d_FP_appendLongs_9 : decode M_FP_appendLongs.2.1 9 = .ok (.istore 4, 2) := fx_d (q := (9, .istore 4, 2)) D_FP_appendLongs 5 rfl
theorem d_FP_appendLongs_11 : decode M_FP_appendLongs.2.1 11 = .ok (.iload 4, 2) := fx_d (q := (11, .iload 4, 2)) D_FP_appendLongs 6 rfl
theorem d_FP_appendLongs_13 : decode M_FP_appendLongs.2.1 13 = .ok (.iload_n 2, 1) := fx_d (q := (13, .iload_n 2, 1)) D_FP_appendLongs 7 rfl
theorem d_FP_appendLongs_14 : decode M_FP_appendLongs.2.1 14 = .ok (.if_icmp .ge 28, 3) := fx_d (q := (14, .if_icmp .ge 28, 3)) D_FP_appendLongs 8 rfl
theorem d_FP_appendLongs_17 : decode M_FP_appendLongs.2.1 17 = .ok (.iload 4, 2) := fx_d (q := (17, .iload 4, 2)) D_FP_appendLongs 9 rfl
theorem d_FP_appendLongs_19 : decode M_FP_appendLongs.2.1 19 = .ok (.aload_n 1, 1) := fx_d (q := (19, .aload_n 1, 1)) D_FP_appendLongs 10 rfl
theorem d_FP_appendLongs_20 : decode M_FP_appendLongs.2.1 20 = .ok (.arraylength, 1) := fx_d (q := (20, .arraylength, 1)) D_FP_appendLongs 11 rfl
theorem d_FP_appendLongs_21 : decode M_FP_appendLongs.2.1 21 = .ok (.if_icmp .ge 21, 3) := fx_d (q := (21, .if_icmp .ge 21, 3)) D_FP_appendLongs 12 rfl
theorem d_FP_appendLongs_24 : decode M_FP_appendLongs.2.1 24 = .ok (.aload_n 0, 1) := fx_d (q := (24, .aload_n 0, 1)) D_FP_appendLongs 13 rfl
theorem d_FP_appendLongs_25 : decode M_FP_appendLongs.2.1 25 = .ok (.getfield 20, 3) := fx_d (q := (25, .getfield 20, 3)) D_FP_appendLongs 14 rfl
theorem d_FP_appendLongs_28 : decode M_FP_appendLongs.2.1 28 = .ok (.iconst 4, 1) := fx_d (q := (28, .iconst 4, 1)) D_FP_appendLongs 15 rfl
theorem d_FP_appendLongs_29 : decode M_FP_appendLongs.2.1 29 = .ok (.aload_n 1, 1) := fx_d (q := (29, .aload_n 1, 1)) D_FP_appendLongs 16 rfl
theorem d_FP_appendLongs_30 : decode M_FP_appendLongs.2.1 30 = .ok (.iload 4, 2) := fx_d (q := (30, .iload 4, 2)) D_FP_appendLongs 17 rfl
theorem d_FP_appendLongs_32 : decode M_FP_appendLongs.2.1 32 = .ok (.iaload, 1) := fx_d (q := (32, .iaload, 1)) D_FP_appendLongs 18 rfl
theorem d_FP_appendLongs_33 : decode M_FP_appendLongs.2.1 33 = .ok (.invokevirtual 263, 3) := fx_d (q := (33, .invokevirtual 263, 3)) D_FP_appendLongs 19 rfl
theorem d_FP_appendLongs_36 : decode M_FP_appendLongs.2.1 36 = .ok (.iinc 4 1, 3) := fx_d (q := (36, .iinc 4 1, 3)) D_FP_appendLongs 20 rfl
theorem d_FP_appendLongs_39 : decode M_FP_appendLongs.2.1 39 = .ok (.goto (-28), 3) := fx_d (q := (39, .goto (-28), 3)) D_FP_appendLongs 21 rfl
theorem d_FP_appendLongs_42 : decode M_FP_appendLongs.2.1 42 = .ok (.iload_n 3, 1) := fx_d (q := (42, .iload_n 3, 1)) D_FP_appendLongs 22 rfl
theorem d_FP_appendLongs_43 : decode M_FP_appendLongs.2.1 43 = .ok (.ireturn, 1) := fx_d (q := (43, .ireturn, 1)) D_FP_appendLongs 23 rfl
set_option maxRecDepth 100000 in
def L_FP_appendShortTag : List (Nat × Instr × Nat) := [(0, .aload_n 0, 1), (1, .getfield 20, 3), (4, .iconst 2, 1), (5, .iload_n 1, 1), (6, .invokevirtual 263, 3), (9, .aload_n 0, 1), (10, .getfield 20, 3), (13, .iconst 2, 1), (14, .iconst 3, 1), (15, .invokevirtual 263, 3), (18, .aload_n 0, 1), (19, .getfield 20, 3), (22, .iconst 4, 1), (23, .iconst 1, 1), (24, .invokevirtual 263, 3), (27, .aload_n 0, 1), (28, .getfield 20, 3), (31, .iconst 2, 1), (32, .iload_n 2, 1), (33, .invokevirtual 263, 3), (36, .aload_n 0, 1), (37, .getfield 20, 3), (40, .iconst 2, 1), (41, .iconst 0, 1), (42, .invokevirtual 263, 3), (45, .return_, 1)]
set_option maxRecDepth 100000 in
theorem D_FP_appendShortTag : ∀ q ∈ L_FP_appendShortTag, decode prog_1_method_26_code q.1 = .ok q.2 := by decide +kernel
theorem d_FP_appendShortTag_0 : decode M_FP_appendShortTag.2.1 0 = .ok (.aload_n 0, 1) := fx_d (q := (0, .aload_n 0, 1)) D_FP_appendShortTag 0 rfl
theorem d_FP_appendShortTag_1 : decode M_FP_appendShortTag.2.1 1 = .ok (.getfield 20, 3) := fx_d (q := (1, .getfield 20, 3)) D_FP_appendShortTag 1 rfl
theorem d_FP_appendShortTag_4 : decode M_FP_appendShortTag.2.1 4 = .ok (.iconst 2, 1) := fx_d (q := (4, .iconst 2, 1)) D_FP_appendShortTag 2 rfl
theorem d_FP_appendShortTag_5 : decode M_FP_appendShortTag.2.1 5 = .ok (.iload_n 1, 1) := fx_d (q := (5, .iload_n 1, 1)) D_FP_appendShortTag 3 rfl
theorem d_FP_appendShortTag_6 : decode M_FP_appendShortTag.2.1 6 = .ok (.invokevirtual 263, 3) := fx_d (q := (6, .invokevirtual 263, 3)) D_FP_appendShortTag 4 rfl
theorem d_FP_appendShortTag_9 : decode M_FP_appendShortTag.2.1 9 = .ok (.aload_n 0, 1) := fx_d (q := (9, .aload_n 0, 1)) D_FP_appendShortTag 5 rfl
theorem d_FP_appendShortTag_10 : decode M_FP_appendShortTag.2.1 10 = .ok (.getfield 20, 3) := fx_d (q := (10, .getfield 20, 3)) D_FP_appendShortTag 6 rfl
theorem d_FP_appendShortTag_13 : decode M_FP_appendShortTag.2.1 13 = .ok (.iconst 2, 1) := fx_d (q := (13, .iconst 2, 1)) D_FP_appendShortTag 7 rfl
theorem d_FP_appendShortTag_14 : decode M_FP_appendShortTag.2.1 14 = .ok (.iconst 3, 1) := fx_d (q := (14, .iconst 3, 1)) D_FP_appendShortTag 8 rfl
theorem d_FP_appendShortTag_15 : decode M_FP_appendShortTag.2.1 15 = .ok (.invokevirtual 263, 3) := fx_d (q := (15, .invokevirtual 263, 3)) D_FP_appendShortTag 9 rfl
theorem d_FP_appendShortTag_18 : decode M_FP_appendShortTag.2.1 18 = .ok (.aload_n 0, 1) := fx_d (q := (18, .aload_n 0, 1)) D_FP_appendShortTag 10 rfl
theorem d_FP_appendShortTag_19 : decode M_FP_appendShortTag.2.1 19 = .ok (.getfield 20, 3) := fx_d (q := (19, .getfield 20, 3)) D_FP_appendShortTag 11 rfl
theorem d_FP_appendShortTag_22 : decode M_FP_appendShortTag.2.1 22 = .ok (.iconst 4, 1) := fx_d (q := (22, .iconst 4, 1)) D_FP_appendShortTag 12 rfl
theorem d_FP_appendShortTag_23 : decode M_FP_appendShortTag.2.1 23 = .ok (.iconst 1, 1) := fx_d (q := (23, .iconst 1, 1)) D_FP_appendShortTag 13 rfl
theorem d_FP_appendShortTag_24 : decode M_FP_appendShortTag.2.1 24 = .ok (.invokevirtual 263, 3) := fx_d (q := (24, .invokevirtual 263, 3)) D_FP_appendShortTag 14 rfl
theorem d_FP_appendShortTag_27 : decode M_FP_appendShortTag.2.1 27 = .ok (.aload_n 0, 1) := fx_d (q := (27, .aload_n 0, 1)) D_FP_appendShortTag 15 rfl
theorem d_FP_appendShortTag_28 : decode M_FP_appendShortTag.2.1 28 = .ok (.getfield 20, 3) := fx_d (q := (28, .getfield 20, 3)) D_FP_appendShortTag 16 rfl
theorem d_FP_appendShortTag_31 : decode M_FP_appendShortTag.2.1 31 = .ok (.iconst 2, 1) := fx_d (q := (31, .iconst 2, 1)) D_FP_appendShortTag 17 rfl
theorem d_FP_appendShortTag_32 : decode M_FP_appendShortTag.2.1 32 = .ok (.iload_n 2, 1) := fx_d (q := (32, .iload_n 2, 1)) D_FP_appendShortTag 18 rfl
theorem d_FP_appendShortTag_33 : decode M_FP_appendShortTag.2.1 33 = .ok (.invokevirtual 263, 3) := fx_d (q := (33, .invokevirtual 263, 3)) D_FP_appendShortTag 19 rfl
theorem d_FP_appendShortTag_36 : decode M_FP_appendShortTag.2.1 36 = .ok (.aload_n 0, 1) := fx_d (q := (36, .aload_n 0, 1)) D_FP_appendShortTag 20 rfl
theorem d_FP_appendShortTag_37 : decode M_FP_appendShortTag.2.1 37 = .ok (.getfield 20, 3) := fx_d (q := (37, .getfield 20, 3)) D_FP_appendShortTag 21 rfl
theorem d_FP_appendShortTag_40 : decode M_FP_appendShortTag.2.1 40 = .ok (.iconst 2, 1) := fx_d (q := (40, .iconst 2, 1)) D_FP_appendShortTag 22 rfl
theorem d_FP_appendShortTag_41 : decode M_FP_appendShortTag.2.1 41 = .ok (.iconst 0, 1) := fx_d (q := (41, .iconst 0, 1)) D_FP_appendShortTag 23 rfl
theorem d_FP_appendShortTag_42 : decode M_FP_appendShortTag.2.1 42 = .ok (.invokevirtual 263, 3) := fx_d (q := (42, .invokevirtual 263, 3)) D_FP_appendShortTag 24 rfl
theorem d_FP_appendShortTag_45 : decode M_FP_appendShortTag.2.1 45 = .ok (.return_, 1) := fx_d (q := (45, .return_, 1)) D_FP_appendShortTag 25 rfl
set_option maxRecDepth 100000 in
def L_FP_appendLongTag : List (Nat × Instr × Nat) := [(0, .aload_n 0, 1), (1, .getfield 20, 3), (4, .iconst 2, 1), (5, .iload_n 1, 1), (6, .invokevirtual 263, 3), (9, .aload_n 0, 1), (10, .getfield 20, 3), (13, .iconst 2, 1), (14, .iconst 4, 1), (15, .invokevirtual 263, 3), (18, .aload_n 0, 1), (19, .getfield 20, 3), (22, .iconst 4, 1), (23, .iload_n 2, 1), (24, .invokevirtual 263, 3), (27, .aload_n 0, 1), (28, .getfield 20, 3), (31, .iconst 4, 1), (32, .iload_n 3, 1), (33, .invokevirtual 263, 3), (36, .return_, 1)]
set_option maxRecDepth 100000 in
theorem D_FP_appendLongTag : ∀ q ∈ L_FP_appendLongTag, decode prog_1_method_27_code q.1 = .ok q.2 := by decide +kernel
theorem d_FP_appendLongTag_0 : decode M_FP_appendLongTag.2.1 0 = .ok (.aload_n 0, 1) := fx_d (q := (0, .aload_n 0, 1)) D_FP_appendLongTag 0 rfl
theorem d_FP_appendLongTag_1 : decode M_FP_appendLongTag.2.1 1 = .ok (.getfield 20, 3) := fx_d (q := (1, .getfield 20, 3)) D_FP_appendLongTag 1 rfl
theorem d_FP_appendLongTag_4 : decode M_FP_appendLongTag.2.1 4 = .ok (.iconst 2, 1) := fx_d (q := (4, .iconst 2, 1)) D_FP_appendLongTag 2 rfl
theorem d_FP_appendLongTag_5 : decode M_FP_appendLongTag.2.1 5 = .ok (.iload_n 1, 1) := fx_d (q := (5, .iload_n 1, 1)) D_FP_appendLongTag 3 rfl
theorem d_FP_appendLongTag_6 : decode M_FP_appendLongTag.2.1 6 = .ok (.invokevirtual 263, 3) := fx_d (q := (6, .invokevirtual 263, 3)) D_FP_appendLongTag 4 rfl
theorem d_FP_appendLongTag_9 : decode M_FP_appendLongTag.2.1 9 = .ok (.aload_n 0, 1) := fx_d (q := (9, .aload_n 0, 1)) D_FP_appendLongTag 5 rfl
theorem d_FP_appendLongTag_10 : decode M_FP_appendLongTag.2.1 10 = .ok (.getfield 20, 3) := fx_d (q := (10, .getfield 20, 3)) D_FP_appendLongTag 6 rfl
theorem d_FP_appendLongTag_13 : decode M_FP_appendLongTag.2.1 13 = .ok (.iconst 2, 1) := fx_d (q := (13, .iconst 2, 1)) D_FP_appendLongTag 7 rfl
theorem d_FP_appendLongTag_14 : decode M_FP_appendLongTag.2.1 14 = .ok (.iconst 4, 1) := fx_d (q := (14, .iconst 4, 1)) D_FP_appendLongTag 8 rfl
theorem d_FP_appendLongTag_15 : decode M_FP_appendLongTag.2.1 15 = .ok (.invokevirtual 263, 3) := fx_d (q := (15, .invokevirtual 263, 3)) D_FP_appendLongTag 9 rfl
theorem d_FP_appendLongTag_18 : decode M_FP_appendLongTag.2.1 18 = .ok (.aload_n 0, 1) := fx_d (q := (18, .aload_n 0, 1)) D_FP_appendLongTag 10 rfl
theorem d_FP_appendLongTag_19 : decode M_FP_appendLongTag.2.1 19 = .ok (.getfield 20, 3) := fx_d (q := (19, .getfield 20, 3)) D_FP_appendLongTag 11 rfl
theorem d_FP_appendLongTag_22 : decode M_FP_appendLongTag.2.1 22 = .ok (.iconst 4, 1) := fx_d (q := (22, .iconst 4, 1)) D_FP_appendLongTag 12 rfl
theorem d_FP_appendLongTag_23 : decode M_FP_appendLongTag.2.1 23 = .ok (.iload_n 2, 1) := fx_d (q := (23, .iload_n 2, 1)) D_FP_appendLongTag 13 rfl
theorem d_FP_appendLongTag_24 : decode M_FP_appendLongTag.2.1 24 = .ok (.invokevirtual 263, 3) := fx_d (q := (24, .invokevirtual 263, 3)) D_FP_appendLongTag 14 rfl
theorem d_FP_appendLongTag_27 : decode M_FP_appendLongTag.2.1 27 = .ok (.aload_n 0, 1) := fx_d (q := (27, .aload_n 0, 1)) D_FP_appendLongTag 15 rfl
theorem d_FP_appendLongTag_28 : decode M_FP_appendLongTag.2.1 28 = .ok (.getfield 20, 3) := fx_d (q := (28, .getfield 20, 3)) D_FP_appendLongTag 16 rfl
theorem d_FP_appendLongTag_31 : decode M_FP_appendLongTag.2.1 31 = .ok (.iconst 4, 1) := fx_d (q := (31, .iconst 4, 1)) D_FP_appendLongTag 17 rfl
theorem d_FP_appendLongTag_32 : decode M_FP_appendLongTag.2.1 32 = .ok (.iload_n 3, 1) := fx_d (q := (32, .iload_n 3, 1)) D_FP_appendLongTag 18 rfl
theorem d_FP_appendLongTag_33 : decode M_FP_appendLongTag.2.1 33 = .ok (.invokevirtual 263, 3) := fx_d (q := (33, .invokevirtual 263, 3)) D_FP_appendLongTag 19 rfl
theorem d_FP_appendLongTag_36 : decode M_FP_appendLongTag.2.1 36 = .ok (.return_, 1) := fx_d (q := (36, .return_, 1)) D_FP_appendLongTag 20 rfl
set_option maxRecDepth 100000 in
def L_FP_put : List (Nat × Instr × Nat) := [(0, .aload_n 0, 1), (1, .getfield 20, 3), (4, .iload_n 1, 1), (5, .invokevirtual 188, 3), (8, .ifCond .ne 11, 3), (11, .new 99, 3), (14, .dup, 1), (15, .invokespecial 101, 3), (18, .athrow, 1), (19, .iload_n 2, 1), (20, .invokestatic 194, 3), (23, .ifCond .ne 11, 3), (26, .new 88, 3), (29, .dup, 1), (30, .invokespecial 90, 3), (33, .athrow, 1), (34, .aload_n 0, 1), (35, .getfield 20, 3), (38, .iload_n 1, 1), (39, .invokevirtual 191, 3), (42, .istore_n 3, 1), (43, .aload_n 0, 1), (44, .getfield 20, 3), (47, .iload_n 1, 1), (48, .iload_n 2, 1), (49, .invokevirtual 197, 3), (52, .iload_n 3, 1), (53, .ireturn, 1)]
set_option maxRecDepth 100000 in
theorem D_FP_put : ∀ q ∈ L_FP_put, decode prog_1_method_10_code q.1 = .ok q.2 := by decide +kernel
theorem d_FP_put_0 : decode M_FP_put.2.1 0 = .ok (.aload_n 0, 1) := fx_d (q := (0, .aload_n 0, 1)) D_FP_put 0 rfl
theorem d_FP_put_1 : decode M_FP_put.2.1 1 = .ok (.getfield 20, 3) := fx_d (q := (1, .getfield 20, 3)) D_FP_put 1 rfl
theorem d_FP_put_4 : decode M_FP_put.2.1 4 = .ok (.iload_n 1, 1) := fx_d (q := (4, .iload_n 1, 1)) D_FP_put 2 rfl
theorem d_FP_put_5 : decode M_FP_put.2.1 5 = .ok (.invokevirtual 188, 3) := fx_d (q := (5, .invokevirtual 188, 3)) D_FP_put 3 rfl
theorem d_FP_put_8 : decode M_FP_put.2.1 8 = .ok (.ifCond .ne 11, 3) := fx_d (q := (8, .ifCond .ne 11, 3)) D_FP_put 4 rfl
theorem d_FP_put_11 : decode M_FP_put.2.1 11 = .ok (.new 99, 3) := fx_d (q := (11, .new 99, 3)) D_FP_put 5 rfl
theorem d_FP_put_14 : decode M_FP_put.2.1 14 = .ok (.dup, 1) := fx_d (q := (14, .dup, 1)) D_FP_put 6 rfl
theorem d_FP_put_15 : decode M_FP_put.2.1 15 = .ok (.invokespecial 101, 3) := fx_d (q := (15, .invokespecial 101, 3)) D_FP_put 7 rfl
theorem d_FP_put_18 : decode M_FP_put.2.1 18 = .ok (.athrow, 1) := fx_d (q := (18, .athrow, 1)) D_FP_put 8 rfl
theorem d_FP_put_19 : decode M_FP_put.2.1 19 = .ok (.iload_n 2, 1) := fx_d (q := (19, .iload_n 2, 1)) D_FP_put 9 rfl
theorem d_FP_put_20 : decode M_FP_put.2.1 20 = .ok (.invokestatic 194, 3) := fx_d (q := (20, .invokestatic 194, 3)) D_FP_put 10 rfl
theorem d_FP_put_23 : decode M_FP_put.2.1 23 = .ok (.ifCond .ne 11, 3) := fx_d (q := (23, .ifCond .ne 11, 3)) D_FP_put 11 rfl
theorem d_FP_put_26 : decode M_FP_put.2.1 26 = .ok (.new 88, 3) := fx_d (q := (26, .new 88, 3)) D_FP_put 12 rfl
theorem d_FP_put_29 : decode M_FP_put.2.1 29 = .ok (.dup, 1) := fx_d (q := (29, .dup, 1)) D_FP_put 13 rfl
theorem d_FP_put_30 : decode M_FP_put.2.1 30 = .ok (.invokespecial 90, 3) := fx_d (q := (30, .invokespecial 90, 3)) D_FP_put 14 rfl
theorem d_FP_put_33 : decode M_FP_put.2.1 33 = .ok (.athrow, 1) := fx_d (q := (33, .athrow, 1)) D_FP_put 15 rfl
theorem d_FP_put_34 : decode M_FP_put.2.1 34 = .ok (.aload_n 0, 1) := fx_d (q := (34, .aload_n 0, 1)) D_FP_put 16 rfl
theorem d_FP_put_35 : decode M_FP_put.2.1 35 = .ok (.getfield 20, 3) := fx_d (q := (35, .getfield 20, 3)) D_FP_put 17 rfl
theorem d_FP_put_38 : decode M_FP_put.2.1 38 = .ok (.iload_n 1, 1) := fx_d (q := (38, .iload_n 1, 1)) D_FP_put 18 rfl
theorem d_FP_put_39 : decode M_FP_put.2.1 39 = .ok (.invokevirtual 191, 3) := fx_d (q := (39, .invokevirtual 191, 3)) D_FP_put 19 rfl
theorem d_FP_put_42 : decode M_FP_put.2.1 42 = .ok (.istore_n 3, 1) := fx_d (q := (42, .istore_n 3, 1)) D_FP_put 20 rfl
theorem d_FP_put_43 : decode M_FP_put.2.1 43 = .ok (.aload_n 0, 1) := fx_d (q := (43, .aload_n 0, 1)) D_FP_put 21 rfl
theorem d_FP_put_44 : decode M_FP_put.2.1 44 = .ok (.getfield 20, 3) := fx_d (q := (44, .getfield 20, 3)) D_FP_put 22 rfl
theorem d_FP_put_47 : decode M_FP_put.2.1 47 = .ok (.iload_n 1, 1) := fx_d (q := (47, .iload_n 1, 1)) D_FP_put 23 rfl
theorem d_FP_put_48 : decode M_FP_put.2.1 48 = .ok (.iload_n 2, 1) := fx_d (q := (48, .iload_n 2, 1)) D_FP_put 24 rfl
theorem d_FP_put_49 : decode M_FP_put.2.1 49 = .ok (.invokevirtual 197, 3) := fx_d (q := (49, .invokevirtual 197, 3)) D_FP_put 25 rfl
theorem d_FP_put_52 : decode M_FP_put.2.1 52 = .ok (.iload_n 3, 1) := fx_d (q := (52, .iload_n 3, 1)) D_FP_put 26 rfl
theorem d_FP_put_53 : decode M_FP_put.2.1 53 = .ok (.ireturn, 1) := fx_d (q := (53, .ireturn, 1)) D_FP_put 27 rfl
set_option maxRecDepth 100000 in
def L_FP_cut : List (Nat × Instr × Nat) := [(0, .iload_n 1, 1), (1, .ifCond .ge 11, 3), (4, .new 88, 3), (7, .dup, 1), (8, .invokespecial 90, 3), (11, .athrow, 1), (12, .aload_n 0, 1), (13, .getfield 20, 3), (16, .getfield 160, 3), (19, .istore_n 2, 1), (20, .aload_n 0, 1), (21, .getfield 20, 3), (24, .iload_n 1, 1), (25, .invokevirtual 205, 3), (28, .iload_n 2, 1), (29, .aload_n 0, 1), (30, .getfield 20, 3), (33, .getfield 160, 3), (36, .isub, 1), (37, .ireturn, 1)]
set_option maxRecDepth 100000 in
theorem D_FP_cut : ∀ q ∈ L_FP_cut, decode prog_1_method_12_code q.1 = .ok q.2 := by decide +kernel
theorem d_FP_cut_0 : decode M_FP_cut.2.1 0 = .ok (.iload_n 1, 1) := fx_d (q := (0, .iload_n 1, 1)) D_FP_cut 0 rfl
theorem d_FP_cut_1 : decode M_FP_cut.2.1 1 = .ok (.ifCond .ge 11, 3) := fx_d (q := (1, .ifCond .ge 11, 3)) D_FP_cut 1 rfl
theorem d_FP_cut_4 : decode M_FP_cut.2.1 4 = .ok (.new 88, 3) := fx_d (q := (4, .new 88, 3)) D_FP_cut 2 rfl
theorem d_FP_cut_7 : decode M_FP_cut.2.1 7 = .ok (.dup, 1) := fx_d (q := (7, .dup, 1)) D_FP_cut 3 rfl
theorem d_FP_cut_8 : decode M_FP_cut.2.1 8 = .ok (.invokespecial 90, 3) := fx_d (q := (8, .invokespecial 90, 3)) D_FP_cut 4 rfl
theorem d_FP_cut_11 : decode M_FP_cut.2.1 11 = .ok (.athrow, 1) := fx_d (q := (11, .athrow, 1)) D_FP_cut 5 rfl
theorem d_FP_cut_12 : decode M_FP_cut.2.1 12 = .ok (.aload_n 0, 1) := fx_d (q := (12, .aload_n 0, 1)) D_FP_cut 6 rfl
theorem d_FP_cut_13 : decode M_FP_cut.2.1 13 = .ok (.getfield 20, 3) := fx_d (q := (13, .getfield 20, 3)) D_FP_cut 7 rfl
theorem d_FP_cut_16 : decode M_FP_cut.2.1 16 = .ok (.getfield 160, 3) := fx_d (q := (16, .getfield 160, 3)) D_FP_cut 8 rfl
theorem d_FP_cut_19 : decode M_FP_cut.2.1 19 = .ok (.istore_n 2, 1) := fx_d (q := (19, .istore_n 2, 1)) D_FP_cut 9 rfl
theorem d_FP_cut_20 : decode M_FP_cut.2.1 20 = .ok (.aload_n 0, 1) := fx_d (q := (20, .aload_n 0, 1)) D_FP_cut 10 rfl
theorem d_FP_cut_21 : decode M_FP_cut.2.1 21 = .ok (.getfield 20, 3) := fx_d (q := (21, .getfield 20, 3)) D_FP_cut 11 rfl
theorem d_FP_cut_24 : decode M_FP_cut.2.1 24 = .ok (.iload_n 1, 1) := fx_d (q := (24, .iload_n 1, 1)) D_FP_cut 12 rfl
theorem d_FP_cut_25 : decode M_FP_cut.2.1 25 = .ok (.invokevirtual 205, 3) := fx_d (q := (25, .invokevirtual 205, 3)) D_FP_cut 13 rfl
theorem d_FP_cut_28 : decode M_FP_cut.2.1 28 = .ok (.iload_n 2, 1) := fx_d (q := (28, .iload_n 2, 1)) D_FP_cut 14 rfl
theorem d_FP_cut_29 : decode M_FP_cut.2.1 29 = .ok (.aload_n 0, 1) := fx_d (q := (29, .aload_n 0, 1)) D_FP_cut 15 rfl
theorem d_FP_cut_30 : decode M_FP_cut.2.1 30 = .ok (.getfield 20, 3) := fx_d (q := (30, .getfield 20, 3)) D_FP_cut 16 rfl
theorem d_FP_cut_33 : decode M_FP_cut.2.1 33 = .ok (.getfield 160, 3) := fx_d (q := (33, .getfield 160, 3)) D_FP_cut 17 rfl
theorem d_FP_cut_36 : decode M_FP_cut.2.1 36 = .ok (.isub, 1) := fx_d (q := (36, .isub, 1)) D_FP_cut 18 rfl
theorem d_FP_cut_37 : decode M_FP_cut.2.1 37 = .ok (.ireturn, 1) := fx_d (q := (37, .ireturn, 1)) D_FP_cut 19 rfl
