set_option maxRecDepth 100000 in
def L_MO_outRuns : List (Nat × Instr × Nat) := [(0, .aload_n 0, 1), (1, .invokevirtual 137, 3), (4, .istore_n 1, 1), (5, .iconst 0, 1), (6, .istore_n 2, 1), (7, .iload_n 2, 1), (8, .aload_n 0, 1), (9, .getfield 134, 3), (12, .if_icmp .ge 201, 3), (15, .iload_n 2, 1), (16, .istore_n 3, 1), (17, .iload_n 3, 1), (18, .iload_n 2, 1), (19, .iload_n 1, 1), (20, .iadd, 1), (21, .if_icmp .ge 185, 3), (24, .iload_n 3, 1), (25, .iconst 1, 1), (26, .iadd, 1), (27, .istore 4, 2), (29, .iload 4, 2), (31, .iload_n 2, 1), (32, .iload_n 1, 1), (33, .iadd, 1), (34, .if_icmp .ge 23, 3), (37, .aload_n 0, 1), (38, .getfield 47, 3), (41, .iload 4, 2), (43, .iaload, 1), (44, .aload_n 0, 1), (45, .getfield 47, 3), (48, .iload_n 3, 1), (49, .iaload, 1), (50, .if_icmp .ne 7, 3), (53, .iconst 1, 1), (54, .goto 4, 3), (57, .iconst 0, 1), (58, .istore 5, 2), (60, .iload 5, 2), (62, .ifCond .eq 58, 3), (65, .iload 4, 2), (67, .iload_n 2, 1), (68, .iload_n 1, 1), (69, .iadd, 1), (70, .if_icmp .ge 25, 3), (73, .aload_n 0, 1), (74, .getfield 47, 3), (77, .iload 4, 2), (79, .iaload, 1), (80, .aload_n 0, 1), (81, .getfield 47, 3), (84, .iload_n 3, 1), (85, .iaload, 1), (86, .if_icmp .ne 9, 3), (89, .iinc 4 1, 3), (92, .goto (-27), 3), (95, .aload_n 0, 1), (96, .sipush 257, 3), (99, .iload 4, 2), (101, .iload_n 3, 1), (102, .isub, 1), (103, .isub, 1), (104, .invokevirtual 111, 3), (107, .aload_n 0, 1), (108, .aload_n 0, 1), (109, .getfield 47, 3), (112, .iload_n 3, 1), (113, .iaload, 1), (114, .invokevirtual 111, 3), (117, .goto 83, 3), (120, .iload 4, 2), (122, .iload_n 2, 1), (123, .iload_n 1, 1), (124, .iadd, 1), (125, .if_icmp .ge 38, 3), (128, .iload 4, 2), (130, .iconst 1, 1), (131, .iadd, 1), (132, .iload_n 2, 1), (133, .iload_n 1, 1), (134, .iadd, 1), (135, .if_icmp .eq 22, 3), (138, .aload_n 0, 1), (139, .getfield 47, 3), (142, .iload 4, 2), (144, .iaload, 1), (145, .aload_n 0, 1), (146, .getfield 47, 3), (149, .iload 4, 2), (151, .iconst 1, 1), (152, .iadd, 1), (153, .iaload, 1), (154, .if_icmp .eq 9, 3), (157, .iinc 4 1, 3), (160, .goto (-40), 3), (163, .aload_n 0, 1), (164, .iload 4, 2), (166, .iload_n 3, 1), (167, .isub, 1), (168, .iconst 1, 1), (169, .isub, 1), (170, .invokevirtual 111, 3), (173, .iload_n 3, 1), (174, .istore 6, 2), (176, .iload 6, 2), (178, .iload 4, 2), (180, .if_icmp .ge 20, 3), (183, .aload_n 0, 1), (184, .aload_n 0, 1), (185, .getfield 47, 3), (188, .iload 6, 2), (190, .iaload, 1), (191, .invokevirtual 111, 3), (194, .iinc 6 1, 3), (197, .goto (-21), 3), (200, .iload 4, 2), (202, .istore_n 3, 1), (203, .goto (-186), 3), (206, .iload_n 2, 1), (207, .iload_n 1, 1), (208, .iadd, 1), (209, .istore_n 2, 1), (210, .goto (-203), 3), (213, .return_, 1)]
set_option maxRecDepth 100000 in
theorem D_MO_outRuns : ∀ q ∈ L_MO_outRuns, decode prog_14_method_19_code q.1 = .ok q.2 := by decide +kernel
theorem d_MO_outRuns_0 : decode M_MO_outRuns.2.1 0 = .ok (.aload_n 0, 1) := fx_d (q := (0, .aload_n 0, 1)) D_MO_outRuns 0 rfl
theorem d_MO_outRuns_1 : decode M_MO_outRuns.2.1 1 = .ok (.invokevirtual 137, 3) := fx_d (q := (1, .invokevirtual 137, 3)) D_MO_outRuns 1 rfl
theorem d_MO_outRuns_4 : decode M_MO_outRuns.2.1 4 = .ok (.istore_n 1, 1) := fx_d (q := (4, .istore_n 1, 1)) D_MO_outRuns 2 rfl
theorem d_MO_outRuns_5 : decode M_MO_outRuns.2.1 5 = .ok (.iconst 0, 1) := fx_d (q := (5, .iconst 0, 1)) D_MO_outRuns 3 rfl
theorem d_MO_outRuns_6 : decode M_MO_outRuns.2.1 6 = .ok (.istore_n 2, 1) := fx_d (q := (6, .istore_n 2, 1)) D_MO_outRuns 4 rfl
theorem d_MO_outRuns_7 : decode M_MO_outRuns.2.1 7 = .ok (.iload_n 2, 1) := fx_d (q := (7, .iload_n 2, 1)) D_MO_outRuns 5 rfl
theorem d_MO_outRuns_8 : decode M_MO_outRuns.2.1 8 = .ok (.aload_n 0, 1) := fx_d (q := (8, .aload_n 0, 1)) D_MO_outRuns 6 rfl
theorem d_MO_outRuns_9 : decode M_MO_outRuns.2.1 9 = .ok (.getfield 134, 3) := fx_d (q := (9, .getfield 134, 3)) D_MO_outRuns 7 rfl
theorem d_MO_outRuns_12 : decode M_MO_outRuns.2.1 12 = .ok (.if_icmp .ge 201, 3) := fx_d (q := (12, .if_icmp .ge 201, 3)) D_MO_outRuns 8 rfl
theorem d_MO_outRuns_15 : decode M_MO_outRuns.2.1 15 = .ok (.iload_n 2, 1) := fx_d (q := (15, .iload_n 2, 1)) D_MO_outRuns 9 rfl
theorem d_MO_outRuns_16 : decode M_MO_outRuns.2.1 16 = .ok (.istore_n 3, 1) := fx_d (q := (16, .istore_n 3, 1)) D_MO_outRuns 10 rfl
theorem d_MO_outRuns_17 : decode M_MO_outRuns.2.1 17 = .ok (.iload_n 3, 1) := fx_d (q := (17, .iload_n 3, 1)) D_MO_outRuns 11 rfl
theorem d_MO_outRuns_18 : decode M_MO_outRuns.2.1 18 = .ok (.iload_n 2, 1) := fx_d (q := (18, .iload_n 2, 1)) D_MO_outRuns 12 rfl
theorem d_MO_outRuns_19 : decode M_MO_outRuns.2.1 19 = .ok (.iload_n 1, 1) := fx_d (q := (19, .iload_n 1, 1)) D_MO_outRuns 13 rfl
theorem d_MO_outRuns_20 : decode M_MO_outRuns.2.1 20 = .ok (.iadd, 1) := fx_d (q := (20, .iadd, 1)) D_MO_outRuns 14 rfl
theorem d_MO_outRuns_21 : decode M_MO_outRuns.2.1 21 = .ok (.if_icmp .ge 185, 3) := fx_d (q := (21, .if_icmp .ge 185, 3)) D_MO_outRuns 15 rfl
theorem d_MO_outRuns_24 : decode M_MO_outRuns.2.1 24 = .ok (.iload_n 3, 1) := fx_d (q := (24, .iload_n 3, 1)) D_MO_outRuns 16 rfl
theorem d_MO_outRuns_25 : decode M_MO_outRuns.2.1 25 = .ok (.iconst 1, 1) := fx_d (q := (25, .iconst 1, 1)) D_MO_outRuns 17 rfl
theorem d_MO_outRuns_26 : decode M_MO_outRuns.2.1 26 = .ok (.iadd, 1) := fx_d (q := (26, .iadd, 1)) D_MO_outRuns 18 rfl
theorem d_MO_outRuns_27 : decode M_MO_outRuns.2.1 27 = .ok (.istore 4, 2) := fx_d (q := (27, .istore 4, 2)) D_MO_outRuns 19 rfl
theorem d_MO_outRuns_29 : decode M_MO_outRuns.2.1 29 = .ok (.iload 4, 2) := fx_d (q := (29, .iload 4, 2)) D_MO_outRuns 20 rfl
theorem d_MO_outRuns_31 : decode M_MO_outRuns.2.1 31 = .ok (.iload_n 2, 1) := fx_d (q := (31, .iload_n 2, 1)) D_MO_outRuns 21 rfl
theorem d_MO_outRuns_32 : decode M_MO_outRuns.2.1 32 = .ok (.iload_n 1, 1) := fx_d (q := (32, .iload_n 1, 1)) D_MO_outRuns 22 rfl
theorem d_MO_outRuns_33 : decode M_MO_outRuns.2.1 33 = .ok (.iadd, 1) := fx_d (q := (33, .iadd, 1)) D_MO_outRuns 23 rfl
theorem d_MO_outRuns_34 : decode M_MO_outRuns.2.1 34 = .ok (.if_icmp .ge 23, 3) := fx_d (q := (34, .if_icmp .ge 23, 3)) D_MO_outRuns 24 rfl
theorem d_MO_outRuns_37 : decode M_MO_outRuns.2.1 37 = .ok (.aload_n 0, 1) := fx_d (q := (37, .aload_n 0, 1)) D_MO_outRuns 25 rfl
theorem d_MO_outRuns_38 : decode M_MO_outRuns.2.1 38 = .ok (.getfield 47, 3) := fx_d (q := (38, .getfield 47, 3)) D_MO_outRuns 26 rfl
theorem d_MO_outRuns_41 : decode M_MO_outRuns.2.1 41 = .ok (.iload 4, 2) := fx_d (q := (41, .iload 4, 2)) D_MO_outRuns 27 rfl
theorem d_MO_outRuns_43 : decode M_MO_outRuns.2.1 43 = .ok (.iaload, 1) := fx_d (q := (43, .iaload, 1)) D_MO_outRuns 28 rfl
theorem d_MO_outRuns_44 : decode M_MO_outRuns.2.1 44 = .ok (.aload_n 0, 1) := fx_d (q := (44, .aload_n 0, 1)) D_MO_outRuns 29 rfl
theorem d_MO_outRuns_45 : decode M_MO_outRuns.2.1 45 = .ok (.getfield 47, 3) := fx_d (q := (45, .getfield 47, 3)) D_MO_outRuns 30 rfl
theorem d_MO_outRuns_48 : decode M_MO_outRuns.2.1 48 = .ok (.iload_n 3, 1) := fx_d (q := (48, .iload_n 3, 1)) D_MO_outRuns 31 rfl
theorem d_MO_outRuns_49 : decode M_MO_outRuns.2.1 49 = .ok (.iaload, 1) := fx_d (q := (49, .iaload, 1)) D_MO_outRuns 32 rfl
theorem d_MO_outRuns_50 : decode M_MO_outRuns.2.1 50 = .ok (.if_icmp .ne 7, 3) := fx_d (q := (50, .if_icmp .ne 7, 3)) D_MO_outRuns 33 rfl
theorem d_MO_outRuns_53 : decode M_MO_outRuns.2.1 53 = .ok (.iconst 1, 1) := fx_d (q := (53, .iconst 1, 1)) D_MO_outRuns 34 rfl
theorem d_MO_outRuns_54 : decode M_MO_outRuns.2.1 54 = .ok (.goto 4, 3) := fx_d (q := (54, .goto 4, 3)) D_MO_outRuns 35 rfl
theorem d_MO_outRuns_57 : decode M_MO_outRuns.2.1 57 = .ok (.iconst 0, 1) := fx_d (q := (57, .iconst 0, 1)) D_MO_outRuns 36 rfl
theorem d_MO_outRuns_58 : decode M_MO_outRuns.2.1 58 = .ok (.istore 5, 2) := fx_d (q := (58, .istore 5, 2)) D_MO_outRuns 37 rfl
theorem d_MO_outRuns_60 : decode M_MO_outRuns.2.1 60 = .ok (.iload 5, 2) := fx_d (q := (60, .iload 5, 2)) D_MO_outRuns 38 rfl
theorem d_MO_outRuns_62 : decode M_MO_outRuns.2.1 62 = .ok (.ifCond .eq 58, 3) := fx_d (q := (62, .ifCond .eq 58, 3)) D_MO_outRuns 39 rfl
theorem d_MO_outRuns_65 : decode M_MO_outRuns.2.1 65 = .ok (.iload 4, 2) := fx_d (q := (65, .iload 4, 2)) D_MO_outRuns 40 rfl
theorem d_MO_outRuns_67 : decode M_MO_outRuns.2.1 67 = .ok (.iload_n 2, 1) := fx_d (q := (67, .iload_n 2, 1)) D_MO_outRuns 41 rfl
theorem d_MO_outRuns_68 : decode M_MO_outRuns.2.1 68 = .ok (.iload_n 1, 1) := fx_d (q := (68, .iload_n 1, 1)) D_MO_outRuns 42 rfl
theorem d_MO_outRuns_69 : decode M_MO_outRuns.2.1 69 = .ok (.iadd, 1) := fx_d (q := (69, .iadd, 1)) D_MO_outRuns 43 rfl
theorem d_MO_outRuns_70 : decode M_MO_outRuns.2.1 70 = .ok (.if_icmp .ge 25, 3) := fx_d (q := (70, .if_icmp .ge 25, 3)) D_MO_outRuns 44 rfl
theorem d_MO_outRuns_73 : decode M_MO_outRuns.2.1 73 = .ok (.aload_n 0, 1) := fx_d (q := (73, .aload_n 0, 1)) D_MO_outRuns 45 rfl
theorem d_MO_outRuns_74 : decode M_MO_outRuns.2.1 74 = .ok (.getfield 47, 3) := fx_d (q := (74, .getfield 47, 3)) D_MO_outRuns 46 rfl
theorem d_MO_outRuns_77 : decode M_MO_outRuns.2.1 77 = .ok (.iload 4, 2) := fx_d (q := (77, .iload 4, 2)) D_MO_outRuns 47 rfl
theorem d_MO_outRuns_79 : decode M_MO_outRuns.2.1 79 = .ok (.iaload, 1) := fx_d (q := (79, .iaload, 1)) D_MO_outRuns 48 rfl
theorem d_MO_outRuns_80 : decode M_MO_outRuns.2.1 80 = .ok (.aload_n 0, 1) := fx_d (q := (80, .aload_n 0, 1)) D_MO_outRuns 49 rfl
theorem d_MO_outRuns_81 : decode M_MO_outRuns.2.1 81 = .ok (.getfield 47, 3) := fx_d (q := (81, .getfield 47, 3)) D_MO_outRuns 50 rfl
theorem d_MO_outRuns_84 : decode M_MO_outRuns.2.1 84 = .ok (.iload_n 3, 1) := fx_d (q := (84, .iload_n 3, 1)) D_MO_outRuns 51 rfl
theorem d_MO_outRuns_85 : decode M_MO_outRuns.2.1 85 = .ok (.iaload, 1) := fx_d (q := (85, .iaload, 1)) D_MO_outRuns 52 rfl
theorem d_MO_outRuns_86 : decode M_MO_outRuns.2.1 86 = .ok (.if_icmp .ne 9, 3) := fx_d (q := (86, .if_icmp .ne 9, 3)) D_MO_outRuns 53 rfl
theorem d_MO_outRuns_89 : decode M_MO_outRuns.2.1 89 = .ok (.iinc 4 1, 3) := fx_d (q := (89, .iinc 4 1, 3)) D_MO_outRuns 54 rfl
theorem d_MO_outRuns_92 : decode M_MO_outRuns.2.1 92 = .ok (.goto (-27), 3) := fx_d (q := (92, .goto (-27), 3)) D_MO_outRuns 55 rfl
theorem d_MO_outRuns_95 : decode M_MO_outRuns.2.1 95 = .ok (.aload_n 0, 1) := fx_d (q := (95, .aload_n 0, 1)) D_MO_outRuns 56 rfl
theorem d_MO_outRuns_96 : decode M_MO_outRuns.2.1 96 = .ok (.sipush 257, 3) := fx_d (q := (96, .sipush 257, 3)) D_MO_outRuns 57 rfl
theorem d_MO_outRuns_99 : decode M_MO_outRuns.2.1 99 = .ok (.iload 4, 2) := fx_d (q := (99, .iload 4, 2)) D_MO_outRuns 58 rfl
theorem d_MO_outRuns_101 : decode M_MO_outRuns.2.1 101 = .ok (.iload_n 3, 1) := fx_d (q := (101, .iload_n 3, 1)) D_MO_outRuns 59 rfl
theorem d_MO_outRuns_102 : decode M_MO_outRuns.2.1 102 = .ok (.isub, 1) := fx_d (q := (102, .isub, 1)) D_MO_outRuns 60 rfl
theorem d_MO_outRuns_103 : decode M_MO_outRuns.2.1 103 = .ok (.isub, 1) := fx_d (q := (103, .isub, 1)) D_MO_outRuns 61 rfl
theorem d_MO_outRuns_104 : decode M_MO_outRuns.2.1 104 = .ok (.invokevirtual 111, 3) := fx_d (q := (104, .invokevirtual 111, 3)) D_MO_outRuns 62 rfl
theorem d_MO_outRuns_107 : decode M_MO_outRuns.2.1 107 = .ok (.aload_n 0, 1) := fx_d (q := (107, .aload_n 0, 1)) D_MO_outRuns 63 rfl
theorem d_MO_outRuns_108 : decode M_MO_outRuns.2.1 108 = .ok (.aload_n 0, 1) := fx_d (q := (108, .aload_n 0, 1)) D_MO_outRuns 64 rfl
theorem d_MO_outRuns_109 : decode M_MO_outRuns.2.1 109 = .ok (.getfield 47, 3) := fx_d (q := (109, .getfield 47, 3)) D_MO_outRuns 65 rfl
theorem d_MO_outRuns_112 : decode M_MO_outRuns.2.1 112 = .ok (.iload_n 3, 1) := fx_d (q := (112, .iload_n 3, 1)) D_MO_outRuns 66 rfl
theorem d_MO_outRuns_113 : decode M_MO_outRuns.2.1 113 = .ok (.iaload, 1) := fx_d (q := (113, .iaload, 1)) D_MO_outRuns 67 rfl
theorem d_MO_outRuns_114 : decode M_MO_outRuns.2.1 114 = .ok (.invokevirtual 111, 3) := fx_d (q := (114, .invokevirtual 111, 3)) D_MO_outRuns 68 rfl
theorem d_MO_outRuns_117 : decode M_MO_outRuns.2.1 117 = .ok (.goto 83, 3) := fx_d (q := (117, .goto 83, 3)) D_MO_outRuns 69 rfl
theorem d_MO_outRuns_120 : decode M_MO_outRuns.2.1 120 = .ok (.iload 4, 2) := fx_d (q := (120, .iload 4, 2)) D_MO_outRuns 70 rfl
theorem d_MO_outRuns_122 : decode M_MO_outRuns.2.1 122 = .ok (.iload_n 2, 1) := fx_d (q := (122, .iload_n 2, 1)) D_MO_outRuns 71 rfl
theorem d_MO_outRuns_123 : decode M_MO_outRuns.2.1 123 = .ok (.iload_n 1, 1) := fx_d (q := (123, .iload_n 1, 1)) D_MO_outRuns 72 rfl
theorem d_MO_outRuns_124 : decode M_MO_outRuns.2.1 124 = .ok (.iadd, 1) := fx_d (q := (124, .iadd, 1)) D_MO_outRuns 73 rfl
theorem d_MO_outRuns_125 : decode M_MO_outRuns.2.1 125 = .ok (.if_icmp .ge 38, 3) := fx_d (q := (125, .if_icmp .ge 38, 3)) D_MO_outRuns 74 rfl
theorem d_MO_outRuns_128 : decode M_MO_outRuns.2.1 128 = .ok (.iload 4, 2) := fx_d (q := (128, .iload 4, 2)) D_MO_outRuns 75 rfl
theorem d_MO_outRuns_130 : decode M_MO_outRuns.2.1 130 = .ok (.iconst 1, 1) := fx_d (q := (130, .iconst 1, 1)) D_MO_outRuns 76 rfl
theorem d_MO_outRuns_131 : decode M_MO_outRuns.2.1 131 = .ok (.iadd, 1) := fx_d (q := (131, .iadd, 1)) D_MO_outRuns 77 rfl
theorem d_MO_outRuns_132 : decode M_MO_outRuns.2.1 132 = .ok (.iload_n 2, 1) := fx_d (q := (132, .iload_n 2, 1)) D_MO_outRuns 78 rfl
theorem d_MO_outRuns_133 : decode M_MO_outRuns.2.1 133 = .ok (.iload_n 1, 1) := fx_d (q := (133, .iload_n 1, 1)) D_MO_outRuns 79 rfl
theorem d_MO_outRuns_134 : decode M_MO_outRuns.2.1 134 = .ok (.iadd, 1) := fx_d (q := (134, .iadd, 1)) D_MO_outRuns 80 rfl
theorem d_MO_outRuns_135 : decode M_MO_outRuns.2.1 135 = .ok (.if_icmp .eq 22, 3) := fx_d (q := (135, .if_icmp .eq 22, 3)) D_MO_outRuns 81 rfl
theorem d_MO_outRuns_138 : decode M_MO_outRuns.2.1 138 = .ok (.aload_n 0, 1) := fx_d (q := (138, .aload_n 0, 1)) D_MO_outRuns 82 rfl
theorem d_MO_outRuns_139 : decode M_MO_outRuns.2.1 139 = .ok (.getfield 47, 3) := fx_d (q := (139, .getfield 47, 3)) D_MO_outRuns 83 rfl
theorem d_MO_outRuns_142 : decode M_MO_outRuns.2.1 142 = .ok (.iload 4, 2) := fx_d (q := (142, .iload 4, 2)) D_MO_outRuns 84 rfl
theorem d_MO_outRuns_144 : decode M_MO_outRuns.2.1 144 = .ok (.iaload, 1) := fx_d (q := (144, .iaload, 1)) D_MO_outRuns 85 rfl
theorem d_MO_outRuns_145 : decode M_MO_outRuns.2.1 145 = .ok (.aload_n 0, 1) := fx_d (q := (145, .aload_n 0, 1)) D_MO_outRuns 86 rfl
theorem d_MO_outRuns_146 : decode M_MO_outRuns.2.1 146 = .ok (.getfield 47, 3) := fx_d (q := (146, .getfield 47, 3)) D_MO_outRuns 87 rfl
theorem d_MO_outRuns_149 : decode M_MO_outRuns.2.1 149 = .ok (.iload 4, 2) := fx_d (q := (149, .iload 4, 2)) D_MO_outRuns 88 rfl
theorem d_MO_outRuns_151 : decode M_MO_outRuns.2.1 151 = .ok (.iconst 1, 1) := fx_d (q := (151, .iconst 1, 1)) D_MO_outRuns 89 rfl
theorem d_MO_outRuns_152 : decode M_MO_outRuns.2.1 152 = .ok (.iadd, 1) := fx_d (q := (152, .iadd, 1)) D_MO_outRuns 90 rfl
theorem d_MO_outRuns_153 : decode M_MO_outRuns.2.1 153 = .ok (.iaload, 1) := fx_d (q := (153, .iaload, 1)) D_MO_outRuns 91 rfl
theorem d_MO_outRuns_154 : decode M_MO_outRuns.2.1 154 = .ok (.if_icmp .eq 9, 3) := fx_d (q := (154, .if_icmp .eq 9, 3)) D_MO_outRuns 92 rfl
theorem d_MO_outRuns_157 : decode M_MO_outRuns.2.1 157 = .ok (.iinc 4 1, 3) := fx_d (q := (157, .iinc 4 1, 3)) D_MO_outRuns 93 rfl
theorem d_MO_outRuns_160 : decode M_MO_outRuns.2.1 160 = .ok (.goto (-40), 3) := fx_d (q := (160, .goto (-40), 3)) D_MO_outRuns 94 rfl
theorem d_MO_outRuns_163 : decode M_MO_outRuns.2.1 163 = .ok (.aload_n 0, 1) := fx_d (q := (163, .aload_n 0, 1)) D_MO_outRuns 95 rfl
theorem d_MO_outRuns_164 : decode M_MO_outRuns.2.1 164 = .ok (.iload 4, 2) := fx_d (q := (164, .iload 4, 2)) D_MO_outRuns 96 rfl
theorem d_MO_outRuns_166 : decode M_MO_outRuns.2.1 166 = .ok (.iload_n 3, 1) := fx_d (q := (166, .iload_n 3, 1)) D_MO_outRuns 97 rfl
theorem d_MO_outRuns_167 : decode M_MO_outRuns.2.1 167 = .ok (.isub, 1) := fx_d (q := (167, .isub, 1)) D_MO_outRuns 98 rfl
theorem d_MO_outRuns_168 : decode M_MO_outRuns.2.1 168 = .ok (.iconst 1, 1) := fx_d (q := (168, .iconst 1, 1)) D_MO_outRuns 99 rfl
theorem d_MO_outRuns_169 : decode M_MO_outRuns.2.1 169 = .ok (.isub, 1) := fx_d (q := (169, .isub, 1)) D_MO_outRuns 100 rfl
theorem d_MO_outRuns_170 : decode M_MO_outRuns.2.1 170 = .ok (.invokevirtual 111, 3) := fx_d (q := (170, .invokevirtual 111, 3)) D_MO_outRuns 101 rfl
theorem d_MO_outRuns_173 : decode M_MO_outRuns.2.1 173 = .ok (.iload_n 3, 1) := fx_d (q := (173, .iload_n 3, 1)) D_MO_outRuns 102 rfl
theorem d_MO_outRuns_174 : decode M_MO_outRuns.2.1 174 = .ok (.istore 6, 2) := fx_d (q := (174, .istore 6, 2)) D_MO_outRuns 103 rfl
theorem d_MO_outRuns_176 : decode M_MO_outRuns.2.1 176 = .ok (.iload 6, 2) := fx_d (q := (176, .iload 6, 2)) D_MO_outRuns 104 rfl
theorem d_MO_outRuns_178 : decode M_MO_outRuns.2.1 178 = .ok (.iload 4, 2) := fx_d (q := (178, .iload 4, 2)) D_MO_outRuns 105 rfl
theorem d_MO_outRuns_180 : decode M_MO_outRuns.2.1 180 = .ok (.if_icmp .ge 20, 3) := fx_d (q := (180, .if_icmp .ge 20, 3)) D_MO_outRuns 106 rfl
theorem d_MO_outRuns_183 : decode M_MO_outRuns.2.1 183 = .ok (.aload_n 0, 1) := fx_d (q := (183, .aload_n 0, 1)) D_MO_outRuns 107 rfl
theorem d_MO_outRuns_184 : decode M_MO_outRuns.2.1 184 = .ok (.aload_n 0, 1) := fx_d (q := (184, .aload_n 0, 1)) D_MO_outRuns 108 rfl
theorem d_MO_outRuns_185 : decode M_MO_outRuns.2.1 185 = .ok (.getfield 47, 3) := fx_d (q := (185, .getfield 47, 3)) D_MO_outRuns 109 rfl
theorem d_MO_outRuns_188 : decode M_MO_outRuns.2.1 188 = .ok (.iload 6, 2) := fx_d (q := (188, .iload 6, 2)) D_MO_outRuns 110 rfl
theorem d_MO_outRuns_190 : decode M_MO_outRuns.2.1 190 = .ok (.iaload, 1) := fx_d (q := (190, .iaload, 1)) D_MO_outRuns 111 rfl
theorem d_MO_outRuns_191 : decode M_MO_outRuns.2.1 191 = .ok (.invokevirtual 111, 3) := fx_d (q := (191, .invokevirtual 111, 3)) D_MO_outRuns 112 rfl
theorem d_MO_outRuns_194 : decode M_MO_outRuns.2.1 194 = .ok (.iinc 6 1, 3) := fx_d (q := (194, .iinc 6 1, 3)) D_MO_outRuns 113 rfl
theorem d_MO_outRuns_197 : decode M_MO_outRuns.2.1 197 = .ok (.goto (-21), 3) := fx_d (q := (197, .goto (-21), 3)) D_MO_outRuns 114 rfl
theorem d_MO_outRuns_200 : decode M_MO_outRuns.2.1 200 = .ok (.iload 4, 2) := fx_d (q := (200, .iload 4, 2)) D_MO_outRuns 115 rfl
theorem d_MO_outRuns_202 : decode M_MO_outRuns.2.1 202 = .ok (.istore_n 3, 1) := fx_d (q := (202, .istore_n 3, 1)) D_MO_outRuns 116 rfl
theorem d_MO_outRuns_203 : decode M_MO_outRuns.2.1 203 = .ok (.goto (-186), 3) := fx_d (q := (203, .goto (-186), 3)) D_MO_outRuns 117 rfl
theorem d_MO_outRuns_206 : decode M_MO_outRuns.2.1 206 = .ok (.iload_n 2, 1) := fx_d (q := (206, .iload_n 2, 1)) D_MO_outRuns 118 rfl
theorem d_MO_outRuns_207 : decode M_MO_outRuns.2.1 207 = .ok (.iload_n 1, 1) := fx_d (q := (207, .iload_n 1, 1)) D_MO_outRuns 119 rfl
theorem d_MO_outRuns_208 : decode M_MO_outRuns.2.1 208 = .ok (.iadd, 1) := fx_d (q := (208, .iadd, 1)) D_MO_outRuns 120 rfl
theorem d_MO_outRuns_209 : decode M_MO_outRuns.2.1 209 = .ok (.istore_n 2, 1) := fx_d (q := (209, .istore_n 2, 1)) D_MO_outRuns 121 rfl
theorem d_MO_outRuns_210 : decode M_MO_outRuns.2.1 210 = .ok (.goto (-203), 3) := fx_d (q := (210, .goto (-203), 3)) D_MO_outRuns 122 rfl
theorem d_MO_outRuns_213 : decode M_MO_outRuns.2.1 213 = .ok (.return_, 1) := fx_d (q := (213, .return_, 1)) D_MO_outRuns 123 rfl
set_option maxRecDepth 100000 in
def L_MO_outTable : List (Nat × Instr × Nat) := [(0, .aload_n 0, 1), (1, .sipush 258, 3), (4, .putfield 141, 3), (7, .aload_n 0, 1), (8, .sipush 256, 3), (11, .bipush 9, 2), (13, .invokevirtual 124, 3), (16, .iconst 0, 1), (17, .istore_n 1, 1), (18, .iconst 0, 1), (19, .istore_n 2, 1), (20, .iload_n 2, 1), (21, .aload_n 0, 1), (22, .getfield 134, 3), (25, .if_icmp .ge 87, 3), (28, .aload_n 0, 1), (29, .getfield 47, 3), (32, .iload_n 2, 1), (33, .iaload, 1), (34, .istore_n 3, 1), (35, .iinc 2 1, 3), (38, .iload_n 2, 1), (39, .aload_n 0, 1), (40, .getfield 134, 3), (43, .if_icmp .ge 35, 3), (46, .aload_n 0, 1), (47, .iload_n 3, 1), (48, .aload_n 0, 1), (49, .getfield 47, 3), (52, .iload_n 2, 1), (53, .iaload, 1), (54, .invokevirtual 144, 3), (57, .ifCond .lt 21, 3), (60, .aload_n 0, 1), (61, .iload_n 3, 1), (62, .aload_n 0, 1), (63, .getfield 47, 3), (66, .iload_n 2, 1), (67, .iaload, 1), (68, .invokevirtual 144, 3), (71, .istore_n 3, 1), (72, .iinc 2 1, 3), (75, .goto (-37), 3), (78, .iinc 1 1, 3), (81, .aload_n 0, 1), (82, .iload_n 3, 1), (83, .iload_n 1, 1), (84, .invokestatic 148, 3), (87, .invokevirtual 124, 3), (90, .iload_n 2, 1), (91, .aload_n 0, 1), (92, .getfield 134, 3), (95, .if_icmp .ge 14, 3), (98, .aload_n 0, 1), (99, .iload_n 3, 1), (100, .aload_n 0, 1), (101, .getfield 47, 3), (104, .iload_n 2, 1), (105, .iaload, 1), (106, .invokevirtual 152, 3), (109, .goto (-89), 3), (112, .aload_n 0, 1), (113, .sipush 257, 3), (116, .iload_n 1, 1), (117, .iconst 1, 1), (118, .iadd, 1), (119, .invokestatic 148, 3), (122, .invokevirtual 124, 3), (125, .aload_n 0, 1), (126, .invokevirtual 155, 3), (129, .return_, 1)]
set_option maxRecDepth 100000 in
theorem D_MO_outTable : ∀ q ∈ L_MO_outTable, decode prog_14_method_23_code q.1 = .ok q.2 := by decide +kernel
theorem d_MO_outTable_0 : decode M_MO_outTable.2.1 0 = .ok (.aload_n 0, 1) := fx_d (q := (0, .aload_n 0, 1)) D_MO_outTable 0 rfl
theorem d_MO_outTable_1 : decode M_MO_outTable.2.1 1 = .ok (.sipush 258, 3) := fx_d (q := (1, .sipush 258, 3)) D_MO_outTable 1 rfl
theorem d_MO_outTable_4 : decode M_MO_outTable.2.1 4 = .ok (.putfield 141, 3) := fx_d (q := (4, .putfield 141, 3)) D_MO_outTable 2 rfl
theorem d_MO_outTable_7 : decode M_MO_outTable.2.1 7 = .ok (.aload_n 0, 1) := fx_d (q := (7, .aload_n 0, 1)) D_MO_outTable 3 rfl
theorem d_MO_outTable_8 : decode M_MO_outTable.2.1 8 = .ok (.sipush 256, 3) := fx_d (q := (8, .sipush 256, 3)) D_MO_outTable 4 rfl
theorem d_MO_outTable_11 : decode M_MO_outTable.2.1 11 = .ok (.bipush 9, 2) := fx_d (q := (11, .bipush 9, 2)) D_MO_outTable 5 rfl
theorem d_MO_outTable_13 : decode M_MO_outTable.2.1 13 = .ok (.invokevirtual 124, 3) := fx_d (q := (13, .invokevirtual 124, 3)) D_MO_outTable 6 rfl
theorem d_MO_outTable_16 : decode M_MO_outTable.2.1 16 = .ok (.iconst 0, 1) := fx_d (q := (16, .iconst 0, 1)) D_MO_outTable 7 rfl
theorem d_MO_outTable_17 : decode M_MO_outTable.2.1 17 = .ok (.istore_n 1, 1) := fx_d (q := (17, .istore_n 1, 1)) D_MO_outTable 8 rfl
theorem d_MO_outTable_18 : decode M_MO_outTable.2.1 18 = .ok (.iconst 0, 1) := fx_d (q := (18, .iconst 0, 1)) D_MO_outTable 9 rfl
theorem d_MO_outTable_19 : decode M_MO_outTable.2.1 19 = .ok (.istore_n 2, 1) := fx_d (q := (19, .istore_n 2, 1)) D_MO_outTable 10 rfl
theorem d_MO_outTable_20 : decode M_MO_outTable.2.1 20 = .ok (.iload_n 2, 1) := fx_d (q := (20, .iload_n 2, 1)) D_MO_outTable 11 rfl
theorem d_MO_outTable_21 : decode M_MO_outTable.2.1 21 = .ok (.aload_n 0, 1) := fx_d (q := (21, .aload_n 0, 1)) D_MO_outTable 12 rfl
theorem d_MO_outTable_22 : decode M_MO_outTable.2.1 22 = .ok (.getfield 134, 3) := fx_d (q := (22, .getfield 134, 3)) D_MO_outTable 13 rfl
theorem d_MO_outTable_25 : decode M_MO_outTable.2.1 25 = .ok (.if_icmp .ge 87, 3) := fx_d (q := (25, .if_icmp .ge 87, 3)) D_MO_outTable 14 rfl
theorem d_MO_outTable_28 : decode M_MO_outTable.2.1 28 = .ok (.aload_n 0, 1) := fx_d (q := (28, .aload_n 0, 1)) D_MO_outTable 15 rfl
theorem d_MO_outTable_29 : decode M_MO_outTable.2.1 29 = .ok (.getfield 47, 3) := fx_d (q := (29, .getfield 47, 3)) D_MO_outTable 16 rfl
theorem d_MO_outTable_32 : decode M_MO_outTable.2.1 32 = .ok (.iload_n 2, 1) := fx_d (q := (32, .iload_n 2, 1)) D_MO_outTable 17 rfl
theorem d_MO_outTable_33 : decode M_MO_outTable.2.1 33 = .ok (.iaload, 1) := fx_d (q := (33, .iaload, 1)) D_MO_outTable 18 rfl
theorem d_MO_outTable_34 : decode M_MO_outTable.2.1 34 = .ok (.istore_n 3, 1) := fx_d (q := (34, .istore_n 3, 1)) D_MO_outTable 19 rfl
theorem d_MO_outTable_35 : decode M_MO_outTable.2.1 35 = .ok (.iinc 2 1, 3) := fx_d (q := (35, .iinc 2 1, 3)) D_MO_outTable 20 rfl
theorem d_MO_outTable_38 : decode M_MO_outTable.2.1 38 = .ok (.iload_n 2, 1) := fx_d (q := (38, .iload_n 2, 1)) D_MO_outTable 21 rfl
theorem d_MO_outTable_39 : decode M_MO_outTable.2.1 39 = .ok (.aload_n 0, 1) := fx_d (q := (39, .aload_n 0, 1)) D_MO_outTable 22 rfl
theorem d_MO_outTable_40 : decode M_MO_outTable.2.1 40 = .ok (.getfield 134, 3) := fx_d (q := (40, .getfield 134, 3)) D_MO_outTable 23 rfl
theorem d_MO_outTable_43 : decode M_MO_outTable.2.1 43 = .ok (.if_icmp .ge 35, 3) := fx_d (q := (43, .if_icmp .ge 35, 3)) D_MO_outTable 24 rfl
theorem d_MO_outTable_46 : decode M_MO_outTable.2.1 46 = .ok (.aload_n 0, 1) := fx_d (q := (46, .aload_n 0, 1)) D_MO_outTable 25 rfl
theorem d_MO_outTable_47 : decode M_MO_outTable.2.1 47 = .ok (.iload_n 3, 1) := fx_d (q := (47, .iload_n 3, 1)) D_MO_outTable 26 rfl
theorem d_MO_outTable_48 : decode M_MO_outTable.2.1 48 = .ok (.aload_n 0, 1) := fx_d (q := (48, .aload_n 0, 1)) D_MO_outTable 27 rfl
theorem d_MO_outTable_49 : decode M_MO_outTable.2.1 49 = .ok (.getfield 47, 3) := fx_d (q := (49, .getfield 47, 3)) D_MO_outTable 28 rfl
theorem d_MO_outTable_52 : decode M_MO_outTable.2.1 52 = .ok (.iload_n 2, 1) := fx_d (q := (52, .iload_n 2, 1)) D_MO_outTable 29 rfl
theorem d_MO_outTable_53 : decode M_MO_outTable.2.1 53 = .ok (.iaload, 1) := fx_d (q := (53, .iaload, 1)) D_MO_outTable 30 rfl
theorem d_MO_outTable_54 : decode M_MO_outTable.2.1 54 = .ok (.invokevirtual 144, 3) := fx_d (q := (54, .invokevirtual 144, 3)) D_MO_outTable 31 rfl
theorem d_MO_outTable_57 : decode M_MO_outTable.2.1 57 = .ok (.ifCond .lt 21, 3) := fx_d (q := (57, .ifCond .lt 21, 3)) D_MO_outTable 32 rfl
theorem d_MO_outTable_60 : decode M_MO_outTable.2.1 60 = .ok (.aload_n 0, 1) := fx_d (q := (60, .aload_n 0, 1)) D_MO_outTable 33 rfl
theorem d_MO_outTable_61 : decode M_MO_outTable.2.1 61 = .ok (.iload_n 3, 1) := fx_d (q := (61, .iload_n 3, 1)) D_MO_outTable 34 rfl
theorem d_MO_outTable_62 : decode M_MO_outTable.2.1 62 = .ok (.aload_n 0, 1) := fx_d (q := (62, .aload_n 0, 1)) D_MO_outTable 35 rfl
theorem d_MO_outTable_63 : decode M_MO_outTable.2.1 63 = .ok (.getfield 47, 3) := fx_d (q := (63, .getfield 47, 3)) D_MO_outTable 36 rfl
theorem d_MO_outTable_66 : decode M_MO_outTable.2.1 66 = .ok (.iload_n 2, 1) := fx_d (q := (66, .iload_n 2, 1)) D_MO_outTable 37 rfl
theorem d_MO_outTable_67 : decode M_MO_outTable.2.1 67 = .ok (.iaload, 1) := fx_d (q := (67, .iaload, 1)) D_MO_outTable 38 rfl
theorem d_MO_outTable_68 : decode M_MO_outTable.2.1 68 = .ok (.invokevirtual 144, 3) := fx_d (q := (68, .invokevirtual 144, 3)) D_MO_outTable 39 rfl
theorem d_MO_outTable_71 : decode M_MO_outTable.2.1 71 = .ok (.istore_n 3, 1) := fx_d (q := (71, .istore_n 3, 1)) D_MO_outTable 40 rfl
theorem d_MO_outTable_72 : decode M_MO_outTable.2.1 72 = .ok (.iinc 2 1, 3) := fx_d (q := (72, .iinc 2 1, 3)) D_MO_outTable 41 rfl
theorem d_MO_outTable_75 : decode M_MO_outTable.2.1 75 = .ok (.goto (-37), 3) := fx_d (q := (75, .goto (-37), 3)) D_MO_outTable 42 rfl
theorem d_MO_outTable_78 : decode M_MO_outTable.2.1 78 = .ok (.iinc 1 1, 3) := fx_d (q := (78, .iinc 1 1, 3)) D_MO_outTable 43 rfl
theorem d_MO_outTable_81 : decode M_MO_outTable.2.1 81 = .ok (.aload_n 0, 1) := fx_d (q := (81, .aload_n 0, 1)) D_MO_outTable 44 rfl
theorem d_MO_outTable_82 : decode M_MO_outTable.2.1 82 = .ok (.iload_n 3, 1) := fx_d (q := (82, .iload_n 3, 1)) D_MO_outTable 45 rfl
theorem d_MO_outTable_83 : decode M_MO_outTable.2.1 83 = .ok (.iload_n 1, 1) := fx_d (q := (83, .iload_n 1, 1)) D_MO_outTable 46 rfl
theorem d_MO_outTable_84 : decode M_MO_outTable.2.1 84 = .ok (.invokestatic 148, 3) := fx_d (q := (84, .invokestatic 148, 3)) D_MO_outTable 47 rfl
theorem d_MO_outTable_87 : decode M_MO_outTable.2.1 87 = .ok (.invokevirtual 124, 3) := fx_d (q := (87, .invokevirtual 124, 3)) D_MO_outTable 48 rfl
theorem d_MO_outTable_90 : decode M_MO_outTable.2.1 90 = .ok (.iload_n 2, 1) := fx_d (q := (90, .iload_n 2, 1)) D_MO_outTable 49 rfl
theorem d_MO_outTable_91 : decode M_MO_outTable.2.1 91 = .ok (.aload_n 0, 1) := fx_d (q := (91, .aload_n 0, 1)) D_MO_outTable 50 rfl
theorem d_MO_outTable_92 : decode M_MO_outTable.2.1 92 = .ok (.getfield 134, 3) := fx_d (q := (92, .getfield 134, 3)) D_MO_outTable 51 rfl
theorem d_MO_outTable_95 : decode M_MO_outTable.2.1 95 = .ok (.if_icmp .ge 14, 3) := fx_d (q := (95, .if_icmp .ge 14, 3)) D_MO_outTable 52 rfl
theorem d_MO_outTable_98 : decode M_MO_outTable.2.1 98 = .ok (.aload_n 0, 1) := fx_d (q := (98, .aload_n 0, 1)) D_MO_outTable 53 rfl
theorem d_MO_outTable_99 : decode M_MO_outTable.2.1 99 = .ok (.iload_n 3, 1) := fx_d (q := (99, .iload_n 3, 1)) D_MO_outTable 54 rfl
theorem d_MO_outTable_100 : decode M_MO_outTable.2.1 100 = .ok (.aload_n 0, 1) := fx_d (q := (100, .aload_n 0, 1)) D_MO_outTable 55 rfl
theorem d_MO_outTable_101 : decode M_MO_outTable.2.1 101 = .ok (.getfield 47, 3) := fx_d (q := (101, .getfield 47, 3)) D_MO_outTable 56 rfl
theorem d_MO_outTable_104 : decode M_MO_outTable.2.1 104 = .ok (.iload_n 2, 1) := fx_d (q := (104, .iload_n 2, 1)) D_MO_outTable 57 rfl
theorem d_MO_outTable_105 : decode M_MO_outTable.2.1 105 = .ok (.iaload, 1) := fx_d (q := (105, .iaload, 1)) D_MO_outTable 58 rfl
theorem d_MO_outTable_106 : decode M_MO_outTable.2.1 106 = .ok (.invokevirtual 152, 3) := fx_d (q := (106, .invokevirtual 152, 3)) D_MO_outTable 59 rfl
theorem d_MO_outTable_109 : decode M_MO_outTable.2.1 109 = .ok (.goto (-89), 3) := fx_d (q := (109, .goto (-89), 3)) D_MO_outTable 60 rfl
theorem d_MO_outTable_112 : decode M_MO_outTable.2.1 112 = .ok (.aload_n 0, 1) := fx_d (q := (112, .aload_n 0, 1)) D_MO_outTable 61 rfl
theorem d_MO_outTable_113 : decode M_MO_outTable.2.1 113 = .ok (.sipush 257, 3) := fx_d (q := (113, .sipush 257, 3)) D_MO_outTable 62 rfl
theorem d_MO_outTable_116 : decode M_MO_outTable.2.1 116 = .ok (.iload_n 1, 1) := fx_d (q := (116, .iload_n 1, 1)) D_MO_outTable 63 rfl
theorem d_MO_outTable_117 : decode M_MO_outTable.2.1 117 = .ok (.iconst 1, 1) := fx_d (q := (117, .iconst 1, 1)) D_MO_outTable 64 rfl
theorem d_MO_outTable_118 : decode M_MO_outTable.2.1 118 = .ok (.iadd, 1) := fx_d (q := (118, .iadd, 1)) D_MO_outTable 65 rfl
theorem d_MO_outTable_119 : decode M_MO_outTable.2.1 119 = .ok (.invokestatic 148, 3) := fx_d (q := (119, .invokestatic 148, 3)) D_MO_outTable 66 rfl
theorem d_MO_outTable_122 : decode M_MO_outTable.2.1 122 = .ok (.invokevirtual 124, 3) := fx_d (q := (122, .invokevirtual 124, 3)) D_MO_outTable 67 rfl
theorem d_MO_outTable_125 : decode M_MO_outTable.2.1 125 = .ok (.aload_n 0, 1) := fx_d (q := (125, .aload_n 0, 1)) D_MO_outTable 68 rfl
theorem d_MO_outTable_126 : decode M_MO_outTable.2.1 126 = .ok (.invokevirtual 155, 3) := fx_d (q := (126, .invokevirtual 155, 3)) D_MO_outTable 69 rfl
theorem d_MO_outTable_129 : decode M_MO_outTable.2.1 129 = .ok (.return_, 1) := fx_d (q := (129, .return_, 1)) D_MO_outTable 70 rfl
set_option maxRecDepth 100000 in
def L_MO_outBits : List (Nat × Instr × Nat) := [(0, .iload_n 2, 1), (1, .iconst 1, 1), (2, .isub, 1), (3, .istore_n 3, 1), (4, .iload_n 3, 1), (5, .ifCond .lt 18, 3), (8, .aload_n 0, 1), (9, .iload_n 1, 1), (10, .iload_n 3, 1), (11, .ishr, 1), (12, .iconst 1, 1), (13, .iand, 1), (14, .invokevirtual 121, 3), (17, .iinc 3 (-1), 3), (20, .goto (-16), 3), (23, .return_, 1)]
set_option maxRecDepth 100000 in
theorem D_MO_outBits : ∀ q ∈ L_MO_outBits, decode prog_14_method_14_code q.1 = .ok q.2 := by decide +kernel
theorem d_MO_outBits_0 : decode M_MO_outBits.2.1 0 = .ok (.iload_n 2, 1) := fx_d (q := (0, .iload_n 2, 1)) D_MO_outBits 0 rfl
theorem d_MO_outBits_1 : decode M_MO_outBits.2.1 1 = .ok (.iconst 1, 1) := fx_d (q := (1, .iconst 1, 1)) D_MO_outBits 1 rfl
theorem d_MO_outBits_2 : decode M_MO_outBits.2.1 2 = .ok (.isub, 1) := fx_d (q := (2, .isub, 1)) D_MO_outBits 2 rfl
theorem d_MO_outBits_3 : decode M_MO_outBits.2.1 3 = .ok (.istore_n 3, 1) := fx_d (q := (3, .istore_n 3, 1)) D_MO_outBits 3 rfl
theorem d_MO_outBits_4 : decode M_MO_outBits.2.1 4 = .ok (.iload_n 3, 1) := fx_d (q := (4, .iload_n 3, 1)) D_MO_outBits 4 rfl
theorem d_MO_outBits_5 : decode M_MO_outBits.2.1 5 = .ok (.ifCond .lt 18, 3) := fx_d (q := (5, .ifCond .lt 18, 3)) D_MO_outBits 5 rfl
theorem d_MO_outBits_8 : decode M_MO_outBits.2.1 8 = .ok (.aload_n 0, 1) := fx_d (q := (8, .aload_n 0, 1)) D_MO_outBits 6 rfl
theorem d_MO_outBits_9 : decode M_MO_outBits.2.1 9 = .ok (.iload_n 1, 1) := fx_d (q := (9, .iload_n 1, 1)) D_MO_outBits 7 rfl
theorem d_MO_outBits_10 : decode M_MO_outBits.2.1 10 = .ok (.iload_n 3, 1) := fx_d (q := (10, .iload_n 3, 1)) D_MO_outBits 8 rfl
theorem d_MO_outBits_11 : decode M_MO_outBits.2.1 11 = .ok (.ishr, 1) := fx_d (q := (11, .ishr, 1)) D_MO_outBits 9 rfl
theorem d_MO_outBits_12 : decode M_MO_outBits.2.1 12 = .ok (.iconst 1, 1) := fx_d (q := (12, .iconst 1, 1)) D_MO_outBits 10 rfl
theorem d_MO_outBits_13 : decode M_MO_outBits.2.1 13 = .ok (.iand, 1) := fx_d (q := (13, .iand, 1)) D_MO_outBits 11 rfl
theorem d_MO_outBits_14 : decode M_MO_outBits.2.1 14 = .ok (.invokevirtual 121, 3) := fx_d (q := (14, .invokevirtual 121, 3)) D_MO_outBits 12 rfl
theorem d_MO_outBits_17 : decode M_MO_outBits.2.1 17 = .ok (.iinc 3 (-1), 3) := fx_d (q := (17, .iinc 3 (-1), 3)) D_MO_outBits 13 rfl
theorem d_MO_outBits_20 : decode M_MO_outBits.2.1 20 = .ok (.goto (-16), 3) := fx_d (q := (20, .goto (-16), 3)) D_MO_outBits 14 rfl
theorem d_MO_outBits_23 : decode M_MO_outBits.2.1 23 = .ok (.return_, 1) := fx_d (q := (23, .return_, 1)) D_MO_outBits 15 rfl
set_option maxRecDepth 100000 in
def L_MO_outBit : List (Nat × Instr × Nat) := [(0, .aload_n 0, 1), (1, .iconst 2, 1), (2, .aload_n 0, 1), (3, .getfield 115, 3), (6, .imul, 1), (7, .iload_n 1, 1), (8, .iadd, 1), (9, .putfield 115, 3), (12, .aload_n 0, 1), (13, .dup, 1), (14, .getfield 118, 3), (17, .iconst 1, 1), (18, .iadd, 1), (19, .putfield 118, 3), (22, .aload_n 0, 1), (23, .getfield 118, 3), (26, .bipush 8, 2), (28, .if_icmp .ne 21, 3), (31, .aload_n 0, 1), (32, .aload_n 0, 1), (33, .getfield 115, 3), (36, .invokevirtual 111, 3), (39, .aload_n 0, 1), (40, .iconst 0, 1), (41, .putfield 115, 3), (44, .aload_n 0, 1), (45, .iconst 0, 1), (46, .putfield 118, 3), (49, .return_, 1)]
set_option maxRecDepth 100000 in
theorem D_MO_outBit : ∀ q ∈ L_MO_outBit, decode prog_14_method_13_code q.1 = .ok q.2 := by decide +kernel
theorem d_MO_outBit_0 : decode M_MO_outBit.2.1 0 = .ok (.aload_n 0, 1) := fx_d (q := (0, .aload_n 0, 1)) D_MO_outBit 0 rfl
theorem d_MO_outBit_1 : decode M_MO_outBit.2.1 1 = .ok (.iconst 2, 1) := fx_d (q := (1, .iconst 2, 1)) D_MO_outBit 1 rfl
theorem d_MO_outBit_2 : decode M_MO_outBit.2.1 2 = .ok (.aload_n 0, 1) := fx_d (q := (2, .aload_n 0, 1)) D_MO_outBit 2 rfl
theorem d_MO_outBit_3 : decode M_MO_outBit.2.1 3 = .ok (.getfield 115, 3) := fx_d (q := (3, .getfield 115, 3)) D_MO_outBit 3 rfl
theorem d_MO_outBit_6 : decode M_MO_outBit.2.1 6 = .ok (.imul, 1) := fx_d (q := (6, .imul, 1)) D_MO_outBit 4 rfl
theorem d_MO_outBit_7 : decode M_MO_outBit.2.1 7 = .ok (.iload_n 1, 1) := fx_d (q := (7, .iload_n 1, 1)) D_MO_outBit 5 rfl
theorem d_MO_outBit_8 : decode M_MO_outBit.2.1 8 = .ok (.iadd, 1) := fx_d (q := (8, .iadd, 1)) D_MO_outBit 6 rfl
theorem d_MO_outBit_9 : decode M_MO_outBit.2.1 9 = .ok (.putfield 115, 3) := fx_d (q := (9, .putfield 115, 3)) D_MO_outBit 7 rfl
theorem d_MO_outBit_12 : decode M_MO_outBit.2.1 12 = .ok (.aload_n 0, 1) := fx_d (q := (12, .aload_n 0, 1)) D_MO_outBit 8 rfl
theorem d_MO_outBit_13 : decode M_MO_outBit.2.1 13 = .ok (.dup, 1) := fx_d (q := (13, .dup, 1)) D_MO_outBit 9 rfl
theorem d_MO_outBit_14 : decode M_MO_outBit.2.1 14 = .ok (.getfield 118, 3) := fx_d (q := (14, .getfield 118, 3)) D_MO_outBit 10 rfl
theorem d_MO_outBit_17 : decode M_MO_outBit.2.1 17 = .ok (.iconst 1, 1) := fx_d (q := (17, .iconst 1, 1)) D_MO_outBit 11 rfl
theorem d_MO_outBit_18 : decode M_MO_outBit.2.1 18 = .ok (.iadd, 1) := fx_d (q := (18, .iadd, 1)) D_MO_outBit 12 rfl
theorem d_MO_outBit_19 : decode M_MO_outBit.2.1 19 = .ok (.putfield 118, 3) := fx_d (q := (19, .putfield 118, 3)) D_MO_outBit 13 rfl
theorem d_MO_outBit_22 : decode M_MO_outBit.2.1 22 = .ok (.aload_n 0, 1) := fx_d (q := (22, .aload_n 0, 1)) D_MO_outBit 14 rfl
theorem d_MO_outBit_23 : decode M_MO_outBit.2.1 23 = .ok (.getfield 118, 3) := fx_d (q := (23, .getfield 118, 3)) D_MO_outBit 15 rfl
theorem d_MO_outBit_26 : decode M_MO_outBit.2.1 26 = .ok (.bipush 8, 2) := fx_d (q := (26, .bipush 8, 2)) D_MO_outBit 16 rfl
theorem d_MO_outBit_28 : decode M_MO_outBit.2.1 28 = .ok (.if_icmp .ne 21, 3) := fx_d (q := (28, .if_icmp .ne 21, 3)) D_MO_outBit 17 rfl
theorem d_MO_outBit_31 : decode M_MO_outBit.2.1 31 = .ok (.aload_n 0, 1) := fx_d (q := (31, .aload_n 0, 1)) D_MO_outBit 18 rfl
theorem d_MO_outBit_32 : decode M_MO_outBit.2.1 32 = .ok (.aload_n 0, 1) := fx_d (q := (32, .aload_n 0, 1)) D_MO_outBit 19 rfl
theorem d_MO_outBit_33 : decode M_MO_outBit.2.1 33 = .ok (.getfield 115, 3) := fx_d (q := (33, .getfield 115, 3)) D_MO_outBit 20 rfl
theorem d_MO_outBit_36 : decode M_MO_outBit.2.1 36 = .ok (.invokevirtual 111, 3) := fx_d (q := (36, .invokevirtual 111, 3)) D_MO_outBit 21 rfl
theorem d_MO_outBit_39 : decode M_MO_outBit.2.1 39 = .ok (.aload_n 0, 1) := fx_d (q := (39, .aload_n 0, 1)) D_MO_outBit 22 rfl
theorem d_MO_outBit_40 : decode M_MO_outBit.2.1 40 = .ok (.iconst 0, 1) := fx_d (q := (40, .iconst 0, 1)) D_MO_outBit 23 rfl
theorem d_MO_outBit_41 : decode M_MO_outBit.2.1 41 = .ok (.putfield 115, 3) := fx_d (q := (41, .putfield 115, 3)) D_MO_outBit 24 rfl
theorem d_MO_outBit_44 : decode M_MO_outBit.2.1 44 = .ok (.aload_n 0, 1) := fx_d (q := (44, .aload_n 0, 1)) D_MO_outBit 25 rfl
theorem d_MO_outBit_45 : decode M_MO_outBit.2.1 45 = .ok (.iconst 0, 1) := fx_d (q := (45, .iconst 0, 1)) D_MO_outBit 26 rfl
theorem d_MO_outBit_46 : decode M_MO_outBit.2.1 46 = .ok (.putfield 118, 3) := fx_d (q := (46, .putfield 118, 3)) D_MO_outBit 27 rfl
theorem d_MO_outBit_49 : decode M_MO_outBit.2.1 49 = .ok (.return_, 1) := fx_d (q := (49, .return_, 1)) D_MO_outBit 28 rfl
set_option maxRecDepth 100000 in
def L_MO_longer : List (Nat × Instr × Nat) := [(0, .iconst (-1), 1), (1, .istore_n 3, 1), (2, .sipush 258, 3), (5, .istore 4, 2), (7, .iload 4, 2), (9, .aload_n 0, 1), (10, .getfield 141, 3), (13, .if_icmp .ge 38, 3), (16, .aload_n 0, 1), (17, .getfield 50, 3), (20, .iload 4, 2), (22, .iaload, 1), (23, .iload_n 1, 1), (24, .if_icmp .ne 19, 3), (27, .aload_n 0, 1), (28, .getfield 53, 3), (31, .iload 4, 2), (33, .iaload, 1), (34, .iload_n 2, 1), (35, .if_icmp .ne 8, 3), (38, .iload 4, 2), (40, .goto 4, 3), (43, .iload_n 3, 1), (44, .istore_n 3, 1), (45, .iinc 4 1, 3), (48, .goto (-41), 3), (51, .iload_n 3, 1), (52, .ireturn, 1)]
set_option maxRecDepth 100000 in
theorem D_MO_longer : ∀ q ∈ L_MO_longer, decode prog_14_method_20_code q.1 = .ok q.2 := by decide +kernel
theorem d_MO_longer_0 : decode M_MO_longer.2.1 0 = .ok (.iconst (-1), 1) := fx_d (q := (0, .iconst (-1), 1)) D_MO_longer 0 rfl
theorem d_MO_longer_1 : decode M_MO_longer.2.1 1 = .ok (.istore_n 3, 1) := fx_d (q := (1, .istore_n 3, 1)) D_MO_longer 1 rfl
theorem d_MO_longer_2 : decode M_MO_longer.2.1 2 = .ok (.sipush 258, 3) := fx_d (q := (2, .sipush 258, 3)) D_MO_longer 2 rfl
theorem d_MO_longer_5 : decode M_MO_longer.2.1 5 = .ok (.istore 4, 2) := fx_d (q := (5, .istore 4, 2)) D_MO_longer 3 rfl
theorem d_MO_longer_7 : decode M_MO_longer.2.1 7 = .ok (.iload 4, 2) := fx_d (q := (7, .iload 4, 2)) D_MO_longer 4 rfl
theorem d_MO_longer_9 : decode M_MO_longer.2.1 9 = .ok (.aload_n 0, 1) := fx_d (q := (9, .aload_n 0, 1)) D_MO_longer 5 rfl
theorem d_MO_longer_10 : decode M_MO_longer.2.1 10 = .ok (.getfield 141, 3) := fx_d (q := (10, .getfield 141, 3)) D_MO_longer 6 rfl
theorem d_MO_longer_13 : decode M_MO_longer.2.1 13 = .ok (.if_icmp .ge 38, 3) := fx_d (q := (13, .if_icmp .ge 38, 3)) D_MO_longer 7 rfl
theorem d_MO_longer_16 : decode M_MO_longer.2.1 16 = .ok (.aload_n 0, 1) := fx_d (q := (16, .aload_n 0, 1)) D_MO_longer 8 rfl
theorem d_MO_longer_17 : decode M_MO_longer.2.1 17 = .ok (.getfield 50, 3) := fx_d (q := (17, .getfield 50, 3)) D_MO_longer 9 rfl
theorem d_MO_longer_20 : decode M_MO_longer.2.1 20 = .ok (.iload 4, 2) := fx_d (q := (20, .iload 4, 2)) D_MO_longer 10 rfl
theorem d_MO_longer_22 : decode M_MO_longer.2.1 22 = .ok (.iaload, 1) := fx_d (q := (22, .iaload, 1)) D_MO_longer 11 rfl
theorem d_MO_longer_23 : decode M_MO_longer.2.1 23 = .ok (.iload_n 1, 1) := fx_d (q := (23, .iload_n 1, 1)) D_MO_longer 12 rfl
theorem d_MO_longer_24 : decode M_MO_longer.2.1 24 = .ok (.if_icmp .ne 19, 3) := fx_d (q := (24, .if_icmp .ne 19, 3)) D_MO_longer 13 rfl
theorem d_MO_longer_27 : decode M_MO_longer.2.1 27 = .ok (.aload_n 0, 1) := fx_d (q := (27, .aload_n 0, 1)) D_MO_longer 14 rfl
theorem d_MO_longer_28 : decode M_MO_longer.2.1 28 = .ok (.getfield 53, 3) := fx_d (q := (28, .getfield 53, 3)) D_MO_longer 15 rfl
theorem d_MO_longer_31 : decode M_MO_longer.2.1 31 = .ok (.iload 4, 2) := fx_d (q := (31, .iload 4, 2)) D_MO_longer 16 rfl
theorem d_MO_longer_33 : decode M_MO_longer.2.1 33 = .ok (.iaload, 1) := fx_d (q := (33, .iaload, 1)) D_MO_longer 17 rfl
theorem d_MO_longer_34 : decode M_MO_longer.2.1 34 = .ok (.iload_n 2, 1) := fx_d (q := (34, .iload_n 2, 1)) D_MO_longer 18 rfl
theorem d_MO_longer_35 : decode M_MO_longer.2.1 35 = .ok (.if_icmp .ne 8, 3) := fx_d (q := (35, .if_icmp .ne 8, 3)) D_MO_longer 19 rfl
theorem d_MO_longer_38 : decode M_MO_longer.2.1 38 = .ok (.iload 4, 2) := fx_d (q := (38, .iload 4, 2)) D_MO_longer 20 rfl
theorem d_MO_longer_40 : decode M_MO_longer.2.1 40 = .ok (.goto 4, 3) := fx_d (q := (40, .goto 4, 3)) D_MO_longer 21 rfl
theorem d_MO_longer_43 : decode M_MO_longer.2.1 43 = .ok (.iload_n 3, 1) := fx_d (q := (43, .iload_n 3, 1)) D_MO_longer 22 rfl
theorem d_MO_longer_44 : decode M_MO_longer.2.1 44 = .ok (.istore_n 3, 1) := fx_d (q := (44, .istore_n 3, 1)) D_MO_longer 23 rfl
theorem d_MO_longer_45 : decode M_MO_longer.2.1 45 = .ok (.iinc 4 1, 3) := fx_d (q := (45, .iinc 4 1, 3)) D_MO_longer 24 rfl
theorem d_MO_longer_48 : decode M_MO_longer.2.1 48 = .ok (.goto (-41), 3) := fx_d (q := (48, .goto (-41), 3)) D_MO_longer 25 rfl
theorem d_MO_longer_51 : decode M_MO_longer.2.1 51 = .ok (.iload_n 3, 1) := fx_d (q := (51, .iload_n 3, 1)) D_MO_longer 26 rfl
theorem d_MO_longer_52 : decode M_MO_longer.2.1 52 = .ok (.ireturn, 1) := fx_d (q := (52, .ireturn, 1)) D_MO_longer 27 rfl
set_option maxRecDepth 100000 in
def L_MO_digitsOf : List (Nat × Instr × Nat) := [(0, .iload_n 0, 1), (1, .sipush 255, 3), (4, .if_icmp .ge 8, 3), (7, .bipush 9, 2), (9, .goto 17, 3), (12, .iload_n 0, 1), (13, .sipush 767, 3), (16, .if_icmp .ge 8, 3), (19, .bipush 10, 2), (21, .goto 5, 3), (24, .bipush 11, 2), (26, .ireturn, 1)]
set_option maxRecDepth 100000 in
theorem D_MO_digitsOf : ∀ q ∈ L_MO_digitsOf, decode prog_14_method_21_code q.1 = .ok q.2 := by decide +kernel
theorem d_MO_digitsOf_0 : decode M_MO_digitsOf.2.1 0 = .ok (.iload_n 0, 1) := fx_d (q := (0, .iload_n 0, 1)) D_MO_digitsOf 0 rfl
theorem d_MO_digitsOf_1 : decode M_MO_digitsOf.2.1 1 = .ok (.sipush 255, 3) := fx_d (q := (1, .sipush 255, 3)) D_MO_digitsOf 1 rfl
theorem d_MO_digitsOf_4 : decode M_MO_digitsOf.2.1 4 = .ok (.if_icmp .ge 8, 3) := fx_d (q := (4, .if_icmp .ge 8, 3)) D_MO_digitsOf 2 rfl
theorem d_MO_digitsOf_7 : decode M_MO_digitsOf.2.1 7 = .ok (.bipush 9, 2) := fx_d (q := (7, .bipush 9, 2)) D_MO_digitsOf 3 rfl
theorem d_MO_digitsOf_9 : decode M_MO_digitsOf.2.1 9 = .ok (.goto 17, 3) := fx_d (q := (9, .goto 17, 3)) D_MO_digitsOf 4 rfl
theorem d_MO_digitsOf_12 : decode M_MO_digitsOf.2.1 12 = .ok (.iload_n 0, 1) := fx_d (q := (12, .iload_n 0, 1)) D_MO_digitsOf 5 rfl
theorem d_MO_digitsOf_13 : decode M_MO_digitsOf.2.1 13 = .ok (.sipush 767, 3) := fx_d (q := (13, .sipush 767, 3)) D_MO_digitsOf 6 rfl
theorem d_MO_digitsOf_16 : decode M_MO_digitsOf.2.1 16 = .ok (.if_icmp .ge 8, 3) := fx_d (q := (16, .if_icmp .ge 8, 3)) D_MO_digitsOf 7 rfl
theorem d_MO_digitsOf_19 : decode M_MO_digitsOf.2.1 19 = .ok (.bipush 10, 2) := fx_d (q := (19, .bipush 10, 2)) D_MO_digitsOf 8 rfl
theorem d_MO_digitsOf_21 : decode M_MO_digitsOf.2.1 21 = .ok (.goto 5, 3) := fx_d (q := (21, .goto 5, 3)) D_MO_digitsOf 9 rfl
theorem d_MO_digitsOf_24 : decode M_MO_digitsOf.2.1 24 = .ok (.bipush 11, 2) := fx_d (q := (24, .bipush 11, 2)) D_MO_digitsOf 10 rfl
theorem d_MO_digitsOf_26 : decode M_MO_digitsOf.2.1 26 = .ok (.ireturn, 1) := fx_d (q := (26, .ireturn, 1)) D_MO_digitsOf 11 rfl
set_option maxRecDepth 100000 in
def L_MO_make : List (Nat × Instr × Nat) := [(0, .aload_n 0, 1), (1, .getfield 50, 3), (4, .aload_n 0, 1), (5, .getfield 141, 3), (8, .iload_n 1, 1), (9, .iastore, 1), (10, .aload_n 0, 1), (11, .getfield 53, 3), (14, .aload_n 0, 1), (15, .getfield 141, 3), (18, .iload_n 2, 1), (19, .iastore, 1), (20, .aload_n 0, 1), (21, .dup, 1), (22, .getfield 141, 3), (25, .iconst 1, 1), (26, .iadd, 1), (27, .putfield 141, 3), (30, .return_, 1)]
set_option maxRecDepth 100000 in
theorem D_MO_make : ∀ q ∈ L_MO_make, decode prog_14_method_22_code q.1 = .ok q.2 := by decide +kernel
theorem d_MO_make_0 : decode M_MO_make.2.1 0 = .ok (.aload_n 0, 1) := fx_d (q := (0, .aload_n 0, 1)) D_MO_make 0 rfl
theorem d_MO_make_1 : decode M_MO_make.2.1 1 = .ok (.getfield 50, 3) := fx_d (q := (1, .getfield 50, 3)) D_MO_make 1 rfl
theorem d_MO_make_4 : decode M_MO_make.2.1 4 = .ok (.aload_n 0, 1) := fx_d (q := (4, .aload_n 0, 1)) D_MO_make 2 rfl
theorem d_MO_make_5 : decode M_MO_make.2.1 5 = .ok (.getfield 141, 3) := fx_d (q := (5, .getfield 141, 3)) D_MO_make 3 rfl
theorem d_MO_make_8 : decode M_MO_make.2.1 8 = .ok (.iload_n 1, 1) := fx_d (q := (8, .iload_n 1, 1)) D_MO_make 4 rfl
theorem d_MO_make_9 : decode M_MO_make.2.1 9 = .ok (.iastore, 1) := fx_d (q := (9, .iastore, 1)) D_MO_make 5 rfl
theorem d_MO_make_10 : decode M_MO_make.2.1 10 = .ok (.aload_n 0, 1) := fx_d (q := (10, .aload_n 0, 1)) D_MO_make 6 rfl
theorem d_MO_make_11 : decode M_MO_make.2.1 11 = .ok (.getfield 53, 3) := fx_d (q := (11, .getfield 53, 3)) D_MO_make 7 rfl
theorem d_MO_make_14 : decode M_MO_make.2.1 14 = .ok (.aload_n 0, 1) := fx_d (q := (14, .aload_n 0, 1)) D_MO_make 8 rfl
theorem d_MO_make_15 : decode M_MO_make.2.1 15 = .ok (.getfield 141, 3) := fx_d (q := (15, .getfield 141, 3)) D_MO_make 9 rfl
theorem d_MO_make_18 : decode M_MO_make.2.1 18 = .ok (.iload_n 2, 1) := fx_d (q := (18, .iload_n 2, 1)) D_MO_make 10 rfl
theorem d_MO_make_19 : decode M_MO_make.2.1 19 = .ok (.iastore, 1) := fx_d (q := (19, .iastore, 1)) D_MO_make 11 rfl
theorem d_MO_make_20 : decode M_MO_make.2.1 20 = .ok (.aload_n 0, 1) := fx_d (q := (20, .aload_n 0, 1)) D_MO_make 12 rfl
theorem d_MO_make_21 : decode M_MO_make.2.1 21 = .ok (.dup, 1) := fx_d (q := (21, .dup, 1)) D_MO_make 13 rfl
theorem d_MO_make_22 : decode M_MO_make.2.1 22 = .ok (.getfield 141, 3) := fx_d (q := (22, .getfield 141, 3)) D_MO_make 14 rfl
theorem d_MO_make_25 : decode M_MO_make.2.1 25 = .ok (.iconst 1, 1) := fx_d (q := (25, .iconst 1, 1)) D_MO_make 15 rfl
theorem d_MO_make_26 : decode M_MO_make.2.1 26 = .ok (.iadd, 1) := fx_d (q := (26, .iadd, 1)) D_MO_make 16 rfl
theorem d_MO_make_27 : decode M_MO_make.2.1 27 = .ok (.putfield 141, 3) := fx_d (q := (27, .putfield 141, 3)) D_MO_make 17 rfl
theorem d_MO_make_30 : decode M_MO_make.2.1 30 = .ok (.return_, 1) := fx_d (q := (30, .return_, 1)) D_MO_make 18 rfl
set_option maxRecDepth 100000 in
def L_MO_outRest : List (Nat × Instr × Nat) := [(0, .aload_n 0, 1), (1, .getfield 118, 3), (4, .ifCond .le 11, 3), (7, .aload_n 0, 1), (8, .iconst 0, 1), (9, .invokevirtual 121, 3), (12, .goto (-12), 3), (15, .return_, 1)]
set_option maxRecDepth 100000 in
theorem D_MO_outRest : ∀ q ∈ L_MO_outRest, decode prog_14_method_15_code q.1 = .ok q.2 := by decide +kernel
theorem d_MO_outRest_0 : decode M_MO_outRest.2.1 0 = .ok (.aload_n 0, 1) := fx_d (q := (0, .aload_n 0, 1)) D_MO_outRest 0 rfl
theorem d_MO_outRest_1 : decode M_MO_outRest.2.1 1 = .ok (.getfield 118, 3) := fx_d (q := (1, .getfield 118, 3)) D_MO_outRest 1 rfl
theorem d_MO_outRest_4 : decode M_MO_outRest.2.1 4 = .ok (.ifCond .le 11, 3) := fx_d (q := (4, .ifCond .le 11, 3)) D_MO_outRest 2 rfl
theorem d_MO_outRest_7 : decode M_MO_outRest.2.1 7 = .ok (.aload_n 0, 1) := fx_d (q := (7, .aload_n 0, 1)) D_MO_outRest 3 rfl
theorem d_MO_outRest_8 : decode M_MO_outRest.2.1 8 = .ok (.iconst 0, 1) := fx_d (q := (8, .iconst 0, 1)) D_MO_outRest 4 rfl
theorem d_MO_outRest_9 : decode M_MO_outRest.2.1 9 = .ok (.invokevirtual 121, 3) := fx_d (q := (9, .invokevirtual 121, 3)) D_MO_outRest 5 rfl
theorem d_MO_outRest_12 : decode M_MO_outRest.2.1 12 = .ok (.goto (-12), 3) := fx_d (q := (12, .goto (-12), 3)) D_MO_outRest 6 rfl
theorem d_MO_outRest_15 : decode M_MO_outRest.2.1 15 = .ok (.return_, 1) := fx_d (q := (15, .return_, 1)) D_MO_outRest 7 rfl
set_option maxRecDepth 100000 in
def L_MO_outFax : List (Nat × Instr × Nat) := [(0, .iload_n 1, 1), (1, .istore_n 3, 1), (2, .iload_n 3, 1), (3, .iload_n 1, 1), (4, .iload_n 2, 1), (5, .iadd, 1), (6, .if_icmp .ge 83, 3), (9, .aload_n 0, 1), (10, .iload_n 3, 1), (11, .iload_n 3, 1), (12, .iload_n 1, 1), (13, .if_icmp .ne 7, 3), (16, .iconst 1, 1), (17, .goto 4, 3), (20, .iconst 0, 1), (21, .invokevirtual 176, 3), (24, .aload_n 0, 1), (25, .getfield 180, 3), (28, .iconst 3, 1), (29, .if_icmp .ne 27, 3), (32, .aload_n 0, 1), (33, .iconst 1, 1), (34, .bipush 12, 2), (36, .invokevirtual 124, 3), (39, .aload_n 0, 1), (40, .iload_n 3, 1), (41, .iload_n 1, 1), (42, .isub, 1), (43, .iconst 4, 1), (44, .irem, 1), (45, .ifCond .ne 7, 3), (48, .iconst 1, 1), (49, .goto 4, 3), (52, .iconst 0, 1), (53, .invokevirtual 121, 3), (56, .aload_n 0, 1), (57, .getfield 180, 3), (60, .iconst 3, 1), (61, .if_icmp .ne 18, 3), (64, .iload_n 3, 1), (65, .iload_n 1, 1), (66, .isub, 1), (67, .iconst 4, 1), (68, .irem, 1), (69, .ifCond .ne 10, 3), (72, .aload_n 0, 1), (73, .invokevirtual 183, 3), (76, .goto 7, 3), (79, .aload_n 0, 1), (80, .invokevirtual 186, 3), (83, .iinc 3 1, 3), (86, .goto (-84), 3), (89, .aload_n 0, 1), (90, .getfield 180, 3), (93, .iconst 4, 1), (94, .if_icmp .ne 17, 3), (97, .aload_n 0, 1), (98, .iconst 1, 1), (99, .bipush 12, 2), (101, .invokevirtual 124, 3), (104, .aload_n 0, 1), (105, .iconst 1, 1), (106, .bipush 12, 2), (108, .invokevirtual 124, 3), (111, .aload_n 0, 1), (112, .invokevirtual 155, 3), (115, .return_, 1)]
set_option maxRecDepth 100000 in
theorem D_MO_outFax : ∀ q ∈ L_MO_outFax, decode prog_14_method_32_code q.1 = .ok q.2 := by decide +kernel
theorem d_MO_outFax_0 : decode M_MO_outFax.2.1 0 = .ok (.iload_n 1, 1) := fx_d (q := (0, .iload_n 1, 1)) D_MO_outFax 0 rfl
theorem d_MO_outFax_1 : decode M_MO_outFax.2.1 1 = .ok (.istore_n 3, 1) := fx_d (q := (1, .istore_n 3, 1)) D_MO_outFax 1 rfl
theorem d_MO_outFax_2 : decode M_MO_outFax.2.1 2 = .ok (.iload_n 3, 1) := fx_d (q := (2, .iload_n 3, 1)) D_MO_outFax 2 rfl
theorem d_MO_outFax_3 : decode M_MO_outFax.2.1 3 = .ok (.iload_n 1, 1) := fx_d (q := (3, .iload_n 1, 1)) D_MO_outFax 3 rfl
theorem d_MO_outFax_4 : decode M_MO_outFax.2.1 4 = .ok (.iload_n 2, 1) := fx_d (q := (4, .iload_n 2, 1)) D_MO_outFax 4 rfl
theorem d_MO_outFax_5 : decode M_MO_outFax.2.1 5 = .ok (.iadd, 1) := fx_d (q := (5, .iadd, 1)) D_MO_outFax 5 rfl
theorem d_MO_outFax_6 : decode M_MO_outFax.2.1 6 = .ok (.if_icmp .ge 83, 3) := fx_d (q := (6, .if_icmp .ge 83, 3)) D_MO_outFax 6 rfl
theorem d_MO_outFax_9 : decode M_MO_outFax.2.1 9 = .ok (.aload_n 0, 1) := fx_d (q := (9, .aload_n 0, 1)) D_MO_outFax 7 rfl
theorem d_MO_outFax_10 : decode M_MO_outFax.2.1 10 = .ok (.iload_n 3, 1) := fx_d (q := (10, .iload_n 3, 1)) D_MO_outFax 8 rfl
theorem d_MO_outFax_11 : decode M_MO_outFax.2.1 11 = .ok (.iload_n 3, 1) := fx_d (q := (11, .iload_n 3, 1)) D_MO_outFax 9 rfl
theorem d_MO_outFax_12 : decode M_MO_outFax.2.1 12 = .ok (.iload_n 1, 1) := fx_d (q := (12, .iload_n 1, 1)) D_MO_outFax 10 rfl
theorem d_MO_outFax_13 : decode M_MO_outFax.2.1 13 = .ok (.if_icmp .ne 7, 3) := fx_d (q := (13, .if_icmp .ne 7, 3)) D_MO_outFax 11 rfl
theorem d_MO_outFax_16 : decode M_MO_outFax.2.1 16 = .ok (.iconst 1, 1) := fx_d (q := (16, .iconst 1, 1)) D_MO_outFax 12 rfl
theorem d_MO_outFax_17 : decode M_MO_outFax.2.1 17 = .ok (.goto 4, 3) := fx_d (q := (17, .goto 4, 3)) D_MO_outFax 13 rfl
theorem d_MO_outFax_20 : decode M_MO_outFax.2.1 20 = .ok (.iconst 0, 1) := fx_d (q := (20, .iconst 0, 1)) D_MO_outFax 14 rfl
theorem d_MO_outFax_21 : decode M_MO_outFax.2.1 21 = .ok (.invokevirtual 176, 3) := fx_d (q := (21, .invokevirtual 176, 3)) D_MO_outFax 15 rfl
theorem d_MO_outFax_24 : decode M_MO_outFax.2.1 24 = .ok (.aload_n 0, 1) := fx_d (q := (24, .aload_n 0, 1)) D_MO_outFax 16 rfl
theorem d_MO_outFax_25 : decode M_MO_outFax.2.1 25 = .ok (.getfield 180, 3) := fx_d (q := (25, .getfield 180, 3)) D_MO_outFax 17 rfl
theorem d_MO_outFax_28 : decode M_MO_outFax.2.1 28 = .ok (.iconst 3, 1) := fx_d (q := (28, .iconst 3, 1)) D_MO_outFax 18 rfl
theorem d_MO_outFax_29 : decode M_MO_outFax.2.1 29 = .ok (.if_icmp .ne 27, 3) := fx_d (q := (29, .if_icmp .ne 27, 3)) D_MO_outFax 19 rfl
theorem d_MO_outFax_32 : decode M_MO_outFax.2.1 32 = .ok (.aload_n 0, 1) := fx_d (q := (32, .aload_n 0, 1)) D_MO_outFax 20 rfl
theorem d_MO_outFax_33 : decode M_MO_outFax.2.1 33 = .ok (.iconst 1, 1) := fx_d (q := (33, .iconst 1, 1)) D_MO_outFax 21 rfl
theorem d_MO_outFax_34 : decode M_MO_outFax.2.1 34 = .ok (.bipush 12, 2) := fx_d (q := (34, .bipush 12, 2)) D_MO_outFax 22 rfl
theorem d_MO_outFax_36 : decode M_MO_outFax.2.1 36 = .ok (.invokevirtual 124, 3) := fx_d (q := (36, .invokevirtual 124, 3)) D_MO_outFax 23 rfl
theorem d_MO_outFax_39 : decode M_MO_outFax.2.1 39 = .ok (.aload_n 0, 1) := fx_d (q := (39, .aload_n 0, 1)) D_MO_outFax 24 rfl
theorem d_MO_outFax_40 : decode M_MO_outFax.2.1 40 = .ok (.iload_n 3, 1) := fx_d (q := (40, .iload_n 3, 1)) D_MO_outFax 25 rfl
theorem d_MO_outFax_41 : decode M_MO_outFax.2.1 41 = .ok (.iload_n 1, 1) := fx_d (q := (41, .iload_n 1, 1)) D_MO_outFax 26 rfl
theorem d_MO_outFax_42 : decode M_MO_outFax.2.1 42 = .ok (.isub, 1) := fx_d (q := (42, .isub, 1)) D_MO_outFax 27 rfl
theorem d_MO_outFax_43 : decode M_MO_outFax.2.1 43 = .ok (.iconst 4, 1) := fx_d (q := (43, .iconst 4, 1)) D_MO_outFax 28 rfl
theorem d_MO_outFax_44 : decode M_MO_outFax.2.1 44 = .ok (.irem, 1) := fx_d (q := (44, .irem, 1)) D_MO_outFax 29 rfl
theorem d_MO_outFax_45 : decode M_MO_outFax.2.1 45 = .ok (.ifCond .ne 7, 3) := fx_d (q := (45, .ifCond .ne 7, 3)) D_MO_outFax 30 rfl
theorem d_MO_outFax_48 : decode M_MO_outFax.2.1 48 = .ok (.iconst 1, 1) := fx_d (q := (48, .iconst 1, 1)) D_MO_outFax 31 rfl
theorem d_MO_outFax_49 : decode M_MO_outFax.2.1 49 = .ok (.goto 4, 3) := fx_d (q := (49, .goto 4, 3)) D_MO_outFax 32 rfl
theorem d_MO_outFax_52 : decode M_MO_outFax.2.1 52 = .ok (.iconst 0, 1) := fx_d (q := (52, .iconst 0, 1)) D_MO_outFax 33 rfl
theorem d_MO_outFax_53 : decode M_MO_outFax.2.1 53 = .ok (.invokevirtual 121, 3) := fx_d (q := (53, .invokevirtual 121, 3)) D_MO_outFax 34 rfl
theorem d_MO_outFax_56 : decode M_MO_outFax.2.1 56 = .ok (.aload_n 0, 1) := fx_d (q := (56, .aload_n 0, 1)) D_MO_outFax 35 rfl
theorem d_MO_outFax_57 : decode M_MO_outFax.2.1 57 = .ok (.getfield 180, 3) := fx_d (q := (57, .getfield 180, 3)) D_MO_outFax 36 rfl
theorem d_MO_outFax_60 : decode M_MO_outFax.2.1 60 = .ok (.iconst 3, 1) := fx_d (q := (60, .iconst 3, 1)) D_MO_outFax 37 rfl
theorem d_MO_outFax_61 : decode M_MO_outFax.2.1 61 = .ok (.if_icmp .ne 18, 3) := fx_d (q := (61, .if_icmp .ne 18, 3)) D_MO_outFax 38 rfl
theorem d_MO_outFax_64 : decode M_MO_outFax.2.1 64 = .ok (.iload_n 3, 1) := fx_d (q := (64, .iload_n 3, 1)) D_MO_outFax 39 rfl
theorem d_MO_outFax_65 : decode M_MO_outFax.2.1 65 = .ok (.iload_n 1, 1) := fx_d (q := (65, .iload_n 1, 1)) D_MO_outFax 40 rfl
theorem d_MO_outFax_66 : decode M_MO_outFax.2.1 66 = .ok (.isub, 1) := fx_d (q := (66, .isub, 1)) D_MO_outFax 41 rfl
theorem d_MO_outFax_67 : decode M_MO_outFax.2.1 67 = .ok (.iconst 4, 1) := fx_d (q := (67, .iconst 4, 1)) D_MO_outFax 42 rfl
theorem d_MO_outFax_68 : decode M_MO_outFax.2.1 68 = .ok (.irem, 1) := fx_d (q := (68, .irem, 1)) D_MO_outFax 43 rfl
theorem d_MO_outFax_69 : decode M_MO_outFax.2.1 69 = .ok (.ifCond .ne 10, 3) := fx_d (q := (69, .ifCond .ne 10, 3)) D_MO_outFax 44 rfl
theorem d_MO_outFax_72 : decode M_MO_outFax.2.1 72 = .ok (.aload_n 0, 1) := fx_d (q := (72, .aload_n 0, 1)) D_MO_outFax 45 rfl
theorem d_MO_outFax_73 : decode M_MO_outFax.2.1 73 = .ok (.invokevirtual 183, 3) := fx_d (q := (73, .invokevirtual 183, 3)) D_MO_outFax 46 rfl
theorem d_MO_outFax_76 : decode M_MO_outFax.2.1 76 = .ok (.goto 7, 3) := fx_d (q := (76, .goto 7, 3)) D_MO_outFax 47 rfl
theorem d_MO_outFax_79 : decode M_MO_outFax.2.1 79 = .ok (.aload_n 0, 1) := fx_d (q := (79, .aload_n 0, 1)) D_MO_outFax 48 rfl
theorem d_MO_outFax_80 : decode M_MO_outFax.2.1 80 = .ok (.invokevirtual 186, 3) := fx_d (q := (80, .invokevirtual 186, 3)) D_MO_outFax 49 rfl
theorem d_MO_outFax_83 : decode M_MO_outFax.2.1 83 = .ok (.iinc 3 1, 3) := fx_d (q := (83, .iinc 3 1, 3)) D_MO_outFax 50 rfl
theorem d_MO_outFax_86 : decode M_MO_outFax.2.1 86 = .ok (.goto (-84), 3) := fx_d (q := (86, .goto (-84), 3)) D_MO_outFax 51 rfl
theorem d_MO_outFax_89 : decode M_MO_outFax.2.1 89 = .ok (.aload_n 0, 1) := fx_d (q := (89, .aload_n 0, 1)) D_MO_outFax 52 rfl
theorem d_MO_outFax_90 : decode M_MO_outFax.2.1 90 = .ok (.getfield 180, 3) := fx_d (q := (90, .getfield 180, 3)) D_MO_outFax 53 rfl
theorem d_MO_outFax_93 : decode M_MO_outFax.2.1 93 = .ok (.iconst 4, 1) := fx_d (q := (93, .iconst 4, 1)) D_MO_outFax 54 rfl
theorem d_MO_outFax_94 : decode M_MO_outFax.2.1 94 = .ok (.if_icmp .ne 17, 3) := fx_d (q := (94, .if_icmp .ne 17, 3)) D_MO_outFax 55 rfl
theorem d_MO_outFax_97 : decode M_MO_outFax.2.1 97 = .ok (.aload_n 0, 1) := fx_d (q := (97, .aload_n 0, 1)) D_MO_outFax 56 rfl
theorem d_MO_outFax_98 : decode M_MO_outFax.2.1 98 = .ok (.iconst 1, 1) := fx_d (q := (98, .iconst 1, 1)) D_MO_outFax 57 rfl
theorem d_MO_outFax_99 : decode M_MO_outFax.2.1 99 = .ok (.bipush 12, 2) := fx_d (q := (99, .bipush 12, 2)) D_MO_outFax 58 rfl
theorem d_MO_outFax_101 : decode M_MO_outFax.2.1 101 = .ok (.invokevirtual 124, 3) := fx_d (q := (101, .invokevirtual 124, 3)) D_MO_outFax 59 rfl
theorem d_MO_outFax_104 : decode M_MO_outFax.2.1 104 = .ok (.aload_n 0, 1) := fx_d (q := (104, .aload_n 0, 1)) D_MO_outFax 60 rfl
theorem d_MO_outFax_105 : decode M_MO_outFax.2.1 105 = .ok (.iconst 1, 1) := fx_d (q := (105, .iconst 1, 1)) D_MO_outFax 61 rfl
theorem d_MO_outFax_106 : decode M_MO_outFax.2.1 106 = .ok (.bipush 12, 2) := fx_d (q := (106, .bipush 12, 2)) D_MO_outFax 62 rfl
theorem d_MO_outFax_108 : decode M_MO_outFax.2.1 108 = .ok (.invokevirtual 124, 3) := fx_d (q := (108, .invokevirtual 124, 3)) D_MO_outFax 63 rfl
theorem d_MO_outFax_111 : decode M_MO_outFax.2.1 111 = .ok (.aload_n 0, 1) := fx_d (q := (111, .aload_n 0, 1)) D_MO_outFax 64 rfl
theorem d_MO_outFax_112 : decode M_MO_outFax.2.1 112 = .ok (.invokevirtual 155, 3) := fx_d (q := (112, .invokevirtual 155, 3)) D_MO_outFax 65 rfl
theorem d_MO_outFax_115 : decode M_MO_outFax.2.1 115 = .ok (.return_, 1) := fx_d (q := (115, .return_, 1)) D_MO_outFax 66 rfl
set_option maxRecDepth 100000 in
def L_MO_bring : List (Nat × Instr × Nat) := [(0, .iconst 0, 1), (1, .istore_n 3, 1), (2, .iload_n 3, 1), (3, .aload_n 0, 1), (4, .getfield 131, 3), (7, .if_icmp .ge 48, 3), (10, .aload_n 0, 1), (11, .getfield 44, 3), (14, .iload_n 3, 1), (15, .iload_n 2, 1), (16, .ifCond .eq 7, 3), (19, .iconst 0, 1), (20, .goto 9, 3), (23, .aload_n 0, 1), (24, .getfield 41, 3), (27, .iload_n 3, 1), (28, .iaload, 1), (29, .iastore, 1), (30, .aload_n 0, 1), (31, .getfield 41, 3), (34, .iload_n 3, 1), (35, .aload_n 0, 1), (36, .getfield 16, 3), (39, .aload_n 0, 1), (40, .getfield 131, 3), (43, .iload_n 1, 1), (44, .imul, 1), (45, .iload_n 3, 1), (46, .iadd, 1), (47, .iaload, 1), (48, .iastore, 1), (49, .iinc 3 1, 3), (52, .goto (-50), 3), (55, .return_, 1)]
set_option maxRecDepth 100000 in
theorem D_MO_bring : ∀ q ∈ L_MO_bring, decode prog_14_method_31_code q.1 = .ok q.2 := by decide +kernel
theorem d_MO_bring_0 : decode M_MO_bring.2.1 0 = .ok (.iconst 0, 1) := fx_d (q := (0, .iconst 0, 1)) D_MO_bring 0 rfl
theorem d_MO_bring_1 : decode M_MO_bring.2.1 1 = .ok (.istore_n 3, 1) := fx_d (q := (1, .istore_n 3, 1)) D_MO_bring 1 rfl
theorem d_MO_bring_2 : decode M_MO_bring.2.1 2 = .ok (.iload_n 3, 1) := fx_d (q := (2, .iload_n 3, 1)) D_MO_bring 2 rfl
theorem d_MO_bring_3 : decode M_MO_bring.2.1 3 = .ok (.aload_n 0, 1) := fx_d (q := (3, .aload_n 0, 1)) D_MO_bring 3 rfl
theorem d_MO_bring_4 : decode M_MO_bring.2.1 4 = .ok (.getfield 131, 3) := fx_d (q := (4, .getfield 131, 3)) D_MO_bring 4 rfl
theorem d_MO_bring_7 : decode M_MO_bring.2.1 7 = .ok (.if_icmp .ge 48, 3) := fx_d (q := (7, .if_icmp .ge 48, 3)) D_MO_bring 5 rfl
theorem d_MO_bring_10 : decode M_MO_bring.2.1 10 = .ok (.aload_n 0, 1) := fx_d (q := (10, .aload_n 0, 1)) D_MO_bring 6 rfl
theorem d_MO_bring_11 : decode M_MO_bring.2.1 11 = .ok (.getfield 44, 3) := fx_d (q := (11, .getfield 44, 3)) D_MO_bring 7 rfl
theorem d_MO_bring_14 : decode M_MO_bring.2.1 14 = .ok (.iload_n 3, 1) := fx_d (q := (14, .iload_n 3, 1)) D_MO_bring 8 rfl
theorem d_MO_bring_15 : decode M_MO_bring.2.1 15 = .ok (.iload_n 2, 1) := fx_d (q := (15, .iload_n 2, 1)) D_MO_bring 9 rfl
theorem d_MO_bring_16 : decode M_MO_bring.2.1 16 = .ok (.ifCond .eq 7, 3) := fx_d (q := (16, .ifCond .eq 7, 3)) D_MO_bring 10 rfl
theorem d_MO_bring_19 : decode M_MO_bring.2.1 19 = .ok (.iconst 0, 1) := fx_d (q := (19, .iconst 0, 1)) D_MO_bring 11 rfl
theorem d_MO_bring_20 : decode M_MO_bring.2.1 20 = .ok (.goto 9, 3) := fx_d (q := (20, .goto 9, 3)) D_MO_bring 12 rfl
theorem d_MO_bring_23 : decode M_MO_bring.2.1 23 = .ok (.aload_n 0, 1) := fx_d (q := (23, .aload_n 0, 1)) D_MO_bring 13 rfl
theorem d_MO_bring_24 : decode M_MO_bring.2.1 24 = .ok (.getfield 41, 3) := fx_d (q := (24, .getfield 41, 3)) D_MO_bring 14 rfl
theorem d_MO_bring_27 : decode M_MO_bring.2.1 27 = .ok (.iload_n 3, 1) := fx_d (q := (27, .iload_n 3, 1)) D_MO_bring 15 rfl
theorem d_MO_bring_28 : decode M_MO_bring.2.1 28 = .ok (.iaload, 1) := fx_d (q := (28, .iaload, 1)) D_MO_bring 16 rfl
theorem d_MO_bring_29 : decode M_MO_bring.2.1 29 = .ok (.iastore, 1) := fx_d (q := (29, .iastore, 1)) D_MO_bring 17 rfl
theorem d_MO_bring_30 : decode M_MO_bring.2.1 30 = .ok (.aload_n 0, 1) := fx_d (q := (30, .aload_n 0, 1)) D_MO_bring 18 rfl
theorem d_MO_bring_31 : decode M_MO_bring.2.1 31 = .ok (.getfield 41, 3) := fx_d (q := (31, .getfield 41, 3)) D_MO_bring 19 rfl
theorem d_MO_bring_34 : decode M_MO_bring.2.1 34 = .ok (.iload_n 3, 1) := fx_d (q := (34, .iload_n 3, 1)) D_MO_bring 20 rfl
theorem d_MO_bring_35 : decode M_MO_bring.2.1 35 = .ok (.aload_n 0, 1) := fx_d (q := (35, .aload_n 0, 1)) D_MO_bring 21 rfl
theorem d_MO_bring_36 : decode M_MO_bring.2.1 36 = .ok (.getfield 16, 3) := fx_d (q := (36, .getfield 16, 3)) D_MO_bring 22 rfl
theorem d_MO_bring_39 : decode M_MO_bring.2.1 39 = .ok (.aload_n 0, 1) := fx_d (q := (39, .aload_n 0, 1)) D_MO_bring 23 rfl
theorem d_MO_bring_40 : decode M_MO_bring.2.1 40 = .ok (.getfield 131, 3) := fx_d (q := (40, .getfield 131, 3)) D_MO_bring 24 rfl
theorem d_MO_bring_43 : decode M_MO_bring.2.1 43 = .ok (.iload_n 1, 1) := fx_d (q := (43, .iload_n 1, 1)) D_MO_bring 25 rfl
theorem d_MO_bring_44 : decode M_MO_bring.2.1 44 = .ok (.imul, 1) := fx_d (q := (44, .imul, 1)) D_MO_bring 26 rfl
theorem d_MO_bring_45 : decode M_MO_bring.2.1 45 = .ok (.iload_n 3, 1) := fx_d (q := (45, .iload_n 3, 1)) D_MO_bring 27 rfl
theorem d_MO_bring_46 : decode M_MO_bring.2.1 46 = .ok (.iadd, 1) := fx_d (q := (46, .iadd, 1)) D_MO_bring 28 rfl
theorem d_MO_bring_47 : decode M_MO_bring.2.1 47 = .ok (.iaload, 1) := fx_d (q := (47, .iaload, 1)) D_MO_bring 29 rfl
theorem d_MO_bring_48 : decode M_MO_bring.2.1 48 = .ok (.iastore, 1) := fx_d (q := (48, .iastore, 1)) D_MO_bring 30 rfl
theorem d_MO_bring_49 : decode M_MO_bring.2.1 49 = .ok (.iinc 3 1, 3) := fx_d (q := (49, .iinc 3 1, 3)) D_MO_bring 31 rfl
theorem d_MO_bring_52 : decode M_MO_bring.2.1 52 = .ok (.goto (-50), 3) := fx_d (q := (52, .goto (-50), 3)) D_MO_bring 32 rfl
theorem d_MO_bring_55 : decode M_MO_bring.2.1 55 = .ok (.return_, 1) := fx_d (q := (55, .return_, 1)) D_MO_bring 33 rfl
set_option maxRecDepth 100000 in
def L_MO_outItself : List (Nat × Instr × Nat) := [(0, .iconst 0, 1), (1, .istore_n 1, 1), (2, .iconst 0, 1), (3, .istore_n 2, 1), (4, .iload_n 1, 1), (5, .aload_n 0, 1), (6, .getfield 131, 3), (9, .if_icmp .ge 46, 3), (12, .iload_n 1, 1), (13, .istore_n 3, 1), (14, .iload_n 3, 1), (15, .aload_n 0, 1), (16, .getfield 131, 3), (19, .if_icmp .ge 19, 3), (22, .aload_n 0, 1), (23, .getfield 41, 3), (26, .iload_n 3, 1), (27, .iaload, 1), (28, .iload_n 2, 1), (29, .if_icmp .ne 9, 3), (32, .iinc 3 1, 3), (35, .goto (-21), 3), (38, .aload_n 0, 1), (39, .iload_n 2, 1), (40, .iload_n 3, 1), (41, .iload_n 1, 1), (42, .isub, 1), (43, .invokevirtual 158, 3), (46, .iload_n 3, 1), (47, .istore_n 1, 1), (48, .iconst 1, 1), (49, .iload_n 2, 1), (50, .isub, 1), (51, .istore_n 2, 1), (52, .goto (-48), 3), (55, .return_, 1)]
set_option maxRecDepth 100000 in
theorem D_MO_outItself : ∀ q ∈ L_MO_outItself, decode prog_14_method_28_code q.1 = .ok q.2 := by decide +kernel
theorem d_MO_outItself_0 : decode M_MO_outItself.2.1 0 = .ok (.iconst 0, 1) := fx_d (q := (0, .iconst 0, 1)) D_MO_outItself 0 rfl
theorem d_MO_outItself_1 : decode M_MO_outItself.2.1 1 = .ok (.istore_n 1, 1) := fx_d (q := (1, .istore_n 1, 1)) D_MO_outItself 1 rfl
theorem d_MO_outItself_2 : decode M_MO_outItself.2.1 2 = .ok (.iconst 0, 1) := fx_d (q := (2, .iconst 0, 1)) D_MO_outItself 2 rfl
theorem d_MO_outItself_3 : decode M_MO_outItself.2.1 3 = .ok (.istore_n 2, 1) := fx_d (q := (3, .istore_n 2, 1)) D_MO_outItself 3 rfl
theorem d_MO_outItself_4 : decode M_MO_outItself.2.1 4 = .ok (.iload_n 1, 1) := fx_d (q := (4, .iload_n 1, 1)) D_MO_outItself 4 rfl
theorem d_MO_outItself_5 : decode M_MO_outItself.2.1 5 = .ok (.aload_n 0, 1) := fx_d (q := (5, .aload_n 0, 1)) D_MO_outItself 5 rfl
theorem d_MO_outItself_6 : decode M_MO_outItself.2.1 6 = .ok (.getfield 131, 3) := fx_d (q := (6, .getfield 131, 3)) D_MO_outItself 6 rfl
theorem d_MO_outItself_9 : decode M_MO_outItself.2.1 9 = .ok (.if_icmp .ge 46, 3) := fx_d (q := (9, .if_icmp .ge 46, 3)) D_MO_outItself 7 rfl
theorem d_MO_outItself_12 : decode M_MO_outItself.2.1 12 = .ok (.iload_n 1, 1) := fx_d (q := (12, .iload_n 1, 1)) D_MO_outItself 8 rfl
theorem d_MO_outItself_13 : decode M_MO_outItself.2.1 13 = .ok (.istore_n 3, 1) := fx_d (q := (13, .istore_n 3, 1)) D_MO_outItself 9 rfl
theorem d_MO_outItself_14 : decode M_MO_outItself.2.1 14 = .ok (.iload_n 3, 1) := fx_d (q := (14, .iload_n 3, 1)) D_MO_outItself 10 rfl
theorem d_MO_outItself_15 : decode M_MO_outItself.2.1 15 = .ok (.aload_n 0, 1) := fx_d (q := (15, .aload_n 0, 1)) D_MO_outItself 11 rfl
theorem d_MO_outItself_16 : decode M_MO_outItself.2.1 16 = .ok (.getfield 131, 3) := fx_d (q := (16, .getfield 131, 3)) D_MO_outItself 12 rfl
theorem d_MO_outItself_19 : decode M_MO_outItself.2.1 19 = .ok (.if_icmp .ge 19, 3) := fx_d (q := (19, .if_icmp .ge 19, 3)) D_MO_outItself 13 rfl
theorem d_MO_outItself_22 : decode M_MO_outItself.2.1 22 = .ok (.aload_n 0, 1) := fx_d (q := (22, .aload_n 0, 1)) D_MO_outItself 14 rfl
theorem d_MO_outItself_23 : decode M_MO_outItself.2.1 23 = .ok (.getfield 41, 3) := fx_d (q := (23, .getfield 41, 3)) D_MO_outItself 15 rfl
theorem d_MO_outItself_26 : decode M_MO_outItself.2.1 26 = .ok (.iload_n 3, 1) := fx_d (q := (26, .iload_n 3, 1)) D_MO_outItself 16 rfl
theorem d_MO_outItself_27 : decode M_MO_outItself.2.1 27 = .ok (.iaload, 1) := fx_d (q := (27, .iaload, 1)) D_MO_outItself 17 rfl
theorem d_MO_outItself_28 : decode M_MO_outItself.2.1 28 = .ok (.iload_n 2, 1) := fx_d (q := (28, .iload_n 2, 1)) D_MO_outItself 18 rfl
theorem d_MO_outItself_29 : decode M_MO_outItself.2.1 29 = .ok (.if_icmp .ne 9, 3) := fx_d (q := (29, .if_icmp .ne 9, 3)) D_MO_outItself 19 rfl
theorem d_MO_outItself_32 : decode M_MO_outItself.2.1 32 = .ok (.iinc 3 1, 3) := fx_d (q := (32, .iinc 3 1, 3)) D_MO_outItself 20 rfl
theorem d_MO_outItself_35 : decode M_MO_outItself.2.1 35 = .ok (.goto (-21), 3) := fx_d (q := (35, .goto (-21), 3)) D_MO_outItself 21 rfl
theorem d_MO_outItself_38 : decode M_MO_outItself.2.1 38 = .ok (.aload_n 0, 1) := fx_d (q := (38, .aload_n 0, 1)) D_MO_outItself 22 rfl
theorem d_MO_outItself_39 : decode M_MO_outItself.2.1 39 = .ok (.iload_n 2, 1) := fx_d (q := (39, .iload_n 2, 1)) D_MO_outItself 23 rfl
theorem d_MO_outItself_40 : decode M_MO_outItself.2.1 40 = .ok (.iload_n 3, 1) := fx_d (q := (40, .iload_n 3, 1)) D_MO_outItself 24 rfl
theorem d_MO_outItself_41 : decode M_MO_outItself.2.1 41 = .ok (.iload_n 1, 1) := fx_d (q := (41, .iload_n 1, 1)) D_MO_outItself 25 rfl
theorem d_MO_outItself_42 : decode M_MO_outItself.2.1 42 = .ok (.isub, 1) := fx_d (q := (42, .isub, 1)) D_MO_outItself 26 rfl
theorem d_MO_outItself_43 : decode M_MO_outItself.2.1 43 = .ok (.invokevirtual 158, 3) := fx_d (q := (43, .invokevirtual 158, 3)) D_MO_outItself 27 rfl
theorem d_MO_outItself_46 : decode M_MO_outItself.2.1 46 = .ok (.iload_n 3, 1) := fx_d (q := (46, .iload_n 3, 1)) D_MO_outItself 28 rfl
theorem d_MO_outItself_47 : decode M_MO_outItself.2.1 47 = .ok (.istore_n 1, 1) := fx_d (q := (47, .istore_n 1, 1)) D_MO_outItself 29 rfl
theorem d_MO_outItself_48 : decode M_MO_outItself.2.1 48 = .ok (.iconst 1, 1) := fx_d (q := (48, .iconst 1, 1)) D_MO_outItself 30 rfl
theorem d_MO_outItself_49 : decode M_MO_outItself.2.1 49 = .ok (.iload_n 2, 1) := fx_d (q := (49, .iload_n 2, 1)) D_MO_outItself 31 rfl
theorem d_MO_outItself_50 : decode M_MO_outItself.2.1 50 = .ok (.isub, 1) := fx_d (q := (50, .isub, 1)) D_MO_outItself 32 rfl
theorem d_MO_outItself_51 : decode M_MO_outItself.2.1 51 = .ok (.istore_n 2, 1) := fx_d (q := (51, .istore_n 2, 1)) D_MO_outItself 33 rfl
theorem d_MO_outItself_52 : decode M_MO_outItself.2.1 52 = .ok (.goto (-48), 3) := fx_d (q := (52, .goto (-48), 3)) D_MO_outItself 34 rfl
theorem d_MO_outItself_55 : decode M_MO_outItself.2.1 55 = .ok (.return_, 1) := fx_d (q := (55, .return_, 1)) D_MO_outItself 35 rfl
set_option maxRecDepth 100000 in
def L_MO_outRun : List (Nat × Instr × Nat) := [(0, .aload_n 0, 1), (1, .getfield 38, 3), (4, .bipush 41, 2), (6, .iload_n 1, 1), (7, .imul, 1), (8, .iload_n 2, 1), (9, .iadd, 1), (10, .iaload, 1), (11, .istore_n 3, 1), (12, .iconst 0, 1), (13, .istore 4, 2), (15, .iload_n 3, 1), (16, .iload 4, 2), (18, .ishr, 1), (19, .iconst 1, 1), (20, .if_icmp .le 9, 3), (23, .iinc 4 1, 3), (26, .goto (-11), 3), (29, .aload_n 0, 1), (30, .iload_n 3, 1), (31, .iload 4, 2), (33, .invokevirtual 124, 3), (36, .return_, 1)]
set_option maxRecDepth 100000 in
theorem D_MO_outRun : ∀ q ∈ L_MO_outRun, decode prog_14_method_16_code q.1 = .ok q.2 := by decide +kernel
theorem d_MO_outRun_0 : decode M_MO_outRun.2.1 0 = .ok (.aload_n 0, 1) := fx_d (q := (0, .aload_n 0, 1)) D_MO_outRun 0 rfl
theorem d_MO_outRun_1 : decode M_MO_outRun.2.1 1 = .ok (.getfield 38, 3) := fx_d (q := (1, .getfield 38, 3)) D_MO_outRun 1 rfl
theorem d_MO_outRun_4 : decode M_MO_outRun.2.1 4 = .ok (.bipush 41, 2) := fx_d (q := (4, .bipush 41, 2)) D_MO_outRun 2 rfl
theorem d_MO_outRun_6 : decode M_MO_outRun.2.1 6 = .ok (.iload_n 1, 1) := fx_d (q := (6, .iload_n 1, 1)) D_MO_outRun 3 rfl
theorem d_MO_outRun_7 : decode M_MO_outRun.2.1 7 = .ok (.imul, 1) := fx_d (q := (7, .imul, 1)) D_MO_outRun 4 rfl
theorem d_MO_outRun_8 : decode M_MO_outRun.2.1 8 = .ok (.iload_n 2, 1) := fx_d (q := (8, .iload_n 2, 1)) D_MO_outRun 5 rfl
theorem d_MO_outRun_9 : decode M_MO_outRun.2.1 9 = .ok (.iadd, 1) := fx_d (q := (9, .iadd, 1)) D_MO_outRun 6 rfl
theorem d_MO_outRun_10 : decode M_MO_outRun.2.1 10 = .ok (.iaload, 1) := fx_d (q := (10, .iaload, 1)) D_MO_outRun 7 rfl
theorem d_MO_outRun_11 : decode M_MO_outRun.2.1 11 = .ok (.istore_n 3, 1) := fx_d (q := (11, .istore_n 3, 1)) D_MO_outRun 8 rfl
theorem d_MO_outRun_12 : decode M_MO_outRun.2.1 12 = .ok (.iconst 0, 1) := fx_d (q := (12, .iconst 0, 1)) D_MO_outRun 9 rfl
theorem d_MO_outRun_13 : decode M_MO_outRun.2.1 13 = .ok (.istore 4, 2) := fx_d (q := (13, .istore 4, 2)) D_MO_outRun 10 rfl
theorem d_MO_outRun_15 : decode M_MO_outRun.2.1 15 = .ok (.iload_n 3, 1) := fx_d (q := (15, .iload_n 3, 1)) D_MO_outRun 11 rfl
theorem d_MO_outRun_16 : decode M_MO_outRun.2.1 16 = .ok (.iload 4, 2) := fx_d (q := (16, .iload 4, 2)) D_MO_outRun 12 rfl
theorem d_MO_outRun_18 : decode M_MO_outRun.2.1 18 = .ok (.ishr, 1) := fx_d (q := (18, .ishr, 1)) D_MO_outRun 13 rfl
theorem d_MO_outRun_19 : decode M_MO_outRun.2.1 19 = .ok (.iconst 1, 1) := fx_d (q := (19, .iconst 1, 1)) D_MO_outRun 14 rfl
theorem d_MO_outRun_20 : decode M_MO_outRun.2.1 20 = .ok (.if_icmp .le 9, 3) := fx_d (q := (20, .if_icmp .le 9, 3)) D_MO_outRun 15 rfl
theorem d_MO_outRun_23 : decode M_MO_outRun.2.1 23 = .ok (.iinc 4 1, 3) := fx_d (q := (23, .iinc 4 1, 3)) D_MO_outRun 16 rfl
theorem d_MO_outRun_26 : decode M_MO_outRun.2.1 26 = .ok (.goto (-11), 3) := fx_d (q := (26, .goto (-11), 3)) D_MO_outRun 17 rfl
theorem d_MO_outRun_29 : decode M_MO_outRun.2.1 29 = .ok (.aload_n 0, 1) := fx_d (q := (29, .aload_n 0, 1)) D_MO_outRun 18 rfl
theorem d_MO_outRun_30 : decode M_MO_outRun.2.1 30 = .ok (.iload_n 3, 1) := fx_d (q := (30, .iload_n 3, 1)) D_MO_outRun 19 rfl
theorem d_MO_outRun_31 : decode M_MO_outRun.2.1 31 = .ok (.iload 4, 2) := fx_d (q := (31, .iload 4, 2)) D_MO_outRun 20 rfl
theorem d_MO_outRun_33 : decode M_MO_outRun.2.1 33 = .ok (.invokevirtual 124, 3) := fx_d (q := (33, .invokevirtual 124, 3)) D_MO_outRun 21 rfl
theorem d_MO_outRun_36 : decode M_MO_outRun.2.1 36 = .ok (.return_, 1) := fx_d (q := (36, .return_, 1)) D_MO_outRun 22 rfl
set_option maxRecDepth 100000 in
def L_MO_outBy : List (Nat × Instr × Nat) := [(0, .iconst (-1), 1), (1, .istore_n 1, 1), (2, .iconst 0, 1), (3, .istore_n 2, 1), (4, .iload_n 1, 1), (5, .aload_n 0, 1), (6, .getfield 131, 3), (9, .if_icmp .ge 152, 3), (12, .aload_n 0, 1), (13, .iload_n 1, 1), (14, .iload_n 2, 1), (15, .invokevirtual 161, 3), (18, .istore_n 3, 1), (19, .aload_n 0, 1), (20, .iload_n 1, 1), (21, .iload_n 2, 1), (22, .invokevirtual 164, 3), (25, .istore 4, 2), (27, .aload_n 0, 1), (28, .iload 4, 2), (30, .iload_n 2, 1), (31, .invokevirtual 167, 3), (34, .istore 5, 2), (36, .iload 5, 2), (38, .iload_n 3, 1), (39, .if_icmp .ge 15, 3), (42, .aload_n 0, 1), (43, .iconst 1, 1), (44, .iconst 4, 1), (45, .invokevirtual 124, 3), (48, .iload 5, 2), (50, .istore_n 1, 1), (51, .goto 107, 3), (54, .iload_n 3, 1), (55, .iload 4, 2), (57, .iconst 3, 1), (58, .isub, 1), (59, .if_icmp .lt 55, 3), (62, .iload_n 3, 1), (63, .iload 4, 2), (65, .iconst 3, 1), (66, .iadd, 1), (67, .if_icmp .gt 47, 3), (70, .iload_n 3, 1), (71, .iload 4, 2), (73, .isub, 1), (74, .invokestatic 170, 3), (77, .istore 6, 2), (79, .iconst 0, 1), (80, .istore 7, 2), (82, .iload 6, 2), (84, .iload 7, 2), (86, .ishr, 1), (87, .iconst 1, 1), (88, .if_icmp .le 9, 3), (91, .iinc 7 1, 3), (94, .goto (-12), 3), (97, .aload_n 0, 1), (98, .iload 6, 2), (100, .iload 7, 2), (102, .invokevirtual 124, 3), (105, .iload_n 3, 1), (106, .istore_n 1, 1), (107, .iconst 1, 1), (108, .iload_n 2, 1), (109, .isub, 1), (110, .istore_n 2, 1), (111, .goto 47, 3), (114, .aload_n 0, 1), (115, .iload_n 3, 1), (116, .iload_n 2, 1), (117, .invokevirtual 173, 3), (120, .istore 6, 2), (122, .aload_n 0, 1), (123, .iconst 1, 1), (124, .iconst 3, 1), (125, .invokevirtual 124, 3), (128, .aload_n 0, 1), (129, .iload_n 2, 1), (130, .iload_n 3, 1), (131, .iload_n 1, 1), (132, .ifCond .ge 7, 3), (135, .iconst 0, 1), (136, .goto 4, 3), (139, .iload_n 1, 1), (140, .isub, 1), (141, .invokevirtual 158, 3), (144, .aload_n 0, 1), (145, .iconst 1, 1), (146, .iload_n 2, 1), (147, .isub, 1), (148, .iload 6, 2), (150, .iload_n 3, 1), (151, .isub, 1), (152, .invokevirtual 158, 3), (155, .iload 6, 2), (157, .istore_n 1, 1), (158, .goto (-154), 3), (161, .return_, 1)]
set_option maxRecDepth 100000 in
theorem D_MO_outBy : ∀ q ∈ L_MO_outBy, decode prog_14_method_30_code q.1 = .ok q.2 := by decide +kernel
theorem d_MO_outBy_0 : decode M_MO_outBy.2.1 0 = .ok (.iconst (-1), 1) := fx_d (q := (0, .iconst (-1), 1)) D_MO_outBy 0 rfl
theorem d_MO_outBy_1 : decode M_MO_outBy.2.1 1 = .ok (.istore_n 1, 1) := fx_d (q := (1, .istore_n 1, 1)) D_MO_outBy 1 rfl
theorem d_MO_outBy_2 : decode M_MO_outBy.2.1 2 = .ok (.iconst 0, 1) := fx_d (q := (2, .iconst 0, 1)) D_MO_outBy 2 rfl
theorem d_MO_outBy_3 : decode M_MO_outBy.2.1 3 = .ok (.istore_n 2, 1) := fx_d (q := (3, .istore_n 2, 1)) D_MO_outBy 3 rfl
theorem d_MO_outBy_4 : decode M_MO_outBy.2.1 4 = .ok (.iload_n 1, 1) := fx_d (q := (4, .iload_n 1, 1)) D_MO_outBy 4 rfl
theorem d_MO_outBy_5 : decode M_MO_outBy.2.1 5 = .ok (.aload_n 0, 1) := fx_d (q := (5, .aload_n 0, 1)) D_MO_outBy 5 rfl
theorem d_MO_outBy_6 : decode M_MO_outBy.2.1 6 = .ok (.getfield 131, 3) := fx_d (q := (6, .getfield 131, 3)) D_MO_outBy 6 rfl
theorem d_MO_outBy_9 : decode M_MO_outBy.2.1 9 = .ok (.if_icmp .ge 152, 3) := fx_d (q := (9, .if_icmp .ge 152, 3)) D_MO_outBy 7 rfl
theorem d_MO_outBy_12 : decode M_MO_outBy.2.1 12 = .ok (.aload_n 0, 1) := fx_d (q := (12, .aload_n 0, 1)) D_MO_outBy 8 rfl
theorem d_MO_outBy_13 : decode M_MO_outBy.2.1 13 = .ok (.iload_n 1, 1) := fx_d (q := (13, .iload_n 1, 1)) D_MO_outBy 9 rfl
theorem d_MO_outBy_14 : decode M_MO_outBy.2.1 14 = .ok (.iload_n 2, 1) := fx_d (q := (14, .iload_n 2, 1)) D_MO_outBy 10 rfl
theorem d_MO_outBy_15 : decode M_MO_outBy.2.1 15 = .ok (.invokevirtual 161, 3) := fx_d (q := (15, .invokevirtual 161, 3)) D_MO_outBy 11 rfl
theorem d_MO_outBy_18 : decode M_MO_outBy.2.1 18 = .ok (.istore_n 3, 1) := fx_d (q := (18, .istore_n 3, 1)) D_MO_outBy 12 rfl
theorem d_MO_outBy_19 : decode M_MO_outBy.2.1 19 = .ok (.aload_n 0, 1) := fx_d (q := (19, .aload_n 0, 1)) D_MO_outBy 13 rfl
theorem d_MO_outBy_20 : decode M_MO_outBy.2.1 20 = .ok (.iload_n 1, 1) := fx_d (q := (20, .iload_n 1, 1)) D_MO_outBy 14 rfl
theorem d_MO_outBy_21 : decode M_MO_outBy.2.1 21 = .ok (.iload_n 2, 1) := fx_d (q := (21, .iload_n 2, 1)) D_MO_outBy 15 rfl
theorem d_MO_outBy_22 : decode M_MO_outBy.2.1 22 = .ok (.invokevirtual 164, 3) := fx_d (q := (22, .invokevirtual 164, 3)) D_MO_outBy 16 rfl
theorem d_MO_outBy_25 : decode M_MO_outBy.2.1 25 = .ok (.istore 4, 2) := fx_d (q := (25, .istore 4, 2)) D_MO_outBy 17 rfl
theorem d_MO_outBy_27 : decode M_MO_outBy.2.1 27 = .ok (.aload_n 0, 1) := fx_d (q := (27, .aload_n 0, 1)) D_MO_outBy 18 rfl
theorem d_MO_outBy_28 : decode M_MO_outBy.2.1 28 = .ok (.iload 4, 2) := fx_d (q := (28, .iload 4, 2)) D_MO_outBy 19 rfl
theorem d_MO_outBy_30 : decode M_MO_outBy.2.1 30 = .ok (.iload_n 2, 1) := fx_d (q := (30, .iload_n 2, 1)) D_MO_outBy 20 rfl
theorem d_MO_outBy_31 : decode M_MO_outBy.2.1 31 = .ok (.invokevirtual 167, 3) := fx_d (q := (31, .invokevirtual 167, 3)) D_MO_outBy 21 rfl
theorem d_MO_outBy_34 : decode M_MO_outBy.2.1 34 = .ok (.istore 5, 2) := fx_d (q := (34, .istore 5, 2)) D_MO_outBy 22 rfl
theorem d_MO_outBy_36 : decode M_MO_outBy.2.1 36 = .ok (.iload 5, 2) := fx_d (q := (36, .iload 5, 2)) D_MO_outBy 23 rfl
theorem d_MO_outBy_38 : decode M_MO_outBy.2.1 38 = .ok (.iload_n 3, 1) := fx_d (q := (38, .iload_n 3, 1)) D_MO_outBy 24 rfl
theorem d_MO_outBy_39 : decode M_MO_outBy.2.1 39 = .ok (.if_icmp .ge 15, 3) := fx_d (q := (39, .if_icmp .ge 15, 3)) D_MO_outBy 25 rfl
theorem d_MO_outBy_42 : decode M_MO_outBy.2.1 42 = .ok (.aload_n 0, 1) := fx_d (q := (42, .aload_n 0, 1)) D_MO_outBy 26 rfl
theorem d_MO_outBy_43 : decode M_MO_outBy.2.1 43 = .ok (.iconst 1, 1) := fx_d (q := (43, .iconst 1, 1)) D_MO_outBy 27 rfl
theorem d_MO_outBy_44 : decode M_MO_outBy.2.1 44 = .ok (.iconst 4, 1) := fx_d (q := (44, .iconst 4, 1)) D_MO_outBy 28 rfl
theorem d_MO_outBy_45 : decode M_MO_outBy.2.1 45 = .ok (.invokevirtual 124, 3) := fx_d (q := (45, .invokevirtual 124, 3)) D_MO_outBy 29 rfl
theorem d_MO_outBy_48 : decode M_MO_outBy.2.1 48 = .ok (.iload 5, 2) := fx_d (q := (48, .iload 5, 2)) D_MO_outBy 30 rfl
theorem d_MO_outBy_50 : decode M_MO_outBy.2.1 50 = .ok (.istore_n 1, 1) := fx_d (q := (50, .istore_n 1, 1)) D_MO_outBy 31 rfl
theorem d_MO_outBy_51 : decode M_MO_outBy.2.1 51 = .ok (.goto 107, 3) := fx_d (q := (51, .goto 107, 3)) D_MO_outBy 32 rfl
theorem d_MO_outBy_54 : decode M_MO_outBy.2.1 54 = .ok (.iload_n 3, 1) := fx_d (q := (54, .iload_n 3, 1)) D_MO_outBy 33 rfl
theorem d_MO_outBy_55 : decode M_MO_outBy.2.1 55 = .ok (.iload 4, 2) := fx_d (q := (55, .iload 4, 2)) D_MO_outBy 34 rfl
theorem d_MO_outBy_57 : decode M_MO_outBy.2.1 57 = .ok (.iconst 3, 1) := fx_d (q := (57, .iconst 3, 1)) D_MO_outBy 35 rfl
theorem d_MO_outBy_58 : decode M_MO_outBy.2.1 58 = .ok (.isub, 1) := fx_d (q := (58, .isub, 1)) D_MO_outBy 36 rfl
theorem d_MO_outBy_59 : decode M_MO_outBy.2.1 59 = .ok (.if_icmp .lt 55, 3) := fx_d (q := (59, .if_icmp .lt 55, 3)) D_MO_outBy 37 rfl
theorem d_MO_outBy_62 : decode M_MO_outBy.2.1 62 = .ok (.iload_n 3, 1) := fx_d (q := (62, .iload_n 3, 1)) D_MO_outBy 38 rfl
theorem d_MO_outBy_63 : decode M_MO_outBy.2.1 63 = .ok (.iload 4, 2) := fx_d (q := (63, .iload 4, 2)) D_MO_outBy 39 rfl
theorem d_MO_outBy_65 : decode M_MO_outBy.2.1 65 = .ok (.iconst 3, 1) := fx_d (q := (65, .iconst 3, 1)) D_MO_outBy 40 rfl
theorem d_MO_outBy_66 : decode M_MO_outBy.2.1 66 = .ok (.iadd, 1) := fx_d (q := (66, .iadd, 1)) D_MO_outBy 41 rfl
theorem d_MO_outBy_67 : decode M_MO_outBy.2.1 67 = .ok (.if_icmp .gt 47, 3) := fx_d (q := (67, .if_icmp .gt 47, 3)) D_MO_outBy 42 rfl
theorem d_MO_outBy_70 : decode M_MO_outBy.2.1 70 = .ok (.iload_n 3, 1) := fx_d (q := (70, .iload_n 3, 1)) D_MO_outBy 43 rfl
theorem d_MO_outBy_71 : decode M_MO_outBy.2.1 71 = .ok (.iload 4, 2) := fx_d (q := (71, .iload 4, 2)) D_MO_outBy 44 rfl
theorem d_MO_outBy_73 : decode M_MO_outBy.2.1 73 = .ok (.isub, 1) := fx_d (q := (73, .isub, 1)) D_MO_outBy 45 rfl
theorem d_MO_outBy_74 : decode M_MO_outBy.2.1 74 = .ok (.invokestatic 170, 3) := fx_d (q := (74, .invokestatic 170, 3)) D_MO_outBy 46 rfl
theorem d_MO_outBy_77 : decode M_MO_outBy.2.1 77 = .ok (.istore 6, 2) := fx_d (q := (77, .istore 6, 2)) D_MO_outBy 47 rfl
theorem d_MO_outBy_79 : decode M_MO_outBy.2.1 79 = .ok (.iconst 0, 1) := fx_d (q := (79, .iconst 0, 1)) D_MO_outBy 48 rfl
theorem d_MO_outBy_80 : decode M_MO_outBy.2.1 80 = .ok (.istore 7, 2) := fx_d (q := (80, .istore 7, 2)) D_MO_outBy 49 rfl
theorem d_MO_outBy_82 : decode M_MO_outBy.2.1 82 = .ok (.iload 6, 2) := fx_d (q := (82, .iload 6, 2)) D_MO_outBy 50 rfl
theorem d_MO_outBy_84 : decode M_MO_outBy.2.1 84 = .ok (.iload 7, 2) := fx_d (q := (84, .iload 7, 2)) D_MO_outBy 51 rfl
theorem d_MO_outBy_86 : decode M_MO_outBy.2.1 86 = .ok (.ishr, 1) := fx_d (q := (86, .ishr, 1)) D_MO_outBy 52 rfl
theorem d_MO_outBy_87 : decode M_MO_outBy.2.1 87 = .ok (.iconst 1, 1) := fx_d (q := (87, .iconst 1, 1)) D_MO_outBy 53 rfl
theorem d_MO_outBy_88 : decode M_MO_outBy.2.1 88 = .ok (.if_icmp .le 9, 3) := fx_d (q := (88, .if_icmp .le 9, 3)) D_MO_outBy 54 rfl
theorem d_MO_outBy_91 : decode M_MO_outBy.2.1 91 = .ok (.iinc 7 1, 3) := fx_d (q := (91, .iinc 7 1, 3)) D_MO_outBy 55 rfl
theorem d_MO_outBy_94 : decode M_MO_outBy.2.1 94 = .ok (.goto (-12), 3) := fx_d (q := (94, .goto (-12), 3)) D_MO_outBy 56 rfl
theorem d_MO_outBy_97 : decode M_MO_outBy.2.1 97 = .ok (.aload_n 0, 1) := fx_d (q := (97, .aload_n 0, 1)) D_MO_outBy 57 rfl
theorem d_MO_outBy_98 : decode M_MO_outBy.2.1 98 = .ok (.iload 6, 2) := fx_d (q := (98, .iload 6, 2)) D_MO_outBy 58 rfl
theorem d_MO_outBy_100 : decode M_MO_outBy.2.1 100 = .ok (.iload 7, 2) := fx_d (q := (100, .iload 7, 2)) D_MO_outBy 59 rfl
theorem d_MO_outBy_102 : decode M_MO_outBy.2.1 102 = .ok (.invokevirtual 124, 3) := fx_d (q := (102, .invokevirtual 124, 3)) D_MO_outBy 60 rfl
theorem d_MO_outBy_105 : decode M_MO_outBy.2.1 105 = .ok (.iload_n 3, 1) := fx_d (q := (105, .iload_n 3, 1)) D_MO_outBy 61 rfl
theorem d_MO_outBy_106 : decode M_MO_outBy.2.1 106 = .ok (.istore_n 1, 1) := fx_d (q := (106, .istore_n 1, 1)) D_MO_outBy 62 rfl
theorem d_MO_outBy_107 : decode M_MO_outBy.2.1 107 = .ok (.iconst 1, 1) := fx_d (q := (107, .iconst 1, 1)) D_MO_outBy 63 rfl
theorem d_MO_outBy_108 : decode M_MO_outBy.2.1 108 = .ok (.iload_n 2, 1) := fx_d (q := (108, .iload_n 2, 1)) D_MO_outBy 64 rfl
theorem d_MO_outBy_109 : decode M_MO_outBy.2.1 109 = .ok (.isub, 1) := fx_d (q := (109, .isub, 1)) D_MO_outBy 65 rfl
theorem d_MO_outBy_110 : decode M_MO_outBy.2.1 110 = .ok (.istore_n 2, 1) := fx_d (q := (110, .istore_n 2, 1)) D_MO_outBy 66 rfl
theorem d_MO_outBy_111 : decode M_MO_outBy.2.1 111 = .ok (.goto 47, 3) := fx_d (q := (111, .goto 47, 3)) D_MO_outBy 67 rfl
theorem d_MO_outBy_114 : decode M_MO_outBy.2.1 114 = .ok (.aload_n 0, 1) := fx_d (q := (114, .aload_n 0, 1)) D_MO_outBy 68 rfl
theorem d_MO_outBy_115 : decode M_MO_outBy.2.1 115 = .ok (.iload_n 3, 1) := fx_d (q := (115, .iload_n 3, 1)) D_MO_outBy 69 rfl
theorem d_MO_outBy_116 : decode M_MO_outBy.2.1 116 = .ok (.iload_n 2, 1) := fx_d (q := (116, .iload_n 2, 1)) D_MO_outBy 70 rfl
theorem d_MO_outBy_117 : decode M_MO_outBy.2.1 117 = .ok (.invokevirtual 173, 3) := fx_d (q := (117, .invokevirtual 173, 3)) D_MO_outBy 71 rfl
theorem d_MO_outBy_120 : decode M_MO_outBy.2.1 120 = .ok (.istore 6, 2) := fx_d (q := (120, .istore 6, 2)) D_MO_outBy 72 rfl
theorem d_MO_outBy_122 : decode M_MO_outBy.2.1 122 = .ok (.aload_n 0, 1) := fx_d (q := (122, .aload_n 0, 1)) D_MO_outBy 73 rfl
theorem d_MO_outBy_123 : decode M_MO_outBy.2.1 123 = .ok (.iconst 1, 1) := fx_d (q := (123, .iconst 1, 1)) D_MO_outBy 74 rfl
theorem d_MO_outBy_124 : decode M_MO_outBy.2.1 124 = .ok (.iconst 3, 1) := fx_d (q := (124, .iconst 3, 1)) D_MO_outBy 75 rfl
theorem d_MO_outBy_125 : decode M_MO_outBy.2.1 125 = .ok (.invokevirtual 124, 3) := fx_d (q := (125, .invokevirtual 124, 3)) D_MO_outBy 76 rfl
theorem d_MO_outBy_128 : decode M_MO_outBy.2.1 128 = .ok (.aload_n 0, 1) := fx_d (q := (128, .aload_n 0, 1)) D_MO_outBy 77 rfl
theorem d_MO_outBy_129 : decode M_MO_outBy.2.1 129 = .ok (.iload_n 2, 1) := fx_d (q := (129, .iload_n 2, 1)) D_MO_outBy 78 rfl
theorem d_MO_outBy_130 : decode M_MO_outBy.2.1 130 = .ok (.iload_n 3, 1) := fx_d (q := (130, .iload_n 3, 1)) D_MO_outBy 79 rfl
theorem d_MO_outBy_131 : decode M_MO_outBy.2.1 131 = .ok (.iload_n 1, 1) := fx_d (q := (131, .iload_n 1, 1)) D_MO_outBy 80 rfl
theorem d_MO_outBy_132 : decode M_MO_outBy.2.1 132 = .ok (.ifCond .ge 7, 3) := fx_d (q := (132, .ifCond .ge 7, 3)) D_MO_outBy 81 rfl
theorem d_MO_outBy_135 : decode M_MO_outBy.2.1 135 = .ok (.iconst 0, 1) := fx_d (q := (135, .iconst 0, 1)) D_MO_outBy 82 rfl
theorem d_MO_outBy_136 : decode M_MO_outBy.2.1 136 = .ok (.goto 4, 3) := fx_d (q := (136, .goto 4, 3)) D_MO_outBy 83 rfl
theorem d_MO_outBy_139 : decode M_MO_outBy.2.1 139 = .ok (.iload_n 1, 1) := fx_d (q := (139, .iload_n 1, 1)) D_MO_outBy 84 rfl
theorem d_MO_outBy_140 : decode M_MO_outBy.2.1 140 = .ok (.isub, 1) := fx_d (q := (140, .isub, 1)) D_MO_outBy 85 rfl
theorem d_MO_outBy_141 : decode M_MO_outBy.2.1 141 = .ok (.invokevirtual 158, 3) := fx_d (q := (141, .invokevirtual 158, 3)) D_MO_outBy 86 rfl
theorem d_MO_outBy_144 : decode M_MO_outBy.2.1 144 = .ok (.aload_n 0, 1) := fx_d (q := (144, .aload_n 0, 1)) D_MO_outBy 87 rfl
theorem d_MO_outBy_145 : decode M_MO_outBy.2.1 145 = .ok (.iconst 1, 1) := fx_d (q := (145, .iconst 1, 1)) D_MO_outBy 88 rfl
theorem d_MO_outBy_146 : decode M_MO_outBy.2.1 146 = .ok (.iload_n 2, 1) := fx_d (q := (146, .iload_n 2, 1)) D_MO_outBy 89 rfl
theorem d_MO_outBy_147 : decode M_MO_outBy.2.1 147 = .ok (.isub, 1) := fx_d (q := (147, .isub, 1)) D_MO_outBy 90 rfl
theorem d_MO_outBy_148 : decode M_MO_outBy.2.1 148 = .ok (.iload 6, 2) := fx_d (q := (148, .iload 6, 2)) D_MO_outBy 91 rfl
theorem d_MO_outBy_150 : decode M_MO_outBy.2.1 150 = .ok (.iload_n 3, 1) := fx_d (q := (150, .iload_n 3, 1)) D_MO_outBy 92 rfl
theorem d_MO_outBy_151 : decode M_MO_outBy.2.1 151 = .ok (.isub, 1) := fx_d (q := (151, .isub, 1)) D_MO_outBy 93 rfl
theorem d_MO_outBy_152 : decode M_MO_outBy.2.1 152 = .ok (.invokevirtual 158, 3) := fx_d (q := (152, .invokevirtual 158, 3)) D_MO_outBy 94 rfl
theorem d_MO_outBy_155 : decode M_MO_outBy.2.1 155 = .ok (.iload 6, 2) := fx_d (q := (155, .iload 6, 2)) D_MO_outBy 95 rfl
theorem d_MO_outBy_157 : decode M_MO_outBy.2.1 157 = .ok (.istore_n 1, 1) := fx_d (q := (157, .istore_n 1, 1)) D_MO_outBy 96 rfl
theorem d_MO_outBy_158 : decode M_MO_outBy.2.1 158 = .ok (.goto (-154), 3) := fx_d (q := (158, .goto (-154), 3)) D_MO_outBy 97 rfl
theorem d_MO_outBy_161 : decode M_MO_outBy.2.1 161 = .ok (.return_, 1) := fx_d (q := (161, .return_, 1)) D_MO_outBy 98 rfl
set_option maxRecDepth 100000 in
def L_MO_firstNot : List (Nat × Instr × Nat) := [(0, .iload_n 1, 1), (1, .iconst 1, 1), (2, .iadd, 1), (3, .istore_n 3, 1), (4, .iload_n 3, 1), (5, .aload_n 0, 1), (6, .getfield 131, 3), (9, .if_icmp .ge 19, 3), (12, .aload_n 0, 1), (13, .getfield 41, 3), (16, .iload_n 3, 1), (17, .iaload, 1), (18, .iload_n 2, 1), (19, .if_icmp .ne 9, 3), (22, .iinc 3 1, 3), (25, .goto (-21), 3), (28, .iload_n 3, 1), (29, .ireturn, 1)]
set_option maxRecDepth 100000 in
theorem D_MO_firstNot : ∀ q ∈ L_MO_firstNot, decode prog_14_method_24_code q.1 = .ok q.2 := by decide +kernel
theorem d_MO_firstNot_0 : decode M_MO_firstNot.2.1 0 = .ok (.iload_n 1, 1) := fx_d (q := (0, .iload_n 1, 1)) D_MO_firstNot 0 rfl
theorem d_MO_firstNot_1 : decode M_MO_firstNot.2.1 1 = .ok (.iconst 1, 1) := fx_d (q := (1, .iconst 1, 1)) D_MO_firstNot 1 rfl
theorem d_MO_firstNot_2 : decode M_MO_firstNot.2.1 2 = .ok (.iadd, 1) := fx_d (q := (2, .iadd, 1)) D_MO_firstNot 2 rfl
theorem d_MO_firstNot_3 : decode M_MO_firstNot.2.1 3 = .ok (.istore_n 3, 1) := fx_d (q := (3, .istore_n 3, 1)) D_MO_firstNot 3 rfl
theorem d_MO_firstNot_4 : decode M_MO_firstNot.2.1 4 = .ok (.iload_n 3, 1) := fx_d (q := (4, .iload_n 3, 1)) D_MO_firstNot 4 rfl
theorem d_MO_firstNot_5 : decode M_MO_firstNot.2.1 5 = .ok (.aload_n 0, 1) := fx_d (q := (5, .aload_n 0, 1)) D_MO_firstNot 5 rfl
theorem d_MO_firstNot_6 : decode M_MO_firstNot.2.1 6 = .ok (.getfield 131, 3) := fx_d (q := (6, .getfield 131, 3)) D_MO_firstNot 6 rfl
theorem d_MO_firstNot_9 : decode M_MO_firstNot.2.1 9 = .ok (.if_icmp .ge 19, 3) := fx_d (q := (9, .if_icmp .ge 19, 3)) D_MO_firstNot 7 rfl
theorem d_MO_firstNot_12 : decode M_MO_firstNot.2.1 12 = .ok (.aload_n 0, 1) := fx_d (q := (12, .aload_n 0, 1)) D_MO_firstNot 8 rfl
theorem d_MO_firstNot_13 : decode M_MO_firstNot.2.1 13 = .ok (.getfield 41, 3) := fx_d (q := (13, .getfield 41, 3)) D_MO_firstNot 9 rfl
theorem d_MO_firstNot_16 : decode M_MO_firstNot.2.1 16 = .ok (.iload_n 3, 1) := fx_d (q := (16, .iload_n 3, 1)) D_MO_firstNot 10 rfl
theorem d_MO_firstNot_17 : decode M_MO_firstNot.2.1 17 = .ok (.iaload, 1) := fx_d (q := (17, .iaload, 1)) D_MO_firstNot 11 rfl
theorem d_MO_firstNot_18 : decode M_MO_firstNot.2.1 18 = .ok (.iload_n 2, 1) := fx_d (q := (18, .iload_n 2, 1)) D_MO_firstNot 12 rfl
theorem d_MO_firstNot_19 : decode M_MO_firstNot.2.1 19 = .ok (.if_icmp .ne 9, 3) := fx_d (q := (19, .if_icmp .ne 9, 3)) D_MO_firstNot 13 rfl
theorem d_MO_firstNot_22 : decode M_MO_firstNot.2.1 22 = .ok (.iinc 3 1, 3) := fx_d (q := (22, .iinc 3 1, 3)) D_MO_firstNot 14 rfl
theorem d_MO_firstNot_25 : decode M_MO_firstNot.2.1 25 = .ok (.goto (-21), 3) := fx_d (q := (25, .goto (-21), 3)) D_MO_firstNot 15 rfl
theorem d_MO_firstNot_28 : decode M_MO_firstNot.2.1 28 = .ok (.iload_n 3, 1) := fx_d (q := (28, .iload_n 3, 1)) D_MO_firstNot 16 rfl
theorem d_MO_firstNot_29 : decode M_MO_firstNot.2.1 29 = .ok (.ireturn, 1) := fx_d (q := (29, .ireturn, 1)) D_MO_firstNot 17 rfl
set_option maxRecDepth 100000 in
def L_MO_changeAbove : List (Nat × Instr × Nat) := [(0, .iload_n 1, 1), (1, .iconst 1, 1), (2, .iadd, 1), (3, .istore_n 3, 1), (4, .iload_n 3, 1), (5, .aload_n 0, 1), (6, .getfield 131, 3), (9, .if_icmp .ge 35, 3), (12, .aload_n 0, 1), (13, .getfield 44, 3), (16, .iload_n 3, 1), (17, .iaload, 1), (18, .iload_n 2, 1), (19, .if_icmp .eq 19, 3), (22, .iload_n 3, 1), (23, .ifCond .eq 21, 3), (26, .aload_n 0, 1), (27, .getfield 44, 3), (30, .iload_n 3, 1), (31, .iconst 1, 1), (32, .isub, 1), (33, .iaload, 1), (34, .iload_n 2, 1), (35, .if_icmp .eq 9, 3), (38, .iinc 3 1, 3), (41, .goto (-37), 3), (44, .iload_n 3, 1), (45, .ireturn, 1)]
set_option maxRecDepth 100000 in
theorem D_MO_changeAbove : ∀ q ∈ L_MO_changeAbove, decode prog_14_method_26_code q.1 = .ok q.2 := by decide +kernel
theorem d_MO_changeAbove_0 : decode M_MO_changeAbove.2.1 0 = .ok (.iload_n 1, 1) := fx_d (q := (0, .iload_n 1, 1)) D_MO_changeAbove 0 rfl
theorem d_MO_changeAbove_1 : decode M_MO_changeAbove.2.1 1 = .ok (.iconst 1, 1) := fx_d (q := (1, .iconst 1, 1)) D_MO_changeAbove 1 rfl
theorem d_MO_changeAbove_2 : decode M_MO_changeAbove.2.1 2 = .ok (.iadd, 1) := fx_d (q := (2, .iadd, 1)) D_MO_changeAbove 2 rfl
theorem d_MO_changeAbove_3 : decode M_MO_changeAbove.2.1 3 = .ok (.istore_n 3, 1) := fx_d (q := (3, .istore_n 3, 1)) D_MO_changeAbove 3 rfl
theorem d_MO_changeAbove_4 : decode M_MO_changeAbove.2.1 4 = .ok (.iload_n 3, 1) := fx_d (q := (4, .iload_n 3, 1)) D_MO_changeAbove 4 rfl
theorem d_MO_changeAbove_5 : decode M_MO_changeAbove.2.1 5 = .ok (.aload_n 0, 1) := fx_d (q := (5, .aload_n 0, 1)) D_MO_changeAbove 5 rfl
theorem d_MO_changeAbove_6 : decode M_MO_changeAbove.2.1 6 = .ok (.getfield 131, 3) := fx_d (q := (6, .getfield 131, 3)) D_MO_changeAbove 6 rfl
theorem d_MO_changeAbove_9 : decode M_MO_changeAbove.2.1 9 = .ok (.if_icmp .ge 35, 3) := fx_d (q := (9, .if_icmp .ge 35, 3)) D_MO_changeAbove 7 rfl
theorem d_MO_changeAbove_12 : decode M_MO_changeAbove.2.1 12 = .ok (.aload_n 0, 1) := fx_d (q := (12, .aload_n 0, 1)) D_MO_changeAbove 8 rfl
theorem d_MO_changeAbove_13 : decode M_MO_changeAbove.2.1 13 = .ok (.getfield 44, 3) := fx_d (q := (13, .getfield 44, 3)) D_MO_changeAbove 9 rfl
theorem d_MO_changeAbove_16 : decode M_MO_changeAbove.2.1 16 = .ok (.iload_n 3, 1) := fx_d (q := (16, .iload_n 3, 1)) D_MO_changeAbove 10 rfl
theorem d_MO_changeAbove_17 : decode M_MO_changeAbove.2.1 17 = .ok (.iaload, 1) := fx_d (q := (17, .iaload, 1)) D_MO_changeAbove 11 rfl
theorem d_MO_changeAbove_18 : decode M_MO_changeAbove.2.1 18 = .ok (.iload_n 2, 1) := fx_d (q := (18, .iload_n 2, 1)) D_MO_changeAbove 12 rfl
theorem d_MO_changeAbove_19 : decode M_MO_changeAbove.2.1 19 = .ok (.if_icmp .eq 19, 3) := fx_d (q := (19, .if_icmp .eq 19, 3)) D_MO_changeAbove 13 rfl
theorem d_MO_changeAbove_22 : decode M_MO_changeAbove.2.1 22 = .ok (.iload_n 3, 1) := fx_d (q := (22, .iload_n 3, 1)) D_MO_changeAbove 14 rfl
theorem d_MO_changeAbove_23 : decode M_MO_changeAbove.2.1 23 = .ok (.ifCond .eq 21, 3) := fx_d (q := (23, .ifCond .eq 21, 3)) D_MO_changeAbove 15 rfl
theorem d_MO_changeAbove_26 : decode M_MO_changeAbove.2.1 26 = .ok (.aload_n 0, 1) := fx_d (q := (26, .aload_n 0, 1)) D_MO_changeAbove 16 rfl
theorem d_MO_changeAbove_27 : decode M_MO_changeAbove.2.1 27 = .ok (.getfield 44, 3) := fx_d (q := (27, .getfield 44, 3)) D_MO_changeAbove 17 rfl
theorem d_MO_changeAbove_30 : decode M_MO_changeAbove.2.1 30 = .ok (.iload_n 3, 1) := fx_d (q := (30, .iload_n 3, 1)) D_MO_changeAbove 18 rfl
theorem d_MO_changeAbove_31 : decode M_MO_changeAbove.2.1 31 = .ok (.iconst 1, 1) := fx_d (q := (31, .iconst 1, 1)) D_MO_changeAbove 19 rfl
theorem d_MO_changeAbove_32 : decode M_MO_changeAbove.2.1 32 = .ok (.isub, 1) := fx_d (q := (32, .isub, 1)) D_MO_changeAbove 20 rfl
theorem d_MO_changeAbove_33 : decode M_MO_changeAbove.2.1 33 = .ok (.iaload, 1) := fx_d (q := (33, .iaload, 1)) D_MO_changeAbove 21 rfl
theorem d_MO_changeAbove_34 : decode M_MO_changeAbove.2.1 34 = .ok (.iload_n 2, 1) := fx_d (q := (34, .iload_n 2, 1)) D_MO_changeAbove 22 rfl
theorem d_MO_changeAbove_35 : decode M_MO_changeAbove.2.1 35 = .ok (.if_icmp .eq 9, 3) := fx_d (q := (35, .if_icmp .eq 9, 3)) D_MO_changeAbove 23 rfl
theorem d_MO_changeAbove_38 : decode M_MO_changeAbove.2.1 38 = .ok (.iinc 3 1, 3) := fx_d (q := (38, .iinc 3 1, 3)) D_MO_changeAbove 24 rfl
theorem d_MO_changeAbove_41 : decode M_MO_changeAbove.2.1 41 = .ok (.goto (-37), 3) := fx_d (q := (41, .goto (-37), 3)) D_MO_changeAbove 25 rfl
theorem d_MO_changeAbove_44 : decode M_MO_changeAbove.2.1 44 = .ok (.iload_n 3, 1) := fx_d (q := (44, .iload_n 3, 1)) D_MO_changeAbove 26 rfl
theorem d_MO_changeAbove_45 : decode M_MO_changeAbove.2.1 45 = .ok (.ireturn, 1) := fx_d (q := (45, .ireturn, 1)) D_MO_changeAbove 27 rfl
set_option maxRecDepth 100000 in
def L_MO_changeBack : List (Nat × Instr × Nat) := [(0, .iload_n 1, 1), (1, .istore_n 3, 1), (2, .iload_n 3, 1), (3, .aload_n 0, 1), (4, .getfield 131, 3), (7, .if_icmp .ge 19, 3), (10, .aload_n 0, 1), (11, .getfield 44, 3), (14, .iload_n 3, 1), (15, .iaload, 1), (16, .iload_n 2, 1), (17, .if_icmp .eq 9, 3), (20, .iinc 3 1, 3), (23, .goto (-21), 3), (26, .iload_n 3, 1), (27, .ireturn, 1)]
set_option maxRecDepth 100000 in
theorem D_MO_changeBack : ∀ q ∈ L_MO_changeBack, decode prog_14_method_27_code q.1 = .ok q.2 := by decide +kernel
theorem d_MO_changeBack_0 : decode M_MO_changeBack.2.1 0 = .ok (.iload_n 1, 1) := fx_d (q := (0, .iload_n 1, 1)) D_MO_changeBack 0 rfl
theorem d_MO_changeBack_1 : decode M_MO_changeBack.2.1 1 = .ok (.istore_n 3, 1) := fx_d (q := (1, .istore_n 3, 1)) D_MO_changeBack 1 rfl
theorem d_MO_changeBack_2 : decode M_MO_changeBack.2.1 2 = .ok (.iload_n 3, 1) := fx_d (q := (2, .iload_n 3, 1)) D_MO_changeBack 2 rfl
theorem d_MO_changeBack_3 : decode M_MO_changeBack.2.1 3 = .ok (.aload_n 0, 1) := fx_d (q := (3, .aload_n 0, 1)) D_MO_changeBack 3 rfl
theorem d_MO_changeBack_4 : decode M_MO_changeBack.2.1 4 = .ok (.getfield 131, 3) := fx_d (q := (4, .getfield 131, 3)) D_MO_changeBack 4 rfl
theorem d_MO_changeBack_7 : decode M_MO_changeBack.2.1 7 = .ok (.if_icmp .ge 19, 3) := fx_d (q := (7, .if_icmp .ge 19, 3)) D_MO_changeBack 5 rfl
theorem d_MO_changeBack_10 : decode M_MO_changeBack.2.1 10 = .ok (.aload_n 0, 1) := fx_d (q := (10, .aload_n 0, 1)) D_MO_changeBack 6 rfl
theorem d_MO_changeBack_11 : decode M_MO_changeBack.2.1 11 = .ok (.getfield 44, 3) := fx_d (q := (11, .getfield 44, 3)) D_MO_changeBack 7 rfl
theorem d_MO_changeBack_14 : decode M_MO_changeBack.2.1 14 = .ok (.iload_n 3, 1) := fx_d (q := (14, .iload_n 3, 1)) D_MO_changeBack 8 rfl
theorem d_MO_changeBack_15 : decode M_MO_changeBack.2.1 15 = .ok (.iaload, 1) := fx_d (q := (15, .iaload, 1)) D_MO_changeBack 9 rfl
theorem d_MO_changeBack_16 : decode M_MO_changeBack.2.1 16 = .ok (.iload_n 2, 1) := fx_d (q := (16, .iload_n 2, 1)) D_MO_changeBack 10 rfl
theorem d_MO_changeBack_17 : decode M_MO_changeBack.2.1 17 = .ok (.if_icmp .eq 9, 3) := fx_d (q := (17, .if_icmp .eq 9, 3)) D_MO_changeBack 11 rfl
theorem d_MO_changeBack_20 : decode M_MO_changeBack.2.1 20 = .ok (.iinc 3 1, 3) := fx_d (q := (20, .iinc 3 1, 3)) D_MO_changeBack 12 rfl
theorem d_MO_changeBack_23 : decode M_MO_changeBack.2.1 23 = .ok (.goto (-21), 3) := fx_d (q := (23, .goto (-21), 3)) D_MO_changeBack 13 rfl
theorem d_MO_changeBack_26 : decode M_MO_changeBack.2.1 26 = .ok (.iload_n 3, 1) := fx_d (q := (26, .iload_n 3, 1)) D_MO_changeBack 14 rfl
theorem d_MO_changeBack_27 : decode M_MO_changeBack.2.1 27 = .ok (.ireturn, 1) := fx_d (q := (27, .ireturn, 1)) D_MO_changeBack 15 rfl
set_option maxRecDepth 100000 in
def L_MO_near : List (Nat × Instr × Nat) := [(0, .iload_n 0, 1), (1, .tableswitch 57 (-3) 2 #[39, 43, 46, 49, 51, 54], 39), (40, .sipush 130, 3), (43, .ireturn, 1), (44, .bipush 66, 2), (46, .ireturn, 1), (47, .bipush 10, 2), (49, .ireturn, 1), (50, .iconst 3, 1), (51, .ireturn, 1), (52, .bipush 11, 2), (54, .ireturn, 1), (55, .bipush 67, 2), (57, .ireturn, 1), (58, .sipush 131, 3), (61, .ireturn, 1)]
set_option maxRecDepth 100000 in
theorem D_MO_near : ∀ q ∈ L_MO_near, decode prog_14_method_29_code q.1 = .ok q.2 := by decide +kernel
theorem d_MO_near_0 : decode M_MO_near.2.1 0 = .ok (.iload_n 0, 1) := fx_d (q := (0, .iload_n 0, 1)) D_MO_near 0 rfl
theorem d_MO_near_1 : decode M_MO_near.2.1 1 = .ok (.tableswitch 57 (-3) 2 #[39, 43, 46, 49, 51, 54], 39) := fx_d (q := (1, .tableswitch 57 (-3) 2 #[39, 43, 46, 49, 51, 54], 39)) D_MO_near 1 rfl
theorem d_MO_near_40 : decode M_MO_near.2.1 40 = .ok (.sipush 130, 3) := fx_d (q := (40, .sipush 130, 3)) D_MO_near 2 rfl
theorem d_MO_near_43 : decode M_MO_near.2.1 43 = .ok (.ireturn, 1) := fx_d (q := (43, .ireturn, 1)) D_MO_near 3 rfl
theorem d_MO_near_44 : decode M_MO_near.2.1 44 = .ok (.bipush 66, 2) := fx_d (q := (44, .bipush 66, 2)) D_MO_near 4 rfl
theorem d_MO_near_46 : decode M_MO_near.2.1 46 = .ok (.ireturn, 1) := fx_d (q := (46, .ireturn, 1)) D_MO_near 5 rfl
theorem d_MO_near_47 : decode M_MO_near.2.1 47 = .ok (.bipush 10, 2) := fx_d (q := (47, .bipush 10, 2)) D_MO_near 6 rfl
theorem d_MO_near_49 : decode M_MO_near.2.1 49 = .ok (.ireturn, 1) := fx_d (q := (49, .ireturn, 1)) D_MO_near 7 rfl
theorem d_MO_near_50 : decode M_MO_near.2.1 50 = .ok (.iconst 3, 1) := fx_d (q := (50, .iconst 3, 1)) D_MO_near 8 rfl
theorem d_MO_near_51 : decode M_MO_near.2.1 51 = .ok (.ireturn, 1) := fx_d (q := (51, .ireturn, 1)) D_MO_near 9 rfl
theorem d_MO_near_52 : decode M_MO_near.2.1 52 = .ok (.bipush 11, 2) := fx_d (q := (52, .bipush 11, 2)) D_MO_near 10 rfl
theorem d_MO_near_54 : decode M_MO_near.2.1 54 = .ok (.ireturn, 1) := fx_d (q := (54, .ireturn, 1)) D_MO_near 11 rfl
theorem d_MO_near_55 : decode M_MO_near.2.1 55 = .ok (.bipush 67, 2) := fx_d (q := (55, .bipush 67, 2)) D_MO_near 12 rfl
theorem d_MO_near_57 : decode M_MO_near.2.1 57 = .ok (.ireturn, 1) := fx_d (q := (57, .ireturn, 1)) D_MO_near 13 rfl
theorem d_MO_near_58 : decode M_MO_near.2.1 58 = .ok (.sipush 131, 3) := fx_d (q := (58, .sipush 131, 3)) D_MO_near 14 rfl
theorem d_MO_near_61 : decode M_MO_near.2.1 61 = .ok (.ireturn, 1) := fx_d (q := (61, .ireturn, 1)) D_MO_near 15 rfl
set_option maxRecDepth 100000 in
def L_MO_firstAgain : List (Nat × Instr × Nat) := [(0, .iload_n 1, 1), (1, .istore_n 3, 1), (2, .iload_n 3, 1), (3, .aload_n 0, 1), (4, .getfield 131, 3), (7, .if_icmp .ge 19, 3), (10, .aload_n 0, 1), (11, .getfield 41, 3), (14, .iload_n 3, 1), (15, .iaload, 1), (16, .iload_n 2, 1), (17, .if_icmp .eq 9, 3), (20, .iinc 3 1, 3), (23, .goto (-21), 3), (26, .iload_n 3, 1), (27, .ireturn, 1)]
set_option maxRecDepth 100000 in
theorem D_MO_firstAgain : ∀ q ∈ L_MO_firstAgain, decode prog_14_method_25_code q.1 = .ok q.2 := by decide +kernel
theorem d_MO_firstAgain_0 : decode M_MO_firstAgain.2.1 0 = .ok (.iload_n 1, 1) := fx_d (q := (0, .iload_n 1, 1)) D_MO_firstAgain 0 rfl
theorem d_MO_firstAgain_1 : decode M_MO_firstAgain.2.1 1 = .ok (.istore_n 3, 1) := fx_d (q := (1, .istore_n 3, 1)) D_MO_firstAgain 1 rfl
theorem d_MO_firstAgain_2 : decode M_MO_firstAgain.2.1 2 = .ok (.iload_n 3, 1) := fx_d (q := (2, .iload_n 3, 1)) D_MO_firstAgain 2 rfl
theorem d_MO_firstAgain_3 : decode M_MO_firstAgain.2.1 3 = .ok (.aload_n 0, 1) := fx_d (q := (3, .aload_n 0, 1)) D_MO_firstAgain 3 rfl
theorem d_MO_firstAgain_4 : decode M_MO_firstAgain.2.1 4 = .ok (.getfield 131, 3) := fx_d (q := (4, .getfield 131, 3)) D_MO_firstAgain 4 rfl
theorem d_MO_firstAgain_7 : decode M_MO_firstAgain.2.1 7 = .ok (.if_icmp .ge 19, 3) := fx_d (q := (7, .if_icmp .ge 19, 3)) D_MO_firstAgain 5 rfl
theorem d_MO_firstAgain_10 : decode M_MO_firstAgain.2.1 10 = .ok (.aload_n 0, 1) := fx_d (q := (10, .aload_n 0, 1)) D_MO_firstAgain 6 rfl
theorem d_MO_firstAgain_11 : decode M_MO_firstAgain.2.1 11 = .ok (.getfield 41, 3) := fx_d (q := (11, .getfield 41, 3)) D_MO_firstAgain 7 rfl
theorem d_MO_firstAgain_14 : decode M_MO_firstAgain.2.1 14 = .ok (.iload_n 3, 1) := fx_d (q := (14, .iload_n 3, 1)) D_MO_firstAgain 8 rfl
theorem d_MO_firstAgain_15 : decode M_MO_firstAgain.2.1 15 = .ok (.iaload, 1) := fx_d (q := (15, .iaload, 1)) D_MO_firstAgain 9 rfl
theorem d_MO_firstAgain_16 : decode M_MO_firstAgain.2.1 16 = .ok (.iload_n 2, 1) := fx_d (q := (16, .iload_n 2, 1)) D_MO_firstAgain 10 rfl
theorem d_MO_firstAgain_17 : decode M_MO_firstAgain.2.1 17 = .ok (.if_icmp .eq 9, 3) := fx_d (q := (17, .if_icmp .eq 9, 3)) D_MO_firstAgain 11 rfl
theorem d_MO_firstAgain_20 : decode M_MO_firstAgain.2.1 20 = .ok (.iinc 3 1, 3) := fx_d (q := (20, .iinc 3 1, 3)) D_MO_firstAgain 12 rfl
theorem d_MO_firstAgain_23 : decode M_MO_firstAgain.2.1 23 = .ok (.goto (-21), 3) := fx_d (q := (23, .goto (-21), 3)) D_MO_firstAgain 13 rfl
theorem d_MO_firstAgain_26 : decode M_MO_firstAgain.2.1 26 = .ok (.iload_n 3, 1) := fx_d (q := (26, .iload_n 3, 1)) D_MO_firstAgain 14 rfl
theorem d_MO_firstAgain_27 : decode M_MO_firstAgain.2.1 27 = .ok (.ireturn, 1) := fx_d (q := (27, .ireturn, 1)) D_MO_firstAgain 15 rfl
set_option maxRecDepth 100000 in
def L_MO_outTags : List (Nat × Instr × Nat) := [(0, .aload_n 0, 1), (1, .aload_n 0, 1), (2, .getfield 180, 3), (5, .iconst 3, 1), (6, .if_icmp .ne 8, 3), (9, .bipush 9, 2), (11, .goto 5, 3), (14, .bipush 8, 2), (16, .iconst 2, 1), (17, .invokevirtual 209, 3), (20, .aload_n 0, 1), (21, .sipush 256, 3), (24, .iconst 0, 1), (25, .iconst 1, 1), (26, .aload_n 0, 1), (27, .getfield 131, 3), (30, .invokevirtual 212, 3), (33, .aload_n 0, 1), (34, .sipush 257, 3), (37, .iconst 0, 1), (38, .iconst 1, 1), (39, .aload_n 0, 1), (40, .getfield 216, 3), (43, .invokevirtual 212, 3), (46, .aload_n 0, 1), (47, .sipush 258, 3), (50, .iconst 0, 1), (51, .iconst 1, 1), (52, .aload_n 0, 1), (53, .getfield 128, 3), (56, .ifCond .eq 8, 3), (59, .bipush 8, 2), (61, .goto 4, 3), (64, .iconst 1, 1), (65, .invokevirtual 212, 3), (68, .aload_n 0, 1), (69, .sipush 259, 3), (72, .iconst 0, 1), (73, .iconst 1, 1), (74, .aload_n 0, 1), (75, .getfield 180, 3), (78, .invokevirtual 212, 3), (81, .aload_n 0, 1), (82, .sipush 262, 3), (85, .iconst 0, 1), (86, .iconst 1, 1), (87, .aload_n 0, 1), (88, .getfield 128, 3), (91, .ifCond .eq 7, 3), (94, .iconst 1, 1), (95, .goto 4, 3), (98, .iconst 0, 1), (99, .invokevirtual 212, 3), (102, .aload_n 0, 1), (103, .sipush 273, 3), (106, .iconst 1, 1), (107, .iload_n 1, 1), (108, .iload_n 1, 1), (109, .iconst 1, 1), (110, .if_icmp .ne 12, 3), (113, .aload_n 0, 1), (114, .getfield 56, 3), (117, .iconst 0, 1), (118, .iaload, 1), (119, .goto 4, 3), (122, .iload_n 2, 1), (123, .invokevirtual 212, 3), (126, .aload_n 0, 1), (127, .sipush 278, 3), (130, .iconst 0, 1), (131, .iconst 1, 1), (132, .aload_n 0, 1), (133, .getfield 219, 3), (136, .invokevirtual 212, 3), (139, .aload_n 0, 1), (140, .sipush 279, 3), (143, .iconst 1, 1), (144, .iload_n 1, 1), (145, .iload_n 1, 1), (146, .iconst 1, 1), (147, .if_icmp .ne 12, 3), (150, .aload_n 0, 1), (151, .getfield 59, 3), (154, .iconst 0, 1), (155, .iaload, 1), (156, .goto 8, 3), (159, .iload_n 2, 1), (160, .iconst 4, 1), (161, .iload_n 1, 1), (162, .imul, 1), (163, .iadd, 1), (164, .invokevirtual 212, 3), (167, .aload_n 0, 1), (168, .getfield 180, 3), (171, .iconst 3, 1), (172, .if_icmp .ne 13, 3), (175, .aload_n 0, 1), (176, .sipush 292, 3), (179, .iconst 1, 1), (180, .iconst 1, 1), (181, .iconst 1, 1), (182, .invokevirtual 212, 3), (185, .aload_n 0, 1), (186, .iconst 0, 1), (187, .iconst 4, 1), (188, .invokevirtual 209, 3), (191, .return_, 1)]
set_option maxRecDepth 100000 in
theorem D_MO_outTags : ∀ q ∈ L_MO_outTags, decode prog_14_method_37_code q.1 = .ok q.2 := by decide +kernel
theorem d_MO_outTags_0 : decode M_MO_outTags.2.1 0 = .ok (.aload_n 0, 1) := fx_d (q := (0, .aload_n 0, 1)) D_MO_outTags 0 rfl
theorem d_MO_outTags_1 : decode M_MO_outTags.2.1 1 = .ok (.aload_n 0, 1) := fx_d (q := (1, .aload_n 0, 1)) D_MO_outTags 1 rfl
theorem d_MO_outTags_2 : decode M_MO_outTags.2.1 2 = .ok (.getfield 180, 3) := fx_d (q := (2, .getfield 180, 3)) D_MO_outTags 2 rfl
theorem d_MO_outTags_5 : decode M_MO_outTags.2.1 5 = .ok (.iconst 3, 1) := fx_d (q := (5, .iconst 3, 1)) D_MO_outTags 3 rfl
theorem d_MO_outTags_6 : decode M_MO_outTags.2.1 6 = .ok (.if_icmp .ne 8, 3) := fx_d (q := (6, .if_icmp .ne 8, 3)) D_MO_outTags 4 rfl
theorem d_MO_outTags_9 : decode M_MO_outTags.2.1 9 = .ok (.bipush 9, 2) := fx_d (q := (9, .bipush 9, 2)) D_MO_outTags 5 rfl
theorem d_MO_outTags_11 : decode M_MO_outTags.2.1 11 = .ok (.goto 5, 3) := fx_d (q := (11, .goto 5, 3)) D_MO_outTags 6 rfl
theorem d_MO_outTags_14 : decode M_MO_outTags.2.1 14 = .ok (.bipush 8, 2) := fx_d (q := (14, .bipush 8, 2)) D_MO_outTags 7 rfl
theorem d_MO_outTags_16 : decode M_MO_outTags.2.1 16 = .ok (.iconst 2, 1) := fx_d (q := (16, .iconst 2, 1)) D_MO_outTags 8 rfl
theorem d_MO_outTags_17 : decode M_MO_outTags.2.1 17 = .ok (.invokevirtual 209, 3) := fx_d (q := (17, .invokevirtual 209, 3)) D_MO_outTags 9 rfl
theorem d_MO_outTags_20 : decode M_MO_outTags.2.1 20 = .ok (.aload_n 0, 1) := fx_d (q := (20, .aload_n 0, 1)) D_MO_outTags 10 rfl
theorem d_MO_outTags_21 : decode M_MO_outTags.2.1 21 = .ok (.sipush 256, 3) := fx_d (q := (21, .sipush 256, 3)) D_MO_outTags 11 rfl
theorem d_MO_outTags_24 : decode M_MO_outTags.2.1 24 = .ok (.iconst 0, 1) := fx_d (q := (24, .iconst 0, 1)) D_MO_outTags 12 rfl
theorem d_MO_outTags_25 : decode M_MO_outTags.2.1 25 = .ok (.iconst 1, 1) := fx_d (q := (25, .iconst 1, 1)) D_MO_outTags 13 rfl
theorem d_MO_outTags_26 : decode M_MO_outTags.2.1 26 = .ok (.aload_n 0, 1) := fx_d (q := (26, .aload_n 0, 1)) D_MO_outTags 14 rfl
theorem d_MO_outTags_27 : decode M_MO_outTags.2.1 27 = .ok (.getfield 131, 3) := fx_d (q := (27, .getfield 131, 3)) D_MO_outTags 15 rfl
theorem d_MO_outTags_30 : decode M_MO_outTags.2.1 30 = .ok (.invokevirtual 212, 3) := fx_d (q := (30, .invokevirtual 212, 3)) D_MO_outTags 16 rfl
theorem d_MO_outTags_33 : decode M_MO_outTags.2.1 33 = .ok (.aload_n 0, 1) := fx_d (q := (33, .aload_n 0, 1)) D_MO_outTags 17 rfl
theorem d_MO_outTags_34 : decode M_MO_outTags.2.1 34 = .ok (.sipush 257, 3) := fx_d (q := (34, .sipush 257, 3)) D_MO_outTags 18 rfl
theorem d_MO_outTags_37 : decode M_MO_outTags.2.1 37 = .ok (.iconst 0, 1) := fx_d (q := (37, .iconst 0, 1)) D_MO_outTags 19 rfl
theorem d_MO_outTags_38 : decode M_MO_outTags.2.1 38 = .ok (.iconst 1, 1) := fx_d (q := (38, .iconst 1, 1)) D_MO_outTags 20 rfl
theorem d_MO_outTags_39 : decode M_MO_outTags.2.1 39 = .ok (.aload_n 0, 1) := fx_d (q := (39, .aload_n 0, 1)) D_MO_outTags 21 rfl
theorem d_MO_outTags_40 : decode M_MO_outTags.2.1 40 = .ok (.getfield 216, 3) := fx_d (q := (40, .getfield 216, 3)) D_MO_outTags 22 rfl
theorem d_MO_outTags_43 : decode M_MO_outTags.2.1 43 = .ok (.invokevirtual 212, 3) := fx_d (q := (43, .invokevirtual 212, 3)) D_MO_outTags 23 rfl
theorem d_MO_outTags_46 : decode M_MO_outTags.2.1 46 = .ok (.aload_n 0, 1) := fx_d (q := (46, .aload_n 0, 1)) D_MO_outTags 24 rfl
theorem d_MO_outTags_47 : decode M_MO_outTags.2.1 47 = .ok (.sipush 258, 3) := fx_d (q := (47, .sipush 258, 3)) D_MO_outTags 25 rfl
theorem d_MO_outTags_50 : decode M_MO_outTags.2.1 50 = .ok (.iconst 0, 1) := fx_d (q := (50, .iconst 0, 1)) D_MO_outTags 26 rfl
theorem d_MO_outTags_51 : decode M_MO_outTags.2.1 51 = .ok (.iconst 1, 1) := fx_d (q := (51, .iconst 1, 1)) D_MO_outTags 27 rfl
theorem d_MO_outTags_52 : decode M_MO_outTags.2.1 52 = .ok (.aload_n 0, 1) := fx_d (q := (52, .aload_n 0, 1)) D_MO_outTags 28 rfl
theorem d_MO_outTags_53 : decode M_MO_outTags.2.1 53 = .ok (.getfield 128, 3) := fx_d (q := (53, .getfield 128, 3)) D_MO_outTags 29 rfl
theorem d_MO_outTags_56 : decode M_MO_outTags.2.1 56 = .ok (.ifCond .eq 8, 3) := fx_d (q := (56, .ifCond .eq 8, 3)) D_MO_outTags 30 rfl
theorem d_MO_outTags_59 : decode M_MO_outTags.2.1 59 = .ok (.bipush 8, 2) := fx_d (q := (59, .bipush 8, 2)) D_MO_outTags 31 rfl
theorem d_MO_outTags_61 : decode M_MO_outTags.2.1 61 = .ok (.goto 4, 3) := fx_d (q := (61, .goto 4, 3)) D_MO_outTags 32 rfl
theorem d_MO_outTags_64 : decode M_MO_outTags.2.1 64 = .ok (.iconst 1, 1) := fx_d (q := (64, .iconst 1, 1)) D_MO_outTags 33 rfl
theorem d_MO_outTags_65 : decode M_MO_outTags.2.1 65 = .ok (.invokevirtual 212, 3) := fx_d (q := (65, .invokevirtual 212, 3)) D_MO_outTags 34 rfl
theorem d_MO_outTags_68 : decode M_MO_outTags.2.1 68 = .ok (.aload_n 0, 1) := fx_d (q := (68, .aload_n 0, 1)) D_MO_outTags 35 rfl
theorem d_MO_outTags_69 : decode M_MO_outTags.2.1 69 = .ok (.sipush 259, 3) := fx_d (q := (69, .sipush 259, 3)) D_MO_outTags 36 rfl
theorem d_MO_outTags_72 : decode M_MO_outTags.2.1 72 = .ok (.iconst 0, 1) := fx_d (q := (72, .iconst 0, 1)) D_MO_outTags 37 rfl
theorem d_MO_outTags_73 : decode M_MO_outTags.2.1 73 = .ok (.iconst 1, 1) := fx_d (q := (73, .iconst 1, 1)) D_MO_outTags 38 rfl
theorem d_MO_outTags_74 : decode M_MO_outTags.2.1 74 = .ok (.aload_n 0, 1) := fx_d (q := (74, .aload_n 0, 1)) D_MO_outTags 39 rfl
theorem d_MO_outTags_75 : decode M_MO_outTags.2.1 75 = .ok (.getfield 180, 3) := fx_d (q := (75, .getfield 180, 3)) D_MO_outTags 40 rfl
theorem d_MO_outTags_78 : decode M_MO_outTags.2.1 78 = .ok (.invokevirtual 212, 3) := fx_d (q := (78, .invokevirtual 212, 3)) D_MO_outTags 41 rfl
theorem d_MO_outTags_81 : decode M_MO_outTags.2.1 81 = .ok (.aload_n 0, 1) := fx_d (q := (81, .aload_n 0, 1)) D_MO_outTags 42 rfl
theorem d_MO_outTags_82 : decode M_MO_outTags.2.1 82 = .ok (.sipush 262, 3) := fx_d (q := (82, .sipush 262, 3)) D_MO_outTags 43 rfl
theorem d_MO_outTags_85 : decode M_MO_outTags.2.1 85 = .ok (.iconst 0, 1) := fx_d (q := (85, .iconst 0, 1)) D_MO_outTags 44 rfl
theorem d_MO_outTags_86 : decode M_MO_outTags.2.1 86 = .ok (.iconst 1, 1) := fx_d (q := (86, .iconst 1, 1)) D_MO_outTags 45 rfl
theorem d_MO_outTags_87 : decode M_MO_outTags.2.1 87 = .ok (.aload_n 0, 1) := fx_d (q := (87, .aload_n 0, 1)) D_MO_outTags 46 rfl
theorem d_MO_outTags_88 : decode M_MO_outTags.2.1 88 = .ok (.getfield 128, 3) := fx_d (q := (88, .getfield 128, 3)) D_MO_outTags 47 rfl
theorem d_MO_outTags_91 : decode M_MO_outTags.2.1 91 = .ok (.ifCond .eq 7, 3) := fx_d (q := (91, .ifCond .eq 7, 3)) D_MO_outTags 48 rfl
theorem d_MO_outTags_94 : decode M_MO_outTags.2.1 94 = .ok (.iconst 1, 1) := fx_d (q := (94, .iconst 1, 1)) D_MO_outTags 49 rfl
theorem d_MO_outTags_95 : decode M_MO_outTags.2.1 95 = .ok (.goto 4, 3) := fx_d (q := (95, .goto 4, 3)) D_MO_outTags 50 rfl
theorem d_MO_outTags_98 : decode M_MO_outTags.2.1 98 = .ok (.iconst 0, 1) := fx_d (q := (98, .iconst 0, 1)) D_MO_outTags 51 rfl
theorem d_MO_outTags_99 : decode M_MO_outTags.2.1 99 = .ok (.invokevirtual 212, 3) := fx_d (q := (99, .invokevirtual 212, 3)) D_MO_outTags 52 rfl
theorem d_MO_outTags_102 : decode M_MO_outTags.2.1 102 = .ok (.aload_n 0, 1) := fx_d (q := (102, .aload_n 0, 1)) D_MO_outTags 53 rfl
theorem d_MO_outTags_103 : decode M_MO_outTags.2.1 103 = .ok (.sipush 273, 3) := fx_d (q := (103, .sipush 273, 3)) D_MO_outTags 54 rfl
theorem d_MO_outTags_106 : decode M_MO_outTags.2.1 106 = .ok (.iconst 1, 1) := fx_d (q := (106, .iconst 1, 1)) D_MO_outTags 55 rfl
theorem d_MO_outTags_107 : decode M_MO_outTags.2.1 107 = .ok (.iload_n 1, 1) := fx_d (q := (107, .iload_n 1, 1)) D_MO_outTags 56 rfl
theorem d_MO_outTags_108 : decode M_MO_outTags.2.1 108 = .ok (.iload_n 1, 1) := fx_d (q := (108, .iload_n 1, 1)) D_MO_outTags 57 rfl
theorem d_MO_outTags_109 : decode M_MO_outTags.2.1 109 = .ok (.iconst 1, 1) := fx_d (q := (109, .iconst 1, 1)) D_MO_outTags 58 rfl
theorem d_MO_outTags_110 : decode M_MO_outTags.2.1 110 = .ok (.if_icmp .ne 12, 3) := fx_d (q := (110, .if_icmp .ne 12, 3)) D_MO_outTags 59 rfl
theorem d_MO_outTags_113 : decode M_MO_outTags.2.1 113 = .ok (.aload_n 0, 1) := fx_d (q := (113, .aload_n 0, 1)) D_MO_outTags 60 rfl
theorem d_MO_outTags_114 : decode M_MO_outTags.2.1 114 = .ok (.getfield 56, 3) := fx_d (q := (114, .getfield 56, 3)) D_MO_outTags 61 rfl
theorem d_MO_outTags_117 : decode M_MO_outTags.2.1 117 = .ok (.iconst 0, 1) := fx_d (q := (117, .iconst 0, 1)) D_MO_outTags 62 rfl
theorem d_MO_outTags_118 : decode M_MO_outTags.2.1 118 = .ok (.iaload, 1) := fx_d (q := (118, .iaload, 1)) D_MO_outTags 63 rfl
theorem d_MO_outTags_119 : decode M_MO_outTags.2.1 119 = .ok (.goto 4, 3) := fx_d (q := (119, .goto 4, 3)) D_MO_outTags 64 rfl
theorem d_MO_outTags_122 : decode M_MO_outTags.2.1 122 = .ok (.iload_n 2, 1) := fx_d (q := (122, .iload_n 2, 1)) D_MO_outTags 65 rfl
theorem d_MO_outTags_123 : decode M_MO_outTags.2.1 123 = .ok (.invokevirtual 212, 3) := fx_d (q := (123, .invokevirtual 212, 3)) D_MO_outTags 66 rfl
theorem d_MO_outTags_126 : decode M_MO_outTags.2.1 126 = .ok (.aload_n 0, 1) := fx_d (q := (126, .aload_n 0, 1)) D_MO_outTags 67 rfl
theorem d_MO_outTags_127 : decode M_MO_outTags.2.1 127 = .ok (.sipush 278, 3) := fx_d (q := (127, .sipush 278, 3)) D_MO_outTags 68 rfl
theorem d_MO_outTags_130 : decode M_MO_outTags.2.1 130 = .ok (.iconst 0, 1) := fx_d (q := (130, .iconst 0, 1)) D_MO_outTags 69 rfl
theorem d_MO_outTags_131 : decode M_MO_outTags.2.1 131 = .ok (.iconst 1, 1) := fx_d (q := (131, .iconst 1, 1)) D_MO_outTags 70 rfl
theorem d_MO_outTags_132 : decode M_MO_outTags.2.1 132 = .ok (.aload_n 0, 1) := fx_d (q := (132, .aload_n 0, 1)) D_MO_outTags 71 rfl
theorem d_MO_outTags_133 : decode M_MO_outTags.2.1 133 = .ok (.getfield 219, 3) := fx_d (q := (133, .getfield 219, 3)) D_MO_outTags 72 rfl
theorem d_MO_outTags_136 : decode M_MO_outTags.2.1 136 = .ok (.invokevirtual 212, 3) := fx_d (q := (136, .invokevirtual 212, 3)) D_MO_outTags 73 rfl
theorem d_MO_outTags_139 : decode M_MO_outTags.2.1 139 = .ok (.aload_n 0, 1) := fx_d (q := (139, .aload_n 0, 1)) D_MO_outTags 74 rfl
theorem d_MO_outTags_140 : decode M_MO_outTags.2.1 140 = .ok (.sipush 279, 3) := fx_d (q := (140, .sipush 279, 3)) D_MO_outTags 75 rfl
theorem d_MO_outTags_143 : decode M_MO_outTags.2.1 143 = .ok (.iconst 1, 1) := fx_d (q := (143, .iconst 1, 1)) D_MO_outTags 76 rfl
theorem d_MO_outTags_144 : decode M_MO_outTags.2.1 144 = .ok (.iload_n 1, 1) := fx_d (q := (144, .iload_n 1, 1)) D_MO_outTags 77 rfl
theorem d_MO_outTags_145 : decode M_MO_outTags.2.1 145 = .ok (.iload_n 1, 1) := fx_d (q := (145, .iload_n 1, 1)) D_MO_outTags 78 rfl
theorem d_MO_outTags_146 : decode M_MO_outTags.2.1 146 = .ok (.iconst 1, 1) := fx_d (q := (146, .iconst 1, 1)) D_MO_outTags 79 rfl
theorem d_MO_outTags_147 : decode M_MO_outTags.2.1 147 = .ok (.if_icmp .ne 12, 3) := fx_d (q := (147, .if_icmp .ne 12, 3)) D_MO_outTags 80 rfl
theorem d_MO_outTags_150 : decode M_MO_outTags.2.1 150 = .ok (.aload_n 0, 1) := fx_d (q := (150, .aload_n 0, 1)) D_MO_outTags 81 rfl
theorem d_MO_outTags_151 : decode M_MO_outTags.2.1 151 = .ok (.getfield 59, 3) := fx_d (q := (151, .getfield 59, 3)) D_MO_outTags 82 rfl
theorem d_MO_outTags_154 : decode M_MO_outTags.2.1 154 = .ok (.iconst 0, 1) := fx_d (q := (154, .iconst 0, 1)) D_MO_outTags 83 rfl
theorem d_MO_outTags_155 : decode M_MO_outTags.2.1 155 = .ok (.iaload, 1) := fx_d (q := (155, .iaload, 1)) D_MO_outTags 84 rfl
theorem d_MO_outTags_156 : decode M_MO_outTags.2.1 156 = .ok (.goto 8, 3) := fx_d (q := (156, .goto 8, 3)) D_MO_outTags 85 rfl
theorem d_MO_outTags_159 : decode M_MO_outTags.2.1 159 = .ok (.iload_n 2, 1) := fx_d (q := (159, .iload_n 2, 1)) D_MO_outTags 86 rfl
theorem d_MO_outTags_160 : decode M_MO_outTags.2.1 160 = .ok (.iconst 4, 1) := fx_d (q := (160, .iconst 4, 1)) D_MO_outTags 87 rfl
theorem d_MO_outTags_161 : decode M_MO_outTags.2.1 161 = .ok (.iload_n 1, 1) := fx_d (q := (161, .iload_n 1, 1)) D_MO_outTags 88 rfl
theorem d_MO_outTags_162 : decode M_MO_outTags.2.1 162 = .ok (.imul, 1) := fx_d (q := (162, .imul, 1)) D_MO_outTags 89 rfl
theorem d_MO_outTags_163 : decode M_MO_outTags.2.1 163 = .ok (.iadd, 1) := fx_d (q := (163, .iadd, 1)) D_MO_outTags 90 rfl
theorem d_MO_outTags_164 : decode M_MO_outTags.2.1 164 = .ok (.invokevirtual 212, 3) := fx_d (q := (164, .invokevirtual 212, 3)) D_MO_outTags 91 rfl
theorem d_MO_outTags_167 : decode M_MO_outTags.2.1 167 = .ok (.aload_n 0, 1) := fx_d (q := (167, .aload_n 0, 1)) D_MO_outTags 92 rfl
theorem d_MO_outTags_168 : decode M_MO_outTags.2.1 168 = .ok (.getfield 180, 3) := fx_d (q := (168, .getfield 180, 3)) D_MO_outTags 93 rfl
theorem d_MO_outTags_171 : decode M_MO_outTags.2.1 171 = .ok (.iconst 3, 1) := fx_d (q := (171, .iconst 3, 1)) D_MO_outTags 94 rfl
theorem d_MO_outTags_172 : decode M_MO_outTags.2.1 172 = .ok (.if_icmp .ne 13, 3) := fx_d (q := (172, .if_icmp .ne 13, 3)) D_MO_outTags 95 rfl
theorem d_MO_outTags_175 : decode M_MO_outTags.2.1 175 = .ok (.aload_n 0, 1) := fx_d (q := (175, .aload_n 0, 1)) D_MO_outTags 96 rfl
theorem d_MO_outTags_176 : decode M_MO_outTags.2.1 176 = .ok (.sipush 292, 3) := fx_d (q := (176, .sipush 292, 3)) D_MO_outTags 97 rfl
theorem d_MO_outTags_179 : decode M_MO_outTags.2.1 179 = .ok (.iconst 1, 1) := fx_d (q := (179, .iconst 1, 1)) D_MO_outTags 98 rfl
theorem d_MO_outTags_180 : decode M_MO_outTags.2.1 180 = .ok (.iconst 1, 1) := fx_d (q := (180, .iconst 1, 1)) D_MO_outTags 99 rfl
theorem d_MO_outTags_181 : decode M_MO_outTags.2.1 181 = .ok (.iconst 1, 1) := fx_d (q := (181, .iconst 1, 1)) D_MO_outTags 100 rfl
theorem d_MO_outTags_182 : decode M_MO_outTags.2.1 182 = .ok (.invokevirtual 212, 3) := fx_d (q := (182, .invokevirtual 212, 3)) D_MO_outTags 101 rfl
theorem d_MO_outTags_185 : decode M_MO_outTags.2.1 185 = .ok (.aload_n 0, 1) := fx_d (q := (185, .aload_n 0, 1)) D_MO_outTags 102 rfl
theorem d_MO_outTags_186 : decode M_MO_outTags.2.1 186 = .ok (.iconst 0, 1) := fx_d (q := (186, .iconst 0, 1)) D_MO_outTags 103 rfl
theorem d_MO_outTags_187 : decode M_MO_outTags.2.1 187 = .ok (.iconst 4, 1) := fx_d (q := (187, .iconst 4, 1)) D_MO_outTags 104 rfl
theorem d_MO_outTags_188 : decode M_MO_outTags.2.1 188 = .ok (.invokevirtual 209, 3) := fx_d (q := (188, .invokevirtual 209, 3)) D_MO_outTags 105 rfl
theorem d_MO_outTags_191 : decode M_MO_outTags.2.1 191 = .ok (.return_, 1) := fx_d (q := (191, .return_, 1)) D_MO_outTags 106 rfl
set_option maxRecDepth 100000 in
def L_MO_outTag : List (Nat × Instr × Nat) := [(0, .aload_n 0, 1), (1, .iload_n 1, 1), (2, .iconst 2, 1), (3, .invokevirtual 209, 3), (6, .aload_n 0, 1), (7, .iload_n 2, 1), (8, .ifCond .eq 7, 3), (11, .iconst 4, 1), (12, .goto 4, 3), (15, .iconst 3, 1), (16, .iconst 2, 1), (17, .invokevirtual 209, 3), (20, .aload_n 0, 1), (21, .iload_n 3, 1), (22, .iconst 4, 1), (23, .invokevirtual 209, 3), (26, .aload_n 0, 1), (27, .iload 4, 2), (29, .iload_n 2, 1), (30, .ifCond .eq 7, 3), (33, .iconst 4, 1), (34, .goto 4, 3), (37, .iconst 2, 1), (38, .invokevirtual 209, 3), (41, .iload_n 2, 1), (42, .ifCond .ne 13, 3), (45, .aload_n 0, 1), (46, .iconst 0, 1), (47, .invokevirtual 111, 3), (50, .aload_n 0, 1), (51, .iconst 0, 1), (52, .invokevirtual 111, 3), (55, .return_, 1)]
set_option maxRecDepth 100000 in
theorem D_MO_outTag : ∀ q ∈ L_MO_outTag, decode prog_14_method_36_code q.1 = .ok q.2 := by decide +kernel
theorem d_MO_outTag_0 : decode M_MO_outTag.2.1 0 = .ok (.aload_n 0, 1) := fx_d (q := (0, .aload_n 0, 1)) D_MO_outTag 0 rfl
theorem d_MO_outTag_1 : decode M_MO_outTag.2.1 1 = .ok (.iload_n 1, 1) := fx_d (q := (1, .iload_n 1, 1)) D_MO_outTag 1 rfl
theorem d_MO_outTag_2 : decode M_MO_outTag.2.1 2 = .ok (.iconst 2, 1) := fx_d (q := (2, .iconst 2, 1)) D_MO_outTag 2 rfl
theorem d_MO_outTag_3 : decode M_MO_outTag.2.1 3 = .ok (.invokevirtual 209, 3) := fx_d (q := (3, .invokevirtual 209, 3)) D_MO_outTag 3 rfl
theorem d_MO_outTag_6 : decode M_MO_outTag.2.1 6 = .ok (.aload_n 0, 1) := fx_d (q := (6, .aload_n 0, 1)) D_MO_outTag 4 rfl
theorem d_MO_outTag_7 : decode M_MO_outTag.2.1 7 = .ok (.iload_n 2, 1) := fx_d (q := (7, .iload_n 2, 1)) D_MO_outTag 5 rfl
theorem d_MO_outTag_8 : decode M_MO_outTag.2.1 8 = .ok (.ifCond .eq 7, 3) := fx_d (q := (8, .ifCond .eq 7, 3)) D_MO_outTag 6 rfl
theorem d_MO_outTag_11 : decode M_MO_outTag.2.1 11 = .ok (.iconst 4, 1) := fx_d (q := (11, .iconst 4, 1)) D_MO_outTag 7 rfl
theorem d_MO_outTag_12 : decode M_MO_outTag.2.1 12 = .ok (.goto 4, 3) := fx_d (q := (12, .goto 4, 3)) D_MO_outTag 8 rfl
theorem d_MO_outTag_15 : decode M_MO_outTag.2.1 15 = .ok (.iconst 3, 1) := fx_d (q := (15, .iconst 3, 1)) D_MO_outTag 9 rfl
theorem d_MO_outTag_16 : decode M_MO_outTag.2.1 16 = .ok (.iconst 2, 1) := fx_d (q := (16, .iconst 2, 1)) D_MO_outTag 10 rfl
theorem d_MO_outTag_17 : decode M_MO_outTag.2.1 17 = .ok (.invokevirtual 209, 3) := fx_d (q := (17, .invokevirtual 209, 3)) D_MO_outTag 11 rfl
theorem d_MO_outTag_20 : decode M_MO_outTag.2.1 20 = .ok (.aload_n 0, 1) := fx_d (q := (20, .aload_n 0, 1)) D_MO_outTag 12 rfl
theorem d_MO_outTag_21 : decode M_MO_outTag.2.1 21 = .ok (.iload_n 3, 1) := fx_d (q := (21, .iload_n 3, 1)) D_MO_outTag 13 rfl
theorem d_MO_outTag_22 : decode M_MO_outTag.2.1 22 = .ok (.iconst 4, 1) := fx_d (q := (22, .iconst 4, 1)) D_MO_outTag 14 rfl
theorem d_MO_outTag_23 : decode M_MO_outTag.2.1 23 = .ok (.invokevirtual 209, 3) := fx_d (q := (23, .invokevirtual 209, 3)) D_MO_outTag 15 rfl
theorem d_MO_outTag_26 : decode M_MO_outTag.2.1 26 = .ok (.aload_n 0, 1) := fx_d (q := (26, .aload_n 0, 1)) D_MO_outTag 16 rfl
theorem d_MO_outTag_27 : decode M_MO_outTag.2.1 27 = .ok (.iload 4, 2) := fx_d (q := (27, .iload 4, 2)) D_MO_outTag 17 rfl
theorem d_MO_outTag_29 : decode M_MO_outTag.2.1 29 = .ok (.iload_n 2, 1) := fx_d (q := (29, .iload_n 2, 1)) D_MO_outTag 18 rfl
theorem d_MO_outTag_30 : decode M_MO_outTag.2.1 30 = .ok (.ifCond .eq 7, 3) := fx_d (q := (30, .ifCond .eq 7, 3)) D_MO_outTag 19 rfl
theorem d_MO_outTag_33 : decode M_MO_outTag.2.1 33 = .ok (.iconst 4, 1) := fx_d (q := (33, .iconst 4, 1)) D_MO_outTag 20 rfl
theorem d_MO_outTag_34 : decode M_MO_outTag.2.1 34 = .ok (.goto 4, 3) := fx_d (q := (34, .goto 4, 3)) D_MO_outTag 21 rfl
theorem d_MO_outTag_37 : decode M_MO_outTag.2.1 37 = .ok (.iconst 2, 1) := fx_d (q := (37, .iconst 2, 1)) D_MO_outTag 22 rfl
theorem d_MO_outTag_38 : decode M_MO_outTag.2.1 38 = .ok (.invokevirtual 209, 3) := fx_d (q := (38, .invokevirtual 209, 3)) D_MO_outTag 23 rfl
theorem d_MO_outTag_41 : decode M_MO_outTag.2.1 41 = .ok (.iload_n 2, 1) := fx_d (q := (41, .iload_n 2, 1)) D_MO_outTag 24 rfl
theorem d_MO_outTag_42 : decode M_MO_outTag.2.1 42 = .ok (.ifCond .ne 13, 3) := fx_d (q := (42, .ifCond .ne 13, 3)) D_MO_outTag 25 rfl
theorem d_MO_outTag_45 : decode M_MO_outTag.2.1 45 = .ok (.aload_n 0, 1) := fx_d (q := (45, .aload_n 0, 1)) D_MO_outTag 26 rfl
theorem d_MO_outTag_46 : decode M_MO_outTag.2.1 46 = .ok (.iconst 0, 1) := fx_d (q := (46, .iconst 0, 1)) D_MO_outTag 27 rfl
theorem d_MO_outTag_47 : decode M_MO_outTag.2.1 47 = .ok (.invokevirtual 111, 3) := fx_d (q := (47, .invokevirtual 111, 3)) D_MO_outTag 28 rfl
theorem d_MO_outTag_50 : decode M_MO_outTag.2.1 50 = .ok (.aload_n 0, 1) := fx_d (q := (50, .aload_n 0, 1)) D_MO_outTag 29 rfl
theorem d_MO_outTag_51 : decode M_MO_outTag.2.1 51 = .ok (.iconst 0, 1) := fx_d (q := (51, .iconst 0, 1)) D_MO_outTag 30 rfl
theorem d_MO_outTag_52 : decode M_MO_outTag.2.1 52 = .ok (.invokevirtual 111, 3) := fx_d (q := (52, .invokevirtual 111, 3)) D_MO_outTag 31 rfl
theorem d_MO_outTag_55 : decode M_MO_outTag.2.1 55 = .ok (.return_, 1) := fx_d (q := (55, .return_, 1)) D_MO_outTag 32 rfl
set_option maxRecDepth 100000 in
def L_MO_note : List (Nat × Instr × Nat) := [(0, .aload_n 0, 1), (1, .aload_n 0, 1), (2, .getfield 180, 3), (5, .putfield 23, 3), (8, .aload_n 0, 1), (9, .aload_n 0, 1), (10, .getfield 108, 3), (13, .ifCond .eq 7, 3), (16, .iconst 1, 1), (17, .goto 4, 3), (20, .iconst 0, 1), (21, .putfield 26, 3), (24, .aload_n 0, 1), (25, .aload_n 0, 1), (26, .getfield 219, 3), (29, .putfield 29, 3), (32, .aload_n 0, 1), (33, .iload_n 1, 1), (34, .putfield 32, 3), (37, .return_, 1)]
set_option maxRecDepth 100000 in
theorem D_MO_note : ∀ q ∈ L_MO_note, decode prog_14_method_39_code q.1 = .ok q.2 := by decide +kernel
theorem d_MO_note_0 : decode M_MO_note.2.1 0 = .ok (.aload_n 0, 1) := fx_d (q := (0, .aload_n 0, 1)) D_MO_note 0 rfl
theorem d_MO_note_1 : decode M_MO_note.2.1 1 = .ok (.aload_n 0, 1) := fx_d (q := (1, .aload_n 0, 1)) D_MO_note 1 rfl
theorem d_MO_note_2 : decode M_MO_note.2.1 2 = .ok (.getfield 180, 3) := fx_d (q := (2, .getfield 180, 3)) D_MO_note 2 rfl
theorem d_MO_note_5 : decode M_MO_note.2.1 5 = .ok (.putfield 23, 3) := fx_d (q := (5, .putfield 23, 3)) D_MO_note 3 rfl
theorem d_MO_note_8 : decode M_MO_note.2.1 8 = .ok (.aload_n 0, 1) := fx_d (q := (8, .aload_n 0, 1)) D_MO_note 4 rfl
theorem d_MO_note_9 : decode M_MO_note.2.1 9 = .ok (.aload_n 0, 1) := fx_d (q := (9, .aload_n 0, 1)) D_MO_note 5 rfl
theorem d_MO_note_10 : decode M_MO_note.2.1 10 = .ok (.getfield 108, 3) := fx_d (q := (10, .getfield 108, 3)) D_MO_note 6 rfl
theorem d_MO_note_13 : decode M_MO_note.2.1 13 = .ok (.ifCond .eq 7, 3) := fx_d (q := (13, .ifCond .eq 7, 3)) D_MO_note 7 rfl
theorem d_MO_note_16 : decode M_MO_note.2.1 16 = .ok (.iconst 1, 1) := fx_d (q := (16, .iconst 1, 1)) D_MO_note 8 rfl
theorem d_MO_note_17 : decode M_MO_note.2.1 17 = .ok (.goto 4, 3) := fx_d (q := (17, .goto 4, 3)) D_MO_note 9 rfl
theorem d_MO_note_20 : decode M_MO_note.2.1 20 = .ok (.iconst 0, 1) := fx_d (q := (20, .iconst 0, 1)) D_MO_note 10 rfl
theorem d_MO_note_21 : decode M_MO_note.2.1 21 = .ok (.putfield 26, 3) := fx_d (q := (21, .putfield 26, 3)) D_MO_note 11 rfl
theorem d_MO_note_24 : decode M_MO_note.2.1 24 = .ok (.aload_n 0, 1) := fx_d (q := (24, .aload_n 0, 1)) D_MO_note 12 rfl
theorem d_MO_note_25 : decode M_MO_note.2.1 25 = .ok (.aload_n 0, 1) := fx_d (q := (25, .aload_n 0, 1)) D_MO_note 13 rfl
theorem d_MO_note_26 : decode M_MO_note.2.1 26 = .ok (.getfield 219, 3) := fx_d (q := (26, .getfield 219, 3)) D_MO_note 14 rfl
theorem d_MO_note_29 : decode M_MO_note.2.1 29 = .ok (.putfield 29, 3) := fx_d (q := (29, .putfield 29, 3)) D_MO_note 15 rfl
theorem d_MO_note_32 : decode M_MO_note.2.1 32 = .ok (.aload_n 0, 1) := fx_d (q := (32, .aload_n 0, 1)) D_MO_note 16 rfl
theorem d_MO_note_33 : decode M_MO_note.2.1 33 = .ok (.iload_n 1, 1) := fx_d (q := (33, .iload_n 1, 1)) D_MO_note 17 rfl
theorem d_MO_note_34 : decode M_MO_note.2.1 34 = .ok (.putfield 32, 3) := fx_d (q := (34, .putfield 32, 3)) D_MO_note 18 rfl
theorem d_MO_note_37 : decode M_MO_note.2.1 37 = .ok (.return_, 1) := fx_d (q := (37, .return_, 1)) D_MO_note 19 rfl
