set_option maxRecDepth 100000 in
def L_FX_init : List (Nat × Instr × Nat) := [(0, .aload_n 0, 1), (1, .invokespecial 1, 3), (4, .aload_n 0, 1), (5, .iload_n 1, 1), (6, .putfield 7, 3), (9, .aload_n 0, 1), (10, .aload_n 2, 1), (11, .putfield 13, 3), (14, .aload_n 0, 1), (15, .aload_n 3, 1), (16, .putfield 17, 3), (19, .aload_n 0, 1), (20, .aload 4, 2), (22, .putfield 21, 3), (25, .return_, 1)]
set_option maxRecDepth 100000 in
theorem D_FX_init : ∀ q ∈ L_FX_init, decode prog_5_method_1_code q.1 = .ok q.2 := by decide +kernel
theorem d_FX_init_0 : decode M_FX_init.2.1 0 = .ok (.aload_n 0, 1) := fx_d (q := (0, .aload_n 0, 1)) D_FX_init 0 rfl
theorem d_FX_init_1 : decode M_FX_init.2.1 1 = .ok (.invokespecial 1, 3) := fx_d (q := (1, .invokespecial 1, 3)) D_FX_init 1 rfl
theorem d_FX_init_4 : decode M_FX_init.2.1 4 = .ok (.aload_n 0, 1) := fx_d (q := (4, .aload_n 0, 1)) D_FX_init 2 rfl
theorem d_FX_init_5 : decode M_FX_init.2.1 5 = .ok (.iload_n 1, 1) := fx_d (q := (5, .iload_n 1, 1)) D_FX_init 3 rfl
theorem d_FX_init_6 : decode M_FX_init.2.1 6 = .ok (.putfield 7, 3) := fx_d (q := (6, .putfield 7, 3)) D_FX_init 4 rfl
theorem d_FX_init_9 : decode M_FX_init.2.1 9 = .ok (.aload_n 0, 1) := fx_d (q := (9, .aload_n 0, 1)) D_FX_init 5 rfl
theorem d_FX_init_10 : decode M_FX_init.2.1 10 = .ok (.aload_n 2, 1) := fx_d (q := (10, .aload_n 2, 1)) D_FX_init 6 rfl
theorem d_FX_init_11 : decode M_FX_init.2.1 11 = .ok (.putfield 13, 3) := fx_d (q := (11, .putfield 13, 3)) D_FX_init 7 rfl
theorem d_FX_init_14 : decode M_FX_init.2.1 14 = .ok (.aload_n 0, 1) := fx_d (q := (14, .aload_n 0, 1)) D_FX_init 8 rfl
theorem d_FX_init_15 : decode M_FX_init.2.1 15 = .ok (.aload_n 3, 1) := fx_d (q := (15, .aload_n 3, 1)) D_FX_init 9 rfl
theorem d_FX_init_16 : decode M_FX_init.2.1 16 = .ok (.putfield 17, 3) := fx_d (q := (16, .putfield 17, 3)) D_FX_init 10 rfl
theorem d_FX_init_19 : decode M_FX_init.2.1 19 = .ok (.aload_n 0, 1) := fx_d (q := (19, .aload_n 0, 1)) D_FX_init 11 rfl
theorem d_FX_init_20 : decode M_FX_init.2.1 20 = .ok (.aload 4, 2) := fx_d (q := (20, .aload 4, 2)) D_FX_init 12 rfl
theorem d_FX_init_22 : decode M_FX_init.2.1 22 = .ok (.putfield 21, 3) := fx_d (q := (22, .putfield 21, 3)) D_FX_init 13 rfl
theorem d_FX_init_25 : decode M_FX_init.2.1 25 = .ok (.return_, 1) := fx_d (q := (25, .return_, 1)) D_FX_init 14 rfl
set_option maxRecDepth 100000 in
def L_FX_unpack : List (Nat × Instr × Nat) := [(0, .iload_n 2, 1), (1, .istore 4, 2), (3, .iload 4, 2), (5, .iload_n 3, 1), (6, .if_icmp .ge 103, 3), (9, .aload_n 0, 1), (10, .getfield 7, 3), (13, .ifCond .eq 10, 3), (16, .aload_n 0, 1), (17, .invokevirtual 44, 3), (20, .goto 4, 3), (23, .iconst 0, 1), (24, .istore 5, 2), (26, .iload 5, 2), (28, .ifCond .lt 21, 3), (31, .aload_n 0, 1), (32, .getfield 7, 3), (35, .ifCond .eq 16, 3), (38, .iload 4, 2), (40, .iload_n 2, 1), (41, .if_icmp .ne 10, 3), (44, .iload 5, 2), (46, .ifCond .ne 5, 3), (49, .iconst 0, 1), (50, .ireturn, 1), (51, .iload 5, 2), (53, .iconst 1, 1), (54, .if_icmp .ne 16, 3), (57, .aload_n 0, 1), (58, .getfield 13, 3), (61, .aload_n 1, 1), (62, .iload 4, 2), (64, .invokevirtual 48, 3), (67, .goto 27, 3), (70, .aload_n 0, 1), (71, .getfield 13, 3), (74, .aload_n 1, 1), (75, .iload 4, 2), (77, .iload 4, 2), (79, .iload_n 2, 1), (80, .if_icmp .ne 7, 3), (83, .iconst (-1), 1), (84, .goto 7, 3), (87, .iload 4, 2), (89, .iconst 1, 1), (90, .isub, 1), (91, .invokevirtual 52, 3), (94, .istore 6, 2), (96, .iload 6, 2), (98, .ifCond .ne 5, 3), (101, .iconst 0, 1), (102, .ireturn, 1), (103, .iinc 4 1, 3), (106, .goto (-103), 3), (109, .aload_n 0, 1), (110, .getfield 7, 3), (113, .ifCond .ne 17, 3), (116, .aload_n 0, 1), (117, .invokevirtual 56, 3), (120, .ifCond .eq 24, 3), (123, .aload_n 0, 1), (124, .invokevirtual 56, 3), (127, .ifCond .eq 17, 3), (130, .aload_n 0, 1), (131, .getfield 21, 3), (134, .invokevirtual 60, 3), (137, .ifCond .eq 7, 3), (140, .iconst 1, 1), (141, .goto 4, 3), (144, .iconst 0, 1), (145, .ireturn, 1)]
set_option maxRecDepth 100000 in
theorem D_FX_unpack : ∀ q ∈ L_FX_unpack, decode prog_5_method_3_code q.1 = .ok q.2 := by decide +kernel
theorem d_FX_unpack_0 : decode M_FX_unpack.2.1 0 = .ok (.iload_n 2, 1) := fx_d (q := (0, .iload_n 2, 1)) D_FX_unpack 0 rfl
theorem d_FX_unpack_1 : decode M_FX_unpack.2.1 1 = .ok (.istore 4, 2) := fx_d (q := (1, .istore 4, 2)) D_FX_unpack 1 rfl
theorem d_FX_unpack_3 : decode M_FX_unpack.2.1 3 = .ok (.iload 4, 2) := fx_d (q := (3, .iload 4, 2)) D_FX_unpack 2 rfl
theorem d_FX_unpack_5 : decode M_FX_unpack.2.1 5 = .ok (.iload_n 3, 1) := fx_d (q := (5, .iload_n 3, 1)) D_FX_unpack 3 rfl
theorem d_FX_unpack_6 : decode M_FX_unpack.2.1 6 = .ok (.if_icmp .ge 103, 3) := fx_d (q := (6, .if_icmp .ge 103, 3)) D_FX_unpack 4 rfl
theorem d_FX_unpack_9 : decode M_FX_unpack.2.1 9 = .ok (.aload_n 0, 1) := fx_d (q := (9, .aload_n 0, 1)) D_FX_unpack 5 rfl
theorem d_FX_unpack_10 : decode M_FX_unpack.2.1 10 = .ok (.getfield 7, 3) := fx_d (q := (10, .getfield 7, 3)) D_FX_unpack 6 rfl
theorem d_FX_unpack_13 : decode M_FX_unpack.2.1 13 = .ok (.ifCond .eq 10, 3) := fx_d (q := (13, .ifCond .eq 10, 3)) D_FX_unpack 7 rfl
theorem d_FX_unpack_16 : decode M_FX_unpack.2.1 16 = .ok (.aload_n 0, 1) := fx_d (q := (16, .aload_n 0, 1)) D_FX_unpack 8 rfl
theorem d_FX_unpack_17 : decode M_FX_unpack.2.1 17 = .ok (.invokevirtual 44, 3) := fx_d (q := (17, .invokevirtual 44, 3)) D_FX_unpack 9 rfl
theorem d_FX_unpack_20 : decode M_FX_unpack.2.1 20 = .ok (.goto 4, 3) := fx_d (q := (20, .goto 4, 3)) D_FX_unpack 10 rfl
theorem d_FX_unpack_23 : decode M_FX_unpack.2.1 23 = .ok (.iconst 0, 1) := fx_d (q := (23, .iconst 0, 1)) D_FX_unpack 11 rfl
theorem d_FX_unpack_24 : decode M_FX_unpack.2.1 24 = .ok (.istore 5, 2) := fx_d (q := (24, .istore 5, 2)) D_FX_unpack 12 rfl
theorem d_FX_unpack_26 : decode M_FX_unpack.2.1 26 = .ok (.iload 5, 2) := fx_d (q := (26, .iload 5, 2)) D_FX_unpack 13 rfl
theorem d_FX_unpack_28 : decode M_FX_unpack.2.1 28 = .ok (.ifCond .lt 21, 3) := fx_d (q := (28, .ifCond .lt 21, 3)) D_FX_unpack 14 rfl
theorem d_FX_unpack_31 : decode M_FX_unpack.2.1 31 = .ok (.aload_n 0, 1) := fx_d (q := (31, .aload_n 0, 1)) D_FX_unpack 15 rfl
theorem d_FX_unpack_32 : decode M_FX_unpack.2.1 32 = .ok (.getfield 7, 3) := fx_d (q := (32, .getfield 7, 3)) D_FX_unpack 16 rfl
theorem d_FX_unpack_35 : decode M_FX_unpack.2.1 35 = .ok (.ifCond .eq 16, 3) := fx_d (q := (35, .ifCond .eq 16, 3)) D_FX_unpack 17 rfl
theorem d_FX_unpack_38 : decode M_FX_unpack.2.1 38 = .ok (.iload 4, 2) := fx_d (q := (38, .iload 4, 2)) D_FX_unpack 18 rfl
theorem d_FX_unpack_40 : decode M_FX_unpack.2.1 40 = .ok (.iload_n 2, 1) := fx_d (q := (40, .iload_n 2, 1)) D_FX_unpack 19 rfl
theorem d_FX_unpack_41 : decode M_FX_unpack.2.1 41 = .ok (.if_icmp .ne 10, 3) := fx_d (q := (41, .if_icmp .ne 10, 3)) D_FX_unpack 20 rfl
theorem d_FX_unpack_44 : decode M_FX_unpack.2.1 44 = .ok (.iload 5, 2) := fx_d (q := (44, .iload 5, 2)) D_FX_unpack 21 rfl
theorem d_FX_unpack_46 : decode M_FX_unpack.2.1 46 = .ok (.ifCond .ne 5, 3) := fx_d (q := (46, .ifCond .ne 5, 3)) D_FX_unpack 22 rfl
theorem d_FX_unpack_49 : decode M_FX_unpack.2.1 49 = .ok (.iconst 0, 1) := fx_d (q := (49, .iconst 0, 1)) D_FX_unpack 23 rfl
theorem d_FX_unpack_50 : decode M_FX_unpack.2.1 50 = .ok (.ireturn, 1) := fx_d (q := (50, .ireturn, 1)) D_FX_unpack 24 rfl
theorem d_FX_unpack_51 : decode M_FX_unpack.2.1 51 = .ok (.iload 5, 2) := fx_d (q := (51, .iload 5, 2)) D_FX_unpack 25 rfl
theorem d_FX_unpack_53 : decode M_FX_unpack.2.1 53 = .ok (.iconst 1, 1) := fx_d (q := (53, .iconst 1, 1)) D_FX_unpack 26 rfl
theorem d_FX_unpack_54 : decode M_FX_unpack.2.1 54 = .ok (.if_icmp .ne 16, 3) := fx_d (q := (54, .if_icmp .ne 16, 3)) D_FX_unpack 27 rfl
theorem d_FX_unpack_57 : decode M_FX_unpack.2.1 57 = .ok (.aload_n 0, 1) := fx_d (q := (57, .aload_n 0, 1)) D_FX_unpack 28 rfl
theorem d_FX_unpack_58 : decode M_FX_unpack.2.1 58 = .ok (.getfield 13, 3) := fx_d (q := (58, .getfield 13, 3)) D_FX_unpack 29 rfl
theorem d_FX_unpack_61 : decode M_FX_unpack.2.1 61 = .ok (.aload_n 1, 1) := fx_d (q := (61, .aload_n 1, 1)) D_FX_unpack 30 rfl
theorem d_FX_unpack_62 : decode M_FX_unpack.2.1 62 = .ok (.iload 4, 2) := fx_d (q := (62, .iload 4, 2)) D_FX_unpack 31 rfl
theorem d_FX_unpack_64 : decode M_FX_unpack.2.1 64 = .ok (.invokevirtual 48, 3) := fx_d (q := (64, .invokevirtual 48, 3)) D_FX_unpack 32 rfl
theorem d_FX_unpack_67 : decode M_FX_unpack.2.1 67 = .ok (.goto 27, 3) := fx_d (q := (67, .goto 27, 3)) D_FX_unpack 33 rfl
theorem d_FX_unpack_70 : decode M_FX_unpack.2.1 70 = .ok (.aload_n 0, 1) := fx_d (q := (70, .aload_n 0, 1)) D_FX_unpack 34 rfl
theorem d_FX_unpack_71 : decode M_FX_unpack.2.1 71 = .ok (.getfield 13, 3) := fx_d (q := (71, .getfield 13, 3)) D_FX_unpack 35 rfl
theorem d_FX_unpack_74 : decode M_FX_unpack.2.1 74 = .ok (.aload_n 1, 1) := fx_d (q := (74, .aload_n 1, 1)) D_FX_unpack 36 rfl
theorem d_FX_unpack_75 : decode M_FX_unpack.2.1 75 = .ok (.iload 4, 2) := fx_d (q := (75, .iload 4, 2)) D_FX_unpack 37 rfl
theorem d_FX_unpack_77 : decode M_FX_unpack.2.1 77 = .ok (.iload 4, 2) := fx_d (q := (77, .iload 4, 2)) D_FX_unpack 38 rfl
theorem d_FX_unpack_79 : decode M_FX_unpack.2.1 79 = .ok (.iload_n 2, 1) := fx_d (q := (79, .iload_n 2, 1)) D_FX_unpack 39 rfl
theorem d_FX_unpack_80 : decode M_FX_unpack.2.1 80 = .ok (.if_icmp .ne 7, 3) := fx_d (q := (80, .if_icmp .ne 7, 3)) D_FX_unpack 40 rfl
theorem d_FX_unpack_83 : decode M_FX_unpack.2.1 83 = .ok (.iconst (-1), 1) := fx_d (q := (83, .iconst (-1), 1)) D_FX_unpack 41 rfl
theorem d_FX_unpack_84 : decode M_FX_unpack.2.1 84 = .ok (.goto 7, 3) := fx_d (q := (84, .goto 7, 3)) D_FX_unpack 42 rfl
theorem d_FX_unpack_87 : decode M_FX_unpack.2.1 87 = .ok (.iload 4, 2) := fx_d (q := (87, .iload 4, 2)) D_FX_unpack 43 rfl
theorem d_FX_unpack_89 : decode M_FX_unpack.2.1 89 = .ok (.iconst 1, 1) := fx_d (q := (89, .iconst 1, 1)) D_FX_unpack 44 rfl
theorem d_FX_unpack_90 : decode M_FX_unpack.2.1 90 = .ok (.isub, 1) := fx_d (q := (90, .isub, 1)) D_FX_unpack 45 rfl
theorem d_FX_unpack_91 : decode M_FX_unpack.2.1 91 = .ok (.invokevirtual 52, 3) := fx_d (q := (91, .invokevirtual 52, 3)) D_FX_unpack 46 rfl
theorem d_FX_unpack_94 : decode M_FX_unpack.2.1 94 = .ok (.istore 6, 2) := fx_d (q := (94, .istore 6, 2)) D_FX_unpack 47 rfl
theorem d_FX_unpack_96 : decode M_FX_unpack.2.1 96 = .ok (.iload 6, 2) := fx_d (q := (96, .iload 6, 2)) D_FX_unpack 48 rfl
theorem d_FX_unpack_98 : decode M_FX_unpack.2.1 98 = .ok (.ifCond .ne 5, 3) := fx_d (q := (98, .ifCond .ne 5, 3)) D_FX_unpack 49 rfl
theorem d_FX_unpack_101 : decode M_FX_unpack.2.1 101 = .ok (.iconst 0, 1) := fx_d (q := (101, .iconst 0, 1)) D_FX_unpack 50 rfl
theorem d_FX_unpack_102 : decode M_FX_unpack.2.1 102 = .ok (.ireturn, 1) := fx_d (q := (102, .ireturn, 1)) D_FX_unpack 51 rfl
theorem d_FX_unpack_103 : decode M_FX_unpack.2.1 103 = .ok (.iinc 4 1, 3) := fx_d (q := (103, .iinc 4 1, 3)) D_FX_unpack 52 rfl
theorem d_FX_unpack_106 : decode M_FX_unpack.2.1 106 = .ok (.goto (-103), 3) := fx_d (q := (106, .goto (-103), 3)) D_FX_unpack 53 rfl
theorem d_FX_unpack_109 : decode M_FX_unpack.2.1 109 = .ok (.aload_n 0, 1) := fx_d (q := (109, .aload_n 0, 1)) D_FX_unpack 54 rfl
theorem d_FX_unpack_110 : decode M_FX_unpack.2.1 110 = .ok (.getfield 7, 3) := fx_d (q := (110, .getfield 7, 3)) D_FX_unpack 55 rfl
theorem d_FX_unpack_113 : decode M_FX_unpack.2.1 113 = .ok (.ifCond .ne 17, 3) := fx_d (q := (113, .ifCond .ne 17, 3)) D_FX_unpack 56 rfl
theorem d_FX_unpack_116 : decode M_FX_unpack.2.1 116 = .ok (.aload_n 0, 1) := fx_d (q := (116, .aload_n 0, 1)) D_FX_unpack 57 rfl
theorem d_FX_unpack_117 : decode M_FX_unpack.2.1 117 = .ok (.invokevirtual 56, 3) := fx_d (q := (117, .invokevirtual 56, 3)) D_FX_unpack 58 rfl
theorem d_FX_unpack_120 : decode M_FX_unpack.2.1 120 = .ok (.ifCond .eq 24, 3) := fx_d (q := (120, .ifCond .eq 24, 3)) D_FX_unpack 59 rfl
theorem d_FX_unpack_123 : decode M_FX_unpack.2.1 123 = .ok (.aload_n 0, 1) := fx_d (q := (123, .aload_n 0, 1)) D_FX_unpack 60 rfl
theorem d_FX_unpack_124 : decode M_FX_unpack.2.1 124 = .ok (.invokevirtual 56, 3) := fx_d (q := (124, .invokevirtual 56, 3)) D_FX_unpack 61 rfl
theorem d_FX_unpack_127 : decode M_FX_unpack.2.1 127 = .ok (.ifCond .eq 17, 3) := fx_d (q := (127, .ifCond .eq 17, 3)) D_FX_unpack 62 rfl
theorem d_FX_unpack_130 : decode M_FX_unpack.2.1 130 = .ok (.aload_n 0, 1) := fx_d (q := (130, .aload_n 0, 1)) D_FX_unpack 63 rfl
theorem d_FX_unpack_131 : decode M_FX_unpack.2.1 131 = .ok (.getfield 21, 3) := fx_d (q := (131, .getfield 21, 3)) D_FX_unpack 64 rfl
theorem d_FX_unpack_134 : decode M_FX_unpack.2.1 134 = .ok (.invokevirtual 60, 3) := fx_d (q := (134, .invokevirtual 60, 3)) D_FX_unpack 65 rfl
theorem d_FX_unpack_137 : decode M_FX_unpack.2.1 137 = .ok (.ifCond .eq 7, 3) := fx_d (q := (137, .ifCond .eq 7, 3)) D_FX_unpack 66 rfl
theorem d_FX_unpack_140 : decode M_FX_unpack.2.1 140 = .ok (.iconst 1, 1) := fx_d (q := (140, .iconst 1, 1)) D_FX_unpack 67 rfl
theorem d_FX_unpack_141 : decode M_FX_unpack.2.1 141 = .ok (.goto 4, 3) := fx_d (q := (141, .goto 4, 3)) D_FX_unpack 68 rfl
theorem d_FX_unpack_144 : decode M_FX_unpack.2.1 144 = .ok (.iconst 0, 1) := fx_d (q := (144, .iconst 0, 1)) D_FX_unpack 69 rfl
theorem d_FX_unpack_145 : decode M_FX_unpack.2.1 145 = .ok (.ireturn, 1) := fx_d (q := (145, .ireturn, 1)) D_FX_unpack 70 rfl
set_option maxRecDepth 100000 in
def L_FX_markedLine : List (Nat × Instr × Nat) := [(0, .aload_n 0, 1), (1, .invokevirtual 56, 3), (4, .ifCond .eq 13, 3), (7, .aload_n 0, 1), (8, .getfield 21, 3), (11, .invokevirtual 65, 3), (14, .goto 4, 3), (17, .iconst (-1), 1), (18, .ireturn, 1)]
set_option maxRecDepth 100000 in
theorem D_FX_markedLine : ∀ q ∈ L_FX_markedLine, decode prog_5_method_4_code q.1 = .ok q.2 := by decide +kernel
theorem d_FX_markedLine_0 : decode M_FX_markedLine.2.1 0 = .ok (.aload_n 0, 1) := fx_d (q := (0, .aload_n 0, 1)) D_FX_markedLine 0 rfl
theorem d_FX_markedLine_1 : decode M_FX_markedLine.2.1 1 = .ok (.invokevirtual 56, 3) := fx_d (q := (1, .invokevirtual 56, 3)) D_FX_markedLine 1 rfl
theorem d_FX_markedLine_4 : decode M_FX_markedLine.2.1 4 = .ok (.ifCond .eq 13, 3) := fx_d (q := (4, .ifCond .eq 13, 3)) D_FX_markedLine 2 rfl
theorem d_FX_markedLine_7 : decode M_FX_markedLine.2.1 7 = .ok (.aload_n 0, 1) := fx_d (q := (7, .aload_n 0, 1)) D_FX_markedLine 3 rfl
theorem d_FX_markedLine_8 : decode M_FX_markedLine.2.1 8 = .ok (.getfield 21, 3) := fx_d (q := (8, .getfield 21, 3)) D_FX_markedLine 4 rfl
theorem d_FX_markedLine_11 : decode M_FX_markedLine.2.1 11 = .ok (.invokevirtual 65, 3) := fx_d (q := (11, .invokevirtual 65, 3)) D_FX_markedLine 5 rfl
theorem d_FX_markedLine_14 : decode M_FX_markedLine.2.1 14 = .ok (.goto 4, 3) := fx_d (q := (14, .goto 4, 3)) D_FX_markedLine 6 rfl
theorem d_FX_markedLine_17 : decode M_FX_markedLine.2.1 17 = .ok (.iconst (-1), 1) := fx_d (q := (17, .iconst (-1), 1)) D_FX_markedLine 7 rfl
theorem d_FX_markedLine_18 : decode M_FX_markedLine.2.1 18 = .ok (.ireturn, 1) := fx_d (q := (18, .ireturn, 1)) D_FX_markedLine 8 rfl
set_option maxRecDepth 100000 in
def L_FX_isMark : List (Nat × Instr × Nat) := [(0, .aload_n 0, 1), (1, .getfield 21, 3), (4, .bipush 12, 2), (6, .invokevirtual 68, 3), (9, .iconst 1, 1), (10, .if_icmp .ne 7, 3), (13, .iconst 1, 1), (14, .goto 4, 3), (17, .iconst 0, 1), (18, .ireturn, 1)]
set_option maxRecDepth 100000 in
theorem D_FX_isMark : ∀ q ∈ L_FX_isMark, decode prog_5_method_5_code q.1 = .ok q.2 := by decide +kernel
theorem d_FX_isMark_0 : decode M_FX_isMark.2.1 0 = .ok (.aload_n 0, 1) := fx_d (q := (0, .aload_n 0, 1)) D_FX_isMark 0 rfl
theorem d_FX_isMark_1 : decode M_FX_isMark.2.1 1 = .ok (.getfield 21, 3) := fx_d (q := (1, .getfield 21, 3)) D_FX_isMark 1 rfl
theorem d_FX_isMark_4 : decode M_FX_isMark.2.1 4 = .ok (.bipush 12, 2) := fx_d (q := (4, .bipush 12, 2)) D_FX_isMark 2 rfl
theorem d_FX_isMark_6 : decode M_FX_isMark.2.1 6 = .ok (.invokevirtual 68, 3) := fx_d (q := (6, .invokevirtual 68, 3)) D_FX_isMark 3 rfl
theorem d_FX_isMark_9 : decode M_FX_isMark.2.1 9 = .ok (.iconst 1, 1) := fx_d (q := (9, .iconst 1, 1)) D_FX_isMark 4 rfl
theorem d_FX_isMark_10 : decode M_FX_isMark.2.1 10 = .ok (.if_icmp .ne 7, 3) := fx_d (q := (10, .if_icmp .ne 7, 3)) D_FX_isMark 5 rfl
theorem d_FX_isMark_13 : decode M_FX_isMark.2.1 13 = .ok (.iconst 1, 1) := fx_d (q := (13, .iconst 1, 1)) D_FX_isMark 6 rfl
theorem d_FX_isMark_14 : decode M_FX_isMark.2.1 14 = .ok (.goto 4, 3) := fx_d (q := (14, .goto 4, 3)) D_FX_isMark 7 rfl
theorem d_FX_isMark_17 : decode M_FX_isMark.2.1 17 = .ok (.iconst 0, 1) := fx_d (q := (17, .iconst 0, 1)) D_FX_isMark 8 rfl
theorem d_FX_isMark_18 : decode M_FX_isMark.2.1 18 = .ok (.ireturn, 1) := fx_d (q := (18, .ireturn, 1)) D_FX_isMark 9 rfl
set_option maxRecDepth 100000 in
def L_FX_pack : List (Nat × Instr × Nat) := [(0, .iload_n 2, 1), (1, .istore 4, 2), (3, .iload 4, 2), (5, .iload_n 3, 1), (6, .if_icmp .ge 109, 3), (9, .aload_n 0, 1), (10, .getfield 7, 3), (13, .ifCond .eq 16, 3), (16, .iload 4, 2), (18, .iload_n 2, 1), (19, .isub, 1), (20, .iconst 4, 1), (21, .irem, 1), (22, .ifCond .ne 7, 3), (25, .iconst 1, 1), (26, .goto 4, 3), (29, .iconst 0, 1), (30, .istore 5, 2), (32, .aload_n 0, 1), (33, .getfield 7, 3), (36, .ifCond .eq 31, 3), (39, .aload_n 0, 1), (40, .getfield 17, 3), (43, .iconst 1, 1), (44, .bipush 12, 2), (46, .invokevirtual 25, 3), (49, .aload_n 0, 1), (50, .getfield 17, 3), (53, .iload 5, 2), (55, .ifCond .eq 7, 3), (58, .iconst 1, 1), (59, .goto 4, 3), (62, .iconst 0, 1), (63, .iconst 1, 1), (64, .invokevirtual 25, 3), (67, .iload 5, 2), (69, .ifCond .eq 16, 3), (72, .aload_n 0, 1), (73, .getfield 13, 3), (76, .aload_n 1, 1), (77, .iload 4, 2), (79, .invokevirtual 31, 3), (82, .goto 27, 3), (85, .aload_n 0, 1), (86, .getfield 13, 3), (89, .aload_n 1, 1), (90, .iload 4, 2), (92, .iload 4, 2), (94, .iload_n 2, 1), (95, .if_icmp .ne 7, 3), (98, .iconst (-1), 1), (99, .goto 7, 3), (102, .iload 4, 2), (104, .iconst 1, 1), (105, .isub, 1), (106, .invokevirtual 37, 3), (109, .iinc 4 1, 3), (112, .goto (-109), 3), (115, .aload_n 0, 1), (116, .getfield 7, 3), (119, .ifCond .ne 23, 3), (122, .aload_n 0, 1), (123, .getfield 17, 3), (126, .iconst 1, 1), (127, .bipush 12, 2), (129, .invokevirtual 25, 3), (132, .aload_n 0, 1), (133, .getfield 17, 3), (136, .iconst 1, 1), (137, .bipush 12, 2), (139, .invokevirtual 25, 3), (142, .aload_n 0, 1), (143, .getfield 17, 3), (146, .invokevirtual 41, 3), (149, .return_, 1)]
set_option maxRecDepth 100000 in
theorem D_FX_pack : ∀ q ∈ L_FX_pack, decode prog_5_method_2_code q.1 = .ok q.2 := by decide +kernel
theorem d_FX_pack_0 : decode M_FX_pack.2.1 0 = .ok (.iload_n 2, 1) := fx_d (q := (0, .iload_n 2, 1)) D_FX_pack 0 rfl
theorem d_FX_pack_1 : decode M_FX_pack.2.1 1 = .ok (.istore 4, 2) := fx_d (q := (1, .istore 4, 2)) D_FX_pack 1 rfl
theorem d_FX_pack_3 : decode M_FX_pack.2.1 3 = .ok (.iload 4, 2) := fx_d (q := (3, .iload 4, 2)) D_FX_pack 2 rfl
theorem d_FX_pack_5 : decode M_FX_pack.2.1 5 = .ok (.iload_n 3, 1) := fx_d (q := (5, .iload_n 3, 1)) D_FX_pack 3 rfl
theorem d_FX_pack_6 : decode M_FX_pack.2.1 6 = .ok (.if_icmp .ge 109, 3) := fx_d (q := (6, .if_icmp .ge 109, 3)) D_FX_pack 4 rfl
theorem d_FX_pack_9 : decode M_FX_pack.2.1 9 = .ok (.aload_n 0, 1) := fx_d (q := (9, .aload_n 0, 1)) D_FX_pack 5 rfl
theorem d_FX_pack_10 : decode M_FX_pack.2.1 10 = .ok (.getfield 7, 3) := fx_d (q := (10, .getfield 7, 3)) D_FX_pack 6 rfl
theorem d_FX_pack_13 : decode M_FX_pack.2.1 13 = .ok (.ifCond .eq 16, 3) := fx_d (q := (13, .ifCond .eq 16, 3)) D_FX_pack 7 rfl
theorem d_FX_pack_16 : decode M_FX_pack.2.1 16 = .ok (.iload 4, 2) := fx_d (q := (16, .iload 4, 2)) D_FX_pack 8 rfl
theorem d_FX_pack_18 : decode M_FX_pack.2.1 18 = .ok (.iload_n 2, 1) := fx_d (q := (18, .iload_n 2, 1)) D_FX_pack 9 rfl
theorem d_FX_pack_19 : decode M_FX_pack.2.1 19 = .ok (.isub, 1) := fx_d (q := (19, .isub, 1)) D_FX_pack 10 rfl
theorem d_FX_pack_20 : decode M_FX_pack.2.1 20 = .ok (.iconst 4, 1) := fx_d (q := (20, .iconst 4, 1)) D_FX_pack 11 rfl
theorem d_FX_pack_21 : decode M_FX_pack.2.1 21 = .ok (.irem, 1) := fx_d (q := (21, .irem, 1)) D_FX_pack 12 rfl
theorem d_FX_pack_22 : decode M_FX_pack.2.1 22 = .ok (.ifCond .ne 7, 3) := fx_d (q := (22, .ifCond .ne 7, 3)) D_FX_pack 13 rfl
theorem d_FX_pack_25 : decode M_FX_pack.2.1 25 = .ok (.iconst 1, 1) := fx_d (q := (25, .iconst 1, 1)) D_FX_pack 14 rfl
theorem d_FX_pack_26 : decode M_FX_pack.2.1 26 = .ok (.goto 4, 3) := fx_d (q := (26, .goto 4, 3)) D_FX_pack 15 rfl
theorem d_FX_pack_29 : decode M_FX_pack.2.1 29 = .ok (.iconst 0, 1) := fx_d (q := (29, .iconst 0, 1)) D_FX_pack 16 rfl
theorem d_FX_pack_30 : decode M_FX_pack.2.1 30 = .ok (.istore 5, 2) := fx_d (q := (30, .istore 5, 2)) D_FX_pack 17 rfl
theorem d_FX_pack_32 : decode M_FX_pack.2.1 32 = .ok (.aload_n 0, 1) := fx_d (q := (32, .aload_n 0, 1)) D_FX_pack 18 rfl
theorem d_FX_pack_33 : decode M_FX_pack.2.1 33 = .ok (.getfield 7, 3) := fx_d (q := (33, .getfield 7, 3)) D_FX_pack 19 rfl
theorem d_FX_pack_36 : decode M_FX_pack.2.1 36 = .ok (.ifCond .eq 31, 3) := fx_d (q := (36, .ifCond .eq 31, 3)) D_FX_pack 20 rfl
theorem d_FX_pack_39 : decode M_FX_pack.2.1 39 = .ok (.aload_n 0, 1) := fx_d (q := (39, .aload_n 0, 1)) D_FX_pack 21 rfl
theorem d_FX_pack_40 : decode M_FX_pack.2.1 40 = .ok (.getfield 17, 3) := fx_d (q := (40, .getfield 17, 3)) D_FX_pack 22 rfl
theorem d_FX_pack_43 : decode M_FX_pack.2.1 43 = .ok (.iconst 1, 1) := fx_d (q := (43, .iconst 1, 1)) D_FX_pack 23 rfl
theorem d_FX_pack_44 : decode M_FX_pack.2.1 44 = .ok (.bipush 12, 2) := fx_d (q := (44, .bipush 12, 2)) D_FX_pack 24 rfl
theorem d_FX_pack_46 : decode M_FX_pack.2.1 46 = .ok (.invokevirtual 25, 3) := fx_d (q := (46, .invokevirtual 25, 3)) D_FX_pack 25 rfl
theorem d_FX_pack_49 : decode M_FX_pack.2.1 49 = .ok (.aload_n 0, 1) := fx_d (q := (49, .aload_n 0, 1)) D_FX_pack 26 rfl
theorem d_FX_pack_50 : decode M_FX_pack.2.1 50 = .ok (.getfield 17, 3) := fx_d (q := (50, .getfield 17, 3)) D_FX_pack 27 rfl
theorem d_FX_pack_53 : decode M_FX_pack.2.1 53 = .ok (.iload 5, 2) := fx_d (q := (53, .iload 5, 2)) D_FX_pack 28 rfl
theorem d_FX_pack_55 : decode M_FX_pack.2.1 55 = .ok (.ifCond .eq 7, 3) := fx_d (q := (55, .ifCond .eq 7, 3)) D_FX_pack 29 rfl
theorem d_FX_pack_58 : decode M_FX_pack.2.1 58 = .ok (.iconst 1, 1) := fx_d (q := (58, .iconst 1, 1)) D_FX_pack 30 rfl
theorem d_FX_pack_59 : decode M_FX_pack.2.1 59 = .ok (.goto 4, 3) := fx_d (q := (59, .goto 4, 3)) D_FX_pack 31 rfl
theorem d_FX_pack_62 : decode M_FX_pack.2.1 62 = .ok (.iconst 0, 1) := fx_d (q := (62, .iconst 0, 1)) D_FX_pack 32 rfl
theorem d_FX_pack_63 : decode M_FX_pack.2.1 63 = .ok (.iconst 1, 1) := fx_d (q := (63, .iconst 1, 1)) D_FX_pack 33 rfl
theorem d_FX_pack_64 : decode M_FX_pack.2.1 64 = .ok (.invokevirtual 25, 3) := fx_d (q := (64, .invokevirtual 25, 3)) D_FX_pack 34 rfl
theorem d_FX_pack_67 : decode M_FX_pack.2.1 67 = .ok (.iload 5, 2) := fx_d (q := (67, .iload 5, 2)) D_FX_pack 35 rfl
theorem d_FX_pack_69 : decode M_FX_pack.2.1 69 = .ok (.ifCond .eq 16, 3) := fx_d (q := (69, .ifCond .eq 16, 3)) D_FX_pack 36 rfl
theorem d_FX_pack_72 : decode M_FX_pack.2.1 72 = .ok (.aload_n 0, 1) := fx_d (q := (72, .aload_n 0, 1)) D_FX_pack 37 rfl
theorem d_FX_pack_73 : decode M_FX_pack.2.1 73 = .ok (.getfield 13, 3) := fx_d (q := (73, .getfield 13, 3)) D_FX_pack 38 rfl
theorem d_FX_pack_76 : decode M_FX_pack.2.1 76 = .ok (.aload_n 1, 1) := fx_d (q := (76, .aload_n 1, 1)) D_FX_pack 39 rfl
theorem d_FX_pack_77 : decode M_FX_pack.2.1 77 = .ok (.iload 4, 2) := fx_d (q := (77, .iload 4, 2)) D_FX_pack 40 rfl
theorem d_FX_pack_79 : decode M_FX_pack.2.1 79 = .ok (.invokevirtual 31, 3) := fx_d (q := (79, .invokevirtual 31, 3)) D_FX_pack 41 rfl
theorem d_FX_pack_82 : decode M_FX_pack.2.1 82 = .ok (.goto 27, 3) := fx_d (q := (82, .goto 27, 3)) D_FX_pack 42 rfl
theorem d_FX_pack_85 : decode M_FX_pack.2.1 85 = .ok (.aload_n 0, 1) := fx_d (q := (85, .aload_n 0, 1)) D_FX_pack 43 rfl
theorem d_FX_pack_86 : decode M_FX_pack.2.1 86 = .ok (.getfield 13, 3) := fx_d (q := (86, .getfield 13, 3)) D_FX_pack 44 rfl
theorem d_FX_pack_89 : decode M_FX_pack.2.1 89 = .ok (.aload_n 1, 1) := fx_d (q := (89, .aload_n 1, 1)) D_FX_pack 45 rfl
theorem d_FX_pack_90 : decode M_FX_pack.2.1 90 = .ok (.iload 4, 2) := fx_d (q := (90, .iload 4, 2)) D_FX_pack 46 rfl
theorem d_FX_pack_92 : decode M_FX_pack.2.1 92 = .ok (.iload 4, 2) := fx_d (q := (92, .iload 4, 2)) D_FX_pack 47 rfl
theorem d_FX_pack_94 : decode M_FX_pack.2.1 94 = .ok (.iload_n 2, 1) := fx_d (q := (94, .iload_n 2, 1)) D_FX_pack 48 rfl
theorem d_FX_pack_95 : decode M_FX_pack.2.1 95 = .ok (.if_icmp .ne 7, 3) := fx_d (q := (95, .if_icmp .ne 7, 3)) D_FX_pack 49 rfl
theorem d_FX_pack_98 : decode M_FX_pack.2.1 98 = .ok (.iconst (-1), 1) := fx_d (q := (98, .iconst (-1), 1)) D_FX_pack 50 rfl
theorem d_FX_pack_99 : decode M_FX_pack.2.1 99 = .ok (.goto 7, 3) := fx_d (q := (99, .goto 7, 3)) D_FX_pack 51 rfl
theorem d_FX_pack_102 : decode M_FX_pack.2.1 102 = .ok (.iload 4, 2) := fx_d (q := (102, .iload 4, 2)) D_FX_pack 52 rfl
theorem d_FX_pack_104 : decode M_FX_pack.2.1 104 = .ok (.iconst 1, 1) := fx_d (q := (104, .iconst 1, 1)) D_FX_pack 53 rfl
theorem d_FX_pack_105 : decode M_FX_pack.2.1 105 = .ok (.isub, 1) := fx_d (q := (105, .isub, 1)) D_FX_pack 54 rfl
theorem d_FX_pack_106 : decode M_FX_pack.2.1 106 = .ok (.invokevirtual 37, 3) := fx_d (q := (106, .invokevirtual 37, 3)) D_FX_pack 55 rfl
theorem d_FX_pack_109 : decode M_FX_pack.2.1 109 = .ok (.iinc 4 1, 3) := fx_d (q := (109, .iinc 4 1, 3)) D_FX_pack 56 rfl
theorem d_FX_pack_112 : decode M_FX_pack.2.1 112 = .ok (.goto (-109), 3) := fx_d (q := (112, .goto (-109), 3)) D_FX_pack 57 rfl
theorem d_FX_pack_115 : decode M_FX_pack.2.1 115 = .ok (.aload_n 0, 1) := fx_d (q := (115, .aload_n 0, 1)) D_FX_pack 58 rfl
theorem d_FX_pack_116 : decode M_FX_pack.2.1 116 = .ok (.getfield 7, 3) := fx_d (q := (116, .getfield 7, 3)) D_FX_pack 59 rfl
theorem d_FX_pack_119 : decode M_FX_pack.2.1 119 = .ok (.ifCond .ne 23, 3) := fx_d (q := (119, .ifCond .ne 23, 3)) D_FX_pack 60 rfl
theorem d_FX_pack_122 : decode M_FX_pack.2.1 122 = .ok (.aload_n 0, 1) := fx_d (q := (122, .aload_n 0, 1)) D_FX_pack 61 rfl
theorem d_FX_pack_123 : decode M_FX_pack.2.1 123 = .ok (.getfield 17, 3) := fx_d (q := (123, .getfield 17, 3)) D_FX_pack 62 rfl
theorem d_FX_pack_126 : decode M_FX_pack.2.1 126 = .ok (.iconst 1, 1) := fx_d (q := (126, .iconst 1, 1)) D_FX_pack 63 rfl
theorem d_FX_pack_127 : decode M_FX_pack.2.1 127 = .ok (.bipush 12, 2) := fx_d (q := (127, .bipush 12, 2)) D_FX_pack 64 rfl
theorem d_FX_pack_129 : decode M_FX_pack.2.1 129 = .ok (.invokevirtual 25, 3) := fx_d (q := (129, .invokevirtual 25, 3)) D_FX_pack 65 rfl
theorem d_FX_pack_132 : decode M_FX_pack.2.1 132 = .ok (.aload_n 0, 1) := fx_d (q := (132, .aload_n 0, 1)) D_FX_pack 66 rfl
theorem d_FX_pack_133 : decode M_FX_pack.2.1 133 = .ok (.getfield 17, 3) := fx_d (q := (133, .getfield 17, 3)) D_FX_pack 67 rfl
theorem d_FX_pack_136 : decode M_FX_pack.2.1 136 = .ok (.iconst 1, 1) := fx_d (q := (136, .iconst 1, 1)) D_FX_pack 68 rfl
theorem d_FX_pack_137 : decode M_FX_pack.2.1 137 = .ok (.bipush 12, 2) := fx_d (q := (137, .bipush 12, 2)) D_FX_pack 69 rfl
theorem d_FX_pack_139 : decode M_FX_pack.2.1 139 = .ok (.invokevirtual 25, 3) := fx_d (q := (139, .invokevirtual 25, 3)) D_FX_pack 70 rfl
theorem d_FX_pack_142 : decode M_FX_pack.2.1 142 = .ok (.aload_n 0, 1) := fx_d (q := (142, .aload_n 0, 1)) D_FX_pack 71 rfl
theorem d_FX_pack_143 : decode M_FX_pack.2.1 143 = .ok (.getfield 17, 3) := fx_d (q := (143, .getfield 17, 3)) D_FX_pack 72 rfl
theorem d_FX_pack_146 : decode M_FX_pack.2.1 146 = .ok (.invokevirtual 41, 3) := fx_d (q := (146, .invokevirtual 41, 3)) D_FX_pack 73 rfl
theorem d_FX_pack_149 : decode M_FX_pack.2.1 149 = .ok (.return_, 1) := fx_d (q := (149, .return_, 1)) D_FX_pack 74 rfl
