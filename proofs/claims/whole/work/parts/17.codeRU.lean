set_option maxRecDepth 100000 in
def L_RU_init : List (Nat × Instr × Nat) := [(0, .aload_n 0, 1), (1, .invokespecial 3, 3), (4, .aload_n 0, 1), (5, .aload_n 1, 1), (6, .putfield 9, 3), (9, .aload_n 0, 1), (10, .aload_n 2, 1), (11, .putfield 15, 3), (14, .aload_n 0, 1), (15, .bipush 20, 2), (17, .newarray .int, 2), (19, .putfield 19, 3), (22, .return_, 1)]
set_option maxRecDepth 100000 in
theorem D_RU_init : ∀ q ∈ L_RU_init, decode prog_10_method_1_code q.1 = .ok q.2 := by decide +kernel
theorem d_RU_init_0 : decode M_RU_init.2.1 0 = .ok (.aload_n 0, 1) := fx_d (q := (0, .aload_n 0, 1)) D_RU_init 0 rfl
theorem d_RU_init_1 : decode M_RU_init.2.1 1 = .ok (.invokespecial 3, 3) := fx_d (q := (1, .invokespecial 3, 3)) D_RU_init 1 rfl
theorem d_RU_init_4 : decode M_RU_init.2.1 4 = .ok (.aload_n 0, 1) := fx_d (q := (4, .aload_n 0, 1)) D_RU_init 2 rfl
theorem d_RU_init_5 : decode M_RU_init.2.1 5 = .ok (.aload_n 1, 1) := fx_d (q := (5, .aload_n 1, 1)) D_RU_init 3 rfl
theorem d_RU_init_6 : decode M_RU_init.2.1 6 = .ok (.putfield 9, 3) := fx_d (q := (6, .putfield 9, 3)) D_RU_init 4 rfl
theorem d_RU_init_9 : decode M_RU_init.2.1 9 = .ok (.aload_n 0, 1) := fx_d (q := (9, .aload_n 0, 1)) D_RU_init 5 rfl
theorem d_RU_init_10 : decode M_RU_init.2.1 10 = .ok (.aload_n 2, 1) := fx_d (q := (10, .aload_n 2, 1)) D_RU_init 6 rfl
theorem d_RU_init_11 : decode M_RU_init.2.1 11 = .ok (.putfield 15, 3) := fx_d (q := (11, .putfield 15, 3)) D_RU_init 7 rfl
theorem d_RU_init_14 : decode M_RU_init.2.1 14 = .ok (.aload_n 0, 1) := fx_d (q := (14, .aload_n 0, 1)) D_RU_init 8 rfl
theorem d_RU_init_15 : decode M_RU_init.2.1 15 = .ok (.bipush 20, 2) := fx_d (q := (15, .bipush 20, 2)) D_RU_init 9 rfl
theorem d_RU_init_17 : decode M_RU_init.2.1 17 = .ok (.newarray .int, 2) := fx_d (q := (17, .newarray .int, 2)) D_RU_init 10 rfl
theorem d_RU_init_19 : decode M_RU_init.2.1 19 = .ok (.putfield 19, 3) := fx_d (q := (19, .putfield 19, 3)) D_RU_init 11 rfl
theorem d_RU_init_22 : decode M_RU_init.2.1 22 = .ok (.return_, 1) := fx_d (q := (22, .return_, 1)) D_RU_init 12 rfl
set_option maxRecDepth 100000 in
def L_RU_unpack : List (Nat × Instr × Nat) := [(0, .iload_n 2, 1), (1, .istore 4, 2), (3, .iload 4, 2), (5, .iload_n 3, 1), (6, .if_icmp .ge 21, 3), (9, .aload_n 0, 1), (10, .aload_n 1, 1), (11, .iload 4, 2), (13, .invokevirtual 53, 3), (16, .ifCond .ne 5, 3), (19, .iconst 0, 1), (20, .ireturn, 1), (21, .iinc 4 1, 3), (24, .goto (-21), 3), (27, .aload_n 0, 1), (28, .getfield 15, 3), (31, .invokevirtual 57, 3), (34, .ireturn, 1)]
set_option maxRecDepth 100000 in
theorem D_RU_unpack : ∀ q ∈ L_RU_unpack, decode prog_10_method_6_code q.1 = .ok q.2 := by decide +kernel
theorem d_RU_unpack_0 : decode M_RU_unpack.2.1 0 = .ok (.iload_n 2, 1) := fx_d (q := (0, .iload_n 2, 1)) D_RU_unpack 0 rfl
theorem d_RU_unpack_1 : decode M_RU_unpack.2.1 1 = .ok (.istore 4, 2) := fx_d (q := (1, .istore 4, 2)) D_RU_unpack 1 rfl
theorem d_RU_unpack_3 : decode M_RU_unpack.2.1 3 = .ok (.iload 4, 2) := fx_d (q := (3, .iload 4, 2)) D_RU_unpack 2 rfl
theorem d_RU_unpack_5 : decode M_RU_unpack.2.1 5 = .ok (.iload_n 3, 1) := fx_d (q := (5, .iload_n 3, 1)) D_RU_unpack 3 rfl
theorem d_RU_unpack_6 : decode M_RU_unpack.2.1 6 = .ok (.if_icmp .ge 21, 3) := fx_d (q := (6, .if_icmp .ge 21, 3)) D_RU_unpack 4 rfl
theorem d_RU_unpack_9 : decode M_RU_unpack.2.1 9 = .ok (.aload_n 0, 1) := fx_d (q := (9, .aload_n 0, 1)) D_RU_unpack 5 rfl
theorem d_RU_unpack_10 : decode M_RU_unpack.2.1 10 = .ok (.aload_n 1, 1) := fx_d (q := (10, .aload_n 1, 1)) D_RU_unpack 6 rfl
theorem d_RU_unpack_11 : decode M_RU_unpack.2.1 11 = .ok (.iload 4, 2) := fx_d (q := (11, .iload 4, 2)) D_RU_unpack 7 rfl
theorem d_RU_unpack_13 : decode M_RU_unpack.2.1 13 = .ok (.invokevirtual 53, 3) := fx_d (q := (13, .invokevirtual 53, 3)) D_RU_unpack 8 rfl
theorem d_RU_unpack_16 : decode M_RU_unpack.2.1 16 = .ok (.ifCond .ne 5, 3) := fx_d (q := (16, .ifCond .ne 5, 3)) D_RU_unpack 9 rfl
theorem d_RU_unpack_19 : decode M_RU_unpack.2.1 19 = .ok (.iconst 0, 1) := fx_d (q := (19, .iconst 0, 1)) D_RU_unpack 10 rfl
theorem d_RU_unpack_20 : decode M_RU_unpack.2.1 20 = .ok (.ireturn, 1) := fx_d (q := (20, .ireturn, 1)) D_RU_unpack 11 rfl
theorem d_RU_unpack_21 : decode M_RU_unpack.2.1 21 = .ok (.iinc 4 1, 3) := fx_d (q := (21, .iinc 4 1, 3)) D_RU_unpack 12 rfl
theorem d_RU_unpack_24 : decode M_RU_unpack.2.1 24 = .ok (.goto (-21), 3) := fx_d (q := (24, .goto (-21), 3)) D_RU_unpack 13 rfl
theorem d_RU_unpack_27 : decode M_RU_unpack.2.1 27 = .ok (.aload_n 0, 1) := fx_d (q := (27, .aload_n 0, 1)) D_RU_unpack 14 rfl
theorem d_RU_unpack_28 : decode M_RU_unpack.2.1 28 = .ok (.getfield 15, 3) := fx_d (q := (28, .getfield 15, 3)) D_RU_unpack 15 rfl
theorem d_RU_unpack_31 : decode M_RU_unpack.2.1 31 = .ok (.invokevirtual 57, 3) := fx_d (q := (31, .invokevirtual 57, 3)) D_RU_unpack 16 rfl
theorem d_RU_unpack_34 : decode M_RU_unpack.2.1 34 = .ok (.ireturn, 1) := fx_d (q := (34, .ireturn, 1)) D_RU_unpack 17 rfl
set_option maxRecDepth 100000 in
def L_RU_unpackRow : List (Nat × Instr × Nat) := [(0, .aload_n 1, 1), (1, .invokevirtual 23, 3), (4, .istore_n 3, 1), (5, .iconst 0, 1), (6, .istore 4, 2), (8, .iconst 0, 1), (9, .istore 5, 2), (11, .iload 5, 2), (13, .sipush 2000, 3), (16, .if_icmp .ge 109, 3), (19, .iload 4, 2), (21, .iload_n 3, 1), (22, .if_icmp .ge 103, 3), (25, .aload_n 0, 1), (26, .getfield 15, 3), (29, .bipush 8, 2), (31, .invokevirtual 63, 3), (34, .istore 6, 2), (36, .iload 6, 2), (38, .sipush 128, 3), (41, .if_icmp .ne 6, 3), (44, .goto 75, 3), (47, .iload 6, 2), (49, .sipush 128, 3), (52, .if_icmp .ge 10, 3), (55, .iload 6, 2), (57, .iconst 1, 1), (58, .iadd, 1), (59, .goto 9, 3), (62, .sipush 257, 3), (65, .iload 6, 2), (67, .isub, 1), (68, .istore 7, 2), (70, .iload 6, 2), (72, .ifCond .lt 38, 3), (75, .iload 4, 2), (77, .iload 7, 2), (79, .iadd, 1), (80, .iload_n 3, 1), (81, .if_icmp .gt 29, 3), (84, .aload_n 0, 1), (85, .aload_n 1, 1), (86, .iload_n 2, 1), (87, .iload 4, 2), (89, .iload 7, 2), (91, .iload 6, 2), (93, .sipush 128, 3), (96, .if_icmp .le 7, 3), (99, .iconst 1, 1), (100, .goto 4, 3), (103, .iconst 0, 1), (104, .invokevirtual 67, 3), (107, .ifCond .ne 5, 3), (110, .iconst 0, 1), (111, .ireturn, 1), (112, .iload 4, 2), (114, .iload 7, 2), (116, .iadd, 1), (117, .istore 4, 2), (119, .iinc 5 1, 3), (122, .goto (-111), 3), (125, .iload 4, 2), (127, .iload_n 3, 1), (128, .if_icmp .ne 7, 3), (131, .iconst 1, 1), (132, .goto 4, 3), (135, .iconst 0, 1), (136, .ireturn, 1)]
set_option maxRecDepth 100000 in
theorem D_RU_unpackRow : ∀ q ∈ L_RU_unpackRow, decode prog_10_method_7_code q.1 = .ok q.2 := by decide +kernel
theorem d_RU_unpackRow_0 : decode M_RU_unpackRow.2.1 0 = .ok (.aload_n 1, 1) := fx_d (q := (0, .aload_n 1, 1)) D_RU_unpackRow 0 rfl
theorem d_RU_unpackRow_1 : decode M_RU_unpackRow.2.1 1 = .ok (.invokevirtual 23, 3) := fx_d (q := (1, .invokevirtual 23, 3)) D_RU_unpackRow 1 rfl
theorem d_RU_unpackRow_4 : decode M_RU_unpackRow.2.1 4 = .ok (.istore_n 3, 1) := fx_d (q := (4, .istore_n 3, 1)) D_RU_unpackRow 2 rfl
theorem d_RU_unpackRow_5 : decode M_RU_unpackRow.2.1 5 = .ok (.iconst 0, 1) := fx_d (q := (5, .iconst 0, 1)) D_RU_unpackRow 3 rfl
theorem d_RU_unpackRow_6 : decode M_RU_unpackRow.2.1 6 = .ok (.istore 4, 2) := fx_d (q := (6, .istore 4, 2)) D_RU_unpackRow 4 rfl
theorem d_RU_unpackRow_8 : decode M_RU_unpackRow.2.1 8 = .ok (.iconst 0, 1) := fx_d (q := (8, .iconst 0, 1)) D_RU_unpackRow 5 rfl
theorem d_RU_unpackRow_9 : decode M_RU_unpackRow.2.1 9 = .ok (.istore 5, 2) := fx_d (q := (9, .istore 5, 2)) D_RU_unpackRow 6 rfl
theorem d_RU_unpackRow_11 : decode M_RU_unpackRow.2.1 11 = .ok (.iload 5, 2) := fx_d (q := (11, .iload 5, 2)) D_RU_unpackRow 7 rfl
theorem d_RU_unpackRow_13 : decode M_RU_unpackRow.2.1 13 = .ok (.sipush 2000, 3) := fx_d (q := (13, .sipush 2000, 3)) D_RU_unpackRow 8 rfl
theorem d_RU_unpackRow_16 : decode M_RU_unpackRow.2.1 16 = .ok (.if_icmp .ge 109, 3) := fx_d (q := (16, .if_icmp .ge 109, 3)) D_RU_unpackRow 9 rfl
theorem d_RU_unpackRow_19 : decode M_RU_unpackRow.2.1 19 = .ok (.iload 4, 2) := fx_d (q := (19, .iload 4, 2)) D_RU_unpackRow 10 rfl
theorem d_RU_unpackRow_21 : decode M_RU_unpackRow.2.1 21 = .ok (.iload_n 3, 1) := fx_d (q := (21, .iload_n 3, 1)) D_RU_unpackRow 11 rfl
theorem d_RU_unpackRow_22 : decode M_RU_unpackRow.2.1 22 = .ok (.if_icmp .ge 103, 3) := fx_d (q := (22, .if_icmp .ge 103, 3)) D_RU_unpackRow 12 rfl
theorem d_RU_unpackRow_25 : decode M_RU_unpackRow.2.1 25 = .ok (.aload_n 0, 1) := fx_d (q := (25, .aload_n 0, 1)) D_RU_unpackRow 13 rfl
theorem d_RU_unpackRow_26 : decode M_RU_unpackRow.2.1 26 = .ok (.getfield 15, 3) := fx_d (q := (26, .getfield 15, 3)) D_RU_unpackRow 14 rfl
theorem d_RU_unpackRow_29 : decode M_RU_unpackRow.2.1 29 = .ok (.bipush 8, 2) := fx_d (q := (29, .bipush 8, 2)) D_RU_unpackRow 15 rfl
theorem d_RU_unpackRow_31 : decode M_RU_unpackRow.2.1 31 = .ok (.invokevirtual 63, 3) := fx_d (q := (31, .invokevirtual 63, 3)) D_RU_unpackRow 16 rfl
theorem d_RU_unpackRow_34 : decode M_RU_unpackRow.2.1 34 = .ok (.istore 6, 2) := fx_d (q := (34, .istore 6, 2)) D_RU_unpackRow 17 rfl
theorem d_RU_unpackRow_36 : decode M_RU_unpackRow.2.1 36 = .ok (.iload 6, 2) := fx_d (q := (36, .iload 6, 2)) D_RU_unpackRow 18 rfl
theorem d_RU_unpackRow_38 : decode M_RU_unpackRow.2.1 38 = .ok (.sipush 128, 3) := fx_d (q := (38, .sipush 128, 3)) D_RU_unpackRow 19 rfl
theorem d_RU_unpackRow_41 : decode M_RU_unpackRow.2.1 41 = .ok (.if_icmp .ne 6, 3) := fx_d (q := (41, .if_icmp .ne 6, 3)) D_RU_unpackRow 20 rfl
theorem d_RU_unpackRow_44 : decode M_RU_unpackRow.2.1 44 = .ok (.goto 75, 3) := fx_d (q := (44, .goto 75, 3)) D_RU_unpackRow 21 rfl
theorem d_RU_unpackRow_47 : decode M_RU_unpackRow.2.1 47 = .ok (.iload 6, 2) := fx_d (q := (47, .iload 6, 2)) D_RU_unpackRow 22 rfl
theorem d_RU_unpackRow_49 : decode M_RU_unpackRow.2.1 49 = .ok (.sipush 128, 3) := fx_d (q := (49, .sipush 128, 3)) D_RU_unpackRow 23 rfl
theorem d_RU_unpackRow_52 : decode M_RU_unpackRow.2.1 52 = .ok (.if_icmp .ge 10, 3) := fx_d (q := (52, .if_icmp .ge 10, 3)) D_RU_unpackRow 24 rfl
theorem d_RU_unpackRow_55 : decode M_RU_unpackRow.2.1 55 = .ok (.iload 6, 2) := fx_d (q := (55, .iload 6, 2)) D_RU_unpackRow 25 rfl
theorem d_RU_unpackRow_57 : decode M_RU_unpackRow.2.1 57 = .ok (.iconst 1, 1) := fx_d (q := (57, .iconst 1, 1)) D_RU_unpackRow 26 rfl
theorem d_RU_unpackRow_58 : decode M_RU_unpackRow.2.1 58 = .ok (.iadd, 1) := fx_d (q := (58, .iadd, 1)) D_RU_unpackRow 27 rfl
theorem d_RU_unpackRow_59 : decode M_RU_unpackRow.2.1 59 = .ok (.goto 9, 3) := fx_d (q := (59, .goto 9, 3)) D_RU_unpackRow 28 rfl
theorem d_RU_unpackRow_62 : decode M_RU_unpackRow.2.1 62 = .ok (.sipush 257, 3) := fx_d (q := (62, .sipush 257, 3)) D_RU_unpackRow 29 rfl
theorem d_RU_unpackRow_65 : decode M_RU_unpackRow.2.1 65 = .ok (.iload 6, 2) := fx_d (q := (65, .iload 6, 2)) D_RU_unpackRow 30 rfl
theorem d_RU_unpackRow_67 : decode M_RU_unpackRow.2.1 67 = .ok (.isub, 1) := fx_d (q := (67, .isub, 1)) D_RU_unpackRow 31 rfl
theorem d_RU_unpackRow_68 : decode M_RU_unpackRow.2.1 68 = .ok (.istore 7, 2) := fx_d (q := (68, .istore 7, 2)) D_RU_unpackRow 32 rfl
theorem d_RU_unpackRow_70 : decode M_RU_unpackRow.2.1 70 = .ok (.iload 6, 2) := fx_d (q := (70, .iload 6, 2)) D_RU_unpackRow 33 rfl
theorem d_RU_unpackRow_72 : decode M_RU_unpackRow.2.1 72 = .ok (.ifCond .lt 38, 3) := fx_d (q := (72, .ifCond .lt 38, 3)) D_RU_unpackRow 34 rfl
theorem d_RU_unpackRow_75 : decode M_RU_unpackRow.2.1 75 = .ok (.iload 4, 2) := fx_d (q := (75, .iload 4, 2)) D_RU_unpackRow 35 rfl
theorem d_RU_unpackRow_77 : decode M_RU_unpackRow.2.1 77 = .ok (.iload 7, 2) := fx_d (q := (77, .iload 7, 2)) D_RU_unpackRow 36 rfl
theorem d_RU_unpackRow_79 : decode M_RU_unpackRow.2.1 79 = .ok (.iadd, 1) := fx_d (q := (79, .iadd, 1)) D_RU_unpackRow 37 rfl
theorem d_RU_unpackRow_80 : decode M_RU_unpackRow.2.1 80 = .ok (.iload_n 3, 1) := fx_d (q := (80, .iload_n 3, 1)) D_RU_unpackRow 38 rfl
theorem d_RU_unpackRow_81 : decode M_RU_unpackRow.2.1 81 = .ok (.if_icmp .gt 29, 3) := fx_d (q := (81, .if_icmp .gt 29, 3)) D_RU_unpackRow 39 rfl
theorem d_RU_unpackRow_84 : decode M_RU_unpackRow.2.1 84 = .ok (.aload_n 0, 1) := fx_d (q := (84, .aload_n 0, 1)) D_RU_unpackRow 40 rfl
theorem d_RU_unpackRow_85 : decode M_RU_unpackRow.2.1 85 = .ok (.aload_n 1, 1) := fx_d (q := (85, .aload_n 1, 1)) D_RU_unpackRow 41 rfl
theorem d_RU_unpackRow_86 : decode M_RU_unpackRow.2.1 86 = .ok (.iload_n 2, 1) := fx_d (q := (86, .iload_n 2, 1)) D_RU_unpackRow 42 rfl
theorem d_RU_unpackRow_87 : decode M_RU_unpackRow.2.1 87 = .ok (.iload 4, 2) := fx_d (q := (87, .iload 4, 2)) D_RU_unpackRow 43 rfl
theorem d_RU_unpackRow_89 : decode M_RU_unpackRow.2.1 89 = .ok (.iload 7, 2) := fx_d (q := (89, .iload 7, 2)) D_RU_unpackRow 44 rfl
theorem d_RU_unpackRow_91 : decode M_RU_unpackRow.2.1 91 = .ok (.iload 6, 2) := fx_d (q := (91, .iload 6, 2)) D_RU_unpackRow 45 rfl
theorem d_RU_unpackRow_93 : decode M_RU_unpackRow.2.1 93 = .ok (.sipush 128, 3) := fx_d (q := (93, .sipush 128, 3)) D_RU_unpackRow 46 rfl
theorem d_RU_unpackRow_96 : decode M_RU_unpackRow.2.1 96 = .ok (.if_icmp .le 7, 3) := fx_d (q := (96, .if_icmp .le 7, 3)) D_RU_unpackRow 47 rfl
theorem d_RU_unpackRow_99 : decode M_RU_unpackRow.2.1 99 = .ok (.iconst 1, 1) := fx_d (q := (99, .iconst 1, 1)) D_RU_unpackRow 48 rfl
theorem d_RU_unpackRow_100 : decode M_RU_unpackRow.2.1 100 = .ok (.goto 4, 3) := fx_d (q := (100, .goto 4, 3)) D_RU_unpackRow 49 rfl
theorem d_RU_unpackRow_103 : decode M_RU_unpackRow.2.1 103 = .ok (.iconst 0, 1) := fx_d (q := (103, .iconst 0, 1)) D_RU_unpackRow 50 rfl
theorem d_RU_unpackRow_104 : decode M_RU_unpackRow.2.1 104 = .ok (.invokevirtual 67, 3) := fx_d (q := (104, .invokevirtual 67, 3)) D_RU_unpackRow 51 rfl
theorem d_RU_unpackRow_107 : decode M_RU_unpackRow.2.1 107 = .ok (.ifCond .ne 5, 3) := fx_d (q := (107, .ifCond .ne 5, 3)) D_RU_unpackRow 52 rfl
theorem d_RU_unpackRow_110 : decode M_RU_unpackRow.2.1 110 = .ok (.iconst 0, 1) := fx_d (q := (110, .iconst 0, 1)) D_RU_unpackRow 53 rfl
theorem d_RU_unpackRow_111 : decode M_RU_unpackRow.2.1 111 = .ok (.ireturn, 1) := fx_d (q := (111, .ireturn, 1)) D_RU_unpackRow 54 rfl
theorem d_RU_unpackRow_112 : decode M_RU_unpackRow.2.1 112 = .ok (.iload 4, 2) := fx_d (q := (112, .iload 4, 2)) D_RU_unpackRow 55 rfl
theorem d_RU_unpackRow_114 : decode M_RU_unpackRow.2.1 114 = .ok (.iload 7, 2) := fx_d (q := (114, .iload 7, 2)) D_RU_unpackRow 56 rfl
theorem d_RU_unpackRow_116 : decode M_RU_unpackRow.2.1 116 = .ok (.iadd, 1) := fx_d (q := (116, .iadd, 1)) D_RU_unpackRow 57 rfl
theorem d_RU_unpackRow_117 : decode M_RU_unpackRow.2.1 117 = .ok (.istore 4, 2) := fx_d (q := (117, .istore 4, 2)) D_RU_unpackRow 58 rfl
theorem d_RU_unpackRow_119 : decode M_RU_unpackRow.2.1 119 = .ok (.iinc 5 1, 3) := fx_d (q := (119, .iinc 5 1, 3)) D_RU_unpackRow 59 rfl
theorem d_RU_unpackRow_122 : decode M_RU_unpackRow.2.1 122 = .ok (.goto (-111), 3) := fx_d (q := (122, .goto (-111), 3)) D_RU_unpackRow 60 rfl
theorem d_RU_unpackRow_125 : decode M_RU_unpackRow.2.1 125 = .ok (.iload 4, 2) := fx_d (q := (125, .iload 4, 2)) D_RU_unpackRow 61 rfl
theorem d_RU_unpackRow_127 : decode M_RU_unpackRow.2.1 127 = .ok (.iload_n 3, 1) := fx_d (q := (127, .iload_n 3, 1)) D_RU_unpackRow 62 rfl
theorem d_RU_unpackRow_128 : decode M_RU_unpackRow.2.1 128 = .ok (.if_icmp .ne 7, 3) := fx_d (q := (128, .if_icmp .ne 7, 3)) D_RU_unpackRow 63 rfl
theorem d_RU_unpackRow_131 : decode M_RU_unpackRow.2.1 131 = .ok (.iconst 1, 1) := fx_d (q := (131, .iconst 1, 1)) D_RU_unpackRow 64 rfl
theorem d_RU_unpackRow_132 : decode M_RU_unpackRow.2.1 132 = .ok (.goto 4, 3) := fx_d (q := (132, .goto 4, 3)) D_RU_unpackRow 65 rfl
theorem d_RU_unpackRow_135 : decode M_RU_unpackRow.2.1 135 = .ok (.iconst 0, 1) := fx_d (q := (135, .iconst 0, 1)) D_RU_unpackRow 66 rfl
theorem d_RU_unpackRow_136 : decode M_RU_unpackRow.2.1 136 = .ok (.ireturn, 1) := fx_d (q := (136, .ireturn, 1)) D_RU_unpackRow 67 rfl
set_option maxRecDepth 100000 in
def L_RU_unpackRun : List (Nat × Instr × Nat) := [(0, .iconst 0, 1), (1, .istore 6, 2), (3, .iconst 0, 1), (4, .istore 7, 2), (6, .iload 7, 2), (8, .iload 4, 2), (10, .if_icmp .ge 51, 3), (13, .iload 7, 2), (15, .ifCond .eq 8, 3), (18, .iload 5, 2), (20, .ifCond .ne 14, 3), (23, .aload_n 0, 1), (24, .getfield 15, 3), (27, .bipush 8, 2), (29, .invokevirtual 63, 3), (32, .istore 6, 2), (34, .iload 6, 2), (36, .ifCond .lt 17, 3), (39, .aload_n 1, 1), (40, .iload_n 2, 1), (41, .iload_n 3, 1), (42, .iload 7, 2), (44, .iadd, 1), (45, .iload 6, 2), (47, .invokevirtual 71, 3), (50, .ifCond .ne 5, 3), (53, .iconst 0, 1), (54, .ireturn, 1), (55, .iinc 7 1, 3), (58, .goto (-52), 3), (61, .iconst 1, 1), (62, .ireturn, 1)]
set_option maxRecDepth 100000 in
theorem D_RU_unpackRun : ∀ q ∈ L_RU_unpackRun, decode prog_10_method_8_code q.1 = .ok q.2 := by decide +kernel
theorem d_RU_unpackRun_0 : decode M_RU_unpackRun.2.1 0 = .ok (.iconst 0, 1) := fx_d (q := (0, .iconst 0, 1)) D_RU_unpackRun 0 rfl
theorem d_RU_unpackRun_1 : decode M_RU_unpackRun.2.1 1 = .ok (.istore 6, 2) := fx_d (q := (1, .istore 6, 2)) D_RU_unpackRun 1 rfl
theorem d_RU_unpackRun_3 : decode M_RU_unpackRun.2.1 3 = .ok (.iconst 0, 1) := fx_d (q := (3, .iconst 0, 1)) D_RU_unpackRun 2 rfl
theorem d_RU_unpackRun_4 : decode M_RU_unpackRun.2.1 4 = .ok (.istore 7, 2) := fx_d (q := (4, .istore 7, 2)) D_RU_unpackRun 3 rfl
theorem d_RU_unpackRun_6 : decode M_RU_unpackRun.2.1 6 = .ok (.iload 7, 2) := fx_d (q := (6, .iload 7, 2)) D_RU_unpackRun 4 rfl
theorem d_RU_unpackRun_8 : decode M_RU_unpackRun.2.1 8 = .ok (.iload 4, 2) := fx_d (q := (8, .iload 4, 2)) D_RU_unpackRun 5 rfl
theorem d_RU_unpackRun_10 : decode M_RU_unpackRun.2.1 10 = .ok (.if_icmp .ge 51, 3) := fx_d (q := (10, .if_icmp .ge 51, 3)) D_RU_unpackRun 6 rfl
theorem d_RU_unpackRun_13 : decode M_RU_unpackRun.2.1 13 = .ok (.iload 7, 2) := fx_d (q := (13, .iload 7, 2)) D_RU_unpackRun 7 rfl
theorem d_RU_unpackRun_15 : decode M_RU_unpackRun.2.1 15 = .ok (.ifCond .eq 8, 3) := fx_d (q := (15, .ifCond .eq 8, 3)) D_RU_unpackRun 8 rfl
theorem d_RU_unpackRun_18 : decode M_RU_unpackRun.2.1 18 = .ok (.iload 5, 2) := fx_d (q := (18, .iload 5, 2)) D_RU_unpackRun 9 rfl
theorem d_RU_unpackRun_20 : decode M_RU_unpackRun.2.1 20 = .ok (.ifCond .ne 14, 3) := fx_d (q := (20, .ifCond .ne 14, 3)) D_RU_unpackRun 10 rfl
theorem d_RU_unpackRun_23 : decode M_RU_unpackRun.2.1 23 = .ok (.aload_n 0, 1) := fx_d (q := (23, .aload_n 0, 1)) D_RU_unpackRun 11 rfl
theorem d_RU_unpackRun_24 : decode M_RU_unpackRun.2.1 24 = .ok (.getfield 15, 3) := fx_d (q := (24, .getfield 15, 3)) D_RU_unpackRun 12 rfl
theorem d_RU_unpackRun_27 : decode M_RU_unpackRun.2.1 27 = .ok (.bipush 8, 2) := fx_d (q := (27, .bipush 8, 2)) D_RU_unpackRun 13 rfl
theorem d_RU_unpackRun_29 : decode M_RU_unpackRun.2.1 29 = .ok (.invokevirtual 63, 3) := fx_d (q := (29, .invokevirtual 63, 3)) D_RU_unpackRun 14 rfl
theorem d_RU_unpackRun_32 : decode M_RU_unpackRun.2.1 32 = .ok (.istore 6, 2) := fx_d (q := (32, .istore 6, 2)) D_RU_unpackRun 15 rfl
theorem d_RU_unpackRun_34 : decode M_RU_unpackRun.2.1 34 = .ok (.iload 6, 2) := fx_d (q := (34, .iload 6, 2)) D_RU_unpackRun 16 rfl
theorem d_RU_unpackRun_36 : decode M_RU_unpackRun.2.1 36 = .ok (.ifCond .lt 17, 3) := fx_d (q := (36, .ifCond .lt 17, 3)) D_RU_unpackRun 17 rfl
theorem d_RU_unpackRun_39 : decode M_RU_unpackRun.2.1 39 = .ok (.aload_n 1, 1) := fx_d (q := (39, .aload_n 1, 1)) D_RU_unpackRun 18 rfl
theorem d_RU_unpackRun_40 : decode M_RU_unpackRun.2.1 40 = .ok (.iload_n 2, 1) := fx_d (q := (40, .iload_n 2, 1)) D_RU_unpackRun 19 rfl
theorem d_RU_unpackRun_41 : decode M_RU_unpackRun.2.1 41 = .ok (.iload_n 3, 1) := fx_d (q := (41, .iload_n 3, 1)) D_RU_unpackRun 20 rfl
theorem d_RU_unpackRun_42 : decode M_RU_unpackRun.2.1 42 = .ok (.iload 7, 2) := fx_d (q := (42, .iload 7, 2)) D_RU_unpackRun 21 rfl
theorem d_RU_unpackRun_44 : decode M_RU_unpackRun.2.1 44 = .ok (.iadd, 1) := fx_d (q := (44, .iadd, 1)) D_RU_unpackRun 22 rfl
theorem d_RU_unpackRun_45 : decode M_RU_unpackRun.2.1 45 = .ok (.iload 6, 2) := fx_d (q := (45, .iload 6, 2)) D_RU_unpackRun 23 rfl
theorem d_RU_unpackRun_47 : decode M_RU_unpackRun.2.1 47 = .ok (.invokevirtual 71, 3) := fx_d (q := (47, .invokevirtual 71, 3)) D_RU_unpackRun 24 rfl
theorem d_RU_unpackRun_50 : decode M_RU_unpackRun.2.1 50 = .ok (.ifCond .ne 5, 3) := fx_d (q := (50, .ifCond .ne 5, 3)) D_RU_unpackRun 25 rfl
theorem d_RU_unpackRun_53 : decode M_RU_unpackRun.2.1 53 = .ok (.iconst 0, 1) := fx_d (q := (53, .iconst 0, 1)) D_RU_unpackRun 26 rfl
theorem d_RU_unpackRun_54 : decode M_RU_unpackRun.2.1 54 = .ok (.ireturn, 1) := fx_d (q := (54, .ireturn, 1)) D_RU_unpackRun 27 rfl
theorem d_RU_unpackRun_55 : decode M_RU_unpackRun.2.1 55 = .ok (.iinc 7 1, 3) := fx_d (q := (55, .iinc 7 1, 3)) D_RU_unpackRun 28 rfl
theorem d_RU_unpackRun_58 : decode M_RU_unpackRun.2.1 58 = .ok (.goto (-52), 3) := fx_d (q := (58, .goto (-52), 3)) D_RU_unpackRun 29 rfl
theorem d_RU_unpackRun_61 : decode M_RU_unpackRun.2.1 61 = .ok (.iconst 1, 1) := fx_d (q := (61, .iconst 1, 1)) D_RU_unpackRun 30 rfl
theorem d_RU_unpackRun_62 : decode M_RU_unpackRun.2.1 62 = .ok (.ireturn, 1) := fx_d (q := (62, .ireturn, 1)) D_RU_unpackRun 31 rfl
set_option maxRecDepth 100000 in
def L_RU_pack : List (Nat × Instr × Nat) := [(0, .aload_n 1, 1), (1, .invokevirtual 23, 3), (4, .aload_n 0, 1), (5, .getfield 19, 3), (8, .arraylength, 1), (9, .invokestatic 29, 3), (12, .istore 4, 2), (14, .iload_n 2, 1), (15, .istore 5, 2), (17, .iload 5, 2), (19, .iload_n 3, 1), (20, .if_icmp .ge 46, 3), (23, .iconst 0, 1), (24, .istore 6, 2), (26, .iload 6, 2), (28, .iload 4, 2), (30, .if_icmp .ge 24, 3), (33, .aload_n 0, 1), (34, .getfield 19, 3), (37, .iload 6, 2), (39, .aload_n 1, 1), (40, .iload 5, 2), (42, .iload 6, 2), (44, .invokevirtual 35, 3), (47, .iastore, 1), (48, .iinc 6 1, 3), (51, .goto (-25), 3), (54, .aload_n 0, 1), (55, .iload 4, 2), (57, .invokevirtual 38, 3), (60, .iinc 5 1, 3), (63, .goto (-46), 3), (66, .return_, 1)]
set_option maxRecDepth 100000 in
theorem D_RU_pack : ∀ q ∈ L_RU_pack, decode prog_10_method_2_code q.1 = .ok q.2 := by decide +kernel
theorem d_RU_pack_0 : decode M_RU_pack.2.1 0 = .ok (.aload_n 1, 1) := fx_d (q := (0, .aload_n 1, 1)) D_RU_pack 0 rfl
theorem d_RU_pack_1 : decode M_RU_pack.2.1 1 = .ok (.invokevirtual 23, 3) := fx_d (q := (1, .invokevirtual 23, 3)) D_RU_pack 1 rfl
theorem d_RU_pack_4 : decode M_RU_pack.2.1 4 = .ok (.aload_n 0, 1) := fx_d (q := (4, .aload_n 0, 1)) D_RU_pack 2 rfl
theorem d_RU_pack_5 : decode M_RU_pack.2.1 5 = .ok (.getfield 19, 3) := fx_d (q := (5, .getfield 19, 3)) D_RU_pack 3 rfl
theorem d_RU_pack_8 : decode M_RU_pack.2.1 8 = .ok (.arraylength, 1) := fx_d (q := (8, .arraylength, 1)) D_RU_pack 4 rfl
theorem d_RU_pack_9 : decode M_RU_pack.2.1 9 = .ok (.invokestatic 29, 3) := fx_d (q := (9, .invokestatic 29, 3)) D_RU_pack 5 rfl
theorem d_RU_pack_12 : decode M_RU_pack.2.1 12 = .ok (.istore 4, 2) := fx_d (q := (12, .istore 4, 2)) D_RU_pack 6 rfl
theorem d_RU_pack_14 : decode M_RU_pack.2.1 14 = .ok (.iload_n 2, 1) := fx_d (q := (14, .iload_n 2, 1)) D_RU_pack 7 rfl
theorem d_RU_pack_15 : decode M_RU_pack.2.1 15 = .ok (.istore 5, 2) := fx_d (q := (15, .istore 5, 2)) D_RU_pack 8 rfl
theorem d_RU_pack_17 : decode M_RU_pack.2.1 17 = .ok (.iload 5, 2) := fx_d (q := (17, .iload 5, 2)) D_RU_pack 9 rfl
theorem d_RU_pack_19 : decode M_RU_pack.2.1 19 = .ok (.iload_n 3, 1) := fx_d (q := (19, .iload_n 3, 1)) D_RU_pack 10 rfl
theorem d_RU_pack_20 : decode M_RU_pack.2.1 20 = .ok (.if_icmp .ge 46, 3) := fx_d (q := (20, .if_icmp .ge 46, 3)) D_RU_pack 11 rfl
theorem d_RU_pack_23 : decode M_RU_pack.2.1 23 = .ok (.iconst 0, 1) := fx_d (q := (23, .iconst 0, 1)) D_RU_pack 12 rfl
theorem d_RU_pack_24 : decode M_RU_pack.2.1 24 = .ok (.istore 6, 2) := fx_d (q := (24, .istore 6, 2)) D_RU_pack 13 rfl
theorem d_RU_pack_26 : decode M_RU_pack.2.1 26 = .ok (.iload 6, 2) := fx_d (q := (26, .iload 6, 2)) D_RU_pack 14 rfl
theorem d_RU_pack_28 : decode M_RU_pack.2.1 28 = .ok (.iload 4, 2) := fx_d (q := (28, .iload 4, 2)) D_RU_pack 15 rfl
theorem d_RU_pack_30 : decode M_RU_pack.2.1 30 = .ok (.if_icmp .ge 24, 3) := fx_d (q := (30, .if_icmp .ge 24, 3)) D_RU_pack 16 rfl
theorem d_RU_pack_33 : decode M_RU_pack.2.1 33 = .ok (.aload_n 0, 1) := fx_d (q := (33, .aload_n 0, 1)) D_RU_pack 17 rfl
theorem d_RU_pack_34 : decode M_RU_pack.2.1 34 = .ok (.getfield 19, 3) := fx_d (q := (34, .getfield 19, 3)) D_RU_pack 18 rfl
theorem d_RU_pack_37 : decode M_RU_pack.2.1 37 = .ok (.iload 6, 2) := fx_d (q := (37, .iload 6, 2)) D_RU_pack 19 rfl
theorem d_RU_pack_39 : decode M_RU_pack.2.1 39 = .ok (.aload_n 1, 1) := fx_d (q := (39, .aload_n 1, 1)) D_RU_pack 20 rfl
theorem d_RU_pack_40 : decode M_RU_pack.2.1 40 = .ok (.iload 5, 2) := fx_d (q := (40, .iload 5, 2)) D_RU_pack 21 rfl
theorem d_RU_pack_42 : decode M_RU_pack.2.1 42 = .ok (.iload 6, 2) := fx_d (q := (42, .iload 6, 2)) D_RU_pack 22 rfl
theorem d_RU_pack_44 : decode M_RU_pack.2.1 44 = .ok (.invokevirtual 35, 3) := fx_d (q := (44, .invokevirtual 35, 3)) D_RU_pack 23 rfl
theorem d_RU_pack_47 : decode M_RU_pack.2.1 47 = .ok (.iastore, 1) := fx_d (q := (47, .iastore, 1)) D_RU_pack 24 rfl
theorem d_RU_pack_48 : decode M_RU_pack.2.1 48 = .ok (.iinc 6 1, 3) := fx_d (q := (48, .iinc 6 1, 3)) D_RU_pack 25 rfl
theorem d_RU_pack_51 : decode M_RU_pack.2.1 51 = .ok (.goto (-25), 3) := fx_d (q := (51, .goto (-25), 3)) D_RU_pack 26 rfl
theorem d_RU_pack_54 : decode M_RU_pack.2.1 54 = .ok (.aload_n 0, 1) := fx_d (q := (54, .aload_n 0, 1)) D_RU_pack 27 rfl
theorem d_RU_pack_55 : decode M_RU_pack.2.1 55 = .ok (.iload 4, 2) := fx_d (q := (55, .iload 4, 2)) D_RU_pack 28 rfl
theorem d_RU_pack_57 : decode M_RU_pack.2.1 57 = .ok (.invokevirtual 38, 3) := fx_d (q := (57, .invokevirtual 38, 3)) D_RU_pack 29 rfl
theorem d_RU_pack_60 : decode M_RU_pack.2.1 60 = .ok (.iinc 5 1, 3) := fx_d (q := (60, .iinc 5 1, 3)) D_RU_pack 30 rfl
theorem d_RU_pack_63 : decode M_RU_pack.2.1 63 = .ok (.goto (-46), 3) := fx_d (q := (63, .goto (-46), 3)) D_RU_pack 31 rfl
theorem d_RU_pack_66 : decode M_RU_pack.2.1 66 = .ok (.return_, 1) := fx_d (q := (66, .return_, 1)) D_RU_pack 32 rfl
set_option maxRecDepth 100000 in
def L_RU_packRow : List (Nat × Instr × Nat) := [(0, .iconst 0, 1), (1, .istore_n 2, 1), (2, .iconst 0, 1), (3, .istore_n 3, 1), (4, .iload_n 3, 1), (5, .iload_n 1, 1), (6, .if_icmp .ge 115, 3), (9, .iload_n 2, 1), (10, .iload_n 1, 1), (11, .if_icmp .ge 110, 3), (14, .aload_n 0, 1), (15, .iload_n 2, 1), (16, .iload_n 1, 1), (17, .invokevirtual 42, 3), (20, .istore 4, 2), (22, .iload 4, 2), (24, .iload_n 2, 1), (25, .isub, 1), (26, .iconst 1, 1), (27, .if_icmp .le 34, 3), (30, .aload_n 0, 1), (31, .getfield 9, 3), (34, .sipush 257, 3), (37, .iload 4, 2), (39, .iload_n 2, 1), (40, .isub, 1), (41, .isub, 1), (42, .invokevirtual 45, 3), (45, .aload_n 0, 1), (46, .getfield 9, 3), (49, .aload_n 0, 1), (50, .getfield 19, 3), (53, .iload_n 2, 1), (54, .iaload, 1), (55, .invokevirtual 45, 3), (58, .goto 54, 3), (61, .aload_n 0, 1), (62, .iload_n 2, 1), (63, .iload_n 1, 1), (64, .invokevirtual 50, 3), (67, .istore 4, 2), (69, .aload_n 0, 1), (70, .getfield 9, 3), (73, .iload 4, 2), (75, .iload_n 2, 1), (76, .isub, 1), (77, .iconst 1, 1), (78, .isub, 1), (79, .invokevirtual 45, 3), (82, .iload_n 2, 1), (83, .istore 5, 2), (85, .iload 5, 2), (87, .iload 4, 2), (89, .if_icmp .ge 23, 3), (92, .aload_n 0, 1), (93, .getfield 9, 3), (96, .aload_n 0, 1), (97, .getfield 19, 3), (100, .iload 5, 2), (102, .iaload, 1), (103, .invokevirtual 45, 3), (106, .iinc 5 1, 3), (109, .goto (-24), 3), (112, .iload 4, 2), (114, .istore_n 2, 1), (115, .iinc 3 1, 3), (118, .goto (-114), 3), (121, .return_, 1)]
set_option maxRecDepth 100000 in
theorem D_RU_packRow : ∀ q ∈ L_RU_packRow, decode prog_10_method_3_code q.1 = .ok q.2 := by decide +kernel
theorem d_RU_packRow_0 : decode M_RU_packRow.2.1 0 = .ok (.iconst 0, 1) := fx_d (q := (0, .iconst 0, 1)) D_RU_packRow 0 rfl
theorem d_RU_packRow_1 : decode M_RU_packRow.2.1 1 = .ok (.istore_n 2, 1) := fx_d (q := (1, .istore_n 2, 1)) D_RU_packRow 1 rfl
theorem d_RU_packRow_2 : decode M_RU_packRow.2.1 2 = .ok (.iconst 0, 1) := fx_d (q := (2, .iconst 0, 1)) D_RU_packRow 2 rfl
theorem d_RU_packRow_3 : decode M_RU_packRow.2.1 3 = .ok (.istore_n 3, 1) := fx_d (q := (3, .istore_n 3, 1)) D_RU_packRow 3 rfl
theorem d_RU_packRow_4 : decode M_RU_packRow.2.1 4 = .ok (.iload_n 3, 1) := fx_d (q := (4, .iload_n 3, 1)) D_RU_packRow 4 rfl
theorem d_RU_packRow_5 : decode M_RU_packRow.2.1 5 = .ok (.iload_n 1, 1) := fx_d (q := (5, .iload_n 1, 1)) D_RU_packRow 5 rfl
theorem d_RU_packRow_6 : decode M_RU_packRow.2.1 6 = .ok (.if_icmp .ge 115, 3) := fx_d (q := (6, .if_icmp .ge 115, 3)) D_RU_packRow 6 rfl
theorem d_RU_packRow_9 : decode M_RU_packRow.2.1 9 = .ok (.iload_n 2, 1) := fx_d (q := (9, .iload_n 2, 1)) D_RU_packRow 7 rfl
theorem d_RU_packRow_10 : decode M_RU_packRow.2.1 10 = .ok (.iload_n 1, 1) := fx_d (q := (10, .iload_n 1, 1)) D_RU_packRow 8 rfl
theorem d_RU_packRow_11 : decode M_RU_packRow.2.1 11 = .ok (.if_icmp .ge 110, 3) := fx_d (q := (11, .if_icmp .ge 110, 3)) D_RU_packRow 9 rfl
theorem d_RU_packRow_14 : decode M_RU_packRow.2.1 14 = .ok (.aload_n 0, 1) := fx_d (q := (14, .aload_n 0, 1)) D_RU_packRow 10 rfl
theorem d_RU_packRow_15 : decode M_RU_packRow.2.1 15 = .ok (.iload_n 2, 1) := fx_d (q := (15, .iload_n 2, 1)) D_RU_packRow 11 rfl
theorem d_RU_packRow_16 : decode M_RU_packRow.2.1 16 = .ok (.iload_n 1, 1) := fx_d (q := (16, .iload_n 1, 1)) D_RU_packRow 12 rfl
theorem d_RU_packRow_17 : decode M_RU_packRow.2.1 17 = .ok (.invokevirtual 42, 3) := fx_d (q := (17, .invokevirtual 42, 3)) D_RU_packRow 13 rfl
theorem d_RU_packRow_20 : decode M_RU_packRow.2.1 20 = .ok (.istore 4, 2) := fx_d (q := (20, .istore 4, 2)) D_RU_packRow 14 rfl
theorem d_RU_packRow_22 : decode M_RU_packRow.2.1 22 = .ok (.iload 4, 2) := fx_d (q := (22, .iload 4, 2)) D_RU_packRow 15 rfl
theorem d_RU_packRow_24 : decode M_RU_packRow.2.1 24 = .ok (.iload_n 2, 1) := fx_d (q := (24, .iload_n 2, 1)) D_RU_packRow 16 rfl
theorem d_RU_packRow_25 : decode M_RU_packRow.2.1 25 = .ok (.isub, 1) := fx_d (q := (25, .isub, 1)) D_RU_packRow 17 rfl
theorem d_RU_packRow_26 : decode M_RU_packRow.2.1 26 = .ok (.iconst 1, 1) := fx_d (q := (26, .iconst 1, 1)) D_RU_packRow 18 rfl
theorem d_RU_packRow_27 : decode M_RU_packRow.2.1 27 = .ok (.if_icmp .le 34, 3) := fx_d (q := (27, .if_icmp .le 34, 3)) D_RU_packRow 19 rfl
theorem d_RU_packRow_30 : decode M_RU_packRow.2.1 30 = .ok (.aload_n 0, 1) := fx_d (q := (30, .aload_n 0, 1)) D_RU_packRow 20 rfl
theorem d_RU_packRow_31 : decode M_RU_packRow.2.1 31 = .ok (.getfield 9, 3) := fx_d (q := (31, .getfield 9, 3)) D_RU_packRow 21 rfl
theorem d_RU_packRow_34 : decode M_RU_packRow.2.1 34 = .ok (.sipush 257, 3) := fx_d (q := (34, .sipush 257, 3)) D_RU_packRow 22 rfl
theorem d_RU_packRow_37 : decode M_RU_packRow.2.1 37 = .ok (.iload 4, 2) := fx_d (q := (37, .iload 4, 2)) D_RU_packRow 23 rfl
theorem d_RU_packRow_39 : decode M_RU_packRow.2.1 39 = .ok (.iload_n 2, 1) := fx_d (q := (39, .iload_n 2, 1)) D_RU_packRow 24 rfl
theorem d_RU_packRow_40 : decode M_RU_packRow.2.1 40 = .ok (.isub, 1) := fx_d (q := (40, .isub, 1)) D_RU_packRow 25 rfl
theorem d_RU_packRow_41 : decode M_RU_packRow.2.1 41 = .ok (.isub, 1) := fx_d (q := (41, .isub, 1)) D_RU_packRow 26 rfl
theorem d_RU_packRow_42 : decode M_RU_packRow.2.1 42 = .ok (.invokevirtual 45, 3) := fx_d (q := (42, .invokevirtual 45, 3)) D_RU_packRow 27 rfl
theorem d_RU_packRow_45 : decode M_RU_packRow.2.1 45 = .ok (.aload_n 0, 1) := fx_d (q := (45, .aload_n 0, 1)) D_RU_packRow 28 rfl
theorem d_RU_packRow_46 : decode M_RU_packRow.2.1 46 = .ok (.getfield 9, 3) := fx_d (q := (46, .getfield 9, 3)) D_RU_packRow 29 rfl
theorem d_RU_packRow_49 : decode M_RU_packRow.2.1 49 = .ok (.aload_n 0, 1) := fx_d (q := (49, .aload_n 0, 1)) D_RU_packRow 30 rfl
theorem d_RU_packRow_50 : decode M_RU_packRow.2.1 50 = .ok (.getfield 19, 3) := fx_d (q := (50, .getfield 19, 3)) D_RU_packRow 31 rfl
theorem d_RU_packRow_53 : decode M_RU_packRow.2.1 53 = .ok (.iload_n 2, 1) := fx_d (q := (53, .iload_n 2, 1)) D_RU_packRow 32 rfl
theorem d_RU_packRow_54 : decode M_RU_packRow.2.1 54 = .ok (.iaload, 1) := fx_d (q := (54, .iaload, 1)) D_RU_packRow 33 rfl
theorem d_RU_packRow_55 : decode M_RU_packRow.2.1 55 = .ok (.invokevirtual 45, 3) := fx_d (q := (55, .invokevirtual 45, 3)) D_RU_packRow 34 rfl
theorem d_RU_packRow_58 : decode M_RU_packRow.2.1 58 = .ok (.goto 54, 3) := fx_d (q := (58, .goto 54, 3)) D_RU_packRow 35 rfl
theorem d_RU_packRow_61 : decode M_RU_packRow.2.1 61 = .ok (.aload_n 0, 1) := fx_d (q := (61, .aload_n 0, 1)) D_RU_packRow 36 rfl
theorem d_RU_packRow_62 : decode M_RU_packRow.2.1 62 = .ok (.iload_n 2, 1) := fx_d (q := (62, .iload_n 2, 1)) D_RU_packRow 37 rfl
theorem d_RU_packRow_63 : decode M_RU_packRow.2.1 63 = .ok (.iload_n 1, 1) := fx_d (q := (63, .iload_n 1, 1)) D_RU_packRow 38 rfl
theorem d_RU_packRow_64 : decode M_RU_packRow.2.1 64 = .ok (.invokevirtual 50, 3) := fx_d (q := (64, .invokevirtual 50, 3)) D_RU_packRow 39 rfl
theorem d_RU_packRow_67 : decode M_RU_packRow.2.1 67 = .ok (.istore 4, 2) := fx_d (q := (67, .istore 4, 2)) D_RU_packRow 40 rfl
theorem d_RU_packRow_69 : decode M_RU_packRow.2.1 69 = .ok (.aload_n 0, 1) := fx_d (q := (69, .aload_n 0, 1)) D_RU_packRow 41 rfl
theorem d_RU_packRow_70 : decode M_RU_packRow.2.1 70 = .ok (.getfield 9, 3) := fx_d (q := (70, .getfield 9, 3)) D_RU_packRow 42 rfl
theorem d_RU_packRow_73 : decode M_RU_packRow.2.1 73 = .ok (.iload 4, 2) := fx_d (q := (73, .iload 4, 2)) D_RU_packRow 43 rfl
theorem d_RU_packRow_75 : decode M_RU_packRow.2.1 75 = .ok (.iload_n 2, 1) := fx_d (q := (75, .iload_n 2, 1)) D_RU_packRow 44 rfl
theorem d_RU_packRow_76 : decode M_RU_packRow.2.1 76 = .ok (.isub, 1) := fx_d (q := (76, .isub, 1)) D_RU_packRow 45 rfl
theorem d_RU_packRow_77 : decode M_RU_packRow.2.1 77 = .ok (.iconst 1, 1) := fx_d (q := (77, .iconst 1, 1)) D_RU_packRow 46 rfl
theorem d_RU_packRow_78 : decode M_RU_packRow.2.1 78 = .ok (.isub, 1) := fx_d (q := (78, .isub, 1)) D_RU_packRow 47 rfl
theorem d_RU_packRow_79 : decode M_RU_packRow.2.1 79 = .ok (.invokevirtual 45, 3) := fx_d (q := (79, .invokevirtual 45, 3)) D_RU_packRow 48 rfl
theorem d_RU_packRow_82 : decode M_RU_packRow.2.1 82 = .ok (.iload_n 2, 1) := fx_d (q := (82, .iload_n 2, 1)) D_RU_packRow 49 rfl
theorem d_RU_packRow_83 : decode M_RU_packRow.2.1 83 = .ok (.istore 5, 2) := fx_d (q := (83, .istore 5, 2)) D_RU_packRow 50 rfl
theorem d_RU_packRow_85 : decode M_RU_packRow.2.1 85 = .ok (.iload 5, 2) := fx_d (q := (85, .iload 5, 2)) D_RU_packRow 51 rfl
theorem d_RU_packRow_87 : decode M_RU_packRow.2.1 87 = .ok (.iload 4, 2) := fx_d (q := (87, .iload 4, 2)) D_RU_packRow 52 rfl
theorem d_RU_packRow_89 : decode M_RU_packRow.2.1 89 = .ok (.if_icmp .ge 23, 3) := fx_d (q := (89, .if_icmp .ge 23, 3)) D_RU_packRow 53 rfl
theorem d_RU_packRow_92 : decode M_RU_packRow.2.1 92 = .ok (.aload_n 0, 1) := fx_d (q := (92, .aload_n 0, 1)) D_RU_packRow 54 rfl
theorem d_RU_packRow_93 : decode M_RU_packRow.2.1 93 = .ok (.getfield 9, 3) := fx_d (q := (93, .getfield 9, 3)) D_RU_packRow 55 rfl
theorem d_RU_packRow_96 : decode M_RU_packRow.2.1 96 = .ok (.aload_n 0, 1) := fx_d (q := (96, .aload_n 0, 1)) D_RU_packRow 56 rfl
theorem d_RU_packRow_97 : decode M_RU_packRow.2.1 97 = .ok (.getfield 19, 3) := fx_d (q := (97, .getfield 19, 3)) D_RU_packRow 57 rfl
theorem d_RU_packRow_100 : decode M_RU_packRow.2.1 100 = .ok (.iload 5, 2) := fx_d (q := (100, .iload 5, 2)) D_RU_packRow 58 rfl
theorem d_RU_packRow_102 : decode M_RU_packRow.2.1 102 = .ok (.iaload, 1) := fx_d (q := (102, .iaload, 1)) D_RU_packRow 59 rfl
theorem d_RU_packRow_103 : decode M_RU_packRow.2.1 103 = .ok (.invokevirtual 45, 3) := fx_d (q := (103, .invokevirtual 45, 3)) D_RU_packRow 60 rfl
theorem d_RU_packRow_106 : decode M_RU_packRow.2.1 106 = .ok (.iinc 5 1, 3) := fx_d (q := (106, .iinc 5 1, 3)) D_RU_packRow 61 rfl
theorem d_RU_packRow_109 : decode M_RU_packRow.2.1 109 = .ok (.goto (-24), 3) := fx_d (q := (109, .goto (-24), 3)) D_RU_packRow 62 rfl
theorem d_RU_packRow_112 : decode M_RU_packRow.2.1 112 = .ok (.iload 4, 2) := fx_d (q := (112, .iload 4, 2)) D_RU_packRow 63 rfl
theorem d_RU_packRow_114 : decode M_RU_packRow.2.1 114 = .ok (.istore_n 2, 1) := fx_d (q := (114, .istore_n 2, 1)) D_RU_packRow 64 rfl
theorem d_RU_packRow_115 : decode M_RU_packRow.2.1 115 = .ok (.iinc 3 1, 3) := fx_d (q := (115, .iinc 3 1, 3)) D_RU_packRow 65 rfl
theorem d_RU_packRow_118 : decode M_RU_packRow.2.1 118 = .ok (.goto (-114), 3) := fx_d (q := (118, .goto (-114), 3)) D_RU_packRow 66 rfl
theorem d_RU_packRow_121 : decode M_RU_packRow.2.1 121 = .ok (.return_, 1) := fx_d (q := (121, .return_, 1)) D_RU_packRow 67 rfl
set_option maxRecDepth 100000 in
def L_RU_endOfSame : List (Nat × Instr × Nat) := [(0, .iload_n 1, 1), (1, .iconst 1, 1), (2, .iadd, 1), (3, .istore_n 3, 1), (4, .iload_n 3, 1), (5, .iload_n 2, 1), (6, .if_icmp .ge 26, 3), (9, .aload_n 0, 1), (10, .getfield 19, 3), (13, .iload_n 3, 1), (14, .iaload, 1), (15, .aload_n 0, 1), (16, .getfield 19, 3), (19, .iload_n 1, 1), (20, .iaload, 1), (21, .if_icmp .eq 5, 3), (24, .iload_n 3, 1), (25, .ireturn, 1), (26, .iinc 3 1, 3), (29, .goto (-25), 3), (32, .iload_n 2, 1), (33, .ireturn, 1)]
set_option maxRecDepth 100000 in
theorem D_RU_endOfSame : ∀ q ∈ L_RU_endOfSame, decode prog_10_method_4_code q.1 = .ok q.2 := by decide +kernel
theorem d_RU_endOfSame_0 : decode M_RU_endOfSame.2.1 0 = .ok (.iload_n 1, 1) := fx_d (q := (0, .iload_n 1, 1)) D_RU_endOfSame 0 rfl
theorem d_RU_endOfSame_1 : decode M_RU_endOfSame.2.1 1 = .ok (.iconst 1, 1) := fx_d (q := (1, .iconst 1, 1)) D_RU_endOfSame 1 rfl
theorem d_RU_endOfSame_2 : decode M_RU_endOfSame.2.1 2 = .ok (.iadd, 1) := fx_d (q := (2, .iadd, 1)) D_RU_endOfSame 2 rfl
theorem d_RU_endOfSame_3 : decode M_RU_endOfSame.2.1 3 = .ok (.istore_n 3, 1) := fx_d (q := (3, .istore_n 3, 1)) D_RU_endOfSame 3 rfl
theorem d_RU_endOfSame_4 : decode M_RU_endOfSame.2.1 4 = .ok (.iload_n 3, 1) := fx_d (q := (4, .iload_n 3, 1)) D_RU_endOfSame 4 rfl
theorem d_RU_endOfSame_5 : decode M_RU_endOfSame.2.1 5 = .ok (.iload_n 2, 1) := fx_d (q := (5, .iload_n 2, 1)) D_RU_endOfSame 5 rfl
theorem d_RU_endOfSame_6 : decode M_RU_endOfSame.2.1 6 = .ok (.if_icmp .ge 26, 3) := fx_d (q := (6, .if_icmp .ge 26, 3)) D_RU_endOfSame 6 rfl
theorem d_RU_endOfSame_9 : decode M_RU_endOfSame.2.1 9 = .ok (.aload_n 0, 1) := fx_d (q := (9, .aload_n 0, 1)) D_RU_endOfSame 7 rfl
theorem d_RU_endOfSame_10 : decode M_RU_endOfSame.2.1 10 = .ok (.getfield 19, 3) := fx_d (q := (10, .getfield 19, 3)) D_RU_endOfSame 8 rfl
theorem d_RU_endOfSame_13 : decode M_RU_endOfSame.2.1 13 = .ok (.iload_n 3, 1) := fx_d (q := (13, .iload_n 3, 1)) D_RU_endOfSame 9 rfl
theorem d_RU_endOfSame_14 : decode M_RU_endOfSame.2.1 14 = .ok (.iaload, 1) := fx_d (q := (14, .iaload, 1)) D_RU_endOfSame 10 rfl
theorem d_RU_endOfSame_15 : decode M_RU_endOfSame.2.1 15 = .ok (.aload_n 0, 1) := fx_d (q := (15, .aload_n 0, 1)) D_RU_endOfSame 11 rfl
theorem d_RU_endOfSame_16 : decode M_RU_endOfSame.2.1 16 = .ok (.getfield 19, 3) := fx_d (q := (16, .getfield 19, 3)) D_RU_endOfSame 12 rfl
theorem d_RU_endOfSame_19 : decode M_RU_endOfSame.2.1 19 = .ok (.iload_n 1, 1) := fx_d (q := (19, .iload_n 1, 1)) D_RU_endOfSame 13 rfl
theorem d_RU_endOfSame_20 : decode M_RU_endOfSame.2.1 20 = .ok (.iaload, 1) := fx_d (q := (20, .iaload, 1)) D_RU_endOfSame 14 rfl
theorem d_RU_endOfSame_21 : decode M_RU_endOfSame.2.1 21 = .ok (.if_icmp .eq 5, 3) := fx_d (q := (21, .if_icmp .eq 5, 3)) D_RU_endOfSame 15 rfl
theorem d_RU_endOfSame_24 : decode M_RU_endOfSame.2.1 24 = .ok (.iload_n 3, 1) := fx_d (q := (24, .iload_n 3, 1)) D_RU_endOfSame 16 rfl
theorem d_RU_endOfSame_25 : decode M_RU_endOfSame.2.1 25 = .ok (.ireturn, 1) := fx_d (q := (25, .ireturn, 1)) D_RU_endOfSame 17 rfl
theorem d_RU_endOfSame_26 : decode M_RU_endOfSame.2.1 26 = .ok (.iinc 3 1, 3) := fx_d (q := (26, .iinc 3 1, 3)) D_RU_endOfSame 18 rfl
theorem d_RU_endOfSame_29 : decode M_RU_endOfSame.2.1 29 = .ok (.goto (-25), 3) := fx_d (q := (29, .goto (-25), 3)) D_RU_endOfSame 19 rfl
theorem d_RU_endOfSame_32 : decode M_RU_endOfSame.2.1 32 = .ok (.iload_n 2, 1) := fx_d (q := (32, .iload_n 2, 1)) D_RU_endOfSame 20 rfl
theorem d_RU_endOfSame_33 : decode M_RU_endOfSame.2.1 33 = .ok (.ireturn, 1) := fx_d (q := (33, .ireturn, 1)) D_RU_endOfSame 21 rfl
set_option maxRecDepth 100000 in
def L_RU_endOfDifferent : List (Nat × Instr × Nat) := [(0, .iload_n 1, 1), (1, .istore_n 3, 1), (2, .iload_n 3, 1), (3, .iconst 1, 1), (4, .iadd, 1), (5, .iload_n 2, 1), (6, .if_icmp .ge 28, 3), (9, .aload_n 0, 1), (10, .getfield 19, 3), (13, .iload_n 3, 1), (14, .iaload, 1), (15, .aload_n 0, 1), (16, .getfield 19, 3), (19, .iload_n 3, 1), (20, .iconst 1, 1), (21, .iadd, 1), (22, .iaload, 1), (23, .if_icmp .ne 5, 3), (26, .iload_n 3, 1), (27, .ireturn, 1), (28, .iinc 3 1, 3), (31, .goto (-29), 3), (34, .iload_n 2, 1), (35, .ireturn, 1)]
set_option maxRecDepth 100000 in
theorem D_RU_endOfDifferent : ∀ q ∈ L_RU_endOfDifferent, decode prog_10_method_5_code q.1 = .ok q.2 := by decide +kernel
theorem d_RU_endOfDifferent_0 : decode M_RU_endOfDifferent.2.1 0 = .ok (.iload_n 1, 1) := fx_d (q := (0, .iload_n 1, 1)) D_RU_endOfDifferent 0 rfl
theorem d_RU_endOfDifferent_1 : decode M_RU_endOfDifferent.2.1 1 = .ok (.istore_n 3, 1) := fx_d (q := (1, .istore_n 3, 1)) D_RU_endOfDifferent 1 rfl
theorem d_RU_endOfDifferent_2 : decode M_RU_endOfDifferent.2.1 2 = .ok (.iload_n 3, 1) := fx_d (q := (2, .iload_n 3, 1)) D_RU_endOfDifferent 2 rfl
theorem d_RU_endOfDifferent_3 : decode M_RU_endOfDifferent.2.1 3 = .ok (.iconst 1, 1) := fx_d (q := (3, .iconst 1, 1)) D_RU_endOfDifferent 3 rfl
theorem d_RU_endOfDifferent_4 : decode M_RU_endOfDifferent.2.1 4 = .ok (.iadd, 1) := fx_d (q := (4, .iadd, 1)) D_RU_endOfDifferent 4 rfl
theorem d_RU_endOfDifferent_5 : decode M_RU_endOfDifferent.2.1 5 = .ok (.iload_n 2, 1) := fx_d (q := (5, .iload_n 2, 1)) D_RU_endOfDifferent 5 rfl
theorem d_RU_endOfDifferent_6 : decode M_RU_endOfDifferent.2.1 6 = .ok (.if_icmp .ge 28, 3) := fx_d (q := (6, .if_icmp .ge 28, 3)) D_RU_endOfDifferent 6 rfl
theorem d_RU_endOfDifferent_9 : decode M_RU_endOfDifferent.2.1 9 = .ok (.aload_n 0, 1) := fx_d (q := (9, .aload_n 0, 1)) D_RU_endOfDifferent 7 rfl
theorem d_RU_endOfDifferent_10 : decode M_RU_endOfDifferent.2.1 10 = .ok (.getfield 19, 3) := fx_d (q := (10, .getfield 19, 3)) D_RU_endOfDifferent 8 rfl
theorem d_RU_endOfDifferent_13 : decode M_RU_endOfDifferent.2.1 13 = .ok (.iload_n 3, 1) := fx_d (q := (13, .iload_n 3, 1)) D_RU_endOfDifferent 9 rfl
theorem d_RU_endOfDifferent_14 : decode M_RU_endOfDifferent.2.1 14 = .ok (.iaload, 1) := fx_d (q := (14, .iaload, 1)) D_RU_endOfDifferent 10 rfl
theorem d_RU_endOfDifferent_15 : decode M_RU_endOfDifferent.2.1 15 = .ok (.aload_n 0, 1) := fx_d (q := (15, .aload_n 0, 1)) D_RU_endOfDifferent 11 rfl
theorem d_RU_endOfDifferent_16 : decode M_RU_endOfDifferent.2.1 16 = .ok (.getfield 19, 3) := fx_d (q := (16, .getfield 19, 3)) D_RU_endOfDifferent 12 rfl
theorem d_RU_endOfDifferent_19 : decode M_RU_endOfDifferent.2.1 19 = .ok (.iload_n 3, 1) := fx_d (q := (19, .iload_n 3, 1)) D_RU_endOfDifferent 13 rfl
theorem d_RU_endOfDifferent_20 : decode M_RU_endOfDifferent.2.1 20 = .ok (.iconst 1, 1) := fx_d (q := (20, .iconst 1, 1)) D_RU_endOfDifferent 14 rfl
theorem d_RU_endOfDifferent_21 : decode M_RU_endOfDifferent.2.1 21 = .ok (.iadd, 1) := fx_d (q := (21, .iadd, 1)) D_RU_endOfDifferent 15 rfl
theorem d_RU_endOfDifferent_22 : decode M_RU_endOfDifferent.2.1 22 = .ok (.iaload, 1) := fx_d (q := (22, .iaload, 1)) D_RU_endOfDifferent 16 rfl
theorem d_RU_endOfDifferent_23 : decode M_RU_endOfDifferent.2.1 23 = .ok (.if_icmp .ne 5, 3) := fx_d (q := (23, .if_icmp .ne 5, 3)) D_RU_endOfDifferent 17 rfl
theorem d_RU_endOfDifferent_26 : decode M_RU_endOfDifferent.2.1 26 = .ok (.iload_n 3, 1) := fx_d (q := (26, .iload_n 3, 1)) D_RU_endOfDifferent 18 rfl
theorem d_RU_endOfDifferent_27 : decode M_RU_endOfDifferent.2.1 27 = .ok (.ireturn, 1) := fx_d (q := (27, .ireturn, 1)) D_RU_endOfDifferent 19 rfl
theorem d_RU_endOfDifferent_28 : decode M_RU_endOfDifferent.2.1 28 = .ok (.iinc 3 1, 3) := fx_d (q := (28, .iinc 3 1, 3)) D_RU_endOfDifferent 20 rfl
theorem d_RU_endOfDifferent_31 : decode M_RU_endOfDifferent.2.1 31 = .ok (.goto (-29), 3) := fx_d (q := (31, .goto (-29), 3)) D_RU_endOfDifferent 21 rfl
theorem d_RU_endOfDifferent_34 : decode M_RU_endOfDifferent.2.1 34 = .ok (.iload_n 2, 1) := fx_d (q := (34, .iload_n 2, 1)) D_RU_endOfDifferent 22 rfl
theorem d_RU_endOfDifferent_35 : decode M_RU_endOfDifferent.2.1 35 = .ok (.ireturn, 1) := fx_d (q := (35, .ireturn, 1)) D_RU_endOfDifferent 23 rfl
