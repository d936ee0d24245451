set_option maxRecDepth 100000 in
def L_CT_init : List (Nat × Instr × Nat) := [(0, .aload_n 0, 1), (1, .invokespecial 1, 3), (4, .aload_n 0, 1), (5, .bipush 120, 2), (7, .newarray .int, 2), (9, .putfield 9, 3), (12, .iconst 1, 1), (13, .istore_n 2, 1), (14, .iconst 0, 1), (15, .istore_n 3, 1), (16, .iload_n 3, 1), (17, .aload_n 1, 1), (18, .arraylength, 1), (19, .if_icmp .ge 106, 3), (22, .iconst 0, 1), (23, .istore 4, 2), (25, .aload_n 1, 1), (26, .iload_n 3, 1), (27, .iaload, 1), (28, .invokestatic 13, 3), (31, .iconst 1, 1), (32, .isub, 1), (33, .istore 5, 2), (35, .iload 5, 2), (37, .ifCond .lt 82, 3), (40, .iconst 2, 1), (41, .iload 4, 2), (43, .imul, 1), (44, .aload_n 1, 1), (45, .iload_n 3, 1), (46, .iaload, 1), (47, .iload 5, 2), (49, .ishr, 1), (50, .iconst 1, 1), (51, .iand, 1), (52, .iadd, 1), (53, .istore 6, 2), (55, .iload 5, 2), (57, .ifCond .ne 16, 3), (60, .aload_n 0, 1), (61, .getfield 9, 3), (64, .iload 6, 2), (66, .iconst (-1), 1), (67, .iload_n 3, 1), (68, .isub, 1), (69, .iastore, 1), (70, .goto 30, 3), (73, .aload_n 0, 1), (74, .getfield 9, 3), (77, .iload 6, 2), (79, .iaload, 1), (80, .ifCond .ne 20, 3), (83, .iload_n 2, 1), (84, .bipush 60, 2), (86, .if_icmp .ge 14, 3), (89, .aload_n 0, 1), (90, .getfield 9, 3), (93, .iload 6, 2), (95, .iload_n 2, 1), (96, .iastore, 1), (97, .iinc 2 1, 3), (100, .aload_n 0, 1), (101, .getfield 9, 3), (104, .iload 6, 2), (106, .iaload, 1), (107, .iconst 0, 1), (108, .invokestatic 19, 3), (111, .istore 4, 2), (113, .iinc 5 (-1), 3), (116, .goto (-81), 3), (119, .iinc 3 1, 3), (122, .goto (-106), 3), (125, .return_, 1)]
set_option maxRecDepth 100000 in
theorem D_CT_init : ∀ q ∈ L_CT_init, decode prog_4_method_1_code q.1 = .ok q.2 := by decide +kernel
theorem d_CT_init_0 : decode M_CT_init.2.1 0 = .ok (.aload_n 0, 1) := fx_d (q := (0, .aload_n 0, 1)) D_CT_init 0 rfl
theorem d_CT_init_1 : decode M_CT_init.2.1 1 = .ok (.invokespecial 1, 3) := fx_d (q := (1, .invokespecial 1, 3)) D_CT_init 1 rfl
theorem d_CT_init_4 : decode M_CT_init.2.1 4 = .ok (.aload_n 0, 1) := fx_d (q := (4, .aload_n 0, 1)) D_CT_init 2 rfl
theorem d_CT_init_5 : decode M_CT_init.2.1 5 = .ok (.bipush 120, 2) := fx_d (q := (5, .bipush 120, 2)) D_CT_init 3 rfl
theorem d_CT_init_7 : decode M_CT_init.2.1 7 = .ok (.newarray .int, 2) := fx_d (q := (7, .newarray .int, 2)) D_CT_init 4 rfl
theorem d_CT_init_9 : decode M_CT_init.2.1 9 = .ok (.putfield 9, 3) := fx_d (q := (9, .putfield 9, 3)) D_CT_init 5 rfl
theorem d_CT_init_12 : decode M_CT_init.2.1 12 = .ok (.iconst 1, 1) := fx_d (q := (12, .iconst 1, 1)) D_CT_init 6 rfl
theorem d_CT_init_13 : decode M_CT_init.2.1 13 = .ok (.istore_n 2, 1) := fx_d (q := (13, .istore_n 2, 1)) D_CT_init 7 rfl
theorem d_CT_init_14 : decode M_CT_init.2.1 14 = .ok (.iconst 0, 1) := fx_d (q := (14, .iconst 0, 1)) D_CT_init 8 rfl
theorem d_CT_init_15 : decode M_CT_init.2.1 15 = .ok (.istore_n 3, 1) := fx_d (q := (15, .istore_n 3, 1)) D_CT_init 9 rfl
theorem d_CT_init_16 : decode M_CT_init.2.1 16 = .ok (.iload_n 3, 1) := fx_d (q := (16, .iload_n 3, 1)) D_CT_init 10 rfl
theorem d_CT_init_17 : decode M_CT_init.2.1 17 = .ok (.aload_n 1, 1) := fx_d (q := (17, .aload_n 1, 1)) D_CT_init 11 rfl
theorem d_CT_init_18 : decode M_CT_init.2.1 18 = .ok (.arraylength, 1) := fx_d (q := (18, .arraylength, 1)) D_CT_init 12 rfl
theorem d_CT_init_19 : decode M_CT_init.2.1 19 = .ok (.if_icmp .ge 106, 3) := fx_d (q := (19, .if_icmp .ge 106, 3)) D_CT_init 13 rfl
theorem d_CT_init_22 : decode M_CT_init.2.1 22 = .ok (.iconst 0, 1) := fx_d (q := (22, .iconst 0, 1)) D_CT_init 14 rfl
theorem d_CT_init_23 : decode M_CT_init.2.1 23 = .ok (.istore 4, 2) := fx_d (q := (23, .istore 4, 2)) D_CT_init 15 rfl
theorem d_CT_init_25 : decode M_CT_init.2.1 25 = .ok (.aload_n 1, 1) := fx_d (q := (25, .aload_n 1, 1)) D_CT_init 16 rfl
theorem d_CT_init_26 : decode M_CT_init.2.1 26 = .ok (.iload_n 3, 1) := fx_d (q := (26, .iload_n 3, 1)) D_CT_init 17 rfl
theorem d_CT_init_27 : decode M_CT_init.2.1 27 = .ok (.iaload, 1) := fx_d (q := (27, .iaload, 1)) D_CT_init 18 rfl
theorem d_CT_init_28 : decode M_CT_init.2.1 28 = .ok (.invokestatic 13, 3) := fx_d (q := (28, .invokestatic 13, 3)) D_CT_init 19 rfl
theorem d_CT_init_31 : decode M_CT_init.2.1 31 = .ok (.iconst 1, 1) := fx_d (q := (31, .iconst 1, 1)) D_CT_init 20 rfl
theorem d_CT_init_32 : decode M_CT_init.2.1 32 = .ok (.isub, 1) := fx_d (q := (32, .isub, 1)) D_CT_init 21 rfl
theorem d_CT_init_33 : decode M_CT_init.2.1 33 = .ok (.istore 5, 2) := fx_d (q := (33, .istore 5, 2)) D_CT_init 22 rfl
theorem d_CT_init_35 : decode M_CT_init.2.1 35 = .ok (.iload 5, 2) := fx_d (q := (35, .iload 5, 2)) D_CT_init 23 rfl
theorem d_CT_init_37 : decode M_CT_init.2.1 37 = .ok (.ifCond .lt 82, 3) := fx_d (q := (37, .ifCond .lt 82, 3)) D_CT_init 24 rfl
theorem d_CT_init_40 : decode M_CT_init.2.1 40 = .ok (.iconst 2, 1) := fx_d (q := (40, .iconst 2, 1)) D_CT_init 25 rfl
theorem d_CT_init_41 : decode M_CT_init.2.1 41 = .ok (.iload 4, 2) := fx_d (q := (41, .iload 4, 2)) D_CT_init 26 rfl
theorem d_CT_init_43 : decode M_CT_init.2.1 43 = .ok (.imul, 1) := fx_d (q := (43, .imul, 1)) D_CT_init 27 rfl
theorem d_CT_init_44 : decode M_CT_init.2.1 44 = .ok (.aload_n 1, 1) := fx_d (q := (44, .aload_n 1, 1)) D_CT_init 28 rfl
theorem d_CT_init_45 : decode M_CT_init.2.1 45 = .ok (.iload_n 3, 1) := fx_d (q := (45, .iload_n 3, 1)) D_CT_init 29 rfl
theorem d_CT_init_46 : decode M_CT_init.2.1 46 = .ok (.iaload, 1) := fx_d (q := (46, .iaload, 1)) D_CT_init 30 rfl
theorem d_CT_init_47 : decode M_CT_init.2.1 47 = .ok (.iload 5, 2) := fx_d (q := (47, .iload 5, 2)) D_CT_init 31 rfl
theorem d_CT_init_49 : decode M_CT_init.2.1 49 = .ok (.ishr, 1) := fx_d (q := (49, .ishr, 1)) D_CT_init 32 rfl
theorem d_CT_init_50 : decode M_CT_init.2.1 50 = .ok (.iconst 1, 1) := fx_d (q := (50, .iconst 1, 1)) D_CT_init 33 rfl
theorem d_CT_init_51 : decode M_CT_init.2.1 51 = .ok (.iand, 1) := fx_d (q := (51, .iand, 1)) D_CT_init 34 rfl
theorem d_CT_init_52 : decode M_CT_init.2.1 52 = .ok (.iadd, 1) := fx_d (q := (52, .iadd, 1)) D_CT_init 35 rfl
theorem d_CT_init_53 : decode M_CT_init.2.1 53 = .ok (.istore 6, 2) := fx_d (q := (53, .istore 6, 2)) D_CT_init 36 rfl
theorem d_CT_init_55 : decode M_CT_init.2.1 55 = .ok (.iload 5, 2) := fx_d (q := (55, .iload 5, 2)) D_CT_init 37 rfl
theorem d_CT_init_57 : decode M_CT_init.2.1 57 = .ok (.ifCond .ne 16, 3) := fx_d (q := (57, .ifCond .ne 16, 3)) D_CT_init 38 rfl
theorem d_CT_init_60 : decode M_CT_init.2.1 60 = .ok (.aload_n 0, 1) := fx_d (q := (60, .aload_n 0, 1)) D_CT_init 39 rfl
theorem d_CT_init_61 : decode M_CT_init.2.1 61 = .ok (.getfield 9, 3) := fx_d (q := (61, .getfield 9, 3)) D_CT_init 40 rfl
theorem d_CT_init_64 : decode M_CT_init.2.1 64 = .ok (.iload 6, 2) := fx_d (q := (64, .iload 6, 2)) D_CT_init 41 rfl
theorem d_CT_init_66 : decode M_CT_init.2.1 66 = .ok (.iconst (-1), 1) := fx_d (q := (66, .iconst (-1), 1)) D_CT_init 42 rfl
theorem d_CT_init_67 : decode M_CT_init.2.1 67 = .ok (.iload_n 3, 1) := fx_d (q := (67, .iload_n 3, 1)) D_CT_init 43 rfl
theorem d_CT_init_68 : decode M_CT_init.2.1 68 = .ok (.isub, 1) := fx_d (q := (68, .isub, 1)) D_CT_init 44 rfl
theorem d_CT_init_69 : decode M_CT_init.2.1 69 = .ok (.iastore, 1) := fx_d (q := (69, .iastore, 1)) D_CT_init 45 rfl
theorem d_CT_init_70 : decode M_CT_init.2.1 70 = .ok (.goto 30, 3) := fx_d (q := (70, .goto 30, 3)) D_CT_init 46 rfl
theorem d_CT_init_73 : decode M_CT_init.2.1 73 = .ok (.aload_n 0, 1) := fx_d (q := (73, .aload_n 0, 1)) D_CT_init 47 rfl
theorem d_CT_init_74 : decode M_CT_init.2.1 74 = .ok (.getfield 9, 3) := fx_d (q := (74, .getfield 9, 3)) D_CT_init 48 rfl
theorem d_CT_init_77 : decode M_CT_init.2.1 77 = .ok (.iload 6, 2) := fx_d (q := (77, .iload 6, 2)) D_CT_init 49 rfl
theorem d_CT_init_79 : decode M_CT_init.2.1 79 = .ok (.iaload, 1) := fx_d (q := (79, .iaload, 1)) D_CT_init 50 rfl
theorem d_CT_init_80 : decode M_CT_init.2.1 80 = .ok (.ifCond .ne 20, 3) := fx_d (q := (80, .ifCond .ne 20, 3)) D_CT_init 51 rfl
theorem d_CT_init_83 : decode M_CT_init.2.1 83 = .ok (.iload_n 2, 1) := fx_d (q := (83, .iload_n 2, 1)) D_CT_init 52 rfl
theorem d_CT_init_84 : decode M_CT_init.2.1 84 = .ok (.bipush 60, 2) := fx_d (q := (84, .bipush 60, 2)) D_CT_init 53 rfl
theorem d_CT_init_86 : decode M_CT_init.2.1 86 = .ok (.if_icmp .ge 14, 3) := fx_d (q := (86, .if_icmp .ge 14, 3)) D_CT_init 54 rfl
theorem d_CT_init_89 : decode M_CT_init.2.1 89 = .ok (.aload_n 0, 1) := fx_d (q := (89, .aload_n 0, 1)) D_CT_init 55 rfl
theorem d_CT_init_90 : decode M_CT_init.2.1 90 = .ok (.getfield 9, 3) := fx_d (q := (90, .getfield 9, 3)) D_CT_init 56 rfl
theorem d_CT_init_93 : decode M_CT_init.2.1 93 = .ok (.iload 6, 2) := fx_d (q := (93, .iload 6, 2)) D_CT_init 57 rfl
theorem d_CT_init_95 : decode M_CT_init.2.1 95 = .ok (.iload_n 2, 1) := fx_d (q := (95, .iload_n 2, 1)) D_CT_init 58 rfl
theorem d_CT_init_96 : decode M_CT_init.2.1 96 = .ok (.iastore, 1) := fx_d (q := (96, .iastore, 1)) D_CT_init 59 rfl
theorem d_CT_init_97 : decode M_CT_init.2.1 97 = .ok (.iinc 2 1, 3) := fx_d (q := (97, .iinc 2 1, 3)) D_CT_init 60 rfl
theorem d_CT_init_100 : decode M_CT_init.2.1 100 = .ok (.aload_n 0, 1) := fx_d (q := (100, .aload_n 0, 1)) D_CT_init 61 rfl
theorem d_CT_init_101 : decode M_CT_init.2.1 101 = .ok (.getfield 9, 3) := fx_d (q := (101, .getfield 9, 3)) D_CT_init 62 rfl
theorem d_CT_init_104 : decode M_CT_init.2.1 104 = .ok (.iload 6, 2) := fx_d (q := (104, .iload 6, 2)) D_CT_init 63 rfl
theorem d_CT_init_106 : decode M_CT_init.2.1 106 = .ok (.iaload, 1) := fx_d (q := (106, .iaload, 1)) D_CT_init 64 rfl
theorem d_CT_init_107 : decode M_CT_init.2.1 107 = .ok (.iconst 0, 1) := fx_d (q := (107, .iconst 0, 1)) D_CT_init 65 rfl
theorem d_CT_init_108 : decode M_CT_init.2.1 108 = .ok (.invokestatic 19, 3) := fx_d (q := (108, .invokestatic 19, 3)) D_CT_init 66 rfl
theorem d_CT_init_111 : decode M_CT_init.2.1 111 = .ok (.istore 4, 2) := fx_d (q := (111, .istore 4, 2)) D_CT_init 67 rfl
theorem d_CT_init_113 : decode M_CT_init.2.1 113 = .ok (.iinc 5 (-1), 3) := fx_d (q := (113, .iinc 5 (-1), 3)) D_CT_init 68 rfl
theorem d_CT_init_116 : decode M_CT_init.2.1 116 = .ok (.goto (-81), 3) := fx_d (q := (116, .goto (-81), 3)) D_CT_init 69 rfl
theorem d_CT_init_119 : decode M_CT_init.2.1 119 = .ok (.iinc 3 1, 3) := fx_d (q := (119, .iinc 3 1, 3)) D_CT_init 70 rfl
theorem d_CT_init_122 : decode M_CT_init.2.1 122 = .ok (.goto (-106), 3) := fx_d (q := (122, .goto (-106), 3)) D_CT_init 71 rfl
theorem d_CT_init_125 : decode M_CT_init.2.1 125 = .ok (.return_, 1) := fx_d (q := (125, .return_, 1)) D_CT_init 72 rfl
set_option maxRecDepth 100000 in
def L_CT_next : List (Nat × Instr × Nat) := [(0, .iconst 0, 1), (1, .istore_n 2, 1), (2, .iconst 0, 1), (3, .istore_n 3, 1), (4, .iload_n 3, 1), (5, .bipush 12, 2), (7, .if_icmp .ge 59, 3), (10, .aload_n 1, 1), (11, .invokevirtual 25, 3), (14, .istore 4, 2), (16, .iload 4, 2), (18, .ifCond .ge 7, 3), (21, .iconst 0, 1), (22, .goto 14, 3), (25, .aload_n 0, 1), (26, .getfield 9, 3), (29, .iconst 2, 1), (30, .iload_n 2, 1), (31, .imul, 1), (32, .iload 4, 2), (34, .iadd, 1), (35, .iaload, 1), (36, .istore 5, 2), (38, .iload 5, 2), (40, .ifCond .gt 17, 3), (43, .iload 5, 2), (45, .ifCond .ge 10, 3), (48, .iconst (-1), 1), (49, .iload 5, 2), (51, .isub, 1), (52, .goto 4, 3), (55, .iconst (-1), 1), (56, .ireturn, 1), (57, .iload 5, 2), (59, .istore_n 2, 1), (60, .iinc 3 1, 3), (63, .goto (-59), 3), (66, .iconst (-1), 1), (67, .ireturn, 1)]
set_option maxRecDepth 100000 in
theorem D_CT_next : ∀ q ∈ L_CT_next, decode prog_4_method_2_code q.1 = .ok q.2 := by decide +kernel
theorem d_CT_next_0 : decode M_CT_next.2.1 0 = .ok (.iconst 0, 1) := fx_d (q := (0, .iconst 0, 1)) D_CT_next 0 rfl
theorem d_CT_next_1 : decode M_CT_next.2.1 1 = .ok (.istore_n 2, 1) := fx_d (q := (1, .istore_n 2, 1)) D_CT_next 1 rfl
theorem d_CT_next_2 : decode M_CT_next.2.1 2 = .ok (.iconst 0, 1) := fx_d (q := (2, .iconst 0, 1)) D_CT_next 2 rfl
theorem d_CT_next_3 : decode M_CT_next.2.1 3 = .ok (.istore_n 3, 1) := fx_d (q := (3, .istore_n 3, 1)) D_CT_next 3 rfl
theorem d_CT_next_4 : decode M_CT_next.2.1 4 = .ok (.iload_n 3, 1) := fx_d (q := (4, .iload_n 3, 1)) D_CT_next 4 rfl
theorem d_CT_next_5 : decode M_CT_next.2.1 5 = .ok (.bipush 12, 2) := fx_d (q := (5, .bipush 12, 2)) D_CT_next 5 rfl
theorem d_CT_next_7 : decode M_CT_next.2.1 7 = .ok (.if_icmp .ge 59, 3) := fx_d (q := (7, .if_icmp .ge 59, 3)) D_CT_next 6 rfl
theorem d_CT_next_10 : decode M_CT_next.2.1 10 = .ok (.aload_n 1, 1) := fx_d (q := (10, .aload_n 1, 1)) D_CT_next 7 rfl
theorem d_CT_next_11 : decode M_CT_next.2.1 11 = .ok (.invokevirtual 25, 3) := fx_d (q := (11, .invokevirtual 25, 3)) D_CT_next 8 rfl
theorem d_CT_next_14 : decode M_CT_next.2.1 14 = .ok (.istore 4, 2) := fx_d (q := (14, .istore 4, 2)) D_CT_next 9 rfl
theorem d_CT_next_16 : decode M_CT_next.2.1 16 = .ok (.iload 4, 2) := fx_d (q := (16, .iload 4, 2)) D_CT_next 10 rfl
theorem d_CT_next_18 : decode M_CT_next.2.1 18 = .ok (.ifCond .ge 7, 3) := fx_d (q := (18, .ifCond .ge 7, 3)) D_CT_next 11 rfl
theorem d_CT_next_21 : decode M_CT_next.2.1 21 = .ok (.iconst 0, 1) := fx_d (q := (21, .iconst 0, 1)) D_CT_next 12 rfl
theorem d_CT_next_22 : decode M_CT_next.2.1 22 = .ok (.goto 14, 3) := fx_d (q := (22, .goto 14, 3)) D_CT_next 13 rfl
theorem d_CT_next_25 : decode M_CT_next.2.1 25 = .ok (.aload_n 0, 1) := fx_d (q := (25, .aload_n 0, 1)) D_CT_next 14 rfl
theorem d_CT_next_26 : decode M_CT_next.2.1 26 = .ok (.getfield 9, 3) := fx_d (q := (26, .getfield 9, 3)) D_CT_next 15 rfl
theorem d_CT_next_29 : decode M_CT_next.2.1 29 = .ok (.iconst 2, 1) := fx_d (q := (29, .iconst 2, 1)) D_CT_next 16 rfl
theorem d_CT_next_30 : decode M_CT_next.2.1 30 = .ok (.iload_n 2, 1) := fx_d (q := (30, .iload_n 2, 1)) D_CT_next 17 rfl
theorem d_CT_next_31 : decode M_CT_next.2.1 31 = .ok (.imul, 1) := fx_d (q := (31, .imul, 1)) D_CT_next 18 rfl
theorem d_CT_next_32 : decode M_CT_next.2.1 32 = .ok (.iload 4, 2) := fx_d (q := (32, .iload 4, 2)) D_CT_next 19 rfl
theorem d_CT_next_34 : decode M_CT_next.2.1 34 = .ok (.iadd, 1) := fx_d (q := (34, .iadd, 1)) D_CT_next 20 rfl
theorem d_CT_next_35 : decode M_CT_next.2.1 35 = .ok (.iaload, 1) := fx_d (q := (35, .iaload, 1)) D_CT_next 21 rfl
theorem d_CT_next_36 : decode M_CT_next.2.1 36 = .ok (.istore 5, 2) := fx_d (q := (36, .istore 5, 2)) D_CT_next 22 rfl
theorem d_CT_next_38 : decode M_CT_next.2.1 38 = .ok (.iload 5, 2) := fx_d (q := (38, .iload 5, 2)) D_CT_next 23 rfl
theorem d_CT_next_40 : decode M_CT_next.2.1 40 = .ok (.ifCond .gt 17, 3) := fx_d (q := (40, .ifCond .gt 17, 3)) D_CT_next 24 rfl
theorem d_CT_next_43 : decode M_CT_next.2.1 43 = .ok (.iload 5, 2) := fx_d (q := (43, .iload 5, 2)) D_CT_next 25 rfl
theorem d_CT_next_45 : decode M_CT_next.2.1 45 = .ok (.ifCond .ge 10, 3) := fx_d (q := (45, .ifCond .ge 10, 3)) D_CT_next 26 rfl
theorem d_CT_next_48 : decode M_CT_next.2.1 48 = .ok (.iconst (-1), 1) := fx_d (q := (48, .iconst (-1), 1)) D_CT_next 27 rfl
theorem d_CT_next_49 : decode M_CT_next.2.1 49 = .ok (.iload 5, 2) := fx_d (q := (49, .iload 5, 2)) D_CT_next 28 rfl
theorem d_CT_next_51 : decode M_CT_next.2.1 51 = .ok (.isub, 1) := fx_d (q := (51, .isub, 1)) D_CT_next 29 rfl
theorem d_CT_next_52 : decode M_CT_next.2.1 52 = .ok (.goto 4, 3) := fx_d (q := (52, .goto 4, 3)) D_CT_next 30 rfl
theorem d_CT_next_55 : decode M_CT_next.2.1 55 = .ok (.iconst (-1), 1) := fx_d (q := (55, .iconst (-1), 1)) D_CT_next 31 rfl
theorem d_CT_next_56 : decode M_CT_next.2.1 56 = .ok (.ireturn, 1) := fx_d (q := (56, .ireturn, 1)) D_CT_next 32 rfl
theorem d_CT_next_57 : decode M_CT_next.2.1 57 = .ok (.iload 5, 2) := fx_d (q := (57, .iload 5, 2)) D_CT_next 33 rfl
theorem d_CT_next_59 : decode M_CT_next.2.1 59 = .ok (.istore_n 2, 1) := fx_d (q := (59, .istore_n 2, 1)) D_CT_next 34 rfl
theorem d_CT_next_60 : decode M_CT_next.2.1 60 = .ok (.iinc 3 1, 3) := fx_d (q := (60, .iinc 3 1, 3)) D_CT_next 35 rfl
theorem d_CT_next_63 : decode M_CT_next.2.1 63 = .ok (.goto (-59), 3) := fx_d (q := (63, .goto (-59), 3)) D_CT_next 36 rfl
theorem d_CT_next_66 : decode M_CT_next.2.1 66 = .ok (.iconst (-1), 1) := fx_d (q := (66, .iconst (-1), 1)) D_CT_next 37 rfl
theorem d_CT_next_67 : decode M_CT_next.2.1 67 = .ok (.ireturn, 1) := fx_d (q := (67, .ireturn, 1)) D_CT_next 38 rfl
