set_option maxRecDepth 100000 in
def L_LI_init : List (Nat × Instr × Nat) := [(0, .aload_n 0, 1), (1, .invokespecial 3, 3), (4, .aload_n 0, 1), (5, .aload_n 1, 1), (6, .putfield 9, 3), (9, .aload_n 0, 1), (10, .aload_n 2, 1), (11, .putfield 15, 3), (14, .aload_n 0, 1), (15, .new 19, 3), (18, .dup, 1), (19, .getstatic 21, 3), (22, .invokespecial 25, 3), (25, .putfield 28, 3), (28, .aload_n 0, 1), (29, .new 19, 3), (32, .dup, 1), (33, .getstatic 32, 3), (36, .invokespecial 25, 3), (39, .putfield 35, 3), (42, .aload_n 0, 1), (43, .new 19, 3), (46, .dup, 1), (47, .getstatic 38, 3), (50, .invokespecial 25, 3), (53, .putfield 41, 3), (56, .return_, 1)]
set_option maxRecDepth 100000 in
theorem D_LI_init : ∀ q ∈ L_LI_init, decode prog_6_method_1_code q.1 = .ok q.2 := by decide +kernel
theorem d_LI_init_0 : decode M_LI_init.2.1 0 = .ok (.aload_n 0, 1) := fx_d (q := (0, .aload_n 0, 1)) D_LI_init 0 rfl
theorem d_LI_init_1 : decode M_LI_init.2.1 1 = .ok (.invokespecial 3, 3) := fx_d (q := (1, .invokespecial 3, 3)) D_LI_init 1 rfl
theorem d_LI_init_4 : decode M_LI_init.2.1 4 = .ok (.aload_n 0, 1) := fx_d (q := (4, .aload_n 0, 1)) D_LI_init 2 rfl
theorem d_LI_init_5 : decode M_LI_init.2.1 5 = .ok (.aload_n 1, 1) := fx_d (q := (5, .aload_n 1, 1)) D_LI_init 3 rfl
theorem d_LI_init_6 : decode M_LI_init.2.1 6 = .ok (.putfield 9, 3) := fx_d (q := (6, .putfield 9, 3)) D_LI_init 4 rfl
theorem d_LI_init_9 : decode M_LI_init.2.1 9 = .ok (.aload_n 0, 1) := fx_d (q := (9, .aload_n 0, 1)) D_LI_init 5 rfl
theorem d_LI_init_10 : decode M_LI_init.2.1 10 = .ok (.aload_n 2, 1) := fx_d (q := (10, .aload_n 2, 1)) D_LI_init 6 rfl
theorem d_LI_init_11 : decode M_LI_init.2.1 11 = .ok (.putfield 15, 3) := fx_d (q := (11, .putfield 15, 3)) D_LI_init 7 rfl
theorem d_LI_init_14 : decode M_LI_init.2.1 14 = .ok (.aload_n 0, 1) := fx_d (q := (14, .aload_n 0, 1)) D_LI_init 8 rfl
theorem d_LI_init_15 : decode M_LI_init.2.1 15 = .ok (.new 19, 3) := fx_d (q := (15, .new 19, 3)) D_LI_init 9 rfl
theorem d_LI_init_18 : decode M_LI_init.2.1 18 = .ok (.dup, 1) := fx_d (q := (18, .dup, 1)) D_LI_init 10 rfl
theorem d_LI_init_19 : decode M_LI_init.2.1 19 = .ok (.getstatic 21, 3) := fx_d (q := (19, .getstatic 21, 3)) D_LI_init 11 rfl
theorem d_LI_init_22 : decode M_LI_init.2.1 22 = .ok (.invokespecial 25, 3) := fx_d (q := (22, .invokespecial 25, 3)) D_LI_init 12 rfl
theorem d_LI_init_25 : decode M_LI_init.2.1 25 = .ok (.putfield 28, 3) := fx_d (q := (25, .putfield 28, 3)) D_LI_init 13 rfl
theorem d_LI_init_28 : decode M_LI_init.2.1 28 = .ok (.aload_n 0, 1) := fx_d (q := (28, .aload_n 0, 1)) D_LI_init 14 rfl
theorem d_LI_init_29 : decode M_LI_init.2.1 29 = .ok (.new 19, 3) := fx_d (q := (29, .new 19, 3)) D_LI_init 15 rfl
theorem d_LI_init_32 : decode M_LI_init.2.1 32 = .ok (.dup, 1) := fx_d (q := (32, .dup, 1)) D_LI_init 16 rfl
theorem d_LI_init_33 : decode M_LI_init.2.1 33 = .ok (.getstatic 32, 3) := fx_d (q := (33, .getstatic 32, 3)) D_LI_init 17 rfl
theorem d_LI_init_36 : decode M_LI_init.2.1 36 = .ok (.invokespecial 25, 3) := fx_d (q := (36, .invokespecial 25, 3)) D_LI_init 18 rfl
theorem d_LI_init_39 : decode M_LI_init.2.1 39 = .ok (.putfield 35, 3) := fx_d (q := (39, .putfield 35, 3)) D_LI_init 19 rfl
theorem d_LI_init_42 : decode M_LI_init.2.1 42 = .ok (.aload_n 0, 1) := fx_d (q := (42, .aload_n 0, 1)) D_LI_init 20 rfl
theorem d_LI_init_43 : decode M_LI_init.2.1 43 = .ok (.new 19, 3) := fx_d (q := (43, .new 19, 3)) D_LI_init 21 rfl
theorem d_LI_init_46 : decode M_LI_init.2.1 46 = .ok (.dup, 1) := fx_d (q := (46, .dup, 1)) D_LI_init 22 rfl
theorem d_LI_init_47 : decode M_LI_init.2.1 47 = .ok (.getstatic 38, 3) := fx_d (q := (47, .getstatic 38, 3)) D_LI_init 23 rfl
theorem d_LI_init_50 : decode M_LI_init.2.1 50 = .ok (.invokespecial 25, 3) := fx_d (q := (50, .invokespecial 25, 3)) D_LI_init 24 rfl
theorem d_LI_init_53 : decode M_LI_init.2.1 53 = .ok (.putfield 41, 3) := fx_d (q := (53, .putfield 41, 3)) D_LI_init 25 rfl
theorem d_LI_init_56 : decode M_LI_init.2.1 56 = .ok (.return_, 1) := fx_d (q := (56, .return_, 1)) D_LI_init 26 rfl
set_option maxRecDepth 100000 in
def L_LI_unpackByItself : List (Nat × Instr × Nat) := [(0, .iconst 0, 1), (1, .istore_n 3, 1), (2, .iconst 0, 1), (3, .istore 4, 2), (5, .iconst 0, 1), (6, .istore 5, 2), (8, .iload 5, 2), (10, .sipush 16000, 3), (13, .if_icmp .ge 74, 3), (16, .iload_n 3, 1), (17, .aload_n 1, 1), (18, .getfield 53, 3), (21, .if_icmp .ge 66, 3), (24, .aload_n 0, 1), (25, .iload 4, 2), (27, .invokevirtual 72, 3), (30, .aload_n 0, 1), (31, .getfield 15, 3), (34, .invokevirtual 76, 3), (37, .istore 6, 2), (39, .iload 6, 2), (41, .ifCond .lt 14, 3), (44, .iload_n 3, 1), (45, .iload 6, 2), (47, .iadd, 1), (48, .aload_n 1, 1), (49, .getfield 53, 3), (52, .if_icmp .le 5, 3), (55, .iconst 0, 1), (56, .ireturn, 1), (57, .aload_n 0, 1), (58, .aload_n 1, 1), (59, .iload_n 2, 1), (60, .iload_n 3, 1), (61, .iload_n 3, 1), (62, .iload 6, 2), (64, .iadd, 1), (65, .iload 4, 2), (67, .invokevirtual 80, 3), (70, .iload_n 3, 1), (71, .iload 6, 2), (73, .iadd, 1), (74, .istore_n 3, 1), (75, .iconst 1, 1), (76, .iload 4, 2), (78, .isub, 1), (79, .istore 4, 2), (81, .iinc 5 1, 3), (84, .goto (-76), 3), (87, .iload_n 3, 1), (88, .aload_n 1, 1), (89, .getfield 53, 3), (92, .if_icmp .ne 7, 3), (95, .iconst 1, 1), (96, .goto 4, 3), (99, .iconst 0, 1), (100, .ireturn, 1)]
set_option maxRecDepth 100000 in
theorem D_LI_unpackByItself : ∀ q ∈ L_LI_unpackByItself, decode prog_6_method_5_code q.1 = .ok q.2 := by decide +kernel
theorem d_LI_unpackByItself_0 : decode M_LI_unpackByItself.2.1 0 = .ok (.iconst 0, 1) := fx_d (q := (0, .iconst 0, 1)) D_LI_unpackByItself 0 rfl
theorem d_LI_unpackByItself_1 : decode M_LI_unpackByItself.2.1 1 = .ok (.istore_n 3, 1) := fx_d (q := (1, .istore_n 3, 1)) D_LI_unpackByItself 1 rfl
theorem d_LI_unpackByItself_2 : decode M_LI_unpackByItself.2.1 2 = .ok (.iconst 0, 1) := fx_d (q := (2, .iconst 0, 1)) D_LI_unpackByItself 2 rfl
theorem d_LI_unpackByItself_3 : decode M_LI_unpackByItself.2.1 3 = .ok (.istore 4, 2) := fx_d (q := (3, .istore 4, 2)) D_LI_unpackByItself 3 rfl
theorem d_LI_unpackByItself_5 : decode M_LI_unpackByItself.2.1 5 = .ok (.iconst 0, 1) := fx_d (q := (5, .iconst 0, 1)) D_LI_unpackByItself 4 rfl
theorem d_LI_unpackByItself_6 : decode M_LI_unpackByItself.2.1 6 = .ok (.istore 5, 2) := fx_d (q := (6, .istore 5, 2)) D_LI_unpackByItself 5 rfl
theorem d_LI_unpackByItself_8 : decode M_LI_unpackByItself.2.1 8 = .ok (.iload 5, 2) := fx_d (q := (8, .iload 5, 2)) D_LI_unpackByItself 6 rfl
theorem d_LI_unpackByItself_10 : decode M_LI_unpackByItself.2.1 10 = .ok (.sipush 16000, 3) := fx_d (q := (10, .sipush 16000, 3)) D_LI_unpackByItself 7 rfl
theorem d_LI_unpackByItself_13 : decode M_LI_unpackByItself.2.1 13 = .ok (.if_icmp .ge 74, 3) := fx_d (q := (13, .if_icmp .ge 74, 3)) D_LI_unpackByItself 8 rfl
theorem d_LI_unpackByItself_16 : decode M_LI_unpackByItself.2.1 16 = .ok (.iload_n 3, 1) := fx_d (q := (16, .iload_n 3, 1)) D_LI_unpackByItself 9 rfl
theorem d_LI_unpackByItself_17 : decode M_LI_unpackByItself.2.1 17 = .ok (.aload_n 1, 1) := fx_d (q := (17, .aload_n 1, 1)) D_LI_unpackByItself 10 rfl
theorem d_LI_unpackByItself_18 : decode M_LI_unpackByItself.2.1 18 = .ok (.getfield 53, 3) := fx_d (q := (18, .getfield 53, 3)) D_LI_unpackByItself 11 rfl
theorem d_LI_unpackByItself_21 : decode M_LI_unpackByItself.2.1 21 = .ok (.if_icmp .ge 66, 3) := fx_d (q := (21, .if_icmp .ge 66, 3)) D_LI_unpackByItself 12 rfl
theorem d_LI_unpackByItself_24 : decode M_LI_unpackByItself.2.1 24 = .ok (.aload_n 0, 1) := fx_d (q := (24, .aload_n 0, 1)) D_LI_unpackByItself 13 rfl
theorem d_LI_unpackByItself_25 : decode M_LI_unpackByItself.2.1 25 = .ok (.iload 4, 2) := fx_d (q := (25, .iload 4, 2)) D_LI_unpackByItself 14 rfl
theorem d_LI_unpackByItself_27 : decode M_LI_unpackByItself.2.1 27 = .ok (.invokevirtual 72, 3) := fx_d (q := (27, .invokevirtual 72, 3)) D_LI_unpackByItself 15 rfl
theorem d_LI_unpackByItself_30 : decode M_LI_unpackByItself.2.1 30 = .ok (.aload_n 0, 1) := fx_d (q := (30, .aload_n 0, 1)) D_LI_unpackByItself 16 rfl
theorem d_LI_unpackByItself_31 : decode M_LI_unpackByItself.2.1 31 = .ok (.getfield 15, 3) := fx_d (q := (31, .getfield 15, 3)) D_LI_unpackByItself 17 rfl
theorem d_LI_unpackByItself_34 : decode M_LI_unpackByItself.2.1 34 = .ok (.invokevirtual 76, 3) := fx_d (q := (34, .invokevirtual 76, 3)) D_LI_unpackByItself 18 rfl
theorem d_LI_unpackByItself_37 : decode M_LI_unpackByItself.2.1 37 = .ok (.istore 6, 2) := fx_d (q := (37, .istore 6, 2)) D_LI_unpackByItself 19 rfl
theorem d_LI_unpackByItself_39 : decode M_LI_unpackByItself.2.1 39 = .ok (.iload 6, 2) := fx_d (q := (39, .iload 6, 2)) D_LI_unpackByItself 20 rfl
theorem d_LI_unpackByItself_41 : decode M_LI_unpackByItself.2.1 41 = .ok (.ifCond .lt 14, 3) := fx_d (q := (41, .ifCond .lt 14, 3)) D_LI_unpackByItself 21 rfl
theorem d_LI_unpackByItself_44 : decode M_LI_unpackByItself.2.1 44 = .ok (.iload_n 3, 1) := fx_d (q := (44, .iload_n 3, 1)) D_LI_unpackByItself 22 rfl
theorem d_LI_unpackByItself_45 : decode M_LI_unpackByItself.2.1 45 = .ok (.iload 6, 2) := fx_d (q := (45, .iload 6, 2)) D_LI_unpackByItself 23 rfl
theorem d_LI_unpackByItself_47 : decode M_LI_unpackByItself.2.1 47 = .ok (.iadd, 1) := fx_d (q := (47, .iadd, 1)) D_LI_unpackByItself 24 rfl
theorem d_LI_unpackByItself_48 : decode M_LI_unpackByItself.2.1 48 = .ok (.aload_n 1, 1) := fx_d (q := (48, .aload_n 1, 1)) D_LI_unpackByItself 25 rfl
theorem d_LI_unpackByItself_49 : decode M_LI_unpackByItself.2.1 49 = .ok (.getfield 53, 3) := fx_d (q := (49, .getfield 53, 3)) D_LI_unpackByItself 26 rfl
theorem d_LI_unpackByItself_52 : decode M_LI_unpackByItself.2.1 52 = .ok (.if_icmp .le 5, 3) := fx_d (q := (52, .if_icmp .le 5, 3)) D_LI_unpackByItself 27 rfl
theorem d_LI_unpackByItself_55 : decode M_LI_unpackByItself.2.1 55 = .ok (.iconst 0, 1) := fx_d (q := (55, .iconst 0, 1)) D_LI_unpackByItself 28 rfl
theorem d_LI_unpackByItself_56 : decode M_LI_unpackByItself.2.1 56 = .ok (.ireturn, 1) := fx_d (q := (56, .ireturn, 1)) D_LI_unpackByItself 29 rfl
theorem d_LI_unpackByItself_57 : decode M_LI_unpackByItself.2.1 57 = .ok (.aload_n 0, 1) := fx_d (q := (57, .aload_n 0, 1)) D_LI_unpackByItself 30 rfl
theorem d_LI_unpackByItself_58 : decode M_LI_unpackByItself.2.1 58 = .ok (.aload_n 1, 1) := fx_d (q := (58, .aload_n 1, 1)) D_LI_unpackByItself 31 rfl
theorem d_LI_unpackByItself_59 : decode M_LI_unpackByItself.2.1 59 = .ok (.iload_n 2, 1) := fx_d (q := (59, .iload_n 2, 1)) D_LI_unpackByItself 32 rfl
theorem d_LI_unpackByItself_60 : decode M_LI_unpackByItself.2.1 60 = .ok (.iload_n 3, 1) := fx_d (q := (60, .iload_n 3, 1)) D_LI_unpackByItself 33 rfl
theorem d_LI_unpackByItself_61 : decode M_LI_unpackByItself.2.1 61 = .ok (.iload_n 3, 1) := fx_d (q := (61, .iload_n 3, 1)) D_LI_unpackByItself 34 rfl
theorem d_LI_unpackByItself_62 : decode M_LI_unpackByItself.2.1 62 = .ok (.iload 6, 2) := fx_d (q := (62, .iload 6, 2)) D_LI_unpackByItself 35 rfl
theorem d_LI_unpackByItself_64 : decode M_LI_unpackByItself.2.1 64 = .ok (.iadd, 1) := fx_d (q := (64, .iadd, 1)) D_LI_unpackByItself 36 rfl
theorem d_LI_unpackByItself_65 : decode M_LI_unpackByItself.2.1 65 = .ok (.iload 4, 2) := fx_d (q := (65, .iload 4, 2)) D_LI_unpackByItself 37 rfl
theorem d_LI_unpackByItself_67 : decode M_LI_unpackByItself.2.1 67 = .ok (.invokevirtual 80, 3) := fx_d (q := (67, .invokevirtual 80, 3)) D_LI_unpackByItself 38 rfl
theorem d_LI_unpackByItself_70 : decode M_LI_unpackByItself.2.1 70 = .ok (.iload_n 3, 1) := fx_d (q := (70, .iload_n 3, 1)) D_LI_unpackByItself 39 rfl
theorem d_LI_unpackByItself_71 : decode M_LI_unpackByItself.2.1 71 = .ok (.iload 6, 2) := fx_d (q := (71, .iload 6, 2)) D_LI_unpackByItself 40 rfl
theorem d_LI_unpackByItself_73 : decode M_LI_unpackByItself.2.1 73 = .ok (.iadd, 1) := fx_d (q := (73, .iadd, 1)) D_LI_unpackByItself 41 rfl
theorem d_LI_unpackByItself_74 : decode M_LI_unpackByItself.2.1 74 = .ok (.istore_n 3, 1) := fx_d (q := (74, .istore_n 3, 1)) D_LI_unpackByItself 42 rfl
theorem d_LI_unpackByItself_75 : decode M_LI_unpackByItself.2.1 75 = .ok (.iconst 1, 1) := fx_d (q := (75, .iconst 1, 1)) D_LI_unpackByItself 43 rfl
theorem d_LI_unpackByItself_76 : decode M_LI_unpackByItself.2.1 76 = .ok (.iload 4, 2) := fx_d (q := (76, .iload 4, 2)) D_LI_unpackByItself 44 rfl
theorem d_LI_unpackByItself_78 : decode M_LI_unpackByItself.2.1 78 = .ok (.isub, 1) := fx_d (q := (78, .isub, 1)) D_LI_unpackByItself 45 rfl
theorem d_LI_unpackByItself_79 : decode M_LI_unpackByItself.2.1 79 = .ok (.istore 4, 2) := fx_d (q := (79, .istore 4, 2)) D_LI_unpackByItself 46 rfl
theorem d_LI_unpackByItself_81 : decode M_LI_unpackByItself.2.1 81 = .ok (.iinc 5 1, 3) := fx_d (q := (81, .iinc 5 1, 3)) D_LI_unpackByItself 47 rfl
theorem d_LI_unpackByItself_84 : decode M_LI_unpackByItself.2.1 84 = .ok (.goto (-76), 3) := fx_d (q := (84, .goto (-76), 3)) D_LI_unpackByItself 48 rfl
theorem d_LI_unpackByItself_87 : decode M_LI_unpackByItself.2.1 87 = .ok (.iload_n 3, 1) := fx_d (q := (87, .iload_n 3, 1)) D_LI_unpackByItself 49 rfl
theorem d_LI_unpackByItself_88 : decode M_LI_unpackByItself.2.1 88 = .ok (.aload_n 1, 1) := fx_d (q := (88, .aload_n 1, 1)) D_LI_unpackByItself 50 rfl
theorem d_LI_unpackByItself_89 : decode M_LI_unpackByItself.2.1 89 = .ok (.getfield 53, 3) := fx_d (q := (89, .getfield 53, 3)) D_LI_unpackByItself 51 rfl
theorem d_LI_unpackByItself_92 : decode M_LI_unpackByItself.2.1 92 = .ok (.if_icmp .ne 7, 3) := fx_d (q := (92, .if_icmp .ne 7, 3)) D_LI_unpackByItself 52 rfl
theorem d_LI_unpackByItself_95 : decode M_LI_unpackByItself.2.1 95 = .ok (.iconst 1, 1) := fx_d (q := (95, .iconst 1, 1)) D_LI_unpackByItself 53 rfl
theorem d_LI_unpackByItself_96 : decode M_LI_unpackByItself.2.1 96 = .ok (.goto 4, 3) := fx_d (q := (96, .goto 4, 3)) D_LI_unpackByItself 54 rfl
theorem d_LI_unpackByItself_99 : decode M_LI_unpackByItself.2.1 99 = .ok (.iconst 0, 1) := fx_d (q := (99, .iconst 0, 1)) D_LI_unpackByItself 55 rfl
theorem d_LI_unpackByItself_100 : decode M_LI_unpackByItself.2.1 100 = .ok (.ireturn, 1) := fx_d (q := (100, .ireturn, 1)) D_LI_unpackByItself 56 rfl
set_option maxRecDepth 100000 in
def L_LI_runsOf : List (Nat × Instr × Nat) := [(0, .iload_n 1, 1), (1, .ifCond .ne 10, 3), (4, .aload_n 0, 1), (5, .getfield 28, 3), (8, .goto 7, 3), (11, .aload_n 0, 1), (12, .getfield 35, 3), (15, .areturn, 1)]
set_option maxRecDepth 100000 in
theorem D_LI_runsOf : ∀ q ∈ L_LI_runsOf, decode prog_6_method_3_code q.1 = .ok q.2 := by decide +kernel
theorem d_LI_runsOf_0 : decode M_LI_runsOf.2.1 0 = .ok (.iload_n 1, 1) := fx_d (q := (0, .iload_n 1, 1)) D_LI_runsOf 0 rfl
theorem d_LI_runsOf_1 : decode M_LI_runsOf.2.1 1 = .ok (.ifCond .ne 10, 3) := fx_d (q := (1, .ifCond .ne 10, 3)) D_LI_runsOf 1 rfl
theorem d_LI_runsOf_4 : decode M_LI_runsOf.2.1 4 = .ok (.aload_n 0, 1) := fx_d (q := (4, .aload_n 0, 1)) D_LI_runsOf 2 rfl
theorem d_LI_runsOf_5 : decode M_LI_runsOf.2.1 5 = .ok (.getfield 28, 3) := fx_d (q := (5, .getfield 28, 3)) D_LI_runsOf 3 rfl
theorem d_LI_runsOf_8 : decode M_LI_runsOf.2.1 8 = .ok (.goto 7, 3) := fx_d (q := (8, .goto 7, 3)) D_LI_runsOf 4 rfl
theorem d_LI_runsOf_11 : decode M_LI_runsOf.2.1 11 = .ok (.aload_n 0, 1) := fx_d (q := (11, .aload_n 0, 1)) D_LI_runsOf 5 rfl
theorem d_LI_runsOf_12 : decode M_LI_runsOf.2.1 12 = .ok (.getfield 35, 3) := fx_d (q := (12, .getfield 35, 3)) D_LI_runsOf 6 rfl
theorem d_LI_runsOf_15 : decode M_LI_runsOf.2.1 15 = .ok (.areturn, 1) := fx_d (q := (15, .areturn, 1)) D_LI_runsOf 7 rfl
set_option maxRecDepth 100000 in
def L_LI_paintRun : List (Nat × Instr × Nat) := [(0, .iload_n 3, 1), (1, .istore 6, 2), (3, .iload 6, 2), (5, .iload 4, 2), (7, .if_icmp .ge 18, 3), (10, .aload_n 1, 1), (11, .iload 6, 2), (13, .iload_n 2, 1), (14, .iload 5, 2), (16, .invokevirtual 95, 3), (19, .iinc 6 1, 3), (22, .goto (-19), 3), (25, .return_, 1)]
set_option maxRecDepth 100000 in
theorem D_LI_paintRun : ∀ q ∈ L_LI_paintRun, decode prog_6_method_10_code q.1 = .ok q.2 := by decide +kernel
theorem d_LI_paintRun_0 : decode M_LI_paintRun.2.1 0 = .ok (.iload_n 3, 1) := fx_d (q := (0, .iload_n 3, 1)) D_LI_paintRun 0 rfl
theorem d_LI_paintRun_1 : decode M_LI_paintRun.2.1 1 = .ok (.istore 6, 2) := fx_d (q := (1, .istore 6, 2)) D_LI_paintRun 1 rfl
theorem d_LI_paintRun_3 : decode M_LI_paintRun.2.1 3 = .ok (.iload 6, 2) := fx_d (q := (3, .iload 6, 2)) D_LI_paintRun 2 rfl
theorem d_LI_paintRun_5 : decode M_LI_paintRun.2.1 5 = .ok (.iload 4, 2) := fx_d (q := (5, .iload 4, 2)) D_LI_paintRun 3 rfl
theorem d_LI_paintRun_7 : decode M_LI_paintRun.2.1 7 = .ok (.if_icmp .ge 18, 3) := fx_d (q := (7, .if_icmp .ge 18, 3)) D_LI_paintRun 4 rfl
theorem d_LI_paintRun_10 : decode M_LI_paintRun.2.1 10 = .ok (.aload_n 1, 1) := fx_d (q := (10, .aload_n 1, 1)) D_LI_paintRun 5 rfl
theorem d_LI_paintRun_11 : decode M_LI_paintRun.2.1 11 = .ok (.iload 6, 2) := fx_d (q := (11, .iload 6, 2)) D_LI_paintRun 6 rfl
theorem d_LI_paintRun_13 : decode M_LI_paintRun.2.1 13 = .ok (.iload_n 2, 1) := fx_d (q := (13, .iload_n 2, 1)) D_LI_paintRun 7 rfl
theorem d_LI_paintRun_14 : decode M_LI_paintRun.2.1 14 = .ok (.iload 5, 2) := fx_d (q := (14, .iload 5, 2)) D_LI_paintRun 8 rfl
theorem d_LI_paintRun_16 : decode M_LI_paintRun.2.1 16 = .ok (.invokevirtual 95, 3) := fx_d (q := (16, .invokevirtual 95, 3)) D_LI_paintRun 9 rfl
theorem d_LI_paintRun_19 : decode M_LI_paintRun.2.1 19 = .ok (.iinc 6 1, 3) := fx_d (q := (19, .iinc 6 1, 3)) D_LI_paintRun 10 rfl
theorem d_LI_paintRun_22 : decode M_LI_paintRun.2.1 22 = .ok (.goto (-19), 3) := fx_d (q := (22, .goto (-19), 3)) D_LI_paintRun 11 rfl
theorem d_LI_paintRun_25 : decode M_LI_paintRun.2.1 25 = .ok (.return_, 1) := fx_d (q := (25, .return_, 1)) D_LI_paintRun 12 rfl
set_option maxRecDepth 100000 in
def L_LI_unpackByAnother : List (Nat × Instr × Nat) := [(0, .iconst (-1), 1), (1, .istore 4, 2), (3, .iconst 0, 1), (4, .istore 5, 2), (6, .iconst 0, 1), (7, .istore 6, 2), (9, .iload 6, 2), (11, .aload_n 1, 1), (12, .getfield 53, 3), (15, .if_icmp .gt 130, 3), (18, .iload 4, 2), (20, .aload_n 1, 1), (21, .getfield 53, 3), (24, .if_icmp .ge 121, 3), (27, .aload_n 0, 1), (28, .getfield 41, 3), (31, .aload_n 0, 1), (32, .getfield 15, 3), (35, .invokevirtual 76, 3), (38, .istore 7, 2), (40, .iload 7, 2), (42, .ifCond .ge 5, 3), (45, .iconst 0, 1), (46, .ireturn, 1), (47, .iload 7, 2), (49, .bipush 8, 2), (51, .if_icmp .ne 22, 3), (54, .aload_n 0, 1), (55, .aload_n 1, 1), (56, .iload_n 2, 1), (57, .iload 4, 2), (59, .iconst 0, 1), (60, .invokestatic 50, 3), (63, .iload 5, 2), (65, .invokevirtual 87, 3), (68, .istore 8, 2), (70, .goto 47, 3), (73, .aload_n 0, 1), (74, .aload_n 1, 1), (75, .iload_n 3, 1), (76, .iload 4, 2), (78, .iload 5, 2), (80, .iload 7, 2), (82, .invokevirtual 91, 3), (85, .istore 8, 2), (87, .aload_n 0, 1), (88, .aload_n 1, 1), (89, .iload_n 2, 1), (90, .iload 4, 2), (92, .iload 8, 2), (94, .iload 5, 2), (96, .invokevirtual 80, 3), (99, .iload 7, 2), (101, .bipush 7, 2), (103, .if_icmp .ne 8, 3), (106, .iload 5, 2), (108, .goto 7, 3), (111, .iconst 1, 1), (112, .iload 5, 2), (114, .isub, 1), (115, .istore 5, 2), (117, .iload 8, 2), (119, .iload 4, 2), (121, .if_icmp .le 12, 3), (124, .iload 8, 2), (126, .aload_n 1, 1), (127, .getfield 53, 3), (130, .if_icmp .le 5, 3), (133, .iconst 0, 1), (134, .ireturn, 1), (135, .iload 8, 2), (137, .istore 4, 2), (139, .iinc 6 1, 3), (142, .goto (-133), 3), (145, .iload 4, 2), (147, .aload_n 1, 1), (148, .getfield 53, 3), (151, .if_icmp .ne 7, 3), (154, .iconst 1, 1), (155, .goto 4, 3), (158, .iconst 0, 1), (159, .ireturn, 1)]
set_option maxRecDepth 100000 in
theorem D_LI_unpackByAnother : ∀ q ∈ L_LI_unpackByAnother, decode prog_6_method_7_code q.1 = .ok q.2 := by decide +kernel
theorem d_LI_unpackByAnother_0 : decode M_LI_unpackByAnother.2.1 0 = .ok (.iconst (-1), 1) := fx_d (q := (0, .iconst (-1), 1)) D_LI_unpackByAnother 0 rfl
theorem d_LI_unpackByAnother_1 : decode M_LI_unpackByAnother.2.1 1 = .ok (.istore 4, 2) := fx_d (q := (1, .istore 4, 2)) D_LI_unpackByAnother 1 rfl
theorem d_LI_unpackByAnother_3 : decode M_LI_unpackByAnother.2.1 3 = .ok (.iconst 0, 1) := fx_d (q := (3, .iconst 0, 1)) D_LI_unpackByAnother 2 rfl
theorem d_LI_unpackByAnother_4 : decode M_LI_unpackByAnother.2.1 4 = .ok (.istore 5, 2) := fx_d (q := (4, .istore 5, 2)) D_LI_unpackByAnother 3 rfl
theorem d_LI_unpackByAnother_6 : decode M_LI_unpackByAnother.2.1 6 = .ok (.iconst 0, 1) := fx_d (q := (6, .iconst 0, 1)) D_LI_unpackByAnother 4 rfl
theorem d_LI_unpackByAnother_7 : decode M_LI_unpackByAnother.2.1 7 = .ok (.istore 6, 2) := fx_d (q := (7, .istore 6, 2)) D_LI_unpackByAnother 5 rfl
theorem d_LI_unpackByAnother_9 : decode M_LI_unpackByAnother.2.1 9 = .ok (.iload 6, 2) := fx_d (q := (9, .iload 6, 2)) D_LI_unpackByAnother 6 rfl
theorem d_LI_unpackByAnother_11 : decode M_LI_unpackByAnother.2.1 11 = .ok (.aload_n 1, 1) := fx_d (q := (11, .aload_n 1, 1)) D_LI_unpackByAnother 7 rfl
theorem d_LI_unpackByAnother_12 : decode M_LI_unpackByAnother.2.1 12 = .ok (.getfield 53, 3) := fx_d (q := (12, .getfield 53, 3)) D_LI_unpackByAnother 8 rfl
theorem d_LI_unpackByAnother_15 : decode M_LI_unpackByAnother.2.1 15 = .ok (.if_icmp .gt 130, 3) := fx_d (q := (15, .if_icmp .gt 130, 3)) D_LI_unpackByAnother 9 rfl
theorem d_LI_unpackByAnother_18 : decode M_LI_unpackByAnother.2.1 18 = .ok (.iload 4, 2) := fx_d (q := (18, .iload 4, 2)) D_LI_unpackByAnother 10 rfl
theorem d_LI_unpackByAnother_20 : decode M_LI_unpackByAnother.2.1 20 = .ok (.aload_n 1, 1) := fx_d (q := (20, .aload_n 1, 1)) D_LI_unpackByAnother 11 rfl
theorem d_LI_unpackByAnother_21 : decode M_LI_unpackByAnother.2.1 21 = .ok (.getfield 53, 3) := fx_d (q := (21, .getfield 53, 3)) D_LI_unpackByAnother 12 rfl
theorem d_LI_unpackByAnother_24 : decode M_LI_unpackByAnother.2.1 24 = .ok (.if_icmp .ge 121, 3) := fx_d (q := (24, .if_icmp .ge 121, 3)) D_LI_unpackByAnother 13 rfl
theorem d_LI_unpackByAnother_27 : decode M_LI_unpackByAnother.2.1 27 = .ok (.aload_n 0, 1) := fx_d (q := (27, .aload_n 0, 1)) D_LI_unpackByAnother 14 rfl
theorem d_LI_unpackByAnother_28 : decode M_LI_unpackByAnother.2.1 28 = .ok (.getfield 41, 3) := fx_d (q := (28, .getfield 41, 3)) D_LI_unpackByAnother 15 rfl
theorem d_LI_unpackByAnother_31 : decode M_LI_unpackByAnother.2.1 31 = .ok (.aload_n 0, 1) := fx_d (q := (31, .aload_n 0, 1)) D_LI_unpackByAnother 16 rfl
theorem d_LI_unpackByAnother_32 : decode M_LI_unpackByAnother.2.1 32 = .ok (.getfield 15, 3) := fx_d (q := (32, .getfield 15, 3)) D_LI_unpackByAnother 17 rfl
theorem d_LI_unpackByAnother_35 : decode M_LI_unpackByAnother.2.1 35 = .ok (.invokevirtual 76, 3) := fx_d (q := (35, .invokevirtual 76, 3)) D_LI_unpackByAnother 18 rfl
theorem d_LI_unpackByAnother_38 : decode M_LI_unpackByAnother.2.1 38 = .ok (.istore 7, 2) := fx_d (q := (38, .istore 7, 2)) D_LI_unpackByAnother 19 rfl
theorem d_LI_unpackByAnother_40 : decode M_LI_unpackByAnother.2.1 40 = .ok (.iload 7, 2) := fx_d (q := (40, .iload 7, 2)) D_LI_unpackByAnother 20 rfl
theorem d_LI_unpackByAnother_42 : decode M_LI_unpackByAnother.2.1 42 = .ok (.ifCond .ge 5, 3) := fx_d (q := (42, .ifCond .ge 5, 3)) D_LI_unpackByAnother 21 rfl
theorem d_LI_unpackByAnother_45 : decode M_LI_unpackByAnother.2.1 45 = .ok (.iconst 0, 1) := fx_d (q := (45, .iconst 0, 1)) D_LI_unpackByAnother 22 rfl
theorem d_LI_unpackByAnother_46 : decode M_LI_unpackByAnother.2.1 46 = .ok (.ireturn, 1) := fx_d (q := (46, .ireturn, 1)) D_LI_unpackByAnother 23 rfl
theorem d_LI_unpackByAnother_47 : decode M_LI_unpackByAnother.2.1 47 = .ok (.iload 7, 2) := fx_d (q := (47, .iload 7, 2)) D_LI_unpackByAnother 24 rfl
theorem d_LI_unpackByAnother_49 : decode M_LI_unpackByAnother.2.1 49 = .ok (.bipush 8, 2) := fx_d (q := (49, .bipush 8, 2)) D_LI_unpackByAnother 25 rfl
theorem d_LI_unpackByAnother_51 : decode M_LI_unpackByAnother.2.1 51 = .ok (.if_icmp .ne 22, 3) := fx_d (q := (51, .if_icmp .ne 22, 3)) D_LI_unpackByAnother 26 rfl
theorem d_LI_unpackByAnother_54 : decode M_LI_unpackByAnother.2.1 54 = .ok (.aload_n 0, 1) := fx_d (q := (54, .aload_n 0, 1)) D_LI_unpackByAnother 27 rfl
theorem d_LI_unpackByAnother_55 : decode M_LI_unpackByAnother.2.1 55 = .ok (.aload_n 1, 1) := fx_d (q := (55, .aload_n 1, 1)) D_LI_unpackByAnother 28 rfl
theorem d_LI_unpackByAnother_56 : decode M_LI_unpackByAnother.2.1 56 = .ok (.iload_n 2, 1) := fx_d (q := (56, .iload_n 2, 1)) D_LI_unpackByAnother 29 rfl
theorem d_LI_unpackByAnother_57 : decode M_LI_unpackByAnother.2.1 57 = .ok (.iload 4, 2) := fx_d (q := (57, .iload 4, 2)) D_LI_unpackByAnother 30 rfl
theorem d_LI_unpackByAnother_59 : decode M_LI_unpackByAnother.2.1 59 = .ok (.iconst 0, 1) := fx_d (q := (59, .iconst 0, 1)) D_LI_unpackByAnother 31 rfl
theorem d_LI_unpackByAnother_60 : decode M_LI_unpackByAnother.2.1 60 = .ok (.invokestatic 50, 3) := fx_d (q := (60, .invokestatic 50, 3)) D_LI_unpackByAnother 32 rfl
theorem d_LI_unpackByAnother_63 : decode M_LI_unpackByAnother.2.1 63 = .ok (.iload 5, 2) := fx_d (q := (63, .iload 5, 2)) D_LI_unpackByAnother 33 rfl
theorem d_LI_unpackByAnother_65 : decode M_LI_unpackByAnother.2.1 65 = .ok (.invokevirtual 87, 3) := fx_d (q := (65, .invokevirtual 87, 3)) D_LI_unpackByAnother 34 rfl
theorem d_LI_unpackByAnother_68 : decode M_LI_unpackByAnother.2.1 68 = .ok (.istore 8, 2) := fx_d (q := (68, .istore 8, 2)) D_LI_unpackByAnother 35 rfl
theorem d_LI_unpackByAnother_70 : decode M_LI_unpackByAnother.2.1 70 = .ok (.goto 47, 3) := fx_d (q := (70, .goto 47, 3)) D_LI_unpackByAnother 36 rfl
theorem d_LI_unpackByAnother_73 : decode M_LI_unpackByAnother.2.1 73 = .ok (.aload_n 0, 1) := fx_d (q := (73, .aload_n 0, 1)) D_LI_unpackByAnother 37 rfl
theorem d_LI_unpackByAnother_74 : decode M_LI_unpackByAnother.2.1 74 = .ok (.aload_n 1, 1) := fx_d (q := (74, .aload_n 1, 1)) D_LI_unpackByAnother 38 rfl
theorem d_LI_unpackByAnother_75 : decode M_LI_unpackByAnother.2.1 75 = .ok (.iload_n 3, 1) := fx_d (q := (75, .iload_n 3, 1)) D_LI_unpackByAnother 39 rfl
theorem d_LI_unpackByAnother_76 : decode M_LI_unpackByAnother.2.1 76 = .ok (.iload 4, 2) := fx_d (q := (76, .iload 4, 2)) D_LI_unpackByAnother 40 rfl
theorem d_LI_unpackByAnother_78 : decode M_LI_unpackByAnother.2.1 78 = .ok (.iload 5, 2) := fx_d (q := (78, .iload 5, 2)) D_LI_unpackByAnother 41 rfl
theorem d_LI_unpackByAnother_80 : decode M_LI_unpackByAnother.2.1 80 = .ok (.iload 7, 2) := fx_d (q := (80, .iload 7, 2)) D_LI_unpackByAnother 42 rfl
theorem d_LI_unpackByAnother_82 : decode M_LI_unpackByAnother.2.1 82 = .ok (.invokevirtual 91, 3) := fx_d (q := (82, .invokevirtual 91, 3)) D_LI_unpackByAnother 43 rfl
theorem d_LI_unpackByAnother_85 : decode M_LI_unpackByAnother.2.1 85 = .ok (.istore 8, 2) := fx_d (q := (85, .istore 8, 2)) D_LI_unpackByAnother 44 rfl
theorem d_LI_unpackByAnother_87 : decode M_LI_unpackByAnother.2.1 87 = .ok (.aload_n 0, 1) := fx_d (q := (87, .aload_n 0, 1)) D_LI_unpackByAnother 45 rfl
theorem d_LI_unpackByAnother_88 : decode M_LI_unpackByAnother.2.1 88 = .ok (.aload_n 1, 1) := fx_d (q := (88, .aload_n 1, 1)) D_LI_unpackByAnother 46 rfl
theorem d_LI_unpackByAnother_89 : decode M_LI_unpackByAnother.2.1 89 = .ok (.iload_n 2, 1) := fx_d (q := (89, .iload_n 2, 1)) D_LI_unpackByAnother 47 rfl
theorem d_LI_unpackByAnother_90 : decode M_LI_unpackByAnother.2.1 90 = .ok (.iload 4, 2) := fx_d (q := (90, .iload 4, 2)) D_LI_unpackByAnother 48 rfl
theorem d_LI_unpackByAnother_92 : decode M_LI_unpackByAnother.2.1 92 = .ok (.iload 8, 2) := fx_d (q := (92, .iload 8, 2)) D_LI_unpackByAnother 49 rfl
theorem d_LI_unpackByAnother_94 : decode M_LI_unpackByAnother.2.1 94 = .ok (.iload 5, 2) := fx_d (q := (94, .iload 5, 2)) D_LI_unpackByAnother 50 rfl
theorem d_LI_unpackByAnother_96 : decode M_LI_unpackByAnother.2.1 96 = .ok (.invokevirtual 80, 3) := fx_d (q := (96, .invokevirtual 80, 3)) D_LI_unpackByAnother 51 rfl
theorem d_LI_unpackByAnother_99 : decode M_LI_unpackByAnother.2.1 99 = .ok (.iload 7, 2) := fx_d (q := (99, .iload 7, 2)) D_LI_unpackByAnother 52 rfl
theorem d_LI_unpackByAnother_101 : decode M_LI_unpackByAnother.2.1 101 = .ok (.bipush 7, 2) := fx_d (q := (101, .bipush 7, 2)) D_LI_unpackByAnother 53 rfl
theorem d_LI_unpackByAnother_103 : decode M_LI_unpackByAnother.2.1 103 = .ok (.if_icmp .ne 8, 3) := fx_d (q := (103, .if_icmp .ne 8, 3)) D_LI_unpackByAnother 54 rfl
theorem d_LI_unpackByAnother_106 : decode M_LI_unpackByAnother.2.1 106 = .ok (.iload 5, 2) := fx_d (q := (106, .iload 5, 2)) D_LI_unpackByAnother 55 rfl
theorem d_LI_unpackByAnother_108 : decode M_LI_unpackByAnother.2.1 108 = .ok (.goto 7, 3) := fx_d (q := (108, .goto 7, 3)) D_LI_unpackByAnother 56 rfl
theorem d_LI_unpackByAnother_111 : decode M_LI_unpackByAnother.2.1 111 = .ok (.iconst 1, 1) := fx_d (q := (111, .iconst 1, 1)) D_LI_unpackByAnother 57 rfl
theorem d_LI_unpackByAnother_112 : decode M_LI_unpackByAnother.2.1 112 = .ok (.iload 5, 2) := fx_d (q := (112, .iload 5, 2)) D_LI_unpackByAnother 58 rfl
theorem d_LI_unpackByAnother_114 : decode M_LI_unpackByAnother.2.1 114 = .ok (.isub, 1) := fx_d (q := (114, .isub, 1)) D_LI_unpackByAnother 59 rfl
theorem d_LI_unpackByAnother_115 : decode M_LI_unpackByAnother.2.1 115 = .ok (.istore 5, 2) := fx_d (q := (115, .istore 5, 2)) D_LI_unpackByAnother 60 rfl
theorem d_LI_unpackByAnother_117 : decode M_LI_unpackByAnother.2.1 117 = .ok (.iload 8, 2) := fx_d (q := (117, .iload 8, 2)) D_LI_unpackByAnother 61 rfl
theorem d_LI_unpackByAnother_119 : decode M_LI_unpackByAnother.2.1 119 = .ok (.iload 4, 2) := fx_d (q := (119, .iload 4, 2)) D_LI_unpackByAnother 62 rfl
theorem d_LI_unpackByAnother_121 : decode M_LI_unpackByAnother.2.1 121 = .ok (.if_icmp .le 12, 3) := fx_d (q := (121, .if_icmp .le 12, 3)) D_LI_unpackByAnother 63 rfl
theorem d_LI_unpackByAnother_124 : decode M_LI_unpackByAnother.2.1 124 = .ok (.iload 8, 2) := fx_d (q := (124, .iload 8, 2)) D_LI_unpackByAnother 64 rfl
theorem d_LI_unpackByAnother_126 : decode M_LI_unpackByAnother.2.1 126 = .ok (.aload_n 1, 1) := fx_d (q := (126, .aload_n 1, 1)) D_LI_unpackByAnother 65 rfl
theorem d_LI_unpackByAnother_127 : decode M_LI_unpackByAnother.2.1 127 = .ok (.getfield 53, 3) := fx_d (q := (127, .getfield 53, 3)) D_LI_unpackByAnother 66 rfl
theorem d_LI_unpackByAnother_130 : decode M_LI_unpackByAnother.2.1 130 = .ok (.if_icmp .le 5, 3) := fx_d (q := (130, .if_icmp .le 5, 3)) D_LI_unpackByAnother 67 rfl
theorem d_LI_unpackByAnother_133 : decode M_LI_unpackByAnother.2.1 133 = .ok (.iconst 0, 1) := fx_d (q := (133, .iconst 0, 1)) D_LI_unpackByAnother 68 rfl
theorem d_LI_unpackByAnother_134 : decode M_LI_unpackByAnother.2.1 134 = .ok (.ireturn, 1) := fx_d (q := (134, .ireturn, 1)) D_LI_unpackByAnother 69 rfl
theorem d_LI_unpackByAnother_135 : decode M_LI_unpackByAnother.2.1 135 = .ok (.iload 8, 2) := fx_d (q := (135, .iload 8, 2)) D_LI_unpackByAnother 70 rfl
theorem d_LI_unpackByAnother_137 : decode M_LI_unpackByAnother.2.1 137 = .ok (.istore 4, 2) := fx_d (q := (137, .istore 4, 2)) D_LI_unpackByAnother 71 rfl
theorem d_LI_unpackByAnother_139 : decode M_LI_unpackByAnother.2.1 139 = .ok (.iinc 6 1, 3) := fx_d (q := (139, .iinc 6 1, 3)) D_LI_unpackByAnother 72 rfl
theorem d_LI_unpackByAnother_142 : decode M_LI_unpackByAnother.2.1 142 = .ok (.goto (-133), 3) := fx_d (q := (142, .goto (-133), 3)) D_LI_unpackByAnother 73 rfl
theorem d_LI_unpackByAnother_145 : decode M_LI_unpackByAnother.2.1 145 = .ok (.iload 4, 2) := fx_d (q := (145, .iload 4, 2)) D_LI_unpackByAnother 74 rfl
theorem d_LI_unpackByAnother_147 : decode M_LI_unpackByAnother.2.1 147 = .ok (.aload_n 1, 1) := fx_d (q := (147, .aload_n 1, 1)) D_LI_unpackByAnother 75 rfl
theorem d_LI_unpackByAnother_148 : decode M_LI_unpackByAnother.2.1 148 = .ok (.getfield 53, 3) := fx_d (q := (148, .getfield 53, 3)) D_LI_unpackByAnother 76 rfl
theorem d_LI_unpackByAnother_151 : decode M_LI_unpackByAnother.2.1 151 = .ok (.if_icmp .ne 7, 3) := fx_d (q := (151, .if_icmp .ne 7, 3)) D_LI_unpackByAnother 77 rfl
theorem d_LI_unpackByAnother_154 : decode M_LI_unpackByAnother.2.1 154 = .ok (.iconst 1, 1) := fx_d (q := (154, .iconst 1, 1)) D_LI_unpackByAnother 78 rfl
theorem d_LI_unpackByAnother_155 : decode M_LI_unpackByAnother.2.1 155 = .ok (.goto 4, 3) := fx_d (q := (155, .goto 4, 3)) D_LI_unpackByAnother 79 rfl
theorem d_LI_unpackByAnother_158 : decode M_LI_unpackByAnother.2.1 158 = .ok (.iconst 0, 1) := fx_d (q := (158, .iconst 0, 1)) D_LI_unpackByAnother 80 rfl
theorem d_LI_unpackByAnother_159 : decode M_LI_unpackByAnother.2.1 159 = .ok (.ireturn, 1) := fx_d (q := (159, .ireturn, 1)) D_LI_unpackByAnother 81 rfl
set_option maxRecDepth 100000 in
def L_LI_unpackTwoRuns : List (Nat × Instr × Nat) := [(0, .aload_n 0, 1), (1, .iload 4, 2), (3, .invokevirtual 72, 3), (6, .aload_n 0, 1), (7, .getfield 15, 3), (10, .invokevirtual 76, 3), (13, .istore 5, 2), (15, .iload 5, 2), (17, .ifCond .ge 7, 3), (20, .iconst (-1), 1), (21, .goto 18, 3), (24, .aload_n 0, 1), (25, .iconst 1, 1), (26, .iload 4, 2), (28, .isub, 1), (29, .invokevirtual 72, 3), (32, .aload_n 0, 1), (33, .getfield 15, 3), (36, .invokevirtual 76, 3), (39, .istore 6, 2), (41, .iload 6, 2), (43, .ifCond .lt 11, 3), (46, .iload 5, 2), (48, .iload 6, 2), (50, .iadd, 1), (51, .ifCond .ne 5, 3), (54, .iconst (-1), 1), (55, .ireturn, 1), (56, .aload_n 0, 1), (57, .aload_n 1, 1), (58, .iload_n 2, 1), (59, .iload_n 3, 1), (60, .iload_n 3, 1), (61, .iload 5, 2), (63, .iadd, 1), (64, .iload 4, 2), (66, .invokevirtual 80, 3), (69, .aload_n 0, 1), (70, .aload_n 1, 1), (71, .iload_n 2, 1), (72, .iload_n 3, 1), (73, .iload 5, 2), (75, .iadd, 1), (76, .iload_n 3, 1), (77, .iload 5, 2), (79, .iadd, 1), (80, .iload 6, 2), (82, .iadd, 1), (83, .iconst 1, 1), (84, .iload 4, 2), (86, .isub, 1), (87, .invokevirtual 80, 3), (90, .iload_n 3, 1), (91, .iload 5, 2), (93, .iadd, 1), (94, .iload 6, 2), (96, .iadd, 1), (97, .ireturn, 1)]
set_option maxRecDepth 100000 in
theorem D_LI_unpackTwoRuns : ∀ q ∈ L_LI_unpackTwoRuns, decode prog_6_method_8_code q.1 = .ok q.2 := by decide +kernel
theorem d_LI_unpackTwoRuns_0 : decode M_LI_unpackTwoRuns.2.1 0 = .ok (.aload_n 0, 1) := fx_d (q := (0, .aload_n 0, 1)) D_LI_unpackTwoRuns 0 rfl
theorem d_LI_unpackTwoRuns_1 : decode M_LI_unpackTwoRuns.2.1 1 = .ok (.iload 4, 2) := fx_d (q := (1, .iload 4, 2)) D_LI_unpackTwoRuns 1 rfl
theorem d_LI_unpackTwoRuns_3 : decode M_LI_unpackTwoRuns.2.1 3 = .ok (.invokevirtual 72, 3) := fx_d (q := (3, .invokevirtual 72, 3)) D_LI_unpackTwoRuns 2 rfl
theorem d_LI_unpackTwoRuns_6 : decode M_LI_unpackTwoRuns.2.1 6 = .ok (.aload_n 0, 1) := fx_d (q := (6, .aload_n 0, 1)) D_LI_unpackTwoRuns 3 rfl
theorem d_LI_unpackTwoRuns_7 : decode M_LI_unpackTwoRuns.2.1 7 = .ok (.getfield 15, 3) := fx_d (q := (7, .getfield 15, 3)) D_LI_unpackTwoRuns 4 rfl
theorem d_LI_unpackTwoRuns_10 : decode M_LI_unpackTwoRuns.2.1 10 = .ok (.invokevirtual 76, 3) := fx_d (q := (10, .invokevirtual 76, 3)) D_LI_unpackTwoRuns 5 rfl
theorem d_LI_unpackTwoRuns_13 : decode M_LI_unpackTwoRuns.2.1 13 = .ok (.istore 5, 2) := fx_d (q := (13, .istore 5, 2)) D_LI_unpackTwoRuns 6 rfl
theorem d_LI_unpackTwoRuns_15 : decode M_LI_unpackTwoRuns.2.1 15 = .ok (.iload 5, 2) := fx_d (q := (15, .iload 5, 2)) D_LI_unpackTwoRuns 7 rfl
theorem d_LI_unpackTwoRuns_17 : decode M_LI_unpackTwoRuns.2.1 17 = .ok (.ifCond .ge 7, 3) := fx_d (q := (17, .ifCond .ge 7, 3)) D_LI_unpackTwoRuns 8 rfl
theorem d_LI_unpackTwoRuns_20 : decode M_LI_unpackTwoRuns.2.1 20 = .ok (.iconst (-1), 1) := fx_d (q := (20, .iconst (-1), 1)) D_LI_unpackTwoRuns 9 rfl
theorem d_LI_unpackTwoRuns_21 : decode M_LI_unpackTwoRuns.2.1 21 = .ok (.goto 18, 3) := fx_d (q := (21, .goto 18, 3)) D_LI_unpackTwoRuns 10 rfl
theorem d_LI_unpackTwoRuns_24 : decode M_LI_unpackTwoRuns.2.1 24 = .ok (.aload_n 0, 1) := fx_d (q := (24, .aload_n 0, 1)) D_LI_unpackTwoRuns 11 rfl
theorem d_LI_unpackTwoRuns_25 : decode M_LI_unpackTwoRuns.2.1 25 = .ok (.iconst 1, 1) := fx_d (q := (25, .iconst 1, 1)) D_LI_unpackTwoRuns 12 rfl
theorem d_LI_unpackTwoRuns_26 : decode M_LI_unpackTwoRuns.2.1 26 = .ok (.iload 4, 2) := fx_d (q := (26, .iload 4, 2)) D_LI_unpackTwoRuns 13 rfl
theorem d_LI_unpackTwoRuns_28 : decode M_LI_unpackTwoRuns.2.1 28 = .ok (.isub, 1) := fx_d (q := (28, .isub, 1)) D_LI_unpackTwoRuns 14 rfl
theorem d_LI_unpackTwoRuns_29 : decode M_LI_unpackTwoRuns.2.1 29 = .ok (.invokevirtual 72, 3) := fx_d (q := (29, .invokevirtual 72, 3)) D_LI_unpackTwoRuns 15 rfl
theorem d_LI_unpackTwoRuns_32 : decode M_LI_unpackTwoRuns.2.1 32 = .ok (.aload_n 0, 1) := fx_d (q := (32, .aload_n 0, 1)) D_LI_unpackTwoRuns 16 rfl
theorem d_LI_unpackTwoRuns_33 : decode M_LI_unpackTwoRuns.2.1 33 = .ok (.getfield 15, 3) := fx_d (q := (33, .getfield 15, 3)) D_LI_unpackTwoRuns 17 rfl
theorem d_LI_unpackTwoRuns_36 : decode M_LI_unpackTwoRuns.2.1 36 = .ok (.invokevirtual 76, 3) := fx_d (q := (36, .invokevirtual 76, 3)) D_LI_unpackTwoRuns 18 rfl
theorem d_LI_unpackTwoRuns_39 : decode M_LI_unpackTwoRuns.2.1 39 = .ok (.istore 6, 2) := fx_d (q := (39, .istore 6, 2)) D_LI_unpackTwoRuns 19 rfl
theorem d_LI_unpackTwoRuns_41 : decode M_LI_unpackTwoRuns.2.1 41 = .ok (.iload 6, 2) := fx_d (q := (41, .iload 6, 2)) D_LI_unpackTwoRuns 20 rfl
theorem d_LI_unpackTwoRuns_43 : decode M_LI_unpackTwoRuns.2.1 43 = .ok (.ifCond .lt 11, 3) := fx_d (q := (43, .ifCond .lt 11, 3)) D_LI_unpackTwoRuns 21 rfl
theorem d_LI_unpackTwoRuns_46 : decode M_LI_unpackTwoRuns.2.1 46 = .ok (.iload 5, 2) := fx_d (q := (46, .iload 5, 2)) D_LI_unpackTwoRuns 22 rfl
theorem d_LI_unpackTwoRuns_48 : decode M_LI_unpackTwoRuns.2.1 48 = .ok (.iload 6, 2) := fx_d (q := (48, .iload 6, 2)) D_LI_unpackTwoRuns 23 rfl
theorem d_LI_unpackTwoRuns_50 : decode M_LI_unpackTwoRuns.2.1 50 = .ok (.iadd, 1) := fx_d (q := (50, .iadd, 1)) D_LI_unpackTwoRuns 24 rfl
theorem d_LI_unpackTwoRuns_51 : decode M_LI_unpackTwoRuns.2.1 51 = .ok (.ifCond .ne 5, 3) := fx_d (q := (51, .ifCond .ne 5, 3)) D_LI_unpackTwoRuns 25 rfl
theorem d_LI_unpackTwoRuns_54 : decode M_LI_unpackTwoRuns.2.1 54 = .ok (.iconst (-1), 1) := fx_d (q := (54, .iconst (-1), 1)) D_LI_unpackTwoRuns 26 rfl
theorem d_LI_unpackTwoRuns_55 : decode M_LI_unpackTwoRuns.2.1 55 = .ok (.ireturn, 1) := fx_d (q := (55, .ireturn, 1)) D_LI_unpackTwoRuns 27 rfl
theorem d_LI_unpackTwoRuns_56 : decode M_LI_unpackTwoRuns.2.1 56 = .ok (.aload_n 0, 1) := fx_d (q := (56, .aload_n 0, 1)) D_LI_unpackTwoRuns 28 rfl
theorem d_LI_unpackTwoRuns_57 : decode M_LI_unpackTwoRuns.2.1 57 = .ok (.aload_n 1, 1) := fx_d (q := (57, .aload_n 1, 1)) D_LI_unpackTwoRuns 29 rfl
theorem d_LI_unpackTwoRuns_58 : decode M_LI_unpackTwoRuns.2.1 58 = .ok (.iload_n 2, 1) := fx_d (q := (58, .iload_n 2, 1)) D_LI_unpackTwoRuns 30 rfl
theorem d_LI_unpackTwoRuns_59 : decode M_LI_unpackTwoRuns.2.1 59 = .ok (.iload_n 3, 1) := fx_d (q := (59, .iload_n 3, 1)) D_LI_unpackTwoRuns 31 rfl
theorem d_LI_unpackTwoRuns_60 : decode M_LI_unpackTwoRuns.2.1 60 = .ok (.iload_n 3, 1) := fx_d (q := (60, .iload_n 3, 1)) D_LI_unpackTwoRuns 32 rfl
theorem d_LI_unpackTwoRuns_61 : decode M_LI_unpackTwoRuns.2.1 61 = .ok (.iload 5, 2) := fx_d (q := (61, .iload 5, 2)) D_LI_unpackTwoRuns 33 rfl
theorem d_LI_unpackTwoRuns_63 : decode M_LI_unpackTwoRuns.2.1 63 = .ok (.iadd, 1) := fx_d (q := (63, .iadd, 1)) D_LI_unpackTwoRuns 34 rfl
theorem d_LI_unpackTwoRuns_64 : decode M_LI_unpackTwoRuns.2.1 64 = .ok (.iload 4, 2) := fx_d (q := (64, .iload 4, 2)) D_LI_unpackTwoRuns 35 rfl
theorem d_LI_unpackTwoRuns_66 : decode M_LI_unpackTwoRuns.2.1 66 = .ok (.invokevirtual 80, 3) := fx_d (q := (66, .invokevirtual 80, 3)) D_LI_unpackTwoRuns 36 rfl
theorem d_LI_unpackTwoRuns_69 : decode M_LI_unpackTwoRuns.2.1 69 = .ok (.aload_n 0, 1) := fx_d (q := (69, .aload_n 0, 1)) D_LI_unpackTwoRuns 37 rfl
theorem d_LI_unpackTwoRuns_70 : decode M_LI_unpackTwoRuns.2.1 70 = .ok (.aload_n 1, 1) := fx_d (q := (70, .aload_n 1, 1)) D_LI_unpackTwoRuns 38 rfl
theorem d_LI_unpackTwoRuns_71 : decode M_LI_unpackTwoRuns.2.1 71 = .ok (.iload_n 2, 1) := fx_d (q := (71, .iload_n 2, 1)) D_LI_unpackTwoRuns 39 rfl
theorem d_LI_unpackTwoRuns_72 : decode M_LI_unpackTwoRuns.2.1 72 = .ok (.iload_n 3, 1) := fx_d (q := (72, .iload_n 3, 1)) D_LI_unpackTwoRuns 40 rfl
theorem d_LI_unpackTwoRuns_73 : decode M_LI_unpackTwoRuns.2.1 73 = .ok (.iload 5, 2) := fx_d (q := (73, .iload 5, 2)) D_LI_unpackTwoRuns 41 rfl
theorem d_LI_unpackTwoRuns_75 : decode M_LI_unpackTwoRuns.2.1 75 = .ok (.iadd, 1) := fx_d (q := (75, .iadd, 1)) D_LI_unpackTwoRuns 42 rfl
theorem d_LI_unpackTwoRuns_76 : decode M_LI_unpackTwoRuns.2.1 76 = .ok (.iload_n 3, 1) := fx_d (q := (76, .iload_n 3, 1)) D_LI_unpackTwoRuns 43 rfl
theorem d_LI_unpackTwoRuns_77 : decode M_LI_unpackTwoRuns.2.1 77 = .ok (.iload 5, 2) := fx_d (q := (77, .iload 5, 2)) D_LI_unpackTwoRuns 44 rfl
theorem d_LI_unpackTwoRuns_79 : decode M_LI_unpackTwoRuns.2.1 79 = .ok (.iadd, 1) := fx_d (q := (79, .iadd, 1)) D_LI_unpackTwoRuns 45 rfl
theorem d_LI_unpackTwoRuns_80 : decode M_LI_unpackTwoRuns.2.1 80 = .ok (.iload 6, 2) := fx_d (q := (80, .iload 6, 2)) D_LI_unpackTwoRuns 46 rfl
theorem d_LI_unpackTwoRuns_82 : decode M_LI_unpackTwoRuns.2.1 82 = .ok (.iadd, 1) := fx_d (q := (82, .iadd, 1)) D_LI_unpackTwoRuns 47 rfl
theorem d_LI_unpackTwoRuns_83 : decode M_LI_unpackTwoRuns.2.1 83 = .ok (.iconst 1, 1) := fx_d (q := (83, .iconst 1, 1)) D_LI_unpackTwoRuns 48 rfl
theorem d_LI_unpackTwoRuns_84 : decode M_LI_unpackTwoRuns.2.1 84 = .ok (.iload 4, 2) := fx_d (q := (84, .iload 4, 2)) D_LI_unpackTwoRuns 49 rfl
theorem d_LI_unpackTwoRuns_86 : decode M_LI_unpackTwoRuns.2.1 86 = .ok (.isub, 1) := fx_d (q := (86, .isub, 1)) D_LI_unpackTwoRuns 50 rfl
theorem d_LI_unpackTwoRuns_87 : decode M_LI_unpackTwoRuns.2.1 87 = .ok (.invokevirtual 80, 3) := fx_d (q := (87, .invokevirtual 80, 3)) D_LI_unpackTwoRuns 51 rfl
theorem d_LI_unpackTwoRuns_90 : decode M_LI_unpackTwoRuns.2.1 90 = .ok (.iload_n 3, 1) := fx_d (q := (90, .iload_n 3, 1)) D_LI_unpackTwoRuns 52 rfl
theorem d_LI_unpackTwoRuns_91 : decode M_LI_unpackTwoRuns.2.1 91 = .ok (.iload 5, 2) := fx_d (q := (91, .iload 5, 2)) D_LI_unpackTwoRuns 53 rfl
theorem d_LI_unpackTwoRuns_93 : decode M_LI_unpackTwoRuns.2.1 93 = .ok (.iadd, 1) := fx_d (q := (93, .iadd, 1)) D_LI_unpackTwoRuns 54 rfl
theorem d_LI_unpackTwoRuns_94 : decode M_LI_unpackTwoRuns.2.1 94 = .ok (.iload 6, 2) := fx_d (q := (94, .iload 6, 2)) D_LI_unpackTwoRuns 55 rfl
theorem d_LI_unpackTwoRuns_96 : decode M_LI_unpackTwoRuns.2.1 96 = .ok (.iadd, 1) := fx_d (q := (96, .iadd, 1)) D_LI_unpackTwoRuns 56 rfl
theorem d_LI_unpackTwoRuns_97 : decode M_LI_unpackTwoRuns.2.1 97 = .ok (.ireturn, 1) := fx_d (q := (97, .ireturn, 1)) D_LI_unpackTwoRuns 57 rfl
set_option maxRecDepth 100000 in
def L_LI_endOfMode : List (Nat × Instr × Nat) := [(0, .aload_n 1, 1), (1, .iload_n 2, 1), (2, .iload_n 3, 1), (3, .iconst 1, 1), (4, .iadd, 1), (5, .iload 4, 2), (7, .invokevirtual 84, 3), (10, .istore 6, 2), (12, .iload 5, 2), (14, .bipush 7, 2), (16, .if_icmp .eq 11, 3), (19, .iload 6, 2), (21, .iload 5, 2), (23, .iadd, 1), (24, .iconst 3, 1), (25, .isub, 1), (26, .ireturn, 1), (27, .aload_n 1, 1), (28, .iload_n 2, 1), (29, .iload 6, 2), (31, .iconst 1, 1), (32, .iadd, 1), (33, .iconst 1, 1), (34, .iload 4, 2), (36, .isub, 1), (37, .invokevirtual 59, 3), (40, .istore 7, 2), (42, .iload 7, 2), (44, .aload_n 1, 1), (45, .getfield 53, 3), (48, .if_icmp .ge 8, 3), (51, .iload 7, 2), (53, .goto 4, 3), (56, .iconst (-1), 1), (57, .ireturn, 1)]
set_option maxRecDepth 100000 in
theorem D_LI_endOfMode : ∀ q ∈ L_LI_endOfMode, decode prog_6_method_9_code q.1 = .ok q.2 := by decide +kernel
theorem d_LI_endOfMode_0 : decode M_LI_endOfMode.2.1 0 = .ok (.aload_n 1, 1) := fx_d (q := (0, .aload_n 1, 1)) D_LI_endOfMode 0 rfl
theorem d_LI_endOfMode_1 : decode M_LI_endOfMode.2.1 1 = .ok (.iload_n 2, 1) := fx_d (q := (1, .iload_n 2, 1)) D_LI_endOfMode 1 rfl
theorem d_LI_endOfMode_2 : decode M_LI_endOfMode.2.1 2 = .ok (.iload_n 3, 1) := fx_d (q := (2, .iload_n 3, 1)) D_LI_endOfMode 2 rfl
theorem d_LI_endOfMode_3 : decode M_LI_endOfMode.2.1 3 = .ok (.iconst 1, 1) := fx_d (q := (3, .iconst 1, 1)) D_LI_endOfMode 3 rfl
theorem d_LI_endOfMode_4 : decode M_LI_endOfMode.2.1 4 = .ok (.iadd, 1) := fx_d (q := (4, .iadd, 1)) D_LI_endOfMode 4 rfl
theorem d_LI_endOfMode_5 : decode M_LI_endOfMode.2.1 5 = .ok (.iload 4, 2) := fx_d (q := (5, .iload 4, 2)) D_LI_endOfMode 5 rfl
theorem d_LI_endOfMode_7 : decode M_LI_endOfMode.2.1 7 = .ok (.invokevirtual 84, 3) := fx_d (q := (7, .invokevirtual 84, 3)) D_LI_endOfMode 6 rfl
theorem d_LI_endOfMode_10 : decode M_LI_endOfMode.2.1 10 = .ok (.istore 6, 2) := fx_d (q := (10, .istore 6, 2)) D_LI_endOfMode 7 rfl
theorem d_LI_endOfMode_12 : decode M_LI_endOfMode.2.1 12 = .ok (.iload 5, 2) := fx_d (q := (12, .iload 5, 2)) D_LI_endOfMode 8 rfl
theorem d_LI_endOfMode_14 : decode M_LI_endOfMode.2.1 14 = .ok (.bipush 7, 2) := fx_d (q := (14, .bipush 7, 2)) D_LI_endOfMode 9 rfl
theorem d_LI_endOfMode_16 : decode M_LI_endOfMode.2.1 16 = .ok (.if_icmp .eq 11, 3) := fx_d (q := (16, .if_icmp .eq 11, 3)) D_LI_endOfMode 10 rfl
theorem d_LI_endOfMode_19 : decode M_LI_endOfMode.2.1 19 = .ok (.iload 6, 2) := fx_d (q := (19, .iload 6, 2)) D_LI_endOfMode 11 rfl
theorem d_LI_endOfMode_21 : decode M_LI_endOfMode.2.1 21 = .ok (.iload 5, 2) := fx_d (q := (21, .iload 5, 2)) D_LI_endOfMode 12 rfl
theorem d_LI_endOfMode_23 : decode M_LI_endOfMode.2.1 23 = .ok (.iadd, 1) := fx_d (q := (23, .iadd, 1)) D_LI_endOfMode 13 rfl
theorem d_LI_endOfMode_24 : decode M_LI_endOfMode.2.1 24 = .ok (.iconst 3, 1) := fx_d (q := (24, .iconst 3, 1)) D_LI_endOfMode 14 rfl
theorem d_LI_endOfMode_25 : decode M_LI_endOfMode.2.1 25 = .ok (.isub, 1) := fx_d (q := (25, .isub, 1)) D_LI_endOfMode 15 rfl
theorem d_LI_endOfMode_26 : decode M_LI_endOfMode.2.1 26 = .ok (.ireturn, 1) := fx_d (q := (26, .ireturn, 1)) D_LI_endOfMode 16 rfl
theorem d_LI_endOfMode_27 : decode M_LI_endOfMode.2.1 27 = .ok (.aload_n 1, 1) := fx_d (q := (27, .aload_n 1, 1)) D_LI_endOfMode 17 rfl
theorem d_LI_endOfMode_28 : decode M_LI_endOfMode.2.1 28 = .ok (.iload_n 2, 1) := fx_d (q := (28, .iload_n 2, 1)) D_LI_endOfMode 18 rfl
theorem d_LI_endOfMode_29 : decode M_LI_endOfMode.2.1 29 = .ok (.iload 6, 2) := fx_d (q := (29, .iload 6, 2)) D_LI_endOfMode 19 rfl
theorem d_LI_endOfMode_31 : decode M_LI_endOfMode.2.1 31 = .ok (.iconst 1, 1) := fx_d (q := (31, .iconst 1, 1)) D_LI_endOfMode 20 rfl
theorem d_LI_endOfMode_32 : decode M_LI_endOfMode.2.1 32 = .ok (.iadd, 1) := fx_d (q := (32, .iadd, 1)) D_LI_endOfMode 21 rfl
theorem d_LI_endOfMode_33 : decode M_LI_endOfMode.2.1 33 = .ok (.iconst 1, 1) := fx_d (q := (33, .iconst 1, 1)) D_LI_endOfMode 22 rfl
theorem d_LI_endOfMode_34 : decode M_LI_endOfMode.2.1 34 = .ok (.iload 4, 2) := fx_d (q := (34, .iload 4, 2)) D_LI_endOfMode 23 rfl
theorem d_LI_endOfMode_36 : decode M_LI_endOfMode.2.1 36 = .ok (.isub, 1) := fx_d (q := (36, .isub, 1)) D_LI_endOfMode 24 rfl
theorem d_LI_endOfMode_37 : decode M_LI_endOfMode.2.1 37 = .ok (.invokevirtual 59, 3) := fx_d (q := (37, .invokevirtual 59, 3)) D_LI_endOfMode 25 rfl
theorem d_LI_endOfMode_40 : decode M_LI_endOfMode.2.1 40 = .ok (.istore 7, 2) := fx_d (q := (40, .istore 7, 2)) D_LI_endOfMode 26 rfl
theorem d_LI_endOfMode_42 : decode M_LI_endOfMode.2.1 42 = .ok (.iload 7, 2) := fx_d (q := (42, .iload 7, 2)) D_LI_endOfMode 27 rfl
theorem d_LI_endOfMode_44 : decode M_LI_endOfMode.2.1 44 = .ok (.aload_n 1, 1) := fx_d (q := (44, .aload_n 1, 1)) D_LI_endOfMode 28 rfl
theorem d_LI_endOfMode_45 : decode M_LI_endOfMode.2.1 45 = .ok (.getfield 53, 3) := fx_d (q := (45, .getfield 53, 3)) D_LI_endOfMode 29 rfl
theorem d_LI_endOfMode_48 : decode M_LI_endOfMode.2.1 48 = .ok (.if_icmp .ge 8, 3) := fx_d (q := (48, .if_icmp .ge 8, 3)) D_LI_endOfMode 30 rfl
theorem d_LI_endOfMode_51 : decode M_LI_endOfMode.2.1 51 = .ok (.iload 7, 2) := fx_d (q := (51, .iload 7, 2)) D_LI_endOfMode 31 rfl
theorem d_LI_endOfMode_53 : decode M_LI_endOfMode.2.1 53 = .ok (.goto 4, 3) := fx_d (q := (53, .goto 4, 3)) D_LI_endOfMode 32 rfl
theorem d_LI_endOfMode_56 : decode M_LI_endOfMode.2.1 56 = .ok (.iconst (-1), 1) := fx_d (q := (56, .iconst (-1), 1)) D_LI_endOfMode 33 rfl
theorem d_LI_endOfMode_57 : decode M_LI_endOfMode.2.1 57 = .ok (.ireturn, 1) := fx_d (q := (57, .ireturn, 1)) D_LI_endOfMode 34 rfl
set_option maxRecDepth 100000 in
def L_LI_packByItself : List (Nat × Instr × Nat) := [(0, .iconst 0, 1), (1, .istore_n 3, 1), (2, .iconst 0, 1), (3, .istore 4, 2), (5, .iconst 0, 1), (6, .istore 5, 2), (8, .iload 5, 2), (10, .aload_n 1, 1), (11, .getfield 53, 3), (14, .if_icmp .gt 52, 3), (17, .iload_n 3, 1), (18, .aload_n 1, 1), (19, .getfield 53, 3), (22, .if_icmp .ge 44, 3), (25, .aload_n 1, 1), (26, .iload_n 2, 1), (27, .iload_n 3, 1), (28, .iload 4, 2), (30, .invokevirtual 59, 3), (33, .istore 6, 2), (35, .aload_n 0, 1), (36, .getfield 9, 3), (39, .iload 6, 2), (41, .iload_n 3, 1), (42, .isub, 1), (43, .iload 4, 2), (45, .invokestatic 63, 3), (48, .invokevirtual 66, 3), (51, .iload 6, 2), (53, .istore_n 3, 1), (54, .iconst 1, 1), (55, .iload 4, 2), (57, .isub, 1), (58, .istore 4, 2), (60, .iinc 5 1, 3), (63, .goto (-55), 3), (66, .return_, 1)]
set_option maxRecDepth 100000 in
theorem D_LI_packByItself : ∀ q ∈ L_LI_packByItself, decode prog_6_method_4_code q.1 = .ok q.2 := by decide +kernel
theorem d_LI_packByItself_0 : decode M_LI_packByItself.2.1 0 = .ok (.iconst 0, 1) := fx_d (q := (0, .iconst 0, 1)) D_LI_packByItself 0 rfl
theorem d_LI_packByItself_1 : decode M_LI_packByItself.2.1 1 = .ok (.istore_n 3, 1) := fx_d (q := (1, .istore_n 3, 1)) D_LI_packByItself 1 rfl
theorem d_LI_packByItself_2 : decode M_LI_packByItself.2.1 2 = .ok (.iconst 0, 1) := fx_d (q := (2, .iconst 0, 1)) D_LI_packByItself 2 rfl
theorem d_LI_packByItself_3 : decode M_LI_packByItself.2.1 3 = .ok (.istore 4, 2) := fx_d (q := (3, .istore 4, 2)) D_LI_packByItself 3 rfl
theorem d_LI_packByItself_5 : decode M_LI_packByItself.2.1 5 = .ok (.iconst 0, 1) := fx_d (q := (5, .iconst 0, 1)) D_LI_packByItself 4 rfl
theorem d_LI_packByItself_6 : decode M_LI_packByItself.2.1 6 = .ok (.istore 5, 2) := fx_d (q := (6, .istore 5, 2)) D_LI_packByItself 5 rfl
theorem d_LI_packByItself_8 : decode M_LI_packByItself.2.1 8 = .ok (.iload 5, 2) := fx_d (q := (8, .iload 5, 2)) D_LI_packByItself 6 rfl
theorem d_LI_packByItself_10 : decode M_LI_packByItself.2.1 10 = .ok (.aload_n 1, 1) := fx_d (q := (10, .aload_n 1, 1)) D_LI_packByItself 7 rfl
theorem d_LI_packByItself_11 : decode M_LI_packByItself.2.1 11 = .ok (.getfield 53, 3) := fx_d (q := (11, .getfield 53, 3)) D_LI_packByItself 8 rfl
theorem d_LI_packByItself_14 : decode M_LI_packByItself.2.1 14 = .ok (.if_icmp .gt 52, 3) := fx_d (q := (14, .if_icmp .gt 52, 3)) D_LI_packByItself 9 rfl
theorem d_LI_packByItself_17 : decode M_LI_packByItself.2.1 17 = .ok (.iload_n 3, 1) := fx_d (q := (17, .iload_n 3, 1)) D_LI_packByItself 10 rfl
theorem d_LI_packByItself_18 : decode M_LI_packByItself.2.1 18 = .ok (.aload_n 1, 1) := fx_d (q := (18, .aload_n 1, 1)) D_LI_packByItself 11 rfl
theorem d_LI_packByItself_19 : decode M_LI_packByItself.2.1 19 = .ok (.getfield 53, 3) := fx_d (q := (19, .getfield 53, 3)) D_LI_packByItself 12 rfl
theorem d_LI_packByItself_22 : decode M_LI_packByItself.2.1 22 = .ok (.if_icmp .ge 44, 3) := fx_d (q := (22, .if_icmp .ge 44, 3)) D_LI_packByItself 13 rfl
theorem d_LI_packByItself_25 : decode M_LI_packByItself.2.1 25 = .ok (.aload_n 1, 1) := fx_d (q := (25, .aload_n 1, 1)) D_LI_packByItself 14 rfl
theorem d_LI_packByItself_26 : decode M_LI_packByItself.2.1 26 = .ok (.iload_n 2, 1) := fx_d (q := (26, .iload_n 2, 1)) D_LI_packByItself 15 rfl
theorem d_LI_packByItself_27 : decode M_LI_packByItself.2.1 27 = .ok (.iload_n 3, 1) := fx_d (q := (27, .iload_n 3, 1)) D_LI_packByItself 16 rfl
theorem d_LI_packByItself_28 : decode M_LI_packByItself.2.1 28 = .ok (.iload 4, 2) := fx_d (q := (28, .iload 4, 2)) D_LI_packByItself 17 rfl
theorem d_LI_packByItself_30 : decode M_LI_packByItself.2.1 30 = .ok (.invokevirtual 59, 3) := fx_d (q := (30, .invokevirtual 59, 3)) D_LI_packByItself 18 rfl
theorem d_LI_packByItself_33 : decode M_LI_packByItself.2.1 33 = .ok (.istore 6, 2) := fx_d (q := (33, .istore 6, 2)) D_LI_packByItself 19 rfl
theorem d_LI_packByItself_35 : decode M_LI_packByItself.2.1 35 = .ok (.aload_n 0, 1) := fx_d (q := (35, .aload_n 0, 1)) D_LI_packByItself 20 rfl
theorem d_LI_packByItself_36 : decode M_LI_packByItself.2.1 36 = .ok (.getfield 9, 3) := fx_d (q := (36, .getfield 9, 3)) D_LI_packByItself 21 rfl
theorem d_LI_packByItself_39 : decode M_LI_packByItself.2.1 39 = .ok (.iload 6, 2) := fx_d (q := (39, .iload 6, 2)) D_LI_packByItself 22 rfl
theorem d_LI_packByItself_41 : decode M_LI_packByItself.2.1 41 = .ok (.iload_n 3, 1) := fx_d (q := (41, .iload_n 3, 1)) D_LI_packByItself 23 rfl
theorem d_LI_packByItself_42 : decode M_LI_packByItself.2.1 42 = .ok (.isub, 1) := fx_d (q := (42, .isub, 1)) D_LI_packByItself 24 rfl
theorem d_LI_packByItself_43 : decode M_LI_packByItself.2.1 43 = .ok (.iload 4, 2) := fx_d (q := (43, .iload 4, 2)) D_LI_packByItself 25 rfl
theorem d_LI_packByItself_45 : decode M_LI_packByItself.2.1 45 = .ok (.invokestatic 63, 3) := fx_d (q := (45, .invokestatic 63, 3)) D_LI_packByItself 26 rfl
theorem d_LI_packByItself_48 : decode M_LI_packByItself.2.1 48 = .ok (.invokevirtual 66, 3) := fx_d (q := (48, .invokevirtual 66, 3)) D_LI_packByItself 27 rfl
theorem d_LI_packByItself_51 : decode M_LI_packByItself.2.1 51 = .ok (.iload 6, 2) := fx_d (q := (51, .iload 6, 2)) D_LI_packByItself 28 rfl
theorem d_LI_packByItself_53 : decode M_LI_packByItself.2.1 53 = .ok (.istore_n 3, 1) := fx_d (q := (53, .istore_n 3, 1)) D_LI_packByItself 29 rfl
theorem d_LI_packByItself_54 : decode M_LI_packByItself.2.1 54 = .ok (.iconst 1, 1) := fx_d (q := (54, .iconst 1, 1)) D_LI_packByItself 30 rfl
theorem d_LI_packByItself_55 : decode M_LI_packByItself.2.1 55 = .ok (.iload 4, 2) := fx_d (q := (55, .iload 4, 2)) D_LI_packByItself 31 rfl
theorem d_LI_packByItself_57 : decode M_LI_packByItself.2.1 57 = .ok (.isub, 1) := fx_d (q := (57, .isub, 1)) D_LI_packByItself 32 rfl
theorem d_LI_packByItself_58 : decode M_LI_packByItself.2.1 58 = .ok (.istore 4, 2) := fx_d (q := (58, .istore 4, 2)) D_LI_packByItself 33 rfl
theorem d_LI_packByItself_60 : decode M_LI_packByItself.2.1 60 = .ok (.iinc 5 1, 3) := fx_d (q := (60, .iinc 5 1, 3)) D_LI_packByItself 34 rfl
theorem d_LI_packByItself_63 : decode M_LI_packByItself.2.1 63 = .ok (.goto (-55), 3) := fx_d (q := (63, .goto (-55), 3)) D_LI_packByItself 35 rfl
theorem d_LI_packByItself_66 : decode M_LI_packByItself.2.1 66 = .ok (.return_, 1) := fx_d (q := (66, .return_, 1)) D_LI_packByItself 36 rfl
set_option maxRecDepth 100000 in
def L_LI_runCode : List (Nat × Instr × Nat) := [(0, .iconst 0, 1), (1, .iload_n 0, 1), (2, .getstatic 21, 3), (5, .arraylength, 1), (6, .iconst 1, 1), (7, .isub, 1), (8, .invokestatic 44, 3), (11, .invokestatic 50, 3), (14, .istore_n 2, 1), (15, .iload_n 1, 1), (16, .ifCond .ne 11, 3), (19, .getstatic 21, 3), (22, .iload_n 2, 1), (23, .iaload, 1), (24, .goto 8, 3), (27, .getstatic 32, 3), (30, .iload_n 2, 1), (31, .iaload, 1), (32, .ireturn, 1)]
set_option maxRecDepth 100000 in
theorem D_LI_runCode : ∀ q ∈ L_LI_runCode, decode prog_6_method_2_code q.1 = .ok q.2 := by decide +kernel
theorem d_LI_runCode_0 : decode M_LI_runCode.2.1 0 = .ok (.iconst 0, 1) := fx_d (q := (0, .iconst 0, 1)) D_LI_runCode 0 rfl
theorem d_LI_runCode_1 : decode M_LI_runCode.2.1 1 = .ok (.iload_n 0, 1) := fx_d (q := (1, .iload_n 0, 1)) D_LI_runCode 1 rfl
theorem d_LI_runCode_2 : decode M_LI_runCode.2.1 2 = .ok (.getstatic 21, 3) := fx_d (q := (2, .getstatic 21, 3)) D_LI_runCode 2 rfl
theorem d_LI_runCode_5 : decode M_LI_runCode.2.1 5 = .ok (.arraylength, 1) := fx_d (q := (5, .arraylength, 1)) D_LI_runCode 3 rfl
theorem d_LI_runCode_6 : decode M_LI_runCode.2.1 6 = .ok (.iconst 1, 1) := fx_d (q := (6, .iconst 1, 1)) D_LI_runCode 4 rfl
theorem d_LI_runCode_7 : decode M_LI_runCode.2.1 7 = .ok (.isub, 1) := fx_d (q := (7, .isub, 1)) D_LI_runCode 5 rfl
theorem d_LI_runCode_8 : decode M_LI_runCode.2.1 8 = .ok (.invokestatic 44, 3) := fx_d (q := (8, .invokestatic 44, 3)) D_LI_runCode 6 rfl
theorem d_LI_runCode_11 : decode M_LI_runCode.2.1 11 = .ok (.invokestatic 50, 3) := fx_d (q := (11, .invokestatic 50, 3)) D_LI_runCode 7 rfl
theorem d_LI_runCode_14 : decode M_LI_runCode.2.1 14 = .ok (.istore_n 2, 1) := fx_d (q := (14, .istore_n 2, 1)) D_LI_runCode 8 rfl
theorem d_LI_runCode_15 : decode M_LI_runCode.2.1 15 = .ok (.iload_n 1, 1) := fx_d (q := (15, .iload_n 1, 1)) D_LI_runCode 9 rfl
theorem d_LI_runCode_16 : decode M_LI_runCode.2.1 16 = .ok (.ifCond .ne 11, 3) := fx_d (q := (16, .ifCond .ne 11, 3)) D_LI_runCode 10 rfl
theorem d_LI_runCode_19 : decode M_LI_runCode.2.1 19 = .ok (.getstatic 21, 3) := fx_d (q := (19, .getstatic 21, 3)) D_LI_runCode 11 rfl
theorem d_LI_runCode_22 : decode M_LI_runCode.2.1 22 = .ok (.iload_n 2, 1) := fx_d (q := (22, .iload_n 2, 1)) D_LI_runCode 12 rfl
theorem d_LI_runCode_23 : decode M_LI_runCode.2.1 23 = .ok (.iaload, 1) := fx_d (q := (23, .iaload, 1)) D_LI_runCode 13 rfl
theorem d_LI_runCode_24 : decode M_LI_runCode.2.1 24 = .ok (.goto 8, 3) := fx_d (q := (24, .goto 8, 3)) D_LI_runCode 14 rfl
theorem d_LI_runCode_27 : decode M_LI_runCode.2.1 27 = .ok (.getstatic 32, 3) := fx_d (q := (27, .getstatic 32, 3)) D_LI_runCode 15 rfl
theorem d_LI_runCode_30 : decode M_LI_runCode.2.1 30 = .ok (.iload_n 2, 1) := fx_d (q := (30, .iload_n 2, 1)) D_LI_runCode 16 rfl
theorem d_LI_runCode_31 : decode M_LI_runCode.2.1 31 = .ok (.iaload, 1) := fx_d (q := (31, .iaload, 1)) D_LI_runCode 17 rfl
theorem d_LI_runCode_32 : decode M_LI_runCode.2.1 32 = .ok (.ireturn, 1) := fx_d (q := (32, .ireturn, 1)) D_LI_runCode 18 rfl
set_option maxRecDepth 100000 in
def L_LI_packByAnother : List (Nat × Instr × Nat) := [(0, .iconst (-1), 1), (1, .istore 4, 2), (3, .iconst 0, 1), (4, .istore 5, 2), (6, .iconst 0, 1), (7, .istore 6, 2), (9, .iload 6, 2), (11, .aload_n 1, 1), (12, .getfield 53, 3), (15, .if_icmp .gt 207, 3), (18, .iload 4, 2), (20, .aload_n 1, 1), (21, .getfield 53, 3), (24, .if_icmp .ge 198, 3), (27, .aload_n 1, 1), (28, .iload_n 2, 1), (29, .iload 4, 2), (31, .iconst 1, 1), (32, .iadd, 1), (33, .iload 5, 2), (35, .invokevirtual 59, 3), (38, .istore 7, 2), (40, .aload_n 1, 1), (41, .iload_n 3, 1), (42, .iload 4, 2), (44, .iconst 1, 1), (45, .iadd, 1), (46, .iload 5, 2), (48, .invokevirtual 84, 3), (51, .istore 8, 2), (53, .aload_n 1, 1), (54, .iload_n 3, 1), (55, .iload 8, 2), (57, .iconst 1, 1), (58, .iadd, 1), (59, .iconst 1, 1), (60, .iload 5, 2), (62, .isub, 1), (63, .invokevirtual 59, 3), (66, .istore 9, 2), (68, .iload 9, 2), (70, .iload 7, 2), (72, .if_icmp .ge 23, 3), (75, .aload_n 0, 1), (76, .getfield 9, 3), (79, .getstatic 38, 3), (82, .bipush 7, 2), (84, .iaload, 1), (85, .invokevirtual 66, 3), (88, .iload 9, 2), (90, .istore 4, 2), (92, .goto 124, 3), (95, .iload 7, 2), (97, .iload 8, 2), (99, .iconst 3, 1), (100, .isub, 1), (101, .if_icmp .lt 43, 3), (104, .iload 7, 2), (106, .iload 8, 2), (108, .iconst 3, 1), (109, .iadd, 1), (110, .if_icmp .gt 34, 3), (113, .aload_n 0, 1), (114, .getfield 9, 3), (117, .getstatic 38, 3), (120, .iload 7, 2), (122, .iload 8, 2), (124, .isub, 1), (125, .iconst 3, 1), (126, .iadd, 1), (127, .iaload, 1), (128, .invokevirtual 66, 3), (131, .iload 7, 2), (133, .istore 4, 2), (135, .iconst 1, 1), (136, .iload 5, 2), (138, .isub, 1), (139, .istore 5, 2), (141, .goto 75, 3), (144, .aload_n 1, 1), (145, .iload_n 2, 1), (146, .iload 7, 2), (148, .iconst 1, 1), (149, .iadd, 1), (150, .iconst 1, 1), (151, .iload 5, 2), (153, .isub, 1), (154, .invokevirtual 59, 3), (157, .istore 10, 2), (159, .aload_n 0, 1), (160, .getfield 9, 3), (163, .getstatic 38, 3), (166, .bipush 8, 2), (168, .iaload, 1), (169, .invokevirtual 66, 3), (172, .aload_n 0, 1), (173, .getfield 9, 3), (176, .iload 7, 2), (178, .iload 4, 2), (180, .iconst 0, 1), (181, .invokestatic 50, 3), (184, .isub, 1), (185, .iload 5, 2), (187, .invokestatic 63, 3), (190, .invokevirtual 66, 3), (193, .aload_n 0, 1), (194, .getfield 9, 3), (197, .iload 10, 2), (199, .iload 7, 2), (201, .isub, 1), (202, .iconst 1, 1), (203, .iload 5, 2), (205, .isub, 1), (206, .invokestatic 63, 3), (209, .invokevirtual 66, 3), (212, .iload 10, 2), (214, .istore 4, 2), (216, .iinc 6 1, 3), (219, .goto (-210), 3), (222, .return_, 1)]
set_option maxRecDepth 100000 in
theorem D_LI_packByAnother : ∀ q ∈ L_LI_packByAnother, decode prog_6_method_6_code q.1 = .ok q.2 := by decide +kernel
theorem d_LI_packByAnother_0 : decode M_LI_packByAnother.2.1 0 = .ok (.iconst (-1), 1) := fx_d (q := (0, .iconst (-1), 1)) D_LI_packByAnother 0 rfl
theorem d_LI_packByAnother_1 : decode M_LI_packByAnother.2.1 1 = .ok (.istore 4, 2) := fx_d (q := (1, .istore 4, 2)) D_LI_packByAnother 1 rfl
theorem d_LI_packByAnother_3 : decode M_LI_packByAnother.2.1 3 = .ok (.iconst 0, 1) := fx_d (q := (3, .iconst 0, 1)) D_LI_packByAnother 2 rfl
theorem d_LI_packByAnother_4 : decode M_LI_packByAnother.2.1 4 = .ok (.istore 5, 2) := fx_d (q := (4, .istore 5, 2)) D_LI_packByAnother 3 rfl
theorem d_LI_packByAnother_6 : decode M_LI_packByAnother.2.1 6 = .ok (.iconst 0, 1) := fx_d (q := (6, .iconst 0, 1)) D_LI_packByAnother 4 rfl
theorem d_LI_packByAnother_7 : decode M_LI_packByAnother.2.1 7 = .ok (.istore 6, 2) := fx_d (q := (7, .istore 6, 2)) D_LI_packByAnother 5 rfl
theorem d_LI_packByAnother_9 : decode M_LI_packByAnother.2.1 9 = .ok (.iload 6, 2) := fx_d (q := (9, .iload 6, 2)) D_LI_packByAnother 6 rfl
theorem d_LI_packByAnother_11 : decode M_LI_packByAnother.2.1 11 = .ok (.aload_n 1, 1) := fx_d (q := (11, .aload_n 1, 1)) D_LI_packByAnother 7 rfl
theorem d_LI_packByAnother_12 : decode M_LI_packByAnother.2.1 12 = .ok (.getfield 53, 3) := fx_d (q := (12, .getfield 53, 3)) D_LI_packByAnother 8 rfl
theorem d_LI_packByAnother_15 : decode M_LI_packByAnother.2.1 15 = .ok (.if_icmp .gt 207, 3) := fx_d (q := (15, .if_icmp .gt 207, 3)) D_LI_packByAnother 9 rfl
theorem d_LI_packByAnother_18 : decode M_LI_packByAnother.2.1 18 = .ok (.iload 4, 2) := fx_d (q := (18, .iload 4, 2)) D_LI_packByAnother 10 rfl
theorem d_LI_packByAnother_20 : decode M_LI_packByAnother.2.1 20 = .ok (.aload_n 1, 1) := fx_d (q := (20, .aload_n 1, 1)) D_LI_packByAnother 11 rfl
theorem d_LI_packByAnother_21 : decode M_LI_packByAnother.2.1 21 = .ok (.getfield 53, 3) := fx_d (q := (21, .getfield 53, 3)) D_LI_packByAnother 12 rfl
theorem d_LI_packByAnother_24 : decode M_LI_packByAnother.2.1 24 = .ok (.if_icmp .ge 198, 3) := fx_d (q := (24, .if_icmp .ge 198, 3)) D_LI_packByAnother 13 rfl
theorem d_LI_packByAnother_27 : decode M_LI_packByAnother.2.1 27 = .ok (.aload_n 1, 1) := fx_d (q := (27, .aload_n 1, 1)) D_LI_packByAnother 14 rfl
theorem d_LI_packByAnother_28 : decode M_LI_packByAnother.2.1 28 = .ok (.iload_n 2, 1) := fx_d (q := (28, .iload_n 2, 1)) D_LI_packByAnother 15 rfl
theorem d_LI_packByAnother_29 : decode M_LI_packByAnother.2.1 29 = .ok (.iload 4, 2) := fx_d (q := (29, .iload 4, 2)) D_LI_packByAnother 16 rfl
theorem d_LI_packByAnother_31 : decode M_LI_packByAnother.2.1 31 = .ok (.iconst 1, 1) := fx_d (q := (31, .iconst 1, 1)) D_LI_packByAnother 17 rfl
theorem d_LI_packByAnother_32 : decode M_LI_packByAnother.2.1 32 = .ok (.iadd, 1) := fx_d (q := (32, .iadd, 1)) D_LI_packByAnother 18 rfl
theorem d_LI_packByAnother_33 : decode M_LI_packByAnother.2.1 33 = .ok (.iload 5, 2) := fx_d (q := (33, .iload 5, 2)) D_LI_packByAnother 19 rfl
theorem d_LI_packByAnother_35 : decode M_LI_packByAnother.2.1 35 = .ok (.invokevirtual 59, 3) := fx_d (q := (35, .invokevirtual 59, 3)) D_LI_packByAnother 20 rfl
theorem d_LI_packByAnother_38 : decode M_LI_packByAnother.2.1 38 = .ok (.istore 7, 2) := fx_d (q := (38, .istore 7, 2)) D_LI_packByAnother 21 rfl
theorem d_LI_packByAnother_40 : decode M_LI_packByAnother.2.1 40 = .ok (.aload_n 1, 1) := fx_d (q := (40, .aload_n 1, 1)) D_LI_packByAnother 22 rfl
theorem d_LI_packByAnother_41 : decode M_LI_packByAnother.2.1 41 = .ok (.iload_n 3, 1) := fx_d (q := (41, .iload_n 3, 1)) D_LI_packByAnother 23 rfl
theorem d_LI_packByAnother_42 : decode M_LI_packByAnother.2.1 42 = .ok (.iload 4, 2) := fx_d (q := (42, .iload 4, 2)) D_LI_packByAnother 24 rfl
theorem d_LI_packByAnother_44 : decode M_LI_packByAnother.2.1 44 = .ok (.iconst 1, 1) := fx_d (q := (44, .iconst 1, 1)) D_LI_packByAnother 25 rfl
theorem d_LI_packByAnother_45 : decode M_LI_packByAnother.2.1 45 = .ok (.iadd, 1) := fx_d (q := (45, .iadd, 1)) D_LI_packByAnother 26 rfl
theorem d_LI_packByAnother_46 : decode M_LI_packByAnother.2.1 46 = .ok (.iload 5, 2) := fx_d (q := (46, .iload 5, 2)) D_LI_packByAnother 27 rfl
theorem d_LI_packByAnother_48 : decode M_LI_packByAnother.2.1 48 = .ok (.invokevirtual 84, 3) := fx_d (q := (48, .invokevirtual 84, 3)) D_LI_packByAnother 28 rfl
theorem d_LI_packByAnother_51 : decode M_LI_packByAnother.2.1 51 = .ok (.istore 8, 2) := fx_d (q := (51, .istore 8, 2)) D_LI_packByAnother 29 rfl
theorem d_LI_packByAnother_53 : decode M_LI_packByAnother.2.1 53 = .ok (.aload_n 1, 1) := fx_d (q := (53, .aload_n 1, 1)) D_LI_packByAnother 30 rfl
theorem d_LI_packByAnother_54 : decode M_LI_packByAnother.2.1 54 = .ok (.iload_n 3, 1) := fx_d (q := (54, .iload_n 3, 1)) D_LI_packByAnother 31 rfl
theorem d_LI_packByAnother_55 : decode M_LI_packByAnother.2.1 55 = .ok (.iload 8, 2) := fx_d (q := (55, .iload 8, 2)) D_LI_packByAnother 32 rfl
theorem d_LI_packByAnother_57 : decode M_LI_packByAnother.2.1 57 = .ok (.iconst 1, 1) := fx_d (q := (57, .iconst 1, 1)) D_LI_packByAnother 33 rfl
theorem d_LI_packByAnother_58 : decode M_LI_packByAnother.2.1 58 = .ok (.iadd, 1) := fx_d (q := (58, .iadd, 1)) D_LI_packByAnother 34 rfl
theorem d_LI_packByAnother_59 : decode M_LI_packByAnother.2.1 59 = .ok (.iconst 1, 1) := fx_d (q := (59, .iconst 1, 1)) D_LI_packByAnother 35 rfl
theorem d_LI_packByAnother_60 : decode M_LI_packByAnother.2.1 60 = .ok (.iload 5, 2) := fx_d (q := (60, .iload 5, 2)) D_LI_packByAnother 36 rfl
theorem d_LI_packByAnother_62 : decode M_LI_packByAnother.2.1 62 = .ok (.isub, 1) := fx_d (q := (62, .isub, 1)) D_LI_packByAnother 37 rfl
theorem d_LI_packByAnother_63 : decode M_LI_packByAnother.2.1 63 = .ok (.invokevirtual 59, 3) := fx_d (q := (63, .invokevirtual 59, 3)) D_LI_packByAnother 38 rfl
theorem d_LI_packByAnother_66 : decode M_LI_packByAnother.2.1 66 = .ok (.istore 9, 2) := fx_d (q := (66, .istore 9, 2)) D_LI_packByAnother 39 rfl
theorem d_LI_packByAnother_68 : decode M_LI_packByAnother.2.1 68 = .ok (.iload 9, 2) := fx_d (q := (68, .iload 9, 2)) D_LI_packByAnother 40 rfl
theorem d_LI_packByAnother_70 : decode M_LI_packByAnother.2.1 70 = .ok (.iload 7, 2) := fx_d (q := (70, .iload 7, 2)) D_LI_packByAnother 41 rfl
theorem d_LI_packByAnother_72 : decode M_LI_packByAnother.2.1 72 = .ok (.if_icmp .ge 23, 3) := fx_d (q := (72, .if_icmp .ge 23, 3)) D_LI_packByAnother 42 rfl
theorem d_LI_packByAnother_75 : decode M_LI_packByAnother.2.1 75 = .ok (.aload_n 0, 1) := fx_d (q := (75, .aload_n 0, 1)) D_LI_packByAnother 43 rfl
theorem d_LI_packByAnother_76 : decode M_LI_packByAnother.2.1 76 = .ok (.getfield 9, 3) := fx_d (q := (76, .getfield 9, 3)) D_LI_packByAnother 44 rfl
theorem d_LI_packByAnother_79 : decode M_LI_packByAnother.2.1 79 = .ok (.getstatic 38, 3) := fx_d (q := (79, .getstatic 38, 3)) D_LI_packByAnother 45 rfl
theorem d_LI_packByAnother_82 : decode M_LI_packByAnother.2.1 82 = .ok (.bipush 7, 2) := fx_d (q := (82, .bipush 7, 2)) D_LI_packByAnother 46 rfl
theorem d_LI_packByAnother_84 : decode M_LI_packByAnother.2.1 84 = .ok (.iaload, 1) := fx_d (q := (84, .iaload, 1)) D_LI_packByAnother 47 rfl
theorem d_LI_packByAnother_85 : decode M_LI_packByAnother.2.1 85 = .ok (.invokevirtual 66, 3) := fx_d (q := (85, .invokevirtual 66, 3)) D_LI_packByAnother 48 rfl
theorem d_LI_packByAnother_88 : decode M_LI_packByAnother.2.1 88 = .ok (.iload 9, 2) := fx_d (q := (88, .iload 9, 2)) D_LI_packByAnother 49 rfl
theorem d_LI_packByAnother_90 : decode M_LI_packByAnother.2.1 90 = .ok (.istore 4, 2) := fx_d (q := (90, .istore 4, 2)) D_LI_packByAnother 50 rfl
theorem d_LI_packByAnother_92 : decode M_LI_packByAnother.2.1 92 = .ok (.goto 124, 3) := fx_d (q := (92, .goto 124, 3)) D_LI_packByAnother 51 rfl
theorem d_LI_packByAnother_95 : decode M_LI_packByAnother.2.1 95 = .ok (.iload 7, 2) := fx_d (q := (95, .iload 7, 2)) D_LI_packByAnother 52 rfl
theorem d_LI_packByAnother_97 : decode M_LI_packByAnother.2.1 97 = .ok (.iload 8, 2) := fx_d (q := (97, .iload 8, 2)) D_LI_packByAnother 53 rfl
theorem d_LI_packByAnother_99 : decode M_LI_packByAnother.2.1 99 = .ok (.iconst 3, 1) := fx_d (q := (99, .iconst 3, 1)) D_LI_packByAnother 54 rfl
theorem d_LI_packByAnother_100 : decode M_LI_packByAnother.2.1 100 = .ok (.isub, 1) := fx_d (q := (100, .isub, 1)) D_LI_packByAnother 55 rfl
theorem d_LI_packByAnother_101 : decode M_LI_packByAnother.2.1 101 = .ok (.if_icmp .lt 43, 3) := fx_d (q := (101, .if_icmp .lt 43, 3)) D_LI_packByAnother 56 rfl
theorem d_LI_packByAnother_104 : decode M_LI_packByAnother.2.1 104 = .ok (.iload 7, 2) := fx_d (q := (104, .iload 7, 2)) D_LI_packByAnother 57 rfl
theorem d_LI_packByAnother_106 : decode M_LI_packByAnother.2.1 106 = .ok (.iload 8, 2) := fx_d (q := (106, .iload 8, 2)) D_LI_packByAnother 58 rfl
theorem d_LI_packByAnother_108 : decode M_LI_packByAnother.2.1 108 = .ok (.iconst 3, 1) := fx_d (q := (108, .iconst 3, 1)) D_LI_packByAnother 59 rfl
theorem d_LI_packByAnother_109 : decode M_LI_packByAnother.2.1 109 = .ok (.iadd, 1) := fx_d (q := (109, .iadd, 1)) D_LI_packByAnother 60 rfl
theorem d_LI_packByAnother_110 : decode M_LI_packByAnother.2.1 110 = .ok (.if_icmp .gt 34, 3) := fx_d (q := (110, .if_icmp .gt 34, 3)) D_LI_packByAnother 61 rfl
theorem d_LI_packByAnother_113 : decode M_LI_packByAnother.2.1 113 = .ok (.aload_n 0, 1) := fx_d (q := (113, .aload_n 0, 1)) D_LI_packByAnother 62 rfl
theorem d_LI_packByAnother_114 : decode M_LI_packByAnother.2.1 114 = .ok (.getfield 9, 3) := fx_d (q := (114, .getfield 9, 3)) D_LI_packByAnother 63 rfl
theorem d_LI_packByAnother_117 : decode M_LI_packByAnother.2.1 117 = .ok (.getstatic 38, 3) := fx_d (q := (117, .getstatic 38, 3)) D_LI_packByAnother 64 rfl
theorem d_LI_packByAnother_120 : decode M_LI_packByAnother.2.1 120 = .ok (.iload 7, 2) := fx_d (q := (120, .iload 7, 2)) D_LI_packByAnother 65 rfl
theorem d_LI_packByAnother_122 : decode M_LI_packByAnother.2.1 122 = .ok (.iload 8, 2) := fx_d (q := (122, .iload 8, 2)) D_LI_packByAnother 66 rfl
theorem d_LI_packByAnother_124 : decode M_LI_packByAnother.2.1 124 = .ok (.isub, 1) := fx_d (q := (124, .isub, 1)) D_LI_packByAnother 67 rfl
theorem d_LI_packByAnother_125 : decode M_LI_packByAnother.2.1 125 = .ok (.iconst 3, 1) := fx_d (q := (125, .iconst 3, 1)) D_LI_packByAnother 68 rfl
theorem d_LI_packByAnother_126 : decode M_LI_packByAnother.2.1 126 = .ok (.iadd, 1) := fx_d (q := (126, .iadd, 1)) D_LI_packByAnother 69 rfl
theorem d_LI_packByAnother_127 : decode M_LI_packByAnother.2.1 127 = .ok (.iaload, 1) := fx_d (q := (127, .iaload, 1)) D_LI_packByAnother 70 rfl
theorem d_LI_packByAnother_128 : decode M_LI_packByAnother.2.1 128 = .ok (.invokevirtual 66, 3) := fx_d (q := (128, .invokevirtual 66, 3)) D_LI_packByAnother 71 rfl
theorem d_LI_packByAnother_131 : decode M_LI_packByAnother.2.1 131 = .ok (.iload 7, 2) := fx_d (q := (131, .iload 7, 2)) D_LI_packByAnother 72 rfl
theorem d_LI_packByAnother_133 : decode M_LI_packByAnother.2.1 133 = .ok (.istore 4, 2) := fx_d (q := (133, .istore 4, 2)) D_LI_packByAnother 73 rfl
theorem d_LI_packByAnother_135 : decode M_LI_packByAnother.2.1 135 = .ok (.iconst 1, 1) := fx_d (q := (135, .iconst 1, 1)) D_LI_packByAnother 74 rfl
theorem d_LI_packByAnother_136 : decode M_LI_packByAnother.2.1 136 = .ok (.iload 5, 2) := fx_d (q := (136, .iload 5, 2)) D_LI_packByAnother 75 rfl
theorem d_LI_packByAnother_138 : decode M_LI_packByAnother.2.1 138 = .ok (.isub, 1) := fx_d (q := (138, .isub, 1)) D_LI_packByAnother 76 rfl
theorem d_LI_packByAnother_139 : decode M_LI_packByAnother.2.1 139 = .ok (.istore 5, 2) := fx_d (q := (139, .istore 5, 2)) D_LI_packByAnother 77 rfl
theorem d_LI_packByAnother_141 : decode M_LI_packByAnother.2.1 141 = .ok (.goto 75, 3) := fx_d (q := (141, .goto 75, 3)) D_LI_packByAnother 78 rfl
theorem d_LI_packByAnother_144 : decode M_LI_packByAnother.2.1 144 = .ok (.aload_n 1, 1) := fx_d (q := (144, .aload_n 1, 1)) D_LI_packByAnother 79 rfl
theorem d_LI_packByAnother_145 : decode M_LI_packByAnother.2.1 145 = .ok (.iload_n 2, 1) := fx_d (q := (145, .iload_n 2, 1)) D_LI_packByAnother 80 rfl
theorem d_LI_packByAnother_146 : decode M_LI_packByAnother.2.1 146 = .ok (.iload 7, 2) := fx_d (q := (146, .iload 7, 2)) D_LI_packByAnother 81 rfl
theorem d_LI_packByAnother_148 : decode M_LI_packByAnother.2.1 148 = .ok (.iconst 1, 1) := fx_d (q := (148, .iconst 1, 1)) D_LI_packByAnother 82 rfl
theorem d_LI_packByAnother_149 : decode M_LI_packByAnother.2.1 149 = .ok (.iadd, 1) := fx_d (q := (149, .iadd, 1)) D_LI_packByAnother 83 rfl
theorem d_LI_packByAnother_150 : decode M_LI_packByAnother.2.1 150 = .ok (.iconst 1, 1) := fx_d (q := (150, .iconst 1, 1)) D_LI_packByAnother 84 rfl
theorem d_LI_packByAnother_151 : decode M_LI_packByAnother.2.1 151 = .ok (.iload 5, 2) := fx_d (q := (151, .iload 5, 2)) D_LI_packByAnother 85 rfl
theorem d_LI_packByAnother_153 : decode M_LI_packByAnother.2.1 153 = .ok (.isub, 1) := fx_d (q := (153, .isub, 1)) D_LI_packByAnother 86 rfl
theorem d_LI_packByAnother_154 : decode M_LI_packByAnother.2.1 154 = .ok (.invokevirtual 59, 3) := fx_d (q := (154, .invokevirtual 59, 3)) D_LI_packByAnother 87 rfl
theorem d_LI_packByAnother_157 : decode M_LI_packByAnother.2.1 157 = .ok (.istore 10, 2) := fx_d (q := (157, .istore 10, 2)) D_LI_packByAnother 88 rfl
theorem d_LI_packByAnother_159 : decode M_LI_packByAnother.2.1 159 = .ok (.aload_n 0, 1) := fx_d (q := (159, .aload_n 0, 1)) D_LI_packByAnother 89 rfl
theorem d_LI_packByAnother_160 : decode M_LI_packByAnother.2.1 160 = .ok (.getfield 9, 3) := fx_d (q := (160, .getfield 9, 3)) D_LI_packByAnother 90 rfl
theorem d_LI_packByAnother_163 : decode M_LI_packByAnother.2.1 163 = .ok (.getstatic 38, 3) := fx_d (q := (163, .getstatic 38, 3)) D_LI_packByAnother 91 rfl
theorem d_LI_packByAnother_166 : decode M_LI_packByAnother.2.1 166 = .ok (.bipush 8, 2) := fx_d (q := (166, .bipush 8, 2)) D_LI_packByAnother 92 rfl
theorem d_LI_packByAnother_168 : decode M_LI_packByAnother.2.1 168 = .ok (.iaload, 1) := fx_d (q := (168, .iaload, 1)) D_LI_packByAnother 93 rfl
theorem d_LI_packByAnother_169 : decode M_LI_packByAnother.2.1 169 = .ok (.invokevirtual 66, 3) := fx_d (q := (169, .invokevirtual 66, 3)) D_LI_packByAnother 94 rfl
theorem d_LI_packByAnother_172 : decode M_LI_packByAnother.2.1 172 = .ok (.aload_n 0, 1) := fx_d (q := (172, .aload_n 0, 1)) D_LI_packByAnother 95 rfl
theorem d_LI_packByAnother_173 : decode M_LI_packByAnother.2.1 173 = .ok (.getfield 9, 3) := fx_d (q := (173, .getfield 9, 3)) D_LI_packByAnother 96 rfl
theorem d_LI_packByAnother_176 : decode M_LI_packByAnother.2.1 176 = .ok (.iload 7, 2) := fx_d (q := (176, .iload 7, 2)) D_LI_packByAnother 97 rfl
theorem d_LI_packByAnother_178 : decode M_LI_packByAnother.2.1 178 = .ok (.iload 4, 2) := fx_d (q := (178, .iload 4, 2)) D_LI_packByAnother 98 rfl
theorem d_LI_packByAnother_180 : decode M_LI_packByAnother.2.1 180 = .ok (.iconst 0, 1) := fx_d (q := (180, .iconst 0, 1)) D_LI_packByAnother 99 rfl
theorem d_LI_packByAnother_181 : decode M_LI_packByAnother.2.1 181 = .ok (.invokestatic 50, 3) := fx_d (q := (181, .invokestatic 50, 3)) D_LI_packByAnother 100 rfl
theorem d_LI_packByAnother_184 : decode M_LI_packByAnother.2.1 184 = .ok (.isub, 1) := fx_d (q := (184, .isub, 1)) D_LI_packByAnother 101 rfl
theorem d_LI_packByAnother_185 : decode M_LI_packByAnother.2.1 185 = .ok (.iload 5, 2) := fx_d (q := (185, .iload 5, 2)) D_LI_packByAnother 102 rfl
theorem d_LI_packByAnother_187 : decode M_LI_packByAnother.2.1 187 = .ok (.invokestatic 63, 3) := fx_d (q := (187, .invokestatic 63, 3)) D_LI_packByAnother 103 rfl
theorem d_LI_packByAnother_190 : decode M_LI_packByAnother.2.1 190 = .ok (.invokevirtual 66, 3) := fx_d (q := (190, .invokevirtual 66, 3)) D_LI_packByAnother 104 rfl
theorem d_LI_packByAnother_193 : decode M_LI_packByAnother.2.1 193 = .ok (.aload_n 0, 1) := fx_d (q := (193, .aload_n 0, 1)) D_LI_packByAnother 105 rfl
theorem d_LI_packByAnother_194 : decode M_LI_packByAnother.2.1 194 = .ok (.getfield 9, 3) := fx_d (q := (194, .getfield 9, 3)) D_LI_packByAnother 106 rfl
theorem d_LI_packByAnother_197 : decode M_LI_packByAnother.2.1 197 = .ok (.iload 10, 2) := fx_d (q := (197, .iload 10, 2)) D_LI_packByAnother 107 rfl
theorem d_LI_packByAnother_199 : decode M_LI_packByAnother.2.1 199 = .ok (.iload 7, 2) := fx_d (q := (199, .iload 7, 2)) D_LI_packByAnother 108 rfl
theorem d_LI_packByAnother_201 : decode M_LI_packByAnother.2.1 201 = .ok (.isub, 1) := fx_d (q := (201, .isub, 1)) D_LI_packByAnother 109 rfl
theorem d_LI_packByAnother_202 : decode M_LI_packByAnother.2.1 202 = .ok (.iconst 1, 1) := fx_d (q := (202, .iconst 1, 1)) D_LI_packByAnother 110 rfl
theorem d_LI_packByAnother_203 : decode M_LI_packByAnother.2.1 203 = .ok (.iload 5, 2) := fx_d (q := (203, .iload 5, 2)) D_LI_packByAnother 111 rfl
theorem d_LI_packByAnother_205 : decode M_LI_packByAnother.2.1 205 = .ok (.isub, 1) := fx_d (q := (205, .isub, 1)) D_LI_packByAnother 112 rfl
theorem d_LI_packByAnother_206 : decode M_LI_packByAnother.2.1 206 = .ok (.invokestatic 63, 3) := fx_d (q := (206, .invokestatic 63, 3)) D_LI_packByAnother 113 rfl
theorem d_LI_packByAnother_209 : decode M_LI_packByAnother.2.1 209 = .ok (.invokevirtual 66, 3) := fx_d (q := (209, .invokevirtual 66, 3)) D_LI_packByAnother 114 rfl
theorem d_LI_packByAnother_212 : decode M_LI_packByAnother.2.1 212 = .ok (.iload 10, 2) := fx_d (q := (212, .iload 10, 2)) D_LI_packByAnother 115 rfl
theorem d_LI_packByAnother_214 : decode M_LI_packByAnother.2.1 214 = .ok (.istore 4, 2) := fx_d (q := (214, .istore 4, 2)) D_LI_packByAnother 116 rfl
theorem d_LI_packByAnother_216 : decode M_LI_packByAnother.2.1 216 = .ok (.iinc 6 1, 3) := fx_d (q := (216, .iinc 6 1, 3)) D_LI_packByAnother 117 rfl
theorem d_LI_packByAnother_219 : decode M_LI_packByAnother.2.1 219 = .ok (.goto (-210), 3) := fx_d (q := (219, .goto (-210), 3)) D_LI_packByAnother 118 rfl
theorem d_LI_packByAnother_222 : decode M_LI_packByAnother.2.1 222 = .ok (.return_, 1) := fx_d (q := (222, .return_, 1)) D_LI_packByAnother 119 rfl
