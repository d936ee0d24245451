set_option maxRecDepth 100000 in
def L_TA_init : List (Nat × Instr × Nat) := [(0, .aload_n 0, 1), (1, .invokespecial 5, 3), (4, .aload_n 0, 1), (5, .aload_n 1, 1), (6, .putfield 11, 3), (9, .aload_n 0, 1), (10, .aload_n 2, 1), (11, .putfield 15, 3), (14, .aload_n 0, 1), (15, .sipush 400, 3), (18, .newarray .int, 2), (20, .putfield 19, 3), (23, .aload_n 0, 1), (24, .sipush 658, 3), (27, .newarray .int, 2), (29, .putfield 23, 3), (32, .aload_n 0, 1), (33, .sipush 658, 3), (36, .newarray .int, 2), (38, .putfield 26, 3), (41, .aload_n 0, 1), (42, .sipush 658, 3), (45, .newarray .int, 2), (47, .putfield 29, 3), (50, .aload_n 0, 1), (51, .sipush 658, 3), (54, .newarray .int, 2), (56, .putfield 32, 3), (59, .aload_n 0, 1), (60, .sipush 658, 3), (63, .newarray .int, 2), (65, .putfield 35, 3), (68, .return_, 1)]
set_option maxRecDepth 100000 in
theorem D_TA_init : ∀ q ∈ L_TA_init, decode prog_11_method_1_code q.1 = .ok q.2 := by decide +kernel
theorem d_TA_init_0 : decode M_TA_init.2.1 0 = .ok (.aload_n 0, 1) := fx_d (q := (0, .aload_n 0, 1)) D_TA_init 0 rfl
theorem d_TA_init_1 : decode M_TA_init.2.1 1 = .ok (.invokespecial 5, 3) := fx_d (q := (1, .invokespecial 5, 3)) D_TA_init 1 rfl
theorem d_TA_init_4 : decode M_TA_init.2.1 4 = .ok (.aload_n 0, 1) := fx_d (q := (4, .aload_n 0, 1)) D_TA_init 2 rfl
theorem d_TA_init_5 : decode M_TA_init.2.1 5 = .ok (.aload_n 1, 1) := fx_d (q := (5, .aload_n 1, 1)) D_TA_init 3 rfl
theorem d_TA_init_6 : decode M_TA_init.2.1 6 = .ok (.putfield 11, 3) := fx_d (q := (6, .putfield 11, 3)) D_TA_init 4 rfl
theorem d_TA_init_9 : decode M_TA_init.2.1 9 = .ok (.aload_n 0, 1) := fx_d (q := (9, .aload_n 0, 1)) D_TA_init 5 rfl
theorem d_TA_init_10 : decode M_TA_init.2.1 10 = .ok (.aload_n 2, 1) := fx_d (q := (10, .aload_n 2, 1)) D_TA_init 6 rfl
theorem d_TA_init_11 : decode M_TA_init.2.1 11 = .ok (.putfield 15, 3) := fx_d (q := (11, .putfield 15, 3)) D_TA_init 7 rfl
theorem d_TA_init_14 : decode M_TA_init.2.1 14 = .ok (.aload_n 0, 1) := fx_d (q := (14, .aload_n 0, 1)) D_TA_init 8 rfl
theorem d_TA_init_15 : decode M_TA_init.2.1 15 = .ok (.sipush 400, 3) := fx_d (q := (15, .sipush 400, 3)) D_TA_init 9 rfl
theorem d_TA_init_18 : decode M_TA_init.2.1 18 = .ok (.newarray .int, 2) := fx_d (q := (18, .newarray .int, 2)) D_TA_init 10 rfl
theorem d_TA_init_20 : decode M_TA_init.2.1 20 = .ok (.putfield 19, 3) := fx_d (q := (20, .putfield 19, 3)) D_TA_init 11 rfl
theorem d_TA_init_23 : decode M_TA_init.2.1 23 = .ok (.aload_n 0, 1) := fx_d (q := (23, .aload_n 0, 1)) D_TA_init 12 rfl
theorem d_TA_init_24 : decode M_TA_init.2.1 24 = .ok (.sipush 658, 3) := fx_d (q := (24, .sipush 658, 3)) D_TA_init 13 rfl
theorem d_TA_init_27 : decode M_TA_init.2.1 27 = .ok (.newarray .int, 2) := fx_d (q := (27, .newarray .int, 2)) D_TA_init 14 rfl
theorem d_TA_init_29 : decode M_TA_init.2.1 29 = .ok (.putfield 23, 3) := fx_d (q := (29, .putfield 23, 3)) D_TA_init 15 rfl
theorem d_TA_init_32 : decode M_TA_init.2.1 32 = .ok (.aload_n 0, 1) := fx_d (q := (32, .aload_n 0, 1)) D_TA_init 16 rfl
theorem d_TA_init_33 : decode M_TA_init.2.1 33 = .ok (.sipush 658, 3) := fx_d (q := (33, .sipush 658, 3)) D_TA_init 17 rfl
theorem d_TA_init_36 : decode M_TA_init.2.1 36 = .ok (.newarray .int, 2) := fx_d (q := (36, .newarray .int, 2)) D_TA_init 18 rfl
theorem d_TA_init_38 : decode M_TA_init.2.1 38 = .ok (.putfield 26, 3) := fx_d (q := (38, .putfield 26, 3)) D_TA_init 19 rfl
theorem d_TA_init_41 : decode M_TA_init.2.1 41 = .ok (.aload_n 0, 1) := fx_d (q := (41, .aload_n 0, 1)) D_TA_init 20 rfl
theorem d_TA_init_42 : decode M_TA_init.2.1 42 = .ok (.sipush 658, 3) := fx_d (q := (42, .sipush 658, 3)) D_TA_init 21 rfl
theorem d_TA_init_45 : decode M_TA_init.2.1 45 = .ok (.newarray .int, 2) := fx_d (q := (45, .newarray .int, 2)) D_TA_init 22 rfl
theorem d_TA_init_47 : decode M_TA_init.2.1 47 = .ok (.putfield 29, 3) := fx_d (q := (47, .putfield 29, 3)) D_TA_init 23 rfl
theorem d_TA_init_50 : decode M_TA_init.2.1 50 = .ok (.aload_n 0, 1) := fx_d (q := (50, .aload_n 0, 1)) D_TA_init 24 rfl
theorem d_TA_init_51 : decode M_TA_init.2.1 51 = .ok (.sipush 658, 3) := fx_d (q := (51, .sipush 658, 3)) D_TA_init 25 rfl
theorem d_TA_init_54 : decode M_TA_init.2.1 54 = .ok (.newarray .int, 2) := fx_d (q := (54, .newarray .int, 2)) D_TA_init 26 rfl
theorem d_TA_init_56 : decode M_TA_init.2.1 56 = .ok (.putfield 32, 3) := fx_d (q := (56, .putfield 32, 3)) D_TA_init 27 rfl
theorem d_TA_init_59 : decode M_TA_init.2.1 59 = .ok (.aload_n 0, 1) := fx_d (q := (59, .aload_n 0, 1)) D_TA_init 28 rfl
theorem d_TA_init_60 : decode M_TA_init.2.1 60 = .ok (.sipush 658, 3) := fx_d (q := (60, .sipush 658, 3)) D_TA_init 29 rfl
theorem d_TA_init_63 : decode M_TA_init.2.1 63 = .ok (.newarray .int, 2) := fx_d (q := (63, .newarray .int, 2)) D_TA_init 30 rfl
theorem d_TA_init_65 : decode M_TA_init.2.1 65 = .ok (.putfield 35, 3) := fx_d (q := (65, .putfield 35, 3)) D_TA_init 31 rfl
theorem d_TA_init_68 : decode M_TA_init.2.1 68 = .ok (.return_, 1) := fx_d (q := (68, .return_, 1)) D_TA_init 32 rfl
set_option maxRecDepth 100000 in
def L_TA_unpack : List (Nat × Instr × Nat) := [(0, .aload_n 1, 1), (1, .invokevirtual 79, 3), (4, .iload_n 3, 1), (5, .iload_n 2, 1), (6, .isub, 1), (7, .imul, 1), (8, .aload_n 0, 1), (9, .getfield 19, 3), (12, .arraylength, 1), (13, .invokestatic 88, 3), (16, .istore 4, 2), (18, .aload_n 0, 1), (19, .getfield 15, 3), (22, .iconst 0, 1), (23, .invokestatic 55, 3), (26, .invokevirtual 93, 3), (29, .sipush 256, 3), (32, .if_icmp .ne 36, 3), (35, .aload_n 0, 1), (36, .iload 4, 2), (38, .invokevirtual 98, 3), (41, .ifCond .eq 27, 3), (44, .aload_n 0, 1), (45, .getfield 15, 3), (48, .invokevirtual 102, 3), (51, .ifCond .eq 17, 3), (54, .aload_n 0, 1), (55, .aload_n 1, 1), (56, .iload_n 2, 1), (57, .iload_n 3, 1), (58, .invokevirtual 106, 3), (61, .ifCond .eq 7, 3), (64, .iconst 1, 1), (65, .goto 4, 3), (68, .iconst 0, 1), (69, .ireturn, 1)]
set_option maxRecDepth 100000 in
theorem D_TA_unpack : ∀ q ∈ L_TA_unpack, decode prog_11_method_8_code q.1 = .ok q.2 := by decide +kernel
theorem d_TA_unpack_0 : decode M_TA_unpack.2.1 0 = .ok (.aload_n 1, 1) := fx_d (q := (0, .aload_n 1, 1)) D_TA_unpack 0 rfl
theorem d_TA_unpack_1 : decode M_TA_unpack.2.1 1 = .ok (.invokevirtual 79, 3) := fx_d (q := (1, .invokevirtual 79, 3)) D_TA_unpack 1 rfl
theorem d_TA_unpack_4 : decode M_TA_unpack.2.1 4 = .ok (.iload_n 3, 1) := fx_d (q := (4, .iload_n 3, 1)) D_TA_unpack 2 rfl
theorem d_TA_unpack_5 : decode M_TA_unpack.2.1 5 = .ok (.iload_n 2, 1) := fx_d (q := (5, .iload_n 2, 1)) D_TA_unpack 3 rfl
theorem d_TA_unpack_6 : decode M_TA_unpack.2.1 6 = .ok (.isub, 1) := fx_d (q := (6, .isub, 1)) D_TA_unpack 4 rfl
theorem d_TA_unpack_7 : decode M_TA_unpack.2.1 7 = .ok (.imul, 1) := fx_d (q := (7, .imul, 1)) D_TA_unpack 5 rfl
theorem d_TA_unpack_8 : decode M_TA_unpack.2.1 8 = .ok (.aload_n 0, 1) := fx_d (q := (8, .aload_n 0, 1)) D_TA_unpack 6 rfl
theorem d_TA_unpack_9 : decode M_TA_unpack.2.1 9 = .ok (.getfield 19, 3) := fx_d (q := (9, .getfield 19, 3)) D_TA_unpack 7 rfl
theorem d_TA_unpack_12 : decode M_TA_unpack.2.1 12 = .ok (.arraylength, 1) := fx_d (q := (12, .arraylength, 1)) D_TA_unpack 8 rfl
theorem d_TA_unpack_13 : decode M_TA_unpack.2.1 13 = .ok (.invokestatic 88, 3) := fx_d (q := (13, .invokestatic 88, 3)) D_TA_unpack 9 rfl
theorem d_TA_unpack_16 : decode M_TA_unpack.2.1 16 = .ok (.istore 4, 2) := fx_d (q := (16, .istore 4, 2)) D_TA_unpack 10 rfl
theorem d_TA_unpack_18 : decode M_TA_unpack.2.1 18 = .ok (.aload_n 0, 1) := fx_d (q := (18, .aload_n 0, 1)) D_TA_unpack 11 rfl
theorem d_TA_unpack_19 : decode M_TA_unpack.2.1 19 = .ok (.getfield 15, 3) := fx_d (q := (19, .getfield 15, 3)) D_TA_unpack 12 rfl
theorem d_TA_unpack_22 : decode M_TA_unpack.2.1 22 = .ok (.iconst 0, 1) := fx_d (q := (22, .iconst 0, 1)) D_TA_unpack 13 rfl
theorem d_TA_unpack_23 : decode M_TA_unpack.2.1 23 = .ok (.invokestatic 55, 3) := fx_d (q := (23, .invokestatic 55, 3)) D_TA_unpack 14 rfl
theorem d_TA_unpack_26 : decode M_TA_unpack.2.1 26 = .ok (.invokevirtual 93, 3) := fx_d (q := (26, .invokevirtual 93, 3)) D_TA_unpack 15 rfl
theorem d_TA_unpack_29 : decode M_TA_unpack.2.1 29 = .ok (.sipush 256, 3) := fx_d (q := (29, .sipush 256, 3)) D_TA_unpack 16 rfl
theorem d_TA_unpack_32 : decode M_TA_unpack.2.1 32 = .ok (.if_icmp .ne 36, 3) := fx_d (q := (32, .if_icmp .ne 36, 3)) D_TA_unpack 17 rfl
theorem d_TA_unpack_35 : decode M_TA_unpack.2.1 35 = .ok (.aload_n 0, 1) := fx_d (q := (35, .aload_n 0, 1)) D_TA_unpack 18 rfl
theorem d_TA_unpack_36 : decode M_TA_unpack.2.1 36 = .ok (.iload 4, 2) := fx_d (q := (36, .iload 4, 2)) D_TA_unpack 19 rfl
theorem d_TA_unpack_38 : decode M_TA_unpack.2.1 38 = .ok (.invokevirtual 98, 3) := fx_d (q := (38, .invokevirtual 98, 3)) D_TA_unpack 20 rfl
theorem d_TA_unpack_41 : decode M_TA_unpack.2.1 41 = .ok (.ifCond .eq 27, 3) := fx_d (q := (41, .ifCond .eq 27, 3)) D_TA_unpack 21 rfl
theorem d_TA_unpack_44 : decode M_TA_unpack.2.1 44 = .ok (.aload_n 0, 1) := fx_d (q := (44, .aload_n 0, 1)) D_TA_unpack 22 rfl
theorem d_TA_unpack_45 : decode M_TA_unpack.2.1 45 = .ok (.getfield 15, 3) := fx_d (q := (45, .getfield 15, 3)) D_TA_unpack 23 rfl
theorem d_TA_unpack_48 : decode M_TA_unpack.2.1 48 = .ok (.invokevirtual 102, 3) := fx_d (q := (48, .invokevirtual 102, 3)) D_TA_unpack 24 rfl
theorem d_TA_unpack_51 : decode M_TA_unpack.2.1 51 = .ok (.ifCond .eq 17, 3) := fx_d (q := (51, .ifCond .eq 17, 3)) D_TA_unpack 25 rfl
theorem d_TA_unpack_54 : decode M_TA_unpack.2.1 54 = .ok (.aload_n 0, 1) := fx_d (q := (54, .aload_n 0, 1)) D_TA_unpack 26 rfl
theorem d_TA_unpack_55 : decode M_TA_unpack.2.1 55 = .ok (.aload_n 1, 1) := fx_d (q := (55, .aload_n 1, 1)) D_TA_unpack 27 rfl
theorem d_TA_unpack_56 : decode M_TA_unpack.2.1 56 = .ok (.iload_n 2, 1) := fx_d (q := (56, .iload_n 2, 1)) D_TA_unpack 28 rfl
theorem d_TA_unpack_57 : decode M_TA_unpack.2.1 57 = .ok (.iload_n 3, 1) := fx_d (q := (57, .iload_n 3, 1)) D_TA_unpack 29 rfl
theorem d_TA_unpack_58 : decode M_TA_unpack.2.1 58 = .ok (.invokevirtual 106, 3) := fx_d (q := (58, .invokevirtual 106, 3)) D_TA_unpack 30 rfl
theorem d_TA_unpack_61 : decode M_TA_unpack.2.1 61 = .ok (.ifCond .eq 7, 3) := fx_d (q := (61, .ifCond .eq 7, 3)) D_TA_unpack 31 rfl
theorem d_TA_unpack_64 : decode M_TA_unpack.2.1 64 = .ok (.iconst 1, 1) := fx_d (q := (64, .iconst 1, 1)) D_TA_unpack 32 rfl
theorem d_TA_unpack_65 : decode M_TA_unpack.2.1 65 = .ok (.goto 4, 3) := fx_d (q := (65, .goto 4, 3)) D_TA_unpack 33 rfl
theorem d_TA_unpack_68 : decode M_TA_unpack.2.1 68 = .ok (.iconst 0, 1) := fx_d (q := (68, .iconst 0, 1)) D_TA_unpack 34 rfl
theorem d_TA_unpack_69 : decode M_TA_unpack.2.1 69 = .ok (.ireturn, 1) := fx_d (q := (69, .ireturn, 1)) D_TA_unpack 35 rfl
set_option maxRecDepth 100000 in
def L_TA_bitsOfCode : List (Nat × Instr × Nat) := [(0, .iload_n 0, 1), (1, .sipush 255, 3), (4, .if_icmp .ge 6, 3), (7, .bipush 9, 2), (9, .ireturn, 1), (10, .iload_n 0, 1), (11, .sipush 767, 3), (14, .if_icmp .ge 8, 3), (17, .bipush 10, 2), (19, .goto 5, 3), (22, .bipush 11, 2), (24, .ireturn, 1)]
set_option maxRecDepth 100000 in
theorem D_TA_bitsOfCode : ∀ q ∈ L_TA_bitsOfCode, decode prog_11_method_2_code q.1 = .ok q.2 := by decide +kernel
theorem d_TA_bitsOfCode_0 : decode M_TA_bitsOfCode.2.1 0 = .ok (.iload_n 0, 1) := fx_d (q := (0, .iload_n 0, 1)) D_TA_bitsOfCode 0 rfl
theorem d_TA_bitsOfCode_1 : decode M_TA_bitsOfCode.2.1 1 = .ok (.sipush 255, 3) := fx_d (q := (1, .sipush 255, 3)) D_TA_bitsOfCode 1 rfl
theorem d_TA_bitsOfCode_4 : decode M_TA_bitsOfCode.2.1 4 = .ok (.if_icmp .ge 6, 3) := fx_d (q := (4, .if_icmp .ge 6, 3)) D_TA_bitsOfCode 2 rfl
theorem d_TA_bitsOfCode_7 : decode M_TA_bitsOfCode.2.1 7 = .ok (.bipush 9, 2) := fx_d (q := (7, .bipush 9, 2)) D_TA_bitsOfCode 3 rfl
theorem d_TA_bitsOfCode_9 : decode M_TA_bitsOfCode.2.1 9 = .ok (.ireturn, 1) := fx_d (q := (9, .ireturn, 1)) D_TA_bitsOfCode 4 rfl
theorem d_TA_bitsOfCode_10 : decode M_TA_bitsOfCode.2.1 10 = .ok (.iload_n 0, 1) := fx_d (q := (10, .iload_n 0, 1)) D_TA_bitsOfCode 5 rfl
theorem d_TA_bitsOfCode_11 : decode M_TA_bitsOfCode.2.1 11 = .ok (.sipush 767, 3) := fx_d (q := (11, .sipush 767, 3)) D_TA_bitsOfCode 6 rfl
theorem d_TA_bitsOfCode_14 : decode M_TA_bitsOfCode.2.1 14 = .ok (.if_icmp .ge 8, 3) := fx_d (q := (14, .if_icmp .ge 8, 3)) D_TA_bitsOfCode 7 rfl
theorem d_TA_bitsOfCode_17 : decode M_TA_bitsOfCode.2.1 17 = .ok (.bipush 10, 2) := fx_d (q := (17, .bipush 10, 2)) D_TA_bitsOfCode 8 rfl
theorem d_TA_bitsOfCode_19 : decode M_TA_bitsOfCode.2.1 19 = .ok (.goto 5, 3) := fx_d (q := (19, .goto 5, 3)) D_TA_bitsOfCode 9 rfl
theorem d_TA_bitsOfCode_22 : decode M_TA_bitsOfCode.2.1 22 = .ok (.bipush 11, 2) := fx_d (q := (22, .bipush 11, 2)) D_TA_bitsOfCode 10 rfl
theorem d_TA_bitsOfCode_24 : decode M_TA_bitsOfCode.2.1 24 = .ok (.ireturn, 1) := fx_d (q := (24, .ireturn, 1)) D_TA_bitsOfCode 11 rfl
set_option maxRecDepth 100000 in
def L_TA_unpackCodes : List (Nat × Instr × Nat) := [(0, .iconst 0, 1), (1, .istore_n 2, 1), (2, .iconst 1, 1), (3, .istore_n 3, 1), (4, .iconst 0, 1), (5, .istore 4, 2), (7, .iload 4, 2), (9, .sipush 2000, 3), (12, .if_icmp .ge 177, 3), (15, .aload_n 0, 1), (16, .getfield 15, 3), (19, .iload_n 3, 1), (20, .invokestatic 55, 3), (23, .invokevirtual 93, 3), (26, .istore 5, 2), (28, .iload 5, 2), (30, .sipush 257, 3), (33, .if_icmp .ne 14, 3), (36, .iload_n 2, 1), (37, .iload_n 1, 1), (38, .if_icmp .ne 7, 3), (41, .iconst 1, 1), (42, .goto 4, 3), (45, .iconst 0, 1), (46, .ireturn, 1), (47, .iload 5, 2), (49, .sipush 256, 3), (52, .if_icmp .ne 8, 3), (55, .iconst 1, 1), (56, .istore_n 3, 1), (57, .goto 126, 3), (60, .sipush 258, 3), (63, .iload_n 3, 1), (64, .iadd, 1), (65, .iconst 2, 1), (66, .isub, 1), (67, .istore 6, 2), (69, .iload 5, 2), (71, .ifCond .lt 26, 3), (74, .iload 5, 2), (76, .iload 6, 2), (78, .if_icmp .le 11, 3), (81, .iload 5, 2), (83, .sipush 256, 3), (86, .if_icmp .gt 11, 3), (89, .iload 6, 2), (91, .sipush 658, 3), (94, .if_icmp .lt 5, 3), (97, .iconst 0, 1), (98, .ireturn, 1), (99, .iload 5, 2), (101, .sipush 256, 3), (104, .if_icmp .ge 7, 3), (107, .iconst 1, 1), (108, .goto 10, 3), (111, .aload_n 0, 1), (112, .getfield 35, 3), (115, .iload 5, 2), (117, .iaload, 1), (118, .istore 7, 2), (120, .iload_n 2, 1), (121, .iload 7, 2), (123, .iadd, 1), (124, .iload_n 1, 1), (125, .if_icmp .le 5, 3), (128, .iconst 0, 1), (129, .ireturn, 1), (130, .aload_n 0, 1), (131, .iload 5, 2), (133, .iload_n 2, 1), (134, .iload 7, 2), (136, .invokevirtual 110, 3), (139, .iload_n 2, 1), (140, .iload 7, 2), (142, .iadd, 1), (143, .istore_n 2, 1), (144, .iload 6, 2), (146, .iconst 1, 1), (147, .iadd, 1), (148, .sipush 658, 3), (151, .if_icmp .ge 29, 3), (154, .aload_n 0, 1), (155, .getfield 32, 3), (158, .iload 6, 2), (160, .iconst 1, 1), (161, .iadd, 1), (162, .iload_n 2, 1), (163, .iload 7, 2), (165, .isub, 1), (166, .iastore, 1), (167, .aload_n 0, 1), (168, .getfield 35, 3), (171, .iload 6, 2), (173, .iconst 1, 1), (174, .iadd, 1), (175, .iload 7, 2), (177, .iconst 1, 1), (178, .iadd, 1), (179, .iastore, 1), (180, .iinc 3 1, 3), (183, .iinc 4 1, 3), (186, .goto (-179), 3), (189, .iconst 0, 1), (190, .ireturn, 1)]
set_option maxRecDepth 100000 in
theorem D_TA_unpackCodes : ∀ q ∈ L_TA_unpackCodes, decode prog_11_method_9_code q.1 = .ok q.2 := by decide +kernel
theorem d_TA_unpackCodes_0 : decode M_TA_unpackCodes.2.1 0 = .ok (.iconst 0, 1) := fx_d (q := (0, .iconst 0, 1)) D_TA_unpackCodes 0 rfl
theorem d_TA_unpackCodes_1 : decode M_TA_unpackCodes.2.1 1 = .ok (.istore_n 2, 1) := fx_d (q := (1, .istore_n 2, 1)) D_TA_unpackCodes 1 rfl
theorem d_TA_unpackCodes_2 : decode M_TA_unpackCodes.2.1 2 = .ok (.iconst 1, 1) := fx_d (q := (2, .iconst 1, 1)) D_TA_unpackCodes 2 rfl
theorem d_TA_unpackCodes_3 : decode M_TA_unpackCodes.2.1 3 = .ok (.istore_n 3, 1) := fx_d (q := (3, .istore_n 3, 1)) D_TA_unpackCodes 3 rfl
theorem d_TA_unpackCodes_4 : decode M_TA_unpackCodes.2.1 4 = .ok (.iconst 0, 1) := fx_d (q := (4, .iconst 0, 1)) D_TA_unpackCodes 4 rfl
theorem d_TA_unpackCodes_5 : decode M_TA_unpackCodes.2.1 5 = .ok (.istore 4, 2) := fx_d (q := (5, .istore 4, 2)) D_TA_unpackCodes 5 rfl
theorem d_TA_unpackCodes_7 : decode M_TA_unpackCodes.2.1 7 = .ok (.iload 4, 2) := fx_d (q := (7, .iload 4, 2)) D_TA_unpackCodes 6 rfl
theorem d_TA_unpackCodes_9 : decode M_TA_unpackCodes.2.1 9 = .ok (.sipush 2000, 3) := fx_d (q := (9, .sipush 2000, 3)) D_TA_unpackCodes 7 rfl
theorem d_TA_unpackCodes_12 : decode M_TA_unpackCodes.2.1 12 = .ok (.if_icmp .ge 177, 3) := fx_d (q := (12, .if_icmp .ge 177, 3)) D_TA_unpackCodes 8 rfl
theorem d_TA_unpackCodes_15 : decode M_TA_unpackCodes.2.1 15 = .ok (.aload_n 0, 1) := fx_d (q := (15, .aload_n 0, 1)) D_TA_unpackCodes 9 rfl
theorem d_TA_unpackCodes_16 : decode M_TA_unpackCodes.2.1 16 = .ok (.getfield 15, 3) := fx_d (q := (16, .getfield 15, 3)) D_TA_unpackCodes 10 rfl
theorem d_TA_unpackCodes_19 : decode M_TA_unpackCodes.2.1 19 = .ok (.iload_n 3, 1) := fx_d (q := (19, .iload_n 3, 1)) D_TA_unpackCodes 11 rfl
theorem d_TA_unpackCodes_20 : decode M_TA_unpackCodes.2.1 20 = .ok (.invokestatic 55, 3) := fx_d (q := (20, .invokestatic 55, 3)) D_TA_unpackCodes 12 rfl
theorem d_TA_unpackCodes_23 : decode M_TA_unpackCodes.2.1 23 = .ok (.invokevirtual 93, 3) := fx_d (q := (23, .invokevirtual 93, 3)) D_TA_unpackCodes 13 rfl
theorem d_TA_unpackCodes_26 : decode M_TA_unpackCodes.2.1 26 = .ok (.istore 5, 2) := fx_d (q := (26, .istore 5, 2)) D_TA_unpackCodes 14 rfl
theorem d_TA_unpackCodes_28 : decode M_TA_unpackCodes.2.1 28 = .ok (.iload 5, 2) := fx_d (q := (28, .iload 5, 2)) D_TA_unpackCodes 15 rfl
theorem d_TA_unpackCodes_30 : decode M_TA_unpackCodes.2.1 30 = .ok (.sipush 257, 3) := fx_d (q := (30, .sipush 257, 3)) D_TA_unpackCodes 16 rfl
theorem d_TA_unpackCodes_33 : decode M_TA_unpackCodes.2.1 33 = .ok (.if_icmp .ne 14, 3) := fx_d (q := (33, .if_icmp .ne 14, 3)) D_TA_unpackCodes 17 rfl
theorem d_TA_unpackCodes_36 : decode M_TA_unpackCodes.2.1 36 = .ok (.iload_n 2, 1) := fx_d (q := (36, .iload_n 2, 1)) D_TA_unpackCodes 18 rfl
theorem d_TA_unpackCodes_37 : decode M_TA_unpackCodes.2.1 37 = .ok (.iload_n 1, 1) := fx_d (q := (37, .iload_n 1, 1)) D_TA_unpackCodes 19 rfl
theorem d_TA_unpackCodes_38 : decode M_TA_unpackCodes.2.1 38 = .ok (.if_icmp .ne 7, 3) := fx_d (q := (38, .if_icmp .ne 7, 3)) D_TA_unpackCodes 20 rfl
theorem d_TA_unpackCodes_41 : decode M_TA_unpackCodes.2.1 41 = .ok (.iconst 1, 1) := fx_d (q := (41, .iconst 1, 1)) D_TA_unpackCodes 21 rfl
theorem d_TA_unpackCodes_42 : decode M_TA_unpackCodes.2.1 42 = .ok (.goto 4, 3) := fx_d (q := (42, .goto 4, 3)) D_TA_unpackCodes 22 rfl
theorem d_TA_unpackCodes_45 : decode M_TA_unpackCodes.2.1 45 = .ok (.iconst 0, 1) := fx_d (q := (45, .iconst 0, 1)) D_TA_unpackCodes 23 rfl
theorem d_TA_unpackCodes_46 : decode M_TA_unpackCodes.2.1 46 = .ok (.ireturn, 1) := fx_d (q := (46, .ireturn, 1)) D_TA_unpackCodes 24 rfl
theorem d_TA_unpackCodes_47 : decode M_TA_unpackCodes.2.1 47 = .ok (.iload 5, 2) := fx_d (q := (47, .iload 5, 2)) D_TA_unpackCodes 25 rfl
theorem d_TA_unpackCodes_49 : decode M_TA_unpackCodes.2.1 49 = .ok (.sipush 256, 3) := fx_d (q := (49, .sipush 256, 3)) D_TA_unpackCodes 26 rfl
theorem d_TA_unpackCodes_52 : decode M_TA_unpackCodes.2.1 52 = .ok (.if_icmp .ne 8, 3) := fx_d (q := (52, .if_icmp .ne 8, 3)) D_TA_unpackCodes 27 rfl
theorem d_TA_unpackCodes_55 : decode M_TA_unpackCodes.2.1 55 = .ok (.iconst 1, 1) := fx_d (q := (55, .iconst 1, 1)) D_TA_unpackCodes 28 rfl
theorem d_TA_unpackCodes_56 : decode M_TA_unpackCodes.2.1 56 = .ok (.istore_n 3, 1) := fx_d (q := (56, .istore_n 3, 1)) D_TA_unpackCodes 29 rfl
theorem d_TA_unpackCodes_57 : decode M_TA_unpackCodes.2.1 57 = .ok (.goto 126, 3) := fx_d (q := (57, .goto 126, 3)) D_TA_unpackCodes 30 rfl
theorem d_TA_unpackCodes_60 : decode M_TA_unpackCodes.2.1 60 = .ok (.sipush 258, 3) := fx_d (q := (60, .sipush 258, 3)) D_TA_unpackCodes 31 rfl
theorem d_TA_unpackCodes_63 : decode M_TA_unpackCodes.2.1 63 = .ok (.iload_n 3, 1) := fx_d (q := (63, .iload_n 3, 1)) D_TA_unpackCodes 32 rfl
theorem d_TA_unpackCodes_64 : decode M_TA_unpackCodes.2.1 64 = .ok (.iadd, 1) := fx_d (q := (64, .iadd, 1)) D_TA_unpackCodes 33 rfl
theorem d_TA_unpackCodes_65 : decode M_TA_unpackCodes.2.1 65 = .ok (.iconst 2, 1) := fx_d (q := (65, .iconst 2, 1)) D_TA_unpackCodes 34 rfl
theorem d_TA_unpackCodes_66 : decode M_TA_unpackCodes.2.1 66 = .ok (.isub, 1) := fx_d (q := (66, .isub, 1)) D_TA_unpackCodes 35 rfl
theorem d_TA_unpackCodes_67 : decode M_TA_unpackCodes.2.1 67 = .ok (.istore 6, 2) := fx_d (q := (67, .istore 6, 2)) D_TA_unpackCodes 36 rfl
theorem d_TA_unpackCodes_69 : decode M_TA_unpackCodes.2.1 69 = .ok (.iload 5, 2) := fx_d (q := (69, .iload 5, 2)) D_TA_unpackCodes 37 rfl
theorem d_TA_unpackCodes_71 : decode M_TA_unpackCodes.2.1 71 = .ok (.ifCond .lt 26, 3) := fx_d (q := (71, .ifCond .lt 26, 3)) D_TA_unpackCodes 38 rfl
theorem d_TA_unpackCodes_74 : decode M_TA_unpackCodes.2.1 74 = .ok (.iload 5, 2) := fx_d (q := (74, .iload 5, 2)) D_TA_unpackCodes 39 rfl
theorem d_TA_unpackCodes_76 : decode M_TA_unpackCodes.2.1 76 = .ok (.iload 6, 2) := fx_d (q := (76, .iload 6, 2)) D_TA_unpackCodes 40 rfl
theorem d_TA_unpackCodes_78 : decode M_TA_unpackCodes.2.1 78 = .ok (.if_icmp .le 11, 3) := fx_d (q := (78, .if_icmp .le 11, 3)) D_TA_unpackCodes 41 rfl
theorem d_TA_unpackCodes_81 : decode M_TA_unpackCodes.2.1 81 = .ok (.iload 5, 2) := fx_d (q := (81, .iload 5, 2)) D_TA_unpackCodes 42 rfl
theorem d_TA_unpackCodes_83 : decode M_TA_unpackCodes.2.1 83 = .ok (.sipush 256, 3) := fx_d (q := (83, .sipush 256, 3)) D_TA_unpackCodes 43 rfl
theorem d_TA_unpackCodes_86 : decode M_TA_unpackCodes.2.1 86 = .ok (.if_icmp .gt 11, 3) := fx_d (q := (86, .if_icmp .gt 11, 3)) D_TA_unpackCodes 44 rfl
theorem d_TA_unpackCodes_89 : decode M_TA_unpackCodes.2.1 89 = .ok (.iload 6, 2) := fx_d (q := (89, .iload 6, 2)) D_TA_unpackCodes 45 rfl
theorem d_TA_unpackCodes_91 : decode M_TA_unpackCodes.2.1 91 = .ok (.sipush 658, 3) := fx_d (q := (91, .sipush 658, 3)) D_TA_unpackCodes 46 rfl
theorem d_TA_unpackCodes_94 : decode M_TA_unpackCodes.2.1 94 = .ok (.if_icmp .lt 5, 3) := fx_d (q := (94, .if_icmp .lt 5, 3)) D_TA_unpackCodes 47 rfl
theorem d_TA_unpackCodes_97 : decode M_TA_unpackCodes.2.1 97 = .ok (.iconst 0, 1) := fx_d (q := (97, .iconst 0, 1)) D_TA_unpackCodes 48 rfl
theorem d_TA_unpackCodes_98 : decode M_TA_unpackCodes.2.1 98 = .ok (.ireturn, 1) := fx_d (q := (98, .ireturn, 1)) D_TA_unpackCodes 49 rfl
theorem d_TA_unpackCodes_99 : decode M_TA_unpackCodes.2.1 99 = .ok (.iload 5, 2) := fx_d (q := (99, .iload 5, 2)) D_TA_unpackCodes 50 rfl
theorem d_TA_unpackCodes_101 : decode M_TA_unpackCodes.2.1 101 = .ok (.sipush 256, 3) := fx_d (q := (101, .sipush 256, 3)) D_TA_unpackCodes 51 rfl
theorem d_TA_unpackCodes_104 : decode M_TA_unpackCodes.2.1 104 = .ok (.if_icmp .ge 7, 3) := fx_d (q := (104, .if_icmp .ge 7, 3)) D_TA_unpackCodes 52 rfl
theorem d_TA_unpackCodes_107 : decode M_TA_unpackCodes.2.1 107 = .ok (.iconst 1, 1) := fx_d (q := (107, .iconst 1, 1)) D_TA_unpackCodes 53 rfl
theorem d_TA_unpackCodes_108 : decode M_TA_unpackCodes.2.1 108 = .ok (.goto 10, 3) := fx_d (q := (108, .goto 10, 3)) D_TA_unpackCodes 54 rfl
theorem d_TA_unpackCodes_111 : decode M_TA_unpackCodes.2.1 111 = .ok (.aload_n 0, 1) := fx_d (q := (111, .aload_n 0, 1)) D_TA_unpackCodes 55 rfl
theorem d_TA_unpackCodes_112 : decode M_TA_unpackCodes.2.1 112 = .ok (.getfield 35, 3) := fx_d (q := (112, .getfield 35, 3)) D_TA_unpackCodes 56 rfl
theorem d_TA_unpackCodes_115 : decode M_TA_unpackCodes.2.1 115 = .ok (.iload 5, 2) := fx_d (q := (115, .iload 5, 2)) D_TA_unpackCodes 57 rfl
theorem d_TA_unpackCodes_117 : decode M_TA_unpackCodes.2.1 117 = .ok (.iaload, 1) := fx_d (q := (117, .iaload, 1)) D_TA_unpackCodes 58 rfl
theorem d_TA_unpackCodes_118 : decode M_TA_unpackCodes.2.1 118 = .ok (.istore 7, 2) := fx_d (q := (118, .istore 7, 2)) D_TA_unpackCodes 59 rfl
theorem d_TA_unpackCodes_120 : decode M_TA_unpackCodes.2.1 120 = .ok (.iload_n 2, 1) := fx_d (q := (120, .iload_n 2, 1)) D_TA_unpackCodes 60 rfl
theorem d_TA_unpackCodes_121 : decode M_TA_unpackCodes.2.1 121 = .ok (.iload 7, 2) := fx_d (q := (121, .iload 7, 2)) D_TA_unpackCodes 61 rfl
theorem d_TA_unpackCodes_123 : decode M_TA_unpackCodes.2.1 123 = .ok (.iadd, 1) := fx_d (q := (123, .iadd, 1)) D_TA_unpackCodes 62 rfl
theorem d_TA_unpackCodes_124 : decode M_TA_unpackCodes.2.1 124 = .ok (.iload_n 1, 1) := fx_d (q := (124, .iload_n 1, 1)) D_TA_unpackCodes 63 rfl
theorem d_TA_unpackCodes_125 : decode M_TA_unpackCodes.2.1 125 = .ok (.if_icmp .le 5, 3) := fx_d (q := (125, .if_icmp .le 5, 3)) D_TA_unpackCodes 64 rfl
theorem d_TA_unpackCodes_128 : decode M_TA_unpackCodes.2.1 128 = .ok (.iconst 0, 1) := fx_d (q := (128, .iconst 0, 1)) D_TA_unpackCodes 65 rfl
theorem d_TA_unpackCodes_129 : decode M_TA_unpackCodes.2.1 129 = .ok (.ireturn, 1) := fx_d (q := (129, .ireturn, 1)) D_TA_unpackCodes 66 rfl
theorem d_TA_unpackCodes_130 : decode M_TA_unpackCodes.2.1 130 = .ok (.aload_n 0, 1) := fx_d (q := (130, .aload_n 0, 1)) D_TA_unpackCodes 67 rfl
theorem d_TA_unpackCodes_131 : decode M_TA_unpackCodes.2.1 131 = .ok (.iload 5, 2) := fx_d (q := (131, .iload 5, 2)) D_TA_unpackCodes 68 rfl
theorem d_TA_unpackCodes_133 : decode M_TA_unpackCodes.2.1 133 = .ok (.iload_n 2, 1) := fx_d (q := (133, .iload_n 2, 1)) D_TA_unpackCodes 69 rfl
theorem d_TA_unpackCodes_134 : decode M_TA_unpackCodes.2.1 134 = .ok (.iload 7, 2) := fx_d (q := (134, .iload 7, 2)) D_TA_unpackCodes 70 rfl
theorem d_TA_unpackCodes_136 : decode M_TA_unpackCodes.2.1 136 = .ok (.invokevirtual 110, 3) := fx_d (q := (136, .invokevirtual 110, 3)) D_TA_unpackCodes 71 rfl
theorem d_TA_unpackCodes_139 : decode M_TA_unpackCodes.2.1 139 = .ok (.iload_n 2, 1) := fx_d (q := (139, .iload_n 2, 1)) D_TA_unpackCodes 72 rfl
theorem d_TA_unpackCodes_140 : decode M_TA_unpackCodes.2.1 140 = .ok (.iload 7, 2) := fx_d (q := (140, .iload 7, 2)) D_TA_unpackCodes 73 rfl
theorem d_TA_unpackCodes_142 : decode M_TA_unpackCodes.2.1 142 = .ok (.iadd, 1) := fx_d (q := (142, .iadd, 1)) D_TA_unpackCodes 74 rfl
theorem d_TA_unpackCodes_143 : decode M_TA_unpackCodes.2.1 143 = .ok (.istore_n 2, 1) := fx_d (q := (143, .istore_n 2, 1)) D_TA_unpackCodes 75 rfl
theorem d_TA_unpackCodes_144 : decode M_TA_unpackCodes.2.1 144 = .ok (.iload 6, 2) := fx_d (q := (144, .iload 6, 2)) D_TA_unpackCodes 76 rfl
theorem d_TA_unpackCodes_146 : decode M_TA_unpackCodes.2.1 146 = .ok (.iconst 1, 1) := fx_d (q := (146, .iconst 1, 1)) D_TA_unpackCodes 77 rfl
theorem d_TA_unpackCodes_147 : decode M_TA_unpackCodes.2.1 147 = .ok (.iadd, 1) := fx_d (q := (147, .iadd, 1)) D_TA_unpackCodes 78 rfl
theorem d_TA_unpackCodes_148 : decode M_TA_unpackCodes.2.1 148 = .ok (.sipush 658, 3) := fx_d (q := (148, .sipush 658, 3)) D_TA_unpackCodes 79 rfl
theorem d_TA_unpackCodes_151 : decode M_TA_unpackCodes.2.1 151 = .ok (.if_icmp .ge 29, 3) := fx_d (q := (151, .if_icmp .ge 29, 3)) D_TA_unpackCodes 80 rfl
theorem d_TA_unpackCodes_154 : decode M_TA_unpackCodes.2.1 154 = .ok (.aload_n 0, 1) := fx_d (q := (154, .aload_n 0, 1)) D_TA_unpackCodes 81 rfl
theorem d_TA_unpackCodes_155 : decode M_TA_unpackCodes.2.1 155 = .ok (.getfield 32, 3) := fx_d (q := (155, .getfield 32, 3)) D_TA_unpackCodes 82 rfl
theorem d_TA_unpackCodes_158 : decode M_TA_unpackCodes.2.1 158 = .ok (.iload 6, 2) := fx_d (q := (158, .iload 6, 2)) D_TA_unpackCodes 83 rfl
theorem d_TA_unpackCodes_160 : decode M_TA_unpackCodes.2.1 160 = .ok (.iconst 1, 1) := fx_d (q := (160, .iconst 1, 1)) D_TA_unpackCodes 84 rfl
theorem d_TA_unpackCodes_161 : decode M_TA_unpackCodes.2.1 161 = .ok (.iadd, 1) := fx_d (q := (161, .iadd, 1)) D_TA_unpackCodes 85 rfl
theorem d_TA_unpackCodes_162 : decode M_TA_unpackCodes.2.1 162 = .ok (.iload_n 2, 1) := fx_d (q := (162, .iload_n 2, 1)) D_TA_unpackCodes 86 rfl
theorem d_TA_unpackCodes_163 : decode M_TA_unpackCodes.2.1 163 = .ok (.iload 7, 2) := fx_d (q := (163, .iload 7, 2)) D_TA_unpackCodes 87 rfl
theorem d_TA_unpackCodes_165 : decode M_TA_unpackCodes.2.1 165 = .ok (.isub, 1) := fx_d (q := (165, .isub, 1)) D_TA_unpackCodes 88 rfl
theorem d_TA_unpackCodes_166 : decode M_TA_unpackCodes.2.1 166 = .ok (.iastore, 1) := fx_d (q := (166, .iastore, 1)) D_TA_unpackCodes 89 rfl
theorem d_TA_unpackCodes_167 : decode M_TA_unpackCodes.2.1 167 = .ok (.aload_n 0, 1) := fx_d (q := (167, .aload_n 0, 1)) D_TA_unpackCodes 90 rfl
theorem d_TA_unpackCodes_168 : decode M_TA_unpackCodes.2.1 168 = .ok (.getfield 35, 3) := fx_d (q := (168, .getfield 35, 3)) D_TA_unpackCodes 91 rfl
theorem d_TA_unpackCodes_171 : decode M_TA_unpackCodes.2.1 171 = .ok (.iload 6, 2) := fx_d (q := (171, .iload 6, 2)) D_TA_unpackCodes 92 rfl
theorem d_TA_unpackCodes_173 : decode M_TA_unpackCodes.2.1 173 = .ok (.iconst 1, 1) := fx_d (q := (173, .iconst 1, 1)) D_TA_unpackCodes 93 rfl
theorem d_TA_unpackCodes_174 : decode M_TA_unpackCodes.2.1 174 = .ok (.iadd, 1) := fx_d (q := (174, .iadd, 1)) D_TA_unpackCodes 94 rfl
theorem d_TA_unpackCodes_175 : decode M_TA_unpackCodes.2.1 175 = .ok (.iload 7, 2) := fx_d (q := (175, .iload 7, 2)) D_TA_unpackCodes 95 rfl
theorem d_TA_unpackCodes_177 : decode M_TA_unpackCodes.2.1 177 = .ok (.iconst 1, 1) := fx_d (q := (177, .iconst 1, 1)) D_TA_unpackCodes 96 rfl
theorem d_TA_unpackCodes_178 : decode M_TA_unpackCodes.2.1 178 = .ok (.iadd, 1) := fx_d (q := (178, .iadd, 1)) D_TA_unpackCodes 97 rfl
theorem d_TA_unpackCodes_179 : decode M_TA_unpackCodes.2.1 179 = .ok (.iastore, 1) := fx_d (q := (179, .iastore, 1)) D_TA_unpackCodes 98 rfl
theorem d_TA_unpackCodes_180 : decode M_TA_unpackCodes.2.1 180 = .ok (.iinc 3 1, 3) := fx_d (q := (180, .iinc 3 1, 3)) D_TA_unpackCodes 99 rfl
theorem d_TA_unpackCodes_183 : decode M_TA_unpackCodes.2.1 183 = .ok (.iinc 4 1, 3) := fx_d (q := (183, .iinc 4 1, 3)) D_TA_unpackCodes 100 rfl
theorem d_TA_unpackCodes_186 : decode M_TA_unpackCodes.2.1 186 = .ok (.goto (-179), 3) := fx_d (q := (186, .goto (-179), 3)) D_TA_unpackCodes 101 rfl
theorem d_TA_unpackCodes_189 : decode M_TA_unpackCodes.2.1 189 = .ok (.iconst 0, 1) := fx_d (q := (189, .iconst 0, 1)) D_TA_unpackCodes 102 rfl
theorem d_TA_unpackCodes_190 : decode M_TA_unpackCodes.2.1 190 = .ok (.ireturn, 1) := fx_d (q := (190, .ireturn, 1)) D_TA_unpackCodes 103 rfl
set_option maxRecDepth 100000 in
def L_TA_copyEntry : List (Nat × Instr × Nat) := [(0, .iconst 0, 1), (1, .istore 4, 2), (3, .iload 4, 2), (5, .iload_n 3, 1), (6, .if_icmp .ge 43, 3), (9, .aload_n 0, 1), (10, .getfield 19, 3), (13, .iload_n 2, 1), (14, .iload 4, 2), (16, .iadd, 1), (17, .iload_n 1, 1), (18, .sipush 256, 3), (21, .if_icmp .ge 7, 3), (24, .iload_n 1, 1), (25, .goto 17, 3), (28, .aload_n 0, 1), (29, .getfield 19, 3), (32, .aload_n 0, 1), (33, .getfield 32, 3), (36, .iload_n 1, 1), (37, .iaload, 1), (38, .iload 4, 2), (40, .iadd, 1), (41, .iaload, 1), (42, .iastore, 1), (43, .iinc 4 1, 3), (46, .goto (-43), 3), (49, .return_, 1)]
set_option maxRecDepth 100000 in
theorem D_TA_copyEntry : ∀ q ∈ L_TA_copyEntry, decode prog_11_method_10_code q.1 = .ok q.2 := by decide +kernel
theorem d_TA_copyEntry_0 : decode M_TA_copyEntry.2.1 0 = .ok (.iconst 0, 1) := fx_d (q := (0, .iconst 0, 1)) D_TA_copyEntry 0 rfl
theorem d_TA_copyEntry_1 : decode M_TA_copyEntry.2.1 1 = .ok (.istore 4, 2) := fx_d (q := (1, .istore 4, 2)) D_TA_copyEntry 1 rfl
theorem d_TA_copyEntry_3 : decode M_TA_copyEntry.2.1 3 = .ok (.iload 4, 2) := fx_d (q := (3, .iload 4, 2)) D_TA_copyEntry 2 rfl
theorem d_TA_copyEntry_5 : decode M_TA_copyEntry.2.1 5 = .ok (.iload_n 3, 1) := fx_d (q := (5, .iload_n 3, 1)) D_TA_copyEntry 3 rfl
theorem d_TA_copyEntry_6 : decode M_TA_copyEntry.2.1 6 = .ok (.if_icmp .ge 43, 3) := fx_d (q := (6, .if_icmp .ge 43, 3)) D_TA_copyEntry 4 rfl
theorem d_TA_copyEntry_9 : decode M_TA_copyEntry.2.1 9 = .ok (.aload_n 0, 1) := fx_d (q := (9, .aload_n 0, 1)) D_TA_copyEntry 5 rfl
theorem d_TA_copyEntry_10 : decode M_TA_copyEntry.2.1 10 = .ok (.getfield 19, 3) := fx_d (q := (10, .getfield 19, 3)) D_TA_copyEntry 6 rfl
theorem d_TA_copyEntry_13 : decode M_TA_copyEntry.2.1 13 = .ok (.iload_n 2, 1) := fx_d (q := (13, .iload_n 2, 1)) D_TA_copyEntry 7 rfl
theorem d_TA_copyEntry_14 : decode M_TA_copyEntry.2.1 14 = .ok (.iload 4, 2) := fx_d (q := (14, .iload 4, 2)) D_TA_copyEntry 8 rfl
theorem d_TA_copyEntry_16 : decode M_TA_copyEntry.2.1 16 = .ok (.iadd, 1) := fx_d (q := (16, .iadd, 1)) D_TA_copyEntry 9 rfl
theorem d_TA_copyEntry_17 : decode M_TA_copyEntry.2.1 17 = .ok (.iload_n 1, 1) := fx_d (q := (17, .iload_n 1, 1)) D_TA_copyEntry 10 rfl
theorem d_TA_copyEntry_18 : decode M_TA_copyEntry.2.1 18 = .ok (.sipush 256, 3) := fx_d (q := (18, .sipush 256, 3)) D_TA_copyEntry 11 rfl
theorem d_TA_copyEntry_21 : decode M_TA_copyEntry.2.1 21 = .ok (.if_icmp .ge 7, 3) := fx_d (q := (21, .if_icmp .ge 7, 3)) D_TA_copyEntry 12 rfl
theorem d_TA_copyEntry_24 : decode M_TA_copyEntry.2.1 24 = .ok (.iload_n 1, 1) := fx_d (q := (24, .iload_n 1, 1)) D_TA_copyEntry 13 rfl
theorem d_TA_copyEntry_25 : decode M_TA_copyEntry.2.1 25 = .ok (.goto 17, 3) := fx_d (q := (25, .goto 17, 3)) D_TA_copyEntry 14 rfl
theorem d_TA_copyEntry_28 : decode M_TA_copyEntry.2.1 28 = .ok (.aload_n 0, 1) := fx_d (q := (28, .aload_n 0, 1)) D_TA_copyEntry 15 rfl
theorem d_TA_copyEntry_29 : decode M_TA_copyEntry.2.1 29 = .ok (.getfield 19, 3) := fx_d (q := (29, .getfield 19, 3)) D_TA_copyEntry 16 rfl
theorem d_TA_copyEntry_32 : decode M_TA_copyEntry.2.1 32 = .ok (.aload_n 0, 1) := fx_d (q := (32, .aload_n 0, 1)) D_TA_copyEntry 17 rfl
theorem d_TA_copyEntry_33 : decode M_TA_copyEntry.2.1 33 = .ok (.getfield 32, 3) := fx_d (q := (33, .getfield 32, 3)) D_TA_copyEntry 18 rfl
theorem d_TA_copyEntry_36 : decode M_TA_copyEntry.2.1 36 = .ok (.iload_n 1, 1) := fx_d (q := (36, .iload_n 1, 1)) D_TA_copyEntry 19 rfl
theorem d_TA_copyEntry_37 : decode M_TA_copyEntry.2.1 37 = .ok (.iaload, 1) := fx_d (q := (37, .iaload, 1)) D_TA_copyEntry 20 rfl
theorem d_TA_copyEntry_38 : decode M_TA_copyEntry.2.1 38 = .ok (.iload 4, 2) := fx_d (q := (38, .iload 4, 2)) D_TA_copyEntry 21 rfl
theorem d_TA_copyEntry_40 : decode M_TA_copyEntry.2.1 40 = .ok (.iadd, 1) := fx_d (q := (40, .iadd, 1)) D_TA_copyEntry 22 rfl
theorem d_TA_copyEntry_41 : decode M_TA_copyEntry.2.1 41 = .ok (.iaload, 1) := fx_d (q := (41, .iaload, 1)) D_TA_copyEntry 23 rfl
theorem d_TA_copyEntry_42 : decode M_TA_copyEntry.2.1 42 = .ok (.iastore, 1) := fx_d (q := (42, .iastore, 1)) D_TA_copyEntry 24 rfl
theorem d_TA_copyEntry_43 : decode M_TA_copyEntry.2.1 43 = .ok (.iinc 4 1, 3) := fx_d (q := (43, .iinc 4 1, 3)) D_TA_copyEntry 25 rfl
theorem d_TA_copyEntry_46 : decode M_TA_copyEntry.2.1 46 = .ok (.goto (-43), 3) := fx_d (q := (46, .goto (-43), 3)) D_TA_copyEntry 26 rfl
theorem d_TA_copyEntry_49 : decode M_TA_copyEntry.2.1 49 = .ok (.return_, 1) := fx_d (q := (49, .return_, 1)) D_TA_copyEntry 27 rfl
set_option maxRecDepth 100000 in
def L_TA_paintRows : List (Nat × Instr × Nat) := [(0, .iconst 0, 1), (1, .istore 4, 2), (3, .iload_n 2, 1), (4, .istore 5, 2), (6, .iload 5, 2), (8, .iload_n 3, 1), (9, .if_icmp .ge 60, 3), (12, .iconst 0, 1), (13, .istore 6, 2), (15, .iload 6, 2), (17, .aload_n 1, 1), (18, .invokevirtual 79, 3), (21, .if_icmp .ge 42, 3), (24, .iload 4, 2), (26, .aload_n 0, 1), (27, .getfield 19, 3), (30, .arraylength, 1), (31, .if_icmp .ge 32, 3), (34, .aload_n 1, 1), (35, .iload 5, 2), (37, .iload 6, 2), (39, .aload_n 0, 1), (40, .getfield 19, 3), (43, .iload 4, 2), (45, .iaload, 1), (46, .invokevirtual 114, 3), (49, .ifCond .ne 5, 3), (52, .iconst 0, 1), (53, .ireturn, 1), (54, .iinc 4 1, 3), (57, .iinc 6 1, 3), (60, .goto (-45), 3), (63, .iinc 5 1, 3), (66, .goto (-60), 3), (69, .iconst 1, 1), (70, .ireturn, 1)]
set_option maxRecDepth 100000 in
theorem D_TA_paintRows : ∀ q ∈ L_TA_paintRows, decode prog_11_method_11_code q.1 = .ok q.2 := by decide +kernel
theorem d_TA_paintRows_0 : decode M_TA_paintRows.2.1 0 = .ok (.iconst 0, 1) := fx_d (q := (0, .iconst 0, 1)) D_TA_paintRows 0 rfl
theorem d_TA_paintRows_1 : decode M_TA_paintRows.2.1 1 = .ok (.istore 4, 2) := fx_d (q := (1, .istore 4, 2)) D_TA_paintRows 1 rfl
theorem d_TA_paintRows_3 : decode M_TA_paintRows.2.1 3 = .ok (.iload_n 2, 1) := fx_d (q := (3, .iload_n 2, 1)) D_TA_paintRows 2 rfl
theorem d_TA_paintRows_4 : decode M_TA_paintRows.2.1 4 = .ok (.istore 5, 2) := fx_d (q := (4, .istore 5, 2)) D_TA_paintRows 3 rfl
theorem d_TA_paintRows_6 : decode M_TA_paintRows.2.1 6 = .ok (.iload 5, 2) := fx_d (q := (6, .iload 5, 2)) D_TA_paintRows 4 rfl
theorem d_TA_paintRows_8 : decode M_TA_paintRows.2.1 8 = .ok (.iload_n 3, 1) := fx_d (q := (8, .iload_n 3, 1)) D_TA_paintRows 5 rfl
theorem d_TA_paintRows_9 : decode M_TA_paintRows.2.1 9 = .ok (.if_icmp .ge 60, 3) := fx_d (q := (9, .if_icmp .ge 60, 3)) D_TA_paintRows 6 rfl
theorem d_TA_paintRows_12 : decode M_TA_paintRows.2.1 12 = .ok (.iconst 0, 1) := fx_d (q := (12, .iconst 0, 1)) D_TA_paintRows 7 rfl
theorem d_TA_paintRows_13 : decode M_TA_paintRows.2.1 13 = .ok (.istore 6, 2) := fx_d (q := (13, .istore 6, 2)) D_TA_paintRows 8 rfl
theorem d_TA_paintRows_15 : decode M_TA_paintRows.2.1 15 = .ok (.iload 6, 2) := fx_d (q := (15, .iload 6, 2)) D_TA_paintRows 9 rfl
theorem d_TA_paintRows_17 : decode M_TA_paintRows.2.1 17 = .ok (.aload_n 1, 1) := fx_d (q := (17, .aload_n 1, 1)) D_TA_paintRows 10 rfl
theorem d_TA_paintRows_18 : decode M_TA_paintRows.2.1 18 = .ok (.invokevirtual 79, 3) := fx_d (q := (18, .invokevirtual 79, 3)) D_TA_paintRows 11 rfl
theorem d_TA_paintRows_21 : decode M_TA_paintRows.2.1 21 = .ok (.if_icmp .ge 42, 3) := fx_d (q := (21, .if_icmp .ge 42, 3)) D_TA_paintRows 12 rfl
theorem d_TA_paintRows_24 : decode M_TA_paintRows.2.1 24 = .ok (.iload 4, 2) := fx_d (q := (24, .iload 4, 2)) D_TA_paintRows 13 rfl
theorem d_TA_paintRows_26 : decode M_TA_paintRows.2.1 26 = .ok (.aload_n 0, 1) := fx_d (q := (26, .aload_n 0, 1)) D_TA_paintRows 14 rfl
theorem d_TA_paintRows_27 : decode M_TA_paintRows.2.1 27 = .ok (.getfield 19, 3) := fx_d (q := (27, .getfield 19, 3)) D_TA_paintRows 15 rfl
theorem d_TA_paintRows_30 : decode M_TA_paintRows.2.1 30 = .ok (.arraylength, 1) := fx_d (q := (30, .arraylength, 1)) D_TA_paintRows 16 rfl
theorem d_TA_paintRows_31 : decode M_TA_paintRows.2.1 31 = .ok (.if_icmp .ge 32, 3) := fx_d (q := (31, .if_icmp .ge 32, 3)) D_TA_paintRows 17 rfl
theorem d_TA_paintRows_34 : decode M_TA_paintRows.2.1 34 = .ok (.aload_n 1, 1) := fx_d (q := (34, .aload_n 1, 1)) D_TA_paintRows 18 rfl
theorem d_TA_paintRows_35 : decode M_TA_paintRows.2.1 35 = .ok (.iload 5, 2) := fx_d (q := (35, .iload 5, 2)) D_TA_paintRows 19 rfl
theorem d_TA_paintRows_37 : decode M_TA_paintRows.2.1 37 = .ok (.iload 6, 2) := fx_d (q := (37, .iload 6, 2)) D_TA_paintRows 20 rfl
theorem d_TA_paintRows_39 : decode M_TA_paintRows.2.1 39 = .ok (.aload_n 0, 1) := fx_d (q := (39, .aload_n 0, 1)) D_TA_paintRows 21 rfl
theorem d_TA_paintRows_40 : decode M_TA_paintRows.2.1 40 = .ok (.getfield 19, 3) := fx_d (q := (40, .getfield 19, 3)) D_TA_paintRows 22 rfl
theorem d_TA_paintRows_43 : decode M_TA_paintRows.2.1 43 = .ok (.iload 4, 2) := fx_d (q := (43, .iload 4, 2)) D_TA_paintRows 23 rfl
theorem d_TA_paintRows_45 : decode M_TA_paintRows.2.1 45 = .ok (.iaload, 1) := fx_d (q := (45, .iaload, 1)) D_TA_paintRows 24 rfl
theorem d_TA_paintRows_46 : decode M_TA_paintRows.2.1 46 = .ok (.invokevirtual 114, 3) := fx_d (q := (46, .invokevirtual 114, 3)) D_TA_paintRows 25 rfl
theorem d_TA_paintRows_49 : decode M_TA_paintRows.2.1 49 = .ok (.ifCond .ne 5, 3) := fx_d (q := (49, .ifCond .ne 5, 3)) D_TA_paintRows 26 rfl
theorem d_TA_paintRows_52 : decode M_TA_paintRows.2.1 52 = .ok (.iconst 0, 1) := fx_d (q := (52, .iconst 0, 1)) D_TA_paintRows 27 rfl
theorem d_TA_paintRows_53 : decode M_TA_paintRows.2.1 53 = .ok (.ireturn, 1) := fx_d (q := (53, .ireturn, 1)) D_TA_paintRows 28 rfl
theorem d_TA_paintRows_54 : decode M_TA_paintRows.2.1 54 = .ok (.iinc 4 1, 3) := fx_d (q := (54, .iinc 4 1, 3)) D_TA_paintRows 29 rfl
theorem d_TA_paintRows_57 : decode M_TA_paintRows.2.1 57 = .ok (.iinc 6 1, 3) := fx_d (q := (57, .iinc 6 1, 3)) D_TA_paintRows 30 rfl
theorem d_TA_paintRows_60 : decode M_TA_paintRows.2.1 60 = .ok (.goto (-45), 3) := fx_d (q := (60, .goto (-45), 3)) D_TA_paintRows 31 rfl
theorem d_TA_paintRows_63 : decode M_TA_paintRows.2.1 63 = .ok (.iinc 5 1, 3) := fx_d (q := (63, .iinc 5 1, 3)) D_TA_paintRows 32 rfl
theorem d_TA_paintRows_66 : decode M_TA_paintRows.2.1 66 = .ok (.goto (-60), 3) := fx_d (q := (66, .goto (-60), 3)) D_TA_paintRows 33 rfl
theorem d_TA_paintRows_69 : decode M_TA_paintRows.2.1 69 = .ok (.iconst 1, 1) := fx_d (q := (69, .iconst 1, 1)) D_TA_paintRows 34 rfl
theorem d_TA_paintRows_70 : decode M_TA_paintRows.2.1 70 = .ok (.ireturn, 1) := fx_d (q := (70, .ireturn, 1)) D_TA_paintRows 35 rfl
set_option maxRecDepth 100000 in
def L_TA_pack : List (Nat × Instr × Nat) := [(0, .aload_n 0, 1), (1, .aload_n 1, 1), (2, .iload_n 2, 1), (3, .iload_n 3, 1), (4, .invokevirtual 38, 3), (7, .istore 4, 2), (9, .aload_n 0, 1), (10, .getfield 23, 3), (13, .iconst 0, 1), (14, .invokestatic 42, 3), (17, .aload_n 0, 1), (18, .sipush 258, 3), (21, .putfield 48, 3), (24, .aload_n 0, 1), (25, .iconst 0, 1), (26, .putfield 52, 3), (29, .aload_n 0, 1), (30, .getfield 11, 3), (33, .sipush 256, 3), (36, .iconst 0, 1), (37, .invokestatic 55, 3), (40, .invokevirtual 59, 3), (43, .aload_n 0, 1), (44, .getfield 19, 3), (47, .iconst 0, 1), (48, .iaload, 1), (49, .istore 5, 2), (51, .iconst 1, 1), (52, .istore 6, 2), (54, .iload 6, 2), (56, .iload 4, 2), (58, .if_icmp .ge 61, 3), (61, .aload_n 0, 1), (62, .iload 5, 2), (64, .aload_n 0, 1), (65, .getfield 19, 3), (68, .iload 6, 2), (70, .iaload, 1), (71, .invokevirtual 65, 3), (74, .istore 7, 2), (76, .iload 7, 2), (78, .ifCond .ne 31, 3), (81, .aload_n 0, 1), (82, .iload 5, 2), (84, .invokevirtual 69, 3), (87, .aload_n 0, 1), (88, .iload 5, 2), (90, .aload_n 0, 1), (91, .getfield 19, 3), (94, .iload 6, 2), (96, .iaload, 1), (97, .invokevirtual 73, 3), (100, .aload_n 0, 1), (101, .getfield 19, 3), (104, .iload 6, 2), (106, .iaload, 1), (107, .istore 7, 2), (109, .iload 7, 2), (111, .istore 5, 2), (113, .iinc 6 1, 3), (116, .goto (-62), 3), (119, .aload_n 0, 1), (120, .iload 5, 2), (122, .invokevirtual 69, 3), (125, .aload_n 0, 1), (126, .sipush 257, 3), (129, .invokevirtual 69, 3), (132, .aload_n 0, 1), (133, .getfield 11, 3), (136, .invokevirtual 76, 3), (139, .return_, 1)]
set_option maxRecDepth 100000 in
theorem D_TA_pack : ∀ q ∈ L_TA_pack, decode prog_11_method_3_code q.1 = .ok q.2 := by decide +kernel
theorem d_TA_pack_0 : decode M_TA_pack.2.1 0 = .ok (.aload_n 0, 1) := fx_d (q := (0, .aload_n 0, 1)) D_TA_pack 0 rfl
theorem d_TA_pack_1 : decode M_TA_pack.2.1 1 = .ok (.aload_n 1, 1) := fx_d (q := (1, .aload_n 1, 1)) D_TA_pack 1 rfl
theorem d_TA_pack_2 : decode M_TA_pack.2.1 2 = .ok (.iload_n 2, 1) := fx_d (q := (2, .iload_n 2, 1)) D_TA_pack 2 rfl
theorem d_TA_pack_3 : decode M_TA_pack.2.1 3 = .ok (.iload_n 3, 1) := fx_d (q := (3, .iload_n 3, 1)) D_TA_pack 3 rfl
theorem d_TA_pack_4 : decode M_TA_pack.2.1 4 = .ok (.invokevirtual 38, 3) := fx_d (q := (4, .invokevirtual 38, 3)) D_TA_pack 4 rfl
theorem d_TA_pack_7 : decode M_TA_pack.2.1 7 = .ok (.istore 4, 2) := fx_d (q := (7, .istore 4, 2)) D_TA_pack 5 rfl
theorem d_TA_pack_9 : decode M_TA_pack.2.1 9 = .ok (.aload_n 0, 1) := fx_d (q := (9, .aload_n 0, 1)) D_TA_pack 6 rfl
theorem d_TA_pack_10 : decode M_TA_pack.2.1 10 = .ok (.getfield 23, 3) := fx_d (q := (10, .getfield 23, 3)) D_TA_pack 7 rfl
theorem d_TA_pack_13 : decode M_TA_pack.2.1 13 = .ok (.iconst 0, 1) := fx_d (q := (13, .iconst 0, 1)) D_TA_pack 8 rfl
theorem d_TA_pack_14 : decode M_TA_pack.2.1 14 = .ok (.invokestatic 42, 3) := fx_d (q := (14, .invokestatic 42, 3)) D_TA_pack 9 rfl
theorem d_TA_pack_17 : decode M_TA_pack.2.1 17 = .ok (.aload_n 0, 1) := fx_d (q := (17, .aload_n 0, 1)) D_TA_pack 10 rfl
theorem d_TA_pack_18 : decode M_TA_pack.2.1 18 = .ok (.sipush 258, 3) := fx_d (q := (18, .sipush 258, 3)) D_TA_pack 11 rfl
theorem d_TA_pack_21 : decode M_TA_pack.2.1 21 = .ok (.putfield 48, 3) := fx_d (q := (21, .putfield 48, 3)) D_TA_pack 12 rfl
theorem d_TA_pack_24 : decode M_TA_pack.2.1 24 = .ok (.aload_n 0, 1) := fx_d (q := (24, .aload_n 0, 1)) D_TA_pack 13 rfl
theorem d_TA_pack_25 : decode M_TA_pack.2.1 25 = .ok (.iconst 0, 1) := fx_d (q := (25, .iconst 0, 1)) D_TA_pack 14 rfl
theorem d_TA_pack_26 : decode M_TA_pack.2.1 26 = .ok (.putfield 52, 3) := fx_d (q := (26, .putfield 52, 3)) D_TA_pack 15 rfl
theorem d_TA_pack_29 : decode M_TA_pack.2.1 29 = .ok (.aload_n 0, 1) := fx_d (q := (29, .aload_n 0, 1)) D_TA_pack 16 rfl
theorem d_TA_pack_30 : decode M_TA_pack.2.1 30 = .ok (.getfield 11, 3) := fx_d (q := (30, .getfield 11, 3)) D_TA_pack 17 rfl
theorem d_TA_pack_33 : decode M_TA_pack.2.1 33 = .ok (.sipush 256, 3) := fx_d (q := (33, .sipush 256, 3)) D_TA_pack 18 rfl
theorem d_TA_pack_36 : decode M_TA_pack.2.1 36 = .ok (.iconst 0, 1) := fx_d (q := (36, .iconst 0, 1)) D_TA_pack 19 rfl
theorem d_TA_pack_37 : decode M_TA_pack.2.1 37 = .ok (.invokestatic 55, 3) := fx_d (q := (37, .invokestatic 55, 3)) D_TA_pack 20 rfl
theorem d_TA_pack_40 : decode M_TA_pack.2.1 40 = .ok (.invokevirtual 59, 3) := fx_d (q := (40, .invokevirtual 59, 3)) D_TA_pack 21 rfl
theorem d_TA_pack_43 : decode M_TA_pack.2.1 43 = .ok (.aload_n 0, 1) := fx_d (q := (43, .aload_n 0, 1)) D_TA_pack 22 rfl
theorem d_TA_pack_44 : decode M_TA_pack.2.1 44 = .ok (.getfield 19, 3) := fx_d (q := (44, .getfield 19, 3)) D_TA_pack 23 rfl
theorem d_TA_pack_47 : decode M_TA_pack.2.1 47 = .ok (.iconst 0, 1) := fx_d (q := (47, .iconst 0, 1)) D_TA_pack 24 rfl
theorem d_TA_pack_48 : decode M_TA_pack.2.1 48 = .ok (.iaload, 1) := fx_d (q := (48, .iaload, 1)) D_TA_pack 25 rfl
theorem d_TA_pack_49 : decode M_TA_pack.2.1 49 = .ok (.istore 5, 2) := fx_d (q := (49, .istore 5, 2)) D_TA_pack 26 rfl
theorem d_TA_pack_51 : decode M_TA_pack.2.1 51 = .ok (.iconst 1, 1) := fx_d (q := (51, .iconst 1, 1)) D_TA_pack 27 rfl
theorem d_TA_pack_52 : decode M_TA_pack.2.1 52 = .ok (.istore 6, 2) := fx_d (q := (52, .istore 6, 2)) D_TA_pack 28 rfl
theorem d_TA_pack_54 : decode M_TA_pack.2.1 54 = .ok (.iload 6, 2) := fx_d (q := (54, .iload 6, 2)) D_TA_pack 29 rfl
theorem d_TA_pack_56 : decode M_TA_pack.2.1 56 = .ok (.iload 4, 2) := fx_d (q := (56, .iload 4, 2)) D_TA_pack 30 rfl
theorem d_TA_pack_58 : decode M_TA_pack.2.1 58 = .ok (.if_icmp .ge 61, 3) := fx_d (q := (58, .if_icmp .ge 61, 3)) D_TA_pack 31 rfl
theorem d_TA_pack_61 : decode M_TA_pack.2.1 61 = .ok (.aload_n 0, 1) := fx_d (q := (61, .aload_n 0, 1)) D_TA_pack 32 rfl
theorem d_TA_pack_62 : decode M_TA_pack.2.1 62 = .ok (.iload 5, 2) := fx_d (q := (62, .iload 5, 2)) D_TA_pack 33 rfl
theorem d_TA_pack_64 : decode M_TA_pack.2.1 64 = .ok (.aload_n 0, 1) := fx_d (q := (64, .aload_n 0, 1)) D_TA_pack 34 rfl
theorem d_TA_pack_65 : decode M_TA_pack.2.1 65 = .ok (.getfield 19, 3) := fx_d (q := (65, .getfield 19, 3)) D_TA_pack 35 rfl
theorem d_TA_pack_68 : decode M_TA_pack.2.1 68 = .ok (.iload 6, 2) := fx_d (q := (68, .iload 6, 2)) D_TA_pack 36 rfl
theorem d_TA_pack_70 : decode M_TA_pack.2.1 70 = .ok (.iaload, 1) := fx_d (q := (70, .iaload, 1)) D_TA_pack 37 rfl
theorem d_TA_pack_71 : decode M_TA_pack.2.1 71 = .ok (.invokevirtual 65, 3) := fx_d (q := (71, .invokevirtual 65, 3)) D_TA_pack 38 rfl
theorem d_TA_pack_74 : decode M_TA_pack.2.1 74 = .ok (.istore 7, 2) := fx_d (q := (74, .istore 7, 2)) D_TA_pack 39 rfl
theorem d_TA_pack_76 : decode M_TA_pack.2.1 76 = .ok (.iload 7, 2) := fx_d (q := (76, .iload 7, 2)) D_TA_pack 40 rfl
theorem d_TA_pack_78 : decode M_TA_pack.2.1 78 = .ok (.ifCond .ne 31, 3) := fx_d (q := (78, .ifCond .ne 31, 3)) D_TA_pack 41 rfl
theorem d_TA_pack_81 : decode M_TA_pack.2.1 81 = .ok (.aload_n 0, 1) := fx_d (q := (81, .aload_n 0, 1)) D_TA_pack 42 rfl
theorem d_TA_pack_82 : decode M_TA_pack.2.1 82 = .ok (.iload 5, 2) := fx_d (q := (82, .iload 5, 2)) D_TA_pack 43 rfl
theorem d_TA_pack_84 : decode M_TA_pack.2.1 84 = .ok (.invokevirtual 69, 3) := fx_d (q := (84, .invokevirtual 69, 3)) D_TA_pack 44 rfl
theorem d_TA_pack_87 : decode M_TA_pack.2.1 87 = .ok (.aload_n 0, 1) := fx_d (q := (87, .aload_n 0, 1)) D_TA_pack 45 rfl
theorem d_TA_pack_88 : decode M_TA_pack.2.1 88 = .ok (.iload 5, 2) := fx_d (q := (88, .iload 5, 2)) D_TA_pack 46 rfl
theorem d_TA_pack_90 : decode M_TA_pack.2.1 90 = .ok (.aload_n 0, 1) := fx_d (q := (90, .aload_n 0, 1)) D_TA_pack 47 rfl
theorem d_TA_pack_91 : decode M_TA_pack.2.1 91 = .ok (.getfield 19, 3) := fx_d (q := (91, .getfield 19, 3)) D_TA_pack 48 rfl
theorem d_TA_pack_94 : decode M_TA_pack.2.1 94 = .ok (.iload 6, 2) := fx_d (q := (94, .iload 6, 2)) D_TA_pack 49 rfl
theorem d_TA_pack_96 : decode M_TA_pack.2.1 96 = .ok (.iaload, 1) := fx_d (q := (96, .iaload, 1)) D_TA_pack 50 rfl
theorem d_TA_pack_97 : decode M_TA_pack.2.1 97 = .ok (.invokevirtual 73, 3) := fx_d (q := (97, .invokevirtual 73, 3)) D_TA_pack 51 rfl
theorem d_TA_pack_100 : decode M_TA_pack.2.1 100 = .ok (.aload_n 0, 1) := fx_d (q := (100, .aload_n 0, 1)) D_TA_pack 52 rfl
theorem d_TA_pack_101 : decode M_TA_pack.2.1 101 = .ok (.getfield 19, 3) := fx_d (q := (101, .getfield 19, 3)) D_TA_pack 53 rfl
theorem d_TA_pack_104 : decode M_TA_pack.2.1 104 = .ok (.iload 6, 2) := fx_d (q := (104, .iload 6, 2)) D_TA_pack 54 rfl
theorem d_TA_pack_106 : decode M_TA_pack.2.1 106 = .ok (.iaload, 1) := fx_d (q := (106, .iaload, 1)) D_TA_pack 55 rfl
theorem d_TA_pack_107 : decode M_TA_pack.2.1 107 = .ok (.istore 7, 2) := fx_d (q := (107, .istore 7, 2)) D_TA_pack 56 rfl
theorem d_TA_pack_109 : decode M_TA_pack.2.1 109 = .ok (.iload 7, 2) := fx_d (q := (109, .iload 7, 2)) D_TA_pack 57 rfl
theorem d_TA_pack_111 : decode M_TA_pack.2.1 111 = .ok (.istore 5, 2) := fx_d (q := (111, .istore 5, 2)) D_TA_pack 58 rfl
theorem d_TA_pack_113 : decode M_TA_pack.2.1 113 = .ok (.iinc 6 1, 3) := fx_d (q := (113, .iinc 6 1, 3)) D_TA_pack 59 rfl
theorem d_TA_pack_116 : decode M_TA_pack.2.1 116 = .ok (.goto (-62), 3) := fx_d (q := (116, .goto (-62), 3)) D_TA_pack 60 rfl
theorem d_TA_pack_119 : decode M_TA_pack.2.1 119 = .ok (.aload_n 0, 1) := fx_d (q := (119, .aload_n 0, 1)) D_TA_pack 61 rfl
theorem d_TA_pack_120 : decode M_TA_pack.2.1 120 = .ok (.iload 5, 2) := fx_d (q := (120, .iload 5, 2)) D_TA_pack 62 rfl
theorem d_TA_pack_122 : decode M_TA_pack.2.1 122 = .ok (.invokevirtual 69, 3) := fx_d (q := (122, .invokevirtual 69, 3)) D_TA_pack 63 rfl
theorem d_TA_pack_125 : decode M_TA_pack.2.1 125 = .ok (.aload_n 0, 1) := fx_d (q := (125, .aload_n 0, 1)) D_TA_pack 64 rfl
theorem d_TA_pack_126 : decode M_TA_pack.2.1 126 = .ok (.sipush 257, 3) := fx_d (q := (126, .sipush 257, 3)) D_TA_pack 65 rfl
theorem d_TA_pack_129 : decode M_TA_pack.2.1 129 = .ok (.invokevirtual 69, 3) := fx_d (q := (129, .invokevirtual 69, 3)) D_TA_pack 66 rfl
theorem d_TA_pack_132 : decode M_TA_pack.2.1 132 = .ok (.aload_n 0, 1) := fx_d (q := (132, .aload_n 0, 1)) D_TA_pack 67 rfl
theorem d_TA_pack_133 : decode M_TA_pack.2.1 133 = .ok (.getfield 11, 3) := fx_d (q := (133, .getfield 11, 3)) D_TA_pack 68 rfl
theorem d_TA_pack_136 : decode M_TA_pack.2.1 136 = .ok (.invokevirtual 76, 3) := fx_d (q := (136, .invokevirtual 76, 3)) D_TA_pack 69 rfl
theorem d_TA_pack_139 : decode M_TA_pack.2.1 139 = .ok (.return_, 1) := fx_d (q := (139, .return_, 1)) D_TA_pack 70 rfl
set_option maxRecDepth 100000 in
def L_TA_collect : List (Nat × Instr × Nat) := [(0, .iconst 0, 1), (1, .istore 4, 2), (3, .iload_n 2, 1), (4, .istore 5, 2), (6, .iload 5, 2), (8, .iload_n 3, 1), (9, .if_icmp .ge 55, 3), (12, .iconst 0, 1), (13, .istore 6, 2), (15, .iload 6, 2), (17, .aload_n 1, 1), (18, .invokevirtual 79, 3), (21, .if_icmp .ge 37, 3), (24, .iload 4, 2), (26, .aload_n 0, 1), (27, .getfield 19, 3), (30, .arraylength, 1), (31, .if_icmp .ge 27, 3), (34, .aload_n 0, 1), (35, .getfield 19, 3), (38, .iload 4, 2), (40, .aload_n 1, 1), (41, .iload 5, 2), (43, .iload 6, 2), (45, .invokevirtual 85, 3), (48, .iastore, 1), (49, .iinc 4 1, 3), (52, .iinc 6 1, 3), (55, .goto (-40), 3), (58, .iinc 5 1, 3), (61, .goto (-55), 3), (64, .iload 4, 2), (66, .ireturn, 1)]
set_option maxRecDepth 100000 in
theorem D_TA_collect : ∀ q ∈ L_TA_collect, decode prog_11_method_4_code q.1 = .ok q.2 := by decide +kernel
theorem d_TA_collect_0 : decode M_TA_collect.2.1 0 = .ok (.iconst 0, 1) := fx_d (q := (0, .iconst 0, 1)) D_TA_collect 0 rfl
theorem d_TA_collect_1 : decode M_TA_collect.2.1 1 = .ok (.istore 4, 2) := fx_d (q := (1, .istore 4, 2)) D_TA_collect 1 rfl
theorem d_TA_collect_3 : decode M_TA_collect.2.1 3 = .ok (.iload_n 2, 1) := fx_d (q := (3, .iload_n 2, 1)) D_TA_collect 2 rfl
theorem d_TA_collect_4 : decode M_TA_collect.2.1 4 = .ok (.istore 5, 2) := fx_d (q := (4, .istore 5, 2)) D_TA_collect 3 rfl
theorem d_TA_collect_6 : decode M_TA_collect.2.1 6 = .ok (.iload 5, 2) := fx_d (q := (6, .iload 5, 2)) D_TA_collect 4 rfl
theorem d_TA_collect_8 : decode M_TA_collect.2.1 8 = .ok (.iload_n 3, 1) := fx_d (q := (8, .iload_n 3, 1)) D_TA_collect 5 rfl
theorem d_TA_collect_9 : decode M_TA_collect.2.1 9 = .ok (.if_icmp .ge 55, 3) := fx_d (q := (9, .if_icmp .ge 55, 3)) D_TA_collect 6 rfl
theorem d_TA_collect_12 : decode M_TA_collect.2.1 12 = .ok (.iconst 0, 1) := fx_d (q := (12, .iconst 0, 1)) D_TA_collect 7 rfl
theorem d_TA_collect_13 : decode M_TA_collect.2.1 13 = .ok (.istore 6, 2) := fx_d (q := (13, .istore 6, 2)) D_TA_collect 8 rfl
theorem d_TA_collect_15 : decode M_TA_collect.2.1 15 = .ok (.iload 6, 2) := fx_d (q := (15, .iload 6, 2)) D_TA_collect 9 rfl
theorem d_TA_collect_17 : decode M_TA_collect.2.1 17 = .ok (.aload_n 1, 1) := fx_d (q := (17, .aload_n 1, 1)) D_TA_collect 10 rfl
theorem d_TA_collect_18 : decode M_TA_collect.2.1 18 = .ok (.invokevirtual 79, 3) := fx_d (q := (18, .invokevirtual 79, 3)) D_TA_collect 11 rfl
theorem d_TA_collect_21 : decode M_TA_collect.2.1 21 = .ok (.if_icmp .ge 37, 3) := fx_d (q := (21, .if_icmp .ge 37, 3)) D_TA_collect 12 rfl
theorem d_TA_collect_24 : decode M_TA_collect.2.1 24 = .ok (.iload 4, 2) := fx_d (q := (24, .iload 4, 2)) D_TA_collect 13 rfl
theorem d_TA_collect_26 : decode M_TA_collect.2.1 26 = .ok (.aload_n 0, 1) := fx_d (q := (26, .aload_n 0, 1)) D_TA_collect 14 rfl
theorem d_TA_collect_27 : decode M_TA_collect.2.1 27 = .ok (.getfield 19, 3) := fx_d (q := (27, .getfield 19, 3)) D_TA_collect 15 rfl
theorem d_TA_collect_30 : decode M_TA_collect.2.1 30 = .ok (.arraylength, 1) := fx_d (q := (30, .arraylength, 1)) D_TA_collect 16 rfl
theorem d_TA_collect_31 : decode M_TA_collect.2.1 31 = .ok (.if_icmp .ge 27, 3) := fx_d (q := (31, .if_icmp .ge 27, 3)) D_TA_collect 17 rfl
theorem d_TA_collect_34 : decode M_TA_collect.2.1 34 = .ok (.aload_n 0, 1) := fx_d (q := (34, .aload_n 0, 1)) D_TA_collect 18 rfl
theorem d_TA_collect_35 : decode M_TA_collect.2.1 35 = .ok (.getfield 19, 3) := fx_d (q := (35, .getfield 19, 3)) D_TA_collect 19 rfl
theorem d_TA_collect_38 : decode M_TA_collect.2.1 38 = .ok (.iload 4, 2) := fx_d (q := (38, .iload 4, 2)) D_TA_collect 20 rfl
theorem d_TA_collect_40 : decode M_TA_collect.2.1 40 = .ok (.aload_n 1, 1) := fx_d (q := (40, .aload_n 1, 1)) D_TA_collect 21 rfl
theorem d_TA_collect_41 : decode M_TA_collect.2.1 41 = .ok (.iload 5, 2) := fx_d (q := (41, .iload 5, 2)) D_TA_collect 22 rfl
theorem d_TA_collect_43 : decode M_TA_collect.2.1 43 = .ok (.iload 6, 2) := fx_d (q := (43, .iload 6, 2)) D_TA_collect 23 rfl
theorem d_TA_collect_45 : decode M_TA_collect.2.1 45 = .ok (.invokevirtual 85, 3) := fx_d (q := (45, .invokevirtual 85, 3)) D_TA_collect 24 rfl
theorem d_TA_collect_48 : decode M_TA_collect.2.1 48 = .ok (.iastore, 1) := fx_d (q := (48, .iastore, 1)) D_TA_collect 25 rfl
theorem d_TA_collect_49 : decode M_TA_collect.2.1 49 = .ok (.iinc 4 1, 3) := fx_d (q := (49, .iinc 4 1, 3)) D_TA_collect 26 rfl
theorem d_TA_collect_52 : decode M_TA_collect.2.1 52 = .ok (.iinc 6 1, 3) := fx_d (q := (52, .iinc 6 1, 3)) D_TA_collect 27 rfl
theorem d_TA_collect_55 : decode M_TA_collect.2.1 55 = .ok (.goto (-40), 3) := fx_d (q := (55, .goto (-40), 3)) D_TA_collect 28 rfl
theorem d_TA_collect_58 : decode M_TA_collect.2.1 58 = .ok (.iinc 5 1, 3) := fx_d (q := (58, .iinc 5 1, 3)) D_TA_collect 29 rfl
theorem d_TA_collect_61 : decode M_TA_collect.2.1 61 = .ok (.goto (-55), 3) := fx_d (q := (61, .goto (-55), 3)) D_TA_collect 30 rfl
theorem d_TA_collect_64 : decode M_TA_collect.2.1 64 = .ok (.iload 4, 2) := fx_d (q := (64, .iload 4, 2)) D_TA_collect 31 rfl
theorem d_TA_collect_66 : decode M_TA_collect.2.1 66 = .ok (.ireturn, 1) := fx_d (q := (66, .ireturn, 1)) D_TA_collect 32 rfl
set_option maxRecDepth 100000 in
def L_TA_longerEntry : List (Nat × Instr × Nat) := [(0, .aload_n 0, 1), (1, .getfield 23, 3), (4, .iload_n 1, 1), (5, .iaload, 1), (6, .istore_n 3, 1), (7, .iconst 0, 1), (8, .istore 4, 2), (10, .iload 4, 2), (12, .sipush 658, 3), (15, .if_icmp .ge 32, 3), (18, .iload_n 3, 1), (19, .ifCond .eq 28, 3), (22, .aload_n 0, 1), (23, .getfield 29, 3), (26, .iload_n 3, 1), (27, .iaload, 1), (28, .iload_n 2, 1), (29, .if_icmp .ne 5, 3), (32, .iload_n 3, 1), (33, .ireturn, 1), (34, .aload_n 0, 1), (35, .getfield 26, 3), (38, .iload_n 3, 1), (39, .iaload, 1), (40, .istore_n 3, 1), (41, .iinc 4 1, 3), (44, .goto (-34), 3), (47, .iconst 0, 1), (48, .ireturn, 1)]
set_option maxRecDepth 100000 in
theorem D_TA_longerEntry : ∀ q ∈ L_TA_longerEntry, decode prog_11_method_6_code q.1 = .ok q.2 := by decide +kernel
theorem d_TA_longerEntry_0 : decode M_TA_longerEntry.2.1 0 = .ok (.aload_n 0, 1) := fx_d (q := (0, .aload_n 0, 1)) D_TA_longerEntry 0 rfl
theorem d_TA_longerEntry_1 : decode M_TA_longerEntry.2.1 1 = .ok (.getfield 23, 3) := fx_d (q := (1, .getfield 23, 3)) D_TA_longerEntry 1 rfl
theorem d_TA_longerEntry_4 : decode M_TA_longerEntry.2.1 4 = .ok (.iload_n 1, 1) := fx_d (q := (4, .iload_n 1, 1)) D_TA_longerEntry 2 rfl
theorem d_TA_longerEntry_5 : decode M_TA_longerEntry.2.1 5 = .ok (.iaload, 1) := fx_d (q := (5, .iaload, 1)) D_TA_longerEntry 3 rfl
theorem d_TA_longerEntry_6 : decode M_TA_longerEntry.2.1 6 = .ok (.istore_n 3, 1) := fx_d (q := (6, .istore_n 3, 1)) D_TA_longerEntry 4 rfl
theorem d_TA_longerEntry_7 : decode M_TA_longerEntry.2.1 7 = .ok (.iconst 0, 1) := fx_d (q := (7, .iconst 0, 1)) D_TA_longerEntry 5 rfl
theorem d_TA_longerEntry_8 : decode M_TA_longerEntry.2.1 8 = .ok (.istore 4, 2) := fx_d (q := (8, .istore 4, 2)) D_TA_longerEntry 6 rfl
theorem d_TA_longerEntry_10 : decode M_TA_longerEntry.2.1 10 = .ok (.iload 4, 2) := fx_d (q := (10, .iload 4, 2)) D_TA_longerEntry 7 rfl
theorem d_TA_longerEntry_12 : decode M_TA_longerEntry.2.1 12 = .ok (.sipush 658, 3) := fx_d (q := (12, .sipush 658, 3)) D_TA_longerEntry 8 rfl
theorem d_TA_longerEntry_15 : decode M_TA_longerEntry.2.1 15 = .ok (.if_icmp .ge 32, 3) := fx_d (q := (15, .if_icmp .ge 32, 3)) D_TA_longerEntry 9 rfl
theorem d_TA_longerEntry_18 : decode M_TA_longerEntry.2.1 18 = .ok (.iload_n 3, 1) := fx_d (q := (18, .iload_n 3, 1)) D_TA_longerEntry 10 rfl
theorem d_TA_longerEntry_19 : decode M_TA_longerEntry.2.1 19 = .ok (.ifCond .eq 28, 3) := fx_d (q := (19, .ifCond .eq 28, 3)) D_TA_longerEntry 11 rfl
theorem d_TA_longerEntry_22 : decode M_TA_longerEntry.2.1 22 = .ok (.aload_n 0, 1) := fx_d (q := (22, .aload_n 0, 1)) D_TA_longerEntry 12 rfl
theorem d_TA_longerEntry_23 : decode M_TA_longerEntry.2.1 23 = .ok (.getfield 29, 3) := fx_d (q := (23, .getfield 29, 3)) D_TA_longerEntry 13 rfl
theorem d_TA_longerEntry_26 : decode M_TA_longerEntry.2.1 26 = .ok (.iload_n 3, 1) := fx_d (q := (26, .iload_n 3, 1)) D_TA_longerEntry 14 rfl
theorem d_TA_longerEntry_27 : decode M_TA_longerEntry.2.1 27 = .ok (.iaload, 1) := fx_d (q := (27, .iaload, 1)) D_TA_longerEntry 15 rfl
theorem d_TA_longerEntry_28 : decode M_TA_longerEntry.2.1 28 = .ok (.iload_n 2, 1) := fx_d (q := (28, .iload_n 2, 1)) D_TA_longerEntry 16 rfl
theorem d_TA_longerEntry_29 : decode M_TA_longerEntry.2.1 29 = .ok (.if_icmp .ne 5, 3) := fx_d (q := (29, .if_icmp .ne 5, 3)) D_TA_longerEntry 17 rfl
theorem d_TA_longerEntry_32 : decode M_TA_longerEntry.2.1 32 = .ok (.iload_n 3, 1) := fx_d (q := (32, .iload_n 3, 1)) D_TA_longerEntry 18 rfl
theorem d_TA_longerEntry_33 : decode M_TA_longerEntry.2.1 33 = .ok (.ireturn, 1) := fx_d (q := (33, .ireturn, 1)) D_TA_longerEntry 19 rfl
theorem d_TA_longerEntry_34 : decode M_TA_longerEntry.2.1 34 = .ok (.aload_n 0, 1) := fx_d (q := (34, .aload_n 0, 1)) D_TA_longerEntry 20 rfl
theorem d_TA_longerEntry_35 : decode M_TA_longerEntry.2.1 35 = .ok (.getfield 26, 3) := fx_d (q := (35, .getfield 26, 3)) D_TA_longerEntry 21 rfl
theorem d_TA_longerEntry_38 : decode M_TA_longerEntry.2.1 38 = .ok (.iload_n 3, 1) := fx_d (q := (38, .iload_n 3, 1)) D_TA_longerEntry 22 rfl
theorem d_TA_longerEntry_39 : decode M_TA_longerEntry.2.1 39 = .ok (.iaload, 1) := fx_d (q := (39, .iaload, 1)) D_TA_longerEntry 23 rfl
theorem d_TA_longerEntry_40 : decode M_TA_longerEntry.2.1 40 = .ok (.istore_n 3, 1) := fx_d (q := (40, .istore_n 3, 1)) D_TA_longerEntry 24 rfl
theorem d_TA_longerEntry_41 : decode M_TA_longerEntry.2.1 41 = .ok (.iinc 4 1, 3) := fx_d (q := (41, .iinc 4 1, 3)) D_TA_longerEntry 25 rfl
theorem d_TA_longerEntry_44 : decode M_TA_longerEntry.2.1 44 = .ok (.goto (-34), 3) := fx_d (q := (44, .goto (-34), 3)) D_TA_longerEntry 26 rfl
theorem d_TA_longerEntry_47 : decode M_TA_longerEntry.2.1 47 = .ok (.iconst 0, 1) := fx_d (q := (47, .iconst 0, 1)) D_TA_longerEntry 27 rfl
theorem d_TA_longerEntry_48 : decode M_TA_longerEntry.2.1 48 = .ok (.ireturn, 1) := fx_d (q := (48, .ireturn, 1)) D_TA_longerEntry 28 rfl
set_option maxRecDepth 100000 in
def L_TA_packCode : List (Nat × Instr × Nat) := [(0, .aload_n 0, 1), (1, .dup, 1), (2, .getfield 52, 3), (5, .iconst 1, 1), (6, .iadd, 1), (7, .putfield 52, 3), (10, .aload_n 0, 1), (11, .getfield 11, 3), (14, .iload_n 1, 1), (15, .aload_n 0, 1), (16, .getfield 52, 3), (19, .invokestatic 55, 3), (22, .invokevirtual 59, 3), (25, .return_, 1)]
set_option maxRecDepth 100000 in
theorem D_TA_packCode : ∀ q ∈ L_TA_packCode, decode prog_11_method_5_code q.1 = .ok q.2 := by decide +kernel
theorem d_TA_packCode_0 : decode M_TA_packCode.2.1 0 = .ok (.aload_n 0, 1) := fx_d (q := (0, .aload_n 0, 1)) D_TA_packCode 0 rfl
theorem d_TA_packCode_1 : decode M_TA_packCode.2.1 1 = .ok (.dup, 1) := fx_d (q := (1, .dup, 1)) D_TA_packCode 1 rfl
theorem d_TA_packCode_2 : decode M_TA_packCode.2.1 2 = .ok (.getfield 52, 3) := fx_d (q := (2, .getfield 52, 3)) D_TA_packCode 2 rfl
theorem d_TA_packCode_5 : decode M_TA_packCode.2.1 5 = .ok (.iconst 1, 1) := fx_d (q := (5, .iconst 1, 1)) D_TA_packCode 3 rfl
theorem d_TA_packCode_6 : decode M_TA_packCode.2.1 6 = .ok (.iadd, 1) := fx_d (q := (6, .iadd, 1)) D_TA_packCode 4 rfl
theorem d_TA_packCode_7 : decode M_TA_packCode.2.1 7 = .ok (.putfield 52, 3) := fx_d (q := (7, .putfield 52, 3)) D_TA_packCode 5 rfl
theorem d_TA_packCode_10 : decode M_TA_packCode.2.1 10 = .ok (.aload_n 0, 1) := fx_d (q := (10, .aload_n 0, 1)) D_TA_packCode 6 rfl
theorem d_TA_packCode_11 : decode M_TA_packCode.2.1 11 = .ok (.getfield 11, 3) := fx_d (q := (11, .getfield 11, 3)) D_TA_packCode 7 rfl
theorem d_TA_packCode_14 : decode M_TA_packCode.2.1 14 = .ok (.iload_n 1, 1) := fx_d (q := (14, .iload_n 1, 1)) D_TA_packCode 8 rfl
theorem d_TA_packCode_15 : decode M_TA_packCode.2.1 15 = .ok (.aload_n 0, 1) := fx_d (q := (15, .aload_n 0, 1)) D_TA_packCode 9 rfl
theorem d_TA_packCode_16 : decode M_TA_packCode.2.1 16 = .ok (.getfield 52, 3) := fx_d (q := (16, .getfield 52, 3)) D_TA_packCode 10 rfl
theorem d_TA_packCode_19 : decode M_TA_packCode.2.1 19 = .ok (.invokestatic 55, 3) := fx_d (q := (19, .invokestatic 55, 3)) D_TA_packCode 11 rfl
theorem d_TA_packCode_22 : decode M_TA_packCode.2.1 22 = .ok (.invokevirtual 59, 3) := fx_d (q := (22, .invokevirtual 59, 3)) D_TA_packCode 12 rfl
theorem d_TA_packCode_25 : decode M_TA_packCode.2.1 25 = .ok (.return_, 1) := fx_d (q := (25, .return_, 1)) D_TA_packCode 13 rfl
set_option maxRecDepth 100000 in
def L_TA_makeEntry : List (Nat × Instr × Nat) := [(0, .aload_n 0, 1), (1, .getfield 48, 3), (4, .sipush 658, 3), (7, .if_icmp .ge 48, 3), (10, .aload_n 0, 1), (11, .getfield 29, 3), (14, .aload_n 0, 1), (15, .getfield 48, 3), (18, .iload_n 2, 1), (19, .iastore, 1), (20, .aload_n 0, 1), (21, .getfield 26, 3), (24, .aload_n 0, 1), (25, .getfield 48, 3), (28, .aload_n 0, 1), (29, .getfield 23, 3), (32, .iload_n 1, 1), (33, .iaload, 1), (34, .iastore, 1), (35, .aload_n 0, 1), (36, .getfield 23, 3), (39, .iload_n 1, 1), (40, .aload_n 0, 1), (41, .getfield 48, 3), (44, .iastore, 1), (45, .aload_n 0, 1), (46, .dup, 1), (47, .getfield 48, 3), (50, .iconst 1, 1), (51, .iadd, 1), (52, .putfield 48, 3), (55, .return_, 1)]
set_option maxRecDepth 100000 in
theorem D_TA_makeEntry : ∀ q ∈ L_TA_makeEntry, decode prog_11_method_7_code q.1 = .ok q.2 := by decide +kernel
theorem d_TA_makeEntry_0 : decode M_TA_makeEntry.2.1 0 = .ok (.aload_n 0, 1) := fx_d (q := (0, .aload_n 0, 1)) D_TA_makeEntry 0 rfl
theorem d_TA_makeEntry_1 : decode M_TA_makeEntry.2.1 1 = .ok (.getfield 48, 3) := fx_d (q := (1, .getfield 48, 3)) D_TA_makeEntry 1 rfl
theorem d_TA_makeEntry_4 : decode M_TA_makeEntry.2.1 4 = .ok (.sipush 658, 3) := fx_d (q := (4, .sipush 658, 3)) D_TA_makeEntry 2 rfl
theorem d_TA_makeEntry_7 : decode M_TA_makeEntry.2.1 7 = .ok (.if_icmp .ge 48, 3) := fx_d (q := (7, .if_icmp .ge 48, 3)) D_TA_makeEntry 3 rfl
theorem d_TA_makeEntry_10 : decode M_TA_makeEntry.2.1 10 = .ok (.aload_n 0, 1) := fx_d (q := (10, .aload_n 0, 1)) D_TA_makeEntry 4 rfl
theorem d_TA_makeEntry_11 : decode M_TA_makeEntry.2.1 11 = .ok (.getfield 29, 3) := fx_d (q := (11, .getfield 29, 3)) D_TA_makeEntry 5 rfl
theorem d_TA_makeEntry_14 : decode M_TA_makeEntry.2.1 14 = .ok (.aload_n 0, 1) := fx_d (q := (14, .aload_n 0, 1)) D_TA_makeEntry 6 rfl
theorem d_TA_makeEntry_15 : decode M_TA_makeEntry.2.1 15 = .ok (.getfield 48, 3) := fx_d (q := (15, .getfield 48, 3)) D_TA_makeEntry 7 rfl
theorem d_TA_makeEntry_18 : decode M_TA_makeEntry.2.1 18 = .ok (.iload_n 2, 1) := fx_d (q := (18, .iload_n 2, 1)) D_TA_makeEntry 8 rfl
theorem d_TA_makeEntry_19 : decode M_TA_makeEntry.2.1 19 = .ok (.iastore, 1) := fx_d (q := (19, .iastore, 1)) D_TA_makeEntry 9 rfl
theorem d_TA_makeEntry_20 : decode M_TA_makeEntry.2.1 20 = .ok (.aload_n 0, 1) := fx_d (q := (20, .aload_n 0, 1)) D_TA_makeEntry 10 rfl
theorem d_TA_makeEntry_21 : decode M_TA_makeEntry.2.1 21 = .ok (.getfield 26, 3) := fx_d (q := (21, .getfield 26, 3)) D_TA_makeEntry 11 rfl
theorem d_TA_makeEntry_24 : decode M_TA_makeEntry.2.1 24 = .ok (.aload_n 0, 1) := fx_d (q := (24, .aload_n 0, 1)) D_TA_makeEntry 12 rfl
theorem d_TA_makeEntry_25 : decode M_TA_makeEntry.2.1 25 = .ok (.getfield 48, 3) := fx_d (q := (25, .getfield 48, 3)) D_TA_makeEntry 13 rfl
theorem d_TA_makeEntry_28 : decode M_TA_makeEntry.2.1 28 = .ok (.aload_n 0, 1) := fx_d (q := (28, .aload_n 0, 1)) D_TA_makeEntry 14 rfl
theorem d_TA_makeEntry_29 : decode M_TA_makeEntry.2.1 29 = .ok (.getfield 23, 3) := fx_d (q := (29, .getfield 23, 3)) D_TA_makeEntry 15 rfl
theorem d_TA_makeEntry_32 : decode M_TA_makeEntry.2.1 32 = .ok (.iload_n 1, 1) := fx_d (q := (32, .iload_n 1, 1)) D_TA_makeEntry 16 rfl
theorem d_TA_makeEntry_33 : decode M_TA_makeEntry.2.1 33 = .ok (.iaload, 1) := fx_d (q := (33, .iaload, 1)) D_TA_makeEntry 17 rfl
theorem d_TA_makeEntry_34 : decode M_TA_makeEntry.2.1 34 = .ok (.iastore, 1) := fx_d (q := (34, .iastore, 1)) D_TA_makeEntry 18 rfl
theorem d_TA_makeEntry_35 : decode M_TA_makeEntry.2.1 35 = .ok (.aload_n 0, 1) := fx_d (q := (35, .aload_n 0, 1)) D_TA_makeEntry 19 rfl
theorem d_TA_makeEntry_36 : decode M_TA_makeEntry.2.1 36 = .ok (.getfield 23, 3) := fx_d (q := (36, .getfield 23, 3)) D_TA_makeEntry 20 rfl
theorem d_TA_makeEntry_39 : decode M_TA_makeEntry.2.1 39 = .ok (.iload_n 1, 1) := fx_d (q := (39, .iload_n 1, 1)) D_TA_makeEntry 21 rfl
theorem d_TA_makeEntry_40 : decode M_TA_makeEntry.2.1 40 = .ok (.aload_n 0, 1) := fx_d (q := (40, .aload_n 0, 1)) D_TA_makeEntry 22 rfl
theorem d_TA_makeEntry_41 : decode M_TA_makeEntry.2.1 41 = .ok (.getfield 48, 3) := fx_d (q := (41, .getfield 48, 3)) D_TA_makeEntry 23 rfl
theorem d_TA_makeEntry_44 : decode M_TA_makeEntry.2.1 44 = .ok (.iastore, 1) := fx_d (q := (44, .iastore, 1)) D_TA_makeEntry 24 rfl
theorem d_TA_makeEntry_45 : decode M_TA_makeEntry.2.1 45 = .ok (.aload_n 0, 1) := fx_d (q := (45, .aload_n 0, 1)) D_TA_makeEntry 25 rfl
theorem d_TA_makeEntry_46 : decode M_TA_makeEntry.2.1 46 = .ok (.dup, 1) := fx_d (q := (46, .dup, 1)) D_TA_makeEntry 26 rfl
theorem d_TA_makeEntry_47 : decode M_TA_makeEntry.2.1 47 = .ok (.getfield 48, 3) := fx_d (q := (47, .getfield 48, 3)) D_TA_makeEntry 27 rfl
theorem d_TA_makeEntry_50 : decode M_TA_makeEntry.2.1 50 = .ok (.iconst 1, 1) := fx_d (q := (50, .iconst 1, 1)) D_TA_makeEntry 28 rfl
theorem d_TA_makeEntry_51 : decode M_TA_makeEntry.2.1 51 = .ok (.iadd, 1) := fx_d (q := (51, .iadd, 1)) D_TA_makeEntry 29 rfl
theorem d_TA_makeEntry_52 : decode M_TA_makeEntry.2.1 52 = .ok (.putfield 48, 3) := fx_d (q := (52, .putfield 48, 3)) D_TA_makeEntry 30 rfl
theorem d_TA_makeEntry_55 : decode M_TA_makeEntry.2.1 55 = .ok (.return_, 1) := fx_d (q := (55, .return_, 1)) D_TA_makeEntry 31 rfl
