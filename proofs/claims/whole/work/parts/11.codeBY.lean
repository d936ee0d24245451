set_option maxRecDepth 100000 in
def L_BY_init : List (Nat × Instr × Nat) := [(0, .aload_n 0, 1), (1, .invokespecial 3, 3), (4, .aload_n 0, 1), (5, .sipush 2000, 3), (8, .newarray .int, 2), (10, .putfield 9, 3), (13, .return_, 1)]
set_option maxRecDepth 100000 in
theorem D_BY_init : ∀ q ∈ L_BY_init, decode prog_3_method_1_code q.1 = .ok q.2 := by decide +kernel
theorem d_BY_init_0 : decode M_BY_init.2.1 0 = .ok (.aload_n 0, 1) := fx_d (q := (0, .aload_n 0, 1)) D_BY_init 0 rfl
theorem d_BY_init_1 : decode M_BY_init.2.1 1 = .ok (.invokespecial 3, 3) := fx_d (q := (1, .invokespecial 3, 3)) D_BY_init 1 rfl
theorem d_BY_init_4 : decode M_BY_init.2.1 4 = .ok (.aload_n 0, 1) := fx_d (q := (4, .aload_n 0, 1)) D_BY_init 2 rfl
theorem d_BY_init_5 : decode M_BY_init.2.1 5 = .ok (.sipush 2000, 3) := fx_d (q := (5, .sipush 2000, 3)) D_BY_init 3 rfl
theorem d_BY_init_8 : decode M_BY_init.2.1 8 = .ok (.newarray .int, 2) := fx_d (q := (8, .newarray .int, 2)) D_BY_init 4 rfl
theorem d_BY_init_10 : decode M_BY_init.2.1 10 = .ok (.putfield 9, 3) := fx_d (q := (10, .putfield 9, 3)) D_BY_init 5 rfl
theorem d_BY_init_13 : decode M_BY_init.2.1 13 = .ok (.return_, 1) := fx_d (q := (13, .return_, 1)) D_BY_init 6 rfl
set_option maxRecDepth 100000 in
def L_BY_understandHeader : List (Nat × Instr × Nat) := [(0, .aload_n 0, 1), (1, .iconst 0, 1), (2, .invokevirtual 29, 3), (5, .istore_n 1, 1), (6, .aload_n 0, 1), (7, .getfield 15, 3), (10, .bipush 8, 2), (12, .if_icmp .lt 24, 3), (15, .iload_n 1, 1), (16, .aload_n 0, 1), (17, .iconst 1, 1), (18, .invokevirtual 29, 3), (21, .if_icmp .ne 15, 3), (24, .iload_n 1, 1), (25, .bipush 73, 2), (27, .if_icmp .eq 11, 3), (30, .iload_n 1, 1), (31, .bipush 77, 2), (33, .if_icmp .eq 5, 3), (36, .iconst 0, 1), (37, .ireturn, 1), (38, .aload_n 0, 1), (39, .iload_n 1, 1), (40, .bipush 77, 2), (42, .if_icmp .ne 7, 3), (45, .iconst 1, 1), (46, .goto 4, 3), (49, .iconst 0, 1), (50, .putfield 25, 3), (53, .aload_n 0, 1), (54, .iconst 2, 1), (55, .iconst 2, 1), (56, .invokevirtual 56, 3), (59, .ldc2_w 60, 3), (62, .lcmp, 1), (63, .ifCond .ne 7, 3), (66, .iconst 1, 1), (67, .goto 4, 3), (70, .iconst 0, 1), (71, .ireturn, 1)]
set_option maxRecDepth 100000 in
theorem D_BY_understandHeader : ∀ q ∈ L_BY_understandHeader, decode prog_3_method_15_code q.1 = .ok q.2 := by decide +kernel
theorem d_BY_understandHeader_0 : decode M_BY_understandHeader.2.1 0 = .ok (.aload_n 0, 1) := fx_d (q := (0, .aload_n 0, 1)) D_BY_understandHeader 0 rfl
theorem d_BY_understandHeader_1 : decode M_BY_understandHeader.2.1 1 = .ok (.iconst 0, 1) := fx_d (q := (1, .iconst 0, 1)) D_BY_understandHeader 1 rfl
theorem d_BY_understandHeader_2 : decode M_BY_understandHeader.2.1 2 = .ok (.invokevirtual 29, 3) := fx_d (q := (2, .invokevirtual 29, 3)) D_BY_understandHeader 2 rfl
theorem d_BY_understandHeader_5 : decode M_BY_understandHeader.2.1 5 = .ok (.istore_n 1, 1) := fx_d (q := (5, .istore_n 1, 1)) D_BY_understandHeader 3 rfl
theorem d_BY_understandHeader_6 : decode M_BY_understandHeader.2.1 6 = .ok (.aload_n 0, 1) := fx_d (q := (6, .aload_n 0, 1)) D_BY_understandHeader 4 rfl
theorem d_BY_understandHeader_7 : decode M_BY_understandHeader.2.1 7 = .ok (.getfield 15, 3) := fx_d (q := (7, .getfield 15, 3)) D_BY_understandHeader 5 rfl
theorem d_BY_understandHeader_10 : decode M_BY_understandHeader.2.1 10 = .ok (.bipush 8, 2) := fx_d (q := (10, .bipush 8, 2)) D_BY_understandHeader 6 rfl
theorem d_BY_understandHeader_12 : decode M_BY_understandHeader.2.1 12 = .ok (.if_icmp .lt 24, 3) := fx_d (q := (12, .if_icmp .lt 24, 3)) D_BY_understandHeader 7 rfl
theorem d_BY_understandHeader_15 : decode M_BY_understandHeader.2.1 15 = .ok (.iload_n 1, 1) := fx_d (q := (15, .iload_n 1, 1)) D_BY_understandHeader 8 rfl
theorem d_BY_understandHeader_16 : decode M_BY_understandHeader.2.1 16 = .ok (.aload_n 0, 1) := fx_d (q := (16, .aload_n 0, 1)) D_BY_understandHeader 9 rfl
theorem d_BY_understandHeader_17 : decode M_BY_understandHeader.2.1 17 = .ok (.iconst 1, 1) := fx_d (q := (17, .iconst 1, 1)) D_BY_understandHeader 10 rfl
theorem d_BY_understandHeader_18 : decode M_BY_understandHeader.2.1 18 = .ok (.invokevirtual 29, 3) := fx_d (q := (18, .invokevirtual 29, 3)) D_BY_understandHeader 11 rfl
theorem d_BY_understandHeader_21 : decode M_BY_understandHeader.2.1 21 = .ok (.if_icmp .ne 15, 3) := fx_d (q := (21, .if_icmp .ne 15, 3)) D_BY_understandHeader 12 rfl
theorem d_BY_understandHeader_24 : decode M_BY_understandHeader.2.1 24 = .ok (.iload_n 1, 1) := fx_d (q := (24, .iload_n 1, 1)) D_BY_understandHeader 13 rfl
theorem d_BY_understandHeader_25 : decode M_BY_understandHeader.2.1 25 = .ok (.bipush 73, 2) := fx_d (q := (25, .bipush 73, 2)) D_BY_understandHeader 14 rfl
theorem d_BY_understandHeader_27 : decode M_BY_understandHeader.2.1 27 = .ok (.if_icmp .eq 11, 3) := fx_d (q := (27, .if_icmp .eq 11, 3)) D_BY_understandHeader 15 rfl
theorem d_BY_understandHeader_30 : decode M_BY_understandHeader.2.1 30 = .ok (.iload_n 1, 1) := fx_d (q := (30, .iload_n 1, 1)) D_BY_understandHeader 16 rfl
theorem d_BY_understandHeader_31 : decode M_BY_understandHeader.2.1 31 = .ok (.bipush 77, 2) := fx_d (q := (31, .bipush 77, 2)) D_BY_understandHeader 17 rfl
theorem d_BY_understandHeader_33 : decode M_BY_understandHeader.2.1 33 = .ok (.if_icmp .eq 5, 3) := fx_d (q := (33, .if_icmp .eq 5, 3)) D_BY_understandHeader 18 rfl
theorem d_BY_understandHeader_36 : decode M_BY_understandHeader.2.1 36 = .ok (.iconst 0, 1) := fx_d (q := (36, .iconst 0, 1)) D_BY_understandHeader 19 rfl
theorem d_BY_understandHeader_37 : decode M_BY_understandHeader.2.1 37 = .ok (.ireturn, 1) := fx_d (q := (37, .ireturn, 1)) D_BY_understandHeader 20 rfl
theorem d_BY_understandHeader_38 : decode M_BY_understandHeader.2.1 38 = .ok (.aload_n 0, 1) := fx_d (q := (38, .aload_n 0, 1)) D_BY_understandHeader 21 rfl
theorem d_BY_understandHeader_39 : decode M_BY_understandHeader.2.1 39 = .ok (.iload_n 1, 1) := fx_d (q := (39, .iload_n 1, 1)) D_BY_understandHeader 22 rfl
theorem d_BY_understandHeader_40 : decode M_BY_understandHeader.2.1 40 = .ok (.bipush 77, 2) := fx_d (q := (40, .bipush 77, 2)) D_BY_understandHeader 23 rfl
theorem d_BY_understandHeader_42 : decode M_BY_understandHeader.2.1 42 = .ok (.if_icmp .ne 7, 3) := fx_d (q := (42, .if_icmp .ne 7, 3)) D_BY_understandHeader 24 rfl
theorem d_BY_understandHeader_45 : decode M_BY_understandHeader.2.1 45 = .ok (.iconst 1, 1) := fx_d (q := (45, .iconst 1, 1)) D_BY_understandHeader 25 rfl
theorem d_BY_understandHeader_46 : decode M_BY_understandHeader.2.1 46 = .ok (.goto 4, 3) := fx_d (q := (46, .goto 4, 3)) D_BY_understandHeader 26 rfl
theorem d_BY_understandHeader_49 : decode M_BY_understandHeader.2.1 49 = .ok (.iconst 0, 1) := fx_d (q := (49, .iconst 0, 1)) D_BY_understandHeader 27 rfl
theorem d_BY_understandHeader_50 : decode M_BY_understandHeader.2.1 50 = .ok (.putfield 25, 3) := fx_d (q := (50, .putfield 25, 3)) D_BY_understandHeader 28 rfl
theorem d_BY_understandHeader_53 : decode M_BY_understandHeader.2.1 53 = .ok (.aload_n 0, 1) := fx_d (q := (53, .aload_n 0, 1)) D_BY_understandHeader 29 rfl
theorem d_BY_understandHeader_54 : decode M_BY_understandHeader.2.1 54 = .ok (.iconst 2, 1) := fx_d (q := (54, .iconst 2, 1)) D_BY_understandHeader 30 rfl
theorem d_BY_understandHeader_55 : decode M_BY_understandHeader.2.1 55 = .ok (.iconst 2, 1) := fx_d (q := (55, .iconst 2, 1)) D_BY_understandHeader 31 rfl
theorem d_BY_understandHeader_56 : decode M_BY_understandHeader.2.1 56 = .ok (.invokevirtual 56, 3) := fx_d (q := (56, .invokevirtual 56, 3)) D_BY_understandHeader 32 rfl
theorem d_BY_understandHeader_59 : decode M_BY_understandHeader.2.1 59 = .ok (.ldc2_w 60, 3) := fx_d (q := (59, .ldc2_w 60, 3)) D_BY_understandHeader 33 rfl
theorem d_BY_understandHeader_62 : decode M_BY_understandHeader.2.1 62 = .ok (.lcmp, 1) := fx_d (q := (62, .lcmp, 1)) D_BY_understandHeader 34 rfl
theorem d_BY_understandHeader_63 : decode M_BY_understandHeader.2.1 63 = .ok (.ifCond .ne 7, 3) := fx_d (q := (63, .ifCond .ne 7, 3)) D_BY_understandHeader 35 rfl
theorem d_BY_understandHeader_66 : decode M_BY_understandHeader.2.1 66 = .ok (.iconst 1, 1) := fx_d (q := (66, .iconst 1, 1)) D_BY_understandHeader 36 rfl
theorem d_BY_understandHeader_67 : decode M_BY_understandHeader.2.1 67 = .ok (.goto 4, 3) := fx_d (q := (67, .goto 4, 3)) D_BY_understandHeader 37 rfl
theorem d_BY_understandHeader_70 : decode M_BY_understandHeader.2.1 70 = .ok (.iconst 0, 1) := fx_d (q := (70, .iconst 0, 1)) D_BY_understandHeader 38 rfl
theorem d_BY_understandHeader_71 : decode M_BY_understandHeader.2.1 71 = .ok (.ireturn, 1) := fx_d (q := (71, .ireturn, 1)) D_BY_understandHeader 39 rfl
set_option maxRecDepth 100000 in
def L_BY_byteAt : List (Nat × Instr × Nat) := [(0, .iload_n 1, 1), (1, .ifCond .lt 20, 3), (4, .iload_n 1, 1), (5, .aload_n 0, 1), (6, .getfield 15, 3), (9, .if_icmp .ge 12, 3), (12, .aload_n 0, 1), (13, .getfield 9, 3), (16, .iload_n 1, 1), (17, .iaload, 1), (18, .goto 4, 3), (21, .iconst 0, 1), (22, .ireturn, 1)]
set_option maxRecDepth 100000 in
theorem D_BY_byteAt : ∀ q ∈ L_BY_byteAt, decode prog_3_method_3_code q.1 = .ok q.2 := by decide +kernel
theorem d_BY_byteAt_0 : decode M_BY_byteAt.2.1 0 = .ok (.iload_n 1, 1) := fx_d (q := (0, .iload_n 1, 1)) D_BY_byteAt 0 rfl
theorem d_BY_byteAt_1 : decode M_BY_byteAt.2.1 1 = .ok (.ifCond .lt 20, 3) := fx_d (q := (1, .ifCond .lt 20, 3)) D_BY_byteAt 1 rfl
theorem d_BY_byteAt_4 : decode M_BY_byteAt.2.1 4 = .ok (.iload_n 1, 1) := fx_d (q := (4, .iload_n 1, 1)) D_BY_byteAt 2 rfl
theorem d_BY_byteAt_5 : decode M_BY_byteAt.2.1 5 = .ok (.aload_n 0, 1) := fx_d (q := (5, .aload_n 0, 1)) D_BY_byteAt 3 rfl
theorem d_BY_byteAt_6 : decode M_BY_byteAt.2.1 6 = .ok (.getfield 15, 3) := fx_d (q := (6, .getfield 15, 3)) D_BY_byteAt 4 rfl
theorem d_BY_byteAt_9 : decode M_BY_byteAt.2.1 9 = .ok (.if_icmp .ge 12, 3) := fx_d (q := (9, .if_icmp .ge 12, 3)) D_BY_byteAt 5 rfl
theorem d_BY_byteAt_12 : decode M_BY_byteAt.2.1 12 = .ok (.aload_n 0, 1) := fx_d (q := (12, .aload_n 0, 1)) D_BY_byteAt 6 rfl
theorem d_BY_byteAt_13 : decode M_BY_byteAt.2.1 13 = .ok (.getfield 9, 3) := fx_d (q := (13, .getfield 9, 3)) D_BY_byteAt 7 rfl
theorem d_BY_byteAt_16 : decode M_BY_byteAt.2.1 16 = .ok (.iload_n 1, 1) := fx_d (q := (16, .iload_n 1, 1)) D_BY_byteAt 8 rfl
theorem d_BY_byteAt_17 : decode M_BY_byteAt.2.1 17 = .ok (.iaload, 1) := fx_d (q := (17, .iaload, 1)) D_BY_byteAt 9 rfl
theorem d_BY_byteAt_18 : decode M_BY_byteAt.2.1 18 = .ok (.goto 4, 3) := fx_d (q := (18, .goto 4, 3)) D_BY_byteAt 10 rfl
theorem d_BY_byteAt_21 : decode M_BY_byteAt.2.1 21 = .ok (.iconst 0, 1) := fx_d (q := (21, .iconst 0, 1)) D_BY_byteAt 11 rfl
theorem d_BY_byteAt_22 : decode M_BY_byteAt.2.1 22 = .ok (.ireturn, 1) := fx_d (q := (22, .ireturn, 1)) D_BY_byteAt 12 rfl
set_option maxRecDepth 100000 in
def L_BY_numberAt : List (Nat × Instr × Nat) := [(0, .lconst 0, 1), (1, .lstore_n 3, 1), (2, .iconst 0, 1), (3, .istore 5, 2), (5, .iload 5, 2), (7, .iload_n 2, 1), (8, .if_icmp .ge 29, 3), (11, .lload_n 3, 1), (12, .aload_n 0, 1), (13, .iload_n 1, 1), (14, .iload 5, 2), (16, .iadd, 1), (17, .invokevirtual 29, 3), (20, .i2l, 1), (21, .aload_n 0, 1), (22, .iload 5, 2), (24, .iload_n 2, 1), (25, .invokevirtual 33, 3), (28, .lshl, 1), (29, .lor, 1), (30, .lstore_n 3, 1), (31, .iinc 5 1, 3), (34, .goto (-29), 3), (37, .lload_n 3, 1), (38, .lreturn, 1)]
set_option maxRecDepth 100000 in
theorem D_BY_numberAt : ∀ q ∈ L_BY_numberAt, decode prog_3_method_8_code q.1 = .ok q.2 := by decide +kernel
theorem d_BY_numberAt_0 : decode M_BY_numberAt.2.1 0 = .ok (.lconst 0, 1) := fx_d (q := (0, .lconst 0, 1)) D_BY_numberAt 0 rfl
theorem d_BY_numberAt_1 : decode M_BY_numberAt.2.1 1 = .ok (.lstore_n 3, 1) := fx_d (q := (1, .lstore_n 3, 1)) D_BY_numberAt 1 rfl
theorem d_BY_numberAt_2 : decode M_BY_numberAt.2.1 2 = .ok (.iconst 0, 1) := fx_d (q := (2, .iconst 0, 1)) D_BY_numberAt 2 rfl
theorem d_BY_numberAt_3 : decode M_BY_numberAt.2.1 3 = .ok (.istore 5, 2) := fx_d (q := (3, .istore 5, 2)) D_BY_numberAt 3 rfl
theorem d_BY_numberAt_5 : decode M_BY_numberAt.2.1 5 = .ok (.iload 5, 2) := fx_d (q := (5, .iload 5, 2)) D_BY_numberAt 4 rfl
theorem d_BY_numberAt_7 : decode M_BY_numberAt.2.1 7 = .ok (.iload_n 2, 1) := fx_d (q := (7, .iload_n 2, 1)) D_BY_numberAt 5 rfl
theorem d_BY_numberAt_8 : decode M_BY_numberAt.2.1 8 = .ok (.if_icmp .ge 29, 3) := fx_d (q := (8, .if_icmp .ge 29, 3)) D_BY_numberAt 6 rfl
theorem d_BY_numberAt_11 : decode M_BY_numberAt.2.1 11 = .ok (.lload_n 3, 1) := fx_d (q := (11, .lload_n 3, 1)) D_BY_numberAt 7 rfl
theorem d_BY_numberAt_12 : decode M_BY_numberAt.2.1 12 = .ok (.aload_n 0, 1) := fx_d (q := (12, .aload_n 0, 1)) D_BY_numberAt 8 rfl
theorem d_BY_numberAt_13 : decode M_BY_numberAt.2.1 13 = .ok (.iload_n 1, 1) := fx_d (q := (13, .iload_n 1, 1)) D_BY_numberAt 9 rfl
theorem d_BY_numberAt_14 : decode M_BY_numberAt.2.1 14 = .ok (.iload 5, 2) := fx_d (q := (14, .iload 5, 2)) D_BY_numberAt 10 rfl
theorem d_BY_numberAt_16 : decode M_BY_numberAt.2.1 16 = .ok (.iadd, 1) := fx_d (q := (16, .iadd, 1)) D_BY_numberAt 11 rfl
theorem d_BY_numberAt_17 : decode M_BY_numberAt.2.1 17 = .ok (.invokevirtual 29, 3) := fx_d (q := (17, .invokevirtual 29, 3)) D_BY_numberAt 12 rfl
theorem d_BY_numberAt_20 : decode M_BY_numberAt.2.1 20 = .ok (.i2l, 1) := fx_d (q := (20, .i2l, 1)) D_BY_numberAt 13 rfl
theorem d_BY_numberAt_21 : decode M_BY_numberAt.2.1 21 = .ok (.aload_n 0, 1) := fx_d (q := (21, .aload_n 0, 1)) D_BY_numberAt 14 rfl
theorem d_BY_numberAt_22 : decode M_BY_numberAt.2.1 22 = .ok (.iload 5, 2) := fx_d (q := (22, .iload 5, 2)) D_BY_numberAt 15 rfl
theorem d_BY_numberAt_24 : decode M_BY_numberAt.2.1 24 = .ok (.iload_n 2, 1) := fx_d (q := (24, .iload_n 2, 1)) D_BY_numberAt 16 rfl
theorem d_BY_numberAt_25 : decode M_BY_numberAt.2.1 25 = .ok (.invokevirtual 33, 3) := fx_d (q := (25, .invokevirtual 33, 3)) D_BY_numberAt 17 rfl
theorem d_BY_numberAt_28 : decode M_BY_numberAt.2.1 28 = .ok (.lshl, 1) := fx_d (q := (28, .lshl, 1)) D_BY_numberAt 18 rfl
theorem d_BY_numberAt_29 : decode M_BY_numberAt.2.1 29 = .ok (.lor, 1) := fx_d (q := (29, .lor, 1)) D_BY_numberAt 19 rfl
theorem d_BY_numberAt_30 : decode M_BY_numberAt.2.1 30 = .ok (.lstore_n 3, 1) := fx_d (q := (30, .lstore_n 3, 1)) D_BY_numberAt 20 rfl
theorem d_BY_numberAt_31 : decode M_BY_numberAt.2.1 31 = .ok (.iinc 5 1, 3) := fx_d (q := (31, .iinc 5 1, 3)) D_BY_numberAt 21 rfl
theorem d_BY_numberAt_34 : decode M_BY_numberAt.2.1 34 = .ok (.goto (-29), 3) := fx_d (q := (34, .goto (-29), 3)) D_BY_numberAt 22 rfl
theorem d_BY_numberAt_37 : decode M_BY_numberAt.2.1 37 = .ok (.lload_n 3, 1) := fx_d (q := (37, .lload_n 3, 1)) D_BY_numberAt 23 rfl
theorem d_BY_numberAt_38 : decode M_BY_numberAt.2.1 38 = .ok (.lreturn, 1) := fx_d (q := (38, .lreturn, 1)) D_BY_numberAt 24 rfl
set_option maxRecDepth 100000 in
def L_BY_shiftOf : List (Nat × Instr × Nat) := [(0, .bipush 8, 2), (2, .aload_n 0, 1), (3, .getfield 25, 3), (6, .ifCond .eq 11, 3), (9, .iload_n 2, 1), (10, .iconst 1, 1), (11, .isub, 1), (12, .iload_n 1, 1), (13, .isub, 1), (14, .goto 4, 3), (17, .iload_n 1, 1), (18, .imul, 1), (19, .ireturn, 1)]
set_option maxRecDepth 100000 in
theorem D_BY_shiftOf : ∀ q ∈ L_BY_shiftOf, decode prog_3_method_7_code q.1 = .ok q.2 := by decide +kernel
theorem d_BY_shiftOf_0 : decode M_BY_shiftOf.2.1 0 = .ok (.bipush 8, 2) := fx_d (q := (0, .bipush 8, 2)) D_BY_shiftOf 0 rfl
theorem d_BY_shiftOf_2 : decode M_BY_shiftOf.2.1 2 = .ok (.aload_n 0, 1) := fx_d (q := (2, .aload_n 0, 1)) D_BY_shiftOf 1 rfl
theorem d_BY_shiftOf_3 : decode M_BY_shiftOf.2.1 3 = .ok (.getfield 25, 3) := fx_d (q := (3, .getfield 25, 3)) D_BY_shiftOf 2 rfl
theorem d_BY_shiftOf_6 : decode M_BY_shiftOf.2.1 6 = .ok (.ifCond .eq 11, 3) := fx_d (q := (6, .ifCond .eq 11, 3)) D_BY_shiftOf 3 rfl
theorem d_BY_shiftOf_9 : decode M_BY_shiftOf.2.1 9 = .ok (.iload_n 2, 1) := fx_d (q := (9, .iload_n 2, 1)) D_BY_shiftOf 4 rfl
theorem d_BY_shiftOf_10 : decode M_BY_shiftOf.2.1 10 = .ok (.iconst 1, 1) := fx_d (q := (10, .iconst 1, 1)) D_BY_shiftOf 5 rfl
theorem d_BY_shiftOf_11 : decode M_BY_shiftOf.2.1 11 = .ok (.isub, 1) := fx_d (q := (11, .isub, 1)) D_BY_shiftOf 6 rfl
theorem d_BY_shiftOf_12 : decode M_BY_shiftOf.2.1 12 = .ok (.iload_n 1, 1) := fx_d (q := (12, .iload_n 1, 1)) D_BY_shiftOf 7 rfl
theorem d_BY_shiftOf_13 : decode M_BY_shiftOf.2.1 13 = .ok (.isub, 1) := fx_d (q := (13, .isub, 1)) D_BY_shiftOf 8 rfl
theorem d_BY_shiftOf_14 : decode M_BY_shiftOf.2.1 14 = .ok (.goto 4, 3) := fx_d (q := (14, .goto 4, 3)) D_BY_shiftOf 9 rfl
theorem d_BY_shiftOf_17 : decode M_BY_shiftOf.2.1 17 = .ok (.iload_n 1, 1) := fx_d (q := (17, .iload_n 1, 1)) D_BY_shiftOf 10 rfl
theorem d_BY_shiftOf_18 : decode M_BY_shiftOf.2.1 18 = .ok (.imul, 1) := fx_d (q := (18, .imul, 1)) D_BY_shiftOf 11 rfl
theorem d_BY_shiftOf_19 : decode M_BY_shiftOf.2.1 19 = .ok (.ireturn, 1) := fx_d (q := (19, .ireturn, 1)) D_BY_shiftOf 12 rfl
set_option maxRecDepth 100000 in
def L_BY_has : List (Nat × Instr × Nat) := [(0, .iload_n 1, 1), (1, .ifCond .lt 15, 3), (4, .iload_n 1, 1), (5, .aload_n 0, 1), (6, .getfield 15, 3), (9, .if_icmp .ge 7, 3), (12, .iconst 1, 1), (13, .goto 4, 3), (16, .iconst 0, 1), (17, .ireturn, 1)]
set_option maxRecDepth 100000 in
theorem D_BY_has : ∀ q ∈ L_BY_has, decode prog_3_method_2_code q.1 = .ok q.2 := by decide +kernel
theorem d_BY_has_0 : decode M_BY_has.2.1 0 = .ok (.iload_n 1, 1) := fx_d (q := (0, .iload_n 1, 1)) D_BY_has 0 rfl
theorem d_BY_has_1 : decode M_BY_has.2.1 1 = .ok (.ifCond .lt 15, 3) := fx_d (q := (1, .ifCond .lt 15, 3)) D_BY_has 1 rfl
theorem d_BY_has_4 : decode M_BY_has.2.1 4 = .ok (.iload_n 1, 1) := fx_d (q := (4, .iload_n 1, 1)) D_BY_has 2 rfl
theorem d_BY_has_5 : decode M_BY_has.2.1 5 = .ok (.aload_n 0, 1) := fx_d (q := (5, .aload_n 0, 1)) D_BY_has 3 rfl
theorem d_BY_has_6 : decode M_BY_has.2.1 6 = .ok (.getfield 15, 3) := fx_d (q := (6, .getfield 15, 3)) D_BY_has 4 rfl
theorem d_BY_has_9 : decode M_BY_has.2.1 9 = .ok (.if_icmp .ge 7, 3) := fx_d (q := (9, .if_icmp .ge 7, 3)) D_BY_has 5 rfl
theorem d_BY_has_12 : decode M_BY_has.2.1 12 = .ok (.iconst 1, 1) := fx_d (q := (12, .iconst 1, 1)) D_BY_has 6 rfl
theorem d_BY_has_13 : decode M_BY_has.2.1 13 = .ok (.goto 4, 3) := fx_d (q := (13, .goto 4, 3)) D_BY_has 7 rfl
theorem d_BY_has_16 : decode M_BY_has.2.1 16 = .ok (.iconst 0, 1) := fx_d (q := (16, .iconst 0, 1)) D_BY_has 8 rfl
theorem d_BY_has_17 : decode M_BY_has.2.1 17 = .ok (.ireturn, 1) := fx_d (q := (17, .ireturn, 1)) D_BY_has 9 rfl
set_option maxRecDepth 100000 in
def L_BY_append : List (Nat × Instr × Nat) := [(0, .aload_n 0, 1), (1, .getfield 15, 3), (4, .sipush 2000, 3), (7, .if_icmp .ge 23, 3), (10, .aload_n 0, 1), (11, .getfield 9, 3), (14, .aload_n 0, 1), (15, .getfield 15, 3), (18, .iload_n 1, 1), (19, .iastore, 1), (20, .aload_n 0, 1), (21, .dup, 1), (22, .getfield 15, 3), (25, .iconst 1, 1), (26, .iadd, 1), (27, .putfield 15, 3), (30, .return_, 1)]
set_option maxRecDepth 100000 in
theorem D_BY_append : ∀ q ∈ L_BY_append, decode prog_3_method_5_code q.1 = .ok q.2 := by decide +kernel
theorem d_BY_append_0 : decode M_BY_append.2.1 0 = .ok (.aload_n 0, 1) := fx_d (q := (0, .aload_n 0, 1)) D_BY_append 0 rfl
theorem d_BY_append_1 : decode M_BY_append.2.1 1 = .ok (.getfield 15, 3) := fx_d (q := (1, .getfield 15, 3)) D_BY_append 1 rfl
theorem d_BY_append_4 : decode M_BY_append.2.1 4 = .ok (.sipush 2000, 3) := fx_d (q := (4, .sipush 2000, 3)) D_BY_append 2 rfl
theorem d_BY_append_7 : decode M_BY_append.2.1 7 = .ok (.if_icmp .ge 23, 3) := fx_d (q := (7, .if_icmp .ge 23, 3)) D_BY_append 3 rfl
theorem d_BY_append_10 : decode M_BY_append.2.1 10 = .ok (.aload_n 0, 1) := fx_d (q := (10, .aload_n 0, 1)) D_BY_append 4 rfl
theorem d_BY_append_11 : decode M_BY_append.2.1 11 = .ok (.getfield 9, 3) := fx_d (q := (11, .getfield 9, 3)) D_BY_append 5 rfl
theorem d_BY_append_14 : decode M_BY_append.2.1 14 = .ok (.aload_n 0, 1) := fx_d (q := (14, .aload_n 0, 1)) D_BY_append 6 rfl
theorem d_BY_append_15 : decode M_BY_append.2.1 15 = .ok (.getfield 15, 3) := fx_d (q := (15, .getfield 15, 3)) D_BY_append 7 rfl
theorem d_BY_append_18 : decode M_BY_append.2.1 18 = .ok (.iload_n 1, 1) := fx_d (q := (18, .iload_n 1, 1)) D_BY_append 8 rfl
theorem d_BY_append_19 : decode M_BY_append.2.1 19 = .ok (.iastore, 1) := fx_d (q := (19, .iastore, 1)) D_BY_append 9 rfl
theorem d_BY_append_20 : decode M_BY_append.2.1 20 = .ok (.aload_n 0, 1) := fx_d (q := (20, .aload_n 0, 1)) D_BY_append 10 rfl
theorem d_BY_append_21 : decode M_BY_append.2.1 21 = .ok (.dup, 1) := fx_d (q := (21, .dup, 1)) D_BY_append 11 rfl
theorem d_BY_append_22 : decode M_BY_append.2.1 22 = .ok (.getfield 15, 3) := fx_d (q := (22, .getfield 15, 3)) D_BY_append 12 rfl
theorem d_BY_append_25 : decode M_BY_append.2.1 25 = .ok (.iconst 1, 1) := fx_d (q := (25, .iconst 1, 1)) D_BY_append 13 rfl
theorem d_BY_append_26 : decode M_BY_append.2.1 26 = .ok (.iadd, 1) := fx_d (q := (26, .iadd, 1)) D_BY_append 14 rfl
theorem d_BY_append_27 : decode M_BY_append.2.1 27 = .ok (.putfield 15, 3) := fx_d (q := (27, .putfield 15, 3)) D_BY_append 15 rfl
theorem d_BY_append_30 : decode M_BY_append.2.1 30 = .ok (.return_, 1) := fx_d (q := (30, .return_, 1)) D_BY_append 16 rfl
set_option maxRecDepth 100000 in
def L_BY_start : List (Nat × Instr × Nat) := [(0, .aload_n 0, 1), (1, .iconst 0, 1), (2, .putfield 15, 3), (5, .aload_n 0, 1), (6, .iconst 0, 1), (7, .putfield 44, 3), (10, .aload_n 0, 1), (11, .iload_n 1, 1), (12, .putfield 25, 3), (15, .aload_n 0, 1), (16, .aload_n 0, 1), (17, .getfield 25, 3), (20, .ifCond .eq 8, 3), (23, .bipush 77, 2), (25, .goto 5, 3), (28, .bipush 73, 2), (30, .invokevirtual 40, 3), (33, .aload_n 0, 1), (34, .aload_n 0, 1), (35, .getfield 25, 3), (38, .ifCond .eq 8, 3), (41, .bipush 77, 2), (43, .goto 5, 3), (46, .bipush 73, 2), (48, .invokevirtual 40, 3), (51, .aload_n 0, 1), (52, .iconst 2, 1), (53, .bipush 42, 2), (55, .invokevirtual 53, 3), (58, .aload_n 0, 1), (59, .iconst 4, 1), (60, .iconst 0, 1), (61, .invokevirtual 53, 3), (64, .return_, 1)]
set_option maxRecDepth 100000 in
theorem D_BY_start : ∀ q ∈ L_BY_start, decode prog_3_method_14_code q.1 = .ok q.2 := by decide +kernel
theorem d_BY_start_0 : decode M_BY_start.2.1 0 = .ok (.aload_n 0, 1) := fx_d (q := (0, .aload_n 0, 1)) D_BY_start 0 rfl
theorem d_BY_start_1 : decode M_BY_start.2.1 1 = .ok (.iconst 0, 1) := fx_d (q := (1, .iconst 0, 1)) D_BY_start 1 rfl
theorem d_BY_start_2 : decode M_BY_start.2.1 2 = .ok (.putfield 15, 3) := fx_d (q := (2, .putfield 15, 3)) D_BY_start 2 rfl
theorem d_BY_start_5 : decode M_BY_start.2.1 5 = .ok (.aload_n 0, 1) := fx_d (q := (5, .aload_n 0, 1)) D_BY_start 3 rfl
theorem d_BY_start_6 : decode M_BY_start.2.1 6 = .ok (.iconst 0, 1) := fx_d (q := (6, .iconst 0, 1)) D_BY_start 4 rfl
theorem d_BY_start_7 : decode M_BY_start.2.1 7 = .ok (.putfield 44, 3) := fx_d (q := (7, .putfield 44, 3)) D_BY_start 5 rfl
theorem d_BY_start_10 : decode M_BY_start.2.1 10 = .ok (.aload_n 0, 1) := fx_d (q := (10, .aload_n 0, 1)) D_BY_start 6 rfl
theorem d_BY_start_11 : decode M_BY_start.2.1 11 = .ok (.iload_n 1, 1) := fx_d (q := (11, .iload_n 1, 1)) D_BY_start 7 rfl
theorem d_BY_start_12 : decode M_BY_start.2.1 12 = .ok (.putfield 25, 3) := fx_d (q := (12, .putfield 25, 3)) D_BY_start 8 rfl
theorem d_BY_start_15 : decode M_BY_start.2.1 15 = .ok (.aload_n 0, 1) := fx_d (q := (15, .aload_n 0, 1)) D_BY_start 9 rfl
theorem d_BY_start_16 : decode M_BY_start.2.1 16 = .ok (.aload_n 0, 1) := fx_d (q := (16, .aload_n 0, 1)) D_BY_start 10 rfl
theorem d_BY_start_17 : decode M_BY_start.2.1 17 = .ok (.getfield 25, 3) := fx_d (q := (17, .getfield 25, 3)) D_BY_start 11 rfl
theorem d_BY_start_20 : decode M_BY_start.2.1 20 = .ok (.ifCond .eq 8, 3) := fx_d (q := (20, .ifCond .eq 8, 3)) D_BY_start 12 rfl
theorem d_BY_start_23 : decode M_BY_start.2.1 23 = .ok (.bipush 77, 2) := fx_d (q := (23, .bipush 77, 2)) D_BY_start 13 rfl
theorem d_BY_start_25 : decode M_BY_start.2.1 25 = .ok (.goto 5, 3) := fx_d (q := (25, .goto 5, 3)) D_BY_start 14 rfl
theorem d_BY_start_28 : decode M_BY_start.2.1 28 = .ok (.bipush 73, 2) := fx_d (q := (28, .bipush 73, 2)) D_BY_start 15 rfl
theorem d_BY_start_30 : decode M_BY_start.2.1 30 = .ok (.invokevirtual 40, 3) := fx_d (q := (30, .invokevirtual 40, 3)) D_BY_start 16 rfl
theorem d_BY_start_33 : decode M_BY_start.2.1 33 = .ok (.aload_n 0, 1) := fx_d (q := (33, .aload_n 0, 1)) D_BY_start 17 rfl
theorem d_BY_start_34 : decode M_BY_start.2.1 34 = .ok (.aload_n 0, 1) := fx_d (q := (34, .aload_n 0, 1)) D_BY_start 18 rfl
theorem d_BY_start_35 : decode M_BY_start.2.1 35 = .ok (.getfield 25, 3) := fx_d (q := (35, .getfield 25, 3)) D_BY_start 19 rfl
theorem d_BY_start_38 : decode M_BY_start.2.1 38 = .ok (.ifCond .eq 8, 3) := fx_d (q := (38, .ifCond .eq 8, 3)) D_BY_start 20 rfl
theorem d_BY_start_41 : decode M_BY_start.2.1 41 = .ok (.bipush 77, 2) := fx_d (q := (41, .bipush 77, 2)) D_BY_start 21 rfl
theorem d_BY_start_43 : decode M_BY_start.2.1 43 = .ok (.goto 5, 3) := fx_d (q := (43, .goto 5, 3)) D_BY_start 22 rfl
theorem d_BY_start_46 : decode M_BY_start.2.1 46 = .ok (.bipush 73, 2) := fx_d (q := (46, .bipush 73, 2)) D_BY_start 23 rfl
theorem d_BY_start_48 : decode M_BY_start.2.1 48 = .ok (.invokevirtual 40, 3) := fx_d (q := (48, .invokevirtual 40, 3)) D_BY_start 24 rfl
theorem d_BY_start_51 : decode M_BY_start.2.1 51 = .ok (.aload_n 0, 1) := fx_d (q := (51, .aload_n 0, 1)) D_BY_start 25 rfl
theorem d_BY_start_52 : decode M_BY_start.2.1 52 = .ok (.iconst 2, 1) := fx_d (q := (52, .iconst 2, 1)) D_BY_start 26 rfl
theorem d_BY_start_53 : decode M_BY_start.2.1 53 = .ok (.bipush 42, 2) := fx_d (q := (53, .bipush 42, 2)) D_BY_start 27 rfl
theorem d_BY_start_55 : decode M_BY_start.2.1 55 = .ok (.invokevirtual 53, 3) := fx_d (q := (55, .invokevirtual 53, 3)) D_BY_start 28 rfl
theorem d_BY_start_58 : decode M_BY_start.2.1 58 = .ok (.aload_n 0, 1) := fx_d (q := (58, .aload_n 0, 1)) D_BY_start 29 rfl
theorem d_BY_start_59 : decode M_BY_start.2.1 59 = .ok (.iconst 4, 1) := fx_d (q := (59, .iconst 4, 1)) D_BY_start 30 rfl
theorem d_BY_start_60 : decode M_BY_start.2.1 60 = .ok (.iconst 0, 1) := fx_d (q := (60, .iconst 0, 1)) D_BY_start 31 rfl
theorem d_BY_start_61 : decode M_BY_start.2.1 61 = .ok (.invokevirtual 53, 3) := fx_d (q := (61, .invokevirtual 53, 3)) D_BY_start 32 rfl
theorem d_BY_start_64 : decode M_BY_start.2.1 64 = .ok (.return_, 1) := fx_d (q := (64, .return_, 1)) D_BY_start 33 rfl
set_option maxRecDepth 100000 in
def L_BY_appendNumber : List (Nat × Instr × Nat) := [(0, .iconst 0, 1), (1, .istore_n 3, 1), (2, .iload_n 3, 1), (3, .iload_n 1, 1), (4, .if_icmp .ge 25, 3), (7, .aload_n 0, 1), (8, .iload_n 2, 1), (9, .aload_n 0, 1), (10, .iload_n 3, 1), (11, .iload_n 1, 1), (12, .invokevirtual 33, 3), (15, .ishr, 1), (16, .sipush 255, 3), (19, .iand, 1), (20, .invokevirtual 40, 3), (23, .iinc 3 1, 3), (26, .goto (-24), 3), (29, .return_, 1)]
set_option maxRecDepth 100000 in
theorem D_BY_appendNumber : ∀ q ∈ L_BY_appendNumber, decode prog_3_method_10_code q.1 = .ok q.2 := by decide +kernel
theorem d_BY_appendNumber_0 : decode M_BY_appendNumber.2.1 0 = .ok (.iconst 0, 1) := fx_d (q := (0, .iconst 0, 1)) D_BY_appendNumber 0 rfl
theorem d_BY_appendNumber_1 : decode M_BY_appendNumber.2.1 1 = .ok (.istore_n 3, 1) := fx_d (q := (1, .istore_n 3, 1)) D_BY_appendNumber 1 rfl
theorem d_BY_appendNumber_2 : decode M_BY_appendNumber.2.1 2 = .ok (.iload_n 3, 1) := fx_d (q := (2, .iload_n 3, 1)) D_BY_appendNumber 2 rfl
theorem d_BY_appendNumber_3 : decode M_BY_appendNumber.2.1 3 = .ok (.iload_n 1, 1) := fx_d (q := (3, .iload_n 1, 1)) D_BY_appendNumber 3 rfl
theorem d_BY_appendNumber_4 : decode M_BY_appendNumber.2.1 4 = .ok (.if_icmp .ge 25, 3) := fx_d (q := (4, .if_icmp .ge 25, 3)) D_BY_appendNumber 4 rfl
theorem d_BY_appendNumber_7 : decode M_BY_appendNumber.2.1 7 = .ok (.aload_n 0, 1) := fx_d (q := (7, .aload_n 0, 1)) D_BY_appendNumber 5 rfl
theorem d_BY_appendNumber_8 : decode M_BY_appendNumber.2.1 8 = .ok (.iload_n 2, 1) := fx_d (q := (8, .iload_n 2, 1)) D_BY_appendNumber 6 rfl
theorem d_BY_appendNumber_9 : decode M_BY_appendNumber.2.1 9 = .ok (.aload_n 0, 1) := fx_d (q := (9, .aload_n 0, 1)) D_BY_appendNumber 7 rfl
theorem d_BY_appendNumber_10 : decode M_BY_appendNumber.2.1 10 = .ok (.iload_n 3, 1) := fx_d (q := (10, .iload_n 3, 1)) D_BY_appendNumber 8 rfl
theorem d_BY_appendNumber_11 : decode M_BY_appendNumber.2.1 11 = .ok (.iload_n 1, 1) := fx_d (q := (11, .iload_n 1, 1)) D_BY_appendNumber 9 rfl
theorem d_BY_appendNumber_12 : decode M_BY_appendNumber.2.1 12 = .ok (.invokevirtual 33, 3) := fx_d (q := (12, .invokevirtual 33, 3)) D_BY_appendNumber 10 rfl
theorem d_BY_appendNumber_15 : decode M_BY_appendNumber.2.1 15 = .ok (.ishr, 1) := fx_d (q := (15, .ishr, 1)) D_BY_appendNumber 11 rfl
theorem d_BY_appendNumber_16 : decode M_BY_appendNumber.2.1 16 = .ok (.sipush 255, 3) := fx_d (q := (16, .sipush 255, 3)) D_BY_appendNumber 12 rfl
theorem d_BY_appendNumber_19 : decode M_BY_appendNumber.2.1 19 = .ok (.iand, 1) := fx_d (q := (19, .iand, 1)) D_BY_appendNumber 13 rfl
theorem d_BY_appendNumber_20 : decode M_BY_appendNumber.2.1 20 = .ok (.invokevirtual 40, 3) := fx_d (q := (20, .invokevirtual 40, 3)) D_BY_appendNumber 14 rfl
theorem d_BY_appendNumber_23 : decode M_BY_appendNumber.2.1 23 = .ok (.iinc 3 1, 3) := fx_d (q := (23, .iinc 3 1, 3)) D_BY_appendNumber 15 rfl
theorem d_BY_appendNumber_26 : decode M_BY_appendNumber.2.1 26 = .ok (.goto (-24), 3) := fx_d (q := (26, .goto (-24), 3)) D_BY_appendNumber 16 rfl
theorem d_BY_appendNumber_29 : decode M_BY_appendNumber.2.1 29 = .ok (.return_, 1) := fx_d (q := (29, .return_, 1)) D_BY_appendNumber 17 rfl
set_option maxRecDepth 100000 in
def L_BY_appendBits : List (Nat × Instr × Nat) := [(0, .iload_n 2, 1), (1, .iconst 1, 1), (2, .isub, 1), (3, .istore_n 3, 1), (4, .iload_n 3, 1), (5, .ifCond .lt 68, 3), (8, .aload_n 0, 1), (9, .getfield 44, 3), (12, .ifCond .ne 14, 3), (15, .aload_n 0, 1), (16, .iconst 0, 1), (17, .invokevirtual 40, 3), (20, .aload_n 0, 1), (21, .bipush 8, 2), (23, .putfield 44, 3), (26, .aload_n 0, 1), (27, .dup, 1), (28, .getfield 44, 3), (31, .iconst 1, 1), (32, .isub, 1), (33, .putfield 44, 3), (36, .aload_n 0, 1), (37, .aload_n 0, 1), (38, .getfield 15, 3), (41, .iconst 1, 1), (42, .isub, 1), (43, .aload_n 0, 1), (44, .aload_n 0, 1), (45, .getfield 15, 3), (48, .iconst 1, 1), (49, .isub, 1), (50, .invokevirtual 29, 3), (53, .iload_n 1, 1), (54, .iload_n 3, 1), (55, .ishr, 1), (56, .iconst 1, 1), (57, .iand, 1), (58, .aload_n 0, 1), (59, .getfield 44, 3), (62, .ishl, 1), (63, .ior, 1), (64, .invokevirtual 36, 3), (67, .iinc 3 (-1), 3), (70, .goto (-66), 3), (73, .return_, 1)]
set_option maxRecDepth 100000 in
theorem D_BY_appendBits : ∀ q ∈ L_BY_appendBits, decode prog_3_method_11_code q.1 = .ok q.2 := by decide +kernel
theorem d_BY_appendBits_0 : decode M_BY_appendBits.2.1 0 = .ok (.iload_n 2, 1) := fx_d (q := (0, .iload_n 2, 1)) D_BY_appendBits 0 rfl
theorem d_BY_appendBits_1 : decode M_BY_appendBits.2.1 1 = .ok (.iconst 1, 1) := fx_d (q := (1, .iconst 1, 1)) D_BY_appendBits 1 rfl
theorem d_BY_appendBits_2 : decode M_BY_appendBits.2.1 2 = .ok (.isub, 1) := fx_d (q := (2, .isub, 1)) D_BY_appendBits 2 rfl
theorem d_BY_appendBits_3 : decode M_BY_appendBits.2.1 3 = .ok (.istore_n 3, 1) := fx_d (q := (3, .istore_n 3, 1)) D_BY_appendBits 3 rfl
theorem d_BY_appendBits_4 : decode M_BY_appendBits.2.1 4 = .ok (.iload_n 3, 1) := fx_d (q := (4, .iload_n 3, 1)) D_BY_appendBits 4 rfl
theorem d_BY_appendBits_5 : decode M_BY_appendBits.2.1 5 = .ok (.ifCond .lt 68, 3) := fx_d (q := (5, .ifCond .lt 68, 3)) D_BY_appendBits 5 rfl
theorem d_BY_appendBits_8 : decode M_BY_appendBits.2.1 8 = .ok (.aload_n 0, 1) := fx_d (q := (8, .aload_n 0, 1)) D_BY_appendBits 6 rfl
theorem d_BY_appendBits_9 : decode M_BY_appendBits.2.1 9 = .ok (.getfield 44, 3) := fx_d (q := (9, .getfield 44, 3)) D_BY_appendBits 7 rfl
theorem d_BY_appendBits_12 : decode M_BY_appendBits.2.1 12 = .ok (.ifCond .ne 14, 3) := fx_d (q := (12, .ifCond .ne 14, 3)) D_BY_appendBits 8 rfl
theorem d_BY_appendBits_15 : decode M_BY_appendBits.2.1 15 = .ok (.aload_n 0, 1) := fx_d (q := (15, .aload_n 0, 1)) D_BY_appendBits 9 rfl
theorem d_BY_appendBits_16 : decode M_BY_appendBits.2.1 16 = .ok (.iconst 0, 1) := fx_d (q := (16, .iconst 0, 1)) D_BY_appendBits 10 rfl
theorem d_BY_appendBits_17 : decode M_BY_appendBits.2.1 17 = .ok (.invokevirtual 40, 3) := fx_d (q := (17, .invokevirtual 40, 3)) D_BY_appendBits 11 rfl
theorem d_BY_appendBits_20 : decode M_BY_appendBits.2.1 20 = .ok (.aload_n 0, 1) := fx_d (q := (20, .aload_n 0, 1)) D_BY_appendBits 12 rfl
theorem d_BY_appendBits_21 : decode M_BY_appendBits.2.1 21 = .ok (.bipush 8, 2) := fx_d (q := (21, .bipush 8, 2)) D_BY_appendBits 13 rfl
theorem d_BY_appendBits_23 : decode M_BY_appendBits.2.1 23 = .ok (.putfield 44, 3) := fx_d (q := (23, .putfield 44, 3)) D_BY_appendBits 14 rfl
theorem d_BY_appendBits_26 : decode M_BY_appendBits.2.1 26 = .ok (.aload_n 0, 1) := fx_d (q := (26, .aload_n 0, 1)) D_BY_appendBits 15 rfl
theorem d_BY_appendBits_27 : decode M_BY_appendBits.2.1 27 = .ok (.dup, 1) := fx_d (q := (27, .dup, 1)) D_BY_appendBits 16 rfl
theorem d_BY_appendBits_28 : decode M_BY_appendBits.2.1 28 = .ok (.getfield 44, 3) := fx_d (q := (28, .getfield 44, 3)) D_BY_appendBits 17 rfl
theorem d_BY_appendBits_31 : decode M_BY_appendBits.2.1 31 = .ok (.iconst 1, 1) := fx_d (q := (31, .iconst 1, 1)) D_BY_appendBits 18 rfl
theorem d_BY_appendBits_32 : decode M_BY_appendBits.2.1 32 = .ok (.isub, 1) := fx_d (q := (32, .isub, 1)) D_BY_appendBits 19 rfl
theorem d_BY_appendBits_33 : decode M_BY_appendBits.2.1 33 = .ok (.putfield 44, 3) := fx_d (q := (33, .putfield 44, 3)) D_BY_appendBits 20 rfl
theorem d_BY_appendBits_36 : decode M_BY_appendBits.2.1 36 = .ok (.aload_n 0, 1) := fx_d (q := (36, .aload_n 0, 1)) D_BY_appendBits 21 rfl
theorem d_BY_appendBits_37 : decode M_BY_appendBits.2.1 37 = .ok (.aload_n 0, 1) := fx_d (q := (37, .aload_n 0, 1)) D_BY_appendBits 22 rfl
theorem d_BY_appendBits_38 : decode M_BY_appendBits.2.1 38 = .ok (.getfield 15, 3) := fx_d (q := (38, .getfield 15, 3)) D_BY_appendBits 23 rfl
theorem d_BY_appendBits_41 : decode M_BY_appendBits.2.1 41 = .ok (.iconst 1, 1) := fx_d (q := (41, .iconst 1, 1)) D_BY_appendBits 24 rfl
theorem d_BY_appendBits_42 : decode M_BY_appendBits.2.1 42 = .ok (.isub, 1) := fx_d (q := (42, .isub, 1)) D_BY_appendBits 25 rfl
theorem d_BY_appendBits_43 : decode M_BY_appendBits.2.1 43 = .ok (.aload_n 0, 1) := fx_d (q := (43, .aload_n 0, 1)) D_BY_appendBits 26 rfl
theorem d_BY_appendBits_44 : decode M_BY_appendBits.2.1 44 = .ok (.aload_n 0, 1) := fx_d (q := (44, .aload_n 0, 1)) D_BY_appendBits 27 rfl
theorem d_BY_appendBits_45 : decode M_BY_appendBits.2.1 45 = .ok (.getfield 15, 3) := fx_d (q := (45, .getfield 15, 3)) D_BY_appendBits 28 rfl
theorem d_BY_appendBits_48 : decode M_BY_appendBits.2.1 48 = .ok (.iconst 1, 1) := fx_d (q := (48, .iconst 1, 1)) D_BY_appendBits 29 rfl
theorem d_BY_appendBits_49 : decode M_BY_appendBits.2.1 49 = .ok (.isub, 1) := fx_d (q := (49, .isub, 1)) D_BY_appendBits 30 rfl
theorem d_BY_appendBits_50 : decode M_BY_appendBits.2.1 50 = .ok (.invokevirtual 29, 3) := fx_d (q := (50, .invokevirtual 29, 3)) D_BY_appendBits 31 rfl
theorem d_BY_appendBits_53 : decode M_BY_appendBits.2.1 53 = .ok (.iload_n 1, 1) := fx_d (q := (53, .iload_n 1, 1)) D_BY_appendBits 32 rfl
theorem d_BY_appendBits_54 : decode M_BY_appendBits.2.1 54 = .ok (.iload_n 3, 1) := fx_d (q := (54, .iload_n 3, 1)) D_BY_appendBits 33 rfl
theorem d_BY_appendBits_55 : decode M_BY_appendBits.2.1 55 = .ok (.ishr, 1) := fx_d (q := (55, .ishr, 1)) D_BY_appendBits 34 rfl
theorem d_BY_appendBits_56 : decode M_BY_appendBits.2.1 56 = .ok (.iconst 1, 1) := fx_d (q := (56, .iconst 1, 1)) D_BY_appendBits 35 rfl
theorem d_BY_appendBits_57 : decode M_BY_appendBits.2.1 57 = .ok (.iand, 1) := fx_d (q := (57, .iand, 1)) D_BY_appendBits 36 rfl
theorem d_BY_appendBits_58 : decode M_BY_appendBits.2.1 58 = .ok (.aload_n 0, 1) := fx_d (q := (58, .aload_n 0, 1)) D_BY_appendBits 37 rfl
theorem d_BY_appendBits_59 : decode M_BY_appendBits.2.1 59 = .ok (.getfield 44, 3) := fx_d (q := (59, .getfield 44, 3)) D_BY_appendBits 38 rfl
theorem d_BY_appendBits_62 : decode M_BY_appendBits.2.1 62 = .ok (.ishl, 1) := fx_d (q := (62, .ishl, 1)) D_BY_appendBits 39 rfl
theorem d_BY_appendBits_63 : decode M_BY_appendBits.2.1 63 = .ok (.ior, 1) := fx_d (q := (63, .ior, 1)) D_BY_appendBits 40 rfl
theorem d_BY_appendBits_64 : decode M_BY_appendBits.2.1 64 = .ok (.invokevirtual 36, 3) := fx_d (q := (64, .invokevirtual 36, 3)) D_BY_appendBits 41 rfl
theorem d_BY_appendBits_67 : decode M_BY_appendBits.2.1 67 = .ok (.iinc 3 (-1), 3) := fx_d (q := (67, .iinc 3 (-1), 3)) D_BY_appendBits 42 rfl
theorem d_BY_appendBits_70 : decode M_BY_appendBits.2.1 70 = .ok (.goto (-66), 3) := fx_d (q := (70, .goto (-66), 3)) D_BY_appendBits 43 rfl
theorem d_BY_appendBits_73 : decode M_BY_appendBits.2.1 73 = .ok (.return_, 1) := fx_d (q := (73, .return_, 1)) D_BY_appendBits 44 rfl
set_option maxRecDepth 100000 in
def L_BY_change : List (Nat × Instr × Nat) := [(0, .iload_n 1, 1), (1, .ifCond .lt 18, 3), (4, .iload_n 1, 1), (5, .aload_n 0, 1), (6, .getfield 15, 3), (9, .if_icmp .ge 10, 3), (12, .aload_n 0, 1), (13, .getfield 9, 3), (16, .iload_n 1, 1), (17, .iload_n 2, 1), (18, .iastore, 1), (19, .return_, 1)]
set_option maxRecDepth 100000 in
theorem D_BY_change : ∀ q ∈ L_BY_change, decode prog_3_method_4_code q.1 = .ok q.2 := by decide +kernel
theorem d_BY_change_0 : decode M_BY_change.2.1 0 = .ok (.iload_n 1, 1) := fx_d (q := (0, .iload_n 1, 1)) D_BY_change 0 rfl
theorem d_BY_change_1 : decode M_BY_change.2.1 1 = .ok (.ifCond .lt 18, 3) := fx_d (q := (1, .ifCond .lt 18, 3)) D_BY_change 1 rfl
theorem d_BY_change_4 : decode M_BY_change.2.1 4 = .ok (.iload_n 1, 1) := fx_d (q := (4, .iload_n 1, 1)) D_BY_change 2 rfl
theorem d_BY_change_5 : decode M_BY_change.2.1 5 = .ok (.aload_n 0, 1) := fx_d (q := (5, .aload_n 0, 1)) D_BY_change 3 rfl
theorem d_BY_change_6 : decode M_BY_change.2.1 6 = .ok (.getfield 15, 3) := fx_d (q := (6, .getfield 15, 3)) D_BY_change 4 rfl
theorem d_BY_change_9 : decode M_BY_change.2.1 9 = .ok (.if_icmp .ge 10, 3) := fx_d (q := (9, .if_icmp .ge 10, 3)) D_BY_change 5 rfl
theorem d_BY_change_12 : decode M_BY_change.2.1 12 = .ok (.aload_n 0, 1) := fx_d (q := (12, .aload_n 0, 1)) D_BY_change 6 rfl
theorem d_BY_change_13 : decode M_BY_change.2.1 13 = .ok (.getfield 9, 3) := fx_d (q := (13, .getfield 9, 3)) D_BY_change 7 rfl
theorem d_BY_change_16 : decode M_BY_change.2.1 16 = .ok (.iload_n 1, 1) := fx_d (q := (16, .iload_n 1, 1)) D_BY_change 8 rfl
theorem d_BY_change_17 : decode M_BY_change.2.1 17 = .ok (.iload_n 2, 1) := fx_d (q := (17, .iload_n 2, 1)) D_BY_change 9 rfl
theorem d_BY_change_18 : decode M_BY_change.2.1 18 = .ok (.iastore, 1) := fx_d (q := (18, .iastore, 1)) D_BY_change 10 rfl
theorem d_BY_change_19 : decode M_BY_change.2.1 19 = .ok (.return_, 1) := fx_d (q := (19, .return_, 1)) D_BY_change 11 rfl
set_option maxRecDepth 100000 in
def L_BY_appendCode : List (Nat × Instr × Nat) := [(0, .aload_n 0, 1), (1, .iload_n 1, 1), (2, .iload_n 1, 1), (3, .invokestatic 47, 3), (6, .invokevirtual 50, 3), (9, .return_, 1)]
set_option maxRecDepth 100000 in
theorem D_BY_appendCode : ∀ q ∈ L_BY_appendCode, decode prog_3_method_12_code q.1 = .ok q.2 := by decide +kernel
theorem d_BY_appendCode_0 : decode M_BY_appendCode.2.1 0 = .ok (.aload_n 0, 1) := fx_d (q := (0, .aload_n 0, 1)) D_BY_appendCode 0 rfl
theorem d_BY_appendCode_1 : decode M_BY_appendCode.2.1 1 = .ok (.iload_n 1, 1) := fx_d (q := (1, .iload_n 1, 1)) D_BY_appendCode 1 rfl
theorem d_BY_appendCode_2 : decode M_BY_appendCode.2.1 2 = .ok (.iload_n 1, 1) := fx_d (q := (2, .iload_n 1, 1)) D_BY_appendCode 2 rfl
theorem d_BY_appendCode_3 : decode M_BY_appendCode.2.1 3 = .ok (.invokestatic 47, 3) := fx_d (q := (3, .invokestatic 47, 3)) D_BY_appendCode 3 rfl
theorem d_BY_appendCode_6 : decode M_BY_appendCode.2.1 6 = .ok (.invokevirtual 50, 3) := fx_d (q := (6, .invokevirtual 50, 3)) D_BY_appendCode 4 rfl
theorem d_BY_appendCode_9 : decode M_BY_appendCode.2.1 9 = .ok (.return_, 1) := fx_d (q := (9, .return_, 1)) D_BY_appendCode 5 rfl
set_option maxRecDepth 100000 in
def L_BY_endBits : List (Nat × Instr × Nat) := [(0, .aload_n 0, 1), (1, .iconst 0, 1), (2, .putfield 44, 3), (5, .return_, 1)]
set_option maxRecDepth 100000 in
theorem D_BY_endBits : ∀ q ∈ L_BY_endBits, decode prog_3_method_13_code q.1 = .ok q.2 := by decide +kernel
theorem d_BY_endBits_0 : decode M_BY_endBits.2.1 0 = .ok (.aload_n 0, 1) := fx_d (q := (0, .aload_n 0, 1)) D_BY_endBits 0 rfl
theorem d_BY_endBits_1 : decode M_BY_endBits.2.1 1 = .ok (.iconst 0, 1) := fx_d (q := (1, .iconst 0, 1)) D_BY_endBits 1 rfl
theorem d_BY_endBits_2 : decode M_BY_endBits.2.1 2 = .ok (.putfield 44, 3) := fx_d (q := (2, .putfield 44, 3)) D_BY_endBits 2 rfl
theorem d_BY_endBits_5 : decode M_BY_endBits.2.1 5 = .ok (.return_, 1) := fx_d (q := (5, .return_, 1)) D_BY_endBits 3 rfl
set_option maxRecDepth 100000 in
def L_BY_changeNumber : List (Nat × Instr × Nat) := [(0, .iconst 0, 1), (1, .istore 4, 2), (3, .iload 4, 2), (5, .iload_n 2, 1), (6, .if_icmp .ge 30, 3), (9, .aload_n 0, 1), (10, .iload_n 1, 1), (11, .iload 4, 2), (13, .iadd, 1), (14, .iload_n 3, 1), (15, .aload_n 0, 1), (16, .iload 4, 2), (18, .iload_n 2, 1), (19, .invokevirtual 33, 3), (22, .ishr, 1), (23, .sipush 255, 3), (26, .iand, 1), (27, .invokevirtual 36, 3), (30, .iinc 4 1, 3), (33, .goto (-30), 3), (36, .return_, 1)]
set_option maxRecDepth 100000 in
theorem D_BY_changeNumber : ∀ q ∈ L_BY_changeNumber, decode prog_3_method_9_code q.1 = .ok q.2 := by decide +kernel
theorem d_BY_changeNumber_0 : decode M_BY_changeNumber.2.1 0 = .ok (.iconst 0, 1) := fx_d (q := (0, .iconst 0, 1)) D_BY_changeNumber 0 rfl
theorem d_BY_changeNumber_1 : decode M_BY_changeNumber.2.1 1 = .ok (.istore 4, 2) := fx_d (q := (1, .istore 4, 2)) D_BY_changeNumber 1 rfl
theorem d_BY_changeNumber_3 : decode M_BY_changeNumber.2.1 3 = .ok (.iload 4, 2) := fx_d (q := (3, .iload 4, 2)) D_BY_changeNumber 2 rfl
theorem d_BY_changeNumber_5 : decode M_BY_changeNumber.2.1 5 = .ok (.iload_n 2, 1) := fx_d (q := (5, .iload_n 2, 1)) D_BY_changeNumber 3 rfl
theorem d_BY_changeNumber_6 : decode M_BY_changeNumber.2.1 6 = .ok (.if_icmp .ge 30, 3) := fx_d (q := (6, .if_icmp .ge 30, 3)) D_BY_changeNumber 4 rfl
theorem d_BY_changeNumber_9 : decode M_BY_changeNumber.2.1 9 = .ok (.aload_n 0, 1) := fx_d (q := (9, .aload_n 0, 1)) D_BY_changeNumber 5 rfl
theorem d_BY_changeNumber_10 : decode M_BY_changeNumber.2.1 10 = .ok (.iload_n 1, 1) := fx_d (q := (10, .iload_n 1, 1)) D_BY_changeNumber 6 rfl
theorem d_BY_changeNumber_11 : decode M_BY_changeNumber.2.1 11 = .ok (.iload 4, 2) := fx_d (q := (11, .iload 4, 2)) D_BY_changeNumber 7 rfl
theorem d_BY_changeNumber_13 : decode M_BY_changeNumber.2.1 13 = .ok (.iadd, 1) := fx_d (q := (13, .iadd, 1)) D_BY_changeNumber 8 rfl
theorem d_BY_changeNumber_14 : decode M_BY_changeNumber.2.1 14 = .ok (.iload_n 3, 1) := fx_d (q := (14, .iload_n 3, 1)) D_BY_changeNumber 9 rfl
theorem d_BY_changeNumber_15 : decode M_BY_changeNumber.2.1 15 = .ok (.aload_n 0, 1) := fx_d (q := (15, .aload_n 0, 1)) D_BY_changeNumber 10 rfl
theorem d_BY_changeNumber_16 : decode M_BY_changeNumber.2.1 16 = .ok (.iload 4, 2) := fx_d (q := (16, .iload 4, 2)) D_BY_changeNumber 11 rfl
theorem d_BY_changeNumber_18 : decode M_BY_changeNumber.2.1 18 = .ok (.iload_n 2, 1) := fx_d (q := (18, .iload_n 2, 1)) D_BY_changeNumber 12 rfl
theorem d_BY_changeNumber_19 : decode M_BY_changeNumber.2.1 19 = .ok (.invokevirtual 33, 3) := fx_d (q := (19, .invokevirtual 33, 3)) D_BY_changeNumber 13 rfl
theorem d_BY_changeNumber_22 : decode M_BY_changeNumber.2.1 22 = .ok (.ishr, 1) := fx_d (q := (22, .ishr, 1)) D_BY_changeNumber 14 rfl
theorem d_BY_changeNumber_23 : decode M_BY_changeNumber.2.1 23 = .ok (.sipush 255, 3) := fx_d (q := (23, .sipush 255, 3)) D_BY_changeNumber 15 rfl
theorem d_BY_changeNumber_26 : decode M_BY_changeNumber.2.1 26 = .ok (.iand, 1) := fx_d (q := (26, .iand, 1)) D_BY_changeNumber 16 rfl
theorem d_BY_changeNumber_27 : decode M_BY_changeNumber.2.1 27 = .ok (.invokevirtual 36, 3) := fx_d (q := (27, .invokevirtual 36, 3)) D_BY_changeNumber 17 rfl
theorem d_BY_changeNumber_30 : decode M_BY_changeNumber.2.1 30 = .ok (.iinc 4 1, 3) := fx_d (q := (30, .iinc 4 1, 3)) D_BY_changeNumber 18 rfl
theorem d_BY_changeNumber_33 : decode M_BY_changeNumber.2.1 33 = .ok (.goto (-30), 3) := fx_d (q := (33, .goto (-30), 3)) D_BY_changeNumber 19 rfl
theorem d_BY_changeNumber_36 : decode M_BY_changeNumber.2.1 36 = .ok (.return_, 1) := fx_d (q := (36, .return_, 1)) D_BY_changeNumber 20 rfl
set_option maxRecDepth 100000 in
def L_BY_keep : List (Nat × Instr × Nat) := [(0, .aload_n 0, 1), (1, .aload_n 0, 1), (2, .getfield 15, 3), (5, .iload_n 1, 1), (6, .invokestatic 19, 3), (9, .putfield 15, 3), (12, .return_, 1)]
set_option maxRecDepth 100000 in
theorem D_BY_keep : ∀ q ∈ L_BY_keep, decode prog_3_method_6_code q.1 = .ok q.2 := by decide +kernel
theorem d_BY_keep_0 : decode M_BY_keep.2.1 0 = .ok (.aload_n 0, 1) := fx_d (q := (0, .aload_n 0, 1)) D_BY_keep 0 rfl
theorem d_BY_keep_1 : decode M_BY_keep.2.1 1 = .ok (.aload_n 0, 1) := fx_d (q := (1, .aload_n 0, 1)) D_BY_keep 1 rfl
theorem d_BY_keep_2 : decode M_BY_keep.2.1 2 = .ok (.getfield 15, 3) := fx_d (q := (2, .getfield 15, 3)) D_BY_keep 2 rfl
theorem d_BY_keep_5 : decode M_BY_keep.2.1 5 = .ok (.iload_n 1, 1) := fx_d (q := (5, .iload_n 1, 1)) D_BY_keep 3 rfl
theorem d_BY_keep_6 : decode M_BY_keep.2.1 6 = .ok (.invokestatic 19, 3) := fx_d (q := (6, .invokestatic 19, 3)) D_BY_keep 4 rfl
theorem d_BY_keep_9 : decode M_BY_keep.2.1 9 = .ok (.putfield 15, 3) := fx_d (q := (9, .putfield 15, 3)) D_BY_keep 5 rfl
theorem d_BY_keep_12 : decode M_BY_keep.2.1 12 = .ok (.return_, 1) := fx_d (q := (12, .return_, 1)) D_BY_keep 6 rfl
