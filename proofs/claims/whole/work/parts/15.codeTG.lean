set_option maxRecDepth 100000 in
def L_TG_init : List (Nat × Instr × Nat) := [(0, .aload_n 0, 1), (1, .invokespecial 3, 3), (4, .aload_n 0, 1), (5, .aload_n 1, 1), (6, .putfield 9, 3), (9, .aload_n 0, 1), (10, .getstatic 15, 3), (13, .arraylength, 1), (14, .newarray .int, 2), (16, .putfield 19, 3), (19, .return_, 1)]
set_option maxRecDepth 100000 in
theorem D_TG_init : ∀ q ∈ L_TG_init, decode prog_12_method_1_code q.1 = .ok q.2 := by decide +kernel
theorem d_TG_init_0 : decode M_TG_init.2.1 0 = .ok (.aload_n 0, 1) := fx_d (q := (0, .aload_n 0, 1)) D_TG_init 0 rfl
theorem d_TG_init_1 : decode M_TG_init.2.1 1 = .ok (.invokespecial 3, 3) := fx_d (q := (1, .invokespecial 3, 3)) D_TG_init 1 rfl
theorem d_TG_init_4 : decode M_TG_init.2.1 4 = .ok (.aload_n 0, 1) := fx_d (q := (4, .aload_n 0, 1)) D_TG_init 2 rfl
theorem d_TG_init_5 : decode M_TG_init.2.1 5 = .ok (.aload_n 1, 1) := fx_d (q := (5, .aload_n 1, 1)) D_TG_init 3 rfl
theorem d_TG_init_6 : decode M_TG_init.2.1 6 = .ok (.putfield 9, 3) := fx_d (q := (6, .putfield 9, 3)) D_TG_init 4 rfl
theorem d_TG_init_9 : decode M_TG_init.2.1 9 = .ok (.aload_n 0, 1) := fx_d (q := (9, .aload_n 0, 1)) D_TG_init 5 rfl
theorem d_TG_init_10 : decode M_TG_init.2.1 10 = .ok (.getstatic 15, 3) := fx_d (q := (10, .getstatic 15, 3)) D_TG_init 6 rfl
theorem d_TG_init_13 : decode M_TG_init.2.1 13 = .ok (.arraylength, 1) := fx_d (q := (13, .arraylength, 1)) D_TG_init 7 rfl
theorem d_TG_init_14 : decode M_TG_init.2.1 14 = .ok (.newarray .int, 2) := fx_d (q := (14, .newarray .int, 2)) D_TG_init 8 rfl
theorem d_TG_init_16 : decode M_TG_init.2.1 16 = .ok (.putfield 19, 3) := fx_d (q := (16, .putfield 19, 3)) D_TG_init 9 rfl
theorem d_TG_init_19 : decode M_TG_init.2.1 19 = .ok (.return_, 1) := fx_d (q := (19, .return_, 1)) D_TG_init 10 rfl
set_option maxRecDepth 100000 in
def L_TG_understand : List (Nat × Instr × Nat) := [(0, .aload_n 0, 1), (1, .invokevirtual 22, 3), (4, .ifCond .eq 28, 3), (7, .aload_n 0, 1), (8, .invokevirtual 26, 3), (11, .ifCond .eq 21, 3), (14, .aload_n 0, 1), (15, .invokevirtual 29, 3), (18, .ifCond .eq 14, 3), (21, .aload_n 0, 1), (22, .invokevirtual 32, 3), (25, .ifCond .eq 7, 3), (28, .iconst 1, 1), (29, .goto 4, 3), (32, .iconst 0, 1), (33, .ireturn, 1)]
set_option maxRecDepth 100000 in
theorem D_TG_understand : ∀ q ∈ L_TG_understand, decode prog_12_method_2_code q.1 = .ok q.2 := by decide +kernel
theorem d_TG_understand_0 : decode M_TG_understand.2.1 0 = .ok (.aload_n 0, 1) := fx_d (q := (0, .aload_n 0, 1)) D_TG_understand 0 rfl
theorem d_TG_understand_1 : decode M_TG_understand.2.1 1 = .ok (.invokevirtual 22, 3) := fx_d (q := (1, .invokevirtual 22, 3)) D_TG_understand 1 rfl
theorem d_TG_understand_4 : decode M_TG_understand.2.1 4 = .ok (.ifCond .eq 28, 3) := fx_d (q := (4, .ifCond .eq 28, 3)) D_TG_understand 2 rfl
theorem d_TG_understand_7 : decode M_TG_understand.2.1 7 = .ok (.aload_n 0, 1) := fx_d (q := (7, .aload_n 0, 1)) D_TG_understand 3 rfl
theorem d_TG_understand_8 : decode M_TG_understand.2.1 8 = .ok (.invokevirtual 26, 3) := fx_d (q := (8, .invokevirtual 26, 3)) D_TG_understand 4 rfl
theorem d_TG_understand_11 : decode M_TG_understand.2.1 11 = .ok (.ifCond .eq 21, 3) := fx_d (q := (11, .ifCond .eq 21, 3)) D_TG_understand 5 rfl
theorem d_TG_understand_14 : decode M_TG_understand.2.1 14 = .ok (.aload_n 0, 1) := fx_d (q := (14, .aload_n 0, 1)) D_TG_understand 6 rfl
theorem d_TG_understand_15 : decode M_TG_understand.2.1 15 = .ok (.invokevirtual 29, 3) := fx_d (q := (15, .invokevirtual 29, 3)) D_TG_understand 7 rfl
theorem d_TG_understand_18 : decode M_TG_understand.2.1 18 = .ok (.ifCond .eq 14, 3) := fx_d (q := (18, .ifCond .eq 14, 3)) D_TG_understand 8 rfl
theorem d_TG_understand_21 : decode M_TG_understand.2.1 21 = .ok (.aload_n 0, 1) := fx_d (q := (21, .aload_n 0, 1)) D_TG_understand 9 rfl
theorem d_TG_understand_22 : decode M_TG_understand.2.1 22 = .ok (.invokevirtual 32, 3) := fx_d (q := (22, .invokevirtual 32, 3)) D_TG_understand 10 rfl
theorem d_TG_understand_25 : decode M_TG_understand.2.1 25 = .ok (.ifCond .eq 7, 3) := fx_d (q := (25, .ifCond .eq 7, 3)) D_TG_understand 11 rfl
theorem d_TG_understand_28 : decode M_TG_understand.2.1 28 = .ok (.iconst 1, 1) := fx_d (q := (28, .iconst 1, 1)) D_TG_understand 12 rfl
theorem d_TG_understand_29 : decode M_TG_understand.2.1 29 = .ok (.goto 4, 3) := fx_d (q := (29, .goto 4, 3)) D_TG_understand 13 rfl
theorem d_TG_understand_32 : decode M_TG_understand.2.1 32 = .ok (.iconst 0, 1) := fx_d (q := (32, .iconst 0, 1)) D_TG_understand 14 rfl
theorem d_TG_understand_33 : decode M_TG_understand.2.1 33 = .ok (.ireturn, 1) := fx_d (q := (33, .ireturn, 1)) D_TG_understand 15 rfl
set_option maxRecDepth 100000 in
def L_TG_findTags : List (Nat × Instr × Nat) := [(0, .aload_n 0, 1), (1, .getfield 19, 3), (4, .iconst (-1), 1), (5, .invokestatic 35, 3), (8, .aload_n 0, 1), (9, .getfield 9, 3), (12, .iconst 4, 1), (13, .iconst 4, 1), (14, .invokevirtual 41, 3), (17, .lstore_n 1, 1), (18, .lload_n 1, 1), (19, .ldc2_w 47, 3), (22, .ladd, 1), (23, .aload_n 0, 1), (24, .getfield 9, 3), (27, .getfield 49, 3), (30, .i2l, 1), (31, .lcmp, 1), (32, .ifCond .le 5, 3), (35, .iconst 0, 1), (36, .ireturn, 1), (37, .aload_n 0, 1), (38, .getfield 9, 3), (41, .lload_n 1, 1), (42, .l2i, 1), (43, .iconst 2, 1), (44, .invokevirtual 41, 3), (47, .l2i, 1), (48, .istore_n 3, 1), (49, .lload_n 1, 1), (50, .l2i, 1), (51, .iconst 2, 1), (52, .iadd, 1), (53, .istore 4, 2), (55, .iload 4, 2), (57, .iload_n 3, 1), (58, .bipush 12, 2), (60, .imul, 1), (61, .iadd, 1), (62, .istore 5, 2), (64, .iload 5, 2), (66, .iconst 4, 1), (67, .iadd, 1), (68, .aload_n 0, 1), (69, .getfield 9, 3), (72, .getfield 49, 3), (75, .if_icmp .gt 18, 3), (78, .aload_n 0, 1), (79, .getfield 9, 3), (82, .iload 5, 2), (84, .iconst 4, 1), (85, .invokevirtual 41, 3), (88, .lconst 0, 1), (89, .lcmp, 1), (90, .ifCond .eq 5, 3), (93, .iconst 0, 1), (94, .ireturn, 1), (95, .iconst (-1), 1), (96, .istore 6, 2), (98, .iconst 0, 1), (99, .istore 7, 2), (101, .iload 7, 2), (103, .iload_n 3, 1), (104, .if_icmp .ge 55, 3), (107, .aload_n 0, 1), (108, .getfield 9, 3), (111, .iload 4, 2), (113, .iload 7, 2), (115, .bipush 12, 2), (117, .imul, 1), (118, .iadd, 1), (119, .iconst 2, 1), (120, .invokevirtual 41, 3), (123, .l2i, 1), (124, .istore 8, 2), (126, .iload 8, 2), (128, .iload 6, 2), (130, .if_icmp .gt 5, 3), (133, .iconst 0, 1), (134, .ireturn, 1), (135, .aload_n 0, 1), (136, .iload 8, 2), (138, .iload 4, 2), (140, .iload 7, 2), (142, .bipush 12, 2), (144, .imul, 1), (145, .iadd, 1), (146, .invokevirtual 53, 3), (149, .iload 8, 2), (151, .istore 6, 2), (153, .iinc 7 1, 3), (156, .goto (-55), 3), (159, .iconst 1, 1), (160, .ireturn, 1)]
set_option maxRecDepth 100000 in
theorem D_TG_findTags : ∀ q ∈ L_TG_findTags, decode prog_12_method_3_code q.1 = .ok q.2 := by decide +kernel
theorem d_TG_findTags_0 : decode M_TG_findTags.2.1 0 = .ok (.aload_n 0, 1) := fx_d (q := (0, .aload_n 0, 1)) D_TG_findTags 0 rfl
theorem d_TG_findTags_1 : decode M_TG_findTags.2.1 1 = .ok (.getfield 19, 3) := fx_d (q := (1, .getfield 19, 3)) D_TG_findTags 1 rfl
theorem d_TG_findTags_4 : decode M_TG_findTags.2.1 4 = .ok (.iconst (-1), 1) := fx_d (q := (4, .iconst (-1), 1)) D_TG_findTags 2 rfl
theorem d_TG_findTags_5 : decode M_TG_findTags.2.1 5 = .ok (.invokestatic 35, 3) := fx_d (q := (5, .invokestatic 35, 3)) D_TG_findTags 3 rfl
theorem d_TG_findTags_8 : decode M_TG_findTags.2.1 8 = .ok (.aload_n 0, 1) := fx_d (q := (8, .aload_n 0, 1)) D_TG_findTags 4 rfl
theorem d_TG_findTags_9 : decode M_TG_findTags.2.1 9 = .ok (.getfield 9, 3) := fx_d (q := (9, .getfield 9, 3)) D_TG_findTags 5 rfl
theorem d_TG_findTags_12 : decode M_TG_findTags.2.1 12 = .ok (.iconst 4, 1) := fx_d (q := (12, .iconst 4, 1)) D_TG_findTags 6 rfl
theorem d_TG_findTags_13 : decode M_TG_findTags.2.1 13 = .ok (.iconst 4, 1) := fx_d (q := (13, .iconst 4, 1)) D_TG_findTags 7 rfl
theorem d_TG_findTags_14 : decode M_TG_findTags.2.1 14 = .ok (.invokevirtual 41, 3) := fx_d (q := (14, .invokevirtual 41, 3)) D_TG_findTags 8 rfl
theorem d_TG_findTags_17 : decode M_TG_findTags.2.1 17 = .ok (.lstore_n 1, 1) := fx_d (q := (17, .lstore_n 1, 1)) D_TG_findTags 9 rfl
theorem d_TG_findTags_18 : decode M_TG_findTags.2.1 18 = .ok (.lload_n 1, 1) := fx_d (q := (18, .lload_n 1, 1)) D_TG_findTags 10 rfl
theorem d_TG_findTags_19 : decode M_TG_findTags.2.1 19 = .ok (.ldc2_w 47, 3) := fx_d (q := (19, .ldc2_w 47, 3)) D_TG_findTags 11 rfl
theorem d_TG_findTags_22 : decode M_TG_findTags.2.1 22 = .ok (.ladd, 1) := fx_d (q := (22, .ladd, 1)) D_TG_findTags 12 rfl
theorem d_TG_findTags_23 : decode M_TG_findTags.2.1 23 = .ok (.aload_n 0, 1) := fx_d (q := (23, .aload_n 0, 1)) D_TG_findTags 13 rfl
theorem d_TG_findTags_24 : decode M_TG_findTags.2.1 24 = .ok (.getfield 9, 3) := fx_d (q := (24, .getfield 9, 3)) D_TG_findTags 14 rfl
theorem d_TG_findTags_27 : decode M_TG_findTags.2.1 27 = .ok (.getfield 49, 3) := fx_d (q := (27, .getfield 49, 3)) D_TG_findTags 15 rfl
theorem d_TG_findTags_30 : decode M_TG_findTags.2.1 30 = .ok (.i2l, 1) := fx_d (q := (30, .i2l, 1)) D_TG_findTags 16 rfl
theorem d_TG_findTags_31 : decode M_TG_findTags.2.1 31 = .ok (.lcmp, 1) := fx_d (q := (31, .lcmp, 1)) D_TG_findTags 17 rfl
theorem d_TG_findTags_32 : decode M_TG_findTags.2.1 32 = .ok (.ifCond .le 5, 3) := fx_d (q := (32, .ifCond .le 5, 3)) D_TG_findTags 18 rfl
theorem d_TG_findTags_35 : decode M_TG_findTags.2.1 35 = .ok (.iconst 0, 1) := fx_d (q := (35, .iconst 0, 1)) D_TG_findTags 19 rfl
theorem d_TG_findTags_36 : decode M_TG_findTags.2.1 36 = .ok (.ireturn, 1) := fx_d (q := (36, .ireturn, 1)) D_TG_findTags 20 rfl
theorem d_TG_findTags_37 : decode M_TG_findTags.2.1 37 = .ok (.aload_n 0, 1) := fx_d (q := (37, .aload_n 0, 1)) D_TG_findTags 21 rfl
theorem d_TG_findTags_38 : decode M_TG_findTags.2.1 38 = .ok (.getfield 9, 3) := fx_d (q := (38, .getfield 9, 3)) D_TG_findTags 22 rfl
theorem d_TG_findTags_41 : decode M_TG_findTags.2.1 41 = .ok (.lload_n 1, 1) := fx_d (q := (41, .lload_n 1, 1)) D_TG_findTags 23 rfl
theorem d_TG_findTags_42 : decode M_TG_findTags.2.1 42 = .ok (.l2i, 1) := fx_d (q := (42, .l2i, 1)) D_TG_findTags 24 rfl
theorem d_TG_findTags_43 : decode M_TG_findTags.2.1 43 = .ok (.iconst 2, 1) := fx_d (q := (43, .iconst 2, 1)) D_TG_findTags 25 rfl
theorem d_TG_findTags_44 : decode M_TG_findTags.2.1 44 = .ok (.invokevirtual 41, 3) := fx_d (q := (44, .invokevirtual 41, 3)) D_TG_findTags 26 rfl
theorem d_TG_findTags_47 : decode M_TG_findTags.2.1 47 = .ok (.l2i, 1) := fx_d (q := (47, .l2i, 1)) D_TG_findTags 27 rfl
theorem d_TG_findTags_48 : decode M_TG_findTags.2.1 48 = .ok (.istore_n 3, 1) := fx_d (q := (48, .istore_n 3, 1)) D_TG_findTags 28 rfl
theorem d_TG_findTags_49 : decode M_TG_findTags.2.1 49 = .ok (.lload_n 1, 1) := fx_d (q := (49, .lload_n 1, 1)) D_TG_findTags 29 rfl
theorem d_TG_findTags_50 : decode M_TG_findTags.2.1 50 = .ok (.l2i, 1) := fx_d (q := (50, .l2i, 1)) D_TG_findTags 30 rfl
theorem d_TG_findTags_51 : decode M_TG_findTags.2.1 51 = .ok (.iconst 2, 1) := fx_d (q := (51, .iconst 2, 1)) D_TG_findTags 31 rfl
theorem d_TG_findTags_52 : decode M_TG_findTags.2.1 52 = .ok (.iadd, 1) := fx_d (q := (52, .iadd, 1)) D_TG_findTags 32 rfl
theorem d_TG_findTags_53 : decode M_TG_findTags.2.1 53 = .ok (.istore 4, 2) := fx_d (q := (53, .istore 4, 2)) D_TG_findTags 33 rfl
theorem d_TG_findTags_55 : decode M_TG_findTags.2.1 55 = .ok (.iload 4, 2) := fx_d (q := (55, .iload 4, 2)) D_TG_findTags 34 rfl
theorem d_TG_findTags_57 : decode M_TG_findTags.2.1 57 = .ok (.iload_n 3, 1) := fx_d (q := (57, .iload_n 3, 1)) D_TG_findTags 35 rfl
theorem d_TG_findTags_58 : decode M_TG_findTags.2.1 58 = .ok (.bipush 12, 2) := fx_d (q := (58, .bipush 12, 2)) D_TG_findTags 36 rfl
theorem d_TG_findTags_60 : decode M_TG_findTags.2.1 60 = .ok (.imul, 1) := fx_d (q := (60, .imul, 1)) D_TG_findTags 37 rfl
theorem d_TG_findTags_61 : decode M_TG_findTags.2.1 61 = .ok (.iadd, 1) := fx_d (q := (61, .iadd, 1)) D_TG_findTags 38 rfl
theorem d_TG_findTags_62 : decode M_TG_findTags.2.1 62 = .ok (.istore 5, 2) := fx_d (q := (62, .istore 5, 2)) D_TG_findTags 39 rfl
theorem d_TG_findTags_64 : decode M_TG_findTags.2.1 64 = .ok (.iload 5, 2) := fx_d (q := (64, .iload 5, 2)) D_TG_findTags 40 rfl
theorem d_TG_findTags_66 : decode M_TG_findTags.2.1 66 = .ok (.iconst 4, 1) := fx_d (q := (66, .iconst 4, 1)) D_TG_findTags 41 rfl
theorem d_TG_findTags_67 : decode M_TG_findTags.2.1 67 = .ok (.iadd, 1) := fx_d (q := (67, .iadd, 1)) D_TG_findTags 42 rfl
theorem d_TG_findTags_68 : decode M_TG_findTags.2.1 68 = .ok (.aload_n 0, 1) := fx_d (q := (68, .aload_n 0, 1)) D_TG_findTags 43 rfl
theorem d_TG_findTags_69 : decode M_TG_findTags.2.1 69 = .ok (.getfield 9, 3) := fx_d (q := (69, .getfield 9, 3)) D_TG_findTags 44 rfl
theorem d_TG_findTags_72 : decode M_TG_findTags.2.1 72 = .ok (.getfield 49, 3) := fx_d (q := (72, .getfield 49, 3)) D_TG_findTags 45 rfl
theorem d_TG_findTags_75 : decode M_TG_findTags.2.1 75 = .ok (.if_icmp .gt 18, 3) := fx_d (q := (75, .if_icmp .gt 18, 3)) D_TG_findTags 46 rfl
theorem d_TG_findTags_78 : decode M_TG_findTags.2.1 78 = .ok (.aload_n 0, 1) := fx_d (q := (78, .aload_n 0, 1)) D_TG_findTags 47 rfl
theorem d_TG_findTags_79 : decode M_TG_findTags.2.1 79 = .ok (.getfield 9, 3) := fx_d (q := (79, .getfield 9, 3)) D_TG_findTags 48 rfl
theorem d_TG_findTags_82 : decode M_TG_findTags.2.1 82 = .ok (.iload 5, 2) := fx_d (q := (82, .iload 5, 2)) D_TG_findTags 49 rfl
theorem d_TG_findTags_84 : decode M_TG_findTags.2.1 84 = .ok (.iconst 4, 1) := fx_d (q := (84, .iconst 4, 1)) D_TG_findTags 50 rfl
theorem d_TG_findTags_85 : decode M_TG_findTags.2.1 85 = .ok (.invokevirtual 41, 3) := fx_d (q := (85, .invokevirtual 41, 3)) D_TG_findTags 51 rfl
theorem d_TG_findTags_88 : decode M_TG_findTags.2.1 88 = .ok (.lconst 0, 1) := fx_d (q := (88, .lconst 0, 1)) D_TG_findTags 52 rfl
theorem d_TG_findTags_89 : decode M_TG_findTags.2.1 89 = .ok (.lcmp, 1) := fx_d (q := (89, .lcmp, 1)) D_TG_findTags 53 rfl
theorem d_TG_findTags_90 : decode M_TG_findTags.2.1 90 = .ok (.ifCond .eq 5, 3) := fx_d (q := (90, .ifCond .eq 5, 3)) D_TG_findTags 54 rfl
theorem d_TG_findTags_93 : decode M_TG_findTags.2.1 93 = .ok (.iconst 0, 1) := fx_d (q := (93, .iconst 0, 1)) D_TG_findTags 55 rfl
theorem d_TG_findTags_94 : decode M_TG_findTags.2.1 94 = .ok (.ireturn, 1) := fx_d (q := (94, .ireturn, 1)) D_TG_findTags 56 rfl
theorem d_TG_findTags_95 : decode M_TG_findTags.2.1 95 = .ok (.iconst (-1), 1) := fx_d (q := (95, .iconst (-1), 1)) D_TG_findTags 57 rfl
theorem d_TG_findTags_96 : decode M_TG_findTags.2.1 96 = .ok (.istore 6, 2) := fx_d (q := (96, .istore 6, 2)) D_TG_findTags 58 rfl
theorem d_TG_findTags_98 : decode M_TG_findTags.2.1 98 = .ok (.iconst 0, 1) := fx_d (q := (98, .iconst 0, 1)) D_TG_findTags 59 rfl
theorem d_TG_findTags_99 : decode M_TG_findTags.2.1 99 = .ok (.istore 7, 2) := fx_d (q := (99, .istore 7, 2)) D_TG_findTags 60 rfl
theorem d_TG_findTags_101 : decode M_TG_findTags.2.1 101 = .ok (.iload 7, 2) := fx_d (q := (101, .iload 7, 2)) D_TG_findTags 61 rfl
theorem d_TG_findTags_103 : decode M_TG_findTags.2.1 103 = .ok (.iload_n 3, 1) := fx_d (q := (103, .iload_n 3, 1)) D_TG_findTags 62 rfl
theorem d_TG_findTags_104 : decode M_TG_findTags.2.1 104 = .ok (.if_icmp .ge 55, 3) := fx_d (q := (104, .if_icmp .ge 55, 3)) D_TG_findTags 63 rfl
theorem d_TG_findTags_107 : decode M_TG_findTags.2.1 107 = .ok (.aload_n 0, 1) := fx_d (q := (107, .aload_n 0, 1)) D_TG_findTags 64 rfl
theorem d_TG_findTags_108 : decode M_TG_findTags.2.1 108 = .ok (.getfield 9, 3) := fx_d (q := (108, .getfield 9, 3)) D_TG_findTags 65 rfl
theorem d_TG_findTags_111 : decode M_TG_findTags.2.1 111 = .ok (.iload 4, 2) := fx_d (q := (111, .iload 4, 2)) D_TG_findTags 66 rfl
theorem d_TG_findTags_113 : decode M_TG_findTags.2.1 113 = .ok (.iload 7, 2) := fx_d (q := (113, .iload 7, 2)) D_TG_findTags 67 rfl
theorem d_TG_findTags_115 : decode M_TG_findTags.2.1 115 = .ok (.bipush 12, 2) := fx_d (q := (115, .bipush 12, 2)) D_TG_findTags 68 rfl
theorem d_TG_findTags_117 : decode M_TG_findTags.2.1 117 = .ok (.imul, 1) := fx_d (q := (117, .imul, 1)) D_TG_findTags 69 rfl
theorem d_TG_findTags_118 : decode M_TG_findTags.2.1 118 = .ok (.iadd, 1) := fx_d (q := (118, .iadd, 1)) D_TG_findTags 70 rfl
theorem d_TG_findTags_119 : decode M_TG_findTags.2.1 119 = .ok (.iconst 2, 1) := fx_d (q := (119, .iconst 2, 1)) D_TG_findTags 71 rfl
theorem d_TG_findTags_120 : decode M_TG_findTags.2.1 120 = .ok (.invokevirtual 41, 3) := fx_d (q := (120, .invokevirtual 41, 3)) D_TG_findTags 72 rfl
theorem d_TG_findTags_123 : decode M_TG_findTags.2.1 123 = .ok (.l2i, 1) := fx_d (q := (123, .l2i, 1)) D_TG_findTags 73 rfl
theorem d_TG_findTags_124 : decode M_TG_findTags.2.1 124 = .ok (.istore 8, 2) := fx_d (q := (124, .istore 8, 2)) D_TG_findTags 74 rfl
theorem d_TG_findTags_126 : decode M_TG_findTags.2.1 126 = .ok (.iload 8, 2) := fx_d (q := (126, .iload 8, 2)) D_TG_findTags 75 rfl
theorem d_TG_findTags_128 : decode M_TG_findTags.2.1 128 = .ok (.iload 6, 2) := fx_d (q := (128, .iload 6, 2)) D_TG_findTags 76 rfl
theorem d_TG_findTags_130 : decode M_TG_findTags.2.1 130 = .ok (.if_icmp .gt 5, 3) := fx_d (q := (130, .if_icmp .gt 5, 3)) D_TG_findTags 77 rfl
theorem d_TG_findTags_133 : decode M_TG_findTags.2.1 133 = .ok (.iconst 0, 1) := fx_d (q := (133, .iconst 0, 1)) D_TG_findTags 78 rfl
theorem d_TG_findTags_134 : decode M_TG_findTags.2.1 134 = .ok (.ireturn, 1) := fx_d (q := (134, .ireturn, 1)) D_TG_findTags 79 rfl
theorem d_TG_findTags_135 : decode M_TG_findTags.2.1 135 = .ok (.aload_n 0, 1) := fx_d (q := (135, .aload_n 0, 1)) D_TG_findTags 80 rfl
theorem d_TG_findTags_136 : decode M_TG_findTags.2.1 136 = .ok (.iload 8, 2) := fx_d (q := (136, .iload 8, 2)) D_TG_findTags 81 rfl
theorem d_TG_findTags_138 : decode M_TG_findTags.2.1 138 = .ok (.iload 4, 2) := fx_d (q := (138, .iload 4, 2)) D_TG_findTags 82 rfl
theorem d_TG_findTags_140 : decode M_TG_findTags.2.1 140 = .ok (.iload 7, 2) := fx_d (q := (140, .iload 7, 2)) D_TG_findTags 83 rfl
theorem d_TG_findTags_142 : decode M_TG_findTags.2.1 142 = .ok (.bipush 12, 2) := fx_d (q := (142, .bipush 12, 2)) D_TG_findTags 84 rfl
theorem d_TG_findTags_144 : decode M_TG_findTags.2.1 144 = .ok (.imul, 1) := fx_d (q := (144, .imul, 1)) D_TG_findTags 85 rfl
theorem d_TG_findTags_145 : decode M_TG_findTags.2.1 145 = .ok (.iadd, 1) := fx_d (q := (145, .iadd, 1)) D_TG_findTags 86 rfl
theorem d_TG_findTags_146 : decode M_TG_findTags.2.1 146 = .ok (.invokevirtual 53, 3) := fx_d (q := (146, .invokevirtual 53, 3)) D_TG_findTags 87 rfl
theorem d_TG_findTags_149 : decode M_TG_findTags.2.1 149 = .ok (.iload 8, 2) := fx_d (q := (149, .iload 8, 2)) D_TG_findTags 88 rfl
theorem d_TG_findTags_151 : decode M_TG_findTags.2.1 151 = .ok (.istore 6, 2) := fx_d (q := (151, .istore 6, 2)) D_TG_findTags 89 rfl
theorem d_TG_findTags_153 : decode M_TG_findTags.2.1 153 = .ok (.iinc 7 1, 3) := fx_d (q := (153, .iinc 7 1, 3)) D_TG_findTags 90 rfl
theorem d_TG_findTags_156 : decode M_TG_findTags.2.1 156 = .ok (.goto (-55), 3) := fx_d (q := (156, .goto (-55), 3)) D_TG_findTags 91 rfl
theorem d_TG_findTags_159 : decode M_TG_findTags.2.1 159 = .ok (.iconst 1, 1) := fx_d (q := (159, .iconst 1, 1)) D_TG_findTags 92 rfl
theorem d_TG_findTags_160 : decode M_TG_findTags.2.1 160 = .ok (.ireturn, 1) := fx_d (q := (160, .ireturn, 1)) D_TG_findTags 93 rfl
set_option maxRecDepth 100000 in
def L_TG_note : List (Nat × Instr × Nat) := [(0, .iconst 0, 1), (1, .istore_n 3, 1), (2, .iload_n 3, 1), (3, .getstatic 15, 3), (6, .arraylength, 1), (7, .if_icmp .ge 25, 3), (10, .getstatic 15, 3), (13, .iload_n 3, 1), (14, .iaload, 1), (15, .iload_n 1, 1), (16, .if_icmp .ne 10, 3), (19, .aload_n 0, 1), (20, .getfield 19, 3), (23, .iload_n 3, 1), (24, .iload_n 2, 1), (25, .iastore, 1), (26, .iinc 3 1, 3), (29, .goto (-27), 3), (32, .return_, 1)]
set_option maxRecDepth 100000 in
theorem D_TG_note : ∀ q ∈ L_TG_note, decode prog_12_method_4_code q.1 = .ok q.2 := by decide +kernel
theorem d_TG_note_0 : decode M_TG_note.2.1 0 = .ok (.iconst 0, 1) := fx_d (q := (0, .iconst 0, 1)) D_TG_note 0 rfl
theorem d_TG_note_1 : decode M_TG_note.2.1 1 = .ok (.istore_n 3, 1) := fx_d (q := (1, .istore_n 3, 1)) D_TG_note 1 rfl
theorem d_TG_note_2 : decode M_TG_note.2.1 2 = .ok (.iload_n 3, 1) := fx_d (q := (2, .iload_n 3, 1)) D_TG_note 2 rfl
theorem d_TG_note_3 : decode M_TG_note.2.1 3 = .ok (.getstatic 15, 3) := fx_d (q := (3, .getstatic 15, 3)) D_TG_note 3 rfl
theorem d_TG_note_6 : decode M_TG_note.2.1 6 = .ok (.arraylength, 1) := fx_d (q := (6, .arraylength, 1)) D_TG_note 4 rfl
theorem d_TG_note_7 : decode M_TG_note.2.1 7 = .ok (.if_icmp .ge 25, 3) := fx_d (q := (7, .if_icmp .ge 25, 3)) D_TG_note 5 rfl
theorem d_TG_note_10 : decode M_TG_note.2.1 10 = .ok (.getstatic 15, 3) := fx_d (q := (10, .getstatic 15, 3)) D_TG_note 6 rfl
theorem d_TG_note_13 : decode M_TG_note.2.1 13 = .ok (.iload_n 3, 1) := fx_d (q := (13, .iload_n 3, 1)) D_TG_note 7 rfl
theorem d_TG_note_14 : decode M_TG_note.2.1 14 = .ok (.iaload, 1) := fx_d (q := (14, .iaload, 1)) D_TG_note 8 rfl
theorem d_TG_note_15 : decode M_TG_note.2.1 15 = .ok (.iload_n 1, 1) := fx_d (q := (15, .iload_n 1, 1)) D_TG_note 9 rfl
theorem d_TG_note_16 : decode M_TG_note.2.1 16 = .ok (.if_icmp .ne 10, 3) := fx_d (q := (16, .if_icmp .ne 10, 3)) D_TG_note 10 rfl
theorem d_TG_note_19 : decode M_TG_note.2.1 19 = .ok (.aload_n 0, 1) := fx_d (q := (19, .aload_n 0, 1)) D_TG_note 11 rfl
theorem d_TG_note_20 : decode M_TG_note.2.1 20 = .ok (.getfield 19, 3) := fx_d (q := (20, .getfield 19, 3)) D_TG_note 12 rfl
theorem d_TG_note_23 : decode M_TG_note.2.1 23 = .ok (.iload_n 3, 1) := fx_d (q := (23, .iload_n 3, 1)) D_TG_note 13 rfl
theorem d_TG_note_24 : decode M_TG_note.2.1 24 = .ok (.iload_n 2, 1) := fx_d (q := (24, .iload_n 2, 1)) D_TG_note 14 rfl
theorem d_TG_note_25 : decode M_TG_note.2.1 25 = .ok (.iastore, 1) := fx_d (q := (25, .iastore, 1)) D_TG_note 15 rfl
theorem d_TG_note_26 : decode M_TG_note.2.1 26 = .ok (.iinc 3 1, 3) := fx_d (q := (26, .iinc 3 1, 3)) D_TG_note 16 rfl
theorem d_TG_note_29 : decode M_TG_note.2.1 29 = .ok (.goto (-27), 3) := fx_d (q := (29, .goto (-27), 3)) D_TG_note 17 rfl
theorem d_TG_note_32 : decode M_TG_note.2.1 32 = .ok (.return_, 1) := fx_d (q := (32, .return_, 1)) D_TG_note 18 rfl
set_option maxRecDepth 100000 in
def L_TG_understandPicture : List (Nat × Instr × Nat) := [(0, .aload_n 0, 1), (1, .sipush 258, 3), (4, .invokevirtual 57, 3), (7, .lstore_n 1, 1), (8, .aload_n 0, 1), (9, .sipush 256, 3), (12, .invokevirtual 57, 3), (15, .lstore_n 3, 1), (16, .aload_n 0, 1), (17, .sipush 257, 3), (20, .invokevirtual 57, 3), (23, .lstore 5, 2), (25, .aload_n 0, 1), (26, .lload_n 1, 1), (27, .ldc2_w 61, 3), (30, .lcmp, 1), (31, .ifCond .ne 7, 3), (34, .iconst 1, 1), (35, .goto 4, 3), (38, .iconst 0, 1), (39, .putfield 63, 3), (42, .lload_n 1, 1), (43, .lconst 1, 1), (44, .lcmp, 1), (45, .ifCond .eq 11, 3), (48, .lload_n 1, 1), (49, .ldc2_w 61, 3), (52, .lcmp, 1), (53, .ifCond .ne 40, 3), (56, .aload_n 0, 1), (57, .sipush 262, 3), (60, .invokevirtual 57, 3), (63, .aload_n 0, 1), (64, .getfield 63, 3), (67, .ifCond .eq 7, 3), (70, .iconst 1, 1), (71, .goto 4, 3), (74, .iconst 0, 1), (75, .i2l, 1), (76, .lcmp, 1), (77, .ifCond .ne 16, 3), (80, .aload_n 0, 1), (81, .getfield 63, 3), (84, .lload_n 3, 1), (85, .lload 5, 2), (87, .invokestatic 67, 3), (90, .ifCond .ne 5, 3), (93, .iconst 0, 1), (94, .ireturn, 1), (95, .aload_n 0, 1), (96, .lload_n 3, 1), (97, .l2i, 1), (98, .putfield 71, 3), (101, .aload_n 0, 1), (102, .lload 5, 2), (104, .l2i, 1), (105, .putfield 74, 3), (108, .iconst 1, 1), (109, .ireturn, 1)]
set_option maxRecDepth 100000 in
theorem D_TG_understandPicture : ∀ q ∈ L_TG_understandPicture, decode prog_12_method_6_code q.1 = .ok q.2 := by decide +kernel
theorem d_TG_understandPicture_0 : decode M_TG_understandPicture.2.1 0 = .ok (.aload_n 0, 1) := fx_d (q := (0, .aload_n 0, 1)) D_TG_understandPicture 0 rfl
theorem d_TG_understandPicture_1 : decode M_TG_understandPicture.2.1 1 = .ok (.sipush 258, 3) := fx_d (q := (1, .sipush 258, 3)) D_TG_understandPicture 1 rfl
theorem d_TG_understandPicture_4 : decode M_TG_understandPicture.2.1 4 = .ok (.invokevirtual 57, 3) := fx_d (q := (4, .invokevirtual 57, 3)) D_TG_understandPicture 2 rfl
theorem d_TG_understandPicture_7 : decode M_TG_understandPicture.2.1 7 = .ok (.lstore_n 1, 1) := fx_d (q := (7, .lstore_n 1, 1)) D_TG_understandPicture 3 rfl
theorem d_TG_understandPicture_8 : decode M_TG_understandPicture.2.1 8 = .ok (.aload_n 0, 1) := fx_d (q := (8, .aload_n 0, 1)) D_TG_understandPicture 4 rfl
theorem d_TG_understandPicture_9 : decode M_TG_understandPicture.2.1 9 = .ok (.sipush 256, 3) := fx_d (q := (9, .sipush 256, 3)) D_TG_understandPicture 5 rfl
theorem d_TG_understandPicture_12 : decode M_TG_understandPicture.2.1 12 = .ok (.invokevirtual 57, 3) := fx_d (q := (12, .invokevirtual 57, 3)) D_TG_understandPicture 6 rfl
theorem d_TG_understandPicture_15 : decode M_TG_understandPicture.2.1 15 = .ok (.lstore_n 3, 1) := fx_d (q := (15, .lstore_n 3, 1)) D_TG_understandPicture 7 rfl
theorem d_TG_understandPicture_16 : decode M_TG_understandPicture.2.1 16 = .ok (.aload_n 0, 1) := fx_d (q := (16, .aload_n 0, 1)) D_TG_understandPicture 8 rfl
theorem d_TG_understandPicture_17 : decode M_TG_understandPicture.2.1 17 = .ok (.sipush 257, 3) := fx_d (q := (17, .sipush 257, 3)) D_TG_understandPicture 9 rfl
theorem d_TG_understandPicture_20 : decode M_TG_understandPicture.2.1 20 = .ok (.invokevirtual 57, 3) := fx_d (q := (20, .invokevirtual 57, 3)) D_TG_understandPicture 10 rfl
theorem d_TG_understandPicture_23 : decode M_TG_understandPicture.2.1 23 = .ok (.lstore 5, 2) := fx_d (q := (23, .lstore 5, 2)) D_TG_understandPicture 11 rfl
theorem d_TG_understandPicture_25 : decode M_TG_understandPicture.2.1 25 = .ok (.aload_n 0, 1) := fx_d (q := (25, .aload_n 0, 1)) D_TG_understandPicture 12 rfl
theorem d_TG_understandPicture_26 : decode M_TG_understandPicture.2.1 26 = .ok (.lload_n 1, 1) := fx_d (q := (26, .lload_n 1, 1)) D_TG_understandPicture 13 rfl
theorem d_TG_understandPicture_27 : decode M_TG_understandPicture.2.1 27 = .ok (.ldc2_w 61, 3) := fx_d (q := (27, .ldc2_w 61, 3)) D_TG_understandPicture 14 rfl
theorem d_TG_understandPicture_30 : decode M_TG_understandPicture.2.1 30 = .ok (.lcmp, 1) := fx_d (q := (30, .lcmp, 1)) D_TG_understandPicture 15 rfl
theorem d_TG_understandPicture_31 : decode M_TG_understandPicture.2.1 31 = .ok (.ifCond .ne 7, 3) := fx_d (q := (31, .ifCond .ne 7, 3)) D_TG_understandPicture 16 rfl
theorem d_TG_understandPicture_34 : decode M_TG_understandPicture.2.1 34 = .ok (.iconst 1, 1) := fx_d (q := (34, .iconst 1, 1)) D_TG_understandPicture 17 rfl
theorem d_TG_understandPicture_35 : decode M_TG_understandPicture.2.1 35 = .ok (.goto 4, 3) := fx_d (q := (35, .goto 4, 3)) D_TG_understandPicture 18 rfl
theorem d_TG_understandPicture_38 : decode M_TG_understandPicture.2.1 38 = .ok (.iconst 0, 1) := fx_d (q := (38, .iconst 0, 1)) D_TG_understandPicture 19 rfl
theorem d_TG_understandPicture_39 : decode M_TG_understandPicture.2.1 39 = .ok (.putfield 63, 3) := fx_d (q := (39, .putfield 63, 3)) D_TG_understandPicture 20 rfl
theorem d_TG_understandPicture_42 : decode M_TG_understandPicture.2.1 42 = .ok (.lload_n 1, 1) := fx_d (q := (42, .lload_n 1, 1)) D_TG_understandPicture 21 rfl
theorem d_TG_understandPicture_43 : decode M_TG_understandPicture.2.1 43 = .ok (.lconst 1, 1) := fx_d (q := (43, .lconst 1, 1)) D_TG_understandPicture 22 rfl
theorem d_TG_understandPicture_44 : decode M_TG_understandPicture.2.1 44 = .ok (.lcmp, 1) := fx_d (q := (44, .lcmp, 1)) D_TG_understandPicture 23 rfl
theorem d_TG_understandPicture_45 : decode M_TG_understandPicture.2.1 45 = .ok (.ifCond .eq 11, 3) := fx_d (q := (45, .ifCond .eq 11, 3)) D_TG_understandPicture 24 rfl
theorem d_TG_understandPicture_48 : decode M_TG_understandPicture.2.1 48 = .ok (.lload_n 1, 1) := fx_d (q := (48, .lload_n 1, 1)) D_TG_understandPicture 25 rfl
theorem d_TG_understandPicture_49 : decode M_TG_understandPicture.2.1 49 = .ok (.ldc2_w 61, 3) := fx_d (q := (49, .ldc2_w 61, 3)) D_TG_understandPicture 26 rfl
theorem d_TG_understandPicture_52 : decode M_TG_understandPicture.2.1 52 = .ok (.lcmp, 1) := fx_d (q := (52, .lcmp, 1)) D_TG_understandPicture 27 rfl
theorem d_TG_understandPicture_53 : decode M_TG_understandPicture.2.1 53 = .ok (.ifCond .ne 40, 3) := fx_d (q := (53, .ifCond .ne 40, 3)) D_TG_understandPicture 28 rfl
theorem d_TG_understandPicture_56 : decode M_TG_understandPicture.2.1 56 = .ok (.aload_n 0, 1) := fx_d (q := (56, .aload_n 0, 1)) D_TG_understandPicture 29 rfl
theorem d_TG_understandPicture_57 : decode M_TG_understandPicture.2.1 57 = .ok (.sipush 262, 3) := fx_d (q := (57, .sipush 262, 3)) D_TG_understandPicture 30 rfl
theorem d_TG_understandPicture_60 : decode M_TG_understandPicture.2.1 60 = .ok (.invokevirtual 57, 3) := fx_d (q := (60, .invokevirtual 57, 3)) D_TG_understandPicture 31 rfl
theorem d_TG_understandPicture_63 : decode M_TG_understandPicture.2.1 63 = .ok (.aload_n 0, 1) := fx_d (q := (63, .aload_n 0, 1)) D_TG_understandPicture 32 rfl
theorem d_TG_understandPicture_64 : decode M_TG_understandPicture.2.1 64 = .ok (.getfield 63, 3) := fx_d (q := (64, .getfield 63, 3)) D_TG_understandPicture 33 rfl
theorem d_TG_understandPicture_67 : decode M_TG_understandPicture.2.1 67 = .ok (.ifCond .eq 7, 3) := fx_d (q := (67, .ifCond .eq 7, 3)) D_TG_understandPicture 34 rfl
theorem d_TG_understandPicture_70 : decode M_TG_understandPicture.2.1 70 = .ok (.iconst 1, 1) := fx_d (q := (70, .iconst 1, 1)) D_TG_understandPicture 35 rfl
theorem d_TG_understandPicture_71 : decode M_TG_understandPicture.2.1 71 = .ok (.goto 4, 3) := fx_d (q := (71, .goto 4, 3)) D_TG_understandPicture 36 rfl
theorem d_TG_understandPicture_74 : decode M_TG_understandPicture.2.1 74 = .ok (.iconst 0, 1) := fx_d (q := (74, .iconst 0, 1)) D_TG_understandPicture 37 rfl
theorem d_TG_understandPicture_75 : decode M_TG_understandPicture.2.1 75 = .ok (.i2l, 1) := fx_d (q := (75, .i2l, 1)) D_TG_understandPicture 38 rfl
theorem d_TG_understandPicture_76 : decode M_TG_understandPicture.2.1 76 = .ok (.lcmp, 1) := fx_d (q := (76, .lcmp, 1)) D_TG_understandPicture 39 rfl
theorem d_TG_understandPicture_77 : decode M_TG_understandPicture.2.1 77 = .ok (.ifCond .ne 16, 3) := fx_d (q := (77, .ifCond .ne 16, 3)) D_TG_understandPicture 40 rfl
theorem d_TG_understandPicture_80 : decode M_TG_understandPicture.2.1 80 = .ok (.aload_n 0, 1) := fx_d (q := (80, .aload_n 0, 1)) D_TG_understandPicture 41 rfl
theorem d_TG_understandPicture_81 : decode M_TG_understandPicture.2.1 81 = .ok (.getfield 63, 3) := fx_d (q := (81, .getfield 63, 3)) D_TG_understandPicture 42 rfl
theorem d_TG_understandPicture_84 : decode M_TG_understandPicture.2.1 84 = .ok (.lload_n 3, 1) := fx_d (q := (84, .lload_n 3, 1)) D_TG_understandPicture 43 rfl
theorem d_TG_understandPicture_85 : decode M_TG_understandPicture.2.1 85 = .ok (.lload 5, 2) := fx_d (q := (85, .lload 5, 2)) D_TG_understandPicture 44 rfl
theorem d_TG_understandPicture_87 : decode M_TG_understandPicture.2.1 87 = .ok (.invokestatic 67, 3) := fx_d (q := (87, .invokestatic 67, 3)) D_TG_understandPicture 45 rfl
theorem d_TG_understandPicture_90 : decode M_TG_understandPicture.2.1 90 = .ok (.ifCond .ne 5, 3) := fx_d (q := (90, .ifCond .ne 5, 3)) D_TG_understandPicture 46 rfl
theorem d_TG_understandPicture_93 : decode M_TG_understandPicture.2.1 93 = .ok (.iconst 0, 1) := fx_d (q := (93, .iconst 0, 1)) D_TG_understandPicture 47 rfl
theorem d_TG_understandPicture_94 : decode M_TG_understandPicture.2.1 94 = .ok (.ireturn, 1) := fx_d (q := (94, .ireturn, 1)) D_TG_understandPicture 48 rfl
theorem d_TG_understandPicture_95 : decode M_TG_understandPicture.2.1 95 = .ok (.aload_n 0, 1) := fx_d (q := (95, .aload_n 0, 1)) D_TG_understandPicture 49 rfl
theorem d_TG_understandPicture_96 : decode M_TG_understandPicture.2.1 96 = .ok (.lload_n 3, 1) := fx_d (q := (96, .lload_n 3, 1)) D_TG_understandPicture 50 rfl
theorem d_TG_understandPicture_97 : decode M_TG_understandPicture.2.1 97 = .ok (.l2i, 1) := fx_d (q := (97, .l2i, 1)) D_TG_understandPicture 51 rfl
theorem d_TG_understandPicture_98 : decode M_TG_understandPicture.2.1 98 = .ok (.putfield 71, 3) := fx_d (q := (98, .putfield 71, 3)) D_TG_understandPicture 52 rfl
theorem d_TG_understandPicture_101 : decode M_TG_understandPicture.2.1 101 = .ok (.aload_n 0, 1) := fx_d (q := (101, .aload_n 0, 1)) D_TG_understandPicture 53 rfl
theorem d_TG_understandPicture_102 : decode M_TG_understandPicture.2.1 102 = .ok (.lload 5, 2) := fx_d (q := (102, .lload 5, 2)) D_TG_understandPicture 54 rfl
theorem d_TG_understandPicture_104 : decode M_TG_understandPicture.2.1 104 = .ok (.l2i, 1) := fx_d (q := (104, .l2i, 1)) D_TG_understandPicture 55 rfl
theorem d_TG_understandPicture_105 : decode M_TG_understandPicture.2.1 105 = .ok (.putfield 74, 3) := fx_d (q := (105, .putfield 74, 3)) D_TG_understandPicture 56 rfl
theorem d_TG_understandPicture_108 : decode M_TG_understandPicture.2.1 108 = .ok (.iconst 1, 1) := fx_d (q := (108, .iconst 1, 1)) D_TG_understandPicture 57 rfl
theorem d_TG_understandPicture_109 : decode M_TG_understandPicture.2.1 109 = .ok (.ireturn, 1) := fx_d (q := (109, .ireturn, 1)) D_TG_understandPicture 58 rfl
set_option maxRecDepth 100000 in
def L_TG_onlyValue : List (Nat × Instr × Nat) := [(0, .aload_n 0, 1), (1, .iload_n 1, 1), (2, .iconst 1, 1), (3, .invokevirtual 101, 3), (6, .ifCond .eq 12, 3), (9, .aload_n 0, 1), (10, .iload_n 1, 1), (11, .iconst 0, 1), (12, .invokevirtual 105, 3), (15, .goto 6, 3), (18, .ldc2_w 108, 3), (21, .lreturn, 1)]
set_option maxRecDepth 100000 in
theorem D_TG_onlyValue : ∀ q ∈ L_TG_onlyValue, decode prog_12_method_10_code q.1 = .ok q.2 := by decide +kernel
theorem d_TG_onlyValue_0 : decode M_TG_onlyValue.2.1 0 = .ok (.aload_n 0, 1) := fx_d (q := (0, .aload_n 0, 1)) D_TG_onlyValue 0 rfl
theorem d_TG_onlyValue_1 : decode M_TG_onlyValue.2.1 1 = .ok (.iload_n 1, 1) := fx_d (q := (1, .iload_n 1, 1)) D_TG_onlyValue 1 rfl
theorem d_TG_onlyValue_2 : decode M_TG_onlyValue.2.1 2 = .ok (.iconst 1, 1) := fx_d (q := (2, .iconst 1, 1)) D_TG_onlyValue 2 rfl
theorem d_TG_onlyValue_3 : decode M_TG_onlyValue.2.1 3 = .ok (.invokevirtual 101, 3) := fx_d (q := (3, .invokevirtual 101, 3)) D_TG_onlyValue 3 rfl
theorem d_TG_onlyValue_6 : decode M_TG_onlyValue.2.1 6 = .ok (.ifCond .eq 12, 3) := fx_d (q := (6, .ifCond .eq 12, 3)) D_TG_onlyValue 4 rfl
theorem d_TG_onlyValue_9 : decode M_TG_onlyValue.2.1 9 = .ok (.aload_n 0, 1) := fx_d (q := (9, .aload_n 0, 1)) D_TG_onlyValue 5 rfl
theorem d_TG_onlyValue_10 : decode M_TG_onlyValue.2.1 10 = .ok (.iload_n 1, 1) := fx_d (q := (10, .iload_n 1, 1)) D_TG_onlyValue 6 rfl
theorem d_TG_onlyValue_11 : decode M_TG_onlyValue.2.1 11 = .ok (.iconst 0, 1) := fx_d (q := (11, .iconst 0, 1)) D_TG_onlyValue 7 rfl
theorem d_TG_onlyValue_12 : decode M_TG_onlyValue.2.1 12 = .ok (.invokevirtual 105, 3) := fx_d (q := (12, .invokevirtual 105, 3)) D_TG_onlyValue 8 rfl
theorem d_TG_onlyValue_15 : decode M_TG_onlyValue.2.1 15 = .ok (.goto 6, 3) := fx_d (q := (15, .goto 6, 3)) D_TG_onlyValue 9 rfl
theorem d_TG_onlyValue_18 : decode M_TG_onlyValue.2.1 18 = .ok (.ldc2_w 108, 3) := fx_d (q := (18, .ldc2_w 108, 3)) D_TG_onlyValue 10 rfl
theorem d_TG_onlyValue_21 : decode M_TG_onlyValue.2.1 21 = .ok (.lreturn, 1) := fx_d (q := (21, .lreturn, 1)) D_TG_onlyValue 11 rfl
set_option maxRecDepth 100000 in
def L_TG_hasValues : List (Nat × Instr × Nat) := [(0, .aload_n 0, 1), (1, .iload_n 1, 1), (2, .invokevirtual 87, 3), (5, .istore_n 3, 1), (6, .iload_n 3, 1), (7, .iconst (-1), 1), (8, .if_icmp .ne 5, 3), (11, .iconst 0, 1), (12, .ireturn, 1), (13, .aload_n 0, 1), (14, .getfield 9, 3), (17, .iload_n 3, 1), (18, .iconst 2, 1), (19, .iadd, 1), (20, .iconst 2, 1), (21, .invokevirtual 41, 3), (24, .lstore 4, 2), (26, .lload 4, 2), (28, .ldc2_w 110, 3), (31, .lcmp, 1), (32, .ifCond .eq 12, 3), (35, .lload 4, 2), (37, .ldc2_w 112, 3), (40, .lcmp, 1), (41, .ifCond .ne 20, 3), (44, .aload_n 0, 1), (45, .getfield 9, 3), (48, .iload_n 3, 1), (49, .iconst 4, 1), (50, .iadd, 1), (51, .iconst 4, 1), (52, .invokevirtual 41, 3), (55, .iload_n 2, 1), (56, .i2l, 1), (57, .lcmp, 1), (58, .ifCond .eq 5, 3), (61, .iconst 0, 1), (62, .ireturn, 1), (63, .iload_n 2, 1), (64, .aload_n 0, 1), (65, .iload_n 3, 1), (66, .invokevirtual 114, 3), (69, .imul, 1), (70, .istore 6, 2), (72, .iload 6, 2), (74, .iconst 4, 1), (75, .if_icmp .le 31, 3), (78, .aload_n 0, 1), (79, .getfield 9, 3), (82, .iload_n 3, 1), (83, .bipush 8, 2), (85, .iadd, 1), (86, .iconst 4, 1), (87, .invokevirtual 41, 3), (90, .iload 6, 2), (92, .i2l, 1), (93, .ladd, 1), (94, .aload_n 0, 1), (95, .getfield 9, 3), (98, .getfield 49, 3), (101, .i2l, 1), (102, .lcmp, 1), (103, .ifCond .gt 7, 3), (106, .iconst 1, 1), (107, .goto 4, 3), (110, .iconst 0, 1), (111, .ireturn, 1)]
set_option maxRecDepth 100000 in
theorem D_TG_hasValues : ∀ q ∈ L_TG_hasValues, decode prog_12_method_11_code q.1 = .ok q.2 := by decide +kernel
theorem d_TG_hasValues_0 : decode M_TG_hasValues.2.1 0 = .ok (.aload_n 0, 1) := fx_d (q := (0, .aload_n 0, 1)) D_TG_hasValues 0 rfl
theorem d_TG_hasValues_1 : decode M_TG_hasValues.2.1 1 = .ok (.iload_n 1, 1) := fx_d (q := (1, .iload_n 1, 1)) D_TG_hasValues 1 rfl
theorem d_TG_hasValues_2 : decode M_TG_hasValues.2.1 2 = .ok (.invokevirtual 87, 3) := fx_d (q := (2, .invokevirtual 87, 3)) D_TG_hasValues 2 rfl
theorem d_TG_hasValues_5 : decode M_TG_hasValues.2.1 5 = .ok (.istore_n 3, 1) := fx_d (q := (5, .istore_n 3, 1)) D_TG_hasValues 3 rfl
theorem d_TG_hasValues_6 : decode M_TG_hasValues.2.1 6 = .ok (.iload_n 3, 1) := fx_d (q := (6, .iload_n 3, 1)) D_TG_hasValues 4 rfl
theorem d_TG_hasValues_7 : decode M_TG_hasValues.2.1 7 = .ok (.iconst (-1), 1) := fx_d (q := (7, .iconst (-1), 1)) D_TG_hasValues 5 rfl
theorem d_TG_hasValues_8 : decode M_TG_hasValues.2.1 8 = .ok (.if_icmp .ne 5, 3) := fx_d (q := (8, .if_icmp .ne 5, 3)) D_TG_hasValues 6 rfl
theorem d_TG_hasValues_11 : decode M_TG_hasValues.2.1 11 = .ok (.iconst 0, 1) := fx_d (q := (11, .iconst 0, 1)) D_TG_hasValues 7 rfl
theorem d_TG_hasValues_12 : decode M_TG_hasValues.2.1 12 = .ok (.ireturn, 1) := fx_d (q := (12, .ireturn, 1)) D_TG_hasValues 8 rfl
theorem d_TG_hasValues_13 : decode M_TG_hasValues.2.1 13 = .ok (.aload_n 0, 1) := fx_d (q := (13, .aload_n 0, 1)) D_TG_hasValues 9 rfl
theorem d_TG_hasValues_14 : decode M_TG_hasValues.2.1 14 = .ok (.getfield 9, 3) := fx_d (q := (14, .getfield 9, 3)) D_TG_hasValues 10 rfl
theorem d_TG_hasValues_17 : decode M_TG_hasValues.2.1 17 = .ok (.iload_n 3, 1) := fx_d (q := (17, .iload_n 3, 1)) D_TG_hasValues 11 rfl
theorem d_TG_hasValues_18 : decode M_TG_hasValues.2.1 18 = .ok (.iconst 2, 1) := fx_d (q := (18, .iconst 2, 1)) D_TG_hasValues 12 rfl
theorem d_TG_hasValues_19 : decode M_TG_hasValues.2.1 19 = .ok (.iadd, 1) := fx_d (q := (19, .iadd, 1)) D_TG_hasValues 13 rfl
theorem d_TG_hasValues_20 : decode M_TG_hasValues.2.1 20 = .ok (.iconst 2, 1) := fx_d (q := (20, .iconst 2, 1)) D_TG_hasValues 14 rfl
theorem d_TG_hasValues_21 : decode M_TG_hasValues.2.1 21 = .ok (.invokevirtual 41, 3) := fx_d (q := (21, .invokevirtual 41, 3)) D_TG_hasValues 15 rfl
theorem d_TG_hasValues_24 : decode M_TG_hasValues.2.1 24 = .ok (.lstore 4, 2) := fx_d (q := (24, .lstore 4, 2)) D_TG_hasValues 16 rfl
theorem d_TG_hasValues_26 : decode M_TG_hasValues.2.1 26 = .ok (.lload 4, 2) := fx_d (q := (26, .lload 4, 2)) D_TG_hasValues 17 rfl
theorem d_TG_hasValues_28 : decode M_TG_hasValues.2.1 28 = .ok (.ldc2_w 110, 3) := fx_d (q := (28, .ldc2_w 110, 3)) D_TG_hasValues 18 rfl
theorem d_TG_hasValues_31 : decode M_TG_hasValues.2.1 31 = .ok (.lcmp, 1) := fx_d (q := (31, .lcmp, 1)) D_TG_hasValues 19 rfl
theorem d_TG_hasValues_32 : decode M_TG_hasValues.2.1 32 = .ok (.ifCond .eq 12, 3) := fx_d (q := (32, .ifCond .eq 12, 3)) D_TG_hasValues 20 rfl
theorem d_TG_hasValues_35 : decode M_TG_hasValues.2.1 35 = .ok (.lload 4, 2) := fx_d (q := (35, .lload 4, 2)) D_TG_hasValues 21 rfl
theorem d_TG_hasValues_37 : decode M_TG_hasValues.2.1 37 = .ok (.ldc2_w 112, 3) := fx_d (q := (37, .ldc2_w 112, 3)) D_TG_hasValues 22 rfl
theorem d_TG_hasValues_40 : decode M_TG_hasValues.2.1 40 = .ok (.lcmp, 1) := fx_d (q := (40, .lcmp, 1)) D_TG_hasValues 23 rfl
theorem d_TG_hasValues_41 : decode M_TG_hasValues.2.1 41 = .ok (.ifCond .ne 20, 3) := fx_d (q := (41, .ifCond .ne 20, 3)) D_TG_hasValues 24 rfl
theorem d_TG_hasValues_44 : decode M_TG_hasValues.2.1 44 = .ok (.aload_n 0, 1) := fx_d (q := (44, .aload_n 0, 1)) D_TG_hasValues 25 rfl
theorem d_TG_hasValues_45 : decode M_TG_hasValues.2.1 45 = .ok (.getfield 9, 3) := fx_d (q := (45, .getfield 9, 3)) D_TG_hasValues 26 rfl
theorem d_TG_hasValues_48 : decode M_TG_hasValues.2.1 48 = .ok (.iload_n 3, 1) := fx_d (q := (48, .iload_n 3, 1)) D_TG_hasValues 27 rfl
theorem d_TG_hasValues_49 : decode M_TG_hasValues.2.1 49 = .ok (.iconst 4, 1) := fx_d (q := (49, .iconst 4, 1)) D_TG_hasValues 28 rfl
theorem d_TG_hasValues_50 : decode M_TG_hasValues.2.1 50 = .ok (.iadd, 1) := fx_d (q := (50, .iadd, 1)) D_TG_hasValues 29 rfl
theorem d_TG_hasValues_51 : decode M_TG_hasValues.2.1 51 = .ok (.iconst 4, 1) := fx_d (q := (51, .iconst 4, 1)) D_TG_hasValues 30 rfl
theorem d_TG_hasValues_52 : decode M_TG_hasValues.2.1 52 = .ok (.invokevirtual 41, 3) := fx_d (q := (52, .invokevirtual 41, 3)) D_TG_hasValues 31 rfl
theorem d_TG_hasValues_55 : decode M_TG_hasValues.2.1 55 = .ok (.iload_n 2, 1) := fx_d (q := (55, .iload_n 2, 1)) D_TG_hasValues 32 rfl
theorem d_TG_hasValues_56 : decode M_TG_hasValues.2.1 56 = .ok (.i2l, 1) := fx_d (q := (56, .i2l, 1)) D_TG_hasValues 33 rfl
theorem d_TG_hasValues_57 : decode M_TG_hasValues.2.1 57 = .ok (.lcmp, 1) := fx_d (q := (57, .lcmp, 1)) D_TG_hasValues 34 rfl
theorem d_TG_hasValues_58 : decode M_TG_hasValues.2.1 58 = .ok (.ifCond .eq 5, 3) := fx_d (q := (58, .ifCond .eq 5, 3)) D_TG_hasValues 35 rfl
theorem d_TG_hasValues_61 : decode M_TG_hasValues.2.1 61 = .ok (.iconst 0, 1) := fx_d (q := (61, .iconst 0, 1)) D_TG_hasValues 36 rfl
theorem d_TG_hasValues_62 : decode M_TG_hasValues.2.1 62 = .ok (.ireturn, 1) := fx_d (q := (62, .ireturn, 1)) D_TG_hasValues 37 rfl
theorem d_TG_hasValues_63 : decode M_TG_hasValues.2.1 63 = .ok (.iload_n 2, 1) := fx_d (q := (63, .iload_n 2, 1)) D_TG_hasValues 38 rfl
theorem d_TG_hasValues_64 : decode M_TG_hasValues.2.1 64 = .ok (.aload_n 0, 1) := fx_d (q := (64, .aload_n 0, 1)) D_TG_hasValues 39 rfl
theorem d_TG_hasValues_65 : decode M_TG_hasValues.2.1 65 = .ok (.iload_n 3, 1) := fx_d (q := (65, .iload_n 3, 1)) D_TG_hasValues 40 rfl
theorem d_TG_hasValues_66 : decode M_TG_hasValues.2.1 66 = .ok (.invokevirtual 114, 3) := fx_d (q := (66, .invokevirtual 114, 3)) D_TG_hasValues 41 rfl
theorem d_TG_hasValues_69 : decode M_TG_hasValues.2.1 69 = .ok (.imul, 1) := fx_d (q := (69, .imul, 1)) D_TG_hasValues 42 rfl
theorem d_TG_hasValues_70 : decode M_TG_hasValues.2.1 70 = .ok (.istore 6, 2) := fx_d (q := (70, .istore 6, 2)) D_TG_hasValues 43 rfl
theorem d_TG_hasValues_72 : decode M_TG_hasValues.2.1 72 = .ok (.iload 6, 2) := fx_d (q := (72, .iload 6, 2)) D_TG_hasValues 44 rfl
theorem d_TG_hasValues_74 : decode M_TG_hasValues.2.1 74 = .ok (.iconst 4, 1) := fx_d (q := (74, .iconst 4, 1)) D_TG_hasValues 45 rfl
theorem d_TG_hasValues_75 : decode M_TG_hasValues.2.1 75 = .ok (.if_icmp .le 31, 3) := fx_d (q := (75, .if_icmp .le 31, 3)) D_TG_hasValues 46 rfl
theorem d_TG_hasValues_78 : decode M_TG_hasValues.2.1 78 = .ok (.aload_n 0, 1) := fx_d (q := (78, .aload_n 0, 1)) D_TG_hasValues 47 rfl
theorem d_TG_hasValues_79 : decode M_TG_hasValues.2.1 79 = .ok (.getfield 9, 3) := fx_d (q := (79, .getfield 9, 3)) D_TG_hasValues 48 rfl
theorem d_TG_hasValues_82 : decode M_TG_hasValues.2.1 82 = .ok (.iload_n 3, 1) := fx_d (q := (82, .iload_n 3, 1)) D_TG_hasValues 49 rfl
theorem d_TG_hasValues_83 : decode M_TG_hasValues.2.1 83 = .ok (.bipush 8, 2) := fx_d (q := (83, .bipush 8, 2)) D_TG_hasValues 50 rfl
theorem d_TG_hasValues_85 : decode M_TG_hasValues.2.1 85 = .ok (.iadd, 1) := fx_d (q := (85, .iadd, 1)) D_TG_hasValues 51 rfl
theorem d_TG_hasValues_86 : decode M_TG_hasValues.2.1 86 = .ok (.iconst 4, 1) := fx_d (q := (86, .iconst 4, 1)) D_TG_hasValues 52 rfl
theorem d_TG_hasValues_87 : decode M_TG_hasValues.2.1 87 = .ok (.invokevirtual 41, 3) := fx_d (q := (87, .invokevirtual 41, 3)) D_TG_hasValues 53 rfl
theorem d_TG_hasValues_90 : decode M_TG_hasValues.2.1 90 = .ok (.iload 6, 2) := fx_d (q := (90, .iload 6, 2)) D_TG_hasValues 54 rfl
theorem d_TG_hasValues_92 : decode M_TG_hasValues.2.1 92 = .ok (.i2l, 1) := fx_d (q := (92, .i2l, 1)) D_TG_hasValues 55 rfl
theorem d_TG_hasValues_93 : decode M_TG_hasValues.2.1 93 = .ok (.ladd, 1) := fx_d (q := (93, .ladd, 1)) D_TG_hasValues 56 rfl
theorem d_TG_hasValues_94 : decode M_TG_hasValues.2.1 94 = .ok (.aload_n 0, 1) := fx_d (q := (94, .aload_n 0, 1)) D_TG_hasValues 57 rfl
theorem d_TG_hasValues_95 : decode M_TG_hasValues.2.1 95 = .ok (.getfield 9, 3) := fx_d (q := (95, .getfield 9, 3)) D_TG_hasValues 58 rfl
theorem d_TG_hasValues_98 : decode M_TG_hasValues.2.1 98 = .ok (.getfield 49, 3) := fx_d (q := (98, .getfield 49, 3)) D_TG_hasValues 59 rfl
theorem d_TG_hasValues_101 : decode M_TG_hasValues.2.1 101 = .ok (.i2l, 1) := fx_d (q := (101, .i2l, 1)) D_TG_hasValues 60 rfl
theorem d_TG_hasValues_102 : decode M_TG_hasValues.2.1 102 = .ok (.lcmp, 1) := fx_d (q := (102, .lcmp, 1)) D_TG_hasValues 61 rfl
theorem d_TG_hasValues_103 : decode M_TG_hasValues.2.1 103 = .ok (.ifCond .gt 7, 3) := fx_d (q := (103, .ifCond .gt 7, 3)) D_TG_hasValues 62 rfl
theorem d_TG_hasValues_106 : decode M_TG_hasValues.2.1 106 = .ok (.iconst 1, 1) := fx_d (q := (106, .iconst 1, 1)) D_TG_hasValues 63 rfl
theorem d_TG_hasValues_107 : decode M_TG_hasValues.2.1 107 = .ok (.goto 4, 3) := fx_d (q := (107, .goto 4, 3)) D_TG_hasValues 64 rfl
theorem d_TG_hasValues_110 : decode M_TG_hasValues.2.1 110 = .ok (.iconst 0, 1) := fx_d (q := (110, .iconst 0, 1)) D_TG_hasValues 65 rfl
theorem d_TG_hasValues_111 : decode M_TG_hasValues.2.1 111 = .ok (.ireturn, 1) := fx_d (q := (111, .ireturn, 1)) D_TG_hasValues 66 rfl
set_option maxRecDepth 100000 in
def L_TG_placeOf : List (Nat × Instr × Nat) := [(0, .iconst 0, 1), (1, .istore_n 2, 1), (2, .iload_n 2, 1), (3, .getstatic 15, 3), (6, .arraylength, 1), (7, .if_icmp .ge 25, 3), (10, .getstatic 15, 3), (13, .iload_n 2, 1), (14, .iaload, 1), (15, .iload_n 1, 1), (16, .if_icmp .ne 10, 3), (19, .aload_n 0, 1), (20, .getfield 19, 3), (23, .iload_n 2, 1), (24, .iaload, 1), (25, .ireturn, 1), (26, .iinc 2 1, 3), (29, .goto (-27), 3), (32, .iconst (-1), 1), (33, .ireturn, 1)]
set_option maxRecDepth 100000 in
theorem D_TG_placeOf : ∀ q ∈ L_TG_placeOf, decode prog_12_method_5_code q.1 = .ok q.2 := by decide +kernel
theorem d_TG_placeOf_0 : decode M_TG_placeOf.2.1 0 = .ok (.iconst 0, 1) := fx_d (q := (0, .iconst 0, 1)) D_TG_placeOf 0 rfl
theorem d_TG_placeOf_1 : decode M_TG_placeOf.2.1 1 = .ok (.istore_n 2, 1) := fx_d (q := (1, .istore_n 2, 1)) D_TG_placeOf 1 rfl
theorem d_TG_placeOf_2 : decode M_TG_placeOf.2.1 2 = .ok (.iload_n 2, 1) := fx_d (q := (2, .iload_n 2, 1)) D_TG_placeOf 2 rfl
theorem d_TG_placeOf_3 : decode M_TG_placeOf.2.1 3 = .ok (.getstatic 15, 3) := fx_d (q := (3, .getstatic 15, 3)) D_TG_placeOf 3 rfl
theorem d_TG_placeOf_6 : decode M_TG_placeOf.2.1 6 = .ok (.arraylength, 1) := fx_d (q := (6, .arraylength, 1)) D_TG_placeOf 4 rfl
theorem d_TG_placeOf_7 : decode M_TG_placeOf.2.1 7 = .ok (.if_icmp .ge 25, 3) := fx_d (q := (7, .if_icmp .ge 25, 3)) D_TG_placeOf 5 rfl
theorem d_TG_placeOf_10 : decode M_TG_placeOf.2.1 10 = .ok (.getstatic 15, 3) := fx_d (q := (10, .getstatic 15, 3)) D_TG_placeOf 6 rfl
theorem d_TG_placeOf_13 : decode M_TG_placeOf.2.1 13 = .ok (.iload_n 2, 1) := fx_d (q := (13, .iload_n 2, 1)) D_TG_placeOf 7 rfl
theorem d_TG_placeOf_14 : decode M_TG_placeOf.2.1 14 = .ok (.iaload, 1) := fx_d (q := (14, .iaload, 1)) D_TG_placeOf 8 rfl
theorem d_TG_placeOf_15 : decode M_TG_placeOf.2.1 15 = .ok (.iload_n 1, 1) := fx_d (q := (15, .iload_n 1, 1)) D_TG_placeOf 9 rfl
theorem d_TG_placeOf_16 : decode M_TG_placeOf.2.1 16 = .ok (.if_icmp .ne 10, 3) := fx_d (q := (16, .if_icmp .ne 10, 3)) D_TG_placeOf 10 rfl
theorem d_TG_placeOf_19 : decode M_TG_placeOf.2.1 19 = .ok (.aload_n 0, 1) := fx_d (q := (19, .aload_n 0, 1)) D_TG_placeOf 11 rfl
theorem d_TG_placeOf_20 : decode M_TG_placeOf.2.1 20 = .ok (.getfield 19, 3) := fx_d (q := (20, .getfield 19, 3)) D_TG_placeOf 12 rfl
theorem d_TG_placeOf_23 : decode M_TG_placeOf.2.1 23 = .ok (.iload_n 2, 1) := fx_d (q := (23, .iload_n 2, 1)) D_TG_placeOf 13 rfl
theorem d_TG_placeOf_24 : decode M_TG_placeOf.2.1 24 = .ok (.iaload, 1) := fx_d (q := (24, .iaload, 1)) D_TG_placeOf 14 rfl
theorem d_TG_placeOf_25 : decode M_TG_placeOf.2.1 25 = .ok (.ireturn, 1) := fx_d (q := (25, .ireturn, 1)) D_TG_placeOf 15 rfl
theorem d_TG_placeOf_26 : decode M_TG_placeOf.2.1 26 = .ok (.iinc 2 1, 3) := fx_d (q := (26, .iinc 2 1, 3)) D_TG_placeOf 16 rfl
theorem d_TG_placeOf_29 : decode M_TG_placeOf.2.1 29 = .ok (.goto (-27), 3) := fx_d (q := (29, .goto (-27), 3)) D_TG_placeOf 17 rfl
theorem d_TG_placeOf_32 : decode M_TG_placeOf.2.1 32 = .ok (.iconst (-1), 1) := fx_d (q := (32, .iconst (-1), 1)) D_TG_placeOf 18 rfl
theorem d_TG_placeOf_33 : decode M_TG_placeOf.2.1 33 = .ok (.ireturn, 1) := fx_d (q := (33, .ireturn, 1)) D_TG_placeOf 19 rfl
set_option maxRecDepth 100000 in
def L_TG_bytesOfValue : List (Nat × Instr × Nat) := [(0, .aload_n 0, 1), (1, .getfield 9, 3), (4, .iload_n 1, 1), (5, .iconst 2, 1), (6, .iadd, 1), (7, .iconst 2, 1), (8, .invokevirtual 41, 3), (11, .ldc2_w 110, 3), (14, .lcmp, 1), (15, .ifCond .ne 7, 3), (18, .iconst 2, 1), (19, .goto 4, 3), (22, .iconst 4, 1), (23, .ireturn, 1)]
set_option maxRecDepth 100000 in
theorem D_TG_bytesOfValue : ∀ q ∈ L_TG_bytesOfValue, decode prog_12_method_12_code q.1 = .ok q.2 := by decide +kernel
theorem d_TG_bytesOfValue_0 : decode M_TG_bytesOfValue.2.1 0 = .ok (.aload_n 0, 1) := fx_d (q := (0, .aload_n 0, 1)) D_TG_bytesOfValue 0 rfl
theorem d_TG_bytesOfValue_1 : decode M_TG_bytesOfValue.2.1 1 = .ok (.getfield 9, 3) := fx_d (q := (1, .getfield 9, 3)) D_TG_bytesOfValue 1 rfl
theorem d_TG_bytesOfValue_4 : decode M_TG_bytesOfValue.2.1 4 = .ok (.iload_n 1, 1) := fx_d (q := (4, .iload_n 1, 1)) D_TG_bytesOfValue 2 rfl
theorem d_TG_bytesOfValue_5 : decode M_TG_bytesOfValue.2.1 5 = .ok (.iconst 2, 1) := fx_d (q := (5, .iconst 2, 1)) D_TG_bytesOfValue 3 rfl
theorem d_TG_bytesOfValue_6 : decode M_TG_bytesOfValue.2.1 6 = .ok (.iadd, 1) := fx_d (q := (6, .iadd, 1)) D_TG_bytesOfValue 4 rfl
theorem d_TG_bytesOfValue_7 : decode M_TG_bytesOfValue.2.1 7 = .ok (.iconst 2, 1) := fx_d (q := (7, .iconst 2, 1)) D_TG_bytesOfValue 5 rfl
theorem d_TG_bytesOfValue_8 : decode M_TG_bytesOfValue.2.1 8 = .ok (.invokevirtual 41, 3) := fx_d (q := (8, .invokevirtual 41, 3)) D_TG_bytesOfValue 6 rfl
theorem d_TG_bytesOfValue_11 : decode M_TG_bytesOfValue.2.1 11 = .ok (.ldc2_w 110, 3) := fx_d (q := (11, .ldc2_w 110, 3)) D_TG_bytesOfValue 7 rfl
theorem d_TG_bytesOfValue_14 : decode M_TG_bytesOfValue.2.1 14 = .ok (.lcmp, 1) := fx_d (q := (14, .lcmp, 1)) D_TG_bytesOfValue 8 rfl
theorem d_TG_bytesOfValue_15 : decode M_TG_bytesOfValue.2.1 15 = .ok (.ifCond .ne 7, 3) := fx_d (q := (15, .ifCond .ne 7, 3)) D_TG_bytesOfValue 9 rfl
theorem d_TG_bytesOfValue_18 : decode M_TG_bytesOfValue.2.1 18 = .ok (.iconst 2, 1) := fx_d (q := (18, .iconst 2, 1)) D_TG_bytesOfValue 10 rfl
theorem d_TG_bytesOfValue_19 : decode M_TG_bytesOfValue.2.1 19 = .ok (.goto 4, 3) := fx_d (q := (19, .goto 4, 3)) D_TG_bytesOfValue 11 rfl
theorem d_TG_bytesOfValue_22 : decode M_TG_bytesOfValue.2.1 22 = .ok (.iconst 4, 1) := fx_d (q := (22, .iconst 4, 1)) D_TG_bytesOfValue 12 rfl
theorem d_TG_bytesOfValue_23 : decode M_TG_bytesOfValue.2.1 23 = .ok (.ireturn, 1) := fx_d (q := (23, .ireturn, 1)) D_TG_bytesOfValue 13 rfl
set_option maxRecDepth 100000 in
def L_TG_valueOf : List (Nat × Instr × Nat) := [(0, .aload_n 0, 1), (1, .iload_n 1, 1), (2, .invokevirtual 87, 3), (5, .istore_n 3, 1), (6, .aload_n 0, 1), (7, .iload_n 3, 1), (8, .invokevirtual 114, 3), (11, .istore 4, 2), (13, .aload_n 0, 1), (14, .getfield 9, 3), (17, .iload_n 3, 1), (18, .iconst 4, 1), (19, .iadd, 1), (20, .iconst 4, 1), (21, .invokevirtual 41, 3), (24, .iload 4, 2), (26, .i2l, 1), (27, .lmul, 1), (28, .ldc2_w 112, 3), (31, .lcmp, 1), (32, .ifCond .gt 7, 3), (35, .iconst 1, 1), (36, .goto 4, 3), (39, .iconst 0, 1), (40, .istore 5, 2), (42, .iload 5, 2), (44, .ifCond .eq 10, 3), (47, .iload_n 3, 1), (48, .bipush 8, 2), (50, .iadd, 1), (51, .goto 16, 3), (54, .aload_n 0, 1), (55, .getfield 9, 3), (58, .iload_n 3, 1), (59, .bipush 8, 2), (61, .iadd, 1), (62, .iconst 4, 1), (63, .invokevirtual 41, 3), (66, .l2i, 1), (67, .istore 6, 2), (69, .aload_n 0, 1), (70, .getfield 9, 3), (73, .iload 6, 2), (75, .iload_n 2, 1), (76, .iload 4, 2), (78, .imul, 1), (79, .iadd, 1), (80, .iload 4, 2), (82, .invokevirtual 41, 3), (85, .lreturn, 1)]
set_option maxRecDepth 100000 in
theorem D_TG_valueOf : ∀ q ∈ L_TG_valueOf, decode prog_12_method_13_code q.1 = .ok q.2 := by decide +kernel
theorem d_TG_valueOf_0 : decode M_TG_valueOf.2.1 0 = .ok (.aload_n 0, 1) := fx_d (q := (0, .aload_n 0, 1)) D_TG_valueOf 0 rfl
theorem d_TG_valueOf_1 : decode M_TG_valueOf.2.1 1 = .ok (.iload_n 1, 1) := fx_d (q := (1, .iload_n 1, 1)) D_TG_valueOf 1 rfl
theorem d_TG_valueOf_2 : decode M_TG_valueOf.2.1 2 = .ok (.invokevirtual 87, 3) := fx_d (q := (2, .invokevirtual 87, 3)) D_TG_valueOf 2 rfl
theorem d_TG_valueOf_5 : decode M_TG_valueOf.2.1 5 = .ok (.istore_n 3, 1) := fx_d (q := (5, .istore_n 3, 1)) D_TG_valueOf 3 rfl
theorem d_TG_valueOf_6 : decode M_TG_valueOf.2.1 6 = .ok (.aload_n 0, 1) := fx_d (q := (6, .aload_n 0, 1)) D_TG_valueOf 4 rfl
theorem d_TG_valueOf_7 : decode M_TG_valueOf.2.1 7 = .ok (.iload_n 3, 1) := fx_d (q := (7, .iload_n 3, 1)) D_TG_valueOf 5 rfl
theorem d_TG_valueOf_8 : decode M_TG_valueOf.2.1 8 = .ok (.invokevirtual 114, 3) := fx_d (q := (8, .invokevirtual 114, 3)) D_TG_valueOf 6 rfl
theorem d_TG_valueOf_11 : decode M_TG_valueOf.2.1 11 = .ok (.istore 4, 2) := fx_d (q := (11, .istore 4, 2)) D_TG_valueOf 7 rfl
theorem d_TG_valueOf_13 : decode M_TG_valueOf.2.1 13 = .ok (.aload_n 0, 1) := fx_d (q := (13, .aload_n 0, 1)) D_TG_valueOf 8 rfl
theorem d_TG_valueOf_14 : decode M_TG_valueOf.2.1 14 = .ok (.getfield 9, 3) := fx_d (q := (14, .getfield 9, 3)) D_TG_valueOf 9 rfl
theorem d_TG_valueOf_17 : decode M_TG_valueOf.2.1 17 = .ok (.iload_n 3, 1) := fx_d (q := (17, .iload_n 3, 1)) D_TG_valueOf 10 rfl
theorem d_TG_valueOf_18 : decode M_TG_valueOf.2.1 18 = .ok (.iconst 4, 1) := fx_d (q := (18, .iconst 4, 1)) D_TG_valueOf 11 rfl
theorem d_TG_valueOf_19 : decode M_TG_valueOf.2.1 19 = .ok (.iadd, 1) := fx_d (q := (19, .iadd, 1)) D_TG_valueOf 12 rfl
theorem d_TG_valueOf_20 : decode M_TG_valueOf.2.1 20 = .ok (.iconst 4, 1) := fx_d (q := (20, .iconst 4, 1)) D_TG_valueOf 13 rfl
theorem d_TG_valueOf_21 : decode M_TG_valueOf.2.1 21 = .ok (.invokevirtual 41, 3) := fx_d (q := (21, .invokevirtual 41, 3)) D_TG_valueOf 14 rfl
theorem d_TG_valueOf_24 : decode M_TG_valueOf.2.1 24 = .ok (.iload 4, 2) := fx_d (q := (24, .iload 4, 2)) D_TG_valueOf 15 rfl
theorem d_TG_valueOf_26 : decode M_TG_valueOf.2.1 26 = .ok (.i2l, 1) := fx_d (q := (26, .i2l, 1)) D_TG_valueOf 16 rfl
theorem d_TG_valueOf_27 : decode M_TG_valueOf.2.1 27 = .ok (.lmul, 1) := fx_d (q := (27, .lmul, 1)) D_TG_valueOf 17 rfl
theorem d_TG_valueOf_28 : decode M_TG_valueOf.2.1 28 = .ok (.ldc2_w 112, 3) := fx_d (q := (28, .ldc2_w 112, 3)) D_TG_valueOf 18 rfl
theorem d_TG_valueOf_31 : decode M_TG_valueOf.2.1 31 = .ok (.lcmp, 1) := fx_d (q := (31, .lcmp, 1)) D_TG_valueOf 19 rfl
theorem d_TG_valueOf_32 : decode M_TG_valueOf.2.1 32 = .ok (.ifCond .gt 7, 3) := fx_d (q := (32, .ifCond .gt 7, 3)) D_TG_valueOf 20 rfl
theorem d_TG_valueOf_35 : decode M_TG_valueOf.2.1 35 = .ok (.iconst 1, 1) := fx_d (q := (35, .iconst 1, 1)) D_TG_valueOf 21 rfl
theorem d_TG_valueOf_36 : decode M_TG_valueOf.2.1 36 = .ok (.goto 4, 3) := fx_d (q := (36, .goto 4, 3)) D_TG_valueOf 22 rfl
theorem d_TG_valueOf_39 : decode M_TG_valueOf.2.1 39 = .ok (.iconst 0, 1) := fx_d (q := (39, .iconst 0, 1)) D_TG_valueOf 23 rfl
theorem d_TG_valueOf_40 : decode M_TG_valueOf.2.1 40 = .ok (.istore 5, 2) := fx_d (q := (40, .istore 5, 2)) D_TG_valueOf 24 rfl
theorem d_TG_valueOf_42 : decode M_TG_valueOf.2.1 42 = .ok (.iload 5, 2) := fx_d (q := (42, .iload 5, 2)) D_TG_valueOf 25 rfl
theorem d_TG_valueOf_44 : decode M_TG_valueOf.2.1 44 = .ok (.ifCond .eq 10, 3) := fx_d (q := (44, .ifCond .eq 10, 3)) D_TG_valueOf 26 rfl
theorem d_TG_valueOf_47 : decode M_TG_valueOf.2.1 47 = .ok (.iload_n 3, 1) := fx_d (q := (47, .iload_n 3, 1)) D_TG_valueOf 27 rfl
theorem d_TG_valueOf_48 : decode M_TG_valueOf.2.1 48 = .ok (.bipush 8, 2) := fx_d (q := (48, .bipush 8, 2)) D_TG_valueOf 28 rfl
theorem d_TG_valueOf_50 : decode M_TG_valueOf.2.1 50 = .ok (.iadd, 1) := fx_d (q := (50, .iadd, 1)) D_TG_valueOf 29 rfl
theorem d_TG_valueOf_51 : decode M_TG_valueOf.2.1 51 = .ok (.goto 16, 3) := fx_d (q := (51, .goto 16, 3)) D_TG_valueOf 30 rfl
theorem d_TG_valueOf_54 : decode M_TG_valueOf.2.1 54 = .ok (.aload_n 0, 1) := fx_d (q := (54, .aload_n 0, 1)) D_TG_valueOf 31 rfl
theorem d_TG_valueOf_55 : decode M_TG_valueOf.2.1 55 = .ok (.getfield 9, 3) := fx_d (q := (55, .getfield 9, 3)) D_TG_valueOf 32 rfl
theorem d_TG_valueOf_58 : decode M_TG_valueOf.2.1 58 = .ok (.iload_n 3, 1) := fx_d (q := (58, .iload_n 3, 1)) D_TG_valueOf 33 rfl
theorem d_TG_valueOf_59 : decode M_TG_valueOf.2.1 59 = .ok (.bipush 8, 2) := fx_d (q := (59, .bipush 8, 2)) D_TG_valueOf 34 rfl
theorem d_TG_valueOf_61 : decode M_TG_valueOf.2.1 61 = .ok (.iadd, 1) := fx_d (q := (61, .iadd, 1)) D_TG_valueOf 35 rfl
theorem d_TG_valueOf_62 : decode M_TG_valueOf.2.1 62 = .ok (.iconst 4, 1) := fx_d (q := (62, .iconst 4, 1)) D_TG_valueOf 36 rfl
theorem d_TG_valueOf_63 : decode M_TG_valueOf.2.1 63 = .ok (.invokevirtual 41, 3) := fx_d (q := (63, .invokevirtual 41, 3)) D_TG_valueOf 37 rfl
theorem d_TG_valueOf_66 : decode M_TG_valueOf.2.1 66 = .ok (.l2i, 1) := fx_d (q := (66, .l2i, 1)) D_TG_valueOf 38 rfl
theorem d_TG_valueOf_67 : decode M_TG_valueOf.2.1 67 = .ok (.istore 6, 2) := fx_d (q := (67, .istore 6, 2)) D_TG_valueOf 39 rfl
theorem d_TG_valueOf_69 : decode M_TG_valueOf.2.1 69 = .ok (.aload_n 0, 1) := fx_d (q := (69, .aload_n 0, 1)) D_TG_valueOf 40 rfl
theorem d_TG_valueOf_70 : decode M_TG_valueOf.2.1 70 = .ok (.getfield 9, 3) := fx_d (q := (70, .getfield 9, 3)) D_TG_valueOf 41 rfl
theorem d_TG_valueOf_73 : decode M_TG_valueOf.2.1 73 = .ok (.iload 6, 2) := fx_d (q := (73, .iload 6, 2)) D_TG_valueOf 42 rfl
theorem d_TG_valueOf_75 : decode M_TG_valueOf.2.1 75 = .ok (.iload_n 2, 1) := fx_d (q := (75, .iload_n 2, 1)) D_TG_valueOf 43 rfl
theorem d_TG_valueOf_76 : decode M_TG_valueOf.2.1 76 = .ok (.iload 4, 2) := fx_d (q := (76, .iload 4, 2)) D_TG_valueOf 44 rfl
theorem d_TG_valueOf_78 : decode M_TG_valueOf.2.1 78 = .ok (.imul, 1) := fx_d (q := (78, .imul, 1)) D_TG_valueOf 45 rfl
theorem d_TG_valueOf_79 : decode M_TG_valueOf.2.1 79 = .ok (.iadd, 1) := fx_d (q := (79, .iadd, 1)) D_TG_valueOf 46 rfl
theorem d_TG_valueOf_80 : decode M_TG_valueOf.2.1 80 = .ok (.iload 4, 2) := fx_d (q := (80, .iload 4, 2)) D_TG_valueOf 47 rfl
theorem d_TG_valueOf_82 : decode M_TG_valueOf.2.1 82 = .ok (.invokevirtual 41, 3) := fx_d (q := (82, .invokevirtual 41, 3)) D_TG_valueOf 48 rfl
theorem d_TG_valueOf_85 : decode M_TG_valueOf.2.1 85 = .ok (.lreturn, 1) := fx_d (q := (85, .lreturn, 1)) D_TG_valueOf 49 rfl
set_option maxRecDepth 100000 in
def L_TG_understandScheme : List (Nat × Instr × Nat) := [(0, .aload_n 0, 1), (1, .sipush 259, 3), (4, .invokevirtual 57, 3), (7, .lstore_n 1, 1), (8, .lload_n 1, 1), (9, .invokestatic 77, 3), (12, .ifCond .eq 17, 3), (15, .aload_n 0, 1), (16, .getfield 63, 3), (19, .ifCond .eq 12, 3), (22, .lload_n 1, 1), (23, .invokestatic 81, 3), (26, .ifCond .eq 5, 3), (29, .iconst 0, 1), (30, .ireturn, 1), (31, .aload_n 0, 1), (32, .lload_n 1, 1), (33, .l2i, 1), (34, .putfield 84, 3), (37, .aload_n 0, 1), (38, .sipush 292, 3), (41, .invokevirtual 87, 3), (44, .iconst (-1), 1), (45, .if_icmp .eq 7, 3), (48, .iconst 1, 1), (49, .goto 4, 3), (52, .iconst 0, 1), (53, .istore_n 3, 1), (54, .iload_n 3, 1), (55, .ifCond .eq 23, 3), (58, .aload_n 0, 1), (59, .sipush 292, 3), (62, .invokevirtual 57, 3), (65, .lconst 1, 1), (66, .lcmp, 1), (67, .ifCond .ne 7, 3), (70, .iconst 1, 1), (71, .goto 20, 3), (74, .iconst 0, 1), (75, .goto 16, 3), (78, .aload_n 0, 1), (79, .getfield 84, 3), (82, .iconst 3, 1), (83, .if_icmp .eq 7, 3), (86, .iconst 1, 1), (87, .goto 4, 3), (90, .iconst 0, 1), (91, .ireturn, 1)]
set_option maxRecDepth 100000 in
theorem D_TG_understandScheme : ∀ q ∈ L_TG_understandScheme, decode prog_12_method_7_code q.1 = .ok q.2 := by decide +kernel
theorem d_TG_understandScheme_0 : decode M_TG_understandScheme.2.1 0 = .ok (.aload_n 0, 1) := fx_d (q := (0, .aload_n 0, 1)) D_TG_understandScheme 0 rfl
theorem d_TG_understandScheme_1 : decode M_TG_understandScheme.2.1 1 = .ok (.sipush 259, 3) := fx_d (q := (1, .sipush 259, 3)) D_TG_understandScheme 1 rfl
theorem d_TG_understandScheme_4 : decode M_TG_understandScheme.2.1 4 = .ok (.invokevirtual 57, 3) := fx_d (q := (4, .invokevirtual 57, 3)) D_TG_understandScheme 2 rfl
theorem d_TG_understandScheme_7 : decode M_TG_understandScheme.2.1 7 = .ok (.lstore_n 1, 1) := fx_d (q := (7, .lstore_n 1, 1)) D_TG_understandScheme 3 rfl
theorem d_TG_understandScheme_8 : decode M_TG_understandScheme.2.1 8 = .ok (.lload_n 1, 1) := fx_d (q := (8, .lload_n 1, 1)) D_TG_understandScheme 4 rfl
theorem d_TG_understandScheme_9 : decode M_TG_understandScheme.2.1 9 = .ok (.invokestatic 77, 3) := fx_d (q := (9, .invokestatic 77, 3)) D_TG_understandScheme 5 rfl
theorem d_TG_understandScheme_12 : decode M_TG_understandScheme.2.1 12 = .ok (.ifCond .eq 17, 3) := fx_d (q := (12, .ifCond .eq 17, 3)) D_TG_understandScheme 6 rfl
theorem d_TG_understandScheme_15 : decode M_TG_understandScheme.2.1 15 = .ok (.aload_n 0, 1) := fx_d (q := (15, .aload_n 0, 1)) D_TG_understandScheme 7 rfl
theorem d_TG_understandScheme_16 : decode M_TG_understandScheme.2.1 16 = .ok (.getfield 63, 3) := fx_d (q := (16, .getfield 63, 3)) D_TG_understandScheme 8 rfl
theorem d_TG_understandScheme_19 : decode M_TG_understandScheme.2.1 19 = .ok (.ifCond .eq 12, 3) := fx_d (q := (19, .ifCond .eq 12, 3)) D_TG_understandScheme 9 rfl
theorem d_TG_understandScheme_22 : decode M_TG_understandScheme.2.1 22 = .ok (.lload_n 1, 1) := fx_d (q := (22, .lload_n 1, 1)) D_TG_understandScheme 10 rfl
theorem d_TG_understandScheme_23 : decode M_TG_understandScheme.2.1 23 = .ok (.invokestatic 81, 3) := fx_d (q := (23, .invokestatic 81, 3)) D_TG_understandScheme 11 rfl
theorem d_TG_understandScheme_26 : decode M_TG_understandScheme.2.1 26 = .ok (.ifCond .eq 5, 3) := fx_d (q := (26, .ifCond .eq 5, 3)) D_TG_understandScheme 12 rfl
theorem d_TG_understandScheme_29 : decode M_TG_understandScheme.2.1 29 = .ok (.iconst 0, 1) := fx_d (q := (29, .iconst 0, 1)) D_TG_understandScheme 13 rfl
theorem d_TG_understandScheme_30 : decode M_TG_understandScheme.2.1 30 = .ok (.ireturn, 1) := fx_d (q := (30, .ireturn, 1)) D_TG_understandScheme 14 rfl
theorem d_TG_understandScheme_31 : decode M_TG_understandScheme.2.1 31 = .ok (.aload_n 0, 1) := fx_d (q := (31, .aload_n 0, 1)) D_TG_understandScheme 15 rfl
theorem d_TG_understandScheme_32 : decode M_TG_understandScheme.2.1 32 = .ok (.lload_n 1, 1) := fx_d (q := (32, .lload_n 1, 1)) D_TG_understandScheme 16 rfl
theorem d_TG_understandScheme_33 : decode M_TG_understandScheme.2.1 33 = .ok (.l2i, 1) := fx_d (q := (33, .l2i, 1)) D_TG_understandScheme 17 rfl
theorem d_TG_understandScheme_34 : decode M_TG_understandScheme.2.1 34 = .ok (.putfield 84, 3) := fx_d (q := (34, .putfield 84, 3)) D_TG_understandScheme 18 rfl
theorem d_TG_understandScheme_37 : decode M_TG_understandScheme.2.1 37 = .ok (.aload_n 0, 1) := fx_d (q := (37, .aload_n 0, 1)) D_TG_understandScheme 19 rfl
theorem d_TG_understandScheme_38 : decode M_TG_understandScheme.2.1 38 = .ok (.sipush 292, 3) := fx_d (q := (38, .sipush 292, 3)) D_TG_understandScheme 20 rfl
theorem d_TG_understandScheme_41 : decode M_TG_understandScheme.2.1 41 = .ok (.invokevirtual 87, 3) := fx_d (q := (41, .invokevirtual 87, 3)) D_TG_understandScheme 21 rfl
theorem d_TG_understandScheme_44 : decode M_TG_understandScheme.2.1 44 = .ok (.iconst (-1), 1) := fx_d (q := (44, .iconst (-1), 1)) D_TG_understandScheme 22 rfl
theorem d_TG_understandScheme_45 : decode M_TG_understandScheme.2.1 45 = .ok (.if_icmp .eq 7, 3) := fx_d (q := (45, .if_icmp .eq 7, 3)) D_TG_understandScheme 23 rfl
theorem d_TG_understandScheme_48 : decode M_TG_understandScheme.2.1 48 = .ok (.iconst 1, 1) := fx_d (q := (48, .iconst 1, 1)) D_TG_understandScheme 24 rfl
theorem d_TG_understandScheme_49 : decode M_TG_understandScheme.2.1 49 = .ok (.goto 4, 3) := fx_d (q := (49, .goto 4, 3)) D_TG_understandScheme 25 rfl
theorem d_TG_understandScheme_52 : decode M_TG_understandScheme.2.1 52 = .ok (.iconst 0, 1) := fx_d (q := (52, .iconst 0, 1)) D_TG_understandScheme 26 rfl
theorem d_TG_understandScheme_53 : decode M_TG_understandScheme.2.1 53 = .ok (.istore_n 3, 1) := fx_d (q := (53, .istore_n 3, 1)) D_TG_understandScheme 27 rfl
theorem d_TG_understandScheme_54 : decode M_TG_understandScheme.2.1 54 = .ok (.iload_n 3, 1) := fx_d (q := (54, .iload_n 3, 1)) D_TG_understandScheme 28 rfl
theorem d_TG_understandScheme_55 : decode M_TG_understandScheme.2.1 55 = .ok (.ifCond .eq 23, 3) := fx_d (q := (55, .ifCond .eq 23, 3)) D_TG_understandScheme 29 rfl
theorem d_TG_understandScheme_58 : decode M_TG_understandScheme.2.1 58 = .ok (.aload_n 0, 1) := fx_d (q := (58, .aload_n 0, 1)) D_TG_understandScheme 30 rfl
theorem d_TG_understandScheme_59 : decode M_TG_understandScheme.2.1 59 = .ok (.sipush 292, 3) := fx_d (q := (59, .sipush 292, 3)) D_TG_understandScheme 31 rfl
theorem d_TG_understandScheme_62 : decode M_TG_understandScheme.2.1 62 = .ok (.invokevirtual 57, 3) := fx_d (q := (62, .invokevirtual 57, 3)) D_TG_understandScheme 32 rfl
theorem d_TG_understandScheme_65 : decode M_TG_understandScheme.2.1 65 = .ok (.lconst 1, 1) := fx_d (q := (65, .lconst 1, 1)) D_TG_understandScheme 33 rfl
theorem d_TG_understandScheme_66 : decode M_TG_understandScheme.2.1 66 = .ok (.lcmp, 1) := fx_d (q := (66, .lcmp, 1)) D_TG_understandScheme 34 rfl
theorem d_TG_understandScheme_67 : decode M_TG_understandScheme.2.1 67 = .ok (.ifCond .ne 7, 3) := fx_d (q := (67, .ifCond .ne 7, 3)) D_TG_understandScheme 35 rfl
theorem d_TG_understandScheme_70 : decode M_TG_understandScheme.2.1 70 = .ok (.iconst 1, 1) := fx_d (q := (70, .iconst 1, 1)) D_TG_understandScheme 36 rfl
theorem d_TG_understandScheme_71 : decode M_TG_understandScheme.2.1 71 = .ok (.goto 20, 3) := fx_d (q := (71, .goto 20, 3)) D_TG_understandScheme 37 rfl
theorem d_TG_understandScheme_74 : decode M_TG_understandScheme.2.1 74 = .ok (.iconst 0, 1) := fx_d (q := (74, .iconst 0, 1)) D_TG_understandScheme 38 rfl
theorem d_TG_understandScheme_75 : decode M_TG_understandScheme.2.1 75 = .ok (.goto 16, 3) := fx_d (q := (75, .goto 16, 3)) D_TG_understandScheme 39 rfl
theorem d_TG_understandScheme_78 : decode M_TG_understandScheme.2.1 78 = .ok (.aload_n 0, 1) := fx_d (q := (78, .aload_n 0, 1)) D_TG_understandScheme 40 rfl
theorem d_TG_understandScheme_79 : decode M_TG_understandScheme.2.1 79 = .ok (.getfield 84, 3) := fx_d (q := (79, .getfield 84, 3)) D_TG_understandScheme 41 rfl
theorem d_TG_understandScheme_82 : decode M_TG_understandScheme.2.1 82 = .ok (.iconst 3, 1) := fx_d (q := (82, .iconst 3, 1)) D_TG_understandScheme 42 rfl
theorem d_TG_understandScheme_83 : decode M_TG_understandScheme.2.1 83 = .ok (.if_icmp .eq 7, 3) := fx_d (q := (83, .if_icmp .eq 7, 3)) D_TG_understandScheme 43 rfl
theorem d_TG_understandScheme_86 : decode M_TG_understandScheme.2.1 86 = .ok (.iconst 1, 1) := fx_d (q := (86, .iconst 1, 1)) D_TG_understandScheme 44 rfl
theorem d_TG_understandScheme_87 : decode M_TG_understandScheme.2.1 87 = .ok (.goto 4, 3) := fx_d (q := (87, .goto 4, 3)) D_TG_understandScheme 45 rfl
theorem d_TG_understandScheme_90 : decode M_TG_understandScheme.2.1 90 = .ok (.iconst 0, 1) := fx_d (q := (90, .iconst 0, 1)) D_TG_understandScheme 46 rfl
theorem d_TG_understandScheme_91 : decode M_TG_understandScheme.2.1 91 = .ok (.ireturn, 1) := fx_d (q := (91, .ireturn, 1)) D_TG_understandScheme 47 rfl
set_option maxRecDepth 100000 in
def L_TG_understandStrips : List (Nat × Instr × Nat) := [(0, .aload_n 0, 1), (1, .sipush 278, 3), (4, .invokevirtual 57, 3), (7, .lstore_n 1, 1), (8, .lload_n 1, 1), (9, .lconst 1, 1), (10, .lcmp, 1), (11, .ifCond .lt 13, 3), (14, .lload_n 1, 1), (15, .aload_n 0, 1), (16, .getfield 74, 3), (19, .i2l, 1), (20, .lcmp, 1), (21, .ifCond .le 5, 3), (24, .iconst 0, 1), (25, .ireturn, 1), (26, .aload_n 0, 1), (27, .lload_n 1, 1), (28, .l2i, 1), (29, .putfield 91, 3), (32, .aload_n 0, 1), (33, .aload_n 0, 1), (34, .getfield 74, 3), (37, .aload_n 0, 1), (38, .getfield 91, 3), (41, .invokestatic 94, 3), (44, .putfield 98, 3), (47, .aload_n 0, 1), (48, .sipush 273, 3), (51, .aload_n 0, 1), (52, .getfield 98, 3), (55, .invokevirtual 101, 3), (58, .ifCond .eq 21, 3), (61, .aload_n 0, 1), (62, .sipush 279, 3), (65, .aload_n 0, 1), (66, .getfield 98, 3), (69, .invokevirtual 101, 3), (72, .ifCond .eq 7, 3), (75, .iconst 1, 1), (76, .goto 4, 3), (79, .iconst 0, 1), (80, .ireturn, 1)]
set_option maxRecDepth 100000 in
theorem D_TG_understandStrips : ∀ q ∈ L_TG_understandStrips, decode prog_12_method_8_code q.1 = .ok q.2 := by decide +kernel
theorem d_TG_understandStrips_0 : decode M_TG_understandStrips.2.1 0 = .ok (.aload_n 0, 1) := fx_d (q := (0, .aload_n 0, 1)) D_TG_understandStrips 0 rfl
theorem d_TG_understandStrips_1 : decode M_TG_understandStrips.2.1 1 = .ok (.sipush 278, 3) := fx_d (q := (1, .sipush 278, 3)) D_TG_understandStrips 1 rfl
theorem d_TG_understandStrips_4 : decode M_TG_understandStrips.2.1 4 = .ok (.invokevirtual 57, 3) := fx_d (q := (4, .invokevirtual 57, 3)) D_TG_understandStrips 2 rfl
theorem d_TG_understandStrips_7 : decode M_TG_understandStrips.2.1 7 = .ok (.lstore_n 1, 1) := fx_d (q := (7, .lstore_n 1, 1)) D_TG_understandStrips 3 rfl
theorem d_TG_understandStrips_8 : decode M_TG_understandStrips.2.1 8 = .ok (.lload_n 1, 1) := fx_d (q := (8, .lload_n 1, 1)) D_TG_understandStrips 4 rfl
theorem d_TG_understandStrips_9 : decode M_TG_understandStrips.2.1 9 = .ok (.lconst 1, 1) := fx_d (q := (9, .lconst 1, 1)) D_TG_understandStrips 5 rfl
theorem d_TG_understandStrips_10 : decode M_TG_understandStrips.2.1 10 = .ok (.lcmp, 1) := fx_d (q := (10, .lcmp, 1)) D_TG_understandStrips 6 rfl
theorem d_TG_understandStrips_11 : decode M_TG_understandStrips.2.1 11 = .ok (.ifCond .lt 13, 3) := fx_d (q := (11, .ifCond .lt 13, 3)) D_TG_understandStrips 7 rfl
theorem d_TG_understandStrips_14 : decode M_TG_understandStrips.2.1 14 = .ok (.lload_n 1, 1) := fx_d (q := (14, .lload_n 1, 1)) D_TG_understandStrips 8 rfl
theorem d_TG_understandStrips_15 : decode M_TG_understandStrips.2.1 15 = .ok (.aload_n 0, 1) := fx_d (q := (15, .aload_n 0, 1)) D_TG_understandStrips 9 rfl
theorem d_TG_understandStrips_16 : decode M_TG_understandStrips.2.1 16 = .ok (.getfield 74, 3) := fx_d (q := (16, .getfield 74, 3)) D_TG_understandStrips 10 rfl
theorem d_TG_understandStrips_19 : decode M_TG_understandStrips.2.1 19 = .ok (.i2l, 1) := fx_d (q := (19, .i2l, 1)) D_TG_understandStrips 11 rfl
theorem d_TG_understandStrips_20 : decode M_TG_understandStrips.2.1 20 = .ok (.lcmp, 1) := fx_d (q := (20, .lcmp, 1)) D_TG_understandStrips 12 rfl
theorem d_TG_understandStrips_21 : decode M_TG_understandStrips.2.1 21 = .ok (.ifCond .le 5, 3) := fx_d (q := (21, .ifCond .le 5, 3)) D_TG_understandStrips 13 rfl
theorem d_TG_understandStrips_24 : decode M_TG_understandStrips.2.1 24 = .ok (.iconst 0, 1) := fx_d (q := (24, .iconst 0, 1)) D_TG_understandStrips 14 rfl
theorem d_TG_understandStrips_25 : decode M_TG_understandStrips.2.1 25 = .ok (.ireturn, 1) := fx_d (q := (25, .ireturn, 1)) D_TG_understandStrips 15 rfl
theorem d_TG_understandStrips_26 : decode M_TG_understandStrips.2.1 26 = .ok (.aload_n 0, 1) := fx_d (q := (26, .aload_n 0, 1)) D_TG_understandStrips 16 rfl
theorem d_TG_understandStrips_27 : decode M_TG_understandStrips.2.1 27 = .ok (.lload_n 1, 1) := fx_d (q := (27, .lload_n 1, 1)) D_TG_understandStrips 17 rfl
theorem d_TG_understandStrips_28 : decode M_TG_understandStrips.2.1 28 = .ok (.l2i, 1) := fx_d (q := (28, .l2i, 1)) D_TG_understandStrips 18 rfl
theorem d_TG_understandStrips_29 : decode M_TG_understandStrips.2.1 29 = .ok (.putfield 91, 3) := fx_d (q := (29, .putfield 91, 3)) D_TG_understandStrips 19 rfl
theorem d_TG_understandStrips_32 : decode M_TG_understandStrips.2.1 32 = .ok (.aload_n 0, 1) := fx_d (q := (32, .aload_n 0, 1)) D_TG_understandStrips 20 rfl
theorem d_TG_understandStrips_33 : decode M_TG_understandStrips.2.1 33 = .ok (.aload_n 0, 1) := fx_d (q := (33, .aload_n 0, 1)) D_TG_understandStrips 21 rfl
theorem d_TG_understandStrips_34 : decode M_TG_understandStrips.2.1 34 = .ok (.getfield 74, 3) := fx_d (q := (34, .getfield 74, 3)) D_TG_understandStrips 22 rfl
theorem d_TG_understandStrips_37 : decode M_TG_understandStrips.2.1 37 = .ok (.aload_n 0, 1) := fx_d (q := (37, .aload_n 0, 1)) D_TG_understandStrips 23 rfl
theorem d_TG_understandStrips_38 : decode M_TG_understandStrips.2.1 38 = .ok (.getfield 91, 3) := fx_d (q := (38, .getfield 91, 3)) D_TG_understandStrips 24 rfl
theorem d_TG_understandStrips_41 : decode M_TG_understandStrips.2.1 41 = .ok (.invokestatic 94, 3) := fx_d (q := (41, .invokestatic 94, 3)) D_TG_understandStrips 25 rfl
theorem d_TG_understandStrips_44 : decode M_TG_understandStrips.2.1 44 = .ok (.putfield 98, 3) := fx_d (q := (44, .putfield 98, 3)) D_TG_understandStrips 26 rfl
theorem d_TG_understandStrips_47 : decode M_TG_understandStrips.2.1 47 = .ok (.aload_n 0, 1) := fx_d (q := (47, .aload_n 0, 1)) D_TG_understandStrips 27 rfl
theorem d_TG_understandStrips_48 : decode M_TG_understandStrips.2.1 48 = .ok (.sipush 273, 3) := fx_d (q := (48, .sipush 273, 3)) D_TG_understandStrips 28 rfl
theorem d_TG_understandStrips_51 : decode M_TG_understandStrips.2.1 51 = .ok (.aload_n 0, 1) := fx_d (q := (51, .aload_n 0, 1)) D_TG_understandStrips 29 rfl
theorem d_TG_understandStrips_52 : decode M_TG_understandStrips.2.1 52 = .ok (.getfield 98, 3) := fx_d (q := (52, .getfield 98, 3)) D_TG_understandStrips 30 rfl
theorem d_TG_understandStrips_55 : decode M_TG_understandStrips.2.1 55 = .ok (.invokevirtual 101, 3) := fx_d (q := (55, .invokevirtual 101, 3)) D_TG_understandStrips 31 rfl
theorem d_TG_understandStrips_58 : decode M_TG_understandStrips.2.1 58 = .ok (.ifCond .eq 21, 3) := fx_d (q := (58, .ifCond .eq 21, 3)) D_TG_understandStrips 32 rfl
theorem d_TG_understandStrips_61 : decode M_TG_understandStrips.2.1 61 = .ok (.aload_n 0, 1) := fx_d (q := (61, .aload_n 0, 1)) D_TG_understandStrips 33 rfl
theorem d_TG_understandStrips_62 : decode M_TG_understandStrips.2.1 62 = .ok (.sipush 279, 3) := fx_d (q := (62, .sipush 279, 3)) D_TG_understandStrips 34 rfl
theorem d_TG_understandStrips_65 : decode M_TG_understandStrips.2.1 65 = .ok (.aload_n 0, 1) := fx_d (q := (65, .aload_n 0, 1)) D_TG_understandStrips 35 rfl
theorem d_TG_understandStrips_66 : decode M_TG_understandStrips.2.1 66 = .ok (.getfield 98, 3) := fx_d (q := (66, .getfield 98, 3)) D_TG_understandStrips 36 rfl
theorem d_TG_understandStrips_69 : decode M_TG_understandStrips.2.1 69 = .ok (.invokevirtual 101, 3) := fx_d (q := (69, .invokevirtual 101, 3)) D_TG_understandStrips 37 rfl
theorem d_TG_understandStrips_72 : decode M_TG_understandStrips.2.1 72 = .ok (.ifCond .eq 7, 3) := fx_d (q := (72, .ifCond .eq 7, 3)) D_TG_understandStrips 38 rfl
theorem d_TG_understandStrips_75 : decode M_TG_understandStrips.2.1 75 = .ok (.iconst 1, 1) := fx_d (q := (75, .iconst 1, 1)) D_TG_understandStrips 39 rfl
theorem d_TG_understandStrips_76 : decode M_TG_understandStrips.2.1 76 = .ok (.goto 4, 3) := fx_d (q := (76, .goto 4, 3)) D_TG_understandStrips 40 rfl
theorem d_TG_understandStrips_79 : decode M_TG_understandStrips.2.1 79 = .ok (.iconst 0, 1) := fx_d (q := (79, .iconst 0, 1)) D_TG_understandStrips 41 rfl
theorem d_TG_understandStrips_80 : decode M_TG_understandStrips.2.1 80 = .ok (.ireturn, 1) := fx_d (q := (80, .ireturn, 1)) D_TG_understandStrips 42 rfl
set_option maxRecDepth 100000 in
def L_TG_stripsAreInFile : List (Nat × Instr × Nat) := [(0, .iconst 0, 1), (1, .istore_n 1, 1), (2, .iload_n 1, 1), (3, .aload_n 0, 1), (4, .getfield 98, 3), (7, .if_icmp .ge 40, 3), (10, .aload_n 0, 1), (11, .sipush 273, 3), (14, .iload_n 1, 1), (15, .invokevirtual 105, 3), (18, .aload_n 0, 1), (19, .sipush 279, 3), (22, .iload_n 1, 1), (23, .invokevirtual 105, 3), (26, .ladd, 1), (27, .aload_n 0, 1), (28, .getfield 9, 3), (31, .getfield 49, 3), (34, .i2l, 1), (35, .lcmp, 1), (36, .ifCond .le 5, 3), (39, .iconst 0, 1), (40, .ireturn, 1), (41, .iinc 1 1, 3), (44, .goto (-42), 3), (47, .iconst 1, 1), (48, .ireturn, 1)]
set_option maxRecDepth 100000 in
theorem D_TG_stripsAreInFile : ∀ q ∈ L_TG_stripsAreInFile, decode prog_12_method_9_code q.1 = .ok q.2 := by decide +kernel
theorem d_TG_stripsAreInFile_0 : decode M_TG_stripsAreInFile.2.1 0 = .ok (.iconst 0, 1) := fx_d (q := (0, .iconst 0, 1)) D_TG_stripsAreInFile 0 rfl
theorem d_TG_stripsAreInFile_1 : decode M_TG_stripsAreInFile.2.1 1 = .ok (.istore_n 1, 1) := fx_d (q := (1, .istore_n 1, 1)) D_TG_stripsAreInFile 1 rfl
theorem d_TG_stripsAreInFile_2 : decode M_TG_stripsAreInFile.2.1 2 = .ok (.iload_n 1, 1) := fx_d (q := (2, .iload_n 1, 1)) D_TG_stripsAreInFile 2 rfl
theorem d_TG_stripsAreInFile_3 : decode M_TG_stripsAreInFile.2.1 3 = .ok (.aload_n 0, 1) := fx_d (q := (3, .aload_n 0, 1)) D_TG_stripsAreInFile 3 rfl
theorem d_TG_stripsAreInFile_4 : decode M_TG_stripsAreInFile.2.1 4 = .ok (.getfield 98, 3) := fx_d (q := (4, .getfield 98, 3)) D_TG_stripsAreInFile 4 rfl
theorem d_TG_stripsAreInFile_7 : decode M_TG_stripsAreInFile.2.1 7 = .ok (.if_icmp .ge 40, 3) := fx_d (q := (7, .if_icmp .ge 40, 3)) D_TG_stripsAreInFile 5 rfl
theorem d_TG_stripsAreInFile_10 : decode M_TG_stripsAreInFile.2.1 10 = .ok (.aload_n 0, 1) := fx_d (q := (10, .aload_n 0, 1)) D_TG_stripsAreInFile 6 rfl
theorem d_TG_stripsAreInFile_11 : decode M_TG_stripsAreInFile.2.1 11 = .ok (.sipush 273, 3) := fx_d (q := (11, .sipush 273, 3)) D_TG_stripsAreInFile 7 rfl
theorem d_TG_stripsAreInFile_14 : decode M_TG_stripsAreInFile.2.1 14 = .ok (.iload_n 1, 1) := fx_d (q := (14, .iload_n 1, 1)) D_TG_stripsAreInFile 8 rfl
theorem d_TG_stripsAreInFile_15 : decode M_TG_stripsAreInFile.2.1 15 = .ok (.invokevirtual 105, 3) := fx_d (q := (15, .invokevirtual 105, 3)) D_TG_stripsAreInFile 9 rfl
theorem d_TG_stripsAreInFile_18 : decode M_TG_stripsAreInFile.2.1 18 = .ok (.aload_n 0, 1) := fx_d (q := (18, .aload_n 0, 1)) D_TG_stripsAreInFile 10 rfl
theorem d_TG_stripsAreInFile_19 : decode M_TG_stripsAreInFile.2.1 19 = .ok (.sipush 279, 3) := fx_d (q := (19, .sipush 279, 3)) D_TG_stripsAreInFile 11 rfl
theorem d_TG_stripsAreInFile_22 : decode M_TG_stripsAreInFile.2.1 22 = .ok (.iload_n 1, 1) := fx_d (q := (22, .iload_n 1, 1)) D_TG_stripsAreInFile 12 rfl
theorem d_TG_stripsAreInFile_23 : decode M_TG_stripsAreInFile.2.1 23 = .ok (.invokevirtual 105, 3) := fx_d (q := (23, .invokevirtual 105, 3)) D_TG_stripsAreInFile 13 rfl
theorem d_TG_stripsAreInFile_26 : decode M_TG_stripsAreInFile.2.1 26 = .ok (.ladd, 1) := fx_d (q := (26, .ladd, 1)) D_TG_stripsAreInFile 14 rfl
theorem d_TG_stripsAreInFile_27 : decode M_TG_stripsAreInFile.2.1 27 = .ok (.aload_n 0, 1) := fx_d (q := (27, .aload_n 0, 1)) D_TG_stripsAreInFile 15 rfl
theorem d_TG_stripsAreInFile_28 : decode M_TG_stripsAreInFile.2.1 28 = .ok (.getfield 9, 3) := fx_d (q := (28, .getfield 9, 3)) D_TG_stripsAreInFile 16 rfl
theorem d_TG_stripsAreInFile_31 : decode M_TG_stripsAreInFile.2.1 31 = .ok (.getfield 49, 3) := fx_d (q := (31, .getfield 49, 3)) D_TG_stripsAreInFile 17 rfl
theorem d_TG_stripsAreInFile_34 : decode M_TG_stripsAreInFile.2.1 34 = .ok (.i2l, 1) := fx_d (q := (34, .i2l, 1)) D_TG_stripsAreInFile 18 rfl
theorem d_TG_stripsAreInFile_35 : decode M_TG_stripsAreInFile.2.1 35 = .ok (.lcmp, 1) := fx_d (q := (35, .lcmp, 1)) D_TG_stripsAreInFile 19 rfl
theorem d_TG_stripsAreInFile_36 : decode M_TG_stripsAreInFile.2.1 36 = .ok (.ifCond .le 5, 3) := fx_d (q := (36, .ifCond .le 5, 3)) D_TG_stripsAreInFile 20 rfl
theorem d_TG_stripsAreInFile_39 : decode M_TG_stripsAreInFile.2.1 39 = .ok (.iconst 0, 1) := fx_d (q := (39, .iconst 0, 1)) D_TG_stripsAreInFile 21 rfl
theorem d_TG_stripsAreInFile_40 : decode M_TG_stripsAreInFile.2.1 40 = .ok (.ireturn, 1) := fx_d (q := (40, .ireturn, 1)) D_TG_stripsAreInFile 22 rfl
theorem d_TG_stripsAreInFile_41 : decode M_TG_stripsAreInFile.2.1 41 = .ok (.iinc 1 1, 3) := fx_d (q := (41, .iinc 1 1, 3)) D_TG_stripsAreInFile 23 rfl
theorem d_TG_stripsAreInFile_44 : decode M_TG_stripsAreInFile.2.1 44 = .ok (.goto (-42), 3) := fx_d (q := (44, .goto (-42), 3)) D_TG_stripsAreInFile 24 rfl
theorem d_TG_stripsAreInFile_47 : decode M_TG_stripsAreInFile.2.1 47 = .ok (.iconst 1, 1) := fx_d (q := (47, .iconst 1, 1)) D_TG_stripsAreInFile 25 rfl
theorem d_TG_stripsAreInFile_48 : decode M_TG_stripsAreInFile.2.1 48 = .ok (.ireturn, 1) := fx_d (q := (48, .ireturn, 1)) D_TG_stripsAreInFile 26 rfl
