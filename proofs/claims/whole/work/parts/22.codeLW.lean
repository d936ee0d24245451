set_option maxRecDepth 100000 in
def L_LW_blank : List (Nat × Instr × Nat) := [(0, .aload_n 0, 1), (1, .iload_n 1, 1), (2, .iload_n 2, 1), (3, .iload_n 3, 1), (4, .invokevirtual 7, 3), (7, .goto 7, 3), (10, .astore 4, 2), (12, .iconst 1, 1), (13, .ireturn, 1), (14, .iconst 0, 1), (15, .ireturn, 1)]
set_option maxRecDepth 100000 in
theorem D_LW_blank : ∀ q ∈ L_LW_blank, decode method_3_code q.1 = .ok q.2 := by decide +kernel
theorem d_LW_blank_0 : decode M_LW_blank.2.1 0 = .ok (.aload_n 0, 1) := fx_d (q := (0, .aload_n 0, 1)) D_LW_blank 0 rfl
theorem d_LW_blank_1 : decode M_LW_blank.2.1 1 = .ok (.iload_n 1, 1) := fx_d (q := (1, .iload_n 1, 1)) D_LW_blank 1 rfl
theorem d_LW_blank_2 : decode M_LW_blank.2.1 2 = .ok (.iload_n 2, 1) := fx_d (q := (2, .iload_n 2, 1)) D_LW_blank 2 rfl
theorem d_LW_blank_3 : decode M_LW_blank.2.1 3 = .ok (.iload_n 3, 1) := fx_d (q := (3, .iload_n 3, 1)) D_LW_blank 3 rfl
theorem d_LW_blank_4 : decode M_LW_blank.2.1 4 = .ok (.invokevirtual 7, 3) := fx_d (q := (4, .invokevirtual 7, 3)) D_LW_blank 4 rfl
theorem d_LW_blank_7 : decode M_LW_blank.2.1 7 = .ok (.goto 7, 3) := fx_d (q := (7, .goto 7, 3)) D_LW_blank 5 rfl
theorem d_LW_blank_10 : decode M_LW_blank.2.1 10 = .ok (.astore 4, 2) := fx_d (q := (10, .astore 4, 2)) D_LW_blank 6 rfl
theorem d_LW_blank_12 : decode M_LW_blank.2.1 12 = .ok (.iconst 1, 1) := fx_d (q := (12, .iconst 1, 1)) D_LW_blank 7 rfl
theorem d_LW_blank_13 : decode M_LW_blank.2.1 13 = .ok (.ireturn, 1) := fx_d (q := (13, .ireturn, 1)) D_LW_blank 8 rfl
theorem d_LW_blank_14 : decode M_LW_blank.2.1 14 = .ok (.iconst 0, 1) := fx_d (q := (14, .iconst 0, 1)) D_LW_blank 9 rfl
theorem d_LW_blank_15 : decode M_LW_blank.2.1 15 = .ok (.ireturn, 1) := fx_d (q := (15, .ireturn, 1)) D_LW_blank 10 rfl
set_option maxRecDepth 100000 in
def L_LW_set : List (Nat × Instr × Nat) := [(0, .aload_n 0, 1), (1, .iload_n 1, 1), (2, .iload_n 2, 1), (3, .iload_n 3, 1), (4, .invokevirtual 15, 3), (7, .goto 11, 3), (10, .astore 4, 2), (12, .iconst 1, 1), (13, .ireturn, 1), (14, .astore 4, 2), (16, .iconst 2, 1), (17, .ireturn, 1), (18, .iconst 0, 1), (19, .ireturn, 1)]
set_option maxRecDepth 100000 in
theorem D_LW_set : ∀ q ∈ L_LW_set, decode method_4_code q.1 = .ok q.2 := by decide +kernel
theorem d_LW_set_0 : decode M_LW_set.2.1 0 = .ok (.aload_n 0, 1) := fx_d (q := (0, .aload_n 0, 1)) D_LW_set 0 rfl
theorem d_LW_set_1 : decode M_LW_set.2.1 1 = .ok (.iload_n 1, 1) := fx_d (q := (1, .iload_n 1, 1)) D_LW_set 1 rfl
theorem d_LW_set_2 : decode M_LW_set.2.1 2 = .ok (.iload_n 2, 1) := fx_d (q := (2, .iload_n 2, 1)) D_LW_set 2 rfl
theorem d_LW_set_3 : decode M_LW_set.2.1 3 = .ok (.iload_n 3, 1) := fx_d (q := (3, .iload_n 3, 1)) D_LW_set 3 rfl
theorem d_LW_set_4 : decode M_LW_set.2.1 4 = .ok (.invokevirtual 15, 3) := fx_d (q := (4, .invokevirtual 15, 3)) D_LW_set 4 rfl
theorem d_LW_set_7 : decode M_LW_set.2.1 7 = .ok (.goto 11, 3) := fx_d (q := (7, .goto 11, 3)) D_LW_set 5 rfl
theorem d_LW_set_10 : decode M_LW_set.2.1 10 = .ok (.astore 4, 2) := fx_d (q := (10, .astore 4, 2)) D_LW_set 6 rfl
theorem d_LW_set_12 : decode M_LW_set.2.1 12 = .ok (.iconst 1, 1) := fx_d (q := (12, .iconst 1, 1)) D_LW_set 7 rfl
theorem d_LW_set_13 : decode M_LW_set.2.1 13 = .ok (.ireturn, 1) := fx_d (q := (13, .ireturn, 1)) D_LW_set 8 rfl
theorem d_LW_set_14 : decode M_LW_set.2.1 14 = .ok (.astore 4, 2) := fx_d (q := (14, .astore 4, 2)) D_LW_set 9 rfl
theorem d_LW_set_16 : decode M_LW_set.2.1 16 = .ok (.iconst 2, 1) := fx_d (q := (16, .iconst 2, 1)) D_LW_set 10 rfl
theorem d_LW_set_17 : decode M_LW_set.2.1 17 = .ok (.ireturn, 1) := fx_d (q := (17, .ireturn, 1)) D_LW_set 11 rfl
theorem d_LW_set_18 : decode M_LW_set.2.1 18 = .ok (.iconst 0, 1) := fx_d (q := (18, .iconst 0, 1)) D_LW_set 12 rfl
theorem d_LW_set_19 : decode M_LW_set.2.1 19 = .ok (.ireturn, 1) := fx_d (q := (19, .ireturn, 1)) D_LW_set 13 rfl
set_option maxRecDepth 100000 in
def L_LW_write : List (Nat × Instr × Nat) := [(0, .aload 4, 2), (2, .iconst 0, 1), (3, .aload_n 0, 1), (4, .iload_n 1, 1), (5, .iload_n 2, 1), (6, .iload_n 3, 1), (7, .invokevirtual 21, 3), (10, .i2l, 1), (11, .lastore, 1), (12, .goto 11, 3), (15, .astore 5, 2), (17, .iconst 1, 1), (18, .ireturn, 1), (19, .astore 5, 2), (21, .iconst 2, 1), (22, .ireturn, 1), (23, .iconst 0, 1), (24, .ireturn, 1)]
set_option maxRecDepth 100000 in
theorem D_LW_write : ∀ q ∈ L_LW_write, decode method_5_code q.1 = .ok q.2 := by decide +kernel
theorem d_LW_write_0 : decode M_LW_write.2.1 0 = .ok (.aload 4, 2) := fx_d (q := (0, .aload 4, 2)) D_LW_write 0 rfl
theorem d_LW_write_2 : decode M_LW_write.2.1 2 = .ok (.iconst 0, 1) := fx_d (q := (2, .iconst 0, 1)) D_LW_write 1 rfl
theorem d_LW_write_3 : decode M_LW_write.2.1 3 = .ok (.aload_n 0, 1) := fx_d (q := (3, .aload_n 0, 1)) D_LW_write 2 rfl
theorem d_LW_write_4 : decode M_LW_write.2.1 4 = .ok (.iload_n 1, 1) := fx_d (q := (4, .iload_n 1, 1)) D_LW_write 3 rfl
theorem d_LW_write_5 : decode M_LW_write.2.1 5 = .ok (.iload_n 2, 1) := fx_d (q := (5, .iload_n 2, 1)) D_LW_write 4 rfl
theorem d_LW_write_6 : decode M_LW_write.2.1 6 = .ok (.iload_n 3, 1) := fx_d (q := (6, .iload_n 3, 1)) D_LW_write 5 rfl
theorem d_LW_write_7 : decode M_LW_write.2.1 7 = .ok (.invokevirtual 21, 3) := fx_d (q := (7, .invokevirtual 21, 3)) D_LW_write 6 rfl
theorem d_LW_write_10 : decode M_LW_write.2.1 10 = .ok (.i2l, 1) := fx_d (q := (10, .i2l, 1)) D_LW_write 7 rfl
theorem d_LW_write_11 : decode M_LW_write.2.1 11 = .ok (.lastore, 1) := fx_d (q := (11, .lastore, 1)) D_LW_write 8 rfl
theorem d_LW_write_12 : decode M_LW_write.2.1 12 = .ok (.goto 11, 3) := fx_d (q := (12, .goto 11, 3)) D_LW_write 9 rfl
theorem d_LW_write_15 : decode M_LW_write.2.1 15 = .ok (.astore 5, 2) := fx_d (q := (15, .astore 5, 2)) D_LW_write 10 rfl
theorem d_LW_write_17 : decode M_LW_write.2.1 17 = .ok (.iconst 1, 1) := fx_d (q := (17, .iconst 1, 1)) D_LW_write 11 rfl
theorem d_LW_write_18 : decode M_LW_write.2.1 18 = .ok (.ireturn, 1) := fx_d (q := (18, .ireturn, 1)) D_LW_write 12 rfl
theorem d_LW_write_19 : decode M_LW_write.2.1 19 = .ok (.astore 5, 2) := fx_d (q := (19, .astore 5, 2)) D_LW_write 13 rfl
theorem d_LW_write_21 : decode M_LW_write.2.1 21 = .ok (.iconst 2, 1) := fx_d (q := (21, .iconst 2, 1)) D_LW_write 14 rfl
theorem d_LW_write_22 : decode M_LW_write.2.1 22 = .ok (.ireturn, 1) := fx_d (q := (22, .ireturn, 1)) D_LW_write 15 rfl
theorem d_LW_write_23 : decode M_LW_write.2.1 23 = .ok (.iconst 0, 1) := fx_d (q := (23, .iconst 0, 1)) D_LW_write 16 rfl
theorem d_LW_write_24 : decode M_LW_write.2.1 24 = .ok (.ireturn, 1) := fx_d (q := (24, .ireturn, 1)) D_LW_write 17 rfl
set_option maxRecDepth 100000 in
def L_LW_put : List (Nat × Instr × Nat) := [(0, .aload_n 3, 1), (1, .iconst 0, 1), (2, .aload_n 0, 1), (3, .iload_n 1, 1), (4, .iload_n 2, 1), (5, .invokevirtual 27, 3), (8, .i2l, 1), (9, .lastore, 1), (10, .goto 11, 3), (13, .astore 4, 2), (15, .iconst 1, 1), (16, .ireturn, 1), (17, .astore 4, 2), (19, .iconst 2, 1), (20, .ireturn, 1), (21, .iconst 0, 1), (22, .ireturn, 1)]
set_option maxRecDepth 100000 in
theorem D_LW_put : ∀ q ∈ L_LW_put, decode method_6_code q.1 = .ok q.2 := by decide +kernel
theorem d_LW_put_0 : decode M_LW_put.2.1 0 = .ok (.aload_n 3, 1) := fx_d (q := (0, .aload_n 3, 1)) D_LW_put 0 rfl
theorem d_LW_put_1 : decode M_LW_put.2.1 1 = .ok (.iconst 0, 1) := fx_d (q := (1, .iconst 0, 1)) D_LW_put 1 rfl
theorem d_LW_put_2 : decode M_LW_put.2.1 2 = .ok (.aload_n 0, 1) := fx_d (q := (2, .aload_n 0, 1)) D_LW_put 2 rfl
theorem d_LW_put_3 : decode M_LW_put.2.1 3 = .ok (.iload_n 1, 1) := fx_d (q := (3, .iload_n 1, 1)) D_LW_put 3 rfl
theorem d_LW_put_4 : decode M_LW_put.2.1 4 = .ok (.iload_n 2, 1) := fx_d (q := (4, .iload_n 2, 1)) D_LW_put 4 rfl
theorem d_LW_put_5 : decode M_LW_put.2.1 5 = .ok (.invokevirtual 27, 3) := fx_d (q := (5, .invokevirtual 27, 3)) D_LW_put 5 rfl
theorem d_LW_put_8 : decode M_LW_put.2.1 8 = .ok (.i2l, 1) := fx_d (q := (8, .i2l, 1)) D_LW_put 6 rfl
theorem d_LW_put_9 : decode M_LW_put.2.1 9 = .ok (.lastore, 1) := fx_d (q := (9, .lastore, 1)) D_LW_put 7 rfl
theorem d_LW_put_10 : decode M_LW_put.2.1 10 = .ok (.goto 11, 3) := fx_d (q := (10, .goto 11, 3)) D_LW_put 8 rfl
theorem d_LW_put_13 : decode M_LW_put.2.1 13 = .ok (.astore 4, 2) := fx_d (q := (13, .astore 4, 2)) D_LW_put 9 rfl
theorem d_LW_put_15 : decode M_LW_put.2.1 15 = .ok (.iconst 1, 1) := fx_d (q := (15, .iconst 1, 1)) D_LW_put 10 rfl
theorem d_LW_put_16 : decode M_LW_put.2.1 16 = .ok (.ireturn, 1) := fx_d (q := (16, .ireturn, 1)) D_LW_put 11 rfl
theorem d_LW_put_17 : decode M_LW_put.2.1 17 = .ok (.astore 4, 2) := fx_d (q := (17, .astore 4, 2)) D_LW_put 12 rfl
theorem d_LW_put_19 : decode M_LW_put.2.1 19 = .ok (.iconst 2, 1) := fx_d (q := (19, .iconst 2, 1)) D_LW_put 13 rfl
theorem d_LW_put_20 : decode M_LW_put.2.1 20 = .ok (.ireturn, 1) := fx_d (q := (20, .ireturn, 1)) D_LW_put 14 rfl
theorem d_LW_put_21 : decode M_LW_put.2.1 21 = .ok (.iconst 0, 1) := fx_d (q := (21, .iconst 0, 1)) D_LW_put 15 rfl
theorem d_LW_put_22 : decode M_LW_put.2.1 22 = .ok (.ireturn, 1) := fx_d (q := (22, .ireturn, 1)) D_LW_put 16 rfl
set_option maxRecDepth 100000 in
def L_LW_cut : List (Nat × Instr × Nat) := [(0, .aload_n 2, 1), (1, .iconst 0, 1), (2, .aload_n 0, 1), (3, .iload_n 1, 1), (4, .invokevirtual 31, 3), (7, .i2l, 1), (8, .lastore, 1), (9, .goto 6, 3), (12, .astore_n 3, 1), (13, .iconst 1, 1), (14, .ireturn, 1), (15, .iconst 0, 1), (16, .ireturn, 1)]
set_option maxRecDepth 100000 in
theorem D_LW_cut : ∀ q ∈ L_LW_cut, decode method_7_code q.1 = .ok q.2 := by decide +kernel
theorem d_LW_cut_0 : decode M_LW_cut.2.1 0 = .ok (.aload_n 2, 1) := fx_d (q := (0, .aload_n 2, 1)) D_LW_cut 0 rfl
theorem d_LW_cut_1 : decode M_LW_cut.2.1 1 = .ok (.iconst 0, 1) := fx_d (q := (1, .iconst 0, 1)) D_LW_cut 1 rfl
theorem d_LW_cut_2 : decode M_LW_cut.2.1 2 = .ok (.aload_n 0, 1) := fx_d (q := (2, .aload_n 0, 1)) D_LW_cut 2 rfl
theorem d_LW_cut_3 : decode M_LW_cut.2.1 3 = .ok (.iload_n 1, 1) := fx_d (q := (3, .iload_n 1, 1)) D_LW_cut 3 rfl
theorem d_LW_cut_4 : decode M_LW_cut.2.1 4 = .ok (.invokevirtual 31, 3) := fx_d (q := (4, .invokevirtual 31, 3)) D_LW_cut 4 rfl
theorem d_LW_cut_7 : decode M_LW_cut.2.1 7 = .ok (.i2l, 1) := fx_d (q := (7, .i2l, 1)) D_LW_cut 5 rfl
theorem d_LW_cut_8 : decode M_LW_cut.2.1 8 = .ok (.lastore, 1) := fx_d (q := (8, .lastore, 1)) D_LW_cut 6 rfl
theorem d_LW_cut_9 : decode M_LW_cut.2.1 9 = .ok (.goto 6, 3) := fx_d (q := (9, .goto 6, 3)) D_LW_cut 7 rfl
theorem d_LW_cut_12 : decode M_LW_cut.2.1 12 = .ok (.astore_n 3, 1) := fx_d (q := (12, .astore_n 3, 1)) D_LW_cut 8 rfl
theorem d_LW_cut_13 : decode M_LW_cut.2.1 13 = .ok (.iconst 1, 1) := fx_d (q := (13, .iconst 1, 1)) D_LW_cut 9 rfl
theorem d_LW_cut_14 : decode M_LW_cut.2.1 14 = .ok (.ireturn, 1) := fx_d (q := (14, .ireturn, 1)) D_LW_cut 10 rfl
theorem d_LW_cut_15 : decode M_LW_cut.2.1 15 = .ok (.iconst 0, 1) := fx_d (q := (15, .iconst 0, 1)) D_LW_cut 11 rfl
theorem d_LW_cut_16 : decode M_LW_cut.2.1 16 = .ok (.ireturn, 1) := fx_d (q := (16, .ireturn, 1)) D_LW_cut 12 rfl
set_option maxRecDepth 100000 in
def L_LW_law : List (Nat × Instr × Nat) := [(0, .new 8, 3), (3, .dup, 1), (4, .invokespecial 35, 3), (7, .astore_n 1, 1), (8, .new 36, 3), (11, .dup, 1), (12, .invokespecial 38, 3), (15, .astore_n 2, 1), (16, .iconst 1, 1), (17, .newarray .long, 2), (19, .astore_n 3, 1), (20, .iconst 0, 1), (21, .istore 4, 2), (23, .iload 4, 2), (25, .aload_n 0, 1), (26, .arraylength, 1), (27, .iconst 4, 1), (28, .isub, 1), (29, .if_icmp .gt 567, 3), (32, .aload_n 0, 1), (33, .iload 4, 2), (35, .iaload, 1), (36, .bipush 15, 2), (38, .iand, 1), (39, .tableswitch 551 0 10 #[57, 133, 193, 230, 255, 351, 364, 377, 402, 470, 495], 57), (96, .aload_n 1, 1), (97, .aload_n 0, 1), (98, .iload 4, 2), (100, .iconst 1, 1), (101, .iadd, 1), (102, .iaload, 1), (103, .ifCond .eq 7, 3), (106, .iconst 1, 1), (107, .goto 4, 3), (110, .iconst 0, 1), (111, .aload_n 0, 1), (112, .iload 4, 2), (114, .iconst 2, 1), (115, .iadd, 1), (116, .iaload, 1), (117, .aload_n 0, 1), (118, .iload 4, 2), (120, .iconst 3, 1), (121, .iadd, 1), (122, .iaload, 1), (123, .invokestatic 39, 3), (126, .istore 5, 2), (128, .aload_n 2, 1), (129, .aload_n 0, 1), (130, .iload 4, 2), (132, .iconst 1, 1), (133, .iadd, 1), (134, .iaload, 1), (135, .ifCond .eq 7, 3), (138, .iconst 1, 1), (139, .goto 4, 3), (142, .iconst 0, 1), (143, .aload_n 0, 1), (144, .iload 4, 2), (146, .iconst 2, 1), (147, .iadd, 1), (148, .iaload, 1), (149, .aload_n 0, 1), (150, .iload 4, 2), (152, .iconst 3, 1), (153, .iadd, 1), (154, .iaload, 1), (155, .invokevirtual 44, 3), (158, .aload_n 2, 1), (159, .invokevirtual 45, 3), (162, .iload 5, 2), (164, .if_icmp .eq 5, 3), (167, .iconst 0, 1), (168, .ireturn, 1), (169, .goto 421, 3), (172, .aload_n 1, 1), (173, .aload_n 0, 1), (174, .iload 4, 2), (176, .iconst 1, 1), (177, .iadd, 1), (178, .iaload, 1), (179, .aload_n 0, 1), (180, .iload 4, 2), (182, .iconst 2, 1), (183, .iadd, 1), (184, .iaload, 1), (185, .aload_n 0, 1), (186, .iload 4, 2), (188, .iconst 3, 1), (189, .iadd, 1), (190, .iaload, 1), (191, .invokestatic 49, 3), (194, .istore 5, 2), (196, .aload_n 2, 1), (197, .aload_n 0, 1), (198, .iload 4, 2), (200, .iconst 1, 1), (201, .iadd, 1), (202, .iaload, 1), (203, .aload_n 0, 1), (204, .iload 4, 2), (206, .iconst 2, 1), (207, .iadd, 1), (208, .iaload, 1), (209, .aload_n 0, 1), (210, .iload 4, 2), (212, .iconst 3, 1), (213, .iadd, 1), (214, .iaload, 1), (215, .invokevirtual 52, 3), (218, .aload_n 2, 1), (219, .invokevirtual 45, 3), (222, .iload 5, 2), (224, .if_icmp .eq 5, 3), (227, .iconst 0, 1), (228, .ireturn, 1), (229, .goto 361, 3), (232, .aload_n 1, 1), (233, .aload_n 0, 1), (234, .iload 4, 2), (236, .iconst 1, 1), (237, .iadd, 1), (238, .iaload, 1), (239, .aload_n 0, 1), (240, .iload 4, 2), (242, .iconst 2, 1), (243, .iadd, 1), (244, .iaload, 1), (245, .invokevirtual 53, 3), (248, .aload_n 2, 1), (249, .aload_n 0, 1), (250, .iload 4, 2), (252, .iconst 1, 1), (253, .iadd, 1), (254, .iaload, 1), (255, .aload_n 0, 1), (256, .iload 4, 2), (258, .iconst 2, 1), (259, .iadd, 1), (260, .iaload, 1), (261, .invokevirtual 56, 3), (264, .if_icmp .eq 326, 3), (267, .iconst 0, 1), (268, .ireturn, 1), (269, .aload_n 1, 1), (270, .aload_n 0, 1), (271, .iload 4, 2), (273, .iconst 1, 1), (274, .iadd, 1), (275, .iaload, 1), (276, .invokevirtual 57, 3), (279, .aload_n 2, 1), (280, .aload_n 0, 1), (281, .iload 4, 2), (283, .iconst 1, 1), (284, .iadd, 1), (285, .iaload, 1), (286, .invokevirtual 60, 3), (289, .if_icmp .eq 301, 3), (292, .iconst 0, 1), (293, .ireturn, 1), (294, .aload_n 1, 1), (295, .aload_n 0, 1), (296, .iload 4, 2), (298, .iconst 1, 1), (299, .iadd, 1), (300, .iaload, 1), (301, .aload_n 0, 1), (302, .iload 4, 2), (304, .iconst 2, 1), (305, .iadd, 1), (306, .iaload, 1), (307, .ifCond .eq 7, 3), (310, .iconst 1, 1), (311, .goto 4, 3), (314, .iconst 0, 1), (315, .aload_n 0, 1), (316, .iload 4, 2), (318, .iconst 3, 1), (319, .iadd, 1), (320, .iaload, 1), (321, .aload_n 3, 1), (322, .invokestatic 61, 3), (325, .istore 5, 2), (327, .aload_n 2, 1), (328, .aload_n 0, 1), (329, .iload 4, 2), (331, .iconst 1, 1), (332, .iadd, 1), (333, .iaload, 1), (334, .aload_n 0, 1), (335, .iload 4, 2), (337, .iconst 2, 1), (338, .iadd, 1), (339, .iaload, 1), (340, .ifCond .eq 7, 3), (343, .iconst 1, 1), (344, .goto 4, 3), (347, .iconst 0, 1), (348, .aload_n 0, 1), (349, .iload 4, 2), (351, .iconst 3, 1), (352, .iadd, 1), (353, .iaload, 1), (354, .invokevirtual 64, 3), (357, .istore 6, 2), (359, .aload_n 2, 1), (360, .invokevirtual 45, 3), (363, .iload 5, 2), (365, .if_icmp .eq 5, 3), (368, .iconst 0, 1), (369, .ireturn, 1), (370, .iload 5, 2), (372, .ifCond .ne 15, 3), (375, .aload_n 3, 1), (376, .iconst 0, 1), (377, .laload, 1), (378, .iload 6, 2), (380, .i2l, 1), (381, .lcmp, 1), (382, .ifCond .eq 5, 3), (385, .iconst 0, 1), (386, .ireturn, 1), (387, .goto 203, 3), (390, .aload_n 1, 1), (391, .invokevirtual 65, 3), (394, .aload_n 2, 1), (395, .invokevirtual 68, 3), (398, .if_icmp .eq 192, 3), (401, .iconst 0, 1), (402, .ireturn, 1), (403, .aload_n 1, 1), (404, .invokevirtual 69, 3), (407, .aload_n 2, 1), (408, .invokevirtual 72, 3), (411, .if_icmp .eq 179, 3), (414, .iconst 0, 1), (415, .ireturn, 1), (416, .aload_n 1, 1), (417, .aload_n 0, 1), (418, .iload 4, 2), (420, .iconst 1, 1), (421, .iadd, 1), (422, .iaload, 1), (423, .invokevirtual 73, 3), (426, .aload_n 2, 1), (427, .aload_n 0, 1), (428, .iload 4, 2), (430, .iconst 1, 1), (431, .iadd, 1), (432, .iaload, 1), (433, .invokevirtual 76, 3), (436, .if_icmp .eq 154, 3), (439, .iconst 0, 1), (440, .ireturn, 1), (441, .aload_n 1, 1), (442, .aload_n 0, 1), (443, .iload 4, 2), (445, .iconst 1, 1), (446, .iadd, 1), (447, .iaload, 1), (448, .aload_n 0, 1), (449, .iload 4, 2), (451, .iconst 2, 1), (452, .iadd, 1), (453, .iaload, 1), (454, .aload_n 3, 1), (455, .invokestatic 77, 3), (458, .istore 5, 2), (460, .aload_n 2, 1), (461, .aload_n 0, 1), (462, .iload 4, 2), (464, .iconst 1, 1), (465, .iadd, 1), (466, .iaload, 1), (467, .aload_n 0, 1), (468, .iload 4, 2), (470, .iconst 2, 1), (471, .iadd, 1), (472, .iaload, 1), (473, .invokevirtual 80, 3), (476, .istore 6, 2), (478, .aload_n 2, 1), (479, .invokevirtual 45, 3), (482, .iload 5, 2), (484, .if_icmp .eq 5, 3), (487, .iconst 0, 1), (488, .ireturn, 1), (489, .iload 5, 2), (491, .ifCond .ne 15, 3), (494, .aload_n 3, 1), (495, .iconst 0, 1), (496, .laload, 1), (497, .iload 6, 2), (499, .i2l, 1), (500, .lcmp, 1), (501, .ifCond .eq 5, 3), (504, .iconst 0, 1), (505, .ireturn, 1), (506, .goto 84, 3), (509, .aload_n 1, 1), (510, .aload_n 0, 1), (511, .iload 4, 2), (513, .iconst 1, 1), (514, .iadd, 1), (515, .iaload, 1), (516, .invokevirtual 81, 3), (519, .aload_n 2, 1), (520, .aload_n 0, 1), (521, .iload 4, 2), (523, .iconst 1, 1), (524, .iadd, 1), (525, .iaload, 1), (526, .invokevirtual 85, 3), (529, .if_icmp .eq 61, 3), (532, .iconst 0, 1), (533, .ireturn, 1), (534, .aload_n 1, 1), (535, .aload_n 0, 1), (536, .iload 4, 2), (538, .iconst 1, 1), (539, .iadd, 1), (540, .iaload, 1), (541, .aload_n 3, 1), (542, .invokestatic 86, 3), (545, .istore 5, 2), (547, .aload_n 2, 1), (548, .aload_n 0, 1), (549, .iload 4, 2), (551, .iconst 1, 1), (552, .iadd, 1), (553, .iaload, 1), (554, .invokevirtual 89, 3), (557, .istore 6, 2), (559, .aload_n 2, 1), (560, .invokevirtual 45, 3), (563, .iload 5, 2), (565, .if_icmp .eq 5, 3), (568, .iconst 0, 1), (569, .ireturn, 1), (570, .iload 5, 2), (572, .ifCond .ne 15, 3), (575, .aload_n 3, 1), (576, .iconst 0, 1), (577, .laload, 1), (578, .iload 6, 2), (580, .i2l, 1), (581, .lcmp, 1), (582, .ifCond .eq 5, 3), (585, .iconst 0, 1), (586, .ireturn, 1), (587, .goto 3, 3), (590, .iinc 4 4, 3), (593, .goto (-570), 3), (596, .iconst 1, 1), (597, .ireturn, 1)]
set_option maxRecDepth 100000 in
theorem D_LW_law : ∀ q ∈ L_LW_law, decode code q.1 = .ok q.2 := by decide +kernel
theorem d_LW_law_0 : decode M_LW_law.2.1 0 = .ok (.new 8, 3) := fx_d (q := (0, .new 8, 3)) D_LW_law 0 rfl
theorem d_LW_law_3 : decode M_LW_law.2.1 3 = .ok (.dup, 1) := fx_d (q := (3, .dup, 1)) D_LW_law 1 rfl
theorem d_LW_law_4 : decode M_LW_law.2.1 4 = .ok (.invokespecial 35, 3) := fx_d (q := (4, .invokespecial 35, 3)) D_LW_law 2 rfl
theorem d_LW_law_7 : decode M_LW_law.2.1 7 = .ok (.astore_n 1, 1) := fx_d (q := (7, .astore_n 1, 1)) D_LW_law 3 rfl
theorem d_LW_law_8 : decode M_LW_law.2.1 8 = .ok (.new 36, 3) := fx_d (q := (8, .new 36, 3)) D_LW_law 4 rfl
theorem d_LW_law_11 : decode M_LW_law.2.1 11 = .ok (.dup, 1) := fx_d (q := (11, .dup, 1)) D_LW_law 5 rfl
theorem d_LW_law_12 : decode M_LW_law.2.1 12 = .ok (.invokespecial 38, 3) := fx_d (q := (12, .invokespecial 38, 3)) D_LW_law 6 rfl
theorem d_LW_law_15 : decode M_LW_law.2.1 15 = .ok (.astore_n 2, 1) := fx_d (q := (15, .astore_n 2, 1)) D_LW_law 7 rfl
theorem d_LW_law_16 : decode M_LW_law.2.1 16 = .ok (.iconst 1, 1) := fx_d (q := (16, .iconst 1, 1)) D_LW_law 8 rfl
theorem d_LW_law_17 : decode M_LW_law.2.1 17 = .ok (.newarray .long, 2) := fx_d (q := (17, .newarray .long, 2)) D_LW_law 9 rfl
theorem d_LW_law_19 : decode M_LW_law.2.1 19 = .ok (.astore_n 3, 1) := fx_d (q := (19, .astore_n 3, 1)) D_LW_law 10 rfl
theorem d_LW_law_20 : decode M_LW_law.2.1 20 = .ok (.iconst 0, 1) := fx_d (q := (20, .iconst 0, 1)) D_LW_law 11 rfl
theorem d_LW_law_21 : decode M_LW_law.2.1 21 = .ok (.istore 4, 2) := fx_d (q := (21, .istore 4, 2)) D_LW_law 12 rfl
theorem d_LW_law_23 : decode M_LW_law.2.1 23 = .ok (.iload 4, 2) := fx_d (q := (23, .iload 4, 2)) D_LW_law 13 rfl
theorem d_LW_law_25 : decode M_LW_law.2.1 25 = .ok (.aload_n 0, 1) := fx_d (q := (25, .aload_n 0, 1)) D_LW_law 14 rfl
theorem d_LW_law_26 : decode M_LW_law.2.1 26 = .ok (.arraylength, 1) := fx_d (q := (26, .arraylength, 1)) D_LW_law 15 rfl
theorem d_LW_law_27 : decode M_LW_law.2.1 27 = .ok (.iconst 4, 1) := fx_d (q := (27, .iconst 4, 1)) D_LW_law 16 rfl
theorem d_LW_law_28 : decode M_LW_law.2.1 28 = .ok (.isub, 1) := fx_d (q := (28, .isub, 1)) D_LW_law 17 rfl
theorem d_LW_law_29 : decode M_LW_law.2.1 29 = .ok (.if_icmp .gt 567, 3) := fx_d (q := (29, .if_icmp .gt 567, 3)) D_LW_law 18 rfl
theorem d_LW_law_32 : decode M_LW_law.2.1 32 = .ok (.aload_n 0, 1) := fx_d (q := (32, .aload_n 0, 1)) D_LW_law 19 rfl
theorem d_LW_law_33 : decode M_LW_law.2.1 33 = .ok (.iload 4, 2) := fx_d (q := (33, .iload 4, 2)) D_LW_law 20 rfl
theorem d_LW_law_35 : decode M_LW_law.2.1 35 = .ok (.iaload, 1) := fx_d (q := (35, .iaload, 1)) D_LW_law 21 rfl
theorem d_LW_law_36 : decode M_LW_law.2.1 36 = .ok (.bipush 15, 2) := fx_d (q := (36, .bipush 15, 2)) D_LW_law 22 rfl
theorem d_LW_law_38 : decode M_LW_law.2.1 38 = .ok (.iand, 1) := fx_d (q := (38, .iand, 1)) D_LW_law 23 rfl
theorem d_LW_law_39 : decode M_LW_law.2.1 39 = .ok (.tableswitch 551 0 10 #[57, 133, 193, 230, 255, 351, 364, 377, 402, 470, 495], 57) := fx_d (q := (39, .tableswitch 551 0 10 #[57, 133, 193, 230, 255, 351, 364, 377, 402, 470, 495], 57)) D_LW_law 24 rfl
theorem d_LW_law_96 : decode M_LW_law.2.1 96 = .ok (.aload_n 1, 1) := fx_d (q := (96, .aload_n 1, 1)) D_LW_law 25 rfl
theorem d_LW_law_97 : decode M_LW_law.2.1 97 = .ok (.aload_n 0, 1) := fx_d (q := (97, .aload_n 0, 1)) D_LW_law 26 rfl
theorem d_LW_law_98 : decode M_LW_law.2.1 98 = .ok (.iload 4, 2) := fx_d (q := (98, .iload 4, 2)) D_LW_law 27 rfl
theorem d_LW_law_100 : decode M_LW_law.2.1 100 = .ok (.iconst 1, 1) := fx_d (q := (100, .iconst 1, 1)) D_LW_law 28 rfl
theorem d_LW_law_101 : decode M_LW_law.2.1 101 = .ok (.iadd, 1) := fx_d (q := (101, .iadd, 1)) D_LW_law 29 rfl
theorem d_LW_law_102 : decode M_LW_law.2.1 102 = .ok (.iaload, 1) := fx_d (q := (102, .iaload, 1)) D_LW_law 30 rfl
theorem d_LW_law_103 : decode M_LW_law.2.1 103 = .ok (.ifCond .eq 7, 3) := fx_d (q := (103, .ifCond .eq 7, 3)) D_LW_law 31 rfl
theorem d_LW_law_106 : decode M_LW_law.2.1 106 = .ok (.iconst 1, 1) := fx_d (q := (106, .iconst 1, 1)) D_LW_law 32 rfl
theorem d_LW_law_107 : decode M_LW_law.2.1 107 = .ok (.goto 4, 3) := fx_d (q := (107, .goto 4, 3)) D_LW_law 33 rfl
theorem d_LW_law_110 : decode M_LW_law.2.1 110 = .ok (.iconst 0, 1) := fx_d (q := (110, .iconst 0, 1)) D_LW_law 34 rfl
theorem d_LW_law_111 : decode M_LW_law.2.1 111 = .ok (.aload_n 0, 1) := fx_d (q := (111, .aload_n 0, 1)) D_LW_law 35 rfl
theorem d_LW_law_112 : decode M_LW_law.2.1 112 = .ok (.iload 4, 2) := fx_d (q := (112, .iload 4, 2)) D_LW_law 36 rfl
theorem d_LW_law_114 : decode M_LW_law.2.1 114 = .ok (.iconst 2, 1) := fx_d (q := (114, .iconst 2, 1)) D_LW_law 37 rfl
theorem d_LW_law_115 : decode M_LW_law.2.1 115 = .ok (.iadd, 1) := fx_d (q := (115, .iadd, 1)) D_LW_law 38 rfl
theorem d_LW_law_116 : decode M_LW_law.2.1 116 = .ok (.iaload, 1) := fx_d (q := (116, .iaload, 1)) D_LW_law 39 rfl
theorem d_LW_law_117 : decode M_LW_law.2.1 117 = .ok (.aload_n 0, 1) := fx_d (q := (117, .aload_n 0, 1)) D_LW_law 40 rfl
theorem d_LW_law_118 : decode M_LW_law.2.1 118 = .ok (.iload 4, 2) := fx_d (q := (118, .iload 4, 2)) D_LW_law 41 rfl
theorem d_LW_law_120 : decode M_LW_law.2.1 120 = .ok (.iconst 3, 1) := fx_d (q := (120, .iconst 3, 1)) D_LW_law 42 rfl
theorem d_LW_law_121 : decode M_LW_law.2.1 121 = .ok (.iadd, 1) := fx_d (q := (121, .iadd, 1)) D_LW_law 43 rfl
theorem d_LW_law_122 : decode M_LW_law.2.1 122 = .ok (.iaload, 1) := fx_d (q := (122, .iaload, 1)) D_LW_law 44 rfl
theorem d_LW_law_123 : decode M_LW_law.2.1 123 = .ok (.invokestatic 39, 3) := fx_d (q := (123, .invokestatic 39, 3)) D_LW_law 45 rfl
theorem d_LW_law_126 : decode M_LW_law.2.1 126 = .ok (.istore 5, 2) := fx_d (q := (126, .istore 5, 2)) D_LW_law 46 rfl
theorem d_LW_law_128 : decode M_LW_law.2.1 128 = .ok (.aload_n 2, 1) := fx_d (q := (128, .aload_n 2, 1)) D_LW_law 47 rfl
theorem d_LW_law_129 : decode M_LW_law.2.1 129 = .ok (.aload_n 0, 1) := fx_d (q := (129, .aload_n 0, 1)) D_LW_law 48 rfl
theorem d_LW_law_130 : decode M_LW_law.2.1 130 = .ok (.iload 4, 2) := fx_d (q := (130, .iload 4, 2)) D_LW_law 49 rfl
theorem d_LW_law_132 : decode M_LW_law.2.1 132 = .ok (.iconst 1, 1) := fx_d (q := (132, .iconst 1, 1)) D_LW_law 50 rfl
theorem d_LW_law_133 : decode M_LW_law.2.1 133 = .ok (.iadd, 1) := fx_d (q := (133, .iadd, 1)) D_LW_law 51 rfl
theorem d_LW_law_134 : decode M_LW_law.2.1 134 = .ok (.iaload, 1) := fx_d (q := (134, .iaload, 1)) D_LW_law 52 rfl
theorem d_LW_law_135 : decode M_LW_law.2.1 135 = .ok (.ifCond .eq 7, 3) := fx_d (q := (135, .ifCond .eq 7, 3)) D_LW_law 53 rfl
theorem d_LW_law_138 : decode M_LW_law.2.1 138 = .ok (.iconst 1, 1) := fx_d (q := (138, .iconst 1, 1)) D_LW_law 54 rfl
theorem d_LW_law_139 : decode M_LW_law.2.1 139 = .ok (.goto 4, 3) := fx_d (q := (139, .goto 4, 3)) D_LW_law 55 rfl
theorem d_LW_law_142 : decode M_LW_law.2.1 142 = .ok (.iconst 0, 1) := fx_d (q := (142, .iconst 0, 1)) D_LW_law 56 rfl
theorem d_LW_law_143 : decode M_LW_law.2.1 143 = .ok (.aload_n 0, 1) := fx_d (q := (143, .aload_n 0, 1)) D_LW_law 57 rfl
theorem d_LW_law_144 : decode M_LW_law.2.1 144 = .ok (.iload 4, 2) := fx_d (q := (144, .iload 4, 2)) D_LW_law 58 rfl
theorem d_LW_law_146 : decode M_LW_law.2.1 146 = .ok (.iconst 2, 1) := fx_d (q := (146, .iconst 2, 1)) D_LW_law 59 rfl
theorem d_LW_law_147 : decode M_LW_law.2.1 147 = .ok (.iadd, 1) := fx_d (q := (147, .iadd, 1)) D_LW_law 60 rfl
theorem d_LW_law_148 : decode M_LW_law.2.1 148 = .ok (.iaload, 1) := fx_d (q := (148, .iaload, 1)) D_LW_law 61 rfl
theorem d_LW_law_149 : decode M_LW_law.2.1 149 = .ok (.aload_n 0, 1) := fx_d (q := (149, .aload_n 0, 1)) D_LW_law 62 rfl
theorem d_LW_law_150 : decode M_LW_law.2.1 150 = .ok (.iload 4, 2) := fx_d (q := (150, .iload 4, 2)) D_LW_law 63 rfl
theorem d_LW_law_152 : decode M_LW_law.2.1 152 = .ok (.iconst 3, 1) := fx_d (q := (152, .iconst 3, 1)) D_LW_law 64 rfl
theorem d_LW_law_153 : decode M_LW_law.2.1 153 = .ok (.iadd, 1) := fx_d (q := (153, .iadd, 1)) D_LW_law 65 rfl
theorem d_LW_law_154 : decode M_LW_law.2.1 154 = .ok (.iaload, 1) := fx_d (q := (154, .iaload, 1)) D_LW_law 66 rfl
theorem d_LW_law_155 : decode M_LW_law.2.1 155 = .ok (.invokevirtual 44, 3) := fx_d (q := (155, .invokevirtual 44, 3)) D_LW_law 67 rfl
theorem d_LW_law_158 : decode M_LW_law.2.1 158 = .ok (.aload_n 2, 1) := fx_d (q := (158, .aload_n 2, 1)) D_LW_law 68 rfl
theorem d_LW_law_159 : decode M_LW_law.2.1 159 = .ok (.invokevirtual 45, 3) := fx_d (q := (159, .invokevirtual 45, 3)) D_LW_law 69 rfl
theorem d_LW_law_162 : decode M_LW_law.2.1 162 = .ok (.iload 5, 2) := fx_d (q := (162, .iload 5, 2)) D_LW_law 70 rfl
theorem d_LW_law_164 : decode M_LW_law.2.1 164 = .ok (.if_icmp .eq 5, 3) := fx_d (q := (164, .if_icmp .eq 5, 3)) D_LW_law 71 rfl
theorem d_LW_law_167 : decode M_LW_law.2.1 167 = .ok (.iconst 0, 1) := fx_d (q := (167, .iconst 0, 1)) D_LW_law 72 rfl
theorem d_LW_law_168 : decode M_LW_law.2.1 168 = .ok (.ireturn, 1) := fx_d (q := (168, .ireturn, 1)) D_LW_law 73 rfl
theorem d_LW_law_169 : decode M_LW_law.2.1 169 = .ok (.goto 421, 3) := fx_d (q := (169, .goto 421, 3)) D_LW_law 74 rfl
theorem d_LW_law_172 : decode M_LW_law.2.1 172 = .ok (.aload_n 1, 1) := fx_d (q := (172, .aload_n 1, 1)) D_LW_law 75 rfl
theorem d_LW_law_173 : decode M_LW_law.2.1 173 = .ok (.aload_n 0, 1) := fx_d (q := (173, .aload_n 0, 1)) D_LW_law 76 rfl
theorem d_LW_law_174 : decode M_LW_law.2.1 174 = .ok (.iload 4, 2) := fx_d (q := (174, .iload 4, 2)) D_LW_law 77 rfl
theorem d_LW_law_176 : decode M_LW_law.2.1 176 = .ok (.iconst 1, 1) := fx_d (q := (176, .iconst 1, 1)) D_LW_law 78 rfl
theorem d_LW_law_177 : decode M_LW_law.2.1 177 = .ok (.iadd, 1) := fx_d (q := (177, .iadd, 1)) D_LW_law 79 rfl
theorem d_LW_law_178 : decode M_LW_law.2.1 178 = .ok (.iaload, 1) := fx_d (q := (178, .iaload, 1)) D_LW_law 80 rfl
theorem d_LW_law_179 : decode M_LW_law.2.1 179 = .ok (.aload_n 0, 1) := fx_d (q := (179, .aload_n 0, 1)) D_LW_law 81 rfl
theorem d_LW_law_180 : decode M_LW_law.2.1 180 = .ok (.iload 4, 2) := fx_d (q := (180, .iload 4, 2)) D_LW_law 82 rfl
theorem d_LW_law_182 : decode M_LW_law.2.1 182 = .ok (.iconst 2, 1) := fx_d (q := (182, .iconst 2, 1)) D_LW_law 83 rfl
theorem d_LW_law_183 : decode M_LW_law.2.1 183 = .ok (.iadd, 1) := fx_d (q := (183, .iadd, 1)) D_LW_law 84 rfl
theorem d_LW_law_184 : decode M_LW_law.2.1 184 = .ok (.iaload, 1) := fx_d (q := (184, .iaload, 1)) D_LW_law 85 rfl
theorem d_LW_law_185 : decode M_LW_law.2.1 185 = .ok (.aload_n 0, 1) := fx_d (q := (185, .aload_n 0, 1)) D_LW_law 86 rfl
theorem d_LW_law_186 : decode M_LW_law.2.1 186 = .ok (.iload 4, 2) := fx_d (q := (186, .iload 4, 2)) D_LW_law 87 rfl
theorem d_LW_law_188 : decode M_LW_law.2.1 188 = .ok (.iconst 3, 1) := fx_d (q := (188, .iconst 3, 1)) D_LW_law 88 rfl
theorem d_LW_law_189 : decode M_LW_law.2.1 189 = .ok (.iadd, 1) := fx_d (q := (189, .iadd, 1)) D_LW_law 89 rfl
theorem d_LW_law_190 : decode M_LW_law.2.1 190 = .ok (.iaload, 1) := fx_d (q := (190, .iaload, 1)) D_LW_law 90 rfl
theorem d_LW_law_191 : decode M_LW_law.2.1 191 = .ok (.invokestatic 49, 3) := fx_d (q := (191, .invokestatic 49, 3)) D_LW_law 91 rfl
theorem d_LW_law_194 : decode M_LW_law.2.1 194 = .ok (.istore 5, 2) := fx_d (q := (194, .istore 5, 2)) D_LW_law 92 rfl
theorem d_LW_law_196 : decode M_LW_law.2.1 196 = .ok (.aload_n 2, 1) := fx_d (q := (196, .aload_n 2, 1)) D_LW_law 93 rfl
theorem d_LW_law_197 : decode M_LW_law.2.1 197 = .ok (.aload_n 0, 1) := fx_d (q := (197, .aload_n 0, 1)) D_LW_law 94 rfl
theorem d_LW_law_198 : decode M_LW_law.2.1 198 = .ok (.iload 4, 2) := fx_d (q := (198, .iload 4, 2)) D_LW_law 95 rfl
theorem d_LW_law_200 : decode M_LW_law.2.1 200 = .ok (.iconst 1, 1) := fx_d (q := (200, .iconst 1, 1)) D_LW_law 96 rfl
theorem d_LW_law_201 : decode M_LW_law.2.1 201 = .ok (.iadd, 1) := fx_d (q := (201, .iadd, 1)) D_LW_law 97 rfl
theorem d_LW_law_202 : decode M_LW_law.2.1 202 = .ok (.iaload, 1) := fx_d (q := (202, .iaload, 1)) D_LW_law 98 rfl
theorem d_LW_law_203 : decode M_LW_law.2.1 203 = .ok (.aload_n 0, 1) := fx_d (q := (203, .aload_n 0, 1)) D_LW_law 99 rfl
theorem d_LW_law_204 : decode M_LW_law.2.1 204 = .ok (.iload 4, 2) := fx_d (q := (204, .iload 4, 2)) D_LW_law 100 rfl
theorem d_LW_law_206 : decode M_LW_law.2.1 206 = .ok (.iconst 2, 1) := fx_d (q := (206, .iconst 2, 1)) D_LW_law 101 rfl
theorem d_LW_law_207 : decode M_LW_law.2.1 207 = .ok (.iadd, 1) := fx_d (q := (207, .iadd, 1)) D_LW_law 102 rfl
theorem d_LW_law_208 : decode M_LW_law.2.1 208 = .ok (.iaload, 1) := fx_d (q := (208, .iaload, 1)) D_LW_law 103 rfl
theorem d_LW_law_209 : decode M_LW_law.2.1 209 = .ok (.aload_n 0, 1) := fx_d (q := (209, .aload_n 0, 1)) D_LW_law 104 rfl
theorem d_LW_law_210 : decode M_LW_law.2.1 210 = .ok (.iload 4, 2) := fx_d (q := (210, .iload 4, 2)) D_LW_law 105 rfl
theorem d_LW_law_212 : decode M_LW_law.2.1 212 = .ok (.iconst 3, 1) := fx_d (q := (212, .iconst 3, 1)) D_LW_law 106 rfl
theorem d_LW_law_213 : decode M_LW_law.2.1 213 = .ok (.iadd, 1) := fx_d (q := (213, .iadd, 1)) D_LW_law 107 rfl
theorem d_LW_law_214 : decode M_LW_law.2.1 214 = .ok (.iaload, 1) := fx_d (q := (214, .iaload, 1)) D_LW_law 108 rfl
theorem d_LW_law_215 : decode M_LW_law.2.1 215 = .ok (.invokevirtual 52, 3) := fx_d (q := (215, .invokevirtual 52, 3)) D_LW_law 109 rfl
theorem d_LW_law_218 : decode M_LW_law.2.1 218 = .ok (.aload_n 2, 1) := fx_d (q := (218, .aload_n 2, 1)) D_LW_law 110 rfl
theorem d_LW_law_219 : decode M_LW_law.2.1 219 = .ok (.invokevirtual 45, 3) := fx_d (q := (219, .invokevirtual 45, 3)) D_LW_law 111 rfl
theorem d_LW_law_222 : decode M_LW_law.2.1 222 = .ok (.iload 5, 2) := fx_d (q := (222, .iload 5, 2)) D_LW_law 112 rfl
theorem d_LW_law_224 : decode M_LW_law.2.1 224 = .ok (.if_icmp .eq 5, 3) := fx_d (q := (224, .if_icmp .eq 5, 3)) D_LW_law 113 rfl
theorem d_LW_law_227 : decode M_LW_law.2.1 227 = .ok (.iconst 0, 1) := fx_d (q := (227, .iconst 0, 1)) D_LW_law 114 rfl
theorem d_LW_law_228 : decode M_LW_law.2.1 228 = .ok (.ireturn, 1) := fx_d (q := (228, .ireturn, 1)) D_LW_law 115 rfl
theorem d_LW_law_229 : decode M_LW_law.2.1 229 = .ok (.goto 361, 3) := fx_d (q := (229, .goto 361, 3)) D_LW_law 116 rfl
theorem d_LW_law_232 : decode M_LW_law.2.1 232 = .ok (.aload_n 1, 1) := fx_d (q := (232, .aload_n 1, 1)) D_LW_law 117 rfl
theorem d_LW_law_233 : decode M_LW_law.2.1 233 = .ok (.aload_n 0, 1) := fx_d (q := (233, .aload_n 0, 1)) D_LW_law 118 rfl
theorem d_LW_law_234 : decode M_LW_law.2.1 234 = .ok (.iload 4, 2) := fx_d (q := (234, .iload 4, 2)) D_LW_law 119 rfl
theorem d_LW_law_236 : decode M_LW_law.2.1 236 = .ok (.iconst 1, 1) := fx_d (q := (236, .iconst 1, 1)) D_LW_law 120 rfl
theorem d_LW_law_237 : decode M_LW_law.2.1 237 = .ok (.iadd, 1) := fx_d (q := (237, .iadd, 1)) D_LW_law 121 rfl
theorem d_LW_law_238 : decode M_LW_law.2.1 238 = .ok (.iaload, 1) := fx_d (q := (238, .iaload, 1)) D_LW_law 122 rfl
theorem d_LW_law_239 : decode M_LW_law.2.1 239 = .ok (.aload_n 0, 1) := fx_d (q := (239, .aload_n 0, 1)) D_LW_law 123 rfl
theorem d_LW_law_240 : decode M_LW_law.2.1 240 = .ok (.iload 4, 2) := fx_d (q := (240, .iload 4, 2)) D_LW_law 124 rfl
theorem d_LW_law_242 : decode M_LW_law.2.1 242 = .ok (.iconst 2, 1) := fx_d (q := (242, .iconst 2, 1)) D_LW_law 125 rfl
theorem d_LW_law_243 : decode M_LW_law.2.1 243 = .ok (.iadd, 1) := fx_d (q := (243, .iadd, 1)) D_LW_law 126 rfl
theorem d_LW_law_244 : decode M_LW_law.2.1 244 = .ok (.iaload, 1) := fx_d (q := (244, .iaload, 1)) D_LW_law 127 rfl
theorem d_LW_law_245 : decode M_LW_law.2.1 245 = .ok (.invokevirtual 53, 3) := fx_d (q := (245, .invokevirtual 53, 3)) D_LW_law 128 rfl
theorem d_LW_law_248 : decode M_LW_law.2.1 248 = .ok (.aload_n 2, 1) := fx_d (q := (248, .aload_n 2, 1)) D_LW_law 129 rfl
theorem d_LW_law_249 : decode M_LW_law.2.1 249 = .ok (.aload_n 0, 1) := fx_d (q := (249, .aload_n 0, 1)) D_LW_law 130 rfl
theorem d_LW_law_250 : decode M_LW_law.2.1 250 = .ok (.iload 4, 2) := fx_d (q := (250, .iload 4, 2)) D_LW_law 131 rfl
theorem d_LW_law_252 : decode M_LW_law.2.1 252 = .ok (.iconst 1, 1) := fx_d (q := (252, .iconst 1, 1)) D_LW_law 132 rfl
theorem d_LW_law_253 : decode M_LW_law.2.1 253 = .ok (.iadd, 1) := fx_d (q := (253, .iadd, 1)) D_LW_law 133 rfl
theorem d_LW_law_254 : decode M_LW_law.2.1 254 = .ok (.iaload, 1) := fx_d (q := (254, .iaload, 1)) D_LW_law 134 rfl
theorem d_LW_law_255 : decode M_LW_law.2.1 255 = .ok (.aload_n 0, 1) := fx_d (q := (255, .aload_n 0, 1)) D_LW_law 135 rfl
theorem d_LW_law_256 : decode M_LW_law.2.1 256 = .ok (.iload 4, 2) := fx_d (q := (256, .iload 4, 2)) D_LW_law 136 rfl
theorem d_LW_law_258 : decode M_LW_law.2.1 258 = .ok (.iconst 2, 1) := fx_d (q := (258, .iconst 2, 1)) D_LW_law 137 rfl
theorem d_LW_law_259 : decode M_LW_law.2.1 259 = .ok (.iadd, 1) := fx_d (q := (259, .iadd, 1)) D_LW_law 138 rfl
theorem d_LW_law_260 : decode M_LW_law.2.1 260 = .ok (.iaload, 1) := fx_d (q := (260, .iaload, 1)) D_LW_law 139 rfl
theorem d_LW_law_261 : decode M_LW_law.2.1 261 = .ok (.invokevirtual 56, 3) := fx_d (q := (261, .invokevirtual 56, 3)) D_LW_law 140 rfl
theorem d_LW_law_264 : decode M_LW_law.2.1 264 = .ok (.if_icmp .eq 326, 3) := fx_d (q := (264, .if_icmp .eq 326, 3)) D_LW_law 141 rfl
theorem d_LW_law_267 : decode M_LW_law.2.1 267 = .ok (.iconst 0, 1) := fx_d (q := (267, .iconst 0, 1)) D_LW_law 142 rfl
theorem d_LW_law_268 : decode M_LW_law.2.1 268 = .ok (.ireturn, 1) := fx_d (q := (268, .ireturn, 1)) D_LW_law 143 rfl
theorem d_LW_law_269 : decode M_LW_law.2.1 269 = .ok (.aload_n 1, 1) := fx_d (q := (269, .aload_n 1, 1)) D_LW_law 144 rfl
theorem d_LW_law_270 : decode M_LW_law.2.1 270 = .ok (.aload_n 0, 1) := fx_d (q := (270, .aload_n 0, 1)) D_LW_law 145 rfl
theorem d_LW_law_271 : decode M_LW_law.2.1 271 = .ok (.iload 4, 2) := fx_d (q := (271, .iload 4, 2)) D_LW_law 146 rfl
theorem d_LW_law_273 : decode M_LW_law.2.1 273 = .ok (.iconst 1, 1) := fx_d (q := (273, .iconst 1, 1)) D_LW_law 147 rfl
theorem d_LW_law_274 : decode M_LW_law.2.1 274 = .ok (.iadd, 1) := fx_d (q := (274, .iadd, 1)) D_LW_law 148 rfl
theorem d_LW_law_275 : decode M_LW_law.2.1 275 = .ok (.iaload, 1) := fx_d (q := (275, .iaload, 1)) D_LW_law 149 rfl
theorem d_LW_law_276 : decode M_LW_law.2.1 276 = .ok (.invokevirtual 57, 3) := fx_d (q := (276, .invokevirtual 57, 3)) D_LW_law 150 rfl
theorem d_LW_law_279 : decode M_LW_law.2.1 279 = .ok (.aload_n 2, 1) := fx_d (q := (279, .aload_n 2, 1)) D_LW_law 151 rfl
theorem d_LW_law_280 : decode M_LW_law.2.1 280 = .ok (.aload_n 0, 1) := fx_d (q := (280, .aload_n 0, 1)) D_LW_law 152 rfl
theorem d_LW_law_281 : decode M_LW_law.2.1 281 = .ok (.iload 4, 2) := fx_d (q := (281, .iload 4, 2)) D_LW_law 153 rfl
theorem d_LW_law_283 : decode M_LW_law.2.1 283 = .ok (.iconst 1, 1) := fx_d (q := (283, .iconst 1, 1)) D_LW_law 154 rfl
theorem d_LW_law_284 : decode M_LW_law.2.1 284 = .ok (.iadd, 1) := fx_d (q := (284, .iadd, 1)) D_LW_law 155 rfl
theorem d_LW_law_285 : decode M_LW_law.2.1 285 = .ok (.iaload, 1) := fx_d (q := (285, .iaload, 1)) D_LW_law 156 rfl
theorem d_LW_law_286 : decode M_LW_law.2.1 286 = .ok (.invokevirtual 60, 3) := fx_d (q := (286, .invokevirtual 60, 3)) D_LW_law 157 rfl
theorem d_LW_law_289 : decode M_LW_law.2.1 289 = .ok (.if_icmp .eq 301, 3) := fx_d (q := (289, .if_icmp .eq 301, 3)) D_LW_law 158 rfl
theorem d_LW_law_292 : decode M_LW_law.2.1 292 = .ok (.iconst 0, 1) := fx_d (q := (292, .iconst 0, 1)) D_LW_law 159 rfl
theorem d_LW_law_293 : decode M_LW_law.2.1 293 = .ok (.ireturn, 1) := fx_d (q := (293, .ireturn, 1)) D_LW_law 160 rfl
theorem d_LW_law_294 : decode M_LW_law.2.1 294 = .ok (.aload_n 1, 1) := fx_d (q := (294, .aload_n 1, 1)) D_LW_law 161 rfl
theorem d_LW_law_295 : decode M_LW_law.2.1 295 = .ok (.aload_n 0, 1) := fx_d (q := (295, .aload_n 0, 1)) D_LW_law 162 rfl
theorem d_LW_law_296 : decode M_LW_law.2.1 296 = .ok (.iload 4, 2) := fx_d (q := (296, .iload 4, 2)) D_LW_law 163 rfl
theorem d_LW_law_298 : decode M_LW_law.2.1 298 = .ok (.iconst 1, 1) := fx_d (q := (298, .iconst 1, 1)) D_LW_law 164 rfl
theorem d_LW_law_299 : decode M_LW_law.2.1 299 = .ok (.iadd, 1) := fx_d (q := (299, .iadd, 1)) D_LW_law 165 rfl
theorem d_LW_law_300 : decode M_LW_law.2.1 300 = .ok (.iaload, 1) := fx_d (q := (300, .iaload, 1)) D_LW_law 166 rfl
theorem d_LW_law_301 : decode M_LW_law.2.1 301 = .ok (.aload_n 0, 1) := fx_d (q := (301, .aload_n 0, 1)) D_LW_law 167 rfl
theorem d_LW_law_302 : decode M_LW_law.2.1 302 = .ok (.iload 4, 2) := fx_d (q := (302, .iload 4, 2)) D_LW_law 168 rfl
theorem d_LW_law_304 : decode M_LW_law.2.1 304 = .ok (.iconst 2, 1) := fx_d (q := (304, .iconst 2, 1)) D_LW_law 169 rfl
theorem d_LW_law_305 : decode M_LW_law.2.1 305 = .ok (.iadd, 1) := fx_d (q := (305, .iadd, 1)) D_LW_law 170 rfl
theorem d_LW_law_306 : decode M_LW_law.2.1 306 = .ok (.iaload, 1) := fx_d (q := (306, .iaload, 1)) D_LW_law 171 rfl
theorem d_LW_law_307 : decode M_LW_law.2.1 307 = .ok (.ifCond .eq 7, 3) := fx_d (q := (307, .ifCond .eq 7, 3)) D_LW_law 172 rfl
theorem d_LW_law_310 : decode M_LW_law.2.1 310 = .ok (.iconst 1, 1) := fx_d (q := (310, .iconst 1, 1)) D_LW_law 173 rfl
theorem d_LW_law_311 : decode M_LW_law.2.1 311 = .ok (.goto 4, 3) := fx_d (q := (311, .goto 4, 3)) D_LW_law 174 rfl
theorem d_LW_law_314 : decode M_LW_law.2.1 314 = .ok (.iconst 0, 1) := fx_d (q := (314, .iconst 0, 1)) D_LW_law 175 rfl
theorem d_LW_law_315 : decode M_LW_law.2.1 315 = .ok (.aload_n 0, 1) := fx_d (q := (315, .aload_n 0, 1)) D_LW_law 176 rfl
theorem d_LW_law_316 : decode M_LW_law.2.1 316 = .ok (.iload 4, 2) := fx_d (q := (316, .iload 4, 2)) D_LW_law 177 rfl
theorem d_LW_law_318 : decode M_LW_law.2.1 318 = .ok (.iconst 3, 1) := fx_d (q := (318, .iconst 3, 1)) D_LW_law 178 rfl
theorem d_LW_law_319 : decode M_LW_law.2.1 319 = .ok (.iadd, 1) := fx_d (q := (319, .iadd, 1)) D_LW_law 179 rfl
theorem d_LW_law_320 : decode M_LW_law.2.1 320 = .ok (.iaload, 1) := fx_d (q := (320, .iaload, 1)) D_LW_law 180 rfl
theorem d_LW_law_321 : decode M_LW_law.2.1 321 = .ok (.aload_n 3, 1) := fx_d (q := (321, .aload_n 3, 1)) D_LW_law 181 rfl
theorem d_LW_law_322 : decode M_LW_law.2.1 322 = .ok (.invokestatic 61, 3) := fx_d (q := (322, .invokestatic 61, 3)) D_LW_law 182 rfl
theorem d_LW_law_325 : decode M_LW_law.2.1 325 = .ok (.istore 5, 2) := fx_d (q := (325, .istore 5, 2)) D_LW_law 183 rfl
theorem d_LW_law_327 : decode M_LW_law.2.1 327 = .ok (.aload_n 2, 1) := fx_d (q := (327, .aload_n 2, 1)) D_LW_law 184 rfl
theorem d_LW_law_328 : decode M_LW_law.2.1 328 = .ok (.aload_n 0, 1) := fx_d (q := (328, .aload_n 0, 1)) D_LW_law 185 rfl
theorem d_LW_law_329 : decode M_LW_law.2.1 329 = .ok (.iload 4, 2) := fx_d (q := (329, .iload 4, 2)) D_LW_law 186 rfl
theorem d_LW_law_331 : decode M_LW_law.2.1 331 = .ok (.iconst 1, 1) := fx_d (q := (331, .iconst 1, 1)) D_LW_law 187 rfl
theorem d_LW_law_332 : decode M_LW_law.2.1 332 = .ok (.iadd, 1) := fx_d (q := (332, .iadd, 1)) D_LW_law 188 rfl
theorem d_LW_law_333 : decode M_LW_law.2.1 333 = .ok (.iaload, 1) := fx_d (q := (333, .iaload, 1)) D_LW_law 189 rfl
theorem d_LW_law_334 : decode M_LW_law.2.1 334 = .ok (.aload_n 0, 1) := fx_d (q := (334, .aload_n 0, 1)) D_LW_law 190 rfl
theorem d_LW_law_335 : decode M_LW_law.2.1 335 = .ok (.iload 4, 2) := fx_d (q := (335, .iload 4, 2)) D_LW_law 191 rfl
theorem d_LW_law_337 : decode M_LW_law.2.1 337 = .ok (.iconst 2, 1) := fx_d (q := (337, .iconst 2, 1)) D_LW_law 192 rfl
theorem d_LW_law_338 : decode M_LW_law.2.1 338 = .ok (.iadd, 1) := fx_d (q := (338, .iadd, 1)) D_LW_law 193 rfl
theorem d_LW_law_339 : decode M_LW_law.2.1 339 = .ok (.iaload, 1) := fx_d (q := (339, .iaload, 1)) D_LW_law 194 rfl
theorem d_LW_law_340 : decode M_LW_law.2.1 340 = .ok (.ifCond .eq 7, 3) := fx_d (q := (340, .ifCond .eq 7, 3)) D_LW_law 195 rfl
theorem d_LW_law_343 : decode M_LW_law.2.1 343 = .ok (.iconst 1, 1) := fx_d (q := (343, .iconst 1, 1)) D_LW_law 196 rfl
theorem d_LW_law_344 : decode M_LW_law.2.1 344 = .ok (.goto 4, 3) := fx_d (q := (344, .goto 4, 3)) D_LW_law 197 rfl
theorem d_LW_law_347 : decode M_LW_law.2.1 347 = .ok (.iconst 0, 1) := fx_d (q := (347, .iconst 0, 1)) D_LW_law 198 rfl
theorem d_LW_law_348 : decode M_LW_law.2.1 348 = .ok (.aload_n 0, 1) := fx_d (q := (348, .aload_n 0, 1)) D_LW_law 199 rfl
theorem d_LW_law_349 : decode M_LW_law.2.1 349 = .ok (.iload 4, 2) := fx_d (q := (349, .iload 4, 2)) D_LW_law 200 rfl
theorem d_LW_law_351 : decode M_LW_law.2.1 351 = .ok (.iconst 3, 1) := fx_d (q := (351, .iconst 3, 1)) D_LW_law 201 rfl
theorem d_LW_law_352 : decode M_LW_law.2.1 352 = .ok (.iadd, 1) := fx_d (q := (352, .iadd, 1)) D_LW_law 202 rfl
theorem d_LW_law_353 : decode M_LW_law.2.1 353 = .ok (.iaload, 1) := fx_d (q := (353, .iaload, 1)) D_LW_law 203 rfl
theorem d_LW_law_354 : decode M_LW_law.2.1 354 = .ok (.invokevirtual 64, 3) := fx_d (q := (354, .invokevirtual 64, 3)) D_LW_law 204 rfl
theorem d_LW_law_357 : decode M_LW_law.2.1 357 = .ok (.istore 6, 2) := fx_d (q := (357, .istore 6, 2)) D_LW_law 205 rfl
theorem d_LW_law_359 : decode M_LW_law.2.1 359 = .ok (.aload_n 2, 1) := fx_d (q := (359, .aload_n 2, 1)) D_LW_law 206 rfl
theorem d_LW_law_360 : decode M_LW_law.2.1 360 = .ok (.invokevirtual 45, 3) := fx_d (q := (360, .invokevirtual 45, 3)) D_LW_law 207 rfl
theorem d_LW_law_363 : decode M_LW_law.2.1 363 = .ok (.iload 5, 2) := fx_d (q := (363, .iload 5, 2)) D_LW_law 208 rfl
theorem d_LW_law_365 : decode M_LW_law.2.1 365 = .ok (.if_icmp .eq 5, 3) := fx_d (q := (365, .if_icmp .eq 5, 3)) D_LW_law 209 rfl
theorem d_LW_law_368 : decode M_LW_law.2.1 368 = .ok (.iconst 0, 1) := fx_d (q := (368, .iconst 0, 1)) D_LW_law 210 rfl
theorem d_LW_law_369 : decode M_LW_law.2.1 369 = .ok (.ireturn, 1) := fx_d (q := (369, .ireturn, 1)) D_LW_law 211 rfl
theorem d_LW_law_370 : decode M_LW_law.2.1 370 = .ok (.iload 5, 2) := fx_d (q := (370, .iload 5, 2)) D_LW_law 212 rfl
theorem d_LW_law_372 : decode M_LW_law.2.1 372 = .ok (.ifCond .ne 15, 3) := fx_d (q := (372, .ifCond .ne 15, 3)) D_LW_law 213 rfl
theorem d_LW_law_375 : decode M_LW_law.2.1 375 = .ok (.aload_n 3, 1) := fx_d (q := (375, .aload_n 3, 1)) D_LW_law 214 rfl
theorem d_LW_law_376 : decode M_LW_law.2.1 376 = .ok (.iconst 0, 1) := fx_d (q := (376, .iconst 0, 1)) D_LW_law 215 rfl
theorem d_LW_law_377 : decode M_LW_law.2.1 377 = .ok (.laload, 1) := fx_d (q := (377, .laload, 1)) D_LW_law 216 rfl
theorem d_LW_law_378 : decode M_LW_law.2.1 378 = .ok (.iload 6, 2) := fx_d (q := (378, .iload 6, 2)) D_LW_law 217 rfl
theorem d_LW_law_380 : decode M_LW_law.2.1 380 = .ok (.i2l, 1) := fx_d (q := (380, .i2l, 1)) D_LW_law 218 rfl
theorem d_LW_law_381 : decode M_LW_law.2.1 381 = .ok (.lcmp, 1) := fx_d (q := (381, .lcmp, 1)) D_LW_law 219 rfl
theorem d_LW_law_382 : decode M_LW_law.2.1 382 = .ok (.ifCond .eq 5, 3) := fx_d (q := (382, .ifCond .eq 5, 3)) D_LW_law 220 rfl
theorem d_LW_law_385 : decode M_LW_law.2.1 385 = .ok (.iconst 0, 1) := fx_d (q := (385, .iconst 0, 1)) D_LW_law 221 rfl
theorem d_LW_law_386 : decode M_LW_law.2.1 386 = .ok (.ireturn, 1) := fx_d (q := (386, .ireturn, 1)) D_LW_law 222 rfl
theorem d_LW_law_387 : decode M_LW_law.2.1 387 = .ok (.goto 203, 3) := fx_d (q := (387, .goto 203, 3)) D_LW_law 223 rfl
theorem d_LW_law_390 : decode M_LW_law.2.1 390 = .ok (.aload_n 1, 1) := fx_d (q := (390, .aload_n 1, 1)) D_LW_law 224 rfl
theorem d_LW_law_391 : decode M_LW_law.2.1 391 = .ok (.invokevirtual 65, 3) := fx_d (q := (391, .invokevirtual 65, 3)) D_LW_law 225 rfl
theorem d_LW_law_394 : decode M_LW_law.2.1 394 = .ok (.aload_n 2, 1) := fx_d (q := (394, .aload_n 2, 1)) D_LW_law 226 rfl
theorem d_LW_law_395 : decode M_LW_law.2.1 395 = .ok (.invokevirtual 68, 3) := fx_d (q := (395, .invokevirtual 68, 3)) D_LW_law 227 rfl
theorem d_LW_law_398 : decode M_LW_law.2.1 398 = .ok (.if_icmp .eq 192, 3) := fx_d (q := (398, .if_icmp .eq 192, 3)) D_LW_law 228 rfl
theorem d_LW_law_401 : decode M_LW_law.2.1 401 = .ok (.iconst 0, 1) := fx_d (q := (401, .iconst 0, 1)) D_LW_law 229 rfl
theorem d_LW_law_402 : decode M_LW_law.2.1 402 = .ok (.ireturn, 1) := fx_d (q := (402, .ireturn, 1)) D_LW_law 230 rfl
theorem d_LW_law_403 : decode M_LW_law.2.1 403 = .ok (.aload_n 1, 1) := fx_d (q := (403, .aload_n 1, 1)) D_LW_law 231 rfl
theorem d_LW_law_404 : decode M_LW_law.2.1 404 = .ok (.invokevirtual 69, 3) := fx_d (q := (404, .invokevirtual 69, 3)) D_LW_law 232 rfl
theorem d_LW_law_407 : decode M_LW_law.2.1 407 = .ok (.aload_n 2, 1) := fx_d (q := (407, .aload_n 2, 1)) D_LW_law 233 rfl
theorem d_LW_law_408 : decode M_LW_law.2.1 408 = .ok (.invokevirtual 72, 3) := fx_d (q := (408, .invokevirtual 72, 3)) D_LW_law 234 rfl
theorem d_LW_law_411 : decode M_LW_law.2.1 411 = .ok (.if_icmp .eq 179, 3) := fx_d (q := (411, .if_icmp .eq 179, 3)) D_LW_law 235 rfl
theorem d_LW_law_414 : decode M_LW_law.2.1 414 = .ok (.iconst 0, 1) := fx_d (q := (414, .iconst 0, 1)) D_LW_law 236 rfl
theorem d_LW_law_415 : decode M_LW_law.2.1 415 = .ok (.ireturn, 1) := fx_d (q := (415, .ireturn, 1)) D_LW_law 237 rfl
theorem d_LW_law_416 : decode M_LW_law.2.1 416 = .ok (.aload_n 1, 1) := fx_d (q := (416, .aload_n 1, 1)) D_LW_law 238 rfl
theorem d_LW_law_417 : decode M_LW_law.2.1 417 = .ok (.aload_n 0, 1) := fx_d (q := (417, .aload_n 0, 1)) D_LW_law 239 rfl
theorem d_LW_law_418 : decode M_LW_law.2.1 418 = .ok (.iload 4, 2) := fx_d (q := (418, .iload 4, 2)) D_LW_law 240 rfl
theorem d_LW_law_420 : decode M_LW_law.2.1 420 = .ok (.iconst 1, 1) := fx_d (q := (420, .iconst 1, 1)) D_LW_law 241 rfl
theorem d_LW_law_421 : decode M_LW_law.2.1 421 = .ok (.iadd, 1) := fx_d (q := (421, .iadd, 1)) D_LW_law 242 rfl
theorem d_LW_law_422 : decode M_LW_law.2.1 422 = .ok (.iaload, 1) := fx_d (q := (422, .iaload, 1)) D_LW_law 243 rfl
theorem d_LW_law_423 : decode M_LW_law.2.1 423 = .ok (.invokevirtual 73, 3) := fx_d (q := (423, .invokevirtual 73, 3)) D_LW_law 244 rfl
theorem d_LW_law_426 : decode M_LW_law.2.1 426 = .ok (.aload_n 2, 1) := fx_d (q := (426, .aload_n 2, 1)) D_LW_law 245 rfl
theorem d_LW_law_427 : decode M_LW_law.2.1 427 = .ok (.aload_n 0, 1) := fx_d (q := (427, .aload_n 0, 1)) D_LW_law 246 rfl
theorem d_LW_law_428 : decode M_LW_law.2.1 428 = .ok (.iload 4, 2) := fx_d (q := (428, .iload 4, 2)) D_LW_law 247 rfl
theorem d_LW_law_430 : decode M_LW_law.2.1 430 = .ok (.iconst 1, 1) := fx_d (q := (430, .iconst 1, 1)) D_LW_law 248 rfl
theorem d_LW_law_431 : decode M_LW_law.2.1 431 = .ok (.iadd, 1) := fx_d (q := (431, .iadd, 1)) D_LW_law 249 rfl
theorem d_LW_law_432 : decode M_LW_law.2.1 432 = .ok (.iaload, 1) := fx_d (q := (432, .iaload, 1)) D_LW_law 250 rfl
theorem d_LW_law_433 : decode M_LW_law.2.1 433 = .ok (.invokevirtual 76, 3) := fx_d (q := (433, .invokevirtual 76, 3)) D_LW_law 251 rfl
theorem d_LW_law_436 : decode M_LW_law.2.1 436 = .ok (.if_icmp .eq 154, 3) := fx_d (q := (436, .if_icmp .eq 154, 3)) D_LW_law 252 rfl
theorem d_LW_law_439 : decode M_LW_law.2.1 439 = .ok (.iconst 0, 1) := fx_d (q := (439, .iconst 0, 1)) D_LW_law 253 rfl
theorem d_LW_law_440 : decode M_LW_law.2.1 440 = .ok (.ireturn, 1) := fx_d (q := (440, .ireturn, 1)) D_LW_law 254 rfl
theorem d_LW_law_441 : decode M_LW_law.2.1 441 = .ok (.aload_n 1, 1) := fx_d (q := (441, .aload_n 1, 1)) D_LW_law 255 rfl
theorem d_LW_law_442 : decode M_LW_law.2.1 442 = .ok (.aload_n 0, 1) := fx_d (q := (442, .aload_n 0, 1)) D_LW_law 256 rfl
theorem d_LW_law_443 : decode M_LW_law.2.1 443 = .ok (.iload 4, 2) := fx_d (q := (443, .iload 4, 2)) D_LW_law 257 rfl
theorem d_LW_law_445 : decode M_LW_law.2.1 445 = .ok (.iconst 1, 1) := fx_d (q := (445, .iconst 1, 1)) D_LW_law 258 rfl
theorem d_LW_law_446 : decode M_LW_law.2.1 446 = .ok (.iadd, 1) := fx_d (q := (446, .iadd, 1)) D_LW_law 259 rfl
theorem d_LW_law_447 : decode M_LW_law.2.1 447 = .ok (.iaload, 1) := fx_d (q := (447, .iaload, 1)) D_LW_law 260 rfl
theorem d_LW_law_448 : decode M_LW_law.2.1 448 = .ok (.aload_n 0, 1) := fx_d (q := (448, .aload_n 0, 1)) D_LW_law 261 rfl
theorem d_LW_law_449 : decode M_LW_law.2.1 449 = .ok (.iload 4, 2) := fx_d (q := (449, .iload 4, 2)) D_LW_law 262 rfl
theorem d_LW_law_451 : decode M_LW_law.2.1 451 = .ok (.iconst 2, 1) := fx_d (q := (451, .iconst 2, 1)) D_LW_law 263 rfl
theorem d_LW_law_452 : decode M_LW_law.2.1 452 = .ok (.iadd, 1) := fx_d (q := (452, .iadd, 1)) D_LW_law 264 rfl
theorem d_LW_law_453 : decode M_LW_law.2.1 453 = .ok (.iaload, 1) := fx_d (q := (453, .iaload, 1)) D_LW_law 265 rfl
theorem d_LW_law_454 : decode M_LW_law.2.1 454 = .ok (.aload_n 3, 1) := fx_d (q := (454, .aload_n 3, 1)) D_LW_law 266 rfl
theorem d_LW_law_455 : decode M_LW_law.2.1 455 = .ok (.invokestatic 77, 3) := fx_d (q := (455, .invokestatic 77, 3)) D_LW_law 267 rfl
theorem d_LW_law_458 : decode M_LW_law.2.1 458 = .ok (.istore 5, 2) := fx_d (q := (458, .istore 5, 2)) D_LW_law 268 rfl
theorem d_LW_law_460 : decode M_LW_law.2.1 460 = .ok (.aload_n 2, 1) := fx_d (q := (460, .aload_n 2, 1)) D_LW_law 269 rfl
theorem d_LW_law_461 : decode M_LW_law.2.1 461 = .ok (.aload_n 0, 1) := fx_d (q := (461, .aload_n 0, 1)) D_LW_law 270 rfl
theorem d_LW_law_462 : decode M_LW_law.2.1 462 = .ok (.iload 4, 2) := fx_d (q := (462, .iload 4, 2)) D_LW_law 271 rfl
theorem d_LW_law_464 : decode M_LW_law.2.1 464 = .ok (.iconst 1, 1) := fx_d (q := (464, .iconst 1, 1)) D_LW_law 272 rfl
theorem d_LW_law_465 : decode M_LW_law.2.1 465 = .ok (.iadd, 1) := fx_d (q := (465, .iadd, 1)) D_LW_law 273 rfl
theorem d_LW_law_466 : decode M_LW_law.2.1 466 = .ok (.iaload, 1) := fx_d (q := (466, .iaload, 1)) D_LW_law 274 rfl
theorem d_LW_law_467 : decode M_LW_law.2.1 467 = .ok (.aload_n 0, 1) := fx_d (q := (467, .aload_n 0, 1)) D_LW_law 275 rfl
theorem d_LW_law_468 : decode M_LW_law.2.1 468 = .ok (.iload 4, 2) := fx_d (q := (468, .iload 4, 2)) D_LW_law 276 rfl
theorem d_LW_law_470 : decode M_LW_law.2.1 470 = .ok (.iconst 2, 1) := fx_d (q := (470, .iconst 2, 1)) D_LW_law 277 rfl
theorem d_LW_law_471 : decode M_LW_law.2.1 471 = .ok (.iadd, 1) := fx_d (q := (471, .iadd, 1)) D_LW_law 278 rfl
theorem d_LW_law_472 : decode M_LW_law.2.1 472 = .ok (.iaload, 1) := fx_d (q := (472, .iaload, 1)) D_LW_law 279 rfl
theorem d_LW_law_473 : decode M_LW_law.2.1 473 = .ok (.invokevirtual 80, 3) := fx_d (q := (473, .invokevirtual 80, 3)) D_LW_law 280 rfl
theorem d_LW_law_476 : decode M_LW_law.2.1 476 = .ok (.istore 6, 2) := fx_d (q := (476, .istore 6, 2)) D_LW_law 281 rfl
theorem d_LW_law_478 : decode M_LW_law.2.1 478 = .ok (.aload_n 2, 1) := fx_d (q := (478, .aload_n 2, 1)) D_LW_law 282 rfl
theorem d_LW_law_479 : decode M_LW_law.2.1 479 = .ok (.invokevirtual 45, 3) := fx_d (q := (479, .invokevirtual 45, 3)) D_LW_law 283 rfl
theorem d_LW_law_482 : decode M_LW_law.2.1 482 = .ok (.iload 5, 2) := fx_d (q := (482, .iload 5, 2)) D_LW_law 284 rfl
theorem d_LW_law_484 : decode M_LW_law.2.1 484 = .ok (.if_icmp .eq 5, 3) := fx_d (q := (484, .if_icmp .eq 5, 3)) D_LW_law 285 rfl
theorem d_LW_law_487 : decode M_LW_law.2.1 487 = .ok (.iconst 0, 1) := fx_d (q := (487, .iconst 0, 1)) D_LW_law 286 rfl
theorem d_LW_law_488 : decode M_LW_law.2.1 488 = .ok (.ireturn, 1) := fx_d (q := (488, .ireturn, 1)) D_LW_law 287 rfl
theorem d_LW_law_489 : decode M_LW_law.2.1 489 = .ok (.iload 5, 2) := fx_d (q := (489, .iload 5, 2)) D_LW_law 288 rfl
theorem d_LW_law_491 : decode M_LW_law.2.1 491 = .ok (.ifCond .ne 15, 3) := fx_d (q := (491, .ifCond .ne 15, 3)) D_LW_law 289 rfl
theorem d_LW_law_494 : decode M_LW_law.2.1 494 = .ok (.aload_n 3, 1) := fx_d (q := (494, .aload_n 3, 1)) D_LW_law 290 rfl
theorem d_LW_law_495 : decode M_LW_law.2.1 495 = .ok (.iconst 0, 1) := fx_d (q := (495, .iconst 0, 1)) D_LW_law 291 rfl
theorem d_LW_law_496 : decode M_LW_law.2.1 496 = .ok (.laload, 1) := fx_d (q := (496, .laload, 1)) D_LW_law 292 rfl
theorem d_LW_law_497 : decode M_LW_law.2.1 497 = .ok (.iload 6, 2) := fx_d (q := (497, .iload 6, 2)) D_LW_law 293 rfl
theorem d_LW_law_499 : decode M_LW_law.2.1 499 = .ok (.i2l, 1) := fx_d (q := (499, .i2l, 1)) D_LW_law 294 rfl
theorem d_LW_law_500 : decode M_LW_law.2.1 500 = .ok (.lcmp, 1) := fx_d (q := (500, .lcmp, 1)) D_LW_law 295 rfl
theorem d_LW_law_501 : decode M_LW_law.2.1 501 = .ok (.ifCond .eq 5, 3) := fx_d (q := (501, .ifCond .eq 5, 3)) D_LW_law 296 rfl
theorem d_LW_law_504 : decode M_LW_law.2.1 504 = .ok (.iconst 0, 1) := fx_d (q := (504, .iconst 0, 1)) D_LW_law 297 rfl
theorem d_LW_law_505 : decode M_LW_law.2.1 505 = .ok (.ireturn, 1) := fx_d (q := (505, .ireturn, 1)) D_LW_law 298 rfl
theorem d_LW_law_506 : decode M_LW_law.2.1 506 = .ok (.goto 84, 3) := fx_d (q := (506, .goto 84, 3)) D_LW_law 299 rfl
theorem d_LW_law_509 : decode M_LW_law.2.1 509 = .ok (.aload_n 1, 1) := fx_d (q := (509, .aload_n 1, 1)) D_LW_law 300 rfl
theorem d_LW_law_510 : decode M_LW_law.2.1 510 = .ok (.aload_n 0, 1) := fx_d (q := (510, .aload_n 0, 1)) D_LW_law 301 rfl
theorem d_LW_law_511 : decode M_LW_law.2.1 511 = .ok (.iload 4, 2) := fx_d (q := (511, .iload 4, 2)) D_LW_law 302 rfl
theorem d_LW_law_513 : decode M_LW_law.2.1 513 = .ok (.iconst 1, 1) := fx_d (q := (513, .iconst 1, 1)) D_LW_law 303 rfl
theorem d_LW_law_514 : decode M_LW_law.2.1 514 = .ok (.iadd, 1) := fx_d (q := (514, .iadd, 1)) D_LW_law 304 rfl
theorem d_LW_law_515 : decode M_LW_law.2.1 515 = .ok (.iaload, 1) := fx_d (q := (515, .iaload, 1)) D_LW_law 305 rfl
theorem d_LW_law_516 : decode M_LW_law.2.1 516 = .ok (.invokevirtual 81, 3) := fx_d (q := (516, .invokevirtual 81, 3)) D_LW_law 306 rfl
theorem d_LW_law_519 : decode M_LW_law.2.1 519 = .ok (.aload_n 2, 1) := fx_d (q := (519, .aload_n 2, 1)) D_LW_law 307 rfl
theorem d_LW_law_520 : decode M_LW_law.2.1 520 = .ok (.aload_n 0, 1) := fx_d (q := (520, .aload_n 0, 1)) D_LW_law 308 rfl
theorem d_LW_law_521 : decode M_LW_law.2.1 521 = .ok (.iload 4, 2) := fx_d (q := (521, .iload 4, 2)) D_LW_law 309 rfl
theorem d_LW_law_523 : decode M_LW_law.2.1 523 = .ok (.iconst 1, 1) := fx_d (q := (523, .iconst 1, 1)) D_LW_law 310 rfl
theorem d_LW_law_524 : decode M_LW_law.2.1 524 = .ok (.iadd, 1) := fx_d (q := (524, .iadd, 1)) D_LW_law 311 rfl
theorem d_LW_law_525 : decode M_LW_law.2.1 525 = .ok (.iaload, 1) := fx_d (q := (525, .iaload, 1)) D_LW_law 312 rfl
theorem d_LW_law_526 : decode M_LW_law.2.1 526 = .ok (.invokevirtual 85, 3) := fx_d (q := (526, .invokevirtual 85, 3)) D_LW_law 313 rfl
theorem d_LW_law_529 : decode M_LW_law.2.1 529 = .ok (.if_icmp .eq 61, 3) := fx_d (q := (529, .if_icmp .eq 61, 3)) D_LW_law 314 rfl
theorem d_LW_law_532 : decode M_LW_law.2.1 532 = .ok (.iconst 0, 1) := fx_d (q := (532, .iconst 0, 1)) D_LW_law 315 rfl
theorem d_LW_law_533 : decode M_LW_law.2.1 533 = .ok (.ireturn, 1) := fx_d (q := (533, .ireturn, 1)) D_LW_law 316 rfl
theorem d_LW_law_534 : decode M_LW_law.2.1 534 = .ok (.aload_n 1, 1) := fx_d (q := (534, .aload_n 1, 1)) D_LW_law 317 rfl
theorem d_LW_law_535 : decode M_LW_law.2.1 535 = .ok (.aload_n 0, 1) := fx_d (q := (535, .aload_n 0, 1)) D_LW_law 318 rfl
theorem d_LW_law_536 : decode M_LW_law.2.1 536 = .ok (.iload 4, 2) := fx_d (q := (536, .iload 4, 2)) D_LW_law 319 rfl
theorem d_LW_law_538 : decode M_LW_law.2.1 538 = .ok (.iconst 1, 1) := fx_d (q := (538, .iconst 1, 1)) D_LW_law 320 rfl
theorem d_LW_law_539 : decode M_LW_law.2.1 539 = .ok (.iadd, 1) := fx_d (q := (539, .iadd, 1)) D_LW_law 321 rfl
theorem d_LW_law_540 : decode M_LW_law.2.1 540 = .ok (.iaload, 1) := fx_d (q := (540, .iaload, 1)) D_LW_law 322 rfl
theorem d_LW_law_541 : decode M_LW_law.2.1 541 = .ok (.aload_n 3, 1) := fx_d (q := (541, .aload_n 3, 1)) D_LW_law 323 rfl
theorem d_LW_law_542 : decode M_LW_law.2.1 542 = .ok (.invokestatic 86, 3) := fx_d (q := (542, .invokestatic 86, 3)) D_LW_law 324 rfl
theorem d_LW_law_545 : decode M_LW_law.2.1 545 = .ok (.istore 5, 2) := fx_d (q := (545, .istore 5, 2)) D_LW_law 325 rfl
theorem d_LW_law_547 : decode M_LW_law.2.1 547 = .ok (.aload_n 2, 1) := fx_d (q := (547, .aload_n 2, 1)) D_LW_law 326 rfl
theorem d_LW_law_548 : decode M_LW_law.2.1 548 = .ok (.aload_n 0, 1) := fx_d (q := (548, .aload_n 0, 1)) D_LW_law 327 rfl
theorem d_LW_law_549 : decode M_LW_law.2.1 549 = .ok (.iload 4, 2) := fx_d (q := (549, .iload 4, 2)) D_LW_law 328 rfl
theorem d_LW_law_551 : decode M_LW_law.2.1 551 = .ok (.iconst 1, 1) := fx_d (q := (551, .iconst 1, 1)) D_LW_law 329 rfl
theorem d_LW_law_552 : decode M_LW_law.2.1 552 = .ok (.iadd, 1) := fx_d (q := (552, .iadd, 1)) D_LW_law 330 rfl
theorem d_LW_law_553 : decode M_LW_law.2.1 553 = .ok (.iaload, 1) := fx_d (q := (553, .iaload, 1)) D_LW_law 331 rfl
theorem d_LW_law_554 : decode M_LW_law.2.1 554 = .ok (.invokevirtual 89, 3) := fx_d (q := (554, .invokevirtual 89, 3)) D_LW_law 332 rfl
theorem d_LW_law_557 : decode M_LW_law.2.1 557 = .ok (.istore 6, 2) := fx_d (q := (557, .istore 6, 2)) D_LW_law 333 rfl
theorem d_LW_law_559 : decode M_LW_law.2.1 559 = .ok (.aload_n 2, 1) := fx_d (q := (559, .aload_n 2, 1)) D_LW_law 334 rfl
theorem d_LW_law_560 : decode M_LW_law.2.1 560 = .ok (.invokevirtual 45, 3) := fx_d (q := (560, .invokevirtual 45, 3)) D_LW_law 335 rfl
theorem d_LW_law_563 : decode M_LW_law.2.1 563 = .ok (.iload 5, 2) := fx_d (q := (563, .iload 5, 2)) D_LW_law 336 rfl
theorem d_LW_law_565 : decode M_LW_law.2.1 565 = .ok (.if_icmp .eq 5, 3) := fx_d (q := (565, .if_icmp .eq 5, 3)) D_LW_law 337 rfl
theorem d_LW_law_568 : decode M_LW_law.2.1 568 = .ok (.iconst 0, 1) := fx_d (q := (568, .iconst 0, 1)) D_LW_law 338 rfl
theorem d_LW_law_569 : decode M_LW_law.2.1 569 = .ok (.ireturn, 1) := fx_d (q := (569, .ireturn, 1)) D_LW_law 339 rfl
theorem d_LW_law_570 : decode M_LW_law.2.1 570 = .ok (.iload 5, 2) := fx_d (q := (570, .iload 5, 2)) D_LW_law 340 rfl
theorem d_LW_law_572 : decode M_LW_law.2.1 572 = .ok (.ifCond .ne 15, 3) := fx_d (q := (572, .ifCond .ne 15, 3)) D_LW_law 341 rfl
theorem d_LW_law_575 : decode M_LW_law.2.1 575 = .ok (.aload_n 3, 1) := fx_d (q := (575, .aload_n 3, 1)) D_LW_law 342 rfl
theorem d_LW_law_576 : decode M_LW_law.2.1 576 = .ok (.iconst 0, 1) := fx_d (q := (576, .iconst 0, 1)) D_LW_law 343 rfl
theorem d_LW_law_577 : decode M_LW_law.2.1 577 = .ok (.laload, 1) := fx_d (q := (577, .laload, 1)) D_LW_law 344 rfl
theorem d_LW_law_578 : decode M_LW_law.2.1 578 = .ok (.iload 6, 2) := fx_d (q := (578, .iload 6, 2)) D_LW_law 345 rfl
theorem d_LW_law_580 : decode M_LW_law.2.1 580 = .ok (.i2l, 1) := fx_d (q := (580, .i2l, 1)) D_LW_law 346 rfl
theorem d_LW_law_581 : decode M_LW_law.2.1 581 = .ok (.lcmp, 1) := fx_d (q := (581, .lcmp, 1)) D_LW_law 347 rfl
theorem d_LW_law_582 : decode M_LW_law.2.1 582 = .ok (.ifCond .eq 5, 3) := fx_d (q := (582, .ifCond .eq 5, 3)) D_LW_law 348 rfl
theorem d_LW_law_585 : decode M_LW_law.2.1 585 = .ok (.iconst 0, 1) := fx_d (q := (585, .iconst 0, 1)) D_LW_law 349 rfl
theorem d_LW_law_586 : decode M_LW_law.2.1 586 = .ok (.ireturn, 1) := fx_d (q := (586, .ireturn, 1)) D_LW_law 350 rfl
theorem d_LW_law_587 : decode M_LW_law.2.1 587 = .ok (.goto 3, 3) := fx_d (q := (587, .goto 3, 3)) D_LW_law 351 rfl
theorem d_LW_law_590 : decode M_LW_law.2.1 590 = .ok (.iinc 4 4, 3) := fx_d (q := (590, .iinc 4 4, 3)) D_LW_law 352 rfl
theorem d_LW_law_593 : decode M_LW_law.2.1 593 = .ok (.goto (-570), 3) := fx_d (q := (593, .goto (-570), 3)) D_LW_law 353 rfl
theorem d_LW_law_596 : decode M_LW_law.2.1 596 = .ok (.iconst 1, 1) := fx_d (q := (596, .iconst 1, 1)) D_LW_law 354 rfl
theorem d_LW_law_597 : decode M_LW_law.2.1 597 = .ok (.ireturn, 1) := fx_d (q := (597, .ireturn, 1)) D_LW_law 355 rfl
