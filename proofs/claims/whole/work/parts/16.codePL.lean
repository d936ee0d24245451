set_option maxRecDepth 100000 in
def L_PL_init : List (Nat × Instr × Nat) := [(0, .aload_n 0, 1), (1, .invokespecial 1, 3), (4, .aload_n 0, 1), (5, .aload_n 1, 1), (6, .putfield 7, 3), (9, .aload_n 0, 1), (10, .aload_n 2, 1), (11, .putfield 13, 3), (14, .return_, 1)]
set_option maxRecDepth 100000 in
theorem D_PL_init : ∀ q ∈ L_PL_init, decode prog_9_method_1_code q.1 = .ok q.2 := by decide +kernel
theorem d_PL_init_0 : decode M_PL_init.2.1 0 = .ok (.aload_n 0, 1) := fx_d (q := (0, .aload_n 0, 1)) D_PL_init 0 rfl
theorem d_PL_init_1 : decode M_PL_init.2.1 1 = .ok (.invokespecial 1, 3) := fx_d (q := (1, .invokespecial 1, 3)) D_PL_init 1 rfl
theorem d_PL_init_4 : decode M_PL_init.2.1 4 = .ok (.aload_n 0, 1) := fx_d (q := (4, .aload_n 0, 1)) D_PL_init 2 rfl
theorem d_PL_init_5 : decode M_PL_init.2.1 5 = .ok (.aload_n 1, 1) := fx_d (q := (5, .aload_n 1, 1)) D_PL_init 3 rfl
theorem d_PL_init_6 : decode M_PL_init.2.1 6 = .ok (.putfield 7, 3) := fx_d (q := (6, .putfield 7, 3)) D_PL_init 4 rfl
theorem d_PL_init_9 : decode M_PL_init.2.1 9 = .ok (.aload_n 0, 1) := fx_d (q := (9, .aload_n 0, 1)) D_PL_init 5 rfl
theorem d_PL_init_10 : decode M_PL_init.2.1 10 = .ok (.aload_n 2, 1) := fx_d (q := (10, .aload_n 2, 1)) D_PL_init 6 rfl
theorem d_PL_init_11 : decode M_PL_init.2.1 11 = .ok (.putfield 13, 3) := fx_d (q := (11, .putfield 13, 3)) D_PL_init 7 rfl
theorem d_PL_init_14 : decode M_PL_init.2.1 14 = .ok (.return_, 1) := fx_d (q := (14, .return_, 1)) D_PL_init 8 rfl
set_option maxRecDepth 100000 in
def L_PL_unpack : List (Nat × Instr × Nat) := [(0, .aload_n 1, 1), (1, .invokevirtual 17, 3), (4, .istore 4, 2), (6, .iload_n 2, 1), (7, .istore 5, 2), (9, .iload 5, 2), (11, .iload_n 3, 1), (12, .if_icmp .ge 56, 3), (15, .iconst 0, 1), (16, .istore 6, 2), (18, .iload 6, 2), (20, .iload 4, 2), (22, .if_icmp .ge 40, 3), (25, .aload_n 0, 1), (26, .getfield 13, 3), (29, .bipush 8, 2), (31, .invokevirtual 33, 3), (34, .istore 7, 2), (36, .iload 7, 2), (38, .ifCond .lt 16, 3), (41, .aload_n 1, 1), (42, .iload 5, 2), (44, .iload 6, 2), (46, .iload 7, 2), (48, .invokevirtual 39, 3), (51, .ifCond .ne 5, 3), (54, .iconst 0, 1), (55, .ireturn, 1), (56, .iinc 6 1, 3), (59, .goto (-41), 3), (62, .iinc 5 1, 3), (65, .goto (-56), 3), (68, .aload_n 0, 1), (69, .getfield 13, 3), (72, .invokevirtual 43, 3), (75, .ireturn, 1)]
set_option maxRecDepth 100000 in
theorem D_PL_unpack : ∀ q ∈ L_PL_unpack, decode prog_9_method_3_code q.1 = .ok q.2 := by decide +kernel
theorem d_PL_unpack_0 : decode M_PL_unpack.2.1 0 = .ok (.aload_n 1, 1) := fx_d (q := (0, .aload_n 1, 1)) D_PL_unpack 0 rfl
theorem d_PL_unpack_1 : decode M_PL_unpack.2.1 1 = .ok (.invokevirtual 17, 3) := fx_d (q := (1, .invokevirtual 17, 3)) D_PL_unpack 1 rfl
theorem d_PL_unpack_4 : decode M_PL_unpack.2.1 4 = .ok (.istore 4, 2) := fx_d (q := (4, .istore 4, 2)) D_PL_unpack 2 rfl
theorem d_PL_unpack_6 : decode M_PL_unpack.2.1 6 = .ok (.iload_n 2, 1) := fx_d (q := (6, .iload_n 2, 1)) D_PL_unpack 3 rfl
theorem d_PL_unpack_7 : decode M_PL_unpack.2.1 7 = .ok (.istore 5, 2) := fx_d (q := (7, .istore 5, 2)) D_PL_unpack 4 rfl
theorem d_PL_unpack_9 : decode M_PL_unpack.2.1 9 = .ok (.iload 5, 2) := fx_d (q := (9, .iload 5, 2)) D_PL_unpack 5 rfl
theorem d_PL_unpack_11 : decode M_PL_unpack.2.1 11 = .ok (.iload_n 3, 1) := fx_d (q := (11, .iload_n 3, 1)) D_PL_unpack 6 rfl
theorem d_PL_unpack_12 : decode M_PL_unpack.2.1 12 = .ok (.if_icmp .ge 56, 3) := fx_d (q := (12, .if_icmp .ge 56, 3)) D_PL_unpack 7 rfl
theorem d_PL_unpack_15 : decode M_PL_unpack.2.1 15 = .ok (.iconst 0, 1) := fx_d (q := (15, .iconst 0, 1)) D_PL_unpack 8 rfl
theorem d_PL_unpack_16 : decode M_PL_unpack.2.1 16 = .ok (.istore 6, 2) := fx_d (q := (16, .istore 6, 2)) D_PL_unpack 9 rfl
theorem d_PL_unpack_18 : decode M_PL_unpack.2.1 18 = .ok (.iload 6, 2) := fx_d (q := (18, .iload 6, 2)) D_PL_unpack 10 rfl
theorem d_PL_unpack_20 : decode M_PL_unpack.2.1 20 = .ok (.iload 4, 2) := fx_d (q := (20, .iload 4, 2)) D_PL_unpack 11 rfl
theorem d_PL_unpack_22 : decode M_PL_unpack.2.1 22 = .ok (.if_icmp .ge 40, 3) := fx_d (q := (22, .if_icmp .ge 40, 3)) D_PL_unpack 12 rfl
theorem d_PL_unpack_25 : decode M_PL_unpack.2.1 25 = .ok (.aload_n 0, 1) := fx_d (q := (25, .aload_n 0, 1)) D_PL_unpack 13 rfl
theorem d_PL_unpack_26 : decode M_PL_unpack.2.1 26 = .ok (.getfield 13, 3) := fx_d (q := (26, .getfield 13, 3)) D_PL_unpack 14 rfl
theorem d_PL_unpack_29 : decode M_PL_unpack.2.1 29 = .ok (.bipush 8, 2) := fx_d (q := (29, .bipush 8, 2)) D_PL_unpack 15 rfl
theorem d_PL_unpack_31 : decode M_PL_unpack.2.1 31 = .ok (.invokevirtual 33, 3) := fx_d (q := (31, .invokevirtual 33, 3)) D_PL_unpack 16 rfl
theorem d_PL_unpack_34 : decode M_PL_unpack.2.1 34 = .ok (.istore 7, 2) := fx_d (q := (34, .istore 7, 2)) D_PL_unpack 17 rfl
theorem d_PL_unpack_36 : decode M_PL_unpack.2.1 36 = .ok (.iload 7, 2) := fx_d (q := (36, .iload 7, 2)) D_PL_unpack 18 rfl
theorem d_PL_unpack_38 : decode M_PL_unpack.2.1 38 = .ok (.ifCond .lt 16, 3) := fx_d (q := (38, .ifCond .lt 16, 3)) D_PL_unpack 19 rfl
theorem d_PL_unpack_41 : decode M_PL_unpack.2.1 41 = .ok (.aload_n 1, 1) := fx_d (q := (41, .aload_n 1, 1)) D_PL_unpack 20 rfl
theorem d_PL_unpack_42 : decode M_PL_unpack.2.1 42 = .ok (.iload 5, 2) := fx_d (q := (42, .iload 5, 2)) D_PL_unpack 21 rfl
theorem d_PL_unpack_44 : decode M_PL_unpack.2.1 44 = .ok (.iload 6, 2) := fx_d (q := (44, .iload 6, 2)) D_PL_unpack 22 rfl
theorem d_PL_unpack_46 : decode M_PL_unpack.2.1 46 = .ok (.iload 7, 2) := fx_d (q := (46, .iload 7, 2)) D_PL_unpack 23 rfl
theorem d_PL_unpack_48 : decode M_PL_unpack.2.1 48 = .ok (.invokevirtual 39, 3) := fx_d (q := (48, .invokevirtual 39, 3)) D_PL_unpack 24 rfl
theorem d_PL_unpack_51 : decode M_PL_unpack.2.1 51 = .ok (.ifCond .ne 5, 3) := fx_d (q := (51, .ifCond .ne 5, 3)) D_PL_unpack 25 rfl
theorem d_PL_unpack_54 : decode M_PL_unpack.2.1 54 = .ok (.iconst 0, 1) := fx_d (q := (54, .iconst 0, 1)) D_PL_unpack 26 rfl
theorem d_PL_unpack_55 : decode M_PL_unpack.2.1 55 = .ok (.ireturn, 1) := fx_d (q := (55, .ireturn, 1)) D_PL_unpack 27 rfl
theorem d_PL_unpack_56 : decode M_PL_unpack.2.1 56 = .ok (.iinc 6 1, 3) := fx_d (q := (56, .iinc 6 1, 3)) D_PL_unpack 28 rfl
theorem d_PL_unpack_59 : decode M_PL_unpack.2.1 59 = .ok (.goto (-41), 3) := fx_d (q := (59, .goto (-41), 3)) D_PL_unpack 29 rfl
theorem d_PL_unpack_62 : decode M_PL_unpack.2.1 62 = .ok (.iinc 5 1, 3) := fx_d (q := (62, .iinc 5 1, 3)) D_PL_unpack 30 rfl
theorem d_PL_unpack_65 : decode M_PL_unpack.2.1 65 = .ok (.goto (-56), 3) := fx_d (q := (65, .goto (-56), 3)) D_PL_unpack 31 rfl
theorem d_PL_unpack_68 : decode M_PL_unpack.2.1 68 = .ok (.aload_n 0, 1) := fx_d (q := (68, .aload_n 0, 1)) D_PL_unpack 32 rfl
theorem d_PL_unpack_69 : decode M_PL_unpack.2.1 69 = .ok (.getfield 13, 3) := fx_d (q := (69, .getfield 13, 3)) D_PL_unpack 33 rfl
theorem d_PL_unpack_72 : decode M_PL_unpack.2.1 72 = .ok (.invokevirtual 43, 3) := fx_d (q := (72, .invokevirtual 43, 3)) D_PL_unpack 34 rfl
theorem d_PL_unpack_75 : decode M_PL_unpack.2.1 75 = .ok (.ireturn, 1) := fx_d (q := (75, .ireturn, 1)) D_PL_unpack 35 rfl
set_option maxRecDepth 100000 in
def L_PL_pack : List (Nat × Instr × Nat) := [(0, .aload_n 1, 1), (1, .invokevirtual 17, 3), (4, .istore 4, 2), (6, .iload_n 2, 1), (7, .istore 5, 2), (9, .iload 5, 2), (11, .iload_n 3, 1), (12, .if_icmp .ge 40, 3), (15, .iconst 0, 1), (16, .istore 6, 2), (18, .iload 6, 2), (20, .iload 4, 2), (22, .if_icmp .ge 24, 3), (25, .aload_n 0, 1), (26, .getfield 7, 3), (29, .aload_n 1, 1), (30, .iload 5, 2), (32, .iload 6, 2), (34, .invokevirtual 23, 3), (37, .invokevirtual 27, 3), (40, .iinc 6 1, 3), (43, .goto (-25), 3), (46, .iinc 5 1, 3), (49, .goto (-40), 3), (52, .return_, 1)]
set_option maxRecDepth 100000 in
theorem D_PL_pack : ∀ q ∈ L_PL_pack, decode prog_9_method_2_code q.1 = .ok q.2 := by decide +kernel
theorem d_PL_pack_0 : decode M_PL_pack.2.1 0 = .ok (.aload_n 1, 1) := fx_d (q := (0, .aload_n 1, 1)) D_PL_pack 0 rfl
theorem d_PL_pack_1 : decode M_PL_pack.2.1 1 = .ok (.invokevirtual 17, 3) := fx_d (q := (1, .invokevirtual 17, 3)) D_PL_pack 1 rfl
theorem d_PL_pack_4 : decode M_PL_pack.2.1 4 = .ok (.istore 4, 2) := fx_d (q := (4, .istore 4, 2)) D_PL_pack 2 rfl
theorem d_PL_pack_6 : decode M_PL_pack.2.1 6 = .ok (.iload_n 2, 1) := fx_d (q := (6, .iload_n 2, 1)) D_PL_pack 3 rfl
theorem d_PL_pack_7 : decode M_PL_pack.2.1 7 = .ok (.istore 5, 2) := fx_d (q := (7, .istore 5, 2)) D_PL_pack 4 rfl
theorem d_PL_pack_9 : decode M_PL_pack.2.1 9 = .ok (.iload 5, 2) := fx_d (q := (9, .iload 5, 2)) D_PL_pack 5 rfl
theorem d_PL_pack_11 : decode M_PL_pack.2.1 11 = .ok (.iload_n 3, 1) := fx_d (q := (11, .iload_n 3, 1)) D_PL_pack 6 rfl
theorem d_PL_pack_12 : decode M_PL_pack.2.1 12 = .ok (.if_icmp .ge 40, 3) := fx_d (q := (12, .if_icmp .ge 40, 3)) D_PL_pack 7 rfl
theorem d_PL_pack_15 : decode M_PL_pack.2.1 15 = .ok (.iconst 0, 1) := fx_d (q := (15, .iconst 0, 1)) D_PL_pack 8 rfl
theorem d_PL_pack_16 : decode M_PL_pack.2.1 16 = .ok (.istore 6, 2) := fx_d (q := (16, .istore 6, 2)) D_PL_pack 9 rfl
theorem d_PL_pack_18 : decode M_PL_pack.2.1 18 = .ok (.iload 6, 2) := fx_d (q := (18, .iload 6, 2)) D_PL_pack 10 rfl
theorem d_PL_pack_20 : decode M_PL_pack.2.1 20 = .ok (.iload 4, 2) := fx_d (q := (20, .iload 4, 2)) D_PL_pack 11 rfl
theorem d_PL_pack_22 : decode M_PL_pack.2.1 22 = .ok (.if_icmp .ge 24, 3) := fx_d (q := (22, .if_icmp .ge 24, 3)) D_PL_pack 12 rfl
theorem d_PL_pack_25 : decode M_PL_pack.2.1 25 = .ok (.aload_n 0, 1) := fx_d (q := (25, .aload_n 0, 1)) D_PL_pack 13 rfl
theorem d_PL_pack_26 : decode M_PL_pack.2.1 26 = .ok (.getfield 7, 3) := fx_d (q := (26, .getfield 7, 3)) D_PL_pack 14 rfl
theorem d_PL_pack_29 : decode M_PL_pack.2.1 29 = .ok (.aload_n 1, 1) := fx_d (q := (29, .aload_n 1, 1)) D_PL_pack 15 rfl
theorem d_PL_pack_30 : decode M_PL_pack.2.1 30 = .ok (.iload 5, 2) := fx_d (q := (30, .iload 5, 2)) D_PL_pack 16 rfl
theorem d_PL_pack_32 : decode M_PL_pack.2.1 32 = .ok (.iload 6, 2) := fx_d (q := (32, .iload 6, 2)) D_PL_pack 17 rfl
theorem d_PL_pack_34 : decode M_PL_pack.2.1 34 = .ok (.invokevirtual 23, 3) := fx_d (q := (34, .invokevirtual 23, 3)) D_PL_pack 18 rfl
theorem d_PL_pack_37 : decode M_PL_pack.2.1 37 = .ok (.invokevirtual 27, 3) := fx_d (q := (37, .invokevirtual 27, 3)) D_PL_pack 19 rfl
theorem d_PL_pack_40 : decode M_PL_pack.2.1 40 = .ok (.iinc 6 1, 3) := fx_d (q := (40, .iinc 6 1, 3)) D_PL_pack 20 rfl
theorem d_PL_pack_43 : decode M_PL_pack.2.1 43 = .ok (.goto (-25), 3) := fx_d (q := (43, .goto (-25), 3)) D_PL_pack 21 rfl
theorem d_PL_pack_46 : decode M_PL_pack.2.1 46 = .ok (.iinc 5 1, 3) := fx_d (q := (46, .iinc 5 1, 3)) D_PL_pack 22 rfl
theorem d_PL_pack_49 : decode M_PL_pack.2.1 49 = .ok (.goto (-40), 3) := fx_d (q := (49, .goto (-40), 3)) D_PL_pack 23 rfl
theorem d_PL_pack_52 : decode M_PL_pack.2.1 52 = .ok (.return_, 1) := fx_d (q := (52, .return_, 1)) D_PL_pack 24 rfl
