set_option maxRecDepth 100000 in
def L_MO_inBits : List (Nat × Instr × Nat) := [(0, .iconst 0, 1), (1, .istore_n 2, 1), (2, .iconst 0, 1), (3, .istore_n 3, 1), (4, .iload_n 3, 1), (5, .iload_n 1, 1), (6, .if_icmp .ge 25, 3), (9, .aload_n 0, 1), (10, .getfield 264, 3), (13, .ifCond .ne 18, 3), (16, .iconst 2, 1), (17, .iload_n 2, 1), (18, .imul, 1), (19, .aload_n 0, 1), (20, .invokevirtual 277, 3), (23, .iadd, 1), (24, .istore_n 2, 1), (25, .iinc 3 1, 3), (28, .goto (-24), 3), (31, .iload_n 2, 1), (32, .ireturn, 1)]
set_option maxRecDepth 100000 in
theorem D_MO_inBits : ∀ q ∈ L_MO_inBits, decode prog_14_method_48_code q.1 = .ok q.2 := by decide +kernel
theorem d_MO_inBits_0 : decode M_MO_inBits.2.1 0 = .ok (.iconst 0, 1) := fx_d (q := (0, .iconst 0, 1)) D_MO_inBits 0 rfl
theorem d_MO_inBits_1 : decode M_MO_inBits.2.1 1 = .ok (.istore_n 2, 1) := fx_d (q := (1, .istore_n 2, 1)) D_MO_inBits 1 rfl
theorem d_MO_inBits_2 : decode M_MO_inBits.2.1 2 = .ok (.iconst 0, 1) := fx_d (q := (2, .iconst 0, 1)) D_MO_inBits 2 rfl
theorem d_MO_inBits_3 : decode M_MO_inBits.2.1 3 = .ok (.istore_n 3, 1) := fx_d (q := (3, .istore_n 3, 1)) D_MO_inBits 3 rfl
theorem d_MO_inBits_4 : decode M_MO_inBits.2.1 4 = .ok (.iload_n 3, 1) := fx_d (q := (4, .iload_n 3, 1)) D_MO_inBits 4 rfl
theorem d_MO_inBits_5 : decode M_MO_inBits.2.1 5 = .ok (.iload_n 1, 1) := fx_d (q := (5, .iload_n 1, 1)) D_MO_inBits 5 rfl
theorem d_MO_inBits_6 : decode M_MO_inBits.2.1 6 = .ok (.if_icmp .ge 25, 3) := fx_d (q := (6, .if_icmp .ge 25, 3)) D_MO_inBits 6 rfl
theorem d_MO_inBits_9 : decode M_MO_inBits.2.1 9 = .ok (.aload_n 0, 1) := fx_d (q := (9, .aload_n 0, 1)) D_MO_inBits 7 rfl
theorem d_MO_inBits_10 : decode M_MO_inBits.2.1 10 = .ok (.getfield 264, 3) := fx_d (q := (10, .getfield 264, 3)) D_MO_inBits 8 rfl
theorem d_MO_inBits_13 : decode M_MO_inBits.2.1 13 = .ok (.ifCond .ne 18, 3) := fx_d (q := (13, .ifCond .ne 18, 3)) D_MO_inBits 9 rfl
theorem d_MO_inBits_16 : decode M_MO_inBits.2.1 16 = .ok (.iconst 2, 1) := fx_d (q := (16, .iconst 2, 1)) D_MO_inBits 10 rfl
theorem d_MO_inBits_17 : decode M_MO_inBits.2.1 17 = .ok (.iload_n 2, 1) := fx_d (q := (17, .iload_n 2, 1)) D_MO_inBits 11 rfl
theorem d_MO_inBits_18 : decode M_MO_inBits.2.1 18 = .ok (.imul, 1) := fx_d (q := (18, .imul, 1)) D_MO_inBits 12 rfl
theorem d_MO_inBits_19 : decode M_MO_inBits.2.1 19 = .ok (.aload_n 0, 1) := fx_d (q := (19, .aload_n 0, 1)) D_MO_inBits 13 rfl
theorem d_MO_inBits_20 : decode M_MO_inBits.2.1 20 = .ok (.invokevirtual 277, 3) := fx_d (q := (20, .invokevirtual 277, 3)) D_MO_inBits 14 rfl
theorem d_MO_inBits_23 : decode M_MO_inBits.2.1 23 = .ok (.iadd, 1) := fx_d (q := (23, .iadd, 1)) D_MO_inBits 15 rfl
theorem d_MO_inBits_24 : decode M_MO_inBits.2.1 24 = .ok (.istore_n 2, 1) := fx_d (q := (24, .istore_n 2, 1)) D_MO_inBits 16 rfl
theorem d_MO_inBits_25 : decode M_MO_inBits.2.1 25 = .ok (.iinc 3 1, 3) := fx_d (q := (25, .iinc 3 1, 3)) D_MO_inBits 17 rfl
theorem d_MO_inBits_28 : decode M_MO_inBits.2.1 28 = .ok (.goto (-24), 3) := fx_d (q := (28, .goto (-24), 3)) D_MO_inBits 18 rfl
theorem d_MO_inBits_31 : decode M_MO_inBits.2.1 31 = .ok (.iload_n 2, 1) := fx_d (q := (31, .iload_n 2, 1)) D_MO_inBits 19 rfl
theorem d_MO_inBits_32 : decode M_MO_inBits.2.1 32 = .ok (.ireturn, 1) := fx_d (q := (32, .ireturn, 1)) D_MO_inBits 20 rfl
set_option maxRecDepth 100000 in
def L_MO_inBit : List (Nat × Instr × Nat) := [(0, .aload_n 0, 1), (1, .aload_n 0, 1), (2, .getfield 267, 3), (5, .aload_n 0, 1), (6, .getfield 270, 3), (9, .if_icmp .ge 7, 3), (12, .iconst 1, 1), (13, .goto 4, 3), (16, .iconst 0, 1), (17, .invokevirtual 273, 3), (20, .ifCond .ne 5, 3), (23, .iconst 0, 1), (24, .ireturn, 1), (25, .aload_n 0, 1), (26, .getfield 20, 3), (29, .aload_n 0, 1), (30, .getfield 267, 3), (33, .bipush 8, 2), (35, .idiv, 1), (36, .iaload, 1), (37, .bipush 7, 2), (39, .aload_n 0, 1), (40, .getfield 267, 3), (43, .bipush 8, 2), (45, .irem, 1), (46, .isub, 1), (47, .ishr, 1), (48, .iconst 1, 1), (49, .iand, 1), (50, .istore_n 1, 1), (51, .aload_n 0, 1), (52, .dup, 1), (53, .getfield 267, 3), (56, .iconst 1, 1), (57, .iadd, 1), (58, .putfield 267, 3), (61, .iload_n 1, 1), (62, .ireturn, 1)]
set_option maxRecDepth 100000 in
theorem D_MO_inBit : ∀ q ∈ L_MO_inBit, decode prog_14_method_47_code q.1 = .ok q.2 := by decide +kernel
theorem d_MO_inBit_0 : decode M_MO_inBit.2.1 0 = .ok (.aload_n 0, 1) := fx_d (q := (0, .aload_n 0, 1)) D_MO_inBit 0 rfl
theorem d_MO_inBit_1 : decode M_MO_inBit.2.1 1 = .ok (.aload_n 0, 1) := fx_d (q := (1, .aload_n 0, 1)) D_MO_inBit 1 rfl
theorem d_MO_inBit_2 : decode M_MO_inBit.2.1 2 = .ok (.getfield 267, 3) := fx_d (q := (2, .getfield 267, 3)) D_MO_inBit 2 rfl
theorem d_MO_inBit_5 : decode M_MO_inBit.2.1 5 = .ok (.aload_n 0, 1) := fx_d (q := (5, .aload_n 0, 1)) D_MO_inBit 3 rfl
theorem d_MO_inBit_6 : decode M_MO_inBit.2.1 6 = .ok (.getfield 270, 3) := fx_d (q := (6, .getfield 270, 3)) D_MO_inBit 4 rfl
theorem d_MO_inBit_9 : decode M_MO_inBit.2.1 9 = .ok (.if_icmp .ge 7, 3) := fx_d (q := (9, .if_icmp .ge 7, 3)) D_MO_inBit 5 rfl
theorem d_MO_inBit_12 : decode M_MO_inBit.2.1 12 = .ok (.iconst 1, 1) := fx_d (q := (12, .iconst 1, 1)) D_MO_inBit 6 rfl
theorem d_MO_inBit_13 : decode M_MO_inBit.2.1 13 = .ok (.goto 4, 3) := fx_d (q := (13, .goto 4, 3)) D_MO_inBit 7 rfl
theorem d_MO_inBit_16 : decode M_MO_inBit.2.1 16 = .ok (.iconst 0, 1) := fx_d (q := (16, .iconst 0, 1)) D_MO_inBit 8 rfl
theorem d_MO_inBit_17 : decode M_MO_inBit.2.1 17 = .ok (.invokevirtual 273, 3) := fx_d (q := (17, .invokevirtual 273, 3)) D_MO_inBit 9 rfl
theorem d_MO_inBit_20 : decode M_MO_inBit.2.1 20 = .ok (.ifCond .ne 5, 3) := fx_d (q := (20, .ifCond .ne 5, 3)) D_MO_inBit 10 rfl
theorem d_MO_inBit_23 : decode M_MO_inBit.2.1 23 = .ok (.iconst 0, 1) := fx_d (q := (23, .iconst 0, 1)) D_MO_inBit 11 rfl
theorem d_MO_inBit_24 : decode M_MO_inBit.2.1 24 = .ok (.ireturn, 1) := fx_d (q := (24, .ireturn, 1)) D_MO_inBit 12 rfl
theorem d_MO_inBit_25 : decode M_MO_inBit.2.1 25 = .ok (.aload_n 0, 1) := fx_d (q := (25, .aload_n 0, 1)) D_MO_inBit 13 rfl
theorem d_MO_inBit_26 : decode M_MO_inBit.2.1 26 = .ok (.getfield 20, 3) := fx_d (q := (26, .getfield 20, 3)) D_MO_inBit 14 rfl
theorem d_MO_inBit_29 : decode M_MO_inBit.2.1 29 = .ok (.aload_n 0, 1) := fx_d (q := (29, .aload_n 0, 1)) D_MO_inBit 15 rfl
theorem d_MO_inBit_30 : decode M_MO_inBit.2.1 30 = .ok (.getfield 267, 3) := fx_d (q := (30, .getfield 267, 3)) D_MO_inBit 16 rfl
theorem d_MO_inBit_33 : decode M_MO_inBit.2.1 33 = .ok (.bipush 8, 2) := fx_d (q := (33, .bipush 8, 2)) D_MO_inBit 17 rfl
theorem d_MO_inBit_35 : decode M_MO_inBit.2.1 35 = .ok (.idiv, 1) := fx_d (q := (35, .idiv, 1)) D_MO_inBit 18 rfl
theorem d_MO_inBit_36 : decode M_MO_inBit.2.1 36 = .ok (.iaload, 1) := fx_d (q := (36, .iaload, 1)) D_MO_inBit 19 rfl
theorem d_MO_inBit_37 : decode M_MO_inBit.2.1 37 = .ok (.bipush 7, 2) := fx_d (q := (37, .bipush 7, 2)) D_MO_inBit 20 rfl
theorem d_MO_inBit_39 : decode M_MO_inBit.2.1 39 = .ok (.aload_n 0, 1) := fx_d (q := (39, .aload_n 0, 1)) D_MO_inBit 21 rfl
theorem d_MO_inBit_40 : decode M_MO_inBit.2.1 40 = .ok (.getfield 267, 3) := fx_d (q := (40, .getfield 267, 3)) D_MO_inBit 22 rfl
theorem d_MO_inBit_43 : decode M_MO_inBit.2.1 43 = .ok (.bipush 8, 2) := fx_d (q := (43, .bipush 8, 2)) D_MO_inBit 23 rfl
theorem d_MO_inBit_45 : decode M_MO_inBit.2.1 45 = .ok (.irem, 1) := fx_d (q := (45, .irem, 1)) D_MO_inBit 24 rfl
theorem d_MO_inBit_46 : decode M_MO_inBit.2.1 46 = .ok (.isub, 1) := fx_d (q := (46, .isub, 1)) D_MO_inBit 25 rfl
theorem d_MO_inBit_47 : decode M_MO_inBit.2.1 47 = .ok (.ishr, 1) := fx_d (q := (47, .ishr, 1)) D_MO_inBit 26 rfl
theorem d_MO_inBit_48 : decode M_MO_inBit.2.1 48 = .ok (.iconst 1, 1) := fx_d (q := (48, .iconst 1, 1)) D_MO_inBit 27 rfl
theorem d_MO_inBit_49 : decode M_MO_inBit.2.1 49 = .ok (.iand, 1) := fx_d (q := (49, .iand, 1)) D_MO_inBit 28 rfl
theorem d_MO_inBit_50 : decode M_MO_inBit.2.1 50 = .ok (.istore_n 1, 1) := fx_d (q := (50, .istore_n 1, 1)) D_MO_inBit 29 rfl
theorem d_MO_inBit_51 : decode M_MO_inBit.2.1 51 = .ok (.aload_n 0, 1) := fx_d (q := (51, .aload_n 0, 1)) D_MO_inBit 30 rfl
theorem d_MO_inBit_52 : decode M_MO_inBit.2.1 52 = .ok (.dup, 1) := fx_d (q := (52, .dup, 1)) D_MO_inBit 31 rfl
theorem d_MO_inBit_53 : decode M_MO_inBit.2.1 53 = .ok (.getfield 267, 3) := fx_d (q := (53, .getfield 267, 3)) D_MO_inBit 32 rfl
theorem d_MO_inBit_56 : decode M_MO_inBit.2.1 56 = .ok (.iconst 1, 1) := fx_d (q := (56, .iconst 1, 1)) D_MO_inBit 33 rfl
theorem d_MO_inBit_57 : decode M_MO_inBit.2.1 57 = .ok (.iadd, 1) := fx_d (q := (57, .iadd, 1)) D_MO_inBit 34 rfl
theorem d_MO_inBit_58 : decode M_MO_inBit.2.1 58 = .ok (.putfield 267, 3) := fx_d (q := (58, .putfield 267, 3)) D_MO_inBit 35 rfl
theorem d_MO_inBit_61 : decode M_MO_inBit.2.1 61 = .ok (.iload_n 1, 1) := fx_d (q := (61, .iload_n 1, 1)) D_MO_inBit 36 rfl
theorem d_MO_inBit_62 : decode M_MO_inBit.2.1 62 = .ok (.ireturn, 1) := fx_d (q := (62, .ireturn, 1)) D_MO_inBit 37 rfl
set_option maxRecDepth 100000 in
def L_MO_need : List (Nat × Instr × Nat) := [(0, .aload_n 0, 1), (1, .aload_n 0, 1), (2, .getfield 264, 3), (5, .ifCond .ne 7, 3), (8, .iload_n 1, 1), (9, .ifCond .ne 7, 3), (12, .iconst 1, 1), (13, .goto 4, 3), (16, .iconst 0, 1), (17, .putfield 264, 3), (20, .iload_n 1, 1), (21, .ireturn, 1)]
set_option maxRecDepth 100000 in
theorem D_MO_need : ∀ q ∈ L_MO_need, decode prog_14_method_46_code q.1 = .ok q.2 := by decide +kernel
theorem d_MO_need_0 : decode M_MO_need.2.1 0 = .ok (.aload_n 0, 1) := fx_d (q := (0, .aload_n 0, 1)) D_MO_need 0 rfl
theorem d_MO_need_1 : decode M_MO_need.2.1 1 = .ok (.aload_n 0, 1) := fx_d (q := (1, .aload_n 0, 1)) D_MO_need 1 rfl
theorem d_MO_need_2 : decode M_MO_need.2.1 2 = .ok (.getfield 264, 3) := fx_d (q := (2, .getfield 264, 3)) D_MO_need 2 rfl
theorem d_MO_need_5 : decode M_MO_need.2.1 5 = .ok (.ifCond .ne 7, 3) := fx_d (q := (5, .ifCond .ne 7, 3)) D_MO_need 3 rfl
theorem d_MO_need_8 : decode M_MO_need.2.1 8 = .ok (.iload_n 1, 1) := fx_d (q := (8, .iload_n 1, 1)) D_MO_need 4 rfl
theorem d_MO_need_9 : decode M_MO_need.2.1 9 = .ok (.ifCond .ne 7, 3) := fx_d (q := (9, .ifCond .ne 7, 3)) D_MO_need 5 rfl
theorem d_MO_need_12 : decode M_MO_need.2.1 12 = .ok (.iconst 1, 1) := fx_d (q := (12, .iconst 1, 1)) D_MO_need 6 rfl
theorem d_MO_need_13 : decode M_MO_need.2.1 13 = .ok (.goto 4, 3) := fx_d (q := (13, .goto 4, 3)) D_MO_need 7 rfl
theorem d_MO_need_16 : decode M_MO_need.2.1 16 = .ok (.iconst 0, 1) := fx_d (q := (16, .iconst 0, 1)) D_MO_need 8 rfl
theorem d_MO_need_17 : decode M_MO_need.2.1 17 = .ok (.putfield 264, 3) := fx_d (q := (17, .putfield 264, 3)) D_MO_need 9 rfl
theorem d_MO_need_20 : decode M_MO_need.2.1 20 = .ok (.iload_n 1, 1) := fx_d (q := (20, .iload_n 1, 1)) D_MO_need 10 rfl
theorem d_MO_need_21 : decode M_MO_need.2.1 21 = .ok (.ireturn, 1) := fx_d (q := (21, .ireturn, 1)) D_MO_need 11 rfl
set_option maxRecDepth 100000 in
def L_MO_inItself : List (Nat × Instr × Nat) := [(0, .iconst 0, 1), (1, .istore_n 1, 1), (2, .iconst 0, 1), (3, .istore_n 2, 1), (4, .iload_n 1, 1), (5, .aload_n 0, 1), (6, .getfield 131, 3), (9, .if_icmp .ge 31, 3), (12, .aload_n 0, 1), (13, .getfield 264, 3), (16, .ifCond .ne 24, 3), (19, .aload_n 0, 1), (20, .iload_n 1, 1), (21, .iload_n 1, 1), (22, .aload_n 0, 1), (23, .iload_n 2, 1), (24, .invokevirtual 298, 3), (27, .iadd, 1), (28, .iload_n 2, 1), (29, .invokevirtual 301, 3), (32, .istore_n 1, 1), (33, .iconst 1, 1), (34, .iload_n 2, 1), (35, .isub, 1), (36, .istore_n 2, 1), (37, .goto (-33), 3), (40, .return_, 1)]
set_option maxRecDepth 100000 in
theorem D_MO_inItself : ∀ q ∈ L_MO_inItself, decode prog_14_method_58_code q.1 = .ok q.2 := by decide +kernel
theorem d_MO_inItself_0 : decode M_MO_inItself.2.1 0 = .ok (.iconst 0, 1) := fx_d (q := (0, .iconst 0, 1)) D_MO_inItself 0 rfl
theorem d_MO_inItself_1 : decode M_MO_inItself.2.1 1 = .ok (.istore_n 1, 1) := fx_d (q := (1, .istore_n 1, 1)) D_MO_inItself 1 rfl
theorem d_MO_inItself_2 : decode M_MO_inItself.2.1 2 = .ok (.iconst 0, 1) := fx_d (q := (2, .iconst 0, 1)) D_MO_inItself 2 rfl
theorem d_MO_inItself_3 : decode M_MO_inItself.2.1 3 = .ok (.istore_n 2, 1) := fx_d (q := (3, .istore_n 2, 1)) D_MO_inItself 3 rfl
theorem d_MO_inItself_4 : decode M_MO_inItself.2.1 4 = .ok (.iload_n 1, 1) := fx_d (q := (4, .iload_n 1, 1)) D_MO_inItself 4 rfl
theorem d_MO_inItself_5 : decode M_MO_inItself.2.1 5 = .ok (.aload_n 0, 1) := fx_d (q := (5, .aload_n 0, 1)) D_MO_inItself 5 rfl
theorem d_MO_inItself_6 : decode M_MO_inItself.2.1 6 = .ok (.getfield 131, 3) := fx_d (q := (6, .getfield 131, 3)) D_MO_inItself 6 rfl
theorem d_MO_inItself_9 : decode M_MO_inItself.2.1 9 = .ok (.if_icmp .ge 31, 3) := fx_d (q := (9, .if_icmp .ge 31, 3)) D_MO_inItself 7 rfl
theorem d_MO_inItself_12 : decode M_MO_inItself.2.1 12 = .ok (.aload_n 0, 1) := fx_d (q := (12, .aload_n 0, 1)) D_MO_inItself 8 rfl
theorem d_MO_inItself_13 : decode M_MO_inItself.2.1 13 = .ok (.getfield 264, 3) := fx_d (q := (13, .getfield 264, 3)) D_MO_inItself 9 rfl
theorem d_MO_inItself_16 : decode M_MO_inItself.2.1 16 = .ok (.ifCond .ne 24, 3) := fx_d (q := (16, .ifCond .ne 24, 3)) D_MO_inItself 10 rfl
theorem d_MO_inItself_19 : decode M_MO_inItself.2.1 19 = .ok (.aload_n 0, 1) := fx_d (q := (19, .aload_n 0, 1)) D_MO_inItself 11 rfl
theorem d_MO_inItself_20 : decode M_MO_inItself.2.1 20 = .ok (.iload_n 1, 1) := fx_d (q := (20, .iload_n 1, 1)) D_MO_inItself 12 rfl
theorem d_MO_inItself_21 : decode M_MO_inItself.2.1 21 = .ok (.iload_n 1, 1) := fx_d (q := (21, .iload_n 1, 1)) D_MO_inItself 13 rfl
theorem d_MO_inItself_22 : decode M_MO_inItself.2.1 22 = .ok (.aload_n 0, 1) := fx_d (q := (22, .aload_n 0, 1)) D_MO_inItself 14 rfl
theorem d_MO_inItself_23 : decode M_MO_inItself.2.1 23 = .ok (.iload_n 2, 1) := fx_d (q := (23, .iload_n 2, 1)) D_MO_inItself 15 rfl
theorem d_MO_inItself_24 : decode M_MO_inItself.2.1 24 = .ok (.invokevirtual 298, 3) := fx_d (q := (24, .invokevirtual 298, 3)) D_MO_inItself 16 rfl
theorem d_MO_inItself_27 : decode M_MO_inItself.2.1 27 = .ok (.iadd, 1) := fx_d (q := (27, .iadd, 1)) D_MO_inItself 17 rfl
theorem d_MO_inItself_28 : decode M_MO_inItself.2.1 28 = .ok (.iload_n 2, 1) := fx_d (q := (28, .iload_n 2, 1)) D_MO_inItself 18 rfl
theorem d_MO_inItself_29 : decode M_MO_inItself.2.1 29 = .ok (.invokevirtual 301, 3) := fx_d (q := (29, .invokevirtual 301, 3)) D_MO_inItself 19 rfl
theorem d_MO_inItself_32 : decode M_MO_inItself.2.1 32 = .ok (.istore_n 1, 1) := fx_d (q := (32, .istore_n 1, 1)) D_MO_inItself 20 rfl
theorem d_MO_inItself_33 : decode M_MO_inItself.2.1 33 = .ok (.iconst 1, 1) := fx_d (q := (33, .iconst 1, 1)) D_MO_inItself 21 rfl
theorem d_MO_inItself_34 : decode M_MO_inItself.2.1 34 = .ok (.iload_n 2, 1) := fx_d (q := (34, .iload_n 2, 1)) D_MO_inItself 22 rfl
theorem d_MO_inItself_35 : decode M_MO_inItself.2.1 35 = .ok (.isub, 1) := fx_d (q := (35, .isub, 1)) D_MO_inItself 23 rfl
theorem d_MO_inItself_36 : decode M_MO_inItself.2.1 36 = .ok (.istore_n 2, 1) := fx_d (q := (36, .istore_n 2, 1)) D_MO_inItself 24 rfl
theorem d_MO_inItself_37 : decode M_MO_inItself.2.1 37 = .ok (.goto (-33), 3) := fx_d (q := (37, .goto (-33), 3)) D_MO_inItself 25 rfl
theorem d_MO_inItself_40 : decode M_MO_inItself.2.1 40 = .ok (.return_, 1) := fx_d (q := (40, .return_, 1)) D_MO_inItself 26 rfl
set_option maxRecDepth 100000 in
def L_MO_inRun : List (Nat × Instr × Nat) := [(0, .iconst 1, 1), (1, .istore_n 2, 1), (2, .iconst (-1), 1), (3, .istore_n 3, 1), (4, .iconst 0, 1), (5, .istore 4, 2), (7, .iload 4, 2), (9, .bipush 13, 2), (11, .if_icmp .ge 68, 3), (14, .iload_n 3, 1), (15, .ifCond .ge 64, 3), (18, .aload_n 0, 1), (19, .getfield 264, 3), (22, .ifCond .ne 57, 3), (25, .iconst 2, 1), (26, .iload_n 2, 1), (27, .imul, 1), (28, .aload_n 0, 1), (29, .invokevirtual 277, 3), (32, .iadd, 1), (33, .istore_n 2, 1), (34, .iconst 0, 1), (35, .istore 5, 2), (37, .iload 5, 2), (39, .bipush 41, 2), (41, .if_icmp .ge 32, 3), (44, .aload_n 0, 1), (45, .getfield 38, 3), (48, .bipush 41, 2), (50, .iload_n 1, 1), (51, .imul, 1), (52, .iload 5, 2), (54, .iadd, 1), (55, .iaload, 1), (56, .iload_n 2, 1), (57, .if_icmp .ne 8, 3), (60, .iload 5, 2), (62, .goto 4, 3), (65, .iload_n 3, 1), (66, .istore_n 3, 1), (67, .iinc 5 1, 3), (70, .goto (-33), 3), (73, .iinc 4 1, 3), (76, .goto (-69), 3), (79, .aload_n 0, 1), (80, .iload_n 3, 1), (81, .ifCond .lt 7, 3), (84, .iconst 1, 1), (85, .goto 4, 3), (88, .iconst 0, 1), (89, .invokevirtual 273, 3), (92, .pop, 1), (93, .iload_n 3, 1), (94, .ireturn, 1)]
set_option maxRecDepth 100000 in
theorem D_MO_inRun : ∀ q ∈ L_MO_inRun, decode prog_14_method_56_code q.1 = .ok q.2 := by decide +kernel
theorem d_MO_inRun_0 : decode M_MO_inRun.2.1 0 = .ok (.iconst 1, 1) := fx_d (q := (0, .iconst 1, 1)) D_MO_inRun 0 rfl
theorem d_MO_inRun_1 : decode M_MO_inRun.2.1 1 = .ok (.istore_n 2, 1) := fx_d (q := (1, .istore_n 2, 1)) D_MO_inRun 1 rfl
theorem d_MO_inRun_2 : decode M_MO_inRun.2.1 2 = .ok (.iconst (-1), 1) := fx_d (q := (2, .iconst (-1), 1)) D_MO_inRun 2 rfl
theorem d_MO_inRun_3 : decode M_MO_inRun.2.1 3 = .ok (.istore_n 3, 1) := fx_d (q := (3, .istore_n 3, 1)) D_MO_inRun 3 rfl
theorem d_MO_inRun_4 : decode M_MO_inRun.2.1 4 = .ok (.iconst 0, 1) := fx_d (q := (4, .iconst 0, 1)) D_MO_inRun 4 rfl
theorem d_MO_inRun_5 : decode M_MO_inRun.2.1 5 = .ok (.istore 4, 2) := fx_d (q := (5, .istore 4, 2)) D_MO_inRun 5 rfl
theorem d_MO_inRun_7 : decode M_MO_inRun.2.1 7 = .ok (.iload 4, 2) := fx_d (q := (7, .iload 4, 2)) D_MO_inRun 6 rfl
theorem d_MO_inRun_9 : decode M_MO_inRun.2.1 9 = .ok (.bipush 13, 2) := fx_d (q := (9, .bipush 13, 2)) D_MO_inRun 7 rfl
theorem d_MO_inRun_11 : decode M_MO_inRun.2.1 11 = .ok (.if_icmp .ge 68, 3) := fx_d (q := (11, .if_icmp .ge 68, 3)) D_MO_inRun 8 rfl
theorem d_MO_inRun_14 : decode M_MO_inRun.2.1 14 = .ok (.iload_n 3, 1) := fx_d (q := (14, .iload_n 3, 1)) D_MO_inRun 9 rfl
theorem d_MO_inRun_15 : decode M_MO_inRun.2.1 15 = .ok (.ifCond .ge 64, 3) := fx_d (q := (15, .ifCond .ge 64, 3)) D_MO_inRun 10 rfl
theorem d_MO_inRun_18 : decode M_MO_inRun.2.1 18 = .ok (.aload_n 0, 1) := fx_d (q := (18, .aload_n 0, 1)) D_MO_inRun 11 rfl
theorem d_MO_inRun_19 : decode M_MO_inRun.2.1 19 = .ok (.getfield 264, 3) := fx_d (q := (19, .getfield 264, 3)) D_MO_inRun 12 rfl
theorem d_MO_inRun_22 : decode M_MO_inRun.2.1 22 = .ok (.ifCond .ne 57, 3) := fx_d (q := (22, .ifCond .ne 57, 3)) D_MO_inRun 13 rfl
theorem d_MO_inRun_25 : decode M_MO_inRun.2.1 25 = .ok (.iconst 2, 1) := fx_d (q := (25, .iconst 2, 1)) D_MO_inRun 14 rfl
theorem d_MO_inRun_26 : decode M_MO_inRun.2.1 26 = .ok (.iload_n 2, 1) := fx_d (q := (26, .iload_n 2, 1)) D_MO_inRun 15 rfl
theorem d_MO_inRun_27 : decode M_MO_inRun.2.1 27 = .ok (.imul, 1) := fx_d (q := (27, .imul, 1)) D_MO_inRun 16 rfl
theorem d_MO_inRun_28 : decode M_MO_inRun.2.1 28 = .ok (.aload_n 0, 1) := fx_d (q := (28, .aload_n 0, 1)) D_MO_inRun 17 rfl
theorem d_MO_inRun_29 : decode M_MO_inRun.2.1 29 = .ok (.invokevirtual 277, 3) := fx_d (q := (29, .invokevirtual 277, 3)) D_MO_inRun 18 rfl
theorem d_MO_inRun_32 : decode M_MO_inRun.2.1 32 = .ok (.iadd, 1) := fx_d (q := (32, .iadd, 1)) D_MO_inRun 19 rfl
theorem d_MO_inRun_33 : decode M_MO_inRun.2.1 33 = .ok (.istore_n 2, 1) := fx_d (q := (33, .istore_n 2, 1)) D_MO_inRun 20 rfl
theorem d_MO_inRun_34 : decode M_MO_inRun.2.1 34 = .ok (.iconst 0, 1) := fx_d (q := (34, .iconst 0, 1)) D_MO_inRun 21 rfl
theorem d_MO_inRun_35 : decode M_MO_inRun.2.1 35 = .ok (.istore 5, 2) := fx_d (q := (35, .istore 5, 2)) D_MO_inRun 22 rfl
theorem d_MO_inRun_37 : decode M_MO_inRun.2.1 37 = .ok (.iload 5, 2) := fx_d (q := (37, .iload 5, 2)) D_MO_inRun 23 rfl
theorem d_MO_inRun_39 : decode M_MO_inRun.2.1 39 = .ok (.bipush 41, 2) := fx_d (q := (39, .bipush 41, 2)) D_MO_inRun 24 rfl
theorem d_MO_inRun_41 : decode M_MO_inRun.2.1 41 = .ok (.if_icmp .ge 32, 3) := fx_d (q := (41, .if_icmp .ge 32, 3)) D_MO_inRun 25 rfl
theorem d_MO_inRun_44 : decode M_MO_inRun.2.1 44 = .ok (.aload_n 0, 1) := fx_d (q := (44, .aload_n 0, 1)) D_MO_inRun 26 rfl
theorem d_MO_inRun_45 : decode M_MO_inRun.2.1 45 = .ok (.getfield 38, 3) := fx_d (q := (45, .getfield 38, 3)) D_MO_inRun 27 rfl
theorem d_MO_inRun_48 : decode M_MO_inRun.2.1 48 = .ok (.bipush 41, 2) := fx_d (q := (48, .bipush 41, 2)) D_MO_inRun 28 rfl
theorem d_MO_inRun_50 : decode M_MO_inRun.2.1 50 = .ok (.iload_n 1, 1) := fx_d (q := (50, .iload_n 1, 1)) D_MO_inRun 29 rfl
theorem d_MO_inRun_51 : decode M_MO_inRun.2.1 51 = .ok (.imul, 1) := fx_d (q := (51, .imul, 1)) D_MO_inRun 30 rfl
theorem d_MO_inRun_52 : decode M_MO_inRun.2.1 52 = .ok (.iload 5, 2) := fx_d (q := (52, .iload 5, 2)) D_MO_inRun 31 rfl
theorem d_MO_inRun_54 : decode M_MO_inRun.2.1 54 = .ok (.iadd, 1) := fx_d (q := (54, .iadd, 1)) D_MO_inRun 32 rfl
theorem d_MO_inRun_55 : decode M_MO_inRun.2.1 55 = .ok (.iaload, 1) := fx_d (q := (55, .iaload, 1)) D_MO_inRun 33 rfl
theorem d_MO_inRun_56 : decode M_MO_inRun.2.1 56 = .ok (.iload_n 2, 1) := fx_d (q := (56, .iload_n 2, 1)) D_MO_inRun 34 rfl
theorem d_MO_inRun_57 : decode M_MO_inRun.2.1 57 = .ok (.if_icmp .ne 8, 3) := fx_d (q := (57, .if_icmp .ne 8, 3)) D_MO_inRun 35 rfl
theorem d_MO_inRun_60 : decode M_MO_inRun.2.1 60 = .ok (.iload 5, 2) := fx_d (q := (60, .iload 5, 2)) D_MO_inRun 36 rfl
theorem d_MO_inRun_62 : decode M_MO_inRun.2.1 62 = .ok (.goto 4, 3) := fx_d (q := (62, .goto 4, 3)) D_MO_inRun 37 rfl
theorem d_MO_inRun_65 : decode M_MO_inRun.2.1 65 = .ok (.iload_n 3, 1) := fx_d (q := (65, .iload_n 3, 1)) D_MO_inRun 38 rfl
theorem d_MO_inRun_66 : decode M_MO_inRun.2.1 66 = .ok (.istore_n 3, 1) := fx_d (q := (66, .istore_n 3, 1)) D_MO_inRun 39 rfl
theorem d_MO_inRun_67 : decode M_MO_inRun.2.1 67 = .ok (.iinc 5 1, 3) := fx_d (q := (67, .iinc 5 1, 3)) D_MO_inRun 40 rfl
theorem d_MO_inRun_70 : decode M_MO_inRun.2.1 70 = .ok (.goto (-33), 3) := fx_d (q := (70, .goto (-33), 3)) D_MO_inRun 41 rfl
theorem d_MO_inRun_73 : decode M_MO_inRun.2.1 73 = .ok (.iinc 4 1, 3) := fx_d (q := (73, .iinc 4 1, 3)) D_MO_inRun 42 rfl
theorem d_MO_inRun_76 : decode M_MO_inRun.2.1 76 = .ok (.goto (-69), 3) := fx_d (q := (76, .goto (-69), 3)) D_MO_inRun 43 rfl
theorem d_MO_inRun_79 : decode M_MO_inRun.2.1 79 = .ok (.aload_n 0, 1) := fx_d (q := (79, .aload_n 0, 1)) D_MO_inRun 44 rfl
theorem d_MO_inRun_80 : decode M_MO_inRun.2.1 80 = .ok (.iload_n 3, 1) := fx_d (q := (80, .iload_n 3, 1)) D_MO_inRun 45 rfl
theorem d_MO_inRun_81 : decode M_MO_inRun.2.1 81 = .ok (.ifCond .lt 7, 3) := fx_d (q := (81, .ifCond .lt 7, 3)) D_MO_inRun 46 rfl
theorem d_MO_inRun_84 : decode M_MO_inRun.2.1 84 = .ok (.iconst 1, 1) := fx_d (q := (84, .iconst 1, 1)) D_MO_inRun 47 rfl
theorem d_MO_inRun_85 : decode M_MO_inRun.2.1 85 = .ok (.goto 4, 3) := fx_d (q := (85, .goto 4, 3)) D_MO_inRun 48 rfl
theorem d_MO_inRun_88 : decode M_MO_inRun.2.1 88 = .ok (.iconst 0, 1) := fx_d (q := (88, .iconst 0, 1)) D_MO_inRun 49 rfl
theorem d_MO_inRun_89 : decode M_MO_inRun.2.1 89 = .ok (.invokevirtual 273, 3) := fx_d (q := (89, .invokevirtual 273, 3)) D_MO_inRun 50 rfl
theorem d_MO_inRun_92 : decode M_MO_inRun.2.1 92 = .ok (.pop, 1) := fx_d (q := (92, .pop, 1)) D_MO_inRun 51 rfl
theorem d_MO_inRun_93 : decode M_MO_inRun.2.1 93 = .ok (.iload_n 3, 1) := fx_d (q := (93, .iload_n 3, 1)) D_MO_inRun 52 rfl
theorem d_MO_inRun_94 : decode M_MO_inRun.2.1 94 = .ok (.ireturn, 1) := fx_d (q := (94, .ireturn, 1)) D_MO_inRun 53 rfl
set_option maxRecDepth 100000 in
def L_MO_paint : List (Nat × Instr × Nat) := [(0, .aload_n 0, 1), (1, .iload_n 2, 1), (2, .aload_n 0, 1), (3, .getfield 131, 3), (6, .if_icmp .gt 7, 3), (9, .iconst 1, 1), (10, .goto 4, 3), (13, .iconst 0, 1), (14, .invokevirtual 273, 3), (17, .ifCond .eq 26, 3), (20, .iload_n 1, 1), (21, .istore 4, 2), (23, .iload 4, 2), (25, .iload_n 2, 1), (26, .if_icmp .ge 17, 3), (29, .aload_n 0, 1), (30, .getfield 41, 3), (33, .iload 4, 2), (35, .iload_n 3, 1), (36, .iastore, 1), (37, .iinc 4 1, 3), (40, .goto (-17), 3), (43, .iload_n 2, 1), (44, .ireturn, 1)]
set_option maxRecDepth 100000 in
theorem D_MO_paint : ∀ q ∈ L_MO_paint, decode prog_14_method_57_code q.1 = .ok q.2 := by decide +kernel
theorem d_MO_paint_0 : decode M_MO_paint.2.1 0 = .ok (.aload_n 0, 1) := fx_d (q := (0, .aload_n 0, 1)) D_MO_paint 0 rfl
theorem d_MO_paint_1 : decode M_MO_paint.2.1 1 = .ok (.iload_n 2, 1) := fx_d (q := (1, .iload_n 2, 1)) D_MO_paint 1 rfl
theorem d_MO_paint_2 : decode M_MO_paint.2.1 2 = .ok (.aload_n 0, 1) := fx_d (q := (2, .aload_n 0, 1)) D_MO_paint 2 rfl
theorem d_MO_paint_3 : decode M_MO_paint.2.1 3 = .ok (.getfield 131, 3) := fx_d (q := (3, .getfield 131, 3)) D_MO_paint 3 rfl
theorem d_MO_paint_6 : decode M_MO_paint.2.1 6 = .ok (.if_icmp .gt 7, 3) := fx_d (q := (6, .if_icmp .gt 7, 3)) D_MO_paint 4 rfl
theorem d_MO_paint_9 : decode M_MO_paint.2.1 9 = .ok (.iconst 1, 1) := fx_d (q := (9, .iconst 1, 1)) D_MO_paint 5 rfl
theorem d_MO_paint_10 : decode M_MO_paint.2.1 10 = .ok (.goto 4, 3) := fx_d (q := (10, .goto 4, 3)) D_MO_paint 6 rfl
theorem d_MO_paint_13 : decode M_MO_paint.2.1 13 = .ok (.iconst 0, 1) := fx_d (q := (13, .iconst 0, 1)) D_MO_paint 7 rfl
theorem d_MO_paint_14 : decode M_MO_paint.2.1 14 = .ok (.invokevirtual 273, 3) := fx_d (q := (14, .invokevirtual 273, 3)) D_MO_paint 8 rfl
theorem d_MO_paint_17 : decode M_MO_paint.2.1 17 = .ok (.ifCond .eq 26, 3) := fx_d (q := (17, .ifCond .eq 26, 3)) D_MO_paint 9 rfl
theorem d_MO_paint_20 : decode M_MO_paint.2.1 20 = .ok (.iload_n 1, 1) := fx_d (q := (20, .iload_n 1, 1)) D_MO_paint 10 rfl
theorem d_MO_paint_21 : decode M_MO_paint.2.1 21 = .ok (.istore 4, 2) := fx_d (q := (21, .istore 4, 2)) D_MO_paint 11 rfl
theorem d_MO_paint_23 : decode M_MO_paint.2.1 23 = .ok (.iload 4, 2) := fx_d (q := (23, .iload 4, 2)) D_MO_paint 12 rfl
theorem d_MO_paint_25 : decode M_MO_paint.2.1 25 = .ok (.iload_n 2, 1) := fx_d (q := (25, .iload_n 2, 1)) D_MO_paint 13 rfl
theorem d_MO_paint_26 : decode M_MO_paint.2.1 26 = .ok (.if_icmp .ge 17, 3) := fx_d (q := (26, .if_icmp .ge 17, 3)) D_MO_paint 14 rfl
theorem d_MO_paint_29 : decode M_MO_paint.2.1 29 = .ok (.aload_n 0, 1) := fx_d (q := (29, .aload_n 0, 1)) D_MO_paint 15 rfl
theorem d_MO_paint_30 : decode M_MO_paint.2.1 30 = .ok (.getfield 41, 3) := fx_d (q := (30, .getfield 41, 3)) D_MO_paint 16 rfl
theorem d_MO_paint_33 : decode M_MO_paint.2.1 33 = .ok (.iload 4, 2) := fx_d (q := (33, .iload 4, 2)) D_MO_paint 17 rfl
theorem d_MO_paint_35 : decode M_MO_paint.2.1 35 = .ok (.iload_n 3, 1) := fx_d (q := (35, .iload_n 3, 1)) D_MO_paint 18 rfl
theorem d_MO_paint_36 : decode M_MO_paint.2.1 36 = .ok (.iastore, 1) := fx_d (q := (36, .iastore, 1)) D_MO_paint 19 rfl
theorem d_MO_paint_37 : decode M_MO_paint.2.1 37 = .ok (.iinc 4 1, 3) := fx_d (q := (37, .iinc 4 1, 3)) D_MO_paint 20 rfl
theorem d_MO_paint_40 : decode M_MO_paint.2.1 40 = .ok (.goto (-17), 3) := fx_d (q := (40, .goto (-17), 3)) D_MO_paint 21 rfl
theorem d_MO_paint_43 : decode M_MO_paint.2.1 43 = .ok (.iload_n 2, 1) := fx_d (q := (43, .iload_n 2, 1)) D_MO_paint 22 rfl
theorem d_MO_paint_44 : decode M_MO_paint.2.1 44 = .ok (.ireturn, 1) := fx_d (q := (44, .ireturn, 1)) D_MO_paint 23 rfl
set_option maxRecDepth 100000 in
def L_MO_inBy : List (Nat × Instr × Nat) := [(0, .iconst (-1), 1), (1, .istore_n 1, 1), (2, .iconst 0, 1), (3, .istore_n 2, 1), (4, .iload_n 1, 1), (5, .aload_n 0, 1), (6, .getfield 131, 3), (9, .if_icmp .ge 208, 3), (12, .aload_n 0, 1), (13, .getfield 264, 3), (16, .ifCond .ne 201, 3), (19, .iload_n 1, 1), (20, .ifCond .ge 7, 3), (23, .iconst 0, 1), (24, .goto 4, 3), (27, .iload_n 1, 1), (28, .istore_n 3, 1), (29, .aload_n 0, 1), (30, .iload_n 1, 1), (31, .iload_n 2, 1), (32, .invokevirtual 164, 3), (35, .istore 4, 2), (37, .aload_n 0, 1), (38, .iload 4, 2), (40, .iload_n 2, 1), (41, .invokevirtual 167, 3), (44, .istore 5, 2), (46, .aload_n 0, 1), (47, .invokevirtual 304, 3), (50, .istore 6, 2), (52, .aload_n 0, 1), (53, .getfield 264, 3), (56, .ifCond .eq 4, 3), (59, .return_, 1), (60, .iload 6, 2), (62, .bipush 10, 2), (64, .if_icmp .ne 34, 3), (67, .aload_n 0, 1), (68, .iload 5, 2), (70, .aload_n 0, 1), (71, .getfield 131, 3), (74, .if_icmp .ge 7, 3), (77, .iconst 1, 1), (78, .goto 4, 3), (81, .iconst 0, 1), (82, .invokevirtual 273, 3), (85, .pop, 1), (86, .aload_n 0, 1), (87, .iload_n 3, 1), (88, .iload 5, 2), (90, .iload_n 2, 1), (91, .invokevirtual 301, 3), (94, .istore_n 1, 1), (95, .goto 119, 3), (98, .iload 6, 2), (100, .bipush 11, 2), (102, .if_icmp .ne 77, 3), (105, .aload_n 0, 1), (106, .iload_n 2, 1), (107, .invokevirtual 298, 3), (110, .istore 7, 2), (112, .aload_n 0, 1), (113, .iconst 1, 1), (114, .iload_n 2, 1), (115, .isub, 1), (116, .invokevirtual 298, 3), (119, .istore 8, 2), (121, .aload_n 0, 1), (122, .iload 7, 2), (124, .iload 8, 2), (126, .iadd, 1), (127, .ifCond .le 7, 3), (130, .iconst 1, 1), (131, .goto 4, 3), (134, .iconst 0, 1), (135, .invokevirtual 273, 3), (138, .pop, 1), (139, .aload_n 0, 1), (140, .getfield 264, 3), (143, .ifCond .ne 33, 3), (146, .aload_n 0, 1), (147, .iload_n 3, 1), (148, .iload_n 3, 1), (149, .iload 7, 2), (151, .iadd, 1), (152, .iload_n 2, 1), (153, .invokevirtual 301, 3), (156, .pop, 1), (157, .aload_n 0, 1), (158, .iload_n 3, 1), (159, .iload 7, 2), (161, .iadd, 1), (162, .iload_n 3, 1), (163, .iload 7, 2), (165, .iadd, 1), (166, .iload 8, 2), (168, .iadd, 1), (169, .iconst 1, 1), (170, .iload_n 2, 1), (171, .isub, 1), (172, .invokevirtual 301, 3), (175, .istore_n 1, 1), (176, .goto 38, 3), (179, .aload_n 0, 1), (180, .iload 4, 2), (182, .iload 6, 2), (184, .iadd, 1), (185, .iload_n 1, 1), (186, .if_icmp .le 7, 3), (189, .iconst 1, 1), (190, .goto 4, 3), (193, .iconst 0, 1), (194, .invokevirtual 273, 3), (197, .pop, 1), (198, .aload_n 0, 1), (199, .iload_n 3, 1), (200, .iload 4, 2), (202, .iload 6, 2), (204, .iadd, 1), (205, .iload_n 2, 1), (206, .invokevirtual 301, 3), (209, .istore_n 1, 1), (210, .iconst 1, 1), (211, .iload_n 2, 1), (212, .isub, 1), (213, .istore_n 2, 1), (214, .goto (-210), 3), (217, .return_, 1)]
set_option maxRecDepth 100000 in
theorem D_MO_inBy : ∀ q ∈ L_MO_inBy, decode prog_14_method_60_code q.1 = .ok q.2 := by decide +kernel
theorem d_MO_inBy_0 : decode M_MO_inBy.2.1 0 = .ok (.iconst (-1), 1) := fx_d (q := (0, .iconst (-1), 1)) D_MO_inBy 0 rfl
theorem d_MO_inBy_1 : decode M_MO_inBy.2.1 1 = .ok (.istore_n 1, 1) := fx_d (q := (1, .istore_n 1, 1)) D_MO_inBy 1 rfl
theorem d_MO_inBy_2 : decode M_MO_inBy.2.1 2 = .ok (.iconst 0, 1) := fx_d (q := (2, .iconst 0, 1)) D_MO_inBy 2 rfl
theorem d_MO_inBy_3 : decode M_MO_inBy.2.1 3 = .ok (.istore_n 2, 1) := fx_d (q := (3, .istore_n 2, 1)) D_MO_inBy 3 rfl
theorem d_MO_inBy_4 : decode M_MO_inBy.2.1 4 = .ok (.iload_n 1, 1) := fx_d (q := (4, .iload_n 1, 1)) D_MO_inBy 4 rfl
theorem d_MO_inBy_5 : decode M_MO_inBy.2.1 5 = .ok (.aload_n 0, 1) := fx_d (q := (5, .aload_n 0, 1)) D_MO_inBy 5 rfl
theorem d_MO_inBy_6 : decode M_MO_inBy.2.1 6 = .ok (.getfield 131, 3) := fx_d (q := (6, .getfield 131, 3)) D_MO_inBy 6 rfl
theorem d_MO_inBy_9 : decode M_MO_inBy.2.1 9 = .ok (.if_icmp .ge 208, 3) := fx_d (q := (9, .if_icmp .ge 208, 3)) D_MO_inBy 7 rfl
theorem d_MO_inBy_12 : decode M_MO_inBy.2.1 12 = .ok (.aload_n 0, 1) := fx_d (q := (12, .aload_n 0, 1)) D_MO_inBy 8 rfl
theorem d_MO_inBy_13 : decode M_MO_inBy.2.1 13 = .ok (.getfield 264, 3) := fx_d (q := (13, .getfield 264, 3)) D_MO_inBy 9 rfl
theorem d_MO_inBy_16 : decode M_MO_inBy.2.1 16 = .ok (.ifCond .ne 201, 3) := fx_d (q := (16, .ifCond .ne 201, 3)) D_MO_inBy 10 rfl
theorem d_MO_inBy_19 : decode M_MO_inBy.2.1 19 = .ok (.iload_n 1, 1) := fx_d (q := (19, .iload_n 1, 1)) D_MO_inBy 11 rfl
theorem d_MO_inBy_20 : decode M_MO_inBy.2.1 20 = .ok (.ifCond .ge 7, 3) := fx_d (q := (20, .ifCond .ge 7, 3)) D_MO_inBy 12 rfl
theorem d_MO_inBy_23 : decode M_MO_inBy.2.1 23 = .ok (.iconst 0, 1) := fx_d (q := (23, .iconst 0, 1)) D_MO_inBy 13 rfl
theorem d_MO_inBy_24 : decode M_MO_inBy.2.1 24 = .ok (.goto 4, 3) := fx_d (q := (24, .goto 4, 3)) D_MO_inBy 14 rfl
theorem d_MO_inBy_27 : decode M_MO_inBy.2.1 27 = .ok (.iload_n 1, 1) := fx_d (q := (27, .iload_n 1, 1)) D_MO_inBy 15 rfl
theorem d_MO_inBy_28 : decode M_MO_inBy.2.1 28 = .ok (.istore_n 3, 1) := fx_d (q := (28, .istore_n 3, 1)) D_MO_inBy 16 rfl
theorem d_MO_inBy_29 : decode M_MO_inBy.2.1 29 = .ok (.aload_n 0, 1) := fx_d (q := (29, .aload_n 0, 1)) D_MO_inBy 17 rfl
theorem d_MO_inBy_30 : decode M_MO_inBy.2.1 30 = .ok (.iload_n 1, 1) := fx_d (q := (30, .iload_n 1, 1)) D_MO_inBy 18 rfl
theorem d_MO_inBy_31 : decode M_MO_inBy.2.1 31 = .ok (.iload_n 2, 1) := fx_d (q := (31, .iload_n 2, 1)) D_MO_inBy 19 rfl
theorem d_MO_inBy_32 : decode M_MO_inBy.2.1 32 = .ok (.invokevirtual 164, 3) := fx_d (q := (32, .invokevirtual 164, 3)) D_MO_inBy 20 rfl
theorem d_MO_inBy_35 : decode M_MO_inBy.2.1 35 = .ok (.istore 4, 2) := fx_d (q := (35, .istore 4, 2)) D_MO_inBy 21 rfl
theorem d_MO_inBy_37 : decode M_MO_inBy.2.1 37 = .ok (.aload_n 0, 1) := fx_d (q := (37, .aload_n 0, 1)) D_MO_inBy 22 rfl
theorem d_MO_inBy_38 : decode M_MO_inBy.2.1 38 = .ok (.iload 4, 2) := fx_d (q := (38, .iload 4, 2)) D_MO_inBy 23 rfl
theorem d_MO_inBy_40 : decode M_MO_inBy.2.1 40 = .ok (.iload_n 2, 1) := fx_d (q := (40, .iload_n 2, 1)) D_MO_inBy 24 rfl
theorem d_MO_inBy_41 : decode M_MO_inBy.2.1 41 = .ok (.invokevirtual 167, 3) := fx_d (q := (41, .invokevirtual 167, 3)) D_MO_inBy 25 rfl
theorem d_MO_inBy_44 : decode M_MO_inBy.2.1 44 = .ok (.istore 5, 2) := fx_d (q := (44, .istore 5, 2)) D_MO_inBy 26 rfl
theorem d_MO_inBy_46 : decode M_MO_inBy.2.1 46 = .ok (.aload_n 0, 1) := fx_d (q := (46, .aload_n 0, 1)) D_MO_inBy 27 rfl
theorem d_MO_inBy_47 : decode M_MO_inBy.2.1 47 = .ok (.invokevirtual 304, 3) := fx_d (q := (47, .invokevirtual 304, 3)) D_MO_inBy 28 rfl
theorem d_MO_inBy_50 : decode M_MO_inBy.2.1 50 = .ok (.istore 6, 2) := fx_d (q := (50, .istore 6, 2)) D_MO_inBy 29 rfl
theorem d_MO_inBy_52 : decode M_MO_inBy.2.1 52 = .ok (.aload_n 0, 1) := fx_d (q := (52, .aload_n 0, 1)) D_MO_inBy 30 rfl
theorem d_MO_inBy_53 : decode M_MO_inBy.2.1 53 = .ok (.getfield 264, 3) := fx_d (q := (53, .getfield 264, 3)) D_MO_inBy 31 rfl
theorem d_MO_inBy_56 : decode M_MO_inBy.2.1 56 = .ok (.ifCond .eq 4, 3) := fx_d (q := (56, .ifCond .eq 4, 3)) D_MO_inBy 32 rfl
theorem d_MO_inBy_59 : decode M_MO_inBy.2.1 59 = .ok (.return_, 1) := fx_d (q := (59, .return_, 1)) D_MO_inBy 33 rfl
theorem d_MO_inBy_60 : decode M_MO_inBy.2.1 60 = .ok (.iload 6, 2) := fx_d (q := (60, .iload 6, 2)) D_MO_inBy 34 rfl
theorem d_MO_inBy_62 : decode M_MO_inBy.2.1 62 = .ok (.bipush 10, 2) := fx_d (q := (62, .bipush 10, 2)) D_MO_inBy 35 rfl
theorem d_MO_inBy_64 : decode M_MO_inBy.2.1 64 = .ok (.if_icmp .ne 34, 3) := fx_d (q := (64, .if_icmp .ne 34, 3)) D_MO_inBy 36 rfl
theorem d_MO_inBy_67 : decode M_MO_inBy.2.1 67 = .ok (.aload_n 0, 1) := fx_d (q := (67, .aload_n 0, 1)) D_MO_inBy 37 rfl
theorem d_MO_inBy_68 : decode M_MO_inBy.2.1 68 = .ok (.iload 5, 2) := fx_d (q := (68, .iload 5, 2)) D_MO_inBy 38 rfl
theorem d_MO_inBy_70 : decode M_MO_inBy.2.1 70 = .ok (.aload_n 0, 1) := fx_d (q := (70, .aload_n 0, 1)) D_MO_inBy 39 rfl
theorem d_MO_inBy_71 : decode M_MO_inBy.2.1 71 = .ok (.getfield 131, 3) := fx_d (q := (71, .getfield 131, 3)) D_MO_inBy 40 rfl
theorem d_MO_inBy_74 : decode M_MO_inBy.2.1 74 = .ok (.if_icmp .ge 7, 3) := fx_d (q := (74, .if_icmp .ge 7, 3)) D_MO_inBy 41 rfl
theorem d_MO_inBy_77 : decode M_MO_inBy.2.1 77 = .ok (.iconst 1, 1) := fx_d (q := (77, .iconst 1, 1)) D_MO_inBy 42 rfl
theorem d_MO_inBy_78 : decode M_MO_inBy.2.1 78 = .ok (.goto 4, 3) := fx_d (q := (78, .goto 4, 3)) D_MO_inBy 43 rfl
theorem d_MO_inBy_81 : decode M_MO_inBy.2.1 81 = .ok (.iconst 0, 1) := fx_d (q := (81, .iconst 0, 1)) D_MO_inBy 44 rfl
theorem d_MO_inBy_82 : decode M_MO_inBy.2.1 82 = .ok (.invokevirtual 273, 3) := fx_d (q := (82, .invokevirtual 273, 3)) D_MO_inBy 45 rfl
theorem d_MO_inBy_85 : decode M_MO_inBy.2.1 85 = .ok (.pop, 1) := fx_d (q := (85, .pop, 1)) D_MO_inBy 46 rfl
theorem d_MO_inBy_86 : decode M_MO_inBy.2.1 86 = .ok (.aload_n 0, 1) := fx_d (q := (86, .aload_n 0, 1)) D_MO_inBy 47 rfl
theorem d_MO_inBy_87 : decode M_MO_inBy.2.1 87 = .ok (.iload_n 3, 1) := fx_d (q := (87, .iload_n 3, 1)) D_MO_inBy 48 rfl
theorem d_MO_inBy_88 : decode M_MO_inBy.2.1 88 = .ok (.iload 5, 2) := fx_d (q := (88, .iload 5, 2)) D_MO_inBy 49 rfl
theorem d_MO_inBy_90 : decode M_MO_inBy.2.1 90 = .ok (.iload_n 2, 1) := fx_d (q := (90, .iload_n 2, 1)) D_MO_inBy 50 rfl
theorem d_MO_inBy_91 : decode M_MO_inBy.2.1 91 = .ok (.invokevirtual 301, 3) := fx_d (q := (91, .invokevirtual 301, 3)) D_MO_inBy 51 rfl
theorem d_MO_inBy_94 : decode M_MO_inBy.2.1 94 = .ok (.istore_n 1, 1) := fx_d (q := (94, .istore_n 1, 1)) D_MO_inBy 52 rfl
theorem d_MO_inBy_95 : decode M_MO_inBy.2.1 95 = .ok (.goto 119, 3) := fx_d (q := (95, .goto 119, 3)) D_MO_inBy 53 rfl
theorem d_MO_inBy_98 : decode M_MO_inBy.2.1 98 = .ok (.iload 6, 2) := fx_d (q := (98, .iload 6, 2)) D_MO_inBy 54 rfl
theorem d_MO_inBy_100 : decode M_MO_inBy.2.1 100 = .ok (.bipush 11, 2) := fx_d (q := (100, .bipush 11, 2)) D_MO_inBy 55 rfl
theorem d_MO_inBy_102 : decode M_MO_inBy.2.1 102 = .ok (.if_icmp .ne 77, 3) := fx_d (q := (102, .if_icmp .ne 77, 3)) D_MO_inBy 56 rfl
theorem d_MO_inBy_105 : decode M_MO_inBy.2.1 105 = .ok (.aload_n 0, 1) := fx_d (q := (105, .aload_n 0, 1)) D_MO_inBy 57 rfl
theorem d_MO_inBy_106 : decode M_MO_inBy.2.1 106 = .ok (.iload_n 2, 1) := fx_d (q := (106, .iload_n 2, 1)) D_MO_inBy 58 rfl
theorem d_MO_inBy_107 : decode M_MO_inBy.2.1 107 = .ok (.invokevirtual 298, 3) := fx_d (q := (107, .invokevirtual 298, 3)) D_MO_inBy 59 rfl
theorem d_MO_inBy_110 : decode M_MO_inBy.2.1 110 = .ok (.istore 7, 2) := fx_d (q := (110, .istore 7, 2)) D_MO_inBy 60 rfl
theorem d_MO_inBy_112 : decode M_MO_inBy.2.1 112 = .ok (.aload_n 0, 1) := fx_d (q := (112, .aload_n 0, 1)) D_MO_inBy 61 rfl
theorem d_MO_inBy_113 : decode M_MO_inBy.2.1 113 = .ok (.iconst 1, 1) := fx_d (q := (113, .iconst 1, 1)) D_MO_inBy 62 rfl
theorem d_MO_inBy_114 : decode M_MO_inBy.2.1 114 = .ok (.iload_n 2, 1) := fx_d (q := (114, .iload_n 2, 1)) D_MO_inBy 63 rfl
theorem d_MO_inBy_115 : decode M_MO_inBy.2.1 115 = .ok (.isub, 1) := fx_d (q := (115, .isub, 1)) D_MO_inBy 64 rfl
theorem d_MO_inBy_116 : decode M_MO_inBy.2.1 116 = .ok (.invokevirtual 298, 3) := fx_d (q := (116, .invokevirtual 298, 3)) D_MO_inBy 65 rfl
theorem d_MO_inBy_119 : decode M_MO_inBy.2.1 119 = .ok (.istore 8, 2) := fx_d (q := (119, .istore 8, 2)) D_MO_inBy 66 rfl
theorem d_MO_inBy_121 : decode M_MO_inBy.2.1 121 = .ok (.aload_n 0, 1) := fx_d (q := (121, .aload_n 0, 1)) D_MO_inBy 67 rfl
theorem d_MO_inBy_122 : decode M_MO_inBy.2.1 122 = .ok (.iload 7, 2) := fx_d (q := (122, .iload 7, 2)) D_MO_inBy 68 rfl
theorem d_MO_inBy_124 : decode M_MO_inBy.2.1 124 = .ok (.iload 8, 2) := fx_d (q := (124, .iload 8, 2)) D_MO_inBy 69 rfl
theorem d_MO_inBy_126 : decode M_MO_inBy.2.1 126 = .ok (.iadd, 1) := fx_d (q := (126, .iadd, 1)) D_MO_inBy 70 rfl
theorem d_MO_inBy_127 : decode M_MO_inBy.2.1 127 = .ok (.ifCond .le 7, 3) := fx_d (q := (127, .ifCond .le 7, 3)) D_MO_inBy 71 rfl
theorem d_MO_inBy_130 : decode M_MO_inBy.2.1 130 = .ok (.iconst 1, 1) := fx_d (q := (130, .iconst 1, 1)) D_MO_inBy 72 rfl
theorem d_MO_inBy_131 : decode M_MO_inBy.2.1 131 = .ok (.goto 4, 3) := fx_d (q := (131, .goto 4, 3)) D_MO_inBy 73 rfl
theorem d_MO_inBy_134 : decode M_MO_inBy.2.1 134 = .ok (.iconst 0, 1) := fx_d (q := (134, .iconst 0, 1)) D_MO_inBy 74 rfl
theorem d_MO_inBy_135 : decode M_MO_inBy.2.1 135 = .ok (.invokevirtual 273, 3) := fx_d (q := (135, .invokevirtual 273, 3)) D_MO_inBy 75 rfl
theorem d_MO_inBy_138 : decode M_MO_inBy.2.1 138 = .ok (.pop, 1) := fx_d (q := (138, .pop, 1)) D_MO_inBy 76 rfl
theorem d_MO_inBy_139 : decode M_MO_inBy.2.1 139 = .ok (.aload_n 0, 1) := fx_d (q := (139, .aload_n 0, 1)) D_MO_inBy 77 rfl
theorem d_MO_inBy_140 : decode M_MO_inBy.2.1 140 = .ok (.getfield 264, 3) := fx_d (q := (140, .getfield 264, 3)) D_MO_inBy 78 rfl
theorem d_MO_inBy_143 : decode M_MO_inBy.2.1 143 = .ok (.ifCond .ne 33, 3) := fx_d (q := (143, .ifCond .ne 33, 3)) D_MO_inBy 79 rfl
theorem d_MO_inBy_146 : decode M_MO_inBy.2.1 146 = .ok (.aload_n 0, 1) := fx_d (q := (146, .aload_n 0, 1)) D_MO_inBy 80 rfl
theorem d_MO_inBy_147 : decode M_MO_inBy.2.1 147 = .ok (.iload_n 3, 1) := fx_d (q := (147, .iload_n 3, 1)) D_MO_inBy 81 rfl
theorem d_MO_inBy_148 : decode M_MO_inBy.2.1 148 = .ok (.iload_n 3, 1) := fx_d (q := (148, .iload_n 3, 1)) D_MO_inBy 82 rfl
theorem d_MO_inBy_149 : decode M_MO_inBy.2.1 149 = .ok (.iload 7, 2) := fx_d (q := (149, .iload 7, 2)) D_MO_inBy 83 rfl
theorem d_MO_inBy_151 : decode M_MO_inBy.2.1 151 = .ok (.iadd, 1) := fx_d (q := (151, .iadd, 1)) D_MO_inBy 84 rfl
theorem d_MO_inBy_152 : decode M_MO_inBy.2.1 152 = .ok (.iload_n 2, 1) := fx_d (q := (152, .iload_n 2, 1)) D_MO_inBy 85 rfl
theorem d_MO_inBy_153 : decode M_MO_inBy.2.1 153 = .ok (.invokevirtual 301, 3) := fx_d (q := (153, .invokevirtual 301, 3)) D_MO_inBy 86 rfl
theorem d_MO_inBy_156 : decode M_MO_inBy.2.1 156 = .ok (.pop, 1) := fx_d (q := (156, .pop, 1)) D_MO_inBy 87 rfl
theorem d_MO_inBy_157 : decode M_MO_inBy.2.1 157 = .ok (.aload_n 0, 1) := fx_d (q := (157, .aload_n 0, 1)) D_MO_inBy 88 rfl
theorem d_MO_inBy_158 : decode M_MO_inBy.2.1 158 = .ok (.iload_n 3, 1) := fx_d (q := (158, .iload_n 3, 1)) D_MO_inBy 89 rfl
theorem d_MO_inBy_159 : decode M_MO_inBy.2.1 159 = .ok (.iload 7, 2) := fx_d (q := (159, .iload 7, 2)) D_MO_inBy 90 rfl
theorem d_MO_inBy_161 : decode M_MO_inBy.2.1 161 = .ok (.iadd, 1) := fx_d (q := (161, .iadd, 1)) D_MO_inBy 91 rfl
theorem d_MO_inBy_162 : decode M_MO_inBy.2.1 162 = .ok (.iload_n 3, 1) := fx_d (q := (162, .iload_n 3, 1)) D_MO_inBy 92 rfl
theorem d_MO_inBy_163 : decode M_MO_inBy.2.1 163 = .ok (.iload 7, 2) := fx_d (q := (163, .iload 7, 2)) D_MO_inBy 93 rfl
theorem d_MO_inBy_165 : decode M_MO_inBy.2.1 165 = .ok (.iadd, 1) := fx_d (q := (165, .iadd, 1)) D_MO_inBy 94 rfl
theorem d_MO_inBy_166 : decode M_MO_inBy.2.1 166 = .ok (.iload 8, 2) := fx_d (q := (166, .iload 8, 2)) D_MO_inBy 95 rfl
theorem d_MO_inBy_168 : decode M_MO_inBy.2.1 168 = .ok (.iadd, 1) := fx_d (q := (168, .iadd, 1)) D_MO_inBy 96 rfl
theorem d_MO_inBy_169 : decode M_MO_inBy.2.1 169 = .ok (.iconst 1, 1) := fx_d (q := (169, .iconst 1, 1)) D_MO_inBy 97 rfl
theorem d_MO_inBy_170 : decode M_MO_inBy.2.1 170 = .ok (.iload_n 2, 1) := fx_d (q := (170, .iload_n 2, 1)) D_MO_inBy 98 rfl
theorem d_MO_inBy_171 : decode M_MO_inBy.2.1 171 = .ok (.isub, 1) := fx_d (q := (171, .isub, 1)) D_MO_inBy 99 rfl
theorem d_MO_inBy_172 : decode M_MO_inBy.2.1 172 = .ok (.invokevirtual 301, 3) := fx_d (q := (172, .invokevirtual 301, 3)) D_MO_inBy 100 rfl
theorem d_MO_inBy_175 : decode M_MO_inBy.2.1 175 = .ok (.istore_n 1, 1) := fx_d (q := (175, .istore_n 1, 1)) D_MO_inBy 101 rfl
theorem d_MO_inBy_176 : decode M_MO_inBy.2.1 176 = .ok (.goto 38, 3) := fx_d (q := (176, .goto 38, 3)) D_MO_inBy 102 rfl
theorem d_MO_inBy_179 : decode M_MO_inBy.2.1 179 = .ok (.aload_n 0, 1) := fx_d (q := (179, .aload_n 0, 1)) D_MO_inBy 103 rfl
theorem d_MO_inBy_180 : decode M_MO_inBy.2.1 180 = .ok (.iload 4, 2) := fx_d (q := (180, .iload 4, 2)) D_MO_inBy 104 rfl
theorem d_MO_inBy_182 : decode M_MO_inBy.2.1 182 = .ok (.iload 6, 2) := fx_d (q := (182, .iload 6, 2)) D_MO_inBy 105 rfl
theorem d_MO_inBy_184 : decode M_MO_inBy.2.1 184 = .ok (.iadd, 1) := fx_d (q := (184, .iadd, 1)) D_MO_inBy 106 rfl
theorem d_MO_inBy_185 : decode M_MO_inBy.2.1 185 = .ok (.iload_n 1, 1) := fx_d (q := (185, .iload_n 1, 1)) D_MO_inBy 107 rfl
theorem d_MO_inBy_186 : decode M_MO_inBy.2.1 186 = .ok (.if_icmp .le 7, 3) := fx_d (q := (186, .if_icmp .le 7, 3)) D_MO_inBy 108 rfl
theorem d_MO_inBy_189 : decode M_MO_inBy.2.1 189 = .ok (.iconst 1, 1) := fx_d (q := (189, .iconst 1, 1)) D_MO_inBy 109 rfl
theorem d_MO_inBy_190 : decode M_MO_inBy.2.1 190 = .ok (.goto 4, 3) := fx_d (q := (190, .goto 4, 3)) D_MO_inBy 110 rfl
theorem d_MO_inBy_193 : decode M_MO_inBy.2.1 193 = .ok (.iconst 0, 1) := fx_d (q := (193, .iconst 0, 1)) D_MO_inBy 111 rfl
theorem d_MO_inBy_194 : decode M_MO_inBy.2.1 194 = .ok (.invokevirtual 273, 3) := fx_d (q := (194, .invokevirtual 273, 3)) D_MO_inBy 112 rfl
theorem d_MO_inBy_197 : decode M_MO_inBy.2.1 197 = .ok (.pop, 1) := fx_d (q := (197, .pop, 1)) D_MO_inBy 113 rfl
theorem d_MO_inBy_198 : decode M_MO_inBy.2.1 198 = .ok (.aload_n 0, 1) := fx_d (q := (198, .aload_n 0, 1)) D_MO_inBy 114 rfl
theorem d_MO_inBy_199 : decode M_MO_inBy.2.1 199 = .ok (.iload_n 3, 1) := fx_d (q := (199, .iload_n 3, 1)) D_MO_inBy 115 rfl
theorem d_MO_inBy_200 : decode M_MO_inBy.2.1 200 = .ok (.iload 4, 2) := fx_d (q := (200, .iload 4, 2)) D_MO_inBy 116 rfl
theorem d_MO_inBy_202 : decode M_MO_inBy.2.1 202 = .ok (.iload 6, 2) := fx_d (q := (202, .iload 6, 2)) D_MO_inBy 117 rfl
theorem d_MO_inBy_204 : decode M_MO_inBy.2.1 204 = .ok (.iadd, 1) := fx_d (q := (204, .iadd, 1)) D_MO_inBy 118 rfl
theorem d_MO_inBy_205 : decode M_MO_inBy.2.1 205 = .ok (.iload_n 2, 1) := fx_d (q := (205, .iload_n 2, 1)) D_MO_inBy 119 rfl
theorem d_MO_inBy_206 : decode M_MO_inBy.2.1 206 = .ok (.invokevirtual 301, 3) := fx_d (q := (206, .invokevirtual 301, 3)) D_MO_inBy 120 rfl
theorem d_MO_inBy_209 : decode M_MO_inBy.2.1 209 = .ok (.istore_n 1, 1) := fx_d (q := (209, .istore_n 1, 1)) D_MO_inBy 121 rfl
theorem d_MO_inBy_210 : decode M_MO_inBy.2.1 210 = .ok (.iconst 1, 1) := fx_d (q := (210, .iconst 1, 1)) D_MO_inBy 122 rfl
theorem d_MO_inBy_211 : decode M_MO_inBy.2.1 211 = .ok (.iload_n 2, 1) := fx_d (q := (211, .iload_n 2, 1)) D_MO_inBy 123 rfl
theorem d_MO_inBy_212 : decode M_MO_inBy.2.1 212 = .ok (.isub, 1) := fx_d (q := (212, .isub, 1)) D_MO_inBy 124 rfl
theorem d_MO_inBy_213 : decode M_MO_inBy.2.1 213 = .ok (.istore_n 2, 1) := fx_d (q := (213, .istore_n 2, 1)) D_MO_inBy 125 rfl
theorem d_MO_inBy_214 : decode M_MO_inBy.2.1 214 = .ok (.goto (-210), 3) := fx_d (q := (214, .goto (-210), 3)) D_MO_inBy 126 rfl
theorem d_MO_inBy_217 : decode M_MO_inBy.2.1 217 = .ok (.return_, 1) := fx_d (q := (217, .return_, 1)) D_MO_inBy 127 rfl
set_option maxRecDepth 100000 in
def L_MO_inSign : List (Nat × Instr × Nat) := [(0, .aload_n 0, 1), (1, .invokevirtual 277, 3), (4, .iconst 1, 1), (5, .if_icmp .ne 5, 3), (8, .iconst 0, 1), (9, .ireturn, 1), (10, .aload_n 0, 1), (11, .invokevirtual 277, 3), (14, .iconst 1, 1), (15, .if_icmp .ne 17, 3), (18, .aload_n 0, 1), (19, .invokevirtual 277, 3), (22, .iconst 1, 1), (23, .if_icmp .ne 7, 3), (26, .iconst 1, 1), (27, .goto 4, 3), (30, .iconst (-1), 1), (31, .ireturn, 1), (32, .aload_n 0, 1), (33, .invokevirtual 277, 3), (36, .iconst 1, 1), (37, .if_icmp .ne 6, 3), (40, .bipush 11, 2), (42, .ireturn, 1), (43, .aload_n 0, 1), (44, .invokevirtual 277, 3), (47, .iconst 1, 1), (48, .if_icmp .ne 6, 3), (51, .bipush 10, 2), (53, .ireturn, 1), (54, .aload_n 0, 1), (55, .invokevirtual 277, 3), (58, .iconst 1, 1), (59, .if_icmp .ne 18, 3), (62, .aload_n 0, 1), (63, .invokevirtual 277, 3), (66, .iconst 1, 1), (67, .if_icmp .ne 7, 3), (70, .iconst 2, 1), (71, .goto 5, 3), (74, .bipush (-2), 2), (76, .ireturn, 1), (77, .aload_n 0, 1), (78, .aload_n 0, 1), (79, .invokevirtual 277, 3), (82, .iconst 1, 1), (83, .if_icmp .ne 7, 3), (86, .iconst 1, 1), (87, .goto 4, 3), (90, .iconst 0, 1), (91, .invokevirtual 273, 3), (94, .pop, 1), (95, .aload_n 0, 1), (96, .invokevirtual 277, 3), (99, .iconst 1, 1), (100, .if_icmp .ne 7, 3), (103, .iconst 3, 1), (104, .goto 5, 3), (107, .bipush (-3), 2), (109, .ireturn, 1)]
set_option maxRecDepth 100000 in
theorem D_MO_inSign : ∀ q ∈ L_MO_inSign, decode prog_14_method_59_code q.1 = .ok q.2 := by decide +kernel
theorem d_MO_inSign_0 : decode M_MO_inSign.2.1 0 = .ok (.aload_n 0, 1) := fx_d (q := (0, .aload_n 0, 1)) D_MO_inSign 0 rfl
theorem d_MO_inSign_1 : decode M_MO_inSign.2.1 1 = .ok (.invokevirtual 277, 3) := fx_d (q := (1, .invokevirtual 277, 3)) D_MO_inSign 1 rfl
theorem d_MO_inSign_4 : decode M_MO_inSign.2.1 4 = .ok (.iconst 1, 1) := fx_d (q := (4, .iconst 1, 1)) D_MO_inSign 2 rfl
theorem d_MO_inSign_5 : decode M_MO_inSign.2.1 5 = .ok (.if_icmp .ne 5, 3) := fx_d (q := (5, .if_icmp .ne 5, 3)) D_MO_inSign 3 rfl
theorem d_MO_inSign_8 : decode M_MO_inSign.2.1 8 = .ok (.iconst 0, 1) := fx_d (q := (8, .iconst 0, 1)) D_MO_inSign 4 rfl
theorem d_MO_inSign_9 : decode M_MO_inSign.2.1 9 = .ok (.ireturn, 1) := fx_d (q := (9, .ireturn, 1)) D_MO_inSign 5 rfl
theorem d_MO_inSign_10 : decode M_MO_inSign.2.1 10 = .ok (.aload_n 0, 1) := fx_d (q := (10, .aload_n 0, 1)) D_MO_inSign 6 rfl
theorem d_MO_inSign_11 : decode M_MO_inSign.2.1 11 = .ok (.invokevirtual 277, 3) := fx_d (q := (11, .invokevirtual 277, 3)) D_MO_inSign 7 rfl
theorem d_MO_inSign_14 : decode M_MO_inSign.2.1 14 = .ok (.iconst 1, 1) := fx_d (q := (14, .iconst 1, 1)) D_MO_inSign 8 rfl
theorem d_MO_inSign_15 : decode M_MO_inSign.2.1 15 = .ok (.if_icmp .ne 17, 3) := fx_d (q := (15, .if_icmp .ne 17, 3)) D_MO_inSign 9 rfl
theorem d_MO_inSign_18 : decode M_MO_inSign.2.1 18 = .ok (.aload_n 0, 1) := fx_d (q := (18, .aload_n 0, 1)) D_MO_inSign 10 rfl
theorem d_MO_inSign_19 : decode M_MO_inSign.2.1 19 = .ok (.invokevirtual 277, 3) := fx_d (q := (19, .invokevirtual 277, 3)) D_MO_inSign 11 rfl
theorem d_MO_inSign_22 : decode M_MO_inSign.2.1 22 = .ok (.iconst 1, 1) := fx_d (q := (22, .iconst 1, 1)) D_MO_inSign 12 rfl
theorem d_MO_inSign_23 : decode M_MO_inSign.2.1 23 = .ok (.if_icmp .ne 7, 3) := fx_d (q := (23, .if_icmp .ne 7, 3)) D_MO_inSign 13 rfl
theorem d_MO_inSign_26 : decode M_MO_inSign.2.1 26 = .ok (.iconst 1, 1) := fx_d (q := (26, .iconst 1, 1)) D_MO_inSign 14 rfl
theorem d_MO_inSign_27 : decode M_MO_inSign.2.1 27 = .ok (.goto 4, 3) := fx_d (q := (27, .goto 4, 3)) D_MO_inSign 15 rfl
theorem d_MO_inSign_30 : decode M_MO_inSign.2.1 30 = .ok (.iconst (-1), 1) := fx_d (q := (30, .iconst (-1), 1)) D_MO_inSign 16 rfl
theorem d_MO_inSign_31 : decode M_MO_inSign.2.1 31 = .ok (.ireturn, 1) := fx_d (q := (31, .ireturn, 1)) D_MO_inSign 17 rfl
theorem d_MO_inSign_32 : decode M_MO_inSign.2.1 32 = .ok (.aload_n 0, 1) := fx_d (q := (32, .aload_n 0, 1)) D_MO_inSign 18 rfl
theorem d_MO_inSign_33 : decode M_MO_inSign.2.1 33 = .ok (.invokevirtual 277, 3) := fx_d (q := (33, .invokevirtual 277, 3)) D_MO_inSign 19 rfl
theorem d_MO_inSign_36 : decode M_MO_inSign.2.1 36 = .ok (.iconst 1, 1) := fx_d (q := (36, .iconst 1, 1)) D_MO_inSign 20 rfl
theorem d_MO_inSign_37 : decode M_MO_inSign.2.1 37 = .ok (.if_icmp .ne 6, 3) := fx_d (q := (37, .if_icmp .ne 6, 3)) D_MO_inSign 21 rfl
theorem d_MO_inSign_40 : decode M_MO_inSign.2.1 40 = .ok (.bipush 11, 2) := fx_d (q := (40, .bipush 11, 2)) D_MO_inSign 22 rfl
theorem d_MO_inSign_42 : decode M_MO_inSign.2.1 42 = .ok (.ireturn, 1) := fx_d (q := (42, .ireturn, 1)) D_MO_inSign 23 rfl
theorem d_MO_inSign_43 : decode M_MO_inSign.2.1 43 = .ok (.aload_n 0, 1) := fx_d (q := (43, .aload_n 0, 1)) D_MO_inSign 24 rfl
theorem d_MO_inSign_44 : decode M_MO_inSign.2.1 44 = .ok (.invokevirtual 277, 3) := fx_d (q := (44, .invokevirtual 277, 3)) D_MO_inSign 25 rfl
theorem d_MO_inSign_47 : decode M_MO_inSign.2.1 47 = .ok (.iconst 1, 1) := fx_d (q := (47, .iconst 1, 1)) D_MO_inSign 26 rfl
theorem d_MO_inSign_48 : decode M_MO_inSign.2.1 48 = .ok (.if_icmp .ne 6, 3) := fx_d (q := (48, .if_icmp .ne 6, 3)) D_MO_inSign 27 rfl
theorem d_MO_inSign_51 : decode M_MO_inSign.2.1 51 = .ok (.bipush 10, 2) := fx_d (q := (51, .bipush 10, 2)) D_MO_inSign 28 rfl
theorem d_MO_inSign_53 : decode M_MO_inSign.2.1 53 = .ok (.ireturn, 1) := fx_d (q := (53, .ireturn, 1)) D_MO_inSign 29 rfl
theorem d_MO_inSign_54 : decode M_MO_inSign.2.1 54 = .ok (.aload_n 0, 1) := fx_d (q := (54, .aload_n 0, 1)) D_MO_inSign 30 rfl
theorem d_MO_inSign_55 : decode M_MO_inSign.2.1 55 = .ok (.invokevirtual 277, 3) := fx_d (q := (55, .invokevirtual 277, 3)) D_MO_inSign 31 rfl
theorem d_MO_inSign_58 : decode M_MO_inSign.2.1 58 = .ok (.iconst 1, 1) := fx_d (q := (58, .iconst 1, 1)) D_MO_inSign 32 rfl
theorem d_MO_inSign_59 : decode M_MO_inSign.2.1 59 = .ok (.if_icmp .ne 18, 3) := fx_d (q := (59, .if_icmp .ne 18, 3)) D_MO_inSign 33 rfl
theorem d_MO_inSign_62 : decode M_MO_inSign.2.1 62 = .ok (.aload_n 0, 1) := fx_d (q := (62, .aload_n 0, 1)) D_MO_inSign 34 rfl
theorem d_MO_inSign_63 : decode M_MO_inSign.2.1 63 = .ok (.invokevirtual 277, 3) := fx_d (q := (63, .invokevirtual 277, 3)) D_MO_inSign 35 rfl
theorem d_MO_inSign_66 : decode M_MO_inSign.2.1 66 = .ok (.iconst 1, 1) := fx_d (q := (66, .iconst 1, 1)) D_MO_inSign 36 rfl
theorem d_MO_inSign_67 : decode M_MO_inSign.2.1 67 = .ok (.if_icmp .ne 7, 3) := fx_d (q := (67, .if_icmp .ne 7, 3)) D_MO_inSign 37 rfl
theorem d_MO_inSign_70 : decode M_MO_inSign.2.1 70 = .ok (.iconst 2, 1) := fx_d (q := (70, .iconst 2, 1)) D_MO_inSign 38 rfl
theorem d_MO_inSign_71 : decode M_MO_inSign.2.1 71 = .ok (.goto 5, 3) := fx_d (q := (71, .goto 5, 3)) D_MO_inSign 39 rfl
theorem d_MO_inSign_74 : decode M_MO_inSign.2.1 74 = .ok (.bipush (-2), 2) := fx_d (q := (74, .bipush (-2), 2)) D_MO_inSign 40 rfl
theorem d_MO_inSign_76 : decode M_MO_inSign.2.1 76 = .ok (.ireturn, 1) := fx_d (q := (76, .ireturn, 1)) D_MO_inSign 41 rfl
theorem d_MO_inSign_77 : decode M_MO_inSign.2.1 77 = .ok (.aload_n 0, 1) := fx_d (q := (77, .aload_n 0, 1)) D_MO_inSign 42 rfl
theorem d_MO_inSign_78 : decode M_MO_inSign.2.1 78 = .ok (.aload_n 0, 1) := fx_d (q := (78, .aload_n 0, 1)) D_MO_inSign 43 rfl
theorem d_MO_inSign_79 : decode M_MO_inSign.2.1 79 = .ok (.invokevirtual 277, 3) := fx_d (q := (79, .invokevirtual 277, 3)) D_MO_inSign 44 rfl
theorem d_MO_inSign_82 : decode M_MO_inSign.2.1 82 = .ok (.iconst 1, 1) := fx_d (q := (82, .iconst 1, 1)) D_MO_inSign 45 rfl
theorem d_MO_inSign_83 : decode M_MO_inSign.2.1 83 = .ok (.if_icmp .ne 7, 3) := fx_d (q := (83, .if_icmp .ne 7, 3)) D_MO_inSign 46 rfl
theorem d_MO_inSign_86 : decode M_MO_inSign.2.1 86 = .ok (.iconst 1, 1) := fx_d (q := (86, .iconst 1, 1)) D_MO_inSign 47 rfl
theorem d_MO_inSign_87 : decode M_MO_inSign.2.1 87 = .ok (.goto 4, 3) := fx_d (q := (87, .goto 4, 3)) D_MO_inSign 48 rfl
theorem d_MO_inSign_90 : decode M_MO_inSign.2.1 90 = .ok (.iconst 0, 1) := fx_d (q := (90, .iconst 0, 1)) D_MO_inSign 49 rfl
theorem d_MO_inSign_91 : decode M_MO_inSign.2.1 91 = .ok (.invokevirtual 273, 3) := fx_d (q := (91, .invokevirtual 273, 3)) D_MO_inSign 50 rfl
theorem d_MO_inSign_94 : decode M_MO_inSign.2.1 94 = .ok (.pop, 1) := fx_d (q := (94, .pop, 1)) D_MO_inSign 51 rfl
theorem d_MO_inSign_95 : decode M_MO_inSign.2.1 95 = .ok (.aload_n 0, 1) := fx_d (q := (95, .aload_n 0, 1)) D_MO_inSign 52 rfl
theorem d_MO_inSign_96 : decode M_MO_inSign.2.1 96 = .ok (.invokevirtual 277, 3) := fx_d (q := (96, .invokevirtual 277, 3)) D_MO_inSign 53 rfl
theorem d_MO_inSign_99 : decode M_MO_inSign.2.1 99 = .ok (.iconst 1, 1) := fx_d (q := (99, .iconst 1, 1)) D_MO_inSign 54 rfl
theorem d_MO_inSign_100 : decode M_MO_inSign.2.1 100 = .ok (.if_icmp .ne 7, 3) := fx_d (q := (100, .if_icmp .ne 7, 3)) D_MO_inSign 55 rfl
theorem d_MO_inSign_103 : decode M_MO_inSign.2.1 103 = .ok (.iconst 3, 1) := fx_d (q := (103, .iconst 3, 1)) D_MO_inSign 56 rfl
theorem d_MO_inSign_104 : decode M_MO_inSign.2.1 104 = .ok (.goto 5, 3) := fx_d (q := (104, .goto 5, 3)) D_MO_inSign 57 rfl
theorem d_MO_inSign_107 : decode M_MO_inSign.2.1 107 = .ok (.bipush (-3), 2) := fx_d (q := (107, .bipush (-3), 2)) D_MO_inSign 58 rfl
theorem d_MO_inSign_109 : decode M_MO_inSign.2.1 109 = .ok (.ireturn, 1) := fx_d (q := (109, .ireturn, 1)) D_MO_inSign 59 rfl
set_option maxRecDepth 100000 in
def L_MO_inRest : List (Nat × Instr × Nat) := [(0, .aload_n 0, 1), (1, .aload_n 0, 1), (2, .getfield 270, 3), (5, .aload_n 0, 1), (6, .getfield 267, 3), (9, .isub, 1), (10, .bipush 8, 2), (12, .if_icmp .ge 7, 3), (15, .iconst 1, 1), (16, .goto 4, 3), (19, .iconst 0, 1), (20, .invokevirtual 273, 3), (23, .pop, 1), (24, .aload_n 0, 1), (25, .getfield 267, 3), (28, .aload_n 0, 1), (29, .getfield 270, 3), (32, .if_icmp .ge 30, 3), (35, .aload_n 0, 1), (36, .getfield 264, 3), (39, .ifCond .ne 23, 3), (42, .aload_n 0, 1), (43, .aload_n 0, 1), (44, .invokevirtual 277, 3), (47, .ifCond .ne 7, 3), (50, .iconst 1, 1), (51, .goto 4, 3), (54, .iconst 0, 1), (55, .invokevirtual 273, 3), (58, .pop, 1), (59, .goto (-35), 3), (62, .return_, 1)]
set_option maxRecDepth 100000 in
theorem D_MO_inRest : ∀ q ∈ L_MO_inRest, decode prog_14_method_55_code q.1 = .ok q.2 := by decide +kernel
theorem d_MO_inRest_0 : decode M_MO_inRest.2.1 0 = .ok (.aload_n 0, 1) := fx_d (q := (0, .aload_n 0, 1)) D_MO_inRest 0 rfl
theorem d_MO_inRest_1 : decode M_MO_inRest.2.1 1 = .ok (.aload_n 0, 1) := fx_d (q := (1, .aload_n 0, 1)) D_MO_inRest 1 rfl
theorem d_MO_inRest_2 : decode M_MO_inRest.2.1 2 = .ok (.getfield 270, 3) := fx_d (q := (2, .getfield 270, 3)) D_MO_inRest 2 rfl
theorem d_MO_inRest_5 : decode M_MO_inRest.2.1 5 = .ok (.aload_n 0, 1) := fx_d (q := (5, .aload_n 0, 1)) D_MO_inRest 3 rfl
theorem d_MO_inRest_6 : decode M_MO_inRest.2.1 6 = .ok (.getfield 267, 3) := fx_d (q := (6, .getfield 267, 3)) D_MO_inRest 4 rfl
theorem d_MO_inRest_9 : decode M_MO_inRest.2.1 9 = .ok (.isub, 1) := fx_d (q := (9, .isub, 1)) D_MO_inRest 5 rfl
theorem d_MO_inRest_10 : decode M_MO_inRest.2.1 10 = .ok (.bipush 8, 2) := fx_d (q := (10, .bipush 8, 2)) D_MO_inRest 6 rfl
theorem d_MO_inRest_12 : decode M_MO_inRest.2.1 12 = .ok (.if_icmp .ge 7, 3) := fx_d (q := (12, .if_icmp .ge 7, 3)) D_MO_inRest 7 rfl
theorem d_MO_inRest_15 : decode M_MO_inRest.2.1 15 = .ok (.iconst 1, 1) := fx_d (q := (15, .iconst 1, 1)) D_MO_inRest 8 rfl
theorem d_MO_inRest_16 : decode M_MO_inRest.2.1 16 = .ok (.goto 4, 3) := fx_d (q := (16, .goto 4, 3)) D_MO_inRest 9 rfl
theorem d_MO_inRest_19 : decode M_MO_inRest.2.1 19 = .ok (.iconst 0, 1) := fx_d (q := (19, .iconst 0, 1)) D_MO_inRest 10 rfl
theorem d_MO_inRest_20 : decode M_MO_inRest.2.1 20 = .ok (.invokevirtual 273, 3) := fx_d (q := (20, .invokevirtual 273, 3)) D_MO_inRest 11 rfl
theorem d_MO_inRest_23 : decode M_MO_inRest.2.1 23 = .ok (.pop, 1) := fx_d (q := (23, .pop, 1)) D_MO_inRest 12 rfl
theorem d_MO_inRest_24 : decode M_MO_inRest.2.1 24 = .ok (.aload_n 0, 1) := fx_d (q := (24, .aload_n 0, 1)) D_MO_inRest 13 rfl
theorem d_MO_inRest_25 : decode M_MO_inRest.2.1 25 = .ok (.getfield 267, 3) := fx_d (q := (25, .getfield 267, 3)) D_MO_inRest 14 rfl
theorem d_MO_inRest_28 : decode M_MO_inRest.2.1 28 = .ok (.aload_n 0, 1) := fx_d (q := (28, .aload_n 0, 1)) D_MO_inRest 15 rfl
theorem d_MO_inRest_29 : decode M_MO_inRest.2.1 29 = .ok (.getfield 270, 3) := fx_d (q := (29, .getfield 270, 3)) D_MO_inRest 16 rfl
theorem d_MO_inRest_32 : decode M_MO_inRest.2.1 32 = .ok (.if_icmp .ge 30, 3) := fx_d (q := (32, .if_icmp .ge 30, 3)) D_MO_inRest 17 rfl
theorem d_MO_inRest_35 : decode M_MO_inRest.2.1 35 = .ok (.aload_n 0, 1) := fx_d (q := (35, .aload_n 0, 1)) D_MO_inRest 18 rfl
theorem d_MO_inRest_36 : decode M_MO_inRest.2.1 36 = .ok (.getfield 264, 3) := fx_d (q := (36, .getfield 264, 3)) D_MO_inRest 19 rfl
theorem d_MO_inRest_39 : decode M_MO_inRest.2.1 39 = .ok (.ifCond .ne 23, 3) := fx_d (q := (39, .ifCond .ne 23, 3)) D_MO_inRest 20 rfl
theorem d_MO_inRest_42 : decode M_MO_inRest.2.1 42 = .ok (.aload_n 0, 1) := fx_d (q := (42, .aload_n 0, 1)) D_MO_inRest 21 rfl
theorem d_MO_inRest_43 : decode M_MO_inRest.2.1 43 = .ok (.aload_n 0, 1) := fx_d (q := (43, .aload_n 0, 1)) D_MO_inRest 22 rfl
theorem d_MO_inRest_44 : decode M_MO_inRest.2.1 44 = .ok (.invokevirtual 277, 3) := fx_d (q := (44, .invokevirtual 277, 3)) D_MO_inRest 23 rfl
theorem d_MO_inRest_47 : decode M_MO_inRest.2.1 47 = .ok (.ifCond .ne 7, 3) := fx_d (q := (47, .ifCond .ne 7, 3)) D_MO_inRest 24 rfl
theorem d_MO_inRest_50 : decode M_MO_inRest.2.1 50 = .ok (.iconst 1, 1) := fx_d (q := (50, .iconst 1, 1)) D_MO_inRest 25 rfl
theorem d_MO_inRest_51 : decode M_MO_inRest.2.1 51 = .ok (.goto 4, 3) := fx_d (q := (51, .goto 4, 3)) D_MO_inRest 26 rfl
theorem d_MO_inRest_54 : decode M_MO_inRest.2.1 54 = .ok (.iconst 0, 1) := fx_d (q := (54, .iconst 0, 1)) D_MO_inRest 27 rfl
theorem d_MO_inRest_55 : decode M_MO_inRest.2.1 55 = .ok (.invokevirtual 273, 3) := fx_d (q := (55, .invokevirtual 273, 3)) D_MO_inRest 28 rfl
theorem d_MO_inRest_58 : decode M_MO_inRest.2.1 58 = .ok (.pop, 1) := fx_d (q := (58, .pop, 1)) D_MO_inRest 29 rfl
theorem d_MO_inRest_59 : decode M_MO_inRest.2.1 59 = .ok (.goto (-35), 3) := fx_d (q := (59, .goto (-35), 3)) D_MO_inRest 30 rfl
theorem d_MO_inRest_62 : decode M_MO_inRest.2.1 62 = .ok (.return_, 1) := fx_d (q := (62, .return_, 1)) D_MO_inRest 31 rfl
set_option maxRecDepth 100000 in
def L_MO_inByte : List (Nat × Instr × Nat) := [(0, .aload_n 0, 1), (1, .bipush 8, 2), (3, .invokevirtual 280, 3), (6, .ireturn, 1)]
set_option maxRecDepth 100000 in
theorem D_MO_inByte : ∀ q ∈ L_MO_inByte, decode prog_14_method_49_code q.1 = .ok q.2 := by decide +kernel
theorem d_MO_inByte_0 : decode M_MO_inByte.2.1 0 = .ok (.aload_n 0, 1) := fx_d (q := (0, .aload_n 0, 1)) D_MO_inByte 0 rfl
theorem d_MO_inByte_1 : decode M_MO_inByte.2.1 1 = .ok (.bipush 8, 2) := fx_d (q := (1, .bipush 8, 2)) D_MO_inByte 1 rfl
theorem d_MO_inByte_3 : decode M_MO_inByte.2.1 3 = .ok (.invokevirtual 280, 3) := fx_d (q := (3, .invokevirtual 280, 3)) D_MO_inByte 2 rfl
theorem d_MO_inByte_6 : decode M_MO_inByte.2.1 6 = .ok (.ireturn, 1) := fx_d (q := (6, .ireturn, 1)) D_MO_inByte 3 rfl
set_option maxRecDepth 100000 in
def L_MO_store : List (Nat × Instr × Nat) := [(0, .aload_n 0, 1), (1, .getfield 47, 3), (4, .aload_n 0, 1), (5, .getfield 134, 3), (8, .iload_n 1, 1), (9, .iastore, 1), (10, .aload_n 0, 1), (11, .dup, 1), (12, .getfield 134, 3), (15, .iconst 1, 1), (16, .iadd, 1), (17, .putfield 134, 3), (20, .return_, 1)]
set_option maxRecDepth 100000 in
theorem D_MO_store : ∀ q ∈ L_MO_store, decode prog_14_method_50_code q.1 = .ok q.2 := by decide +kernel
theorem d_MO_store_0 : decode M_MO_store.2.1 0 = .ok (.aload_n 0, 1) := fx_d (q := (0, .aload_n 0, 1)) D_MO_store 0 rfl
theorem d_MO_store_1 : decode M_MO_store.2.1 1 = .ok (.getfield 47, 3) := fx_d (q := (1, .getfield 47, 3)) D_MO_store 1 rfl
theorem d_MO_store_4 : decode M_MO_store.2.1 4 = .ok (.aload_n 0, 1) := fx_d (q := (4, .aload_n 0, 1)) D_MO_store 2 rfl
theorem d_MO_store_5 : decode M_MO_store.2.1 5 = .ok (.getfield 134, 3) := fx_d (q := (5, .getfield 134, 3)) D_MO_store 3 rfl
theorem d_MO_store_8 : decode M_MO_store.2.1 8 = .ok (.iload_n 1, 1) := fx_d (q := (8, .iload_n 1, 1)) D_MO_store 4 rfl
theorem d_MO_store_9 : decode M_MO_store.2.1 9 = .ok (.iastore, 1) := fx_d (q := (9, .iastore, 1)) D_MO_store 5 rfl
theorem d_MO_store_10 : decode M_MO_store.2.1 10 = .ok (.aload_n 0, 1) := fx_d (q := (10, .aload_n 0, 1)) D_MO_store 6 rfl
theorem d_MO_store_11 : decode M_MO_store.2.1 11 = .ok (.dup, 1) := fx_d (q := (11, .dup, 1)) D_MO_store 7 rfl
theorem d_MO_store_12 : decode M_MO_store.2.1 12 = .ok (.getfield 134, 3) := fx_d (q := (12, .getfield 134, 3)) D_MO_store 8 rfl
theorem d_MO_store_15 : decode M_MO_store.2.1 15 = .ok (.iconst 1, 1) := fx_d (q := (15, .iconst 1, 1)) D_MO_store 9 rfl
theorem d_MO_store_16 : decode M_MO_store.2.1 16 = .ok (.iadd, 1) := fx_d (q := (16, .iadd, 1)) D_MO_store 10 rfl
theorem d_MO_store_17 : decode M_MO_store.2.1 17 = .ok (.putfield 134, 3) := fx_d (q := (17, .putfield 134, 3)) D_MO_store 11 rfl
theorem d_MO_store_20 : decode M_MO_store.2.1 20 = .ok (.return_, 1) := fx_d (q := (20, .return_, 1)) D_MO_store 12 rfl
set_option maxRecDepth 100000 in
def L_MO_inTable : List (Nat × Instr × Nat) := [(0, .aload_n 0, 1), (1, .aload_n 0, 1), (2, .bipush 9, 2), (4, .invokevirtual 280, 3), (7, .sipush 256, 3), (10, .if_icmp .ne 7, 3), (13, .iconst 1, 1), (14, .goto 4, 3), (17, .iconst 0, 1), (18, .invokevirtual 273, 3), (21, .pop, 1), (22, .iconst 0, 1), (23, .istore_n 2, 1), (24, .iconst (-1), 1), (25, .istore_n 3, 1), (26, .aload_n 0, 1), (27, .sipush 258, 3), (30, .putfield 141, 3), (33, .iconst 1, 1), (34, .istore 4, 2), (36, .iload 4, 2), (38, .ifCond .eq 141, 3), (41, .aload_n 0, 1), (42, .getfield 264, 3), (45, .ifCond .ne 134, 3), (48, .iinc 2 1, 3), (51, .aload_n 0, 1), (52, .iload_n 2, 1), (53, .invokestatic 148, 3), (56, .invokevirtual 280, 3), (59, .istore 5, 2), (61, .iload 5, 2), (63, .sipush 256, 3), (66, .if_icmp .ne 17, 3), (69, .iconst 0, 1), (70, .istore_n 2, 1), (71, .iconst (-1), 1), (72, .istore_n 3, 1), (73, .aload_n 0, 1), (74, .sipush 258, 3), (77, .putfield 141, 3), (80, .goto 96, 3), (83, .iload 5, 2), (85, .sipush 257, 3), (88, .if_icmp .ne 9, 3), (91, .iconst 0, 1), (92, .istore 4, 2), (94, .goto 82, 3), (97, .aload_n 0, 1), (98, .iload_n 3, 1), (99, .ifCond .ge 19, 3), (102, .iload 5, 2), (104, .sipush 256, 3), (107, .if_icmp .ge 7, 3), (110, .iconst 1, 1), (111, .goto 21, 3), (114, .iconst 0, 1), (115, .goto 17, 3), (118, .iload 5, 2), (120, .aload_n 0, 1), (121, .getfield 141, 3), (124, .if_icmp .gt 7, 3), (127, .iconst 1, 1), (128, .goto 4, 3), (131, .iconst 0, 1), (132, .invokevirtual 273, 3), (135, .ifCond .eq 41, 3), (138, .iload_n 3, 1), (139, .ifCond .lt 27, 3), (142, .aload_n 0, 1), (143, .iload_n 3, 1), (144, .aload_n 0, 1), (145, .iload 5, 2), (147, .aload_n 0, 1), (148, .getfield 141, 3), (151, .if_icmp .ne 7, 3), (154, .iload_n 3, 1), (155, .goto 5, 3), (158, .iload 5, 2), (160, .invokevirtual 289, 3), (163, .invokevirtual 152, 3), (166, .aload_n 0, 1), (167, .iload 5, 2), (169, .iload_n 1, 1), (170, .invokevirtual 292, 3), (173, .iload 5, 2), (175, .istore_n 3, 1), (176, .goto (-140), 3), (179, .aload_n 0, 1), (180, .aload_n 0, 1), (181, .getfield 134, 3), (184, .iload_n 1, 1), (185, .if_icmp .ne 7, 3), (188, .iconst 1, 1), (189, .goto 4, 3), (192, .iconst 0, 1), (193, .invokevirtual 273, 3), (196, .pop, 1), (197, .aload_n 0, 1), (198, .invokevirtual 295, 3), (201, .return_, 1)]
set_option maxRecDepth 100000 in
theorem D_MO_inTable : ∀ q ∈ L_MO_inTable, decode prog_14_method_54_code q.1 = .ok q.2 := by decide +kernel
theorem d_MO_inTable_0 : decode M_MO_inTable.2.1 0 = .ok (.aload_n 0, 1) := fx_d (q := (0, .aload_n 0, 1)) D_MO_inTable 0 rfl
theorem d_MO_inTable_1 : decode M_MO_inTable.2.1 1 = .ok (.aload_n 0, 1) := fx_d (q := (1, .aload_n 0, 1)) D_MO_inTable 1 rfl
theorem d_MO_inTable_2 : decode M_MO_inTable.2.1 2 = .ok (.bipush 9, 2) := fx_d (q := (2, .bipush 9, 2)) D_MO_inTable 2 rfl
theorem d_MO_inTable_4 : decode M_MO_inTable.2.1 4 = .ok (.invokevirtual 280, 3) := fx_d (q := (4, .invokevirtual 280, 3)) D_MO_inTable 3 rfl
theorem d_MO_inTable_7 : decode M_MO_inTable.2.1 7 = .ok (.sipush 256, 3) := fx_d (q := (7, .sipush 256, 3)) D_MO_inTable 4 rfl
theorem d_MO_inTable_10 : decode M_MO_inTable.2.1 10 = .ok (.if_icmp .ne 7, 3) := fx_d (q := (10, .if_icmp .ne 7, 3)) D_MO_inTable 5 rfl
theorem d_MO_inTable_13 : decode M_MO_inTable.2.1 13 = .ok (.iconst 1, 1) := fx_d (q := (13, .iconst 1, 1)) D_MO_inTable 6 rfl
theorem d_MO_inTable_14 : decode M_MO_inTable.2.1 14 = .ok (.goto 4, 3) := fx_d (q := (14, .goto 4, 3)) D_MO_inTable 7 rfl
theorem d_MO_inTable_17 : decode M_MO_inTable.2.1 17 = .ok (.iconst 0, 1) := fx_d (q := (17, .iconst 0, 1)) D_MO_inTable 8 rfl
theorem d_MO_inTable_18 : decode M_MO_inTable.2.1 18 = .ok (.invokevirtual 273, 3) := fx_d (q := (18, .invokevirtual 273, 3)) D_MO_inTable 9 rfl
theorem d_MO_inTable_21 : decode M_MO_inTable.2.1 21 = .ok (.pop, 1) := fx_d (q := (21, .pop, 1)) D_MO_inTable 10 rfl
theorem d_MO_inTable_22 : decode M_MO_inTable.2.1 22 = .ok (.iconst 0, 1) := fx_d (q := (22, .iconst 0, 1)) D_MO_inTable 11 rfl
theorem d_MO_inTable_23 : decode M_MO_inTable.2.1 23 = .ok (.istore_n 2, 1) := fx_d (q := (23, .istore_n 2, 1)) D_MO_inTable 12 rfl
theorem d_MO_inTable_24 : decode M_MO_inTable.2.1 24 = .ok (.iconst (-1), 1) := fx_d (q := (24, .iconst (-1), 1)) D_MO_inTable 13 rfl
theorem d_MO_inTable_25 : decode M_MO_inTable.2.1 25 = .ok (.istore_n 3, 1) := fx_d (q := (25, .istore_n 3, 1)) D_MO_inTable 14 rfl
theorem d_MO_inTable_26 : decode M_MO_inTable.2.1 26 = .ok (.aload_n 0, 1) := fx_d (q := (26, .aload_n 0, 1)) D_MO_inTable 15 rfl
theorem d_MO_inTable_27 : decode M_MO_inTable.2.1 27 = .ok (.sipush 258, 3) := fx_d (q := (27, .sipush 258, 3)) D_MO_inTable 16 rfl
theorem d_MO_inTable_30 : decode M_MO_inTable.2.1 30 = .ok (.putfield 141, 3) := fx_d (q := (30, .putfield 141, 3)) D_MO_inTable 17 rfl
theorem d_MO_inTable_33 : decode M_MO_inTable.2.1 33 = .ok (.iconst 1, 1) := fx_d (q := (33, .iconst 1, 1)) D_MO_inTable 18 rfl
theorem d_MO_inTable_34 : decode M_MO_inTable.2.1 34 = .ok (.istore 4, 2) := fx_d (q := (34, .istore 4, 2)) D_MO_inTable 19 rfl
theorem d_MO_inTable_36 : decode M_MO_inTable.2.1 36 = .ok (.iload 4, 2) := fx_d (q := (36, .iload 4, 2)) D_MO_inTable 20 rfl
theorem d_MO_inTable_38 : decode M_MO_inTable.2.1 38 = .ok (.ifCond .eq 141, 3) := fx_d (q := (38, .ifCond .eq 141, 3)) D_MO_inTable 21 rfl
theorem d_MO_inTable_41 : decode M_MO_inTable.2.1 41 = .ok (.aload_n 0, 1) := fx_d (q := (41, .aload_n 0, 1)) D_MO_inTable 22 rfl
theorem d_MO_inTable_42 : decode M_MO_inTable.2.1 42 = .ok (.getfield 264, 3) := fx_d (q := (42, .getfield 264, 3)) D_MO_inTable 23 rfl
theorem d_MO_inTable_45 : decode M_MO_inTable.2.1 45 = .ok (.ifCond .ne 134, 3) := fx_d (q := (45, .ifCond .ne 134, 3)) D_MO_inTable 24 rfl
theorem d_MO_inTable_48 : decode M_MO_inTable.2.1 48 = .ok (.iinc 2 1, 3) := fx_d (q := (48, .iinc 2 1, 3)) D_MO_inTable 25 rfl
theorem d_MO_inTable_51 : decode M_MO_inTable.2.1 51 = .ok (.aload_n 0, 1) := fx_d (q := (51, .aload_n 0, 1)) D_MO_inTable 26 rfl
theorem d_MO_inTable_52 : decode M_MO_inTable.2.1 52 = .ok (.iload_n 2, 1) := fx_d (q := (52, .iload_n 2, 1)) D_MO_inTable 27 rfl
theorem d_MO_inTable_53 : decode M_MO_inTable.2.1 53 = .ok (.invokestatic 148, 3) := fx_d (q := (53, .invokestatic 148, 3)) D_MO_inTable 28 rfl
theorem d_MO_inTable_56 : decode M_MO_inTable.2.1 56 = .ok (.invokevirtual 280, 3) := fx_d (q := (56, .invokevirtual 280, 3)) D_MO_inTable 29 rfl
theorem d_MO_inTable_59 : decode M_MO_inTable.2.1 59 = .ok (.istore 5, 2) := fx_d (q := (59, .istore 5, 2)) D_MO_inTable 30 rfl
theorem d_MO_inTable_61 : decode M_MO_inTable.2.1 61 = .ok (.iload 5, 2) := fx_d (q := (61, .iload 5, 2)) D_MO_inTable 31 rfl
theorem d_MO_inTable_63 : decode M_MO_inTable.2.1 63 = .ok (.sipush 256, 3) := fx_d (q := (63, .sipush 256, 3)) D_MO_inTable 32 rfl
theorem d_MO_inTable_66 : decode M_MO_inTable.2.1 66 = .ok (.if_icmp .ne 17, 3) := fx_d (q := (66, .if_icmp .ne 17, 3)) D_MO_inTable 33 rfl
theorem d_MO_inTable_69 : decode M_MO_inTable.2.1 69 = .ok (.iconst 0, 1) := fx_d (q := (69, .iconst 0, 1)) D_MO_inTable 34 rfl
theorem d_MO_inTable_70 : decode M_MO_inTable.2.1 70 = .ok (.istore_n 2, 1) := fx_d (q := (70, .istore_n 2, 1)) D_MO_inTable 35 rfl
theorem d_MO_inTable_71 : decode M_MO_inTable.2.1 71 = .ok (.iconst (-1), 1) := fx_d (q := (71, .iconst (-1), 1)) D_MO_inTable 36 rfl
theorem d_MO_inTable_72 : decode M_MO_inTable.2.1 72 = .ok (.istore_n 3, 1) := fx_d (q := (72, .istore_n 3, 1)) D_MO_inTable 37 rfl
theorem d_MO_inTable_73 : decode M_MO_inTable.2.1 73 = .ok (.aload_n 0, 1) := fx_d (q := (73, .aload_n 0, 1)) D_MO_inTable 38 rfl
theorem d_MO_inTable_74 : decode M_MO_inTable.2.1 74 = .ok (.sipush 258, 3) := fx_d (q := (74, .sipush 258, 3)) D_MO_inTable 39 rfl
theorem d_MO_inTable_77 : decode M_MO_inTable.2.1 77 = .ok (.putfield 141, 3) := fx_d (q := (77, .putfield 141, 3)) D_MO_inTable 40 rfl
theorem d_MO_inTable_80 : decode M_MO_inTable.2.1 80 = .ok (.goto 96, 3) := fx_d (q := (80, .goto 96, 3)) D_MO_inTable 41 rfl
theorem d_MO_inTable_83 : decode M_MO_inTable.2.1 83 = .ok (.iload 5, 2) := fx_d (q := (83, .iload 5, 2)) D_MO_inTable 42 rfl
theorem d_MO_inTable_85 : decode M_MO_inTable.2.1 85 = .ok (.sipush 257, 3) := fx_d (q := (85, .sipush 257, 3)) D_MO_inTable 43 rfl
theorem d_MO_inTable_88 : decode M_MO_inTable.2.1 88 = .ok (.if_icmp .ne 9, 3) := fx_d (q := (88, .if_icmp .ne 9, 3)) D_MO_inTable 44 rfl
theorem d_MO_inTable_91 : decode M_MO_inTable.2.1 91 = .ok (.iconst 0, 1) := fx_d (q := (91, .iconst 0, 1)) D_MO_inTable 45 rfl
theorem d_MO_inTable_92 : decode M_MO_inTable.2.1 92 = .ok (.istore 4, 2) := fx_d (q := (92, .istore 4, 2)) D_MO_inTable 46 rfl
theorem d_MO_inTable_94 : decode M_MO_inTable.2.1 94 = .ok (.goto 82, 3) := fx_d (q := (94, .goto 82, 3)) D_MO_inTable 47 rfl
theorem d_MO_inTable_97 : decode M_MO_inTable.2.1 97 = .ok (.aload_n 0, 1) := fx_d (q := (97, .aload_n 0, 1)) D_MO_inTable 48 rfl
theorem d_MO_inTable_98 : decode M_MO_inTable.2.1 98 = .ok (.iload_n 3, 1) := fx_d (q := (98, .iload_n 3, 1)) D_MO_inTable 49 rfl
theorem d_MO_inTable_99 : decode M_MO_inTable.2.1 99 = .ok (.ifCond .ge 19, 3) := fx_d (q := (99, .ifCond .ge 19, 3)) D_MO_inTable 50 rfl
theorem d_MO_inTable_102 : decode M_MO_inTable.2.1 102 = .ok (.iload 5, 2) := fx_d (q := (102, .iload 5, 2)) D_MO_inTable 51 rfl
theorem d_MO_inTable_104 : decode M_MO_inTable.2.1 104 = .ok (.sipush 256, 3) := fx_d (q := (104, .sipush 256, 3)) D_MO_inTable 52 rfl
theorem d_MO_inTable_107 : decode M_MO_inTable.2.1 107 = .ok (.if_icmp .ge 7, 3) := fx_d (q := (107, .if_icmp .ge 7, 3)) D_MO_inTable 53 rfl
theorem d_MO_inTable_110 : decode M_MO_inTable.2.1 110 = .ok (.iconst 1, 1) := fx_d (q := (110, .iconst 1, 1)) D_MO_inTable 54 rfl
theorem d_MO_inTable_111 : decode M_MO_inTable.2.1 111 = .ok (.goto 21, 3) := fx_d (q := (111, .goto 21, 3)) D_MO_inTable 55 rfl
theorem d_MO_inTable_114 : decode M_MO_inTable.2.1 114 = .ok (.iconst 0, 1) := fx_d (q := (114, .iconst 0, 1)) D_MO_inTable 56 rfl
theorem d_MO_inTable_115 : decode M_MO_inTable.2.1 115 = .ok (.goto 17, 3) := fx_d (q := (115, .goto 17, 3)) D_MO_inTable 57 rfl
theorem d_MO_inTable_118 : decode M_MO_inTable.2.1 118 = .ok (.iload 5, 2) := fx_d (q := (118, .iload 5, 2)) D_MO_inTable 58 rfl
theorem d_MO_inTable_120 : decode M_MO_inTable.2.1 120 = .ok (.aload_n 0, 1) := fx_d (q := (120, .aload_n 0, 1)) D_MO_inTable 59 rfl
theorem d_MO_inTable_121 : decode M_MO_inTable.2.1 121 = .ok (.getfield 141, 3) := fx_d (q := (121, .getfield 141, 3)) D_MO_inTable 60 rfl
theorem d_MO_inTable_124 : decode M_MO_inTable.2.1 124 = .ok (.if_icmp .gt 7, 3) := fx_d (q := (124, .if_icmp .gt 7, 3)) D_MO_inTable 61 rfl
theorem d_MO_inTable_127 : decode M_MO_inTable.2.1 127 = .ok (.iconst 1, 1) := fx_d (q := (127, .iconst 1, 1)) D_MO_inTable 62 rfl
theorem d_MO_inTable_128 : decode M_MO_inTable.2.1 128 = .ok (.goto 4, 3) := fx_d (q := (128, .goto 4, 3)) D_MO_inTable 63 rfl
theorem d_MO_inTable_131 : decode M_MO_inTable.2.1 131 = .ok (.iconst 0, 1) := fx_d (q := (131, .iconst 0, 1)) D_MO_inTable 64 rfl
theorem d_MO_inTable_132 : decode M_MO_inTable.2.1 132 = .ok (.invokevirtual 273, 3) := fx_d (q := (132, .invokevirtual 273, 3)) D_MO_inTable 65 rfl
theorem d_MO_inTable_135 : decode M_MO_inTable.2.1 135 = .ok (.ifCond .eq 41, 3) := fx_d (q := (135, .ifCond .eq 41, 3)) D_MO_inTable 66 rfl
theorem d_MO_inTable_138 : decode M_MO_inTable.2.1 138 = .ok (.iload_n 3, 1) := fx_d (q := (138, .iload_n 3, 1)) D_MO_inTable 67 rfl
theorem d_MO_inTable_139 : decode M_MO_inTable.2.1 139 = .ok (.ifCond .lt 27, 3) := fx_d (q := (139, .ifCond .lt 27, 3)) D_MO_inTable 68 rfl
theorem d_MO_inTable_142 : decode M_MO_inTable.2.1 142 = .ok (.aload_n 0, 1) := fx_d (q := (142, .aload_n 0, 1)) D_MO_inTable 69 rfl
theorem d_MO_inTable_143 : decode M_MO_inTable.2.1 143 = .ok (.iload_n 3, 1) := fx_d (q := (143, .iload_n 3, 1)) D_MO_inTable 70 rfl
theorem d_MO_inTable_144 : decode M_MO_inTable.2.1 144 = .ok (.aload_n 0, 1) := fx_d (q := (144, .aload_n 0, 1)) D_MO_inTable 71 rfl
theorem d_MO_inTable_145 : decode M_MO_inTable.2.1 145 = .ok (.iload 5, 2) := fx_d (q := (145, .iload 5, 2)) D_MO_inTable 72 rfl
theorem d_MO_inTable_147 : decode M_MO_inTable.2.1 147 = .ok (.aload_n 0, 1) := fx_d (q := (147, .aload_n 0, 1)) D_MO_inTable 73 rfl
theorem d_MO_inTable_148 : decode M_MO_inTable.2.1 148 = .ok (.getfield 141, 3) := fx_d (q := (148, .getfield 141, 3)) D_MO_inTable 74 rfl
theorem d_MO_inTable_151 : decode M_MO_inTable.2.1 151 = .ok (.if_icmp .ne 7, 3) := fx_d (q := (151, .if_icmp .ne 7, 3)) D_MO_inTable 75 rfl
theorem d_MO_inTable_154 : decode M_MO_inTable.2.1 154 = .ok (.iload_n 3, 1) := fx_d (q := (154, .iload_n 3, 1)) D_MO_inTable 76 rfl
theorem d_MO_inTable_155 : decode M_MO_inTable.2.1 155 = .ok (.goto 5, 3) := fx_d (q := (155, .goto 5, 3)) D_MO_inTable 77 rfl
theorem d_MO_inTable_158 : decode M_MO_inTable.2.1 158 = .ok (.iload 5, 2) := fx_d (q := (158, .iload 5, 2)) D_MO_inTable 78 rfl
theorem d_MO_inTable_160 : decode M_MO_inTable.2.1 160 = .ok (.invokevirtual 289, 3) := fx_d (q := (160, .invokevirtual 289, 3)) D_MO_inTable 79 rfl
theorem d_MO_inTable_163 : decode M_MO_inTable.2.1 163 = .ok (.invokevirtual 152, 3) := fx_d (q := (163, .invokevirtual 152, 3)) D_MO_inTable 80 rfl
theorem d_MO_inTable_166 : decode M_MO_inTable.2.1 166 = .ok (.aload_n 0, 1) := fx_d (q := (166, .aload_n 0, 1)) D_MO_inTable 81 rfl
theorem d_MO_inTable_167 : decode M_MO_inTable.2.1 167 = .ok (.iload 5, 2) := fx_d (q := (167, .iload 5, 2)) D_MO_inTable 82 rfl
theorem d_MO_inTable_169 : decode M_MO_inTable.2.1 169 = .ok (.iload_n 1, 1) := fx_d (q := (169, .iload_n 1, 1)) D_MO_inTable 83 rfl
theorem d_MO_inTable_170 : decode M_MO_inTable.2.1 170 = .ok (.invokevirtual 292, 3) := fx_d (q := (170, .invokevirtual 292, 3)) D_MO_inTable 84 rfl
theorem d_MO_inTable_173 : decode M_MO_inTable.2.1 173 = .ok (.iload 5, 2) := fx_d (q := (173, .iload 5, 2)) D_MO_inTable 85 rfl
theorem d_MO_inTable_175 : decode M_MO_inTable.2.1 175 = .ok (.istore_n 3, 1) := fx_d (q := (175, .istore_n 3, 1)) D_MO_inTable 86 rfl
theorem d_MO_inTable_176 : decode M_MO_inTable.2.1 176 = .ok (.goto (-140), 3) := fx_d (q := (176, .goto (-140), 3)) D_MO_inTable 87 rfl
theorem d_MO_inTable_179 : decode M_MO_inTable.2.1 179 = .ok (.aload_n 0, 1) := fx_d (q := (179, .aload_n 0, 1)) D_MO_inTable 88 rfl
theorem d_MO_inTable_180 : decode M_MO_inTable.2.1 180 = .ok (.aload_n 0, 1) := fx_d (q := (180, .aload_n 0, 1)) D_MO_inTable 89 rfl
theorem d_MO_inTable_181 : decode M_MO_inTable.2.1 181 = .ok (.getfield 134, 3) := fx_d (q := (181, .getfield 134, 3)) D_MO_inTable 90 rfl
theorem d_MO_inTable_184 : decode M_MO_inTable.2.1 184 = .ok (.iload_n 1, 1) := fx_d (q := (184, .iload_n 1, 1)) D_MO_inTable 91 rfl
theorem d_MO_inTable_185 : decode M_MO_inTable.2.1 185 = .ok (.if_icmp .ne 7, 3) := fx_d (q := (185, .if_icmp .ne 7, 3)) D_MO_inTable 92 rfl
theorem d_MO_inTable_188 : decode M_MO_inTable.2.1 188 = .ok (.iconst 1, 1) := fx_d (q := (188, .iconst 1, 1)) D_MO_inTable 93 rfl
theorem d_MO_inTable_189 : decode M_MO_inTable.2.1 189 = .ok (.goto 4, 3) := fx_d (q := (189, .goto 4, 3)) D_MO_inTable 94 rfl
theorem d_MO_inTable_192 : decode M_MO_inTable.2.1 192 = .ok (.iconst 0, 1) := fx_d (q := (192, .iconst 0, 1)) D_MO_inTable 95 rfl
theorem d_MO_inTable_193 : decode M_MO_inTable.2.1 193 = .ok (.invokevirtual 273, 3) := fx_d (q := (193, .invokevirtual 273, 3)) D_MO_inTable 96 rfl
theorem d_MO_inTable_196 : decode M_MO_inTable.2.1 196 = .ok (.pop, 1) := fx_d (q := (196, .pop, 1)) D_MO_inTable 97 rfl
theorem d_MO_inTable_197 : decode M_MO_inTable.2.1 197 = .ok (.aload_n 0, 1) := fx_d (q := (197, .aload_n 0, 1)) D_MO_inTable 98 rfl
theorem d_MO_inTable_198 : decode M_MO_inTable.2.1 198 = .ok (.invokevirtual 295, 3) := fx_d (q := (198, .invokevirtual 295, 3)) D_MO_inTable 99 rfl
theorem d_MO_inTable_201 : decode M_MO_inTable.2.1 201 = .ok (.return_, 1) := fx_d (q := (201, .return_, 1)) D_MO_inTable 100 rfl
set_option maxRecDepth 100000 in
def L_MO_firstOf : List (Nat × Instr × Nat) := [(0, .iload_n 1, 1), (1, .istore_n 2, 1), (2, .iload_n 2, 1), (3, .sipush 255, 3), (6, .if_icmp .le 13, 3), (9, .aload_n 0, 1), (10, .getfield 50, 3), (13, .iload_n 2, 1), (14, .iaload, 1), (15, .istore_n 2, 1), (16, .goto (-14), 3), (19, .iload_n 2, 1), (20, .ireturn, 1)]
set_option maxRecDepth 100000 in
theorem D_MO_firstOf : ∀ q ∈ L_MO_firstOf, decode prog_14_method_52_code q.1 = .ok q.2 := by decide +kernel
theorem d_MO_firstOf_0 : decode M_MO_firstOf.2.1 0 = .ok (.iload_n 1, 1) := fx_d (q := (0, .iload_n 1, 1)) D_MO_firstOf 0 rfl
theorem d_MO_firstOf_1 : decode M_MO_firstOf.2.1 1 = .ok (.istore_n 2, 1) := fx_d (q := (1, .istore_n 2, 1)) D_MO_firstOf 1 rfl
theorem d_MO_firstOf_2 : decode M_MO_firstOf.2.1 2 = .ok (.iload_n 2, 1) := fx_d (q := (2, .iload_n 2, 1)) D_MO_firstOf 2 rfl
theorem d_MO_firstOf_3 : decode M_MO_firstOf.2.1 3 = .ok (.sipush 255, 3) := fx_d (q := (3, .sipush 255, 3)) D_MO_firstOf 3 rfl
theorem d_MO_firstOf_6 : decode M_MO_firstOf.2.1 6 = .ok (.if_icmp .le 13, 3) := fx_d (q := (6, .if_icmp .le 13, 3)) D_MO_firstOf 4 rfl
theorem d_MO_firstOf_9 : decode M_MO_firstOf.2.1 9 = .ok (.aload_n 0, 1) := fx_d (q := (9, .aload_n 0, 1)) D_MO_firstOf 5 rfl
theorem d_MO_firstOf_10 : decode M_MO_firstOf.2.1 10 = .ok (.getfield 50, 3) := fx_d (q := (10, .getfield 50, 3)) D_MO_firstOf 6 rfl
theorem d_MO_firstOf_13 : decode M_MO_firstOf.2.1 13 = .ok (.iload_n 2, 1) := fx_d (q := (13, .iload_n 2, 1)) D_MO_firstOf 7 rfl
theorem d_MO_firstOf_14 : decode M_MO_firstOf.2.1 14 = .ok (.iaload, 1) := fx_d (q := (14, .iaload, 1)) D_MO_firstOf 8 rfl
theorem d_MO_firstOf_15 : decode M_MO_firstOf.2.1 15 = .ok (.istore_n 2, 1) := fx_d (q := (15, .istore_n 2, 1)) D_MO_firstOf 9 rfl
theorem d_MO_firstOf_16 : decode M_MO_firstOf.2.1 16 = .ok (.goto (-14), 3) := fx_d (q := (16, .goto (-14), 3)) D_MO_firstOf 10 rfl
theorem d_MO_firstOf_19 : decode M_MO_firstOf.2.1 19 = .ok (.iload_n 2, 1) := fx_d (q := (19, .iload_n 2, 1)) D_MO_firstOf 11 rfl
theorem d_MO_firstOf_20 : decode M_MO_firstOf.2.1 20 = .ok (.ireturn, 1) := fx_d (q := (20, .ireturn, 1)) D_MO_firstOf 12 rfl
set_option maxRecDepth 100000 in
def L_MO_storeEntry : List (Nat × Instr × Nat) := [(0, .iconst 1, 1), (1, .istore_n 3, 1), (2, .iload_n 1, 1), (3, .istore 4, 2), (5, .iload 4, 2), (7, .sipush 255, 3), (10, .if_icmp .le 18, 3), (13, .aload_n 0, 1), (14, .getfield 50, 3), (17, .iload 4, 2), (19, .iaload, 1), (20, .istore 4, 2), (22, .iinc 3 1, 3), (25, .goto (-20), 3), (28, .aload_n 0, 1), (29, .aload_n 0, 1), (30, .getfield 134, 3), (33, .iload_n 3, 1), (34, .iadd, 1), (35, .iload_n 2, 1), (36, .if_icmp .gt 7, 3), (39, .iconst 1, 1), (40, .goto 4, 3), (43, .iconst 0, 1), (44, .invokevirtual 273, 3), (47, .ifCond .ne 4, 3), (50, .return_, 1), (51, .iload_n 1, 1), (52, .istore 4, 2), (54, .iload_n 3, 1), (55, .iconst 1, 1), (56, .isub, 1), (57, .istore 5, 2), (59, .iload 5, 2), (61, .ifCond .lt 62, 3), (64, .aload_n 0, 1), (65, .getfield 47, 3), (68, .aload_n 0, 1), (69, .getfield 134, 3), (72, .iload 5, 2), (74, .iadd, 1), (75, .iload 4, 2), (77, .sipush 255, 3), (80, .if_icmp .le 13, 3), (83, .aload_n 0, 1), (84, .getfield 53, 3), (87, .iload 4, 2), (89, .iaload, 1), (90, .goto 5, 3), (93, .iload 4, 2), (95, .iastore, 1), (96, .iload 4, 2), (98, .sipush 255, 3), (101, .if_icmp .le 13, 3), (104, .aload_n 0, 1), (105, .getfield 50, 3), (108, .iload 4, 2), (110, .iaload, 1), (111, .goto 4, 3), (114, .iconst 0, 1), (115, .istore 4, 2), (117, .iinc 5 (-1), 3), (120, .goto (-61), 3), (123, .aload_n 0, 1), (124, .aload_n 0, 1), (125, .getfield 134, 3), (128, .iload_n 3, 1), (129, .iadd, 1), (130, .putfield 134, 3), (133, .return_, 1)]
set_option maxRecDepth 100000 in
theorem D_MO_storeEntry : ∀ q ∈ L_MO_storeEntry, decode prog_14_method_53_code q.1 = .ok q.2 := by decide +kernel
theorem d_MO_storeEntry_0 : decode M_MO_storeEntry.2.1 0 = .ok (.iconst 1, 1) := fx_d (q := (0, .iconst 1, 1)) D_MO_storeEntry 0 rfl
theorem d_MO_storeEntry_1 : decode M_MO_storeEntry.2.1 1 = .ok (.istore_n 3, 1) := fx_d (q := (1, .istore_n 3, 1)) D_MO_storeEntry 1 rfl
theorem d_MO_storeEntry_2 : decode M_MO_storeEntry.2.1 2 = .ok (.iload_n 1, 1) := fx_d (q := (2, .iload_n 1, 1)) D_MO_storeEntry 2 rfl
theorem d_MO_storeEntry_3 : decode M_MO_storeEntry.2.1 3 = .ok (.istore 4, 2) := fx_d (q := (3, .istore 4, 2)) D_MO_storeEntry 3 rfl
theorem d_MO_storeEntry_5 : decode M_MO_storeEntry.2.1 5 = .ok (.iload 4, 2) := fx_d (q := (5, .iload 4, 2)) D_MO_storeEntry 4 rfl
theorem d_MO_storeEntry_7 : decode M_MO_storeEntry.2.1 7 = .ok (.sipush 255, 3) := fx_d (q := (7, .sipush 255, 3)) D_MO_storeEntry 5 rfl
theorem d_MO_storeEntry_10 : decode M_MO_storeEntry.2.1 10 = .ok (.if_icmp .le 18, 3) := fx_d (q := (10, .if_icmp .le 18, 3)) D_MO_storeEntry 6 rfl
theorem d_MO_storeEntry_13 : decode M_MO_storeEntry.2.1 13 = .ok (.aload_n 0, 1) := fx_d (q := (13, .aload_n 0, 1)) D_MO_storeEntry 7 rfl
theorem d_MO_storeEntry_14 : decode M_MO_storeEntry.2.1 14 = .ok (.getfield 50, 3) := fx_d (q := (14, .getfield 50, 3)) D_MO_storeEntry 8 rfl
theorem d_MO_storeEntry_17 : decode M_MO_storeEntry.2.1 17 = .ok (.iload 4, 2) := fx_d (q := (17, .iload 4, 2)) D_MO_storeEntry 9 rfl
theorem d_MO_storeEntry_19 : decode M_MO_storeEntry.2.1 19 = .ok (.iaload, 1) := fx_d (q := (19, .iaload, 1)) D_MO_storeEntry 10 rfl
theorem d_MO_storeEntry_20 : decode M_MO_storeEntry.2.1 20 = .ok (.istore 4, 2) := fx_d (q := (20, .istore 4, 2)) D_MO_storeEntry 11 rfl
theorem d_MO_storeEntry_22 : decode M_MO_storeEntry.2.1 22 = .ok (.iinc 3 1, 3) := fx_d (q := (22, .iinc 3 1, 3)) D_MO_storeEntry 12 rfl
theorem d_MO_storeEntry_25 : decode M_MO_storeEntry.2.1 25 = .ok (.goto (-20), 3) := fx_d (q := (25, .goto (-20), 3)) D_MO_storeEntry 13 rfl
theorem d_MO_storeEntry_28 : decode M_MO_storeEntry.2.1 28 = .ok (.aload_n 0, 1) := fx_d (q := (28, .aload_n 0, 1)) D_MO_storeEntry 14 rfl
theorem d_MO_storeEntry_29 : decode M_MO_storeEntry.2.1 29 = .ok (.aload_n 0, 1) := fx_d (q := (29, .aload_n 0, 1)) D_MO_storeEntry 15 rfl
theorem d_MO_storeEntry_30 : decode M_MO_storeEntry.2.1 30 = .ok (.getfield 134, 3) := fx_d (q := (30, .getfield 134, 3)) D_MO_storeEntry 16 rfl
theorem d_MO_storeEntry_33 : decode M_MO_storeEntry.2.1 33 = .ok (.iload_n 3, 1) := fx_d (q := (33, .iload_n 3, 1)) D_MO_storeEntry 17 rfl
theorem d_MO_storeEntry_34 : decode M_MO_storeEntry.2.1 34 = .ok (.iadd, 1) := fx_d (q := (34, .iadd, 1)) D_MO_storeEntry 18 rfl
theorem d_MO_storeEntry_35 : decode M_MO_storeEntry.2.1 35 = .ok (.iload_n 2, 1) := fx_d (q := (35, .iload_n 2, 1)) D_MO_storeEntry 19 rfl
theorem d_MO_storeEntry_36 : decode M_MO_storeEntry.2.1 36 = .ok (.if_icmp .gt 7, 3) := fx_d (q := (36, .if_icmp .gt 7, 3)) D_MO_storeEntry 20 rfl
theorem d_MO_storeEntry_39 : decode M_MO_storeEntry.2.1 39 = .ok (.iconst 1, 1) := fx_d (q := (39, .iconst 1, 1)) D_MO_storeEntry 21 rfl
theorem d_MO_storeEntry_40 : decode M_MO_storeEntry.2.1 40 = .ok (.goto 4, 3) := fx_d (q := (40, .goto 4, 3)) D_MO_storeEntry 22 rfl
theorem d_MO_storeEntry_43 : decode M_MO_storeEntry.2.1 43 = .ok (.iconst 0, 1) := fx_d (q := (43, .iconst 0, 1)) D_MO_storeEntry 23 rfl
theorem d_MO_storeEntry_44 : decode M_MO_storeEntry.2.1 44 = .ok (.invokevirtual 273, 3) := fx_d (q := (44, .invokevirtual 273, 3)) D_MO_storeEntry 24 rfl
theorem d_MO_storeEntry_47 : decode M_MO_storeEntry.2.1 47 = .ok (.ifCond .ne 4, 3) := fx_d (q := (47, .ifCond .ne 4, 3)) D_MO_storeEntry 25 rfl
theorem d_MO_storeEntry_50 : decode M_MO_storeEntry.2.1 50 = .ok (.return_, 1) := fx_d (q := (50, .return_, 1)) D_MO_storeEntry 26 rfl
theorem d_MO_storeEntry_51 : decode M_MO_storeEntry.2.1 51 = .ok (.iload_n 1, 1) := fx_d (q := (51, .iload_n 1, 1)) D_MO_storeEntry 27 rfl
theorem d_MO_storeEntry_52 : decode M_MO_storeEntry.2.1 52 = .ok (.istore 4, 2) := fx_d (q := (52, .istore 4, 2)) D_MO_storeEntry 28 rfl
theorem d_MO_storeEntry_54 : decode M_MO_storeEntry.2.1 54 = .ok (.iload_n 3, 1) := fx_d (q := (54, .iload_n 3, 1)) D_MO_storeEntry 29 rfl
theorem d_MO_storeEntry_55 : decode M_MO_storeEntry.2.1 55 = .ok (.iconst 1, 1) := fx_d (q := (55, .iconst 1, 1)) D_MO_storeEntry 30 rfl
theorem d_MO_storeEntry_56 : decode M_MO_storeEntry.2.1 56 = .ok (.isub, 1) := fx_d (q := (56, .isub, 1)) D_MO_storeEntry 31 rfl
theorem d_MO_storeEntry_57 : decode M_MO_storeEntry.2.1 57 = .ok (.istore 5, 2) := fx_d (q := (57, .istore 5, 2)) D_MO_storeEntry 32 rfl
theorem d_MO_storeEntry_59 : decode M_MO_storeEntry.2.1 59 = .ok (.iload 5, 2) := fx_d (q := (59, .iload 5, 2)) D_MO_storeEntry 33 rfl
theorem d_MO_storeEntry_61 : decode M_MO_storeEntry.2.1 61 = .ok (.ifCond .lt 62, 3) := fx_d (q := (61, .ifCond .lt 62, 3)) D_MO_storeEntry 34 rfl
theorem d_MO_storeEntry_64 : decode M_MO_storeEntry.2.1 64 = .ok (.aload_n 0, 1) := fx_d (q := (64, .aload_n 0, 1)) D_MO_storeEntry 35 rfl
theorem d_MO_storeEntry_65 : decode M_MO_storeEntry.2.1 65 = .ok (.getfield 47, 3) := fx_d (q := (65, .getfield 47, 3)) D_MO_storeEntry 36 rfl
theorem d_MO_storeEntry_68 : decode M_MO_storeEntry.2.1 68 = .ok (.aload_n 0, 1) := fx_d (q := (68, .aload_n 0, 1)) D_MO_storeEntry 37 rfl
theorem d_MO_storeEntry_69 : decode M_MO_storeEntry.2.1 69 = .ok (.getfield 134, 3) := fx_d (q := (69, .getfield 134, 3)) D_MO_storeEntry 38 rfl
theorem d_MO_storeEntry_72 : decode M_MO_storeEntry.2.1 72 = .ok (.iload 5, 2) := fx_d (q := (72, .iload 5, 2)) D_MO_storeEntry 39 rfl
theorem d_MO_storeEntry_74 : decode M_MO_storeEntry.2.1 74 = .ok (.iadd, 1) := fx_d (q := (74, .iadd, 1)) D_MO_storeEntry 40 rfl
theorem d_MO_storeEntry_75 : decode M_MO_storeEntry.2.1 75 = .ok (.iload 4, 2) := fx_d (q := (75, .iload 4, 2)) D_MO_storeEntry 41 rfl
theorem d_MO_storeEntry_77 : decode M_MO_storeEntry.2.1 77 = .ok (.sipush 255, 3) := fx_d (q := (77, .sipush 255, 3)) D_MO_storeEntry 42 rfl
theorem d_MO_storeEntry_80 : decode M_MO_storeEntry.2.1 80 = .ok (.if_icmp .le 13, 3) := fx_d (q := (80, .if_icmp .le 13, 3)) D_MO_storeEntry 43 rfl
theorem d_MO_storeEntry_83 : decode M_MO_storeEntry.2.1 83 = .ok (.aload_n 0, 1) := fx_d (q := (83, .aload_n 0, 1)) D_MO_storeEntry 44 rfl
theorem d_MO_storeEntry_84 : decode M_MO_storeEntry.2.1 84 = .ok (.getfield 53, 3) := fx_d (q := (84, .getfield 53, 3)) D_MO_storeEntry 45 rfl
theorem d_MO_storeEntry_87 : decode M_MO_storeEntry.2.1 87 = .ok (.iload 4, 2) := fx_d (q := (87, .iload 4, 2)) D_MO_storeEntry 46 rfl
theorem d_MO_storeEntry_89 : decode M_MO_storeEntry.2.1 89 = .ok (.iaload, 1) := fx_d (q := (89, .iaload, 1)) D_MO_storeEntry 47 rfl
theorem d_MO_storeEntry_90 : decode M_MO_storeEntry.2.1 90 = .ok (.goto 5, 3) := fx_d (q := (90, .goto 5, 3)) D_MO_storeEntry 48 rfl
theorem d_MO_storeEntry_93 : decode M_MO_storeEntry.2.1 93 = .ok (.iload 4, 2) := fx_d (q := (93, .iload 4, 2)) D_MO_storeEntry 49 rfl
theorem d_MO_storeEntry_95 : decode M_MO_storeEntry.2.1 95 = .ok (.iastore, 1) := fx_d (q := (95, .iastore, 1)) D_MO_storeEntry 50 rfl
theorem d_MO_storeEntry_96 : decode M_MO_storeEntry.2.1 96 = .ok (.iload 4, 2) := fx_d (q := (96, .iload 4, 2)) D_MO_storeEntry 51 rfl
theorem d_MO_storeEntry_98 : decode M_MO_storeEntry.2.1 98 = .ok (.sipush 255, 3) := fx_d (q := (98, .sipush 255, 3)) D_MO_storeEntry 52 rfl
theorem d_MO_storeEntry_101 : decode M_MO_storeEntry.2.1 101 = .ok (.if_icmp .le 13, 3) := fx_d (q := (101, .if_icmp .le 13, 3)) D_MO_storeEntry 53 rfl
theorem d_MO_storeEntry_104 : decode M_MO_storeEntry.2.1 104 = .ok (.aload_n 0, 1) := fx_d (q := (104, .aload_n 0, 1)) D_MO_storeEntry 54 rfl
theorem d_MO_storeEntry_105 : decode M_MO_storeEntry.2.1 105 = .ok (.getfield 50, 3) := fx_d (q := (105, .getfield 50, 3)) D_MO_storeEntry 55 rfl
theorem d_MO_storeEntry_108 : decode M_MO_storeEntry.2.1 108 = .ok (.iload 4, 2) := fx_d (q := (108, .iload 4, 2)) D_MO_storeEntry 56 rfl
theorem d_MO_storeEntry_110 : decode M_MO_storeEntry.2.1 110 = .ok (.iaload, 1) := fx_d (q := (110, .iaload, 1)) D_MO_storeEntry 57 rfl
theorem d_MO_storeEntry_111 : decode M_MO_storeEntry.2.1 111 = .ok (.goto 4, 3) := fx_d (q := (111, .goto 4, 3)) D_MO_storeEntry 58 rfl
theorem d_MO_storeEntry_114 : decode M_MO_storeEntry.2.1 114 = .ok (.iconst 0, 1) := fx_d (q := (114, .iconst 0, 1)) D_MO_storeEntry 59 rfl
theorem d_MO_storeEntry_115 : decode M_MO_storeEntry.2.1 115 = .ok (.istore 4, 2) := fx_d (q := (115, .istore 4, 2)) D_MO_storeEntry 60 rfl
theorem d_MO_storeEntry_117 : decode M_MO_storeEntry.2.1 117 = .ok (.iinc 5 (-1), 3) := fx_d (q := (117, .iinc 5 (-1), 3)) D_MO_storeEntry 61 rfl
theorem d_MO_storeEntry_120 : decode M_MO_storeEntry.2.1 120 = .ok (.goto (-61), 3) := fx_d (q := (120, .goto (-61), 3)) D_MO_storeEntry 62 rfl
theorem d_MO_storeEntry_123 : decode M_MO_storeEntry.2.1 123 = .ok (.aload_n 0, 1) := fx_d (q := (123, .aload_n 0, 1)) D_MO_storeEntry 63 rfl
theorem d_MO_storeEntry_124 : decode M_MO_storeEntry.2.1 124 = .ok (.aload_n 0, 1) := fx_d (q := (124, .aload_n 0, 1)) D_MO_storeEntry 64 rfl
theorem d_MO_storeEntry_125 : decode M_MO_storeEntry.2.1 125 = .ok (.getfield 134, 3) := fx_d (q := (125, .getfield 134, 3)) D_MO_storeEntry 65 rfl
theorem d_MO_storeEntry_128 : decode M_MO_storeEntry.2.1 128 = .ok (.iload_n 3, 1) := fx_d (q := (128, .iload_n 3, 1)) D_MO_storeEntry 66 rfl
theorem d_MO_storeEntry_129 : decode M_MO_storeEntry.2.1 129 = .ok (.iadd, 1) := fx_d (q := (129, .iadd, 1)) D_MO_storeEntry 67 rfl
theorem d_MO_storeEntry_130 : decode M_MO_storeEntry.2.1 130 = .ok (.putfield 134, 3) := fx_d (q := (130, .putfield 134, 3)) D_MO_storeEntry 68 rfl
theorem d_MO_storeEntry_133 : decode M_MO_storeEntry.2.1 133 = .ok (.return_, 1) := fx_d (q := (133, .return_, 1)) D_MO_storeEntry 69 rfl
set_option maxRecDepth 100000 in
def L_MO_inRuns : List (Nat × Instr × Nat) := [(0, .aload_n 0, 1), (1, .invokevirtual 137, 3), (4, .istore_n 2, 1), (5, .aload_n 0, 1), (6, .getfield 134, 3), (9, .iload_n 1, 1), (10, .if_icmp .ge 141, 3), (13, .aload_n 0, 1), (14, .getfield 264, 3), (17, .ifCond .ne 134, 3), (20, .iload_n 2, 1), (21, .aload_n 0, 1), (22, .getfield 134, 3), (25, .iload_n 2, 1), (26, .irem, 1), (27, .isub, 1), (28, .istore_n 3, 1), (29, .aload_n 0, 1), (30, .invokevirtual 283, 3), (33, .istore 4, 2), (35, .iload 4, 2), (37, .sipush 128, 3), (40, .if_icmp .ge 10, 3), (43, .iload 4, 2), (45, .iconst 1, 1), (46, .iadd, 1), (47, .goto 21, 3), (50, .iload 4, 2), (52, .sipush 128, 3), (55, .if_icmp .le 12, 3), (58, .sipush 257, 3), (61, .iload 4, 2), (63, .isub, 1), (64, .goto 4, 3), (67, .iconst 0, 1), (68, .istore 5, 2), (70, .aload_n 0, 1), (71, .iload 5, 2), (73, .iload_n 3, 1), (74, .if_icmp .gt 7, 3), (77, .iconst 1, 1), (78, .goto 4, 3), (81, .iconst 0, 1), (82, .invokevirtual 273, 3), (85, .pop, 1), (86, .iload 4, 2), (88, .sipush 128, 3), (91, .if_icmp .le 10, 3), (94, .aload_n 0, 1), (95, .invokevirtual 283, 3), (98, .goto 4, 3), (101, .iconst 0, 1), (102, .istore 6, 2), (104, .iconst 0, 1), (105, .istore 7, 2), (107, .iload 7, 2), (109, .iload 5, 2), (111, .if_icmp .ge 37, 3), (114, .aload_n 0, 1), (115, .getfield 264, 3), (118, .ifCond .ne 30, 3), (121, .aload_n 0, 1), (122, .iload 4, 2), (124, .sipush 128, 3), (127, .if_icmp .le 8, 3), (130, .iload 6, 2), (132, .goto 7, 3), (135, .aload_n 0, 1), (136, .invokevirtual 283, 3), (139, .invokevirtual 286, 3), (142, .iinc 7 1, 3), (145, .goto (-38), 3), (148, .goto (-143), 3), (151, .aload_n 0, 1), (152, .aload_n 0, 1), (153, .getfield 267, 3), (156, .aload_n 0, 1), (157, .getfield 270, 3), (160, .if_icmp .ne 7, 3), (163, .iconst 1, 1), (164, .goto 4, 3), (167, .iconst 0, 1), (168, .invokevirtual 273, 3), (171, .pop, 1), (172, .return_, 1)]
set_option maxRecDepth 100000 in
theorem D_MO_inRuns : ∀ q ∈ L_MO_inRuns, decode prog_14_method_51_code q.1 = .ok q.2 := by decide +kernel
theorem d_MO_inRuns_0 : decode M_MO_inRuns.2.1 0 = .ok (.aload_n 0, 1) := fx_d (q := (0, .aload_n 0, 1)) D_MO_inRuns 0 rfl
theorem d_MO_inRuns_1 : decode M_MO_inRuns.2.1 1 = .ok (.invokevirtual 137, 3) := fx_d (q := (1, .invokevirtual 137, 3)) D_MO_inRuns 1 rfl
theorem d_MO_inRuns_4 : decode M_MO_inRuns.2.1 4 = .ok (.istore_n 2, 1) := fx_d (q := (4, .istore_n 2, 1)) D_MO_inRuns 2 rfl
theorem d_MO_inRuns_5 : decode M_MO_inRuns.2.1 5 = .ok (.aload_n 0, 1) := fx_d (q := (5, .aload_n 0, 1)) D_MO_inRuns 3 rfl
theorem d_MO_inRuns_6 : decode M_MO_inRuns.2.1 6 = .ok (.getfield 134, 3) := fx_d (q := (6, .getfield 134, 3)) D_MO_inRuns 4 rfl
theorem d_MO_inRuns_9 : decode M_MO_inRuns.2.1 9 = .ok (.iload_n 1, 1) := fx_d (q := (9, .iload_n 1, 1)) D_MO_inRuns 5 rfl
theorem d_MO_inRuns_10 : decode M_MO_inRuns.2.1 10 = .ok (.if_icmp .ge 141, 3) := fx_d (q := (10, .if_icmp .ge 141, 3)) D_MO_inRuns 6 rfl
theorem d_MO_inRuns_13 : decode M_MO_inRuns.2.1 13 = .ok (.aload_n 0, 1) := fx_d (q := (13, .aload_n 0, 1)) D_MO_inRuns 7 rfl
theorem d_MO_inRuns_14 : decode M_MO_inRuns.2.1 14 = .ok (.getfield 264, 3) := fx_d (q := (14, .getfield 264, 3)) D_MO_inRuns 8 rfl
theorem d_MO_inRuns_17 : decode M_MO_inRuns.2.1 17 = .ok (.ifCond .ne 134, 3) := fx_d (q := (17, .ifCond .ne 134, 3)) D_MO_inRuns 9 rfl
theorem d_MO_inRuns_20 : decode M_MO_inRuns.2.1 20 = .ok (.iload_n 2, 1) := fx_d (q := (20, .iload_n 2, 1)) D_MO_inRuns 10 rfl
theorem d_MO_inRuns_21 : decode M_MO_inRuns.2.1 21 = .ok (.aload_n 0, 1) := fx_d (q := (21, .aload_n 0, 1)) D_MO_inRuns 11 rfl
theorem d_MO_inRuns_22 : decode M_MO_inRuns.2.1 22 = .ok (.getfield 134, 3) := fx_d (q := (22, .getfield 134, 3)) D_MO_inRuns 12 rfl
theorem d_MO_inRuns_25 : decode M_MO_inRuns.2.1 25 = .ok (.iload_n 2, 1) := fx_d (q := (25, .iload_n 2, 1)) D_MO_inRuns 13 rfl
theorem d_MO_inRuns_26 : decode M_MO_inRuns.2.1 26 = .ok (.irem, 1) := fx_d (q := (26, .irem, 1)) D_MO_inRuns 14 rfl
theorem d_MO_inRuns_27 : decode M_MO_inRuns.2.1 27 = .ok (.isub, 1) := fx_d (q := (27, .isub, 1)) D_MO_inRuns 15 rfl
theorem d_MO_inRuns_28 : decode M_MO_inRuns.2.1 28 = .ok (.istore_n 3, 1) := fx_d (q := (28, .istore_n 3, 1)) D_MO_inRuns 16 rfl
theorem d_MO_inRuns_29 : decode M_MO_inRuns.2.1 29 = .ok (.aload_n 0, 1) := fx_d (q := (29, .aload_n 0, 1)) D_MO_inRuns 17 rfl
theorem d_MO_inRuns_30 : decode M_MO_inRuns.2.1 30 = .ok (.invokevirtual 283, 3) := fx_d (q := (30, .invokevirtual 283, 3)) D_MO_inRuns 18 rfl
theorem d_MO_inRuns_33 : decode M_MO_inRuns.2.1 33 = .ok (.istore 4, 2) := fx_d (q := (33, .istore 4, 2)) D_MO_inRuns 19 rfl
theorem d_MO_inRuns_35 : decode M_MO_inRuns.2.1 35 = .ok (.iload 4, 2) := fx_d (q := (35, .iload 4, 2)) D_MO_inRuns 20 rfl
theorem d_MO_inRuns_37 : decode M_MO_inRuns.2.1 37 = .ok (.sipush 128, 3) := fx_d (q := (37, .sipush 128, 3)) D_MO_inRuns 21 rfl
theorem d_MO_inRuns_40 : decode M_MO_inRuns.2.1 40 = .ok (.if_icmp .ge 10, 3) := fx_d (q := (40, .if_icmp .ge 10, 3)) D_MO_inRuns 22 rfl
theorem d_MO_inRuns_43 : decode M_MO_inRuns.2.1 43 = .ok (.iload 4, 2) := fx_d (q := (43, .iload 4, 2)) D_MO_inRuns 23 rfl
theorem d_MO_inRuns_45 : decode M_MO_inRuns.2.1 45 = .ok (.iconst 1, 1) := fx_d (q := (45, .iconst 1, 1)) D_MO_inRuns 24 rfl
theorem d_MO_inRuns_46 : decode M_MO_inRuns.2.1 46 = .ok (.iadd, 1) := fx_d (q := (46, .iadd, 1)) D_MO_inRuns 25 rfl
theorem d_MO_inRuns_47 : decode M_MO_inRuns.2.1 47 = .ok (.goto 21, 3) := fx_d (q := (47, .goto 21, 3)) D_MO_inRuns 26 rfl
theorem d_MO_inRuns_50 : decode M_MO_inRuns.2.1 50 = .ok (.iload 4, 2) := fx_d (q := (50, .iload 4, 2)) D_MO_inRuns 27 rfl
theorem d_MO_inRuns_52 : decode M_MO_inRuns.2.1 52 = .ok (.sipush 128, 3) := fx_d (q := (52, .sipush 128, 3)) D_MO_inRuns 28 rfl
theorem d_MO_inRuns_55 : decode M_MO_inRuns.2.1 55 = .ok (.if_icmp .le 12, 3) := fx_d (q := (55, .if_icmp .le 12, 3)) D_MO_inRuns 29 rfl
theorem d_MO_inRuns_58 : decode M_MO_inRuns.2.1 58 = .ok (.sipush 257, 3) := fx_d (q := (58, .sipush 257, 3)) D_MO_inRuns 30 rfl
theorem d_MO_inRuns_61 : decode M_MO_inRuns.2.1 61 = .ok (.iload 4, 2) := fx_d (q := (61, .iload 4, 2)) D_MO_inRuns 31 rfl
theorem d_MO_inRuns_63 : decode M_MO_inRuns.2.1 63 = .ok (.isub, 1) := fx_d (q := (63, .isub, 1)) D_MO_inRuns 32 rfl
theorem d_MO_inRuns_64 : decode M_MO_inRuns.2.1 64 = .ok (.goto 4, 3) := fx_d (q := (64, .goto 4, 3)) D_MO_inRuns 33 rfl
theorem d_MO_inRuns_67 : decode M_MO_inRuns.2.1 67 = .ok (.iconst 0, 1) := fx_d (q := (67, .iconst 0, 1)) D_MO_inRuns 34 rfl
theorem d_MO_inRuns_68 : decode M_MO_inRuns.2.1 68 = .ok (.istore 5, 2) := fx_d (q := (68, .istore 5, 2)) D_MO_inRuns 35 rfl
theorem d_MO_inRuns_70 : decode M_MO_inRuns.2.1 70 = .ok (.aload_n 0, 1) := fx_d (q := (70, .aload_n 0, 1)) D_MO_inRuns 36 rfl
theorem d_MO_inRuns_71 : decode M_MO_inRuns.2.1 71 = .ok (.iload 5, 2) := fx_d (q := (71, .iload 5, 2)) D_MO_inRuns 37 rfl
theorem d_MO_inRuns_73 : decode M_MO_inRuns.2.1 73 = .ok (.iload_n 3, 1) := fx_d (q := (73, .iload_n 3, 1)) D_MO_inRuns 38 rfl
theorem d_MO_inRuns_74 : decode M_MO_inRuns.2.1 74 = .ok (.if_icmp .gt 7, 3) := fx_d (q := (74, .if_icmp .gt 7, 3)) D_MO_inRuns 39 rfl
theorem d_MO_inRuns_77 : decode M_MO_inRuns.2.1 77 = .ok (.iconst 1, 1) := fx_d (q := (77, .iconst 1, 1)) D_MO_inRuns 40 rfl
theorem d_MO_inRuns_78 : decode M_MO_inRuns.2.1 78 = .ok (.goto 4, 3) := fx_d (q := (78, .goto 4, 3)) D_MO_inRuns 41 rfl
theorem d_MO_inRuns_81 : decode M_MO_inRuns.2.1 81 = .ok (.iconst 0, 1) := fx_d (q := (81, .iconst 0, 1)) D_MO_inRuns 42 rfl
theorem d_MO_inRuns_82 : decode M_MO_inRuns.2.1 82 = .ok (.invokevirtual 273, 3) := fx_d (q := (82, .invokevirtual 273, 3)) D_MO_inRuns 43 rfl
theorem d_MO_inRuns_85 : decode M_MO_inRuns.2.1 85 = .ok (.pop, 1) := fx_d (q := (85, .pop, 1)) D_MO_inRuns 44 rfl
theorem d_MO_inRuns_86 : decode M_MO_inRuns.2.1 86 = .ok (.iload 4, 2) := fx_d (q := (86, .iload 4, 2)) D_MO_inRuns 45 rfl
theorem d_MO_inRuns_88 : decode M_MO_inRuns.2.1 88 = .ok (.sipush 128, 3) := fx_d (q := (88, .sipush 128, 3)) D_MO_inRuns 46 rfl
theorem d_MO_inRuns_91 : decode M_MO_inRuns.2.1 91 = .ok (.if_icmp .le 10, 3) := fx_d (q := (91, .if_icmp .le 10, 3)) D_MO_inRuns 47 rfl
theorem d_MO_inRuns_94 : decode M_MO_inRuns.2.1 94 = .ok (.aload_n 0, 1) := fx_d (q := (94, .aload_n 0, 1)) D_MO_inRuns 48 rfl
theorem d_MO_inRuns_95 : decode M_MO_inRuns.2.1 95 = .ok (.invokevirtual 283, 3) := fx_d (q := (95, .invokevirtual 283, 3)) D_MO_inRuns 49 rfl
theorem d_MO_inRuns_98 : decode M_MO_inRuns.2.1 98 = .ok (.goto 4, 3) := fx_d (q := (98, .goto 4, 3)) D_MO_inRuns 50 rfl
theorem d_MO_inRuns_101 : decode M_MO_inRuns.2.1 101 = .ok (.iconst 0, 1) := fx_d (q := (101, .iconst 0, 1)) D_MO_inRuns 51 rfl
theorem d_MO_inRuns_102 : decode M_MO_inRuns.2.1 102 = .ok (.istore 6, 2) := fx_d (q := (102, .istore 6, 2)) D_MO_inRuns 52 rfl
theorem d_MO_inRuns_104 : decode M_MO_inRuns.2.1 104 = .ok (.iconst 0, 1) := fx_d (q := (104, .iconst 0, 1)) D_MO_inRuns 53 rfl
theorem d_MO_inRuns_105 : decode M_MO_inRuns.2.1 105 = .ok (.istore 7, 2) := fx_d (q := (105, .istore 7, 2)) D_MO_inRuns 54 rfl
theorem d_MO_inRuns_107 : decode M_MO_inRuns.2.1 107 = .ok (.iload 7, 2) := fx_d (q := (107, .iload 7, 2)) D_MO_inRuns 55 rfl
theorem d_MO_inRuns_109 : decode M_MO_inRuns.2.1 109 = .ok (.iload 5, 2) := fx_d (q := (109, .iload 5, 2)) D_MO_inRuns 56 rfl
theorem d_MO_inRuns_111 : decode M_MO_inRuns.2.1 111 = .ok (.if_icmp .ge 37, 3) := fx_d (q := (111, .if_icmp .ge 37, 3)) D_MO_inRuns 57 rfl
theorem d_MO_inRuns_114 : decode M_MO_inRuns.2.1 114 = .ok (.aload_n 0, 1) := fx_d (q := (114, .aload_n 0, 1)) D_MO_inRuns 58 rfl
theorem d_MO_inRuns_115 : decode M_MO_inRuns.2.1 115 = .ok (.getfield 264, 3) := fx_d (q := (115, .getfield 264, 3)) D_MO_inRuns 59 rfl
theorem d_MO_inRuns_118 : decode M_MO_inRuns.2.1 118 = .ok (.ifCond .ne 30, 3) := fx_d (q := (118, .ifCond .ne 30, 3)) D_MO_inRuns 60 rfl
theorem d_MO_inRuns_121 : decode M_MO_inRuns.2.1 121 = .ok (.aload_n 0, 1) := fx_d (q := (121, .aload_n 0, 1)) D_MO_inRuns 61 rfl
theorem d_MO_inRuns_122 : decode M_MO_inRuns.2.1 122 = .ok (.iload 4, 2) := fx_d (q := (122, .iload 4, 2)) D_MO_inRuns 62 rfl
theorem d_MO_inRuns_124 : decode M_MO_inRuns.2.1 124 = .ok (.sipush 128, 3) := fx_d (q := (124, .sipush 128, 3)) D_MO_inRuns 63 rfl
theorem d_MO_inRuns_127 : decode M_MO_inRuns.2.1 127 = .ok (.if_icmp .le 8, 3) := fx_d (q := (127, .if_icmp .le 8, 3)) D_MO_inRuns 64 rfl
theorem d_MO_inRuns_130 : decode M_MO_inRuns.2.1 130 = .ok (.iload 6, 2) := fx_d (q := (130, .iload 6, 2)) D_MO_inRuns 65 rfl
theorem d_MO_inRuns_132 : decode M_MO_inRuns.2.1 132 = .ok (.goto 7, 3) := fx_d (q := (132, .goto 7, 3)) D_MO_inRuns 66 rfl
theorem d_MO_inRuns_135 : decode M_MO_inRuns.2.1 135 = .ok (.aload_n 0, 1) := fx_d (q := (135, .aload_n 0, 1)) D_MO_inRuns 67 rfl
theorem d_MO_inRuns_136 : decode M_MO_inRuns.2.1 136 = .ok (.invokevirtual 283, 3) := fx_d (q := (136, .invokevirtual 283, 3)) D_MO_inRuns 68 rfl
theorem d_MO_inRuns_139 : decode M_MO_inRuns.2.1 139 = .ok (.invokevirtual 286, 3) := fx_d (q := (139, .invokevirtual 286, 3)) D_MO_inRuns 69 rfl
theorem d_MO_inRuns_142 : decode M_MO_inRuns.2.1 142 = .ok (.iinc 7 1, 3) := fx_d (q := (142, .iinc 7 1, 3)) D_MO_inRuns 70 rfl
theorem d_MO_inRuns_145 : decode M_MO_inRuns.2.1 145 = .ok (.goto (-38), 3) := fx_d (q := (145, .goto (-38), 3)) D_MO_inRuns 71 rfl
theorem d_MO_inRuns_148 : decode M_MO_inRuns.2.1 148 = .ok (.goto (-143), 3) := fx_d (q := (148, .goto (-143), 3)) D_MO_inRuns 72 rfl
theorem d_MO_inRuns_151 : decode M_MO_inRuns.2.1 151 = .ok (.aload_n 0, 1) := fx_d (q := (151, .aload_n 0, 1)) D_MO_inRuns 73 rfl
theorem d_MO_inRuns_152 : decode M_MO_inRuns.2.1 152 = .ok (.aload_n 0, 1) := fx_d (q := (152, .aload_n 0, 1)) D_MO_inRuns 74 rfl
theorem d_MO_inRuns_153 : decode M_MO_inRuns.2.1 153 = .ok (.getfield 267, 3) := fx_d (q := (153, .getfield 267, 3)) D_MO_inRuns 75 rfl
theorem d_MO_inRuns_156 : decode M_MO_inRuns.2.1 156 = .ok (.aload_n 0, 1) := fx_d (q := (156, .aload_n 0, 1)) D_MO_inRuns 76 rfl
theorem d_MO_inRuns_157 : decode M_MO_inRuns.2.1 157 = .ok (.getfield 270, 3) := fx_d (q := (157, .getfield 270, 3)) D_MO_inRuns 77 rfl
theorem d_MO_inRuns_160 : decode M_MO_inRuns.2.1 160 = .ok (.if_icmp .ne 7, 3) := fx_d (q := (160, .if_icmp .ne 7, 3)) D_MO_inRuns 78 rfl
theorem d_MO_inRuns_163 : decode M_MO_inRuns.2.1 163 = .ok (.iconst 1, 1) := fx_d (q := (163, .iconst 1, 1)) D_MO_inRuns 79 rfl
theorem d_MO_inRuns_164 : decode M_MO_inRuns.2.1 164 = .ok (.goto 4, 3) := fx_d (q := (164, .goto 4, 3)) D_MO_inRuns 80 rfl
theorem d_MO_inRuns_167 : decode M_MO_inRuns.2.1 167 = .ok (.iconst 0, 1) := fx_d (q := (167, .iconst 0, 1)) D_MO_inRuns 81 rfl
theorem d_MO_inRuns_168 : decode M_MO_inRuns.2.1 168 = .ok (.invokevirtual 273, 3) := fx_d (q := (168, .invokevirtual 273, 3)) D_MO_inRuns 82 rfl
theorem d_MO_inRuns_171 : decode M_MO_inRuns.2.1 171 = .ok (.pop, 1) := fx_d (q := (171, .pop, 1)) D_MO_inRuns 83 rfl
theorem d_MO_inRuns_172 : decode M_MO_inRuns.2.1 172 = .ok (.return_, 1) := fx_d (q := (172, .return_, 1)) D_MO_inRuns 84 rfl
set_option maxRecDepth 100000 in
def L_MO_spread : List (Nat × Instr × Nat) := [(0, .aload_n 0, 1), (1, .invokevirtual 137, 3), (4, .istore_n 3, 1), (5, .iconst 0, 1), (6, .istore 4, 2), (8, .iload 4, 2), (10, .iload_n 3, 1), (11, .iload_n 2, 1), (12, .imul, 1), (13, .if_icmp .ge 175, 3), (16, .iload_n 1, 1), (17, .iload 4, 2), (19, .iload_n 3, 1), (20, .idiv, 1), (21, .iadd, 1), (22, .istore 5, 2), (24, .aload_n 0, 1), (25, .getfield 47, 3), (28, .iload 4, 2), (30, .iaload, 1), (31, .istore 6, 2), (33, .aload_n 0, 1), (34, .getfield 128, 3), (37, .ifCond .eq 22, 3), (40, .aload_n 0, 1), (41, .getfield 35, 3), (44, .aload_n 0, 1), (45, .getfield 131, 3), (48, .iload 5, 2), (50, .imul, 1), (51, .iload 4, 2), (53, .iload_n 3, 1), (54, .irem, 1), (55, .iadd, 1), (56, .iload 6, 2), (58, .iastore, 1), (59, .iconst 0, 1), (60, .istore 7, 2), (62, .iload 7, 2), (64, .bipush 8, 2), (66, .if_icmp .ge 116, 3), (69, .aload_n 0, 1), (70, .getfield 128, 3), (73, .ifCond .ne 109, 3), (76, .iload 4, 2), (78, .iload_n 3, 1), (79, .irem, 1), (80, .bipush 8, 2), (82, .imul, 1), (83, .iload 7, 2), (85, .iadd, 1), (86, .istore 8, 2), (88, .iload 6, 2), (90, .bipush 7, 2), (92, .iload 7, 2), (94, .isub, 1), (95, .ishr, 1), (96, .iconst 1, 1), (97, .iand, 1), (98, .istore 9, 2), (100, .aload_n 0, 1), (101, .iload 8, 2), (103, .aload_n 0, 1), (104, .getfield 131, 3), (107, .if_icmp .lt 8, 3), (110, .iload 9, 2), (112, .ifCond .ne 7, 3), (115, .iconst 1, 1), (116, .goto 4, 3), (119, .iconst 0, 1), (120, .invokevirtual 273, 3), (123, .pop, 1), (124, .aload_n 0, 1), (125, .getfield 35, 3), (128, .iload 8, 2), (130, .aload_n 0, 1), (131, .getfield 131, 3), (134, .if_icmp .ge 16, 3), (137, .aload_n 0, 1), (138, .getfield 131, 3), (141, .iload 5, 2), (143, .imul, 1), (144, .iload 8, 2), (146, .iadd, 1), (147, .goto 6, 3), (150, .sipush 959, 3), (153, .iload 8, 2), (155, .aload_n 0, 1), (156, .getfield 131, 3), (159, .if_icmp .ge 8, 3), (162, .iload 9, 2), (164, .goto 11, 3), (167, .aload_n 0, 1), (168, .getfield 35, 3), (171, .sipush 959, 3), (174, .iaload, 1), (175, .iastore, 1), (176, .iinc 7 1, 3), (179, .goto (-117), 3), (182, .iinc 4 1, 3), (185, .goto (-177), 3), (188, .return_, 1)]
set_option maxRecDepth 100000 in
theorem D_MO_spread : ∀ q ∈ L_MO_spread, decode prog_14_method_62_code q.1 = .ok q.2 := by decide +kernel
theorem d_MO_spread_0 : decode M_MO_spread.2.1 0 = .ok (.aload_n 0, 1) := fx_d (q := (0, .aload_n 0, 1)) D_MO_spread 0 rfl
theorem d_MO_spread_1 : decode M_MO_spread.2.1 1 = .ok (.invokevirtual 137, 3) := fx_d (q := (1, .invokevirtual 137, 3)) D_MO_spread 1 rfl
theorem d_MO_spread_4 : decode M_MO_spread.2.1 4 = .ok (.istore_n 3, 1) := fx_d (q := (4, .istore_n 3, 1)) D_MO_spread 2 rfl
theorem d_MO_spread_5 : decode M_MO_spread.2.1 5 = .ok (.iconst 0, 1) := fx_d (q := (5, .iconst 0, 1)) D_MO_spread 3 rfl
theorem d_MO_spread_6 : decode M_MO_spread.2.1 6 = .ok (.istore 4, 2) := fx_d (q := (6, .istore 4, 2)) D_MO_spread 4 rfl
theorem d_MO_spread_8 : decode M_MO_spread.2.1 8 = .ok (.iload 4, 2) := fx_d (q := (8, .iload 4, 2)) D_MO_spread 5 rfl
theorem d_MO_spread_10 : decode M_MO_spread.2.1 10 = .ok (.iload_n 3, 1) := fx_d (q := (10, .iload_n 3, 1)) D_MO_spread 6 rfl
theorem d_MO_spread_11 : decode M_MO_spread.2.1 11 = .ok (.iload_n 2, 1) := fx_d (q := (11, .iload_n 2, 1)) D_MO_spread 7 rfl
theorem d_MO_spread_12 : decode M_MO_spread.2.1 12 = .ok (.imul, 1) := fx_d (q := (12, .imul, 1)) D_MO_spread 8 rfl
theorem d_MO_spread_13 : decode M_MO_spread.2.1 13 = .ok (.if_icmp .ge 175, 3) := fx_d (q := (13, .if_icmp .ge 175, 3)) D_MO_spread 9 rfl
theorem d_MO_spread_16 : decode M_MO_spread.2.1 16 = .ok (.iload_n 1, 1) := fx_d (q := (16, .iload_n 1, 1)) D_MO_spread 10 rfl
theorem d_MO_spread_17 : decode M_MO_spread.2.1 17 = .ok (.iload 4, 2) := fx_d (q := (17, .iload 4, 2)) D_MO_spread 11 rfl
theorem d_MO_spread_19 : decode M_MO_spread.2.1 19 = .ok (.iload_n 3, 1) := fx_d (q := (19, .iload_n 3, 1)) D_MO_spread 12 rfl
theorem d_MO_spread_20 : decode M_MO_spread.2.1 20 = .ok (.idiv, 1) := fx_d (q := (20, .idiv, 1)) D_MO_spread 13 rfl
theorem d_MO_spread_21 : decode M_MO_spread.2.1 21 = .ok (.iadd, 1) := fx_d (q := (21, .iadd, 1)) D_MO_spread 14 rfl
theorem d_MO_spread_22 : decode M_MO_spread.2.1 22 = .ok (.istore 5, 2) := fx_d (q := (22, .istore 5, 2)) D_MO_spread 15 rfl
theorem d_MO_spread_24 : decode M_MO_spread.2.1 24 = .ok (.aload_n 0, 1) := fx_d (q := (24, .aload_n 0, 1)) D_MO_spread 16 rfl
theorem d_MO_spread_25 : decode M_MO_spread.2.1 25 = .ok (.getfield 47, 3) := fx_d (q := (25, .getfield 47, 3)) D_MO_spread 17 rfl
theorem d_MO_spread_28 : decode M_MO_spread.2.1 28 = .ok (.iload 4, 2) := fx_d (q := (28, .iload 4, 2)) D_MO_spread 18 rfl
theorem d_MO_spread_30 : decode M_MO_spread.2.1 30 = .ok (.iaload, 1) := fx_d (q := (30, .iaload, 1)) D_MO_spread 19 rfl
theorem d_MO_spread_31 : decode M_MO_spread.2.1 31 = .ok (.istore 6, 2) := fx_d (q := (31, .istore 6, 2)) D_MO_spread 20 rfl
theorem d_MO_spread_33 : decode M_MO_spread.2.1 33 = .ok (.aload_n 0, 1) := fx_d (q := (33, .aload_n 0, 1)) D_MO_spread 21 rfl
theorem d_MO_spread_34 : decode M_MO_spread.2.1 34 = .ok (.getfield 128, 3) := fx_d (q := (34, .getfield 128, 3)) D_MO_spread 22 rfl
theorem d_MO_spread_37 : decode M_MO_spread.2.1 37 = .ok (.ifCond .eq 22, 3) := fx_d (q := (37, .ifCond .eq 22, 3)) D_MO_spread 23 rfl
theorem d_MO_spread_40 : decode M_MO_spread.2.1 40 = .ok (.aload_n 0, 1) := fx_d (q := (40, .aload_n 0, 1)) D_MO_spread 24 rfl
theorem d_MO_spread_41 : decode M_MO_spread.2.1 41 = .ok (.getfield 35, 3) := fx_d (q := (41, .getfield 35, 3)) D_MO_spread 25 rfl
theorem d_MO_spread_44 : decode M_MO_spread.2.1 44 = .ok (.aload_n 0, 1) := fx_d (q := (44, .aload_n 0, 1)) D_MO_spread 26 rfl
theorem d_MO_spread_45 : decode M_MO_spread.2.1 45 = .ok (.getfield 131, 3) := fx_d (q := (45, .getfield 131, 3)) D_MO_spread 27 rfl
theorem d_MO_spread_48 : decode M_MO_spread.2.1 48 = .ok (.iload 5, 2) := fx_d (q := (48, .iload 5, 2)) D_MO_spread 28 rfl
theorem d_MO_spread_50 : decode M_MO_spread.2.1 50 = .ok (.imul, 1) := fx_d (q := (50, .imul, 1)) D_MO_spread 29 rfl
theorem d_MO_spread_51 : decode M_MO_spread.2.1 51 = .ok (.iload 4, 2) := fx_d (q := (51, .iload 4, 2)) D_MO_spread 30 rfl
theorem d_MO_spread_53 : decode M_MO_spread.2.1 53 = .ok (.iload_n 3, 1) := fx_d (q := (53, .iload_n 3, 1)) D_MO_spread 31 rfl
theorem d_MO_spread_54 : decode M_MO_spread.2.1 54 = .ok (.irem, 1) := fx_d (q := (54, .irem, 1)) D_MO_spread 32 rfl
theorem d_MO_spread_55 : decode M_MO_spread.2.1 55 = .ok (.iadd, 1) := fx_d (q := (55, .iadd, 1)) D_MO_spread 33 rfl
theorem d_MO_spread_56 : decode M_MO_spread.2.1 56 = .ok (.iload 6, 2) := fx_d (q := (56, .iload 6, 2)) D_MO_spread 34 rfl
theorem d_MO_spread_58 : decode M_MO_spread.2.1 58 = .ok (.iastore, 1) := fx_d (q := (58, .iastore, 1)) D_MO_spread 35 rfl
theorem d_MO_spread_59 : decode M_MO_spread.2.1 59 = .ok (.iconst 0, 1) := fx_d (q := (59, .iconst 0, 1)) D_MO_spread 36 rfl
theorem d_MO_spread_60 : decode M_MO_spread.2.1 60 = .ok (.istore 7, 2) := fx_d (q := (60, .istore 7, 2)) D_MO_spread 37 rfl
theorem d_MO_spread_62 : decode M_MO_spread.2.1 62 = .ok (.iload 7, 2) := fx_d (q := (62, .iload 7, 2)) D_MO_spread 38 rfl
theorem d_MO_spread_64 : decode M_MO_spread.2.1 64 = .ok (.bipush 8, 2) := fx_d (q := (64, .bipush 8, 2)) D_MO_spread 39 rfl
theorem d_MO_spread_66 : decode M_MO_spread.2.1 66 = .ok (.if_icmp .ge 116, 3) := fx_d (q := (66, .if_icmp .ge 116, 3)) D_MO_spread 40 rfl
theorem d_MO_spread_69 : decode M_MO_spread.2.1 69 = .ok (.aload_n 0, 1) := fx_d (q := (69, .aload_n 0, 1)) D_MO_spread 41 rfl
theorem d_MO_spread_70 : decode M_MO_spread.2.1 70 = .ok (.getfield 128, 3) := fx_d (q := (70, .getfield 128, 3)) D_MO_spread 42 rfl
theorem d_MO_spread_73 : decode M_MO_spread.2.1 73 = .ok (.ifCond .ne 109, 3) := fx_d (q := (73, .ifCond .ne 109, 3)) D_MO_spread 43 rfl
theorem d_MO_spread_76 : decode M_MO_spread.2.1 76 = .ok (.iload 4, 2) := fx_d (q := (76, .iload 4, 2)) D_MO_spread 44 rfl
theorem d_MO_spread_78 : decode M_MO_spread.2.1 78 = .ok (.iload_n 3, 1) := fx_d (q := (78, .iload_n 3, 1)) D_MO_spread 45 rfl
theorem d_MO_spread_79 : decode M_MO_spread.2.1 79 = .ok (.irem, 1) := fx_d (q := (79, .irem, 1)) D_MO_spread 46 rfl
theorem d_MO_spread_80 : decode M_MO_spread.2.1 80 = .ok (.bipush 8, 2) := fx_d (q := (80, .bipush 8, 2)) D_MO_spread 47 rfl
theorem d_MO_spread_82 : decode M_MO_spread.2.1 82 = .ok (.imul, 1) := fx_d (q := (82, .imul, 1)) D_MO_spread 48 rfl
theorem d_MO_spread_83 : decode M_MO_spread.2.1 83 = .ok (.iload 7, 2) := fx_d (q := (83, .iload 7, 2)) D_MO_spread 49 rfl
theorem d_MO_spread_85 : decode M_MO_spread.2.1 85 = .ok (.iadd, 1) := fx_d (q := (85, .iadd, 1)) D_MO_spread 50 rfl
theorem d_MO_spread_86 : decode M_MO_spread.2.1 86 = .ok (.istore 8, 2) := fx_d (q := (86, .istore 8, 2)) D_MO_spread 51 rfl
theorem d_MO_spread_88 : decode M_MO_spread.2.1 88 = .ok (.iload 6, 2) := fx_d (q := (88, .iload 6, 2)) D_MO_spread 52 rfl
theorem d_MO_spread_90 : decode M_MO_spread.2.1 90 = .ok (.bipush 7, 2) := fx_d (q := (90, .bipush 7, 2)) D_MO_spread 53 rfl
theorem d_MO_spread_92 : decode M_MO_spread.2.1 92 = .ok (.iload 7, 2) := fx_d (q := (92, .iload 7, 2)) D_MO_spread 54 rfl
theorem d_MO_spread_94 : decode M_MO_spread.2.1 94 = .ok (.isub, 1) := fx_d (q := (94, .isub, 1)) D_MO_spread 55 rfl
theorem d_MO_spread_95 : decode M_MO_spread.2.1 95 = .ok (.ishr, 1) := fx_d (q := (95, .ishr, 1)) D_MO_spread 56 rfl
theorem d_MO_spread_96 : decode M_MO_spread.2.1 96 = .ok (.iconst 1, 1) := fx_d (q := (96, .iconst 1, 1)) D_MO_spread 57 rfl
theorem d_MO_spread_97 : decode M_MO_spread.2.1 97 = .ok (.iand, 1) := fx_d (q := (97, .iand, 1)) D_MO_spread 58 rfl
theorem d_MO_spread_98 : decode M_MO_spread.2.1 98 = .ok (.istore 9, 2) := fx_d (q := (98, .istore 9, 2)) D_MO_spread 59 rfl
theorem d_MO_spread_100 : decode M_MO_spread.2.1 100 = .ok (.aload_n 0, 1) := fx_d (q := (100, .aload_n 0, 1)) D_MO_spread 60 rfl
theorem d_MO_spread_101 : decode M_MO_spread.2.1 101 = .ok (.iload 8, 2) := fx_d (q := (101, .iload 8, 2)) D_MO_spread 61 rfl
theorem d_MO_spread_103 : decode M_MO_spread.2.1 103 = .ok (.aload_n 0, 1) := fx_d (q := (103, .aload_n 0, 1)) D_MO_spread 62 rfl
theorem d_MO_spread_104 : decode M_MO_spread.2.1 104 = .ok (.getfield 131, 3) := fx_d (q := (104, .getfield 131, 3)) D_MO_spread 63 rfl
theorem d_MO_spread_107 : decode M_MO_spread.2.1 107 = .ok (.if_icmp .lt 8, 3) := fx_d (q := (107, .if_icmp .lt 8, 3)) D_MO_spread 64 rfl
theorem d_MO_spread_110 : decode M_MO_spread.2.1 110 = .ok (.iload 9, 2) := fx_d (q := (110, .iload 9, 2)) D_MO_spread 65 rfl
theorem d_MO_spread_112 : decode M_MO_spread.2.1 112 = .ok (.ifCond .ne 7, 3) := fx_d (q := (112, .ifCond .ne 7, 3)) D_MO_spread 66 rfl
theorem d_MO_spread_115 : decode M_MO_spread.2.1 115 = .ok (.iconst 1, 1) := fx_d (q := (115, .iconst 1, 1)) D_MO_spread 67 rfl
theorem d_MO_spread_116 : decode M_MO_spread.2.1 116 = .ok (.goto 4, 3) := fx_d (q := (116, .goto 4, 3)) D_MO_spread 68 rfl
theorem d_MO_spread_119 : decode M_MO_spread.2.1 119 = .ok (.iconst 0, 1) := fx_d (q := (119, .iconst 0, 1)) D_MO_spread 69 rfl
theorem d_MO_spread_120 : decode M_MO_spread.2.1 120 = .ok (.invokevirtual 273, 3) := fx_d (q := (120, .invokevirtual 273, 3)) D_MO_spread 70 rfl
theorem d_MO_spread_123 : decode M_MO_spread.2.1 123 = .ok (.pop, 1) := fx_d (q := (123, .pop, 1)) D_MO_spread 71 rfl
theorem d_MO_spread_124 : decode M_MO_spread.2.1 124 = .ok (.aload_n 0, 1) := fx_d (q := (124, .aload_n 0, 1)) D_MO_spread 72 rfl
theorem d_MO_spread_125 : decode M_MO_spread.2.1 125 = .ok (.getfield 35, 3) := fx_d (q := (125, .getfield 35, 3)) D_MO_spread 73 rfl
theorem d_MO_spread_128 : decode M_MO_spread.2.1 128 = .ok (.iload 8, 2) := fx_d (q := (128, .iload 8, 2)) D_MO_spread 74 rfl
theorem d_MO_spread_130 : decode M_MO_spread.2.1 130 = .ok (.aload_n 0, 1) := fx_d (q := (130, .aload_n 0, 1)) D_MO_spread 75 rfl
theorem d_MO_spread_131 : decode M_MO_spread.2.1 131 = .ok (.getfield 131, 3) := fx_d (q := (131, .getfield 131, 3)) D_MO_spread 76 rfl
theorem d_MO_spread_134 : decode M_MO_spread.2.1 134 = .ok (.if_icmp .ge 16, 3) := fx_d (q := (134, .if_icmp .ge 16, 3)) D_MO_spread 77 rfl
theorem d_MO_spread_137 : decode M_MO_spread.2.1 137 = .ok (.aload_n 0, 1) := fx_d (q := (137, .aload_n 0, 1)) D_MO_spread 78 rfl
theorem d_MO_spread_138 : decode M_MO_spread.2.1 138 = .ok (.getfield 131, 3) := fx_d (q := (138, .getfield 131, 3)) D_MO_spread 79 rfl
theorem d_MO_spread_141 : decode M_MO_spread.2.1 141 = .ok (.iload 5, 2) := fx_d (q := (141, .iload 5, 2)) D_MO_spread 80 rfl
theorem d_MO_spread_143 : decode M_MO_spread.2.1 143 = .ok (.imul, 1) := fx_d (q := (143, .imul, 1)) D_MO_spread 81 rfl
theorem d_MO_spread_144 : decode M_MO_spread.2.1 144 = .ok (.iload 8, 2) := fx_d (q := (144, .iload 8, 2)) D_MO_spread 82 rfl
theorem d_MO_spread_146 : decode M_MO_spread.2.1 146 = .ok (.iadd, 1) := fx_d (q := (146, .iadd, 1)) D_MO_spread 83 rfl
theorem d_MO_spread_147 : decode M_MO_spread.2.1 147 = .ok (.goto 6, 3) := fx_d (q := (147, .goto 6, 3)) D_MO_spread 84 rfl
theorem d_MO_spread_150 : decode M_MO_spread.2.1 150 = .ok (.sipush 959, 3) := fx_d (q := (150, .sipush 959, 3)) D_MO_spread 85 rfl
theorem d_MO_spread_153 : decode M_MO_spread.2.1 153 = .ok (.iload 8, 2) := fx_d (q := (153, .iload 8, 2)) D_MO_spread 86 rfl
theorem d_MO_spread_155 : decode M_MO_spread.2.1 155 = .ok (.aload_n 0, 1) := fx_d (q := (155, .aload_n 0, 1)) D_MO_spread 87 rfl
theorem d_MO_spread_156 : decode M_MO_spread.2.1 156 = .ok (.getfield 131, 3) := fx_d (q := (156, .getfield 131, 3)) D_MO_spread 88 rfl
theorem d_MO_spread_159 : decode M_MO_spread.2.1 159 = .ok (.if_icmp .ge 8, 3) := fx_d (q := (159, .if_icmp .ge 8, 3)) D_MO_spread 89 rfl
theorem d_MO_spread_162 : decode M_MO_spread.2.1 162 = .ok (.iload 9, 2) := fx_d (q := (162, .iload 9, 2)) D_MO_spread 90 rfl
theorem d_MO_spread_164 : decode M_MO_spread.2.1 164 = .ok (.goto 11, 3) := fx_d (q := (164, .goto 11, 3)) D_MO_spread 91 rfl
theorem d_MO_spread_167 : decode M_MO_spread.2.1 167 = .ok (.aload_n 0, 1) := fx_d (q := (167, .aload_n 0, 1)) D_MO_spread 92 rfl
theorem d_MO_spread_168 : decode M_MO_spread.2.1 168 = .ok (.getfield 35, 3) := fx_d (q := (168, .getfield 35, 3)) D_MO_spread 93 rfl
theorem d_MO_spread_171 : decode M_MO_spread.2.1 171 = .ok (.sipush 959, 3) := fx_d (q := (171, .sipush 959, 3)) D_MO_spread 94 rfl
theorem d_MO_spread_174 : decode M_MO_spread.2.1 174 = .ok (.iaload, 1) := fx_d (q := (174, .iaload, 1)) D_MO_spread 95 rfl
theorem d_MO_spread_175 : decode M_MO_spread.2.1 175 = .ok (.iastore, 1) := fx_d (q := (175, .iastore, 1)) D_MO_spread 96 rfl
theorem d_MO_spread_176 : decode M_MO_spread.2.1 176 = .ok (.iinc 7 1, 3) := fx_d (q := (176, .iinc 7 1, 3)) D_MO_spread 97 rfl
theorem d_MO_spread_179 : decode M_MO_spread.2.1 179 = .ok (.goto (-117), 3) := fx_d (q := (179, .goto (-117), 3)) D_MO_spread 98 rfl
theorem d_MO_spread_182 : decode M_MO_spread.2.1 182 = .ok (.iinc 4 1, 3) := fx_d (q := (182, .iinc 4 1, 3)) D_MO_spread 99 rfl
theorem d_MO_spread_185 : decode M_MO_spread.2.1 185 = .ok (.goto (-177), 3) := fx_d (q := (185, .goto (-177), 3)) D_MO_spread 100 rfl
theorem d_MO_spread_188 : decode M_MO_spread.2.1 188 = .ok (.return_, 1) := fx_d (q := (188, .return_, 1)) D_MO_spread 101 rfl
set_option maxRecDepth 100000 in
def L_MO_size : List (Nat × Instr × Nat) := [(0, .aload_n 0, 1), (1, .iconst 0, 1), (2, .putfield 80, 3), (5, .aload_n 0, 1), (6, .getfield 105, 3), (9, .ireturn, 1)]
set_option maxRecDepth 100000 in
theorem D_MO_size : ∀ q ∈ L_MO_size, decode prog_14_method_65_code q.1 = .ok q.2 := by decide +kernel
theorem d_MO_size_0 : decode M_MO_size.2.1 0 = .ok (.aload_n 0, 1) := fx_d (q := (0, .aload_n 0, 1)) D_MO_size 0 rfl
theorem d_MO_size_1 : decode M_MO_size.2.1 1 = .ok (.iconst 0, 1) := fx_d (q := (1, .iconst 0, 1)) D_MO_size 1 rfl
theorem d_MO_size_2 : decode M_MO_size.2.1 2 = .ok (.putfield 80, 3) := fx_d (q := (2, .putfield 80, 3)) D_MO_size 2 rfl
theorem d_MO_size_5 : decode M_MO_size.2.1 5 = .ok (.aload_n 0, 1) := fx_d (q := (5, .aload_n 0, 1)) D_MO_size 3 rfl
theorem d_MO_size_6 : decode M_MO_size.2.1 6 = .ok (.getfield 105, 3) := fx_d (q := (6, .getfield 105, 3)) D_MO_size 4 rfl
theorem d_MO_size_9 : decode M_MO_size.2.1 9 = .ok (.ireturn, 1) := fx_d (q := (9, .ireturn, 1)) D_MO_size 5 rfl
set_option maxRecDepth 100000 in
def L_MO_at : List (Nat × Instr × Nat) := [(0, .aload_n 0, 1), (1, .iconst 0, 1), (2, .putfield 80, 3), (5, .iload_n 1, 1), (6, .ifCond .lt 11, 3), (9, .iload_n 1, 1), (10, .aload_n 0, 1), (11, .getfield 105, 3), (14, .if_icmp .lt 8, 3), (17, .bipush (-9), 2), (19, .goto 9, 3), (22, .aload_n 0, 1), (23, .getfield 20, 3), (26, .iload_n 1, 1), (27, .iaload, 1), (28, .ireturn, 1)]
set_option maxRecDepth 100000 in
theorem D_MO_at : ∀ q ∈ L_MO_at, decode prog_14_method_66_code q.1 = .ok q.2 := by decide +kernel
theorem d_MO_at_0 : decode M_MO_at.2.1 0 = .ok (.aload_n 0, 1) := fx_d (q := (0, .aload_n 0, 1)) D_MO_at 0 rfl
theorem d_MO_at_1 : decode M_MO_at.2.1 1 = .ok (.iconst 0, 1) := fx_d (q := (1, .iconst 0, 1)) D_MO_at 1 rfl
theorem d_MO_at_2 : decode M_MO_at.2.1 2 = .ok (.putfield 80, 3) := fx_d (q := (2, .putfield 80, 3)) D_MO_at 2 rfl
theorem d_MO_at_5 : decode M_MO_at.2.1 5 = .ok (.iload_n 1, 1) := fx_d (q := (5, .iload_n 1, 1)) D_MO_at 3 rfl
theorem d_MO_at_6 : decode M_MO_at.2.1 6 = .ok (.ifCond .lt 11, 3) := fx_d (q := (6, .ifCond .lt 11, 3)) D_MO_at 4 rfl
theorem d_MO_at_9 : decode M_MO_at.2.1 9 = .ok (.iload_n 1, 1) := fx_d (q := (9, .iload_n 1, 1)) D_MO_at 5 rfl
theorem d_MO_at_10 : decode M_MO_at.2.1 10 = .ok (.aload_n 0, 1) := fx_d (q := (10, .aload_n 0, 1)) D_MO_at 6 rfl
theorem d_MO_at_11 : decode M_MO_at.2.1 11 = .ok (.getfield 105, 3) := fx_d (q := (11, .getfield 105, 3)) D_MO_at 7 rfl
theorem d_MO_at_14 : decode M_MO_at.2.1 14 = .ok (.if_icmp .lt 8, 3) := fx_d (q := (14, .if_icmp .lt 8, 3)) D_MO_at 8 rfl
theorem d_MO_at_17 : decode M_MO_at.2.1 17 = .ok (.bipush (-9), 2) := fx_d (q := (17, .bipush (-9), 2)) D_MO_at 9 rfl
theorem d_MO_at_19 : decode M_MO_at.2.1 19 = .ok (.goto 9, 3) := fx_d (q := (19, .goto 9, 3)) D_MO_at 10 rfl
theorem d_MO_at_22 : decode M_MO_at.2.1 22 = .ok (.aload_n 0, 1) := fx_d (q := (22, .aload_n 0, 1)) D_MO_at 11 rfl
theorem d_MO_at_23 : decode M_MO_at.2.1 23 = .ok (.getfield 20, 3) := fx_d (q := (23, .getfield 20, 3)) D_MO_at 12 rfl
theorem d_MO_at_26 : decode M_MO_at.2.1 26 = .ok (.iload_n 1, 1) := fx_d (q := (26, .iload_n 1, 1)) D_MO_at 13 rfl
theorem d_MO_at_27 : decode M_MO_at.2.1 27 = .ok (.iaload, 1) := fx_d (q := (27, .iaload, 1)) D_MO_at 14 rfl
theorem d_MO_at_28 : decode M_MO_at.2.1 28 = .ok (.ireturn, 1) := fx_d (q := (28, .ireturn, 1)) D_MO_at 15 rfl
set_option maxRecDepth 100000 in
def L_MO_put : List (Nat × Instr × Nat) := [(0, .aload_n 0, 1), (1, .iload_n 1, 1), (2, .ifCond .lt 11, 3), (5, .iload_n 1, 1), (6, .aload_n 0, 1), (7, .getfield 105, 3), (10, .if_icmp .lt 7, 3), (13, .iconst 1, 1), (14, .goto 4, 3), (17, .iconst 0, 1), (18, .iload_n 2, 1), (19, .ifCond .lt 10, 3), (22, .iload_n 2, 1), (23, .sipush 255, 3), (26, .if_icmp .le 7, 3), (29, .iconst 1, 1), (30, .goto 4, 3), (33, .iconst 0, 1), (34, .invokevirtual 93, 3), (37, .ifCond .eq 5, 3), (40, .iconst 0, 1), (41, .ireturn, 1), (42, .aload_n 0, 1), (43, .getfield 20, 3), (46, .iload_n 1, 1), (47, .iaload, 1), (48, .istore_n 3, 1), (49, .aload_n 0, 1), (50, .getfield 20, 3), (53, .iload_n 1, 1), (54, .iload_n 2, 1), (55, .iastore, 1), (56, .iload_n 3, 1), (57, .ireturn, 1)]
set_option maxRecDepth 100000 in
theorem D_MO_put : ∀ q ∈ L_MO_put, decode prog_14_method_67_code q.1 = .ok q.2 := by decide +kernel
theorem d_MO_put_0 : decode M_MO_put.2.1 0 = .ok (.aload_n 0, 1) := fx_d (q := (0, .aload_n 0, 1)) D_MO_put 0 rfl
theorem d_MO_put_1 : decode M_MO_put.2.1 1 = .ok (.iload_n 1, 1) := fx_d (q := (1, .iload_n 1, 1)) D_MO_put 1 rfl
theorem d_MO_put_2 : decode M_MO_put.2.1 2 = .ok (.ifCond .lt 11, 3) := fx_d (q := (2, .ifCond .lt 11, 3)) D_MO_put 2 rfl
theorem d_MO_put_5 : decode M_MO_put.2.1 5 = .ok (.iload_n 1, 1) := fx_d (q := (5, .iload_n 1, 1)) D_MO_put 3 rfl
theorem d_MO_put_6 : decode M_MO_put.2.1 6 = .ok (.aload_n 0, 1) := fx_d (q := (6, .aload_n 0, 1)) D_MO_put 4 rfl
theorem d_MO_put_7 : decode M_MO_put.2.1 7 = .ok (.getfield 105, 3) := fx_d (q := (7, .getfield 105, 3)) D_MO_put 5 rfl
theorem d_MO_put_10 : decode M_MO_put.2.1 10 = .ok (.if_icmp .lt 7, 3) := fx_d (q := (10, .if_icmp .lt 7, 3)) D_MO_put 6 rfl
theorem d_MO_put_13 : decode M_MO_put.2.1 13 = .ok (.iconst 1, 1) := fx_d (q := (13, .iconst 1, 1)) D_MO_put 7 rfl
theorem d_MO_put_14 : decode M_MO_put.2.1 14 = .ok (.goto 4, 3) := fx_d (q := (14, .goto 4, 3)) D_MO_put 8 rfl
theorem d_MO_put_17 : decode M_MO_put.2.1 17 = .ok (.iconst 0, 1) := fx_d (q := (17, .iconst 0, 1)) D_MO_put 9 rfl
theorem d_MO_put_18 : decode M_MO_put.2.1 18 = .ok (.iload_n 2, 1) := fx_d (q := (18, .iload_n 2, 1)) D_MO_put 10 rfl
theorem d_MO_put_19 : decode M_MO_put.2.1 19 = .ok (.ifCond .lt 10, 3) := fx_d (q := (19, .ifCond .lt 10, 3)) D_MO_put 11 rfl
theorem d_MO_put_22 : decode M_MO_put.2.1 22 = .ok (.iload_n 2, 1) := fx_d (q := (22, .iload_n 2, 1)) D_MO_put 12 rfl
theorem d_MO_put_23 : decode M_MO_put.2.1 23 = .ok (.sipush 255, 3) := fx_d (q := (23, .sipush 255, 3)) D_MO_put 13 rfl
theorem d_MO_put_26 : decode M_MO_put.2.1 26 = .ok (.if_icmp .le 7, 3) := fx_d (q := (26, .if_icmp .le 7, 3)) D_MO_put 14 rfl
theorem d_MO_put_29 : decode M_MO_put.2.1 29 = .ok (.iconst 1, 1) := fx_d (q := (29, .iconst 1, 1)) D_MO_put 15 rfl
theorem d_MO_put_30 : decode M_MO_put.2.1 30 = .ok (.goto 4, 3) := fx_d (q := (30, .goto 4, 3)) D_MO_put 16 rfl
theorem d_MO_put_33 : decode M_MO_put.2.1 33 = .ok (.iconst 0, 1) := fx_d (q := (33, .iconst 0, 1)) D_MO_put 17 rfl
theorem d_MO_put_34 : decode M_MO_put.2.1 34 = .ok (.invokevirtual 93, 3) := fx_d (q := (34, .invokevirtual 93, 3)) D_MO_put 18 rfl
theorem d_MO_put_37 : decode M_MO_put.2.1 37 = .ok (.ifCond .eq 5, 3) := fx_d (q := (37, .ifCond .eq 5, 3)) D_MO_put 19 rfl
theorem d_MO_put_40 : decode M_MO_put.2.1 40 = .ok (.iconst 0, 1) := fx_d (q := (40, .iconst 0, 1)) D_MO_put 20 rfl
theorem d_MO_put_41 : decode M_MO_put.2.1 41 = .ok (.ireturn, 1) := fx_d (q := (41, .ireturn, 1)) D_MO_put 21 rfl
theorem d_MO_put_42 : decode M_MO_put.2.1 42 = .ok (.aload_n 0, 1) := fx_d (q := (42, .aload_n 0, 1)) D_MO_put 22 rfl
theorem d_MO_put_43 : decode M_MO_put.2.1 43 = .ok (.getfield 20, 3) := fx_d (q := (43, .getfield 20, 3)) D_MO_put 23 rfl
theorem d_MO_put_46 : decode M_MO_put.2.1 46 = .ok (.iload_n 1, 1) := fx_d (q := (46, .iload_n 1, 1)) D_MO_put 24 rfl
theorem d_MO_put_47 : decode M_MO_put.2.1 47 = .ok (.iaload, 1) := fx_d (q := (47, .iaload, 1)) D_MO_put 25 rfl
theorem d_MO_put_48 : decode M_MO_put.2.1 48 = .ok (.istore_n 3, 1) := fx_d (q := (48, .istore_n 3, 1)) D_MO_put 26 rfl
theorem d_MO_put_49 : decode M_MO_put.2.1 49 = .ok (.aload_n 0, 1) := fx_d (q := (49, .aload_n 0, 1)) D_MO_put 27 rfl
theorem d_MO_put_50 : decode M_MO_put.2.1 50 = .ok (.getfield 20, 3) := fx_d (q := (50, .getfield 20, 3)) D_MO_put 28 rfl
theorem d_MO_put_53 : decode M_MO_put.2.1 53 = .ok (.iload_n 1, 1) := fx_d (q := (53, .iload_n 1, 1)) D_MO_put 29 rfl
theorem d_MO_put_54 : decode M_MO_put.2.1 54 = .ok (.iload_n 2, 1) := fx_d (q := (54, .iload_n 2, 1)) D_MO_put 30 rfl
theorem d_MO_put_55 : decode M_MO_put.2.1 55 = .ok (.iastore, 1) := fx_d (q := (55, .iastore, 1)) D_MO_put 31 rfl
theorem d_MO_put_56 : decode M_MO_put.2.1 56 = .ok (.iload_n 3, 1) := fx_d (q := (56, .iload_n 3, 1)) D_MO_put 32 rfl
theorem d_MO_put_57 : decode M_MO_put.2.1 57 = .ok (.ireturn, 1) := fx_d (q := (57, .ireturn, 1)) D_MO_put 33 rfl
set_option maxRecDepth 100000 in
def L_MO_add : List (Nat × Instr × Nat) := [(0, .aload_n 0, 1), (1, .iconst 0, 1), (2, .putfield 80, 3), (5, .iload_n 1, 1), (6, .ifCond .lt 20, 3), (9, .iload_n 1, 1), (10, .sipush 255, 3), (13, .if_icmp .gt 13, 3), (16, .aload_n 0, 1), (17, .getfield 105, 3), (20, .sipush 2000, 3), (23, .if_icmp .ne 5, 3), (26, .iconst 0, 1), (27, .ireturn, 1), (28, .aload_n 0, 1), (29, .getfield 20, 3), (32, .aload_n 0, 1), (33, .getfield 105, 3), (36, .iload_n 1, 1), (37, .iastore, 1), (38, .aload_n 0, 1), (39, .dup, 1), (40, .getfield 105, 3), (43, .iconst 1, 1), (44, .iadd, 1), (45, .putfield 105, 3), (48, .iconst 1, 1), (49, .ireturn, 1)]
set_option maxRecDepth 100000 in
theorem D_MO_add : ∀ q ∈ L_MO_add, decode prog_14_method_68_code q.1 = .ok q.2 := by decide +kernel
theorem d_MO_add_0 : decode M_MO_add.2.1 0 = .ok (.aload_n 0, 1) := fx_d (q := (0, .aload_n 0, 1)) D_MO_add 0 rfl
theorem d_MO_add_1 : decode M_MO_add.2.1 1 = .ok (.iconst 0, 1) := fx_d (q := (1, .iconst 0, 1)) D_MO_add 1 rfl
theorem d_MO_add_2 : decode M_MO_add.2.1 2 = .ok (.putfield 80, 3) := fx_d (q := (2, .putfield 80, 3)) D_MO_add 2 rfl
theorem d_MO_add_5 : decode M_MO_add.2.1 5 = .ok (.iload_n 1, 1) := fx_d (q := (5, .iload_n 1, 1)) D_MO_add 3 rfl
theorem d_MO_add_6 : decode M_MO_add.2.1 6 = .ok (.ifCond .lt 20, 3) := fx_d (q := (6, .ifCond .lt 20, 3)) D_MO_add 4 rfl
theorem d_MO_add_9 : decode M_MO_add.2.1 9 = .ok (.iload_n 1, 1) := fx_d (q := (9, .iload_n 1, 1)) D_MO_add 5 rfl
theorem d_MO_add_10 : decode M_MO_add.2.1 10 = .ok (.sipush 255, 3) := fx_d (q := (10, .sipush 255, 3)) D_MO_add 6 rfl
theorem d_MO_add_13 : decode M_MO_add.2.1 13 = .ok (.if_icmp .gt 13, 3) := fx_d (q := (13, .if_icmp .gt 13, 3)) D_MO_add 7 rfl
theorem d_MO_add_16 : decode M_MO_add.2.1 16 = .ok (.aload_n 0, 1) := fx_d (q := (16, .aload_n 0, 1)) D_MO_add 8 rfl
theorem d_MO_add_17 : decode M_MO_add.2.1 17 = .ok (.getfield 105, 3) := fx_d (q := (17, .getfield 105, 3)) D_MO_add 9 rfl
theorem d_MO_add_20 : decode M_MO_add.2.1 20 = .ok (.sipush 2000, 3) := fx_d (q := (20, .sipush 2000, 3)) D_MO_add 10 rfl
theorem d_MO_add_23 : decode M_MO_add.2.1 23 = .ok (.if_icmp .ne 5, 3) := fx_d (q := (23, .if_icmp .ne 5, 3)) D_MO_add 11 rfl
theorem d_MO_add_26 : decode M_MO_add.2.1 26 = .ok (.iconst 0, 1) := fx_d (q := (26, .iconst 0, 1)) D_MO_add 12 rfl
theorem d_MO_add_27 : decode M_MO_add.2.1 27 = .ok (.ireturn, 1) := fx_d (q := (27, .ireturn, 1)) D_MO_add 13 rfl
theorem d_MO_add_28 : decode M_MO_add.2.1 28 = .ok (.aload_n 0, 1) := fx_d (q := (28, .aload_n 0, 1)) D_MO_add 14 rfl
theorem d_MO_add_29 : decode M_MO_add.2.1 29 = .ok (.getfield 20, 3) := fx_d (q := (29, .getfield 20, 3)) D_MO_add 15 rfl
theorem d_MO_add_32 : decode M_MO_add.2.1 32 = .ok (.aload_n 0, 1) := fx_d (q := (32, .aload_n 0, 1)) D_MO_add 16 rfl
theorem d_MO_add_33 : decode M_MO_add.2.1 33 = .ok (.getfield 105, 3) := fx_d (q := (33, .getfield 105, 3)) D_MO_add 17 rfl
theorem d_MO_add_36 : decode M_MO_add.2.1 36 = .ok (.iload_n 1, 1) := fx_d (q := (36, .iload_n 1, 1)) D_MO_add 18 rfl
theorem d_MO_add_37 : decode M_MO_add.2.1 37 = .ok (.iastore, 1) := fx_d (q := (37, .iastore, 1)) D_MO_add 19 rfl
theorem d_MO_add_38 : decode M_MO_add.2.1 38 = .ok (.aload_n 0, 1) := fx_d (q := (38, .aload_n 0, 1)) D_MO_add 20 rfl
theorem d_MO_add_39 : decode M_MO_add.2.1 39 = .ok (.dup, 1) := fx_d (q := (39, .dup, 1)) D_MO_add 21 rfl
theorem d_MO_add_40 : decode M_MO_add.2.1 40 = .ok (.getfield 105, 3) := fx_d (q := (40, .getfield 105, 3)) D_MO_add 22 rfl
theorem d_MO_add_43 : decode M_MO_add.2.1 43 = .ok (.iconst 1, 1) := fx_d (q := (43, .iconst 1, 1)) D_MO_add 23 rfl
theorem d_MO_add_44 : decode M_MO_add.2.1 44 = .ok (.iadd, 1) := fx_d (q := (44, .iadd, 1)) D_MO_add 24 rfl
theorem d_MO_add_45 : decode M_MO_add.2.1 45 = .ok (.putfield 105, 3) := fx_d (q := (45, .putfield 105, 3)) D_MO_add 25 rfl
theorem d_MO_add_48 : decode M_MO_add.2.1 48 = .ok (.iconst 1, 1) := fx_d (q := (48, .iconst 1, 1)) D_MO_add 26 rfl
theorem d_MO_add_49 : decode M_MO_add.2.1 49 = .ok (.ireturn, 1) := fx_d (q := (49, .ireturn, 1)) D_MO_add 27 rfl
set_option maxRecDepth 100000 in
def L_MO_cut : List (Nat × Instr × Nat) := [(0, .aload_n 0, 1), (1, .iload_n 1, 1), (2, .ifCond .ge 7, 3), (5, .iconst 1, 1), (6, .goto 4, 3), (9, .iconst 0, 1), (10, .iconst 0, 1), (11, .invokevirtual 93, 3), (14, .ifCond .eq 5, 3), (17, .iconst 0, 1), (18, .ireturn, 1), (19, .aload_n 0, 1), (20, .getfield 105, 3), (23, .iload_n 1, 1), (24, .if_icmp .le 12, 3), (27, .aload_n 0, 1), (28, .getfield 105, 3), (31, .iload_n 1, 1), (32, .isub, 1), (33, .goto 4, 3), (36, .iconst 0, 1), (37, .istore_n 2, 1), (38, .aload_n 0, 1), (39, .aload_n 0, 1), (40, .getfield 105, 3), (43, .iload_n 2, 1), (44, .isub, 1), (45, .putfield 105, 3), (48, .iload_n 2, 1), (49, .ireturn, 1)]
set_option maxRecDepth 100000 in
theorem D_MO_cut : ∀ q ∈ L_MO_cut, decode prog_14_method_69_code q.1 = .ok q.2 := by decide +kernel
theorem d_MO_cut_0 : decode M_MO_cut.2.1 0 = .ok (.aload_n 0, 1) := fx_d (q := (0, .aload_n 0, 1)) D_MO_cut 0 rfl
theorem d_MO_cut_1 : decode M_MO_cut.2.1 1 = .ok (.iload_n 1, 1) := fx_d (q := (1, .iload_n 1, 1)) D_MO_cut 1 rfl
theorem d_MO_cut_2 : decode M_MO_cut.2.1 2 = .ok (.ifCond .ge 7, 3) := fx_d (q := (2, .ifCond .ge 7, 3)) D_MO_cut 2 rfl
theorem d_MO_cut_5 : decode M_MO_cut.2.1 5 = .ok (.iconst 1, 1) := fx_d (q := (5, .iconst 1, 1)) D_MO_cut 3 rfl
theorem d_MO_cut_6 : decode M_MO_cut.2.1 6 = .ok (.goto 4, 3) := fx_d (q := (6, .goto 4, 3)) D_MO_cut 4 rfl
theorem d_MO_cut_9 : decode M_MO_cut.2.1 9 = .ok (.iconst 0, 1) := fx_d (q := (9, .iconst 0, 1)) D_MO_cut 5 rfl
theorem d_MO_cut_10 : decode M_MO_cut.2.1 10 = .ok (.iconst 0, 1) := fx_d (q := (10, .iconst 0, 1)) D_MO_cut 6 rfl
theorem d_MO_cut_11 : decode M_MO_cut.2.1 11 = .ok (.invokevirtual 93, 3) := fx_d (q := (11, .invokevirtual 93, 3)) D_MO_cut 7 rfl
theorem d_MO_cut_14 : decode M_MO_cut.2.1 14 = .ok (.ifCond .eq 5, 3) := fx_d (q := (14, .ifCond .eq 5, 3)) D_MO_cut 8 rfl
theorem d_MO_cut_17 : decode M_MO_cut.2.1 17 = .ok (.iconst 0, 1) := fx_d (q := (17, .iconst 0, 1)) D_MO_cut 9 rfl
theorem d_MO_cut_18 : decode M_MO_cut.2.1 18 = .ok (.ireturn, 1) := fx_d (q := (18, .ireturn, 1)) D_MO_cut 10 rfl
theorem d_MO_cut_19 : decode M_MO_cut.2.1 19 = .ok (.aload_n 0, 1) := fx_d (q := (19, .aload_n 0, 1)) D_MO_cut 11 rfl
theorem d_MO_cut_20 : decode M_MO_cut.2.1 20 = .ok (.getfield 105, 3) := fx_d (q := (20, .getfield 105, 3)) D_MO_cut 12 rfl
theorem d_MO_cut_23 : decode M_MO_cut.2.1 23 = .ok (.iload_n 1, 1) := fx_d (q := (23, .iload_n 1, 1)) D_MO_cut 13 rfl
theorem d_MO_cut_24 : decode M_MO_cut.2.1 24 = .ok (.if_icmp .le 12, 3) := fx_d (q := (24, .if_icmp .le 12, 3)) D_MO_cut 14 rfl
theorem d_MO_cut_27 : decode M_MO_cut.2.1 27 = .ok (.aload_n 0, 1) := fx_d (q := (27, .aload_n 0, 1)) D_MO_cut 15 rfl
theorem d_MO_cut_28 : decode M_MO_cut.2.1 28 = .ok (.getfield 105, 3) := fx_d (q := (28, .getfield 105, 3)) D_MO_cut 16 rfl
theorem d_MO_cut_31 : decode M_MO_cut.2.1 31 = .ok (.iload_n 1, 1) := fx_d (q := (31, .iload_n 1, 1)) D_MO_cut 17 rfl
theorem d_MO_cut_32 : decode M_MO_cut.2.1 32 = .ok (.isub, 1) := fx_d (q := (32, .isub, 1)) D_MO_cut 18 rfl
theorem d_MO_cut_33 : decode M_MO_cut.2.1 33 = .ok (.goto 4, 3) := fx_d (q := (33, .goto 4, 3)) D_MO_cut 19 rfl
theorem d_MO_cut_36 : decode M_MO_cut.2.1 36 = .ok (.iconst 0, 1) := fx_d (q := (36, .iconst 0, 1)) D_MO_cut 20 rfl
theorem d_MO_cut_37 : decode M_MO_cut.2.1 37 = .ok (.istore_n 2, 1) := fx_d (q := (37, .istore_n 2, 1)) D_MO_cut 21 rfl
theorem d_MO_cut_38 : decode M_MO_cut.2.1 38 = .ok (.aload_n 0, 1) := fx_d (q := (38, .aload_n 0, 1)) D_MO_cut 22 rfl
theorem d_MO_cut_39 : decode M_MO_cut.2.1 39 = .ok (.aload_n 0, 1) := fx_d (q := (39, .aload_n 0, 1)) D_MO_cut 23 rfl
theorem d_MO_cut_40 : decode M_MO_cut.2.1 40 = .ok (.getfield 105, 3) := fx_d (q := (40, .getfield 105, 3)) D_MO_cut 24 rfl
theorem d_MO_cut_43 : decode M_MO_cut.2.1 43 = .ok (.iload_n 2, 1) := fx_d (q := (43, .iload_n 2, 1)) D_MO_cut 25 rfl
theorem d_MO_cut_44 : decode M_MO_cut.2.1 44 = .ok (.isub, 1) := fx_d (q := (44, .isub, 1)) D_MO_cut 26 rfl
theorem d_MO_cut_45 : decode M_MO_cut.2.1 45 = .ok (.putfield 105, 3) := fx_d (q := (45, .putfield 105, 3)) D_MO_cut 27 rfl
theorem d_MO_cut_48 : decode M_MO_cut.2.1 48 = .ok (.iload_n 2, 1) := fx_d (q := (48, .iload_n 2, 1)) D_MO_cut 28 rfl
theorem d_MO_cut_49 : decode M_MO_cut.2.1 49 = .ok (.ireturn, 1) := fx_d (q := (49, .ireturn, 1)) D_MO_cut 29 rfl
