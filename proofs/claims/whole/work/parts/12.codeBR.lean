set_option maxRecDepth 100000 in
def L_BR_init : List (Nat × Instr × Nat) := [(0, .aload_n 0, 1), (1, .invokespecial 1, 3), (4, .aload_n 0, 1), (5, .aload_n 1, 1), (6, .putfield 7, 3), (9, .return_, 1)]
set_option maxRecDepth 100000 in
theorem D_BR_init : ∀ q ∈ L_BR_init, decode prog_2_method_1_code q.1 = .ok q.2 := by decide +kernel
theorem d_BR_init_0 : decode M_BR_init.2.1 0 = .ok (.aload_n 0, 1) := fx_d (q := (0, .aload_n 0, 1)) D_BR_init 0 rfl
theorem d_BR_init_1 : decode M_BR_init.2.1 1 = .ok (.invokespecial 1, 3) := fx_d (q := (1, .invokespecial 1, 3)) D_BR_init 1 rfl
theorem d_BR_init_4 : decode M_BR_init.2.1 4 = .ok (.aload_n 0, 1) := fx_d (q := (4, .aload_n 0, 1)) D_BR_init 2 rfl
theorem d_BR_init_5 : decode M_BR_init.2.1 5 = .ok (.aload_n 1, 1) := fx_d (q := (5, .aload_n 1, 1)) D_BR_init 3 rfl
theorem d_BR_init_6 : decode M_BR_init.2.1 6 = .ok (.putfield 7, 3) := fx_d (q := (6, .putfield 7, 3)) D_BR_init 4 rfl
theorem d_BR_init_9 : decode M_BR_init.2.1 9 = .ok (.return_, 1) := fx_d (q := (9, .return_, 1)) D_BR_init 5 rfl
set_option maxRecDepth 100000 in
def L_BR_open : List (Nat × Instr × Nat) := [(0, .aload_n 0, 1), (1, .bipush 8, 2), (3, .iload_n 1, 1), (4, .imul, 1), (5, .putfield 13, 3), (8, .aload_n 0, 1), (9, .bipush 8, 2), (11, .iload_n 1, 1), (12, .iload_n 2, 1), (13, .iadd, 1), (14, .imul, 1), (15, .putfield 17, 3), (18, .return_, 1)]
set_option maxRecDepth 100000 in
theorem D_BR_open : ∀ q ∈ L_BR_open, decode prog_2_method_2_code q.1 = .ok q.2 := by decide +kernel
theorem d_BR_open_0 : decode M_BR_open.2.1 0 = .ok (.aload_n 0, 1) := fx_d (q := (0, .aload_n 0, 1)) D_BR_open 0 rfl
theorem d_BR_open_1 : decode M_BR_open.2.1 1 = .ok (.bipush 8, 2) := fx_d (q := (1, .bipush 8, 2)) D_BR_open 1 rfl
theorem d_BR_open_3 : decode M_BR_open.2.1 3 = .ok (.iload_n 1, 1) := fx_d (q := (3, .iload_n 1, 1)) D_BR_open 2 rfl
theorem d_BR_open_4 : decode M_BR_open.2.1 4 = .ok (.imul, 1) := fx_d (q := (4, .imul, 1)) D_BR_open 3 rfl
theorem d_BR_open_5 : decode M_BR_open.2.1 5 = .ok (.putfield 13, 3) := fx_d (q := (5, .putfield 13, 3)) D_BR_open 4 rfl
theorem d_BR_open_8 : decode M_BR_open.2.1 8 = .ok (.aload_n 0, 1) := fx_d (q := (8, .aload_n 0, 1)) D_BR_open 5 rfl
theorem d_BR_open_9 : decode M_BR_open.2.1 9 = .ok (.bipush 8, 2) := fx_d (q := (9, .bipush 8, 2)) D_BR_open 6 rfl
theorem d_BR_open_11 : decode M_BR_open.2.1 11 = .ok (.iload_n 1, 1) := fx_d (q := (11, .iload_n 1, 1)) D_BR_open 7 rfl
theorem d_BR_open_12 : decode M_BR_open.2.1 12 = .ok (.iload_n 2, 1) := fx_d (q := (12, .iload_n 2, 1)) D_BR_open 8 rfl
theorem d_BR_open_13 : decode M_BR_open.2.1 13 = .ok (.iadd, 1) := fx_d (q := (13, .iadd, 1)) D_BR_open 9 rfl
theorem d_BR_open_14 : decode M_BR_open.2.1 14 = .ok (.imul, 1) := fx_d (q := (14, .imul, 1)) D_BR_open 10 rfl
theorem d_BR_open_15 : decode M_BR_open.2.1 15 = .ok (.putfield 17, 3) := fx_d (q := (15, .putfield 17, 3)) D_BR_open 11 rfl
theorem d_BR_open_18 : decode M_BR_open.2.1 18 = .ok (.return_, 1) := fx_d (q := (18, .return_, 1)) D_BR_open 12 rfl
set_option maxRecDepth 100000 in
def L_BR_number : List (Nat × Instr × Nat) := [(0, .aload_n 0, 1), (1, .getfield 17, 3), (4, .aload_n 0, 1), (5, .getfield 13, 3), (8, .isub, 1), (9, .iload_n 1, 1), (10, .if_icmp .ge 5, 3), (13, .iconst (-1), 1), (14, .ireturn, 1), (15, .iconst 0, 1), (16, .istore_n 2, 1), (17, .iconst 0, 1), (18, .istore_n 3, 1), (19, .iload_n 3, 1), (20, .iload_n 1, 1), (21, .if_icmp .ge 18, 3), (24, .iload_n 2, 1), (25, .iconst 1, 1), (26, .ishl, 1), (27, .aload_n 0, 1), (28, .invokevirtual 26, 3), (31, .ior, 1), (32, .istore_n 2, 1), (33, .iinc 3 1, 3), (36, .goto (-17), 3), (39, .iload_n 2, 1), (40, .ireturn, 1)]
set_option maxRecDepth 100000 in
theorem D_BR_number : ∀ q ∈ L_BR_number, decode prog_2_method_4_code q.1 = .ok q.2 := by decide +kernel
theorem d_BR_number_0 : decode M_BR_number.2.1 0 = .ok (.aload_n 0, 1) := fx_d (q := (0, .aload_n 0, 1)) D_BR_number 0 rfl
theorem d_BR_number_1 : decode M_BR_number.2.1 1 = .ok (.getfield 17, 3) := fx_d (q := (1, .getfield 17, 3)) D_BR_number 1 rfl
theorem d_BR_number_4 : decode M_BR_number.2.1 4 = .ok (.aload_n 0, 1) := fx_d (q := (4, .aload_n 0, 1)) D_BR_number 2 rfl
theorem d_BR_number_5 : decode M_BR_number.2.1 5 = .ok (.getfield 13, 3) := fx_d (q := (5, .getfield 13, 3)) D_BR_number 3 rfl
theorem d_BR_number_8 : decode M_BR_number.2.1 8 = .ok (.isub, 1) := fx_d (q := (8, .isub, 1)) D_BR_number 4 rfl
theorem d_BR_number_9 : decode M_BR_number.2.1 9 = .ok (.iload_n 1, 1) := fx_d (q := (9, .iload_n 1, 1)) D_BR_number 5 rfl
theorem d_BR_number_10 : decode M_BR_number.2.1 10 = .ok (.if_icmp .ge 5, 3) := fx_d (q := (10, .if_icmp .ge 5, 3)) D_BR_number 6 rfl
theorem d_BR_number_13 : decode M_BR_number.2.1 13 = .ok (.iconst (-1), 1) := fx_d (q := (13, .iconst (-1), 1)) D_BR_number 7 rfl
theorem d_BR_number_14 : decode M_BR_number.2.1 14 = .ok (.ireturn, 1) := fx_d (q := (14, .ireturn, 1)) D_BR_number 8 rfl
theorem d_BR_number_15 : decode M_BR_number.2.1 15 = .ok (.iconst 0, 1) := fx_d (q := (15, .iconst 0, 1)) D_BR_number 9 rfl
theorem d_BR_number_16 : decode M_BR_number.2.1 16 = .ok (.istore_n 2, 1) := fx_d (q := (16, .istore_n 2, 1)) D_BR_number 10 rfl
theorem d_BR_number_17 : decode M_BR_number.2.1 17 = .ok (.iconst 0, 1) := fx_d (q := (17, .iconst 0, 1)) D_BR_number 11 rfl
theorem d_BR_number_18 : decode M_BR_number.2.1 18 = .ok (.istore_n 3, 1) := fx_d (q := (18, .istore_n 3, 1)) D_BR_number 12 rfl
theorem d_BR_number_19 : decode M_BR_number.2.1 19 = .ok (.iload_n 3, 1) := fx_d (q := (19, .iload_n 3, 1)) D_BR_number 13 rfl
theorem d_BR_number_20 : decode M_BR_number.2.1 20 = .ok (.iload_n 1, 1) := fx_d (q := (20, .iload_n 1, 1)) D_BR_number 14 rfl
theorem d_BR_number_21 : decode M_BR_number.2.1 21 = .ok (.if_icmp .ge 18, 3) := fx_d (q := (21, .if_icmp .ge 18, 3)) D_BR_number 15 rfl
theorem d_BR_number_24 : decode M_BR_number.2.1 24 = .ok (.iload_n 2, 1) := fx_d (q := (24, .iload_n 2, 1)) D_BR_number 16 rfl
theorem d_BR_number_25 : decode M_BR_number.2.1 25 = .ok (.iconst 1, 1) := fx_d (q := (25, .iconst 1, 1)) D_BR_number 17 rfl
theorem d_BR_number_26 : decode M_BR_number.2.1 26 = .ok (.ishl, 1) := fx_d (q := (26, .ishl, 1)) D_BR_number 18 rfl
theorem d_BR_number_27 : decode M_BR_number.2.1 27 = .ok (.aload_n 0, 1) := fx_d (q := (27, .aload_n 0, 1)) D_BR_number 19 rfl
theorem d_BR_number_28 : decode M_BR_number.2.1 28 = .ok (.invokevirtual 26, 3) := fx_d (q := (28, .invokevirtual 26, 3)) D_BR_number 20 rfl
theorem d_BR_number_31 : decode M_BR_number.2.1 31 = .ok (.ior, 1) := fx_d (q := (31, .ior, 1)) D_BR_number 21 rfl
theorem d_BR_number_32 : decode M_BR_number.2.1 32 = .ok (.istore_n 2, 1) := fx_d (q := (32, .istore_n 2, 1)) D_BR_number 22 rfl
theorem d_BR_number_33 : decode M_BR_number.2.1 33 = .ok (.iinc 3 1, 3) := fx_d (q := (33, .iinc 3 1, 3)) D_BR_number 23 rfl
theorem d_BR_number_36 : decode M_BR_number.2.1 36 = .ok (.goto (-17), 3) := fx_d (q := (36, .goto (-17), 3)) D_BR_number 24 rfl
theorem d_BR_number_39 : decode M_BR_number.2.1 39 = .ok (.iload_n 2, 1) := fx_d (q := (39, .iload_n 2, 1)) D_BR_number 25 rfl
theorem d_BR_number_40 : decode M_BR_number.2.1 40 = .ok (.ireturn, 1) := fx_d (q := (40, .ireturn, 1)) D_BR_number 26 rfl
set_option maxRecDepth 100000 in
def L_BR_bit : List (Nat × Instr × Nat) := [(0, .aload_n 0, 1), (1, .getfield 13, 3), (4, .aload_n 0, 1), (5, .getfield 17, 3), (8, .if_icmp .lt 5, 3), (11, .iconst (-1), 1), (12, .ireturn, 1), (13, .aload_n 0, 1), (14, .getfield 7, 3), (17, .aload_n 0, 1), (18, .getfield 13, 3), (21, .bipush 8, 2), (23, .idiv, 1), (24, .invokevirtual 20, 3), (27, .bipush 7, 2), (29, .aload_n 0, 1), (30, .getfield 13, 3), (33, .bipush 8, 2), (35, .irem, 1), (36, .isub, 1), (37, .ishr, 1), (38, .iconst 1, 1), (39, .iand, 1), (40, .istore_n 1, 1), (41, .aload_n 0, 1), (42, .dup, 1), (43, .getfield 13, 3), (46, .iconst 1, 1), (47, .iadd, 1), (48, .putfield 13, 3), (51, .iload_n 1, 1), (52, .ireturn, 1)]
set_option maxRecDepth 100000 in
theorem D_BR_bit : ∀ q ∈ L_BR_bit, decode prog_2_method_3_code q.1 = .ok q.2 := by decide +kernel
theorem d_BR_bit_0 : decode M_BR_bit.2.1 0 = .ok (.aload_n 0, 1) := fx_d (q := (0, .aload_n 0, 1)) D_BR_bit 0 rfl
theorem d_BR_bit_1 : decode M_BR_bit.2.1 1 = .ok (.getfield 13, 3) := fx_d (q := (1, .getfield 13, 3)) D_BR_bit 1 rfl
theorem d_BR_bit_4 : decode M_BR_bit.2.1 4 = .ok (.aload_n 0, 1) := fx_d (q := (4, .aload_n 0, 1)) D_BR_bit 2 rfl
theorem d_BR_bit_5 : decode M_BR_bit.2.1 5 = .ok (.getfield 17, 3) := fx_d (q := (5, .getfield 17, 3)) D_BR_bit 3 rfl
theorem d_BR_bit_8 : decode M_BR_bit.2.1 8 = .ok (.if_icmp .lt 5, 3) := fx_d (q := (8, .if_icmp .lt 5, 3)) D_BR_bit 4 rfl
theorem d_BR_bit_11 : decode M_BR_bit.2.1 11 = .ok (.iconst (-1), 1) := fx_d (q := (11, .iconst (-1), 1)) D_BR_bit 5 rfl
theorem d_BR_bit_12 : decode M_BR_bit.2.1 12 = .ok (.ireturn, 1) := fx_d (q := (12, .ireturn, 1)) D_BR_bit 6 rfl
theorem d_BR_bit_13 : decode M_BR_bit.2.1 13 = .ok (.aload_n 0, 1) := fx_d (q := (13, .aload_n 0, 1)) D_BR_bit 7 rfl
theorem d_BR_bit_14 : decode M_BR_bit.2.1 14 = .ok (.getfield 7, 3) := fx_d (q := (14, .getfield 7, 3)) D_BR_bit 8 rfl
theorem d_BR_bit_17 : decode M_BR_bit.2.1 17 = .ok (.aload_n 0, 1) := fx_d (q := (17, .aload_n 0, 1)) D_BR_bit 9 rfl
theorem d_BR_bit_18 : decode M_BR_bit.2.1 18 = .ok (.getfield 13, 3) := fx_d (q := (18, .getfield 13, 3)) D_BR_bit 10 rfl
theorem d_BR_bit_21 : decode M_BR_bit.2.1 21 = .ok (.bipush 8, 2) := fx_d (q := (21, .bipush 8, 2)) D_BR_bit 11 rfl
theorem d_BR_bit_23 : decode M_BR_bit.2.1 23 = .ok (.idiv, 1) := fx_d (q := (23, .idiv, 1)) D_BR_bit 12 rfl
theorem d_BR_bit_24 : decode M_BR_bit.2.1 24 = .ok (.invokevirtual 20, 3) := fx_d (q := (24, .invokevirtual 20, 3)) D_BR_bit 13 rfl
theorem d_BR_bit_27 : decode M_BR_bit.2.1 27 = .ok (.bipush 7, 2) := fx_d (q := (27, .bipush 7, 2)) D_BR_bit 14 rfl
theorem d_BR_bit_29 : decode M_BR_bit.2.1 29 = .ok (.aload_n 0, 1) := fx_d (q := (29, .aload_n 0, 1)) D_BR_bit 15 rfl
theorem d_BR_bit_30 : decode M_BR_bit.2.1 30 = .ok (.getfield 13, 3) := fx_d (q := (30, .getfield 13, 3)) D_BR_bit 16 rfl
theorem d_BR_bit_33 : decode M_BR_bit.2.1 33 = .ok (.bipush 8, 2) := fx_d (q := (33, .bipush 8, 2)) D_BR_bit 17 rfl
theorem d_BR_bit_35 : decode M_BR_bit.2.1 35 = .ok (.irem, 1) := fx_d (q := (35, .irem, 1)) D_BR_bit 18 rfl
theorem d_BR_bit_36 : decode M_BR_bit.2.1 36 = .ok (.isub, 1) := fx_d (q := (36, .isub, 1)) D_BR_bit 19 rfl
theorem d_BR_bit_37 : decode M_BR_bit.2.1 37 = .ok (.ishr, 1) := fx_d (q := (37, .ishr, 1)) D_BR_bit 20 rfl
theorem d_BR_bit_38 : decode M_BR_bit.2.1 38 = .ok (.iconst 1, 1) := fx_d (q := (38, .iconst 1, 1)) D_BR_bit 21 rfl
theorem d_BR_bit_39 : decode M_BR_bit.2.1 39 = .ok (.iand, 1) := fx_d (q := (39, .iand, 1)) D_BR_bit 22 rfl
theorem d_BR_bit_40 : decode M_BR_bit.2.1 40 = .ok (.istore_n 1, 1) := fx_d (q := (40, .istore_n 1, 1)) D_BR_bit 23 rfl
theorem d_BR_bit_41 : decode M_BR_bit.2.1 41 = .ok (.aload_n 0, 1) := fx_d (q := (41, .aload_n 0, 1)) D_BR_bit 24 rfl
theorem d_BR_bit_42 : decode M_BR_bit.2.1 42 = .ok (.dup, 1) := fx_d (q := (42, .dup, 1)) D_BR_bit 25 rfl
theorem d_BR_bit_43 : decode M_BR_bit.2.1 43 = .ok (.getfield 13, 3) := fx_d (q := (43, .getfield 13, 3)) D_BR_bit 26 rfl
theorem d_BR_bit_46 : decode M_BR_bit.2.1 46 = .ok (.iconst 1, 1) := fx_d (q := (46, .iconst 1, 1)) D_BR_bit 27 rfl
theorem d_BR_bit_47 : decode M_BR_bit.2.1 47 = .ok (.iadd, 1) := fx_d (q := (47, .iadd, 1)) D_BR_bit 28 rfl
theorem d_BR_bit_48 : decode M_BR_bit.2.1 48 = .ok (.putfield 13, 3) := fx_d (q := (48, .putfield 13, 3)) D_BR_bit 29 rfl
theorem d_BR_bit_51 : decode M_BR_bit.2.1 51 = .ok (.iload_n 1, 1) := fx_d (q := (51, .iload_n 1, 1)) D_BR_bit 30 rfl
theorem d_BR_bit_52 : decode M_BR_bit.2.1 52 = .ok (.ireturn, 1) := fx_d (q := (52, .ireturn, 1)) D_BR_bit 31 rfl
set_option maxRecDepth 100000 in
def L_BR_onlyFillLeft : List (Nat × Instr × Nat) := [(0, .aload_n 0, 1), (1, .getfield 17, 3), (4, .aload_n 0, 1), (5, .getfield 13, 3), (8, .isub, 1), (9, .istore_n 1, 1), (10, .iload_n 1, 1), (11, .bipush 8, 2), (13, .if_icmp .ge 15, 3), (16, .aload_n 0, 1), (17, .iload_n 1, 1), (18, .invokevirtual 30, 3), (21, .ifCond .ne 7, 3), (24, .iconst 1, 1), (25, .goto 4, 3), (28, .iconst 0, 1), (29, .ireturn, 1)]
set_option maxRecDepth 100000 in
theorem D_BR_onlyFillLeft : ∀ q ∈ L_BR_onlyFillLeft, decode prog_2_method_6_code q.1 = .ok q.2 := by decide +kernel
theorem d_BR_onlyFillLeft_0 : decode M_BR_onlyFillLeft.2.1 0 = .ok (.aload_n 0, 1) := fx_d (q := (0, .aload_n 0, 1)) D_BR_onlyFillLeft 0 rfl
theorem d_BR_onlyFillLeft_1 : decode M_BR_onlyFillLeft.2.1 1 = .ok (.getfield 17, 3) := fx_d (q := (1, .getfield 17, 3)) D_BR_onlyFillLeft 1 rfl
theorem d_BR_onlyFillLeft_4 : decode M_BR_onlyFillLeft.2.1 4 = .ok (.aload_n 0, 1) := fx_d (q := (4, .aload_n 0, 1)) D_BR_onlyFillLeft 2 rfl
theorem d_BR_onlyFillLeft_5 : decode M_BR_onlyFillLeft.2.1 5 = .ok (.getfield 13, 3) := fx_d (q := (5, .getfield 13, 3)) D_BR_onlyFillLeft 3 rfl
theorem d_BR_onlyFillLeft_8 : decode M_BR_onlyFillLeft.2.1 8 = .ok (.isub, 1) := fx_d (q := (8, .isub, 1)) D_BR_onlyFillLeft 4 rfl
theorem d_BR_onlyFillLeft_9 : decode M_BR_onlyFillLeft.2.1 9 = .ok (.istore_n 1, 1) := fx_d (q := (9, .istore_n 1, 1)) D_BR_onlyFillLeft 5 rfl
theorem d_BR_onlyFillLeft_10 : decode M_BR_onlyFillLeft.2.1 10 = .ok (.iload_n 1, 1) := fx_d (q := (10, .iload_n 1, 1)) D_BR_onlyFillLeft 6 rfl
theorem d_BR_onlyFillLeft_11 : decode M_BR_onlyFillLeft.2.1 11 = .ok (.bipush 8, 2) := fx_d (q := (11, .bipush 8, 2)) D_BR_onlyFillLeft 7 rfl
theorem d_BR_onlyFillLeft_13 : decode M_BR_onlyFillLeft.2.1 13 = .ok (.if_icmp .ge 15, 3) := fx_d (q := (13, .if_icmp .ge 15, 3)) D_BR_onlyFillLeft 8 rfl
theorem d_BR_onlyFillLeft_16 : decode M_BR_onlyFillLeft.2.1 16 = .ok (.aload_n 0, 1) := fx_d (q := (16, .aload_n 0, 1)) D_BR_onlyFillLeft 9 rfl
theorem d_BR_onlyFillLeft_17 : decode M_BR_onlyFillLeft.2.1 17 = .ok (.iload_n 1, 1) := fx_d (q := (17, .iload_n 1, 1)) D_BR_onlyFillLeft 10 rfl
theorem d_BR_onlyFillLeft_18 : decode M_BR_onlyFillLeft.2.1 18 = .ok (.invokevirtual 30, 3) := fx_d (q := (18, .invokevirtual 30, 3)) D_BR_onlyFillLeft 11 rfl
theorem d_BR_onlyFillLeft_21 : decode M_BR_onlyFillLeft.2.1 21 = .ok (.ifCond .ne 7, 3) := fx_d (q := (21, .ifCond .ne 7, 3)) D_BR_onlyFillLeft 12 rfl
theorem d_BR_onlyFillLeft_24 : decode M_BR_onlyFillLeft.2.1 24 = .ok (.iconst 1, 1) := fx_d (q := (24, .iconst 1, 1)) D_BR_onlyFillLeft 13 rfl
theorem d_BR_onlyFillLeft_25 : decode M_BR_onlyFillLeft.2.1 25 = .ok (.goto 4, 3) := fx_d (q := (25, .goto 4, 3)) D_BR_onlyFillLeft 14 rfl
theorem d_BR_onlyFillLeft_28 : decode M_BR_onlyFillLeft.2.1 28 = .ok (.iconst 0, 1) := fx_d (q := (28, .iconst 0, 1)) D_BR_onlyFillLeft 15 rfl
theorem d_BR_onlyFillLeft_29 : decode M_BR_onlyFillLeft.2.1 29 = .ok (.ireturn, 1) := fx_d (q := (29, .ireturn, 1)) D_BR_onlyFillLeft 16 rfl
set_option maxRecDepth 100000 in
def L_BR_atEnd : List (Nat × Instr × Nat) := [(0, .aload_n 0, 1), (1, .getfield 13, 3), (4, .aload_n 0, 1), (5, .getfield 17, 3), (8, .if_icmp .ne 7, 3), (11, .iconst 1, 1), (12, .goto 4, 3), (15, .iconst 0, 1), (16, .ireturn, 1)]
set_option maxRecDepth 100000 in
theorem D_BR_atEnd : ∀ q ∈ L_BR_atEnd, decode prog_2_method_5_code q.1 = .ok q.2 := by decide +kernel
theorem d_BR_atEnd_0 : decode M_BR_atEnd.2.1 0 = .ok (.aload_n 0, 1) := fx_d (q := (0, .aload_n 0, 1)) D_BR_atEnd 0 rfl
theorem d_BR_atEnd_1 : decode M_BR_atEnd.2.1 1 = .ok (.getfield 13, 3) := fx_d (q := (1, .getfield 13, 3)) D_BR_atEnd 1 rfl
theorem d_BR_atEnd_4 : decode M_BR_atEnd.2.1 4 = .ok (.aload_n 0, 1) := fx_d (q := (4, .aload_n 0, 1)) D_BR_atEnd 2 rfl
theorem d_BR_atEnd_5 : decode M_BR_atEnd.2.1 5 = .ok (.getfield 17, 3) := fx_d (q := (5, .getfield 17, 3)) D_BR_atEnd 3 rfl
theorem d_BR_atEnd_8 : decode M_BR_atEnd.2.1 8 = .ok (.if_icmp .ne 7, 3) := fx_d (q := (8, .if_icmp .ne 7, 3)) D_BR_atEnd 4 rfl
theorem d_BR_atEnd_11 : decode M_BR_atEnd.2.1 11 = .ok (.iconst 1, 1) := fx_d (q := (11, .iconst 1, 1)) D_BR_atEnd 5 rfl
theorem d_BR_atEnd_12 : decode M_BR_atEnd.2.1 12 = .ok (.goto 4, 3) := fx_d (q := (12, .goto 4, 3)) D_BR_atEnd 6 rfl
theorem d_BR_atEnd_15 : decode M_BR_atEnd.2.1 15 = .ok (.iconst 0, 1) := fx_d (q := (15, .iconst 0, 1)) D_BR_atEnd 7 rfl
theorem d_BR_atEnd_16 : decode M_BR_atEnd.2.1 16 = .ok (.ireturn, 1) := fx_d (q := (16, .ireturn, 1)) D_BR_atEnd 8 rfl
