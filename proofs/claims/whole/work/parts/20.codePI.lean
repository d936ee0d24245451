set_option maxRecDepth 100000 in
def L_PI_init : List (Nat × Instr × Nat) := [(0, .aload_n 0, 1), (1, .invokespecial 3, 3), (4, .aload_n 0, 1), (5, .sipush 960, 3), (8, .newarray .int, 2), (10, .putfield 9, 3), (13, .aload_n 0, 1), (14, .iconst 1, 1), (15, .putfield 15, 3), (18, .aload_n 0, 1), (19, .iconst 1, 1), (20, .putfield 19, 3), (23, .return_, 1)]
set_option maxRecDepth 100000 in
theorem D_PI_init : ∀ q ∈ L_PI_init, decode prog_8_method_1_code q.1 = .ok q.2 := by decide +kernel
theorem d_PI_init_0 : decode M_PI_init.2.1 0 = .ok (.aload_n 0, 1) := fx_d (q := (0, .aload_n 0, 1)) D_PI_init 0 rfl
theorem d_PI_init_1 : decode M_PI_init.2.1 1 = .ok (.invokespecial 3, 3) := fx_d (q := (1, .invokespecial 3, 3)) D_PI_init 1 rfl
theorem d_PI_init_4 : decode M_PI_init.2.1 4 = .ok (.aload_n 0, 1) := fx_d (q := (4, .aload_n 0, 1)) D_PI_init 2 rfl
theorem d_PI_init_5 : decode M_PI_init.2.1 5 = .ok (.sipush 960, 3) := fx_d (q := (5, .sipush 960, 3)) D_PI_init 3 rfl
theorem d_PI_init_8 : decode M_PI_init.2.1 8 = .ok (.newarray .int, 2) := fx_d (q := (8, .newarray .int, 2)) D_PI_init 4 rfl
theorem d_PI_init_10 : decode M_PI_init.2.1 10 = .ok (.putfield 9, 3) := fx_d (q := (10, .putfield 9, 3)) D_PI_init 5 rfl
theorem d_PI_init_13 : decode M_PI_init.2.1 13 = .ok (.aload_n 0, 1) := fx_d (q := (13, .aload_n 0, 1)) D_PI_init 6 rfl
theorem d_PI_init_14 : decode M_PI_init.2.1 14 = .ok (.iconst 1, 1) := fx_d (q := (14, .iconst 1, 1)) D_PI_init 7 rfl
theorem d_PI_init_15 : decode M_PI_init.2.1 15 = .ok (.putfield 15, 3) := fx_d (q := (15, .putfield 15, 3)) D_PI_init 8 rfl
theorem d_PI_init_18 : decode M_PI_init.2.1 18 = .ok (.aload_n 0, 1) := fx_d (q := (18, .aload_n 0, 1)) D_PI_init 9 rfl
theorem d_PI_init_19 : decode M_PI_init.2.1 19 = .ok (.iconst 1, 1) := fx_d (q := (19, .iconst 1, 1)) D_PI_init 10 rfl
theorem d_PI_init_20 : decode M_PI_init.2.1 20 = .ok (.putfield 19, 3) := fx_d (q := (20, .putfield 19, 3)) D_PI_init 11 rfl
theorem d_PI_init_23 : decode M_PI_init.2.1 23 = .ok (.return_, 1) := fx_d (q := (23, .return_, 1)) D_PI_init 12 rfl
set_option maxRecDepth 100000 in
def L_PI_has : List (Nat × Instr × Nat) := [(0, .iload_n 1, 1), (1, .ifCond .lt 27, 3), (4, .iload_n 1, 1), (5, .aload_n 0, 1), (6, .getfield 15, 3), (9, .if_icmp .ge 19, 3), (12, .iload_n 2, 1), (13, .ifCond .lt 15, 3), (16, .iload_n 2, 1), (17, .aload_n 0, 1), (18, .getfield 19, 3), (21, .if_icmp .ge 7, 3), (24, .iconst 1, 1), (25, .goto 4, 3), (28, .iconst 0, 1), (29, .ireturn, 1)]
set_option maxRecDepth 100000 in
theorem D_PI_has : ∀ q ∈ L_PI_has, decode prog_8_method_3_code q.1 = .ok q.2 := by decide +kernel
theorem d_PI_has_0 : decode M_PI_has.2.1 0 = .ok (.iload_n 1, 1) := fx_d (q := (0, .iload_n 1, 1)) D_PI_has 0 rfl
theorem d_PI_has_1 : decode M_PI_has.2.1 1 = .ok (.ifCond .lt 27, 3) := fx_d (q := (1, .ifCond .lt 27, 3)) D_PI_has 1 rfl
theorem d_PI_has_4 : decode M_PI_has.2.1 4 = .ok (.iload_n 1, 1) := fx_d (q := (4, .iload_n 1, 1)) D_PI_has 2 rfl
theorem d_PI_has_5 : decode M_PI_has.2.1 5 = .ok (.aload_n 0, 1) := fx_d (q := (5, .aload_n 0, 1)) D_PI_has 3 rfl
theorem d_PI_has_6 : decode M_PI_has.2.1 6 = .ok (.getfield 15, 3) := fx_d (q := (6, .getfield 15, 3)) D_PI_has 4 rfl
theorem d_PI_has_9 : decode M_PI_has.2.1 9 = .ok (.if_icmp .ge 19, 3) := fx_d (q := (9, .if_icmp .ge 19, 3)) D_PI_has 5 rfl
theorem d_PI_has_12 : decode M_PI_has.2.1 12 = .ok (.iload_n 2, 1) := fx_d (q := (12, .iload_n 2, 1)) D_PI_has 6 rfl
theorem d_PI_has_13 : decode M_PI_has.2.1 13 = .ok (.ifCond .lt 15, 3) := fx_d (q := (13, .ifCond .lt 15, 3)) D_PI_has 7 rfl
theorem d_PI_has_16 : decode M_PI_has.2.1 16 = .ok (.iload_n 2, 1) := fx_d (q := (16, .iload_n 2, 1)) D_PI_has 8 rfl
theorem d_PI_has_17 : decode M_PI_has.2.1 17 = .ok (.aload_n 0, 1) := fx_d (q := (17, .aload_n 0, 1)) D_PI_has 9 rfl
theorem d_PI_has_18 : decode M_PI_has.2.1 18 = .ok (.getfield 19, 3) := fx_d (q := (18, .getfield 19, 3)) D_PI_has 10 rfl
theorem d_PI_has_21 : decode M_PI_has.2.1 21 = .ok (.if_icmp .ge 7, 3) := fx_d (q := (21, .if_icmp .ge 7, 3)) D_PI_has 11 rfl
theorem d_PI_has_24 : decode M_PI_has.2.1 24 = .ok (.iconst 1, 1) := fx_d (q := (24, .iconst 1, 1)) D_PI_has 12 rfl
theorem d_PI_has_25 : decode M_PI_has.2.1 25 = .ok (.goto 4, 3) := fx_d (q := (25, .goto 4, 3)) D_PI_has 13 rfl
theorem d_PI_has_28 : decode M_PI_has.2.1 28 = .ok (.iconst 0, 1) := fx_d (q := (28, .iconst 0, 1)) D_PI_has 14 rfl
theorem d_PI_has_29 : decode M_PI_has.2.1 29 = .ok (.ireturn, 1) := fx_d (q := (29, .ireturn, 1)) D_PI_has 15 rfl
set_option maxRecDepth 100000 in
def L_PI_pixel : List (Nat × Instr × Nat) := [(0, .aload_n 0, 1), (1, .iload_n 1, 1), (2, .iload_n 2, 1), (3, .invokevirtual 32, 3), (6, .ifCond .eq 19, 3), (9, .aload_n 0, 1), (10, .getfield 9, 3), (13, .iload_n 2, 1), (14, .aload_n 0, 1), (15, .getfield 15, 3), (18, .imul, 1), (19, .iload_n 1, 1), (20, .iadd, 1), (21, .iaload, 1), (22, .goto 4, 3), (25, .iconst 0, 1), (26, .ireturn, 1)]
set_option maxRecDepth 100000 in
theorem D_PI_pixel : ∀ q ∈ L_PI_pixel, decode prog_8_method_4_code q.1 = .ok q.2 := by decide +kernel
theorem d_PI_pixel_0 : decode M_PI_pixel.2.1 0 = .ok (.aload_n 0, 1) := fx_d (q := (0, .aload_n 0, 1)) D_PI_pixel 0 rfl
theorem d_PI_pixel_1 : decode M_PI_pixel.2.1 1 = .ok (.iload_n 1, 1) := fx_d (q := (1, .iload_n 1, 1)) D_PI_pixel 1 rfl
theorem d_PI_pixel_2 : decode M_PI_pixel.2.1 2 = .ok (.iload_n 2, 1) := fx_d (q := (2, .iload_n 2, 1)) D_PI_pixel 2 rfl
theorem d_PI_pixel_3 : decode M_PI_pixel.2.1 3 = .ok (.invokevirtual 32, 3) := fx_d (q := (3, .invokevirtual 32, 3)) D_PI_pixel 3 rfl
theorem d_PI_pixel_6 : decode M_PI_pixel.2.1 6 = .ok (.ifCond .eq 19, 3) := fx_d (q := (6, .ifCond .eq 19, 3)) D_PI_pixel 4 rfl
theorem d_PI_pixel_9 : decode M_PI_pixel.2.1 9 = .ok (.aload_n 0, 1) := fx_d (q := (9, .aload_n 0, 1)) D_PI_pixel 5 rfl
theorem d_PI_pixel_10 : decode M_PI_pixel.2.1 10 = .ok (.getfield 9, 3) := fx_d (q := (10, .getfield 9, 3)) D_PI_pixel 6 rfl
theorem d_PI_pixel_13 : decode M_PI_pixel.2.1 13 = .ok (.iload_n 2, 1) := fx_d (q := (13, .iload_n 2, 1)) D_PI_pixel 7 rfl
theorem d_PI_pixel_14 : decode M_PI_pixel.2.1 14 = .ok (.aload_n 0, 1) := fx_d (q := (14, .aload_n 0, 1)) D_PI_pixel 8 rfl
theorem d_PI_pixel_15 : decode M_PI_pixel.2.1 15 = .ok (.getfield 15, 3) := fx_d (q := (15, .getfield 15, 3)) D_PI_pixel 9 rfl
theorem d_PI_pixel_18 : decode M_PI_pixel.2.1 18 = .ok (.imul, 1) := fx_d (q := (18, .imul, 1)) D_PI_pixel 10 rfl
theorem d_PI_pixel_19 : decode M_PI_pixel.2.1 19 = .ok (.iload_n 1, 1) := fx_d (q := (19, .iload_n 1, 1)) D_PI_pixel 11 rfl
theorem d_PI_pixel_20 : decode M_PI_pixel.2.1 20 = .ok (.iadd, 1) := fx_d (q := (20, .iadd, 1)) D_PI_pixel 12 rfl
theorem d_PI_pixel_21 : decode M_PI_pixel.2.1 21 = .ok (.iaload, 1) := fx_d (q := (21, .iaload, 1)) D_PI_pixel 13 rfl
theorem d_PI_pixel_22 : decode M_PI_pixel.2.1 22 = .ok (.goto 4, 3) := fx_d (q := (22, .goto 4, 3)) D_PI_pixel 14 rfl
theorem d_PI_pixel_25 : decode M_PI_pixel.2.1 25 = .ok (.iconst 0, 1) := fx_d (q := (25, .iconst 0, 1)) D_PI_pixel 15 rfl
theorem d_PI_pixel_26 : decode M_PI_pixel.2.1 26 = .ok (.ireturn, 1) := fx_d (q := (26, .ireturn, 1)) D_PI_pixel 16 rfl
set_option maxRecDepth 100000 in
def L_PI_clear : List (Nat × Instr × Nat) := [(0, .aload_n 0, 1), (1, .iload_n 1, 1), (2, .putfield 22, 3), (5, .aload_n 0, 1), (6, .iload_n 2, 1), (7, .putfield 15, 3), (10, .aload_n 0, 1), (11, .iload_n 3, 1), (12, .putfield 19, 3), (15, .aload_n 0, 1), (16, .getfield 9, 3), (19, .iconst 0, 1), (20, .invokestatic 26, 3), (23, .return_, 1)]
set_option maxRecDepth 100000 in
theorem D_PI_clear : ∀ q ∈ L_PI_clear, decode prog_8_method_2_code q.1 = .ok q.2 := by decide +kernel
theorem d_PI_clear_0 : decode M_PI_clear.2.1 0 = .ok (.aload_n 0, 1) := fx_d (q := (0, .aload_n 0, 1)) D_PI_clear 0 rfl
theorem d_PI_clear_1 : decode M_PI_clear.2.1 1 = .ok (.iload_n 1, 1) := fx_d (q := (1, .iload_n 1, 1)) D_PI_clear 1 rfl
theorem d_PI_clear_2 : decode M_PI_clear.2.1 2 = .ok (.putfield 22, 3) := fx_d (q := (2, .putfield 22, 3)) D_PI_clear 2 rfl
theorem d_PI_clear_5 : decode M_PI_clear.2.1 5 = .ok (.aload_n 0, 1) := fx_d (q := (5, .aload_n 0, 1)) D_PI_clear 3 rfl
theorem d_PI_clear_6 : decode M_PI_clear.2.1 6 = .ok (.iload_n 2, 1) := fx_d (q := (6, .iload_n 2, 1)) D_PI_clear 4 rfl
theorem d_PI_clear_7 : decode M_PI_clear.2.1 7 = .ok (.putfield 15, 3) := fx_d (q := (7, .putfield 15, 3)) D_PI_clear 5 rfl
theorem d_PI_clear_10 : decode M_PI_clear.2.1 10 = .ok (.aload_n 0, 1) := fx_d (q := (10, .aload_n 0, 1)) D_PI_clear 6 rfl
theorem d_PI_clear_11 : decode M_PI_clear.2.1 11 = .ok (.iload_n 3, 1) := fx_d (q := (11, .iload_n 3, 1)) D_PI_clear 7 rfl
theorem d_PI_clear_12 : decode M_PI_clear.2.1 12 = .ok (.putfield 19, 3) := fx_d (q := (12, .putfield 19, 3)) D_PI_clear 8 rfl
theorem d_PI_clear_15 : decode M_PI_clear.2.1 15 = .ok (.aload_n 0, 1) := fx_d (q := (15, .aload_n 0, 1)) D_PI_clear 9 rfl
theorem d_PI_clear_16 : decode M_PI_clear.2.1 16 = .ok (.getfield 9, 3) := fx_d (q := (16, .getfield 9, 3)) D_PI_clear 10 rfl
theorem d_PI_clear_19 : decode M_PI_clear.2.1 19 = .ok (.iconst 0, 1) := fx_d (q := (19, .iconst 0, 1)) D_PI_clear 11 rfl
theorem d_PI_clear_20 : decode M_PI_clear.2.1 20 = .ok (.invokestatic 26, 3) := fx_d (q := (20, .invokestatic 26, 3)) D_PI_clear 12 rfl
theorem d_PI_clear_23 : decode M_PI_clear.2.1 23 = .ok (.return_, 1) := fx_d (q := (23, .return_, 1)) D_PI_clear 13 rfl
set_option maxRecDepth 100000 in
def L_PI_paint : List (Nat × Instr × Nat) := [(0, .aload_n 0, 1), (1, .iload_n 1, 1), (2, .iload_n 2, 1), (3, .invokevirtual 32, 3), (6, .ifCond .eq 17, 3), (9, .aload_n 0, 1), (10, .getfield 9, 3), (13, .iload_n 2, 1), (14, .aload_n 0, 1), (15, .getfield 15, 3), (18, .imul, 1), (19, .iload_n 1, 1), (20, .iadd, 1), (21, .iload_n 3, 1), (22, .iastore, 1), (23, .return_, 1)]
set_option maxRecDepth 100000 in
theorem D_PI_paint : ∀ q ∈ L_PI_paint, decode prog_8_method_5_code q.1 = .ok q.2 := by decide +kernel
theorem d_PI_paint_0 : decode M_PI_paint.2.1 0 = .ok (.aload_n 0, 1) := fx_d (q := (0, .aload_n 0, 1)) D_PI_paint 0 rfl
theorem d_PI_paint_1 : decode M_PI_paint.2.1 1 = .ok (.iload_n 1, 1) := fx_d (q := (1, .iload_n 1, 1)) D_PI_paint 1 rfl
theorem d_PI_paint_2 : decode M_PI_paint.2.1 2 = .ok (.iload_n 2, 1) := fx_d (q := (2, .iload_n 2, 1)) D_PI_paint 2 rfl
theorem d_PI_paint_3 : decode M_PI_paint.2.1 3 = .ok (.invokevirtual 32, 3) := fx_d (q := (3, .invokevirtual 32, 3)) D_PI_paint 3 rfl
theorem d_PI_paint_6 : decode M_PI_paint.2.1 6 = .ok (.ifCond .eq 17, 3) := fx_d (q := (6, .ifCond .eq 17, 3)) D_PI_paint 4 rfl
theorem d_PI_paint_9 : decode M_PI_paint.2.1 9 = .ok (.aload_n 0, 1) := fx_d (q := (9, .aload_n 0, 1)) D_PI_paint 5 rfl
theorem d_PI_paint_10 : decode M_PI_paint.2.1 10 = .ok (.getfield 9, 3) := fx_d (q := (10, .getfield 9, 3)) D_PI_paint 6 rfl
theorem d_PI_paint_13 : decode M_PI_paint.2.1 13 = .ok (.iload_n 2, 1) := fx_d (q := (13, .iload_n 2, 1)) D_PI_paint 7 rfl
theorem d_PI_paint_14 : decode M_PI_paint.2.1 14 = .ok (.aload_n 0, 1) := fx_d (q := (14, .aload_n 0, 1)) D_PI_paint 8 rfl
theorem d_PI_paint_15 : decode M_PI_paint.2.1 15 = .ok (.getfield 15, 3) := fx_d (q := (15, .getfield 15, 3)) D_PI_paint 9 rfl
theorem d_PI_paint_18 : decode M_PI_paint.2.1 18 = .ok (.imul, 1) := fx_d (q := (18, .imul, 1)) D_PI_paint 10 rfl
theorem d_PI_paint_19 : decode M_PI_paint.2.1 19 = .ok (.iload_n 1, 1) := fx_d (q := (19, .iload_n 1, 1)) D_PI_paint 11 rfl
theorem d_PI_paint_20 : decode M_PI_paint.2.1 20 = .ok (.iadd, 1) := fx_d (q := (20, .iadd, 1)) D_PI_paint 12 rfl
theorem d_PI_paint_21 : decode M_PI_paint.2.1 21 = .ok (.iload_n 3, 1) := fx_d (q := (21, .iload_n 3, 1)) D_PI_paint 13 rfl
theorem d_PI_paint_22 : decode M_PI_paint.2.1 22 = .ok (.iastore, 1) := fx_d (q := (22, .iastore, 1)) D_PI_paint 14 rfl
theorem d_PI_paint_23 : decode M_PI_paint.2.1 23 = .ok (.return_, 1) := fx_d (q := (23, .return_, 1)) D_PI_paint 15 rfl
set_option maxRecDepth 100000 in
def L_PI_firstChange : List (Nat × Instr × Nat) := [(0, .iload_n 2, 1), (1, .istore 4, 2), (3, .iload 4, 2), (5, .aload_n 0, 1), (6, .getfield 15, 3), (9, .if_icmp .ge 41, 3), (12, .aload_n 0, 1), (13, .iload 4, 2), (15, .iload_n 1, 1), (16, .invokevirtual 36, 3), (19, .iload_n 3, 1), (20, .if_icmp .eq 24, 3), (23, .iload 4, 2), (25, .ifCond .eq 16, 3), (28, .aload_n 0, 1), (29, .iload 4, 2), (31, .iconst 1, 1), (32, .isub, 1), (33, .iload_n 1, 1), (34, .invokevirtual 36, 3), (37, .iload_n 3, 1), (38, .if_icmp .ne 6, 3), (41, .iload 4, 2), (43, .ireturn, 1), (44, .iinc 4 1, 3), (47, .goto (-44), 3), (50, .aload_n 0, 1), (51, .getfield 15, 3), (54, .ireturn, 1)]
set_option maxRecDepth 100000 in
theorem D_PI_firstChange : ∀ q ∈ L_PI_firstChange, decode prog_8_method_10_code q.1 = .ok q.2 := by decide +kernel
theorem d_PI_firstChange_0 : decode M_PI_firstChange.2.1 0 = .ok (.iload_n 2, 1) := fx_d (q := (0, .iload_n 2, 1)) D_PI_firstChange 0 rfl
theorem d_PI_firstChange_1 : decode M_PI_firstChange.2.1 1 = .ok (.istore 4, 2) := fx_d (q := (1, .istore 4, 2)) D_PI_firstChange 1 rfl
theorem d_PI_firstChange_3 : decode M_PI_firstChange.2.1 3 = .ok (.iload 4, 2) := fx_d (q := (3, .iload 4, 2)) D_PI_firstChange 2 rfl
theorem d_PI_firstChange_5 : decode M_PI_firstChange.2.1 5 = .ok (.aload_n 0, 1) := fx_d (q := (5, .aload_n 0, 1)) D_PI_firstChange 3 rfl
theorem d_PI_firstChange_6 : decode M_PI_firstChange.2.1 6 = .ok (.getfield 15, 3) := fx_d (q := (6, .getfield 15, 3)) D_PI_firstChange 4 rfl
theorem d_PI_firstChange_9 : decode M_PI_firstChange.2.1 9 = .ok (.if_icmp .ge 41, 3) := fx_d (q := (9, .if_icmp .ge 41, 3)) D_PI_firstChange 5 rfl
theorem d_PI_firstChange_12 : decode M_PI_firstChange.2.1 12 = .ok (.aload_n 0, 1) := fx_d (q := (12, .aload_n 0, 1)) D_PI_firstChange 6 rfl
theorem d_PI_firstChange_13 : decode M_PI_firstChange.2.1 13 = .ok (.iload 4, 2) := fx_d (q := (13, .iload 4, 2)) D_PI_firstChange 7 rfl
theorem d_PI_firstChange_15 : decode M_PI_firstChange.2.1 15 = .ok (.iload_n 1, 1) := fx_d (q := (15, .iload_n 1, 1)) D_PI_firstChange 8 rfl
theorem d_PI_firstChange_16 : decode M_PI_firstChange.2.1 16 = .ok (.invokevirtual 36, 3) := fx_d (q := (16, .invokevirtual 36, 3)) D_PI_firstChange 9 rfl
theorem d_PI_firstChange_19 : decode M_PI_firstChange.2.1 19 = .ok (.iload_n 3, 1) := fx_d (q := (19, .iload_n 3, 1)) D_PI_firstChange 10 rfl
theorem d_PI_firstChange_20 : decode M_PI_firstChange.2.1 20 = .ok (.if_icmp .eq 24, 3) := fx_d (q := (20, .if_icmp .eq 24, 3)) D_PI_firstChange 11 rfl
theorem d_PI_firstChange_23 : decode M_PI_firstChange.2.1 23 = .ok (.iload 4, 2) := fx_d (q := (23, .iload 4, 2)) D_PI_firstChange 12 rfl
theorem d_PI_firstChange_25 : decode M_PI_firstChange.2.1 25 = .ok (.ifCond .eq 16, 3) := fx_d (q := (25, .ifCond .eq 16, 3)) D_PI_firstChange 13 rfl
theorem d_PI_firstChange_28 : decode M_PI_firstChange.2.1 28 = .ok (.aload_n 0, 1) := fx_d (q := (28, .aload_n 0, 1)) D_PI_firstChange 14 rfl
theorem d_PI_firstChange_29 : decode M_PI_firstChange.2.1 29 = .ok (.iload 4, 2) := fx_d (q := (29, .iload 4, 2)) D_PI_firstChange 15 rfl
theorem d_PI_firstChange_31 : decode M_PI_firstChange.2.1 31 = .ok (.iconst 1, 1) := fx_d (q := (31, .iconst 1, 1)) D_PI_firstChange 16 rfl
theorem d_PI_firstChange_32 : decode M_PI_firstChange.2.1 32 = .ok (.isub, 1) := fx_d (q := (32, .isub, 1)) D_PI_firstChange 17 rfl
theorem d_PI_firstChange_33 : decode M_PI_firstChange.2.1 33 = .ok (.iload_n 1, 1) := fx_d (q := (33, .iload_n 1, 1)) D_PI_firstChange 18 rfl
theorem d_PI_firstChange_34 : decode M_PI_firstChange.2.1 34 = .ok (.invokevirtual 36, 3) := fx_d (q := (34, .invokevirtual 36, 3)) D_PI_firstChange 19 rfl
theorem d_PI_firstChange_37 : decode M_PI_firstChange.2.1 37 = .ok (.iload_n 3, 1) := fx_d (q := (37, .iload_n 3, 1)) D_PI_firstChange 20 rfl
theorem d_PI_firstChange_38 : decode M_PI_firstChange.2.1 38 = .ok (.if_icmp .ne 6, 3) := fx_d (q := (38, .if_icmp .ne 6, 3)) D_PI_firstChange 21 rfl
theorem d_PI_firstChange_41 : decode M_PI_firstChange.2.1 41 = .ok (.iload 4, 2) := fx_d (q := (41, .iload 4, 2)) D_PI_firstChange 22 rfl
theorem d_PI_firstChange_43 : decode M_PI_firstChange.2.1 43 = .ok (.ireturn, 1) := fx_d (q := (43, .ireturn, 1)) D_PI_firstChange 23 rfl
theorem d_PI_firstChange_44 : decode M_PI_firstChange.2.1 44 = .ok (.iinc 4 1, 3) := fx_d (q := (44, .iinc 4 1, 3)) D_PI_firstChange 24 rfl
theorem d_PI_firstChange_47 : decode M_PI_firstChange.2.1 47 = .ok (.goto (-44), 3) := fx_d (q := (47, .goto (-44), 3)) D_PI_firstChange 25 rfl
theorem d_PI_firstChange_50 : decode M_PI_firstChange.2.1 50 = .ok (.aload_n 0, 1) := fx_d (q := (50, .aload_n 0, 1)) D_PI_firstChange 26 rfl
theorem d_PI_firstChange_51 : decode M_PI_firstChange.2.1 51 = .ok (.getfield 15, 3) := fx_d (q := (51, .getfield 15, 3)) D_PI_firstChange 27 rfl
theorem d_PI_firstChange_54 : decode M_PI_firstChange.2.1 54 = .ok (.ireturn, 1) := fx_d (q := (54, .ireturn, 1)) D_PI_firstChange 28 rfl
set_option maxRecDepth 100000 in
def L_PI_firstUnlike : List (Nat × Instr × Nat) := [(0, .iload_n 2, 1), (1, .istore 4, 2), (3, .iload 4, 2), (5, .aload_n 0, 1), (6, .getfield 15, 3), (9, .if_icmp .ge 23, 3), (12, .aload_n 0, 1), (13, .iload 4, 2), (15, .iload_n 1, 1), (16, .invokevirtual 36, 3), (19, .iload_n 3, 1), (20, .if_icmp .eq 6, 3), (23, .iload 4, 2), (25, .ireturn, 1), (26, .iinc 4 1, 3), (29, .goto (-26), 3), (32, .aload_n 0, 1), (33, .getfield 15, 3), (36, .ireturn, 1)]
set_option maxRecDepth 100000 in
theorem D_PI_firstUnlike : ∀ q ∈ L_PI_firstUnlike, decode prog_8_method_9_code q.1 = .ok q.2 := by decide +kernel
theorem d_PI_firstUnlike_0 : decode M_PI_firstUnlike.2.1 0 = .ok (.iload_n 2, 1) := fx_d (q := (0, .iload_n 2, 1)) D_PI_firstUnlike 0 rfl
theorem d_PI_firstUnlike_1 : decode M_PI_firstUnlike.2.1 1 = .ok (.istore 4, 2) := fx_d (q := (1, .istore 4, 2)) D_PI_firstUnlike 1 rfl
theorem d_PI_firstUnlike_3 : decode M_PI_firstUnlike.2.1 3 = .ok (.iload 4, 2) := fx_d (q := (3, .iload 4, 2)) D_PI_firstUnlike 2 rfl
theorem d_PI_firstUnlike_5 : decode M_PI_firstUnlike.2.1 5 = .ok (.aload_n 0, 1) := fx_d (q := (5, .aload_n 0, 1)) D_PI_firstUnlike 3 rfl
theorem d_PI_firstUnlike_6 : decode M_PI_firstUnlike.2.1 6 = .ok (.getfield 15, 3) := fx_d (q := (6, .getfield 15, 3)) D_PI_firstUnlike 4 rfl
theorem d_PI_firstUnlike_9 : decode M_PI_firstUnlike.2.1 9 = .ok (.if_icmp .ge 23, 3) := fx_d (q := (9, .if_icmp .ge 23, 3)) D_PI_firstUnlike 5 rfl
theorem d_PI_firstUnlike_12 : decode M_PI_firstUnlike.2.1 12 = .ok (.aload_n 0, 1) := fx_d (q := (12, .aload_n 0, 1)) D_PI_firstUnlike 6 rfl
theorem d_PI_firstUnlike_13 : decode M_PI_firstUnlike.2.1 13 = .ok (.iload 4, 2) := fx_d (q := (13, .iload 4, 2)) D_PI_firstUnlike 7 rfl
theorem d_PI_firstUnlike_15 : decode M_PI_firstUnlike.2.1 15 = .ok (.iload_n 1, 1) := fx_d (q := (15, .iload_n 1, 1)) D_PI_firstUnlike 8 rfl
theorem d_PI_firstUnlike_16 : decode M_PI_firstUnlike.2.1 16 = .ok (.invokevirtual 36, 3) := fx_d (q := (16, .invokevirtual 36, 3)) D_PI_firstUnlike 9 rfl
theorem d_PI_firstUnlike_19 : decode M_PI_firstUnlike.2.1 19 = .ok (.iload_n 3, 1) := fx_d (q := (19, .iload_n 3, 1)) D_PI_firstUnlike 10 rfl
theorem d_PI_firstUnlike_20 : decode M_PI_firstUnlike.2.1 20 = .ok (.if_icmp .eq 6, 3) := fx_d (q := (20, .if_icmp .eq 6, 3)) D_PI_firstUnlike 11 rfl
theorem d_PI_firstUnlike_23 : decode M_PI_firstUnlike.2.1 23 = .ok (.iload 4, 2) := fx_d (q := (23, .iload 4, 2)) D_PI_firstUnlike 12 rfl
theorem d_PI_firstUnlike_25 : decode M_PI_firstUnlike.2.1 25 = .ok (.ireturn, 1) := fx_d (q := (25, .ireturn, 1)) D_PI_firstUnlike 13 rfl
theorem d_PI_firstUnlike_26 : decode M_PI_firstUnlike.2.1 26 = .ok (.iinc 4 1, 3) := fx_d (q := (26, .iinc 4 1, 3)) D_PI_firstUnlike 14 rfl
theorem d_PI_firstUnlike_29 : decode M_PI_firstUnlike.2.1 29 = .ok (.goto (-26), 3) := fx_d (q := (29, .goto (-26), 3)) D_PI_firstUnlike 15 rfl
theorem d_PI_firstUnlike_32 : decode M_PI_firstUnlike.2.1 32 = .ok (.aload_n 0, 1) := fx_d (q := (32, .aload_n 0, 1)) D_PI_firstUnlike 16 rfl
theorem d_PI_firstUnlike_33 : decode M_PI_firstUnlike.2.1 33 = .ok (.getfield 15, 3) := fx_d (q := (33, .getfield 15, 3)) D_PI_firstUnlike 17 rfl
theorem d_PI_firstUnlike_36 : decode M_PI_firstUnlike.2.1 36 = .ok (.ireturn, 1) := fx_d (q := (36, .ireturn, 1)) D_PI_firstUnlike 18 rfl
set_option maxRecDepth 100000 in
def L_PI_rowBytes : List (Nat × Instr × Nat) := [(0, .aload_n 0, 1), (1, .getfield 22, 3), (4, .ifCond .eq 10, 3), (7, .aload_n 0, 1), (8, .getfield 15, 3), (11, .goto 13, 3), (14, .aload_n 0, 1), (15, .getfield 15, 3), (18, .bipush 7, 2), (20, .iadd, 1), (21, .bipush 8, 2), (23, .idiv, 1), (24, .ireturn, 1)]
set_option maxRecDepth 100000 in
theorem D_PI_rowBytes : ∀ q ∈ L_PI_rowBytes, decode prog_8_method_6_code q.1 = .ok q.2 := by decide +kernel
theorem d_PI_rowBytes_0 : decode M_PI_rowBytes.2.1 0 = .ok (.aload_n 0, 1) := fx_d (q := (0, .aload_n 0, 1)) D_PI_rowBytes 0 rfl
theorem d_PI_rowBytes_1 : decode M_PI_rowBytes.2.1 1 = .ok (.getfield 22, 3) := fx_d (q := (1, .getfield 22, 3)) D_PI_rowBytes 1 rfl
theorem d_PI_rowBytes_4 : decode M_PI_rowBytes.2.1 4 = .ok (.ifCond .eq 10, 3) := fx_d (q := (4, .ifCond .eq 10, 3)) D_PI_rowBytes 2 rfl
theorem d_PI_rowBytes_7 : decode M_PI_rowBytes.2.1 7 = .ok (.aload_n 0, 1) := fx_d (q := (7, .aload_n 0, 1)) D_PI_rowBytes 3 rfl
theorem d_PI_rowBytes_8 : decode M_PI_rowBytes.2.1 8 = .ok (.getfield 15, 3) := fx_d (q := (8, .getfield 15, 3)) D_PI_rowBytes 4 rfl
theorem d_PI_rowBytes_11 : decode M_PI_rowBytes.2.1 11 = .ok (.goto 13, 3) := fx_d (q := (11, .goto 13, 3)) D_PI_rowBytes 5 rfl
theorem d_PI_rowBytes_14 : decode M_PI_rowBytes.2.1 14 = .ok (.aload_n 0, 1) := fx_d (q := (14, .aload_n 0, 1)) D_PI_rowBytes 6 rfl
theorem d_PI_rowBytes_15 : decode M_PI_rowBytes.2.1 15 = .ok (.getfield 15, 3) := fx_d (q := (15, .getfield 15, 3)) D_PI_rowBytes 7 rfl
theorem d_PI_rowBytes_18 : decode M_PI_rowBytes.2.1 18 = .ok (.bipush 7, 2) := fx_d (q := (18, .bipush 7, 2)) D_PI_rowBytes 8 rfl
theorem d_PI_rowBytes_20 : decode M_PI_rowBytes.2.1 20 = .ok (.iadd, 1) := fx_d (q := (20, .iadd, 1)) D_PI_rowBytes 9 rfl
theorem d_PI_rowBytes_21 : decode M_PI_rowBytes.2.1 21 = .ok (.bipush 8, 2) := fx_d (q := (21, .bipush 8, 2)) D_PI_rowBytes 10 rfl
theorem d_PI_rowBytes_23 : decode M_PI_rowBytes.2.1 23 = .ok (.idiv, 1) := fx_d (q := (23, .idiv, 1)) D_PI_rowBytes 11 rfl
theorem d_PI_rowBytes_24 : decode M_PI_rowBytes.2.1 24 = .ok (.ireturn, 1) := fx_d (q := (24, .ireturn, 1)) D_PI_rowBytes 12 rfl
set_option maxRecDepth 100000 in
def L_PI_paintRowByte : List (Nat × Instr × Nat) := [(0, .aload_n 0, 1), (1, .getfield 22, 3), (4, .ifCond .eq 12, 3), (7, .aload_n 0, 1), (8, .iload_n 2, 1), (9, .iload_n 1, 1), (10, .iload_n 3, 1), (11, .invokevirtual 40, 3), (14, .iconst 1, 1), (15, .ireturn, 1), (16, .iconst 0, 1), (17, .istore 4, 2), (19, .iload 4, 2), (21, .bipush 8, 2), (23, .if_icmp .ge 57, 3), (26, .iload_n 3, 1), (27, .bipush 7, 2), (29, .iload 4, 2), (31, .isub, 1), (32, .ishr, 1), (33, .iconst 1, 1), (34, .iand, 1), (35, .istore 5, 2), (37, .iload 5, 2), (39, .iconst 1, 1), (40, .if_icmp .ne 20, 3), (43, .aload_n 0, 1), (44, .bipush 8, 2), (46, .iload_n 2, 1), (47, .imul, 1), (48, .iload 4, 2), (50, .iadd, 1), (51, .iload_n 1, 1), (52, .invokevirtual 32, 3), (55, .ifCond .ne 5, 3), (58, .iconst 0, 1), (59, .ireturn, 1), (60, .aload_n 0, 1), (61, .bipush 8, 2), (63, .iload_n 2, 1), (64, .imul, 1), (65, .iload 4, 2), (67, .iadd, 1), (68, .iload_n 1, 1), (69, .iload 5, 2), (71, .invokevirtual 40, 3), (74, .iinc 4 1, 3), (77, .goto (-58), 3), (80, .iconst 1, 1), (81, .ireturn, 1)]
set_option maxRecDepth 100000 in
theorem D_PI_paintRowByte : ∀ q ∈ L_PI_paintRowByte, decode prog_8_method_8_code q.1 = .ok q.2 := by decide +kernel
theorem d_PI_paintRowByte_0 : decode M_PI_paintRowByte.2.1 0 = .ok (.aload_n 0, 1) := fx_d (q := (0, .aload_n 0, 1)) D_PI_paintRowByte 0 rfl
theorem d_PI_paintRowByte_1 : decode M_PI_paintRowByte.2.1 1 = .ok (.getfield 22, 3) := fx_d (q := (1, .getfield 22, 3)) D_PI_paintRowByte 1 rfl
theorem d_PI_paintRowByte_4 : decode M_PI_paintRowByte.2.1 4 = .ok (.ifCond .eq 12, 3) := fx_d (q := (4, .ifCond .eq 12, 3)) D_PI_paintRowByte 2 rfl
theorem d_PI_paintRowByte_7 : decode M_PI_paintRowByte.2.1 7 = .ok (.aload_n 0, 1) := fx_d (q := (7, .aload_n 0, 1)) D_PI_paintRowByte 3 rfl
theorem d_PI_paintRowByte_8 : decode M_PI_paintRowByte.2.1 8 = .ok (.iload_n 2, 1) := fx_d (q := (8, .iload_n 2, 1)) D_PI_paintRowByte 4 rfl
theorem d_PI_paintRowByte_9 : decode M_PI_paintRowByte.2.1 9 = .ok (.iload_n 1, 1) := fx_d (q := (9, .iload_n 1, 1)) D_PI_paintRowByte 5 rfl
theorem d_PI_paintRowByte_10 : decode M_PI_paintRowByte.2.1 10 = .ok (.iload_n 3, 1) := fx_d (q := (10, .iload_n 3, 1)) D_PI_paintRowByte 6 rfl
theorem d_PI_paintRowByte_11 : decode M_PI_paintRowByte.2.1 11 = .ok (.invokevirtual 40, 3) := fx_d (q := (11, .invokevirtual 40, 3)) D_PI_paintRowByte 7 rfl
theorem d_PI_paintRowByte_14 : decode M_PI_paintRowByte.2.1 14 = .ok (.iconst 1, 1) := fx_d (q := (14, .iconst 1, 1)) D_PI_paintRowByte 8 rfl
theorem d_PI_paintRowByte_15 : decode M_PI_paintRowByte.2.1 15 = .ok (.ireturn, 1) := fx_d (q := (15, .ireturn, 1)) D_PI_paintRowByte 9 rfl
theorem d_PI_paintRowByte_16 : decode M_PI_paintRowByte.2.1 16 = .ok (.iconst 0, 1) := fx_d (q := (16, .iconst 0, 1)) D_PI_paintRowByte 10 rfl
theorem d_PI_paintRowByte_17 : decode M_PI_paintRowByte.2.1 17 = .ok (.istore 4, 2) := fx_d (q := (17, .istore 4, 2)) D_PI_paintRowByte 11 rfl
theorem d_PI_paintRowByte_19 : decode M_PI_paintRowByte.2.1 19 = .ok (.iload 4, 2) := fx_d (q := (19, .iload 4, 2)) D_PI_paintRowByte 12 rfl
theorem d_PI_paintRowByte_21 : decode M_PI_paintRowByte.2.1 21 = .ok (.bipush 8, 2) := fx_d (q := (21, .bipush 8, 2)) D_PI_paintRowByte 13 rfl
theorem d_PI_paintRowByte_23 : decode M_PI_paintRowByte.2.1 23 = .ok (.if_icmp .ge 57, 3) := fx_d (q := (23, .if_icmp .ge 57, 3)) D_PI_paintRowByte 14 rfl
theorem d_PI_paintRowByte_26 : decode M_PI_paintRowByte.2.1 26 = .ok (.iload_n 3, 1) := fx_d (q := (26, .iload_n 3, 1)) D_PI_paintRowByte 15 rfl
theorem d_PI_paintRowByte_27 : decode M_PI_paintRowByte.2.1 27 = .ok (.bipush 7, 2) := fx_d (q := (27, .bipush 7, 2)) D_PI_paintRowByte 16 rfl
theorem d_PI_paintRowByte_29 : decode M_PI_paintRowByte.2.1 29 = .ok (.iload 4, 2) := fx_d (q := (29, .iload 4, 2)) D_PI_paintRowByte 17 rfl
theorem d_PI_paintRowByte_31 : decode M_PI_paintRowByte.2.1 31 = .ok (.isub, 1) := fx_d (q := (31, .isub, 1)) D_PI_paintRowByte 18 rfl
theorem d_PI_paintRowByte_32 : decode M_PI_paintRowByte.2.1 32 = .ok (.ishr, 1) := fx_d (q := (32, .ishr, 1)) D_PI_paintRowByte 19 rfl
theorem d_PI_paintRowByte_33 : decode M_PI_paintRowByte.2.1 33 = .ok (.iconst 1, 1) := fx_d (q := (33, .iconst 1, 1)) D_PI_paintRowByte 20 rfl
theorem d_PI_paintRowByte_34 : decode M_PI_paintRowByte.2.1 34 = .ok (.iand, 1) := fx_d (q := (34, .iand, 1)) D_PI_paintRowByte 21 rfl
theorem d_PI_paintRowByte_35 : decode M_PI_paintRowByte.2.1 35 = .ok (.istore 5, 2) := fx_d (q := (35, .istore 5, 2)) D_PI_paintRowByte 22 rfl
theorem d_PI_paintRowByte_37 : decode M_PI_paintRowByte.2.1 37 = .ok (.iload 5, 2) := fx_d (q := (37, .iload 5, 2)) D_PI_paintRowByte 23 rfl
theorem d_PI_paintRowByte_39 : decode M_PI_paintRowByte.2.1 39 = .ok (.iconst 1, 1) := fx_d (q := (39, .iconst 1, 1)) D_PI_paintRowByte 24 rfl
theorem d_PI_paintRowByte_40 : decode M_PI_paintRowByte.2.1 40 = .ok (.if_icmp .ne 20, 3) := fx_d (q := (40, .if_icmp .ne 20, 3)) D_PI_paintRowByte 25 rfl
theorem d_PI_paintRowByte_43 : decode M_PI_paintRowByte.2.1 43 = .ok (.aload_n 0, 1) := fx_d (q := (43, .aload_n 0, 1)) D_PI_paintRowByte 26 rfl
theorem d_PI_paintRowByte_44 : decode M_PI_paintRowByte.2.1 44 = .ok (.bipush 8, 2) := fx_d (q := (44, .bipush 8, 2)) D_PI_paintRowByte 27 rfl
theorem d_PI_paintRowByte_46 : decode M_PI_paintRowByte.2.1 46 = .ok (.iload_n 2, 1) := fx_d (q := (46, .iload_n 2, 1)) D_PI_paintRowByte 28 rfl
theorem d_PI_paintRowByte_47 : decode M_PI_paintRowByte.2.1 47 = .ok (.imul, 1) := fx_d (q := (47, .imul, 1)) D_PI_paintRowByte 29 rfl
theorem d_PI_paintRowByte_48 : decode M_PI_paintRowByte.2.1 48 = .ok (.iload 4, 2) := fx_d (q := (48, .iload 4, 2)) D_PI_paintRowByte 30 rfl
theorem d_PI_paintRowByte_50 : decode M_PI_paintRowByte.2.1 50 = .ok (.iadd, 1) := fx_d (q := (50, .iadd, 1)) D_PI_paintRowByte 31 rfl
theorem d_PI_paintRowByte_51 : decode M_PI_paintRowByte.2.1 51 = .ok (.iload_n 1, 1) := fx_d (q := (51, .iload_n 1, 1)) D_PI_paintRowByte 32 rfl
theorem d_PI_paintRowByte_52 : decode M_PI_paintRowByte.2.1 52 = .ok (.invokevirtual 32, 3) := fx_d (q := (52, .invokevirtual 32, 3)) D_PI_paintRowByte 33 rfl
theorem d_PI_paintRowByte_55 : decode M_PI_paintRowByte.2.1 55 = .ok (.ifCond .ne 5, 3) := fx_d (q := (55, .ifCond .ne 5, 3)) D_PI_paintRowByte 34 rfl
theorem d_PI_paintRowByte_58 : decode M_PI_paintRowByte.2.1 58 = .ok (.iconst 0, 1) := fx_d (q := (58, .iconst 0, 1)) D_PI_paintRowByte 35 rfl
theorem d_PI_paintRowByte_59 : decode M_PI_paintRowByte.2.1 59 = .ok (.ireturn, 1) := fx_d (q := (59, .ireturn, 1)) D_PI_paintRowByte 36 rfl
theorem d_PI_paintRowByte_60 : decode M_PI_paintRowByte.2.1 60 = .ok (.aload_n 0, 1) := fx_d (q := (60, .aload_n 0, 1)) D_PI_paintRowByte 37 rfl
theorem d_PI_paintRowByte_61 : decode M_PI_paintRowByte.2.1 61 = .ok (.bipush 8, 2) := fx_d (q := (61, .bipush 8, 2)) D_PI_paintRowByte 38 rfl
theorem d_PI_paintRowByte_63 : decode M_PI_paintRowByte.2.1 63 = .ok (.iload_n 2, 1) := fx_d (q := (63, .iload_n 2, 1)) D_PI_paintRowByte 39 rfl
theorem d_PI_paintRowByte_64 : decode M_PI_paintRowByte.2.1 64 = .ok (.imul, 1) := fx_d (q := (64, .imul, 1)) D_PI_paintRowByte 40 rfl
theorem d_PI_paintRowByte_65 : decode M_PI_paintRowByte.2.1 65 = .ok (.iload 4, 2) := fx_d (q := (65, .iload 4, 2)) D_PI_paintRowByte 41 rfl
theorem d_PI_paintRowByte_67 : decode M_PI_paintRowByte.2.1 67 = .ok (.iadd, 1) := fx_d (q := (67, .iadd, 1)) D_PI_paintRowByte 42 rfl
theorem d_PI_paintRowByte_68 : decode M_PI_paintRowByte.2.1 68 = .ok (.iload_n 1, 1) := fx_d (q := (68, .iload_n 1, 1)) D_PI_paintRowByte 43 rfl
theorem d_PI_paintRowByte_69 : decode M_PI_paintRowByte.2.1 69 = .ok (.iload 5, 2) := fx_d (q := (69, .iload 5, 2)) D_PI_paintRowByte 44 rfl
theorem d_PI_paintRowByte_71 : decode M_PI_paintRowByte.2.1 71 = .ok (.invokevirtual 40, 3) := fx_d (q := (71, .invokevirtual 40, 3)) D_PI_paintRowByte 45 rfl
theorem d_PI_paintRowByte_74 : decode M_PI_paintRowByte.2.1 74 = .ok (.iinc 4 1, 3) := fx_d (q := (74, .iinc 4 1, 3)) D_PI_paintRowByte 46 rfl
theorem d_PI_paintRowByte_77 : decode M_PI_paintRowByte.2.1 77 = .ok (.goto (-58), 3) := fx_d (q := (77, .goto (-58), 3)) D_PI_paintRowByte 47 rfl
theorem d_PI_paintRowByte_80 : decode M_PI_paintRowByte.2.1 80 = .ok (.iconst 1, 1) := fx_d (q := (80, .iconst 1, 1)) D_PI_paintRowByte 48 rfl
theorem d_PI_paintRowByte_81 : decode M_PI_paintRowByte.2.1 81 = .ok (.ireturn, 1) := fx_d (q := (81, .ireturn, 1)) D_PI_paintRowByte 49 rfl
set_option maxRecDepth 100000 in
def L_PI_rowByte : List (Nat × Instr × Nat) := [(0, .aload_n 0, 1), (1, .getfield 22, 3), (4, .ifCond .eq 10, 3), (7, .aload_n 0, 1), (8, .iload_n 2, 1), (9, .iload_n 1, 1), (10, .invokevirtual 36, 3), (13, .ireturn, 1), (14, .iconst 0, 1), (15, .istore_n 3, 1), (16, .bipush 8, 2), (18, .iload_n 2, 1), (19, .imul, 1), (20, .istore 4, 2), (22, .iload 4, 2), (24, .bipush 8, 2), (26, .iload_n 2, 1), (27, .imul, 1), (28, .bipush 8, 2), (30, .iadd, 1), (31, .if_icmp .ge 21, 3), (34, .iload_n 3, 1), (35, .iconst 1, 1), (36, .ishl, 1), (37, .aload_n 0, 1), (38, .iload 4, 2), (40, .iload_n 1, 1), (41, .invokevirtual 36, 3), (44, .ior, 1), (45, .istore_n 3, 1), (46, .iinc 4 1, 3), (49, .goto (-27), 3), (52, .iload_n 3, 1), (53, .ireturn, 1)]
set_option maxRecDepth 100000 in
theorem D_PI_rowByte : ∀ q ∈ L_PI_rowByte, decode prog_8_method_7_code q.1 = .ok q.2 := by decide +kernel
theorem d_PI_rowByte_0 : decode M_PI_rowByte.2.1 0 = .ok (.aload_n 0, 1) := fx_d (q := (0, .aload_n 0, 1)) D_PI_rowByte 0 rfl
theorem d_PI_rowByte_1 : decode M_PI_rowByte.2.1 1 = .ok (.getfield 22, 3) := fx_d (q := (1, .getfield 22, 3)) D_PI_rowByte 1 rfl
theorem d_PI_rowByte_4 : decode M_PI_rowByte.2.1 4 = .ok (.ifCond .eq 10, 3) := fx_d (q := (4, .ifCond .eq 10, 3)) D_PI_rowByte 2 rfl
theorem d_PI_rowByte_7 : decode M_PI_rowByte.2.1 7 = .ok (.aload_n 0, 1) := fx_d (q := (7, .aload_n 0, 1)) D_PI_rowByte 3 rfl
theorem d_PI_rowByte_8 : decode M_PI_rowByte.2.1 8 = .ok (.iload_n 2, 1) := fx_d (q := (8, .iload_n 2, 1)) D_PI_rowByte 4 rfl
theorem d_PI_rowByte_9 : decode M_PI_rowByte.2.1 9 = .ok (.iload_n 1, 1) := fx_d (q := (9, .iload_n 1, 1)) D_PI_rowByte 5 rfl
theorem d_PI_rowByte_10 : decode M_PI_rowByte.2.1 10 = .ok (.invokevirtual 36, 3) := fx_d (q := (10, .invokevirtual 36, 3)) D_PI_rowByte 6 rfl
theorem d_PI_rowByte_13 : decode M_PI_rowByte.2.1 13 = .ok (.ireturn, 1) := fx_d (q := (13, .ireturn, 1)) D_PI_rowByte 7 rfl
theorem d_PI_rowByte_14 : decode M_PI_rowByte.2.1 14 = .ok (.iconst 0, 1) := fx_d (q := (14, .iconst 0, 1)) D_PI_rowByte 8 rfl
theorem d_PI_rowByte_15 : decode M_PI_rowByte.2.1 15 = .ok (.istore_n 3, 1) := fx_d (q := (15, .istore_n 3, 1)) D_PI_rowByte 9 rfl
theorem d_PI_rowByte_16 : decode M_PI_rowByte.2.1 16 = .ok (.bipush 8, 2) := fx_d (q := (16, .bipush 8, 2)) D_PI_rowByte 10 rfl
theorem d_PI_rowByte_18 : decode M_PI_rowByte.2.1 18 = .ok (.iload_n 2, 1) := fx_d (q := (18, .iload_n 2, 1)) D_PI_rowByte 11 rfl
theorem d_PI_rowByte_19 : decode M_PI_rowByte.2.1 19 = .ok (.imul, 1) := fx_d (q := (19, .imul, 1)) D_PI_rowByte 12 rfl
theorem d_PI_rowByte_20 : decode M_PI_rowByte.2.1 20 = .ok (.istore 4, 2) := fx_d (q := (20, .istore 4, 2)) D_PI_rowByte 13 rfl
theorem d_PI_rowByte_22 : decode M_PI_rowByte.2.1 22 = .ok (.iload 4, 2) := fx_d (q := (22, .iload 4, 2)) D_PI_rowByte 14 rfl
theorem d_PI_rowByte_24 : decode M_PI_rowByte.2.1 24 = .ok (.bipush 8, 2) := fx_d (q := (24, .bipush 8, 2)) D_PI_rowByte 15 rfl
theorem d_PI_rowByte_26 : decode M_PI_rowByte.2.1 26 = .ok (.iload_n 2, 1) := fx_d (q := (26, .iload_n 2, 1)) D_PI_rowByte 16 rfl
theorem d_PI_rowByte_27 : decode M_PI_rowByte.2.1 27 = .ok (.imul, 1) := fx_d (q := (27, .imul, 1)) D_PI_rowByte 17 rfl
theorem d_PI_rowByte_28 : decode M_PI_rowByte.2.1 28 = .ok (.bipush 8, 2) := fx_d (q := (28, .bipush 8, 2)) D_PI_rowByte 18 rfl
theorem d_PI_rowByte_30 : decode M_PI_rowByte.2.1 30 = .ok (.iadd, 1) := fx_d (q := (30, .iadd, 1)) D_PI_rowByte 19 rfl
theorem d_PI_rowByte_31 : decode M_PI_rowByte.2.1 31 = .ok (.if_icmp .ge 21, 3) := fx_d (q := (31, .if_icmp .ge 21, 3)) D_PI_rowByte 20 rfl
theorem d_PI_rowByte_34 : decode M_PI_rowByte.2.1 34 = .ok (.iload_n 3, 1) := fx_d (q := (34, .iload_n 3, 1)) D_PI_rowByte 21 rfl
theorem d_PI_rowByte_35 : decode M_PI_rowByte.2.1 35 = .ok (.iconst 1, 1) := fx_d (q := (35, .iconst 1, 1)) D_PI_rowByte 22 rfl
theorem d_PI_rowByte_36 : decode M_PI_rowByte.2.1 36 = .ok (.ishl, 1) := fx_d (q := (36, .ishl, 1)) D_PI_rowByte 23 rfl
theorem d_PI_rowByte_37 : decode M_PI_rowByte.2.1 37 = .ok (.aload_n 0, 1) := fx_d (q := (37, .aload_n 0, 1)) D_PI_rowByte 24 rfl
theorem d_PI_rowByte_38 : decode M_PI_rowByte.2.1 38 = .ok (.iload 4, 2) := fx_d (q := (38, .iload 4, 2)) D_PI_rowByte 25 rfl
theorem d_PI_rowByte_40 : decode M_PI_rowByte.2.1 40 = .ok (.iload_n 1, 1) := fx_d (q := (40, .iload_n 1, 1)) D_PI_rowByte 26 rfl
theorem d_PI_rowByte_41 : decode M_PI_rowByte.2.1 41 = .ok (.invokevirtual 36, 3) := fx_d (q := (41, .invokevirtual 36, 3)) D_PI_rowByte 27 rfl
theorem d_PI_rowByte_44 : decode M_PI_rowByte.2.1 44 = .ok (.ior, 1) := fx_d (q := (44, .ior, 1)) D_PI_rowByte 28 rfl
theorem d_PI_rowByte_45 : decode M_PI_rowByte.2.1 45 = .ok (.istore_n 3, 1) := fx_d (q := (45, .istore_n 3, 1)) D_PI_rowByte 29 rfl
theorem d_PI_rowByte_46 : decode M_PI_rowByte.2.1 46 = .ok (.iinc 4 1, 3) := fx_d (q := (46, .iinc 4 1, 3)) D_PI_rowByte 30 rfl
theorem d_PI_rowByte_49 : decode M_PI_rowByte.2.1 49 = .ok (.goto (-27), 3) := fx_d (q := (49, .goto (-27), 3)) D_PI_rowByte 31 rfl
theorem d_PI_rowByte_52 : decode M_PI_rowByte.2.1 52 = .ok (.iload_n 3, 1) := fx_d (q := (52, .iload_n 3, 1)) D_PI_rowByte 32 rfl
theorem d_PI_rowByte_53 : decode M_PI_rowByte.2.1 53 = .ok (.ireturn, 1) := fx_d (q := (53, .ireturn, 1)) D_PI_rowByte 33 rfl
