set_option maxRecDepth 100000 in
def L_AR_fill : List (Nat × Instr × Nat) := [(0, .iconst 0, 1), (1, .istore_n 2, 1), (2, .aload_n 0, 1), (3, .arraylength, 1), (4, .istore_n 3, 1), (5, .iload_n 2, 1), (6, .iload_n 3, 1), (7, .if_icmp .ge 13, 3), (10, .aload_n 0, 1), (11, .iload_n 2, 1), (12, .iload_n 1, 1), (13, .iastore, 1), (14, .iinc 2 1, 3), (17, .goto (-12), 3), (20, .return_, 1)]
set_option maxRecDepth 100000 in
theorem D_AR_fill : ∀ q ∈ L_AR_fill, decode prog_22_method_103_code q.1 = .ok q.2 := by decide +kernel
theorem d_AR_fill_0 : decode M_AR_fill.2.1 0 = .ok (.iconst 0, 1) := fx_d (q := (0, .iconst 0, 1)) D_AR_fill 0 rfl
theorem d_AR_fill_1 : decode M_AR_fill.2.1 1 = .ok (.istore_n 2, 1) := fx_d (q := (1, .istore_n 2, 1)) D_AR_fill 1 rfl
theorem d_AR_fill_2 : decode M_AR_fill.2.1 2 = .ok (.aload_n 0, 1) := fx_d (q := (2, .aload_n 0, 1)) D_AR_fill 2 rfl
theorem d_AR_fill_3 : decode M_AR_fill.2.1 3 = .ok (.arraylength, 1) := fx_d (q := (3, .arraylength, 1)) D_AR_fill 3 rfl
theorem d_AR_fill_4 : decode M_AR_fill.2.1 4 = .ok (.istore_n 3, 1) := fx_d (q := (4, .istore_n 3, 1)) D_AR_fill 4 rfl
theorem d_AR_fill_5 : decode M_AR_fill.2.1 5 = .ok (.iload_n 2, 1) := fx_d (q := (5, .iload_n 2, 1)) D_AR_fill 5 rfl
theorem d_AR_fill_6 : decode M_AR_fill.2.1 6 = .ok (.iload_n 3, 1) := fx_d (q := (6, .iload_n 3, 1)) D_AR_fill 6 rfl
theorem d_AR_fill_7 : decode M_AR_fill.2.1 7 = .ok (.if_icmp .ge 13, 3) := fx_d (q := (7, .if_icmp .ge 13, 3)) D_AR_fill 7 rfl
theorem d_AR_fill_10 : decode M_AR_fill.2.1 10 = .ok (.aload_n 0, 1) := fx_d (q := (10, .aload_n 0, 1)) D_AR_fill 8 rfl
theorem d_AR_fill_11 : decode M_AR_fill.2.1 11 = .ok (.iload_n 2, 1) := fx_d (q := (11, .iload_n 2, 1)) D_AR_fill 9 rfl
theorem d_AR_fill_12 : decode M_AR_fill.2.1 12 = .ok (.iload_n 1, 1) := fx_d (q := (12, .iload_n 1, 1)) D_AR_fill 10 rfl
theorem d_AR_fill_13 : decode M_AR_fill.2.1 13 = .ok (.iastore, 1) := fx_d (q := (13, .iastore, 1)) D_AR_fill 11 rfl
theorem d_AR_fill_14 : decode M_AR_fill.2.1 14 = .ok (.iinc 2 1, 3) := fx_d (q := (14, .iinc 2 1, 3)) D_AR_fill 12 rfl
theorem d_AR_fill_17 : decode M_AR_fill.2.1 17 = .ok (.goto (-12), 3) := fx_d (q := (17, .goto (-12), 3)) D_AR_fill 13 rfl
theorem d_AR_fill_20 : decode M_AR_fill.2.1 20 = .ok (.return_, 1) := fx_d (q := (20, .return_, 1)) D_AR_fill 14 rfl
