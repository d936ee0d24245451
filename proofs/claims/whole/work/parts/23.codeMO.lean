set_option maxRecDepth 100000 in
def L_MO_init : List (Nat × Instr × Nat) := [(0, .aload_n 0, 1), (1, .invokespecial 1, 3), (4, .aload_n 0, 1), (5, .iconst 1, 1), (6, .putfield 7, 3), (9, .aload_n 0, 1), (10, .iconst 1, 1), (11, .putfield 13, 3), (14, .aload_n 0, 1), (15, .sipush 960, 3), (18, .newarray .int, 2), (20, .putfield 16, 3), (23, .aload_n 0, 1), (24, .sipush 2000, 3), (27, .newarray .int, 2), (29, .putfield 20, 3), (32, .aload_n 0, 1), (33, .bipush (-9), 2), (35, .putfield 23, 3), (38, .aload_n 0, 1), (39, .bipush (-9), 2), (41, .putfield 26, 3), (44, .aload_n 0, 1), (45, .bipush (-9), 2), (47, .putfield 29, 3), (50, .aload_n 0, 1), (51, .bipush (-9), 2), (53, .putfield 32, 3), (56, .aload_n 0, 1), (57, .sipush 960, 3), (60, .newarray .int, 2), (62, .putfield 35, 3), (65, .aload_n 0, 1), (66, .bipush 84, 2), (68, .newarray .int, 2), (70, .putfield 38, 3), (73, .aload_n 0, 1), (74, .bipush 40, 2), (76, .newarray .int, 2), (78, .putfield 41, 3), (81, .aload_n 0, 1), (82, .bipush 40, 2), (84, .newarray .int, 2), (86, .putfield 44, 3), (89, .aload_n 0, 1), (90, .sipush 400, 3), (93, .newarray .int, 2), (95, .putfield 47, 3), (98, .aload_n 0, 1), (99, .sipush 700, 3), (102, .newarray .int, 2), (104, .putfield 50, 3), (107, .aload_n 0, 1), (108, .sipush 700, 3), (111, .newarray .int, 2), (113, .putfield 53, 3), (116, .aload_n 0, 1), (117, .bipush 24, 2), (119, .newarray .int, 2), (121, .putfield 56, 3), (124, .aload_n 0, 1), (125, .bipush 24, 2), (127, .newarray .int, 2), (129, .putfield 59, 3), (132, .aload_n 0, 1), (133, .bipush 9, 2), (135, .newarray .boolean, 2), (137, .putfield 62, 3), (140, .aload_n 0, 1), (141, .bipush 9, 2), (143, .newarray .int, 2), (145, .putfield 66, 3), (148, .aload_n 0, 1), (149, .bipush 9, 2), (151, .newarray .long, 2), (153, .putfield 69, 3), (156, .aload_n 0, 1), (157, .bipush 9, 2), (159, .newarray .long, 2), (161, .putfield 73, 3), (164, .aload_n 0, 1), (165, .iconst 0, 1), (166, .sipush 309, 3), (169, .bipush 71, 2), (171, .bipush 23, 2), (173, .bipush 24, 2), (175, .bipush 27, 2), (177, .bipush 28, 2), (179, .invokevirtual 76, 3), (182, .aload_n 0, 1), (183, .bipush 6, 2), (185, .bipush 30, 2), (187, .bipush 31, 2), (189, .bipush 51, 2), (191, .bipush 52, 2), (193, .bipush 39, 2), (195, .bipush 40, 2), (197, .invokevirtual 76, 3), (200, .aload_n 0, 1), (201, .bipush 12, 2), (203, .bipush 72, 2), (205, .bipush 67, 2), (207, .bipush 116, 2), (209, .bipush 117, 2), (211, .bipush 106, 2), (213, .bipush 107, 2), (215, .invokevirtual 76, 3), (218, .aload_n 0, 1), (219, .bipush 18, 2), (221, .sipush 167, 3), (224, .sipush 140, 3), (227, .sipush 136, 3), (230, .sipush 151, 3), (233, .sipush 131, 3), (236, .sipush 132, 3), (239, .invokevirtual 76, 3), (242, .aload_n 0, 1), (243, .bipush 24, 2), (245, .sipush 168, 3), (248, .sipush 171, 3), (251, .sipush 147, 3), (254, .sipush 164, 3), (257, .sipush 152, 3), (260, .sipush 258, 3), (263, .invokevirtual 76, 3), (266, .aload_n 0, 1), (267, .bipush 30, 2), (269, .sipush 259, 3), (272, .sipush 282, 3), (275, .sipush 283, 3), (278, .sipush 274, 3), (281, .sipush 275, 3), (284, .sipush 276, 3), (287, .invokevirtual 76, 3), (290, .aload_n 0, 1), (291, .bipush 36, 2), (293, .sipush 277, 3), (296, .sipush 278, 3), (299, .sipush 279, 3), (302, .sipush 296, 3), (305, .sipush 297, 3), (308, .sipush 1079, 3), (311, .invokevirtual 76, 3), (314, .aload_n 0, 1), (315, .bipush 42, 2), (317, .bipush 10, 2), (319, .bipush 7, 2), (321, .bipush 6, 2), (323, .bipush 11, 2), (325, .bipush 19, 2), (327, .bipush 18, 2), (329, .invokevirtual 76, 3), (332, .aload_n 0, 1), (333, .bipush 48, 2), (335, .bipush 35, 2), (337, .bipush 69, 2), (339, .bipush 68, 2), (341, .sipush 132, 3), (344, .sipush 133, 3), (347, .sipush 135, 3), (350, .invokevirtual 76, 3), (353, .aload_n 0, 1), (354, .bipush 54, 2), (356, .sipush 260, 3), (359, .sipush 263, 3), (362, .sipush 536, 3), (365, .sipush 1047, 3), (368, .sipush 1048, 3), (371, .sipush 1032, 3), (374, .invokevirtual 76, 3), (377, .aload_n 0, 1), (378, .bipush 60, 2), (380, .sipush 2151, 3), (383, .sipush 2152, 3), (386, .sipush 2156, 3), (389, .sipush 2103, 3), (392, .sipush 2088, 3), (395, .sipush 2071, 3), (398, .invokevirtual 76, 3), (401, .aload_n 0, 1), (402, .bipush 66, 2), (404, .sipush 2072, 3), (407, .sipush 4298, 3), (410, .sipush 4299, 3), (413, .sipush 4300, 3), (416, .sipush 4301, 3), (419, .sipush 4200, 3), (422, .invokevirtual 76, 3), (425, .aload_n 0, 1), (426, .bipush 72, 2), (428, .sipush 4201, 3), (431, .sipush 4202, 3), (434, .sipush 4203, 3), (437, .sipush 4306, 3), (440, .sipush 4307, 3), (443, .sipush 4308, 3), (446, .invokevirtual 76, 3), (449, .aload_n 0, 1), (450, .bipush 78, 2), (452, .sipush 4309, 3), (455, .sipush 4310, 3), (458, .sipush 4311, 3), (461, .sipush 4204, 3), (464, .iconst 0, 1), (465, .iconst 0, 1), (466, .invokevirtual 76, 3), (469, .return_, 1)]
set_option maxRecDepth 100000 in
theorem D_MO_init : ∀ q ∈ L_MO_init, decode prog_14_method_1_code q.1 = .ok q.2 := by decide +kernel
theorem d_MO_init_0 : decode M_MO_init.2.1 0 = .ok (.aload_n 0, 1) := fx_d (q := (0, .aload_n 0, 1)) D_MO_init 0 rfl
theorem d_MO_init_1 : decode M_MO_init.2.1 1 = .ok (.invokespecial 1, 3) := fx_d (q := (1, .invokespecial 1, 3)) D_MO_init 1 rfl
theorem d_MO_init_4 : decode M_MO_init.2.1 4 = .ok (.aload_n 0, 1) := fx_d (q := (4, .aload_n 0, 1)) D_MO_init 2 rfl
theorem d_MO_init_5 : decode M_MO_init.2.1 5 = .ok (.iconst 1, 1) := fx_d (q := (5, .iconst 1, 1)) D_MO_init 3 rfl
theorem d_MO_init_6 : decode M_MO_init.2.1 6 = .ok (.putfield 7, 3) := fx_d (q := (6, .putfield 7, 3)) D_MO_init 4 rfl
theorem d_MO_init_9 : decode M_MO_init.2.1 9 = .ok (.aload_n 0, 1) := fx_d (q := (9, .aload_n 0, 1)) D_MO_init 5 rfl
theorem d_MO_init_10 : decode M_MO_init.2.1 10 = .ok (.iconst 1, 1) := fx_d (q := (10, .iconst 1, 1)) D_MO_init 6 rfl
theorem d_MO_init_11 : decode M_MO_init.2.1 11 = .ok (.putfield 13, 3) := fx_d (q := (11, .putfield 13, 3)) D_MO_init 7 rfl
theorem d_MO_init_14 : decode M_MO_init.2.1 14 = .ok (.aload_n 0, 1) := fx_d (q := (14, .aload_n 0, 1)) D_MO_init 8 rfl
theorem d_MO_init_15 : decode M_MO_init.2.1 15 = .ok (.sipush 960, 3) := fx_d (q := (15, .sipush 960, 3)) D_MO_init 9 rfl
theorem d_MO_init_18 : decode M_MO_init.2.1 18 = .ok (.newarray .int, 2) := fx_d (q := (18, .newarray .int, 2)) D_MO_init 10 rfl
theorem d_MO_init_20 : decode M_MO_init.2.1 20 = .ok (.putfield 16, 3) := fx_d (q := (20, .putfield 16, 3)) D_MO_init 11 rfl
theorem d_MO_init_23 : decode M_MO_init.2.1 23 = .ok (.aload_n 0, 1) := fx_d (q := (23, .aload_n 0, 1)) D_MO_init 12 rfl
theorem d_MO_init_24 : decode M_MO_init.2.1 24 = .ok (.sipush 2000, 3) := fx_d (q := (24, .sipush 2000, 3)) D_MO_init 13 rfl
theorem d_MO_init_27 : decode M_MO_init.2.1 27 = .ok (.newarray .int, 2) := fx_d (q := (27, .newarray .int, 2)) D_MO_init 14 rfl
theorem d_MO_init_29 : decode M_MO_init.2.1 29 = .ok (.putfield 20, 3) := fx_d (q := (29, .putfield 20, 3)) D_MO_init 15 rfl
theorem d_MO_init_32 : decode M_MO_init.2.1 32 = .ok (.aload_n 0, 1) := fx_d (q := (32, .aload_n 0, 1)) D_MO_init 16 rfl
theorem d_MO_init_33 : decode M_MO_init.2.1 33 = .ok (.bipush (-9), 2) := fx_d (q := (33, .bipush (-9), 2)) D_MO_init 17 rfl
theorem d_MO_init_35 : decode M_MO_init.2.1 35 = .ok (.putfield 23, 3) := fx_d (q := (35, .putfield 23, 3)) D_MO_init 18 rfl
theorem d_MO_init_38 : decode M_MO_init.2.1 38 = .ok (.aload_n 0, 1) := fx_d (q := (38, .aload_n 0, 1)) D_MO_init 19 rfl
theorem d_MO_init_39 : decode M_MO_init.2.1 39 = .ok (.bipush (-9), 2) := fx_d (q := (39, .bipush (-9), 2)) D_MO_init 20 rfl
theorem d_MO_init_41 : decode M_MO_init.2.1 41 = .ok (.putfield 26, 3) := fx_d (q := (41, .putfield 26, 3)) D_MO_init 21 rfl
theorem d_MO_init_44 : decode M_MO_init.2.1 44 = .ok (.aload_n 0, 1) := fx_d (q := (44, .aload_n 0, 1)) D_MO_init 22 rfl
theorem d_MO_init_45 : decode M_MO_init.2.1 45 = .ok (.bipush (-9), 2) := fx_d (q := (45, .bipush (-9), 2)) D_MO_init 23 rfl
theorem d_MO_init_47 : decode M_MO_init.2.1 47 = .ok (.putfield 29, 3) := fx_d (q := (47, .putfield 29, 3)) D_MO_init 24 rfl
theorem d_MO_init_50 : decode M_MO_init.2.1 50 = .ok (.aload_n 0, 1) := fx_d (q := (50, .aload_n 0, 1)) D_MO_init 25 rfl
theorem d_MO_init_51 : decode M_MO_init.2.1 51 = .ok (.bipush (-9), 2) := fx_d (q := (51, .bipush (-9), 2)) D_MO_init 26 rfl
theorem d_MO_init_53 : decode M_MO_init.2.1 53 = .ok (.putfield 32, 3) := fx_d (q := (53, .putfield 32, 3)) D_MO_init 27 rfl
theorem d_MO_init_56 : decode M_MO_init.2.1 56 = .ok (.aload_n 0, 1) := fx_d (q := (56, .aload_n 0, 1)) D_MO_init 28 rfl
theorem d_MO_init_57 : decode M_MO_init.2.1 57 = .ok (.sipush 960, 3) := fx_d (q := (57, .sipush 960, 3)) D_MO_init 29 rfl
theorem d_MO_init_60 : decode M_MO_init.2.1 60 = .ok (.newarray .int, 2) := fx_d (q := (60, .newarray .int, 2)) D_MO_init 30 rfl
theorem d_MO_init_62 : decode M_MO_init.2.1 62 = .ok (.putfield 35, 3) := fx_d (q := (62, .putfield 35, 3)) D_MO_init 31 rfl
theorem d_MO_init_65 : decode M_MO_init.2.1 65 = .ok (.aload_n 0, 1) := fx_d (q := (65, .aload_n 0, 1)) D_MO_init 32 rfl
theorem d_MO_init_66 : decode M_MO_init.2.1 66 = .ok (.bipush 84, 2) := fx_d (q := (66, .bipush 84, 2)) D_MO_init 33 rfl
theorem d_MO_init_68 : decode M_MO_init.2.1 68 = .ok (.newarray .int, 2) := fx_d (q := (68, .newarray .int, 2)) D_MO_init 34 rfl
theorem d_MO_init_70 : decode M_MO_init.2.1 70 = .ok (.putfield 38, 3) := fx_d (q := (70, .putfield 38, 3)) D_MO_init 35 rfl
theorem d_MO_init_73 : decode M_MO_init.2.1 73 = .ok (.aload_n 0, 1) := fx_d (q := (73, .aload_n 0, 1)) D_MO_init 36 rfl
theorem d_MO_init_74 : decode M_MO_init.2.1 74 = .ok (.bipush 40, 2) := fx_d (q := (74, .bipush 40, 2)) D_MO_init 37 rfl
theorem d_MO_init_76 : decode M_MO_init.2.1 76 = .ok (.newarray .int, 2) := fx_d (q := (76, .newarray .int, 2)) D_MO_init 38 rfl
theorem d_MO_init_78 : decode M_MO_init.2.1 78 = .ok (.putfield 41, 3) := fx_d (q := (78, .putfield 41, 3)) D_MO_init 39 rfl
theorem d_MO_init_81 : decode M_MO_init.2.1 81 = .ok (.aload_n 0, 1) := fx_d (q := (81, .aload_n 0, 1)) D_MO_init 40 rfl
theorem d_MO_init_82 : decode M_MO_init.2.1 82 = .ok (.bipush 40, 2) := fx_d (q := (82, .bipush 40, 2)) D_MO_init 41 rfl
theorem d_MO_init_84 : decode M_MO_init.2.1 84 = .ok (.newarray .int, 2) := fx_d (q := (84, .newarray .int, 2)) D_MO_init 42 rfl
theorem d_MO_init_86 : decode M_MO_init.2.1 86 = .ok (.putfield 44, 3) := fx_d (q := (86, .putfield 44, 3)) D_MO_init 43 rfl
theorem d_MO_init_89 : decode M_MO_init.2.1 89 = .ok (.aload_n 0, 1) := fx_d (q := (89, .aload_n 0, 1)) D_MO_init 44 rfl
theorem d_MO_init_90 : decode M_MO_init.2.1 90 = .ok (.sipush 400, 3) := fx_d (q := (90, .sipush 400, 3)) D_MO_init 45 rfl
theorem d_MO_init_93 : decode M_MO_init.2.1 93 = .ok (.newarray .int, 2) := fx_d (q := (93, .newarray .int, 2)) D_MO_init 46 rfl
theorem d_MO_init_95 : decode M_MO_init.2.1 95 = .ok (.putfield 47, 3) := fx_d (q := (95, .putfield 47, 3)) D_MO_init 47 rfl
theorem d_MO_init_98 : decode M_MO_init.2.1 98 = .ok (.aload_n 0, 1) := fx_d (q := (98, .aload_n 0, 1)) D_MO_init 48 rfl
theorem d_MO_init_99 : decode M_MO_init.2.1 99 = .ok (.sipush 700, 3) := fx_d (q := (99, .sipush 700, 3)) D_MO_init 49 rfl
theorem d_MO_init_102 : decode M_MO_init.2.1 102 = .ok (.newarray .int, 2) := fx_d (q := (102, .newarray .int, 2)) D_MO_init 50 rfl
theorem d_MO_init_104 : decode M_MO_init.2.1 104 = .ok (.putfield 50, 3) := fx_d (q := (104, .putfield 50, 3)) D_MO_init 51 rfl
theorem d_MO_init_107 : decode M_MO_init.2.1 107 = .ok (.aload_n 0, 1) := fx_d (q := (107, .aload_n 0, 1)) D_MO_init 52 rfl
theorem d_MO_init_108 : decode M_MO_init.2.1 108 = .ok (.sipush 700, 3) := fx_d (q := (108, .sipush 700, 3)) D_MO_init 53 rfl
theorem d_MO_init_111 : decode M_MO_init.2.1 111 = .ok (.newarray .int, 2) := fx_d (q := (111, .newarray .int, 2)) D_MO_init 54 rfl
theorem d_MO_init_113 : decode M_MO_init.2.1 113 = .ok (.putfield 53, 3) := fx_d (q := (113, .putfield 53, 3)) D_MO_init 55 rfl
theorem d_MO_init_116 : decode M_MO_init.2.1 116 = .ok (.aload_n 0, 1) := fx_d (q := (116, .aload_n 0, 1)) D_MO_init 56 rfl
theorem d_MO_init_117 : decode M_MO_init.2.1 117 = .ok (.bipush 24, 2) := fx_d (q := (117, .bipush 24, 2)) D_MO_init 57 rfl
theorem d_MO_init_119 : decode M_MO_init.2.1 119 = .ok (.newarray .int, 2) := fx_d (q := (119, .newarray .int, 2)) D_MO_init 58 rfl
theorem d_MO_init_121 : decode M_MO_init.2.1 121 = .ok (.putfield 56, 3) := fx_d (q := (121, .putfield 56, 3)) D_MO_init 59 rfl
theorem d_MO_init_124 : decode M_MO_init.2.1 124 = .ok (.aload_n 0, 1) := fx_d (q := (124, .aload_n 0, 1)) D_MO_init 60 rfl
theorem d_MO_init_125 : decode M_MO_init.2.1 125 = .ok (.bipush 24, 2) := fx_d (q := (125, .bipush 24, 2)) D_MO_init 61 rfl
theorem d_MO_init_127 : decode M_MO_init.2.1 127 = .ok (.newarray .int, 2) := fx_d (q := (127, .newarray .int, 2)) D_MO_init 62 rfl
theorem d_MO_init_129 : decode M_MO_init.2.1 129 = .ok (.putfield 59, 3) := fx_d (q := (129, .putfield 59, 3)) D_MO_init 63 rfl
theorem d_MO_init_132 : decode M_MO_init.2.1 132 = .ok (.aload_n 0, 1) := fx_d (q := (132, .aload_n 0, 1)) D_MO_init 64 rfl
theorem d_MO_init_133 : decode M_MO_init.2.1 133 = .ok (.bipush 9, 2) := fx_d (q := (133, .bipush 9, 2)) D_MO_init 65 rfl
theorem d_MO_init_135 : decode M_MO_init.2.1 135 = .ok (.newarray .boolean, 2) := fx_d (q := (135, .newarray .boolean, 2)) D_MO_init 66 rfl
theorem d_MO_init_137 : decode M_MO_init.2.1 137 = .ok (.putfield 62, 3) := fx_d (q := (137, .putfield 62, 3)) D_MO_init 67 rfl
theorem d_MO_init_140 : decode M_MO_init.2.1 140 = .ok (.aload_n 0, 1) := fx_d (q := (140, .aload_n 0, 1)) D_MO_init 68 rfl
theorem d_MO_init_141 : decode M_MO_init.2.1 141 = .ok (.bipush 9, 2) := fx_d (q := (141, .bipush 9, 2)) D_MO_init 69 rfl
theorem d_MO_init_143 : decode M_MO_init.2.1 143 = .ok (.newarray .int, 2) := fx_d (q := (143, .newarray .int, 2)) D_MO_init 70 rfl
theorem d_MO_init_145 : decode M_MO_init.2.1 145 = .ok (.putfield 66, 3) := fx_d (q := (145, .putfield 66, 3)) D_MO_init 71 rfl
theorem d_MO_init_148 : decode M_MO_init.2.1 148 = .ok (.aload_n 0, 1) := fx_d (q := (148, .aload_n 0, 1)) D_MO_init 72 rfl
theorem d_MO_init_149 : decode M_MO_init.2.1 149 = .ok (.bipush 9, 2) := fx_d (q := (149, .bipush 9, 2)) D_MO_init 73 rfl
theorem d_MO_init_151 : decode M_MO_init.2.1 151 = .ok (.newarray .long, 2) := fx_d (q := (151, .newarray .long, 2)) D_MO_init 74 rfl
theorem d_MO_init_153 : decode M_MO_init.2.1 153 = .ok (.putfield 69, 3) := fx_d (q := (153, .putfield 69, 3)) D_MO_init 75 rfl
theorem d_MO_init_156 : decode M_MO_init.2.1 156 = .ok (.aload_n 0, 1) := fx_d (q := (156, .aload_n 0, 1)) D_MO_init 76 rfl
theorem d_MO_init_157 : decode M_MO_init.2.1 157 = .ok (.bipush 9, 2) := fx_d (q := (157, .bipush 9, 2)) D_MO_init 77 rfl
theorem d_MO_init_159 : decode M_MO_init.2.1 159 = .ok (.newarray .long, 2) := fx_d (q := (159, .newarray .long, 2)) D_MO_init 78 rfl
theorem d_MO_init_161 : decode M_MO_init.2.1 161 = .ok (.putfield 73, 3) := fx_d (q := (161, .putfield 73, 3)) D_MO_init 79 rfl
theorem d_MO_init_164 : decode M_MO_init.2.1 164 = .ok (.aload_n 0, 1) := fx_d (q := (164, .aload_n 0, 1)) D_MO_init 80 rfl
theorem d_MO_init_165 : decode M_MO_init.2.1 165 = .ok (.iconst 0, 1) := fx_d (q := (165, .iconst 0, 1)) D_MO_init 81 rfl
theorem d_MO_init_166 : decode M_MO_init.2.1 166 = .ok (.sipush 309, 3) := fx_d (q := (166, .sipush 309, 3)) D_MO_init 82 rfl
theorem d_MO_init_169 : decode M_MO_init.2.1 169 = .ok (.bipush 71, 2) := fx_d (q := (169, .bipush 71, 2)) D_MO_init 83 rfl
theorem d_MO_init_171 : decode M_MO_init.2.1 171 = .ok (.bipush 23, 2) := fx_d (q := (171, .bipush 23, 2)) D_MO_init 84 rfl
theorem d_MO_init_173 : decode M_MO_init.2.1 173 = .ok (.bipush 24, 2) := fx_d (q := (173, .bipush 24, 2)) D_MO_init 85 rfl
theorem d_MO_init_175 : decode M_MO_init.2.1 175 = .ok (.bipush 27, 2) := fx_d (q := (175, .bipush 27, 2)) D_MO_init 86 rfl
theorem d_MO_init_177 : decode M_MO_init.2.1 177 = .ok (.bipush 28, 2) := fx_d (q := (177, .bipush 28, 2)) D_MO_init 87 rfl
theorem d_MO_init_179 : decode M_MO_init.2.1 179 = .ok (.invokevirtual 76, 3) := fx_d (q := (179, .invokevirtual 76, 3)) D_MO_init 88 rfl
theorem d_MO_init_182 : decode M_MO_init.2.1 182 = .ok (.aload_n 0, 1) := fx_d (q := (182, .aload_n 0, 1)) D_MO_init 89 rfl
theorem d_MO_init_183 : decode M_MO_init.2.1 183 = .ok (.bipush 6, 2) := fx_d (q := (183, .bipush 6, 2)) D_MO_init 90 rfl
theorem d_MO_init_185 : decode M_MO_init.2.1 185 = .ok (.bipush 30, 2) := fx_d (q := (185, .bipush 30, 2)) D_MO_init 91 rfl
theorem d_MO_init_187 : decode M_MO_init.2.1 187 = .ok (.bipush 31, 2) := fx_d (q := (187, .bipush 31, 2)) D_MO_init 92 rfl
theorem d_MO_init_189 : decode M_MO_init.2.1 189 = .ok (.bipush 51, 2) := fx_d (q := (189, .bipush 51, 2)) D_MO_init 93 rfl
theorem d_MO_init_191 : decode M_MO_init.2.1 191 = .ok (.bipush 52, 2) := fx_d (q := (191, .bipush 52, 2)) D_MO_init 94 rfl
theorem d_MO_init_193 : decode M_MO_init.2.1 193 = .ok (.bipush 39, 2) := fx_d (q := (193, .bipush 39, 2)) D_MO_init 95 rfl
theorem d_MO_init_195 : decode M_MO_init.2.1 195 = .ok (.bipush 40, 2) := fx_d (q := (195, .bipush 40, 2)) D_MO_init 96 rfl
theorem d_MO_init_197 : decode M_MO_init.2.1 197 = .ok (.invokevirtual 76, 3) := fx_d (q := (197, .invokevirtual 76, 3)) D_MO_init 97 rfl
theorem d_MO_init_200 : decode M_MO_init.2.1 200 = .ok (.aload_n 0, 1) := fx_d (q := (200, .aload_n 0, 1)) D_MO_init 98 rfl
theorem d_MO_init_201 : decode M_MO_init.2.1 201 = .ok (.bipush 12, 2) := fx_d (q := (201, .bipush 12, 2)) D_MO_init 99 rfl
theorem d_MO_init_203 : decode M_MO_init.2.1 203 = .ok (.bipush 72, 2) := fx_d (q := (203, .bipush 72, 2)) D_MO_init 100 rfl
theorem d_MO_init_205 : decode M_MO_init.2.1 205 = .ok (.bipush 67, 2) := fx_d (q := (205, .bipush 67, 2)) D_MO_init 101 rfl
theorem d_MO_init_207 : decode M_MO_init.2.1 207 = .ok (.bipush 116, 2) := fx_d (q := (207, .bipush 116, 2)) D_MO_init 102 rfl
theorem d_MO_init_209 : decode M_MO_init.2.1 209 = .ok (.bipush 117, 2) := fx_d (q := (209, .bipush 117, 2)) D_MO_init 103 rfl
theorem d_MO_init_211 : decode M_MO_init.2.1 211 = .ok (.bipush 106, 2) := fx_d (q := (211, .bipush 106, 2)) D_MO_init 104 rfl
theorem d_MO_init_213 : decode M_MO_init.2.1 213 = .ok (.bipush 107, 2) := fx_d (q := (213, .bipush 107, 2)) D_MO_init 105 rfl
theorem d_MO_init_215 : decode M_MO_init.2.1 215 = .ok (.invokevirtual 76, 3) := fx_d (q := (215, .invokevirtual 76, 3)) D_MO_init 106 rfl
theorem d_MO_init_218 : decode M_MO_init.2.1 218 = .ok (.aload_n 0, 1) := fx_d (q := (218, .aload_n 0, 1)) D_MO_init 107 rfl
theorem d_MO_init_219 : decode M_MO_init.2.1 219 = .ok (.bipush 18, 2) := fx_d (q := (219, .bipush 18, 2)) D_MO_init 108 rfl
theorem d_MO_init_221 : decode M_MO_init.2.1 221 = .ok (.sipush 167, 3) := fx_d (q := (221, .sipush 167, 3)) D_MO_init 109 rfl
theorem d_MO_init_224 : decode M_MO_init.2.1 224 = .ok (.sipush 140, 3) := fx_d (q := (224, .sipush 140, 3)) D_MO_init 110 rfl
theorem d_MO_init_227 : decode M_MO_init.2.1 227 = .ok (.sipush 136, 3) := fx_d (q := (227, .sipush 136, 3)) D_MO_init 111 rfl
theorem d_MO_init_230 : decode M_MO_init.2.1 230 = .ok (.sipush 151, 3) := fx_d (q := (230, .sipush 151, 3)) D_MO_init 112 rfl
theorem d_MO_init_233 : decode M_MO_init.2.1 233 = .ok (.sipush 131, 3) := fx_d (q := (233, .sipush 131, 3)) D_MO_init 113 rfl
theorem d_MO_init_236 : decode M_MO_init.2.1 236 = .ok (.sipush 132, 3) := fx_d (q := (236, .sipush 132, 3)) D_MO_init 114 rfl
theorem d_MO_init_239 : decode M_MO_init.2.1 239 = .ok (.invokevirtual 76, 3) := fx_d (q := (239, .invokevirtual 76, 3)) D_MO_init 115 rfl
theorem d_MO_init_242 : decode M_MO_init.2.1 242 = .ok (.aload_n 0, 1) := fx_d (q := (242, .aload_n 0, 1)) D_MO_init 116 rfl
theorem d_MO_init_243 : decode M_MO_init.2.1 243 = .ok (.bipush 24, 2) := fx_d (q := (243, .bipush 24, 2)) D_MO_init 117 rfl
theorem d_MO_init_245 : decode M_MO_init.2.1 245 = .ok (.sipush 168, 3) := fx_d (q := (245, .sipush 168, 3)) D_MO_init 118 rfl
theorem d_MO_init_248 : decode M_MO_init.2.1 248 = .ok (.sipush 171, 3) := fx_d (q := (248, .sipush 171, 3)) D_MO_init 119 rfl
theorem d_MO_init_251 : decode M_MO_init.2.1 251 = .ok (.sipush 147, 3) := fx_d (q := (251, .sipush 147, 3)) D_MO_init 120 rfl
theorem d_MO_init_254 : decode M_MO_init.2.1 254 = .ok (.sipush 164, 3) := fx_d (q := (254, .sipush 164, 3)) D_MO_init 121 rfl
theorem d_MO_init_257 : decode M_MO_init.2.1 257 = .ok (.sipush 152, 3) := fx_d (q := (257, .sipush 152, 3)) D_MO_init 122 rfl
theorem d_MO_init_260 : decode M_MO_init.2.1 260 = .ok (.sipush 258, 3) := fx_d (q := (260, .sipush 258, 3)) D_MO_init 123 rfl
theorem d_MO_init_263 : decode M_MO_init.2.1 263 = .ok (.invokevirtual 76, 3) := fx_d (q := (263, .invokevirtual 76, 3)) D_MO_init 124 rfl
theorem d_MO_init_266 : decode M_MO_init.2.1 266 = .ok (.aload_n 0, 1) := fx_d (q := (266, .aload_n 0, 1)) D_MO_init 125 rfl
theorem d_MO_init_267 : decode M_MO_init.2.1 267 = .ok (.bipush 30, 2) := fx_d (q := (267, .bipush 30, 2)) D_MO_init 126 rfl
theorem d_MO_init_269 : decode M_MO_init.2.1 269 = .ok (.sipush 259, 3) := fx_d (q := (269, .sipush 259, 3)) D_MO_init 127 rfl
theorem d_MO_init_272 : decode M_MO_init.2.1 272 = .ok (.sipush 282, 3) := fx_d (q := (272, .sipush 282, 3)) D_MO_init 128 rfl
theorem d_MO_init_275 : decode M_MO_init.2.1 275 = .ok (.sipush 283, 3) := fx_d (q := (275, .sipush 283, 3)) D_MO_init 129 rfl
theorem d_MO_init_278 : decode M_MO_init.2.1 278 = .ok (.sipush 274, 3) := fx_d (q := (278, .sipush 274, 3)) D_MO_init 130 rfl
theorem d_MO_init_281 : decode M_MO_init.2.1 281 = .ok (.sipush 275, 3) := fx_d (q := (281, .sipush 275, 3)) D_MO_init 131 rfl
theorem d_MO_init_284 : decode M_MO_init.2.1 284 = .ok (.sipush 276, 3) := fx_d (q := (284, .sipush 276, 3)) D_MO_init 132 rfl
theorem d_MO_init_287 : decode M_MO_init.2.1 287 = .ok (.invokevirtual 76, 3) := fx_d (q := (287, .invokevirtual 76, 3)) D_MO_init 133 rfl
theorem d_MO_init_290 : decode M_MO_init.2.1 290 = .ok (.aload_n 0, 1) := fx_d (q := (290, .aload_n 0, 1)) D_MO_init 134 rfl
theorem d_MO_init_291 : decode M_MO_init.2.1 291 = .ok (.bipush 36, 2) := fx_d (q := (291, .bipush 36, 2)) D_MO_init 135 rfl
theorem d_MO_init_293 : decode M_MO_init.2.1 293 = .ok (.sipush 277, 3) := fx_d (q := (293, .sipush 277, 3)) D_MO_init 136 rfl
theorem d_MO_init_296 : decode M_MO_init.2.1 296 = .ok (.sipush 278, 3) := fx_d (q := (296, .sipush 278, 3)) D_MO_init 137 rfl
theorem d_MO_init_299 : decode M_MO_init.2.1 299 = .ok (.sipush 279, 3) := fx_d (q := (299, .sipush 279, 3)) D_MO_init 138 rfl
theorem d_MO_init_302 : decode M_MO_init.2.1 302 = .ok (.sipush 296, 3) := fx_d (q := (302, .sipush 296, 3)) D_MO_init 139 rfl
theorem d_MO_init_305 : decode M_MO_init.2.1 305 = .ok (.sipush 297, 3) := fx_d (q := (305, .sipush 297, 3)) D_MO_init 140 rfl
theorem d_MO_init_308 : decode M_MO_init.2.1 308 = .ok (.sipush 1079, 3) := fx_d (q := (308, .sipush 1079, 3)) D_MO_init 141 rfl
theorem d_MO_init_311 : decode M_MO_init.2.1 311 = .ok (.invokevirtual 76, 3) := fx_d (q := (311, .invokevirtual 76, 3)) D_MO_init 142 rfl
theorem d_MO_init_314 : decode M_MO_init.2.1 314 = .ok (.aload_n 0, 1) := fx_d (q := (314, .aload_n 0, 1)) D_MO_init 143 rfl
theorem d_MO_init_315 : decode M_MO_init.2.1 315 = .ok (.bipush 42, 2) := fx_d (q := (315, .bipush 42, 2)) D_MO_init 144 rfl
theorem d_MO_init_317 : decode M_MO_init.2.1 317 = .ok (.bipush 10, 2) := fx_d (q := (317, .bipush 10, 2)) D_MO_init 145 rfl
theorem d_MO_init_319 : decode M_MO_init.2.1 319 = .ok (.bipush 7, 2) := fx_d (q := (319, .bipush 7, 2)) D_MO_init 146 rfl
theorem d_MO_init_321 : decode M_MO_init.2.1 321 = .ok (.bipush 6, 2) := fx_d (q := (321, .bipush 6, 2)) D_MO_init 147 rfl
theorem d_MO_init_323 : decode M_MO_init.2.1 323 = .ok (.bipush 11, 2) := fx_d (q := (323, .bipush 11, 2)) D_MO_init 148 rfl
theorem d_MO_init_325 : decode M_MO_init.2.1 325 = .ok (.bipush 19, 2) := fx_d (q := (325, .bipush 19, 2)) D_MO_init 149 rfl
theorem d_MO_init_327 : decode M_MO_init.2.1 327 = .ok (.bipush 18, 2) := fx_d (q := (327, .bipush 18, 2)) D_MO_init 150 rfl
theorem d_MO_init_329 : decode M_MO_init.2.1 329 = .ok (.invokevirtual 76, 3) := fx_d (q := (329, .invokevirtual 76, 3)) D_MO_init 151 rfl
theorem d_MO_init_332 : decode M_MO_init.2.1 332 = .ok (.aload_n 0, 1) := fx_d (q := (332, .aload_n 0, 1)) D_MO_init 152 rfl
theorem d_MO_init_333 : decode M_MO_init.2.1 333 = .ok (.bipush 48, 2) := fx_d (q := (333, .bipush 48, 2)) D_MO_init 153 rfl
theorem d_MO_init_335 : decode M_MO_init.2.1 335 = .ok (.bipush 35, 2) := fx_d (q := (335, .bipush 35, 2)) D_MO_init 154 rfl
theorem d_MO_init_337 : decode M_MO_init.2.1 337 = .ok (.bipush 69, 2) := fx_d (q := (337, .bipush 69, 2)) D_MO_init 155 rfl
theorem d_MO_init_339 : decode M_MO_init.2.1 339 = .ok (.bipush 68, 2) := fx_d (q := (339, .bipush 68, 2)) D_MO_init 156 rfl
theorem d_MO_init_341 : decode M_MO_init.2.1 341 = .ok (.sipush 132, 3) := fx_d (q := (341, .sipush 132, 3)) D_MO_init 157 rfl
theorem d_MO_init_344 : decode M_MO_init.2.1 344 = .ok (.sipush 133, 3) := fx_d (q := (344, .sipush 133, 3)) D_MO_init 158 rfl
theorem d_MO_init_347 : decode M_MO_init.2.1 347 = .ok (.sipush 135, 3) := fx_d (q := (347, .sipush 135, 3)) D_MO_init 159 rfl
theorem d_MO_init_350 : decode M_MO_init.2.1 350 = .ok (.invokevirtual 76, 3) := fx_d (q := (350, .invokevirtual 76, 3)) D_MO_init 160 rfl
theorem d_MO_init_353 : decode M_MO_init.2.1 353 = .ok (.aload_n 0, 1) := fx_d (q := (353, .aload_n 0, 1)) D_MO_init 161 rfl
theorem d_MO_init_354 : decode M_MO_init.2.1 354 = .ok (.bipush 54, 2) := fx_d (q := (354, .bipush 54, 2)) D_MO_init 162 rfl
theorem d_MO_init_356 : decode M_MO_init.2.1 356 = .ok (.sipush 260, 3) := fx_d (q := (356, .sipush 260, 3)) D_MO_init 163 rfl
theorem d_MO_init_359 : decode M_MO_init.2.1 359 = .ok (.sipush 263, 3) := fx_d (q := (359, .sipush 263, 3)) D_MO_init 164 rfl
theorem d_MO_init_362 : decode M_MO_init.2.1 362 = .ok (.sipush 536, 3) := fx_d (q := (362, .sipush 536, 3)) D_MO_init 165 rfl
theorem d_MO_init_365 : decode M_MO_init.2.1 365 = .ok (.sipush 1047, 3) := fx_d (q := (365, .sipush 1047, 3)) D_MO_init 166 rfl
theorem d_MO_init_368 : decode M_MO_init.2.1 368 = .ok (.sipush 1048, 3) := fx_d (q := (368, .sipush 1048, 3)) D_MO_init 167 rfl
theorem d_MO_init_371 : decode M_MO_init.2.1 371 = .ok (.sipush 1032, 3) := fx_d (q := (371, .sipush 1032, 3)) D_MO_init 168 rfl
theorem d_MO_init_374 : decode M_MO_init.2.1 374 = .ok (.invokevirtual 76, 3) := fx_d (q := (374, .invokevirtual 76, 3)) D_MO_init 169 rfl
theorem d_MO_init_377 : decode M_MO_init.2.1 377 = .ok (.aload_n 0, 1) := fx_d (q := (377, .aload_n 0, 1)) D_MO_init 170 rfl
theorem d_MO_init_378 : decode M_MO_init.2.1 378 = .ok (.bipush 60, 2) := fx_d (q := (378, .bipush 60, 2)) D_MO_init 171 rfl
theorem d_MO_init_380 : decode M_MO_init.2.1 380 = .ok (.sipush 2151, 3) := fx_d (q := (380, .sipush 2151, 3)) D_MO_init 172 rfl
theorem d_MO_init_383 : decode M_MO_init.2.1 383 = .ok (.sipush 2152, 3) := fx_d (q := (383, .sipush 2152, 3)) D_MO_init 173 rfl
theorem d_MO_init_386 : decode M_MO_init.2.1 386 = .ok (.sipush 2156, 3) := fx_d (q := (386, .sipush 2156, 3)) D_MO_init 174 rfl
theorem d_MO_init_389 : decode M_MO_init.2.1 389 = .ok (.sipush 2103, 3) := fx_d (q := (389, .sipush 2103, 3)) D_MO_init 175 rfl
theorem d_MO_init_392 : decode M_MO_init.2.1 392 = .ok (.sipush 2088, 3) := fx_d (q := (392, .sipush 2088, 3)) D_MO_init 176 rfl
theorem d_MO_init_395 : decode M_MO_init.2.1 395 = .ok (.sipush 2071, 3) := fx_d (q := (395, .sipush 2071, 3)) D_MO_init 177 rfl
theorem d_MO_init_398 : decode M_MO_init.2.1 398 = .ok (.invokevirtual 76, 3) := fx_d (q := (398, .invokevirtual 76, 3)) D_MO_init 178 rfl
theorem d_MO_init_401 : decode M_MO_init.2.1 401 = .ok (.aload_n 0, 1) := fx_d (q := (401, .aload_n 0, 1)) D_MO_init 179 rfl
theorem d_MO_init_402 : decode M_MO_init.2.1 402 = .ok (.bipush 66, 2) := fx_d (q := (402, .bipush 66, 2)) D_MO_init 180 rfl
theorem d_MO_init_404 : decode M_MO_init.2.1 404 = .ok (.sipush 2072, 3) := fx_d (q := (404, .sipush 2072, 3)) D_MO_init 181 rfl
theorem d_MO_init_407 : decode M_MO_init.2.1 407 = .ok (.sipush 4298, 3) := fx_d (q := (407, .sipush 4298, 3)) D_MO_init 182 rfl
theorem d_MO_init_410 : decode M_MO_init.2.1 410 = .ok (.sipush 4299, 3) := fx_d (q := (410, .sipush 4299, 3)) D_MO_init 183 rfl
theorem d_MO_init_413 : decode M_MO_init.2.1 413 = .ok (.sipush 4300, 3) := fx_d (q := (413, .sipush 4300, 3)) D_MO_init 184 rfl
theorem d_MO_init_416 : decode M_MO_init.2.1 416 = .ok (.sipush 4301, 3) := fx_d (q := (416, .sipush 4301, 3)) D_MO_init 185 rfl
theorem d_MO_init_419 : decode M_MO_init.2.1 419 = .ok (.sipush 4200, 3) := fx_d (q := (419, .sipush 4200, 3)) D_MO_init 186 rfl
theorem d_MO_init_422 : decode M_MO_init.2.1 422 = .ok (.invokevirtual 76, 3) := fx_d (q := (422, .invokevirtual 76, 3)) D_MO_init 187 rfl
theorem d_MO_init_425 : decode M_MO_init.2.1 425 = .ok (.aload_n 0, 1) := fx_d (q := (425, .aload_n 0, 1)) D_MO_init 188 rfl
theorem d_MO_init_426 : decode M_MO_init.2.1 426 = .ok (.bipush 72, 2) := fx_d (q := (426, .bipush 72, 2)) D_MO_init 189 rfl
theorem d_MO_init_428 : decode M_MO_init.2.1 428 = .ok (.sipush 4201, 3) := fx_d (q := (428, .sipush 4201, 3)) D_MO_init 190 rfl
theorem d_MO_init_431 : decode M_MO_init.2.1 431 = .ok (.sipush 4202, 3) := fx_d (q := (431, .sipush 4202, 3)) D_MO_init 191 rfl
theorem d_MO_init_434 : decode M_MO_init.2.1 434 = .ok (.sipush 4203, 3) := fx_d (q := (434, .sipush 4203, 3)) D_MO_init 192 rfl
theorem d_MO_init_437 : decode M_MO_init.2.1 437 = .ok (.sipush 4306, 3) := fx_d (q := (437, .sipush 4306, 3)) D_MO_init 193 rfl
theorem d_MO_init_440 : decode M_MO_init.2.1 440 = .ok (.sipush 4307, 3) := fx_d (q := (440, .sipush 4307, 3)) D_MO_init 194 rfl
theorem d_MO_init_443 : decode M_MO_init.2.1 443 = .ok (.sipush 4308, 3) := fx_d (q := (443, .sipush 4308, 3)) D_MO_init 195 rfl
theorem d_MO_init_446 : decode M_MO_init.2.1 446 = .ok (.invokevirtual 76, 3) := fx_d (q := (446, .invokevirtual 76, 3)) D_MO_init 196 rfl
theorem d_MO_init_449 : decode M_MO_init.2.1 449 = .ok (.aload_n 0, 1) := fx_d (q := (449, .aload_n 0, 1)) D_MO_init 197 rfl
theorem d_MO_init_450 : decode M_MO_init.2.1 450 = .ok (.bipush 78, 2) := fx_d (q := (450, .bipush 78, 2)) D_MO_init 198 rfl
theorem d_MO_init_452 : decode M_MO_init.2.1 452 = .ok (.sipush 4309, 3) := fx_d (q := (452, .sipush 4309, 3)) D_MO_init 199 rfl
theorem d_MO_init_455 : decode M_MO_init.2.1 455 = .ok (.sipush 4310, 3) := fx_d (q := (455, .sipush 4310, 3)) D_MO_init 200 rfl
theorem d_MO_init_458 : decode M_MO_init.2.1 458 = .ok (.sipush 4311, 3) := fx_d (q := (458, .sipush 4311, 3)) D_MO_init 201 rfl
theorem d_MO_init_461 : decode M_MO_init.2.1 461 = .ok (.sipush 4204, 3) := fx_d (q := (461, .sipush 4204, 3)) D_MO_init 202 rfl
theorem d_MO_init_464 : decode M_MO_init.2.1 464 = .ok (.iconst 0, 1) := fx_d (q := (464, .iconst 0, 1)) D_MO_init 203 rfl
theorem d_MO_init_465 : decode M_MO_init.2.1 465 = .ok (.iconst 0, 1) := fx_d (q := (465, .iconst 0, 1)) D_MO_init 204 rfl
theorem d_MO_init_466 : decode M_MO_init.2.1 466 = .ok (.invokevirtual 76, 3) := fx_d (q := (466, .invokevirtual 76, 3)) D_MO_init 205 rfl
theorem d_MO_init_469 : decode M_MO_init.2.1 469 = .ok (.return_, 1) := fx_d (q := (469, .return_, 1)) D_MO_init 206 rfl
set_option maxRecDepth 100000 in
def L_MO_fill : List (Nat × Instr × Nat) := [(0, .aload_n 0, 1), (1, .getfield 38, 3), (4, .iload_n 1, 1), (5, .iload_n 2, 1), (6, .iastore, 1), (7, .aload_n 0, 1), (8, .getfield 38, 3), (11, .iload_n 1, 1), (12, .iconst 1, 1), (13, .iadd, 1), (14, .iload_n 3, 1), (15, .iastore, 1), (16, .aload_n 0, 1), (17, .getfield 38, 3), (20, .iload_n 1, 1), (21, .iconst 2, 1), (22, .iadd, 1), (23, .iload 4, 2), (25, .iastore, 1), (26, .aload_n 0, 1), (27, .getfield 38, 3), (30, .iload_n 1, 1), (31, .iconst 3, 1), (32, .iadd, 1), (33, .iload 5, 2), (35, .iastore, 1), (36, .iload_n 1, 1), (37, .iconst 4, 1), (38, .iadd, 1), (39, .bipush 82, 2), (41, .if_icmp .ge 23, 3), (44, .aload_n 0, 1), (45, .getfield 38, 3), (48, .iload_n 1, 1), (49, .iconst 4, 1), (50, .iadd, 1), (51, .iload 6, 2), (53, .iastore, 1), (54, .aload_n 0, 1), (55, .getfield 38, 3), (58, .iload_n 1, 1), (59, .iconst 5, 1), (60, .iadd, 1), (61, .iload 7, 2), (63, .iastore, 1), (64, .return_, 1)]
set_option maxRecDepth 100000 in
theorem D_MO_fill : ∀ q ∈ L_MO_fill, decode prog_14_method_2_code q.1 = .ok q.2 := by decide +kernel
theorem d_MO_fill_0 : decode M_MO_fill.2.1 0 = .ok (.aload_n 0, 1) := fx_d (q := (0, .aload_n 0, 1)) D_MO_fill 0 rfl
theorem d_MO_fill_1 : decode M_MO_fill.2.1 1 = .ok (.getfield 38, 3) := fx_d (q := (1, .getfield 38, 3)) D_MO_fill 1 rfl
theorem d_MO_fill_4 : decode M_MO_fill.2.1 4 = .ok (.iload_n 1, 1) := fx_d (q := (4, .iload_n 1, 1)) D_MO_fill 2 rfl
theorem d_MO_fill_5 : decode M_MO_fill.2.1 5 = .ok (.iload_n 2, 1) := fx_d (q := (5, .iload_n 2, 1)) D_MO_fill 3 rfl
theorem d_MO_fill_6 : decode M_MO_fill.2.1 6 = .ok (.iastore, 1) := fx_d (q := (6, .iastore, 1)) D_MO_fill 4 rfl
theorem d_MO_fill_7 : decode M_MO_fill.2.1 7 = .ok (.aload_n 0, 1) := fx_d (q := (7, .aload_n 0, 1)) D_MO_fill 5 rfl
theorem d_MO_fill_8 : decode M_MO_fill.2.1 8 = .ok (.getfield 38, 3) := fx_d (q := (8, .getfield 38, 3)) D_MO_fill 6 rfl
theorem d_MO_fill_11 : decode M_MO_fill.2.1 11 = .ok (.iload_n 1, 1) := fx_d (q := (11, .iload_n 1, 1)) D_MO_fill 7 rfl
theorem d_MO_fill_12 : decode M_MO_fill.2.1 12 = .ok (.iconst 1, 1) := fx_d (q := (12, .iconst 1, 1)) D_MO_fill 8 rfl
theorem d_MO_fill_13 : decode M_MO_fill.2.1 13 = .ok (.iadd, 1) := fx_d (q := (13, .iadd, 1)) D_MO_fill 9 rfl
theorem d_MO_fill_14 : decode M_MO_fill.2.1 14 = .ok (.iload_n 3, 1) := fx_d (q := (14, .iload_n 3, 1)) D_MO_fill 10 rfl
theorem d_MO_fill_15 : decode M_MO_fill.2.1 15 = .ok (.iastore, 1) := fx_d (q := (15, .iastore, 1)) D_MO_fill 11 rfl
theorem d_MO_fill_16 : decode M_MO_fill.2.1 16 = .ok (.aload_n 0, 1) := fx_d (q := (16, .aload_n 0, 1)) D_MO_fill 12 rfl
theorem d_MO_fill_17 : decode M_MO_fill.2.1 17 = .ok (.getfield 38, 3) := fx_d (q := (17, .getfield 38, 3)) D_MO_fill 13 rfl
theorem d_MO_fill_20 : decode M_MO_fill.2.1 20 = .ok (.iload_n 1, 1) := fx_d (q := (20, .iload_n 1, 1)) D_MO_fill 14 rfl
theorem d_MO_fill_21 : decode M_MO_fill.2.1 21 = .ok (.iconst 2, 1) := fx_d (q := (21, .iconst 2, 1)) D_MO_fill 15 rfl
theorem d_MO_fill_22 : decode M_MO_fill.2.1 22 = .ok (.iadd, 1) := fx_d (q := (22, .iadd, 1)) D_MO_fill 16 rfl
theorem d_MO_fill_23 : decode M_MO_fill.2.1 23 = .ok (.iload 4, 2) := fx_d (q := (23, .iload 4, 2)) D_MO_fill 17 rfl
theorem d_MO_fill_25 : decode M_MO_fill.2.1 25 = .ok (.iastore, 1) := fx_d (q := (25, .iastore, 1)) D_MO_fill 18 rfl
theorem d_MO_fill_26 : decode M_MO_fill.2.1 26 = .ok (.aload_n 0, 1) := fx_d (q := (26, .aload_n 0, 1)) D_MO_fill 19 rfl
theorem d_MO_fill_27 : decode M_MO_fill.2.1 27 = .ok (.getfield 38, 3) := fx_d (q := (27, .getfield 38, 3)) D_MO_fill 20 rfl
theorem d_MO_fill_30 : decode M_MO_fill.2.1 30 = .ok (.iload_n 1, 1) := fx_d (q := (30, .iload_n 1, 1)) D_MO_fill 21 rfl
theorem d_MO_fill_31 : decode M_MO_fill.2.1 31 = .ok (.iconst 3, 1) := fx_d (q := (31, .iconst 3, 1)) D_MO_fill 22 rfl
theorem d_MO_fill_32 : decode M_MO_fill.2.1 32 = .ok (.iadd, 1) := fx_d (q := (32, .iadd, 1)) D_MO_fill 23 rfl
theorem d_MO_fill_33 : decode M_MO_fill.2.1 33 = .ok (.iload 5, 2) := fx_d (q := (33, .iload 5, 2)) D_MO_fill 24 rfl
theorem d_MO_fill_35 : decode M_MO_fill.2.1 35 = .ok (.iastore, 1) := fx_d (q := (35, .iastore, 1)) D_MO_fill 25 rfl
theorem d_MO_fill_36 : decode M_MO_fill.2.1 36 = .ok (.iload_n 1, 1) := fx_d (q := (36, .iload_n 1, 1)) D_MO_fill 26 rfl
theorem d_MO_fill_37 : decode M_MO_fill.2.1 37 = .ok (.iconst 4, 1) := fx_d (q := (37, .iconst 4, 1)) D_MO_fill 27 rfl
theorem d_MO_fill_38 : decode M_MO_fill.2.1 38 = .ok (.iadd, 1) := fx_d (q := (38, .iadd, 1)) D_MO_fill 28 rfl
theorem d_MO_fill_39 : decode M_MO_fill.2.1 39 = .ok (.bipush 82, 2) := fx_d (q := (39, .bipush 82, 2)) D_MO_fill 29 rfl
theorem d_MO_fill_41 : decode M_MO_fill.2.1 41 = .ok (.if_icmp .ge 23, 3) := fx_d (q := (41, .if_icmp .ge 23, 3)) D_MO_fill 30 rfl
theorem d_MO_fill_44 : decode M_MO_fill.2.1 44 = .ok (.aload_n 0, 1) := fx_d (q := (44, .aload_n 0, 1)) D_MO_fill 31 rfl
theorem d_MO_fill_45 : decode M_MO_fill.2.1 45 = .ok (.getfield 38, 3) := fx_d (q := (45, .getfield 38, 3)) D_MO_fill 32 rfl
theorem d_MO_fill_48 : decode M_MO_fill.2.1 48 = .ok (.iload_n 1, 1) := fx_d (q := (48, .iload_n 1, 1)) D_MO_fill 33 rfl
theorem d_MO_fill_49 : decode M_MO_fill.2.1 49 = .ok (.iconst 4, 1) := fx_d (q := (49, .iconst 4, 1)) D_MO_fill 34 rfl
theorem d_MO_fill_50 : decode M_MO_fill.2.1 50 = .ok (.iadd, 1) := fx_d (q := (50, .iadd, 1)) D_MO_fill 35 rfl
theorem d_MO_fill_51 : decode M_MO_fill.2.1 51 = .ok (.iload 6, 2) := fx_d (q := (51, .iload 6, 2)) D_MO_fill 36 rfl
theorem d_MO_fill_53 : decode M_MO_fill.2.1 53 = .ok (.iastore, 1) := fx_d (q := (53, .iastore, 1)) D_MO_fill 37 rfl
theorem d_MO_fill_54 : decode M_MO_fill.2.1 54 = .ok (.aload_n 0, 1) := fx_d (q := (54, .aload_n 0, 1)) D_MO_fill 38 rfl
theorem d_MO_fill_55 : decode M_MO_fill.2.1 55 = .ok (.getfield 38, 3) := fx_d (q := (55, .getfield 38, 3)) D_MO_fill 39 rfl
theorem d_MO_fill_58 : decode M_MO_fill.2.1 58 = .ok (.iload_n 1, 1) := fx_d (q := (58, .iload_n 1, 1)) D_MO_fill 40 rfl
theorem d_MO_fill_59 : decode M_MO_fill.2.1 59 = .ok (.iconst 5, 1) := fx_d (q := (59, .iconst 5, 1)) D_MO_fill 41 rfl
theorem d_MO_fill_60 : decode M_MO_fill.2.1 60 = .ok (.iadd, 1) := fx_d (q := (60, .iadd, 1)) D_MO_fill 42 rfl
theorem d_MO_fill_61 : decode M_MO_fill.2.1 61 = .ok (.iload 7, 2) := fx_d (q := (61, .iload 7, 2)) D_MO_fill 43 rfl
theorem d_MO_fill_63 : decode M_MO_fill.2.1 63 = .ok (.iastore, 1) := fx_d (q := (63, .iastore, 1)) D_MO_fill 44 rfl
theorem d_MO_fill_64 : decode M_MO_fill.2.1 64 = .ok (.return_, 1) := fx_d (q := (64, .return_, 1)) D_MO_fill 45 rfl
set_option maxRecDepth 100000 in
def L_MO_thrown : List (Nat × Instr × Nat) := [(0, .aload_n 0, 1), (1, .getfield 80, 3), (4, .ireturn, 1)]
set_option maxRecDepth 100000 in
theorem D_MO_thrown : ∀ q ∈ L_MO_thrown, decode prog_14_method_3_code q.1 = .ok q.2 := by decide +kernel
theorem d_MO_thrown_0 : decode M_MO_thrown.2.1 0 = .ok (.aload_n 0, 1) := fx_d (q := (0, .aload_n 0, 1)) D_MO_thrown 0 rfl
theorem d_MO_thrown_1 : decode M_MO_thrown.2.1 1 = .ok (.getfield 80, 3) := fx_d (q := (1, .getfield 80, 3)) D_MO_thrown 1 rfl
theorem d_MO_thrown_4 : decode M_MO_thrown.2.1 4 = .ok (.ireturn, 1) := fx_d (q := (4, .ireturn, 1)) D_MO_thrown 2 rfl
set_option maxRecDepth 100000 in
def L_MO_blank : List (Nat × Instr × Nat) := [(0, .aload_n 0, 1), (1, .iload_n 1, 1), (2, .iload_n 2, 1), (3, .i2l, 1), (4, .iload_n 3, 1), (5, .i2l, 1), (6, .invokestatic 89, 3), (9, .ifCond .ne 7, 3), (12, .iconst 1, 1), (13, .goto 4, 3), (16, .iconst 0, 1), (17, .iconst 0, 1), (18, .invokevirtual 93, 3), (21, .ifCond .eq 4, 3), (24, .return_, 1), (25, .aload_n 0, 1), (26, .iload_n 1, 1), (27, .putfield 97, 3), (30, .aload_n 0, 1), (31, .iload_n 2, 1), (32, .putfield 7, 3), (35, .aload_n 0, 1), (36, .iload_n 3, 1), (37, .putfield 13, 3), (40, .iconst 0, 1), (41, .istore 4, 2), (43, .iload 4, 2), (45, .sipush 960, 3), (48, .if_icmp .ge 17, 3), (51, .aload_n 0, 1), (52, .getfield 16, 3), (55, .iload 4, 2), (57, .iconst 0, 1), (58, .iastore, 1), (59, .iinc 4 1, 3), (62, .goto (-19), 3), (65, .return_, 1)]
set_option maxRecDepth 100000 in
theorem D_MO_blank : ∀ q ∈ L_MO_blank, decode prog_14_method_6_code q.1 = .ok q.2 := by decide +kernel
theorem d_MO_blank_0 : decode M_MO_blank.2.1 0 = .ok (.aload_n 0, 1) := fx_d (q := (0, .aload_n 0, 1)) D_MO_blank 0 rfl
theorem d_MO_blank_1 : decode M_MO_blank.2.1 1 = .ok (.iload_n 1, 1) := fx_d (q := (1, .iload_n 1, 1)) D_MO_blank 1 rfl
theorem d_MO_blank_2 : decode M_MO_blank.2.1 2 = .ok (.iload_n 2, 1) := fx_d (q := (2, .iload_n 2, 1)) D_MO_blank 2 rfl
theorem d_MO_blank_3 : decode M_MO_blank.2.1 3 = .ok (.i2l, 1) := fx_d (q := (3, .i2l, 1)) D_MO_blank 3 rfl
theorem d_MO_blank_4 : decode M_MO_blank.2.1 4 = .ok (.iload_n 3, 1) := fx_d (q := (4, .iload_n 3, 1)) D_MO_blank 4 rfl
theorem d_MO_blank_5 : decode M_MO_blank.2.1 5 = .ok (.i2l, 1) := fx_d (q := (5, .i2l, 1)) D_MO_blank 5 rfl
theorem d_MO_blank_6 : decode M_MO_blank.2.1 6 = .ok (.invokestatic 89, 3) := fx_d (q := (6, .invokestatic 89, 3)) D_MO_blank 6 rfl
theorem d_MO_blank_9 : decode M_MO_blank.2.1 9 = .ok (.ifCond .ne 7, 3) := fx_d (q := (9, .ifCond .ne 7, 3)) D_MO_blank 7 rfl
theorem d_MO_blank_12 : decode M_MO_blank.2.1 12 = .ok (.iconst 1, 1) := fx_d (q := (12, .iconst 1, 1)) D_MO_blank 8 rfl
theorem d_MO_blank_13 : decode M_MO_blank.2.1 13 = .ok (.goto 4, 3) := fx_d (q := (13, .goto 4, 3)) D_MO_blank 9 rfl
theorem d_MO_blank_16 : decode M_MO_blank.2.1 16 = .ok (.iconst 0, 1) := fx_d (q := (16, .iconst 0, 1)) D_MO_blank 10 rfl
theorem d_MO_blank_17 : decode M_MO_blank.2.1 17 = .ok (.iconst 0, 1) := fx_d (q := (17, .iconst 0, 1)) D_MO_blank 11 rfl
theorem d_MO_blank_18 : decode M_MO_blank.2.1 18 = .ok (.invokevirtual 93, 3) := fx_d (q := (18, .invokevirtual 93, 3)) D_MO_blank 12 rfl
theorem d_MO_blank_21 : decode M_MO_blank.2.1 21 = .ok (.ifCond .eq 4, 3) := fx_d (q := (21, .ifCond .eq 4, 3)) D_MO_blank 13 rfl
theorem d_MO_blank_24 : decode M_MO_blank.2.1 24 = .ok (.return_, 1) := fx_d (q := (24, .return_, 1)) D_MO_blank 14 rfl
theorem d_MO_blank_25 : decode M_MO_blank.2.1 25 = .ok (.aload_n 0, 1) := fx_d (q := (25, .aload_n 0, 1)) D_MO_blank 15 rfl
theorem d_MO_blank_26 : decode M_MO_blank.2.1 26 = .ok (.iload_n 1, 1) := fx_d (q := (26, .iload_n 1, 1)) D_MO_blank 16 rfl
theorem d_MO_blank_27 : decode M_MO_blank.2.1 27 = .ok (.putfield 97, 3) := fx_d (q := (27, .putfield 97, 3)) D_MO_blank 17 rfl
theorem d_MO_blank_30 : decode M_MO_blank.2.1 30 = .ok (.aload_n 0, 1) := fx_d (q := (30, .aload_n 0, 1)) D_MO_blank 18 rfl
theorem d_MO_blank_31 : decode M_MO_blank.2.1 31 = .ok (.iload_n 2, 1) := fx_d (q := (31, .iload_n 2, 1)) D_MO_blank 19 rfl
theorem d_MO_blank_32 : decode M_MO_blank.2.1 32 = .ok (.putfield 7, 3) := fx_d (q := (32, .putfield 7, 3)) D_MO_blank 20 rfl
theorem d_MO_blank_35 : decode M_MO_blank.2.1 35 = .ok (.aload_n 0, 1) := fx_d (q := (35, .aload_n 0, 1)) D_MO_blank 21 rfl
theorem d_MO_blank_36 : decode M_MO_blank.2.1 36 = .ok (.iload_n 3, 1) := fx_d (q := (36, .iload_n 3, 1)) D_MO_blank 22 rfl
theorem d_MO_blank_37 : decode M_MO_blank.2.1 37 = .ok (.putfield 13, 3) := fx_d (q := (37, .putfield 13, 3)) D_MO_blank 23 rfl
theorem d_MO_blank_40 : decode M_MO_blank.2.1 40 = .ok (.iconst 0, 1) := fx_d (q := (40, .iconst 0, 1)) D_MO_blank 24 rfl
theorem d_MO_blank_41 : decode M_MO_blank.2.1 41 = .ok (.istore 4, 2) := fx_d (q := (41, .istore 4, 2)) D_MO_blank 25 rfl
theorem d_MO_blank_43 : decode M_MO_blank.2.1 43 = .ok (.iload 4, 2) := fx_d (q := (43, .iload 4, 2)) D_MO_blank 26 rfl
theorem d_MO_blank_45 : decode M_MO_blank.2.1 45 = .ok (.sipush 960, 3) := fx_d (q := (45, .sipush 960, 3)) D_MO_blank 27 rfl
theorem d_MO_blank_48 : decode M_MO_blank.2.1 48 = .ok (.if_icmp .ge 17, 3) := fx_d (q := (48, .if_icmp .ge 17, 3)) D_MO_blank 28 rfl
theorem d_MO_blank_51 : decode M_MO_blank.2.1 51 = .ok (.aload_n 0, 1) := fx_d (q := (51, .aload_n 0, 1)) D_MO_blank 29 rfl
theorem d_MO_blank_52 : decode M_MO_blank.2.1 52 = .ok (.getfield 16, 3) := fx_d (q := (52, .getfield 16, 3)) D_MO_blank 30 rfl
theorem d_MO_blank_55 : decode M_MO_blank.2.1 55 = .ok (.iload 4, 2) := fx_d (q := (55, .iload 4, 2)) D_MO_blank 31 rfl
theorem d_MO_blank_57 : decode M_MO_blank.2.1 57 = .ok (.iconst 0, 1) := fx_d (q := (57, .iconst 0, 1)) D_MO_blank 32 rfl
theorem d_MO_blank_58 : decode M_MO_blank.2.1 58 = .ok (.iastore, 1) := fx_d (q := (58, .iastore, 1)) D_MO_blank 33 rfl
theorem d_MO_blank_59 : decode M_MO_blank.2.1 59 = .ok (.iinc 4 1, 3) := fx_d (q := (59, .iinc 4 1, 3)) D_MO_blank 34 rfl
theorem d_MO_blank_62 : decode M_MO_blank.2.1 62 = .ok (.goto (-19), 3) := fx_d (q := (62, .goto (-19), 3)) D_MO_blank 35 rfl
theorem d_MO_blank_65 : decode M_MO_blank.2.1 65 = .ok (.return_, 1) := fx_d (q := (65, .return_, 1)) D_MO_blank 36 rfl
set_option maxRecDepth 100000 in
def L_MO_isSize : List (Nat × Instr × Nat) := [(0, .lload_n 1, 1), (1, .lconst 1, 1), (2, .lcmp, 1), (3, .ifCond .lt 49, 3), (6, .lload_n 3, 1), (7, .lconst 1, 1), (8, .lcmp, 1), (9, .ifCond .lt 43, 3), (12, .lload_n 1, 1), (13, .iload_n 0, 1), (14, .ifCond .eq 9, 3), (17, .ldc2_w 83, 3), (20, .goto 6, 3), (23, .ldc2_w 85, 3), (26, .lcmp, 1), (27, .ifCond .gt 25, 3), (30, .lload_n 3, 1), (31, .iload_n 0, 1), (32, .ifCond .eq 9, 3), (35, .ldc2_w 83, 3), (38, .goto 6, 3), (41, .ldc2_w 87, 3), (44, .lcmp, 1), (45, .ifCond .gt 7, 3), (48, .iconst 1, 1), (49, .goto 4, 3), (52, .iconst 0, 1), (53, .ireturn, 1)]
set_option maxRecDepth 100000 in
theorem D_MO_isSize : ∀ q ∈ L_MO_isSize, decode prog_14_method_5_code q.1 = .ok q.2 := by decide +kernel
theorem d_MO_isSize_0 : decode M_MO_isSize.2.1 0 = .ok (.lload_n 1, 1) := fx_d (q := (0, .lload_n 1, 1)) D_MO_isSize 0 rfl
theorem d_MO_isSize_1 : decode M_MO_isSize.2.1 1 = .ok (.lconst 1, 1) := fx_d (q := (1, .lconst 1, 1)) D_MO_isSize 1 rfl
theorem d_MO_isSize_2 : decode M_MO_isSize.2.1 2 = .ok (.lcmp, 1) := fx_d (q := (2, .lcmp, 1)) D_MO_isSize 2 rfl
theorem d_MO_isSize_3 : decode M_MO_isSize.2.1 3 = .ok (.ifCond .lt 49, 3) := fx_d (q := (3, .ifCond .lt 49, 3)) D_MO_isSize 3 rfl
theorem d_MO_isSize_6 : decode M_MO_isSize.2.1 6 = .ok (.lload_n 3, 1) := fx_d (q := (6, .lload_n 3, 1)) D_MO_isSize 4 rfl
theorem d_MO_isSize_7 : decode M_MO_isSize.2.1 7 = .ok (.lconst 1, 1) := fx_d (q := (7, .lconst 1, 1)) D_MO_isSize 5 rfl
theorem d_MO_isSize_8 : decode M_MO_isSize.2.1 8 = .ok (.lcmp, 1) := fx_d (q := (8, .lcmp, 1)) D_MO_isSize 6 rfl
theorem d_MO_isSize_9 : decode M_MO_isSize.2.1 9 = .ok (.ifCond .lt 43, 3) := fx_d (q := (9, .ifCond .lt 43, 3)) D_MO_isSize 7 rfl
theorem d_MO_isSize_12 : decode M_MO_isSize.2.1 12 = .ok (.lload_n 1, 1) := fx_d (q := (12, .lload_n 1, 1)) D_MO_isSize 8 rfl
theorem d_MO_isSize_13 : decode M_MO_isSize.2.1 13 = .ok (.iload_n 0, 1) := fx_d (q := (13, .iload_n 0, 1)) D_MO_isSize 9 rfl
theorem d_MO_isSize_14 : decode M_MO_isSize.2.1 14 = .ok (.ifCond .eq 9, 3) := fx_d (q := (14, .ifCond .eq 9, 3)) D_MO_isSize 10 rfl
theorem d_MO_isSize_17 : decode M_MO_isSize.2.1 17 = .ok (.ldc2_w 83, 3) := fx_d (q := (17, .ldc2_w 83, 3)) D_MO_isSize 11 rfl
theorem d_MO_isSize_20 : decode M_MO_isSize.2.1 20 = .ok (.goto 6, 3) := fx_d (q := (20, .goto 6, 3)) D_MO_isSize 12 rfl
theorem d_MO_isSize_23 : decode M_MO_isSize.2.1 23 = .ok (.ldc2_w 85, 3) := fx_d (q := (23, .ldc2_w 85, 3)) D_MO_isSize 13 rfl
theorem d_MO_isSize_26 : decode M_MO_isSize.2.1 26 = .ok (.lcmp, 1) := fx_d (q := (26, .lcmp, 1)) D_MO_isSize 14 rfl
theorem d_MO_isSize_27 : decode M_MO_isSize.2.1 27 = .ok (.ifCond .gt 25, 3) := fx_d (q := (27, .ifCond .gt 25, 3)) D_MO_isSize 15 rfl
theorem d_MO_isSize_30 : decode M_MO_isSize.2.1 30 = .ok (.lload_n 3, 1) := fx_d (q := (30, .lload_n 3, 1)) D_MO_isSize 16 rfl
theorem d_MO_isSize_31 : decode M_MO_isSize.2.1 31 = .ok (.iload_n 0, 1) := fx_d (q := (31, .iload_n 0, 1)) D_MO_isSize 17 rfl
theorem d_MO_isSize_32 : decode M_MO_isSize.2.1 32 = .ok (.ifCond .eq 9, 3) := fx_d (q := (32, .ifCond .eq 9, 3)) D_MO_isSize 18 rfl
theorem d_MO_isSize_35 : decode M_MO_isSize.2.1 35 = .ok (.ldc2_w 83, 3) := fx_d (q := (35, .ldc2_w 83, 3)) D_MO_isSize 19 rfl
theorem d_MO_isSize_38 : decode M_MO_isSize.2.1 38 = .ok (.goto 6, 3) := fx_d (q := (38, .goto 6, 3)) D_MO_isSize 20 rfl
theorem d_MO_isSize_41 : decode M_MO_isSize.2.1 41 = .ok (.ldc2_w 87, 3) := fx_d (q := (41, .ldc2_w 87, 3)) D_MO_isSize 21 rfl
theorem d_MO_isSize_44 : decode M_MO_isSize.2.1 44 = .ok (.lcmp, 1) := fx_d (q := (44, .lcmp, 1)) D_MO_isSize 22 rfl
theorem d_MO_isSize_45 : decode M_MO_isSize.2.1 45 = .ok (.ifCond .gt 7, 3) := fx_d (q := (45, .ifCond .gt 7, 3)) D_MO_isSize 23 rfl
theorem d_MO_isSize_48 : decode M_MO_isSize.2.1 48 = .ok (.iconst 1, 1) := fx_d (q := (48, .iconst 1, 1)) D_MO_isSize 24 rfl
theorem d_MO_isSize_49 : decode M_MO_isSize.2.1 49 = .ok (.goto 4, 3) := fx_d (q := (49, .goto 4, 3)) D_MO_isSize 25 rfl
theorem d_MO_isSize_52 : decode M_MO_isSize.2.1 52 = .ok (.iconst 0, 1) := fx_d (q := (52, .iconst 0, 1)) D_MO_isSize 26 rfl
theorem d_MO_isSize_53 : decode M_MO_isSize.2.1 53 = .ok (.ireturn, 1) := fx_d (q := (53, .ireturn, 1)) D_MO_isSize 27 rfl
set_option maxRecDepth 100000 in
def L_MO_refused : List (Nat × Instr × Nat) := [(0, .aload_n 0, 1), (1, .iload_n 1, 1), (2, .ifCond .eq 7, 3), (5, .iconst 1, 1), (6, .goto 12, 3), (9, .iload_n 2, 1), (10, .ifCond .eq 7, 3), (13, .iconst 2, 1), (14, .goto 4, 3), (17, .iconst 0, 1), (18, .putfield 80, 3), (21, .aload_n 0, 1), (22, .getfield 80, 3), (25, .ifCond .le 7, 3), (28, .iconst 1, 1), (29, .goto 4, 3), (32, .iconst 0, 1), (33, .ireturn, 1)]
set_option maxRecDepth 100000 in
theorem D_MO_refused : ∀ q ∈ L_MO_refused, decode prog_14_method_4_code q.1 = .ok q.2 := by decide +kernel
theorem d_MO_refused_0 : decode M_MO_refused.2.1 0 = .ok (.aload_n 0, 1) := fx_d (q := (0, .aload_n 0, 1)) D_MO_refused 0 rfl
theorem d_MO_refused_1 : decode M_MO_refused.2.1 1 = .ok (.iload_n 1, 1) := fx_d (q := (1, .iload_n 1, 1)) D_MO_refused 1 rfl
theorem d_MO_refused_2 : decode M_MO_refused.2.1 2 = .ok (.ifCond .eq 7, 3) := fx_d (q := (2, .ifCond .eq 7, 3)) D_MO_refused 2 rfl
theorem d_MO_refused_5 : decode M_MO_refused.2.1 5 = .ok (.iconst 1, 1) := fx_d (q := (5, .iconst 1, 1)) D_MO_refused 3 rfl
theorem d_MO_refused_6 : decode M_MO_refused.2.1 6 = .ok (.goto 12, 3) := fx_d (q := (6, .goto 12, 3)) D_MO_refused 4 rfl
theorem d_MO_refused_9 : decode M_MO_refused.2.1 9 = .ok (.iload_n 2, 1) := fx_d (q := (9, .iload_n 2, 1)) D_MO_refused 5 rfl
theorem d_MO_refused_10 : decode M_MO_refused.2.1 10 = .ok (.ifCond .eq 7, 3) := fx_d (q := (10, .ifCond .eq 7, 3)) D_MO_refused 6 rfl
theorem d_MO_refused_13 : decode M_MO_refused.2.1 13 = .ok (.iconst 2, 1) := fx_d (q := (13, .iconst 2, 1)) D_MO_refused 7 rfl
theorem d_MO_refused_14 : decode M_MO_refused.2.1 14 = .ok (.goto 4, 3) := fx_d (q := (14, .goto 4, 3)) D_MO_refused 8 rfl
theorem d_MO_refused_17 : decode M_MO_refused.2.1 17 = .ok (.iconst 0, 1) := fx_d (q := (17, .iconst 0, 1)) D_MO_refused 9 rfl
theorem d_MO_refused_18 : decode M_MO_refused.2.1 18 = .ok (.putfield 80, 3) := fx_d (q := (18, .putfield 80, 3)) D_MO_refused 10 rfl
theorem d_MO_refused_21 : decode M_MO_refused.2.1 21 = .ok (.aload_n 0, 1) := fx_d (q := (21, .aload_n 0, 1)) D_MO_refused 11 rfl
theorem d_MO_refused_22 : decode M_MO_refused.2.1 22 = .ok (.getfield 80, 3) := fx_d (q := (22, .getfield 80, 3)) D_MO_refused 12 rfl
theorem d_MO_refused_25 : decode M_MO_refused.2.1 25 = .ok (.ifCond .le 7, 3) := fx_d (q := (25, .ifCond .le 7, 3)) D_MO_refused 13 rfl
theorem d_MO_refused_28 : decode M_MO_refused.2.1 28 = .ok (.iconst 1, 1) := fx_d (q := (28, .iconst 1, 1)) D_MO_refused 14 rfl
theorem d_MO_refused_29 : decode M_MO_refused.2.1 29 = .ok (.goto 4, 3) := fx_d (q := (29, .goto 4, 3)) D_MO_refused 15 rfl
theorem d_MO_refused_32 : decode M_MO_refused.2.1 32 = .ok (.iconst 0, 1) := fx_d (q := (32, .iconst 0, 1)) D_MO_refused 16 rfl
theorem d_MO_refused_33 : decode M_MO_refused.2.1 33 = .ok (.ireturn, 1) := fx_d (q := (33, .ireturn, 1)) D_MO_refused 17 rfl
set_option maxRecDepth 100000 in
def L_MO_set : List (Nat × Instr × Nat) := [(0, .aload_n 0, 1), (1, .aload_n 0, 1), (2, .iload_n 1, 1), (3, .iload_n 2, 1), (4, .invokevirtual 101, 3), (7, .ifCond .ne 7, 3), (10, .iconst 1, 1), (11, .goto 4, 3), (14, .iconst 0, 1), (15, .iload_n 3, 1), (16, .ifCond .lt 21, 3), (19, .iload_n 3, 1), (20, .aload_n 0, 1), (21, .getfield 97, 3), (24, .ifCond .eq 9, 3), (27, .sipush 255, 3), (30, .goto 4, 3), (33, .iconst 1, 1), (34, .if_icmp .le 7, 3), (37, .iconst 1, 1), (38, .goto 4, 3), (41, .iconst 0, 1), (42, .invokevirtual 93, 3), (45, .ifCond .ne 17, 3), (48, .aload_n 0, 1), (49, .getfield 16, 3), (52, .aload_n 0, 1), (53, .getfield 7, 3), (56, .iload_n 2, 1), (57, .imul, 1), (58, .iload_n 1, 1), (59, .iadd, 1), (60, .iload_n 3, 1), (61, .iastore, 1), (62, .return_, 1)]
set_option maxRecDepth 100000 in
theorem D_MO_set : ∀ q ∈ L_MO_set, decode prog_14_method_8_code q.1 = .ok q.2 := by decide +kernel
theorem d_MO_set_0 : decode M_MO_set.2.1 0 = .ok (.aload_n 0, 1) := fx_d (q := (0, .aload_n 0, 1)) D_MO_set 0 rfl
theorem d_MO_set_1 : decode M_MO_set.2.1 1 = .ok (.aload_n 0, 1) := fx_d (q := (1, .aload_n 0, 1)) D_MO_set 1 rfl
theorem d_MO_set_2 : decode M_MO_set.2.1 2 = .ok (.iload_n 1, 1) := fx_d (q := (2, .iload_n 1, 1)) D_MO_set 2 rfl
theorem d_MO_set_3 : decode M_MO_set.2.1 3 = .ok (.iload_n 2, 1) := fx_d (q := (3, .iload_n 2, 1)) D_MO_set 3 rfl
theorem d_MO_set_4 : decode M_MO_set.2.1 4 = .ok (.invokevirtual 101, 3) := fx_d (q := (4, .invokevirtual 101, 3)) D_MO_set 4 rfl
theorem d_MO_set_7 : decode M_MO_set.2.1 7 = .ok (.ifCond .ne 7, 3) := fx_d (q := (7, .ifCond .ne 7, 3)) D_MO_set 5 rfl
theorem d_MO_set_10 : decode M_MO_set.2.1 10 = .ok (.iconst 1, 1) := fx_d (q := (10, .iconst 1, 1)) D_MO_set 6 rfl
theorem d_MO_set_11 : decode M_MO_set.2.1 11 = .ok (.goto 4, 3) := fx_d (q := (11, .goto 4, 3)) D_MO_set 7 rfl
theorem d_MO_set_14 : decode M_MO_set.2.1 14 = .ok (.iconst 0, 1) := fx_d (q := (14, .iconst 0, 1)) D_MO_set 8 rfl
theorem d_MO_set_15 : decode M_MO_set.2.1 15 = .ok (.iload_n 3, 1) := fx_d (q := (15, .iload_n 3, 1)) D_MO_set 9 rfl
theorem d_MO_set_16 : decode M_MO_set.2.1 16 = .ok (.ifCond .lt 21, 3) := fx_d (q := (16, .ifCond .lt 21, 3)) D_MO_set 10 rfl
theorem d_MO_set_19 : decode M_MO_set.2.1 19 = .ok (.iload_n 3, 1) := fx_d (q := (19, .iload_n 3, 1)) D_MO_set 11 rfl
theorem d_MO_set_20 : decode M_MO_set.2.1 20 = .ok (.aload_n 0, 1) := fx_d (q := (20, .aload_n 0, 1)) D_MO_set 12 rfl
theorem d_MO_set_21 : decode M_MO_set.2.1 21 = .ok (.getfield 97, 3) := fx_d (q := (21, .getfield 97, 3)) D_MO_set 13 rfl
theorem d_MO_set_24 : decode M_MO_set.2.1 24 = .ok (.ifCond .eq 9, 3) := fx_d (q := (24, .ifCond .eq 9, 3)) D_MO_set 14 rfl
theorem d_MO_set_27 : decode M_MO_set.2.1 27 = .ok (.sipush 255, 3) := fx_d (q := (27, .sipush 255, 3)) D_MO_set 15 rfl
theorem d_MO_set_30 : decode M_MO_set.2.1 30 = .ok (.goto 4, 3) := fx_d (q := (30, .goto 4, 3)) D_MO_set 16 rfl
theorem d_MO_set_33 : decode M_MO_set.2.1 33 = .ok (.iconst 1, 1) := fx_d (q := (33, .iconst 1, 1)) D_MO_set 17 rfl
theorem d_MO_set_34 : decode M_MO_set.2.1 34 = .ok (.if_icmp .le 7, 3) := fx_d (q := (34, .if_icmp .le 7, 3)) D_MO_set 18 rfl
theorem d_MO_set_37 : decode M_MO_set.2.1 37 = .ok (.iconst 1, 1) := fx_d (q := (37, .iconst 1, 1)) D_MO_set 19 rfl
theorem d_MO_set_38 : decode M_MO_set.2.1 38 = .ok (.goto 4, 3) := fx_d (q := (38, .goto 4, 3)) D_MO_set 20 rfl
theorem d_MO_set_41 : decode M_MO_set.2.1 41 = .ok (.iconst 0, 1) := fx_d (q := (41, .iconst 0, 1)) D_MO_set 21 rfl
theorem d_MO_set_42 : decode M_MO_set.2.1 42 = .ok (.invokevirtual 93, 3) := fx_d (q := (42, .invokevirtual 93, 3)) D_MO_set 22 rfl
theorem d_MO_set_45 : decode M_MO_set.2.1 45 = .ok (.ifCond .ne 17, 3) := fx_d (q := (45, .ifCond .ne 17, 3)) D_MO_set 23 rfl
theorem d_MO_set_48 : decode M_MO_set.2.1 48 = .ok (.aload_n 0, 1) := fx_d (q := (48, .aload_n 0, 1)) D_MO_set 24 rfl
theorem d_MO_set_49 : decode M_MO_set.2.1 49 = .ok (.getfield 16, 3) := fx_d (q := (49, .getfield 16, 3)) D_MO_set 25 rfl
theorem d_MO_set_52 : decode M_MO_set.2.1 52 = .ok (.aload_n 0, 1) := fx_d (q := (52, .aload_n 0, 1)) D_MO_set 26 rfl
theorem d_MO_set_53 : decode M_MO_set.2.1 53 = .ok (.getfield 7, 3) := fx_d (q := (53, .getfield 7, 3)) D_MO_set 27 rfl
theorem d_MO_set_56 : decode M_MO_set.2.1 56 = .ok (.iload_n 2, 1) := fx_d (q := (56, .iload_n 2, 1)) D_MO_set 28 rfl
theorem d_MO_set_57 : decode M_MO_set.2.1 57 = .ok (.imul, 1) := fx_d (q := (57, .imul, 1)) D_MO_set 29 rfl
theorem d_MO_set_58 : decode M_MO_set.2.1 58 = .ok (.iload_n 1, 1) := fx_d (q := (58, .iload_n 1, 1)) D_MO_set 30 rfl
theorem d_MO_set_59 : decode M_MO_set.2.1 59 = .ok (.iadd, 1) := fx_d (q := (59, .iadd, 1)) D_MO_set 31 rfl
theorem d_MO_set_60 : decode M_MO_set.2.1 60 = .ok (.iload_n 3, 1) := fx_d (q := (60, .iload_n 3, 1)) D_MO_set 32 rfl
theorem d_MO_set_61 : decode M_MO_set.2.1 61 = .ok (.iastore, 1) := fx_d (q := (61, .iastore, 1)) D_MO_set 33 rfl
theorem d_MO_set_62 : decode M_MO_set.2.1 62 = .ok (.return_, 1) := fx_d (q := (62, .return_, 1)) D_MO_set 34 rfl
set_option maxRecDepth 100000 in
def L_MO_isPixel : List (Nat × Instr × Nat) := [(0, .iload_n 1, 1), (1, .ifCond .lt 27, 3), (4, .iload_n 1, 1), (5, .aload_n 0, 1), (6, .getfield 7, 3), (9, .if_icmp .ge 19, 3), (12, .iload_n 2, 1), (13, .ifCond .lt 15, 3), (16, .iload_n 2, 1), (17, .aload_n 0, 1), (18, .getfield 13, 3), (21, .if_icmp .ge 7, 3), (24, .iconst 1, 1), (25, .goto 4, 3), (28, .iconst 0, 1), (29, .ireturn, 1)]
set_option maxRecDepth 100000 in
theorem D_MO_isPixel : ∀ q ∈ L_MO_isPixel, decode prog_14_method_7_code q.1 = .ok q.2 := by decide +kernel
theorem d_MO_isPixel_0 : decode M_MO_isPixel.2.1 0 = .ok (.iload_n 1, 1) := fx_d (q := (0, .iload_n 1, 1)) D_MO_isPixel 0 rfl
theorem d_MO_isPixel_1 : decode M_MO_isPixel.2.1 1 = .ok (.ifCond .lt 27, 3) := fx_d (q := (1, .ifCond .lt 27, 3)) D_MO_isPixel 1 rfl
theorem d_MO_isPixel_4 : decode M_MO_isPixel.2.1 4 = .ok (.iload_n 1, 1) := fx_d (q := (4, .iload_n 1, 1)) D_MO_isPixel 2 rfl
theorem d_MO_isPixel_5 : decode M_MO_isPixel.2.1 5 = .ok (.aload_n 0, 1) := fx_d (q := (5, .aload_n 0, 1)) D_MO_isPixel 3 rfl
theorem d_MO_isPixel_6 : decode M_MO_isPixel.2.1 6 = .ok (.getfield 7, 3) := fx_d (q := (6, .getfield 7, 3)) D_MO_isPixel 4 rfl
theorem d_MO_isPixel_9 : decode M_MO_isPixel.2.1 9 = .ok (.if_icmp .ge 19, 3) := fx_d (q := (9, .if_icmp .ge 19, 3)) D_MO_isPixel 5 rfl
theorem d_MO_isPixel_12 : decode M_MO_isPixel.2.1 12 = .ok (.iload_n 2, 1) := fx_d (q := (12, .iload_n 2, 1)) D_MO_isPixel 6 rfl
theorem d_MO_isPixel_13 : decode M_MO_isPixel.2.1 13 = .ok (.ifCond .lt 15, 3) := fx_d (q := (13, .ifCond .lt 15, 3)) D_MO_isPixel 7 rfl
theorem d_MO_isPixel_16 : decode M_MO_isPixel.2.1 16 = .ok (.iload_n 2, 1) := fx_d (q := (16, .iload_n 2, 1)) D_MO_isPixel 8 rfl
theorem d_MO_isPixel_17 : decode M_MO_isPixel.2.1 17 = .ok (.aload_n 0, 1) := fx_d (q := (17, .aload_n 0, 1)) D_MO_isPixel 9 rfl
theorem d_MO_isPixel_18 : decode M_MO_isPixel.2.1 18 = .ok (.getfield 13, 3) := fx_d (q := (18, .getfield 13, 3)) D_MO_isPixel 10 rfl
theorem d_MO_isPixel_21 : decode M_MO_isPixel.2.1 21 = .ok (.if_icmp .ge 7, 3) := fx_d (q := (21, .if_icmp .ge 7, 3)) D_MO_isPixel 11 rfl
theorem d_MO_isPixel_24 : decode M_MO_isPixel.2.1 24 = .ok (.iconst 1, 1) := fx_d (q := (24, .iconst 1, 1)) D_MO_isPixel 12 rfl
theorem d_MO_isPixel_25 : decode M_MO_isPixel.2.1 25 = .ok (.goto 4, 3) := fx_d (q := (25, .goto 4, 3)) D_MO_isPixel 13 rfl
theorem d_MO_isPixel_28 : decode M_MO_isPixel.2.1 28 = .ok (.iconst 0, 1) := fx_d (q := (28, .iconst 0, 1)) D_MO_isPixel 14 rfl
theorem d_MO_isPixel_29 : decode M_MO_isPixel.2.1 29 = .ok (.ireturn, 1) := fx_d (q := (29, .ireturn, 1)) D_MO_isPixel 15 rfl
set_option maxRecDepth 100000 in
def L_MO_get : List (Nat × Instr × Nat) := [(0, .aload_n 0, 1), (1, .iconst 0, 1), (2, .putfield 80, 3), (5, .aload_n 0, 1), (6, .iload_n 1, 1), (7, .iload_n 2, 1), (8, .invokevirtual 101, 3), (11, .ifCond .eq 19, 3), (14, .aload_n 0, 1), (15, .getfield 16, 3), (18, .aload_n 0, 1), (19, .getfield 7, 3), (22, .iload_n 2, 1), (23, .imul, 1), (24, .iload_n 1, 1), (25, .iadd, 1), (26, .iaload, 1), (27, .goto 5, 3), (30, .bipush (-9), 2), (32, .ireturn, 1)]
set_option maxRecDepth 100000 in
theorem D_MO_get : ∀ q ∈ L_MO_get, decode prog_14_method_9_code q.1 = .ok q.2 := by decide +kernel
theorem d_MO_get_0 : decode M_MO_get.2.1 0 = .ok (.aload_n 0, 1) := fx_d (q := (0, .aload_n 0, 1)) D_MO_get 0 rfl
theorem d_MO_get_1 : decode M_MO_get.2.1 1 = .ok (.iconst 0, 1) := fx_d (q := (1, .iconst 0, 1)) D_MO_get 1 rfl
theorem d_MO_get_2 : decode M_MO_get.2.1 2 = .ok (.putfield 80, 3) := fx_d (q := (2, .putfield 80, 3)) D_MO_get 2 rfl
theorem d_MO_get_5 : decode M_MO_get.2.1 5 = .ok (.aload_n 0, 1) := fx_d (q := (5, .aload_n 0, 1)) D_MO_get 3 rfl
theorem d_MO_get_6 : decode M_MO_get.2.1 6 = .ok (.iload_n 1, 1) := fx_d (q := (6, .iload_n 1, 1)) D_MO_get 4 rfl
theorem d_MO_get_7 : decode M_MO_get.2.1 7 = .ok (.iload_n 2, 1) := fx_d (q := (7, .iload_n 2, 1)) D_MO_get 5 rfl
theorem d_MO_get_8 : decode M_MO_get.2.1 8 = .ok (.invokevirtual 101, 3) := fx_d (q := (8, .invokevirtual 101, 3)) D_MO_get 6 rfl
theorem d_MO_get_11 : decode M_MO_get.2.1 11 = .ok (.ifCond .eq 19, 3) := fx_d (q := (11, .ifCond .eq 19, 3)) D_MO_get 7 rfl
theorem d_MO_get_14 : decode M_MO_get.2.1 14 = .ok (.aload_n 0, 1) := fx_d (q := (14, .aload_n 0, 1)) D_MO_get 8 rfl
theorem d_MO_get_15 : decode M_MO_get.2.1 15 = .ok (.getfield 16, 3) := fx_d (q := (15, .getfield 16, 3)) D_MO_get 9 rfl
theorem d_MO_get_18 : decode M_MO_get.2.1 18 = .ok (.aload_n 0, 1) := fx_d (q := (18, .aload_n 0, 1)) D_MO_get 10 rfl
theorem d_MO_get_19 : decode M_MO_get.2.1 19 = .ok (.getfield 7, 3) := fx_d (q := (19, .getfield 7, 3)) D_MO_get 11 rfl
theorem d_MO_get_22 : decode M_MO_get.2.1 22 = .ok (.iload_n 2, 1) := fx_d (q := (22, .iload_n 2, 1)) D_MO_get 12 rfl
theorem d_MO_get_23 : decode M_MO_get.2.1 23 = .ok (.imul, 1) := fx_d (q := (23, .imul, 1)) D_MO_get 13 rfl
theorem d_MO_get_24 : decode M_MO_get.2.1 24 = .ok (.iload_n 1, 1) := fx_d (q := (24, .iload_n 1, 1)) D_MO_get 14 rfl
theorem d_MO_get_25 : decode M_MO_get.2.1 25 = .ok (.iadd, 1) := fx_d (q := (25, .iadd, 1)) D_MO_get 15 rfl
theorem d_MO_get_26 : decode M_MO_get.2.1 26 = .ok (.iaload, 1) := fx_d (q := (26, .iaload, 1)) D_MO_get 16 rfl
theorem d_MO_get_27 : decode M_MO_get.2.1 27 = .ok (.goto 5, 3) := fx_d (q := (27, .goto 5, 3)) D_MO_get 17 rfl
theorem d_MO_get_30 : decode M_MO_get.2.1 30 = .ok (.bipush (-9), 2) := fx_d (q := (30, .bipush (-9), 2)) D_MO_get 18 rfl
theorem d_MO_get_32 : decode M_MO_get.2.1 32 = .ok (.ireturn, 1) := fx_d (q := (32, .ireturn, 1)) D_MO_get 19 rfl
set_option maxRecDepth 100000 in
def L_MO_info : List (Nat × Instr × Nat) := [(0, .aload_n 0, 1), (1, .iconst 0, 1), (2, .putfield 80, 3), (5, .iload_n 1, 1), (6, .tableswitch 85 0 6 #[42, 47, 52, 65, 70, 75, 80], 42), (48, .aload_n 0, 1), (49, .getfield 7, 3), (52, .ireturn, 1), (53, .aload_n 0, 1), (54, .getfield 13, 3), (57, .ireturn, 1), (58, .aload_n 0, 1), (59, .getfield 97, 3), (62, .ifCond .eq 7, 3), (65, .iconst 1, 1), (66, .goto 4, 3), (69, .iconst 0, 1), (70, .ireturn, 1), (71, .aload_n 0, 1), (72, .getfield 23, 3), (75, .ireturn, 1), (76, .aload_n 0, 1), (77, .getfield 26, 3), (80, .ireturn, 1), (81, .aload_n 0, 1), (82, .getfield 29, 3), (85, .ireturn, 1), (86, .aload_n 0, 1), (87, .getfield 32, 3), (90, .ireturn, 1), (91, .bipush (-9), 2), (93, .ireturn, 1)]
set_option maxRecDepth 100000 in
theorem D_MO_info : ∀ q ∈ L_MO_info, decode prog_14_method_10_code q.1 = .ok q.2 := by decide +kernel
theorem d_MO_info_0 : decode M_MO_info.2.1 0 = .ok (.aload_n 0, 1) := fx_d (q := (0, .aload_n 0, 1)) D_MO_info 0 rfl
theorem d_MO_info_1 : decode M_MO_info.2.1 1 = .ok (.iconst 0, 1) := fx_d (q := (1, .iconst 0, 1)) D_MO_info 1 rfl
theorem d_MO_info_2 : decode M_MO_info.2.1 2 = .ok (.putfield 80, 3) := fx_d (q := (2, .putfield 80, 3)) D_MO_info 2 rfl
theorem d_MO_info_5 : decode M_MO_info.2.1 5 = .ok (.iload_n 1, 1) := fx_d (q := (5, .iload_n 1, 1)) D_MO_info 3 rfl
theorem d_MO_info_6 : decode M_MO_info.2.1 6 = .ok (.tableswitch 85 0 6 #[42, 47, 52, 65, 70, 75, 80], 42) := fx_d (q := (6, .tableswitch 85 0 6 #[42, 47, 52, 65, 70, 75, 80], 42)) D_MO_info 4 rfl
theorem d_MO_info_48 : decode M_MO_info.2.1 48 = .ok (.aload_n 0, 1) := fx_d (q := (48, .aload_n 0, 1)) D_MO_info 5 rfl
theorem d_MO_info_49 : decode M_MO_info.2.1 49 = .ok (.getfield 7, 3) := fx_d (q := (49, .getfield 7, 3)) D_MO_info 6 rfl
theorem d_MO_info_52 : decode M_MO_info.2.1 52 = .ok (.ireturn, 1) := fx_d (q := (52, .ireturn, 1)) D_MO_info 7 rfl
theorem d_MO_info_53 : decode M_MO_info.2.1 53 = .ok (.aload_n 0, 1) := fx_d (q := (53, .aload_n 0, 1)) D_MO_info 8 rfl
theorem d_MO_info_54 : decode M_MO_info.2.1 54 = .ok (.getfield 13, 3) := fx_d (q := (54, .getfield 13, 3)) D_MO_info 9 rfl
theorem d_MO_info_57 : decode M_MO_info.2.1 57 = .ok (.ireturn, 1) := fx_d (q := (57, .ireturn, 1)) D_MO_info 10 rfl
theorem d_MO_info_58 : decode M_MO_info.2.1 58 = .ok (.aload_n 0, 1) := fx_d (q := (58, .aload_n 0, 1)) D_MO_info 11 rfl
theorem d_MO_info_59 : decode M_MO_info.2.1 59 = .ok (.getfield 97, 3) := fx_d (q := (59, .getfield 97, 3)) D_MO_info 12 rfl
theorem d_MO_info_62 : decode M_MO_info.2.1 62 = .ok (.ifCond .eq 7, 3) := fx_d (q := (62, .ifCond .eq 7, 3)) D_MO_info 13 rfl
theorem d_MO_info_65 : decode M_MO_info.2.1 65 = .ok (.iconst 1, 1) := fx_d (q := (65, .iconst 1, 1)) D_MO_info 14 rfl
theorem d_MO_info_66 : decode M_MO_info.2.1 66 = .ok (.goto 4, 3) := fx_d (q := (66, .goto 4, 3)) D_MO_info 15 rfl
theorem d_MO_info_69 : decode M_MO_info.2.1 69 = .ok (.iconst 0, 1) := fx_d (q := (69, .iconst 0, 1)) D_MO_info 16 rfl
theorem d_MO_info_70 : decode M_MO_info.2.1 70 = .ok (.ireturn, 1) := fx_d (q := (70, .ireturn, 1)) D_MO_info 17 rfl
theorem d_MO_info_71 : decode M_MO_info.2.1 71 = .ok (.aload_n 0, 1) := fx_d (q := (71, .aload_n 0, 1)) D_MO_info 18 rfl
theorem d_MO_info_72 : decode M_MO_info.2.1 72 = .ok (.getfield 23, 3) := fx_d (q := (72, .getfield 23, 3)) D_MO_info 19 rfl
theorem d_MO_info_75 : decode M_MO_info.2.1 75 = .ok (.ireturn, 1) := fx_d (q := (75, .ireturn, 1)) D_MO_info 20 rfl
theorem d_MO_info_76 : decode M_MO_info.2.1 76 = .ok (.aload_n 0, 1) := fx_d (q := (76, .aload_n 0, 1)) D_MO_info 21 rfl
theorem d_MO_info_77 : decode M_MO_info.2.1 77 = .ok (.getfield 26, 3) := fx_d (q := (77, .getfield 26, 3)) D_MO_info 22 rfl
theorem d_MO_info_80 : decode M_MO_info.2.1 80 = .ok (.ireturn, 1) := fx_d (q := (80, .ireturn, 1)) D_MO_info 23 rfl
theorem d_MO_info_81 : decode M_MO_info.2.1 81 = .ok (.aload_n 0, 1) := fx_d (q := (81, .aload_n 0, 1)) D_MO_info 24 rfl
theorem d_MO_info_82 : decode M_MO_info.2.1 82 = .ok (.getfield 29, 3) := fx_d (q := (82, .getfield 29, 3)) D_MO_info 25 rfl
theorem d_MO_info_85 : decode M_MO_info.2.1 85 = .ok (.ireturn, 1) := fx_d (q := (85, .ireturn, 1)) D_MO_info 26 rfl
theorem d_MO_info_86 : decode M_MO_info.2.1 86 = .ok (.aload_n 0, 1) := fx_d (q := (86, .aload_n 0, 1)) D_MO_info 27 rfl
theorem d_MO_info_87 : decode M_MO_info.2.1 87 = .ok (.getfield 32, 3) := fx_d (q := (87, .getfield 32, 3)) D_MO_info 28 rfl
theorem d_MO_info_90 : decode M_MO_info.2.1 90 = .ok (.ireturn, 1) := fx_d (q := (90, .ireturn, 1)) D_MO_info 29 rfl
theorem d_MO_info_91 : decode M_MO_info.2.1 91 = .ok (.bipush (-9), 2) := fx_d (q := (91, .bipush (-9), 2)) D_MO_info 30 rfl
theorem d_MO_info_93 : decode M_MO_info.2.1 93 = .ok (.ireturn, 1) := fx_d (q := (93, .ireturn, 1)) D_MO_info 31 rfl
set_option maxRecDepth 100000 in
def L_MO_write : List (Nat × Instr × Nat) := [(0, .iload_n 1, 1), (1, .iconst 3, 1), (2, .if_icmp .eq 8, 3), (5, .iload_n 1, 1), (6, .iconst 4, 1), (7, .if_icmp .ne 7, 3), (10, .iconst 1, 1), (11, .goto 4, 3), (14, .iconst 0, 1), (15, .istore 4, 2), (17, .aload_n 0, 1), (18, .iload_n 1, 1), (19, .i2l, 1), (20, .invokestatic 222, 3), (23, .ifCond .eq 16, 3), (26, .iload_n 3, 1), (27, .iconst 1, 1), (28, .if_icmp .lt 11, 3), (31, .iload_n 3, 1), (32, .aload_n 0, 1), (33, .getfield 13, 3), (36, .if_icmp .le 7, 3), (39, .iconst 1, 1), (40, .goto 4, 3), (43, .iconst 0, 1), (44, .iload 4, 2), (46, .ifCond .eq 14, 3), (49, .aload_n 0, 1), (50, .getfield 97, 3), (53, .ifCond .eq 7, 3), (56, .iconst 1, 1), (57, .goto 4, 3), (60, .iconst 0, 1), (61, .invokevirtual 93, 3), (64, .ifCond .eq 5, 3), (67, .iconst 0, 1), (68, .ireturn, 1), (69, .aload_n 0, 1), (70, .iload_n 1, 1), (71, .putfield 180, 3), (74, .aload_n 0, 1), (75, .iload_n 2, 1), (76, .putfield 108, 3), (79, .aload_n 0, 1), (80, .iload_n 3, 1), (81, .putfield 219, 3), (84, .aload_n 0, 1), (85, .aload_n 0, 1), (86, .getfield 97, 3), (89, .putfield 128, 3), (92, .aload_n 0, 1), (93, .aload_n 0, 1), (94, .getfield 7, 3), (97, .putfield 131, 3), (100, .aload_n 0, 1), (101, .aload_n 0, 1), (102, .getfield 13, 3), (105, .putfield 216, 3), (108, .aload_n 0, 1), (109, .iconst 0, 1), (110, .putfield 105, 3), (113, .aload_n 0, 1), (114, .aload_n 0, 1), (115, .getfield 108, 3), (118, .ifCond .eq 8, 3), (121, .bipush 77, 2), (123, .goto 5, 3), (126, .bipush 73, 2), (128, .invokevirtual 111, 3), (131, .aload_n 0, 1), (132, .aload_n 0, 1), (133, .getfield 108, 3), (136, .ifCond .eq 8, 3), (139, .bipush 77, 2), (141, .goto 5, 3), (144, .bipush 73, 2), (146, .invokevirtual 111, 3), (149, .aload_n 0, 1), (150, .bipush 42, 2), (152, .iconst 2, 1), (153, .invokevirtual 209, 3), (156, .aload_n 0, 1), (157, .iconst 0, 1), (158, .iconst 4, 1), (159, .invokevirtual 209, 3), (162, .aload_n 0, 1), (163, .getfield 216, 3), (166, .aload_n 0, 1), (167, .getfield 219, 3), (170, .iadd, 1), (171, .iconst 1, 1), (172, .isub, 1), (173, .aload_n 0, 1), (174, .getfield 219, 3), (177, .idiv, 1), (178, .istore 5, 2), (180, .iconst 0, 1), (181, .istore 6, 2), (183, .iload 6, 2), (185, .iload 5, 2), (187, .if_icmp .ge 63, 3), (190, .aload_n 0, 1), (191, .getfield 56, 3), (194, .iload 6, 2), (196, .aload_n 0, 1), (197, .getfield 105, 3), (200, .iastore, 1), (201, .aload_n 0, 1), (202, .iload 6, 2), (204, .aload_n 0, 1), (205, .getfield 219, 3), (208, .imul, 1), (209, .iload 6, 2), (211, .aload_n 0, 1), (212, .getfield 216, 3), (215, .aload_n 0, 1), (216, .getfield 219, 3), (219, .invokestatic 226, 3), (222, .invokevirtual 230, 3), (225, .aload_n 0, 1), (226, .getfield 59, 3), (229, .iload 6, 2), (231, .aload_n 0, 1), (232, .getfield 105, 3), (235, .aload_n 0, 1), (236, .getfield 56, 3), (239, .iload 6, 2), (241, .iaload, 1), (242, .isub, 1), (243, .iastore, 1), (244, .iinc 6 1, 3), (247, .goto (-64), 3), (250, .aload_n 0, 1), (251, .getfield 105, 3), (254, .istore 6, 2), (256, .iconst 0, 1), (257, .istore 7, 2), (259, .iload 7, 2), (261, .iconst 2, 1), (262, .iload 5, 2), (264, .imul, 1), (265, .if_icmp .ge 47, 3), (268, .iload 5, 2), (270, .iconst 1, 1), (271, .if_icmp .le 41, 3), (274, .aload_n 0, 1), (275, .iload 7, 2), (277, .iload 5, 2), (279, .if_icmp .ge 13, 3), (282, .aload_n 0, 1), (283, .getfield 56, 3), (286, .iload 7, 2), (288, .iaload, 1), (289, .goto 13, 3), (292, .aload_n 0, 1), (293, .getfield 59, 3), (296, .iload 7, 2), (298, .iload 5, 2), (300, .isub, 1), (301, .iaload, 1), (302, .iconst 4, 1), (303, .invokevirtual 209, 3), (306, .iinc 7 1, 3), (309, .goto (-50), 3), (312, .aload_n 0, 1), (313, .getfield 105, 3), (316, .iconst 2, 1), (317, .irem, 1), (318, .iconst 1, 1), (319, .if_icmp .ne 8, 3), (322, .aload_n 0, 1), (323, .iconst 0, 1), (324, .invokevirtual 111, 3), (327, .aload_n 0, 1), (328, .getfield 105, 3), (331, .istore 7, 2), (333, .aload_n 0, 1), (334, .iconst 4, 1), (335, .putfield 105, 3), (338, .aload_n 0, 1), (339, .iload 7, 2), (341, .iconst 4, 1), (342, .invokevirtual 209, 3), (345, .aload_n 0, 1), (346, .iload 7, 2), (348, .putfield 105, 3), (351, .aload_n 0, 1), (352, .iload 5, 2), (354, .iload 6, 2), (356, .invokevirtual 233, 3), (359, .aload_n 0, 1), (360, .iload 5, 2), (362, .invokevirtual 236, 3), (365, .aload_n 0, 1), (366, .getfield 105, 3), (369, .ireturn, 1)]
set_option maxRecDepth 100000 in
theorem D_MO_write : ∀ q ∈ L_MO_write, decode prog_14_method_38_code q.1 = .ok q.2 := by decide +kernel
theorem d_MO_write_0 : decode M_MO_write.2.1 0 = .ok (.iload_n 1, 1) := fx_d (q := (0, .iload_n 1, 1)) D_MO_write 0 rfl
theorem d_MO_write_1 : decode M_MO_write.2.1 1 = .ok (.iconst 3, 1) := fx_d (q := (1, .iconst 3, 1)) D_MO_write 1 rfl
theorem d_MO_write_2 : decode M_MO_write.2.1 2 = .ok (.if_icmp .eq 8, 3) := fx_d (q := (2, .if_icmp .eq 8, 3)) D_MO_write 2 rfl
theorem d_MO_write_5 : decode M_MO_write.2.1 5 = .ok (.iload_n 1, 1) := fx_d (q := (5, .iload_n 1, 1)) D_MO_write 3 rfl
theorem d_MO_write_6 : decode M_MO_write.2.1 6 = .ok (.iconst 4, 1) := fx_d (q := (6, .iconst 4, 1)) D_MO_write 4 rfl
theorem d_MO_write_7 : decode M_MO_write.2.1 7 = .ok (.if_icmp .ne 7, 3) := fx_d (q := (7, .if_icmp .ne 7, 3)) D_MO_write 5 rfl
theorem d_MO_write_10 : decode M_MO_write.2.1 10 = .ok (.iconst 1, 1) := fx_d (q := (10, .iconst 1, 1)) D_MO_write 6 rfl
theorem d_MO_write_11 : decode M_MO_write.2.1 11 = .ok (.goto 4, 3) := fx_d (q := (11, .goto 4, 3)) D_MO_write 7 rfl
theorem d_MO_write_14 : decode M_MO_write.2.1 14 = .ok (.iconst 0, 1) := fx_d (q := (14, .iconst 0, 1)) D_MO_write 8 rfl
theorem d_MO_write_15 : decode M_MO_write.2.1 15 = .ok (.istore 4, 2) := fx_d (q := (15, .istore 4, 2)) D_MO_write 9 rfl
theorem d_MO_write_17 : decode M_MO_write.2.1 17 = .ok (.aload_n 0, 1) := fx_d (q := (17, .aload_n 0, 1)) D_MO_write 10 rfl
theorem d_MO_write_18 : decode M_MO_write.2.1 18 = .ok (.iload_n 1, 1) := fx_d (q := (18, .iload_n 1, 1)) D_MO_write 11 rfl
theorem d_MO_write_19 : decode M_MO_write.2.1 19 = .ok (.i2l, 1) := fx_d (q := (19, .i2l, 1)) D_MO_write 12 rfl
theorem d_MO_write_20 : decode M_MO_write.2.1 20 = .ok (.invokestatic 222, 3) := fx_d (q := (20, .invokestatic 222, 3)) D_MO_write 13 rfl
theorem d_MO_write_23 : decode M_MO_write.2.1 23 = .ok (.ifCond .eq 16, 3) := fx_d (q := (23, .ifCond .eq 16, 3)) D_MO_write 14 rfl
theorem d_MO_write_26 : decode M_MO_write.2.1 26 = .ok (.iload_n 3, 1) := fx_d (q := (26, .iload_n 3, 1)) D_MO_write 15 rfl
theorem d_MO_write_27 : decode M_MO_write.2.1 27 = .ok (.iconst 1, 1) := fx_d (q := (27, .iconst 1, 1)) D_MO_write 16 rfl
theorem d_MO_write_28 : decode M_MO_write.2.1 28 = .ok (.if_icmp .lt 11, 3) := fx_d (q := (28, .if_icmp .lt 11, 3)) D_MO_write 17 rfl
theorem d_MO_write_31 : decode M_MO_write.2.1 31 = .ok (.iload_n 3, 1) := fx_d (q := (31, .iload_n 3, 1)) D_MO_write 18 rfl
theorem d_MO_write_32 : decode M_MO_write.2.1 32 = .ok (.aload_n 0, 1) := fx_d (q := (32, .aload_n 0, 1)) D_MO_write 19 rfl
theorem d_MO_write_33 : decode M_MO_write.2.1 33 = .ok (.getfield 13, 3) := fx_d (q := (33, .getfield 13, 3)) D_MO_write 20 rfl
theorem d_MO_write_36 : decode M_MO_write.2.1 36 = .ok (.if_icmp .le 7, 3) := fx_d (q := (36, .if_icmp .le 7, 3)) D_MO_write 21 rfl
theorem d_MO_write_39 : decode M_MO_write.2.1 39 = .ok (.iconst 1, 1) := fx_d (q := (39, .iconst 1, 1)) D_MO_write 22 rfl
theorem d_MO_write_40 : decode M_MO_write.2.1 40 = .ok (.goto 4, 3) := fx_d (q := (40, .goto 4, 3)) D_MO_write 23 rfl
theorem d_MO_write_43 : decode M_MO_write.2.1 43 = .ok (.iconst 0, 1) := fx_d (q := (43, .iconst 0, 1)) D_MO_write 24 rfl
theorem d_MO_write_44 : decode M_MO_write.2.1 44 = .ok (.iload 4, 2) := fx_d (q := (44, .iload 4, 2)) D_MO_write 25 rfl
theorem d_MO_write_46 : decode M_MO_write.2.1 46 = .ok (.ifCond .eq 14, 3) := fx_d (q := (46, .ifCond .eq 14, 3)) D_MO_write 26 rfl
theorem d_MO_write_49 : decode M_MO_write.2.1 49 = .ok (.aload_n 0, 1) := fx_d (q := (49, .aload_n 0, 1)) D_MO_write 27 rfl
theorem d_MO_write_50 : decode M_MO_write.2.1 50 = .ok (.getfield 97, 3) := fx_d (q := (50, .getfield 97, 3)) D_MO_write 28 rfl
theorem d_MO_write_53 : decode M_MO_write.2.1 53 = .ok (.ifCond .eq 7, 3) := fx_d (q := (53, .ifCond .eq 7, 3)) D_MO_write 29 rfl
theorem d_MO_write_56 : decode M_MO_write.2.1 56 = .ok (.iconst 1, 1) := fx_d (q := (56, .iconst 1, 1)) D_MO_write 30 rfl
theorem d_MO_write_57 : decode M_MO_write.2.1 57 = .ok (.goto 4, 3) := fx_d (q := (57, .goto 4, 3)) D_MO_write 31 rfl
theorem d_MO_write_60 : decode M_MO_write.2.1 60 = .ok (.iconst 0, 1) := fx_d (q := (60, .iconst 0, 1)) D_MO_write 32 rfl
theorem d_MO_write_61 : decode M_MO_write.2.1 61 = .ok (.invokevirtual 93, 3) := fx_d (q := (61, .invokevirtual 93, 3)) D_MO_write 33 rfl
theorem d_MO_write_64 : decode M_MO_write.2.1 64 = .ok (.ifCond .eq 5, 3) := fx_d (q := (64, .ifCond .eq 5, 3)) D_MO_write 34 rfl
theorem d_MO_write_67 : decode M_MO_write.2.1 67 = .ok (.iconst 0, 1) := fx_d (q := (67, .iconst 0, 1)) D_MO_write 35 rfl
theorem d_MO_write_68 : decode M_MO_write.2.1 68 = .ok (.ireturn, 1) := fx_d (q := (68, .ireturn, 1)) D_MO_write 36 rfl
theorem d_MO_write_69 : decode M_MO_write.2.1 69 = .ok (.aload_n 0, 1) := fx_d (q := (69, .aload_n 0, 1)) D_MO_write 37 rfl
theorem d_MO_write_70 : decode M_MO_write.2.1 70 = .ok (.iload_n 1, 1) := fx_d (q := (70, .iload_n 1, 1)) D_MO_write 38 rfl
theorem d_MO_write_71 : decode M_MO_write.2.1 71 = .ok (.putfield 180, 3) := fx_d (q := (71, .putfield 180, 3)) D_MO_write 39 rfl
theorem d_MO_write_74 : decode M_MO_write.2.1 74 = .ok (.aload_n 0, 1) := fx_d (q := (74, .aload_n 0, 1)) D_MO_write 40 rfl
theorem d_MO_write_75 : decode M_MO_write.2.1 75 = .ok (.iload_n 2, 1) := fx_d (q := (75, .iload_n 2, 1)) D_MO_write 41 rfl
theorem d_MO_write_76 : decode M_MO_write.2.1 76 = .ok (.putfield 108, 3) := fx_d (q := (76, .putfield 108, 3)) D_MO_write 42 rfl
theorem d_MO_write_79 : decode M_MO_write.2.1 79 = .ok (.aload_n 0, 1) := fx_d (q := (79, .aload_n 0, 1)) D_MO_write 43 rfl
theorem d_MO_write_80 : decode M_MO_write.2.1 80 = .ok (.iload_n 3, 1) := fx_d (q := (80, .iload_n 3, 1)) D_MO_write 44 rfl
theorem d_MO_write_81 : decode M_MO_write.2.1 81 = .ok (.putfield 219, 3) := fx_d (q := (81, .putfield 219, 3)) D_MO_write 45 rfl
theorem d_MO_write_84 : decode M_MO_write.2.1 84 = .ok (.aload_n 0, 1) := fx_d (q := (84, .aload_n 0, 1)) D_MO_write 46 rfl
theorem d_MO_write_85 : decode M_MO_write.2.1 85 = .ok (.aload_n 0, 1) := fx_d (q := (85, .aload_n 0, 1)) D_MO_write 47 rfl
theorem d_MO_write_86 : decode M_MO_write.2.1 86 = .ok (.getfield 97, 3) := fx_d (q := (86, .getfield 97, 3)) D_MO_write 48 rfl
theorem d_MO_write_89 : decode M_MO_write.2.1 89 = .ok (.putfield 128, 3) := fx_d (q := (89, .putfield 128, 3)) D_MO_write 49 rfl
theorem d_MO_write_92 : decode M_MO_write.2.1 92 = .ok (.aload_n 0, 1) := fx_d (q := (92, .aload_n 0, 1)) D_MO_write 50 rfl
theorem d_MO_write_93 : decode M_MO_write.2.1 93 = .ok (.aload_n 0, 1) := fx_d (q := (93, .aload_n 0, 1)) D_MO_write 51 rfl
theorem d_MO_write_94 : decode M_MO_write.2.1 94 = .ok (.getfield 7, 3) := fx_d (q := (94, .getfield 7, 3)) D_MO_write 52 rfl
theorem d_MO_write_97 : decode M_MO_write.2.1 97 = .ok (.putfield 131, 3) := fx_d (q := (97, .putfield 131, 3)) D_MO_write 53 rfl
theorem d_MO_write_100 : decode M_MO_write.2.1 100 = .ok (.aload_n 0, 1) := fx_d (q := (100, .aload_n 0, 1)) D_MO_write 54 rfl
theorem d_MO_write_101 : decode M_MO_write.2.1 101 = .ok (.aload_n 0, 1) := fx_d (q := (101, .aload_n 0, 1)) D_MO_write 55 rfl
theorem d_MO_write_102 : decode M_MO_write.2.1 102 = .ok (.getfield 13, 3) := fx_d (q := (102, .getfield 13, 3)) D_MO_write 56 rfl
theorem d_MO_write_105 : decode M_MO_write.2.1 105 = .ok (.putfield 216, 3) := fx_d (q := (105, .putfield 216, 3)) D_MO_write 57 rfl
theorem d_MO_write_108 : decode M_MO_write.2.1 108 = .ok (.aload_n 0, 1) := fx_d (q := (108, .aload_n 0, 1)) D_MO_write 58 rfl
theorem d_MO_write_109 : decode M_MO_write.2.1 109 = .ok (.iconst 0, 1) := fx_d (q := (109, .iconst 0, 1)) D_MO_write 59 rfl
theorem d_MO_write_110 : decode M_MO_write.2.1 110 = .ok (.putfield 105, 3) := fx_d (q := (110, .putfield 105, 3)) D_MO_write 60 rfl
theorem d_MO_write_113 : decode M_MO_write.2.1 113 = .ok (.aload_n 0, 1) := fx_d (q := (113, .aload_n 0, 1)) D_MO_write 61 rfl
theorem d_MO_write_114 : decode M_MO_write.2.1 114 = .ok (.aload_n 0, 1) := fx_d (q := (114, .aload_n 0, 1)) D_MO_write 62 rfl
theorem d_MO_write_115 : decode M_MO_write.2.1 115 = .ok (.getfield 108, 3) := fx_d (q := (115, .getfield 108, 3)) D_MO_write 63 rfl
theorem d_MO_write_118 : decode M_MO_write.2.1 118 = .ok (.ifCond .eq 8, 3) := fx_d (q := (118, .ifCond .eq 8, 3)) D_MO_write 64 rfl
theorem d_MO_write_121 : decode M_MO_write.2.1 121 = .ok (.bipush 77, 2) := fx_d (q := (121, .bipush 77, 2)) D_MO_write 65 rfl
theorem d_MO_write_123 : decode M_MO_write.2.1 123 = .ok (.goto 5, 3) := fx_d (q := (123, .goto 5, 3)) D_MO_write 66 rfl
theorem d_MO_write_126 : decode M_MO_write.2.1 126 = .ok (.bipush 73, 2) := fx_d (q := (126, .bipush 73, 2)) D_MO_write 67 rfl
theorem d_MO_write_128 : decode M_MO_write.2.1 128 = .ok (.invokevirtual 111, 3) := fx_d (q := (128, .invokevirtual 111, 3)) D_MO_write 68 rfl
theorem d_MO_write_131 : decode M_MO_write.2.1 131 = .ok (.aload_n 0, 1) := fx_d (q := (131, .aload_n 0, 1)) D_MO_write 69 rfl
theorem d_MO_write_132 : decode M_MO_write.2.1 132 = .ok (.aload_n 0, 1) := fx_d (q := (132, .aload_n 0, 1)) D_MO_write 70 rfl
theorem d_MO_write_133 : decode M_MO_write.2.1 133 = .ok (.getfield 108, 3) := fx_d (q := (133, .getfield 108, 3)) D_MO_write 71 rfl
theorem d_MO_write_136 : decode M_MO_write.2.1 136 = .ok (.ifCond .eq 8, 3) := fx_d (q := (136, .ifCond .eq 8, 3)) D_MO_write 72 rfl
theorem d_MO_write_139 : decode M_MO_write.2.1 139 = .ok (.bipush 77, 2) := fx_d (q := (139, .bipush 77, 2)) D_MO_write 73 rfl
theorem d_MO_write_141 : decode M_MO_write.2.1 141 = .ok (.goto 5, 3) := fx_d (q := (141, .goto 5, 3)) D_MO_write 74 rfl
theorem d_MO_write_144 : decode M_MO_write.2.1 144 = .ok (.bipush 73, 2) := fx_d (q := (144, .bipush 73, 2)) D_MO_write 75 rfl
theorem d_MO_write_146 : decode M_MO_write.2.1 146 = .ok (.invokevirtual 111, 3) := fx_d (q := (146, .invokevirtual 111, 3)) D_MO_write 76 rfl
theorem d_MO_write_149 : decode M_MO_write.2.1 149 = .ok (.aload_n 0, 1) := fx_d (q := (149, .aload_n 0, 1)) D_MO_write 77 rfl
theorem d_MO_write_150 : decode M_MO_write.2.1 150 = .ok (.bipush 42, 2) := fx_d (q := (150, .bipush 42, 2)) D_MO_write 78 rfl
theorem d_MO_write_152 : decode M_MO_write.2.1 152 = .ok (.iconst 2, 1) := fx_d (q := (152, .iconst 2, 1)) D_MO_write 79 rfl
theorem d_MO_write_153 : decode M_MO_write.2.1 153 = .ok (.invokevirtual 209, 3) := fx_d (q := (153, .invokevirtual 209, 3)) D_MO_write 80 rfl
theorem d_MO_write_156 : decode M_MO_write.2.1 156 = .ok (.aload_n 0, 1) := fx_d (q := (156, .aload_n 0, 1)) D_MO_write 81 rfl
theorem d_MO_write_157 : decode M_MO_write.2.1 157 = .ok (.iconst 0, 1) := fx_d (q := (157, .iconst 0, 1)) D_MO_write 82 rfl
theorem d_MO_write_158 : decode M_MO_write.2.1 158 = .ok (.iconst 4, 1) := fx_d (q := (158, .iconst 4, 1)) D_MO_write 83 rfl
theorem d_MO_write_159 : decode M_MO_write.2.1 159 = .ok (.invokevirtual 209, 3) := fx_d (q := (159, .invokevirtual 209, 3)) D_MO_write 84 rfl
theorem d_MO_write_162 : decode M_MO_write.2.1 162 = .ok (.aload_n 0, 1) := fx_d (q := (162, .aload_n 0, 1)) D_MO_write 85 rfl
theorem d_MO_write_163 : decode M_MO_write.2.1 163 = .ok (.getfield 216, 3) := fx_d (q := (163, .getfield 216, 3)) D_MO_write 86 rfl
theorem d_MO_write_166 : decode M_MO_write.2.1 166 = .ok (.aload_n 0, 1) := fx_d (q := (166, .aload_n 0, 1)) D_MO_write 87 rfl
theorem d_MO_write_167 : decode M_MO_write.2.1 167 = .ok (.getfield 219, 3) := fx_d (q := (167, .getfield 219, 3)) D_MO_write 88 rfl
theorem d_MO_write_170 : decode M_MO_write.2.1 170 = .ok (.iadd, 1) := fx_d (q := (170, .iadd, 1)) D_MO_write 89 rfl
theorem d_MO_write_171 : decode M_MO_write.2.1 171 = .ok (.iconst 1, 1) := fx_d (q := (171, .iconst 1, 1)) D_MO_write 90 rfl
theorem d_MO_write_172 : decode M_MO_write.2.1 172 = .ok (.isub, 1) := fx_d (q := (172, .isub, 1)) D_MO_write 91 rfl
theorem d_MO_write_173 : decode M_MO_write.2.1 173 = .ok (.aload_n 0, 1) := fx_d (q := (173, .aload_n 0, 1)) D_MO_write 92 rfl
theorem d_MO_write_174 : decode M_MO_write.2.1 174 = .ok (.getfield 219, 3) := fx_d (q := (174, .getfield 219, 3)) D_MO_write 93 rfl
theorem d_MO_write_177 : decode M_MO_write.2.1 177 = .ok (.idiv, 1) := fx_d (q := (177, .idiv, 1)) D_MO_write 94 rfl
theorem d_MO_write_178 : decode M_MO_write.2.1 178 = .ok (.istore 5, 2) := fx_d (q := (178, .istore 5, 2)) D_MO_write 95 rfl
theorem d_MO_write_180 : decode M_MO_write.2.1 180 = .ok (.iconst 0, 1) := fx_d (q := (180, .iconst 0, 1)) D_MO_write 96 rfl
theorem d_MO_write_181 : decode M_MO_write.2.1 181 = .ok (.istore 6, 2) := fx_d (q := (181, .istore 6, 2)) D_MO_write 97 rfl
theorem d_MO_write_183 : decode M_MO_write.2.1 183 = .ok (.iload 6, 2) := fx_d (q := (183, .iload 6, 2)) D_MO_write 98 rfl
theorem d_MO_write_185 : decode M_MO_write.2.1 185 = .ok (.iload 5, 2) := fx_d (q := (185, .iload 5, 2)) D_MO_write 99 rfl
theorem d_MO_write_187 : decode M_MO_write.2.1 187 = .ok (.if_icmp .ge 63, 3) := fx_d (q := (187, .if_icmp .ge 63, 3)) D_MO_write 100 rfl
theorem d_MO_write_190 : decode M_MO_write.2.1 190 = .ok (.aload_n 0, 1) := fx_d (q := (190, .aload_n 0, 1)) D_MO_write 101 rfl
theorem d_MO_write_191 : decode M_MO_write.2.1 191 = .ok (.getfield 56, 3) := fx_d (q := (191, .getfield 56, 3)) D_MO_write 102 rfl
theorem d_MO_write_194 : decode M_MO_write.2.1 194 = .ok (.iload 6, 2) := fx_d (q := (194, .iload 6, 2)) D_MO_write 103 rfl
theorem d_MO_write_196 : decode M_MO_write.2.1 196 = .ok (.aload_n 0, 1) := fx_d (q := (196, .aload_n 0, 1)) D_MO_write 104 rfl
theorem d_MO_write_197 : decode M_MO_write.2.1 197 = .ok (.getfield 105, 3) := fx_d (q := (197, .getfield 105, 3)) D_MO_write 105 rfl
theorem d_MO_write_200 : decode M_MO_write.2.1 200 = .ok (.iastore, 1) := fx_d (q := (200, .iastore, 1)) D_MO_write 106 rfl
theorem d_MO_write_201 : decode M_MO_write.2.1 201 = .ok (.aload_n 0, 1) := fx_d (q := (201, .aload_n 0, 1)) D_MO_write 107 rfl
theorem d_MO_write_202 : decode M_MO_write.2.1 202 = .ok (.iload 6, 2) := fx_d (q := (202, .iload 6, 2)) D_MO_write 108 rfl
theorem d_MO_write_204 : decode M_MO_write.2.1 204 = .ok (.aload_n 0, 1) := fx_d (q := (204, .aload_n 0, 1)) D_MO_write 109 rfl
theorem d_MO_write_205 : decode M_MO_write.2.1 205 = .ok (.getfield 219, 3) := fx_d (q := (205, .getfield 219, 3)) D_MO_write 110 rfl
theorem d_MO_write_208 : decode M_MO_write.2.1 208 = .ok (.imul, 1) := fx_d (q := (208, .imul, 1)) D_MO_write 111 rfl
theorem d_MO_write_209 : decode M_MO_write.2.1 209 = .ok (.iload 6, 2) := fx_d (q := (209, .iload 6, 2)) D_MO_write 112 rfl
theorem d_MO_write_211 : decode M_MO_write.2.1 211 = .ok (.aload_n 0, 1) := fx_d (q := (211, .aload_n 0, 1)) D_MO_write 113 rfl
theorem d_MO_write_212 : decode M_MO_write.2.1 212 = .ok (.getfield 216, 3) := fx_d (q := (212, .getfield 216, 3)) D_MO_write 114 rfl
theorem d_MO_write_215 : decode M_MO_write.2.1 215 = .ok (.aload_n 0, 1) := fx_d (q := (215, .aload_n 0, 1)) D_MO_write 115 rfl
theorem d_MO_write_216 : decode M_MO_write.2.1 216 = .ok (.getfield 219, 3) := fx_d (q := (216, .getfield 219, 3)) D_MO_write 116 rfl
theorem d_MO_write_219 : decode M_MO_write.2.1 219 = .ok (.invokestatic 226, 3) := fx_d (q := (219, .invokestatic 226, 3)) D_MO_write 117 rfl
theorem d_MO_write_222 : decode M_MO_write.2.1 222 = .ok (.invokevirtual 230, 3) := fx_d (q := (222, .invokevirtual 230, 3)) D_MO_write 118 rfl
theorem d_MO_write_225 : decode M_MO_write.2.1 225 = .ok (.aload_n 0, 1) := fx_d (q := (225, .aload_n 0, 1)) D_MO_write 119 rfl
theorem d_MO_write_226 : decode M_MO_write.2.1 226 = .ok (.getfield 59, 3) := fx_d (q := (226, .getfield 59, 3)) D_MO_write 120 rfl
theorem d_MO_write_229 : decode M_MO_write.2.1 229 = .ok (.iload 6, 2) := fx_d (q := (229, .iload 6, 2)) D_MO_write 121 rfl
theorem d_MO_write_231 : decode M_MO_write.2.1 231 = .ok (.aload_n 0, 1) := fx_d (q := (231, .aload_n 0, 1)) D_MO_write 122 rfl
theorem d_MO_write_232 : decode M_MO_write.2.1 232 = .ok (.getfield 105, 3) := fx_d (q := (232, .getfield 105, 3)) D_MO_write 123 rfl
theorem d_MO_write_235 : decode M_MO_write.2.1 235 = .ok (.aload_n 0, 1) := fx_d (q := (235, .aload_n 0, 1)) D_MO_write 124 rfl
theorem d_MO_write_236 : decode M_MO_write.2.1 236 = .ok (.getfield 56, 3) := fx_d (q := (236, .getfield 56, 3)) D_MO_write 125 rfl
theorem d_MO_write_239 : decode M_MO_write.2.1 239 = .ok (.iload 6, 2) := fx_d (q := (239, .iload 6, 2)) D_MO_write 126 rfl
theorem d_MO_write_241 : decode M_MO_write.2.1 241 = .ok (.iaload, 1) := fx_d (q := (241, .iaload, 1)) D_MO_write 127 rfl
theorem d_MO_write_242 : decode M_MO_write.2.1 242 = .ok (.isub, 1) := fx_d (q := (242, .isub, 1)) D_MO_write 128 rfl
theorem d_MO_write_243 : decode M_MO_write.2.1 243 = .ok (.iastore, 1) := fx_d (q := (243, .iastore, 1)) D_MO_write 129 rfl
theorem d_MO_write_244 : decode M_MO_write.2.1 244 = .ok (.iinc 6 1, 3) := fx_d (q := (244, .iinc 6 1, 3)) D_MO_write 130 rfl
theorem d_MO_write_247 : decode M_MO_write.2.1 247 = .ok (.goto (-64), 3) := fx_d (q := (247, .goto (-64), 3)) D_MO_write 131 rfl
theorem d_MO_write_250 : decode M_MO_write.2.1 250 = .ok (.aload_n 0, 1) := fx_d (q := (250, .aload_n 0, 1)) D_MO_write 132 rfl
theorem d_MO_write_251 : decode M_MO_write.2.1 251 = .ok (.getfield 105, 3) := fx_d (q := (251, .getfield 105, 3)) D_MO_write 133 rfl
theorem d_MO_write_254 : decode M_MO_write.2.1 254 = .ok (.istore 6, 2) := fx_d (q := (254, .istore 6, 2)) D_MO_write 134 rfl
theorem d_MO_write_256 : decode M_MO_write.2.1 256 = .ok (.iconst 0, 1) := fx_d (q := (256, .iconst 0, 1)) D_MO_write 135 rfl
theorem d_MO_write_257 : decode M_MO_write.2.1 257 = .ok (.istore 7, 2) := fx_d (q := (257, .istore 7, 2)) D_MO_write 136 rfl
theorem d_MO_write_259 : decode M_MO_write.2.1 259 = .ok (.iload 7, 2) := fx_d (q := (259, .iload 7, 2)) D_MO_write 137 rfl
theorem d_MO_write_261 : decode M_MO_write.2.1 261 = .ok (.iconst 2, 1) := fx_d (q := (261, .iconst 2, 1)) D_MO_write 138 rfl
theorem d_MO_write_262 : decode M_MO_write.2.1 262 = .ok (.iload 5, 2) := fx_d (q := (262, .iload 5, 2)) D_MO_write 139 rfl
theorem d_MO_write_264 : decode M_MO_write.2.1 264 = .ok (.imul, 1) := fx_d (q := (264, .imul, 1)) D_MO_write 140 rfl
theorem d_MO_write_265 : decode M_MO_write.2.1 265 = .ok (.if_icmp .ge 47, 3) := fx_d (q := (265, .if_icmp .ge 47, 3)) D_MO_write 141 rfl
theorem d_MO_write_268 : decode M_MO_write.2.1 268 = .ok (.iload 5, 2) := fx_d (q := (268, .iload 5, 2)) D_MO_write 142 rfl
theorem d_MO_write_270 : decode M_MO_write.2.1 270 = .ok (.iconst 1, 1) := fx_d (q := (270, .iconst 1, 1)) D_MO_write 143 rfl
theorem d_MO_write_271 : decode M_MO_write.2.1 271 = .ok (.if_icmp .le 41, 3) := fx_d (q := (271, .if_icmp .le 41, 3)) D_MO_write 144 rfl
theorem d_MO_write_274 : decode M_MO_write.2.1 274 = .ok (.aload_n 0, 1) := fx_d (q := (274, .aload_n 0, 1)) D_MO_write 145 rfl
theorem d_MO_write_275 : decode M_MO_write.2.1 275 = .ok (.iload 7, 2) := fx_d (q := (275, .iload 7, 2)) D_MO_write 146 rfl
theorem d_MO_write_277 : decode M_MO_write.2.1 277 = .ok (.iload 5, 2) := fx_d (q := (277, .iload 5, 2)) D_MO_write 147 rfl
theorem d_MO_write_279 : decode M_MO_write.2.1 279 = .ok (.if_icmp .ge 13, 3) := fx_d (q := (279, .if_icmp .ge 13, 3)) D_MO_write 148 rfl
theorem d_MO_write_282 : decode M_MO_write.2.1 282 = .ok (.aload_n 0, 1) := fx_d (q := (282, .aload_n 0, 1)) D_MO_write 149 rfl
theorem d_MO_write_283 : decode M_MO_write.2.1 283 = .ok (.getfield 56, 3) := fx_d (q := (283, .getfield 56, 3)) D_MO_write 150 rfl
theorem d_MO_write_286 : decode M_MO_write.2.1 286 = .ok (.iload 7, 2) := fx_d (q := (286, .iload 7, 2)) D_MO_write 151 rfl
theorem d_MO_write_288 : decode M_MO_write.2.1 288 = .ok (.iaload, 1) := fx_d (q := (288, .iaload, 1)) D_MO_write 152 rfl
theorem d_MO_write_289 : decode M_MO_write.2.1 289 = .ok (.goto 13, 3) := fx_d (q := (289, .goto 13, 3)) D_MO_write 153 rfl
theorem d_MO_write_292 : decode M_MO_write.2.1 292 = .ok (.aload_n 0, 1) := fx_d (q := (292, .aload_n 0, 1)) D_MO_write 154 rfl
theorem d_MO_write_293 : decode M_MO_write.2.1 293 = .ok (.getfield 59, 3) := fx_d (q := (293, .getfield 59, 3)) D_MO_write 155 rfl
theorem d_MO_write_296 : decode M_MO_write.2.1 296 = .ok (.iload 7, 2) := fx_d (q := (296, .iload 7, 2)) D_MO_write 156 rfl
theorem d_MO_write_298 : decode M_MO_write.2.1 298 = .ok (.iload 5, 2) := fx_d (q := (298, .iload 5, 2)) D_MO_write 157 rfl
theorem d_MO_write_300 : decode M_MO_write.2.1 300 = .ok (.isub, 1) := fx_d (q := (300, .isub, 1)) D_MO_write 158 rfl
theorem d_MO_write_301 : decode M_MO_write.2.1 301 = .ok (.iaload, 1) := fx_d (q := (301, .iaload, 1)) D_MO_write 159 rfl
theorem d_MO_write_302 : decode M_MO_write.2.1 302 = .ok (.iconst 4, 1) := fx_d (q := (302, .iconst 4, 1)) D_MO_write 160 rfl
theorem d_MO_write_303 : decode M_MO_write.2.1 303 = .ok (.invokevirtual 209, 3) := fx_d (q := (303, .invokevirtual 209, 3)) D_MO_write 161 rfl
theorem d_MO_write_306 : decode M_MO_write.2.1 306 = .ok (.iinc 7 1, 3) := fx_d (q := (306, .iinc 7 1, 3)) D_MO_write 162 rfl
theorem d_MO_write_309 : decode M_MO_write.2.1 309 = .ok (.goto (-50), 3) := fx_d (q := (309, .goto (-50), 3)) D_MO_write 163 rfl
theorem d_MO_write_312 : decode M_MO_write.2.1 312 = .ok (.aload_n 0, 1) := fx_d (q := (312, .aload_n 0, 1)) D_MO_write 164 rfl
theorem d_MO_write_313 : decode M_MO_write.2.1 313 = .ok (.getfield 105, 3) := fx_d (q := (313, .getfield 105, 3)) D_MO_write 165 rfl
theorem d_MO_write_316 : decode M_MO_write.2.1 316 = .ok (.iconst 2, 1) := fx_d (q := (316, .iconst 2, 1)) D_MO_write 166 rfl
theorem d_MO_write_317 : decode M_MO_write.2.1 317 = .ok (.irem, 1) := fx_d (q := (317, .irem, 1)) D_MO_write 167 rfl
theorem d_MO_write_318 : decode M_MO_write.2.1 318 = .ok (.iconst 1, 1) := fx_d (q := (318, .iconst 1, 1)) D_MO_write 168 rfl
theorem d_MO_write_319 : decode M_MO_write.2.1 319 = .ok (.if_icmp .ne 8, 3) := fx_d (q := (319, .if_icmp .ne 8, 3)) D_MO_write 169 rfl
theorem d_MO_write_322 : decode M_MO_write.2.1 322 = .ok (.aload_n 0, 1) := fx_d (q := (322, .aload_n 0, 1)) D_MO_write 170 rfl
theorem d_MO_write_323 : decode M_MO_write.2.1 323 = .ok (.iconst 0, 1) := fx_d (q := (323, .iconst 0, 1)) D_MO_write 171 rfl
theorem d_MO_write_324 : decode M_MO_write.2.1 324 = .ok (.invokevirtual 111, 3) := fx_d (q := (324, .invokevirtual 111, 3)) D_MO_write 172 rfl
theorem d_MO_write_327 : decode M_MO_write.2.1 327 = .ok (.aload_n 0, 1) := fx_d (q := (327, .aload_n 0, 1)) D_MO_write 173 rfl
theorem d_MO_write_328 : decode M_MO_write.2.1 328 = .ok (.getfield 105, 3) := fx_d (q := (328, .getfield 105, 3)) D_MO_write 174 rfl
theorem d_MO_write_331 : decode M_MO_write.2.1 331 = .ok (.istore 7, 2) := fx_d (q := (331, .istore 7, 2)) D_MO_write 175 rfl
theorem d_MO_write_333 : decode M_MO_write.2.1 333 = .ok (.aload_n 0, 1) := fx_d (q := (333, .aload_n 0, 1)) D_MO_write 176 rfl
theorem d_MO_write_334 : decode M_MO_write.2.1 334 = .ok (.iconst 4, 1) := fx_d (q := (334, .iconst 4, 1)) D_MO_write 177 rfl
theorem d_MO_write_335 : decode M_MO_write.2.1 335 = .ok (.putfield 105, 3) := fx_d (q := (335, .putfield 105, 3)) D_MO_write 178 rfl
theorem d_MO_write_338 : decode M_MO_write.2.1 338 = .ok (.aload_n 0, 1) := fx_d (q := (338, .aload_n 0, 1)) D_MO_write 179 rfl
theorem d_MO_write_339 : decode M_MO_write.2.1 339 = .ok (.iload 7, 2) := fx_d (q := (339, .iload 7, 2)) D_MO_write 180 rfl
theorem d_MO_write_341 : decode M_MO_write.2.1 341 = .ok (.iconst 4, 1) := fx_d (q := (341, .iconst 4, 1)) D_MO_write 181 rfl
theorem d_MO_write_342 : decode M_MO_write.2.1 342 = .ok (.invokevirtual 209, 3) := fx_d (q := (342, .invokevirtual 209, 3)) D_MO_write 182 rfl
theorem d_MO_write_345 : decode M_MO_write.2.1 345 = .ok (.aload_n 0, 1) := fx_d (q := (345, .aload_n 0, 1)) D_MO_write 183 rfl
theorem d_MO_write_346 : decode M_MO_write.2.1 346 = .ok (.iload 7, 2) := fx_d (q := (346, .iload 7, 2)) D_MO_write 184 rfl
theorem d_MO_write_348 : decode M_MO_write.2.1 348 = .ok (.putfield 105, 3) := fx_d (q := (348, .putfield 105, 3)) D_MO_write 185 rfl
theorem d_MO_write_351 : decode M_MO_write.2.1 351 = .ok (.aload_n 0, 1) := fx_d (q := (351, .aload_n 0, 1)) D_MO_write 186 rfl
theorem d_MO_write_352 : decode M_MO_write.2.1 352 = .ok (.iload 5, 2) := fx_d (q := (352, .iload 5, 2)) D_MO_write 187 rfl
theorem d_MO_write_354 : decode M_MO_write.2.1 354 = .ok (.iload 6, 2) := fx_d (q := (354, .iload 6, 2)) D_MO_write 188 rfl
theorem d_MO_write_356 : decode M_MO_write.2.1 356 = .ok (.invokevirtual 233, 3) := fx_d (q := (356, .invokevirtual 233, 3)) D_MO_write 189 rfl
theorem d_MO_write_359 : decode M_MO_write.2.1 359 = .ok (.aload_n 0, 1) := fx_d (q := (359, .aload_n 0, 1)) D_MO_write 190 rfl
theorem d_MO_write_360 : decode M_MO_write.2.1 360 = .ok (.iload 5, 2) := fx_d (q := (360, .iload 5, 2)) D_MO_write 191 rfl
theorem d_MO_write_362 : decode M_MO_write.2.1 362 = .ok (.invokevirtual 236, 3) := fx_d (q := (362, .invokevirtual 236, 3)) D_MO_write 192 rfl
theorem d_MO_write_365 : decode M_MO_write.2.1 365 = .ok (.aload_n 0, 1) := fx_d (q := (365, .aload_n 0, 1)) D_MO_write 193 rfl
theorem d_MO_write_366 : decode M_MO_write.2.1 366 = .ok (.getfield 105, 3) := fx_d (q := (366, .getfield 105, 3)) D_MO_write 194 rfl
theorem d_MO_write_369 : decode M_MO_write.2.1 369 = .ok (.ireturn, 1) := fx_d (q := (369, .ireturn, 1)) D_MO_write 195 rfl
set_option maxRecDepth 100000 in
def L_MO_isScheme : List (Nat × Instr × Nat) := [(0, .lload_n 0, 1), (1, .lconst 1, 1), (2, .lcmp, 1), (3, .ifCond .eq 35, 3), (6, .lload_n 0, 1), (7, .ldc2_w 201, 3), (10, .lcmp, 1), (11, .ifCond .eq 27, 3), (14, .lload_n 0, 1), (15, .ldc2_w 203, 3), (18, .lcmp, 1), (19, .ifCond .eq 19, 3), (22, .lload_n 0, 1), (23, .ldc2_w 205, 3), (26, .lcmp, 1), (27, .ifCond .eq 11, 3), (30, .lload_n 0, 1), (31, .ldc2_w 207, 3), (34, .lcmp, 1), (35, .ifCond .ne 7, 3), (38, .iconst 1, 1), (39, .goto 4, 3), (42, .iconst 0, 1), (43, .ireturn, 1)]
set_option maxRecDepth 100000 in
theorem D_MO_isScheme : ∀ q ∈ L_MO_isScheme, decode prog_14_method_34_code q.1 = .ok q.2 := by decide +kernel
theorem d_MO_isScheme_0 : decode M_MO_isScheme.2.1 0 = .ok (.lload_n 0, 1) := fx_d (q := (0, .lload_n 0, 1)) D_MO_isScheme 0 rfl
theorem d_MO_isScheme_1 : decode M_MO_isScheme.2.1 1 = .ok (.lconst 1, 1) := fx_d (q := (1, .lconst 1, 1)) D_MO_isScheme 1 rfl
theorem d_MO_isScheme_2 : decode M_MO_isScheme.2.1 2 = .ok (.lcmp, 1) := fx_d (q := (2, .lcmp, 1)) D_MO_isScheme 2 rfl
theorem d_MO_isScheme_3 : decode M_MO_isScheme.2.1 3 = .ok (.ifCond .eq 35, 3) := fx_d (q := (3, .ifCond .eq 35, 3)) D_MO_isScheme 3 rfl
theorem d_MO_isScheme_6 : decode M_MO_isScheme.2.1 6 = .ok (.lload_n 0, 1) := fx_d (q := (6, .lload_n 0, 1)) D_MO_isScheme 4 rfl
theorem d_MO_isScheme_7 : decode M_MO_isScheme.2.1 7 = .ok (.ldc2_w 201, 3) := fx_d (q := (7, .ldc2_w 201, 3)) D_MO_isScheme 5 rfl
theorem d_MO_isScheme_10 : decode M_MO_isScheme.2.1 10 = .ok (.lcmp, 1) := fx_d (q := (10, .lcmp, 1)) D_MO_isScheme 6 rfl
theorem d_MO_isScheme_11 : decode M_MO_isScheme.2.1 11 = .ok (.ifCond .eq 27, 3) := fx_d (q := (11, .ifCond .eq 27, 3)) D_MO_isScheme 7 rfl
theorem d_MO_isScheme_14 : decode M_MO_isScheme.2.1 14 = .ok (.lload_n 0, 1) := fx_d (q := (14, .lload_n 0, 1)) D_MO_isScheme 8 rfl
theorem d_MO_isScheme_15 : decode M_MO_isScheme.2.1 15 = .ok (.ldc2_w 203, 3) := fx_d (q := (15, .ldc2_w 203, 3)) D_MO_isScheme 9 rfl
theorem d_MO_isScheme_18 : decode M_MO_isScheme.2.1 18 = .ok (.lcmp, 1) := fx_d (q := (18, .lcmp, 1)) D_MO_isScheme 10 rfl
theorem d_MO_isScheme_19 : decode M_MO_isScheme.2.1 19 = .ok (.ifCond .eq 19, 3) := fx_d (q := (19, .ifCond .eq 19, 3)) D_MO_isScheme 11 rfl
theorem d_MO_isScheme_22 : decode M_MO_isScheme.2.1 22 = .ok (.lload_n 0, 1) := fx_d (q := (22, .lload_n 0, 1)) D_MO_isScheme 12 rfl
theorem d_MO_isScheme_23 : decode M_MO_isScheme.2.1 23 = .ok (.ldc2_w 205, 3) := fx_d (q := (23, .ldc2_w 205, 3)) D_MO_isScheme 13 rfl
theorem d_MO_isScheme_26 : decode M_MO_isScheme.2.1 26 = .ok (.lcmp, 1) := fx_d (q := (26, .lcmp, 1)) D_MO_isScheme 14 rfl
theorem d_MO_isScheme_27 : decode M_MO_isScheme.2.1 27 = .ok (.ifCond .eq 11, 3) := fx_d (q := (27, .ifCond .eq 11, 3)) D_MO_isScheme 15 rfl
theorem d_MO_isScheme_30 : decode M_MO_isScheme.2.1 30 = .ok (.lload_n 0, 1) := fx_d (q := (30, .lload_n 0, 1)) D_MO_isScheme 16 rfl
theorem d_MO_isScheme_31 : decode M_MO_isScheme.2.1 31 = .ok (.ldc2_w 207, 3) := fx_d (q := (31, .ldc2_w 207, 3)) D_MO_isScheme 17 rfl
theorem d_MO_isScheme_34 : decode M_MO_isScheme.2.1 34 = .ok (.lcmp, 1) := fx_d (q := (34, .lcmp, 1)) D_MO_isScheme 18 rfl
theorem d_MO_isScheme_35 : decode M_MO_isScheme.2.1 35 = .ok (.ifCond .ne 7, 3) := fx_d (q := (35, .ifCond .ne 7, 3)) D_MO_isScheme 19 rfl
theorem d_MO_isScheme_38 : decode M_MO_isScheme.2.1 38 = .ok (.iconst 1, 1) := fx_d (q := (38, .iconst 1, 1)) D_MO_isScheme 20 rfl
theorem d_MO_isScheme_39 : decode M_MO_isScheme.2.1 39 = .ok (.goto 4, 3) := fx_d (q := (39, .goto 4, 3)) D_MO_isScheme 21 rfl
theorem d_MO_isScheme_42 : decode M_MO_isScheme.2.1 42 = .ok (.iconst 0, 1) := fx_d (q := (42, .iconst 0, 1)) D_MO_isScheme 22 rfl
theorem d_MO_isScheme_43 : decode M_MO_isScheme.2.1 43 = .ok (.ireturn, 1) := fx_d (q := (43, .ireturn, 1)) D_MO_isScheme 23 rfl
set_option maxRecDepth 100000 in
def L_MO_out : List (Nat × Instr × Nat) := [(0, .aload_n 0, 1), (1, .getfield 20, 3), (4, .aload_n 0, 1), (5, .getfield 105, 3), (8, .iload_n 1, 1), (9, .sipush 255, 3), (12, .iand, 1), (13, .iastore, 1), (14, .aload_n 0, 1), (15, .dup, 1), (16, .getfield 105, 3), (19, .iconst 1, 1), (20, .iadd, 1), (21, .putfield 105, 3), (24, .return_, 1)]
set_option maxRecDepth 100000 in
theorem D_MO_out : ∀ q ∈ L_MO_out, decode prog_14_method_11_code q.1 = .ok q.2 := by decide +kernel
theorem d_MO_out_0 : decode M_MO_out.2.1 0 = .ok (.aload_n 0, 1) := fx_d (q := (0, .aload_n 0, 1)) D_MO_out 0 rfl
theorem d_MO_out_1 : decode M_MO_out.2.1 1 = .ok (.getfield 20, 3) := fx_d (q := (1, .getfield 20, 3)) D_MO_out 1 rfl
theorem d_MO_out_4 : decode M_MO_out.2.1 4 = .ok (.aload_n 0, 1) := fx_d (q := (4, .aload_n 0, 1)) D_MO_out 2 rfl
theorem d_MO_out_5 : decode M_MO_out.2.1 5 = .ok (.getfield 105, 3) := fx_d (q := (5, .getfield 105, 3)) D_MO_out 3 rfl
theorem d_MO_out_8 : decode M_MO_out.2.1 8 = .ok (.iload_n 1, 1) := fx_d (q := (8, .iload_n 1, 1)) D_MO_out 4 rfl
theorem d_MO_out_9 : decode M_MO_out.2.1 9 = .ok (.sipush 255, 3) := fx_d (q := (9, .sipush 255, 3)) D_MO_out 5 rfl
theorem d_MO_out_12 : decode M_MO_out.2.1 12 = .ok (.iand, 1) := fx_d (q := (12, .iand, 1)) D_MO_out 6 rfl
theorem d_MO_out_13 : decode M_MO_out.2.1 13 = .ok (.iastore, 1) := fx_d (q := (13, .iastore, 1)) D_MO_out 7 rfl
theorem d_MO_out_14 : decode M_MO_out.2.1 14 = .ok (.aload_n 0, 1) := fx_d (q := (14, .aload_n 0, 1)) D_MO_out 8 rfl
theorem d_MO_out_15 : decode M_MO_out.2.1 15 = .ok (.dup, 1) := fx_d (q := (15, .dup, 1)) D_MO_out 9 rfl
theorem d_MO_out_16 : decode M_MO_out.2.1 16 = .ok (.getfield 105, 3) := fx_d (q := (16, .getfield 105, 3)) D_MO_out 10 rfl
theorem d_MO_out_19 : decode M_MO_out.2.1 19 = .ok (.iconst 1, 1) := fx_d (q := (19, .iconst 1, 1)) D_MO_out 11 rfl
theorem d_MO_out_20 : decode M_MO_out.2.1 20 = .ok (.iadd, 1) := fx_d (q := (20, .iadd, 1)) D_MO_out 12 rfl
theorem d_MO_out_21 : decode M_MO_out.2.1 21 = .ok (.putfield 105, 3) := fx_d (q := (21, .putfield 105, 3)) D_MO_out 13 rfl
theorem d_MO_out_24 : decode M_MO_out.2.1 24 = .ok (.return_, 1) := fx_d (q := (24, .return_, 1)) D_MO_out 14 rfl
set_option maxRecDepth 100000 in
def L_MO_outNumber : List (Nat × Instr × Nat) := [(0, .iconst 0, 1), (1, .istore_n 3, 1), (2, .iload_n 3, 1), (3, .iload_n 2, 1), (4, .if_icmp .ge 34, 3), (7, .aload_n 0, 1), (8, .iload_n 1, 1), (9, .bipush 8, 2), (11, .aload_n 0, 1), (12, .getfield 108, 3), (15, .ifCond .eq 11, 3), (18, .iload_n 2, 1), (19, .iconst 1, 1), (20, .isub, 1), (21, .iload_n 3, 1), (22, .isub, 1), (23, .goto 4, 3), (26, .iload_n 3, 1), (27, .imul, 1), (28, .ishr, 1), (29, .invokevirtual 111, 3), (32, .iinc 3 1, 3), (35, .goto (-33), 3), (38, .return_, 1)]
set_option maxRecDepth 100000 in
theorem D_MO_outNumber : ∀ q ∈ L_MO_outNumber, decode prog_14_method_12_code q.1 = .ok q.2 := by decide +kernel
theorem d_MO_outNumber_0 : decode M_MO_outNumber.2.1 0 = .ok (.iconst 0, 1) := fx_d (q := (0, .iconst 0, 1)) D_MO_outNumber 0 rfl
theorem d_MO_outNumber_1 : decode M_MO_outNumber.2.1 1 = .ok (.istore_n 3, 1) := fx_d (q := (1, .istore_n 3, 1)) D_MO_outNumber 1 rfl
theorem d_MO_outNumber_2 : decode M_MO_outNumber.2.1 2 = .ok (.iload_n 3, 1) := fx_d (q := (2, .iload_n 3, 1)) D_MO_outNumber 2 rfl
theorem d_MO_outNumber_3 : decode M_MO_outNumber.2.1 3 = .ok (.iload_n 2, 1) := fx_d (q := (3, .iload_n 2, 1)) D_MO_outNumber 3 rfl
theorem d_MO_outNumber_4 : decode M_MO_outNumber.2.1 4 = .ok (.if_icmp .ge 34, 3) := fx_d (q := (4, .if_icmp .ge 34, 3)) D_MO_outNumber 4 rfl
theorem d_MO_outNumber_7 : decode M_MO_outNumber.2.1 7 = .ok (.aload_n 0, 1) := fx_d (q := (7, .aload_n 0, 1)) D_MO_outNumber 5 rfl
theorem d_MO_outNumber_8 : decode M_MO_outNumber.2.1 8 = .ok (.iload_n 1, 1) := fx_d (q := (8, .iload_n 1, 1)) D_MO_outNumber 6 rfl
theorem d_MO_outNumber_9 : decode M_MO_outNumber.2.1 9 = .ok (.bipush 8, 2) := fx_d (q := (9, .bipush 8, 2)) D_MO_outNumber 7 rfl
theorem d_MO_outNumber_11 : decode M_MO_outNumber.2.1 11 = .ok (.aload_n 0, 1) := fx_d (q := (11, .aload_n 0, 1)) D_MO_outNumber 8 rfl
theorem d_MO_outNumber_12 : decode M_MO_outNumber.2.1 12 = .ok (.getfield 108, 3) := fx_d (q := (12, .getfield 108, 3)) D_MO_outNumber 9 rfl
theorem d_MO_outNumber_15 : decode M_MO_outNumber.2.1 15 = .ok (.ifCond .eq 11, 3) := fx_d (q := (15, .ifCond .eq 11, 3)) D_MO_outNumber 10 rfl
theorem d_MO_outNumber_18 : decode M_MO_outNumber.2.1 18 = .ok (.iload_n 2, 1) := fx_d (q := (18, .iload_n 2, 1)) D_MO_outNumber 11 rfl
theorem d_MO_outNumber_19 : decode M_MO_outNumber.2.1 19 = .ok (.iconst 1, 1) := fx_d (q := (19, .iconst 1, 1)) D_MO_outNumber 12 rfl
theorem d_MO_outNumber_20 : decode M_MO_outNumber.2.1 20 = .ok (.isub, 1) := fx_d (q := (20, .isub, 1)) D_MO_outNumber 13 rfl
theorem d_MO_outNumber_21 : decode M_MO_outNumber.2.1 21 = .ok (.iload_n 3, 1) := fx_d (q := (21, .iload_n 3, 1)) D_MO_outNumber 14 rfl
theorem d_MO_outNumber_22 : decode M_MO_outNumber.2.1 22 = .ok (.isub, 1) := fx_d (q := (22, .isub, 1)) D_MO_outNumber 15 rfl
theorem d_MO_outNumber_23 : decode M_MO_outNumber.2.1 23 = .ok (.goto 4, 3) := fx_d (q := (23, .goto 4, 3)) D_MO_outNumber 16 rfl
theorem d_MO_outNumber_26 : decode M_MO_outNumber.2.1 26 = .ok (.iload_n 3, 1) := fx_d (q := (26, .iload_n 3, 1)) D_MO_outNumber 17 rfl
theorem d_MO_outNumber_27 : decode M_MO_outNumber.2.1 27 = .ok (.imul, 1) := fx_d (q := (27, .imul, 1)) D_MO_outNumber 18 rfl
theorem d_MO_outNumber_28 : decode M_MO_outNumber.2.1 28 = .ok (.ishr, 1) := fx_d (q := (28, .ishr, 1)) D_MO_outNumber 19 rfl
theorem d_MO_outNumber_29 : decode M_MO_outNumber.2.1 29 = .ok (.invokevirtual 111, 3) := fx_d (q := (29, .invokevirtual 111, 3)) D_MO_outNumber 20 rfl
theorem d_MO_outNumber_32 : decode M_MO_outNumber.2.1 32 = .ok (.iinc 3 1, 3) := fx_d (q := (32, .iinc 3 1, 3)) D_MO_outNumber 21 rfl
theorem d_MO_outNumber_35 : decode M_MO_outNumber.2.1 35 = .ok (.goto (-33), 3) := fx_d (q := (35, .goto (-33), 3)) D_MO_outNumber 22 rfl
theorem d_MO_outNumber_38 : decode M_MO_outNumber.2.1 38 = .ok (.return_, 1) := fx_d (q := (38, .return_, 1)) D_MO_outNumber 23 rfl
set_option maxRecDepth 100000 in
def L_MO_rowsOf : List (Nat × Instr × Nat) := [(0, .iload_n 1, 1), (1, .iload_n 0, 1), (2, .iload_n 2, 1), (3, .imul, 1), (4, .isub, 1), (5, .iload_n 2, 1), (6, .if_icmp .ge 11, 3), (9, .iload_n 1, 1), (10, .iload_n 0, 1), (11, .iload_n 2, 1), (12, .imul, 1), (13, .isub, 1), (14, .goto 4, 3), (17, .iload_n 2, 1), (18, .ireturn, 1)]
set_option maxRecDepth 100000 in
theorem D_MO_rowsOf : ∀ q ∈ L_MO_rowsOf, decode prog_14_method_35_code q.1 = .ok q.2 := by decide +kernel
theorem d_MO_rowsOf_0 : decode M_MO_rowsOf.2.1 0 = .ok (.iload_n 1, 1) := fx_d (q := (0, .iload_n 1, 1)) D_MO_rowsOf 0 rfl
theorem d_MO_rowsOf_1 : decode M_MO_rowsOf.2.1 1 = .ok (.iload_n 0, 1) := fx_d (q := (1, .iload_n 0, 1)) D_MO_rowsOf 1 rfl
theorem d_MO_rowsOf_2 : decode M_MO_rowsOf.2.1 2 = .ok (.iload_n 2, 1) := fx_d (q := (2, .iload_n 2, 1)) D_MO_rowsOf 2 rfl
theorem d_MO_rowsOf_3 : decode M_MO_rowsOf.2.1 3 = .ok (.imul, 1) := fx_d (q := (3, .imul, 1)) D_MO_rowsOf 3 rfl
theorem d_MO_rowsOf_4 : decode M_MO_rowsOf.2.1 4 = .ok (.isub, 1) := fx_d (q := (4, .isub, 1)) D_MO_rowsOf 4 rfl
theorem d_MO_rowsOf_5 : decode M_MO_rowsOf.2.1 5 = .ok (.iload_n 2, 1) := fx_d (q := (5, .iload_n 2, 1)) D_MO_rowsOf 5 rfl
theorem d_MO_rowsOf_6 : decode M_MO_rowsOf.2.1 6 = .ok (.if_icmp .ge 11, 3) := fx_d (q := (6, .if_icmp .ge 11, 3)) D_MO_rowsOf 6 rfl
theorem d_MO_rowsOf_9 : decode M_MO_rowsOf.2.1 9 = .ok (.iload_n 1, 1) := fx_d (q := (9, .iload_n 1, 1)) D_MO_rowsOf 7 rfl
theorem d_MO_rowsOf_10 : decode M_MO_rowsOf.2.1 10 = .ok (.iload_n 0, 1) := fx_d (q := (10, .iload_n 0, 1)) D_MO_rowsOf 8 rfl
theorem d_MO_rowsOf_11 : decode M_MO_rowsOf.2.1 11 = .ok (.iload_n 2, 1) := fx_d (q := (11, .iload_n 2, 1)) D_MO_rowsOf 9 rfl
theorem d_MO_rowsOf_12 : decode M_MO_rowsOf.2.1 12 = .ok (.imul, 1) := fx_d (q := (12, .imul, 1)) D_MO_rowsOf 10 rfl
theorem d_MO_rowsOf_13 : decode M_MO_rowsOf.2.1 13 = .ok (.isub, 1) := fx_d (q := (13, .isub, 1)) D_MO_rowsOf 11 rfl
theorem d_MO_rowsOf_14 : decode M_MO_rowsOf.2.1 14 = .ok (.goto 4, 3) := fx_d (q := (14, .goto 4, 3)) D_MO_rowsOf 12 rfl
theorem d_MO_rowsOf_17 : decode M_MO_rowsOf.2.1 17 = .ok (.iload_n 2, 1) := fx_d (q := (17, .iload_n 2, 1)) D_MO_rowsOf 13 rfl
theorem d_MO_rowsOf_18 : decode M_MO_rowsOf.2.1 18 = .ok (.ireturn, 1) := fx_d (q := (18, .ireturn, 1)) D_MO_rowsOf 14 rfl
set_option maxRecDepth 100000 in
def L_MO_outStrip : List (Nat × Instr × Nat) := [(0, .aload_n 0, 1), (1, .iload_n 1, 1), (2, .iload_n 2, 1), (3, .invokevirtual 189, 3), (6, .aload_n 0, 1), (7, .getfield 180, 3), (10, .lookupswitch 77 #[(1, 34), (5, 70), (32773, 63)], 34), (44, .iconst 0, 1), (45, .istore_n 3, 1), (46, .iload_n 3, 1), (47, .aload_n 0, 1), (48, .getfield 134, 3), (51, .if_icmp .ge 19, 3), (54, .aload_n 0, 1), (55, .aload_n 0, 1), (56, .getfield 47, 3), (59, .iload_n 3, 1), (60, .iaload, 1), (61, .invokevirtual 111, 3), (64, .iinc 3 1, 3), (67, .goto (-21), 3), (70, .goto 23, 3), (73, .aload_n 0, 1), (74, .invokevirtual 192, 3), (77, .goto 16, 3), (80, .aload_n 0, 1), (81, .invokevirtual 195, 3), (84, .goto 9, 3), (87, .aload_n 0, 1), (88, .iload_n 1, 1), (89, .iload_n 2, 1), (90, .invokevirtual 198, 3), (93, .return_, 1)]
set_option maxRecDepth 100000 in
theorem D_MO_outStrip : ∀ q ∈ L_MO_outStrip, decode prog_14_method_33_code q.1 = .ok q.2 := by decide +kernel
theorem d_MO_outStrip_0 : decode M_MO_outStrip.2.1 0 = .ok (.aload_n 0, 1) := fx_d (q := (0, .aload_n 0, 1)) D_MO_outStrip 0 rfl
theorem d_MO_outStrip_1 : decode M_MO_outStrip.2.1 1 = .ok (.iload_n 1, 1) := fx_d (q := (1, .iload_n 1, 1)) D_MO_outStrip 1 rfl
theorem d_MO_outStrip_2 : decode M_MO_outStrip.2.1 2 = .ok (.iload_n 2, 1) := fx_d (q := (2, .iload_n 2, 1)) D_MO_outStrip 2 rfl
theorem d_MO_outStrip_3 : decode M_MO_outStrip.2.1 3 = .ok (.invokevirtual 189, 3) := fx_d (q := (3, .invokevirtual 189, 3)) D_MO_outStrip 3 rfl
theorem d_MO_outStrip_6 : decode M_MO_outStrip.2.1 6 = .ok (.aload_n 0, 1) := fx_d (q := (6, .aload_n 0, 1)) D_MO_outStrip 4 rfl
theorem d_MO_outStrip_7 : decode M_MO_outStrip.2.1 7 = .ok (.getfield 180, 3) := fx_d (q := (7, .getfield 180, 3)) D_MO_outStrip 5 rfl
theorem d_MO_outStrip_10 : decode M_MO_outStrip.2.1 10 = .ok (.lookupswitch 77 #[(1, 34), (5, 70), (32773, 63)], 34) := fx_d (q := (10, .lookupswitch 77 #[(1, 34), (5, 70), (32773, 63)], 34)) D_MO_outStrip 6 rfl
theorem d_MO_outStrip_44 : decode M_MO_outStrip.2.1 44 = .ok (.iconst 0, 1) := fx_d (q := (44, .iconst 0, 1)) D_MO_outStrip 7 rfl
theorem d_MO_outStrip_45 : decode M_MO_outStrip.2.1 45 = .ok (.istore_n 3, 1) := fx_d (q := (45, .istore_n 3, 1)) D_MO_outStrip 8 rfl
theorem d_MO_outStrip_46 : decode M_MO_outStrip.2.1 46 = .ok (.iload_n 3, 1) := fx_d (q := (46, .iload_n 3, 1)) D_MO_outStrip 9 rfl
theorem d_MO_outStrip_47 : decode M_MO_outStrip.2.1 47 = .ok (.aload_n 0, 1) := fx_d (q := (47, .aload_n 0, 1)) D_MO_outStrip 10 rfl
theorem d_MO_outStrip_48 : decode M_MO_outStrip.2.1 48 = .ok (.getfield 134, 3) := fx_d (q := (48, .getfield 134, 3)) D_MO_outStrip 11 rfl
theorem d_MO_outStrip_51 : decode M_MO_outStrip.2.1 51 = .ok (.if_icmp .ge 19, 3) := fx_d (q := (51, .if_icmp .ge 19, 3)) D_MO_outStrip 12 rfl
theorem d_MO_outStrip_54 : decode M_MO_outStrip.2.1 54 = .ok (.aload_n 0, 1) := fx_d (q := (54, .aload_n 0, 1)) D_MO_outStrip 13 rfl
theorem d_MO_outStrip_55 : decode M_MO_outStrip.2.1 55 = .ok (.aload_n 0, 1) := fx_d (q := (55, .aload_n 0, 1)) D_MO_outStrip 14 rfl
theorem d_MO_outStrip_56 : decode M_MO_outStrip.2.1 56 = .ok (.getfield 47, 3) := fx_d (q := (56, .getfield 47, 3)) D_MO_outStrip 15 rfl
theorem d_MO_outStrip_59 : decode M_MO_outStrip.2.1 59 = .ok (.iload_n 3, 1) := fx_d (q := (59, .iload_n 3, 1)) D_MO_outStrip 16 rfl
theorem d_MO_outStrip_60 : decode M_MO_outStrip.2.1 60 = .ok (.iaload, 1) := fx_d (q := (60, .iaload, 1)) D_MO_outStrip 17 rfl
theorem d_MO_outStrip_61 : decode M_MO_outStrip.2.1 61 = .ok (.invokevirtual 111, 3) := fx_d (q := (61, .invokevirtual 111, 3)) D_MO_outStrip 18 rfl
theorem d_MO_outStrip_64 : decode M_MO_outStrip.2.1 64 = .ok (.iinc 3 1, 3) := fx_d (q := (64, .iinc 3 1, 3)) D_MO_outStrip 19 rfl
theorem d_MO_outStrip_67 : decode M_MO_outStrip.2.1 67 = .ok (.goto (-21), 3) := fx_d (q := (67, .goto (-21), 3)) D_MO_outStrip 20 rfl
theorem d_MO_outStrip_70 : decode M_MO_outStrip.2.1 70 = .ok (.goto 23, 3) := fx_d (q := (70, .goto 23, 3)) D_MO_outStrip 21 rfl
theorem d_MO_outStrip_73 : decode M_MO_outStrip.2.1 73 = .ok (.aload_n 0, 1) := fx_d (q := (73, .aload_n 0, 1)) D_MO_outStrip 22 rfl
theorem d_MO_outStrip_74 : decode M_MO_outStrip.2.1 74 = .ok (.invokevirtual 192, 3) := fx_d (q := (74, .invokevirtual 192, 3)) D_MO_outStrip 23 rfl
theorem d_MO_outStrip_77 : decode M_MO_outStrip.2.1 77 = .ok (.goto 16, 3) := fx_d (q := (77, .goto 16, 3)) D_MO_outStrip 24 rfl
theorem d_MO_outStrip_80 : decode M_MO_outStrip.2.1 80 = .ok (.aload_n 0, 1) := fx_d (q := (80, .aload_n 0, 1)) D_MO_outStrip 25 rfl
theorem d_MO_outStrip_81 : decode M_MO_outStrip.2.1 81 = .ok (.invokevirtual 195, 3) := fx_d (q := (81, .invokevirtual 195, 3)) D_MO_outStrip 26 rfl
theorem d_MO_outStrip_84 : decode M_MO_outStrip.2.1 84 = .ok (.goto 9, 3) := fx_d (q := (84, .goto 9, 3)) D_MO_outStrip 27 rfl
theorem d_MO_outStrip_87 : decode M_MO_outStrip.2.1 87 = .ok (.aload_n 0, 1) := fx_d (q := (87, .aload_n 0, 1)) D_MO_outStrip 28 rfl
theorem d_MO_outStrip_88 : decode M_MO_outStrip.2.1 88 = .ok (.iload_n 1, 1) := fx_d (q := (88, .iload_n 1, 1)) D_MO_outStrip 29 rfl
theorem d_MO_outStrip_89 : decode M_MO_outStrip.2.1 89 = .ok (.iload_n 2, 1) := fx_d (q := (89, .iload_n 2, 1)) D_MO_outStrip 30 rfl
theorem d_MO_outStrip_90 : decode M_MO_outStrip.2.1 90 = .ok (.invokevirtual 198, 3) := fx_d (q := (90, .invokevirtual 198, 3)) D_MO_outStrip 31 rfl
theorem d_MO_outStrip_93 : decode M_MO_outStrip.2.1 93 = .ok (.return_, 1) := fx_d (q := (93, .return_, 1)) D_MO_outStrip 32 rfl
set_option maxRecDepth 100000 in
def L_MO_gather : List (Nat × Instr × Nat) := [(0, .aload_n 0, 1), (1, .iconst 0, 1), (2, .putfield 134, 3), (5, .iload_n 1, 1), (6, .istore_n 3, 1), (7, .iload_n 3, 1), (8, .iload_n 1, 1), (9, .iload_n 2, 1), (10, .iadd, 1), (11, .if_icmp .ge 142, 3), (14, .iconst 0, 1), (15, .istore 4, 2), (17, .iload 4, 2), (19, .aload_n 0, 1), (20, .invokevirtual 137, 3), (23, .if_icmp .ge 124, 3), (26, .iconst 0, 1), (27, .istore 5, 2), (29, .bipush 8, 2), (31, .iload 4, 2), (33, .imul, 1), (34, .istore 6, 2), (36, .iload 6, 2), (38, .bipush 8, 2), (40, .iload 4, 2), (42, .imul, 1), (43, .bipush 8, 2), (45, .iadd, 1), (46, .if_icmp .ge 50, 3), (49, .iconst 2, 1), (50, .iload 5, 2), (52, .imul, 1), (53, .aload_n 0, 1), (54, .getfield 128, 3), (57, .ifCond .ne 29, 3), (60, .iload 6, 2), (62, .aload_n 0, 1), (63, .getfield 131, 3), (66, .if_icmp .ge 20, 3), (69, .aload_n 0, 1), (70, .getfield 16, 3), (73, .aload_n 0, 1), (74, .getfield 131, 3), (77, .iload_n 3, 1), (78, .imul, 1), (79, .iload 6, 2), (81, .iadd, 1), (82, .iaload, 1), (83, .goto 4, 3), (86, .iconst 0, 1), (87, .iadd, 1), (88, .istore 5, 2), (90, .iinc 6 1, 3), (93, .goto (-57), 3), (96, .aload_n 0, 1), (97, .getfield 47, 3), (100, .aload_n 0, 1), (101, .getfield 134, 3), (104, .aload_n 0, 1), (105, .getfield 128, 3), (108, .ifCond .eq 20, 3), (111, .aload_n 0, 1), (112, .getfield 16, 3), (115, .aload_n 0, 1), (116, .getfield 131, 3), (119, .iload_n 3, 1), (120, .imul, 1), (121, .iload 4, 2), (123, .iadd, 1), (124, .iaload, 1), (125, .goto 5, 3), (128, .iload 5, 2), (130, .iastore, 1), (131, .aload_n 0, 1), (132, .dup, 1), (133, .getfield 134, 3), (136, .iconst 1, 1), (137, .iadd, 1), (138, .putfield 134, 3), (141, .iinc 4 1, 3), (144, .goto (-127), 3), (147, .iinc 3 1, 3), (150, .goto (-143), 3), (153, .return_, 1)]
set_option maxRecDepth 100000 in
theorem D_MO_gather : ∀ q ∈ L_MO_gather, decode prog_14_method_18_code q.1 = .ok q.2 := by decide +kernel
theorem d_MO_gather_0 : decode M_MO_gather.2.1 0 = .ok (.aload_n 0, 1) := fx_d (q := (0, .aload_n 0, 1)) D_MO_gather 0 rfl
theorem d_MO_gather_1 : decode M_MO_gather.2.1 1 = .ok (.iconst 0, 1) := fx_d (q := (1, .iconst 0, 1)) D_MO_gather 1 rfl
theorem d_MO_gather_2 : decode M_MO_gather.2.1 2 = .ok (.putfield 134, 3) := fx_d (q := (2, .putfield 134, 3)) D_MO_gather 2 rfl
theorem d_MO_gather_5 : decode M_MO_gather.2.1 5 = .ok (.iload_n 1, 1) := fx_d (q := (5, .iload_n 1, 1)) D_MO_gather 3 rfl
theorem d_MO_gather_6 : decode M_MO_gather.2.1 6 = .ok (.istore_n 3, 1) := fx_d (q := (6, .istore_n 3, 1)) D_MO_gather 4 rfl
theorem d_MO_gather_7 : decode M_MO_gather.2.1 7 = .ok (.iload_n 3, 1) := fx_d (q := (7, .iload_n 3, 1)) D_MO_gather 5 rfl
theorem d_MO_gather_8 : decode M_MO_gather.2.1 8 = .ok (.iload_n 1, 1) := fx_d (q := (8, .iload_n 1, 1)) D_MO_gather 6 rfl
theorem d_MO_gather_9 : decode M_MO_gather.2.1 9 = .ok (.iload_n 2, 1) := fx_d (q := (9, .iload_n 2, 1)) D_MO_gather 7 rfl
theorem d_MO_gather_10 : decode M_MO_gather.2.1 10 = .ok (.iadd, 1) := fx_d (q := (10, .iadd, 1)) D_MO_gather 8 rfl
theorem d_MO_gather_11 : decode M_MO_gather.2.1 11 = .ok (.if_icmp .ge 142, 3) := fx_d (q := (11, .if_icmp .ge 142, 3)) D_MO_gather 9 rfl
theorem d_MO_gather_14 : decode M_MO_gather.2.1 14 = .ok (.iconst 0, 1) := fx_d (q := (14, .iconst 0, 1)) D_MO_gather 10 rfl
theorem d_MO_gather_15 : decode M_MO_gather.2.1 15 = .ok (.istore 4, 2) := fx_d (q := (15, .istore 4, 2)) D_MO_gather 11 rfl
theorem d_MO_gather_17 : decode M_MO_gather.2.1 17 = .ok (.iload 4, 2) := fx_d (q := (17, .iload 4, 2)) D_MO_gather 12 rfl
theorem d_MO_gather_19 : decode M_MO_gather.2.1 19 = .ok (.aload_n 0, 1) := fx_d (q := (19, .aload_n 0, 1)) D_MO_gather 13 rfl
theorem d_MO_gather_20 : decode M_MO_gather.2.1 20 = .ok (.invokevirtual 137, 3) := fx_d (q := (20, .invokevirtual 137, 3)) D_MO_gather 14 rfl
theorem d_MO_gather_23 : decode M_MO_gather.2.1 23 = .ok (.if_icmp .ge 124, 3) := fx_d (q := (23, .if_icmp .ge 124, 3)) D_MO_gather 15 rfl
theorem d_MO_gather_26 : decode M_MO_gather.2.1 26 = .ok (.iconst 0, 1) := fx_d (q := (26, .iconst 0, 1)) D_MO_gather 16 rfl
theorem d_MO_gather_27 : decode M_MO_gather.2.1 27 = .ok (.istore 5, 2) := fx_d (q := (27, .istore 5, 2)) D_MO_gather 17 rfl
theorem d_MO_gather_29 : decode M_MO_gather.2.1 29 = .ok (.bipush 8, 2) := fx_d (q := (29, .bipush 8, 2)) D_MO_gather 18 rfl
theorem d_MO_gather_31 : decode M_MO_gather.2.1 31 = .ok (.iload 4, 2) := fx_d (q := (31, .iload 4, 2)) D_MO_gather 19 rfl
theorem d_MO_gather_33 : decode M_MO_gather.2.1 33 = .ok (.imul, 1) := fx_d (q := (33, .imul, 1)) D_MO_gather 20 rfl
theorem d_MO_gather_34 : decode M_MO_gather.2.1 34 = .ok (.istore 6, 2) := fx_d (q := (34, .istore 6, 2)) D_MO_gather 21 rfl
theorem d_MO_gather_36 : decode M_MO_gather.2.1 36 = .ok (.iload 6, 2) := fx_d (q := (36, .iload 6, 2)) D_MO_gather 22 rfl
theorem d_MO_gather_38 : decode M_MO_gather.2.1 38 = .ok (.bipush 8, 2) := fx_d (q := (38, .bipush 8, 2)) D_MO_gather 23 rfl
theorem d_MO_gather_40 : decode M_MO_gather.2.1 40 = .ok (.iload 4, 2) := fx_d (q := (40, .iload 4, 2)) D_MO_gather 24 rfl
theorem d_MO_gather_42 : decode M_MO_gather.2.1 42 = .ok (.imul, 1) := fx_d (q := (42, .imul, 1)) D_MO_gather 25 rfl
theorem d_MO_gather_43 : decode M_MO_gather.2.1 43 = .ok (.bipush 8, 2) := fx_d (q := (43, .bipush 8, 2)) D_MO_gather 26 rfl
theorem d_MO_gather_45 : decode M_MO_gather.2.1 45 = .ok (.iadd, 1) := fx_d (q := (45, .iadd, 1)) D_MO_gather 27 rfl
theorem d_MO_gather_46 : decode M_MO_gather.2.1 46 = .ok (.if_icmp .ge 50, 3) := fx_d (q := (46, .if_icmp .ge 50, 3)) D_MO_gather 28 rfl
theorem d_MO_gather_49 : decode M_MO_gather.2.1 49 = .ok (.iconst 2, 1) := fx_d (q := (49, .iconst 2, 1)) D_MO_gather 29 rfl
theorem d_MO_gather_50 : decode M_MO_gather.2.1 50 = .ok (.iload 5, 2) := fx_d (q := (50, .iload 5, 2)) D_MO_gather 30 rfl
theorem d_MO_gather_52 : decode M_MO_gather.2.1 52 = .ok (.imul, 1) := fx_d (q := (52, .imul, 1)) D_MO_gather 31 rfl
theorem d_MO_gather_53 : decode M_MO_gather.2.1 53 = .ok (.aload_n 0, 1) := fx_d (q := (53, .aload_n 0, 1)) D_MO_gather 32 rfl
theorem d_MO_gather_54 : decode M_MO_gather.2.1 54 = .ok (.getfield 128, 3) := fx_d (q := (54, .getfield 128, 3)) D_MO_gather 33 rfl
theorem d_MO_gather_57 : decode M_MO_gather.2.1 57 = .ok (.ifCond .ne 29, 3) := fx_d (q := (57, .ifCond .ne 29, 3)) D_MO_gather 34 rfl
theorem d_MO_gather_60 : decode M_MO_gather.2.1 60 = .ok (.iload 6, 2) := fx_d (q := (60, .iload 6, 2)) D_MO_gather 35 rfl
theorem d_MO_gather_62 : decode M_MO_gather.2.1 62 = .ok (.aload_n 0, 1) := fx_d (q := (62, .aload_n 0, 1)) D_MO_gather 36 rfl
theorem d_MO_gather_63 : decode M_MO_gather.2.1 63 = .ok (.getfield 131, 3) := fx_d (q := (63, .getfield 131, 3)) D_MO_gather 37 rfl
theorem d_MO_gather_66 : decode M_MO_gather.2.1 66 = .ok (.if_icmp .ge 20, 3) := fx_d (q := (66, .if_icmp .ge 20, 3)) D_MO_gather 38 rfl
theorem d_MO_gather_69 : decode M_MO_gather.2.1 69 = .ok (.aload_n 0, 1) := fx_d (q := (69, .aload_n 0, 1)) D_MO_gather 39 rfl
theorem d_MO_gather_70 : decode M_MO_gather.2.1 70 = .ok (.getfield 16, 3) := fx_d (q := (70, .getfield 16, 3)) D_MO_gather 40 rfl
theorem d_MO_gather_73 : decode M_MO_gather.2.1 73 = .ok (.aload_n 0, 1) := fx_d (q := (73, .aload_n 0, 1)) D_MO_gather 41 rfl
theorem d_MO_gather_74 : decode M_MO_gather.2.1 74 = .ok (.getfield 131, 3) := fx_d (q := (74, .getfield 131, 3)) D_MO_gather 42 rfl
theorem d_MO_gather_77 : decode M_MO_gather.2.1 77 = .ok (.iload_n 3, 1) := fx_d (q := (77, .iload_n 3, 1)) D_MO_gather 43 rfl
theorem d_MO_gather_78 : decode M_MO_gather.2.1 78 = .ok (.imul, 1) := fx_d (q := (78, .imul, 1)) D_MO_gather 44 rfl
theorem d_MO_gather_79 : decode M_MO_gather.2.1 79 = .ok (.iload 6, 2) := fx_d (q := (79, .iload 6, 2)) D_MO_gather 45 rfl
theorem d_MO_gather_81 : decode M_MO_gather.2.1 81 = .ok (.iadd, 1) := fx_d (q := (81, .iadd, 1)) D_MO_gather 46 rfl
theorem d_MO_gather_82 : decode M_MO_gather.2.1 82 = .ok (.iaload, 1) := fx_d (q := (82, .iaload, 1)) D_MO_gather 47 rfl
theorem d_MO_gather_83 : decode M_MO_gather.2.1 83 = .ok (.goto 4, 3) := fx_d (q := (83, .goto 4, 3)) D_MO_gather 48 rfl
theorem d_MO_gather_86 : decode M_MO_gather.2.1 86 = .ok (.iconst 0, 1) := fx_d (q := (86, .iconst 0, 1)) D_MO_gather 49 rfl
theorem d_MO_gather_87 : decode M_MO_gather.2.1 87 = .ok (.iadd, 1) := fx_d (q := (87, .iadd, 1)) D_MO_gather 50 rfl
theorem d_MO_gather_88 : decode M_MO_gather.2.1 88 = .ok (.istore 5, 2) := fx_d (q := (88, .istore 5, 2)) D_MO_gather 51 rfl
theorem d_MO_gather_90 : decode M_MO_gather.2.1 90 = .ok (.iinc 6 1, 3) := fx_d (q := (90, .iinc 6 1, 3)) D_MO_gather 52 rfl
theorem d_MO_gather_93 : decode M_MO_gather.2.1 93 = .ok (.goto (-57), 3) := fx_d (q := (93, .goto (-57), 3)) D_MO_gather 53 rfl
theorem d_MO_gather_96 : decode M_MO_gather.2.1 96 = .ok (.aload_n 0, 1) := fx_d (q := (96, .aload_n 0, 1)) D_MO_gather 54 rfl
theorem d_MO_gather_97 : decode M_MO_gather.2.1 97 = .ok (.getfield 47, 3) := fx_d (q := (97, .getfield 47, 3)) D_MO_gather 55 rfl
theorem d_MO_gather_100 : decode M_MO_gather.2.1 100 = .ok (.aload_n 0, 1) := fx_d (q := (100, .aload_n 0, 1)) D_MO_gather 56 rfl
theorem d_MO_gather_101 : decode M_MO_gather.2.1 101 = .ok (.getfield 134, 3) := fx_d (q := (101, .getfield 134, 3)) D_MO_gather 57 rfl
theorem d_MO_gather_104 : decode M_MO_gather.2.1 104 = .ok (.aload_n 0, 1) := fx_d (q := (104, .aload_n 0, 1)) D_MO_gather 58 rfl
theorem d_MO_gather_105 : decode M_MO_gather.2.1 105 = .ok (.getfield 128, 3) := fx_d (q := (105, .getfield 128, 3)) D_MO_gather 59 rfl
theorem d_MO_gather_108 : decode M_MO_gather.2.1 108 = .ok (.ifCond .eq 20, 3) := fx_d (q := (108, .ifCond .eq 20, 3)) D_MO_gather 60 rfl
theorem d_MO_gather_111 : decode M_MO_gather.2.1 111 = .ok (.aload_n 0, 1) := fx_d (q := (111, .aload_n 0, 1)) D_MO_gather 61 rfl
theorem d_MO_gather_112 : decode M_MO_gather.2.1 112 = .ok (.getfield 16, 3) := fx_d (q := (112, .getfield 16, 3)) D_MO_gather 62 rfl
theorem d_MO_gather_115 : decode M_MO_gather.2.1 115 = .ok (.aload_n 0, 1) := fx_d (q := (115, .aload_n 0, 1)) D_MO_gather 63 rfl
theorem d_MO_gather_116 : decode M_MO_gather.2.1 116 = .ok (.getfield 131, 3) := fx_d (q := (116, .getfield 131, 3)) D_MO_gather 64 rfl
theorem d_MO_gather_119 : decode M_MO_gather.2.1 119 = .ok (.iload_n 3, 1) := fx_d (q := (119, .iload_n 3, 1)) D_MO_gather 65 rfl
theorem d_MO_gather_120 : decode M_MO_gather.2.1 120 = .ok (.imul, 1) := fx_d (q := (120, .imul, 1)) D_MO_gather 66 rfl
theorem d_MO_gather_121 : decode M_MO_gather.2.1 121 = .ok (.iload 4, 2) := fx_d (q := (121, .iload 4, 2)) D_MO_gather 67 rfl
theorem d_MO_gather_123 : decode M_MO_gather.2.1 123 = .ok (.iadd, 1) := fx_d (q := (123, .iadd, 1)) D_MO_gather 68 rfl
theorem d_MO_gather_124 : decode M_MO_gather.2.1 124 = .ok (.iaload, 1) := fx_d (q := (124, .iaload, 1)) D_MO_gather 69 rfl
theorem d_MO_gather_125 : decode M_MO_gather.2.1 125 = .ok (.goto 5, 3) := fx_d (q := (125, .goto 5, 3)) D_MO_gather 70 rfl
theorem d_MO_gather_128 : decode M_MO_gather.2.1 128 = .ok (.iload 5, 2) := fx_d (q := (128, .iload 5, 2)) D_MO_gather 71 rfl
theorem d_MO_gather_130 : decode M_MO_gather.2.1 130 = .ok (.iastore, 1) := fx_d (q := (130, .iastore, 1)) D_MO_gather 72 rfl
theorem d_MO_gather_131 : decode M_MO_gather.2.1 131 = .ok (.aload_n 0, 1) := fx_d (q := (131, .aload_n 0, 1)) D_MO_gather 73 rfl
theorem d_MO_gather_132 : decode M_MO_gather.2.1 132 = .ok (.dup, 1) := fx_d (q := (132, .dup, 1)) D_MO_gather 74 rfl
theorem d_MO_gather_133 : decode M_MO_gather.2.1 133 = .ok (.getfield 134, 3) := fx_d (q := (133, .getfield 134, 3)) D_MO_gather 75 rfl
theorem d_MO_gather_136 : decode M_MO_gather.2.1 136 = .ok (.iconst 1, 1) := fx_d (q := (136, .iconst 1, 1)) D_MO_gather 76 rfl
theorem d_MO_gather_137 : decode M_MO_gather.2.1 137 = .ok (.iadd, 1) := fx_d (q := (137, .iadd, 1)) D_MO_gather 77 rfl
theorem d_MO_gather_138 : decode M_MO_gather.2.1 138 = .ok (.putfield 134, 3) := fx_d (q := (138, .putfield 134, 3)) D_MO_gather 78 rfl
theorem d_MO_gather_141 : decode M_MO_gather.2.1 141 = .ok (.iinc 4 1, 3) := fx_d (q := (141, .iinc 4 1, 3)) D_MO_gather 79 rfl
theorem d_MO_gather_144 : decode M_MO_gather.2.1 144 = .ok (.goto (-127), 3) := fx_d (q := (144, .goto (-127), 3)) D_MO_gather 80 rfl
theorem d_MO_gather_147 : decode M_MO_gather.2.1 147 = .ok (.iinc 3 1, 3) := fx_d (q := (147, .iinc 3 1, 3)) D_MO_gather 81 rfl
theorem d_MO_gather_150 : decode M_MO_gather.2.1 150 = .ok (.goto (-143), 3) := fx_d (q := (150, .goto (-143), 3)) D_MO_gather 82 rfl
theorem d_MO_gather_153 : decode M_MO_gather.2.1 153 = .ok (.return_, 1) := fx_d (q := (153, .return_, 1)) D_MO_gather 83 rfl
set_option maxRecDepth 100000 in
def L_MO_rowBytes : List (Nat × Instr × Nat) := [(0, .aload_n 0, 1), (1, .getfield 128, 3), (4, .ifCond .eq 10, 3), (7, .aload_n 0, 1), (8, .getfield 131, 3), (11, .goto 13, 3), (14, .aload_n 0, 1), (15, .getfield 131, 3), (18, .bipush 7, 2), (20, .iadd, 1), (21, .bipush 8, 2), (23, .idiv, 1), (24, .ireturn, 1)]
set_option maxRecDepth 100000 in
theorem D_MO_rowBytes : ∀ q ∈ L_MO_rowBytes, decode prog_14_method_17_code q.1 = .ok q.2 := by decide +kernel
theorem d_MO_rowBytes_0 : decode M_MO_rowBytes.2.1 0 = .ok (.aload_n 0, 1) := fx_d (q := (0, .aload_n 0, 1)) D_MO_rowBytes 0 rfl
theorem d_MO_rowBytes_1 : decode M_MO_rowBytes.2.1 1 = .ok (.getfield 128, 3) := fx_d (q := (1, .getfield 128, 3)) D_MO_rowBytes 1 rfl
theorem d_MO_rowBytes_4 : decode M_MO_rowBytes.2.1 4 = .ok (.ifCond .eq 10, 3) := fx_d (q := (4, .ifCond .eq 10, 3)) D_MO_rowBytes 2 rfl
theorem d_MO_rowBytes_7 : decode M_MO_rowBytes.2.1 7 = .ok (.aload_n 0, 1) := fx_d (q := (7, .aload_n 0, 1)) D_MO_rowBytes 3 rfl
theorem d_MO_rowBytes_8 : decode M_MO_rowBytes.2.1 8 = .ok (.getfield 131, 3) := fx_d (q := (8, .getfield 131, 3)) D_MO_rowBytes 4 rfl
theorem d_MO_rowBytes_11 : decode M_MO_rowBytes.2.1 11 = .ok (.goto 13, 3) := fx_d (q := (11, .goto 13, 3)) D_MO_rowBytes 5 rfl
theorem d_MO_rowBytes_14 : decode M_MO_rowBytes.2.1 14 = .ok (.aload_n 0, 1) := fx_d (q := (14, .aload_n 0, 1)) D_MO_rowBytes 6 rfl
theorem d_MO_rowBytes_15 : decode M_MO_rowBytes.2.1 15 = .ok (.getfield 131, 3) := fx_d (q := (15, .getfield 131, 3)) D_MO_rowBytes 7 rfl
theorem d_MO_rowBytes_18 : decode M_MO_rowBytes.2.1 18 = .ok (.bipush 7, 2) := fx_d (q := (18, .bipush 7, 2)) D_MO_rowBytes 8 rfl
theorem d_MO_rowBytes_20 : decode M_MO_rowBytes.2.1 20 = .ok (.iadd, 1) := fx_d (q := (20, .iadd, 1)) D_MO_rowBytes 9 rfl
theorem d_MO_rowBytes_21 : decode M_MO_rowBytes.2.1 21 = .ok (.bipush 8, 2) := fx_d (q := (21, .bipush 8, 2)) D_MO_rowBytes 10 rfl
theorem d_MO_rowBytes_23 : decode M_MO_rowBytes.2.1 23 = .ok (.idiv, 1) := fx_d (q := (23, .idiv, 1)) D_MO_rowBytes 11 rfl
theorem d_MO_rowBytes_24 : decode M_MO_rowBytes.2.1 24 = .ok (.ireturn, 1) := fx_d (q := (24, .ireturn, 1)) D_MO_rowBytes 12 rfl
