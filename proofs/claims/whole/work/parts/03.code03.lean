/-! code tables, written by program -/
def nKa154_0 : List (Nat × Instr × Nat) := [(0, .aload_n 0, 1), (1, .ldc 125, 2), (3, .invokevirtual 61, 3), (6, .ifCond .eq 5, 3), (9, .iconst 1, 1), (10, .ireturn, 1), (11, .aload_n 0, 1), (12, .ldc 129, 2), (14, .invokevirtual 61, 3), (17, .ifCond .eq 5, 3), (20, .iconst 2, 1), (21, .ireturn, 1), (22, .aload_n 0, 1), (23, .ldc 87, 2), (25, .invokevirtual 61, 3), (28, .ifCond .ne 8, 3), (31, .aload_n 0, 1), (32, .iconst 1, 1), (33, .invokevirtual 101, 3), (36, .iconst 0, 1), (37, .ireturn, 1)]
theorem nKb154_0 : (nKa154_0.all fun e => decide (decode nM154.2.1 e.1 = .ok e.2)) = true := by decide +kernel
def nK154 : List (Nat × Instr × Nat) := nKa154_0
theorem nKok154 : (nK154.all fun e => decide (decode nM154.2.1 e.1 = .ok e.2)) = true := nKb154_0
def nKa155_0 : List (Nat × Instr × Nat) := [(0, .aload_n 0, 1), (1, .aload_n 1, 1), (2, .invokevirtual 61, 3), (5, .ifCond .eq 9, 3), (8, .aload_n 0, 1), (9, .invokevirtual 56, 3), (12, .iconst 1, 1), (13, .ireturn, 1), (14, .aload_n 0, 1), (15, .ldc 123, 2), (17, .invokevirtual 78, 3), (20, .iconst 0, 1), (21, .ireturn, 1)]
theorem nKb155_0 : (nKa155_0.all fun e => decide (decode nM155.2.1 e.1 = .ok e.2)) = true := by decide +kernel
def nK155 : List (Nat × Instr × Nat) := nKa155_0
theorem nKok155 : (nK155.all fun e => decide (decode nM155.2.1 e.1 = .ok e.2)) = true := nKb155_0
def nKa156_0 : List (Nat × Instr × Nat) := [(0, .aload_n 0, 1), (1, .getfield 44, 3), (4, .iconst 3, 1), (5, .if_icmp .eq 9, 3), (8, .aload_n 0, 1), (9, .iconst 1, 1), (10, .invokevirtual 101, 3), (13, .return_, 1), (14, .aload_n 0, 1), (15, .invokevirtual 56, 3), (18, .return_, 1)]
theorem nKb156_0 : (nKa156_0.all fun e => decide (decode nM156.2.1 e.1 = .ok e.2)) = true := by decide +kernel
def nK156 : List (Nat × Instr × Nat) := nKa156_0
theorem nKok156 : (nK156.all fun e => decide (decode nM156.2.1 e.1 = .ok e.2)) = true := nKb156_0
def nKa157_0 : List (Nat × Instr × Nat) := [(0, .aload_n 0, 1), (1, .getfield 58, 3), (4, .getfield 304, 3), (7, .ireturn, 1)]
theorem nKb157_0 : (nKa157_0.all fun e => decide (decode nM157.2.1 e.1 = .ok e.2)) = true := by decide +kernel
def nK157 : List (Nat × Instr × Nat) := nKa157_0
theorem nKok157 : (nK157.all fun e => decide (decode nM157.2.1 e.1 = .ok e.2)) = true := nKb157_0
def nKa158_0 : List (Nat × Instr × Nat) := [(0, .iload_n 1, 1), (1, .ifCond .lt 9, 3), (4, .iload_n 1, 1), (5, .bipush 13, 2), (7, .if_icmp .lt 9, 3), (10, .sipush (-1002), 3), (13, .goto 15, 3), (16, .aload_n 0, 1), (17, .getfield 12, 3), (20, .getfield 274, 3), (23, .getfield 307, 3), (26, .iload_n 1, 1), (27, .iaload, 1), (28, .ireturn, 1)]
theorem nKb158_0 : (nKa158_0.all fun e => decide (decode nM158.2.1 e.1 = .ok e.2)) = true := by decide +kernel
def nK158 : List (Nat × Instr × Nat) := nKa158_0
theorem nKok158 : (nK158.all fun e => decide (decode nM158.2.1 e.1 = .ok e.2)) = true := nKb158_0
def nKa159_0 : List (Nat × Instr × Nat) := [(0, .aload_n 0, 1), (1, .invokespecial 1, 3), (4, .aload_n 0, 1), (5, .iconst 4, 1), (6, .newarray .int, 2), (8, .putfield 7, 3), (11, .aload_n 0, 1), (12, .iconst 4, 1)]
theorem nKb159_0 : (nKa159_0.all fun e => decide (decode nM159.2.1 e.1 = .ok e.2)) = true := by decide +kernel
def nKa159_1 : List (Nat × Instr × Nat) := [(13, .newarray .boolean, 2), (15, .putfield 13, 3), (18, .aload_n 0, 1), (19, .sipush 240, 3), (22, .newarray .int, 2), (24, .putfield 17, 3), (27, .aload_n 0, 1), (28, .sipush 240, 3)]
theorem nKb159_1 : (nKa159_1.all fun e => decide (decode nM159.2.1 e.1 = .ok e.2)) = true := by decide +kernel
def nKa159_2 : List (Nat × Instr × Nat) := [(31, .newarray .int, 2), (33, .putfield 20, 3), (36, .aload_n 0, 1), (37, .sipush 240, 3), (40, .newarray .int, 2), (42, .putfield 23, 3), (45, .aload_n 0, 1), (46, .sipush 240, 3)]
theorem nKb159_2 : (nKa159_2.all fun e => decide (decode nM159.2.1 e.1 = .ok e.2)) = true := by decide +kernel
def nKa159_3 : List (Nat × Instr × Nat) := [(49, .newarray .int, 2), (51, .putfield 26, 3), (54, .aload_n 0, 1), (55, .sipush 240, 3), (58, .newarray .int, 2), (60, .putfield 29, 3), (63, .aload_n 0, 1), (64, .sipush 4800, 3)]
theorem nKb159_3 : (nKa159_3.all fun e => decide (decode nM159.2.1 e.1 = .ok e.2)) = true := by decide +kernel
def nKa159_4 : List (Nat × Instr × Nat) := [(67, .newarray .int, 2), (69, .putfield 32, 3), (72, .aload_n 0, 1), (73, .sipush 4800, 3), (76, .newarray .int, 2), (78, .putfield 35, 3), (81, .aload_n 0, 1), (82, .sipush 4800, 3)]
theorem nKb159_4 : (nKa159_4.all fun e => decide (decode nM159.2.1 e.1 = .ok e.2)) = true := by decide +kernel
def nKa159_5 : List (Nat × Instr × Nat) := [(85, .newarray .int, 2), (87, .putfield 38, 3), (90, .aload_n 0, 1), (91, .bipush 52, 2), (93, .newarray .int, 2), (95, .putfield 41, 3), (98, .aload_n 0, 1), (99, .iconst 3, 1)]
theorem nKb159_5 : (nKa159_5.all fun e => decide (decode nM159.2.1 e.1 = .ok e.2)) = true := by decide +kernel
def nKa159_6 : List (Nat × Instr × Nat) := [(100, .putfield 44, 3), (103, .aload_n 0, 1), (104, .bipush 60, 2), (106, .newarray .int, 2), (108, .putfield 48, 3), (111, .aload_n 0, 1), (112, .bipush 60, 2), (114, .newarray .int, 2)]
theorem nKb159_6 : (nKa159_6.all fun e => decide (decode nM159.2.1 e.1 = .ok e.2)) = true := by decide +kernel
def nKa159_7 : List (Nat × Instr × Nat) := [(116, .putfield 51, 3), (119, .aload_n 0, 1), (120, .sipush 240, 3), (123, .newarray .int, 2), (125, .putfield 54, 3), (128, .aload_n 0, 1), (129, .bipush 60, 2), (131, .newarray .int, 2)]
theorem nKb159_7 : (nKa159_7.all fun e => decide (decode nM159.2.1 e.1 = .ok e.2)) = true := by decide +kernel
def nKa159_8 : List (Nat × Instr × Nat) := [(133, .putfield 57, 3), (136, .aload_n 0, 1), (137, .bipush 60, 2), (139, .newarray .int, 2), (141, .putfield 60, 3), (144, .aload_n 0, 1), (145, .iconst 5, 1), (146, .newarray .int, 2)]
theorem nKb159_8 : (nKa159_8.all fun e => decide (decode nM159.2.1 e.1 = .ok e.2)) = true := by decide +kernel
def nKa159_9 : List (Nat × Instr × Nat) := [(148, .putfield 63, 3), (151, .aload_n 0, 1), (152, .sipush 14400, 3), (155, .newarray .int, 2), (157, .putfield 66, 3), (160, .aload_n 0, 1), (161, .sipush 1200, 3), (164, .newarray .int, 2)]
theorem nKb159_9 : (nKa159_9.all fun e => decide (decode nM159.2.1 e.1 = .ok e.2)) = true := by decide +kernel
def nKa159_10 : List (Nat × Instr × Nat) := [(166, .putfield 69, 3), (169, .aload_n 0, 1), (170, .sipush 1200, 3), (173, .newarray .int, 2), (175, .putfield 72, 3), (178, .aload_n 0, 1), (179, .sipush 1200, 3), (182, .newarray .int, 2)]
theorem nKb159_10 : (nKa159_10.all fun e => decide (decode nM159.2.1 e.1 = .ok e.2)) = true := by decide +kernel
def nKa159_11 : List (Nat × Instr × Nat) := [(184, .putfield 75, 3), (187, .aload_n 0, 1), (188, .bipush 60, 2), (190, .newarray .int, 2), (192, .putfield 78, 3), (195, .aload_n 0, 1), (196, .bipush 60, 2), (198, .newarray .int, 2)]
theorem nKb159_11 : (nKa159_11.all fun e => decide (decode nM159.2.1 e.1 = .ok e.2)) = true := by decide +kernel
def nKa159_12 : List (Nat × Instr × Nat) := [(200, .putfield 81, 3), (203, .aload_n 0, 1), (204, .bipush 60, 2), (206, .newarray .int, 2), (208, .putfield 84, 3), (211, .aload_n 0, 1), (212, .sipush 1300, 3), (215, .newarray .int, 2)]
theorem nKb159_12 : (nKa159_12.all fun e => decide (decode nM159.2.1 e.1 = .ok e.2)) = true := by decide +kernel
def nKa159_13 : List (Nat × Instr × Nat) := [(217, .putfield 87, 3), (220, .aload_n 0, 1), (221, .bipush 12, 2), (223, .newarray .int, 2), (225, .putfield 90, 3), (228, .aload_n 0, 1), (229, .bipush 60, 2), (231, .newarray .int, 2)]
theorem nKb159_13 : (nKa159_13.all fun e => decide (decode nM159.2.1 e.1 = .ok e.2)) = true := by decide +kernel
def nKa159_14 : List (Nat × Instr × Nat) := [(233, .putfield 93, 3), (236, .aload_n 0, 1), (237, .bipush 61, 2), (239, .newarray .int, 2), (241, .putfield 96, 3), (244, .aload_n 0, 1), (245, .bipush 61, 2), (247, .newarray .int, 2)]
theorem nKb159_14 : (nKa159_14.all fun e => decide (decode nM159.2.1 e.1 = .ok e.2)) = true := by decide +kernel
def nKa159_15 : List (Nat × Instr × Nat) := [(249, .putfield 99, 3), (252, .aload_n 0, 1), (253, .sipush 1200, 3), (256, .newarray .int, 2), (258, .putfield 102, 3), (261, .aload_n 0, 1), (262, .bipush 61, 2), (264, .newarray .int, 2)]
theorem nKb159_15 : (nKa159_15.all fun e => decide (decode nM159.2.1 e.1 = .ok e.2)) = true := by decide +kernel
def nKa159_16 : List (Nat × Instr × Nat) := [(266, .putfield 105, 3), (269, .aload_n 0, 1), (270, .bipush 61, 2), (272, .newarray .boolean, 2), (274, .putfield 108, 3), (277, .aload_n 0, 1), (278, .sipush 200, 3), (281, .newarray .int, 2)]
theorem nKb159_16 : (nKa159_16.all fun e => decide (decode nM159.2.1 e.1 = .ok e.2)) = true := by decide +kernel
def nKa159_17 : List (Nat × Instr × Nat) := [(283, .putfield 111, 3), (286, .aload_n 0, 1), (287, .sipush 200, 3), (290, .newarray .int, 2), (292, .putfield 114, 3), (295, .aload_n 0, 1), (296, .sipush 800, 3), (299, .newarray .int, 2)]
theorem nKb159_17 : (nKa159_17.all fun e => decide (decode nM159.2.1 e.1 = .ok e.2)) = true := by decide +kernel
def nKa159_18 : List (Nat × Instr × Nat) := [(301, .putfield 117, 3), (304, .aload_n 0, 1), (305, .sipush 200, 3), (308, .newarray .int, 2), (310, .putfield 120, 3), (313, .aload_n 0, 1), (314, .sipush 200, 3), (317, .newarray .int, 2)]
theorem nKb159_18 : (nKa159_18.all fun e => decide (decode nM159.2.1 e.1 = .ok e.2)) = true := by decide +kernel
def nKa159_19 : List (Nat × Instr × Nat) := [(319, .putfield 123, 3), (322, .aload_n 0, 1), (323, .sipush 4000, 3), (326, .newarray .int, 2), (328, .putfield 126, 3), (331, .aload_n 0, 1), (332, .sipush 4000, 3), (335, .newarray .int, 2)]
theorem nKb159_19 : (nKa159_19.all fun e => decide (decode nM159.2.1 e.1 = .ok e.2)) = true := by decide +kernel
def nKa159_20 : List (Nat × Instr × Nat) := [(337, .putfield 129, 3), (340, .aload_n 0, 1), (341, .sipush 160, 3), (344, .newarray .int, 2), (346, .putfield 132, 3), (349, .aload_n 0, 1), (350, .iconst (-1), 1), (351, .putfield 135, 3)]
theorem nKb159_20 : (nKa159_20.all fun e => decide (decode nM159.2.1 e.1 = .ok e.2)) = true := by decide +kernel
def nKa159_21 : List (Nat × Instr × Nat) := [(354, .aload_n 0, 1), (355, .bipush 13, 2), (357, .newarray .int, 2), (359, .putfield 138, 3), (362, .aload_n 0, 1), (363, .bipush 39, 2), (365, .invokevirtual 141, 3), (368, .return_, 1)]
theorem nKb159_21 : (nKa159_21.all fun e => decide (decode nM159.2.1 e.1 = .ok e.2)) = true := by decide +kernel
def nK159 : List (Nat × Instr × Nat) := nKa159_0 ++ (nKa159_1 ++ (nKa159_2 ++ (nKa159_3 ++ (nKa159_4 ++ (nKa159_5 ++ (nKa159_6 ++ (nKa159_7 ++ (nKa159_8 ++ (nKa159_9 ++ (nKa159_10 ++ (nKa159_11 ++ (nKa159_12 ++ (nKa159_13 ++ (nKa159_14 ++ (nKa159_15 ++ (nKa159_16 ++ (nKa159_17 ++ (nKa159_18 ++ (nKa159_19 ++ (nKa159_20 ++ (nKa159_21)))))))))))))))))))))
theorem nKok159 : (nK159.all fun e => decide (decode nM159.2.1 e.1 = .ok e.2)) = true := nAll nKb159_0 (nAll nKb159_1 (nAll nKb159_2 (nAll nKb159_3 (nAll nKb159_4 (nAll nKb159_5 (nAll nKb159_6 (nAll nKb159_7 (nAll nKb159_8 (nAll nKb159_9 (nAll nKb159_10 (nAll nKb159_11 (nAll nKb159_12 (nAll nKb159_13 (nAll nKb159_14 (nAll nKb159_15 (nAll nKb159_16 (nAll nKb159_17 (nAll nKb159_18 (nAll nKb159_19 (nAll nKb159_20 (nKb159_21)))))))))))))))))))))
def nKa160_0 : List (Nat × Instr × Nat) := [(0, .iconst 0, 1), (1, .istore_n 2, 1), (2, .iload_n 2, 1), (3, .bipush 13, 2), (5, .if_icmp .ge 53, 3), (8, .aload_n 0, 1), (9, .getfield 41, 3), (12, .iload_n 1, 1), (13, .iload_n 2, 1), (14, .iadd, 1), (15, .iload_n 2, 1), (16, .ifCond .ne 8, 3), (19, .bipush 20, 2), (21, .goto 30, 3), (24, .iload_n 2, 1), (25, .iconst 1, 1), (26, .if_icmp .ne 8, 3), (29, .bipush 40, 2), (31, .goto 20, 3), (34, .iload_n 2, 1), (35, .bipush 6, 2), (37, .if_icmp .lt 13, 3), (40, .iload_n 2, 1), (41, .bipush 10, 2), (43, .if_icmp .ge 7, 3), (46, .iconst 1, 1), (47, .goto 4, 3), (50, .iconst 0, 1), (51, .iastore, 1), (52, .iinc 2 1, 3)]
theorem nKb160_0 : (nKa160_0.all fun e => decide (decode nM160.2.1 e.1 = .ok e.2)) = true := by decide +kernel
def nKa160_1 : List (Nat × Instr × Nat) := [(55, .goto (-53), 3), (58, .return_, 1)]
theorem nKb160_1 : (nKa160_1.all fun e => decide (decode nM160.2.1 e.1 = .ok e.2)) = true := by decide +kernel
def nK160 : List (Nat × Instr × Nat) := nKa160_0 ++ (nKa160_1)
theorem nKok160 : (nK160.all fun e => decide (decode nM160.2.1 e.1 = .ok e.2)) = true := nAll nKb160_0 (nKb160_1)
def nKa161_0 : List (Nat × Instr × Nat) := [(0, .iload_n 2, 1), (1, .ifCond .eq 8, 3), (4, .iload_n 2, 1), (5, .iconst 4, 1), (6, .if_icmp .ne 7, 3), (9, .iconst 1, 1), (10, .goto 4, 3), (13, .iconst 0, 1), (14, .istore 4, 2), (16, .iload_n 2, 1), (17, .iconst 2, 1)]
theorem nKb161_0 : (nKa161_0.all fun e => decide (decode nM161.2.1 e.1 = .ok e.2)) = true := by decide +kernel
def nKa161_1 : List (Nat × Instr × Nat) := [(18, .if_icmp .eq 8, 3), (21, .iload_n 2, 1), (22, .iconst 3, 1), (23, .if_icmp .ne 7, 3), (26, .iconst 1, 1), (27, .goto 4, 3), (30, .iconst 0, 1), (31, .istore 5, 2), (33, .iload_n 1, 1), (34, .i2l, 1), (35, .lconst 0, 1)]
theorem nKb161_1 : (nKa161_1.all fun e => decide (decode nM161.2.1 e.1 = .ok e.2)) = true := by decide +kernel
def nKa161_2 : List (Nat × Instr × Nat) := [(36, .aload_n 0, 1), (37, .getfield 7, 3), (40, .iconst 3, 1), (41, .iaload, 1), (42, .i2l, 1), (43, .invokestatic 145, 3), (46, .ifCond .eq 49, 3), (49, .iload_n 2, 1), (50, .i2l, 1), (51, .lconst 0, 1), (52, .ldc2_w 153, 3)]
theorem nKb161_2 : (nKa161_2.all fun e => decide (decode nM161.2.1 e.1 = .ok e.2)) = true := by decide +kernel
def nKa161_3 : List (Nat × Instr × Nat) := [(55, .invokestatic 145, 3), (58, .ifCond .eq 37, 3), (61, .iload 4, 2), (63, .ifCond .eq 15, 3), (66, .iload_n 3, 1), (67, .i2l, 1), (68, .lconst 1, 1), (69, .ldc2_w 155, 3), (72, .invokestatic 145, 3), (75, .ifCond .eq 20, 3), (78, .iload 5, 2)]
theorem nKb161_3 : (nKa161_3.all fun e => decide (decode nM161.2.1 e.1 = .ok e.2)) = true := by decide +kernel
def nKa161_4 : List (Nat × Instr × Nat) := [(80, .ifCond .eq 19, 3), (83, .iload_n 3, 1), (84, .i2l, 1), (85, .lconst 1, 1), (86, .ldc2_w 157, 3), (89, .invokestatic 145, 3), (92, .ifCond .ne 7, 3), (95, .sipush (-1002), 3), (98, .ireturn, 1), (99, .aload_n 0, 1), (100, .getfield 7, 3)]
theorem nKb161_4 : (nKa161_4.all fun e => decide (decode nM161.2.1 e.1 = .ok e.2)) = true := by decide +kernel
def nKa161_5 : List (Nat × Instr × Nat) := [(103, .iconst 3, 1), (104, .iaload, 1), (105, .bipush 60, 2), (107, .if_icmp .eq 13, 3), (110, .aload_n 0, 1), (111, .getfield 159, 3), (114, .sipush 200, 3), (117, .if_icmp .ne 7, 3), (120, .sipush (-1004), 3), (123, .ireturn, 1), (124, .aload_n 0, 1)]
theorem nKb161_5 : (nKa161_5.all fun e => decide (decode nM161.2.1 e.1 = .ok e.2)) = true := by decide +kernel
def nKa161_6 : List (Nat × Instr × Nat) := [(125, .getfield 7, 3), (128, .iconst 3, 1), (129, .iaload, 1), (130, .istore 6, 2), (132, .iload 6, 2), (134, .iload_n 1, 1), (135, .if_icmp .le 27, 3), (138, .aload_n 0, 1), (139, .sipush 180, 3), (142, .iload 6, 2), (144, .iadd, 1)]
theorem nKb161_6 : (nKa161_6.all fun e => decide (decode nM161.2.1 e.1 = .ok e.2)) = true := by decide +kernel
def nKa161_7 : List (Nat × Instr × Nat) := [(145, .iconst 1, 1), (146, .isub, 1), (147, .sipush 180, 3), (150, .iload 6, 2), (152, .iadd, 1), (153, .invokevirtual 149, 3), (156, .iinc 6 (-1), 3), (159, .goto (-27), 3), (162, .aload_n 0, 1), (163, .getfield 17, 3), (166, .sipush 180, 3)]
theorem nKb161_7 : (nKa161_7.all fun e => decide (decode nM161.2.1 e.1 = .ok e.2)) = true := by decide +kernel
def nKa161_8 : List (Nat × Instr × Nat) := [(169, .iload_n 1, 1), (170, .iadd, 1), (171, .aload_n 0, 1), (172, .getfield 159, 3), (175, .iastore, 1), (176, .aload_n 0, 1), (177, .getfield 20, 3), (180, .sipush 180, 3), (183, .iload_n 1, 1), (184, .iadd, 1), (185, .iload_n 2, 1)]
theorem nKb161_8 : (nKa161_8.all fun e => decide (decode nM161.2.1 e.1 = .ok e.2)) = true := by decide +kernel
def nKa161_9 : List (Nat × Instr × Nat) := [(186, .iastore, 1), (187, .aload_n 0, 1), (188, .getfield 23, 3), (191, .sipush 180, 3), (194, .iload_n 1, 1), (195, .iadd, 1), (196, .iload 4, 2), (198, .ifCond .ne 8, 3), (201, .iload 5, 2), (203, .ifCond .eq 7, 3), (206, .iload_n 3, 1)]
theorem nKb161_9 : (nKa161_9.all fun e => decide (decode nM161.2.1 e.1 = .ok e.2)) = true := by decide +kernel
def nKa161_10 : List (Nat × Instr × Nat) := [(207, .goto 4, 3), (210, .iconst 0, 1), (211, .iastore, 1), (212, .aload_n 0, 1), (213, .getfield 26, 3), (216, .sipush 180, 3), (219, .iload_n 1, 1), (220, .iadd, 1), (221, .iconst (-1), 1), (222, .iastore, 1), (223, .aload_n 0, 1)]
theorem nKb161_10 : (nKa161_10.all fun e => decide (decode nM161.2.1 e.1 = .ok e.2)) = true := by decide +kernel
def nKa161_11 : List (Nat × Instr × Nat) := [(224, .getfield 29, 3), (227, .sipush 180, 3), (230, .iload_n 1, 1), (231, .iadd, 1), (232, .iconst 0, 1), (233, .iastore, 1), (234, .aload_n 0, 1), (235, .getfield 7, 3), (238, .iconst 3, 1), (239, .dup2, 1), (240, .iaload, 1)]
theorem nKb161_11 : (nKa161_11.all fun e => decide (decode nM161.2.1 e.1 = .ok e.2)) = true := by decide +kernel
def nKa161_12 : List (Nat × Instr × Nat) := [(241, .iconst 1, 1), (242, .iadd, 1), (243, .iastore, 1), (244, .aload_n 0, 1), (245, .dup, 1), (246, .getfield 159, 3), (249, .iconst 1, 1), (250, .iadd, 1), (251, .putfield 159, 3), (254, .aload_n 0, 1), (255, .getfield 159, 3)]
theorem nKb161_12 : (nKa161_12.all fun e => decide (decode nM161.2.1 e.1 = .ok e.2)) = true := by decide +kernel
def nKa161_13 : List (Nat × Instr × Nat) := [(258, .iconst 1, 1), (259, .isub, 1), (260, .ireturn, 1)]
theorem nKb161_13 : (nKa161_13.all fun e => decide (decode nM161.2.1 e.1 = .ok e.2)) = true := by decide +kernel
def nK161 : List (Nat × Instr × Nat) := nKa161_0 ++ (nKa161_1 ++ (nKa161_2 ++ (nKa161_3 ++ (nKa161_4 ++ (nKa161_5 ++ (nKa161_6 ++ (nKa161_7 ++ (nKa161_8 ++ (nKa161_9 ++ (nKa161_10 ++ (nKa161_11 ++ (nKa161_12 ++ (nKa161_13)))))))))))))
theorem nKok161 : (nK161.all fun e => decide (decode nM161.2.1 e.1 = .ok e.2)) = true := nAll nKb161_0 (nAll nKb161_1 (nAll nKb161_2 (nAll nKb161_3 (nAll nKb161_4 (nAll nKb161_5 (nAll nKb161_6 (nAll nKb161_7 (nAll nKb161_8 (nAll nKb161_9 (nAll nKb161_10 (nAll nKb161_11 (nAll nKb161_12 (nKb161_13)))))))))))))
def nKa162_0 : List (Nat × Instr × Nat) := [(0, .lload_n 0, 1), (1, .lload_n 2, 1), (2, .lcmp, 1), (3, .ifCond .lt 14, 3), (6, .lload_n 0, 1), (7, .lload 4, 2), (9, .lcmp, 1), (10, .ifCond .gt 7, 3), (13, .iconst 1, 1), (14, .goto 4, 3), (17, .iconst 0, 1), (18, .ireturn, 1)]
theorem nKb162_0 : (nKa162_0.all fun e => decide (decode nM162.2.1 e.1 = .ok e.2)) = true := by decide +kernel
def nK162 : List (Nat × Instr × Nat) := nKa162_0
theorem nKok162 : (nK162.all fun e => decide (decode nM162.2.1 e.1 = .ok e.2)) = true := nKb162_0
def nKa163_0 : List (Nat × Instr × Nat) := [(0, .aload_n 0, 1), (1, .getfield 17, 3), (4, .iload_n 2, 1), (5, .aload_n 0, 1), (6, .getfield 17, 3), (9, .iload_n 1, 1), (10, .iaload, 1), (11, .iastore, 1), (12, .aload_n 0, 1), (13, .getfield 20, 3), (16, .iload_n 2, 1), (17, .aload_n 0, 1), (18, .getfield 20, 3), (21, .iload_n 1, 1), (22, .iaload, 1), (23, .iastore, 1), (24, .aload_n 0, 1), (25, .getfield 23, 3), (28, .iload_n 2, 1), (29, .aload_n 0, 1), (30, .getfield 23, 3)]
theorem nKb163_0 : (nKa163_0.all fun e => decide (decode nM163.2.1 e.1 = .ok e.2)) = true := by decide +kernel
def nKa163_1 : List (Nat × Instr × Nat) := [(33, .iload_n 1, 1), (34, .iaload, 1), (35, .iastore, 1), (36, .aload_n 0, 1), (37, .getfield 26, 3), (40, .iload_n 2, 1), (41, .aload_n 0, 1), (42, .getfield 26, 3), (45, .iload_n 1, 1), (46, .iaload, 1), (47, .iastore, 1), (48, .aload_n 0, 1), (49, .getfield 29, 3), (52, .iload_n 2, 1), (53, .aload_n 0, 1), (54, .getfield 29, 3), (57, .iload_n 1, 1), (58, .iaload, 1), (59, .iastore, 1), (60, .iconst 0, 1), (61, .istore_n 3, 1)]
theorem nKb163_1 : (nKa163_1.all fun e => decide (decode nM163.2.1 e.1 = .ok e.2)) = true := by decide +kernel
def nKa163_2 : List (Nat × Instr × Nat) := [(62, .iload_n 3, 1), (63, .bipush 20, 2), (65, .if_icmp .ge 75, 3), (68, .aload_n 0, 1), (69, .getfield 32, 3), (72, .bipush 20, 2), (74, .iload_n 2, 1), (75, .imul, 1), (76, .iload_n 3, 1), (77, .iadd, 1), (78, .aload_n 0, 1), (79, .getfield 32, 3), (82, .bipush 20, 2), (84, .iload_n 1, 1), (85, .imul, 1), (86, .iload_n 3, 1), (87, .iadd, 1), (88, .iaload, 1), (89, .iastore, 1), (90, .aload_n 0, 1), (91, .getfield 35, 3)]
theorem nKb163_2 : (nKa163_2.all fun e => decide (decode nM163.2.1 e.1 = .ok e.2)) = true := by decide +kernel
def nKa163_3 : List (Nat × Instr × Nat) := [(94, .bipush 20, 2), (96, .iload_n 2, 1), (97, .imul, 1), (98, .iload_n 3, 1), (99, .iadd, 1), (100, .aload_n 0, 1), (101, .getfield 35, 3), (104, .bipush 20, 2), (106, .iload_n 1, 1), (107, .imul, 1), (108, .iload_n 3, 1), (109, .iadd, 1), (110, .iaload, 1), (111, .iastore, 1), (112, .aload_n 0, 1), (113, .getfield 38, 3), (116, .bipush 20, 2), (118, .iload_n 2, 1), (119, .imul, 1), (120, .iload_n 3, 1), (121, .iadd, 1)]
theorem nKb163_3 : (nKa163_3.all fun e => decide (decode nM163.2.1 e.1 = .ok e.2)) = true := by decide +kernel
def nKa163_4 : List (Nat × Instr × Nat) := [(122, .aload_n 0, 1), (123, .getfield 38, 3), (126, .bipush 20, 2), (128, .iload_n 1, 1), (129, .imul, 1), (130, .iload_n 3, 1), (131, .iadd, 1), (132, .iaload, 1), (133, .iastore, 1), (134, .iinc 3 1, 3), (137, .goto (-75), 3), (140, .return_, 1)]
theorem nKb163_4 : (nKa163_4.all fun e => decide (decode nM163.2.1 e.1 = .ok e.2)) = true := by decide +kernel
def nK163 : List (Nat × Instr × Nat) := nKa163_0 ++ (nKa163_1 ++ (nKa163_2 ++ (nKa163_3 ++ (nKa163_4))))
theorem nKok163 : (nK163.all fun e => decide (decode nM163.2.1 e.1 = .ok e.2)) = true := nAll nKb163_0 (nAll nKb163_1 (nAll nKb163_2 (nAll nKb163_3 (nKb163_4))))
def nKa164_0 : List (Nat × Instr × Nat) := [(0, .aload_n 0, 1), (1, .iload_n 1, 1), (2, .invokevirtual 162, 3), (5, .ifCond .ne 7, 3), (8, .sipush (-1001), 3), (11, .ireturn, 1), (12, .aload_n 0, 1), (13, .getfield 17, 3), (16, .sipush 180, 3), (19, .iload_n 1, 1), (20, .iadd, 1), (21, .iaload, 1), (22, .istore_n 2, 1), (23, .aload_n 0, 1), (24, .getfield 7, 3), (27, .iconst 3, 1), (28, .dup2, 1), (29, .iaload, 1), (30, .iconst 1, 1), (31, .isub, 1), (32, .iastore, 1), (33, .iload_n 1, 1), (34, .istore_n 3, 1), (35, .iload_n 3, 1), (36, .aload_n 0, 1), (37, .getfield 7, 3), (40, .iconst 3, 1), (41, .iaload, 1), (42, .if_icmp .ge 25, 3), (45, .aload_n 0, 1)]
theorem nKb164_0 : (nKa164_0.all fun e => decide (decode nM164.2.1 e.1 = .ok e.2)) = true := by decide +kernel
def nKa164_1 : List (Nat × Instr × Nat) := [(46, .sipush 180, 3), (49, .iload_n 3, 1), (50, .iadd, 1), (51, .iconst 1, 1), (52, .iadd, 1), (53, .sipush 180, 3), (56, .iload_n 3, 1), (57, .iadd, 1), (58, .invokevirtual 149, 3), (61, .iinc 3 1, 3), (64, .goto (-29), 3), (67, .iload_n 2, 1), (68, .ireturn, 1)]
theorem nKb164_1 : (nKa164_1.all fun e => decide (decode nM164.2.1 e.1 = .ok e.2)) = true := by decide +kernel
def nK164 : List (Nat × Instr × Nat) := nKa164_0 ++ (nKa164_1)
theorem nKok164 : (nK164.all fun e => decide (decode nM164.2.1 e.1 = .ok e.2)) = true := nAll nKb164_0 (nKb164_1)
def nKa165_0 : List (Nat × Instr × Nat) := [(0, .iload_n 1, 1), (1, .i2l, 1), (2, .lconst 0, 1), (3, .aload_n 0, 1), (4, .getfield 7, 3), (7, .iconst 3, 1), (8, .iaload, 1), (9, .iconst 1, 1), (10, .isub, 1), (11, .i2l, 1), (12, .invokestatic 145, 3), (15, .ireturn, 1)]
theorem nKb165_0 : (nKa165_0.all fun e => decide (decode nM165.2.1 e.1 = .ok e.2)) = true := by decide +kernel
def nK165 : List (Nat × Instr × Nat) := nKa165_0
theorem nKok165 : (nK165.all fun e => decide (decode nM165.2.1 e.1 = .ok e.2)) = true := nKb165_0
def nKa166_0 : List (Nat × Instr × Nat) := [(0, .aload_n 0, 1), (1, .iload_n 1, 1), (2, .invokevirtual 162, 3), (5, .ifCond .eq 11, 3), (8, .aload_n 0, 1), (9, .iload_n 2, 1), (10, .invokevirtual 162, 3), (13, .ifCond .ne 7, 3), (16, .sipush (-1001), 3), (19, .ireturn, 1), (20, .iload_n 1, 1), (21, .istore_n 3, 1), (22, .iload_n 3, 1), (23, .iload_n 2, 1), (24, .if_icmp .eq 40, 3), (27, .iload_n 2, 1), (28, .iload_n 3, 1), (29, .if_icmp .le 9, 3), (32, .iload_n 3, 1), (33, .iconst 1, 1), (34, .iadd, 1), (35, .goto 6, 3), (38, .iload_n 3, 1), (39, .iconst 1, 1), (40, .isub, 1), (41, .istore 4, 2), (43, .aload_n 0, 1), (44, .sipush 180, 3), (47, .iload_n 3, 1), (48, .iadd, 1)]
theorem nKb166_0 : (nKa166_0.all fun e => decide (decode nM166.2.1 e.1 = .ok e.2)) = true := by decide +kernel
def nKa166_1 : List (Nat × Instr × Nat) := [(49, .sipush 180, 3), (52, .iload 4, 2), (54, .iadd, 1), (55, .invokevirtual 166, 3), (58, .iload 4, 2), (60, .istore_n 3, 1), (61, .goto (-39), 3), (64, .iconst 1, 1), (65, .ireturn, 1)]
theorem nKb166_1 : (nKa166_1.all fun e => decide (decode nM166.2.1 e.1 = .ok e.2)) = true := by decide +kernel
def nK166 : List (Nat × Instr × Nat) := nKa166_0 ++ (nKa166_1)
theorem nKok166 : (nK166.all fun e => decide (decode nM166.2.1 e.1 = .ok e.2)) = true := nAll nKb166_0 (nKb166_1)
def nKa167_0 : List (Nat × Instr × Nat) := [(0, .aload_n 0, 1), (1, .aload_n 0, 1), (2, .getfield 17, 3), (5, .iload_n 1, 1), (6, .iload_n 2, 1), (7, .invokevirtual 169, 3), (10, .aload_n 0, 1), (11, .aload_n 0, 1), (12, .getfield 20, 3), (15, .iload_n 1, 1), (16, .iload_n 2, 1), (17, .invokevirtual 169, 3), (20, .iadd, 1), (21, .aload_n 0, 1), (22, .aload_n 0, 1), (23, .getfield 23, 3), (26, .iload_n 1, 1), (27, .iload_n 2, 1), (28, .invokevirtual 169, 3), (31, .iadd, 1)]
theorem nKb167_0 : (nKa167_0.all fun e => decide (decode nM167.2.1 e.1 = .ok e.2)) = true := by decide +kernel
def nKa167_1 : List (Nat × Instr × Nat) := [(32, .aload_n 0, 1), (33, .aload_n 0, 1), (34, .getfield 26, 3), (37, .iload_n 1, 1), (38, .iload_n 2, 1), (39, .invokevirtual 169, 3), (42, .iadd, 1), (43, .aload_n 0, 1), (44, .aload_n 0, 1), (45, .getfield 29, 3), (48, .iload_n 1, 1), (49, .iload_n 2, 1), (50, .invokevirtual 169, 3), (53, .iadd, 1), (54, .istore_n 3, 1), (55, .iconst 0, 1), (56, .istore 4, 2), (58, .iload 4, 2), (60, .bipush 20, 2), (62, .if_icmp .ge 80, 3)]
theorem nKb167_1 : (nKa167_1.all fun e => decide (decode nM167.2.1 e.1 = .ok e.2)) = true := by decide +kernel
def nKa167_2 : List (Nat × Instr × Nat) := [(65, .iload_n 3, 1), (66, .aload_n 0, 1), (67, .aload_n 0, 1), (68, .getfield 32, 3), (71, .bipush 20, 2), (73, .iload_n 1, 1), (74, .imul, 1), (75, .iload 4, 2), (77, .iadd, 1), (78, .bipush 20, 2), (80, .iload_n 2, 1), (81, .imul, 1), (82, .iload 4, 2), (84, .iadd, 1), (85, .invokevirtual 169, 3), (88, .aload_n 0, 1), (89, .aload_n 0, 1), (90, .getfield 35, 3), (93, .bipush 20, 2), (95, .iload_n 1, 1)]
theorem nKb167_2 : (nKa167_2.all fun e => decide (decode nM167.2.1 e.1 = .ok e.2)) = true := by decide +kernel
def nKa167_3 : List (Nat × Instr × Nat) := [(96, .imul, 1), (97, .iload 4, 2), (99, .iadd, 1), (100, .bipush 20, 2), (102, .iload_n 2, 1), (103, .imul, 1), (104, .iload 4, 2), (106, .iadd, 1), (107, .invokevirtual 169, 3), (110, .iadd, 1), (111, .aload_n 0, 1), (112, .aload_n 0, 1), (113, .getfield 38, 3), (116, .bipush 20, 2), (118, .iload_n 1, 1), (119, .imul, 1), (120, .iload 4, 2), (122, .iadd, 1), (123, .bipush 20, 2), (125, .iload_n 2, 1)]
theorem nKb167_3 : (nKa167_3.all fun e => decide (decode nM167.2.1 e.1 = .ok e.2)) = true := by decide +kernel
def nKa167_4 : List (Nat × Instr × Nat) := [(126, .imul, 1), (127, .iload 4, 2), (129, .iadd, 1), (130, .invokevirtual 169, 3), (133, .iadd, 1), (134, .iadd, 1), (135, .istore_n 3, 1), (136, .iinc 4 1, 3), (139, .goto (-81), 3), (142, .return_, 1)]
theorem nKb167_4 : (nKa167_4.all fun e => decide (decode nM167.2.1 e.1 = .ok e.2)) = true := by decide +kernel
def nK167 : List (Nat × Instr × Nat) := nKa167_0 ++ (nKa167_1 ++ (nKa167_2 ++ (nKa167_3 ++ (nKa167_4))))
theorem nKok167 : (nK167.all fun e => decide (decode nM167.2.1 e.1 = .ok e.2)) = true := nAll nKb167_0 (nAll nKb167_1 (nAll nKb167_2 (nAll nKb167_3 (nKb167_4))))
def nKa168_0 : List (Nat × Instr × Nat) := [(0, .aload_n 1, 1), (1, .iload_n 2, 1), (2, .iaload, 1), (3, .istore 4, 2), (5, .aload_n 1, 1), (6, .iload_n 2, 1), (7, .aload_n 1, 1), (8, .iload_n 3, 1), (9, .iaload, 1), (10, .iastore, 1), (11, .aload_n 1, 1), (12, .iload_n 3, 1), (13, .iload 4, 2), (15, .iastore, 1), (16, .iload 4, 2), (18, .ireturn, 1)]
theorem nKb168_0 : (nKa168_0.all fun e => decide (decode nM168.2.1 e.1 = .ok e.2)) = true := by decide +kernel
def nK168 : List (Nat × Instr × Nat) := nKa168_0
theorem nKok168 : (nK168.all fun e => decide (decode nM168.2.1 e.1 = .ok e.2)) = true := nKb168_0
def nKa169_0 : List (Nat × Instr × Nat) := [(0, .aload_n 0, 1), (1, .iload_n 1, 1), (2, .invokevirtual 162, 3), (5, .ifCond .ne 7, 3), (8, .sipush (-1001), 3), (11, .ireturn, 1), (12, .iload_n 2, 1), (13, .i2l, 1), (14, .ldc2_w 173, 3), (17, .ldc2_w 175, 3), (20, .invokestatic 145, 3), (23, .ifCond .ne 7, 3), (26, .sipush (-1002), 3), (29, .ireturn, 1), (30, .aload_n 0, 1), (31, .getfield 26, 3), (34, .sipush 180, 3), (37, .iload_n 1, 1), (38, .iadd, 1), (39, .iaload, 1), (40, .istore_n 3, 1), (41, .aload_n 0, 1), (42, .getfield 26, 3), (45, .sipush 180, 3), (48, .iload_n 1, 1), (49, .iadd, 1), (50, .iload_n 2, 1), (51, .iastore, 1), (52, .iload_n 3, 1), (53, .ireturn, 1)]
theorem nKb169_0 : (nKa169_0.all fun e => decide (decode nM169.2.1 e.1 = .ok e.2)) = true := by decide +kernel
def nK169 : List (Nat × Instr × Nat) := nKa169_0
theorem nKok169 : (nK169.all fun e => decide (decode nM169.2.1 e.1 = .ok e.2)) = true := nKb169_0
def nKa170_0 : List (Nat × Instr × Nat) := [(0, .aload_n 0, 1), (1, .iload_n 1, 1), (2, .invokevirtual 162, 3), (5, .ifCond .ne 7, 3), (8, .sipush (-1001), 3), (11, .ireturn, 1), (12, .iload_n 2, 1), (13, .ifCond .ne 15, 3), (16, .iload_n 3, 1), (17, .i2l, 1), (18, .lconst 1, 1), (19, .ldc2_w 177, 3), (22, .invokestatic 145, 3), (25, .goto 63, 3)]
theorem nKb170_0 : (nKa170_0.all fun e => decide (decode nM170.2.1 e.1 = .ok e.2)) = true := by decide +kernel
def nKa170_1 : List (Nat × Instr × Nat) := [(28, .iload_n 2, 1), (29, .iconst 1, 1), (30, .if_icmp .ne 36, 3), (33, .iload_n 3, 1), (34, .i2l, 1), (35, .lconst 0, 1), (36, .ldc2_w 175, 3), (39, .invokestatic 145, 3), (42, .ifCond .eq 20, 3), (45, .iload 4, 2), (47, .i2l, 1), (48, .lconst 0, 1), (49, .ldc2_w 179, 3), (52, .invokestatic 145, 3)]
theorem nKb170_1 : (nKa170_1.all fun e => decide (decode nM170.2.1 e.1 = .ok e.2)) = true := by decide +kernel
def nKa170_2 : List (Nat × Instr × Nat) := [(55, .ifCond .eq 7, 3), (58, .iconst 1, 1), (59, .goto 29, 3), (62, .iconst 0, 1), (63, .goto 25, 3), (66, .iload_n 2, 1), (67, .iconst 2, 1), (68, .if_icmp .ne 19, 3), (71, .iload_n 3, 1), (72, .i2l, 1), (73, .lconst 1, 1), (74, .ldc2_w 181, 3), (77, .invokestatic 145, 3), (80, .ifCond .eq 7, 3)]
theorem nKb170_2 : (nKa170_2.all fun e => decide (decode nM170.2.1 e.1 = .ok e.2)) = true := by decide +kernel
def nKa170_3 : List (Nat × Instr × Nat) := [(83, .iconst 1, 1), (84, .goto 4, 3), (87, .iconst 0, 1), (88, .istore 5, 2), (90, .iload 5, 2), (92, .ifCond .ne 7, 3), (95, .sipush (-1002), 3), (98, .ireturn, 1), (99, .aload_n 0, 1), (100, .getfield 20, 3), (103, .sipush 180, 3), (106, .iload_n 1, 1), (107, .iadd, 1), (108, .iaload, 1)]
theorem nKb170_3 : (nKa170_3.all fun e => decide (decode nM170.2.1 e.1 = .ok e.2)) = true := by decide +kernel
def nKa170_4 : List (Nat × Instr × Nat) := [(109, .iconst 1, 1), (110, .if_icmp .eq 7, 3), (113, .sipush (-1003), 3), (116, .ireturn, 1), (117, .aload_n 0, 1), (118, .getfield 29, 3), (121, .sipush 180, 3), (124, .iload_n 1, 1), (125, .iadd, 1), (126, .iaload, 1), (127, .istore 6, 2), (129, .iload 6, 2), (131, .bipush 20, 2), (133, .if_icmp .ne 7, 3)]
theorem nKb170_4 : (nKa170_4.all fun e => decide (decode nM170.2.1 e.1 = .ok e.2)) = true := by decide +kernel
def nKa170_5 : List (Nat × Instr × Nat) := [(136, .sipush (-1004), 3), (139, .ireturn, 1), (140, .bipush 20, 2), (142, .sipush 180, 3), (145, .iload_n 1, 1), (146, .iadd, 1), (147, .imul, 1), (148, .iload 6, 2), (150, .iadd, 1), (151, .istore 7, 2), (153, .aload_n 0, 1), (154, .getfield 32, 3), (157, .iload 7, 2), (159, .iload_n 2, 1)]
theorem nKb170_5 : (nKa170_5.all fun e => decide (decode nM170.2.1 e.1 = .ok e.2)) = true := by decide +kernel
def nKa170_6 : List (Nat × Instr × Nat) := [(160, .iastore, 1), (161, .aload_n 0, 1), (162, .getfield 35, 3), (165, .iload 7, 2), (167, .iload_n 3, 1), (168, .iastore, 1), (169, .aload_n 0, 1), (170, .getfield 38, 3), (173, .iload 7, 2), (175, .iload_n 2, 1), (176, .iconst 1, 1), (177, .if_icmp .ne 8, 3), (180, .iload 4, 2), (182, .goto 4, 3)]
theorem nKb170_6 : (nKa170_6.all fun e => decide (decode nM170.2.1 e.1 = .ok e.2)) = true := by decide +kernel
def nKa170_7 : List (Nat × Instr × Nat) := [(185, .iconst 0, 1), (186, .iastore, 1), (187, .aload_n 0, 1), (188, .getfield 29, 3), (191, .sipush 180, 3), (194, .iload_n 1, 1), (195, .iadd, 1), (196, .dup2, 1), (197, .iaload, 1), (198, .iconst 1, 1), (199, .iadd, 1), (200, .iastore, 1), (201, .iload 6, 2), (203, .iconst 1, 1)]
theorem nKb170_7 : (nKa170_7.all fun e => decide (decode nM170.2.1 e.1 = .ok e.2)) = true := by decide +kernel
def nKa170_8 : List (Nat × Instr × Nat) := [(204, .iadd, 1), (205, .ireturn, 1)]
theorem nKb170_8 : (nKa170_8.all fun e => decide (decode nM170.2.1 e.1 = .ok e.2)) = true := by decide +kernel
def nK170 : List (Nat × Instr × Nat) := nKa170_0 ++ (nKa170_1 ++ (nKa170_2 ++ (nKa170_3 ++ (nKa170_4 ++ (nKa170_5 ++ (nKa170_6 ++ (nKa170_7 ++ (nKa170_8))))))))
theorem nKok170 : (nK170.all fun e => decide (decode nM170.2.1 e.1 = .ok e.2)) = true := nAll nKb170_0 (nAll nKb170_1 (nAll nKb170_2 (nAll nKb170_3 (nAll nKb170_4 (nAll nKb170_5 (nAll nKb170_6 (nAll nKb170_7 (nKb170_8))))))))
def nKa171_0 : List (Nat × Instr × Nat) := [(0, .aload_n 0, 1), (1, .iload_n 1, 1), (2, .invokevirtual 162, 3), (5, .ifCond .ne 7, 3), (8, .sipush (-1001), 3), (11, .ireturn, 1), (12, .aload_n 0, 1), (13, .getfield 20, 3), (16, .sipush 180, 3), (19, .iload_n 1, 1), (20, .iadd, 1), (21, .iaload, 1), (22, .iconst 1, 1), (23, .if_icmp .ne 16, 3), (26, .aload_n 0, 1), (27, .getfield 29, 3), (30, .sipush 180, 3), (33, .iload_n 1, 1), (34, .iadd, 1), (35, .iaload, 1), (36, .ifCond .ne 7, 3), (39, .sipush (-1003), 3), (42, .ireturn, 1), (43, .aload_n 0, 1), (44, .getfield 29, 3), (47, .sipush 180, 3), (50, .iload_n 1, 1), (51, .iadd, 1), (52, .dup2, 1), (53, .iaload, 1)]
theorem nKb171_0 : (nKa171_0.all fun e => decide (decode nM171.2.1 e.1 = .ok e.2)) = true := by decide +kernel
def nKa171_1 : List (Nat × Instr × Nat) := [(54, .iconst 1, 1), (55, .isub, 1), (56, .iastore, 1), (57, .aload_n 0, 1), (58, .getfield 29, 3), (61, .sipush 180, 3), (64, .iload_n 1, 1), (65, .iadd, 1), (66, .iaload, 1), (67, .ireturn, 1)]
theorem nKb171_1 : (nKa171_1.all fun e => decide (decode nM171.2.1 e.1 = .ok e.2)) = true := by decide +kernel
def nK171 : List (Nat × Instr × Nat) := nKa171_0 ++ (nKa171_1)
theorem nKok171 : (nK171.all fun e => decide (decode nM171.2.1 e.1 = .ok e.2)) = true := nAll nKb171_0 (nKb171_1)
def nKa172_0 : List (Nat × Instr × Nat) := [(0, .aload_n 0, 1), (1, .iload_n 1, 1), (2, .invokevirtual 162, 3), (5, .ifCond .ne 7, 3), (8, .sipush (-1001), 3), (11, .ireturn, 1), (12, .aload_n 0, 1), (13, .iconst 3, 1), (14, .putfield 44, 3), (17, .aload_n 0, 1), (18, .invokevirtual 258, 3), (21, .iload_n 2, 1), (22, .tableswitch 107 0 7 #[46, 57, 63, 69, 80, 86, 93, 100], 46), (68, .aload_n 0, 1), (69, .getfield 17, 3), (72, .sipush 180, 3), (75, .iload_n 1, 1), (76, .iadd, 1), (77, .iaload, 1), (78, .ireturn, 1), (79, .aload_n 0, 1), (80, .iload_n 1, 1)]
theorem nKb172_0 : (nKa172_0.all fun e => decide (decode nM172.2.1 e.1 = .ok e.2)) = true := by decide +kernel
def nKa172_1 : List (Nat × Instr × Nat) := [(81, .invokevirtual 197, 3), (84, .ireturn, 1), (85, .aload_n 0, 1), (86, .iload_n 1, 1), (87, .invokevirtual 200, 3), (90, .ireturn, 1), (91, .aload_n 0, 1), (92, .getfield 26, 3), (95, .sipush 180, 3), (98, .iload_n 1, 1), (99, .iadd, 1), (100, .iaload, 1), (101, .ireturn, 1), (102, .aload_n 0, 1), (103, .iload_n 1, 1), (104, .invokevirtual 221, 3), (107, .ireturn, 1), (108, .aload_n 0, 1), (109, .getfield 48, 3), (112, .iload_n 1, 1), (113, .iaload, 1), (114, .ireturn, 1)]
theorem nKb172_1 : (nKa172_1.all fun e => decide (decode nM172.2.1 e.1 = .ok e.2)) = true := by decide +kernel
def nKa172_2 : List (Nat × Instr × Nat) := [(115, .aload_n 0, 1), (116, .getfield 60, 3), (119, .iload_n 1, 1), (120, .iaload, 1), (121, .ireturn, 1), (122, .aload_n 0, 1), (123, .getfield 57, 3), (126, .iload_n 1, 1), (127, .iaload, 1), (128, .ireturn, 1), (129, .sipush (-1002), 3), (132, .ireturn, 1)]
theorem nKb172_2 : (nKa172_2.all fun e => decide (decode nM172.2.1 e.1 = .ok e.2)) = true := by decide +kernel
def nK172 : List (Nat × Instr × Nat) := nKa172_0 ++ (nKa172_1 ++ (nKa172_2))
theorem nKok172 : (nK172.all fun e => decide (decode nM172.2.1 e.1 = .ok e.2)) = true := nAll nKb172_0 (nAll nKb172_1 (nKb172_2))
def nKa173_0 : List (Nat × Instr × Nat) := [(0, .iconst 0, 1), (1, .istore_n 1, 1), (2, .iload_n 1, 1), (3, .iconst 5, 1), (4, .if_icmp .ge 16, 3), (7, .aload_n 0, 1)]
theorem nKb173_0 : (nKa173_0.all fun e => decide (decode nM173.2.1 e.1 = .ok e.2)) = true := by decide +kernel
def nKa173_1 : List (Nat × Instr × Nat) := [(8, .getfield 63, 3), (11, .iload_n 1, 1), (12, .iconst 0, 1), (13, .iastore, 1), (14, .iinc 1 1, 3), (17, .goto (-15), 3)]
theorem nKb173_1 : (nKa173_1.all fun e => decide (decode nM173.2.1 e.1 = .ok e.2)) = true := by decide +kernel
def nKa173_2 : List (Nat × Instr × Nat) := [(20, .iconst (-1), 1), (21, .istore_n 1, 1), (22, .iconst 0, 1), (23, .istore_n 2, 1), (24, .iconst 0, 1), (25, .istore_n 3, 1)]
theorem nKb173_2 : (nKa173_2.all fun e => decide (decode nM173.2.1 e.1 = .ok e.2)) = true := by decide +kernel
def nKa173_3 : List (Nat × Instr × Nat) := [(26, .iconst 0, 1), (27, .istore 4, 2), (29, .iload 4, 2), (31, .aload_n 0, 1), (32, .getfield 7, 3), (35, .aload_n 0, 1)]
theorem nKb173_3 : (nKa173_3.all fun e => decide (decode nM173.2.1 e.1 = .ok e.2)) = true := by decide +kernel
def nKa173_4 : List (Nat × Instr × Nat) := [(36, .getfield 44, 3), (39, .iaload, 1), (40, .if_icmp .ge 400, 3), (43, .aload_n 0, 1), (44, .iload 4, 2), (46, .invokevirtual 197, 3)]
theorem nKb173_4 : (nKa173_4.all fun e => decide (decode nM173.2.1 e.1 = .ok e.2)) = true := by decide +kernel
def nKa173_5 : List (Nat × Instr × Nat) := [(49, .istore 5, 2), (51, .aload_n 0, 1), (52, .getfield 57, 3), (55, .iload 4, 2), (57, .iconst 0, 1), (58, .iastore, 1)]
theorem nKb173_5 : (nKa173_5.all fun e => decide (decode nM173.2.1 e.1 = .ok e.2)) = true := by decide +kernel
def nKa173_6 : List (Nat × Instr × Nat) := [(59, .iload 5, 2), (61, .ifCond .ne 171, 3), (64, .aload_n 0, 1), (65, .iload 4, 2), (67, .invokevirtual 200, 3), (70, .istore 6, 2)]
theorem nKb173_6 : (nKa173_6.all fun e => decide (decode nM173.2.1 e.1 = .ok e.2)) = true := by decide +kernel
def nKa173_7 : List (Nat × Instr × Nat) := [(72, .aload_n 0, 1), (73, .getfield 63, 3), (76, .iload 6, 2), (78, .dup2, 1), (79, .iaload, 1), (80, .iconst 1, 1)]
theorem nKb173_7 : (nKa173_7.all fun e => decide (decode nM173.2.1 e.1 = .ok e.2)) = true := by decide +kernel
def nKa173_8 : List (Nat × Instr × Nat) := [(81, .iadd, 1), (82, .iastore, 1), (83, .iload 6, 2), (85, .iconst 1, 1), (86, .iadd, 1), (87, .istore 7, 2)]
theorem nKb173_8 : (nKa173_8.all fun e => decide (decode nM173.2.1 e.1 = .ok e.2)) = true := by decide +kernel
def nKa173_9 : List (Nat × Instr × Nat) := [(89, .iload 7, 2), (91, .iconst 5, 1), (92, .if_icmp .ge 17, 3), (95, .aload_n 0, 1), (96, .getfield 63, 3), (99, .iload 7, 2)]
theorem nKb173_9 : (nKa173_9.all fun e => decide (decode nM173.2.1 e.1 = .ok e.2)) = true := by decide +kernel
def nKa173_10 : List (Nat × Instr × Nat) := [(101, .iconst 0, 1), (102, .iastore, 1), (103, .iinc 7 1, 3), (106, .goto (-17), 3), (109, .iload 6, 2), (111, .iconst 1, 1)]
theorem nKb173_10 : (nKa173_10.all fun e => decide (decode nM173.2.1 e.1 = .ok e.2)) = true := by decide +kernel
def nKa173_11 : List (Nat × Instr × Nat) := [(112, .if_icmp .ne 17, 3), (115, .aload_n 0, 1), (116, .bipush 10, 2), (118, .invokevirtual 190, 3), (121, .iconst 1, 1), (122, .if_icmp .ne 7, 3)]
theorem nKb173_11 : (nKa173_11.all fun e => decide (decode nM173.2.1 e.1 = .ok e.2)) = true := by decide +kernel
def nKa173_12 : List (Nat × Instr × Nat) := [(125, .iconst 0, 1), (126, .goto 4, 3), (129, .iload_n 2, 1), (130, .istore_n 2, 1), (131, .iload 6, 2), (133, .iconst 1, 1)]
theorem nKb173_12 : (nKa173_12.all fun e => decide (decode nM173.2.1 e.1 = .ok e.2)) = true := by decide +kernel
def nKa173_13 : List (Nat × Instr × Nat) := [(134, .if_icmp .ne 17, 3), (137, .aload_n 0, 1), (138, .bipush 10, 2), (140, .invokevirtual 190, 3), (143, .iconst 1, 1), (144, .if_icmp .ne 7, 3)]
theorem nKb173_13 : (nKa173_13.all fun e => decide (decode nM173.2.1 e.1 = .ok e.2)) = true := by decide +kernel
def nKa173_14 : List (Nat × Instr × Nat) := [(147, .iconst 0, 1), (148, .goto 4, 3), (151, .iload_n 3, 1), (152, .istore_n 3, 1), (153, .iload 4, 2), (155, .istore_n 1, 1)]
theorem nKb173_14 : (nKa173_14.all fun e => decide (decode nM173.2.1 e.1 = .ok e.2)) = true := by decide +kernel
def nKa173_15 : List (Nat × Instr × Nat) := [(156, .aload_n 0, 1), (157, .getfield 51, 3), (160, .iload 4, 2), (162, .iload 6, 2), (164, .iastore, 1), (165, .iconst 1, 1)]
theorem nKb173_15 : (nKa173_15.all fun e => decide (decode nM173.2.1 e.1 = .ok e.2)) = true := by decide +kernel
def nKa173_16 : List (Nat × Instr × Nat) := [(166, .istore 7, 2), (168, .iload 7, 2), (170, .iload 6, 2), (172, .if_icmp .gt 30, 3), (175, .aload_n 0, 1), (176, .getfield 54, 3)]
theorem nKb173_16 : (nKa173_16.all fun e => decide (decode nM173.2.1 e.1 = .ok e.2)) = true := by decide +kernel
def nKa173_17 : List (Nat × Instr × Nat) := [(179, .iconst 4, 1), (180, .iload 4, 2), (182, .imul, 1), (183, .iload 7, 2), (185, .iadd, 1), (186, .iconst 1, 1)]
theorem nKb173_17 : (nKa173_17.all fun e => decide (decode nM173.2.1 e.1 = .ok e.2)) = true := by decide +kernel
def nKa173_18 : List (Nat × Instr × Nat) := [(187, .isub, 1), (188, .aload_n 0, 1), (189, .getfield 63, 3), (192, .iload 7, 2), (194, .iaload, 1), (195, .iastore, 1)]
theorem nKb173_18 : (nKa173_18.all fun e => decide (decode nM173.2.1 e.1 = .ok e.2)) = true := by decide +kernel
def nKa173_19 : List (Nat × Instr × Nat) := [(196, .iinc 7 1, 3), (199, .goto (-31), 3), (202, .aload_n 0, 1), (203, .getfield 57, 3), (206, .iload 4, 2), (208, .aload_n 0, 1)]
theorem nKb173_19 : (nKa173_19.all fun e => decide (decode nM173.2.1 e.1 = .ok e.2)) = true := by decide +kernel
def nKa173_20 : List (Nat × Instr × Nat) := [(209, .getfield 63, 3), (212, .iload 6, 2), (214, .iaload, 1), (215, .iastore, 1), (216, .aload_n 0, 1), (217, .getfield 60, 3)]
theorem nKb173_20 : (nKa173_20.all fun e => decide (decode nM173.2.1 e.1 = .ok e.2)) = true := by decide +kernel
def nKa173_21 : List (Nat × Instr × Nat) := [(220, .iload 4, 2), (222, .aload_n 0, 1), (223, .iload 6, 2), (225, .invokevirtual 203, 3), (228, .iastore, 1), (229, .goto 91, 3)]
theorem nKb173_21 : (nKa173_21.all fun e => decide (decode nM173.2.1 e.1 = .ok e.2)) = true := by decide +kernel
def nKa173_22 : List (Nat × Instr × Nat) := [(232, .aload_n 0, 1), (233, .getfield 51, 3), (236, .iload 4, 2), (238, .iload_n 1, 1), (239, .ifCond .ge 7, 3), (242, .iconst 1, 1)]
theorem nKb173_22 : (nKa173_22.all fun e => decide (decode nM173.2.1 e.1 = .ok e.2)) = true := by decide +kernel
def nKa173_23 : List (Nat × Instr × Nat) := [(243, .goto 9, 3), (246, .aload_n 0, 1), (247, .getfield 51, 3), (250, .iload_n 1, 1), (251, .iaload, 1), (252, .iastore, 1)]
theorem nKb173_23 : (nKa173_23.all fun e => decide (decode nM173.2.1 e.1 = .ok e.2)) = true := by decide +kernel
def nKa173_24 : List (Nat × Instr × Nat) := [(253, .iconst 0, 1), (254, .istore 6, 2), (256, .iload 6, 2), (258, .iconst 4, 1), (259, .if_icmp .ge 40, 3), (262, .aload_n 0, 1)]
theorem nKb173_24 : (nKa173_24.all fun e => decide (decode nM173.2.1 e.1 = .ok e.2)) = true := by decide +kernel
def nKa173_25 : List (Nat × Instr × Nat) := [(263, .getfield 54, 3), (266, .iconst 4, 1), (267, .iload 4, 2), (269, .imul, 1), (270, .iload 6, 2), (272, .iadd, 1)]
theorem nKb173_25 : (nKa173_25.all fun e => decide (decode nM173.2.1 e.1 = .ok e.2)) = true := by decide +kernel
def nKa173_26 : List (Nat × Instr × Nat) := [(273, .iload_n 1, 1), (274, .ifCond .ge 7, 3), (277, .iconst 0, 1), (278, .goto 14, 3), (281, .aload_n 0, 1), (282, .getfield 54, 3)]
theorem nKb173_26 : (nKa173_26.all fun e => decide (decode nM173.2.1 e.1 = .ok e.2)) = true := by decide +kernel
def nKa173_27 : List (Nat × Instr × Nat) := [(285, .iconst 4, 1), (286, .iload_n 1, 1), (287, .imul, 1), (288, .iload 6, 2), (290, .iadd, 1), (291, .iaload, 1)]
theorem nKb173_27 : (nKa173_27.all fun e => decide (decode nM173.2.1 e.1 = .ok e.2)) = true := by decide +kernel
def nKa173_28 : List (Nat × Instr × Nat) := [(292, .iastore, 1), (293, .iinc 6 1, 3), (296, .goto (-40), 3), (299, .aload_n 0, 1), (300, .getfield 60, 3), (303, .iload 4, 2)]
theorem nKb173_28 : (nKa173_28.all fun e => decide (decode nM173.2.1 e.1 = .ok e.2)) = true := by decide +kernel
def nKa173_29 : List (Nat × Instr × Nat) := [(305, .iload_n 1, 1), (306, .ifCond .ge 7, 3), (309, .iconst 1, 1), (310, .goto 9, 3), (313, .aload_n 0, 1), (314, .getfield 60, 3)]
theorem nKb173_29 : (nKa173_29.all fun e => decide (decode nM173.2.1 e.1 = .ok e.2)) = true := by decide +kernel
def nKa173_30 : List (Nat × Instr × Nat) := [(317, .iload_n 1, 1), (318, .iaload, 1), (319, .iastore, 1), (320, .aload_n 0, 1), (321, .getfield 48, 3), (324, .iload 4, 2)]
theorem nKb173_30 : (nKa173_30.all fun e => decide (decode nM173.2.1 e.1 = .ok e.2)) = true := by decide +kernel
def nKa173_31 : List (Nat × Instr × Nat) := [(326, .iload_n 1, 1), (327, .iastore, 1), (328, .iload 5, 2), (330, .iconst 2, 1), (331, .if_icmp .eq 9, 3), (334, .iload 5, 2)]
theorem nKb173_31 : (nKa173_31.all fun e => decide (decode nM173.2.1 e.1 = .ok e.2)) = true := by decide +kernel
def nKa173_32 : List (Nat × Instr × Nat) := [(336, .iconst 3, 1), (337, .if_icmp .ne 97, 3), (340, .iload_n 2, 1), (341, .iload 5, 2), (343, .iconst 2, 1), (344, .if_icmp .ne 7, 3)]
theorem nKb173_32 : (nKa173_32.all fun e => decide (decode nM173.2.1 e.1 = .ok e.2)) = true := by decide +kernel
def nKa173_33 : List (Nat × Instr × Nat) := [(347, .iconst 1, 1), (348, .goto 4, 3), (351, .iconst 0, 1), (352, .iadd, 1), (353, .istore_n 2, 1), (354, .iload_n 3, 1)]
theorem nKb173_33 : (nKa173_33.all fun e => decide (decode nM173.2.1 e.1 = .ok e.2)) = true := by decide +kernel
def nKa173_34 : List (Nat × Instr × Nat) := [(355, .iload 5, 2), (357, .iconst 3, 1), (358, .if_icmp .ne 7, 3), (361, .iconst 1, 1), (362, .goto 4, 3), (365, .iconst 0, 1)]
theorem nKb173_34 : (nKa173_34.all fun e => decide (decode nM173.2.1 e.1 = .ok e.2)) = true := by decide +kernel
def nKa173_35 : List (Nat × Instr × Nat) := [(366, .iadd, 1), (367, .istore_n 3, 1), (368, .aload_n 0, 1), (369, .getfield 57, 3), (372, .iload 4, 2), (374, .iload 5, 2)]
theorem nKb173_35 : (nKa173_35.all fun e => decide (decode nM173.2.1 e.1 = .ok e.2)) = true := by decide +kernel
def nKa173_36 : List (Nat × Instr × Nat) := [(376, .iconst 2, 1), (377, .if_icmp .ne 7, 3), (380, .iload_n 2, 1), (381, .goto 4, 3), (384, .iload_n 3, 1), (385, .iastore, 1)]
theorem nKb173_36 : (nKa173_36.all fun e => decide (decode nM173.2.1 e.1 = .ok e.2)) = true := by decide +kernel
def nKa173_37 : List (Nat × Instr × Nat) := [(386, .aload_n 0, 1), (387, .getfield 60, 3), (390, .iload 4, 2), (392, .aload_n 0, 1), (393, .getfield 57, 3), (396, .iload 4, 2)]
theorem nKb173_37 : (nKa173_37.all fun e => decide (decode nM173.2.1 e.1 = .ok e.2)) = true := by decide +kernel
def nKa173_38 : List (Nat × Instr × Nat) := [(398, .iaload, 1), (399, .invokestatic 183, 3), (402, .aload_n 0, 1), (403, .bipush 10, 2), (405, .invokevirtual 190, 3), (408, .iconst 1, 1)]
theorem nKb173_38 : (nKa173_38.all fun e => decide (decode nM173.2.1 e.1 = .ok e.2)) = true := by decide +kernel
def nKa173_39 : List (Nat × Instr × Nat) := [(409, .if_icmp .ne 22, 3), (412, .aload_n 0, 1), (413, .getfield 63, 3), (416, .iconst 1, 1), (417, .iaload, 1), (418, .aload_n 0, 1)]
theorem nKb173_39 : (nKa173_39.all fun e => decide (decode nM173.2.1 e.1 = .ok e.2)) = true := by decide +kernel
def nKa173_40 : List (Nat × Instr × Nat) := [(419, .iconst 2, 1), (420, .invokevirtual 190, 3), (423, .invokestatic 193, 3), (426, .iconst 1, 1), (427, .iadd, 1), (428, .goto 4, 3)]
theorem nKb173_40 : (nKa173_40.all fun e => decide (decode nM173.2.1 e.1 = .ok e.2)) = true := by decide +kernel
def nKa173_41 : List (Nat × Instr × Nat) := [(431, .iconst 0, 1), (432, .iadd, 1), (433, .iastore, 1), (434, .iinc 4 1, 3), (437, .goto (-408), 3), (440, .return_, 1)]
theorem nKb173_41 : (nKa173_41.all fun e => decide (decode nM173.2.1 e.1 = .ok e.2)) = true := by decide +kernel
def nK173 : List (Nat × Instr × Nat) := nKa173_0 ++ (nKa173_1 ++ (nKa173_2 ++ (nKa173_3 ++ (nKa173_4 ++ (nKa173_5 ++ (nKa173_6 ++ (nKa173_7 ++ (nKa173_8 ++ (nKa173_9 ++ (nKa173_10 ++ (nKa173_11 ++ (nKa173_12 ++ (nKa173_13 ++ (nKa173_14 ++ (nKa173_15 ++ (nKa173_16 ++ (nKa173_17 ++ (nKa173_18 ++ (nKa173_19 ++ (nKa173_20 ++ (nKa173_21 ++ (nKa173_22 ++ (nKa173_23 ++ (nKa173_24 ++ (nKa173_25 ++ (nKa173_26 ++ (nKa173_27 ++ (nKa173_28 ++ (nKa173_29 ++ (nKa173_30 ++ (nKa173_31 ++ (nKa173_32 ++ (nKa173_33 ++ (nKa173_34 ++ (nKa173_35 ++ (nKa173_36 ++ (nKa173_37 ++ (nKa173_38 ++ (nKa173_39 ++ (nKa173_40 ++ (nKa173_41)))))))))))))))))))))))))))))))))))))))))
theorem nKok173 : (nK173.all fun e => decide (decode nM173.2.1 e.1 = .ok e.2)) = true := nAll nKb173_0 (nAll nKb173_1 (nAll nKb173_2 (nAll nKb173_3 (nAll nKb173_4 (nAll nKb173_5 (nAll nKb173_6 (nAll nKb173_7 (nAll nKb173_8 (nAll nKb173_9 (nAll nKb173_10 (nAll nKb173_11 (nAll nKb173_12 (nAll nKb173_13 (nAll nKb173_14 (nAll nKb173_15 (nAll nKb173_16 (nAll nKb173_17 (nAll nKb173_18 (nAll nKb173_19 (nAll nKb173_20 (nAll nKb173_21 (nAll nKb173_22 (nAll nKb173_23 (nAll nKb173_24 (nAll nKb173_25 (nAll nKb173_26 (nAll nKb173_27 (nAll nKb173_28 (nAll nKb173_29 (nAll nKb173_30 (nAll nKb173_31 (nAll nKb173_32 (nAll nKb173_33 (nAll nKb173_34 (nAll nKb173_35 (nAll nKb173_36 (nAll nKb173_37 (nAll nKb173_38 (nAll nKb173_39 (nAll nKb173_40 (nKb173_41)))))))))))))))))))))))))))))))))))))))))
