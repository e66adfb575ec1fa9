/-! code tables, written by program -/
def nKa1_0 : List (Nat × Instr × Nat) := [(0, .aload_n 0, 1), (1, .invokespecial 3, 3), (4, .aload_n 0, 1), (5, .new 9, 3), (8, .dup, 1), (9, .invokespecial 11, 3), (12, .putfield 12, 3), (15, .aload_n 0, 1), (16, .iconst 3, 1), (17, .anewarray 9, 3), (20, .putfield 16, 3), (23, .aload_n 0, 1), (24, .iconst 3, 1), (25, .newarray .boolean, 2), (27, .putfield 20, 3), (30, .aload_n 0, 1), (31, .new 24, 3), (34, .dup, 1), (35, .invokespecial 26, 3)]
theorem nKb1_0 : (nKa1_0.all fun e => decide (decode nM1.2.1 e.1 = .ok e.2)) = true := by decide +kernel
def nKa1_1 : List (Nat × Instr × Nat) := [(38, .putfield 27, 3), (41, .aload_n 0, 1), (42, .bipush 12, 2), (44, .sipush 1200, 3), (47, .multianewarray 31 2, 4), (51, .putfield 33, 3), (54, .aload_n 0, 1), (55, .new 36, 3), (58, .dup, 1), (59, .aload_n 0, 1), (60, .getfield 12, 3), (63, .aload_n 0, 1), (64, .getfield 33, 3), (67, .invokespecial 38, 3), (70, .putfield 41, 3), (73, .aload_n 0, 1), (74, .new 36, 3), (77, .dup, 1), (78, .aload_n 0, 1)]
theorem nKb1_1 : (nKa1_1.all fun e => decide (decode nM1.2.1 e.1 = .ok e.2)) = true := by decide +kernel
def nKa1_2 : List (Nat × Instr × Nat) := [(79, .getfield 12, 3), (82, .aload_n 0, 1), (83, .getfield 33, 3), (86, .invokespecial 38, 3), (89, .putfield 45, 3), (92, .aload_n 0, 1), (93, .new 48, 3), (96, .dup, 1), (97, .invokespecial 50, 3), (100, .putfield 51, 3), (103, .aload_n 0, 1), (104, .new 55, 3), (107, .dup, 1), (108, .invokespecial 57, 3), (111, .putfield 58, 3), (114, .aload_n 0, 1), (115, .iconst 0, 1), (116, .putfield 62, 3), (119, .aload_n 0, 1)]
theorem nKb1_2 : (nKa1_2.all fun e => decide (decode nM1.2.1 e.1 = .ok e.2)) = true := by decide +kernel
def nKa1_3 : List (Nat × Instr × Nat) := [(120, .iconst 0, 1), (121, .putfield 66, 3), (124, .iconst 0, 1), (125, .istore_n 1, 1), (126, .iload_n 1, 1), (127, .iconst 3, 1), (128, .if_icmp .ge 22, 3), (131, .aload_n 0, 1), (132, .getfield 16, 3), (135, .iload_n 1, 1), (136, .new 9, 3), (139, .dup, 1), (140, .invokespecial 11, 3), (143, .aastore, 1), (144, .iinc 1 1, 3), (147, .goto (-21), 3), (150, .return_, 1)]
theorem nKb1_3 : (nKa1_3.all fun e => decide (decode nM1.2.1 e.1 = .ok e.2)) = true := by decide +kernel
def nK1 : List (Nat × Instr × Nat) := nKa1_0 ++ (nKa1_1 ++ (nKa1_2 ++ (nKa1_3)))
theorem nKok1 : (nK1.all fun e => decide (decode nM1.2.1 e.1 = .ok e.2)) = true := nAll nKb1_0 (nAll nKb1_1 (nAll nKb1_2 (nKb1_3)))
def nKa2_0 : List (Nat × Instr × Nat) := [(0, .aload_n 0, 1), (1, .invokespecial 3, 3), (4, .aload_n 0, 1), (5, .bipush 60, 2), (7, .anewarray 9, 3), (10, .putfield 11, 3), (13, .aload_n 0, 1), (14, .new 17, 3), (17, .dup, 1), (18, .invokespecial 19, 3), (21, .putfield 20, 3), (24, .aload_n 0, 1), (25, .iconst 0, 1), (26, .putfield 24, 3), (29, .iconst 0, 1), (30, .istore_n 1, 1), (31, .iload_n 1, 1), (32, .bipush 60, 2), (34, .if_icmp .ge 22, 3), (37, .aload_n 0, 1), (38, .getfield 11, 3), (41, .iload_n 1, 1), (42, .new 9, 3), (45, .dup, 1), (46, .invokespecial 28, 3), (49, .aastore, 1), (50, .iinc 1 1, 3), (53, .goto (-22), 3), (56, .return_, 1)]
theorem nKb2_0 : (nKa2_0.all fun e => decide (decode nM2.2.1 e.1 = .ok e.2)) = true := by decide +kernel
def nK2 : List (Nat × Instr × Nat) := nKa2_0
theorem nKok2 : (nK2.all fun e => decide (decode nM2.2.1 e.1 = .ok e.2)) = true := nKb2_0
def nKa3_0 : List (Nat × Instr × Nat) := [(0, .aload_n 0, 1), (1, .invokespecial 3, 3), (4, .aload_n 0, 1), (5, .bipush 13, 2), (7, .newarray .int, 2), (9, .putfield 11, 3), (12, .aload_n 0, 1), (13, .invokevirtual 15, 3), (16, .return_, 1)]
theorem nKb3_0 : (nKa3_0.all fun e => decide (decode nM3.2.1 e.1 = .ok e.2)) = true := by decide +kernel
def nK3 : List (Nat × Instr × Nat) := nKa3_0
theorem nKok3 : (nK3.all fun e => decide (decode nM3.2.1 e.1 = .ok e.2)) = true := nKb3_0
def nKa4_0 : List (Nat × Instr × Nat) := [(0, .aload_n 0, 1), (1, .getfield 11, 3), (4, .iconst 0, 1), (5, .invokestatic 18, 3), (8, .aload_n 0, 1), (9, .getfield 11, 3), (12, .iconst 0, 1), (13, .bipush 20, 2), (15, .iastore, 1), (16, .aload_n 0, 1), (17, .getfield 11, 3), (20, .iconst 1, 1), (21, .bipush 40, 2), (23, .iastore, 1), (24, .aload_n 0, 1), (25, .getfield 11, 3), (28, .bipush 6, 2), (30, .bipush 10, 2), (32, .iconst 1, 1), (33, .invokestatic 24, 3), (36, .return_, 1)]
theorem nKb4_0 : (nKa4_0.all fun e => decide (decode nM4.2.1 e.1 = .ok e.2)) = true := by decide +kernel
def nK4 : List (Nat × Instr × Nat) := nKa4_0
theorem nKok4 : (nK4.all fun e => decide (decode nM4.2.1 e.1 = .ok e.2)) = true := nKb4_0
def nKa5_0 : List (Nat × Instr × Nat) := [(0, .iconst 0, 1), (1, .istore_n 2, 1), (2, .aload_n 0, 1), (3, .arraylength, 1), (4, .istore_n 3, 1), (5, .iload_n 2, 1), (6, .iload_n 3, 1), (7, .if_icmp .ge 13, 3), (10, .aload_n 0, 1), (11, .iload_n 2, 1), (12, .iload_n 1, 1), (13, .iastore, 1), (14, .iinc 2 1, 3), (17, .goto (-12), 3), (20, .return_, 1)]
theorem nKb5_0 : (nKa5_0.all fun e => decide (decode nM5.2.1 e.1 = .ok e.2)) = true := by decide +kernel
def nK5 : List (Nat × Instr × Nat) := nKa5_0
theorem nKok5 : (nK5.all fun e => decide (decode nM5.2.1 e.1 = .ok e.2)) = true := nKb5_0
def nKa6_0 : List (Nat × Instr × Nat) := [(0, .aload_n 0, 1), (1, .arraylength, 1), (2, .iload_n 1, 1), (3, .iload_n 2, 1), (4, .invokestatic 13, 3), (7, .iload_n 1, 1), (8, .istore 4, 2), (10, .iload 4, 2), (12, .iload_n 2, 1), (13, .if_icmp .ge 14, 3), (16, .aload_n 0, 1), (17, .iload 4, 2), (19, .iload_n 3, 1), (20, .iastore, 1), (21, .iinc 4 1, 3), (24, .goto (-14), 3), (27, .return_, 1)]
theorem nKb6_0 : (nKa6_0.all fun e => decide (decode nM6.2.1 e.1 = .ok e.2)) = true := by decide +kernel
def nK6 : List (Nat × Instr × Nat) := nKa6_0
theorem nKok6 : (nK6.all fun e => decide (decode nM6.2.1 e.1 = .ok e.2)) = true := nKb6_0
def nKa7_0 : List (Nat × Instr × Nat) := [(0, .iload_n 1, 1), (1, .iload_n 2, 1), (2, .if_icmp .le 44, 3), (5, .new 43, 3), (8, .dup, 1), (9, .new 45, 3), (12, .dup, 1), (13, .invokespecial 47, 3), (16, .ldc 48, 2), (18, .invokevirtual 50, 3), (21, .iload_n 1, 1), (22, .invokevirtual 54, 3), (25, .ldc 57, 2), (27, .invokevirtual 50, 3), (30, .iload_n 2, 1), (31, .invokevirtual 54, 3), (34, .ldc 59, 2), (36, .invokevirtual 50, 3), (39, .invokevirtual 61, 3), (42, .invokespecial 65, 3), (45, .athrow, 1), (46, .iload_n 1, 1), (47, .ifCond .ge 12, 3), (50, .new 68, 3), (53, .dup, 1), (54, .iload_n 1, 1), (55, .invokespecial 70, 3), (58, .athrow, 1), (59, .iload_n 2, 1), (60, .iload_n 0, 1)]
theorem nKb7_0 : (nKa7_0.all fun e => decide (decode nM7.2.1 e.1 = .ok e.2)) = true := by decide +kernel
def nKa7_1 : List (Nat × Instr × Nat) := [(61, .if_icmp .le 12, 3), (64, .new 68, 3), (67, .dup, 1), (68, .iload_n 2, 1), (69, .invokespecial 70, 3), (72, .athrow, 1), (73, .return_, 1)]
theorem nKb7_1 : (nKa7_1.all fun e => decide (decode nM7.2.1 e.1 = .ok e.2)) = true := by decide +kernel
def nK7 : List (Nat × Instr × Nat) := nKa7_0 ++ (nKa7_1)
theorem nKok7 : (nK7.all fun e => decide (decode nM7.2.1 e.1 = .ok e.2)) = true := nAll nKb7_0 (nKb7_1)
def nKa8_0 : List (Nat × Instr × Nat) := [(0, .aload_n 0, 1), (1, .invokespecial 3, 3), (4, .aload_n 0, 1), (5, .bipush 20, 2), (7, .newarray .int, 2), (9, .putfield 9, 3), (12, .aload_n 0, 1), (13, .bipush 20, 2), (15, .newarray .int, 2), (17, .putfield 15, 3), (20, .aload_n 0, 1), (21, .bipush 20, 2), (23, .newarray .int, 2), (25, .putfield 18, 3), (28, .return_, 1)]
theorem nKb8_0 : (nKa8_0.all fun e => decide (decode nM8.2.1 e.1 = .ok e.2)) = true := by decide +kernel
def nK8 : List (Nat × Instr × Nat) := nKa8_0
theorem nKok8 : (nK8.all fun e => decide (decode nM8.2.1 e.1 = .ok e.2)) = true := nKb8_0
def nKa9_0 : List (Nat × Instr × Nat) := [(0, .aload_n 0, 1), (1, .invokespecial 3, 3), (4, .aload_n 0, 1), (5, .bipush 60, 2), (7, .newarray .int, 2), (9, .putfield 9, 3), (12, .aload_n 0, 1), (13, .bipush 60, 2), (15, .newarray .int, 2), (17, .putfield 15, 3), (20, .aload_n 0, 1), (21, .bipush 60, 2), (23, .newarray .int, 2), (25, .putfield 18, 3), (28, .aload_n 0, 1), (29, .sipush 240, 3), (32, .newarray .int, 2), (34, .putfield 21, 3), (37, .aload_n 0, 1), (38, .iconst 4, 1), (39, .newarray .int, 2), (41, .putfield 24, 3), (44, .return_, 1)]
theorem nKb9_0 : (nKa9_0.all fun e => decide (decode nM9.2.1 e.1 = .ok e.2)) = true := by decide +kernel
def nK9 : List (Nat × Instr × Nat) := nKa9_0
theorem nKok9 : (nK9.all fun e => decide (decode nM9.2.1 e.1 = .ok e.2)) = true := nKb9_0
def nKa10_0 : List (Nat × Instr × Nat) := [(0, .aload_n 0, 1), (1, .invokespecial 3, 3), (4, .aload_n 0, 1), (5, .new 9, 3), (8, .dup, 1), (9, .invokespecial 11, 3), (12, .putfield 12, 3), (15, .aload_n 0, 1), (16, .new 18, 3), (19, .dup, 1), (20, .invokespecial 20, 3), (23, .putfield 21, 3), (26, .aload_n 0, 1), (27, .bipush 12, 2), (29, .newarray .int, 2), (31, .putfield 25, 3), (34, .aload_n 0, 1), (35, .sipush 1200, 3), (38, .newarray .int, 2), (40, .putfield 29, 3), (43, .aload_n 0, 1), (44, .sipush 1200, 3), (47, .newarray .int, 2), (49, .putfield 32, 3), (52, .aload_n 0, 1), (53, .sipush 1200, 3), (56, .newarray .int, 2), (58, .putfield 35, 3), (61, .aload_n 0, 1), (62, .sipush 1200, 3)]
theorem nKb10_0 : (nKa10_0.all fun e => decide (decode nM10.2.1 e.1 = .ok e.2)) = true := by decide +kernel
def nKa10_1 : List (Nat × Instr × Nat) := [(65, .newarray .int, 2), (67, .putfield 38, 3), (70, .aload_n 0, 1), (71, .aload_n 1, 1), (72, .putfield 41, 3), (75, .aload_n 0, 1), (76, .aload_n 2, 1), (77, .putfield 45, 3), (80, .return_, 1)]
theorem nKb10_1 : (nKa10_1.all fun e => decide (decode nM10.2.1 e.1 = .ok e.2)) = true := by decide +kernel
def nK10 : List (Nat × Instr × Nat) := nKa10_0 ++ (nKa10_1)
theorem nKok10 : (nK10.all fun e => decide (decode nM10.2.1 e.1 = .ok e.2)) = true := nAll nKb10_0 (nKb10_1)
def nKa11_0 : List (Nat × Instr × Nat) := [(0, .aload_n 0, 1), (1, .invokespecial 3, 3), (4, .aload_n 0, 1), (5, .new 9, 3), (8, .dup, 1), (9, .invokespecial 11, 3), (12, .putfield 12, 3), (15, .aload_n 0, 1), (16, .bipush 60, 2), (18, .newarray .int, 2), (20, .putfield 18, 3), (23, .aload_n 0, 1), (24, .bipush 60, 2), (26, .newarray .int, 2), (28, .putfield 22, 3), (31, .aload_n 0, 1), (32, .sipush 1200, 3), (35, .newarray .int, 2), (37, .putfield 25, 3), (40, .aload_n 0, 1), (41, .sipush 1200, 3), (44, .newarray .int, 2), (46, .putfield 28, 3), (49, .aload_n 0, 1), (50, .bipush 60, 2), (52, .newarray .int, 2), (54, .putfield 31, 3), (57, .aload_n 0, 1), (58, .bipush 60, 2), (60, .newarray .int, 2)]
theorem nKb11_0 : (nKa11_0.all fun e => decide (decode nM11.2.1 e.1 = .ok e.2)) = true := by decide +kernel
def nKa11_1 : List (Nat × Instr × Nat) := [(62, .putfield 34, 3), (65, .return_, 1)]
theorem nKb11_1 : (nKa11_1.all fun e => decide (decode nM11.2.1 e.1 = .ok e.2)) = true := by decide +kernel
def nK11 : List (Nat × Instr × Nat) := nKa11_0 ++ (nKa11_1)
theorem nKok11 : (nK11.all fun e => decide (decode nM11.2.1 e.1 = .ok e.2)) = true := nAll nKb11_0 (nKb11_1)
def nKa12_0 : List (Nat × Instr × Nat) := [(0, .aload_n 0, 1), (1, .invokespecial 3, 3), (4, .aload_n 0, 1), (5, .sipush 1261, 3), (8, .newarray .int, 2), (10, .putfield 9, 3), (13, .aload_n 0, 1), (14, .bipush 60, 2), (16, .newarray .int, 2), (18, .putfield 15, 3), (21, .aload_n 0, 1), (22, .bipush 60, 2), (24, .newarray .int, 2), (26, .putfield 18, 3), (29, .aload_n 0, 1), (30, .bipush 60, 2), (32, .newarray .int, 2), (34, .putfield 21, 3), (37, .aload_n 0, 1), (38, .bipush 60, 2), (40, .newarray .int, 2), (42, .putfield 24, 3), (45, .aload_n 0, 1), (46, .iconst 1, 1), (47, .putfield 27, 3), (50, .return_, 1)]
theorem nKb12_0 : (nKa12_0.all fun e => decide (decode nM12.2.1 e.1 = .ok e.2)) = true := by decide +kernel
def nK12 : List (Nat × Instr × Nat) := nKa12_0
theorem nKok12 : (nK12.all fun e => decide (decode nM12.2.1 e.1 = .ok e.2)) = true := nKb12_0
def nKa13_0 : List (Nat × Instr × Nat) := [(0, .aload_n 0, 1), (1, .invokespecial 3, 3), (4, .aload_n 0, 1), (5, .bipush 61, 2), (7, .newarray .long, 2), (9, .putfield 11, 3), (12, .aload_n 0, 1), (13, .bipush 61, 2), (15, .newarray .long, 2), (17, .putfield 15, 3), (20, .return_, 1)]
theorem nKb13_0 : (nKa13_0.all fun e => decide (decode nM13.2.1 e.1 = .ok e.2)) = true := by decide +kernel
def nK13 : List (Nat × Instr × Nat) := nKa13_0
theorem nKok13 : (nK13.all fun e => decide (decode nM13.2.1 e.1 = .ok e.2)) = true := nKb13_0
def nKa14_0 : List (Nat × Instr × Nat) := [(0, .aload_n 0, 1), (1, .invokespecial 3, 3), (4, .aload_n 0, 1), (5, .new 9, 3), (8, .dup, 1), (9, .invokespecial 11, 3), (12, .putfield 12, 3), (15, .aload_n 0, 1), (16, .iconst 0, 1), (17, .putfield 18, 3), (20, .aload_n 0, 1), (21, .iconst 0, 1), (22, .putfield 22, 3), (25, .aload_n 0, 1), (26, .iconst (-1), 1), (27, .putfield 25, 3), (30, .aload_n 0, 1), (31, .sipush 160, 3), (34, .newarray .int, 2), (36, .putfield 28, 3), (39, .aload_n 0, 1), (40, .iconst 4, 1), (41, .newarray .boolean, 2), (43, .putfield 32, 3), (46, .aload_n 0, 1), (47, .iconst 5, 1), (48, .newarray .boolean, 2), (50, .putfield 36, 3), (53, .return_, 1)]
theorem nKb14_0 : (nKa14_0.all fun e => decide (decode nM14.2.1 e.1 = .ok e.2)) = true := by decide +kernel
def nK14 : List (Nat × Instr × Nat) := nKa14_0
theorem nKok14 : (nK14.all fun e => decide (decode nM14.2.1 e.1 = .ok e.2)) = true := nKb14_0
def nKa15_0 : List (Nat × Instr × Nat) := [(0, .iload_n 1, 1), (1, .ifCond .lt 32, 3), (4, .iload_n 1, 1), (5, .aload_n 0, 1), (6, .getfield 12, 3), (9, .getfield 70, 3), (12, .if_icmp .gt 21, 3), (15, .iload_n 2, 1), (16, .ifCond .lt 17, 3), (19, .iload_n 2, 1), (20, .bipush 6, 2), (22, .if_icmp .gt 11, 3), (25, .iload_n 2, 1), (26, .iload_n 3, 1), (27, .invokestatic 73, 3), (30, .ifCond .ne 7, 3), (33, .sipush (-1002), 3), (36, .ireturn, 1), (37, .aload_n 0, 1), (38, .getfield 12, 3), (41, .getfield 70, 3), (44, .bipush 60, 2), (46, .if_icmp .ge 13, 3), (49, .aload_n 0, 1), (50, .getfield 62, 3), (53, .sipush 200, 3), (56, .if_icmp .lt 7, 3)]
theorem nKb15_0 : (nKa15_0.all fun e => decide (decode nM15.2.1 e.1 = .ok e.2)) = true := by decide +kernel
def nKa15_1 : List (Nat × Instr × Nat) := [(59, .sipush (-1004), 3), (62, .ireturn, 1), (63, .aload_n 0, 1), (64, .getfield 62, 3), (67, .istore 4, 2), (69, .aload_n 0, 1), (70, .getfield 12, 3), (73, .iload_n 1, 1), (74, .iload 4, 2), (76, .iload_n 2, 1), (77, .iload_n 2, 1), (78, .invokestatic 77, 3), (81, .ifCond .eq 7, 3), (84, .iload_n 3, 1), (85, .goto 4, 3), (88, .iconst 0, 1), (89, .invokevirtual 81, 3), (92, .aload_n 0, 1), (93, .dup, 1), (94, .getfield 62, 3), (97, .iconst 1, 1), (98, .iadd, 1), (99, .putfield 62, 3), (102, .aload_n 0, 1), (103, .iconst 0, 1), (104, .putfield 66, 3), (107, .iload 4, 2)]
theorem nKb15_1 : (nKa15_1.all fun e => decide (decode nM15.2.1 e.1 = .ok e.2)) = true := by decide +kernel
def nKa15_2 : List (Nat × Instr × Nat) := [(109, .ireturn, 1)]
theorem nKb15_2 : (nKa15_2.all fun e => decide (decode nM15.2.1 e.1 = .ok e.2)) = true := by decide +kernel
def nK15 : List (Nat × Instr × Nat) := nKa15_0 ++ (nKa15_1 ++ (nKa15_2))
theorem nKok15 : (nK15.all fun e => decide (decode nM15.2.1 e.1 = .ok e.2)) = true := nAll nKb15_0 (nAll nKb15_1 (nKb15_2))
def nKa16_0 : List (Nat × Instr × Nat) := [(0, .iload_n 0, 1), (1, .ifCond .eq 8, 3), (4, .iload_n 0, 1), (5, .iconst 4, 1), (6, .if_icmp .ne 19, 3), (9, .iload_n 1, 1), (10, .iconst 1, 1), (11, .if_icmp .lt 12, 3), (14, .iload_n 1, 1), (15, .iconst 4, 1), (16, .if_icmp .gt 7, 3), (19, .iconst 1, 1), (20, .goto 4, 3), (23, .iconst 0, 1), (24, .ireturn, 1), (25, .iload_n 0, 1), (26, .invokestatic 77, 3), (29, .ifCond .eq 14, 3), (32, .iload_n 1, 1), (33, .iconst 1, 1), (34, .if_icmp .lt 13, 3), (37, .iload_n 1, 1), (38, .bipush 8, 2), (40, .if_icmp .gt 7, 3), (43, .iconst 1, 1), (44, .goto 4, 3), (47, .iconst 0, 1), (48, .ireturn, 1)]
theorem nKb16_0 : (nKa16_0.all fun e => decide (decode nM16.2.1 e.1 = .ok e.2)) = true := by decide +kernel
def nK16 : List (Nat × Instr × Nat) := nKa16_0
theorem nKok16 : (nK16.all fun e => decide (decode nM16.2.1 e.1 = .ok e.2)) = true := nKb16_0
def nKa17_0 : List (Nat × Instr × Nat) := [(0, .iload_n 0, 1), (1, .ifCond .eq 18, 3), (4, .iload_n 0, 1), (5, .iconst 4, 1), (6, .if_icmp .eq 13, 3), (9, .iload_n 0, 1), (10, .iconst 2, 1), (11, .if_icmp .eq 8, 3), (14, .iload_n 0, 1), (15, .iconst 3, 1), (16, .if_icmp .ne 7, 3), (19, .iconst 1, 1), (20, .goto 4, 3), (23, .iconst 0, 1), (24, .ireturn, 1)]
theorem nKb17_0 : (nKa17_0.all fun e => decide (decode nM17.2.1 e.1 = .ok e.2)) = true := by decide +kernel
def nK17 : List (Nat × Instr × Nat) := nKa17_0
theorem nKok17 : (nK17.all fun e => decide (decode nM17.2.1 e.1 = .ok e.2)) = true := nKb17_0
def nKa18_0 : List (Nat × Instr × Nat) := [(0, .aload_n 0, 1), (1, .getfield 24, 3), (4, .bipush 60, 2), (6, .if_icmp .ge 50, 3), (9, .iload_n 1, 1), (10, .ifCond .lt 46, 3), (13, .iload_n 1, 1), (14, .aload_n 0, 1), (15, .getfield 24, 3), (18, .if_icmp .gt 38, 3), (21, .aload_n 0, 1), (22, .getfield 11, 3), (25, .aload_n 0, 1), (26, .getfield 24, 3), (29, .aaload, 1), (30, .iload_n 2, 1), (31, .iload_n 3, 1), (32, .iload 4, 2), (34, .invokevirtual 29, 3), (37, .aload_n 0, 1), (38, .aload_n 0, 1), (39, .getfield 24, 3), (42, .iload_n 1, 1), (43, .invokevirtual 33, 3), (46, .aload_n 0, 1), (47, .dup, 1), (48, .getfield 24, 3), (51, .iconst 1, 1), (52, .iadd, 1), (53, .putfield 24, 3)]
theorem nKb18_0 : (nKa18_0.all fun e => decide (decode nM18.2.1 e.1 = .ok e.2)) = true := by decide +kernel
def nKa18_1 : List (Nat × Instr × Nat) := [(56, .return_, 1)]
theorem nKb18_1 : (nKa18_1.all fun e => decide (decode nM18.2.1 e.1 = .ok e.2)) = true := by decide +kernel
def nK18 : List (Nat × Instr × Nat) := nKa18_0 ++ (nKa18_1)
theorem nKok18 : (nK18.all fun e => decide (decode nM18.2.1 e.1 = .ok e.2)) = true := nAll nKb18_0 (nKb18_1)
def nKa19_0 : List (Nat × Instr × Nat) := [(0, .aload_n 0, 1), (1, .iload_n 1, 1), (2, .putfield 21, 3), (5, .aload_n 0, 1), (6, .iload_n 2, 1), (7, .putfield 25, 3), (10, .aload_n 0, 1), (11, .iload_n 3, 1), (12, .putfield 28, 3), (15, .aload_n 0, 1), (16, .iconst (-1), 1), (17, .putfield 31, 3), (20, .aload_n 0, 1), (21, .iconst 0, 1), (22, .putfield 34, 3), (25, .return_, 1)]
theorem nKb19_0 : (nKa19_0.all fun e => decide (decode nM19.2.1 e.1 = .ok e.2)) = true := by decide +kernel
def nK19 : List (Nat × Instr × Nat) := nKa19_0
theorem nKok19 : (nK19.all fun e => decide (decode nM19.2.1 e.1 = .ok e.2)) = true := nKb19_0
def nKa20_0 : List (Nat × Instr × Nat) := [(0, .aload_n 0, 1), (1, .getfield 11, 3), (4, .iload_n 1, 1), (5, .aaload, 1), (6, .astore_n 3, 1), (7, .iload_n 1, 1), (8, .istore 4, 2), (10, .iload 4, 2), (12, .iload_n 2, 1), (13, .if_icmp .ge 25, 3), (16, .aload_n 0, 1), (17, .getfield 11, 3), (20, .iload 4, 2), (22, .aload_n 0, 1), (23, .getfield 11, 3), (26, .iload 4, 2), (28, .iconst 1, 1), (29, .iadd, 1), (30, .aaload, 1), (31, .aastore, 1), (32, .iinc 4 1, 3), (35, .goto (-25), 3), (38, .iload_n 1, 1), (39, .istore 4, 2), (41, .iload 4, 2), (43, .iload_n 2, 1), (44, .if_icmp .le 25, 3), (47, .aload_n 0, 1), (48, .getfield 11, 3), (51, .iload 4, 2)]
theorem nKb20_0 : (nKa20_0.all fun e => decide (decode nM20.2.1 e.1 = .ok e.2)) = true := by decide +kernel
def nKa20_1 : List (Nat × Instr × Nat) := [(53, .aload_n 0, 1), (54, .getfield 11, 3), (57, .iload 4, 2), (59, .iconst 1, 1), (60, .isub, 1), (61, .aaload, 1), (62, .aastore, 1), (63, .iinc 4 (-1), 3), (66, .goto (-25), 3), (69, .aload_n 0, 1), (70, .getfield 11, 3), (73, .iload_n 2, 1), (74, .aload_n 3, 1), (75, .aastore, 1), (76, .return_, 1)]
theorem nKb20_1 : (nKa20_1.all fun e => decide (decode nM20.2.1 e.1 = .ok e.2)) = true := by decide +kernel
def nK20 : List (Nat × Instr × Nat) := nKa20_0 ++ (nKa20_1)
theorem nKok20 : (nK20.all fun e => decide (decode nM20.2.1 e.1 = .ok e.2)) = true := nAll nKb20_0 (nKb20_1)
def nKa21_0 : List (Nat × Instr × Nat) := [(0, .aload_n 0, 1), (1, .getfield 12, 3), (4, .iload_n 1, 1), (5, .invokevirtual 85, 3), (8, .ifCond .ne 7, 3), (11, .sipush (-1001), 3), (14, .ireturn, 1), (15, .aload_n 0, 1), (16, .getfield 12, 3), (19, .getfield 88, 3), (22, .iload_n 1, 1), (23, .aaload, 1), (24, .getfield 92, 3), (27, .istore_n 2, 1), (28, .aload_n 0, 1), (29, .getfield 12, 3), (32, .iload_n 1, 1), (33, .invokevirtual 97, 3), (36, .aload_n 0, 1), (37, .iconst 0, 1), (38, .putfield 66, 3), (41, .iload_n 2, 1), (42, .ireturn, 1)]
theorem nKb21_0 : (nKa21_0.all fun e => decide (decode nM21.2.1 e.1 = .ok e.2)) = true := by decide +kernel
def nK21 : List (Nat × Instr × Nat) := nKa21_0
theorem nKok21 : (nK21.all fun e => decide (decode nM21.2.1 e.1 = .ok e.2)) = true := nKb21_0
def nKa22_0 : List (Nat × Instr × Nat) := [(0, .iload_n 1, 1), (1, .ifCond .lt 15, 3), (4, .iload_n 1, 1), (5, .aload_n 0, 1), (6, .getfield 24, 3), (9, .if_icmp .ge 7, 3), (12, .iconst 1, 1), (13, .goto 4, 3), (16, .iconst 0, 1), (17, .ireturn, 1)]
theorem nKb22_0 : (nKa22_0.all fun e => decide (decode nM22.2.1 e.1 = .ok e.2)) = true := by decide +kernel
def nK22 : List (Nat × Instr × Nat) := nKa22_0
theorem nKok22 : (nK22.all fun e => decide (decode nM22.2.1 e.1 = .ok e.2)) = true := nKb22_0
def nKa23_0 : List (Nat × Instr × Nat) := [(0, .aload_n 0, 1), (1, .iload_n 1, 1), (2, .invokevirtual 37, 3), (5, .ifCond .eq 24, 3), (8, .aload_n 0, 1), (9, .iload_n 1, 1), (10, .aload_n 0, 1), (11, .getfield 24, 3), (14, .iconst 1, 1), (15, .isub, 1), (16, .invokevirtual 33, 3), (19, .aload_n 0, 1), (20, .dup, 1), (21, .getfield 24, 3), (24, .iconst 1, 1), (25, .isub, 1), (26, .putfield 24, 3), (29, .return_, 1)]
theorem nKb23_0 : (nKa23_0.all fun e => decide (decode nM23.2.1 e.1 = .ok e.2)) = true := by decide +kernel
def nK23 : List (Nat × Instr × Nat) := nKa23_0
theorem nKok23 : (nK23.all fun e => decide (decode nM23.2.1 e.1 = .ok e.2)) = true := nKb23_0
def nKa24_0 : List (Nat × Instr × Nat) := [(0, .aload_n 0, 1), (1, .getfield 12, 3), (4, .iload_n 1, 1), (5, .invokevirtual 85, 3), (8, .ifCond .eq 14, 3), (11, .aload_n 0, 1), (12, .getfield 12, 3), (15, .iload_n 2, 1), (16, .invokevirtual 85, 3), (19, .ifCond .ne 7, 3), (22, .sipush (-1001), 3), (25, .ireturn, 1), (26, .aload_n 0, 1), (27, .getfield 12, 3), (30, .iload_n 1, 1), (31, .iload_n 2, 1), (32, .invokevirtual 101, 3), (35, .aload_n 0, 1), (36, .iconst 0, 1), (37, .putfield 66, 3), (40, .iconst 1, 1), (41, .ireturn, 1)]
theorem nKb24_0 : (nKa24_0.all fun e => decide (decode nM24.2.1 e.1 = .ok e.2)) = true := by decide +kernel
def nK24 : List (Nat × Instr × Nat) := nKa24_0
theorem nKok24 : (nK24.all fun e => decide (decode nM24.2.1 e.1 = .ok e.2)) = true := nKb24_0
def nKa25_0 : List (Nat × Instr × Nat) := [(0, .aload_n 0, 1), (1, .getfield 12, 3), (4, .iload_n 1, 1), (5, .invokevirtual 85, 3), (8, .ifCond .ne 7, 3), (11, .sipush (-1001), 3), (14, .ireturn, 1), (15, .iload_n 2, 1), (16, .iconst (-1), 1), (17, .if_icmp .eq 14, 3), (20, .iload_n 2, 1), (21, .invokestatic 105, 3), (24, .ifCond .ne 7, 3), (27, .sipush (-1002), 3), (30, .ireturn, 1), (31, .aload_n 0, 1), (32, .getfield 12, 3), (35, .getfield 88, 3), (38, .iload_n 1, 1), (39, .aaload, 1), (40, .astore_n 3, 1), (41, .aload_n 3, 1), (42, .getfield 108, 3), (45, .istore 4, 2), (47, .aload_n 3, 1), (48, .iload_n 2, 1), (49, .putfield 108, 3), (52, .aload_n 0, 1), (53, .iconst 0, 1), (54, .putfield 66, 3)]
theorem nKb25_0 : (nKa25_0.all fun e => decide (decode nM25.2.1 e.1 = .ok e.2)) = true := by decide +kernel
def nKa25_1 : List (Nat × Instr × Nat) := [(57, .iload 4, 2), (59, .ireturn, 1)]
theorem nKb25_1 : (nKa25_1.all fun e => decide (decode nM25.2.1 e.1 = .ok e.2)) = true := by decide +kernel
def nK25 : List (Nat × Instr × Nat) := nKa25_0 ++ (nKa25_1)
theorem nKok25 : (nK25.all fun e => decide (decode nM25.2.1 e.1 = .ok e.2)) = true := nAll nKb25_0 (nKb25_1)
def nKa26_0 : List (Nat × Instr × Nat) := [(0, .iload_n 0, 1), (1, .ifCond .lt 13, 3), (4, .iload_n 0, 1), (5, .bipush 100, 2), (7, .if_icmp .ge 7, 3), (10, .iconst 1, 1), (11, .goto 4, 3), (14, .iconst 0, 1), (15, .ireturn, 1)]
theorem nKb26_0 : (nKa26_0.all fun e => decide (decode nM26.2.1 e.1 = .ok e.2)) = true := by decide +kernel
def nK26 : List (Nat × Instr × Nat) := nKa26_0
theorem nKok26 : (nK26.all fun e => decide (decode nM26.2.1 e.1 = .ok e.2)) = true := nKb26_0
def nKa27_0 : List (Nat × Instr × Nat) := [(0, .aload_n 0, 1), (1, .getfield 12, 3), (4, .iload_n 1, 1), (5, .invokevirtual 85, 3), (8, .ifCond .ne 7, 3), (11, .sipush (-1001), 3), (14, .ireturn, 1), (15, .iload_n 2, 1), (16, .iload_n 3, 1), (17, .iload 4, 2), (19, .invokestatic 111, 3), (22, .ifCond .ne 7, 3), (25, .sipush (-1002), 3), (28, .ireturn, 1), (29, .aload_n 0, 1), (30, .getfield 12, 3), (33, .getfield 88, 3), (36, .iload_n 1, 1), (37, .aaload, 1), (38, .astore 5, 2), (40, .aload 5, 2), (42, .getfield 115, 3), (45, .iconst 1, 1), (46, .if_icmp .eq 7, 3), (49, .sipush (-1003), 3), (52, .ireturn, 1), (53, .aload 5, 2), (55, .getfield 118, 3), (58, .bipush 20, 2), (60, .if_icmp .lt 7, 3)]
theorem nKb27_0 : (nKa27_0.all fun e => decide (decode nM27.2.1 e.1 = .ok e.2)) = true := by decide +kernel
def nKa27_1 : List (Nat × Instr × Nat) := [(63, .sipush (-1004), 3), (66, .ireturn, 1), (67, .aload 5, 2), (69, .iload_n 2, 1), (70, .iload_n 3, 1), (71, .iload_n 2, 1), (72, .iconst 1, 1), (73, .if_icmp .ne 8, 3), (76, .iload 4, 2), (78, .goto 4, 3), (81, .iconst 0, 1), (82, .invokevirtual 121, 3), (85, .aload_n 0, 1), (86, .iconst 0, 1), (87, .putfield 66, 3), (90, .aload 5, 2), (92, .getfield 118, 3), (95, .ireturn, 1)]
theorem nKb27_1 : (nKa27_1.all fun e => decide (decode nM27.2.1 e.1 = .ok e.2)) = true := by decide +kernel
def nK27 : List (Nat × Instr × Nat) := nKa27_0 ++ (nKa27_1)
theorem nKok27 : (nK27.all fun e => decide (decode nM27.2.1 e.1 = .ok e.2)) = true := nAll nKb27_0 (nKb27_1)
def nKa28_0 : List (Nat × Instr × Nat) := [(0, .iload_n 0, 1), (1, .tableswitch 82 0 2 #[27, 44, 66], 27), (28, .iload_n 1, 1), (29, .iconst 1, 1), (30, .if_icmp .lt 13, 3), (33, .iload_n 1, 1), (34, .bipush 20, 2), (36, .if_icmp .gt 7, 3), (39, .iconst 1, 1), (40, .goto 4, 3), (43, .iconst 0, 1), (44, .ireturn, 1), (45, .iload_n 1, 1), (46, .invokestatic 105, 3), (49, .ifCond .eq 16, 3), (52, .iload_n 2, 1), (53, .ifCond .lt 12, 3), (56, .iload_n 2, 1), (57, .iconst 2, 1), (58, .if_icmp .gt 7, 3), (61, .iconst 1, 1), (62, .goto 4, 3), (65, .iconst 0, 1), (66, .ireturn, 1), (67, .iload_n 1, 1), (68, .iconst 1, 1), (69, .if_icmp .lt 12, 3), (72, .iload_n 1, 1), (73, .iconst 5, 1), (74, .if_icmp .gt 7, 3)]
theorem nKb28_0 : (nKa28_0.all fun e => decide (decode nM28.2.1 e.1 = .ok e.2)) = true := by decide +kernel
def nKa28_1 : List (Nat × Instr × Nat) := [(77, .iconst 1, 1), (78, .goto 4, 3), (81, .iconst 0, 1), (82, .ireturn, 1), (83, .iconst 0, 1), (84, .ireturn, 1)]
theorem nKb28_1 : (nKa28_1.all fun e => decide (decode nM28.2.1 e.1 = .ok e.2)) = true := by decide +kernel
def nK28 : List (Nat × Instr × Nat) := nKa28_0 ++ (nKa28_1)
theorem nKok28 : (nK28.all fun e => decide (decode nM28.2.1 e.1 = .ok e.2)) = true := nAll nKb28_0 (nKb28_1)
def nKa29_0 : List (Nat × Instr × Nat) := [(0, .aload_n 0, 1), (1, .getfield 34, 3), (4, .bipush 20, 2), (6, .if_icmp .ge 43, 3), (9, .aload_n 0, 1), (10, .getfield 9, 3), (13, .aload_n 0, 1), (14, .getfield 34, 3), (17, .iload_n 1, 1), (18, .iastore, 1), (19, .aload_n 0, 1), (20, .getfield 15, 3), (23, .aload_n 0, 1), (24, .getfield 34, 3), (27, .iload_n 2, 1), (28, .iastore, 1), (29, .aload_n 0, 1), (30, .getfield 18, 3), (33, .aload_n 0, 1), (34, .getfield 34, 3), (37, .iload_n 3, 1), (38, .iastore, 1), (39, .aload_n 0, 1), (40, .dup, 1), (41, .getfield 34, 3), (44, .iconst 1, 1), (45, .iadd, 1), (46, .putfield 34, 3), (49, .return_, 1)]
theorem nKb29_0 : (nKa29_0.all fun e => decide (decode nM29.2.1 e.1 = .ok e.2)) = true := by decide +kernel
def nK29 : List (Nat × Instr × Nat) := nKa29_0
theorem nKok29 : (nK29.all fun e => decide (decode nM29.2.1 e.1 = .ok e.2)) = true := nKb29_0
def nKa30_0 : List (Nat × Instr × Nat) := [(0, .aload_n 0, 1), (1, .getfield 12, 3), (4, .iload_n 1, 1), (5, .invokevirtual 85, 3), (8, .ifCond .ne 7, 3), (11, .sipush (-1001), 3), (14, .ireturn, 1), (15, .aload_n 0, 1), (16, .getfield 12, 3), (19, .getfield 88, 3), (22, .iload_n 1, 1), (23, .aaload, 1), (24, .astore_n 2, 1), (25, .aload_n 2, 1), (26, .getfield 115, 3), (29, .iconst 1, 1), (30, .if_icmp .ne 10, 3), (33, .aload_n 2, 1), (34, .getfield 118, 3), (37, .ifCond .ne 7, 3), (40, .sipush (-1003), 3), (43, .ireturn, 1), (44, .aload_n 2, 1), (45, .dup, 1), (46, .getfield 118, 3), (49, .iconst 1, 1), (50, .isub, 1), (51, .putfield 118, 3), (54, .aload_n 0, 1), (55, .iconst 0, 1)]
theorem nKb30_0 : (nKa30_0.all fun e => decide (decode nM30.2.1 e.1 = .ok e.2)) = true := by decide +kernel
def nKa30_1 : List (Nat × Instr × Nat) := [(56, .putfield 66, 3), (59, .aload_n 2, 1), (60, .getfield 118, 3), (63, .ireturn, 1)]
theorem nKb30_1 : (nKa30_1.all fun e => decide (decode nM30.2.1 e.1 = .ok e.2)) = true := by decide +kernel
def nK30 : List (Nat × Instr × Nat) := nKa30_0 ++ (nKa30_1)
theorem nKok30 : (nK30.all fun e => decide (decode nM30.2.1 e.1 = .ok e.2)) = true := nAll nKb30_0 (nKb30_1)
def nKa31_0 : List (Nat × Instr × Nat) := [(0, .aload_n 0, 1), (1, .getfield 12, 3), (4, .iload_n 1, 1), (5, .invokevirtual 85, 3), (8, .ifCond .ne 7, 3), (11, .sipush (-1001), 3), (14, .ireturn, 1), (15, .aload_n 0, 1), (16, .getfield 12, 3), (19, .getfield 88, 3), (22, .iload_n 1, 1), (23, .aaload, 1), (24, .astore_n 3, 1), (25, .iload_n 2, 1), (26, .tableswitch 101 0 7 #[46, 51, 56, 61, 66, 71, 81, 91], 46), (72, .aload_n 3, 1), (73, .getfield 92, 3), (76, .ireturn, 1), (77, .aload_n 3, 1), (78, .getfield 115, 3), (81, .ireturn, 1), (82, .aload_n 3, 1)]
theorem nKb31_0 : (nKa31_0.all fun e => decide (decode nM31.2.1 e.1 = .ok e.2)) = true := by decide +kernel
def nKa31_1 : List (Nat × Instr × Nat) := [(83, .getfield 125, 3), (86, .ireturn, 1), (87, .aload_n 3, 1), (88, .getfield 108, 3), (91, .ireturn, 1), (92, .aload_n 3, 1), (93, .getfield 118, 3), (96, .ireturn, 1), (97, .aload_n 0, 1), (98, .invokevirtual 128, 3), (101, .getfield 132, 3), (104, .iload_n 1, 1), (105, .iaload, 1), (106, .ireturn, 1), (107, .aload_n 0, 1), (108, .invokevirtual 128, 3), (111, .getfield 136, 3), (114, .iload_n 1, 1), (115, .iaload, 1), (116, .ireturn, 1), (117, .aload_n 0, 1), (118, .invokevirtual 128, 3)]
theorem nKb31_1 : (nKa31_1.all fun e => decide (decode nM31.2.1 e.1 = .ok e.2)) = true := by decide +kernel
def nKa31_2 : List (Nat × Instr × Nat) := [(121, .getfield 139, 3), (124, .iload_n 1, 1), (125, .iaload, 1), (126, .ireturn, 1), (127, .sipush (-1002), 3), (130, .ireturn, 1)]
theorem nKb31_2 : (nKa31_2.all fun e => decide (decode nM31.2.1 e.1 = .ok e.2)) = true := by decide +kernel
def nK31 : List (Nat × Instr × Nat) := nKa31_0 ++ (nKa31_1 ++ (nKa31_2))
theorem nKok31 : (nK31.all fun e => decide (decode nM31.2.1 e.1 = .ok e.2)) = true := nAll nKb31_0 (nAll nKb31_1 (nKb31_2))
def nKa32_0 : List (Nat × Instr × Nat) := [(0, .aload_n 0, 1), (1, .getfield 27, 3), (4, .aload_n 0, 1), (5, .getfield 12, 3), (8, .invokevirtual 310, 3), (11, .aload_n 0, 1), (12, .getfield 27, 3), (15, .areturn, 1)]
theorem nKb32_0 : (nKa32_0.all fun e => decide (decode nM32.2.1 e.1 = .ok e.2)) = true := by decide +kernel
def nK32 : List (Nat × Instr × Nat) := nKa32_0
theorem nKok32 : (nK32.all fun e => decide (decode nM32.2.1 e.1 = .ok e.2)) = true := nKb32_0
def nKa33_0 : List (Nat × Instr × Nat) := [(0, .aload_n 0, 1), (1, .getfield 24, 3), (4, .iconst 0, 1), (5, .invokestatic 27, 3), (8, .aload_n 0, 1), (9, .iconst 0, 1), (10, .putfield 33, 3), (13, .aload_n 0, 1), (14, .iconst 0, 1), (15, .putfield 37, 3), (18, .iconst (-1), 1), (19, .istore_n 2, 1), (20, .iconst 0, 1), (21, .istore_n 3, 1), (22, .iload_n 3, 1), (23, .aload_n 1, 1), (24, .getfield 40, 3), (27, .if_icmp .ge 126, 3), (30, .aload_n 1, 1)]
theorem nKb33_0 : (nKa33_0.all fun e => decide (decode nM33.2.1 e.1 = .ok e.2)) = true := by decide +kernel
def nKa33_1 : List (Nat × Instr × Nat) := [(31, .getfield 45, 3), (34, .iload_n 3, 1), (35, .aaload, 1), (36, .astore 4, 2), (38, .aload 4, 2), (40, .getfield 49, 3), (43, .ifCond .ne 21, 3), (46, .iload_n 3, 1), (47, .istore_n 2, 1), (48, .aload_n 0, 1), (49, .aload 4, 2), (51, .getfield 54, 3), (54, .aload_n 1, 1), (55, .getfield 57, 3), (58, .invokevirtual 61, 3), (61, .invokevirtual 67, 3), (64, .aload_n 0, 1), (65, .getfield 9, 3), (68, .iload_n 3, 1)]
theorem nKb33_1 : (nKa33_1.all fun e => decide (decode nM33.2.1 e.1 = .ok e.2)) = true := by decide +kernel
def nKa33_2 : List (Nat × Instr × Nat) := [(69, .iload_n 2, 1), (70, .iastore, 1), (71, .aload_n 0, 1), (72, .getfield 15, 3), (75, .iload_n 3, 1), (76, .aload_n 0, 1), (77, .aload 4, 2), (79, .invokevirtual 71, 3), (82, .iastore, 1), (83, .aload_n 0, 1), (84, .iload_n 3, 1), (85, .iload_n 2, 1), (86, .iconst (-1), 1), (87, .if_icmp .ne 7, 3), (90, .iconst 1, 1), (91, .goto 12, 3), (94, .aload_n 1, 1), (95, .getfield 45, 3), (98, .iload_n 2, 1)]
theorem nKb33_2 : (nKa33_2.all fun e => decide (decode nM33.2.1 e.1 = .ok e.2)) = true := by decide +kernel
def nKa33_3 : List (Nat × Instr × Nat) := [(99, .aaload, 1), (100, .getfield 54, 3), (103, .invokevirtual 75, 3), (106, .aload_n 0, 1), (107, .getfield 18, 3), (110, .iload_n 3, 1), (111, .aload 4, 2), (113, .getfield 49, 3), (116, .ifCond .ne 19, 3), (119, .aload_n 0, 1), (120, .aload 4, 2), (122, .getfield 54, 3), (125, .aload_n 1, 1), (126, .getfield 57, 3), (129, .invokevirtual 79, 3), (132, .goto 14, 3), (135, .aload_n 0, 1), (136, .iload_n 3, 1), (137, .aload 4, 2)]
theorem nKb33_3 : (nKa33_3.all fun e => decide (decode nM33.2.1 e.1 = .ok e.2)) = true := by decide +kernel
def nKa33_4 : List (Nat × Instr × Nat) := [(139, .aload_n 1, 1), (140, .getfield 57, 3), (143, .invokevirtual 83, 3), (146, .iastore, 1), (147, .iinc 3 1, 3), (150, .goto (-128), 3), (153, .return_, 1)]
theorem nKb33_4 : (nKa33_4.all fun e => decide (decode nM33.2.1 e.1 = .ok e.2)) = true := by decide +kernel
def nK33 : List (Nat × Instr × Nat) := nKa33_0 ++ (nKa33_1 ++ (nKa33_2 ++ (nKa33_3 ++ (nKa33_4))))
theorem nKok33 : (nK33.all fun e => decide (decode nM33.2.1 e.1 = .ok e.2)) = true := nAll nKb33_0 (nAll nKb33_1 (nAll nKb33_2 (nAll nKb33_3 (nKb33_4))))
def nKa34_0 : List (Nat × Instr × Nat) := [(0, .aload_n 0, 1), (1, .getfield 11, 3), (4, .bipush 10, 2), (6, .iaload, 1), (7, .iconst 1, 1), (8, .if_icmp .ne 7, 3), (11, .iconst 1, 1), (12, .goto 4, 3), (15, .iconst 0, 1), (16, .ireturn, 1)]
theorem nKb34_0 : (nKa34_0.all fun e => decide (decode nM34.2.1 e.1 = .ok e.2)) = true := by decide +kernel
def nK34 : List (Nat × Instr × Nat) := nKa34_0
theorem nKok34 : (nK34.all fun e => decide (decode nM34.2.1 e.1 = .ok e.2)) = true := nKb34_0
def nKa35_0 : List (Nat × Instr × Nat) := [(0, .aload_n 0, 1), (1, .getfield 24, 3), (4, .iload_n 1, 1), (5, .iconst 1, 1), (6, .isub, 1), (7, .dup2, 1), (8, .iaload, 1), (9, .iconst 1, 1), (10, .iadd, 1), (11, .iastore, 1), (12, .aload_n 0, 1), (13, .getfield 24, 3), (16, .iload_n 1, 1), (17, .iconst 4, 1), (18, .iconst 0, 1), (19, .invokestatic 87, 3), (22, .iload_n 1, 1), (23, .iconst 1, 1), (24, .if_icmp .ne 17, 3), (27, .iload_n 2, 1), (28, .ifCond .eq 13, 3), (31, .aload_n 0, 1), (32, .iconst 0, 1), (33, .putfield 33, 3), (36, .aload_n 0, 1), (37, .iconst 0, 1), (38, .putfield 37, 3), (41, .return_, 1)]
theorem nKb35_0 : (nKa35_0.all fun e => decide (decode nM35.2.1 e.1 = .ok e.2)) = true := by decide +kernel
def nK35 : List (Nat × Instr × Nat) := nKa35_0
theorem nKok35 : (nK35.all fun e => decide (decode nM35.2.1 e.1 = .ok e.2)) = true := nKb35_0
def nKa36_0 : List (Nat × Instr × Nat) := [(0, .aload_n 1, 1), (1, .getfield 49, 3), (4, .tableswitch 74 0 3 #[32, 74, 44, 59], 32), (36, .aload_n 0, 1), (37, .getfield 24, 3), (40, .aload_n 1, 1), (41, .getfield 54, 3), (44, .iconst 1, 1), (45, .isub, 1), (46, .iaload, 1), (47, .ireturn, 1), (48, .aload_n 0, 1), (49, .dup, 1), (50, .getfield 33, 3), (53, .iconst 1, 1), (54, .iadd, 1), (55, .putfield 33, 3), (58, .aload_n 0, 1), (59, .getfield 33, 3), (62, .ireturn, 1), (63, .aload_n 0, 1), (64, .dup, 1), (65, .getfield 37, 3), (68, .iconst 1, 1), (69, .iadd, 1), (70, .putfield 37, 3), (73, .aload_n 0, 1), (74, .getfield 37, 3), (77, .ireturn, 1), (78, .iconst 0, 1)]
theorem nKb36_0 : (nKa36_0.all fun e => decide (decode nM36.2.1 e.1 = .ok e.2)) = true := by decide +kernel
def nKa36_1 : List (Nat × Instr × Nat) := [(79, .ireturn, 1)]
theorem nKb36_1 : (nKa36_1.all fun e => decide (decode nM36.2.1 e.1 = .ok e.2)) = true := by decide +kernel
def nK36 : List (Nat × Instr × Nat) := nKa36_0 ++ (nKa36_1)
theorem nKok36 : (nK36.all fun e => decide (decode nM36.2.1 e.1 = .ok e.2)) = true := nAll nKb36_0 (nKb36_1)
def nKa37_0 : List (Nat × Instr × Nat) := [(0, .iconst 0, 1), (1, .istore_n 3, 1), (2, .iload_n 3, 1), (3, .iconst 4, 1), (4, .if_icmp .ge 34, 3), (7, .aload_n 0, 1), (8, .getfield 21, 3), (11, .iload_n 1, 1), (12, .iconst 4, 1), (13, .imul, 1), (14, .iload_n 3, 1), (15, .iadd, 1), (16, .iload_n 3, 1), (17, .iload_n 2, 1), (18, .if_icmp .ge 12, 3), (21, .aload_n 0, 1), (22, .getfield 24, 3), (25, .iload_n 3, 1), (26, .iaload, 1), (27, .goto 4, 3), (30, .iconst (-1), 1), (31, .iastore, 1), (32, .iinc 3 1, 3), (35, .goto (-33), 3), (38, .return_, 1)]
theorem nKb37_0 : (nKa37_0.all fun e => decide (decode nM37.2.1 e.1 = .ok e.2)) = true := by decide +kernel
def nK37 : List (Nat × Instr × Nat) := nKa37_0
theorem nKok37 : (nK37.all fun e => decide (decode nM37.2.1 e.1 = .ok e.2)) = true := nKb37_0
def nKa38_0 : List (Nat × Instr × Nat) := [(0, .aload_n 0, 1), (1, .getfield 24, 3), (4, .iload_n 1, 1), (5, .iconst 1, 1), (6, .isub, 1), (7, .iaload, 1), (8, .aload_n 2, 1), (9, .iload_n 1, 1), (10, .invokevirtual 90, 3), (13, .invokestatic 94, 3), (16, .istore_n 3, 1), (17, .aload_n 2, 1), (18, .iload_n 1, 1), (19, .invokevirtual 99, 3), (22, .ifCond .eq 41, 3), (25, .iconst 1, 1), (26, .istore 4, 2), (28, .iload 4, 2), (30, .iload_n 1, 1), (31, .if_icmp .ge 32, 3), (34, .iload_n 3, 1), (35, .aload_n 0, 1), (36, .getfield 24, 3), (39, .iload 4, 2), (41, .iconst 1, 1), (42, .isub, 1), (43, .iaload, 1), (44, .aload_n 2, 1), (45, .iload 4, 2), (47, .invokevirtual 90, 3)]
theorem nKb38_0 : (nKa38_0.all fun e => decide (decode nM38.2.1 e.1 = .ok e.2)) = true := by decide +kernel
def nKa38_1 : List (Nat × Instr × Nat) := [(50, .invokestatic 94, 3), (53, .iconst 1, 1), (54, .iadd, 1), (55, .iadd, 1), (56, .istore_n 3, 1), (57, .iinc 4 1, 3), (60, .goto (-32), 3), (63, .iload_n 3, 1), (64, .ireturn, 1)]
theorem nKb38_1 : (nKa38_1.all fun e => decide (decode nM38.2.1 e.1 = .ok e.2)) = true := by decide +kernel
def nK38 : List (Nat × Instr × Nat) := nKa38_0 ++ (nKa38_1)
theorem nKok38 : (nK38.all fun e => decide (decode nM38.2.1 e.1 = .ok e.2)) = true := nAll nKb38_0 (nKb38_1)
def nKa39_0 : List (Nat × Instr × Nat) := [(0, .aload_n 0, 1), (1, .getfield 11, 3), (4, .iconst 2, 1), (5, .iload_n 1, 1), (6, .iadd, 1), (7, .iconst 1, 1), (8, .isub, 1), (9, .iaload, 1), (10, .ireturn, 1)]
theorem nKb39_0 : (nKa39_0.all fun e => decide (decode nM39.2.1 e.1 = .ok e.2)) = true := by decide +kernel
def nK39 : List (Nat × Instr × Nat) := nKa39_0
theorem nKok39 : (nK39.all fun e => decide (decode nM39.2.1 e.1 = .ok e.2)) = true := nKb39_0
def nKa40_0 : List (Nat × Instr × Nat) := [(0, .iload_n 0, 1), (1, .ifCond .gt 5, 3), (4, .iconst 1, 1), (5, .ireturn, 1), (6, .iload_n 1, 1), (7, .iconst 1, 1), (8, .if_icmp .ne 8, 3), (11, .iload_n 0, 1), (12, .invokestatic 9, 3), (15, .ireturn, 1), (16, .iload_n 1, 1), (17, .iconst 2, 1), (18, .if_icmp .ne 10, 3), (21, .iload_n 0, 1), (22, .invokestatic 13, 3), (25, .goto 7, 3), (28, .iload_n 0, 1), (29, .invokestatic 16, 3), (32, .ireturn, 1)]
theorem nKb40_0 : (nKa40_0.all fun e => decide (decode nM40.2.1 e.1 = .ok e.2)) = true := by decide +kernel
def nK40 : List (Nat × Instr × Nat) := nKa40_0
theorem nKok40 : (nK40.all fun e => decide (decode nM40.2.1 e.1 = .ok e.2)) = true := nKb40_0
def nKa41_0 : List (Nat × Instr × Nat) := [(0, .iconst 0, 1), (1, .istore_n 1, 1), (2, .iload_n 0, 1), (3, .istore_n 2, 1), (4, .iload_n 2, 1), (5, .ifCond .le 16, 3), (8, .iinc 1 1, 3), (11, .iload_n 2, 1), (12, .iconst 1, 1), (13, .isub, 1), (14, .bipush 26, 2), (16, .idiv, 1), (17, .istore_n 2, 1), (18, .goto (-14), 3), (21, .iload_n 1, 1), (22, .ireturn, 1)]
theorem nKb41_0 : (nKa41_0.all fun e => decide (decode nM41.2.1 e.1 = .ok e.2)) = true := by decide +kernel
def nK41 : List (Nat × Instr × Nat) := nKa41_0
theorem nKok41 : (nK41.all fun e => decide (decode nM41.2.1 e.1 = .ok e.2)) = true := nKb41_0
def nKa42_0 : List (Nat × Instr × Nat) := [(0, .iload_n 0, 1), (1, .bipush 100, 2), (3, .idiv, 1), (4, .getstatic 19, 3), (7, .iload_n 0, 1), (8, .bipush 10, 2), (10, .idiv, 1), (11, .bipush 10, 2), (13, .irem, 1), (14, .iaload, 1), (15, .iadd, 1), (16, .getstatic 19, 3), (19, .iload_n 0, 1), (20, .bipush 10, 2), (22, .irem, 1), (23, .iaload, 1), (24, .iadd, 1), (25, .ireturn, 1)]
theorem nKb42_0 : (nKa42_0.all fun e => decide (decode nM42.2.1 e.1 = .ok e.2)) = true := by decide +kernel
def nK42 : List (Nat × Instr × Nat) := nKa42_0
theorem nKok42 : (nK42.all fun e => decide (decode nM42.2.1 e.1 = .ok e.2)) = true := nKb42_0
def nKa43_0 : List (Nat × Instr × Nat) := [(0, .iconst 1, 1), (1, .istore_n 1, 1), (2, .iload_n 0, 1), (3, .bipush 10, 2), (5, .idiv, 1), (6, .istore_n 2, 1), (7, .iload_n 2, 1), (8, .ifCond .le 14, 3), (11, .iinc 1 1, 3), (14, .iload_n 2, 1), (15, .bipush 10, 2), (17, .idiv, 1), (18, .istore_n 2, 1), (19, .goto (-12), 3), (22, .iload_n 1, 1), (23, .ireturn, 1)]
theorem nKb43_0 : (nKa43_0.all fun e => decide (decode nM43.2.1 e.1 = .ok e.2)) = true := by decide +kernel
def nK43 : List (Nat × Instr × Nat) := nKa43_0
theorem nKok43 : (nK43.all fun e => decide (decode nM43.2.1 e.1 = .ok e.2)) = true := nKb43_0
def nKa44_0 : List (Nat × Instr × Nat) := [(0, .aload_n 0, 1), (1, .getfield 11, 3), (4, .bipush 6, 2), (6, .iload_n 1, 1), (7, .iadd, 1), (8, .iconst 1, 1), (9, .isub, 1), (10, .iaload, 1), (11, .iconst 1, 1), (12, .if_icmp .ne 7, 3), (15, .iconst 1, 1), (16, .goto 4, 3), (19, .iconst 0, 1), (20, .ireturn, 1)]
theorem nKb44_0 : (nKa44_0.all fun e => decide (decode nM44.2.1 e.1 = .ok e.2)) = true := by decide +kernel
def nK44 : List (Nat × Instr × Nat) := nKa44_0
theorem nKok44 : (nK44.all fun e => decide (decode nM44.2.1 e.1 = .ok e.2)) = true := nKb44_0
def nKa45_0 : List (Nat × Instr × Nat) := [(0, .aload_n 2, 1), (1, .invokevirtual 103, 3), (4, .ifCond .eq 45, 3), (7, .aload_n 3, 1), (8, .invokevirtual 61, 3), (11, .ifCond .eq 22, 3), (14, .aload_n 0, 1), (15, .getfield 24, 3), (18, .iconst 0, 1), (19, .iaload, 1), (20, .aload_n 3, 1), (21, .iconst 1, 1), (22, .invokevirtual 90, 3), (25, .invokestatic 94, 3), (28, .iconst 1, 1), (29, .iadd, 1), (30, .goto 4, 3), (33, .iconst 0, 1), (34, .istore 4, 2), (36, .iload 4, 2), (38, .aload_n 0, 1), (39, .getfield 15, 3), (42, .iload_n 1, 1), (43, .iaload, 1), (44, .invokestatic 106, 3), (47, .iadd, 1), (48, .ireturn, 1), (49, .aload_n 0, 1), (50, .getfield 9, 3), (53, .iload_n 1, 1)]
theorem nKb45_0 : (nKa45_0.all fun e => decide (decode nM45.2.1 e.1 = .ok e.2)) = true := by decide +kernel
def nKa45_1 : List (Nat × Instr × Nat) := [(54, .iaload, 1), (55, .iconst (-1), 1), (56, .if_icmp .ne 7, 3), (59, .iconst 1, 1), (60, .goto 14, 3), (63, .aload_n 0, 1), (64, .getfield 18, 3), (67, .aload_n 0, 1), (68, .getfield 9, 3), (71, .iload_n 1, 1), (72, .iaload, 1), (73, .iaload, 1), (74, .ireturn, 1)]
theorem nKb45_1 : (nKa45_1.all fun e => decide (decode nM45.2.1 e.1 = .ok e.2)) = true := by decide +kernel
def nK45 : List (Nat × Instr × Nat) := nKa45_0 ++ (nKa45_1)
theorem nKok45 : (nK45.all fun e => decide (decode nM45.2.1 e.1 = .ok e.2)) = true := nAll nKb45_0 (nKb45_1)
def nKa46_0 : List (Nat × Instr × Nat) := [(0, .aload_n 0, 1), (1, .getfield 25, 3), (4, .iconst 2, 1), (5, .if_icmp .eq 11, 3), (8, .aload_n 0, 1), (9, .getfield 25, 3), (12, .iconst 3, 1), (13, .if_icmp .ne 7, 3), (16, .iconst 1, 1), (17, .goto 4, 3), (20, .iconst 0, 1), (21, .ireturn, 1)]
theorem nKb46_0 : (nKa46_0.all fun e => decide (decode nM46.2.1 e.1 = .ok e.2)) = true := by decide +kernel
def nK46 : List (Nat × Instr × Nat) := nKa46_0
theorem nKok46 : (nK46.all fun e => decide (decode nM46.2.1 e.1 = .ok e.2)) = true := nKb46_0
def nKa47_0 : List (Nat × Instr × Nat) := [(0, .aload_n 0, 1), (1, .getfield 12, 3), (4, .iload_n 1, 1), (5, .invokevirtual 85, 3), (8, .ifCond .ne 7, 3), (11, .sipush (-1001), 3), (14, .ireturn, 1), (15, .iload_n 2, 1), (16, .iconst 1, 1), (17, .if_icmp .lt 8, 3), (20, .iload_n 2, 1), (21, .iconst 4, 1), (22, .if_icmp .le 7, 3), (25, .sipush (-1002), 3), (28, .ireturn, 1), (29, .aload_n 0, 1), (30, .invokevirtual 128, 3), (33, .iload_n 1, 1), (34, .iload_n 2, 1), (35, .invokevirtual 142, 3), (38, .ireturn, 1)]
theorem nKb47_0 : (nKa47_0.all fun e => decide (decode nM47.2.1 e.1 = .ok e.2)) = true := by decide +kernel
def nK47 : List (Nat × Instr × Nat) := nKa47_0
theorem nKok47 : (nK47.all fun e => decide (decode nM47.2.1 e.1 = .ok e.2)) = true := nKb47_0
def nKa48_0 : List (Nat × Instr × Nat) := [(0, .aload_n 0, 1), (1, .getfield 21, 3), (4, .iload_n 1, 1), (5, .iconst 4, 1), (6, .imul, 1), (7, .iload_n 2, 1), (8, .iadd, 1), (9, .iconst 1, 1), (10, .isub, 1), (11, .iaload, 1), (12, .ireturn, 1)]
theorem nKb48_0 : (nKa48_0.all fun e => decide (decode nM48.2.1 e.1 = .ok e.2)) = true := by decide +kernel
def nK48 : List (Nat × Instr × Nat) := nKa48_0
theorem nKok48 : (nK48.all fun e => decide (decode nM48.2.1 e.1 = .ok e.2)) = true := nKb48_0
def nKa49_0 : List (Nat × Instr × Nat) := [(0, .aload_n 0, 1), (1, .getfield 12, 3), (4, .iload_n 1, 1), (5, .invokevirtual 85, 3), (8, .ifCond .eq 23, 3), (11, .iload_n 2, 1), (12, .ifCond .lt 19, 3), (15, .iload_n 2, 1), (16, .aload_n 0, 1), (17, .getfield 12, 3), (20, .getfield 88, 3), (23, .iload_n 1, 1), (24, .aaload, 1), (25, .getfield 118, 3), (28, .if_icmp .lt 7, 3), (31, .sipush (-1001), 3)]
theorem nKb49_0 : (nKa49_0.all fun e => decide (decode nM49.2.1 e.1 = .ok e.2)) = true := by decide +kernel
def nKa49_1 : List (Nat × Instr × Nat) := [(34, .ireturn, 1), (35, .aload_n 0, 1), (36, .getfield 12, 3), (39, .getfield 88, 3), (42, .iload_n 1, 1), (43, .aaload, 1), (44, .astore 4, 2), (46, .iload_n 3, 1), (47, .tableswitch 126 0 7 #[45, 53, 61, 69, 80, 90, 103, 116], 45), (92, .aload 4, 2), (94, .getfield 146, 3), (97, .iload_n 2, 1), (98, .iaload, 1), (99, .ireturn, 1), (100, .aload 4, 2), (102, .getfield 149, 3)]
theorem nKb49_1 : (nKa49_1.all fun e => decide (decode nM49.2.1 e.1 = .ok e.2)) = true := by decide +kernel
def nKa49_2 : List (Nat × Instr × Nat) := [(105, .iload_n 2, 1), (106, .iaload, 1), (107, .ireturn, 1), (108, .aload 4, 2), (110, .getfield 152, 3), (113, .iload_n 2, 1), (114, .iaload, 1), (115, .ireturn, 1), (116, .aload_n 0, 1), (117, .getfield 12, 3), (120, .aload 4, 2), (122, .iload_n 2, 1), (123, .invokevirtual 155, 3), (126, .ireturn, 1), (127, .aload_n 0, 1), (128, .invokevirtual 159, 3)]
theorem nKb49_2 : (nKa49_2.all fun e => decide (decode nM49.2.1 e.1 = .ok e.2)) = true := by decide +kernel
def nKa49_3 : List (Nat × Instr × Nat) := [(131, .iload_n 1, 1), (132, .iload_n 2, 1), (133, .invokevirtual 163, 3), (136, .ireturn, 1), (137, .aload_n 0, 1), (138, .invokevirtual 159, 3), (141, .getfield 166, 3), (144, .iload_n 1, 1), (145, .iload_n 2, 1), (146, .invokevirtual 170, 3), (149, .ireturn, 1), (150, .aload_n 0, 1), (151, .invokevirtual 159, 3), (154, .getfield 166, 3), (157, .iload_n 1, 1), (158, .iload_n 2, 1)]
theorem nKb49_3 : (nKa49_3.all fun e => decide (decode nM49.2.1 e.1 = .ok e.2)) = true := by decide +kernel
def nKa49_4 : List (Nat × Instr × Nat) := [(159, .invokevirtual 175, 3), (162, .ireturn, 1), (163, .aload_n 0, 1), (164, .invokevirtual 159, 3), (167, .iload_n 1, 1), (168, .iload_n 2, 1), (169, .invokevirtual 178, 3), (172, .ireturn, 1), (173, .sipush (-1002), 3), (176, .ireturn, 1)]
theorem nKb49_4 : (nKa49_4.all fun e => decide (decode nM49.2.1 e.1 = .ok e.2)) = true := by decide +kernel
def nK49 : List (Nat × Instr × Nat) := nKa49_0 ++ (nKa49_1 ++ (nKa49_2 ++ (nKa49_3 ++ (nKa49_4))))
theorem nKok49 : (nK49.all fun e => decide (decode nM49.2.1 e.1 = .ok e.2)) = true := nAll nKb49_0 (nAll nKb49_1 (nAll nKb49_2 (nAll nKb49_3 (nKb49_4))))
def nKa50_0 : List (Nat × Instr × Nat) := [(0, .aload_n 1, 1), (1, .getfield 54, 3), (4, .iload_n 2, 1), (5, .iaload, 1), (6, .iconst 1, 1), (7, .if_icmp .ne 16, 3), (10, .aload_n 0, 1), (11, .aload_n 1, 1), (12, .getfield 58, 3), (15, .iload_n 2, 1), (16, .iaload, 1), (17, .invokevirtual 61, 3), (20, .goto 4, 3), (23, .iconst (-1), 1), (24, .ireturn, 1)]
theorem nKb50_0 : (nKa50_0.all fun e => decide (decode nM50.2.1 e.1 = .ok e.2)) = true := by decide +kernel
def nK50 : List (Nat × Instr × Nat) := nKa50_0
theorem nKok50 : (nK50.all fun e => decide (decode nM50.2.1 e.1 = .ok e.2)) = true := nKb50_0
def nKa51_0 : List (Nat × Instr × Nat) := [(0, .iconst 0, 1), (1, .istore_n 2, 1), (2, .iload_n 2, 1), (3, .aload_n 0, 1), (4, .getfield 24, 3), (7, .if_icmp .ge 24, 3), (10, .aload_n 0, 1), (11, .getfield 11, 3), (14, .iload_n 2, 1), (15, .aaload, 1), (16, .getfield 51, 3), (19, .iload_n 1, 1), (20, .if_icmp .ne 5, 3), (23, .iload_n 2, 1), (24, .ireturn, 1), (25, .iinc 2 1, 3), (28, .goto (-26), 3), (31, .iconst (-1), 1), (32, .ireturn, 1)]
theorem nKb51_0 : (nKa51_0.all fun e => decide (decode nM51.2.1 e.1 = .ok e.2)) = true := by decide +kernel
def nK51 : List (Nat × Instr × Nat) := nKa51_0
theorem nKok51 : (nK51.all fun e => decide (decode nM51.2.1 e.1 = .ok e.2)) = true := nKb51_0
def nKa52_0 : List (Nat × Instr × Nat) := [(0, .aload_n 0, 1), (1, .getfield 66, 3), (4, .ifCond .ne 29, 3), (7, .aload_n 0, 1), (8, .getfield 41, 3), (11, .aload_n 0, 1), (12, .getfield 12, 3), (15, .aload_n 0, 1), (16, .getfield 12, 3), (19, .getfield 274, 3), (22, .invokevirtual 278, 3), (25, .invokevirtual 247, 3), (28, .aload_n 0, 1), (29, .iconst 1, 1), (30, .putfield 66, 3), (33, .aload_n 0, 1), (34, .getfield 41, 3), (37, .areturn, 1)]
theorem nKb52_0 : (nKa52_0.all fun e => decide (decode nM52.2.1 e.1 = .ok e.2)) = true := by decide +kernel
def nK52 : List (Nat × Instr × Nat) := nKa52_0
theorem nKok52 : (nK52.all fun e => decide (decode nM52.2.1 e.1 = .ok e.2)) = true := nKb52_0
def nKa53_0 : List (Nat × Instr × Nat) := [(0, .aload_n 0, 1), (1, .getfield 11, 3), (4, .iconst 0, 1), (5, .iaload, 1), (6, .ireturn, 1)]
theorem nKb53_0 : (nKa53_0.all fun e => decide (decode nM53.2.1 e.1 = .ok e.2)) = true := by decide +kernel
def nK53 : List (Nat × Instr × Nat) := nKa53_0
theorem nKok53 : (nK53.all fun e => decide (decode nM53.2.1 e.1 = .ok e.2)) = true := nKb53_0
def nKa54_0 : List (Nat × Instr × Nat) := [(0, .aload_n 0, 1), (1, .aload_n 1, 1), (2, .putfield 41, 3), (5, .aload_n 0, 1), (6, .getfield 21, 3), (9, .aload_n 0, 1), (10, .getfield 41, 3), (13, .invokevirtual 49, 3), (16, .aload_n 0, 1), (17, .invokevirtual 53, 3), (20, .iconst 0, 1), (21, .istore_n 3, 1), (22, .iload_n 3, 1), (23, .bipush 11, 2), (25, .if_icmp .gt 139, 3), (28, .aload_n 0, 1), (29, .iload_n 3, 1)]
theorem nKb54_0 : (nKa54_0.all fun e => decide (decode nM54.2.1 e.1 = .ok e.2)) = true := by decide +kernel
def nKa54_1 : List (Nat × Instr × Nat) := [(30, .putfield 56, 3), (33, .aload_n 0, 1), (34, .getfield 29, 3), (37, .iconst 0, 1), (38, .aload_n 0, 1), (39, .getfield 45, 3), (42, .iload_n 3, 1), (43, .aaload, 1), (44, .iconst 0, 1), (45, .aload_n 0, 1), (46, .getfield 60, 3), (49, .invokestatic 63, 3), (52, .aload_n 0, 1), (53, .getfield 12, 3), (56, .aload_n 0, 1), (57, .getfield 41, 3), (60, .iload_n 2, 1)]
theorem nKb54_1 : (nKa54_1.all fun e => decide (decode nM54.2.1 e.1 = .ok e.2)) = true := by decide +kernel
def nKa54_2 : List (Nat × Instr × Nat) := [(61, .aload_n 0, 1), (62, .getfield 29, 3), (65, .invokevirtual 69, 3), (68, .aload_n 0, 1), (69, .getfield 25, 3), (72, .iload_n 3, 1), (73, .aload_n 0, 1), (74, .invokevirtual 73, 3), (77, .iastore, 1), (78, .aload_n 0, 1), (79, .invokevirtual 77, 3), (82, .aload_n 0, 1), (83, .invokevirtual 80, 3), (86, .aload_n 0, 1), (87, .iload_n 3, 1), (88, .invokevirtual 83, 3), (91, .istore 4, 2)]
theorem nKb54_2 : (nKa54_2.all fun e => decide (decode nM54.2.1 e.1 = .ok e.2)) = true := by decide +kernel
def nKa54_3 : List (Nat × Instr × Nat) := [(93, .iload 4, 2), (95, .iconst (-1), 1), (96, .if_icmp .eq 39, 3), (99, .aload_n 0, 1), (100, .iload 4, 2), (102, .iload_n 3, 1), (103, .if_icmp .ne 7, 3), (106, .iconst 0, 1), (107, .goto 4, 3), (110, .iconst 1, 1), (111, .putfield 87, 3), (114, .aload_n 0, 1), (115, .iload 4, 2), (117, .iload_n 3, 1), (118, .if_icmp .ne 7, 3), (121, .iconst 0, 1), (122, .goto 9, 3)]
theorem nKb54_3 : (nKa54_3.all fun e => decide (decode nM54.2.1 e.1 = .ok e.2)) = true := by decide +kernel
def nKa54_4 : List (Nat × Instr × Nat) := [(125, .iload_n 3, 1), (126, .iconst 1, 1), (127, .iadd, 1), (128, .iload 4, 2), (130, .isub, 1), (131, .putfield 90, 3), (134, .return_, 1), (135, .iload_n 3, 1), (136, .bipush 11, 2), (138, .if_icmp .ge 20, 3), (141, .aload_n 0, 1), (142, .getfield 32, 3), (145, .iconst 0, 1), (146, .aload_n 0, 1), (147, .getfield 29, 3), (150, .iconst 0, 1), (151, .aload_n 0, 1)]
theorem nKb54_4 : (nKa54_4.all fun e => decide (decode nM54.2.1 e.1 = .ok e.2)) = true := by decide +kernel
def nKa54_5 : List (Nat × Instr × Nat) := [(152, .getfield 60, 3), (155, .invokestatic 63, 3), (158, .iinc 3 1, 3), (161, .goto (-139), 3), (164, .aload_n 0, 1), (165, .iconst 2, 1), (166, .putfield 87, 3), (169, .aload_n 0, 1), (170, .iconst 0, 1), (171, .putfield 90, 3), (174, .return_, 1)]
theorem nKb54_5 : (nKa54_5.all fun e => decide (decode nM54.2.1 e.1 = .ok e.2)) = true := by decide +kernel
def nK54 : List (Nat × Instr × Nat) := nKa54_0 ++ (nKa54_1 ++ (nKa54_2 ++ (nKa54_3 ++ (nKa54_4 ++ (nKa54_5)))))
theorem nKok54 : (nK54.all fun e => decide (decode nM54.2.1 e.1 = .ok e.2)) = true := nAll nKb54_0 (nAll nKb54_1 (nAll nKb54_2 (nAll nKb54_3 (nAll nKb54_4 (nKb54_5)))))
def nKa55_0 : List (Nat × Instr × Nat) := [(0, .aload_n 0, 1), (1, .aload_n 0, 1), (2, .getfield 12, 3), (5, .aload_n 0, 1), (6, .getfield 41, 3), (9, .invokevirtual 93, 3), (12, .putfield 60, 3), (15, .iconst 0, 1), (16, .istore_n 1, 1), (17, .iload_n 1, 1), (18, .aload_n 0, 1), (19, .getfield 41, 3), (22, .getfield 97, 3), (25, .if_icmp .ge 77, 3), (28, .aload_n 0, 1), (29, .getfield 41, 3), (32, .getfield 102, 3), (35, .iload_n 1, 1), (36, .aaload, 1), (37, .astore_n 2, 1), (38, .iconst 0, 1), (39, .istore_n 3, 1), (40, .iload_n 3, 1), (41, .aload_n 2, 1), (42, .getfield 106, 3), (45, .if_icmp .ge 51, 3), (48, .aload_n 0, 1), (49, .getfield 12, 3), (52, .getfield 109, 3)]
theorem nKb55_0 : (nKa55_0.all fun e => decide (decode nM55.2.1 e.1 = .ok e.2)) = true := by decide +kernel
def nKa55_1 : List (Nat × Instr × Nat) := [(55, .iload_n 1, 1), (56, .iaload, 1), (57, .iload_n 3, 1), (58, .iadd, 1), (59, .istore 4, 2), (61, .aload_n 0, 1), (62, .getfield 38, 3), (65, .iload 4, 2), (67, .aload_n 0, 1), (68, .getfield 41, 3), (71, .aload_n 2, 1), (72, .iload_n 3, 1), (73, .invokevirtual 112, 3), (76, .iastore, 1), (77, .aload_n 0, 1), (78, .getfield 29, 3), (81, .iload 4, 2), (83, .aload_n 0, 1), (84, .aload_n 2, 1), (85, .iload_n 3, 1), (86, .invokevirtual 116, 3), (89, .iastore, 1), (90, .iinc 3 1, 3), (93, .goto (-53), 3), (96, .iinc 1 1, 3), (99, .goto (-82), 3), (102, .return_, 1)]
theorem nKb55_1 : (nKa55_1.all fun e => decide (decode nM55.2.1 e.1 = .ok e.2)) = true := by decide +kernel
def nK55 : List (Nat × Instr × Nat) := nKa55_0 ++ (nKa55_1)
theorem nKok55 : (nK55.all fun e => decide (decode nM55.2.1 e.1 = .ok e.2)) = true := nAll nKb55_0 (nKb55_1)
def nKa56_0 : List (Nat × Instr × Nat) := [(0, .iconst 0, 1), (1, .istore_n 2, 1), (2, .iconst 0, 1), (3, .istore_n 3, 1), (4, .iload_n 3, 1), (5, .aload_n 1, 1), (6, .getfield 37, 3), (9, .if_icmp .ge 28, 3), (12, .aload_n 0, 1), (13, .getfield 18, 3), (16, .iload_n 3, 1), (17, .iload_n 2, 1), (18, .iastore, 1), (19, .iload_n 2, 1), (20, .aload_n 1, 1), (21, .getfield 43, 3), (24, .iload_n 3, 1), (25, .aaload, 1), (26, .getfield 47, 3), (29, .iadd, 1), (30, .istore_n 2, 1), (31, .iinc 3 1, 3), (34, .goto (-30), 3), (37, .iload_n 2, 1), (38, .ireturn, 1)]
theorem nKb56_0 : (nKa56_0.all fun e => decide (decode nM56.2.1 e.1 = .ok e.2)) = true := by decide +kernel
def nK56 : List (Nat × Instr × Nat) := nKa56_0
theorem nKok56 : (nK56.all fun e => decide (decode nM56.2.1 e.1 = .ok e.2)) = true := nKb56_0
def nKa57_0 : List (Nat × Instr × Nat) := [(0, .aload_n 1, 1), (1, .getfield 119, 3), (4, .iload_n 2, 1), (5, .iaload, 1), (6, .lookupswitch 30 #[(1, 26), (2, 28)], 26), (32, .iconst 2, 1), (33, .ireturn, 1), (34, .iconst 1, 1), (35, .ireturn, 1), (36, .aload_n 1, 1), (37, .getfield 122, 3), (40, .iload_n 2, 1), (41, .iaload, 1), (42, .ireturn, 1)]
theorem nKb57_0 : (nKa57_0.all fun e => decide (decode nM57.2.1 e.1 = .ok e.2)) = true := by decide +kernel
def nK57 : List (Nat × Instr × Nat) := nKa57_0
theorem nKok57 : (nK57.all fun e => decide (decode nM57.2.1 e.1 = .ok e.2)) = true := nKb57_0
def nKa58_0 : List (Nat × Instr × Nat) := [(0, .aload_n 0, 1), (1, .getfield 12, 3), (4, .iload_n 2, 1), (5, .invokevirtual 52, 3), (8, .iconst 0, 1), (9, .istore 4, 2), (11, .iload 4, 2), (13, .aload_n 1, 1), (14, .getfield 37, 3), (17, .if_icmp .ge 173, 3), (20, .aload_n 1, 1), (21, .getfield 43, 3), (24, .iload 4, 2), (26, .aaload, 1), (27, .astore 5, 2)]
theorem nKb58_0 : (nKa58_0.all fun e => decide (decode nM58.2.1 e.1 = .ok e.2)) = true := by decide +kernel
def nKa58_1 : List (Nat × Instr × Nat) := [(29, .aload 5, 2), (31, .getfield 56, 3), (34, .ifCond .ne 24, 3), (37, .aload_n 0, 1), (38, .iload 4, 2), (40, .aload 5, 2), (42, .getfield 59, 3), (45, .aload_n 1, 1), (46, .getfield 62, 3), (49, .invokevirtual 66, 3), (52, .invokevirtual 72, 3), (55, .goto 129, 3), (58, .aload 5, 2), (60, .getfield 56, 3), (63, .iconst 1, 1)]
theorem nKb58_1 : (nKa58_1.all fun e => decide (decode nM58.2.1 e.1 = .ok e.2)) = true := by decide +kernel
def nKa58_2 : List (Nat × Instr × Nat) := [(64, .if_icmp .ne 56, 3), (67, .aload_n 0, 1), (68, .getfield 22, 3), (71, .iload 4, 2), (73, .aload_n 0, 1), (74, .aload 5, 2), (76, .aload_n 0, 1), (77, .getfield 18, 3), (80, .iload 4, 2), (82, .iaload, 1), (83, .aload_n 3, 1), (84, .aload_n 1, 1), (85, .getfield 62, 3), (88, .invokevirtual 76, 3), (91, .invokevirtual 80, 3)]
theorem nKb58_2 : (nKa58_2.all fun e => decide (decode nM58.2.1 e.1 = .ok e.2)) = true := by decide +kernel
def nKa58_3 : List (Nat × Instr × Nat) := [(94, .iastore, 1), (95, .aload_n 0, 1), (96, .iload 4, 2), (98, .invokevirtual 84, 3), (101, .aload_n 0, 1), (102, .aload_n 0, 1), (103, .getfield 18, 3), (106, .iload 4, 2), (108, .iaload, 1), (109, .aload 5, 2), (111, .getfield 47, 3), (114, .invokevirtual 87, 3), (117, .goto 67, 3), (120, .aload 5, 2), (122, .invokevirtual 91, 3)]
theorem nKb58_3 : (nKa58_3.all fun e => decide (decode nM58.2.1 e.1 = .ok e.2)) = true := by decide +kernel
def nKa58_4 : List (Nat × Instr × Nat) := [(125, .ifCond .eq 32, 3), (128, .aload_n 0, 1), (129, .getfield 22, 3), (132, .iload 4, 2), (134, .aload 5, 2), (136, .getfield 59, 3), (139, .iastore, 1), (140, .aload_n 0, 1), (141, .getfield 12, 3), (144, .iload 4, 2), (146, .aload 5, 2), (148, .getfield 59, 3), (151, .invokevirtual 94, 3), (154, .goto 30, 3), (157, .aload_n 0, 1)]
theorem nKb58_4 : (nKa58_4.all fun e => decide (decode nM58.2.1 e.1 = .ok e.2)) = true := by decide +kernel
def nKa58_5 : List (Nat × Instr × Nat) := [(158, .getfield 22, 3), (161, .iload 4, 2), (163, .aload_n 1, 1), (164, .aload 5, 2), (166, .invokevirtual 97, 3), (169, .iastore, 1), (170, .aload_n 0, 1), (171, .getfield 31, 3), (174, .iconst 1, 1), (175, .invokestatic 101, 3), (178, .aload_n 0, 1), (179, .iload 4, 2), (181, .invokevirtual 84, 3), (184, .iinc 4 1, 3), (187, .goto (-176), 3)]
theorem nKb58_5 : (nKa58_5.all fun e => decide (decode nM58.2.1 e.1 = .ok e.2)) = true := by decide +kernel
def nKa58_6 : List (Nat × Instr × Nat) := [(190, .aload_n 0, 1), (191, .getfield 12, 3), (194, .invokevirtual 107, 3), (197, .return_, 1)]
theorem nKb58_6 : (nKa58_6.all fun e => decide (decode nM58.2.1 e.1 = .ok e.2)) = true := by decide +kernel
def nK58 : List (Nat × Instr × Nat) := nKa58_0 ++ (nKa58_1 ++ (nKa58_2 ++ (nKa58_3 ++ (nKa58_4 ++ (nKa58_5 ++ (nKa58_6))))))
theorem nKok58 : (nK58.all fun e => decide (decode nM58.2.1 e.1 = .ok e.2)) = true := nAll nKb58_0 (nAll nKb58_1 (nAll nKb58_2 (nAll nKb58_3 (nAll nKb58_4 (nAll nKb58_5 (nKb58_6))))))
def nKa59_0 : List (Nat × Instr × Nat) := [(0, .aload_n 0, 1), (1, .iload_n 1, 1), (2, .putfield 31, 3), (5, .aload_n 0, 1), (6, .iconst 1, 1), (7, .putfield 27, 3), (10, .aload_n 0, 1), (11, .getfield 9, 3), (14, .aload_n 0, 1), (15, .getfield 27, 3), (18, .iconst 0, 1), (19, .iastore, 1), (20, .aload_n 0, 1), (21, .iconst 0, 1), (22, .putfield 34, 3), (25, .aload_n 0, 1), (26, .iconst 0, 1), (27, .putfield 37, 3), (30, .return_, 1)]
theorem nKb59_0 : (nKa59_0.all fun e => decide (decode nM59.2.1 e.1 = .ok e.2)) = true := by decide +kernel
def nK59 : List (Nat × Instr × Nat) := nKa59_0
theorem nKok59 : (nK59.all fun e => decide (decode nM59.2.1 e.1 = .ok e.2)) = true := nKb59_0
def nKa60_0 : List (Nat × Instr × Nat) := [(0, .aload_n 0, 1), (1, .getfield 11, 3), (4, .bipush 12, 2), (6, .iaload, 1), (7, .iconst 1, 1), (8, .if_icmp .ne 7, 3), (11, .iconst 1, 1), (12, .goto 4, 3), (15, .iconst 0, 1), (16, .ireturn, 1)]
theorem nKb60_0 : (nKa60_0.all fun e => decide (decode nM60.2.1 e.1 = .ok e.2)) = true := by decide +kernel
def nK60 : List (Nat × Instr × Nat) := nKa60_0
theorem nKok60 : (nK60.all fun e => decide (decode nM60.2.1 e.1 = .ok e.2)) = true := nKb60_0
def nKa61_0 : List (Nat × Instr × Nat) := [(0, .aload_n 0, 1), (1, .getfield 22, 3), (4, .iload_n 1, 1), (5, .getstatic 110, 3), (8, .iload_n 2, 1), (9, .iconst 1, 1), (10, .isub, 1), (11, .iaload, 1), (12, .iastore, 1), (13, .iload_n 2, 1), (14, .iconst 1, 1), (15, .if_icmp .ne 24, 3), (18, .iload_n 3, 1), (19, .ifCond .eq 20, 3), (22, .aload_n 0, 1), (23, .getfield 12, 3), (26, .invokevirtual 113, 3), (29, .ifCond .eq 10, 3), (32, .aload_n 0, 1), (33, .getfield 12, 3), (36, .invokevirtual 116, 3), (39, .aload_n 0, 1), (40, .getfield 12, 3), (43, .aload_n 0, 1), (44, .getfield 22, 3), (47, .iload_n 1, 1), (48, .iaload, 1), (49, .iconst 2, 1), (50, .iadd, 1), (51, .invokevirtual 119, 3)]
theorem nKb61_0 : (nKa61_0.all fun e => decide (decode nM61.2.1 e.1 = .ok e.2)) = true := by decide +kernel
def nKa61_1 : List (Nat × Instr × Nat) := [(54, .aload_n 0, 1), (55, .getfield 12, 3), (58, .iload_n 1, 1), (59, .invokevirtual 122, 3), (62, .aload_n 0, 1), (63, .getfield 12, 3), (66, .aload_n 0, 1), (67, .getfield 22, 3), (70, .iload_n 1, 1), (71, .iaload, 1), (72, .invokevirtual 125, 3), (75, .return_, 1)]
theorem nKb61_1 : (nKa61_1.all fun e => decide (decode nM61.2.1 e.1 = .ok e.2)) = true := by decide +kernel
def nK61 : List (Nat × Instr × Nat) := nKa61_0 ++ (nKa61_1)
theorem nKok61 : (nK61.all fun e => decide (decode nM61.2.1 e.1 = .ok e.2)) = true := nAll nKb61_0 (nKb61_1)
def nKa62_0 : List (Nat × Instr × Nat) := [(0, .aload_n 0, 1), (1, .getfield 9, 3), (4, .aload_n 0, 1), (5, .getfield 27, 3), (8, .iaload, 1), (9, .ireturn, 1)]
theorem nKb62_0 : (nKa62_0.all fun e => decide (decode nM62.2.1 e.1 = .ok e.2)) = true := by decide +kernel
def nK62 : List (Nat × Instr × Nat) := nKa62_0
theorem nKok62 : (nK62.all fun e => decide (decode nM62.2.1 e.1 = .ok e.2)) = true := nKb62_0
def nKa63_0 : List (Nat × Instr × Nat) := [(0, .aload_n 0, 1), (1, .getfield 27, 3), (4, .sipush 1260, 3), (7, .if_icmp .ge 13, 3), (10, .aload_n 0, 1), (11, .dup, 1), (12, .getfield 27, 3), (15, .iconst 1, 1), (16, .iadd, 1), (17, .putfield 27, 3), (20, .aload_n 0, 1), (21, .getfield 9, 3), (24, .aload_n 0, 1), (25, .getfield 27, 3), (28, .iconst 0, 1), (29, .iastore, 1), (30, .aload_n 0, 1), (31, .getfield 34, 3), (34, .aload_n 0, 1), (35, .getfield 37, 3), (38, .if_icmp .ge 99, 3)]
theorem nKb63_0 : (nKa63_0.all fun e => decide (decode nM63.2.1 e.1 = .ok e.2)) = true := by decide +kernel
def nKa63_1 : List (Nat × Instr × Nat) := [(41, .aload_n 0, 1), (42, .getfield 9, 3), (45, .aload_n 0, 1), (46, .getfield 27, 3), (49, .iaload, 1), (50, .aload_n 0, 1), (51, .getfield 24, 3), (54, .aload_n 0, 1), (55, .getfield 34, 3), (58, .iaload, 1), (59, .iadd, 1), (60, .aload_n 0, 1), (61, .getfield 31, 3), (64, .if_icmp .gt 73, 3), (67, .aload_n 0, 1), (68, .getfield 15, 3), (71, .aload_n 0, 1), (72, .getfield 21, 3), (75, .aload_n 0, 1), (76, .getfield 34, 3), (79, .iaload, 1)]
theorem nKb63_1 : (nKa63_1.all fun e => decide (decode nM63.2.1 e.1 = .ok e.2)) = true := by decide +kernel
def nKa63_2 : List (Nat × Instr × Nat) := [(80, .aload_n 0, 1), (81, .getfield 27, 3), (84, .iastore, 1), (85, .aload_n 0, 1), (86, .getfield 18, 3), (89, .aload_n 0, 1), (90, .getfield 21, 3), (93, .aload_n 0, 1), (94, .getfield 34, 3), (97, .iaload, 1), (98, .aload_n 0, 1), (99, .getfield 27, 3), (102, .iastore, 1), (103, .aload_n 0, 1), (104, .getfield 9, 3), (107, .aload_n 0, 1), (108, .getfield 27, 3), (111, .dup2, 1), (112, .iaload, 1), (113, .aload_n 0, 1), (114, .getfield 24, 3)]
theorem nKb63_2 : (nKa63_2.all fun e => decide (decode nM63.2.1 e.1 = .ok e.2)) = true := by decide +kernel
def nKa63_3 : List (Nat × Instr × Nat) := [(117, .aload_n 0, 1), (118, .getfield 34, 3), (121, .iaload, 1), (122, .iadd, 1), (123, .iastore, 1), (124, .aload_n 0, 1), (125, .dup, 1), (126, .getfield 34, 3), (129, .iconst 1, 1), (130, .iadd, 1), (131, .putfield 34, 3), (134, .goto (-104), 3), (137, .return_, 1)]
theorem nKb63_3 : (nKa63_3.all fun e => decide (decode nM63.2.1 e.1 = .ok e.2)) = true := by decide +kernel
def nK63 : List (Nat × Instr × Nat) := nKa63_0 ++ (nKa63_1 ++ (nKa63_2 ++ (nKa63_3)))
theorem nKok63 : (nK63.all fun e => decide (decode nM63.2.1 e.1 = .ok e.2)) = true := nAll nKb63_0 (nAll nKb63_1 (nAll nKb63_2 (nKb63_3)))
def nKa64_0 : List (Nat × Instr × Nat) := [(0, .iconst 0, 1), (1, .istore_n 2, 1), (2, .iload_n 2, 1), (3, .bipush 60, 2), (5, .if_icmp .gt 44, 3), (8, .aload_n 0, 1), (9, .getfield 9, 3), (12, .aload_n 0, 1), (13, .getfield 27, 3), (16, .iaload, 1), (17, .ifCond .eq 21, 3), (20, .aload_n 0, 1), (21, .getfield 9, 3), (24, .aload_n 0, 1), (25, .getfield 27, 3), (28, .iaload, 1), (29, .iload_n 1, 1), (30, .iadd, 1), (31, .aload_n 0, 1), (32, .getfield 31, 3), (35, .if_icmp .gt 4, 3), (38, .return_, 1), (39, .aload_n 0, 1), (40, .invokevirtual 40, 3), (43, .iinc 2 1, 3), (46, .goto (-44), 3), (49, .return_, 1)]
theorem nKb64_0 : (nKa64_0.all fun e => decide (decode nM64.2.1 e.1 = .ok e.2)) = true := by decide +kernel
def nK64 : List (Nat × Instr × Nat) := nKa64_0
theorem nKok64 : (nK64.all fun e => decide (decode nM64.2.1 e.1 = .ok e.2)) = true := nKb64_0
def nKa65_0 : List (Nat × Instr × Nat) := [(0, .aload_n 0, 1), (1, .getfield 15, 3), (4, .iload_n 1, 1), (5, .aload_n 0, 1), (6, .getfield 27, 3), (9, .iastore, 1), (10, .aload_n 0, 1), (11, .getfield 18, 3), (14, .iload_n 1, 1), (15, .aload_n 0, 1), (16, .getfield 27, 3), (19, .iastore, 1), (20, .return_, 1)]
theorem nKb65_0 : (nKa65_0.all fun e => decide (decode nM65.2.1 e.1 = .ok e.2)) = true := by decide +kernel
def nK65 : List (Nat × Instr × Nat) := nKa65_0
theorem nKok65 : (nK65.all fun e => decide (decode nM65.2.1 e.1 = .ok e.2)) = true := nKb65_0
def nKa66_0 : List (Nat × Instr × Nat) := [(0, .aload_n 0, 1), (1, .getfield 9, 3), (4, .aload_n 0, 1), (5, .getfield 27, 3), (8, .dup2, 1), (9, .iaload, 1), (10, .iload_n 1, 1), (11, .iadd, 1), (12, .iastore, 1), (13, .return_, 1)]
theorem nKb66_0 : (nKa66_0.all fun e => decide (decode nM66.2.1 e.1 = .ok e.2)) = true := by decide +kernel
def nK66 : List (Nat × Instr × Nat) := nKa66_0
theorem nKok66 : (nK66.all fun e => decide (decode nM66.2.1 e.1 = .ok e.2)) = true := nKb66_0
def nKa67_0 : List (Nat × Instr × Nat) := [(0, .aload_n 0, 1), (1, .getfield 11, 3), (4, .iconst 1, 1), (5, .iaload, 1), (6, .ireturn, 1)]
theorem nKb67_0 : (nKa67_0.all fun e => decide (decode nM67.2.1 e.1 = .ok e.2)) = true := by decide +kernel
def nK67 : List (Nat × Instr × Nat) := nKa67_0
theorem nKok67 : (nK67.all fun e => decide (decode nM67.2.1 e.1 = .ok e.2)) = true := nKb67_0
def nKa68_0 : List (Nat × Instr × Nat) := [(0, .iconst 0, 1), (1, .istore 5, 2), (3, .iconst 0, 1), (4, .istore 6, 2), (6, .aload_n 0, 1), (7, .getfield 31, 3), (10, .iconst 0, 1), (11, .iconst 1, 1), (12, .iastore, 1), (13, .iconst 0, 1), (14, .istore 7, 2), (16, .iload 7, 2), (18, .aload_n 1, 1), (19, .getfield 47, 3), (22, .if_icmp .ge 131, 3), (25, .aload_n 1, 1), (26, .getfield 128, 3)]
theorem nKb68_0 : (nKa68_0.all fun e => decide (decode nM68.2.1 e.1 = .ok e.2)) = true := by decide +kernel
def nKa68_1 : List (Nat × Instr × Nat) := [(29, .iload 7, 2), (31, .iaload, 1), (32, .iconst 2, 1), (33, .if_icmp .ne 7, 3), (36, .iconst 1, 1), (37, .goto 4, 3), (40, .iconst 0, 1), (41, .istore 8, 2), (43, .aload_n 3, 1), (44, .iload_n 2, 1), (45, .iload 7, 2), (47, .iadd, 1), (48, .iaload, 1), (49, .istore 9, 2), (51, .iload 8, 2), (53, .ifCond .ne 8, 3), (56, .iload 7, 2)]
theorem nKb68_1 : (nKa68_1.all fun e => decide (decode nM68.2.1 e.1 = .ok e.2)) = true := by decide +kernel
def nKa68_2 : List (Nat × Instr × Nat) := [(58, .ifCond .ne 7, 3), (61, .iconst 0, 1), (62, .goto 4, 3), (65, .iconst 1, 1), (66, .istore 10, 2), (68, .iload 7, 2), (70, .ifCond .le 34, 3), (73, .iload 6, 2), (75, .iload 10, 2), (77, .iadd, 1), (78, .iload 9, 2), (80, .iadd, 1), (81, .iload 4, 2), (83, .if_icmp .le 21, 3), (86, .iinc 5 1, 3), (89, .aload_n 0, 1), (90, .getfield 31, 3)]
theorem nKb68_2 : (nKa68_2.all fun e => decide (decode nM68.2.1 e.1 = .ok e.2)) = true := by decide +kernel
def nKa68_3 : List (Nat × Instr × Nat) := [(93, .iload 5, 2), (95, .iconst 1, 1), (96, .iastore, 1), (97, .iload 9, 2), (99, .istore 6, 2), (101, .goto 13, 3), (104, .iload 6, 2), (106, .iload 10, 2), (108, .iload 9, 2), (110, .iadd, 1), (111, .iadd, 1), (112, .istore 6, 2), (114, .iload 8, 2), (116, .ifCond .eq 20, 3), (119, .aload_n 0, 1), (120, .getfield 31, 3), (123, .iload 5, 2)]
theorem nKb68_3 : (nKa68_3.all fun e => decide (decode nM68.2.1 e.1 = .ok e.2)) = true := by decide +kernel
def nKa68_4 : List (Nat × Instr × Nat) := [(125, .dup2, 1), (126, .iaload, 1), (127, .aload_n 1, 1), (128, .getfield 131, 3), (131, .iload 7, 2), (133, .iaload, 1), (134, .iadd, 1), (135, .iastore, 1), (136, .aload_n 0, 1), (137, .getfield 25, 3), (140, .iload_n 2, 1), (141, .iload 7, 2), (143, .iadd, 1), (144, .iload 5, 2), (146, .iastore, 1), (147, .iinc 7 1, 3), (150, .goto (-134), 3)]
theorem nKb68_4 : (nKa68_4.all fun e => decide (decode nM68.2.1 e.1 = .ok e.2)) = true := by decide +kernel
def nKa68_5 : List (Nat × Instr × Nat) := [(153, .aload_n 1, 1), (154, .getfield 47, 3), (157, .ifCond .ne 7, 3), (160, .iconst 0, 1), (161, .goto 7, 3), (164, .iload 5, 2), (166, .iconst 1, 1), (167, .iadd, 1), (168, .ireturn, 1)]
theorem nKb68_5 : (nKa68_5.all fun e => decide (decode nM68.2.1 e.1 = .ok e.2)) = true := by decide +kernel
def nK68 : List (Nat × Instr × Nat) := nKa68_0 ++ (nKa68_1 ++ (nKa68_2 ++ (nKa68_3 ++ (nKa68_4 ++ (nKa68_5)))))
theorem nKok68 : (nK68.all fun e => decide (decode nM68.2.1 e.1 = .ok e.2)) = true := nAll nKb68_0 (nAll nKb68_1 (nAll nKb68_2 (nAll nKb68_3 (nAll nKb68_4 (nKb68_5)))))
def nKa69_0 : List (Nat × Instr × Nat) := [(0, .aload_n 0, 1), (1, .getfield 12, 3), (4, .iload_n 1, 1), (5, .invokevirtual 122, 3), (8, .iconst 0, 1), (9, .istore_n 2, 1), (10, .iload_n 2, 1), (11, .aload_n 0, 1), (12, .getfield 22, 3), (15, .iload_n 1, 1), (16, .iaload, 1), (17, .if_icmp .ge 122, 3), (20, .iload_n 2, 1), (21, .bipush 60, 2), (23, .if_icmp .ge 116, 3), (26, .iload_n 2, 1), (27, .ifCond .ne 17, 3), (30, .aload_n 0, 1), (31, .getfield 22, 3), (34, .iload_n 1, 1), (35, .iaload, 1)]
theorem nKb69_0 : (nKa69_0.all fun e => decide (decode nM69.2.1 e.1 = .ok e.2)) = true := by decide +kernel
def nKa69_1 : List (Nat × Instr × Nat) := [(36, .iconst 1, 1), (37, .if_icmp .le 7, 3), (40, .iconst 1, 1), (41, .goto 4, 3), (44, .iconst 0, 1), (45, .istore_n 3, 1), (46, .aload_n 0, 1), (47, .getfield 12, 3), (50, .iload_n 3, 1), (51, .ifCond .eq 19, 3), (54, .aload_n 0, 1), (55, .getfield 31, 3), (58, .iconst 0, 1), (59, .iaload, 1), (60, .aload_n 0, 1), (61, .getfield 31, 3), (64, .iconst 1, 1), (65, .iaload, 1), (66, .iadd, 1), (67, .goto 9, 3), (70, .aload_n 0, 1)]
theorem nKb69_1 : (nKa69_1.all fun e => decide (decode nM69.2.1 e.1 = .ok e.2)) = true := by decide +kernel
def nKa69_2 : List (Nat × Instr × Nat) := [(71, .getfield 31, 3), (74, .iload_n 2, 1), (75, .iaload, 1), (76, .invokevirtual 119, 3), (79, .iload_n 2, 1), (80, .ifCond .ne 11, 3), (83, .aload_n 0, 1), (84, .getfield 12, 3), (87, .iload_n 1, 1), (88, .invokevirtual 122, 3), (91, .aload_n 0, 1), (92, .getfield 12, 3), (95, .aload_n 0, 1), (96, .getfield 31, 3), (99, .iload_n 2, 1), (100, .iaload, 1), (101, .invokevirtual 125, 3), (104, .aload_n 0, 1), (105, .getfield 34, 3), (108, .iload_n 2, 1), (109, .aload_n 0, 1)]
theorem nKb69_2 : (nKa69_2.all fun e => decide (decode nM69.2.1 e.1 = .ok e.2)) = true := by decide +kernel
def nKa69_3 : List (Nat × Instr × Nat) := [(110, .getfield 12, 3), (113, .getfield 134, 3), (116, .iastore, 1), (117, .aload_n 0, 1), (118, .getfield 12, 3), (121, .getfield 137, 3), (124, .iload_n 1, 1), (125, .aload_n 0, 1), (126, .getfield 12, 3), (129, .getfield 134, 3), (132, .iastore, 1), (133, .iinc 2 1, 3), (136, .goto (-126), 3), (139, .return_, 1)]
theorem nKb69_3 : (nKa69_3.all fun e => decide (decode nM69.2.1 e.1 = .ok e.2)) = true := by decide +kernel
def nK69 : List (Nat × Instr × Nat) := nKa69_0 ++ (nKa69_1 ++ (nKa69_2 ++ (nKa69_3)))
theorem nKok69 : (nK69.all fun e => decide (decode nM69.2.1 e.1 = .ok e.2)) = true := nAll nKb69_0 (nAll nKb69_1 (nAll nKb69_2 (nKb69_3)))
def nKa70_0 : List (Nat × Instr × Nat) := [(0, .iload_n 1, 1), (1, .istore_n 3, 1), (2, .iload_n 3, 1), (3, .iload_n 1, 1), (4, .iload_n 2, 1), (5, .iadd, 1), (6, .if_icmp .ge 26, 3), (9, .aload_n 0, 1), (10, .getfield 28, 3), (13, .iload_n 3, 1), (14, .aload_n 0, 1), (15, .getfield 34, 3), (18, .aload_n 0, 1), (19, .getfield 25, 3), (22, .iload_n 3, 1), (23, .iaload, 1), (24, .iaload, 1), (25, .iastore, 1), (26, .iinc 3 1, 3), (29, .goto (-27), 3), (32, .return_, 1)]
theorem nKb70_0 : (nKa70_0.all fun e => decide (decode nM70.2.1 e.1 = .ok e.2)) = true := by decide +kernel
def nK70 : List (Nat × Instr × Nat) := nKa70_0
theorem nKok70 : (nK70.all fun e => decide (decode nM70.2.1 e.1 = .ok e.2)) = true := nKb70_0
def nKa71_0 : List (Nat × Instr × Nat) := [(0, .aload_n 0, 1), (1, .getfield 34, 3), (4, .aload_n 0, 1), (5, .getfield 37, 3), (8, .if_icmp .ne 34, 3), (11, .aload_n 0, 1), (12, .getfield 9, 3), (15, .aload_n 0, 1), (16, .getfield 27, 3), (19, .iaload, 1), (20, .iload_n 2, 1), (21, .iadd, 1), (22, .aload_n 0, 1), (23, .getfield 31, 3), (26, .if_icmp .gt 16, 3), (29, .aload_n 0, 1), (30, .iload_n 1, 1), (31, .invokevirtual 43, 3), (34, .aload_n 0, 1), (35, .iload_n 2, 1), (36, .invokevirtual 47, 3), (39, .goto 42, 3), (42, .aload_n 0, 1), (43, .getfield 37, 3), (46, .bipush 60, 2), (48, .if_icmp .ge 33, 3), (51, .aload_n 0, 1), (52, .getfield 21, 3), (55, .aload_n 0, 1), (56, .getfield 37, 3)]
theorem nKb71_0 : (nKa71_0.all fun e => decide (decode nM71.2.1 e.1 = .ok e.2)) = true := by decide +kernel
def nKa71_1 : List (Nat × Instr × Nat) := [(59, .iload_n 1, 1), (60, .iastore, 1), (61, .aload_n 0, 1), (62, .getfield 24, 3), (65, .aload_n 0, 1), (66, .getfield 37, 3), (69, .iload_n 2, 1), (70, .iastore, 1), (71, .aload_n 0, 1), (72, .dup, 1), (73, .getfield 37, 3), (76, .iconst 1, 1), (77, .iadd, 1), (78, .putfield 37, 3), (81, .return_, 1)]
theorem nKb71_1 : (nKa71_1.all fun e => decide (decode nM71.2.1 e.1 = .ok e.2)) = true := by decide +kernel
def nK71 : List (Nat × Instr × Nat) := nKa71_0 ++ (nKa71_1)
theorem nKok71 : (nK71.all fun e => decide (decode nM71.2.1 e.1 = .ok e.2)) = true := nAll nKb71_0 (nKb71_1)
def nKa72_0 : List (Nat × Instr × Nat) := [(0, .iconst 0, 1), (1, .istore_n 2, 1), (2, .iconst 0, 1), (3, .istore_n 3, 1), (4, .iload_n 3, 1), (5, .aload_n 0, 1), (6, .getfield 24, 3), (9, .if_icmp .ge 26, 3), (12, .aload_n 0, 1), (13, .aload_n 1, 1), (14, .aload_n 0, 1), (15, .getfield 11, 3), (18, .iload_n 3, 1), (19, .aaload, 1), (20, .invokevirtual 71, 3), (23, .ifCond .eq 6, 3), (26, .iinc 2 1, 3), (29, .iinc 3 1, 3), (32, .goto (-28), 3), (35, .iload_n 2, 1), (36, .ireturn, 1)]
theorem nKb72_0 : (nKa72_0.all fun e => decide (decode nM72.2.1 e.1 = .ok e.2)) = true := by decide +kernel
def nK72 : List (Nat × Instr × Nat) := nKa72_0
theorem nKok72 : (nK72.all fun e => decide (decode nM72.2.1 e.1 = .ok e.2)) = true := nKb72_0
def nKa73_0 : List (Nat × Instr × Nat) := [(0, .aload_n 1, 1), (1, .getfield 65, 3), (4, .tableswitch 80 4 6 #[28, 52, 66], 28), (32, .aload_n 2, 1), (33, .getfield 65, 3), (36, .ifCond .ne 18, 3), (39, .aload_n 2, 1), (40, .getfield 68, 3), (43, .aload_n 1, 1), (44, .getfield 68, 3), (47, .if_icmp .gt 7, 3), (50, .iconst 1, 1), (51, .goto 4, 3), (54, .iconst 0, 1), (55, .ireturn, 1), (56, .aload_n 2, 1), (57, .getfield 65, 3), (60, .iconst 2, 1), (61, .if_icmp .ne 7, 3), (64, .iconst 1, 1), (65, .goto 4, 3), (68, .iconst 0, 1), (69, .ireturn, 1), (70, .aload_n 2, 1), (71, .getfield 65, 3), (74, .iconst 3, 1), (75, .if_icmp .ne 7, 3), (78, .iconst 1, 1), (79, .goto 4, 3), (82, .iconst 0, 1)]
theorem nKb73_0 : (nKa73_0.all fun e => decide (decode nM73.2.1 e.1 = .ok e.2)) = true := by decide +kernel
def nKa73_1 : List (Nat × Instr × Nat) := [(83, .ireturn, 1), (84, .iconst 0, 1), (85, .ireturn, 1)]
theorem nKb73_1 : (nKa73_1.all fun e => decide (decode nM73.2.1 e.1 = .ok e.2)) = true := by decide +kernel
def nK73 : List (Nat × Instr × Nat) := nKa73_0 ++ (nKa73_1)
theorem nKok73 : (nK73.all fun e => decide (decode nM73.2.1 e.1 = .ok e.2)) = true := nAll nKb73_0 (nKb73_1)
def nKa74_0 : List (Nat × Instr × Nat) := [(0, .iconst 0, 1), (1, .istore_n 1, 1), (2, .iload_n 1, 1), (3, .bipush 60, 2), (5, .if_icmp .ge 24, 3), (8, .aload_n 0, 1), (9, .getfield 34, 3), (12, .aload_n 0, 1), (13, .getfield 37, 3), (16, .if_icmp .ge 13, 3), (19, .aload_n 0, 1), (20, .invokevirtual 40, 3), (23, .iinc 1 1, 3), (26, .goto (-24), 3), (29, .return_, 1)]
theorem nKb74_0 : (nKa74_0.all fun e => decide (decode nM74.2.1 e.1 = .ok e.2)) = true := by decide +kernel
def nK74 : List (Nat × Instr × Nat) := nKa74_0
theorem nKok74 : (nK74.all fun e => decide (decode nM74.2.1 e.1 = .ok e.2)) = true := nKb74_0
