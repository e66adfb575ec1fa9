/-! code tables, written by program -/
def nKa75_0 : List (Nat × Instr × Nat) := [(0, .aload_n 0, 1), (1, .getfield 41, 3), (4, .getfield 97, 3), (7, .ifCond .ne 7, 3), (10, .iconst 0, 1), (11, .goto 13, 3), (14, .aload_n 0, 1), (15, .getfield 12, 3), (18, .getfield 152, 3), (21, .getfield 170, 3), (24, .ireturn, 1)]
theorem nKb75_0 : (nKa75_0.all fun e => decide (decode nM75.2.1 e.1 = .ok e.2)) = true := by decide +kernel
def nK75 : List (Nat × Instr × Nat) := nKa75_0
theorem nKok75 : (nK75.all fun e => decide (decode nM75.2.1 e.1 = .ok e.2)) = true := nKb75_0
def nKa76_0 : List (Nat × Instr × Nat) := [(0, .iconst 0, 1), (1, .istore_n 1, 1), (2, .iconst (-1), 1), (3, .istore_n 2, 1), (4, .iconst 0, 1), (5, .istore_n 3, 1), (6, .iload_n 3, 1), (7, .aload_n 0, 1), (8, .getfield 41, 3), (11, .getfield 97, 3), (14, .if_icmp .ge 123, 3), (17, .aload_n 0, 1), (18, .getfield 41, 3), (21, .getfield 102, 3), (24, .iload_n 3, 1), (25, .aaload, 1), (26, .astore 4, 2), (28, .iconst 0, 1), (29, .istore 5, 2), (31, .iload 5, 2), (33, .aload 4, 2)]
theorem nKb76_0 : (nKa76_0.all fun e => decide (decode nM76.2.1 e.1 = .ok e.2)) = true := by decide +kernel
def nKa76_1 : List (Nat × Instr × Nat) := [(35, .getfield 106, 3), (38, .if_icmp .ge 93, 3), (41, .aload_n 0, 1), (42, .getfield 12, 3), (45, .getfield 109, 3), (48, .iload_n 3, 1), (49, .iaload, 1), (50, .iload 5, 2), (52, .iadd, 1), (53, .istore 6, 2), (55, .aload_n 0, 1), (56, .getfield 35, 3), (59, .iload 6, 2), (61, .iconst 0, 1), (62, .iastore, 1), (63, .aload 4, 2), (65, .getfield 119, 3), (68, .iload 5, 2), (70, .iaload, 1), (71, .iconst 2, 1), (72, .if_icmp .ne 53, 3)]
theorem nKb76_1 : (nKa76_1.all fun e => decide (decode nM76.2.1 e.1 = .ok e.2)) = true := by decide +kernel
def nKa76_2 : List (Nat × Instr × Nat) := [(75, .aload_n 0, 1), (76, .getfield 12, 3), (79, .iload_n 3, 1), (80, .iload 5, 2), (82, .invokevirtual 125, 3), (85, .istore 7, 2), (87, .aload_n 0, 1), (88, .getfield 41, 3), (91, .getfield 129, 3), (94, .invokevirtual 133, 3), (97, .ifCond .eq 13, 3), (100, .iload 7, 2), (102, .iload_n 2, 1), (103, .if_icmp .eq 7, 3), (106, .iconst 1, 1), (107, .goto 6, 3), (110, .iload_n 1, 1), (111, .iconst 1, 1), (112, .iadd, 1), (113, .istore_n 1, 1), (114, .iload 7, 2)]
theorem nKb76_2 : (nKa76_2.all fun e => decide (decode nM76.2.1 e.1 = .ok e.2)) = true := by decide +kernel
def nKa76_3 : List (Nat × Instr × Nat) := [(116, .istore_n 2, 1), (117, .aload_n 0, 1), (118, .getfield 35, 3), (121, .iload 6, 2), (123, .iload_n 1, 1), (124, .iastore, 1), (125, .iinc 5 1, 3), (128, .goto (-97), 3), (131, .iinc 3 1, 3), (134, .goto (-128), 3), (137, .return_, 1)]
theorem nKb76_3 : (nKa76_3.all fun e => decide (decode nM76.2.1 e.1 = .ok e.2)) = true := by decide +kernel
def nK76 : List (Nat × Instr × Nat) := nKa76_0 ++ (nKa76_1 ++ (nKa76_2 ++ (nKa76_3)))
theorem nKok76 : (nK76.all fun e => decide (decode nM76.2.1 e.1 = .ok e.2)) = true := nAll nKb76_0 (nAll nKb76_1 (nAll nKb76_2 (nKb76_3)))
def nKa77_0 : List (Nat × Instr × Nat) := [(0, .aload_n 0, 1), (1, .getfield 28, 3), (4, .aload_n 0, 1), (5, .getfield 18, 3), (8, .iload_n 1, 1), (9, .iaload, 1), (10, .iload_n 2, 1), (11, .iadd, 1), (12, .iaload, 1), (13, .ireturn, 1)]
theorem nKb77_0 : (nKa77_0.all fun e => decide (decode nM77.2.1 e.1 = .ok e.2)) = true := by decide +kernel
def nK77 : List (Nat × Instr × Nat) := nKa77_0
theorem nKok77 : (nK77.all fun e => decide (decode nM77.2.1 e.1 = .ok e.2)) = true := nKb77_0
def nKa78_0 : List (Nat × Instr × Nat) := [(0, .aload_n 0, 1), (1, .getfield 11, 3), (4, .bipush 11, 2), (6, .iaload, 1), (7, .iconst 1, 1), (8, .if_icmp .ne 7, 3), (11, .iconst 1, 1), (12, .goto 4, 3), (15, .iconst 0, 1), (16, .ireturn, 1)]
theorem nKb78_0 : (nKa78_0.all fun e => decide (decode nM78.2.1 e.1 = .ok e.2)) = true := by decide +kernel
def nK78 : List (Nat × Instr × Nat) := nKa78_0
theorem nKok78 : (nK78.all fun e => decide (decode nM78.2.1 e.1 = .ok e.2)) = true := nKb78_0
def nKa79_0 : List (Nat × Instr × Nat) := [(0, .iconst 0, 1), (1, .istore_n 1, 1), (2, .iload_n 1, 1), (3, .aload_n 0, 1), (4, .getfield 41, 3), (7, .getfield 97, 3), (10, .if_icmp .ge 151, 3), (13, .aload_n 0, 1), (14, .getfield 41, 3), (17, .getfield 102, 3), (20, .iload_n 1, 1), (21, .aaload, 1), (22, .astore_n 2, 1), (23, .iconst 0, 1), (24, .istore_n 3, 1), (25, .iload_n 3, 1), (26, .aload_n 2, 1), (27, .getfield 106, 3)]
theorem nKb79_0 : (nKa79_0.all fun e => decide (decode nM79.2.1 e.1 = .ok e.2)) = true := by decide +kernel
def nKa79_1 : List (Nat × Instr × Nat) := [(30, .if_icmp .ge 125, 3), (33, .aload_n 0, 1), (34, .getfield 12, 3), (37, .getfield 109, 3), (40, .iload_n 1, 1), (41, .iaload, 1), (42, .iload_n 3, 1), (43, .iadd, 1), (44, .istore 4, 2), (46, .aload_n 2, 1), (47, .getfield 119, 3), (50, .iload_n 3, 1), (51, .iaload, 1), (52, .lookupswitch 84 #[(1, 28), (2, 64)], 28), (80, .aload_n 0, 1), (81, .getfield 32, 3), (84, .iload 4, 2), (86, .aload_n 0, 1)]
theorem nKb79_1 : (nKa79_1.all fun e => decide (decode nM79.2.1 e.1 = .ok e.2)) = true := by decide +kernel
def nKa79_2 : List (Nat × Instr × Nat) := [(87, .aload_n 0, 1), (88, .getfield 38, 3), (91, .iload 4, 2), (93, .iaload, 1), (94, .aload_n 2, 1), (95, .getfield 139, 3), (98, .iload_n 3, 1), (99, .iaload, 1), (100, .aload_n 0, 1), (101, .getfield 12, 3), (104, .iload_n 1, 1), (105, .iload_n 3, 1), (106, .invokevirtual 125, 3), (109, .invokevirtual 142, 3), (112, .iastore, 1), (113, .goto 36, 3), (116, .aload_n 0, 1), (117, .getfield 32, 3)]
theorem nKb79_2 : (nKa79_2.all fun e => decide (decode nM79.2.1 e.1 = .ok e.2)) = true := by decide +kernel
def nKa79_3 : List (Nat × Instr × Nat) := [(120, .iload 4, 2), (122, .aload_n 0, 1), (123, .getfield 35, 3), (126, .iload 4, 2), (128, .iaload, 1), (129, .invokestatic 146, 3), (132, .iastore, 1), (133, .goto 16, 3), (136, .aload_n 0, 1), (137, .getfield 32, 3), (140, .iload 4, 2), (142, .aload_n 2, 1), (143, .getfield 122, 3), (146, .iload_n 3, 1), (147, .iaload, 1), (148, .iastore, 1), (149, .iinc 3 1, 3), (152, .goto (-127), 3)]
theorem nKb79_3 : (nKa79_3.all fun e => decide (decode nM79.2.1 e.1 = .ok e.2)) = true := by decide +kernel
def nKa79_4 : List (Nat × Instr × Nat) := [(155, .iinc 1 1, 3), (158, .goto (-156), 3), (161, .return_, 1)]
theorem nKb79_4 : (nKa79_4.all fun e => decide (decode nM79.2.1 e.1 = .ok e.2)) = true := by decide +kernel
def nK79 : List (Nat × Instr × Nat) := nKa79_0 ++ (nKa79_1 ++ (nKa79_2 ++ (nKa79_3 ++ (nKa79_4))))
theorem nKok79 : (nK79.all fun e => decide (decode nM79.2.1 e.1 = .ok e.2)) = true := nAll nKb79_0 (nAll nKb79_1 (nAll nKb79_2 (nAll nKb79_3 (nKb79_4))))
def nKa80_0 : List (Nat × Instr × Nat) := [(0, .iload_n 1, 1), (1, .iconst (-1), 1), (2, .if_icmp .ne 5, 3), (5, .iconst 2, 1), (6, .ireturn, 1), (7, .iload_n 2, 1), (8, .ifCond .ne 13, 3), (11, .aload_n 0, 1), (12, .getfield 21, 3), (15, .getfield 151, 3), (18, .iload_n 1, 1), (19, .iaload, 1), (20, .ireturn, 1), (21, .aload_n 0, 1), (22, .getfield 12, 3), (25, .getfield 152, 3), (28, .getfield 156, 3), (31, .iload_n 1, 1), (32, .iaload, 1), (33, .istore 4, 2), (35, .iload_n 2, 1), (36, .iconst 1, 1), (37, .if_icmp .ne 11, 3), (40, .iload 4, 2), (42, .invokestatic 146, 3), (45, .iconst 1, 1), (46, .iadd, 1), (47, .ireturn, 1), (48, .iload 4, 2), (50, .iload_n 3, 1)]
theorem nKb80_0 : (nKa80_0.all fun e => decide (decode nM80.2.1 e.1 = .ok e.2)) = true := by decide +kernel
def nKa80_1 : List (Nat × Instr × Nat) := [(51, .isub, 1), (52, .invokestatic 161, 3), (55, .istore 5, 2), (57, .iload 5, 2), (59, .ifCond .ne 5, 3), (62, .iconst 4, 1), (63, .ireturn, 1), (64, .iload 5, 2), (66, .iconst 1, 1), (67, .if_icmp .ne 8, 3), (70, .bipush 9, 2), (72, .goto 4, 3), (75, .iconst 5, 1), (76, .ireturn, 1)]
theorem nKb80_1 : (nKa80_1.all fun e => decide (decode nM80.2.1 e.1 = .ok e.2)) = true := by decide +kernel
def nK80 : List (Nat × Instr × Nat) := nKa80_0 ++ (nKa80_1)
theorem nKok80 : (nK80.all fun e => decide (decode nM80.2.1 e.1 = .ok e.2)) = true := nAll nKb80_0 (nKb80_1)
def nKa81_0 : List (Nat × Instr × Nat) := [(0, .iload_n 0, 1), (1, .ifCond .ge 8, 3), (4, .iload_n 0, 1), (5, .ineg, 1), (6, .goto 4, 3), (9, .iload_n 0, 1), (10, .ireturn, 1)]
theorem nKb81_0 : (nKa81_0.all fun e => decide (decode nM81.2.1 e.1 = .ok e.2)) = true := by decide +kernel
def nK81 : List (Nat × Instr × Nat) := nKa81_0
theorem nKok81 : (nK81.all fun e => decide (decode nM81.2.1 e.1 = .ok e.2)) = true := nKb81_0
def nKa82_0 : List (Nat × Instr × Nat) := [(0, .iload_n 1, 1), (1, .istore_n 2, 1), (2, .iload_n 2, 1), (3, .ifCond .lt 24, 3), (6, .aload_n 0, 1), (7, .aload_n 0, 1), (8, .getfield 45, 3), (11, .iload_n 2, 1), (12, .aaload, 1), (13, .invokevirtual 166, 3), (16, .ifCond .eq 5, 3), (19, .iload_n 2, 1), (20, .ireturn, 1), (21, .iinc 2 (-1), 3), (24, .goto (-22), 3), (27, .iconst (-1), 1), (28, .ireturn, 1)]
theorem nKb82_0 : (nKa82_0.all fun e => decide (decode nM82.2.1 e.1 = .ok e.2)) = true := by decide +kernel
def nK82 : List (Nat × Instr × Nat) := nKa82_0
theorem nKok82 : (nK82.all fun e => decide (decode nM82.2.1 e.1 = .ok e.2)) = true := nKb82_0
def nKa83_0 : List (Nat × Instr × Nat) := [(0, .iconst 0, 1), (1, .istore_n 2, 1), (2, .iload_n 2, 1), (3, .aload_n 0, 1), (4, .getfield 60, 3), (7, .if_icmp .ge 23, 3), (10, .aload_n 1, 1), (11, .iload_n 2, 1), (12, .iaload, 1), (13, .aload_n 0, 1), (14, .getfield 32, 3), (17, .iload_n 2, 1), (18, .iaload, 1), (19, .if_icmp .eq 5, 3), (22, .iconst 0, 1), (23, .ireturn, 1), (24, .iinc 2 1, 3), (27, .goto (-25), 3), (30, .iconst 1, 1), (31, .ireturn, 1)]
theorem nKb83_0 : (nKa83_0.all fun e => decide (decode nM83.2.1 e.1 = .ok e.2)) = true := by decide +kernel
def nK83 : List (Nat × Instr × Nat) := nKa83_0
theorem nKok83 : (nK83.all fun e => decide (decode nM83.2.1 e.1 = .ok e.2)) = true := nKb83_0
def nKa84_0 : List (Nat × Instr × Nat) := [(0, .aload_n 0, 1), (1, .getfield 29, 3), (4, .aload_n 0, 1), (5, .getfield 12, 3), (8, .getfield 109, 3), (11, .iload_n 1, 1), (12, .iaload, 1), (13, .iload_n 2, 1), (14, .iadd, 1), (15, .iaload, 1), (16, .ireturn, 1)]
theorem nKb84_0 : (nKa84_0.all fun e => decide (decode nM84.2.1 e.1 = .ok e.2)) = true := by decide +kernel
def nK84 : List (Nat × Instr × Nat) := nKa84_0
theorem nKok84 : (nK84.all fun e => decide (decode nM84.2.1 e.1 = .ok e.2)) = true := nKb84_0
def nKa85_0 : List (Nat × Instr × Nat) := [(0, .aload_n 0, 1), (1, .getfield 25, 3), (4, .aload_n 0, 1), (5, .getfield 18, 3), (8, .iload_n 1, 1), (9, .iaload, 1), (10, .iload_n 2, 1), (11, .iadd, 1), (12, .iaload, 1), (13, .ireturn, 1)]
theorem nKb85_0 : (nKa85_0.all fun e => decide (decode nM85.2.1 e.1 = .ok e.2)) = true := by decide +kernel
def nK85 : List (Nat × Instr × Nat) := nKa85_0
theorem nKok85 : (nK85.all fun e => decide (decode nM85.2.1 e.1 = .ok e.2)) = true := nKb85_0
def nKa86_0 : List (Nat × Instr × Nat) := [(0, .aload_n 0, 1), (1, .getfield 35, 3), (4, .aload_n 0, 1), (5, .getfield 12, 3), (8, .getfield 109, 3), (11, .iload_n 1, 1), (12, .iaload, 1), (13, .iload_n 2, 1), (14, .iadd, 1), (15, .iaload, 1), (16, .ireturn, 1)]
theorem nKb86_0 : (nKa86_0.all fun e => decide (decode nM86.2.1 e.1 = .ok e.2)) = true := by decide +kernel
def nK86 : List (Nat × Instr × Nat) := nKa86_0
theorem nKok86 : (nK86.all fun e => decide (decode nM86.2.1 e.1 = .ok e.2)) = true := nKb86_0
def nKa87_0 : List (Nat × Instr × Nat) := [(0, .iload_n 1, 1), (1, .tableswitch 134 0 9 #[55, 63, 68, 76, 85, 93, 101, 109, 117, 125], 55), (56, .aload_n 0, 1), (57, .getfield 12, 3), (60, .getfield 70, 3), (63, .ireturn, 1), (64, .aload_n 0, 1), (65, .getfield 62, 3), (68, .ireturn, 1), (69, .aload_n 0, 1), (70, .getfield 12, 3), (73, .invokevirtual 181, 3), (76, .ireturn, 1), (77, .aload_n 0, 1), (78, .getfield 12, 3), (81, .iconst 1, 1), (82, .invokevirtual 185, 3), (85, .ireturn, 1), (86, .aload_n 0, 1), (87, .getfield 12, 3), (90, .invokevirtual 189, 3)]
theorem nKb87_0 : (nKa87_0.all fun e => decide (decode nM87.2.1 e.1 = .ok e.2)) = true := by decide +kernel
def nKa87_1 : List (Nat × Instr × Nat) := [(93, .ireturn, 1), (94, .aload_n 0, 1), (95, .getfield 12, 3), (98, .invokevirtual 192, 3), (101, .ireturn, 1), (102, .aload_n 0, 1), (103, .getfield 12, 3), (106, .invokevirtual 195, 3), (109, .ireturn, 1), (110, .aload_n 0, 1), (111, .getfield 12, 3), (114, .invokevirtual 198, 3), (117, .ireturn, 1), (118, .aload_n 0, 1), (119, .getfield 58, 3), (122, .getfield 201, 3), (125, .ireturn, 1), (126, .aload_n 0, 1), (127, .getfield 12, 3), (130, .iconst 2, 1), (131, .invokevirtual 185, 3)]
theorem nKb87_1 : (nKa87_1.all fun e => decide (decode nM87.2.1 e.1 = .ok e.2)) = true := by decide +kernel
def nKa87_2 : List (Nat × Instr × Nat) := [(134, .ireturn, 1), (135, .sipush (-1002), 3), (138, .ireturn, 1)]
theorem nKb87_2 : (nKa87_2.all fun e => decide (decode nM87.2.1 e.1 = .ok e.2)) = true := by decide +kernel
def nK87 : List (Nat × Instr × Nat) := nKa87_0 ++ (nKa87_1 ++ (nKa87_2))
theorem nKok87 : (nK87.all fun e => decide (decode nM87.2.1 e.1 = .ok e.2)) = true := nAll nKb87_0 (nAll nKb87_1 (nKb87_2))
def nKa88_0 : List (Nat × Instr × Nat) := [(0, .iconst 0, 1), (1, .istore_n 1, 1), (2, .iconst 0, 1), (3, .istore_n 2, 1), (4, .iload_n 2, 1), (5, .aload_n 0, 1), (6, .getfield 24, 3), (9, .if_icmp .ge 21, 3), (12, .iload_n 1, 1), (13, .aload_n 0, 1), (14, .getfield 11, 3), (17, .iload_n 2, 1), (18, .aaload, 1), (19, .getfield 75, 3), (22, .iadd, 1), (23, .istore_n 1, 1), (24, .iinc 2 1, 3), (27, .goto (-23), 3), (30, .iload_n 1, 1), (31, .ireturn, 1)]
theorem nKb88_0 : (nKa88_0.all fun e => decide (decode nM88.2.1 e.1 = .ok e.2)) = true := by decide +kernel
def nK88 : List (Nat × Instr × Nat) := nKa88_0
theorem nKok88 : (nK88.all fun e => decide (decode nM88.2.1 e.1 = .ok e.2)) = true := nKb88_0
def nKa89_0 : List (Nat × Instr × Nat) := [(0, .iconst 0, 1), (1, .istore_n 2, 1), (2, .iconst 0, 1), (3, .istore_n 3, 1), (4, .iload_n 3, 1), (5, .aload_n 0, 1), (6, .getfield 24, 3), (9, .if_icmp .ge 51, 3), (12, .iconst 0, 1), (13, .istore 4, 2), (15, .iload 4, 2), (17, .aload_n 0, 1), (18, .getfield 11, 3), (21, .iload_n 3, 1), (22, .aaload, 1), (23, .getfield 75, 3), (26, .if_icmp .ge 28, 3), (29, .aload_n 0, 1), (30, .getfield 11, 3), (33, .iload_n 3, 1), (34, .aaload, 1), (35, .getfield 54, 3), (38, .iload 4, 2), (40, .iaload, 1), (41, .iload_n 1, 1), (42, .if_icmp .ne 6, 3), (45, .iinc 2 1, 3), (48, .iinc 4 1, 3), (51, .goto (-36), 3), (54, .iinc 3 1, 3)]
theorem nKb89_0 : (nKa89_0.all fun e => decide (decode nM89.2.1 e.1 = .ok e.2)) = true := by decide +kernel
def nKa89_1 : List (Nat × Instr × Nat) := [(57, .goto (-53), 3), (60, .iload_n 2, 1), (61, .ireturn, 1)]
theorem nKb89_1 : (nKa89_1.all fun e => decide (decode nM89.2.1 e.1 = .ok e.2)) = true := by decide +kernel
def nK89 : List (Nat × Instr × Nat) := nKa89_0 ++ (nKa89_1)
theorem nKok89 : (nK89.all fun e => decide (decode nM89.2.1 e.1 = .ok e.2)) = true := nAll nKb89_0 (nKb89_1)
def nKa90_0 : List (Nat × Instr × Nat) := [(0, .iconst 0, 1), (1, .istore_n 1, 1), (2, .iconst 0, 1), (3, .istore_n 2, 1), (4, .iload_n 2, 1), (5, .aload_n 0, 1), (6, .getfield 24, 3), (9, .if_icmp .ge 63, 3), (12, .iconst 0, 1), (13, .istore_n 3, 1), (14, .iload_n 3, 1), (15, .aload_n 0, 1), (16, .getfield 11, 3), (19, .iload_n 2, 1), (20, .aaload, 1), (21, .getfield 75, 3), (24, .if_icmp .ge 42, 3), (27, .aload_n 0, 1), (28, .getfield 11, 3), (31, .iload_n 2, 1), (32, .aaload, 1), (33, .getfield 54, 3), (36, .iload_n 3, 1), (37, .iaload, 1), (38, .iconst 1, 1), (39, .if_icmp .ne 21, 3), (42, .aload_n 0, 1), (43, .aload_n 0, 1), (44, .getfield 11, 3), (47, .iload_n 2, 1)]
theorem nKb90_0 : (nKa90_0.all fun e => decide (decode nM90.2.1 e.1 = .ok e.2)) = true := by decide +kernel
def nKa90_1 : List (Nat × Instr × Nat) := [(48, .aaload, 1), (49, .iload_n 3, 1), (50, .invokevirtual 78, 3), (53, .iconst (-1), 1), (54, .if_icmp .ne 6, 3), (57, .iinc 1 1, 3), (60, .iinc 3 1, 3), (63, .goto (-49), 3), (66, .iinc 2 1, 3), (69, .goto (-65), 3), (72, .iload_n 1, 1), (73, .ireturn, 1)]
theorem nKb90_1 : (nKa90_1.all fun e => decide (decode nM90.2.1 e.1 = .ok e.2)) = true := by decide +kernel
def nK90 : List (Nat × Instr × Nat) := nKa90_0 ++ (nKa90_1)
theorem nKok90 : (nK90.all fun e => decide (decode nM90.2.1 e.1 = .ok e.2)) = true := nAll nKb90_0 (nKb90_1)
def nKa91_0 : List (Nat × Instr × Nat) := [(0, .iconst 0, 1), (1, .istore_n 1, 1), (2, .iconst 0, 1), (3, .istore_n 2, 1), (4, .iload_n 2, 1), (5, .bipush 100, 2), (7, .if_icmp .ge 54, 3), (10, .iconst 0, 1), (11, .istore_n 3, 1), (12, .iconst 0, 1), (13, .istore 4, 2), (15, .iload 4, 2), (17, .aload_n 0, 1), (18, .getfield 24, 3), (21, .if_icmp .ge 26, 3), (24, .aload_n 0, 1), (25, .getfield 11, 3), (28, .iload 4, 2), (30, .aaload, 1), (31, .getfield 51, 3), (34, .iload_n 2, 1), (35, .if_icmp .ne 6, 3), (38, .iinc 3 1, 3), (41, .iinc 4 1, 3), (44, .goto (-29), 3), (47, .iload_n 3, 1), (48, .iconst 1, 1), (49, .if_icmp .le 6, 3), (52, .iinc 1 1, 3), (55, .iinc 2 1, 3)]
theorem nKb91_0 : (nKa91_0.all fun e => decide (decode nM91.2.1 e.1 = .ok e.2)) = true := by decide +kernel
def nKa91_1 : List (Nat × Instr × Nat) := [(58, .goto (-54), 3), (61, .iload_n 1, 1), (62, .ireturn, 1)]
theorem nKb91_1 : (nKa91_1.all fun e => decide (decode nM91.2.1 e.1 = .ok e.2)) = true := by decide +kernel
def nK91 : List (Nat × Instr × Nat) := nKa91_0 ++ (nKa91_1)
theorem nKok91 : (nK91.all fun e => decide (decode nM91.2.1 e.1 = .ok e.2)) = true := nAll nKb91_0 (nKb91_1)
def nKa92_0 : List (Nat × Instr × Nat) := [(0, .iconst 0, 1), (1, .istore_n 1, 1), (2, .iconst 0, 1), (3, .istore_n 2, 1), (4, .iload_n 2, 1), (5, .aload_n 0, 1), (6, .getfield 24, 3), (9, .if_icmp .ge 33, 3), (12, .aload_n 0, 1), (13, .getfield 11, 3), (16, .iload_n 2, 1), (17, .aaload, 1), (18, .invokevirtual 89, 3), (21, .ifCond .eq 15, 3), (24, .aload_n 0, 1), (25, .iload_n 2, 1), (26, .invokevirtual 93, 3), (29, .iconst (-1), 1), (30, .if_icmp .ne 6, 3), (33, .iinc 1 1, 3), (36, .iinc 2 1, 3), (39, .goto (-35), 3), (42, .iload_n 1, 1), (43, .ireturn, 1)]
theorem nKb92_0 : (nKa92_0.all fun e => decide (decode nM92.2.1 e.1 = .ok e.2)) = true := by decide +kernel
def nK92 : List (Nat × Instr × Nat) := nKa92_0
theorem nKok92 : (nK92.all fun e => decide (decode nM92.2.1 e.1 = .ok e.2)) = true := nKb92_0
def nKa93_0 : List (Nat × Instr × Nat) := [(0, .aload_n 0, 1), (1, .iload_n 1, 1), (2, .invokevirtual 82, 3), (5, .istore_n 2, 1), (6, .iconst 0, 1), (7, .istore_n 3, 1), (8, .iload_n 3, 1), (9, .aload_n 0, 1), (10, .getfield 24, 3), (13, .if_icmp .ge 49, 3), (16, .iconst 0, 1), (17, .istore 4, 2), (19, .iload 4, 2), (21, .aload_n 0, 1), (22, .getfield 11, 3), (25, .iload_n 3, 1), (26, .aaload, 1), (27, .getfield 75, 3), (30, .if_icmp .ge 26, 3), (33, .aload_n 0, 1), (34, .getfield 11, 3), (37, .iload_n 3, 1), (38, .aaload, 1), (39, .iload 4, 2), (41, .iload_n 2, 1), (42, .invokevirtual 85, 3), (45, .ifCond .eq 5, 3), (48, .iload_n 3, 1), (49, .ireturn, 1), (50, .iinc 4 1, 3)]
theorem nKb93_0 : (nKa93_0.all fun e => decide (decode nM93.2.1 e.1 = .ok e.2)) = true := by decide +kernel
def nKa93_1 : List (Nat × Instr × Nat) := [(53, .goto (-34), 3), (56, .iinc 3 1, 3), (59, .goto (-51), 3), (62, .iconst (-1), 1), (63, .ireturn, 1)]
theorem nKb93_1 : (nKa93_1.all fun e => decide (decode nM93.2.1 e.1 = .ok e.2)) = true := by decide +kernel
def nK93 : List (Nat × Instr × Nat) := nKa93_0 ++ (nKa93_1)
theorem nKok93 : (nK93.all fun e => decide (decode nM93.2.1 e.1 = .ok e.2)) = true := nAll nKb93_0 (nKb93_1)
def nKa94_0 : List (Nat × Instr × Nat) := [(0, .aload_n 0, 1), (1, .getfield 11, 3), (4, .iload_n 1, 1), (5, .aaload, 1), (6, .getfield 51, 3), (9, .istore_n 2, 1), (10, .iload_n 2, 1), (11, .iconst (-1), 1), (12, .if_icmp .eq 16, 3), (15, .aload_n 0, 1), (16, .iload_n 2, 1), (17, .invokevirtual 61, 3), (20, .iload_n 1, 1), (21, .if_icmp .ne 7, 3), (24, .iload_n 2, 1), (25, .goto 4, 3), (28, .iconst (-1), 1), (29, .ireturn, 1)]
theorem nKb94_0 : (nKa94_0.all fun e => decide (decode nM94.2.1 e.1 = .ok e.2)) = true := by decide +kernel
def nK94 : List (Nat × Instr × Nat) := nKa94_0
theorem nKok94 : (nK94.all fun e => decide (decode nM94.2.1 e.1 = .ok e.2)) = true := nKb94_0
def nKa95_0 : List (Nat × Instr × Nat) := [(0, .aload_n 0, 1), (1, .getfield 9, 3), (4, .iload_n 1, 1), (5, .iaload, 1), (6, .iconst 1, 1), (7, .if_icmp .ne 17, 3), (10, .aload_n 0, 1), (11, .getfield 15, 3), (14, .iload_n 1, 1), (15, .iaload, 1), (16, .iload_n 2, 1), (17, .if_icmp .ne 7, 3), (20, .iconst 1, 1), (21, .goto 4, 3), (24, .iconst 0, 1), (25, .ireturn, 1)]
theorem nKb95_0 : (nKa95_0.all fun e => decide (decode nM95.2.1 e.1 = .ok e.2)) = true := by decide +kernel
def nK95 : List (Nat × Instr × Nat) := nKa95_0
theorem nKok95 : (nK95.all fun e => decide (decode nM95.2.1 e.1 = .ok e.2)) = true := nKb95_0
def nKa96_0 : List (Nat × Instr × Nat) := [(0, .iconst 0, 1), (1, .istore_n 1, 1), (2, .iconst 0, 1), (3, .istore_n 2, 1), (4, .iload_n 2, 1), (5, .aload_n 0, 1), (6, .getfield 24, 3), (9, .if_icmp .ge 33, 3), (12, .aload_n 0, 1), (13, .getfield 11, 3), (16, .iload_n 2, 1), (17, .aaload, 1), (18, .invokevirtual 89, 3), (21, .ifCond .eq 15, 3), (24, .aload_n 0, 1), (25, .iload_n 2, 1), (26, .invokevirtual 93, 3), (29, .iload_n 2, 1), (30, .if_icmp .le 6, 3), (33, .iinc 1 1, 3), (36, .iinc 2 1, 3), (39, .goto (-35), 3), (42, .iload_n 1, 1), (43, .ireturn, 1)]
theorem nKb96_0 : (nKa96_0.all fun e => decide (decode nM96.2.1 e.1 = .ok e.2)) = true := by decide +kernel
def nK96 : List (Nat × Instr × Nat) := nKa96_0
theorem nKok96 : (nK96.all fun e => decide (decode nM96.2.1 e.1 = .ok e.2)) = true := nKb96_0
def nKa97_0 : List (Nat × Instr × Nat) := [(0, .iload_n 1, 1), (1, .tableswitch 81 0 4 #[35, 43, 51, 59, 67], 35), (36, .aload_n 0, 1), (37, .invokevirtual 159, 3), (40, .getfield 204, 3), (43, .ireturn, 1), (44, .aload_n 0, 1), (45, .invokevirtual 159, 3), (48, .getfield 207, 3), (51, .ireturn, 1), (52, .aload_n 0, 1), (53, .invokevirtual 159, 3), (56, .getfield 210, 3), (59, .ireturn, 1), (60, .aload_n 0, 1), (61, .invokevirtual 159, 3), (64, .invokevirtual 213, 3), (67, .ireturn, 1), (68, .aload_n 0, 1), (69, .invokevirtual 159, 3), (72, .getfield 166, 3), (75, .getfield 216, 3), (78, .invokevirtual 220, 3), (81, .ireturn, 1), (82, .sipush (-1002), 3), (85, .ireturn, 1)]
theorem nKb97_0 : (nKa97_0.all fun e => decide (decode nM97.2.1 e.1 = .ok e.2)) = true := by decide +kernel
def nK97 : List (Nat × Instr × Nat) := nKa97_0
theorem nKok97 : (nK97.all fun e => decide (decode nM97.2.1 e.1 = .ok e.2)) = true := nKb97_0
def nKa98_0 : List (Nat × Instr × Nat) := [(0, .aload_n 0, 1), (1, .getfield 12, 3), (4, .iload_n 1, 1), (5, .invokevirtual 85, 3), (8, .ifCond .ne 7, 3), (11, .sipush (-1001), 3), (14, .ireturn, 1), (15, .iload_n 2, 1), (16, .tableswitch 73 0 2 #[28, 44, 57], 28), (44, .aload_n 0, 1), (45, .invokevirtual 159, 3), (48, .getfield 166, 3), (51, .getfield 216, 3), (54, .getfield 225, 3), (57, .iload_n 1, 1), (58, .iaload, 1), (59, .ireturn, 1), (60, .aload_n 0, 1), (61, .invokevirtual 159, 3), (64, .getfield 166, 3), (67, .getfield 228, 3), (70, .iload_n 1, 1), (71, .iaload, 1), (72, .ireturn, 1), (73, .aload_n 0, 1), (74, .invokevirtual 159, 3), (77, .getfield 166, 3), (80, .getfield 216, 3), (83, .getfield 231, 3), (86, .iload_n 1, 1)]
theorem nKb98_0 : (nKa98_0.all fun e => decide (decode nM98.2.1 e.1 = .ok e.2)) = true := by decide +kernel
def nKa98_1 : List (Nat × Instr × Nat) := [(87, .iaload, 1), (88, .ireturn, 1), (89, .sipush (-1002), 3), (92, .ireturn, 1)]
theorem nKb98_1 : (nKa98_1.all fun e => decide (decode nM98.2.1 e.1 = .ok e.2)) = true := by decide +kernel
def nK98 : List (Nat × Instr × Nat) := nKa98_0 ++ (nKa98_1)
theorem nKok98 : (nK98.all fun e => decide (decode nM98.2.1 e.1 = .ok e.2)) = true := nAll nKb98_0 (nKb98_1)
def nKa99_0 : List (Nat × Instr × Nat) := [(0, .aload_n 0, 1), (1, .invokevirtual 159, 3), (4, .astore_n 2, 1), (5, .iload_n 1, 1), (6, .iconst 1, 1), (7, .if_icmp .lt 11, 3), (10, .iload_n 1, 1), (11, .aload_n 2, 1), (12, .invokevirtual 213, 3), (15, .if_icmp .le 7, 3), (18, .sipush (-1001), 3), (21, .ireturn, 1), (22, .aload_n 2, 1), (23, .getfield 166, 3), (26, .getfield 216, 3), (29, .getfield 234, 3), (32, .iload_n 1, 1), (33, .iaload, 1), (34, .ireturn, 1)]
theorem nKb99_0 : (nKa99_0.all fun e => decide (decode nM99.2.1 e.1 = .ok e.2)) = true := by decide +kernel
def nK99 : List (Nat × Instr × Nat) := nKa99_0
theorem nKok99 : (nK99.all fun e => decide (decode nM99.2.1 e.1 = .ok e.2)) = true := nKb99_0
def nKa100_0 : List (Nat × Instr × Nat) := [(0, .aload_n 0, 1), (1, .invokevirtual 159, 3), (4, .astore_n 2, 1), (5, .iload_n 1, 1), (6, .ifCond .lt 11, 3), (9, .iload_n 1, 1), (10, .aload_n 2, 1), (11, .getfield 207, 3), (14, .if_icmp .le 7, 3), (17, .sipush (-1002), 3), (20, .ireturn, 1), (21, .aload_n 2, 1), (22, .getfield 237, 3), (25, .iload_n 1, 1), (26, .iaload, 1), (27, .ireturn, 1)]
theorem nKb100_0 : (nKa100_0.all fun e => decide (decode nM100.2.1 e.1 = .ok e.2)) = true := by decide +kernel
def nK100 : List (Nat × Instr × Nat) := nKa100_0
theorem nKok100 : (nK100.all fun e => decide (decode nM100.2.1 e.1 = .ok e.2)) = true := nKb100_0
def nKa101_0 : List (Nat × Instr × Nat) := [(0, .aload_n 0, 1), (1, .getfield 12, 3), (4, .iload_n 1, 1), (5, .invokevirtual 85, 3), (8, .ifCond .ne 7, 3), (11, .sipush (-1001), 3), (14, .ireturn, 1), (15, .aload_n 0, 1), (16, .getfield 12, 3), (19, .getfield 88, 3), (22, .iload_n 1, 1), (23, .aaload, 1), (24, .astore_n 3, 1), (25, .aload_n 3, 1), (26, .invokevirtual 240, 3), (29, .ifCond .ne 7, 3), (32, .sipush (-1003), 3), (35, .ireturn, 1), (36, .aload_n 0, 1), (37, .getfield 12, 3), (40, .aload_n 3, 1), (41, .iload_n 2, 1), (42, .invokevirtual 244, 3), (45, .ireturn, 1)]
theorem nKb101_0 : (nKa101_0.all fun e => decide (decode nM101.2.1 e.1 = .ok e.2)) = true := by decide +kernel
def nK101 : List (Nat × Instr × Nat) := nKa101_0
theorem nKok101 : (nK101.all fun e => decide (decode nM101.2.1 e.1 = .ok e.2)) = true := nKb101_0
def nKa102_0 : List (Nat × Instr × Nat) := [(0, .aload_n 0, 1), (1, .getfield 25, 3), (4, .iconst 4, 1), (5, .if_icmp .lt 16, 3), (8, .aload_n 0, 1), (9, .getfield 25, 3), (12, .bipush 6, 2), (14, .if_icmp .gt 7, 3), (17, .iconst 1, 1), (18, .goto 4, 3), (21, .iconst 0, 1), (22, .ireturn, 1)]
theorem nKb102_0 : (nKa102_0.all fun e => decide (decode nM102.2.1 e.1 = .ok e.2)) = true := by decide +kernel
def nK102 : List (Nat × Instr × Nat) := nKa102_0
theorem nKok102 : (nK102.all fun e => decide (decode nM102.2.1 e.1 = .ok e.2)) = true := nKb102_0
def nKa103_0 : List (Nat × Instr × Nat) := [(0, .iconst 0, 1), (1, .istore_n 3, 1), (2, .iconst 0, 1), (3, .istore 4, 2), (5, .iload 4, 2), (7, .aload_n 0, 1), (8, .getfield 24, 3), (11, .if_icmp .ge 35, 3), (14, .aload_n 0, 1), (15, .aload_n 1, 1), (16, .aload_n 0, 1), (17, .getfield 11, 3), (20, .iload 4, 2), (22, .aaload, 1), (23, .invokevirtual 71, 3), (26, .ifCond .eq 14, 3), (29, .iload_n 3, 1), (30, .iload_n 2, 1), (31, .if_icmp .ne 6, 3), (34, .iload 4, 2), (36, .ireturn, 1), (37, .iinc 3 1, 3), (40, .iinc 4 1, 3), (43, .goto (-38), 3), (46, .iconst (-1), 1), (47, .ireturn, 1)]
theorem nKb103_0 : (nKa103_0.all fun e => decide (decode nM103.2.1 e.1 = .ok e.2)) = true := by decide +kernel
def nK103 : List (Nat × Instr × Nat) := nKa103_0
theorem nKok103 : (nK103.all fun e => decide (decode nM103.2.1 e.1 = .ok e.2)) = true := nKb103_0
def nKa104_0 : List (Nat × Instr × Nat) := [(0, .iload_n 1, 1), (1, .bipush 8, 2), (3, .if_icmp .lt 31, 3), (6, .iload_n 2, 1), (7, .bipush 60, 2), (9, .if_icmp .gt 25, 3), (12, .iload_n 2, 1), (13, .iload_n 1, 1), (14, .if_icmp .lt 20, 3), (17, .iload_n 2, 1), (18, .iload_n 1, 1), (19, .isub, 1), (20, .bipush 16, 2), (22, .if_icmp .ge 12, 3), (25, .iload_n 3, 1), (26, .ifCond .lt 8, 3), (29, .iload_n 3, 1), (30, .iconst 1, 1), (31, .if_icmp .le 7, 3), (34, .sipush (-1002), 3), (37, .ireturn, 1)]
theorem nKb104_0 : (nKa104_0.all fun e => decide (decode nM104.2.1 e.1 = .ok e.2)) = true := by decide +kernel
def nKa104_1 : List (Nat × Instr × Nat) := [(38, .iconst (-1), 1), (39, .istore 4, 2), (41, .iconst (-1), 1), (42, .istore 5, 2), (44, .iload_n 1, 1), (45, .istore 6, 2), (47, .iload 6, 2), (49, .iload_n 2, 1), (50, .if_icmp .gt 75, 3), (53, .aload_n 0, 1), (54, .getfield 45, 3), (57, .aload_n 0, 1), (58, .getfield 12, 3), (61, .iload 6, 2), (63, .invokevirtual 247, 3), (66, .iload 5, 2), (68, .iconst (-1), 1), (69, .if_icmp .eq 15, 3), (72, .aload_n 0, 1), (73, .getfield 45, 3), (76, .invokevirtual 213, 3)]
theorem nKb104_1 : (nKa104_1.all fun e => decide (decode nM104.2.1 e.1 = .ok e.2)) = true := by decide +kernel
def nKa104_2 : List (Nat × Instr × Nat) := [(79, .iload 5, 2), (81, .if_icmp .ge 7, 3), (84, .iconst 1, 1), (85, .goto 4, 3), (88, .iconst 0, 1), (89, .istore 7, 2), (91, .aload_n 0, 1), (92, .getfield 45, 3), (95, .getfield 204, 3), (98, .ifCond .ne 21, 3), (101, .iload 7, 2), (103, .ifCond .eq 16, 3), (106, .iload 6, 2), (108, .istore 4, 2), (110, .aload_n 0, 1), (111, .getfield 45, 3), (114, .invokevirtual 213, 3), (117, .istore 5, 2), (119, .iinc 6 1, 3), (122, .goto (-75), 3), (125, .iload_n 3, 1)]
theorem nKb104_2 : (nKa104_2.all fun e => decide (decode nM104.2.1 e.1 = .ok e.2)) = true := by decide +kernel
def nKa104_3 : List (Nat × Instr × Nat) := [(126, .ifCond .ne 8, 3), (129, .iload 4, 2), (131, .goto 5, 3), (134, .iload 5, 2), (136, .ireturn, 1)]
theorem nKb104_3 : (nKa104_3.all fun e => decide (decode nM104.2.1 e.1 = .ok e.2)) = true := by decide +kernel
def nK104 : List (Nat × Instr × Nat) := nKa104_0 ++ (nKa104_1 ++ (nKa104_2 ++ (nKa104_3)))
theorem nKok104 : (nK104.all fun e => decide (decode nM104.2.1 e.1 = .ok e.2)) = true := nAll nKb104_0 (nAll nKb104_1 (nAll nKb104_2 (nKb104_3)))
def nKa105_0 : List (Nat × Instr × Nat) := [(0, .iload_n 1, 1), (1, .invokestatic 105, 3), (4, .ifCond .eq 14, 3), (7, .aload_n 0, 1), (8, .getfield 12, 3), (11, .iload_n 1, 1), (12, .invokevirtual 251, 3), (15, .goto 6, 3), (18, .sipush (-1002), 3), (21, .ireturn, 1)]
theorem nKb105_0 : (nKa105_0.all fun e => decide (decode nM105.2.1 e.1 = .ok e.2)) = true := by decide +kernel
def nK105 : List (Nat × Instr × Nat) := nKa105_0
theorem nKok105 : (nK105.all fun e => decide (decode nM105.2.1 e.1 = .ok e.2)) = true := nKb105_0
def nKa106_0 : List (Nat × Instr × Nat) := [(0, .aload_n 0, 1), (1, .getfield 12, 3), (4, .iload_n 1, 1), (5, .invokevirtual 85, 3), (8, .ifCond .eq 14, 3), (11, .aload_n 0, 1), (12, .getfield 12, 3), (15, .iload_n 1, 1), (16, .invokevirtual 254, 3), (19, .goto 6, 3), (22, .sipush (-1001), 3), (25, .ireturn, 1)]
theorem nKb106_0 : (nKa106_0.all fun e => decide (decode nM106.2.1 e.1 = .ok e.2)) = true := by decide +kernel
def nK106 : List (Nat × Instr × Nat) := nKa106_0
theorem nKok106 : (nK106.all fun e => decide (decode nM106.2.1 e.1 = .ok e.2)) = true := nKb106_0
def nKa107_0 : List (Nat × Instr × Nat) := [(0, .aload_n 0, 1), (1, .iload_n 1, 1), (2, .invokevirtual 82, 3), (5, .istore_n 2, 1), (6, .iconst 0, 1), (7, .istore_n 3, 1), (8, .iconst 0, 1), (9, .istore 4, 2), (11, .iload 4, 2), (13, .aload_n 0, 1), (14, .getfield 24, 3), (17, .if_icmp .ge 52, 3), (20, .iconst 0, 1), (21, .istore 5, 2), (23, .iload 5, 2), (25, .aload_n 0, 1), (26, .getfield 11, 3), (29, .iload 4, 2), (31, .aaload, 1), (32, .getfield 75, 3), (35, .if_icmp .ge 28, 3), (38, .aload_n 0, 1), (39, .getfield 11, 3), (42, .iload 4, 2), (44, .aaload, 1), (45, .iload 5, 2), (47, .iload_n 2, 1), (48, .invokevirtual 85, 3), (51, .ifCond .eq 6, 3), (54, .iinc 3 1, 3)]
theorem nKb107_0 : (nKa107_0.all fun e => decide (decode nM107.2.1 e.1 = .ok e.2)) = true := by decide +kernel
def nKa107_1 : List (Nat × Instr × Nat) := [(57, .iinc 5 1, 3), (60, .goto (-37), 3), (63, .iinc 4 1, 3), (66, .goto (-55), 3), (69, .iload_n 3, 1), (70, .ireturn, 1)]
theorem nKb107_1 : (nKa107_1.all fun e => decide (decode nM107.2.1 e.1 = .ok e.2)) = true := by decide +kernel
def nK107 : List (Nat × Instr × Nat) := nKa107_0 ++ (nKa107_1)
theorem nKok107 : (nK107.all fun e => decide (decode nM107.2.1 e.1 = .ok e.2)) = true := nAll nKb107_0 (nKb107_1)
def nKa108_0 : List (Nat × Instr × Nat) := [(0, .aload_n 0, 1), (1, .getfield 12, 3), (4, .iload_n 1, 1), (5, .invokevirtual 85, 3), (8, .ifCond .eq 14, 3), (11, .aload_n 0, 1), (12, .getfield 12, 3), (15, .iload_n 2, 1), (16, .invokevirtual 85, 3), (19, .ifCond .ne 7, 3), (22, .sipush (-1001), 3), (25, .ireturn, 1), (26, .aload_n 0, 1), (27, .getfield 51, 3), (30, .aload_n 0, 1), (31, .getfield 12, 3), (34, .aload_n 0, 1), (35, .invokevirtual 128, 3), (38, .invokevirtual 257, 3), (41, .aload_n 0, 1), (42, .getfield 51, 3), (45, .aload_n 0, 1), (46, .getfield 27, 3), (49, .getfield 132, 3), (52, .iload_n 1, 1), (53, .iaload, 1), (54, .aload_n 0, 1), (55, .getfield 27, 3), (58, .getfield 132, 3), (61, .iload_n 2, 1)]
theorem nKb108_0 : (nKa108_0.all fun e => decide (decode nM108.2.1 e.1 = .ok e.2)) = true := by decide +kernel
def nKa108_1 : List (Nat × Instr × Nat) := [(62, .iaload, 1), (63, .invokevirtual 261, 3), (66, .ireturn, 1)]
theorem nKb108_1 : (nKa108_1.all fun e => decide (decode nM108.2.1 e.1 = .ok e.2)) = true := by decide +kernel
def nK108 : List (Nat × Instr × Nat) := nKa108_0 ++ (nKa108_1)
theorem nKok108 : (nK108.all fun e => decide (decode nM108.2.1 e.1 = .ok e.2)) = true := nAll nKb108_0 (nKb108_1)
def nKa109_0 : List (Nat × Instr × Nat) := [(0, .aload_n 0, 1), (1, .getfield 11, 3), (4, .lconst 0, 1), (5, .invokestatic 18, 3), (8, .aload_n 0, 1), (9, .getfield 15, 3), (12, .lconst 0, 1), (13, .invokestatic 18, 3), (16, .iconst 0, 1), (17, .istore_n 3, 1), (18, .iload_n 3, 1), (19, .aload_n 1, 1), (20, .getfield 24, 3), (23, .if_icmp .ge 73, 3), (26, .aload_n 1, 1), (27, .getfield 30, 3), (30, .iload_n 3, 1), (31, .aaload, 1), (32, .astore 4, 2), (34, .iconst 0, 1), (35, .istore 5, 2), (37, .iload 5, 2), (39, .aload 4, 2), (41, .getfield 34, 3), (44, .if_icmp .ge 46, 3), (47, .aload_n 1, 1), (48, .aload 4, 2), (50, .iload 5, 2), (52, .invokevirtual 39, 3), (55, .istore 6, 2)]
theorem nKb109_0 : (nKa109_0.all fun e => decide (decode nM109.2.1 e.1 = .ok e.2)) = true := by decide +kernel
def nKa109_1 : List (Nat × Instr × Nat) := [(57, .iload 6, 2), (59, .iconst (-1), 1), (60, .if_icmp .eq 24, 3), (63, .aload_n 0, 1), (64, .aload_n 2, 1), (65, .getfield 43, 3), (68, .iload_n 3, 1), (69, .iaload, 1), (70, .iconst 1, 1), (71, .iadd, 1), (72, .aload_n 2, 1), (73, .getfield 43, 3), (76, .iload 6, 2), (78, .iaload, 1), (79, .iconst 1, 1), (80, .iadd, 1), (81, .invokevirtual 49, 3), (84, .iinc 5 1, 3), (87, .goto (-50), 3), (90, .iinc 3 1, 3), (93, .goto (-75), 3), (96, .return_, 1)]
theorem nKb109_1 : (nKa109_1.all fun e => decide (decode nM109.2.1 e.1 = .ok e.2)) = true := by decide +kernel
def nK109 : List (Nat × Instr × Nat) := nKa109_0 ++ (nKa109_1)
theorem nKok109 : (nK109.all fun e => decide (decode nM109.2.1 e.1 = .ok e.2)) = true := nAll nKb109_0 (nKb109_1)
def nKa110_0 : List (Nat × Instr × Nat) := [(0, .iconst 0, 1), (1, .istore_n 3, 1), (2, .aload_n 0, 1), (3, .arraylength, 1), (4, .istore 4, 2), (6, .iload_n 3, 1), (7, .iload 4, 2), (9, .if_icmp .ge 13, 3), (12, .aload_n 0, 1), (13, .iload_n 3, 1), (14, .lload_n 1, 1), (15, .lastore, 1), (16, .iinc 3 1, 3), (19, .goto (-13), 3), (22, .return_, 1)]
theorem nKb110_0 : (nKa110_0.all fun e => decide (decode nM110.2.1 e.1 = .ok e.2)) = true := by decide +kernel
def nK110 : List (Nat × Instr × Nat) := nKa110_0
theorem nKok110 : (nK110.all fun e => decide (decode nM110.2.1 e.1 = .ok e.2)) = true := nKb110_0
def nKa111_0 : List (Nat × Instr × Nat) := [(0, .aload_n 0, 1), (1, .getfield 11, 3), (4, .iload_n 1, 1), (5, .dup2, 1), (6, .laload, 1), (7, .lconst 1, 1), (8, .iload_n 2, 1), (9, .lshl, 1), (10, .lor, 1), (11, .lastore, 1), (12, .aload_n 0, 1), (13, .getfield 15, 3), (16, .iload_n 2, 1), (17, .dup2, 1), (18, .laload, 1), (19, .lconst 1, 1), (20, .iload_n 1, 1), (21, .lshl, 1), (22, .lor, 1), (23, .lastore, 1), (24, .return_, 1)]
theorem nKb111_0 : (nKa111_0.all fun e => decide (decode nM111.2.1 e.1 = .ok e.2)) = true := by decide +kernel
def nK111 : List (Nat × Instr × Nat) := nKa111_0
theorem nKok111 : (nK111.all fun e => decide (decode nM111.2.1 e.1 = .ok e.2)) = true := nKb111_0
def nKa112_0 : List (Nat × Instr × Nat) := [(0, .lconst 1, 1), (1, .iload_n 1, 1), (2, .iconst 1, 1), (3, .iadd, 1), (4, .lshl, 1), (5, .lstore_n 3, 1), (6, .lconst 1, 1), (7, .iload_n 2, 1), (8, .iconst 1, 1), (9, .iadd, 1), (10, .lshl, 1), (11, .lstore 5, 2), (13, .iconst 0, 1), (14, .istore 7, 2), (16, .iload 7, 2), (18, .bipush 61, 2), (20, .if_icmp .gt 31, 3), (23, .lload_n 3, 1), (24, .lload 5, 2), (26, .land, 1), (27, .lconst 0, 1), (28, .lcmp, 1), (29, .ifCond .eq 6, 3), (32, .iload 7, 2), (34, .ireturn, 1), (35, .aload_n 0, 1), (36, .lload_n 3, 1), (37, .aload_n 0, 1), (38, .getfield 11, 3), (41, .invokevirtual 53, 3)]
theorem nKb112_0 : (nKa112_0.all fun e => decide (decode nM112.2.1 e.1 = .ok e.2)) = true := by decide +kernel
def nKa112_1 : List (Nat × Instr × Nat) := [(44, .lstore_n 3, 1), (45, .iinc 7 1, 3), (48, .goto (-32), 3), (51, .iconst (-1), 1), (52, .ireturn, 1)]
theorem nKb112_1 : (nKa112_1.all fun e => decide (decode nM112.2.1 e.1 = .ok e.2)) = true := by decide +kernel
def nK112 : List (Nat × Instr × Nat) := nKa112_0 ++ (nKa112_1)
theorem nKok112 : (nK112.all fun e => decide (decode nM112.2.1 e.1 = .ok e.2)) = true := nAll nKb112_0 (nKb112_1)
def nKa113_0 : List (Nat × Instr × Nat) := [(0, .lload_n 1, 1), (1, .lstore 4, 2), (3, .iconst 0, 1), (4, .istore 6, 2), (6, .iload 6, 2), (8, .bipush 61, 2), (10, .if_icmp .ge 29, 3), (13, .lload_n 1, 1), (14, .iload 6, 2), (16, .lushr, 1), (17, .lconst 1, 1), (18, .land, 1), (19, .lconst 0, 1), (20, .lcmp, 1), (21, .ifCond .eq 12, 3), (24, .lload 4, 2), (26, .aload_n 3, 1), (27, .iload 6, 2), (29, .laload, 1), (30, .lor, 1), (31, .lstore 4, 2), (33, .iinc 6 1, 3), (36, .goto (-30), 3), (39, .lload 4, 2), (41, .lreturn, 1)]
theorem nKb113_0 : (nKa113_0.all fun e => decide (decode nM113.2.1 e.1 = .ok e.2)) = true := by decide +kernel
def nK113 : List (Nat × Instr × Nat) := nKa113_0
theorem nKok113 : (nK113.all fun e => decide (decode nM113.2.1 e.1 = .ok e.2)) = true := nKb113_0
def nKa114_0 : List (Nat × Instr × Nat) := [(0, .aload_n 0, 1), (1, .getfield 12, 3), (4, .iload_n 1, 1), (5, .invokevirtual 85, 3), (8, .ifCond .ne 7, 3), (11, .sipush (-1001), 3), (14, .ireturn, 1), (15, .aload_n 0, 1), (16, .getfield 51, 3), (19, .aload_n 0, 1), (20, .getfield 12, 3), (23, .aload_n 0, 1), (24, .invokevirtual 128, 3), (27, .invokevirtual 257, 3), (30, .aload_n 0, 1), (31, .getfield 51, 3), (34, .aload_n 0, 1), (35, .getfield 27, 3), (38, .getfield 132, 3), (41, .iload_n 1, 1), (42, .iaload, 1), (43, .invokevirtual 264, 3), (46, .ireturn, 1)]
theorem nKb114_0 : (nKa114_0.all fun e => decide (decode nM114.2.1 e.1 = .ok e.2)) = true := by decide +kernel
def nK114 : List (Nat × Instr × Nat) := nKa114_0
theorem nKok114 : (nK114.all fun e => decide (decode nM114.2.1 e.1 = .ok e.2)) = true := nKb114_0
def nKa115_0 : List (Nat × Instr × Nat) := [(0, .lconst 1, 1), (1, .iload_n 1, 1), (2, .iconst 1, 1), (3, .iadd, 1), (4, .lshl, 1), (5, .lstore_n 2, 1), (6, .aload_n 0, 1), (7, .lload_n 2, 1), (8, .aload_n 0, 1), (9, .getfield 11, 3), (12, .invokevirtual 57, 3), (15, .aload_n 0, 1), (16, .lload_n 2, 1), (17, .aload_n 0, 1), (18, .getfield 15, 3), (21, .invokevirtual 57, 3), (24, .land, 1), (25, .lload_n 2, 1), (26, .ldc2_w 60, 3), (29, .lxor, 1), (30, .land, 1), (31, .invokestatic 62, 3), (34, .ireturn, 1)]
theorem nKb115_0 : (nKa115_0.all fun e => decide (decode nM115.2.1 e.1 = .ok e.2)) = true := by decide +kernel
def nK115 : List (Nat × Instr × Nat) := nKa115_0
theorem nKok115 : (nK115.all fun e => decide (decode nM115.2.1 e.1 = .ok e.2)) = true := nKb115_0
def nKa116_0 : List (Nat × Instr × Nat) := [(0, .lload_n 1, 1), (1, .lstore 4, 2), (3, .iconst 0, 1), (4, .istore 6, 2), (6, .iload 6, 2), (8, .bipush 61, 2), (10, .if_icmp .ge 33, 3), (13, .aload_n 0, 1), (14, .lload 4, 2), (16, .aload_n 3, 1), (17, .invokevirtual 53, 3), (20, .lstore 7, 2), (22, .lload 7, 2), (24, .lload 4, 2), (26, .lcmp, 1), (27, .ifCond .ne 6, 3), (30, .lload 4, 2), (32, .lreturn, 1), (33, .lload 7, 2), (35, .lstore 4, 2), (37, .iinc 6 1, 3), (40, .goto (-34), 3), (43, .lload 4, 2), (45, .lreturn, 1)]
theorem nKb116_0 : (nKa116_0.all fun e => decide (decode nM116.2.1 e.1 = .ok e.2)) = true := by decide +kernel
def nK116 : List (Nat × Instr × Nat) := nKa116_0
theorem nKok116 : (nK116.all fun e => decide (decode nM116.2.1 e.1 = .ok e.2)) = true := nKb116_0
def nKa117_0 : List (Nat × Instr × Nat) := [(0, .lload_n 0, 1), (1, .lload_n 0, 1), (2, .iconst 1, 1), (3, .lushr, 1), (4, .ldc2_w 314, 3), (7, .land, 1), (8, .lsub, 1), (9, .lstore_n 0, 1), (10, .lload_n 0, 1), (11, .ldc2_w 316, 3), (14, .land, 1), (15, .lload_n 0, 1), (16, .iconst 2, 1), (17, .lushr, 1), (18, .ldc2_w 316, 3), (21, .land, 1), (22, .ladd, 1), (23, .lstore_n 0, 1), (24, .lload_n 0, 1), (25, .lload_n 0, 1), (26, .iconst 4, 1), (27, .lushr, 1), (28, .ladd, 1), (29, .ldc2_w 318, 3), (32, .land, 1), (33, .lstore_n 0, 1), (34, .lload_n 0, 1), (35, .lload_n 0, 1), (36, .bipush 8, 2), (38, .lushr, 1)]
theorem nKb117_0 : (nKa117_0.all fun e => decide (decode nM117.2.1 e.1 = .ok e.2)) = true := by decide +kernel
def nKa117_1 : List (Nat × Instr × Nat) := [(39, .ladd, 1), (40, .lstore_n 0, 1), (41, .lload_n 0, 1), (42, .lload_n 0, 1), (43, .bipush 16, 2), (45, .lushr, 1), (46, .ladd, 1), (47, .lstore_n 0, 1), (48, .lload_n 0, 1), (49, .lload_n 0, 1), (50, .bipush 32, 2), (52, .lushr, 1), (53, .ladd, 1), (54, .lstore_n 0, 1), (55, .lload_n 0, 1), (56, .l2i, 1), (57, .bipush 127, 2), (59, .iand, 1), (60, .ireturn, 1)]
theorem nKb117_1 : (nKa117_1.all fun e => decide (decode nM117.2.1 e.1 = .ok e.2)) = true := by decide +kernel
def nK117 : List (Nat × Instr × Nat) := nKa117_0 ++ (nKa117_1)
theorem nKok117 : (nK117.all fun e => decide (decode nM117.2.1 e.1 = .ok e.2)) = true := nAll nKb117_0 (nKb117_1)
def nKa118_0 : List (Nat × Instr × Nat) := [(0, .iload_n 1, 1), (1, .ifCond .lt 8, 3), (4, .iload_n 1, 1), (5, .iconst 3, 1), (6, .if_icmp .lt 7, 3), (9, .sipush (-1001), 3), (12, .ireturn, 1), (13, .aload_n 0, 1), (14, .getfield 16, 3), (17, .iload_n 1, 1), (18, .aaload, 1), (19, .aload_n 0, 1), (20, .getfield 12, 3), (23, .invokevirtual 267, 3), (26, .aload_n 0, 1), (27, .getfield 20, 3), (30, .iload_n 1, 1), (31, .iconst 1, 1), (32, .bastore, 1), (33, .aload_n 0, 1), (34, .getfield 12, 3), (37, .getfield 70, 3), (40, .ireturn, 1)]
theorem nKb118_0 : (nKa118_0.all fun e => decide (decode nM118.2.1 e.1 = .ok e.2)) = true := by decide +kernel
def nK118 : List (Nat × Instr × Nat) := nKa118_0
theorem nKok118 : (nK118.all fun e => decide (decode nM118.2.1 e.1 = .ok e.2)) = true := nKb118_0
def nKa119_0 : List (Nat × Instr × Nat) := [(0, .aload_n 0, 1), (1, .aload_n 1, 1), (2, .getfield 24, 3), (5, .putfield 24, 3), (8, .iconst 0, 1), (9, .istore_n 2, 1), (10, .iload_n 2, 1), (11, .aload_n 0, 1), (12, .getfield 24, 3), (15, .if_icmp .ge 24, 3), (18, .aload_n 0, 1), (19, .getfield 11, 3), (22, .iload_n 2, 1), (23, .aaload, 1), (24, .aload_n 1, 1), (25, .getfield 11, 3), (28, .iload_n 2, 1), (29, .aaload, 1), (30, .invokevirtual 41, 3), (33, .iinc 2 1, 3), (36, .goto (-26), 3), (39, .aload_n 0, 1), (40, .getfield 20, 3), (43, .aload_n 1, 1), (44, .getfield 20, 3), (47, .invokevirtual 45, 3), (50, .return_, 1)]
theorem nKb119_0 : (nKa119_0.all fun e => decide (decode nM119.2.1 e.1 = .ok e.2)) = true := by decide +kernel
def nK119 : List (Nat × Instr × Nat) := nKa119_0
theorem nKok119 : (nK119.all fun e => decide (decode nM119.2.1 e.1 = .ok e.2)) = true := nKb119_0
def nKa120_0 : List (Nat × Instr × Nat) := [(0, .aload_n 0, 1), (1, .aload_n 1, 1), (2, .getfield 21, 3), (5, .aload_n 1, 1), (6, .getfield 25, 3), (9, .aload_n 1, 1), (10, .getfield 28, 3), (13, .invokevirtual 37, 3), (16, .aload_n 0, 1), (17, .aload_n 1, 1), (18, .getfield 31, 3), (21, .putfield 31, 3), (24, .aload_n 0, 1), (25, .aload_n 1, 1), (26, .getfield 34, 3), (29, .putfield 34, 3), (32, .aload_n 1, 1), (33, .getfield 9, 3), (36, .iconst 0, 1), (37, .aload_n 0, 1), (38, .getfield 9, 3), (41, .iconst 0, 1), (42, .aload_n 0, 1), (43, .getfield 34, 3), (46, .invokestatic 41, 3), (49, .aload_n 1, 1), (50, .getfield 15, 3), (53, .iconst 0, 1), (54, .aload_n 0, 1), (55, .getfield 15, 3)]
theorem nKb120_0 : (nKa120_0.all fun e => decide (decode nM120.2.1 e.1 = .ok e.2)) = true := by decide +kernel
def nKa120_1 : List (Nat × Instr × Nat) := [(58, .iconst 0, 1), (59, .aload_n 0, 1), (60, .getfield 34, 3), (63, .invokestatic 41, 3), (66, .aload_n 1, 1), (67, .getfield 18, 3), (70, .iconst 0, 1), (71, .aload_n 0, 1), (72, .getfield 18, 3), (75, .iconst 0, 1), (76, .aload_n 0, 1), (77, .getfield 34, 3), (80, .invokestatic 41, 3), (83, .return_, 1)]
theorem nKb120_1 : (nKa120_1.all fun e => decide (decode nM120.2.1 e.1 = .ok e.2)) = true := by decide +kernel
def nK120 : List (Nat × Instr × Nat) := nKa120_0 ++ (nKa120_1)
theorem nKok120 : (nK120.all fun e => decide (decode nM120.2.1 e.1 = .ok e.2)) = true := nAll nKb120_0 (nKb120_1)
def nKa121_0 : List (Nat × Instr × Nat) := [(0, .aload_n 1, 1), (1, .getfield 11, 3), (4, .iconst 0, 1), (5, .aload_n 0, 1), (6, .getfield 11, 3), (9, .iconst 0, 1), (10, .bipush 13, 2), (12, .invokestatic 27, 3), (15, .return_, 1)]
theorem nKb121_0 : (nKa121_0.all fun e => decide (decode nM121.2.1 e.1 = .ok e.2)) = true := by decide +kernel
def nK121 : List (Nat × Instr × Nat) := nKa121_0
theorem nKok121 : (nK121.all fun e => decide (decode nM121.2.1 e.1 = .ok e.2)) = true := nKb121_0
def nKa122_0 : List (Nat × Instr × Nat) := [(0, .aload_n 0, 1), (1, .iload_n 1, 1), (2, .invokevirtual 271, 3), (5, .ifCond .ne 7, 3), (8, .sipush (-1001), 3), (11, .ireturn, 1), (12, .aload_n 0, 1), (13, .getfield 12, 3), (16, .aload_n 0, 1), (17, .getfield 16, 3), (20, .iload_n 1, 1), (21, .aaload, 1), (22, .invokevirtual 267, 3), (25, .aload_n 0, 1), (26, .iconst 0, 1), (27, .putfield 66, 3), (30, .aload_n 0, 1), (31, .getfield 12, 3), (34, .getfield 70, 3), (37, .ireturn, 1)]
theorem nKb122_0 : (nKa122_0.all fun e => decide (decode nM122.2.1 e.1 = .ok e.2)) = true := by decide +kernel
def nK122 : List (Nat × Instr × Nat) := nKa122_0
theorem nKok122 : (nK122.all fun e => decide (decode nM122.2.1 e.1 = .ok e.2)) = true := nKb122_0
def nKa123_0 : List (Nat × Instr × Nat) := [(0, .iload_n 1, 1), (1, .ifCond .lt 21, 3), (4, .iload_n 1, 1), (5, .iconst 3, 1), (6, .if_icmp .ge 16, 3), (9, .aload_n 0, 1), (10, .getfield 20, 3), (13, .iload_n 1, 1), (14, .baload, 1), (15, .ifCond .eq 7, 3), (18, .iconst 1, 1), (19, .goto 4, 3), (22, .iconst 0, 1), (23, .ireturn, 1)]
theorem nKb123_0 : (nKa123_0.all fun e => decide (decode nM123.2.1 e.1 = .ok e.2)) = true := by decide +kernel
def nK123 : List (Nat × Instr × Nat) := nKa123_0
theorem nKok123 : (nK123.all fun e => decide (decode nM123.2.1 e.1 = .ok e.2)) = true := nKb123_0
def nKa124_0 : List (Nat × Instr × Nat) := [(0, .aload_n 0, 1), (1, .iload_n 1, 1), (2, .invokevirtual 271, 3), (5, .ifCond .ne 7, 3), (8, .sipush (-1001), 3), (11, .ireturn, 1), (12, .iload_n 2, 1), (13, .ifCond .lt 8, 3), (16, .iload_n 2, 1), (17, .iconst 4, 1), (18, .if_icmp .le 7, 3), (21, .sipush (-1002), 3), (24, .ireturn, 1), (25, .aload_n 0, 1), (26, .getfield 45, 3), (29, .aload_n 0, 1), (30, .getfield 16, 3), (33, .iload_n 1, 1), (34, .aaload, 1), (35, .aload_n 0, 1), (36, .getfield 16, 3), (39, .iload_n 1, 1), (40, .aaload, 1), (41, .getfield 274, 3), (44, .invokevirtual 278, 3), (47, .invokevirtual 247, 3), (50, .aload_n 0, 1), (51, .invokevirtual 159, 3), (54, .aload_n 0, 1), (55, .getfield 45, 3)]
theorem nKb124_0 : (nKa124_0.all fun e => decide (decode nM124.2.1 e.1 = .ok e.2)) = true := by decide +kernel
def nKa124_1 : List (Nat × Instr × Nat) := [(58, .iload_n 2, 1), (59, .invokestatic 283, 3), (62, .ireturn, 1)]
theorem nKb124_1 : (nKa124_1.all fun e => decide (decode nM124.2.1 e.1 = .ok e.2)) = true := by decide +kernel
def nK124 : List (Nat × Instr × Nat) := nKa124_0 ++ (nKa124_1)
theorem nKok124 : (nK124.all fun e => decide (decode nM124.2.1 e.1 = .ok e.2)) = true := nAll nKb124_0 (nKb124_1)
def nKa125_0 : List (Nat × Instr × Nat) := [(0, .iconst 0, 1), (1, .istore_n 3, 1), (2, .iconst 0, 1), (3, .istore 4, 2), (5, .iconst 0, 1), (6, .istore 5, 2), (8, .iload 5, 2), (10, .aload_n 0, 1), (11, .getfield 9, 3), (14, .getfield 15, 3), (17, .if_icmp .ge 55, 3), (20, .aload_n 1, 1), (21, .getfield 9, 3), (24, .aload_n 0, 1), (25, .getfield 9, 3), (28, .getfield 21, 3), (31, .iload 5, 2), (33, .aaload, 1), (34, .getfield 25, 3), (37, .invokevirtual 30, 3), (40, .istore 6, 2), (42, .iload 6, 2), (44, .iconst (-1), 1), (45, .if_icmp .eq 21, 3), (48, .iinc 3 1, 3), (51, .iload 4, 2), (53, .aload_n 0, 1), (54, .iload 5, 2), (56, .aload_n 1, 1)]
theorem nKb125_0 : (nKa125_0.all fun e => decide (decode nM125.2.1 e.1 = .ok e.2)) = true := by decide +kernel
def nKa125_1 : List (Nat × Instr × Nat) := [(57, .iload 6, 2), (59, .iload_n 2, 1), (60, .invokestatic 34, 3), (63, .iadd, 1), (64, .istore 4, 2), (66, .iinc 5 1, 3), (69, .goto (-61), 3), (72, .iload_n 2, 1), (73, .ifCond .ne 25, 3), (76, .aload_n 0, 1), (77, .getfield 9, 3), (80, .getfield 15, 3), (83, .aload_n 1, 1), (84, .getfield 9, 3), (87, .getfield 15, 3), (90, .iadd, 1), (91, .iconst 2, 1), (92, .iload_n 3, 1), (93, .imul, 1), (94, .isub, 1), (95, .goto 5, 3), (98, .iload 4, 2), (100, .ireturn, 1)]
theorem nKb125_1 : (nKa125_1.all fun e => decide (decode nM125.2.1 e.1 = .ok e.2)) = true := by decide +kernel
def nK125 : List (Nat × Instr × Nat) := nKa125_0 ++ (nKa125_1)
theorem nKok125 : (nK125.all fun e => decide (decode nM125.2.1 e.1 = .ok e.2)) = true := nAll nKb125_0 (nKb125_1)
def nKa126_0 : List (Nat × Instr × Nat) := [(0, .iconst 0, 1), (1, .istore_n 2, 1), (2, .iload_n 2, 1), (3, .aload_n 0, 1), (4, .getfield 24, 3), (7, .if_icmp .ge 24, 3), (10, .aload_n 0, 1), (11, .getfield 11, 3), (14, .iload_n 2, 1), (15, .aaload, 1), (16, .getfield 48, 3), (19, .iload_n 1, 1), (20, .if_icmp .ne 5, 3), (23, .iload_n 2, 1), (24, .ireturn, 1), (25, .iinc 2 1, 3), (28, .goto (-26), 3), (31, .iconst (-1), 1), (32, .ireturn, 1)]
theorem nKb126_0 : (nKa126_0.all fun e => decide (decode nM126.2.1 e.1 = .ok e.2)) = true := by decide +kernel
def nK126 : List (Nat × Instr × Nat) := nKa126_0
theorem nKok126 : (nK126.all fun e => decide (decode nM126.2.1 e.1 = .ok e.2)) = true := nKb126_0
def nKa127_0 : List (Nat × Instr × Nat) := [(0, .iload 4, 2), (2, .tableswitch 83 0 2 #[26, 28, 50], 26), (28, .iconst 0, 1), (29, .ireturn, 1), (30, .aload_n 0, 1), (31, .getfield 40, 3), (34, .iload_n 1, 1), (35, .aload_n 2, 1), (36, .getfield 40, 3), (39, .iload_n 3, 1), (40, .invokevirtual 44, 3), (43, .ifCond .eq 7, 3), (46, .iconst 0, 1), (47, .goto 4, 3), (50, .iconst 1, 1), (51, .ireturn, 1), (52, .aload_n 0, 1), (53, .getfield 50, 3), (56, .getfield 54, 3), (59, .getfield 60, 3), (62, .iload_n 1, 1), (63, .iaload, 1), (64, .aload_n 2, 1), (65, .getfield 50, 3), (68, .getfield 54, 3), (71, .getfield 60, 3), (74, .iload_n 3, 1), (75, .iaload, 1), (76, .if_icmp .ne 7, 3), (79, .iconst 0, 1)]
theorem nKb127_0 : (nKa127_0.all fun e => decide (decode nM127.2.1 e.1 = .ok e.2)) = true := by decide +kernel
def nKa127_1 : List (Nat × Instr × Nat) := [(80, .goto 4, 3), (83, .iconst 1, 1), (84, .ireturn, 1), (85, .aload_n 0, 1), (86, .iload_n 1, 1), (87, .aload_n 2, 1), (88, .iload_n 3, 1), (89, .iload 4, 2), (91, .invokestatic 66, 3), (94, .ireturn, 1)]
theorem nKb127_1 : (nKa127_1.all fun e => decide (decode nM127.2.1 e.1 = .ok e.2)) = true := by decide +kernel
def nK127 : List (Nat × Instr × Nat) := nKa127_0 ++ (nKa127_1)
theorem nKok127 : (nK127.all fun e => decide (decode nM127.2.1 e.1 = .ok e.2)) = true := nAll nKb127_0 (nKb127_1)
def nKa128_0 : List (Nat × Instr × Nat) := [(0, .iconst 1, 1), (1, .istore 4, 2), (3, .iload 4, 2), (5, .iconst 4, 1), (6, .if_icmp .gt 28, 3), (9, .aload_n 0, 1), (10, .iload_n 1, 1), (11, .iload 4, 2), (13, .invokevirtual 108, 3), (16, .aload_n 2, 1), (17, .iload_n 3, 1), (18, .iload 4, 2), (20, .invokevirtual 108, 3), (23, .if_icmp .eq 5, 3), (26, .iconst 0, 1), (27, .ireturn, 1), (28, .iinc 4 1, 3), (31, .goto (-28), 3), (34, .aload_n 0, 1), (35, .getfield 15, 3), (38, .iload_n 1, 1), (39, .iaload, 1), (40, .aload_n 2, 1), (41, .getfield 15, 3), (44, .iload_n 3, 1), (45, .iaload, 1), (46, .if_icmp .ne 7, 3), (49, .iconst 1, 1), (50, .goto 4, 3), (53, .iconst 0, 1)]
theorem nKb128_0 : (nKa128_0.all fun e => decide (decode nM128.2.1 e.1 = .ok e.2)) = true := by decide +kernel
def nKa128_1 : List (Nat × Instr × Nat) := [(54, .ireturn, 1)]
theorem nKb128_1 : (nKa128_1.all fun e => decide (decode nM128.2.1 e.1 = .ok e.2)) = true := by decide +kernel
def nK128 : List (Nat × Instr × Nat) := nKa128_0 ++ (nKa128_1)
theorem nKok128 : (nK128.all fun e => decide (decode nM128.2.1 e.1 = .ok e.2)) = true := nAll nKb128_0 (nKb128_1)
def nKa129_0 : List (Nat × Instr × Nat) := [(0, .aload_n 0, 1), (1, .getfield 9, 3), (4, .getfield 21, 3), (7, .iload_n 1, 1), (8, .aaload, 1), (9, .astore 5, 2), (11, .aload_n 2, 1), (12, .getfield 9, 3), (15, .getfield 21, 3), (18, .iload_n 3, 1), (19, .aaload, 1), (20, .astore 6, 2), (22, .iconst 0, 1), (23, .istore 7, 2), (25, .iconst 0, 1), (26, .istore 8, 2), (28, .iload 8, 2), (30, .aload 5, 2), (32, .getfield 69, 3)]
theorem nKb129_0 : (nKa129_0.all fun e => decide (decode nM129.2.1 e.1 = .ok e.2)) = true := by decide +kernel
def nKa129_1 : List (Nat × Instr × Nat) := [(35, .if_icmp .ge 113, 3), (38, .iload 8, 2), (40, .aload 6, 2), (42, .getfield 69, 3), (45, .if_icmp .ge 103, 3), (48, .aload 5, 2), (50, .getfield 72, 3), (53, .iload 8, 2), (55, .iaload, 1), (56, .iconst 1, 1), (57, .if_icmp .ne 85, 3), (60, .aload 6, 2), (62, .getfield 72, 3), (65, .iload 8, 2), (67, .iaload, 1), (68, .iconst 1, 1), (69, .if_icmp .ne 73, 3), (72, .iload 4, 2), (74, .iconst 3, 1)]
theorem nKb129_1 : (nKa129_1.all fun e => decide (decode nM129.2.1 e.1 = .ok e.2)) = true := by decide +kernel
def nKa129_2 : List (Nat × Instr × Nat) := [(75, .if_icmp .ne 28, 3), (78, .aload_n 0, 1), (79, .iload_n 1, 1), (80, .iload 8, 2), (82, .invokevirtual 75, 3), (85, .aload_n 2, 1), (86, .iload_n 3, 1), (87, .iload 8, 2), (89, .invokevirtual 75, 3), (92, .if_icmp .ne 7, 3), (95, .iconst 1, 1), (96, .goto 29, 3), (99, .iconst 0, 1), (100, .goto 25, 3), (103, .aload_n 0, 1), (104, .iload_n 1, 1), (105, .iload 8, 2), (107, .invokevirtual 79, 3), (110, .aload_n 2, 1)]
theorem nKb129_2 : (nKa129_2.all fun e => decide (decode nM129.2.1 e.1 = .ok e.2)) = true := by decide +kernel
def nKa129_3 : List (Nat × Instr × Nat) := [(111, .iload_n 3, 1), (112, .iload 8, 2), (114, .invokevirtual 79, 3), (117, .if_icmp .ne 7, 3), (120, .iconst 1, 1), (121, .goto 4, 3), (124, .iconst 0, 1), (125, .istore 9, 2), (127, .iload 7, 2), (129, .iload 9, 2), (131, .ifCond .eq 7, 3), (134, .iconst 0, 1), (135, .goto 4, 3), (138, .iconst 1, 1), (139, .iadd, 1), (140, .istore 7, 2), (142, .iinc 8 1, 3), (145, .goto (-117), 3), (148, .iload 7, 2)]
theorem nKb129_3 : (nKa129_3.all fun e => decide (decode nM129.2.1 e.1 = .ok e.2)) = true := by decide +kernel
def nKa129_4 : List (Nat × Instr × Nat) := [(150, .ireturn, 1)]
theorem nKb129_4 : (nKa129_4.all fun e => decide (decode nM129.2.1 e.1 = .ok e.2)) = true := by decide +kernel
def nK129 : List (Nat × Instr × Nat) := nKa129_0 ++ (nKa129_1 ++ (nKa129_2 ++ (nKa129_3 ++ (nKa129_4))))
theorem nKok129 : (nK129.all fun e => decide (decode nM129.2.1 e.1 = .ok e.2)) = true := nAll nKb129_0 (nAll nKb129_1 (nAll nKb129_2 (nAll nKb129_3 (nKb129_4))))
def nKa130_0 : List (Nat × Instr × Nat) := [(0, .aload_n 0, 1), (1, .getfield 38, 3), (4, .aload_n 0, 1), (5, .getfield 12, 3), (8, .getfield 109, 3), (11, .iload_n 1, 1), (12, .iaload, 1), (13, .iload_n 2, 1), (14, .iadd, 1), (15, .iaload, 1), (16, .istore_n 3, 1), (17, .iload_n 3, 1), (18, .iconst (-1), 1), (19, .if_icmp .ne 7, 3), (22, .iconst (-1), 1), (23, .goto 15, 3), (26, .aload_n 0, 1), (27, .getfield 41, 3), (30, .getfield 102, 3), (33, .iload_n 3, 1), (34, .aaload, 1), (35, .getfield 171, 3), (38, .ireturn, 1)]
theorem nKb130_0 : (nKa130_0.all fun e => decide (decode nM130.2.1 e.1 = .ok e.2)) = true := by decide +kernel
def nK130 : List (Nat × Instr × Nat) := nKa130_0
theorem nKok130 : (nK130.all fun e => decide (decode nM130.2.1 e.1 = .ok e.2)) = true := nKb130_0
def nKa131_0 : List (Nat × Instr × Nat) := [(0, .iload_n 1, 1), (1, .iconst 1, 1), (2, .if_icmp .lt 9, 3), (5, .iload_n 1, 1), (6, .bipush 8, 2), (8, .if_icmp .le 7, 3), (11, .sipush (-1002), 3), (14, .ireturn, 1), (15, .aload_n 0, 1), (16, .getfield 58, 3), (19, .getfield 201, 3), (22, .iload_n 1, 1), (23, .iadd, 1), (24, .sipush 160, 3), (27, .if_icmp .le 7, 3), (30, .sipush (-1004), 3), (33, .ireturn, 1), (34, .aload_n 0, 1), (35, .getfield 58, 3), (38, .iload_n 1, 1), (39, .lload_n 2, 1), (40, .invokevirtual 289, 3), (43, .aload_n 0, 1), (44, .getfield 58, 3), (47, .getfield 201, 3), (50, .ireturn, 1)]
theorem nKb131_0 : (nKa131_0.all fun e => decide (decode nM131.2.1 e.1 = .ok e.2)) = true := by decide +kernel
def nK131 : List (Nat × Instr × Nat) := nKa131_0
theorem nKok131 : (nK131.all fun e => decide (decode nM131.2.1 e.1 = .ok e.2)) = true := nKb131_0
def nKa132_0 : List (Nat × Instr × Nat) := [(0, .iload_n 1, 1), (1, .iconst 1, 1), (2, .isub, 1), (3, .istore 4, 2), (5, .iload 4, 2), (7, .ifCond .lt 50, 3), (10, .aload_n 0, 1), (11, .getfield 18, 3), (14, .sipush 160, 3), (17, .if_icmp .ge 40, 3), (20, .aload_n 0, 1), (21, .getfield 28, 3), (24, .aload_n 0, 1), (25, .getfield 18, 3), (28, .lload_n 2, 1), (29, .bipush 8, 2), (31, .iload 4, 2), (33, .imul, 1), (34, .lushr, 1), (35, .ldc2_w 39, 3), (38, .land, 1), (39, .l2i, 1), (40, .iastore, 1), (41, .aload_n 0, 1), (42, .dup, 1), (43, .getfield 18, 3), (46, .iconst 1, 1), (47, .iadd, 1), (48, .putfield 18, 3), (51, .iinc 4 (-1), 3)]
theorem nKb132_0 : (nKa132_0.all fun e => decide (decode nM132.2.1 e.1 = .ok e.2)) = true := by decide +kernel
def nKa132_1 : List (Nat × Instr × Nat) := [(54, .goto (-49), 3), (57, .return_, 1)]
theorem nKb132_1 : (nKa132_1.all fun e => decide (decode nM132.2.1 e.1 = .ok e.2)) = true := by decide +kernel
def nK132 : List (Nat × Instr × Nat) := nKa132_0 ++ (nKa132_1)
theorem nKok132 : (nK132.all fun e => decide (decode nM132.2.1 e.1 = .ok e.2)) = true := nAll nKb132_0 (nKb132_1)
def nKa133_0 : List (Nat × Instr × Nat) := [(0, .aload_n 0, 1), (1, .getfield 58, 3), (4, .invokevirtual 292, 3), (7, .istore_n 1, 1), (8, .aload_n 0, 1), (9, .getfield 58, 3), (12, .getfield 295, 3), (15, .ifCond .eq 14, 3), (18, .bipush (-10), 2), (20, .aload_n 0, 1), (21, .getfield 58, 3), (24, .getfield 295, 3), (27, .isub, 1), (28, .ireturn, 1), (29, .aload_n 0, 1), (30, .getfield 12, 3), (33, .getfield 274, 3), (36, .aload_n 0, 1), (37, .getfield 58, 3), (40, .getfield 298, 3), (43, .invokevirtual 301, 3), (46, .aload_n 0, 1), (47, .iconst 0, 1), (48, .putfield 66, 3), (51, .iload_n 1, 1), (52, .ireturn, 1)]
theorem nKb133_0 : (nKa133_0.all fun e => decide (decode nM133.2.1 e.1 = .ok e.2)) = true := by decide +kernel
def nK133 : List (Nat × Instr × Nat) := nKa133_0
theorem nKok133 : (nK133.all fun e => decide (decode nM133.2.1 e.1 = .ok e.2)) = true := nKb133_0
def nKa134_0 : List (Nat × Instr × Nat) := [(0, .aload_n 0, 1), (1, .invokevirtual 41, 3), (4, .iconst 0, 1), (5, .istore_n 1, 1), (6, .iconst 0, 1), (7, .istore_n 2, 1), (8, .iload_n 2, 1), (9, .sipush 160, 3), (12, .if_icmp .ge 30, 3), (15, .aload_n 0, 1), (16, .getfield 44, 3), (19, .ifCond .eq 23, 3), (22, .aload_n 0, 1), (23, .getfield 22, 3), (26, .ifCond .ne 16, 3), (29, .aload_n 0, 1), (30, .invokevirtual 47, 3), (33, .iinc 1 1, 3), (36, .iinc 2 1, 3), (39, .goto (-31), 3), (42, .aload_n 0, 1), (43, .iconst 0, 1), (44, .putfield 18, 3), (47, .iload_n 1, 1), (48, .ireturn, 1)]
theorem nKb134_0 : (nKa134_0.all fun e => decide (decode nM134.2.1 e.1 = .ok e.2)) = true := by decide +kernel
def nK134 : List (Nat × Instr × Nat) := nKa134_0
theorem nKok134 : (nK134.all fun e => decide (decode nM134.2.1 e.1 = .ok e.2)) = true := nKb134_0
def nKa135_0 : List (Nat × Instr × Nat) := [(0, .aload_n 0, 1), (1, .getfield 12, 3), (4, .invokevirtual 50, 3), (7, .aload_n 0, 1), (8, .iconst 0, 1), (9, .putfield 22, 3), (12, .aload_n 0, 1), (13, .iconst (-1), 1), (14, .putfield 25, 3), (17, .iconst 0, 1), (18, .istore_n 1, 1), (19, .iload_n 1, 1), (20, .iconst 4, 1), (21, .if_icmp .ge 16, 3), (24, .aload_n 0, 1), (25, .getfield 32, 3), (28, .iload_n 1, 1), (29, .iconst 0, 1), (30, .bastore, 1), (31, .iinc 1 1, 3), (34, .goto (-15), 3), (37, .iconst 0, 1), (38, .istore_n 1, 1), (39, .iload_n 1, 1), (40, .iconst 4, 1), (41, .if_icmp .gt 16, 3), (44, .aload_n 0, 1), (45, .getfield 36, 3), (48, .iload_n 1, 1), (49, .iconst 0, 1)]
theorem nKb135_0 : (nKa135_0.all fun e => decide (decode nM135.2.1 e.1 = .ok e.2)) = true := by decide +kernel
def nKa135_1 : List (Nat × Instr × Nat) := [(50, .bastore, 1), (51, .iinc 1 1, 3), (54, .goto (-15), 3), (57, .aload_n 0, 1), (58, .iconst 0, 1), (59, .putfield 53, 3), (62, .aload_n 0, 1), (63, .invokevirtual 56, 3), (66, .return_, 1)]
theorem nKb135_1 : (nKa135_1.all fun e => decide (decode nM135.2.1 e.1 = .ok e.2)) = true := by decide +kernel
def nK135 : List (Nat × Instr × Nat) := nKa135_0 ++ (nKa135_1)
theorem nKok135 : (nK135.all fun e => decide (decode nM135.2.1 e.1 = .ok e.2)) = true := nAll nKb135_0 (nKb135_1)
def nKa136_0 : List (Nat × Instr × Nat) := [(0, .aload_n 0, 1), (1, .getfield 53, 3), (4, .istore_n 1, 1), (5, .iload_n 1, 1), (6, .aload_n 0, 1), (7, .getfield 18, 3), (10, .if_icmp .ge 20, 3), (13, .aload_n 0, 1), (14, .getfield 28, 3), (17, .iload_n 1, 1), (18, .iaload, 1), (19, .bipush 32, 2), (21, .if_icmp .ne 9, 3), (24, .iinc 1 1, 3), (27, .goto (-22), 3), (30, .aload_n 0, 1), (31, .iload_n 1, 1), (32, .putfield 107, 3), (35, .aload_n 0, 1), (36, .iload_n 1, 1), (37, .aload_n 0, 1), (38, .getfield 18, 3), (41, .if_icmp .ge 15, 3), (44, .aload_n 0, 1)]
theorem nKb136_0 : (nKa136_0.all fun e => decide (decode nM136.2.1 e.1 = .ok e.2)) = true := by decide +kernel
def nKa136_1 : List (Nat × Instr × Nat) := [(45, .getfield 28, 3), (48, .iload_n 1, 1), (49, .iaload, 1), (50, .invokestatic 139, 3), (53, .goto 4, 3), (56, .iconst 0, 1), (57, .putfield 44, 3), (60, .iload_n 1, 1), (61, .aload_n 0, 1), (62, .getfield 18, 3), (65, .if_icmp .ge 6, 3), (68, .iinc 1 1, 3), (71, .iload_n 1, 1), (72, .aload_n 0, 1), (73, .getfield 18, 3), (76, .if_icmp .ge 41, 3), (79, .aload_n 0, 1), (80, .getfield 44, 3), (83, .iconst 1, 1), (84, .if_icmp .eq 11, 3), (87, .aload_n 0, 1), (88, .getfield 44, 3), (91, .iconst 2, 1), (92, .if_icmp .ne 25, 3)]
theorem nKb136_1 : (nKa136_1.all fun e => decide (decode nM136.2.1 e.1 = .ok e.2)) = true := by decide +kernel
def nKa136_2 : List (Nat × Instr × Nat) := [(95, .aload_n 0, 1), (96, .getfield 28, 3), (99, .iload_n 1, 1), (100, .iaload, 1), (101, .invokestatic 139, 3), (104, .aload_n 0, 1), (105, .getfield 44, 3), (108, .if_icmp .ne 9, 3), (111, .iinc 1 1, 3), (114, .goto (-43), 3), (117, .aload_n 0, 1), (118, .iload_n 1, 1), (119, .putfield 53, 3), (122, .return_, 1)]
theorem nKb136_2 : (nKa136_2.all fun e => decide (decode nM136.2.1 e.1 = .ok e.2)) = true := by decide +kernel
def nK136 : List (Nat × Instr × Nat) := nKa136_0 ++ (nKa136_1 ++ (nKa136_2))
theorem nKok136 : (nK136.all fun e => decide (decode nM136.2.1 e.1 = .ok e.2)) = true := nAll nKb136_0 (nAll nKb136_1 (nKb136_2))
def nKa137_0 : List (Nat × Instr × Nat) := [(0, .iload_n 0, 1), (1, .bipush 97, 2), (3, .if_icmp .lt 11, 3), (6, .iload_n 0, 1), (7, .bipush 122, 2), (9, .if_icmp .gt 5, 3), (12, .iconst 1, 1), (13, .ireturn, 1), (14, .iload_n 0, 1), (15, .bipush 48, 2), (17, .if_icmp .lt 11, 3), (20, .iload_n 0, 1), (21, .bipush 57, 2), (23, .if_icmp .gt 5, 3), (26, .iconst 2, 1), (27, .ireturn, 1), (28, .iload_n 0, 1), (29, .bipush 59, 2), (31, .if_icmp .ne 7, 3), (34, .iconst 3, 1), (35, .goto 4, 3), (38, .iconst 4, 1), (39, .ireturn, 1)]
theorem nKb137_0 : (nKa137_0.all fun e => decide (decode nM137.2.1 e.1 = .ok e.2)) = true := by decide +kernel
def nK137 : List (Nat × Instr × Nat) := nKa137_0
theorem nKok137 : (nK137.all fun e => decide (decode nM137.2.1 e.1 = .ok e.2)) = true := nKb137_0
def nKa138_0 : List (Nat × Instr × Nat) := [(0, .aload_n 0, 1), (1, .ldc 59, 2), (3, .invokevirtual 61, 3), (6, .ifCond .eq 51, 3), (9, .aload_n 0, 1), (10, .iconst 0, 1), (11, .invokevirtual 65, 3), (14, .aload_n 0, 1), (15, .getfield 12, 3), (18, .getfield 69, 3), (21, .iconst 0, 1), (22, .aload_n 0, 1), (23, .bipush 8, 2), (25, .bipush 60, 2), (27, .invokevirtual 72, 3), (30, .iastore, 1)]
theorem nKb138_0 : (nKa138_0.all fun e => decide (decode nM138.2.1 e.1 = .ok e.2)) = true := by decide +kernel
def nKa138_1 : List (Nat × Instr × Nat) := [(31, .aload_n 0, 1), (32, .ldc 76, 2), (34, .invokevirtual 78, 3), (37, .aload_n 0, 1), (38, .getfield 12, 3), (41, .getfield 69, 3), (44, .iconst 1, 1), (45, .aload_n 0, 1), (46, .bipush 10, 2), (48, .bipush 90, 2), (50, .invokevirtual 72, 3), (53, .iastore, 1), (54, .goto 127, 3), (57, .aload_n 0, 1), (58, .ldc 82, 2), (60, .invokevirtual 61, 3)]
theorem nKb138_1 : (nKa138_1.all fun e => decide (decode nM138.2.1 e.1 = .ok e.2)) = true := by decide +kernel
def nKa138_2 : List (Nat × Instr × Nat) := [(63, .ifCond .eq 14, 3), (66, .aload_n 0, 1), (67, .invokevirtual 56, 3), (70, .aload_n 0, 1), (71, .invokevirtual 84, 3), (74, .goto 107, 3), (77, .aload_n 0, 1), (78, .ldc 87, 2), (80, .invokevirtual 61, 3), (83, .ifCond .eq 27, 3), (86, .aload_n 0, 1), (87, .iconst 1, 1), (88, .invokevirtual 65, 3), (91, .aload_n 0, 1), (92, .getfield 12, 3), (95, .getfield 69, 3)]
theorem nKb138_2 : (nKa138_2.all fun e => decide (decode nM138.2.1 e.1 = .ok e.2)) = true := by decide +kernel
def nKa138_3 : List (Nat × Instr × Nat) := [(98, .bipush 10, 2), (100, .aload_n 0, 1), (101, .ldc 89, 2), (103, .invokevirtual 91, 3), (106, .iastore, 1), (107, .goto 74, 3), (110, .aload_n 0, 1), (111, .ldc 95, 2), (113, .invokevirtual 61, 3), (116, .ifCond .eq 27, 3), (119, .aload_n 0, 1), (120, .iconst 2, 1), (121, .invokevirtual 65, 3), (124, .aload_n 0, 1), (125, .getfield 12, 3), (128, .getfield 69, 3)]
theorem nKb138_3 : (nKa138_3.all fun e => decide (decode nM138.2.1 e.1 = .ok e.2)) = true := by decide +kernel
def nKa138_4 : List (Nat × Instr × Nat) := [(131, .bipush 11, 2), (133, .aload_n 0, 1), (134, .ldc 89, 2), (136, .invokevirtual 91, 3), (139, .iastore, 1), (140, .goto 41, 3), (143, .aload_n 0, 1), (144, .ldc 97, 2), (146, .invokevirtual 61, 3), (149, .ifCond .eq 27, 3), (152, .aload_n 0, 1), (153, .iconst 3, 1), (154, .invokevirtual 65, 3), (157, .aload_n 0, 1), (158, .getfield 12, 3), (161, .getfield 69, 3)]
theorem nKb138_4 : (nKa138_4.all fun e => decide (decode nM138.2.1 e.1 = .ok e.2)) = true := by decide +kernel
def nKa138_5 : List (Nat × Instr × Nat) := [(164, .bipush 12, 2), (166, .aload_n 0, 1), (167, .ldc 99, 2), (169, .invokevirtual 91, 3), (172, .iastore, 1), (173, .goto 8, 3), (176, .aload_n 0, 1), (177, .iconst 1, 1), (178, .invokevirtual 101, 3), (181, .aload_n 0, 1), (182, .invokevirtual 104, 3), (185, .return_, 1)]
theorem nKb138_5 : (nKa138_5.all fun e => decide (decode nM138.2.1 e.1 = .ok e.2)) = true := by decide +kernel
def nK138 : List (Nat × Instr × Nat) := nKa138_0 ++ (nKa138_1 ++ (nKa138_2 ++ (nKa138_3 ++ (nKa138_4 ++ (nKa138_5)))))
theorem nKok138 : (nK138.all fun e => decide (decode nM138.2.1 e.1 = .ok e.2)) = true := nAll nKb138_0 (nAll nKb138_1 (nAll nKb138_2 (nAll nKb138_3 (nAll nKb138_4 (nKb138_5)))))
def nKa139_0 : List (Nat × Instr × Nat) := [(0, .aload_n 0, 1), (1, .getfield 44, 3), (4, .iconst 1, 1), (5, .if_icmp .ne 19, 3), (8, .aload_n 0, 1), (9, .getfield 53, 3), (12, .aload_n 0, 1), (13, .getfield 107, 3), (16, .isub, 1), (17, .aload_n 1, 1), (18, .invokevirtual 131, 3), (21, .if_icmp .eq 5, 3), (24, .iconst 0, 1), (25, .ireturn, 1), (26, .aload_n 0, 1), (27, .getfield 107, 3), (30, .istore_n 2, 1), (31, .iload_n 2, 1), (32, .aload_n 0, 1), (33, .getfield 53, 3), (36, .if_icmp .ge 30, 3), (39, .aload_n 0, 1), (40, .getfield 28, 3), (43, .iload_n 2, 1), (44, .iaload, 1), (45, .aload_n 1, 1), (46, .iload_n 2, 1), (47, .aload_n 0, 1), (48, .getfield 107, 3), (51, .isub, 1)]
theorem nKb139_0 : (nKa139_0.all fun e => decide (decode nM139.2.1 e.1 = .ok e.2)) = true := by decide +kernel
def nKa139_1 : List (Nat × Instr × Nat) := [(52, .invokevirtual 135, 3), (55, .if_icmp .eq 5, 3), (58, .iconst 0, 1), (59, .ireturn, 1), (60, .iinc 2 1, 3), (63, .goto (-32), 3), (66, .iconst 1, 1), (67, .ireturn, 1)]
theorem nKb139_1 : (nKa139_1.all fun e => decide (decode nM139.2.1 e.1 = .ok e.2)) = true := by decide +kernel
def nK139 : List (Nat × Instr × Nat) := nKa139_0 ++ (nKa139_1)
theorem nKok139 : (nK139.all fun e => decide (decode nM139.2.1 e.1 = .ok e.2)) = true := nAll nKb139_0 (nKb139_1)
def nKa140_0 : List (Nat × Instr × Nat) := [(0, .aload_n 0, 1), (1, .getfield 9, 3), (4, .arraylength, 1), (5, .aload_n 0, 1), (6, .invokevirtual 335, 3), (9, .ishr, 1), (10, .ireturn, 1)]
theorem nKb140_0 : (nKa140_0.all fun e => decide (decode nM140.2.1 e.1 = .ok e.2)) = true := by decide +kernel
def nK140 : List (Nat × Instr × Nat) := nKa140_0
theorem nKok140 : (nK140.all fun e => decide (decode nM140.2.1 e.1 = .ok e.2)) = true := nKb140_0
def nKa141_0 : List (Nat × Instr × Nat) := [(0, .getstatic 38, 3), (3, .ifCond .eq 10, 3), (6, .aload_n 0, 1), (7, .getfield 15, 3), (10, .goto 4, 3), (13, .iconst 1, 1), (14, .ireturn, 1)]
theorem nKb141_0 : (nKa141_0.all fun e => decide (decode nM141.2.1 e.1 = .ok e.2)) = true := by decide +kernel
def nK141 : List (Nat × Instr × Nat) := nKa141_0
theorem nKok141 : (nK141.all fun e => decide (decode nM141.2.1 e.1 = .ok e.2)) = true := nKb141_0
def nKa142_0 : List (Nat × Instr × Nat) := [(0, .aload_n 0, 1), (1, .invokevirtual 492, 3), (4, .ifCond .eq 12, 3), (7, .aload_n 0, 1), (8, .getfield 9, 3), (11, .iload_n 1, 1), (12, .invokestatic 495, 3), (15, .ireturn, 1), (16, .aload_n 0, 1), (17, .getfield 9, 3), (20, .iload_n 1, 1), (21, .invokestatic 498, 3), (24, .ireturn, 1)]
theorem nKb142_0 : (nKa142_0.all fun e => decide (decode nM142.2.1 e.1 = .ok e.2)) = true := by decide +kernel
def nK142 : List (Nat × Instr × Nat) := nKa142_0
theorem nKok142 : (nK142.all fun e => decide (decode nM142.2.1 e.1 = .ok e.2)) = true := nKb142_0
def nKa143_0 : List (Nat × Instr × Nat) := [(0, .getstatic 38, 3), (3, .ifCond .eq 14, 3), (6, .aload_n 0, 1), (7, .getfield 15, 3), (10, .ifCond .ne 7, 3), (13, .iconst 1, 1), (14, .goto 4, 3), (17, .iconst 0, 1), (18, .ireturn, 1)]
theorem nKb143_0 : (nKa143_0.all fun e => decide (decode nM143.2.1 e.1 = .ok e.2)) = true := by decide +kernel
def nK143 : List (Nat × Instr × Nat) := nKa143_0
theorem nKok143 : (nK143.all fun e => decide (decode nM143.2.1 e.1 = .ok e.2)) = true := nKb143_0
def nKa144_0 : List (Nat × Instr × Nat) := [(0, .iload_n 1, 1), (1, .aload_n 0, 1), (2, .arraylength, 1), (3, .invokestatic 9, 3), (6, .aload_n 0, 1), (7, .iload_n 1, 1), (8, .baload, 1), (9, .sipush 255, 3), (12, .iand, 1), (13, .i2c, 1), (14, .ireturn, 1)]
theorem nKb144_0 : (nKa144_0.all fun e => decide (decode nM144.2.1 e.1 = .ok e.2)) = true := by decide +kernel
def nK144 : List (Nat × Instr × Nat) := nKa144_0
theorem nKok144 : (nK144.all fun e => decide (decode nM144.2.1 e.1 = .ok e.2)) = true := nKb144_0
def nKa145_0 : List (Nat × Instr × Nat) := [(0, .iload_n 0, 1), (1, .iload_n 1, 1), (2, .getstatic 1053, 3), (5, .invokestatic 1059, 3), (8, .pop, 1), (9, .return_, 1)]
theorem nKb145_0 : (nKa145_0.all fun e => decide (decode nM145.2.1 e.1 = .ok e.2)) = true := by decide +kernel
def nK145 : List (Nat × Instr × Nat) := nKa145_0
theorem nKok145 : (nK145.all fun e => decide (decode nM145.2.1 e.1 = .ok e.2)) = true := nKb145_0
def nKa146_0 : List (Nat × Instr × Nat) := [(0, .iload_n 0, 1), (1, .ifCond .lt 8, 3), (4, .iload_n 0, 1), (5, .iload_n 1, 1), (6, .if_icmp .lt 10, 3), (9, .aload_n 2, 1), (10, .iload_n 0, 1), (11, .iload_n 1, 1), (12, .invokestatic 95, 3), (15, .athrow, 1), (16, .iload_n 0, 1), (17, .ireturn, 1)]
theorem nKb146_0 : (nKa146_0.all fun e => decide (decode nM146.2.1 e.1 = .ok e.2)) = true := by decide +kernel
def nK146 : List (Nat × Instr × Nat) := nKa146_0
theorem nKok146 : (nK146.all fun e => decide (decode nM146.2.1 e.1 = .ok e.2)) = true := nKb146_0
def nKa147_0 : List (Nat × Instr × Nat) := [(0, .aload_n 0, 1), (1, .getfield 32, 3), (4, .iload_n 1, 1), (5, .baload, 1), (6, .ifCond .eq 8, 3), (9, .aload_n 0, 1), (10, .iconst 3, 1), (11, .invokevirtual 101, 3), (14, .aload_n 0, 1), (15, .getfield 32, 3), (18, .iload_n 1, 1), (19, .iconst 1, 1), (20, .bastore, 1), (21, .aload_n 0, 1), (22, .invokevirtual 56, 3), (25, .return_, 1)]
theorem nKb147_0 : (nKa147_0.all fun e => decide (decode nM147.2.1 e.1 = .ok e.2)) = true := by decide +kernel
def nK147 : List (Nat × Instr × Nat) := nKa147_0
theorem nKok147 : (nK147.all fun e => decide (decode nM147.2.1 e.1 = .ok e.2)) = true := nKb147_0
def nKa148_0 : List (Nat × Instr × Nat) := [(0, .aload_n 0, 1), (1, .iload_n 1, 1), (2, .aload_n 0, 1), (3, .getfield 107, 3), (6, .invokevirtual 110, 3), (9, .return_, 1)]
theorem nKb148_0 : (nKa148_0.all fun e => decide (decode nM148.2.1 e.1 = .ok e.2)) = true := by decide +kernel
def nK148 : List (Nat × Instr × Nat) := nKa148_0
theorem nKok148 : (nK148.all fun e => decide (decode nM148.2.1 e.1 = .ok e.2)) = true := nKb148_0
def nKa149_0 : List (Nat × Instr × Nat) := [(0, .aload_n 0, 1), (1, .getfield 22, 3), (4, .ifCond .ne 13, 3), (7, .aload_n 0, 1), (8, .iload_n 1, 1), (9, .putfield 22, 3), (12, .aload_n 0, 1), (13, .iload_n 2, 1), (14, .putfield 25, 3), (17, .return_, 1)]
theorem nKb149_0 : (nKa149_0.all fun e => decide (decode nM149.2.1 e.1 = .ok e.2)) = true := by decide +kernel
def nK149 : List (Nat × Instr × Nat) := nKa149_0
theorem nKok149 : (nK149.all fun e => decide (decode nM149.2.1 e.1 = .ok e.2)) = true := nKb149_0
def nKa150_0 : List (Nat × Instr × Nat) := [(0, .aload_n 0, 1), (1, .getfield 44, 3), (4, .iconst 2, 1), (5, .if_icmp .eq 10, 3), (8, .aload_n 0, 1), (9, .iconst 1, 1), (10, .invokevirtual 101, 3), (13, .iload_n 1, 1), (14, .ireturn, 1), (15, .aload_n 0, 1), (16, .getfield 53, 3), (19, .aload_n 0, 1), (20, .getfield 107, 3), (23, .isub, 1), (24, .iconst 2, 1), (25, .if_icmp .le 7, 3), (28, .iconst (-1), 1), (29, .goto 7, 3), (32, .aload_n 0, 1), (33, .invokevirtual 120, 3), (36, .istore_n 3, 1), (37, .iload_n 3, 1), (38, .iload_n 1, 1), (39, .if_icmp .lt 8, 3), (42, .iload_n 3, 1), (43, .iload_n 2, 1), (44, .if_icmp .le 10, 3), (47, .aload_n 0, 1), (48, .iconst 2, 1), (49, .invokevirtual 101, 3)]
theorem nKb150_0 : (nKa150_0.all fun e => decide (decode nM150.2.1 e.1 = .ok e.2)) = true := by decide +kernel
def nKa150_1 : List (Nat × Instr × Nat) := [(52, .iload_n 1, 1), (53, .ireturn, 1), (54, .aload_n 0, 1), (55, .invokevirtual 56, 3), (58, .iload_n 3, 1), (59, .ireturn, 1)]
theorem nKb150_1 : (nKa150_1.all fun e => decide (decode nM150.2.1 e.1 = .ok e.2)) = true := by decide +kernel
def nK150 : List (Nat × Instr × Nat) := nKa150_0 ++ (nKa150_1)
theorem nKok150 : (nK150.all fun e => decide (decode nM150.2.1 e.1 = .ok e.2)) = true := nAll nKb150_0 (nKb150_1)
def nKa151_0 : List (Nat × Instr × Nat) := [(0, .iconst 0, 1), (1, .istore_n 1, 1), (2, .aload_n 0, 1), (3, .getfield 107, 3), (6, .istore_n 2, 1), (7, .iload_n 2, 1), (8, .aload_n 0, 1), (9, .getfield 53, 3), (12, .if_icmp .ge 24, 3), (15, .iload_n 1, 1), (16, .bipush 10, 2), (18, .imul, 1), (19, .aload_n 0, 1), (20, .getfield 28, 3), (23, .iload_n 2, 1), (24, .iaload, 1), (25, .iadd, 1), (26, .bipush 48, 2), (28, .isub, 1), (29, .istore_n 1, 1), (30, .iinc 2 1, 3), (33, .goto (-26), 3), (36, .iload_n 1, 1), (37, .ireturn, 1)]
theorem nKb151_0 : (nKa151_0.all fun e => decide (decode nM151.2.1 e.1 = .ok e.2)) = true := by decide +kernel
def nK151 : List (Nat × Instr × Nat) := nKa151_0
theorem nKok151 : (nK151.all fun e => decide (decode nM151.2.1 e.1 = .ok e.2)) = true := nKb151_0
def nKa152_0 : List (Nat × Instr × Nat) := [(0, .aload_n 0, 1), (1, .aload_n 1, 1), (2, .invokevirtual 61, 3), (5, .ifCond .ne 9, 3), (8, .aload_n 0, 1), (9, .iconst 1, 1), (10, .invokevirtual 101, 3), (13, .return_, 1), (14, .aload_n 0, 1), (15, .invokevirtual 56, 3), (18, .return_, 1)]
theorem nKb152_0 : (nKa152_0.all fun e => decide (decode nM152.2.1 e.1 = .ok e.2)) = true := by decide +kernel
def nK152 : List (Nat × Instr × Nat) := nKa152_0
theorem nKok152 : (nK152.all fun e => decide (decode nM152.2.1 e.1 = .ok e.2)) = true := nKb152_0
def nKa153_0 : List (Nat × Instr × Nat) := [(0, .aload_n 0, 1), (1, .getfield 107, 3), (4, .istore_n 1, 1), (5, .aload_n 0, 1), (6, .iconst 1, 1), (7, .iconst 4, 1), (8, .invokevirtual 72, 3), (11, .istore_n 2, 1), (12, .aload_n 0, 1), (13, .getfield 36, 3), (16, .iload_n 2, 1), (17, .baload, 1), (18, .ifCond .eq 9, 3), (21, .aload_n 0, 1), (22, .iconst 3, 1), (23, .iload_n 1, 1), (24, .invokevirtual 110, 3), (27, .aload_n 0, 1), (28, .getfield 36, 3), (31, .iload_n 2, 1), (32, .iconst 1, 1), (33, .bastore, 1), (34, .aload_n 0, 1), (35, .getfield 12, 3), (38, .getfield 69, 3), (41, .iconst 2, 1), (42, .iload_n 2, 1), (43, .iadd, 1), (44, .iconst 1, 1), (45, .isub, 1)]
theorem nKb153_0 : (nKa153_0.all fun e => decide (decode nM153.2.1 e.1 = .ok e.2)) = true := by decide +kernel
def nKa153_1 : List (Nat × Instr × Nat) := [(46, .aload_n 0, 1), (47, .invokevirtual 114, 3), (50, .iastore, 1), (51, .aload_n 0, 1), (52, .invokevirtual 56, 3), (55, .aload_n 0, 1), (56, .ldc 118, 2), (58, .invokevirtual 61, 3), (61, .istore_n 3, 1), (62, .aload_n 0, 1), (63, .getfield 12, 3), (66, .getfield 69, 3), (69, .bipush 6, 2), (71, .iload_n 2, 1), (72, .iadd, 1), (73, .iconst 1, 1), (74, .isub, 1), (75, .iload_n 3, 1), (76, .ifCond .eq 7, 3), (79, .iconst 1, 1), (80, .goto 4, 3), (83, .iconst 0, 1), (84, .iastore, 1), (85, .iload_n 3, 1), (86, .ifCond .eq 7, 3), (89, .aload_n 0, 1), (90, .invokevirtual 56, 3), (93, .return_, 1)]
theorem nKb153_1 : (nKa153_1.all fun e => decide (decode nM153.2.1 e.1 = .ok e.2)) = true := by decide +kernel
def nK153 : List (Nat × Instr × Nat) := nKa153_0 ++ (nKa153_1)
theorem nKok153 : (nK153.all fun e => decide (decode nM153.2.1 e.1 = .ok e.2)) = true := nAll nKb153_0 (nKb153_1)
