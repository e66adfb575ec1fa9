/-! code tables, written by program -/
def nKa0_0 : List (Nat × Instr × Nat) := [(0, .new 7, 3), (3, .dup, 1), (4, .invokespecial 9, 3)]
theorem nKb0_0 : (nKa0_0.all fun e => decide (decode nM0.2.1 e.1 = .ok e.2)) = true := by decide +kernel
def nKa0_1 : List (Nat × Instr × Nat) := [(7, .astore_n 1, 1), (8, .new 10, 3), (11, .dup, 1)]
theorem nKb0_1 : (nKa0_1.all fun e => decide (decode nM0.2.1 e.1 = .ok e.2)) = true := by decide +kernel
def nKa0_2 : List (Nat × Instr × Nat) := [(12, .invokespecial 12, 3), (15, .astore_n 2, 1), (16, .iconst 0, 1)]
theorem nKb0_2 : (nKa0_2.all fun e => decide (decode nM0.2.1 e.1 = .ok e.2)) = true := by decide +kernel
def nKa0_3 : List (Nat × Instr × Nat) := [(17, .istore_n 3, 1), (18, .iload_n 3, 1), (19, .aload_n 0, 1)]
theorem nKb0_3 : (nKa0_3.all fun e => decide (decode nM0.2.1 e.1 = .ok e.2)) = true := by decide +kernel
def nKa0_4 : List (Nat × Instr × Nat) := [(20, .arraylength, 1), (21, .iconst 5, 1), (22, .isub, 1)]
theorem nKb0_4 : (nKa0_4.all fun e => decide (decode nM0.2.1 e.1 = .ok e.2)) = true := by decide +kernel
def nKa0_5 : List (Nat × Instr × Nat) := [(23, .if_icmp .gt 950, 3), (26, .aload_n 0, 1), (27, .iload_n 3, 1)]
theorem nKb0_5 : (nKa0_5.all fun e => decide (decode nM0.2.1 e.1 = .ok e.2)) = true := by decide +kernel
def nKa0_6 : List (Nat × Instr × Nat) := [(28, .iaload, 1), (29, .bipush 31, 2), (31, .iand, 1)]
theorem nKb0_6 : (nKa0_6.all fun e => decide (decode nM0.2.1 e.1 = .ok e.2)) = true := by decide +kernel
def nKa0_7 : List (Nat × Instr × Nat) := [(32, .tableswitch 935 0 26 #[124, 167, 190, 223, 256, 309, 332, 365, 398, 441, 464, 487, 520, 543, 566, 599, 642, 665, 688, 721, 744, 767, 790, 823, 886, 899, 912], 124), (156, .aload_n 1, 1), (157, .aload_n 0, 1)]
theorem nKb0_7 : (nKa0_7.all fun e => decide (decode nM0.2.1 e.1 = .ok e.2)) = true := by decide +kernel
def nKa0_8 : List (Nat × Instr × Nat) := [(158, .iload_n 3, 1), (159, .iconst 1, 1), (160, .iadd, 1)]
theorem nKb0_8 : (nKa0_8.all fun e => decide (decode nM0.2.1 e.1 = .ok e.2)) = true := by decide +kernel
def nKa0_9 : List (Nat × Instr × Nat) := [(161, .iaload, 1), (162, .aload_n 0, 1), (163, .iload_n 3, 1)]
theorem nKb0_9 : (nKa0_9.all fun e => decide (decode nM0.2.1 e.1 = .ok e.2)) = true := by decide +kernel
def nKa0_10 : List (Nat × Instr × Nat) := [(164, .iconst 2, 1), (165, .iadd, 1), (166, .iaload, 1)]
theorem nKb0_10 : (nKa0_10.all fun e => decide (decode nM0.2.1 e.1 = .ok e.2)) = true := by decide +kernel
def nKa0_11 : List (Nat × Instr × Nat) := [(167, .aload_n 0, 1), (168, .iload_n 3, 1), (169, .iconst 3, 1)]
theorem nKb0_11 : (nKa0_11.all fun e => decide (decode nM0.2.1 e.1 = .ok e.2)) = true := by decide +kernel
def nKa0_12 : List (Nat × Instr × Nat) := [(170, .iadd, 1), (171, .iaload, 1), (172, .invokevirtual 13, 3)]
theorem nKb0_12 : (nKa0_12.all fun e => decide (decode nM0.2.1 e.1 = .ok e.2)) = true := by decide +kernel
def nKa0_13 : List (Nat × Instr × Nat) := [(175, .aload_n 2, 1), (176, .aload_n 0, 1), (177, .iload_n 3, 1)]
theorem nKb0_13 : (nKa0_13.all fun e => decide (decode nM0.2.1 e.1 = .ok e.2)) = true := by decide +kernel
def nKa0_14 : List (Nat × Instr × Nat) := [(178, .iconst 1, 1), (179, .iadd, 1), (180, .iaload, 1)]
theorem nKb0_14 : (nKa0_14.all fun e => decide (decode nM0.2.1 e.1 = .ok e.2)) = true := by decide +kernel
def nKa0_15 : List (Nat × Instr × Nat) := [(181, .aload_n 0, 1), (182, .iload_n 3, 1), (183, .iconst 2, 1)]
theorem nKb0_15 : (nKa0_15.all fun e => decide (decode nM0.2.1 e.1 = .ok e.2)) = true := by decide +kernel
def nKa0_16 : List (Nat × Instr × Nat) := [(184, .iadd, 1), (185, .iaload, 1), (186, .aload_n 0, 1)]
theorem nKb0_16 : (nKa0_16.all fun e => decide (decode nM0.2.1 e.1 = .ok e.2)) = true := by decide +kernel
def nKa0_17 : List (Nat × Instr × Nat) := [(187, .iload_n 3, 1), (188, .iconst 3, 1), (189, .iadd, 1)]
theorem nKb0_17 : (nKa0_17.all fun e => decide (decode nM0.2.1 e.1 = .ok e.2)) = true := by decide +kernel
def nKa0_18 : List (Nat × Instr × Nat) := [(190, .iaload, 1), (191, .invokevirtual 17, 3), (194, .if_icmp .eq 773, 3)]
theorem nKb0_18 : (nKa0_18.all fun e => decide (decode nM0.2.1 e.1 = .ok e.2)) = true := by decide +kernel
def nKa0_19 : List (Nat × Instr × Nat) := [(197, .iconst 0, 1), (198, .ireturn, 1), (199, .aload_n 1, 1)]
theorem nKb0_19 : (nKa0_19.all fun e => decide (decode nM0.2.1 e.1 = .ok e.2)) = true := by decide +kernel
def nKa0_20 : List (Nat × Instr × Nat) := [(200, .aload_n 0, 1), (201, .iload_n 3, 1), (202, .iconst 1, 1)]
theorem nKb0_20 : (nKa0_20.all fun e => decide (decode nM0.2.1 e.1 = .ok e.2)) = true := by decide +kernel
def nKa0_21 : List (Nat × Instr × Nat) := [(203, .iadd, 1), (204, .iaload, 1), (205, .invokevirtual 18, 3)]
theorem nKb0_21 : (nKa0_21.all fun e => decide (decode nM0.2.1 e.1 = .ok e.2)) = true := by decide +kernel
def nKa0_22 : List (Nat × Instr × Nat) := [(208, .aload_n 2, 1), (209, .aload_n 0, 1), (210, .iload_n 3, 1)]
theorem nKb0_22 : (nKa0_22.all fun e => decide (decode nM0.2.1 e.1 = .ok e.2)) = true := by decide +kernel
def nKa0_23 : List (Nat × Instr × Nat) := [(211, .iconst 1, 1), (212, .iadd, 1), (213, .iaload, 1)]
theorem nKb0_23 : (nKa0_23.all fun e => decide (decode nM0.2.1 e.1 = .ok e.2)) = true := by decide +kernel
def nKa0_24 : List (Nat × Instr × Nat) := [(214, .invokevirtual 22, 3), (217, .if_icmp .eq 750, 3), (220, .iconst 0, 1)]
theorem nKb0_24 : (nKa0_24.all fun e => decide (decode nM0.2.1 e.1 = .ok e.2)) = true := by decide +kernel
def nKa0_25 : List (Nat × Instr × Nat) := [(221, .ireturn, 1), (222, .aload_n 1, 1), (223, .aload_n 0, 1)]
theorem nKb0_25 : (nKa0_25.all fun e => decide (decode nM0.2.1 e.1 = .ok e.2)) = true := by decide +kernel
def nKa0_26 : List (Nat × Instr × Nat) := [(224, .iload_n 3, 1), (225, .iconst 1, 1), (226, .iadd, 1)]
theorem nKb0_26 : (nKa0_26.all fun e => decide (decode nM0.2.1 e.1 = .ok e.2)) = true := by decide +kernel
def nKa0_27 : List (Nat × Instr × Nat) := [(227, .iaload, 1), (228, .aload_n 0, 1), (229, .iload_n 3, 1)]
theorem nKb0_27 : (nKa0_27.all fun e => decide (decode nM0.2.1 e.1 = .ok e.2)) = true := by decide +kernel
def nKa0_28 : List (Nat × Instr × Nat) := [(230, .iconst 2, 1), (231, .iadd, 1), (232, .iaload, 1)]
theorem nKb0_28 : (nKa0_28.all fun e => decide (decode nM0.2.1 e.1 = .ok e.2)) = true := by decide +kernel
def nKa0_29 : List (Nat × Instr × Nat) := [(233, .invokevirtual 23, 3), (236, .aload_n 2, 1), (237, .aload_n 0, 1)]
theorem nKb0_29 : (nKa0_29.all fun e => decide (decode nM0.2.1 e.1 = .ok e.2)) = true := by decide +kernel
def nKa0_30 : List (Nat × Instr × Nat) := [(238, .iload_n 3, 1), (239, .iconst 1, 1), (240, .iadd, 1)]
theorem nKb0_30 : (nKa0_30.all fun e => decide (decode nM0.2.1 e.1 = .ok e.2)) = true := by decide +kernel
def nKa0_31 : List (Nat × Instr × Nat) := [(241, .iaload, 1), (242, .aload_n 0, 1), (243, .iload_n 3, 1)]
theorem nKb0_31 : (nKa0_31.all fun e => decide (decode nM0.2.1 e.1 = .ok e.2)) = true := by decide +kernel
def nKa0_32 : List (Nat × Instr × Nat) := [(244, .iconst 2, 1), (245, .iadd, 1), (246, .iaload, 1)]
theorem nKb0_32 : (nKa0_32.all fun e => decide (decode nM0.2.1 e.1 = .ok e.2)) = true := by decide +kernel
def nKa0_33 : List (Nat × Instr × Nat) := [(247, .invokevirtual 27, 3), (250, .if_icmp .eq 717, 3), (253, .iconst 0, 1)]
theorem nKb0_33 : (nKa0_33.all fun e => decide (decode nM0.2.1 e.1 = .ok e.2)) = true := by decide +kernel
def nKa0_34 : List (Nat × Instr × Nat) := [(254, .ireturn, 1), (255, .aload_n 1, 1), (256, .aload_n 0, 1)]
theorem nKb0_34 : (nKa0_34.all fun e => decide (decode nM0.2.1 e.1 = .ok e.2)) = true := by decide +kernel
def nKa0_35 : List (Nat × Instr × Nat) := [(257, .iload_n 3, 1), (258, .iconst 1, 1), (259, .iadd, 1)]
theorem nKb0_35 : (nKa0_35.all fun e => decide (decode nM0.2.1 e.1 = .ok e.2)) = true := by decide +kernel
def nKa0_36 : List (Nat × Instr × Nat) := [(260, .iaload, 1), (261, .aload_n 0, 1), (262, .iload_n 3, 1)]
theorem nKb0_36 : (nKa0_36.all fun e => decide (decode nM0.2.1 e.1 = .ok e.2)) = true := by decide +kernel
def nKa0_37 : List (Nat × Instr × Nat) := [(263, .iconst 2, 1), (264, .iadd, 1), (265, .iaload, 1)]
theorem nKb0_37 : (nKa0_37.all fun e => decide (decode nM0.2.1 e.1 = .ok e.2)) = true := by decide +kernel
def nKa0_38 : List (Nat × Instr × Nat) := [(266, .invokevirtual 28, 3), (269, .aload_n 2, 1), (270, .aload_n 0, 1)]
theorem nKb0_38 : (nKa0_38.all fun e => decide (decode nM0.2.1 e.1 = .ok e.2)) = true := by decide +kernel
def nKa0_39 : List (Nat × Instr × Nat) := [(271, .iload_n 3, 1), (272, .iconst 1, 1), (273, .iadd, 1)]
theorem nKb0_39 : (nKa0_39.all fun e => decide (decode nM0.2.1 e.1 = .ok e.2)) = true := by decide +kernel
def nKa0_40 : List (Nat × Instr × Nat) := [(274, .iaload, 1), (275, .aload_n 0, 1), (276, .iload_n 3, 1)]
theorem nKb0_40 : (nKa0_40.all fun e => decide (decode nM0.2.1 e.1 = .ok e.2)) = true := by decide +kernel
def nKa0_41 : List (Nat × Instr × Nat) := [(277, .iconst 2, 1), (278, .iadd, 1), (279, .iaload, 1)]
theorem nKb0_41 : (nKa0_41.all fun e => decide (decode nM0.2.1 e.1 = .ok e.2)) = true := by decide +kernel
def nKa0_42 : List (Nat × Instr × Nat) := [(280, .invokevirtual 31, 3), (283, .if_icmp .eq 684, 3), (286, .iconst 0, 1)]
theorem nKb0_42 : (nKa0_42.all fun e => decide (decode nM0.2.1 e.1 = .ok e.2)) = true := by decide +kernel
def nKa0_43 : List (Nat × Instr × Nat) := [(287, .ireturn, 1), (288, .aload_n 1, 1), (289, .aload_n 0, 1)]
theorem nKb0_43 : (nKa0_43.all fun e => decide (decode nM0.2.1 e.1 = .ok e.2)) = true := by decide +kernel
def nKa0_44 : List (Nat × Instr × Nat) := [(290, .iload_n 3, 1), (291, .iconst 1, 1), (292, .iadd, 1)]
theorem nKb0_44 : (nKa0_44.all fun e => decide (decode nM0.2.1 e.1 = .ok e.2)) = true := by decide +kernel
def nKa0_45 : List (Nat × Instr × Nat) := [(293, .iaload, 1), (294, .aload_n 0, 1), (295, .iload_n 3, 1)]
theorem nKb0_45 : (nKa0_45.all fun e => decide (decode nM0.2.1 e.1 = .ok e.2)) = true := by decide +kernel
def nKa0_46 : List (Nat × Instr × Nat) := [(296, .iconst 2, 1), (297, .iadd, 1), (298, .iaload, 1)]
theorem nKb0_46 : (nKa0_46.all fun e => decide (decode nM0.2.1 e.1 = .ok e.2)) = true := by decide +kernel
def nKa0_47 : List (Nat × Instr × Nat) := [(299, .aload_n 0, 1), (300, .iload_n 3, 1), (301, .iconst 3, 1)]
theorem nKb0_47 : (nKa0_47.all fun e => decide (decode nM0.2.1 e.1 = .ok e.2)) = true := by decide +kernel
def nKa0_48 : List (Nat × Instr × Nat) := [(302, .iadd, 1), (303, .iaload, 1), (304, .aload_n 0, 1)]
theorem nKb0_48 : (nKa0_48.all fun e => decide (decode nM0.2.1 e.1 = .ok e.2)) = true := by decide +kernel
def nKa0_49 : List (Nat × Instr × Nat) := [(305, .iload_n 3, 1), (306, .iconst 4, 1), (307, .iadd, 1)]
theorem nKb0_49 : (nKa0_49.all fun e => decide (decode nM0.2.1 e.1 = .ok e.2)) = true := by decide +kernel
def nKa0_50 : List (Nat × Instr × Nat) := [(308, .iaload, 1), (309, .invokevirtual 32, 3), (312, .aload_n 2, 1)]
theorem nKb0_50 : (nKa0_50.all fun e => decide (decode nM0.2.1 e.1 = .ok e.2)) = true := by decide +kernel
def nKa0_51 : List (Nat × Instr × Nat) := [(313, .aload_n 0, 1), (314, .iload_n 3, 1), (315, .iconst 1, 1)]
theorem nKb0_51 : (nKa0_51.all fun e => decide (decode nM0.2.1 e.1 = .ok e.2)) = true := by decide +kernel
def nKa0_52 : List (Nat × Instr × Nat) := [(316, .iadd, 1), (317, .iaload, 1), (318, .aload_n 0, 1)]
theorem nKb0_52 : (nKa0_52.all fun e => decide (decode nM0.2.1 e.1 = .ok e.2)) = true := by decide +kernel
def nKa0_53 : List (Nat × Instr × Nat) := [(319, .iload_n 3, 1), (320, .iconst 2, 1), (321, .iadd, 1)]
theorem nKb0_53 : (nKa0_53.all fun e => decide (decode nM0.2.1 e.1 = .ok e.2)) = true := by decide +kernel
def nKa0_54 : List (Nat × Instr × Nat) := [(322, .iaload, 1), (323, .aload_n 0, 1), (324, .iload_n 3, 1)]
theorem nKb0_54 : (nKa0_54.all fun e => decide (decode nM0.2.1 e.1 = .ok e.2)) = true := by decide +kernel
def nKa0_55 : List (Nat × Instr × Nat) := [(325, .iconst 3, 1), (326, .iadd, 1), (327, .iaload, 1)]
theorem nKb0_55 : (nKa0_55.all fun e => decide (decode nM0.2.1 e.1 = .ok e.2)) = true := by decide +kernel
def nKa0_56 : List (Nat × Instr × Nat) := [(328, .aload_n 0, 1), (329, .iload_n 3, 1), (330, .iconst 4, 1)]
theorem nKb0_56 : (nKa0_56.all fun e => decide (decode nM0.2.1 e.1 = .ok e.2)) = true := by decide +kernel
def nKa0_57 : List (Nat × Instr × Nat) := [(331, .iadd, 1), (332, .iaload, 1), (333, .invokevirtual 36, 3)]
theorem nKb0_57 : (nKa0_57.all fun e => decide (decode nM0.2.1 e.1 = .ok e.2)) = true := by decide +kernel
def nKa0_58 : List (Nat × Instr × Nat) := [(336, .if_icmp .eq 631, 3), (339, .iconst 0, 1), (340, .ireturn, 1)]
theorem nKb0_58 : (nKa0_58.all fun e => decide (decode nM0.2.1 e.1 = .ok e.2)) = true := by decide +kernel
def nKa0_59 : List (Nat × Instr × Nat) := [(341, .aload_n 1, 1), (342, .aload_n 0, 1), (343, .iload_n 3, 1)]
theorem nKb0_59 : (nKa0_59.all fun e => decide (decode nM0.2.1 e.1 = .ok e.2)) = true := by decide +kernel
def nKa0_60 : List (Nat × Instr × Nat) := [(344, .iconst 1, 1), (345, .iadd, 1), (346, .iaload, 1)]
theorem nKb0_60 : (nKa0_60.all fun e => decide (decode nM0.2.1 e.1 = .ok e.2)) = true := by decide +kernel
def nKa0_61 : List (Nat × Instr × Nat) := [(347, .invokevirtual 37, 3), (350, .aload_n 2, 1), (351, .aload_n 0, 1)]
theorem nKb0_61 : (nKa0_61.all fun e => decide (decode nM0.2.1 e.1 = .ok e.2)) = true := by decide +kernel
def nKa0_62 : List (Nat × Instr × Nat) := [(352, .iload_n 3, 1), (353, .iconst 1, 1), (354, .iadd, 1)]
theorem nKb0_62 : (nKa0_62.all fun e => decide (decode nM0.2.1 e.1 = .ok e.2)) = true := by decide +kernel
def nKa0_63 : List (Nat × Instr × Nat) := [(355, .iaload, 1), (356, .invokevirtual 40, 3), (359, .if_icmp .eq 608, 3)]
theorem nKb0_63 : (nKa0_63.all fun e => decide (decode nM0.2.1 e.1 = .ok e.2)) = true := by decide +kernel
def nKa0_64 : List (Nat × Instr × Nat) := [(362, .iconst 0, 1), (363, .ireturn, 1), (364, .aload_n 1, 1)]
theorem nKb0_64 : (nKa0_64.all fun e => decide (decode nM0.2.1 e.1 = .ok e.2)) = true := by decide +kernel
def nKa0_65 : List (Nat × Instr × Nat) := [(365, .aload_n 0, 1), (366, .iload_n 3, 1), (367, .iconst 1, 1)]
theorem nKb0_65 : (nKa0_65.all fun e => decide (decode nM0.2.1 e.1 = .ok e.2)) = true := by decide +kernel
def nKa0_66 : List (Nat × Instr × Nat) := [(368, .iadd, 1), (369, .iaload, 1), (370, .aload_n 0, 1)]
theorem nKb0_66 : (nKa0_66.all fun e => decide (decode nM0.2.1 e.1 = .ok e.2)) = true := by decide +kernel
def nKa0_67 : List (Nat × Instr × Nat) := [(371, .iload_n 3, 1), (372, .iconst 2, 1), (373, .iadd, 1)]
theorem nKb0_67 : (nKa0_67.all fun e => decide (decode nM0.2.1 e.1 = .ok e.2)) = true := by decide +kernel
def nKa0_68 : List (Nat × Instr × Nat) := [(374, .iaload, 1), (375, .invokevirtual 41, 3), (378, .aload_n 2, 1)]
theorem nKb0_68 : (nKa0_68.all fun e => decide (decode nM0.2.1 e.1 = .ok e.2)) = true := by decide +kernel
def nKa0_69 : List (Nat × Instr × Nat) := [(379, .aload_n 0, 1), (380, .iload_n 3, 1), (381, .iconst 1, 1)]
theorem nKb0_69 : (nKa0_69.all fun e => decide (decode nM0.2.1 e.1 = .ok e.2)) = true := by decide +kernel
def nKa0_70 : List (Nat × Instr × Nat) := [(382, .iadd, 1), (383, .iaload, 1), (384, .aload_n 0, 1)]
theorem nKb0_70 : (nKa0_70.all fun e => decide (decode nM0.2.1 e.1 = .ok e.2)) = true := by decide +kernel
def nKa0_71 : List (Nat × Instr × Nat) := [(385, .iload_n 3, 1), (386, .iconst 2, 1), (387, .iadd, 1)]
theorem nKb0_71 : (nKa0_71.all fun e => decide (decode nM0.2.1 e.1 = .ok e.2)) = true := by decide +kernel
def nKa0_72 : List (Nat × Instr × Nat) := [(388, .iaload, 1), (389, .invokevirtual 44, 3), (392, .if_icmp .eq 575, 3)]
theorem nKb0_72 : (nKa0_72.all fun e => decide (decode nM0.2.1 e.1 = .ok e.2)) = true := by decide +kernel
def nKa0_73 : List (Nat × Instr × Nat) := [(395, .iconst 0, 1), (396, .ireturn, 1), (397, .aload_n 1, 1)]
theorem nKb0_73 : (nKa0_73.all fun e => decide (decode nM0.2.1 e.1 = .ok e.2)) = true := by decide +kernel
def nKa0_74 : List (Nat × Instr × Nat) := [(398, .aload_n 0, 1), (399, .iload_n 3, 1), (400, .iconst 1, 1)]
theorem nKb0_74 : (nKa0_74.all fun e => decide (decode nM0.2.1 e.1 = .ok e.2)) = true := by decide +kernel
def nKa0_75 : List (Nat × Instr × Nat) := [(401, .iadd, 1), (402, .iaload, 1), (403, .aload_n 0, 1)]
theorem nKb0_75 : (nKa0_75.all fun e => decide (decode nM0.2.1 e.1 = .ok e.2)) = true := by decide +kernel
def nKa0_76 : List (Nat × Instr × Nat) := [(404, .iload_n 3, 1), (405, .iconst 2, 1), (406, .iadd, 1)]
theorem nKb0_76 : (nKa0_76.all fun e => decide (decode nM0.2.1 e.1 = .ok e.2)) = true := by decide +kernel
def nKa0_77 : List (Nat × Instr × Nat) := [(407, .iaload, 1), (408, .invokevirtual 45, 3), (411, .aload_n 2, 1)]
theorem nKb0_77 : (nKa0_77.all fun e => decide (decode nM0.2.1 e.1 = .ok e.2)) = true := by decide +kernel
def nKa0_78 : List (Nat × Instr × Nat) := [(412, .aload_n 0, 1), (413, .iload_n 3, 1), (414, .iconst 1, 1)]
theorem nKb0_78 : (nKa0_78.all fun e => decide (decode nM0.2.1 e.1 = .ok e.2)) = true := by decide +kernel
def nKa0_79 : List (Nat × Instr × Nat) := [(415, .iadd, 1), (416, .iaload, 1), (417, .aload_n 0, 1)]
theorem nKb0_79 : (nKa0_79.all fun e => decide (decode nM0.2.1 e.1 = .ok e.2)) = true := by decide +kernel
def nKa0_80 : List (Nat × Instr × Nat) := [(418, .iload_n 3, 1), (419, .iconst 2, 1), (420, .iadd, 1)]
theorem nKb0_80 : (nKa0_80.all fun e => decide (decode nM0.2.1 e.1 = .ok e.2)) = true := by decide +kernel
def nKa0_81 : List (Nat × Instr × Nat) := [(421, .iaload, 1), (422, .invokevirtual 48, 3), (425, .if_icmp .eq 542, 3)]
theorem nKb0_81 : (nKa0_81.all fun e => decide (decode nM0.2.1 e.1 = .ok e.2)) = true := by decide +kernel
def nKa0_82 : List (Nat × Instr × Nat) := [(428, .iconst 0, 1), (429, .ireturn, 1), (430, .aload_n 1, 1)]
theorem nKb0_82 : (nKa0_82.all fun e => decide (decode nM0.2.1 e.1 = .ok e.2)) = true := by decide +kernel
def nKa0_83 : List (Nat × Instr × Nat) := [(431, .aload_n 0, 1), (432, .iload_n 3, 1), (433, .iconst 1, 1)]
theorem nKb0_83 : (nKa0_83.all fun e => decide (decode nM0.2.1 e.1 = .ok e.2)) = true := by decide +kernel
def nKa0_84 : List (Nat × Instr × Nat) := [(434, .iadd, 1), (435, .iaload, 1), (436, .aload_n 0, 1)]
theorem nKb0_84 : (nKa0_84.all fun e => decide (decode nM0.2.1 e.1 = .ok e.2)) = true := by decide +kernel
def nKa0_85 : List (Nat × Instr × Nat) := [(437, .iload_n 3, 1), (438, .iconst 2, 1), (439, .iadd, 1)]
theorem nKb0_85 : (nKa0_85.all fun e => decide (decode nM0.2.1 e.1 = .ok e.2)) = true := by decide +kernel
def nKa0_86 : List (Nat × Instr × Nat) := [(440, .iaload, 1), (441, .aload_n 0, 1), (442, .iload_n 3, 1)]
theorem nKb0_86 : (nKa0_86.all fun e => decide (decode nM0.2.1 e.1 = .ok e.2)) = true := by decide +kernel
def nKa0_87 : List (Nat × Instr × Nat) := [(443, .iconst 3, 1), (444, .iadd, 1), (445, .iaload, 1)]
theorem nKb0_87 : (nKa0_87.all fun e => decide (decode nM0.2.1 e.1 = .ok e.2)) = true := by decide +kernel
def nKa0_88 : List (Nat × Instr × Nat) := [(446, .invokevirtual 49, 3), (449, .aload_n 2, 1), (450, .aload_n 0, 1)]
theorem nKb0_88 : (nKa0_88.all fun e => decide (decode nM0.2.1 e.1 = .ok e.2)) = true := by decide +kernel
def nKa0_89 : List (Nat × Instr × Nat) := [(451, .iload_n 3, 1), (452, .iconst 1, 1), (453, .iadd, 1)]
theorem nKb0_89 : (nKa0_89.all fun e => decide (decode nM0.2.1 e.1 = .ok e.2)) = true := by decide +kernel
def nKa0_90 : List (Nat × Instr × Nat) := [(454, .iaload, 1), (455, .aload_n 0, 1), (456, .iload_n 3, 1)]
theorem nKb0_90 : (nKa0_90.all fun e => decide (decode nM0.2.1 e.1 = .ok e.2)) = true := by decide +kernel
def nKa0_91 : List (Nat × Instr × Nat) := [(457, .iconst 2, 1), (458, .iadd, 1), (459, .iaload, 1)]
theorem nKb0_91 : (nKa0_91.all fun e => decide (decode nM0.2.1 e.1 = .ok e.2)) = true := by decide +kernel
def nKa0_92 : List (Nat × Instr × Nat) := [(460, .aload_n 0, 1), (461, .iload_n 3, 1), (462, .iconst 3, 1)]
theorem nKb0_92 : (nKa0_92.all fun e => decide (decode nM0.2.1 e.1 = .ok e.2)) = true := by decide +kernel
def nKa0_93 : List (Nat × Instr × Nat) := [(463, .iadd, 1), (464, .iaload, 1), (465, .invokevirtual 52, 3)]
theorem nKb0_93 : (nKa0_93.all fun e => decide (decode nM0.2.1 e.1 = .ok e.2)) = true := by decide +kernel
def nKa0_94 : List (Nat × Instr × Nat) := [(468, .if_icmp .eq 499, 3), (471, .iconst 0, 1), (472, .ireturn, 1)]
theorem nKb0_94 : (nKa0_94.all fun e => decide (decode nM0.2.1 e.1 = .ok e.2)) = true := by decide +kernel
def nKa0_95 : List (Nat × Instr × Nat) := [(473, .aload_n 1, 1), (474, .aload_n 0, 1), (475, .iload_n 3, 1)]
theorem nKb0_95 : (nKa0_95.all fun e => decide (decode nM0.2.1 e.1 = .ok e.2)) = true := by decide +kernel
def nKa0_96 : List (Nat × Instr × Nat) := [(476, .iconst 1, 1), (477, .iadd, 1), (478, .iaload, 1)]
theorem nKb0_96 : (nKa0_96.all fun e => decide (decode nM0.2.1 e.1 = .ok e.2)) = true := by decide +kernel
def nKa0_97 : List (Nat × Instr × Nat) := [(479, .invokevirtual 53, 3), (482, .aload_n 2, 1), (483, .aload_n 0, 1)]
theorem nKb0_97 : (nKa0_97.all fun e => decide (decode nM0.2.1 e.1 = .ok e.2)) = true := by decide +kernel
def nKa0_98 : List (Nat × Instr × Nat) := [(484, .iload_n 3, 1), (485, .iconst 1, 1), (486, .iadd, 1)]
theorem nKb0_98 : (nKa0_98.all fun e => decide (decode nM0.2.1 e.1 = .ok e.2)) = true := by decide +kernel
def nKa0_99 : List (Nat × Instr × Nat) := [(487, .iaload, 1), (488, .invokevirtual 56, 3), (491, .if_icmp .eq 476, 3)]
theorem nKb0_99 : (nKa0_99.all fun e => decide (decode nM0.2.1 e.1 = .ok e.2)) = true := by decide +kernel
def nKa0_100 : List (Nat × Instr × Nat) := [(494, .iconst 0, 1), (495, .ireturn, 1), (496, .aload_n 1, 1)]
theorem nKb0_100 : (nKa0_100.all fun e => decide (decode nM0.2.1 e.1 = .ok e.2)) = true := by decide +kernel
def nKa0_101 : List (Nat × Instr × Nat) := [(497, .aload_n 0, 1), (498, .iload_n 3, 1), (499, .iconst 1, 1)]
theorem nKb0_101 : (nKa0_101.all fun e => decide (decode nM0.2.1 e.1 = .ok e.2)) = true := by decide +kernel
def nKa0_102 : List (Nat × Instr × Nat) := [(500, .iadd, 1), (501, .iaload, 1), (502, .invokevirtual 57, 3)]
theorem nKb0_102 : (nKa0_102.all fun e => decide (decode nM0.2.1 e.1 = .ok e.2)) = true := by decide +kernel
def nKa0_103 : List (Nat × Instr × Nat) := [(505, .aload_n 2, 1), (506, .aload_n 0, 1), (507, .iload_n 3, 1)]
theorem nKb0_103 : (nKa0_103.all fun e => decide (decode nM0.2.1 e.1 = .ok e.2)) = true := by decide +kernel
def nKa0_104 : List (Nat × Instr × Nat) := [(508, .iconst 1, 1), (509, .iadd, 1), (510, .iaload, 1)]
theorem nKb0_104 : (nKa0_104.all fun e => decide (decode nM0.2.1 e.1 = .ok e.2)) = true := by decide +kernel
def nKa0_105 : List (Nat × Instr × Nat) := [(511, .invokevirtual 60, 3), (514, .if_icmp .eq 453, 3), (517, .iconst 0, 1)]
theorem nKb0_105 : (nKa0_105.all fun e => decide (decode nM0.2.1 e.1 = .ok e.2)) = true := by decide +kernel
def nKa0_106 : List (Nat × Instr × Nat) := [(518, .ireturn, 1), (519, .aload_n 1, 1), (520, .aload_n 0, 1)]
theorem nKb0_106 : (nKa0_106.all fun e => decide (decode nM0.2.1 e.1 = .ok e.2)) = true := by decide +kernel
def nKa0_107 : List (Nat × Instr × Nat) := [(521, .iload_n 3, 1), (522, .iconst 1, 1), (523, .iadd, 1)]
theorem nKb0_107 : (nKa0_107.all fun e => decide (decode nM0.2.1 e.1 = .ok e.2)) = true := by decide +kernel
def nKa0_108 : List (Nat × Instr × Nat) := [(524, .iaload, 1), (525, .aload_n 0, 1), (526, .iload_n 3, 1)]
theorem nKb0_108 : (nKa0_108.all fun e => decide (decode nM0.2.1 e.1 = .ok e.2)) = true := by decide +kernel
def nKa0_109 : List (Nat × Instr × Nat) := [(527, .iconst 2, 1), (528, .iadd, 1), (529, .iaload, 1)]
theorem nKb0_109 : (nKa0_109.all fun e => decide (decode nM0.2.1 e.1 = .ok e.2)) = true := by decide +kernel
def nKa0_110 : List (Nat × Instr × Nat) := [(530, .invokevirtual 61, 3), (533, .aload_n 2, 1), (534, .aload_n 0, 1)]
theorem nKb0_110 : (nKa0_110.all fun e => decide (decode nM0.2.1 e.1 = .ok e.2)) = true := by decide +kernel
def nKa0_111 : List (Nat × Instr × Nat) := [(535, .iload_n 3, 1), (536, .iconst 1, 1), (537, .iadd, 1)]
theorem nKb0_111 : (nKa0_111.all fun e => decide (decode nM0.2.1 e.1 = .ok e.2)) = true := by decide +kernel
def nKa0_112 : List (Nat × Instr × Nat) := [(538, .iaload, 1), (539, .aload_n 0, 1), (540, .iload_n 3, 1)]
theorem nKb0_112 : (nKa0_112.all fun e => decide (decode nM0.2.1 e.1 = .ok e.2)) = true := by decide +kernel
def nKa0_113 : List (Nat × Instr × Nat) := [(541, .iconst 2, 1), (542, .iadd, 1), (543, .iaload, 1)]
theorem nKb0_113 : (nKa0_113.all fun e => decide (decode nM0.2.1 e.1 = .ok e.2)) = true := by decide +kernel
def nKa0_114 : List (Nat × Instr × Nat) := [(544, .invokevirtual 64, 3), (547, .if_icmp .eq 420, 3), (550, .iconst 0, 1)]
theorem nKb0_114 : (nKa0_114.all fun e => decide (decode nM0.2.1 e.1 = .ok e.2)) = true := by decide +kernel
def nKa0_115 : List (Nat × Instr × Nat) := [(551, .ireturn, 1), (552, .aload_n 1, 1), (553, .aload_n 0, 1)]
theorem nKb0_115 : (nKa0_115.all fun e => decide (decode nM0.2.1 e.1 = .ok e.2)) = true := by decide +kernel
def nKa0_116 : List (Nat × Instr × Nat) := [(554, .iload_n 3, 1), (555, .iconst 1, 1), (556, .iadd, 1)]
theorem nKb0_116 : (nKa0_116.all fun e => decide (decode nM0.2.1 e.1 = .ok e.2)) = true := by decide +kernel
def nKa0_117 : List (Nat × Instr × Nat) := [(557, .iaload, 1), (558, .invokevirtual 65, 3), (561, .aload_n 2, 1)]
theorem nKb0_117 : (nKa0_117.all fun e => decide (decode nM0.2.1 e.1 = .ok e.2)) = true := by decide +kernel
def nKa0_118 : List (Nat × Instr × Nat) := [(562, .aload_n 0, 1), (563, .iload_n 3, 1), (564, .iconst 1, 1)]
theorem nKb0_118 : (nKa0_118.all fun e => decide (decode nM0.2.1 e.1 = .ok e.2)) = true := by decide +kernel
def nKa0_119 : List (Nat × Instr × Nat) := [(565, .iadd, 1), (566, .iaload, 1), (567, .invokevirtual 68, 3)]
theorem nKb0_119 : (nKa0_119.all fun e => decide (decode nM0.2.1 e.1 = .ok e.2)) = true := by decide +kernel
def nKa0_120 : List (Nat × Instr × Nat) := [(570, .if_icmp .eq 397, 3), (573, .iconst 0, 1), (574, .ireturn, 1)]
theorem nKb0_120 : (nKa0_120.all fun e => decide (decode nM0.2.1 e.1 = .ok e.2)) = true := by decide +kernel
def nKa0_121 : List (Nat × Instr × Nat) := [(575, .aload_n 1, 1), (576, .aload_n 0, 1), (577, .iload_n 3, 1)]
theorem nKb0_121 : (nKa0_121.all fun e => decide (decode nM0.2.1 e.1 = .ok e.2)) = true := by decide +kernel
def nKa0_122 : List (Nat × Instr × Nat) := [(578, .iconst 1, 1), (579, .iadd, 1), (580, .iaload, 1)]
theorem nKb0_122 : (nKa0_122.all fun e => decide (decode nM0.2.1 e.1 = .ok e.2)) = true := by decide +kernel
def nKa0_123 : List (Nat × Instr × Nat) := [(581, .invokevirtual 69, 3), (584, .aload_n 2, 1), (585, .aload_n 0, 1)]
theorem nKb0_123 : (nKa0_123.all fun e => decide (decode nM0.2.1 e.1 = .ok e.2)) = true := by decide +kernel
def nKa0_124 : List (Nat × Instr × Nat) := [(586, .iload_n 3, 1), (587, .iconst 1, 1), (588, .iadd, 1)]
theorem nKb0_124 : (nKa0_124.all fun e => decide (decode nM0.2.1 e.1 = .ok e.2)) = true := by decide +kernel
def nKa0_125 : List (Nat × Instr × Nat) := [(589, .iaload, 1), (590, .invokevirtual 72, 3), (593, .if_icmp .eq 374, 3)]
theorem nKb0_125 : (nKa0_125.all fun e => decide (decode nM0.2.1 e.1 = .ok e.2)) = true := by decide +kernel
def nKa0_126 : List (Nat × Instr × Nat) := [(596, .iconst 0, 1), (597, .ireturn, 1), (598, .aload_n 1, 1)]
theorem nKb0_126 : (nKa0_126.all fun e => decide (decode nM0.2.1 e.1 = .ok e.2)) = true := by decide +kernel
def nKa0_127 : List (Nat × Instr × Nat) := [(599, .aload_n 0, 1), (600, .iload_n 3, 1), (601, .iconst 1, 1)]
theorem nKb0_127 : (nKa0_127.all fun e => decide (decode nM0.2.1 e.1 = .ok e.2)) = true := by decide +kernel
def nKa0_128 : List (Nat × Instr × Nat) := [(602, .iadd, 1), (603, .iaload, 1), (604, .aload_n 0, 1)]
theorem nKb0_128 : (nKa0_128.all fun e => decide (decode nM0.2.1 e.1 = .ok e.2)) = true := by decide +kernel
def nKa0_129 : List (Nat × Instr × Nat) := [(605, .iload_n 3, 1), (606, .iconst 2, 1), (607, .iadd, 1)]
theorem nKb0_129 : (nKa0_129.all fun e => decide (decode nM0.2.1 e.1 = .ok e.2)) = true := by decide +kernel
def nKa0_130 : List (Nat × Instr × Nat) := [(608, .iaload, 1), (609, .invokevirtual 73, 3), (612, .aload_n 2, 1)]
theorem nKb0_130 : (nKa0_130.all fun e => decide (decode nM0.2.1 e.1 = .ok e.2)) = true := by decide +kernel
def nKa0_131 : List (Nat × Instr × Nat) := [(613, .aload_n 0, 1), (614, .iload_n 3, 1), (615, .iconst 1, 1)]
theorem nKb0_131 : (nKa0_131.all fun e => decide (decode nM0.2.1 e.1 = .ok e.2)) = true := by decide +kernel
def nKa0_132 : List (Nat × Instr × Nat) := [(616, .iadd, 1), (617, .iaload, 1), (618, .aload_n 0, 1)]
theorem nKb0_132 : (nKa0_132.all fun e => decide (decode nM0.2.1 e.1 = .ok e.2)) = true := by decide +kernel
def nKa0_133 : List (Nat × Instr × Nat) := [(619, .iload_n 3, 1), (620, .iconst 2, 1), (621, .iadd, 1)]
theorem nKb0_133 : (nKa0_133.all fun e => decide (decode nM0.2.1 e.1 = .ok e.2)) = true := by decide +kernel
def nKa0_134 : List (Nat × Instr × Nat) := [(622, .iaload, 1), (623, .invokevirtual 76, 3), (626, .if_icmp .eq 341, 3)]
theorem nKb0_134 : (nKa0_134.all fun e => decide (decode nM0.2.1 e.1 = .ok e.2)) = true := by decide +kernel
def nKa0_135 : List (Nat × Instr × Nat) := [(629, .iconst 0, 1), (630, .ireturn, 1), (631, .aload_n 1, 1)]
theorem nKb0_135 : (nKa0_135.all fun e => decide (decode nM0.2.1 e.1 = .ok e.2)) = true := by decide +kernel
def nKa0_136 : List (Nat × Instr × Nat) := [(632, .aload_n 0, 1), (633, .iload_n 3, 1), (634, .iconst 1, 1)]
theorem nKb0_136 : (nKa0_136.all fun e => decide (decode nM0.2.1 e.1 = .ok e.2)) = true := by decide +kernel
def nKa0_137 : List (Nat × Instr × Nat) := [(635, .iadd, 1), (636, .iaload, 1), (637, .aload_n 0, 1)]
theorem nKb0_137 : (nKa0_137.all fun e => decide (decode nM0.2.1 e.1 = .ok e.2)) = true := by decide +kernel
def nKa0_138 : List (Nat × Instr × Nat) := [(638, .iload_n 3, 1), (639, .iconst 2, 1), (640, .iadd, 1)]
theorem nKb0_138 : (nKa0_138.all fun e => decide (decode nM0.2.1 e.1 = .ok e.2)) = true := by decide +kernel
def nKa0_139 : List (Nat × Instr × Nat) := [(641, .iaload, 1), (642, .aload_n 0, 1), (643, .iload_n 3, 1)]
theorem nKb0_139 : (nKa0_139.all fun e => decide (decode nM0.2.1 e.1 = .ok e.2)) = true := by decide +kernel
def nKa0_140 : List (Nat × Instr × Nat) := [(644, .iconst 3, 1), (645, .iadd, 1), (646, .iaload, 1)]
theorem nKb0_140 : (nKa0_140.all fun e => decide (decode nM0.2.1 e.1 = .ok e.2)) = true := by decide +kernel
def nKa0_141 : List (Nat × Instr × Nat) := [(647, .invokevirtual 77, 3), (650, .aload_n 2, 1), (651, .aload_n 0, 1)]
theorem nKb0_141 : (nKa0_141.all fun e => decide (decode nM0.2.1 e.1 = .ok e.2)) = true := by decide +kernel
def nKa0_142 : List (Nat × Instr × Nat) := [(652, .iload_n 3, 1), (653, .iconst 1, 1), (654, .iadd, 1)]
theorem nKb0_142 : (nKa0_142.all fun e => decide (decode nM0.2.1 e.1 = .ok e.2)) = true := by decide +kernel
def nKa0_143 : List (Nat × Instr × Nat) := [(655, .iaload, 1), (656, .aload_n 0, 1), (657, .iload_n 3, 1)]
theorem nKb0_143 : (nKa0_143.all fun e => decide (decode nM0.2.1 e.1 = .ok e.2)) = true := by decide +kernel
def nKa0_144 : List (Nat × Instr × Nat) := [(658, .iconst 2, 1), (659, .iadd, 1), (660, .iaload, 1)]
theorem nKb0_144 : (nKa0_144.all fun e => decide (decode nM0.2.1 e.1 = .ok e.2)) = true := by decide +kernel
def nKa0_145 : List (Nat × Instr × Nat) := [(661, .aload_n 0, 1), (662, .iload_n 3, 1), (663, .iconst 3, 1)]
theorem nKb0_145 : (nKa0_145.all fun e => decide (decode nM0.2.1 e.1 = .ok e.2)) = true := by decide +kernel
def nKa0_146 : List (Nat × Instr × Nat) := [(664, .iadd, 1), (665, .iaload, 1), (666, .invokevirtual 80, 3)]
theorem nKb0_146 : (nKa0_146.all fun e => decide (decode nM0.2.1 e.1 = .ok e.2)) = true := by decide +kernel
def nKa0_147 : List (Nat × Instr × Nat) := [(669, .if_icmp .eq 298, 3), (672, .iconst 0, 1), (673, .ireturn, 1)]
theorem nKb0_147 : (nKa0_147.all fun e => decide (decode nM0.2.1 e.1 = .ok e.2)) = true := by decide +kernel
def nKa0_148 : List (Nat × Instr × Nat) := [(674, .aload_n 1, 1), (675, .aload_n 0, 1), (676, .iload_n 3, 1)]
theorem nKb0_148 : (nKa0_148.all fun e => decide (decode nM0.2.1 e.1 = .ok e.2)) = true := by decide +kernel
def nKa0_149 : List (Nat × Instr × Nat) := [(677, .iconst 1, 1), (678, .iadd, 1), (679, .iaload, 1)]
theorem nKb0_149 : (nKa0_149.all fun e => decide (decode nM0.2.1 e.1 = .ok e.2)) = true := by decide +kernel
def nKa0_150 : List (Nat × Instr × Nat) := [(680, .invokevirtual 81, 3), (683, .aload_n 2, 1), (684, .aload_n 0, 1)]
theorem nKb0_150 : (nKa0_150.all fun e => decide (decode nM0.2.1 e.1 = .ok e.2)) = true := by decide +kernel
def nKa0_151 : List (Nat × Instr × Nat) := [(685, .iload_n 3, 1), (686, .iconst 1, 1), (687, .iadd, 1)]
theorem nKb0_151 : (nKa0_151.all fun e => decide (decode nM0.2.1 e.1 = .ok e.2)) = true := by decide +kernel
def nKa0_152 : List (Nat × Instr × Nat) := [(688, .iaload, 1), (689, .invokevirtual 84, 3), (692, .if_icmp .eq 275, 3)]
theorem nKb0_152 : (nKa0_152.all fun e => decide (decode nM0.2.1 e.1 = .ok e.2)) = true := by decide +kernel
def nKa0_153 : List (Nat × Instr × Nat) := [(695, .iconst 0, 1), (696, .ireturn, 1), (697, .aload_n 1, 1)]
theorem nKb0_153 : (nKa0_153.all fun e => decide (decode nM0.2.1 e.1 = .ok e.2)) = true := by decide +kernel
def nKa0_154 : List (Nat × Instr × Nat) := [(698, .aload_n 0, 1), (699, .iload_n 3, 1), (700, .iconst 1, 1)]
theorem nKb0_154 : (nKa0_154.all fun e => decide (decode nM0.2.1 e.1 = .ok e.2)) = true := by decide +kernel
def nKa0_155 : List (Nat × Instr × Nat) := [(701, .iadd, 1), (702, .iaload, 1), (703, .invokevirtual 85, 3)]
theorem nKb0_155 : (nKa0_155.all fun e => decide (decode nM0.2.1 e.1 = .ok e.2)) = true := by decide +kernel
def nKa0_156 : List (Nat × Instr × Nat) := [(706, .aload_n 2, 1), (707, .aload_n 0, 1), (708, .iload_n 3, 1)]
theorem nKb0_156 : (nKa0_156.all fun e => decide (decode nM0.2.1 e.1 = .ok e.2)) = true := by decide +kernel
def nKa0_157 : List (Nat × Instr × Nat) := [(709, .iconst 1, 1), (710, .iadd, 1), (711, .iaload, 1)]
theorem nKb0_157 : (nKa0_157.all fun e => decide (decode nM0.2.1 e.1 = .ok e.2)) = true := by decide +kernel
def nKa0_158 : List (Nat × Instr × Nat) := [(712, .invokevirtual 88, 3), (715, .if_icmp .eq 252, 3), (718, .iconst 0, 1)]
theorem nKb0_158 : (nKa0_158.all fun e => decide (decode nM0.2.1 e.1 = .ok e.2)) = true := by decide +kernel
def nKa0_159 : List (Nat × Instr × Nat) := [(719, .ireturn, 1), (720, .aload_n 1, 1), (721, .aload_n 0, 1)]
theorem nKb0_159 : (nKa0_159.all fun e => decide (decode nM0.2.1 e.1 = .ok e.2)) = true := by decide +kernel
def nKa0_160 : List (Nat × Instr × Nat) := [(722, .iload_n 3, 1), (723, .iconst 1, 1), (724, .iadd, 1)]
theorem nKb0_160 : (nKa0_160.all fun e => decide (decode nM0.2.1 e.1 = .ok e.2)) = true := by decide +kernel
def nKa0_161 : List (Nat × Instr × Nat) := [(725, .iaload, 1), (726, .aload_n 0, 1), (727, .iload_n 3, 1)]
theorem nKb0_161 : (nKa0_161.all fun e => decide (decode nM0.2.1 e.1 = .ok e.2)) = true := by decide +kernel
def nKa0_162 : List (Nat × Instr × Nat) := [(728, .iconst 2, 1), (729, .iadd, 1), (730, .iaload, 1)]
theorem nKb0_162 : (nKa0_162.all fun e => decide (decode nM0.2.1 e.1 = .ok e.2)) = true := by decide +kernel
def nKa0_163 : List (Nat × Instr × Nat) := [(731, .invokevirtual 89, 3), (734, .aload_n 2, 1), (735, .aload_n 0, 1)]
theorem nKb0_163 : (nKa0_163.all fun e => decide (decode nM0.2.1 e.1 = .ok e.2)) = true := by decide +kernel
def nKa0_164 : List (Nat × Instr × Nat) := [(736, .iload_n 3, 1), (737, .iconst 1, 1), (738, .iadd, 1)]
theorem nKb0_164 : (nKa0_164.all fun e => decide (decode nM0.2.1 e.1 = .ok e.2)) = true := by decide +kernel
def nKa0_165 : List (Nat × Instr × Nat) := [(739, .iaload, 1), (740, .aload_n 0, 1), (741, .iload_n 3, 1)]
theorem nKb0_165 : (nKa0_165.all fun e => decide (decode nM0.2.1 e.1 = .ok e.2)) = true := by decide +kernel
def nKa0_166 : List (Nat × Instr × Nat) := [(742, .iconst 2, 1), (743, .iadd, 1), (744, .iaload, 1)]
theorem nKb0_166 : (nKa0_166.all fun e => decide (decode nM0.2.1 e.1 = .ok e.2)) = true := by decide +kernel
def nKa0_167 : List (Nat × Instr × Nat) := [(745, .invokevirtual 92, 3), (748, .if_icmp .eq 219, 3), (751, .iconst 0, 1)]
theorem nKb0_167 : (nKa0_167.all fun e => decide (decode nM0.2.1 e.1 = .ok e.2)) = true := by decide +kernel
def nKa0_168 : List (Nat × Instr × Nat) := [(752, .ireturn, 1), (753, .aload_n 1, 1), (754, .aload_n 0, 1)]
theorem nKb0_168 : (nKa0_168.all fun e => decide (decode nM0.2.1 e.1 = .ok e.2)) = true := by decide +kernel
def nKa0_169 : List (Nat × Instr × Nat) := [(755, .iload_n 3, 1), (756, .iconst 1, 1), (757, .iadd, 1)]
theorem nKb0_169 : (nKa0_169.all fun e => decide (decode nM0.2.1 e.1 = .ok e.2)) = true := by decide +kernel
def nKa0_170 : List (Nat × Instr × Nat) := [(758, .iaload, 1), (759, .invokevirtual 93, 3), (762, .aload_n 2, 1)]
theorem nKb0_170 : (nKa0_170.all fun e => decide (decode nM0.2.1 e.1 = .ok e.2)) = true := by decide +kernel
def nKa0_171 : List (Nat × Instr × Nat) := [(763, .aload_n 0, 1), (764, .iload_n 3, 1), (765, .iconst 1, 1)]
theorem nKb0_171 : (nKa0_171.all fun e => decide (decode nM0.2.1 e.1 = .ok e.2)) = true := by decide +kernel
def nKa0_172 : List (Nat × Instr × Nat) := [(766, .iadd, 1), (767, .iaload, 1), (768, .invokevirtual 96, 3)]
theorem nKb0_172 : (nKa0_172.all fun e => decide (decode nM0.2.1 e.1 = .ok e.2)) = true := by decide +kernel
def nKa0_173 : List (Nat × Instr × Nat) := [(771, .if_icmp .eq 196, 3), (774, .iconst 0, 1), (775, .ireturn, 1)]
theorem nKb0_173 : (nKa0_173.all fun e => decide (decode nM0.2.1 e.1 = .ok e.2)) = true := by decide +kernel
def nKa0_174 : List (Nat × Instr × Nat) := [(776, .aload_n 1, 1), (777, .aload_n 0, 1), (778, .iload_n 3, 1)]
theorem nKb0_174 : (nKa0_174.all fun e => decide (decode nM0.2.1 e.1 = .ok e.2)) = true := by decide +kernel
def nKa0_175 : List (Nat × Instr × Nat) := [(779, .iconst 1, 1), (780, .iadd, 1), (781, .iaload, 1)]
theorem nKb0_175 : (nKa0_175.all fun e => decide (decode nM0.2.1 e.1 = .ok e.2)) = true := by decide +kernel
def nKa0_176 : List (Nat × Instr × Nat) := [(782, .invokevirtual 97, 3), (785, .aload_n 2, 1), (786, .aload_n 0, 1)]
theorem nKb0_176 : (nKa0_176.all fun e => decide (decode nM0.2.1 e.1 = .ok e.2)) = true := by decide +kernel
def nKa0_177 : List (Nat × Instr × Nat) := [(787, .iload_n 3, 1), (788, .iconst 1, 1), (789, .iadd, 1)]
theorem nKb0_177 : (nKa0_177.all fun e => decide (decode nM0.2.1 e.1 = .ok e.2)) = true := by decide +kernel
def nKa0_178 : List (Nat × Instr × Nat) := [(790, .iaload, 1), (791, .invokevirtual 100, 3), (794, .if_icmp .eq 173, 3)]
theorem nKb0_178 : (nKa0_178.all fun e => decide (decode nM0.2.1 e.1 = .ok e.2)) = true := by decide +kernel
def nKa0_179 : List (Nat × Instr × Nat) := [(797, .iconst 0, 1), (798, .ireturn, 1), (799, .aload_n 1, 1)]
theorem nKb0_179 : (nKa0_179.all fun e => decide (decode nM0.2.1 e.1 = .ok e.2)) = true := by decide +kernel
def nKa0_180 : List (Nat × Instr × Nat) := [(800, .aload_n 0, 1), (801, .iload_n 3, 1), (802, .iconst 1, 1)]
theorem nKb0_180 : (nKa0_180.all fun e => decide (decode nM0.2.1 e.1 = .ok e.2)) = true := by decide +kernel
def nKa0_181 : List (Nat × Instr × Nat) := [(803, .iadd, 1), (804, .iaload, 1), (805, .invokevirtual 101, 3)]
theorem nKb0_181 : (nKa0_181.all fun e => decide (decode nM0.2.1 e.1 = .ok e.2)) = true := by decide +kernel
def nKa0_182 : List (Nat × Instr × Nat) := [(808, .aload_n 2, 1), (809, .aload_n 0, 1), (810, .iload_n 3, 1)]
theorem nKb0_182 : (nKa0_182.all fun e => decide (decode nM0.2.1 e.1 = .ok e.2)) = true := by decide +kernel
def nKa0_183 : List (Nat × Instr × Nat) := [(811, .iconst 1, 1), (812, .iadd, 1), (813, .iaload, 1)]
theorem nKb0_183 : (nKa0_183.all fun e => decide (decode nM0.2.1 e.1 = .ok e.2)) = true := by decide +kernel
def nKa0_184 : List (Nat × Instr × Nat) := [(814, .invokevirtual 104, 3), (817, .if_icmp .eq 150, 3), (820, .iconst 0, 1)]
theorem nKb0_184 : (nKa0_184.all fun e => decide (decode nM0.2.1 e.1 = .ok e.2)) = true := by decide +kernel
def nKa0_185 : List (Nat × Instr × Nat) := [(821, .ireturn, 1), (822, .aload_n 1, 1), (823, .aload_n 0, 1)]
theorem nKb0_185 : (nKa0_185.all fun e => decide (decode nM0.2.1 e.1 = .ok e.2)) = true := by decide +kernel
def nKa0_186 : List (Nat × Instr × Nat) := [(824, .iload_n 3, 1), (825, .iconst 1, 1), (826, .iadd, 1)]
theorem nKb0_186 : (nKa0_186.all fun e => decide (decode nM0.2.1 e.1 = .ok e.2)) = true := by decide +kernel
def nKa0_187 : List (Nat × Instr × Nat) := [(827, .iaload, 1), (828, .aload_n 0, 1), (829, .iload_n 3, 1)]
theorem nKb0_187 : (nKa0_187.all fun e => decide (decode nM0.2.1 e.1 = .ok e.2)) = true := by decide +kernel
def nKa0_188 : List (Nat × Instr × Nat) := [(830, .iconst 2, 1), (831, .iadd, 1), (832, .iaload, 1)]
theorem nKb0_188 : (nKa0_188.all fun e => decide (decode nM0.2.1 e.1 = .ok e.2)) = true := by decide +kernel
def nKa0_189 : List (Nat × Instr × Nat) := [(833, .invokevirtual 105, 3), (836, .aload_n 2, 1), (837, .aload_n 0, 1)]
theorem nKb0_189 : (nKa0_189.all fun e => decide (decode nM0.2.1 e.1 = .ok e.2)) = true := by decide +kernel
def nKa0_190 : List (Nat × Instr × Nat) := [(838, .iload_n 3, 1), (839, .iconst 1, 1), (840, .iadd, 1)]
theorem nKb0_190 : (nKa0_190.all fun e => decide (decode nM0.2.1 e.1 = .ok e.2)) = true := by decide +kernel
def nKa0_191 : List (Nat × Instr × Nat) := [(841, .iaload, 1), (842, .aload_n 0, 1), (843, .iload_n 3, 1)]
theorem nKb0_191 : (nKa0_191.all fun e => decide (decode nM0.2.1 e.1 = .ok e.2)) = true := by decide +kernel
def nKa0_192 : List (Nat × Instr × Nat) := [(844, .iconst 2, 1), (845, .iadd, 1), (846, .iaload, 1)]
theorem nKb0_192 : (nKa0_192.all fun e => decide (decode nM0.2.1 e.1 = .ok e.2)) = true := by decide +kernel
def nKa0_193 : List (Nat × Instr × Nat) := [(847, .invokevirtual 108, 3), (850, .if_icmp .eq 117, 3), (853, .iconst 0, 1)]
theorem nKb0_193 : (nKa0_193.all fun e => decide (decode nM0.2.1 e.1 = .ok e.2)) = true := by decide +kernel
def nKa0_194 : List (Nat × Instr × Nat) := [(854, .ireturn, 1), (855, .aload_n 1, 1), (856, .aload_n 0, 1)]
theorem nKb0_194 : (nKa0_194.all fun e => decide (decode nM0.2.1 e.1 = .ok e.2)) = true := by decide +kernel
def nKa0_195 : List (Nat × Instr × Nat) := [(857, .iload_n 3, 1), (858, .iconst 1, 1), (859, .iadd, 1)]
theorem nKb0_195 : (nKa0_195.all fun e => decide (decode nM0.2.1 e.1 = .ok e.2)) = true := by decide +kernel
def nKa0_196 : List (Nat × Instr × Nat) := [(860, .iaload, 1), (861, .aload_n 0, 1), (862, .iload_n 3, 1)]
theorem nKb0_196 : (nKa0_196.all fun e => decide (decode nM0.2.1 e.1 = .ok e.2)) = true := by decide +kernel
def nKa0_197 : List (Nat × Instr × Nat) := [(863, .iconst 2, 1), (864, .iadd, 1), (865, .iaload, 1)]
theorem nKb0_197 : (nKa0_197.all fun e => decide (decode nM0.2.1 e.1 = .ok e.2)) = true := by decide +kernel
def nKa0_198 : List (Nat × Instr × Nat) := [(866, .i2l, 1), (867, .bipush 32, 2), (869, .lshl, 1)]
theorem nKb0_198 : (nKa0_198.all fun e => decide (decode nM0.2.1 e.1 = .ok e.2)) = true := by decide +kernel
def nKa0_199 : List (Nat × Instr × Nat) := [(870, .aload_n 0, 1), (871, .iload_n 3, 1), (872, .iconst 3, 1)]
theorem nKb0_199 : (nKa0_199.all fun e => decide (decode nM0.2.1 e.1 = .ok e.2)) = true := by decide +kernel
def nKa0_200 : List (Nat × Instr × Nat) := [(873, .iadd, 1), (874, .iaload, 1), (875, .i2l, 1)]
theorem nKb0_200 : (nKa0_200.all fun e => decide (decode nM0.2.1 e.1 = .ok e.2)) = true := by decide +kernel
def nKa0_201 : List (Nat × Instr × Nat) := [(876, .ldc2_w 109, 3), (879, .land, 1), (880, .lor, 1)]
theorem nKb0_201 : (nKa0_201.all fun e => decide (decode nM0.2.1 e.1 = .ok e.2)) = true := by decide +kernel
def nKa0_202 : List (Nat × Instr × Nat) := [(881, .invokevirtual 111, 3), (884, .aload_n 2, 1), (885, .aload_n 0, 1)]
theorem nKb0_202 : (nKa0_202.all fun e => decide (decode nM0.2.1 e.1 = .ok e.2)) = true := by decide +kernel
def nKa0_203 : List (Nat × Instr × Nat) := [(886, .iload_n 3, 1), (887, .iconst 1, 1), (888, .iadd, 1)]
theorem nKb0_203 : (nKa0_203.all fun e => decide (decode nM0.2.1 e.1 = .ok e.2)) = true := by decide +kernel
def nKa0_204 : List (Nat × Instr × Nat) := [(889, .iaload, 1), (890, .aload_n 0, 1), (891, .iload_n 3, 1)]
theorem nKb0_204 : (nKa0_204.all fun e => decide (decode nM0.2.1 e.1 = .ok e.2)) = true := by decide +kernel
def nKa0_205 : List (Nat × Instr × Nat) := [(892, .iconst 2, 1), (893, .iadd, 1), (894, .iaload, 1)]
theorem nKb0_205 : (nKa0_205.all fun e => decide (decode nM0.2.1 e.1 = .ok e.2)) = true := by decide +kernel
def nKa0_206 : List (Nat × Instr × Nat) := [(895, .i2l, 1), (896, .bipush 32, 2), (898, .lshl, 1)]
theorem nKb0_206 : (nKa0_206.all fun e => decide (decode nM0.2.1 e.1 = .ok e.2)) = true := by decide +kernel
def nKa0_207 : List (Nat × Instr × Nat) := [(899, .aload_n 0, 1), (900, .iload_n 3, 1), (901, .iconst 3, 1)]
theorem nKb0_207 : (nKa0_207.all fun e => decide (decode nM0.2.1 e.1 = .ok e.2)) = true := by decide +kernel
def nKa0_208 : List (Nat × Instr × Nat) := [(902, .iadd, 1), (903, .iaload, 1), (904, .i2l, 1)]
theorem nKb0_208 : (nKa0_208.all fun e => decide (decode nM0.2.1 e.1 = .ok e.2)) = true := by decide +kernel
def nKa0_209 : List (Nat × Instr × Nat) := [(905, .ldc2_w 109, 3), (908, .land, 1), (909, .lor, 1)]
theorem nKb0_209 : (nKa0_209.all fun e => decide (decode nM0.2.1 e.1 = .ok e.2)) = true := by decide +kernel
def nKa0_210 : List (Nat × Instr × Nat) := [(910, .invokevirtual 115, 3), (913, .if_icmp .eq 54, 3), (916, .iconst 0, 1)]
theorem nKb0_210 : (nKa0_210.all fun e => decide (decode nM0.2.1 e.1 = .ok e.2)) = true := by decide +kernel
def nKa0_211 : List (Nat × Instr × Nat) := [(917, .ireturn, 1), (918, .aload_n 1, 1), (919, .invokevirtual 116, 3)]
theorem nKb0_211 : (nKa0_211.all fun e => decide (decode nM0.2.1 e.1 = .ok e.2)) = true := by decide +kernel
def nKa0_212 : List (Nat × Instr × Nat) := [(922, .aload_n 2, 1), (923, .invokevirtual 120, 3), (926, .if_icmp .eq 41, 3)]
theorem nKb0_212 : (nKa0_212.all fun e => decide (decode nM0.2.1 e.1 = .ok e.2)) = true := by decide +kernel
def nKa0_213 : List (Nat × Instr × Nat) := [(929, .iconst 0, 1), (930, .ireturn, 1), (931, .aload_n 1, 1)]
theorem nKb0_213 : (nKa0_213.all fun e => decide (decode nM0.2.1 e.1 = .ok e.2)) = true := by decide +kernel
def nKa0_214 : List (Nat × Instr × Nat) := [(932, .invokevirtual 121, 3), (935, .aload_n 2, 1), (936, .invokevirtual 124, 3)]
theorem nKb0_214 : (nKa0_214.all fun e => decide (decode nM0.2.1 e.1 = .ok e.2)) = true := by decide +kernel
def nKa0_215 : List (Nat × Instr × Nat) := [(939, .if_icmp .eq 28, 3), (942, .iconst 0, 1), (943, .ireturn, 1)]
theorem nKb0_215 : (nKa0_215.all fun e => decide (decode nM0.2.1 e.1 = .ok e.2)) = true := by decide +kernel
def nKa0_216 : List (Nat × Instr × Nat) := [(944, .aload_n 1, 1), (945, .aload_n 0, 1), (946, .iload_n 3, 1)]
theorem nKb0_216 : (nKa0_216.all fun e => decide (decode nM0.2.1 e.1 = .ok e.2)) = true := by decide +kernel
def nKa0_217 : List (Nat × Instr × Nat) := [(947, .iconst 1, 1), (948, .iadd, 1), (949, .iaload, 1)]
theorem nKb0_217 : (nKa0_217.all fun e => decide (decode nM0.2.1 e.1 = .ok e.2)) = true := by decide +kernel
def nKa0_218 : List (Nat × Instr × Nat) := [(950, .invokevirtual 125, 3), (953, .aload_n 2, 1), (954, .aload_n 0, 1)]
theorem nKb0_218 : (nKa0_218.all fun e => decide (decode nM0.2.1 e.1 = .ok e.2)) = true := by decide +kernel
def nKa0_219 : List (Nat × Instr × Nat) := [(955, .iload_n 3, 1), (956, .iconst 1, 1), (957, .iadd, 1)]
theorem nKb0_219 : (nKa0_219.all fun e => decide (decode nM0.2.1 e.1 = .ok e.2)) = true := by decide +kernel
def nKa0_220 : List (Nat × Instr × Nat) := [(958, .iaload, 1), (959, .invokevirtual 128, 3), (962, .if_icmp .eq 5, 3)]
theorem nKb0_220 : (nKa0_220.all fun e => decide (decode nM0.2.1 e.1 = .ok e.2)) = true := by decide +kernel
def nKa0_221 : List (Nat × Instr × Nat) := [(965, .iconst 0, 1), (966, .ireturn, 1), (967, .iinc 3 5, 3)]
theorem nKb0_221 : (nKa0_221.all fun e => decide (decode nM0.2.1 e.1 = .ok e.2)) = true := by decide +kernel
def nKa0_222 : List (Nat × Instr × Nat) := [(970, .goto (-952), 3), (973, .iconst 1, 1), (974, .ireturn, 1)]
theorem nKb0_222 : (nKa0_222.all fun e => decide (decode nM0.2.1 e.1 = .ok e.2)) = true := by decide +kernel
def nK0 : List (Nat × Instr × Nat) := nKa0_0 ++ (nKa0_1 ++ (nKa0_2 ++ (nKa0_3 ++ (nKa0_4 ++ (nKa0_5 ++ (nKa0_6 ++ (nKa0_7 ++ (nKa0_8 ++ (nKa0_9 ++ (nKa0_10 ++ (nKa0_11 ++ (nKa0_12 ++ (nKa0_13 ++ (nKa0_14 ++ (nKa0_15 ++ (nKa0_16 ++ (nKa0_17 ++ (nKa0_18 ++ (nKa0_19 ++ (nKa0_20 ++ (nKa0_21 ++ (nKa0_22 ++ (nKa0_23 ++ (nKa0_24 ++ (nKa0_25 ++ (nKa0_26 ++ (nKa0_27 ++ (nKa0_28 ++ (nKa0_29 ++ (nKa0_30 ++ (nKa0_31 ++ (nKa0_32 ++ (nKa0_33 ++ (nKa0_34 ++ (nKa0_35 ++ (nKa0_36 ++ (nKa0_37 ++ (nKa0_38 ++ (nKa0_39 ++ (nKa0_40 ++ (nKa0_41 ++ (nKa0_42 ++ (nKa0_43 ++ (nKa0_44 ++ (nKa0_45 ++ (nKa0_46 ++ (nKa0_47 ++ (nKa0_48 ++ (nKa0_49 ++ (nKa0_50 ++ (nKa0_51 ++ (nKa0_52 ++ (nKa0_53 ++ (nKa0_54 ++ (nKa0_55 ++ (nKa0_56 ++ (nKa0_57 ++ (nKa0_58 ++ (nKa0_59 ++ (nKa0_60 ++ (nKa0_61 ++ (nKa0_62 ++ (nKa0_63 ++ (nKa0_64 ++ (nKa0_65 ++ (nKa0_66 ++ (nKa0_67 ++ (nKa0_68 ++ (nKa0_69 ++ (nKa0_70 ++ (nKa0_71 ++ (nKa0_72 ++ (nKa0_73 ++ (nKa0_74 ++ (nKa0_75 ++ (nKa0_76 ++ (nKa0_77 ++ (nKa0_78 ++ (nKa0_79 ++ (nKa0_80 ++ (nKa0_81 ++ (nKa0_82 ++ (nKa0_83 ++ (nKa0_84 ++ (nKa0_85 ++ (nKa0_86 ++ (nKa0_87 ++ (nKa0_88 ++ (nKa0_89 ++ (nKa0_90 ++ (nKa0_91 ++ (nKa0_92 ++ (nKa0_93 ++ (nKa0_94 ++ (nKa0_95 ++ (nKa0_96 ++ (nKa0_97 ++ (nKa0_98 ++ (nKa0_99 ++ (nKa0_100 ++ (nKa0_101 ++ (nKa0_102 ++ (nKa0_103 ++ (nKa0_104 ++ (nKa0_105 ++ (nKa0_106 ++ (nKa0_107 ++ (nKa0_108 ++ (nKa0_109 ++ (nKa0_110 ++ (nKa0_111 ++ (nKa0_112 ++ (nKa0_113 ++ (nKa0_114 ++ (nKa0_115 ++ (nKa0_116 ++ (nKa0_117 ++ (nKa0_118 ++ (nKa0_119 ++ (nKa0_120 ++ (nKa0_121 ++ (nKa0_122 ++ (nKa0_123 ++ (nKa0_124 ++ (nKa0_125 ++ (nKa0_126 ++ (nKa0_127 ++ (nKa0_128 ++ (nKa0_129 ++ (nKa0_130 ++ (nKa0_131 ++ (nKa0_132 ++ (nKa0_133 ++ (nKa0_134 ++ (nKa0_135 ++ (nKa0_136 ++ (nKa0_137 ++ (nKa0_138 ++ (nKa0_139 ++ (nKa0_140 ++ (nKa0_141 ++ (nKa0_142 ++ (nKa0_143 ++ (nKa0_144 ++ (nKa0_145 ++ (nKa0_146 ++ (nKa0_147 ++ (nKa0_148 ++ (nKa0_149 ++ (nKa0_150 ++ (nKa0_151 ++ (nKa0_152 ++ (nKa0_153 ++ (nKa0_154 ++ (nKa0_155 ++ (nKa0_156 ++ (nKa0_157 ++ (nKa0_158 ++ (nKa0_159 ++ (nKa0_160 ++ (nKa0_161 ++ (nKa0_162 ++ (nKa0_163 ++ (nKa0_164 ++ (nKa0_165 ++ (nKa0_166 ++ (nKa0_167 ++ (nKa0_168 ++ (nKa0_169 ++ (nKa0_170 ++ (nKa0_171 ++ (nKa0_172 ++ (nKa0_173 ++ (nKa0_174 ++ (nKa0_175 ++ (nKa0_176 ++ (nKa0_177 ++ (nKa0_178 ++ (nKa0_179 ++ (nKa0_180 ++ (nKa0_181 ++ (nKa0_182 ++ (nKa0_183 ++ (nKa0_184 ++ (nKa0_185 ++ (nKa0_186 ++ (nKa0_187 ++ (nKa0_188 ++ (nKa0_189 ++ (nKa0_190 ++ (nKa0_191 ++ (nKa0_192 ++ (nKa0_193 ++ (nKa0_194 ++ (nKa0_195 ++ (nKa0_196 ++ (nKa0_197 ++ (nKa0_198 ++ (nKa0_199 ++ (nKa0_200 ++ (nKa0_201 ++ (nKa0_202 ++ (nKa0_203 ++ (nKa0_204 ++ (nKa0_205 ++ (nKa0_206 ++ (nKa0_207 ++ (nKa0_208 ++ (nKa0_209 ++ (nKa0_210 ++ (nKa0_211 ++ (nKa0_212 ++ (nKa0_213 ++ (nKa0_214 ++ (nKa0_215 ++ (nKa0_216 ++ (nKa0_217 ++ (nKa0_218 ++ (nKa0_219 ++ (nKa0_220 ++ (nKa0_221 ++ (nKa0_222))))))))))))))))))))))))))))))))))))))))))))))))))))))))))))))))))))))))))))))))))))))))))))))))))))))))))))))))))))))))))))))))))))))))))))))))))))))))))))))))))))))))))))))))))))))))))))))))))))))))))))))))))))))))))))))
theorem nKok0 : (nK0.all fun e => decide (decode nM0.2.1 e.1 = .ok e.2)) = true := nAll nKb0_0 (nAll nKb0_1 (nAll nKb0_2 (nAll nKb0_3 (nAll nKb0_4 (nAll nKb0_5 (nAll nKb0_6 (nAll nKb0_7 (nAll nKb0_8 (nAll nKb0_9 (nAll nKb0_10 (nAll nKb0_11 (nAll nKb0_12 (nAll nKb0_13 (nAll nKb0_14 (nAll nKb0_15 (nAll nKb0_16 (nAll nKb0_17 (nAll nKb0_18 (nAll nKb0_19 (nAll nKb0_20 (nAll nKb0_21 (nAll nKb0_22 (nAll nKb0_23 (nAll nKb0_24 (nAll nKb0_25 (nAll nKb0_26 (nAll nKb0_27 (nAll nKb0_28 (nAll nKb0_29 (nAll nKb0_30 (nAll nKb0_31 (nAll nKb0_32 (nAll nKb0_33 (nAll nKb0_34 (nAll nKb0_35 (nAll nKb0_36 (nAll nKb0_37 (nAll nKb0_38 (nAll nKb0_39 (nAll nKb0_40 (nAll nKb0_41 (nAll nKb0_42 (nAll nKb0_43 (nAll nKb0_44 (nAll nKb0_45 (nAll nKb0_46 (nAll nKb0_47 (nAll nKb0_48 (nAll nKb0_49 (nAll nKb0_50 (nAll nKb0_51 (nAll nKb0_52 (nAll nKb0_53 (nAll nKb0_54 (nAll nKb0_55 (nAll nKb0_56 (nAll nKb0_57 (nAll nKb0_58 (nAll nKb0_59 (nAll nKb0_60 (nAll nKb0_61 (nAll nKb0_62 (nAll nKb0_63 (nAll nKb0_64 (nAll nKb0_65 (nAll nKb0_66 (nAll nKb0_67 (nAll nKb0_68 (nAll nKb0_69 (nAll nKb0_70 (nAll nKb0_71 (nAll nKb0_72 (nAll nKb0_73 (nAll nKb0_74 (nAll nKb0_75 (nAll nKb0_76 (nAll nKb0_77 (nAll nKb0_78 (nAll nKb0_79 (nAll nKb0_80 (nAll nKb0_81 (nAll nKb0_82 (nAll nKb0_83 (nAll nKb0_84 (nAll nKb0_85 (nAll nKb0_86 (nAll nKb0_87 (nAll nKb0_88 (nAll nKb0_89 (nAll nKb0_90 (nAll nKb0_91 (nAll nKb0_92 (nAll nKb0_93 (nAll nKb0_94 (nAll nKb0_95 (nAll nKb0_96 (nAll nKb0_97 (nAll nKb0_98 (nAll nKb0_99 (nAll nKb0_100 (nAll nKb0_101 (nAll nKb0_102 (nAll nKb0_103 (nAll nKb0_104 (nAll nKb0_105 (nAll nKb0_106 (nAll nKb0_107 (nAll nKb0_108 (nAll nKb0_109 (nAll nKb0_110 (nAll nKb0_111 (nAll nKb0_112 (nAll nKb0_113 (nAll nKb0_114 (nAll nKb0_115 (nAll nKb0_116 (nAll nKb0_117 (nAll nKb0_118 (nAll nKb0_119 (nAll nKb0_120 (nAll nKb0_121 (nAll nKb0_122 (nAll nKb0_123 (nAll nKb0_124 (nAll nKb0_125 (nAll nKb0_126 (nAll nKb0_127 (nAll nKb0_128 (nAll nKb0_129 (nAll nKb0_130 (nAll nKb0_131 (nAll nKb0_132 (nAll nKb0_133 (nAll nKb0_134 (nAll nKb0_135 (nAll nKb0_136 (nAll nKb0_137 (nAll nKb0_138 (nAll nKb0_139 (nAll nKb0_140 (nAll nKb0_141 (nAll nKb0_142 (nAll nKb0_143 (nAll nKb0_144 (nAll nKb0_145 (nAll nKb0_146 (nAll nKb0_147 (nAll nKb0_148 (nAll nKb0_149 (nAll nKb0_150 (nAll nKb0_151 (nAll nKb0_152 (nAll nKb0_153 (nAll nKb0_154 (nAll nKb0_155 (nAll nKb0_156 (nAll nKb0_157 (nAll nKb0_158 (nAll nKb0_159 (nAll nKb0_160 (nAll nKb0_161 (nAll nKb0_162 (nAll nKb0_163 (nAll nKb0_164 (nAll nKb0_165 (nAll nKb0_166 (nAll nKb0_167 (nAll nKb0_168 (nAll nKb0_169 (nAll nKb0_170 (nAll nKb0_171 (nAll nKb0_172 (nAll nKb0_173 (nAll nKb0_174 (nAll nKb0_175 (nAll nKb0_176 (nAll nKb0_177 (nAll nKb0_178 (nAll nKb0_179 (nAll nKb0_180 (nAll nKb0_181 (nAll nKb0_182 (nAll nKb0_183 (nAll nKb0_184 (nAll nKb0_185 (nAll nKb0_186 (nAll nKb0_187 (nAll nKb0_188 (nAll nKb0_189 (nAll nKb0_190 (nAll nKb0_191 (nAll nKb0_192 (nAll nKb0_193 (nAll nKb0_194 (nAll nKb0_195 (nAll nKb0_196 (nAll nKb0_197 (nAll nKb0_198 (nAll nKb0_199 (nAll nKb0_200 (nAll nKb0_201 (nAll nKb0_202 (nAll nKb0_203 (nAll nKb0_204 (nAll nKb0_205 (nAll nKb0_206 (nAll nKb0_207 (nAll nKb0_208 (nAll nKb0_209 (nAll nKb0_210 (nAll nKb0_211 (nAll nKb0_212 (nAll nKb0_213 (nAll nKb0_214 (nAll nKb0_215 (nAll nKb0_216 (nAll nKb0_217 (nAll nKb0_218 (nAll nKb0_219 (nAll nKb0_220 (nAll nKb0_221 (nKb0_222))))))))))))))))))))))))))))))))))))))))))))))))))))))))))))))))))))))))))))))))))))))))))))))))))))))))))))))))))))))))))))))))))))))))))))))))))))))))))))))))))))))))))))))))))))))))))))))))))))))))))))))))))))))))))))))
