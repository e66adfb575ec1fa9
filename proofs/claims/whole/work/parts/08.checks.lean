/-! the words that the interpreter rests on: where they stand among the words of the tables -/
def wAt (i : Nat) (w : Cond) : Bool := decide (lw_tbl[i]? = some w) && goodWord w
theorem wAt_in {i : Nat} {w : Cond} (h : wAt i w = true) : w ∈ nW0 := by
  unfold wAt at h
  simp only [Bool.and_eq_true, decide_eq_true_eq] at h
  exact List.mem_filter.mpr ⟨List.mem_of_getElem? h.1, h.2⟩
def nFdP : List (List (Nat × Nat)) := [[(307, 143), (146, 158), (149, 163), (152, 166), (92, 169), (115, 175), (125, 180), (108, 183), (118, 190), (88, 214), (274, 220), (70, 223), (132, 244), (139, 246), (136, 249), (234, 291), (225, 295), (231, 298), (216, 329), (228, 333), (166, 357), (237, 361), (204, 370), (207, 372), (210, 374), (298, 426), (201, 428), (295, 430), (304, 432), (12, 460), (16, 461), (20, 462), (27, 463), (33, 464), (41, 465), (45, 466), (51, 467), (58, 468), (62, 469), (66, 470)], [(54, 157), (58, 162), (48, 170), (65, 176), (68, 181), (51, 184), (75, 191), (11, 209), (20, 216), (24, 221)], [(11, 141)], [(9, 153), (15, 159), (18, 164), (21, 167), (25, 172), (28, 177), (31, 182), (34, 185)], [(49, 173), (54, 178), (45, 213), (57, 217), (40, 226), (9, 242), (15, 245), (18, 247), (21, 250), (24, 251), (33, 252), (37, 253)], [(119, 154), (122, 160), (139, 165), (171, 171), (106, 188), (102, 215), (129, 219), (97, 227), (151, 248), (156, 294), (170, 303), (152, 328), (109, 331), (12, 355), (21, 358), (25, 360), (45, 362), (29, 363), (32, 364), (35, 365), (38, 366), (41, 367), (87, 369), (56, 371), (90, 373), (60, 375)], [(128, 156), (131, 161), (56, 174), (59, 179), (47, 186), (43, 210), (62, 218), (37, 222), (137, 297), (134, 302), (12, 326), (18, 330), (22, 332), (25, 334), (28, 335), (31, 336), (34, 337)], [(9, 290), (15, 292), (18, 296), (21, 299), (24, 300), (27, 301), (31, 304), (34, 305), (37, 306)], [(34, 187), (30, 211), (24, 225), (43, 243), (11, 409), (15, 410)], [(69, 142), (12, 425), (18, 427), (22, 429), (25, 431), (28, 433), (32, 434), (36, 435), (44, 436), (107, 437), (53, 438)], [(7, 1137), (13, 1138), (17, 1139), (20, 1140), (23, 1141), (26, 1142), (29, 1143), (32, 1144), (35, 1145), (38, 1146), (41, 1147), (159, 1148), (44, 1149), (48, 1150), (51, 1151), (54, 1152), (57, 1153), (60, 1154), (63, 1155), (66, 1156), (69, 1157), (72, 1158), (75, 1159), (78, 1160), (81, 1161), (84, 1162), (87, 1163), (90, 1164), (206, 1165), (215, 1166), (212, 1167), (209, 1168), (93, 1169), (96, 1170), (99, 1171), (276, 1172), (261, 1173), (264, 1174), (102, 1175), (105, 1176), (108, 1177), (111, 1178), (114, 1179), (117, 1180), (120, 1181), (123, 1182), (126, 1183), (129, 1184), (132, 1185), (304, 1186), (135, 1187), (329, 1188), (138, 1189), (335, 1190), (339, 1191), (369, 1192), (385, 1193)], [], [(72, 155), (25, 168), (69, 189), (21, 212), (15, 224), (60, 293), (54, 327), (50, 356), (40, 359), (9, 368)], [], [], [], [], [], [], []]
def chkFd (cn i : Nat) (q : Nat × Nat × Nat × Bool) : Bool := match nCl[q.1]?, nCn[cn]?, lk2 nFdP cn i with
  | some c, some own, some ps => wAt ps (.fieldLink own i (c.2.1 q.2.1).1 (c.2.1 q.2.1).2.1 (c.2.1 q.2.1).2.2.1) && decide (q.2.1 < c.2.2) && decide ((c.2.1 q.2.1).2.2.2 = q.2.2.2) && decide ((nFT[q.1]?).bind (fun l => l[q.2.1]?) = some q.2.2.1) && decide ((c.2.1 q.2.1).1 = c.1) && (match parseFieldDescriptor (c.2.1 q.2.1).2.2.1, q.2.2.1 with
    | some .int, 0 => true
    | some .boolean, 1 => true
    | some .long, 2 => true
    | some (.object _), 3 => true
    | some (.array _), 3 => true
    | _, _ => false)
  | _, _, _ => false
theorem fd_all : ((List.range 20).all fun cn => ((nFd[cn]?).getD []).all fun e => decide (e.2.1 = 200) || chkFd cn e.1 e.2) = true := by decide +kernel
theorem fd_str : lk2 nFd 17 9 = some (200, 0, 3, true) ∧ lk2 nFd 17 15 = some (200, 1, 0, true) ∧ ((List.range 20).all fun cn => decide (cn = 17) || ((nFd[cn]?).getD []).all fun e => !decide (e.2.1 = 200)) = true := by decide +kernel
theorem cl_w0 : ((([471, 473, 475, 477, 479, 481, 483, 485, 487, 489, 491] : List Nat).zip (u_ws "NumberedText" nF0 11)).all fun q => wAt q.1 q.2) = true ∧ (u_ws "NumberedText" nF0 11).length = ([471, 473, 475, 477, 479, 481, 483, 485, 487, 489, 491] : List Nat).length := by decide +kernel
theorem cl_w1 : ((([228, 230, 232] : List Nat).zip (u_ws "NumberedText$Text" nF1 3)).all fun q => wAt q.1 q.2) = true ∧ (u_ws "NumberedText$Text" nF1 3).length = ([228, 230, 232] : List Nat).length := by decide +kernel
theorem cl_w2 : ((([144] : List Nat).zip (u_ws "NumberedText$Style" nF2 1)).all fun q => wAt q.1 q.2) = true ∧ (u_ws "NumberedText$Style" nF2 1).length = ([144] : List Nat).length := by decide +kernel
theorem cl_w3 : ((([192, 194, 196, 198, 200, 202, 204, 206] : List Nat).zip (u_ws "NumberedText$Item" nF3 8)).all fun q => wAt q.1 q.2) = true ∧ (u_ws "NumberedText$Item" nF3 8).length = ([192, 194, 196, 198, 200, 202, 204, 206] : List Nat).length := by decide +kernel
theorem cl_w4 : ((([254, 256, 258, 260, 262, 264, 266] : List Nat).zip (u_ws "NumberedText$Numbers" nF4 7)).all fun q => wAt q.1 q.2) = true ∧ (u_ws "NumberedText$Numbers" nF4 7).length = ([254, 256, 258, 260, 262, 264, 266] : List Nat).length := by decide +kernel
theorem cl_w5 : ((([376, 378, 380, 382, 384, 386, 388, 390, 392, 394, 396, 398, 400] : List Nat).zip (u_ws "NumberedText$Setting" nF5 13)).all fun q => wAt q.1 q.2) = true ∧ (u_ws "NumberedText$Setting" nF5 13).length = ([376, 378, 380, 382, 384, 386, 388, 390, 392, 394, 396, 398, 400] : List Nat).length := by decide +kernel
theorem cl_w6 : ((([338, 340, 342, 344, 346, 348, 350] : List Nat).zip (u_ws "NumberedText$Layout" nF6 7)).all fun q => wAt q.1 q.2) = true ∧ (u_ws "NumberedText$Layout" nF6 7).length = ([338, 340, 342, 344, 346, 348, 350] : List Nat).length := by decide +kernel
theorem cl_w7 : ((([307, 309, 311, 313, 315, 317, 319, 321, 323] : List Nat).zip (u_ws "NumberedText$Pages" nF7 9)).all fun q => wAt q.1 q.2) = true ∧ (u_ws "NumberedText$Pages" nF7 9).length = ([307, 309, 311, 313, 315, 317, 319, 321, 323] : List Nat).length := by decide +kernel
theorem cl_w8 : ((([411, 413] : List Nat).zip (u_ws "NumberedText$Sections" nF8 2)).all fun q => wAt q.1 q.2) = true ∧ (u_ws "NumberedText$Sections" nF8 2).length = ([411, 413] : List Nat).length := by decide +kernel
theorem cl_w9 : ((([439, 441, 443, 445, 447, 449, 451, 453, 455, 457] : List Nat).zip (u_ws "NumberedText$Reader" nF9 10)).all fun q => wAt q.1 q.2) = true ∧ (u_ws "NumberedText$Reader" nF9 10).length = ([439, 441, 443, 445, 447, 449, 451, 453, 455, 457] : List Nat).length := by decide +kernel
theorem cl_w10 : ((([1194, 1196, 1198, 1200, 1202, 1204, 1206, 1208, 1210, 1212, 1214, 1216, 1218, 1220, 1222, 1224, 1226, 1228, 1230, 1232, 1234, 1236, 1238, 1240, 1242, 1244, 1246, 1248, 1250, 1252, 1254, 1256, 1258, 1260, 1262, 1264, 1266, 1268, 1270, 1272, 1274, 1276, 1278, 1280, 1282, 1284, 1286, 1288, 1290, 1292, 1294, 1296, 1298, 1300, 1302, 1304, 1306] : List Nat).zip (u_ws "NumberedTextModel" nF10 57)).all fun q => wAt q.1 q.2) = true ∧ (u_ws "NumberedTextModel" nF10 57).length = ([1194, 1196, 1198, 1200, 1202, 1204, 1206, 1208, 1210, 1212, 1214, 1216, 1218, 1220, 1222, 1224, 1226, 1228, 1230, 1232, 1234, 1236, 1238, 1240, 1242, 1244, 1246, 1248, 1250, 1252, 1254, 1256, 1258, 1260, 1262, 1264, 1266, 1268, 1270, 1272, 1274, 1276, 1278, 1280, 1282, 1284, 1286, 1288, 1290, 1292, 1294, 1296, 1298, 1300, 1302, 1304, 1306] : List Nat).length := by decide +kernel
theorem cl_mem {ps : List Nat} {ws : List Cond} (h : ((ps.zip ws).all fun q => wAt q.1 q.2) = true ∧ ws.length = ps.length) : ∀ w ∈ ws, w ∈ nW0 := by
  intro w hw
  obtain ⟨k, hk⟩ := List.getElem?_of_mem hw
  have hl := (List.getElem?_eq_some_iff.mp hk).1
  rw [h.2] at hl
  have h1 : (ps.zip ws)[k]? = some (ps[k], w) := by rw [List.getElem?_zip_eq_some]; exact ⟨List.getElem?_eq_getElem hl, hk⟩
  exact wAt_in (List.all_eq_true.mp h.1 _ (List.mem_of_getElem? h1))
def nYs : List (Nat → FieldType) := [nY0, nY1, nY2, nY3, nY4, nY5, nY6, nY7, nY8, nY9, nY10]
theorem cl_in : ∀ (ci : Nat) (q : vw_C), nCl[ci]? = some q → ∀ w ∈ u_ws q.1 q.2.1 q.2.2, w ∈ nW0 := by
  intro ci q hq
  match ci, hq with
  | 0, hq => cases hq; exact cl_mem cl_w0
  | 1, hq => cases hq; exact cl_mem cl_w1
  | 2, hq => cases hq; exact cl_mem cl_w2
  | 3, hq => cases hq; exact cl_mem cl_w3
  | 4, hq => cases hq; exact cl_mem cl_w4
  | 5, hq => cases hq; exact cl_mem cl_w5
  | 6, hq => cases hq; exact cl_mem cl_w6
  | 7, hq => cases hq; exact cl_mem cl_w7
  | 8, hq => cases hq; exact cl_mem cl_w8
  | 9, hq => cases hq; exact cl_mem cl_w9
  | 10, hq => cases hq; exact cl_mem cl_w10
  | k + 11, hq => simp [nCl] at hq
theorem cl_t0 : ∀ k, k < 11 → parseFieldDescriptor (nF0 k).2.2.1 = some (nY0 k) := by decide +kernel
theorem cl_n0 : ∀ a, a < 11 → ∀ b, b < 11 → a ≠ b → (nF0 a).2.1 ≠ (nF0 b).2.1 := by decide +kernel
theorem cl_t1 : ∀ k, k < 3 → parseFieldDescriptor (nF1 k).2.2.1 = some (nY1 k) := by decide +kernel
theorem cl_n1 : ∀ a, a < 3 → ∀ b, b < 3 → a ≠ b → (nF1 a).2.1 ≠ (nF1 b).2.1 := by decide +kernel
theorem cl_t2 : ∀ k, k < 1 → parseFieldDescriptor (nF2 k).2.2.1 = some (nY2 k) := by decide +kernel
theorem cl_n2 : ∀ a, a < 1 → ∀ b, b < 1 → a ≠ b → (nF2 a).2.1 ≠ (nF2 b).2.1 := by decide +kernel
theorem cl_t3 : ∀ k, k < 8 → parseFieldDescriptor (nF3 k).2.2.1 = some (nY3 k) := by decide +kernel
theorem cl_n3 : ∀ a, a < 8 → ∀ b, b < 8 → a ≠ b → (nF3 a).2.1 ≠ (nF3 b).2.1 := by decide +kernel
theorem cl_t4 : ∀ k, k < 7 → parseFieldDescriptor (nF4 k).2.2.1 = some (nY4 k) := by decide +kernel
theorem cl_n4 : ∀ a, a < 7 → ∀ b, b < 7 → a ≠ b → (nF4 a).2.1 ≠ (nF4 b).2.1 := by decide +kernel
theorem cl_t5 : ∀ k, k < 13 → parseFieldDescriptor (nF5 k).2.2.1 = some (nY5 k) := by decide +kernel
theorem cl_n5 : ∀ a, a < 13 → ∀ b, b < 13 → a ≠ b → (nF5 a).2.1 ≠ (nF5 b).2.1 := by decide +kernel
theorem cl_t6 : ∀ k, k < 7 → parseFieldDescriptor (nF6 k).2.2.1 = some (nY6 k) := by decide +kernel
theorem cl_n6 : ∀ a, a < 7 → ∀ b, b < 7 → a ≠ b → (nF6 a).2.1 ≠ (nF6 b).2.1 := by decide +kernel
theorem cl_t7 : ∀ k, k < 9 → parseFieldDescriptor (nF7 k).2.2.1 = some (nY7 k) := by decide +kernel
theorem cl_n7 : ∀ a, a < 9 → ∀ b, b < 9 → a ≠ b → (nF7 a).2.1 ≠ (nF7 b).2.1 := by decide +kernel
theorem cl_t8 : ∀ k, k < 2 → parseFieldDescriptor (nF8 k).2.2.1 = some (nY8 k) := by decide +kernel
theorem cl_n8 : ∀ a, a < 2 → ∀ b, b < 2 → a ≠ b → (nF8 a).2.1 ≠ (nF8 b).2.1 := by decide +kernel
theorem cl_t9 : ∀ k, k < 10 → parseFieldDescriptor (nF9 k).2.2.1 = some (nY9 k) := by decide +kernel
theorem cl_n9 : ∀ a, a < 10 → ∀ b, b < 10 → a ≠ b → (nF9 a).2.1 ≠ (nF9 b).2.1 := by decide +kernel
theorem cl_t10 : ∀ k, k < 57 → parseFieldDescriptor (nF10 k).2.2.1 = some (nY10 k) := by decide +kernel
theorem cl_n10 : ∀ a, a < 57 → ∀ b, b < 57 → a ≠ b → (nF10 a).2.1 ≠ (nF10 b).2.1 := by decide +kernel
theorem cl_ty : ∀ (ci : Nat) (q : vw_C), nCl[ci]? = some q → ∃ ty : Nat → FieldType, ∀ k, k < q.2.2 → parseFieldDescriptor (q.2.1 k).2.2.1 = some (ty k) := by
  intro ci q hq
  match ci, hq with
  | 0, hq => cases hq; exact ⟨nY0, cl_t0⟩
  | 1, hq => cases hq; exact ⟨nY1, cl_t1⟩
  | 2, hq => cases hq; exact ⟨nY2, cl_t2⟩
  | 3, hq => cases hq; exact ⟨nY3, cl_t3⟩
  | 4, hq => cases hq; exact ⟨nY4, cl_t4⟩
  | 5, hq => cases hq; exact ⟨nY5, cl_t5⟩
  | 6, hq => cases hq; exact ⟨nY6, cl_t6⟩
  | 7, hq => cases hq; exact ⟨nY7, cl_t7⟩
  | 8, hq => cases hq; exact ⟨nY8, cl_t8⟩
  | 9, hq => cases hq; exact ⟨nY9, cl_t9⟩
  | 10, hq => cases hq; exact ⟨nY10, cl_t10⟩
  | k + 11, hq => simp [nCl] at hq
theorem cl_nm : ∀ (ci : Nat) (q : vw_C), nCl[ci]? = some q → ∀ a, a < q.2.2 → ∀ b, b < q.2.2 → a ≠ b → (q.2.1 a).2.1 ≠ (q.2.1 b).2.1 := by
  intro ci q hq
  match ci, hq with
  | 0, hq => cases hq; exact cl_n0
  | 1, hq => cases hq; exact cl_n1
  | 2, hq => cases hq; exact cl_n2
  | 3, hq => cases hq; exact cl_n3
  | 4, hq => cases hq; exact cl_n4
  | 5, hq => cases hq; exact cl_n5
  | 6, hq => cases hq; exact cl_n6
  | 7, hq => cases hq; exact cl_n7
  | 8, hq => cases hq; exact cl_n8
  | 9, hq => cases hq; exact cl_n9
  | 10, hq => cases hq; exact cl_n10
  | k + 11, hq => simp [nCl] at hq
def nNwP : List (List (Nat × Nat)) := [[(9, 114), (24, 236), (36, 272), (48, 403), (55, 417)], [(9, 120), (17, 122)], [], [], [], [(9, 278), (18, 353)], [(9, 284)], [], [], [(9, 423)], [], [], [], [(7, 106), (10, 1127)], [], [], [], [], [], []]
def nInP : List (Nat × Nat) := [(107, 85), (115, 86), (123, 87), (148, 89), (237, 90), (273, 91), (279, 92), (285, 93), (404, 94), (418, 95), (1128, 96)]
def chkNw (cn i ci : Nat) : Bool := match nCl[ci]?, nCn[cn]?, lk2 nNwP cn i, nInP[ci]?, nFT[ci]? with
  | some c, some own, some ps, some q, some ts => wAt ps (.classLink own i c.1) && wAt q.1 (.instantiable c.1 c.2.2) && wAt q.2 (.initialized c.1) && decide (ts.length = c.2.2)
  | _, _, _, _, _ => false
theorem nw_all : ((List.range 20).all fun cn => ((nNw[cn]?).getD []).all fun e => chkNw cn e.1 e.2) = true := by decide +kernel
def nC2P : List (List (Nat × Nat)) := [[], [], [], [], [], [], [], [], [(60, 919)], [(39, 988)], [(153, 1316), (155, 1317), (157, 1318), (173, 1347), (175, 1348), (177, 1353), (179, 1354), (181, 1355), (282, 1405), (307, 1521), (327, 1577), (342, 1594), (344, 1595), (346, 1596), (348, 1597), (350, 1598), (352, 1599), (362, 1622), (364, 1623), (397, 1640)], [], [], [(109, 1641)], [], [], [(314, 923), (316, 924), (318, 925)], [], [], []]
def chkC2 (cn i : Nat) (v : Int64) : Bool := match nCn[cn]?, lk2 nC2P cn i with
  | some own, some ps => wAt ps (.constantLong own i v)
  | _, _ => false
theorem c2_all : ((List.range 20).all fun cn => ((nC2[cn]?).getD []).all fun e => chkC2 cn e.1 e.2) = true := by decide +kernel
def chkM (r : MR) (q : Nat × Nat × Nat) : Bool :=
  wAt q.1 (.initialized r.1.cls) && decide (nCn[r.2.2.2.2.1]? = some r.1.cls) && decide ((parseMethodDescriptor r.1.desc).map (fun d => d.parameters.length) = some r.2.2.2.2.2.2.2.2.2.1) && plainName r.1.cls && !decide (r.1.cls = "java/lang/invoke/MethodHandle") && !decide (r.1.cls = "java/lang/invoke/VarHandle") &&
  (match r.2.2.2.2.2.2.2.2.2.2 with
    | 0 => wAt q.2.1 (.static r.1)
    | 1 => wAt q.2.1 (.instanceMethod r.1) && wAt q.2.2 (.selects r.1.cls r.1 r.1) && (decide (r.2.2.2.2.1 < 11) || decide (r.2.2.2.2.1 = 17))
    | _ => wAt q.2.1 (.instanceMethod r.1) && decide (r.1.name = "<init>"))
def MOk (r : MR) : Prop := Cond.code r.1 r.2.1 r.2.2.1 r.2.2.2.1 ∈ nW0 ∧ ∃ q, chkM r q = true
theorem MOk.of {r : MR} {i : Nat} (q : Nat × Nat × Nat) (h1 : lw_tbl[i]? = some (Cond.code r.1 r.2.1 r.2.2.1 r.2.2.2.1)) (h2 : goodWord (Cond.code r.1 r.2.1 r.2.2.1 r.2.2.2.1) = true) (h3 : chkM r q = true) : MOk r := ⟨List.mem_filter.mpr ⟨List.mem_of_getElem? h1, h2⟩, q, h3⟩
set_option maxRecDepth 100000 in
theorem mo_1 : MOk nM1 := MOk.of (i := 110) (85, 109, 0) rfl rfl (by decide +kernel)
set_option maxRecDepth 100000 in
theorem mo_2 : MOk nM2 := MOk.of (i := 118) (86, 117, 0) rfl rfl (by decide +kernel)
set_option maxRecDepth 100000 in
theorem mo_3 : MOk nM3 := MOk.of (i := 126) (87, 125, 0) rfl rfl (by decide +kernel)
set_option maxRecDepth 100000 in
theorem mo_4 : MOk nM4 := MOk.of (i := 131) (87, 129, 130) rfl rfl (by decide +kernel)
set_option maxRecDepth 100000 in
theorem mo_5 : MOk nM5 := MOk.of (i := 134) (88, 133, 0) rfl rfl (by decide +kernel)
set_option maxRecDepth 100000 in
theorem mo_6 : MOk nM6 := MOk.of (i := 137) (88, 136, 0) rfl rfl (by decide +kernel)
set_option maxRecDepth 100000 in
theorem mo_7 : MOk nM7 := MOk.of (i := 140) (88, 139, 0) rfl rfl (by decide +kernel)
set_option maxRecDepth 100000 in
theorem mo_8 : MOk nM8 := MOk.of (i := 151) (89, 150, 0) rfl rfl (by decide +kernel)
set_option maxRecDepth 100000 in
theorem mo_9 : MOk nM9 := MOk.of (i := 240) (90, 239, 0) rfl rfl (by decide +kernel)
set_option maxRecDepth 100000 in
theorem mo_10 : MOk nM10 := MOk.of (i := 276) (91, 275, 0) rfl rfl (by decide +kernel)
set_option maxRecDepth 100000 in
theorem mo_11 : MOk nM11 := MOk.of (i := 282) (92, 281, 0) rfl rfl (by decide +kernel)
set_option maxRecDepth 100000 in
theorem mo_12 : MOk nM12 := MOk.of (i := 288) (93, 287, 0) rfl rfl (by decide +kernel)
set_option maxRecDepth 100000 in
theorem mo_13 : MOk nM13 := MOk.of (i := 407) (94, 406, 0) rfl rfl (by decide +kernel)
set_option maxRecDepth 100000 in
theorem mo_14 : MOk nM14 := MOk.of (i := 421) (95, 420, 0) rfl rfl (by decide +kernel)
set_option maxRecDepth 100000 in
theorem mo_15 : MOk nM15 := MOk.of (i := 497) (85, 495, 496) rfl rfl (by decide +kernel)
set_option maxRecDepth 100000 in
theorem mo_16 : MOk nM16 := MOk.of (i := 500) (85, 499, 0) rfl rfl (by decide +kernel)
set_option maxRecDepth 100000 in
theorem mo_17 : MOk nM17 := MOk.of (i := 503) (85, 502, 0) rfl rfl (by decide +kernel)
set_option maxRecDepth 100000 in
theorem mo_18 : MOk nM18 := MOk.of (i := 507) (86, 505, 506) rfl rfl (by decide +kernel)
set_option maxRecDepth 100000 in
theorem mo_19 : MOk nM19 := MOk.of (i := 511) (89, 509, 510) rfl rfl (by decide +kernel)
set_option maxRecDepth 100000 in
theorem mo_20 : MOk nM20 := MOk.of (i := 515) (86, 513, 514) rfl rfl (by decide +kernel)
set_option maxRecDepth 100000 in
theorem mo_21 : MOk nM21 := MOk.of (i := 519) (85, 517, 518) rfl rfl (by decide +kernel)
set_option maxRecDepth 100000 in
theorem mo_22 : MOk nM22 := MOk.of (i := 523) (86, 521, 522) rfl rfl (by decide +kernel)
set_option maxRecDepth 100000 in
theorem mo_23 : MOk nM23 := MOk.of (i := 527) (86, 525, 526) rfl rfl (by decide +kernel)
set_option maxRecDepth 100000 in
theorem mo_24 : MOk nM24 := MOk.of (i := 532) (85, 530, 531) rfl rfl (by decide +kernel)
set_option maxRecDepth 100000 in
theorem mo_25 : MOk nM25 := MOk.of (i := 537) (85, 535, 536) rfl rfl (by decide +kernel)
set_option maxRecDepth 100000 in
theorem mo_26 : MOk nM26 := MOk.of (i := 540) (85, 539, 0) rfl rfl (by decide +kernel)
set_option maxRecDepth 100000 in
theorem mo_27 : MOk nM27 := MOk.of (i := 544) (85, 542, 543) rfl rfl (by decide +kernel)
set_option maxRecDepth 100000 in
theorem mo_28 : MOk nM28 := MOk.of (i := 547) (85, 546, 0) rfl rfl (by decide +kernel)
set_option maxRecDepth 100000 in
theorem mo_29 : MOk nM29 := MOk.of (i := 551) (89, 549, 550) rfl rfl (by decide +kernel)
set_option maxRecDepth 100000 in
theorem mo_30 : MOk nM30 := MOk.of (i := 555) (85, 553, 554) rfl rfl (by decide +kernel)
set_option maxRecDepth 100000 in
theorem mo_31 : MOk nM31 := MOk.of (i := 559) (85, 557, 558) rfl rfl (by decide +kernel)
set_option maxRecDepth 100000 in
theorem mo_32 : MOk nM32 := MOk.of (i := 563) (85, 562, 0) rfl rfl (by decide +kernel)
set_option maxRecDepth 100000 in
theorem mo_33 : MOk nM33 := MOk.of (i := 567) (90, 565, 566) rfl rfl (by decide +kernel)
set_option maxRecDepth 100000 in
theorem mo_34 : MOk nM34 := MOk.of (i := 572) (87, 570, 571) rfl rfl (by decide +kernel)
set_option maxRecDepth 100000 in
theorem mo_35 : MOk nM35 := MOk.of (i := 576) (90, 575, 1) rfl rfl (by decide +kernel)
set_option maxRecDepth 100000 in
theorem mo_36 : MOk nM36 := MOk.of (i := 581) (90, 580, 2) rfl rfl (by decide +kernel)
set_option maxRecDepth 100000 in
theorem mo_37 : MOk nM37 := MOk.of (i := 585) (90, 584, 3) rfl rfl (by decide +kernel)
set_option maxRecDepth 100000 in
theorem mo_38 : MOk nM38 := MOk.of (i := 589) (90, 588, 4) rfl rfl (by decide +kernel)
set_option maxRecDepth 100000 in
theorem mo_39 : MOk nM39 := MOk.of (i := 593) (87, 591, 592) rfl rfl (by decide +kernel)
set_option maxRecDepth 100000 in
theorem mo_40 : MOk nM40 := MOk.of (i := 596) (97, 595, 0) rfl rfl (by decide +kernel)
set_option maxRecDepth 100000 in
theorem mo_41 : MOk nM41 := MOk.of (i := 599) (97, 598, 0) rfl rfl (by decide +kernel)
set_option maxRecDepth 100000 in
theorem mo_42 : MOk nM42 := MOk.of (i := 602) (97, 601, 0) rfl rfl (by decide +kernel)
set_option maxRecDepth 100000 in
theorem mo_43 : MOk nM43 := MOk.of (i := 607) (97, 606, 0) rfl rfl (by decide +kernel)
set_option maxRecDepth 100000 in
theorem mo_44 : MOk nM44 := MOk.of (i := 611) (87, 609, 610) rfl rfl (by decide +kernel)
set_option maxRecDepth 100000 in
theorem mo_45 : MOk nM45 := MOk.of (i := 615) (90, 614, 5) rfl rfl (by decide +kernel)
set_option maxRecDepth 100000 in
theorem mo_46 : MOk nM46 := MOk.of (i := 619) (89, 617, 618) rfl rfl (by decide +kernel)
set_option maxRecDepth 100000 in
theorem mo_47 : MOk nM47 := MOk.of (i := 624) (85, 622, 623) rfl rfl (by decide +kernel)
set_option maxRecDepth 100000 in
theorem mo_48 : MOk nM48 := MOk.of (i := 628) (90, 626, 627) rfl rfl (by decide +kernel)
set_option maxRecDepth 100000 in
theorem mo_49 : MOk nM49 := MOk.of (i := 632) (85, 630, 631) rfl rfl (by decide +kernel)
set_option maxRecDepth 100000 in
theorem mo_50 : MOk nM50 := MOk.of (i := 636) (86, 634, 635) rfl rfl (by decide +kernel)
set_option maxRecDepth 100000 in
theorem mo_51 : MOk nM51 := MOk.of (i := 640) (86, 638, 639) rfl rfl (by decide +kernel)
set_option maxRecDepth 100000 in
theorem mo_52 : MOk nM52 := MOk.of (i := 644) (85, 643, 6) rfl rfl (by decide +kernel)
set_option maxRecDepth 100000 in
theorem mo_53 : MOk nM53 := MOk.of (i := 648) (87, 646, 647) rfl rfl (by decide +kernel)
set_option maxRecDepth 100000 in
theorem mo_54 : MOk nM54 := MOk.of (i := 652) (91, 650, 651) rfl rfl (by decide +kernel)
set_option maxRecDepth 100000 in
theorem mo_55 : MOk nM55 := MOk.of (i := 657) (91, 656, 7) rfl rfl (by decide +kernel)
set_option maxRecDepth 100000 in
theorem mo_56 : MOk nM56 := MOk.of (i := 661) (92, 659, 660) rfl rfl (by decide +kernel)
set_option maxRecDepth 100000 in
theorem mo_57 : MOk nM57 := MOk.of (i := 666) (91, 665, 8) rfl rfl (by decide +kernel)
set_option maxRecDepth 100000 in
theorem mo_58 : MOk nM58 := MOk.of (i := 673) (92, 671, 672) rfl rfl (by decide +kernel)
set_option maxRecDepth 100000 in
theorem mo_59 : MOk nM59 := MOk.of (i := 677) (93, 675, 676) rfl rfl (by decide +kernel)
set_option maxRecDepth 100000 in
theorem mo_60 : MOk nM60 := MOk.of (i := 681) (87, 679, 680) rfl rfl (by decide +kernel)
set_option maxRecDepth 100000 in
theorem mo_61 : MOk nM61 := MOk.of (i := 685) (92, 684, 9) rfl rfl (by decide +kernel)
set_option maxRecDepth 100000 in
theorem mo_62 : MOk nM62 := MOk.of (i := 691) (93, 689, 690) rfl rfl (by decide +kernel)
set_option maxRecDepth 100000 in
theorem mo_63 : MOk nM63 := MOk.of (i := 695) (93, 693, 694) rfl rfl (by decide +kernel)
set_option maxRecDepth 100000 in
theorem mo_64 : MOk nM64 := MOk.of (i := 699) (93, 697, 698) rfl rfl (by decide +kernel)
set_option maxRecDepth 100000 in
theorem mo_65 : MOk nM65 := MOk.of (i := 704) (93, 702, 703) rfl rfl (by decide +kernel)
set_option maxRecDepth 100000 in
theorem mo_66 : MOk nM66 := MOk.of (i := 708) (93, 706, 707) rfl rfl (by decide +kernel)
set_option maxRecDepth 100000 in
theorem mo_67 : MOk nM67 := MOk.of (i := 712) (87, 710, 711) rfl rfl (by decide +kernel)
set_option maxRecDepth 100000 in
theorem mo_68 : MOk nM68 := MOk.of (i := 716) (92, 715, 10) rfl rfl (by decide +kernel)
set_option maxRecDepth 100000 in
theorem mo_69 : MOk nM69 := MOk.of (i := 720) (92, 719, 11) rfl rfl (by decide +kernel)
set_option maxRecDepth 100000 in
theorem mo_70 : MOk nM70 := MOk.of (i := 724) (92, 723, 12) rfl rfl (by decide +kernel)
set_option maxRecDepth 100000 in
theorem mo_71 : MOk nM71 := MOk.of (i := 729) (93, 727, 728) rfl rfl (by decide +kernel)
set_option maxRecDepth 100000 in
theorem mo_72 : MOk nM72 := MOk.of (i := 735) (86, 733, 734) rfl rfl (by decide +kernel)
set_option maxRecDepth 100000 in
theorem mo_73 : MOk nM73 := MOk.of (i := 739) (86, 737, 738) rfl rfl (by decide +kernel)
set_option maxRecDepth 100000 in
theorem mo_74 : MOk nM74 := MOk.of (i := 744) (93, 742, 743) rfl rfl (by decide +kernel)
set_option maxRecDepth 100000 in
theorem mo_75 : MOk nM75 := MOk.of (i := 748) (91, 746, 747) rfl rfl (by decide +kernel)
set_option maxRecDepth 100000 in
theorem mo_76 : MOk nM76 := MOk.of (i := 752) (91, 751, 13) rfl rfl (by decide +kernel)
set_option maxRecDepth 100000 in
theorem mo_77 : MOk nM77 := MOk.of (i := 756) (92, 754, 755) rfl rfl (by decide +kernel)
set_option maxRecDepth 100000 in
theorem mo_78 : MOk nM78 := MOk.of (i := 760) (87, 758, 759) rfl rfl (by decide +kernel)
set_option maxRecDepth 100000 in
theorem mo_79 : MOk nM79 := MOk.of (i := 764) (91, 763, 14) rfl rfl (by decide +kernel)
set_option maxRecDepth 100000 in
theorem mo_80 : MOk nM80 := MOk.of (i := 768) (91, 767, 15) rfl rfl (by decide +kernel)
set_option maxRecDepth 100000 in
theorem mo_82 : MOk nM82 := MOk.of (i := 776) (91, 775, 16) rfl rfl (by decide +kernel)
set_option maxRecDepth 100000 in
theorem mo_83 : MOk nM83 := MOk.of (i := 780) (91, 779, 17) rfl rfl (by decide +kernel)
set_option maxRecDepth 100000 in
theorem mo_84 : MOk nM84 := MOk.of (i := 784) (91, 782, 783) rfl rfl (by decide +kernel)
set_option maxRecDepth 100000 in
theorem mo_85 : MOk nM85 := MOk.of (i := 789) (92, 787, 788) rfl rfl (by decide +kernel)
set_option maxRecDepth 100000 in
theorem mo_86 : MOk nM86 := MOk.of (i := 793) (91, 791, 792) rfl rfl (by decide +kernel)
set_option maxRecDepth 100000 in
theorem mo_87 : MOk nM87 := MOk.of (i := 797) (85, 795, 796) rfl rfl (by decide +kernel)
set_option maxRecDepth 100000 in
theorem mo_88 : MOk nM88 := MOk.of (i := 801) (86, 799, 800) rfl rfl (by decide +kernel)
set_option maxRecDepth 100000 in
theorem mo_89 : MOk nM89 := MOk.of (i := 805) (86, 803, 804) rfl rfl (by decide +kernel)
set_option maxRecDepth 100000 in
theorem mo_90 : MOk nM90 := MOk.of (i := 809) (86, 807, 808) rfl rfl (by decide +kernel)
set_option maxRecDepth 100000 in
theorem mo_91 : MOk nM91 := MOk.of (i := 814) (86, 812, 813) rfl rfl (by decide +kernel)
set_option maxRecDepth 100000 in
theorem mo_92 : MOk nM92 := MOk.of (i := 818) (86, 816, 817) rfl rfl (by decide +kernel)
set_option maxRecDepth 100000 in
theorem mo_93 : MOk nM93 := MOk.of (i := 823) (86, 822, 18) rfl rfl (by decide +kernel)
set_option maxRecDepth 100000 in
theorem mo_94 : MOk nM94 := MOk.of (i := 827) (86, 826, 19) rfl rfl (by decide +kernel)
set_option maxRecDepth 100000 in
theorem mo_95 : MOk nM95 := MOk.of (i := 831) (89, 829, 830) rfl rfl (by decide +kernel)
set_option maxRecDepth 100000 in
theorem mo_96 : MOk nM96 := MOk.of (i := 835) (86, 833, 834) rfl rfl (by decide +kernel)
set_option maxRecDepth 100000 in
theorem mo_97 : MOk nM97 := MOk.of (i := 839) (85, 837, 838) rfl rfl (by decide +kernel)
set_option maxRecDepth 100000 in
theorem mo_98 : MOk nM98 := MOk.of (i := 845) (85, 843, 844) rfl rfl (by decide +kernel)
set_option maxRecDepth 100000 in
theorem mo_99 : MOk nM99 := MOk.of (i := 849) (85, 847, 848) rfl rfl (by decide +kernel)
set_option maxRecDepth 100000 in
theorem mo_100 : MOk nM100 := MOk.of (i := 853) (85, 851, 852) rfl rfl (by decide +kernel)
set_option maxRecDepth 100000 in
theorem mo_101 : MOk nM101 := MOk.of (i := 857) (85, 855, 856) rfl rfl (by decide +kernel)
set_option maxRecDepth 100000 in
theorem mo_102 : MOk nM102 := MOk.of (i := 861) (89, 859, 860) rfl rfl (by decide +kernel)
set_option maxRecDepth 100000 in
theorem mo_103 : MOk nM103 := MOk.of (i := 865) (86, 863, 864) rfl rfl (by decide +kernel)
set_option maxRecDepth 100000 in
theorem mo_104 : MOk nM104 := MOk.of (i := 869) (85, 867, 868) rfl rfl (by decide +kernel)
set_option maxRecDepth 100000 in
theorem mo_105 : MOk nM105 := MOk.of (i := 873) (85, 871, 872) rfl rfl (by decide +kernel)
set_option maxRecDepth 100000 in
theorem mo_106 : MOk nM106 := MOk.of (i := 878) (85, 876, 877) rfl rfl (by decide +kernel)
set_option maxRecDepth 100000 in
theorem mo_107 : MOk nM107 := MOk.of (i := 882) (86, 880, 881) rfl rfl (by decide +kernel)
set_option maxRecDepth 100000 in
theorem mo_108 : MOk nM108 := MOk.of (i := 886) (85, 884, 885) rfl rfl (by decide +kernel)
set_option maxRecDepth 100000 in
theorem mo_109 : MOk nM109 := MOk.of (i := 890) (94, 888, 889) rfl rfl (by decide +kernel)
set_option maxRecDepth 100000 in
theorem mo_110 : MOk nM110 := MOk.of (i := 893) (88, 892, 0) rfl rfl (by decide +kernel)
set_option maxRecDepth 100000 in
theorem mo_111 : MOk nM111 := MOk.of (i := 898) (94, 897, 20) rfl rfl (by decide +kernel)
set_option maxRecDepth 100000 in
theorem mo_112 : MOk nM112 := MOk.of (i := 902) (94, 900, 901) rfl rfl (by decide +kernel)
set_option maxRecDepth 100000 in
theorem mo_113 : MOk nM113 := MOk.of (i := 906) (94, 905, 21) rfl rfl (by decide +kernel)
set_option maxRecDepth 100000 in
theorem mo_114 : MOk nM114 := MOk.of (i := 910) (85, 908, 909) rfl rfl (by decide +kernel)
set_option maxRecDepth 100000 in
theorem mo_115 : MOk nM115 := MOk.of (i := 914) (94, 912, 913) rfl rfl (by decide +kernel)
set_option maxRecDepth 100000 in
theorem mo_116 : MOk nM116 := MOk.of (i := 918) (94, 917, 22) rfl rfl (by decide +kernel)
set_option maxRecDepth 100000 in
theorem mo_117 : MOk nM117 := MOk.of (i := 922) (100, 921, 0) rfl rfl (by decide +kernel)
set_option maxRecDepth 100000 in
theorem mo_118 : MOk nM118 := MOk.of (i := 929) (85, 927, 928) rfl rfl (by decide +kernel)
set_option maxRecDepth 100000 in
theorem mo_119 : MOk nM119 := MOk.of (i := 933) (86, 931, 932) rfl rfl (by decide +kernel)
set_option maxRecDepth 100000 in
theorem mo_120 : MOk nM120 := MOk.of (i := 937) (89, 935, 936) rfl rfl (by decide +kernel)
set_option maxRecDepth 100000 in
theorem mo_121 : MOk nM121 := MOk.of (i := 943) (87, 941, 942) rfl rfl (by decide +kernel)
set_option maxRecDepth 100000 in
theorem mo_122 : MOk nM122 := MOk.of (i := 948) (85, 946, 947) rfl rfl (by decide +kernel)
set_option maxRecDepth 100000 in
theorem mo_123 : MOk nM123 := MOk.of (i := 952) (85, 951, 23) rfl rfl (by decide +kernel)
set_option maxRecDepth 100000 in
theorem mo_124 : MOk nM124 := MOk.of (i := 956) (85, 954, 955) rfl rfl (by decide +kernel)
set_option maxRecDepth 100000 in
theorem mo_125 : MOk nM125 := MOk.of (i := 959) (101, 958, 0) rfl rfl (by decide +kernel)
set_option maxRecDepth 100000 in
theorem mo_126 : MOk nM126 := MOk.of (i := 963) (86, 961, 962) rfl rfl (by decide +kernel)
set_option maxRecDepth 100000 in
theorem mo_127 : MOk nM127 := MOk.of (i := 966) (101, 965, 0) rfl rfl (by decide +kernel)
set_option maxRecDepth 100000 in
theorem mo_128 : MOk nM128 := MOk.of (i := 970) (90, 968, 969) rfl rfl (by decide +kernel)
set_option maxRecDepth 100000 in
theorem mo_129 : MOk nM129 := MOk.of (i := 974) (101, 973, 0) rfl rfl (by decide +kernel)
set_option maxRecDepth 100000 in
theorem mo_130 : MOk nM130 := MOk.of (i := 979) (91, 977, 978) rfl rfl (by decide +kernel)
set_option maxRecDepth 100000 in
theorem mo_131 : MOk nM131 := MOk.of (i := 983) (85, 981, 982) rfl rfl (by decide +kernel)
set_option maxRecDepth 100000 in
theorem mo_132 : MOk nM132 := MOk.of (i := 987) (95, 985, 986) rfl rfl (by decide +kernel)
set_option maxRecDepth 100000 in
theorem mo_133 : MOk nM133 := MOk.of (i := 992) (85, 990, 991) rfl rfl (by decide +kernel)
set_option maxRecDepth 100000 in
theorem mo_134 : MOk nM134 := MOk.of (i := 996) (95, 994, 995) rfl rfl (by decide +kernel)
set_option maxRecDepth 100000 in
theorem mo_135 : MOk nM135 := MOk.of (i := 1000) (95, 999, 24) rfl rfl (by decide +kernel)
set_option maxRecDepth 100000 in
theorem mo_136 : MOk nM136 := MOk.of (i := 1005) (95, 1004, 25) rfl rfl (by decide +kernel)
set_option maxRecDepth 100000 in
theorem mo_137 : MOk nM137 := MOk.of (i := 1008) (95, 1007, 0) rfl rfl (by decide +kernel)
set_option maxRecDepth 100000 in
theorem mo_138 : MOk nM138 := MOk.of (i := 1012) (95, 1011, 26) rfl rfl (by decide +kernel)
set_option maxRecDepth 100000 in
theorem mo_139 : MOk nM139 := MOk.of (i := 1017) (95, 1016, 27) rfl rfl (by decide +kernel)
set_option maxRecDepth 100000 in
theorem mo_140 : MOk nM140 := MOk.of (i := 1021) (102, 1019, 1020) rfl rfl (by decide +kernel)
set_option maxRecDepth 100000 in
theorem mo_141 : MOk nM141 := MOk.of (i := 1025) (102, 1023, 1024) rfl rfl (by decide +kernel)
set_option maxRecDepth 100000 in
theorem mo_142 : MOk nM142 := MOk.of (i := 1031) (102, 1029, 1030) rfl rfl (by decide +kernel)
set_option maxRecDepth 100000 in
theorem mo_143 : MOk nM143 := MOk.of (i := 1035) (102, 1033, 1034) rfl rfl (by decide +kernel)
set_option maxRecDepth 100000 in
theorem mo_144 : MOk nM144 := MOk.of (i := 1038) (103, 1037, 0) rfl rfl (by decide +kernel)
set_option maxRecDepth 100000 in
theorem mo_145 : MOk nM145 := MOk.of (i := 1041) (102, 1040, 0) rfl rfl (by decide +kernel)
set_option maxRecDepth 100000 in
theorem mo_146 : MOk nM146 := MOk.of (i := 1046) (104, 1045, 0) rfl rfl (by decide +kernel)
set_option maxRecDepth 100000 in
theorem mo_147 : MOk nM147 := MOk.of (i := 1069) (95, 1068, 28) rfl rfl (by decide +kernel)
set_option maxRecDepth 100000 in
theorem mo_148 : MOk nM148 := MOk.of (i := 1073) (95, 1072, 29) rfl rfl (by decide +kernel)
set_option maxRecDepth 100000 in
theorem mo_149 : MOk nM149 := MOk.of (i := 1077) (95, 1076, 30) rfl rfl (by decide +kernel)
set_option maxRecDepth 100000 in
theorem mo_150 : MOk nM150 := MOk.of (i := 1081) (95, 1080, 31) rfl rfl (by decide +kernel)
set_option maxRecDepth 100000 in
theorem mo_151 : MOk nM151 := MOk.of (i := 1085) (95, 1084, 32) rfl rfl (by decide +kernel)
set_option maxRecDepth 100000 in
theorem mo_152 : MOk nM152 := MOk.of (i := 1090) (95, 1089, 33) rfl rfl (by decide +kernel)
set_option maxRecDepth 100000 in
theorem mo_153 : MOk nM153 := MOk.of (i := 1095) (95, 1094, 34) rfl rfl (by decide +kernel)
set_option maxRecDepth 100000 in
theorem mo_154 : MOk nM154 := MOk.of (i := 1099) (95, 1098, 35) rfl rfl (by decide +kernel)
set_option maxRecDepth 100000 in
theorem mo_155 : MOk nM155 := MOk.of (i := 1108) (95, 1107, 36) rfl rfl (by decide +kernel)
set_option maxRecDepth 100000 in
theorem mo_156 : MOk nM156 := MOk.of (i := 1116) (95, 1115, 37) rfl rfl (by decide +kernel)
set_option maxRecDepth 100000 in
theorem mo_157 : MOk nM157 := MOk.of (i := 1122) (85, 1120, 1121) rfl rfl (by decide +kernel)
set_option maxRecDepth 100000 in
theorem mo_158 : MOk nM158 := MOk.of (i := 1126) (85, 1124, 1125) rfl rfl (by decide +kernel)
set_option maxRecDepth 100000 in
theorem mo_159 : MOk nM159 := MOk.of (i := 1131) (96, 1130, 0) rfl rfl (by decide +kernel)
set_option maxRecDepth 100000 in
theorem mo_160 : MOk nM160 := MOk.of (i := 1136) (96, 1135, 38) rfl rfl (by decide +kernel)
set_option maxRecDepth 100000 in
theorem mo_161 : MOk nM161 := MOk.of (i := 1312) (96, 1310, 1311) rfl rfl (by decide +kernel)
set_option maxRecDepth 100000 in
theorem mo_162 : MOk nM162 := MOk.of (i := 1315) (96, 1314, 0) rfl rfl (by decide +kernel)
set_option maxRecDepth 100000 in
theorem mo_163 : MOk nM163 := MOk.of (i := 1322) (96, 1321, 39) rfl rfl (by decide +kernel)
set_option maxRecDepth 100000 in
theorem mo_164 : MOk nM164 := MOk.of (i := 1326) (96, 1324, 1325) rfl rfl (by decide +kernel)
set_option maxRecDepth 100000 in
theorem mo_165 : MOk nM165 := MOk.of (i := 1330) (96, 1329, 40) rfl rfl (by decide +kernel)
set_option maxRecDepth 100000 in
theorem mo_166 : MOk nM166 := MOk.of (i := 1334) (96, 1332, 1333) rfl rfl (by decide +kernel)
set_option maxRecDepth 100000 in
theorem mo_167 : MOk nM167 := MOk.of (i := 1338) (96, 1337, 41) rfl rfl (by decide +kernel)
set_option maxRecDepth 100000 in
theorem mo_168 : MOk nM168 := MOk.of (i := 1342) (96, 1341, 42) rfl rfl (by decide +kernel)
set_option maxRecDepth 100000 in
theorem mo_169 : MOk nM169 := MOk.of (i := 1346) (96, 1344, 1345) rfl rfl (by decide +kernel)
set_option maxRecDepth 100000 in
theorem mo_170 : MOk nM170 := MOk.of (i := 1352) (96, 1350, 1351) rfl rfl (by decide +kernel)
set_option maxRecDepth 100000 in
theorem mo_171 : MOk nM171 := MOk.of (i := 1359) (96, 1357, 1358) rfl rfl (by decide +kernel)
set_option maxRecDepth 100000 in
theorem mo_172 : MOk nM172 := MOk.of (i := 1363) (96, 1361, 1362) rfl rfl (by decide +kernel)
set_option maxRecDepth 100000 in
theorem mo_173 : MOk nM173 := MOk.of (i := 1367) (96, 1366, 43) rfl rfl (by decide +kernel)
set_option maxRecDepth 100000 in
theorem mo_174 : MOk nM174 := MOk.of (i := 1371) (96, 1370, 44) rfl rfl (by decide +kernel)
set_option maxRecDepth 100000 in
theorem mo_175 : MOk nM175 := MOk.of (i := 1375) (96, 1374, 45) rfl rfl (by decide +kernel)
set_option maxRecDepth 100000 in
theorem mo_176 : MOk nM176 := MOk.of (i := 1379) (96, 1378, 46) rfl rfl (by decide +kernel)
set_option maxRecDepth 100000 in
theorem mo_177 : MOk nM177 := MOk.of (i := 1383) (96, 1382, 47) rfl rfl (by decide +kernel)
set_option maxRecDepth 100000 in
theorem mo_178 : MOk nM178 := MOk.of (i := 1386) (96, 1385, 0) rfl rfl (by decide +kernel)
set_option maxRecDepth 100000 in
theorem mo_179 : MOk nM179 := MOk.of (i := 1389) (96, 1388, 0) rfl rfl (by decide +kernel)
set_option maxRecDepth 100000 in
theorem mo_180 : MOk nM180 := MOk.of (i := 1392) (96, 1391, 0) rfl rfl (by decide +kernel)
set_option maxRecDepth 100000 in
theorem mo_181 : MOk nM181 := MOk.of (i := 1396) (96, 1395, 48) rfl rfl (by decide +kernel)
set_option maxRecDepth 100000 in
theorem mo_182 : MOk nM182 := MOk.of (i := 1400) (96, 1398, 1399) rfl rfl (by decide +kernel)
set_option maxRecDepth 100000 in
theorem mo_183 : MOk nM183 := MOk.of (i := 1404) (96, 1402, 1403) rfl rfl (by decide +kernel)
set_option maxRecDepth 100000 in
theorem mo_184 : MOk nM184 := MOk.of (i := 1409) (96, 1408, 49) rfl rfl (by decide +kernel)
set_option maxRecDepth 100000 in
theorem mo_185 : MOk nM185 := MOk.of (i := 1413) (96, 1412, 50) rfl rfl (by decide +kernel)
set_option maxRecDepth 100000 in
theorem mo_186 : MOk nM186 := MOk.of (i := 1417) (96, 1416, 51) rfl rfl (by decide +kernel)
set_option maxRecDepth 100000 in
theorem mo_187 : MOk nM187 := MOk.of (i := 1421) (96, 1420, 52) rfl rfl (by decide +kernel)
set_option maxRecDepth 100000 in
theorem mo_188 : MOk nM188 := MOk.of (i := 1425) (96, 1424, 53) rfl rfl (by decide +kernel)
set_option maxRecDepth 100000 in
theorem mo_189 : MOk nM189 := MOk.of (i := 1429) (96, 1428, 54) rfl rfl (by decide +kernel)
set_option maxRecDepth 100000 in
theorem mo_190 : MOk nM190 := MOk.of (i := 1432) (96, 1431, 0) rfl rfl (by decide +kernel)
set_option maxRecDepth 100000 in
theorem mo_191 : MOk nM191 := MOk.of (i := 1436) (96, 1435, 55) rfl rfl (by decide +kernel)
set_option maxRecDepth 100000 in
theorem mo_192 : MOk nM192 := MOk.of (i := 1440) (96, 1439, 56) rfl rfl (by decide +kernel)
set_option maxRecDepth 100000 in
theorem mo_193 : MOk nM193 := MOk.of (i := 1444) (96, 1443, 57) rfl rfl (by decide +kernel)
set_option maxRecDepth 100000 in
theorem mo_194 : MOk nM194 := MOk.of (i := 1448) (96, 1447, 58) rfl rfl (by decide +kernel)
set_option maxRecDepth 100000 in
theorem mo_195 : MOk nM195 := MOk.of (i := 1452) (96, 1451, 59) rfl rfl (by decide +kernel)
set_option maxRecDepth 100000 in
theorem mo_196 : MOk nM196 := MOk.of (i := 1456) (96, 1455, 60) rfl rfl (by decide +kernel)
set_option maxRecDepth 100000 in
theorem mo_197 : MOk nM197 := MOk.of (i := 1460) (96, 1459, 61) rfl rfl (by decide +kernel)
set_option maxRecDepth 100000 in
theorem mo_198 : MOk nM198 := MOk.of (i := 1464) (96, 1463, 62) rfl rfl (by decide +kernel)
set_option maxRecDepth 100000 in
theorem mo_199 : MOk nM199 := MOk.of (i := 1468) (96, 1467, 63) rfl rfl (by decide +kernel)
set_option maxRecDepth 100000 in
theorem mo_200 : MOk nM200 := MOk.of (i := 1472) (96, 1471, 64) rfl rfl (by decide +kernel)
set_option maxRecDepth 100000 in
theorem mo_201 : MOk nM201 := MOk.of (i := 1476) (96, 1474, 1475) rfl rfl (by decide +kernel)
set_option maxRecDepth 100000 in
theorem mo_202 : MOk nM202 := MOk.of (i := 1480) (96, 1479, 65) rfl rfl (by decide +kernel)
set_option maxRecDepth 100000 in
theorem mo_203 : MOk nM203 := MOk.of (i := 1484) (96, 1483, 66) rfl rfl (by decide +kernel)
set_option maxRecDepth 100000 in
theorem mo_204 : MOk nM204 := MOk.of (i := 1488) (96, 1487, 67) rfl rfl (by decide +kernel)
set_option maxRecDepth 100000 in
theorem mo_205 : MOk nM205 := MOk.of (i := 1492) (96, 1491, 68) rfl rfl (by decide +kernel)
set_option maxRecDepth 100000 in
theorem mo_206 : MOk nM206 := MOk.of (i := 1496) (96, 1495, 69) rfl rfl (by decide +kernel)
set_option maxRecDepth 100000 in
theorem mo_207 : MOk nM207 := MOk.of (i := 1500) (96, 1498, 1499) rfl rfl (by decide +kernel)
set_option maxRecDepth 100000 in
theorem mo_208 : MOk nM208 := MOk.of (i := 1504) (96, 1502, 1503) rfl rfl (by decide +kernel)
set_option maxRecDepth 100000 in
theorem mo_209 : MOk nM209 := MOk.of (i := 1508) (96, 1506, 1507) rfl rfl (by decide +kernel)
set_option maxRecDepth 100000 in
theorem mo_210 : MOk nM210 := MOk.of (i := 1512) (96, 1510, 1511) rfl rfl (by decide +kernel)
set_option maxRecDepth 100000 in
theorem mo_211 : MOk nM211 := MOk.of (i := 1516) (96, 1514, 1515) rfl rfl (by decide +kernel)
set_option maxRecDepth 100000 in
theorem mo_212 : MOk nM212 := MOk.of (i := 1520) (96, 1518, 1519) rfl rfl (by decide +kernel)
set_option maxRecDepth 100000 in
theorem mo_213 : MOk nM213 := MOk.of (i := 1525) (96, 1523, 1524) rfl rfl (by decide +kernel)
set_option maxRecDepth 100000 in
theorem mo_214 : MOk nM214 := MOk.of (i := 1529) (96, 1527, 1528) rfl rfl (by decide +kernel)
set_option maxRecDepth 100000 in
theorem mo_215 : MOk nM215 := MOk.of (i := 1533) (96, 1531, 1532) rfl rfl (by decide +kernel)
set_option maxRecDepth 100000 in
theorem mo_216 : MOk nM216 := MOk.of (i := 1537) (96, 1536, 70) rfl rfl (by decide +kernel)
set_option maxRecDepth 100000 in
theorem mo_217 : MOk nM217 := MOk.of (i := 1541) (96, 1539, 1540) rfl rfl (by decide +kernel)
set_option maxRecDepth 100000 in
theorem mo_218 : MOk nM218 := MOk.of (i := 1545) (96, 1543, 1544) rfl rfl (by decide +kernel)
set_option maxRecDepth 100000 in
theorem mo_219 : MOk nM219 := MOk.of (i := 1548) (96, 1547, 0) rfl rfl (by decide +kernel)
set_option maxRecDepth 100000 in
theorem mo_220 : MOk nM220 := MOk.of (i := 1552) (96, 1551, 71) rfl rfl (by decide +kernel)
set_option maxRecDepth 100000 in
theorem mo_221 : MOk nM221 := MOk.of (i := 1556) (96, 1554, 1555) rfl rfl (by decide +kernel)
set_option maxRecDepth 100000 in
theorem mo_222 : MOk nM222 := MOk.of (i := 1560) (96, 1558, 1559) rfl rfl (by decide +kernel)
set_option maxRecDepth 100000 in
theorem mo_223 : MOk nM223 := MOk.of (i := 1564) (96, 1563, 72) rfl rfl (by decide +kernel)
set_option maxRecDepth 100000 in
theorem mo_224 : MOk nM224 := MOk.of (i := 1568) (96, 1567, 73) rfl rfl (by decide +kernel)
set_option maxRecDepth 100000 in
theorem mo_225 : MOk nM225 := MOk.of (i := 1572) (96, 1571, 74) rfl rfl (by decide +kernel)
set_option maxRecDepth 100000 in
theorem mo_226 : MOk nM226 := MOk.of (i := 1576) (96, 1574, 1575) rfl rfl (by decide +kernel)
set_option maxRecDepth 100000 in
theorem mo_227 : MOk nM227 := MOk.of (i := 1581) (96, 1579, 1580) rfl rfl (by decide +kernel)
set_option maxRecDepth 100000 in
theorem mo_228 : MOk nM228 := MOk.of (i := 1585) (96, 1584, 75) rfl rfl (by decide +kernel)
set_option maxRecDepth 100000 in
theorem mo_229 : MOk nM229 := MOk.of (i := 1589) (96, 1588, 76) rfl rfl (by decide +kernel)
set_option maxRecDepth 100000 in
theorem mo_230 : MOk nM230 := MOk.of (i := 1593) (96, 1592, 77) rfl rfl (by decide +kernel)
set_option maxRecDepth 100000 in
theorem mo_231 : MOk nM231 := MOk.of (i := 1603) (96, 1602, 78) rfl rfl (by decide +kernel)
set_option maxRecDepth 100000 in
theorem mo_232 : MOk nM232 := MOk.of (i := 1606) (96, 1605, 0) rfl rfl (by decide +kernel)
set_option maxRecDepth 100000 in
theorem mo_233 : MOk nM233 := MOk.of (i := 1609) (96, 1608, 0) rfl rfl (by decide +kernel)
set_option maxRecDepth 100000 in
theorem mo_234 : MOk nM234 := MOk.of (i := 1613) (96, 1612, 79) rfl rfl (by decide +kernel)
set_option maxRecDepth 100000 in
theorem mo_235 : MOk nM235 := MOk.of (i := 1617) (96, 1616, 80) rfl rfl (by decide +kernel)
set_option maxRecDepth 100000 in
theorem mo_236 : MOk nM236 := MOk.of (i := 1621) (96, 1620, 81) rfl rfl (by decide +kernel)
set_option maxRecDepth 100000 in
theorem mo_237 : MOk nM237 := MOk.of (i := 1627) (96, 1626, 82) rfl rfl (by decide +kernel)
set_option maxRecDepth 100000 in
theorem mo_238 : MOk nM238 := MOk.of (i := 1631) (96, 1630, 83) rfl rfl (by decide +kernel)
set_option maxRecDepth 100000 in
theorem mo_239 : MOk nM239 := MOk.of (i := 1635) (96, 1633, 1634) rfl rfl (by decide +kernel)
set_option maxRecDepth 100000 in
theorem mo_240 : MOk nM240 := MOk.of (i := 1639) (96, 1637, 1638) rfl rfl (by decide +kernel)
theorem mol_0 : ∀ q ∈ nKM_0, q.2 ≠ nM0 → q.2 ≠ nM81 → MOk q.2 := List.forall_mem_cons.mpr ⟨fun h _ => absurd rfl h, List.forall_mem_cons.mpr ⟨fun _ _ => mo_1, List.forall_mem_cons.mpr ⟨fun _ _ => mo_2, List.forall_mem_cons.mpr ⟨fun _ _ => mo_3, List.forall_mem_cons.mpr ⟨fun _ _ => mo_4, List.forall_mem_cons.mpr ⟨fun _ _ => mo_5, List.forall_mem_cons.mpr ⟨fun _ _ => mo_6, List.forall_mem_cons.mpr ⟨fun _ _ => mo_7, List.forall_mem_cons.mpr ⟨fun _ _ => mo_8, List.forall_mem_cons.mpr ⟨fun _ _ => mo_9, List.forall_mem_cons.mpr ⟨fun _ _ => mo_10, List.forall_mem_cons.mpr ⟨fun _ _ => mo_11, List.forall_mem_cons.mpr ⟨fun _ _ => mo_12, List.forall_mem_cons.mpr ⟨fun _ _ => mo_13, List.forall_mem_cons.mpr ⟨fun _ _ => mo_14, List.forall_mem_cons.mpr ⟨fun _ _ => mo_15, List.forall_mem_cons.mpr ⟨fun _ _ => mo_16, List.forall_mem_cons.mpr ⟨fun _ _ => mo_17, List.forall_mem_cons.mpr ⟨fun _ _ => mo_18, List.forall_mem_cons.mpr ⟨fun _ _ => mo_19, fun _ h => absurd h List.not_mem_nil⟩⟩⟩⟩⟩⟩⟩⟩⟩⟩⟩⟩⟩⟩⟩⟩⟩⟩⟩⟩
theorem mol_20 : ∀ q ∈ nKM_20, q.2 ≠ nM0 → q.2 ≠ nM81 → MOk q.2 := List.forall_mem_cons.mpr ⟨fun _ _ => mo_20, List.forall_mem_cons.mpr ⟨fun _ _ => mo_21, List.forall_mem_cons.mpr ⟨fun _ _ => mo_22, List.forall_mem_cons.mpr ⟨fun _ _ => mo_23, List.forall_mem_cons.mpr ⟨fun _ _ => mo_24, List.forall_mem_cons.mpr ⟨fun _ _ => mo_25, List.forall_mem_cons.mpr ⟨fun _ _ => mo_26, List.forall_mem_cons.mpr ⟨fun _ _ => mo_27, List.forall_mem_cons.mpr ⟨fun _ _ => mo_28, List.forall_mem_cons.mpr ⟨fun _ _ => mo_29, List.forall_mem_cons.mpr ⟨fun _ _ => mo_30, List.forall_mem_cons.mpr ⟨fun _ _ => mo_31, List.forall_mem_cons.mpr ⟨fun _ _ => mo_32, List.forall_mem_cons.mpr ⟨fun _ _ => mo_33, List.forall_mem_cons.mpr ⟨fun _ _ => mo_34, List.forall_mem_cons.mpr ⟨fun _ _ => mo_35, List.forall_mem_cons.mpr ⟨fun _ _ => mo_36, List.forall_mem_cons.mpr ⟨fun _ _ => mo_37, List.forall_mem_cons.mpr ⟨fun _ _ => mo_38, List.forall_mem_cons.mpr ⟨fun _ _ => mo_39, fun _ h => absurd h List.not_mem_nil⟩⟩⟩⟩⟩⟩⟩⟩⟩⟩⟩⟩⟩⟩⟩⟩⟩⟩⟩⟩
theorem mol_40 : ∀ q ∈ nKM_40, q.2 ≠ nM0 → q.2 ≠ nM81 → MOk q.2 := List.forall_mem_cons.mpr ⟨fun _ _ => mo_40, List.forall_mem_cons.mpr ⟨fun _ _ => mo_41, List.forall_mem_cons.mpr ⟨fun _ _ => mo_42, List.forall_mem_cons.mpr ⟨fun _ _ => mo_43, List.forall_mem_cons.mpr ⟨fun _ _ => mo_44, List.forall_mem_cons.mpr ⟨fun _ _ => mo_45, List.forall_mem_cons.mpr ⟨fun _ _ => mo_46, List.forall_mem_cons.mpr ⟨fun _ _ => mo_47, List.forall_mem_cons.mpr ⟨fun _ _ => mo_48, List.forall_mem_cons.mpr ⟨fun _ _ => mo_49, List.forall_mem_cons.mpr ⟨fun _ _ => mo_50, List.forall_mem_cons.mpr ⟨fun _ _ => mo_51, List.forall_mem_cons.mpr ⟨fun _ _ => mo_52, List.forall_mem_cons.mpr ⟨fun _ _ => mo_53, List.forall_mem_cons.mpr ⟨fun _ _ => mo_54, List.forall_mem_cons.mpr ⟨fun _ _ => mo_55, List.forall_mem_cons.mpr ⟨fun _ _ => mo_56, List.forall_mem_cons.mpr ⟨fun _ _ => mo_57, List.forall_mem_cons.mpr ⟨fun _ _ => mo_58, List.forall_mem_cons.mpr ⟨fun _ _ => mo_59, fun _ h => absurd h List.not_mem_nil⟩⟩⟩⟩⟩⟩⟩⟩⟩⟩⟩⟩⟩⟩⟩⟩⟩⟩⟩⟩
theorem mol_60 : ∀ q ∈ nKM_60, q.2 ≠ nM0 → q.2 ≠ nM81 → MOk q.2 := List.forall_mem_cons.mpr ⟨fun _ _ => mo_60, List.forall_mem_cons.mpr ⟨fun _ _ => mo_61, List.forall_mem_cons.mpr ⟨fun _ _ => mo_62, List.forall_mem_cons.mpr ⟨fun _ _ => mo_63, List.forall_mem_cons.mpr ⟨fun _ _ => mo_64, List.forall_mem_cons.mpr ⟨fun _ _ => mo_65, List.forall_mem_cons.mpr ⟨fun _ _ => mo_66, List.forall_mem_cons.mpr ⟨fun _ _ => mo_67, List.forall_mem_cons.mpr ⟨fun _ _ => mo_68, List.forall_mem_cons.mpr ⟨fun _ _ => mo_69, List.forall_mem_cons.mpr ⟨fun _ _ => mo_70, List.forall_mem_cons.mpr ⟨fun _ _ => mo_71, List.forall_mem_cons.mpr ⟨fun _ _ => mo_72, List.forall_mem_cons.mpr ⟨fun _ _ => mo_73, List.forall_mem_cons.mpr ⟨fun _ _ => mo_74, List.forall_mem_cons.mpr ⟨fun _ _ => mo_75, List.forall_mem_cons.mpr ⟨fun _ _ => mo_76, List.forall_mem_cons.mpr ⟨fun _ _ => mo_77, List.forall_mem_cons.mpr ⟨fun _ _ => mo_78, List.forall_mem_cons.mpr ⟨fun _ _ => mo_79, fun _ h => absurd h List.not_mem_nil⟩⟩⟩⟩⟩⟩⟩⟩⟩⟩⟩⟩⟩⟩⟩⟩⟩⟩⟩⟩
theorem mol_80 : ∀ q ∈ nKM_80, q.2 ≠ nM0 → q.2 ≠ nM81 → MOk q.2 := List.forall_mem_cons.mpr ⟨fun _ _ => mo_80, List.forall_mem_cons.mpr ⟨fun _ h => absurd rfl h, List.forall_mem_cons.mpr ⟨fun _ _ => mo_82, List.forall_mem_cons.mpr ⟨fun _ _ => mo_83, List.forall_mem_cons.mpr ⟨fun _ _ => mo_84, List.forall_mem_cons.mpr ⟨fun _ _ => mo_85, List.forall_mem_cons.mpr ⟨fun _ _ => mo_86, List.forall_mem_cons.mpr ⟨fun _ _ => mo_87, List.forall_mem_cons.mpr ⟨fun _ _ => mo_88, List.forall_mem_cons.mpr ⟨fun _ _ => mo_89, List.forall_mem_cons.mpr ⟨fun _ _ => mo_90, List.forall_mem_cons.mpr ⟨fun _ _ => mo_91, List.forall_mem_cons.mpr ⟨fun _ _ => mo_92, List.forall_mem_cons.mpr ⟨fun _ _ => mo_93, List.forall_mem_cons.mpr ⟨fun _ _ => mo_94, List.forall_mem_cons.mpr ⟨fun _ _ => mo_95, List.forall_mem_cons.mpr ⟨fun _ _ => mo_96, List.forall_mem_cons.mpr ⟨fun _ _ => mo_97, List.forall_mem_cons.mpr ⟨fun _ _ => mo_98, List.forall_mem_cons.mpr ⟨fun _ _ => mo_99, fun _ h => absurd h List.not_mem_nil⟩⟩⟩⟩⟩⟩⟩⟩⟩⟩⟩⟩⟩⟩⟩⟩⟩⟩⟩⟩
theorem mol_100 : ∀ q ∈ nKM_100, q.2 ≠ nM0 → q.2 ≠ nM81 → MOk q.2 := List.forall_mem_cons.mpr ⟨fun _ _ => mo_100, List.forall_mem_cons.mpr ⟨fun _ _ => mo_101, List.forall_mem_cons.mpr ⟨fun _ _ => mo_102, List.forall_mem_cons.mpr ⟨fun _ _ => mo_103, List.forall_mem_cons.mpr ⟨fun _ _ => mo_104, List.forall_mem_cons.mpr ⟨fun _ _ => mo_105, List.forall_mem_cons.mpr ⟨fun _ _ => mo_106, List.forall_mem_cons.mpr ⟨fun _ _ => mo_107, List.forall_mem_cons.mpr ⟨fun _ _ => mo_108, List.forall_mem_cons.mpr ⟨fun _ _ => mo_109, List.forall_mem_cons.mpr ⟨fun _ _ => mo_110, List.forall_mem_cons.mpr ⟨fun _ _ => mo_111, List.forall_mem_cons.mpr ⟨fun _ _ => mo_112, List.forall_mem_cons.mpr ⟨fun _ _ => mo_113, List.forall_mem_cons.mpr ⟨fun _ _ => mo_114, List.forall_mem_cons.mpr ⟨fun _ _ => mo_115, List.forall_mem_cons.mpr ⟨fun _ _ => mo_116, List.forall_mem_cons.mpr ⟨fun _ _ => mo_117, List.forall_mem_cons.mpr ⟨fun _ _ => mo_118, List.forall_mem_cons.mpr ⟨fun _ _ => mo_119, fun _ h => absurd h List.not_mem_nil⟩⟩⟩⟩⟩⟩⟩⟩⟩⟩⟩⟩⟩⟩⟩⟩⟩⟩⟩⟩
theorem mol_120 : ∀ q ∈ nKM_120, q.2 ≠ nM0 → q.2 ≠ nM81 → MOk q.2 := List.forall_mem_cons.mpr ⟨fun _ _ => mo_120, List.forall_mem_cons.mpr ⟨fun _ _ => mo_121, List.forall_mem_cons.mpr ⟨fun _ _ => mo_122, List.forall_mem_cons.mpr ⟨fun _ _ => mo_123, List.forall_mem_cons.mpr ⟨fun _ _ => mo_124, List.forall_mem_cons.mpr ⟨fun _ _ => mo_125, List.forall_mem_cons.mpr ⟨fun _ _ => mo_126, List.forall_mem_cons.mpr ⟨fun _ _ => mo_127, List.forall_mem_cons.mpr ⟨fun _ _ => mo_128, List.forall_mem_cons.mpr ⟨fun _ _ => mo_129, List.forall_mem_cons.mpr ⟨fun _ _ => mo_130, List.forall_mem_cons.mpr ⟨fun _ _ => mo_131, List.forall_mem_cons.mpr ⟨fun _ _ => mo_132, List.forall_mem_cons.mpr ⟨fun _ _ => mo_133, List.forall_mem_cons.mpr ⟨fun _ _ => mo_134, List.forall_mem_cons.mpr ⟨fun _ _ => mo_135, List.forall_mem_cons.mpr ⟨fun _ _ => mo_136, List.forall_mem_cons.mpr ⟨fun _ _ => mo_137, List.forall_mem_cons.mpr ⟨fun _ _ => mo_138, List.forall_mem_cons.mpr ⟨fun _ _ => mo_139, fun _ h => absurd h List.not_mem_nil⟩⟩⟩⟩⟩⟩⟩⟩⟩⟩⟩⟩⟩⟩⟩⟩⟩⟩⟩⟩
theorem mol_140 : ∀ q ∈ nKM_140, q.2 ≠ nM0 → q.2 ≠ nM81 → MOk q.2 := List.forall_mem_cons.mpr ⟨fun _ _ => mo_140, List.forall_mem_cons.mpr ⟨fun _ _ => mo_141, List.forall_mem_cons.mpr ⟨fun _ _ => mo_142, List.forall_mem_cons.mpr ⟨fun _ _ => mo_143, List.forall_mem_cons.mpr ⟨fun _ _ => mo_144, List.forall_mem_cons.mpr ⟨fun _ _ => mo_145, List.forall_mem_cons.mpr ⟨fun _ _ => mo_146, List.forall_mem_cons.mpr ⟨fun _ _ => mo_147, List.forall_mem_cons.mpr ⟨fun _ _ => mo_148, List.forall_mem_cons.mpr ⟨fun _ _ => mo_149, List.forall_mem_cons.mpr ⟨fun _ _ => mo_150, List.forall_mem_cons.mpr ⟨fun _ _ => mo_151, List.forall_mem_cons.mpr ⟨fun _ _ => mo_152, List.forall_mem_cons.mpr ⟨fun _ _ => mo_153, List.forall_mem_cons.mpr ⟨fun _ _ => mo_154, List.forall_mem_cons.mpr ⟨fun _ _ => mo_155, List.forall_mem_cons.mpr ⟨fun _ _ => mo_156, List.forall_mem_cons.mpr ⟨fun _ _ => mo_157, List.forall_mem_cons.mpr ⟨fun _ _ => mo_158, List.forall_mem_cons.mpr ⟨fun _ _ => mo_159, fun _ h => absurd h List.not_mem_nil⟩⟩⟩⟩⟩⟩⟩⟩⟩⟩⟩⟩⟩⟩⟩⟩⟩⟩⟩⟩
theorem mol_160 : ∀ q ∈ nKM_160, q.2 ≠ nM0 → q.2 ≠ nM81 → MOk q.2 := List.forall_mem_cons.mpr ⟨fun _ _ => mo_160, List.forall_mem_cons.mpr ⟨fun _ _ => mo_161, List.forall_mem_cons.mpr ⟨fun _ _ => mo_162, List.forall_mem_cons.mpr ⟨fun _ _ => mo_163, List.forall_mem_cons.mpr ⟨fun _ _ => mo_164, List.forall_mem_cons.mpr ⟨fun _ _ => mo_165, List.forall_mem_cons.mpr ⟨fun _ _ => mo_166, List.forall_mem_cons.mpr ⟨fun _ _ => mo_167, List.forall_mem_cons.mpr ⟨fun _ _ => mo_168, List.forall_mem_cons.mpr ⟨fun _ _ => mo_169, List.forall_mem_cons.mpr ⟨fun _ _ => mo_170, List.forall_mem_cons.mpr ⟨fun _ _ => mo_171, List.forall_mem_cons.mpr ⟨fun _ _ => mo_172, List.forall_mem_cons.mpr ⟨fun _ _ => mo_173, List.forall_mem_cons.mpr ⟨fun _ _ => mo_174, List.forall_mem_cons.mpr ⟨fun _ _ => mo_175, List.forall_mem_cons.mpr ⟨fun _ _ => mo_176, List.forall_mem_cons.mpr ⟨fun _ _ => mo_177, List.forall_mem_cons.mpr ⟨fun _ _ => mo_178, List.forall_mem_cons.mpr ⟨fun _ _ => mo_179, fun _ h => absurd h List.not_mem_nil⟩⟩⟩⟩⟩⟩⟩⟩⟩⟩⟩⟩⟩⟩⟩⟩⟩⟩⟩⟩
theorem mol_180 : ∀ q ∈ nKM_180, q.2 ≠ nM0 → q.2 ≠ nM81 → MOk q.2 := List.forall_mem_cons.mpr ⟨fun _ _ => mo_180, List.forall_mem_cons.mpr ⟨fun _ _ => mo_181, List.forall_mem_cons.mpr ⟨fun _ _ => mo_182, List.forall_mem_cons.mpr ⟨fun _ _ => mo_183, List.forall_mem_cons.mpr ⟨fun _ _ => mo_184, List.forall_mem_cons.mpr ⟨fun _ _ => mo_185, List.forall_mem_cons.mpr ⟨fun _ _ => mo_186, List.forall_mem_cons.mpr ⟨fun _ _ => mo_187, List.forall_mem_cons.mpr ⟨fun _ _ => mo_188, List.forall_mem_cons.mpr ⟨fun _ _ => mo_189, List.forall_mem_cons.mpr ⟨fun _ _ => mo_190, List.forall_mem_cons.mpr ⟨fun _ _ => mo_191, List.forall_mem_cons.mpr ⟨fun _ _ => mo_192, List.forall_mem_cons.mpr ⟨fun _ _ => mo_193, List.forall_mem_cons.mpr ⟨fun _ _ => mo_194, List.forall_mem_cons.mpr ⟨fun _ _ => mo_195, List.forall_mem_cons.mpr ⟨fun _ _ => mo_196, List.forall_mem_cons.mpr ⟨fun _ _ => mo_197, List.forall_mem_cons.mpr ⟨fun _ _ => mo_198, List.forall_mem_cons.mpr ⟨fun _ _ => mo_199, fun _ h => absurd h List.not_mem_nil⟩⟩⟩⟩⟩⟩⟩⟩⟩⟩⟩⟩⟩⟩⟩⟩⟩⟩⟩⟩
theorem mol_200 : ∀ q ∈ nKM_200, q.2 ≠ nM0 → q.2 ≠ nM81 → MOk q.2 := List.forall_mem_cons.mpr ⟨fun _ _ => mo_200, List.forall_mem_cons.mpr ⟨fun _ _ => mo_201, List.forall_mem_cons.mpr ⟨fun _ _ => mo_202, List.forall_mem_cons.mpr ⟨fun _ _ => mo_203, List.forall_mem_cons.mpr ⟨fun _ _ => mo_204, List.forall_mem_cons.mpr ⟨fun _ _ => mo_205, List.forall_mem_cons.mpr ⟨fun _ _ => mo_206, List.forall_mem_cons.mpr ⟨fun _ _ => mo_207, List.forall_mem_cons.mpr ⟨fun _ _ => mo_208, List.forall_mem_cons.mpr ⟨fun _ _ => mo_209, List.forall_mem_cons.mpr ⟨fun _ _ => mo_210, List.forall_mem_cons.mpr ⟨fun _ _ => mo_211, List.forall_mem_cons.mpr ⟨fun _ _ => mo_212, List.forall_mem_cons.mpr ⟨fun _ _ => mo_213, List.forall_mem_cons.mpr ⟨fun _ _ => mo_214, List.forall_mem_cons.mpr ⟨fun _ _ => mo_215, List.forall_mem_cons.mpr ⟨fun _ _ => mo_216, List.forall_mem_cons.mpr ⟨fun _ _ => mo_217, List.forall_mem_cons.mpr ⟨fun _ _ => mo_218, List.forall_mem_cons.mpr ⟨fun _ _ => mo_219, fun _ h => absurd h List.not_mem_nil⟩⟩⟩⟩⟩⟩⟩⟩⟩⟩⟩⟩⟩⟩⟩⟩⟩⟩⟩⟩
theorem mol_220 : ∀ q ∈ nKM_220, q.2 ≠ nM0 → q.2 ≠ nM81 → MOk q.2 := List.forall_mem_cons.mpr ⟨fun _ _ => mo_220, List.forall_mem_cons.mpr ⟨fun _ _ => mo_221, List.forall_mem_cons.mpr ⟨fun _ _ => mo_222, List.forall_mem_cons.mpr ⟨fun _ _ => mo_223, List.forall_mem_cons.mpr ⟨fun _ _ => mo_224, List.forall_mem_cons.mpr ⟨fun _ _ => mo_225, List.forall_mem_cons.mpr ⟨fun _ _ => mo_226, List.forall_mem_cons.mpr ⟨fun _ _ => mo_227, List.forall_mem_cons.mpr ⟨fun _ _ => mo_228, List.forall_mem_cons.mpr ⟨fun _ _ => mo_229, List.forall_mem_cons.mpr ⟨fun _ _ => mo_230, List.forall_mem_cons.mpr ⟨fun _ _ => mo_231, List.forall_mem_cons.mpr ⟨fun _ _ => mo_232, List.forall_mem_cons.mpr ⟨fun _ _ => mo_233, List.forall_mem_cons.mpr ⟨fun _ _ => mo_234, List.forall_mem_cons.mpr ⟨fun _ _ => mo_235, List.forall_mem_cons.mpr ⟨fun _ _ => mo_236, List.forall_mem_cons.mpr ⟨fun _ _ => mo_237, List.forall_mem_cons.mpr ⟨fun _ _ => mo_238, List.forall_mem_cons.mpr ⟨fun _ _ => mo_239, fun _ h => absurd h List.not_mem_nil⟩⟩⟩⟩⟩⟩⟩⟩⟩⟩⟩⟩⟩⟩⟩⟩⟩⟩⟩⟩
theorem mol_240 : ∀ q ∈ nKM_240, q.2 ≠ nM0 → q.2 ≠ nM81 → MOk q.2 := List.forall_mem_cons.mpr ⟨fun _ _ => mo_240, fun _ h => absurd h List.not_mem_nil⟩
theorem mol : ∀ q ∈ nKM, q.2 ≠ nM0 → q.2 ≠ nM81 → MOk q.2 := List.forall_mem_append.mpr ⟨mol_0, List.forall_mem_append.mpr ⟨mol_20, List.forall_mem_append.mpr ⟨mol_40, List.forall_mem_append.mpr ⟨mol_60, List.forall_mem_append.mpr ⟨mol_80, List.forall_mem_append.mpr ⟨mol_100, List.forall_mem_append.mpr ⟨mol_120, List.forall_mem_append.mpr ⟨mol_140, List.forall_mem_append.mpr ⟨mol_160, List.forall_mem_append.mpr ⟨mol_180, List.forall_mem_append.mpr ⟨mol_200, List.forall_mem_append.mpr ⟨mol_220, mol_240⟩⟩⟩⟩⟩⟩⟩⟩⟩⟩⟩⟩
def nLkP : List (List (Nat × Nat)) := [[(11, 116), (38, 274), (73, 498), (77, 501), (81, 504), (85, 520), (97, 524), (101, 533), (105, 538), (111, 545), (121, 548), (128, 560), (310, 564), (142, 625), (155, 633), (159, 641), (278, 645), (247, 649), (163, 781), (170, 785), (175, 786), (178, 790), (181, 798), (185, 802), (189, 806), (192, 811), (195, 815), (198, 832), (213, 840), (220, 841), (240, 858), (244, 862), (251, 874), (254, 879), (257, 887), (261, 899), (264, 911), (267, 930), (271, 949), (283, 957), (289, 984), (292, 993), (301, 1117)], [(19, 124), (29, 508), (33, 512), (37, 528), (61, 637), (71, 736), (78, 810), (89, 819), (93, 820), (82, 824), (85, 828), (41, 934), (45, 940)], [(15, 128), (18, 132), (24, 135)], [(37, 938)], [(27, 568), (61, 569), (67, 573), (87, 577), (71, 578), (75, 582), (79, 586), (90, 590), (94, 594), (99, 608), (83, 612), (103, 616), (106, 620), (108, 971)], [(49, 653), (53, 654), (93, 658), (112, 662), (116, 663), (69, 670), (73, 745), (77, 749), (125, 753), (133, 757), (80, 761), (142, 765), (146, 769), (161, 770), (83, 773), (166, 777)], [(52, 674), (66, 678), (72, 682), (113, 688), (116, 692), (119, 696), (122, 701), (125, 705), (76, 709), (80, 713), (84, 717), (87, 721), (91, 725), (94, 726), (97, 732), (101, 740), (107, 741)], [(40, 700), (43, 730), (47, 731)], [(18, 891), (39, 894), (49, 895), (53, 903), (57, 915), (62, 920)], [(11, 424), (41, 997), (50, 1001), (56, 1002), (139, 1006), (47, 1009), (61, 1014), (131, 1018), (135, 1028), (65, 1066), (101, 1070), (110, 1074), (72, 1078), (120, 1082), (78, 1087), (84, 1092), (114, 1096), (91, 1105), (104, 1113)], [(141, 1133), (145, 1313), (149, 1319), (162, 1327), (166, 1335), (169, 1339), (258, 1364), (197, 1368), (200, 1372), (190, 1376), (203, 1380), (193, 1384), (183, 1387), (187, 1390), (221, 1393), (284, 1406), (279, 1410), (224, 1414), (267, 1418), (246, 1422), (218, 1426), (234, 1430), (231, 1433), (237, 1437), (240, 1441), (243, 1445), (227, 1449), (270, 1453), (252, 1457), (255, 1461), (249, 1465), (273, 1469), (290, 1477), (293, 1481), (297, 1485), (300, 1489), (287, 1493), (309, 1534), (312, 1546), (315, 1549), (321, 1561), (318, 1565), (324, 1569), (332, 1582), (394, 1586), (372, 1590), (382, 1600), (354, 1604), (358, 1607), (366, 1610), (388, 1614), (375, 1618), (378, 1624), (391, 1628)], [(9, 597), (13, 600), (16, 605)], [(30, 960), (34, 964), (44, 967), (66, 972), (75, 975), (79, 976)], [(9, 108), (13, 494), (18, 516), (23, 529), (28, 534), (32, 541), (37, 552), (41, 556), (45, 621), (49, 629), (53, 794), (57, 836), (61, 842), (65, 846), (69, 850), (73, 854), (77, 866), (81, 870), (85, 875), (89, 883), (93, 907), (97, 926), (101, 945), (105, 953), (111, 980), (116, 989), (121, 1119), (125, 1123), (12, 1129), (17, 1309), (22, 1323), (27, 1331), (31, 1343), (36, 1349), (40, 1356), (44, 1360), (48, 1397), (52, 1401), (56, 1473), (60, 1497), (64, 1501), (68, 1505), (72, 1509), (76, 1513), (80, 1517), (84, 1522), (88, 1526), (92, 1530), (96, 1538), (100, 1542), (104, 1553), (108, 1557), (115, 1573), (120, 1578), (124, 1632), (128, 1636)], [(13, 138)], [], [], [(335, 1022), (492, 1032), (495, 1036), (1059, 1044)], [(9, 1039)], []]
def chkLk (cn i j : Nat) : Bool := match nCn[cn]?, mrec j, lk2 nLkP cn i with
  | some own, some r, some ps => wAt ps (.methodLink own i r.1) && ((decide (r.1.name ≠ "law") && decide (r.1.name ≠ "abs")) || (lk2 nAb cn i).isSome)
  | _, _, _ => false
theorem lk_all : ((List.range 20).all fun cn => ((nLk[cn]?).getD []).all fun e => chkLk cn e.1 e.2) = true := by decide +kernel
def nNsP : List (List (Nat × Nat)) := [[(26, 238), (50, 405), (57, 419)], [(28, 149)], [], [], [], [(11, 280), (20, 354)], [(11, 286)], [], [], [], [], [], [], [], [], [], [], [], [], []]
def chkNs (cn i j : Nat) : Bool := match nCn[cn]?, mrec j, lk2 nNsP cn i with
  | some own, some r, some ps => decide (lw_tbl[ps]? = some (.methodLinkNest own i r.1 "NumberedText")) && decide (r.1.name = "<init>")
  | _, _, _ => false
theorem ns_all : ((List.range 20).all fun cn => ((nNs[cn]?).getD []).all fun e => chkNs cn e.1 e.2) = true := by decide +kernel
def nOiP : List (List (Nat × Nat)) := [[(3, 111)], [(3, 119)], [(3, 127)], [(3, 152)], [(3, 241)], [(3, 277)], [(3, 283)], [(3, 289)], [(3, 408)], [(3, 422)], [(1, 1132)], [], [], [], [], [], [], [], [], []]
def chkOi (cn i : Nat) : Bool := match nCn[cn]?, lk2 nOiP cn i with
  | some own, some ps => wAt ps (.methodLink own i Lib.objectInit)
  | _, _ => false
theorem oi_all : ((List.range 20).all fun cn => ((nOi[cn]?).getD []).all fun e => chkOi cn e.1) = true := by decide +kernel
theorem oi_w : wAt 112 (.instanceMethod Lib.objectInit) = true ∧ wAt 113 (.code Lib.objectInit ⟨#[0xb1]⟩ 1 none) = true := by decide +kernel
theorem ab_w : nCn[5]? = some "NumberedText$Setting" ∧ wAt 770 (.methodLink "NumberedText$Setting" 161 Lib.Math.abs.name) = true ∧ wAt 771 (.static Lib.Math.abs.name) = true ∧ wAt 99 (.initialized "java/lang/Math") = true ∧ wAt 772 (.code Lib.Math.abs.name Lib.Math.abs.code 1 (some .int)) = true := by decide +kernel
def nCpP : List (List (Nat × Nat)) := [[], [], [(27, 944)], [(41, 939)], [], [(63, 667)], [], [], [], [], [], [], [], [], [], [], [], [], [], []]
def chkCp (cn i : Nat) : Bool := match nCn[cn]?, lk2 nCpP cn i with
  | some own, some ps => wAt ps (.methodLink own i arraycopyName)
  | _, _ => false
theorem cp_all : ((List.range 20).all fun cn => ((nCp[cn]?).getD []).all fun e => chkCp cn e.1) = true := by decide +kernel
theorem cp_w : wAt 669 (.native arraycopyName) = true ∧ wAt 668 (.static arraycopyName) = true ∧ wAt 98 (.initialized "java/lang/System") = true := by decide +kernel
theorem ac_w : wAt 147 (.arrayClass .int) = true ∧ wAt 269 (.arrayClass .boolean) = true ∧ wAt 416 (.arrayClass .long) = true ∧ wAt 270 (.classLink "NumberedText" 31 "[[I") = true := by decide +kernel
theorem gs_w : wAt 603 (.fieldLink "NumberedText$Saying" 19 "NumberedText$Saying" "ROMAN_LETTERS" "[I") = true ∧ wAt 686 (.fieldLink "NumberedText$Layout" 110 "NumberedText$Layout" "HEADING_LINES" "[I") = true ∧ wAt 1026 (.fieldLink "java/lang/String" 38 "java/lang/String" "COMPACT_STRINGS" "Z") = true ∧ wAt 1042 (.fieldLink "java/lang/String" 1053 "jdk/internal/util/Preconditions" "SIOOBE_FORMATTER" "Ljava/util/function/BiFunction;") = true ∧ wAt 1642 (.fieldLink "java/lang/String" 9 "java/lang/String" "value" "[B") = true ∧ wAt 1643 (.fieldLink "java/lang/String" 15 "java/lang/String" "coder" "B") = true := by decide +kernel
theorem w0_good : ∀ w ∈ nW0, (w.onTables && w.keeps) = true ∨ ∃ ty, w = .arrayClass ty := fun w hw => good_of_word (List.mem_filter.mp hw).2
