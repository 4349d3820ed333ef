/-! tables of the constructors, printed by wip/whole/gen/gen_cs.py -/
abbrev cs_M : Type := MethodName × Nat × Nat × Nat × List Nat
def cs_ms : List cs_M := [
  (⟨"RowGrader$Row", "<init>", "()V"⟩, 1, 4, 0, [130, 129, 96]),
  (⟨"RowGrader$Figure", "<init>", "()V"⟩, 1, 0, 0, [192, 191, 97]),
  (⟨"RowGrader$Tape", "<init>", "()V"⟩, 1, 7, 0, [241, 240, 98]),
  (⟨"RowGrader$Words", "<init>", "()V"⟩, 4, 8, 0, [270, 269, 99]),
  (⟨"RowGrader$Reader", "<init>", "(LRowGrader$Sheet;LRowGrader$Tape;LRowGrader$Words;)V"⟩, 4, 3, 3, [338, 337, 105]),
  (⟨"RowGrader$Levels", "<init>", "()V"⟩, 1, 2, 0, [373, 372, 107]),
  (⟨"RowGrader$Search", "<init>", "(LRowGrader$Levels;)V"⟩, 2, 5, 1, [400, 399, 108]),
  (⟨"RowGrader$Grading", "<init>", "(LRowGrader$Sheet;)V"⟩, 2, 1, 1, [367, 366, 106]),
  (⟨"RowGrader$Sheet", "<init>", "()V"⟩, 2, 6, 0, [124, 123, 95]),
  (⟨"RowGrader", "<init>", "()V"⟩, 1, 9, 0, [116, 115, 94]),
  (⟨"RowGraderModel", "<init>", "()V"⟩, 2, 10, 0, [1096, 1095, 109])]
def cs_nl : List (Nat × Nat × Nat × Nat × Nat × Nat) := [(3, 15, 4, 340, 127, 96), (1, 9, 2, 369, 370, 107), (1, 18, 5, 396, 397, 108), (6, 9, 4, 126, 127, 96), (6, 22, 0, 187, 189, 97), (9, 7, 6, 120, 121, 95), (9, 16, 7, 237, 238, 98), (9, 23, 8, 266, 267, 99), (9, 30, 3, 334, 335, 105), (9, 39, 1, 363, 364, 106), (13, 7, 9, 112, 113, 94), (13, 10, 10, 1092, 1093, 109)]
def cs_al : List (Nat × Nat × Nat × Nat) := [(6, 9, 103, 126), (6, 22, 104, 187)]
def cs_il : List (Nat × Nat × Nat × Nat) := [(1, 20, 6, 398), (9, 9, 8, 122), (9, 25, 3, 268), (9, 32, 4, 336), (9, 41, 7, 365), (13, 9, 9, 114), (13, 12, 10, 1094)]
def cs_in : List (Nat × Nat × Nat × Nat) := [(3, 17, 0, 341), (1, 11, 5, 371), (6, 11, 0, 128), (6, 28, 1, 190), (9, 18, 2, 239)]
def cs_oi : List (Nat × Nat × Nat) := [(4, 3, 131), (0, 3, 193), (7, 3, 242), (8, 3, 271), (3, 3, 339), (2, 3, 374), (5, 3, 401), (1, 3, 368), (6, 3, 125), (9, 1, 117), (10, 1, 1097)]
def cs_op : Nat × Nat := (118, 119)
def cs_mp : Nat := 375
def cs_ap : List Nat := [185, 332, 1268]
def cs_c0_0 : List (Nat × Instr × Nat) := [(0, .aload_n 0, 1), (1, .invokespecial 3, 3), (4, .aload_n 0, 1), (5, .bipush (-5), 2), (7, .putfield 9, 3), (10, .aload_n 0, 1), (11, .bipush 6, 2), (13, .newarray .int, 2), (15, .putfield 15, 3), (18, .aload_n 0, 1), (19, .bipush (-5), 2), (21, .putfield 19, 3), (24, .return_, 1)]
def cs_c0 : List (Nat × Instr × Nat) := cs_c0_0
def cs_c1_0 : List (Nat × Instr × Nat) := [(0, .aload_n 0, 1), (1, .invokespecial 3, 3), (4, .aload_n 0, 1), (5, .bipush 7, 2), (7, .newarray .int, 2), (9, .putfield 9, 3), (12, .aload_n 0, 1), (13, .bipush 7, 2), (15, .newarray .int, 2), (17, .putfield 15, 3), (20, .return_, 1)]
def cs_c1 : List (Nat × Instr × Nat) := cs_c1_0
def cs_c2_0 : List (Nat × Instr × Nat) := [(0, .aload_n 0, 1), (1, .invokespecial 3, 3), (4, .aload_n 0, 1), (5, .bipush 120, 2), (7, .newarray .int, 2), (9, .putfield 9, 3), (12, .return_, 1)]
def cs_c2 : List (Nat × Instr × Nat) := cs_c2_0
def cs_c3_0 : List (Nat × Instr × Nat) := [(0, .aload_n 0, 1), (1, .invokespecial 3, 3), (4, .aload_n 0, 1), (5, .bipush 22, 2), (7, .newarray .long, 2), (9, .putfield 9, 3), (12, .iconst 0, 1), (13, .istore_n 1, 1), (14, .iconst 0, 1), (15, .istore_n 2, 1), (16, .iload_n 2, 1), (17, .ldc 15, 2), (19, .invokevirtual 17, 3), (22, .if_icmp .ge 52, 3), (25, .iload_n 1, 1), (26, .bipush 11, 2), (28, .if_icmp .ge 46, 3), (31, .ldc 15, 2), (33, .iload_n 2, 1), (34, .invokevirtual 23, 3), (37, .istore_n 3, 1), (38, .iload_n 3, 1), (39, .bipush 32, 2), (41, .if_icmp .ne 9, 3), (44, .iinc 1 1, 3), (47, .goto 21, 3), (50, .aload_n 0, 1), (51, .getfield 9, 3), (54, .iload_n 1, 1), (55, .aload_n 0, 1), (56, .getfield 9, 3), (59, .iload_n 1, 1), (60, .laload, 1), (61, .bipush 8, 2), (63, .lshl, 1), (64, .iload_n 3, 1), (65, .i2l, 1), (66, .lor, 1), (67, .lastore, 1), (68, .iinc 2 1, 3), (71, .goto (-55), 3), (74, .aload_n 0, 1), (75, .getfield 9, 3), (78, .iconst 0, 1), (79, .aload_n 0, 1), (80, .getfield 9, 3), (83, .bipush 11, 2), (85, .bipush 11, 2), (87, .invokestatic 27, 3), (90, .return_, 1)]
def cs_c3 : List (Nat × Instr × Nat) := cs_c3_0
def cs_c4_0 : List (Nat × Instr × Nat) := [(0, .aload_n 0, 1), (1, .invokespecial 3, 3), (4, .aload_n 0, 1), (5, .iconst 4, 1), (6, .newarray .int, 2), (8, .putfield 9, 3), (11, .aload_n 0, 1), (12, .new 15, 3), (15, .dup, 1), (16, .invokespecial 17, 3), (19, .putfield 18, 3), (22, .aload_n 0, 1), (23, .aload_n 1, 1), (24, .putfield 22, 3), (27, .aload_n 0, 1), (28, .aload_n 2, 1), (29, .putfield 26, 3), (32, .aload_n 0, 1), (33, .aload_n 3, 1), (34, .putfield 30, 3), (37, .return_, 1)]
def cs_c4 : List (Nat × Instr × Nat) := cs_c4_0
def cs_c5_0 : List (Nat × Instr × Nat) := [(0, .aload_n 0, 1), (1, .invokespecial 3, 3), (4, .aload_n 0, 1), (5, .sipush 1180, 3), (8, .newarray .int, 2), (10, .putfield 11, 3), (13, .aload_n 0, 1), (14, .iconst 5, 1), (15, .sipush 910, 3), (18, .multianewarray 17 2, 4), (22, .putfield 19, 3), (25, .aload_n 0, 1), (26, .iconst 5, 1), (27, .newarray .int, 2), (29, .putfield 22, 3), (32, .return_, 1)]
def cs_c5 : List (Nat × Instr × Nat) := cs_c5_0
def cs_c6_0 : List (Nat × Instr × Nat) := [(0, .aload_n 0, 1), (1, .invokespecial 3, 3), (4, .aload_n 0, 1), (5, .bipush 6, 2), (7, .newarray .int, 2), (9, .putfield 11, 3), (12, .aload_n 0, 1), (13, .bipush 6, 2), (15, .newarray .int, 2), (17, .putfield 15, 3), (20, .aload_n 0, 1), (21, .bipush 6, 2), (23, .newarray .int, 2), (25, .putfield 18, 3), (28, .aload_n 0, 1), (29, .aload_n 1, 1), (30, .putfield 21, 3), (33, .return_, 1)]
def cs_c6 : List (Nat × Instr × Nat) := cs_c6_0
def cs_c7_0 : List (Nat × Instr × Nat) := [(0, .aload_n 0, 1), (1, .invokespecial 3, 3), (4, .aload_n 0, 1), (5, .new 9, 3), (8, .dup, 1), (9, .invokespecial 11, 3), (12, .putfield 12, 3), (15, .aload_n 0, 1), (16, .new 18, 3), (19, .dup, 1), (20, .aload_n 0, 1), (21, .getfield 12, 3), (24, .invokespecial 20, 3), (27, .putfield 23, 3), (30, .aload_n 0, 1), (31, .bipush 40, 2), (33, .newarray .int, 2), (35, .putfield 27, 3), (38, .aload_n 0, 1), (39, .iconst (-1), 1), (40, .putfield 31, 3), (43, .aload_n 0, 1), (44, .iconst (-1), 1), (45, .putfield 35, 3), (48, .aload_n 0, 1), (49, .aload_n 1, 1), (50, .putfield 38, 3), (53, .return_, 1)]
def cs_c7 : List (Nat × Instr × Nat) := cs_c7_0
def cs_c8_0 : List (Nat × Instr × Nat) := [(0, .aload_n 0, 1), (1, .invokespecial 3, 3), (4, .aload_n 0, 1), (5, .new 9, 3), (8, .dup, 1), (9, .invokespecial 11, 3), (12, .putfield 12, 3), (15, .aload_n 0, 1), (16, .bipush 40, 2), (18, .anewarray 9, 3), (21, .putfield 18, 3), (24, .aload_n 0, 1), (25, .bipush 6, 2), (27, .anewarray 22, 3), (30, .putfield 24, 3), (33, .iconst 0, 1), (34, .istore_n 1, 1), (35, .iload_n 1, 1), (36, .bipush 40, 2), (38, .if_icmp .ge 22, 3), (41, .aload_n 0, 1), (42, .getfield 18, 3), (45, .iload_n 1, 1), (46, .new 9, 3), (49, .dup, 1), (50, .invokespecial 11, 3), (53, .aastore, 1), (54, .iinc 1 1, 3), (57, .goto (-22), 3), (60, .iconst 0, 1), (61, .istore_n 1, 1), (62, .iload_n 1, 1), (63, .bipush 6, 2), (65, .if_icmp .ge 22, 3), (68, .aload_n 0, 1), (69, .getfield 24, 3), (72, .iload_n 1, 1), (73, .new 22, 3), (76, .dup, 1), (77, .invokespecial 28, 3), (80, .aastore, 1), (81, .iinc 1 1, 3), (84, .goto (-22), 3), (87, .return_, 1)]
def cs_c8 : List (Nat × Instr × Nat) := cs_c8_0
def cs_c9_0 : List (Nat × Instr × Nat) := [(0, .aload_n 0, 1), (1, .invokespecial 1, 3), (4, .aload_n 0, 1), (5, .new 7, 3), (8, .dup, 1), (9, .invokespecial 9, 3), (12, .putfield 10, 3), (15, .aload_n 0, 1), (16, .new 16, 3), (19, .dup, 1), (20, .invokespecial 18, 3), (23, .putfield 19, 3), (26, .aload_n 0, 1), (27, .new 23, 3), (30, .dup, 1), (31, .invokespecial 25, 3), (34, .putfield 26, 3), (37, .aload_n 0, 1), (38, .new 30, 3), (41, .dup, 1), (42, .aload_n 0, 1), (43, .getfield 10, 3), (46, .aload_n 0, 1), (47, .getfield 19, 3), (50, .aload_n 0, 1), (51, .getfield 26, 3), (54, .invokespecial 32, 3), (57, .putfield 35, 3), (60, .aload_n 0, 1), (61, .new 39, 3), (64, .dup, 1), (65, .aload_n 0, 1), (66, .getfield 10, 3), (69, .invokespecial 41, 3), (72, .putfield 44, 3), (75, .return_, 1)]
def cs_c9 : List (Nat × Instr × Nat) := cs_c9_0
def cs_c10_0 : List (Nat × Instr × Nat) := [(0, .aload_n 0, 1), (1, .invokespecial 1, 3), (4, .aload_n 0, 1), (5, .bipush 42, 2), (7, .newarray .int, 2), (9, .putfield 7, 3), (12, .aload_n 0, 1), (13, .bipush 42, 2), (15, .newarray .int, 2), (17, .putfield 13, 3), (20, .aload_n 0, 1), (21, .bipush 42, 2), (23, .newarray .boolean, 2), (25, .putfield 16, 3), (28, .aload_n 0, 1), (29, .bipush 17, 2), (31, .newarray .int, 2), (33, .dup, 1), (34, .iconst 0, 1), (35, .bipush 6, 2), (37, .iastore, 1), (38, .dup, 1), (39, .iconst 1, 1), (40, .bipush 6, 2), (42, .iastore, 1), (43, .dup, 1), (44, .iconst 2, 1), (45, .bipush 6, 2), (47, .iastore, 1), (48, .dup, 1), (49, .iconst 3, 1), (50, .iconst 3, 1), (51, .iastore, 1), (52, .dup, 1), (53, .iconst 4, 1), (54, .iconst 3, 1), (55, .iastore, 1), (56, .dup, 1), (57, .iconst 5, 1), (58, .iconst 3, 1), (59, .iastore, 1), (60, .dup, 1), (61, .bipush 6, 2), (63, .iconst 5, 1), (64, .iastore, 1), (65, .dup, 1), (66, .bipush 7, 2), (68, .bipush 6, 2), (70, .iastore, 1), (71, .dup, 1), (72, .bipush 8, 2), (74, .iconst 3, 1), (75, .iastore, 1), (76, .dup, 1), (77, .bipush 9, 2), (79, .iconst 4, 1), (80, .iastore, 1), (81, .dup, 1), (82, .bipush 10, 2), (84, .iconst 4, 1), (85, .iastore, 1), (86, .dup, 1), (87, .bipush 11, 2), (89, .iconst 4, 1), (90, .iastore, 1), (91, .dup, 1), (92, .bipush 12, 2), (94, .iconst 5, 1), (95, .iastore, 1), (96, .dup, 1), (97, .bipush 13, 2), (99, .iconst 5, 1), (100, .iastore, 1), (101, .dup, 1), (102, .bipush 14, 2), (104, .iconst 5, 1), (105, .iastore, 1), (106, .dup, 1), (107, .bipush 15, 2), (109, .iconst 3, 1), (110, .iastore, 1), (111, .dup, 1), (112, .bipush 16, 2), (114, .iconst 5, 1), (115, .iastore, 1), (116, .putfield 20, 3), (119, .aload_n 0, 1), (120, .bipush 17, 2), (122, .newarray .int, 2), (124, .dup, 1), (125, .iconst 0, 1), (126, .iconst 4, 1), (127, .iastore, 1), (128, .dup, 1), (129, .iconst 1, 1), (130, .iconst 4, 1), (131, .iastore, 1), (132, .dup, 1), (133, .iconst 2, 1), (134, .iconst 4, 1), (135, .iastore, 1), (136, .dup, 1), (137, .iconst 3, 1), (138, .iconst 3, 1), (139, .iastore, 1), (140, .dup, 1), (141, .iconst 4, 1), (142, .iconst 3, 1), (143, .iastore, 1), (144, .dup, 1)]
def cs_c10_1 : List (Nat × Instr × Nat) := [(145, .iconst 5, 1), (146, .iconst 3, 1), (147, .iastore, 1), (148, .dup, 1), (149, .bipush 6, 2), (151, .iconst 3, 1), (152, .iastore, 1), (153, .dup, 1), (154, .bipush 7, 2), (156, .iconst 4, 1), (157, .iastore, 1), (158, .dup, 1), (159, .bipush 8, 2), (161, .iconst 3, 1), (162, .iastore, 1), (163, .dup, 1), (164, .bipush 9, 2), (166, .iconst 3, 1), (167, .iastore, 1), (168, .dup, 1), (169, .bipush 10, 2), (171, .iconst 3, 1), (172, .iastore, 1), (173, .dup, 1), (174, .bipush 11, 2), (176, .iconst 3, 1), (177, .iastore, 1), (178, .dup, 1), (179, .bipush 12, 2), (181, .iconst 3, 1), (182, .iastore, 1), (183, .dup, 1), (184, .bipush 13, 2), (186, .iconst 4, 1), (187, .iastore, 1), (188, .dup, 1), (189, .bipush 14, 2), (191, .iconst 3, 1), (192, .iastore, 1), (193, .dup, 1), (194, .bipush 15, 2), (196, .iconst 3, 1), (197, .iastore, 1), (198, .dup, 1), (199, .bipush 16, 2), (201, .iconst 4, 1), (202, .iastore, 1), (203, .putfield 23, 3), (206, .aload_n 0, 1), (207, .bipush 17, 2), (209, .newarray .int, 2), (211, .dup, 1), (212, .iconst 0, 1), (213, .sipush 10123, 3), (216, .iastore, 1), (217, .dup, 1), (218, .iconst 1, 1), (219, .sipush 20123, 3), (222, .iastore, 1), (223, .dup, 1), (224, .iconst 2, 1), (225, .sipush 20123, 3), (228, .iastore, 1), (229, .dup, 1), (230, .iconst 3, 1), (231, .ldc 26, 2), (233, .iastore, 1), (234, .dup, 1), (235, .iconst 4, 1), (236, .ldc 26, 2), (238, .iastore, 1), (239, .dup, 1), (240, .iconst 5, 1), (241, .ldc 27, 2), (243, .iastore, 1), (244, .dup, 1), (245, .bipush 6, 2), (247, .ldc 26, 2), (249, .iastore, 1), (250, .dup, 1), (251, .bipush 7, 2), (253, .sipush 30123, 3), (256, .iastore, 1), (257, .dup, 1), (258, .bipush 8, 2), (260, .sipush 10102, 3), (263, .iastore, 1), (264, .dup, 1), (265, .bipush 9, 2), (267, .bipush 120, 2), (269, .iastore, 1), (270, .dup, 1), (271, .bipush 10, 2), (273, .sipush 30121, 3), (276, .iastore, 1), (277, .dup, 1), (278, .bipush 11, 2), (280, .ldc 26, 2), (282, .iastore, 1), (283, .dup, 1), (284, .bipush 12, 2), (286, .sipush 30102, 3), (289, .iastore, 1), (290, .dup, 1), (291, .bipush 13, 2), (293, .ldc 28, 2), (295, .iastore, 1), (296, .dup, 1), (297, .bipush 14, 2), (299, .bipush 120, 2)]
def cs_c10_2 : List (Nat × Instr × Nat) := [(301, .iastore, 1), (302, .dup, 1), (303, .bipush 15, 2), (305, .bipush 120, 2), (307, .iastore, 1), (308, .dup, 1), (309, .bipush 16, 2), (311, .sipush 20123, 3), (314, .iastore, 1), (315, .putfield 29, 3), (318, .aload_n 0, 1), (319, .bipush 17, 2), (321, .newarray .int, 2), (323, .dup, 1), (324, .iconst 0, 1), (325, .sipush 12345, 3), (328, .iastore, 1), (329, .dup, 1), (330, .iconst 1, 1), (331, .sipush 22345, 3), (334, .iastore, 1), (335, .dup, 1), (336, .iconst 2, 1), (337, .sipush 12345, 3), (340, .iastore, 1), (341, .dup, 1), (342, .iconst 3, 1), (343, .iconst (-1), 1), (344, .iastore, 1), (345, .dup, 1), (346, .iconst 4, 1), (347, .iconst (-1), 1), (348, .iastore, 1), (349, .dup, 1), (350, .iconst 5, 1), (351, .iconst (-1), 1), (352, .iastore, 1), (353, .dup, 1), (354, .bipush 6, 2), (356, .ldc 32, 2), (358, .iastore, 1), (359, .dup, 1), (360, .bipush 7, 2), (362, .sipush 32345, 3), (365, .iastore, 1), (366, .dup, 1), (367, .bipush 8, 2), (369, .iconst (-1), 1), (370, .iastore, 1), (371, .dup, 1), (372, .bipush 9, 2), (374, .sipush 130, 3), (377, .iastore, 1), (378, .dup, 1), (379, .bipush 10, 2), (381, .sipush 30323, 3), (384, .iastore, 1), (385, .dup, 1), (386, .bipush 11, 2), (388, .sipush 20312, 3), (391, .iastore, 1), (392, .dup, 1), (393, .bipush 12, 2), (395, .sipush 30203, 3), (398, .iastore, 1), (399, .dup, 1), (400, .bipush 13, 2), (402, .ldc 33, 2), (404, .iastore, 1), (405, .dup, 1), (406, .bipush 14, 2), (408, .sipush 10134, 3), (411, .iastore, 1), (412, .dup, 1), (413, .bipush 15, 2), (415, .sipush 30102, 3), (418, .iastore, 1), (419, .dup, 1), (420, .bipush 16, 2), (422, .sipush 140, 3), (425, .iastore, 1), (426, .putfield 34, 3), (429, .aload_n 0, 1), (430, .bipush 17, 2), (432, .newarray .int, 2), (434, .dup, 1), (435, .iconst 0, 1), (436, .sipush 10145, 3), (439, .iastore, 1), (440, .dup, 1), (441, .iconst 1, 1), (442, .sipush 10145, 3), (445, .iastore, 1), (446, .dup, 1), (447, .iconst 2, 1), (448, .sipush 20145, 3), (451, .iastore, 1), (452, .dup, 1), (453, .iconst 3, 1), (454, .sipush 30102, 3), (457, .iastore, 1), (458, .dup, 1), (459, .iconst 4, 1), (460, .ldc 27, 2), (462, .iastore, 1), (463, .dup, 1), (464, .iconst 5, 1), (465, .bipush 120, 2), (467, .iastore, 1), (468, .dup, 1)]
def cs_c10_3 : List (Nat × Instr × Nat) := [(469, .bipush 6, 2), (471, .sipush 10324, 3), (474, .iastore, 1), (475, .dup, 1), (476, .bipush 7, 2), (478, .sipush 30145, 3), (481, .iastore, 1), (482, .dup, 1), (483, .bipush 8, 2), (485, .bipush 120, 2), (487, .iastore, 1), (488, .dup, 1), (489, .bipush 9, 2), (491, .sipush 230, 3), (494, .iastore, 1), (495, .dup, 1), (496, .bipush 10, 2), (498, .sipush 20213, 3), (501, .iastore, 1), (502, .dup, 1), (503, .bipush 11, 2), (505, .ldc 37, 2), (507, .iastore, 1), (508, .dup, 1), (509, .bipush 12, 2), (511, .ldc 38, 2), (513, .iastore, 1), (514, .dup, 1), (515, .bipush 13, 2), (517, .ldc 39, 2), (519, .iastore, 1), (520, .dup, 1), (521, .bipush 14, 2), (523, .sipush 10234, 3), (526, .iastore, 1), (527, .dup, 1), (528, .bipush 15, 2), (530, .ldc 26, 2), (532, .iastore, 1), (533, .dup, 1), (534, .bipush 16, 2), (536, .sipush 20423, 3), (539, .iastore, 1), (540, .putfield 40, 3), (543, .aload_n 0, 1), (544, .bipush 6, 2), (546, .newarray .int, 2), (548, .putfield 43, 3), (551, .aload_n 0, 1), (552, .sipush 4400, 3), (555, .newarray .int, 2), (557, .putfield 46, 3), (560, .aload_n 0, 1), (561, .bipush 120, 2), (563, .newarray .int, 2), (565, .putfield 49, 3), (568, .aload_n 0, 1), (569, .bipush 22, 2), (571, .newarray .long, 2), (573, .putfield 52, 3), (576, .aload_n 0, 1), (577, .bipush 11, 2), (579, .newarray .long, 2), (581, .dup, 1), (582, .iconst 0, 1), (583, .ldc2_w 56, 3), (586, .lastore, 1), (587, .dup, 1), (588, .iconst 1, 1), (589, .ldc2_w 58, 3), (592, .lastore, 1), (593, .dup, 1), (594, .iconst 2, 1), (595, .ldc2_w 60, 3), (598, .lastore, 1), (599, .dup, 1), (600, .iconst 3, 1), (601, .ldc2_w 62, 3), (604, .lastore, 1), (605, .dup, 1), (606, .iconst 4, 1), (607, .ldc2_w 64, 3), (610, .lastore, 1), (611, .dup, 1), (612, .iconst 5, 1), (613, .ldc2_w 66, 3), (616, .lastore, 1), (617, .dup, 1), (618, .bipush 6, 2), (620, .ldc2_w 68, 3), (623, .lastore, 1), (624, .dup, 1), (625, .bipush 7, 2), (627, .ldc2_w 70, 3), (630, .lastore, 1), (631, .dup, 1), (632, .bipush 8, 2), (634, .ldc2_w 72, 3), (637, .lastore, 1), (638, .dup, 1), (639, .bipush 9, 2), (641, .ldc2_w 74, 3), (644, .lastore, 1), (645, .dup, 1), (646, .bipush 10, 2), (648, .ldc2_w 76, 3), (651, .lastore, 1), (652, .putfield 78, 3), (655, .aload_n 0, 1), (656, .iconst 4, 1)]
def cs_c10_4 : List (Nat × Instr × Nat) := [(657, .newarray .int, 2), (659, .putfield 81, 3), (662, .aload_n 0, 1), (663, .bipush 41, 2), (665, .newarray .int, 2), (667, .putfield 84, 3), (670, .aload_n 0, 1), (671, .sipush 164, 3), (674, .newarray .int, 2), (676, .putfield 87, 3), (679, .aload_n 0, 1), (680, .bipush 41, 2), (682, .newarray .int, 2), (684, .putfield 90, 3), (687, .aload_n 0, 1), (688, .bipush 41, 2), (690, .newarray .int, 2), (692, .putfield 93, 3), (695, .aload_n 0, 1), (696, .bipush 41, 2), (698, .newarray .int, 2), (700, .putfield 96, 3), (703, .aload_n 0, 1), (704, .bipush 41, 2), (706, .newarray .int, 2), (708, .putfield 99, 3), (711, .aload_n 0, 1), (712, .sipush 246, 3), (715, .newarray .int, 2), (717, .putfield 102, 3), (720, .aload_n 0, 1), (721, .bipush 6, 2), (723, .newarray .int, 2), (725, .putfield 105, 3), (728, .aload_n 0, 1), (729, .bipush 41, 2), (731, .newarray .int, 2), (733, .putfield 108, 3), (736, .aload_n 0, 1), (737, .bipush 41, 2), (739, .newarray .int, 2), (741, .putfield 111, 3), (744, .aload_n 0, 1), (745, .bipush 41, 2), (747, .newarray .int, 2), (749, .putfield 114, 3), (752, .aload_n 0, 1), (753, .bipush 41, 2), (755, .newarray .int, 2), (757, .putfield 117, 3), (760, .aload_n 0, 1), (761, .bipush 41, 2), (763, .newarray .int, 2), (765, .putfield 120, 3), (768, .aload_n 0, 1), (769, .bipush 41, 2), (771, .newarray .int, 2), (773, .putfield 123, 3), (776, .aload_n 0, 1), (777, .bipush 6, 2), (779, .newarray .boolean, 2), (781, .putfield 126, 3), (784, .aload_n 0, 1), (785, .bipush (-5), 2), (787, .putfield 129, 3), (790, .aload_n 0, 1), (791, .iconst 4, 1), (792, .newarray .int, 2), (794, .putfield 133, 3), (797, .iconst 0, 1), (798, .istore_n 1, 1), (799, .iload_n 1, 1), (800, .bipush 11, 2), (802, .if_icmp .ge 36, 3), (805, .aload_n 0, 1), (806, .getfield 52, 3), (809, .iload_n 1, 1), (810, .aload_n 0, 1), (811, .getfield 78, 3), (814, .iload_n 1, 1), (815, .laload, 1), (816, .lastore, 1), (817, .aload_n 0, 1), (818, .getfield 52, 3), (821, .bipush 11, 2), (823, .iload_n 1, 1), (824, .iadd, 1), (825, .aload_n 0, 1), (826, .getfield 78, 3), (829, .iload_n 1, 1), (830, .laload, 1), (831, .lastore, 1), (832, .iinc 1 1, 3), (835, .goto (-36), 3), (838, .return_, 1)]
def cs_c10 : List (Nat × Instr × Nat) := cs_c10_0 ++ cs_c10_1 ++ cs_c10_2 ++ cs_c10_3 ++ cs_c10_4
def cs_cds : List (List (Nat × Instr × Nat)) := [cs_c0, cs_c1, cs_c2, cs_c3, cs_c4, cs_c5, cs_c6, cs_c7, cs_c8, cs_c9, cs_c10]
def cs_by (m : cs_M) : ByteArray := match lw_tbl[m.2.2.2.2.getD 0 0]? with
  | some (.code _ b _ _) => b
  | _ => code
def cs_chk (b : ByteArray) (l : List (Nat × Instr × Nat)) : Bool := l.all fun q => match decode b q.1 with
  | .ok (j, len) => decide (j = q.2.1) && decide (len = q.2.2)
  | .error _ => false
def cs_wd (m : cs_M) : Bool := plainName m.1.cls && decide (mt_own[m.2.2.1]? = some m.1.cls) && decide (m.1.cls ≠ "java/lang/invoke/MethodHandle" ∧ m.1.cls ≠ "java/lang/invoke/VarHandle") && decide (m.1.name = "<init>") && decide ((parseMethodDescriptor m.1.desc).map (fun d => d.parameters.length) = some m.2.2.2.1) && decide (m.2.1 ≤ 4) &&
  (match lw_tbl[m.2.2.2.2.getD 0 0]? with
    | some (.code y _ n r) => decide (y = m.1) && decide (n = m.2.1) && decide (r = none)
    | _ => false) && (match lw_tbl[m.2.2.2.2.getD 0 0]? with
    | some w => goodWord w
    | none => false) && mk_w (m.2.2.2.2.getD 1 0) (.instanceMethod m.1) && mk_w (m.2.2.2.2.getD 2 0) (.initialized m.1.cls)
set_option maxRecDepth 100000 in
theorem cs_wd_ok : cs_ms.all cs_wd = true := by decide +kernel
def cs_nlw (q : Nat × Nat × Nat × Nat × Nat × Nat) : Bool := match mt_cls[q.2.2.1]? with
  | some c => mk_w q.2.2.2.1 (.classLink (mk_own q.1) q.2.1 c.1) && mk_w q.2.2.2.2.1 (.instantiable c.1 c.2.length) && mk_w q.2.2.2.2.2 (.initialized c.1)
  | none => false
set_option maxRecDepth 100000 in
theorem cs_nlw_ok : cs_nl.all cs_nlw = true := by decide +kernel
def cs_an (k : Nat) : String := if k = 103 then "RowGrader$Row" else "RowGrader$Figure"
def cs_alw (q : Nat × Nat × Nat × Nat) : Bool := decide (q.2.2.1 = 103 ∨ q.2.2.1 = 104) && mk_w q.2.2.2 (.classLink (mk_own q.1) q.2.1 (cs_an q.2.2.1))
set_option maxRecDepth 100000 in
theorem cs_alw_ok : cs_al.all cs_alw = true := by decide +kernel
def cs_ilw (q : Nat × Nat × Nat × Nat) : Bool := match cs_ms[q.2.2.1]? with
  | some m => mk_w q.2.2.2 (.methodLink (mk_own q.1) q.2.1 m.1)
  | none => false
set_option maxRecDepth 100000 in
theorem cs_ilw_ok : cs_il.all cs_ilw = true := by decide +kernel
def cs_inw (q : Nat × Nat × Nat × Nat) : Bool := match cs_ms[q.2.2.1]? with
  | some m => decide (lw_tbl[q.2.2.2]? = some (.methodLinkNest (mk_own q.1) q.2.1 m.1 "RowGrader"))
  | none => false
set_option maxRecDepth 100000 in
theorem cs_inw_ok : cs_in.all cs_inw = true := by decide +kernel
def cs_oiw (q : Nat × Nat × Nat) : Bool := mk_w q.2.2 (.methodLink (mk_own q.1) q.2.1 objectInit)
set_option maxRecDepth 100000 in
theorem cs_oiw_ok : (cs_oi.all cs_oiw && mk_w cs_op.1 (.instanceMethod objectInit) && mk_w cs_op.2 (.code objectInit ⟨#[0xb1]⟩ 1 none) && mk_w cs_mp (.classLink (mk_own 2) 17 "[[I") && mk_w (cs_ap.getD 0 0) (.arrayClass .int) && mk_w (cs_ap.getD 1 0) (.arrayClass .long) && mk_w (cs_ap.getD 2 0) (.arrayClass .boolean)) = true := by decide +kernel
set_option maxRecDepth 100000 in
theorem cs_k0_0 : cs_chk (cs_by (cs_ms.getD 0 (⟨"", "", ""⟩, 0, 0, 0, []))) cs_c0_0 = true := by decide +kernel
set_option maxRecDepth 100000 in
theorem cs_k1_0 : cs_chk (cs_by (cs_ms.getD 1 (⟨"", "", ""⟩, 0, 0, 0, []))) cs_c1_0 = true := by decide +kernel
set_option maxRecDepth 100000 in
theorem cs_k2_0 : cs_chk (cs_by (cs_ms.getD 2 (⟨"", "", ""⟩, 0, 0, 0, []))) cs_c2_0 = true := by decide +kernel
set_option maxRecDepth 100000 in
theorem cs_k3_0 : cs_chk (cs_by (cs_ms.getD 3 (⟨"", "", ""⟩, 0, 0, 0, []))) cs_c3_0 = true := by decide +kernel
set_option maxRecDepth 100000 in
theorem cs_k4_0 : cs_chk (cs_by (cs_ms.getD 4 (⟨"", "", ""⟩, 0, 0, 0, []))) cs_c4_0 = true := by decide +kernel
set_option maxRecDepth 100000 in
theorem cs_k5_0 : cs_chk (cs_by (cs_ms.getD 5 (⟨"", "", ""⟩, 0, 0, 0, []))) cs_c5_0 = true := by decide +kernel
set_option maxRecDepth 100000 in
theorem cs_k6_0 : cs_chk (cs_by (cs_ms.getD 6 (⟨"", "", ""⟩, 0, 0, 0, []))) cs_c6_0 = true := by decide +kernel
set_option maxRecDepth 100000 in
theorem cs_k7_0 : cs_chk (cs_by (cs_ms.getD 7 (⟨"", "", ""⟩, 0, 0, 0, []))) cs_c7_0 = true := by decide +kernel
set_option maxRecDepth 100000 in
theorem cs_k8_0 : cs_chk (cs_by (cs_ms.getD 8 (⟨"", "", ""⟩, 0, 0, 0, []))) cs_c8_0 = true := by decide +kernel
set_option maxRecDepth 100000 in
theorem cs_k9_0 : cs_chk (cs_by (cs_ms.getD 9 (⟨"", "", ""⟩, 0, 0, 0, []))) cs_c9_0 = true := by decide +kernel
set_option maxRecDepth 100000 in
theorem cs_k10_0 : cs_chk (cs_by (cs_ms.getD 10 (⟨"", "", ""⟩, 0, 0, 0, []))) cs_c10_0 = true := by decide +kernel
set_option maxRecDepth 100000 in
theorem cs_k10_1 : cs_chk (cs_by (cs_ms.getD 10 (⟨"", "", ""⟩, 0, 0, 0, []))) cs_c10_1 = true := by decide +kernel
set_option maxRecDepth 100000 in
theorem cs_k10_2 : cs_chk (cs_by (cs_ms.getD 10 (⟨"", "", ""⟩, 0, 0, 0, []))) cs_c10_2 = true := by decide +kernel
set_option maxRecDepth 100000 in
theorem cs_k10_3 : cs_chk (cs_by (cs_ms.getD 10 (⟨"", "", ""⟩, 0, 0, 0, []))) cs_c10_3 = true := by decide +kernel
set_option maxRecDepth 100000 in
theorem cs_k10_4 : cs_chk (cs_by (cs_ms.getD 10 (⟨"", "", ""⟩, 0, 0, 0, []))) cs_c10_4 = true := by decide +kernel
def cs_ck (g : Nat) : Bool := cs_chk (cs_by (cs_ms.getD g (⟨"", "", ""⟩, 0, 0, 0, []))) (cs_cds.getD g [])
theorem cs_chk_app {b : ByteArray} {l r : List (Nat × Instr × Nat)} (h : cs_chk b l = true) (h2 : cs_chk b r = true) : cs_chk b (l ++ r) = true := by
  unfold cs_chk at h h2 ⊢
  rw [List.all_append, h, h2]
  rfl
theorem cs_k0 : cs_ck 0 = true := cs_k0_0
theorem cs_k1 : cs_ck 1 = true := cs_k1_0
theorem cs_k2 : cs_ck 2 = true := cs_k2_0
theorem cs_k3 : cs_ck 3 = true := cs_k3_0
theorem cs_k4 : cs_ck 4 = true := cs_k4_0
theorem cs_k5 : cs_ck 5 = true := cs_k5_0
theorem cs_k6 : cs_ck 6 = true := cs_k6_0
theorem cs_k7 : cs_ck 7 = true := cs_k7_0
theorem cs_k8 : cs_ck 8 = true := cs_k8_0
theorem cs_k9 : cs_ck 9 = true := cs_k9_0
theorem cs_k10 : cs_ck 10 = true := (cs_chk_app (cs_chk_app (cs_chk_app (cs_chk_app cs_k10_0 cs_k10_1) cs_k10_2) cs_k10_3) cs_k10_4)
def cs_h0 : List (Nat × List Value) := [
  (9, [.ref 1, .ref 104, .ref 106, .ref 108, .ref 112]),
  (6, [.int 0, .int 0, .int 0, .int 0, .ref 2, .ref 4, .ref 5]),
  (4, [.int 0, .int 0, .int (-5), .int 0, .ref 3, .int 0, .int 0, .int 0, .int 0, .int (-5)]),
  (100, List.replicate 6 (.int 0)),
  (103, [.ref 6, .ref 8, .ref 10, .ref 12, .ref 14, .ref 16, .ref 18, .ref 20, .ref 22, .ref 24, .ref 26, .ref 28, .ref 30, .ref 32, .ref 34, .ref 36, .ref 38, .ref 40, .ref 42, .ref 44, .ref 46, .ref 48, .ref 50, .ref 52, .ref 54, .ref 56, .ref 58, .ref 60, .ref 62, .ref 64, .ref 66, .ref 68, .ref 70, .ref 72, .ref 74, .ref 76, .ref 78, .ref 80, .ref 82, .ref 84]),
  (104, [.ref 86, .ref 89, .ref 92, .ref 95, .ref 98, .ref 101]),
  (4, [.int 0, .int 0, .int (-5), .int 0, .ref 7, .int 0, .int 0, .int 0, .int 0, .int (-5)]),
  (100, List.replicate 6 (.int 0)),
  (4, [.int 0, .int 0, .int (-5), .int 0, .ref 9, .int 0, .int 0, .int 0, .int 0, .int (-5)]),
  (100, List.replicate 6 (.int 0)),
  (4, [.int 0, .int 0, .int (-5), .int 0, .ref 11, .int 0, .int 0, .int 0, .int 0, .int (-5)]),
  (100, List.replicate 6 (.int 0)),
  (4, [.int 0, .int 0, .int (-5), .int 0, .ref 13, .int 0, .int 0, .int 0, .int 0, .int (-5)]),
  (100, List.replicate 6 (.int 0)),
  (4, [.int 0, .int 0, .int (-5), .int 0, .ref 15, .int 0, .int 0, .int 0, .int 0, .int (-5)]),
  (100, List.replicate 6 (.int 0)),
  (4, [.int 0, .int 0, .int (-5), .int 0, .ref 17, .int 0, .int 0, .int 0, .int 0, .int (-5)]),
  (100, List.replicate 6 (.int 0)),
  (4, [.int 0, .int 0, .int (-5), .int 0, .ref 19, .int 0, .int 0, .int 0, .int 0, .int (-5)]),
  (100, List.replicate 6 (.int 0)),
  (4, [.int 0, .int 0, .int (-5), .int 0, .ref 21, .int 0, .int 0, .int 0, .int 0, .int (-5)]),
  (100, List.replicate 6 (.int 0)),
  (4, [.int 0, .int 0, .int (-5), .int 0, .ref 23, .int 0, .int 0, .int 0, .int 0, .int (-5)]),
  (100, List.replicate 6 (.int 0)),
  (4, [.int 0, .int 0, .int (-5), .int 0, .ref 25, .int 0, .int 0, .int 0, .int 0, .int (-5)]),
  (100, List.replicate 6 (.int 0)),
  (4, [.int 0, .int 0, .int (-5), .int 0, .ref 27, .int 0, .int 0, .int 0, .int 0, .int (-5)]),
  (100, List.replicate 6 (.int 0)),
  (4, [.int 0, .int 0, .int (-5), .int 0, .ref 29, .int 0, .int 0, .int 0, .int 0, .int (-5)]),
  (100, List.replicate 6 (.int 0)),
  (4, [.int 0, .int 0, .int (-5), .int 0, .ref 31, .int 0, .int 0, .int 0, .int 0, .int (-5)]),
  (100, List.replicate 6 (.int 0)),
  (4, [.int 0, .int 0, .int (-5), .int 0, .ref 33, .int 0, .int 0, .int 0, .int 0, .int (-5)]),
  (100, List.replicate 6 (.int 0)),
  (4, [.int 0, .int 0, .int (-5), .int 0, .ref 35, .int 0, .int 0, .int 0, .int 0, .int (-5)]),
  (100, List.replicate 6 (.int 0)),
  (4, [.int 0, .int 0, .int (-5), .int 0, .ref 37, .int 0, .int 0, .int 0, .int 0, .int (-5)]),
  (100, List.replicate 6 (.int 0)),
  (4, [.int 0, .int 0, .int (-5), .int 0, .ref 39, .int 0, .int 0, .int 0, .int 0, .int (-5)]),
  (100, List.replicate 6 (.int 0)),
  (4, [.int 0, .int 0, .int (-5), .int 0, .ref 41, .int 0, .int 0, .int 0, .int 0, .int (-5)]),
  (100, List.replicate 6 (.int 0)),
  (4, [.int 0, .int 0, .int (-5), .int 0, .ref 43, .int 0, .int 0, .int 0, .int 0, .int (-5)]),
  (100, List.replicate 6 (.int 0)),
  (4, [.int 0, .int 0, .int (-5), .int 0, .ref 45, .int 0, .int 0, .int 0, .int 0, .int (-5)]),
  (100, List.replicate 6 (.int 0)),
  (4, [.int 0, .int 0, .int (-5), .int 0, .ref 47, .int 0, .int 0, .int 0, .int 0, .int (-5)]),
  (100, List.replicate 6 (.int 0)),
  (4, [.int 0, .int 0, .int (-5), .int 0, .ref 49, .int 0, .int 0, .int 0, .int 0, .int (-5)]),
  (100, List.replicate 6 (.int 0)),
  (4, [.int 0, .int 0, .int (-5), .int 0, .ref 51, .int 0, .int 0, .int 0, .int 0, .int (-5)]),
  (100, List.replicate 6 (.int 0)),
  (4, [.int 0, .int 0, .int (-5), .int 0, .ref 53, .int 0, .int 0, .int 0, .int 0, .int (-5)]),
  (100, List.replicate 6 (.int 0)),
  (4, [.int 0, .int 0, .int (-5), .int 0, .ref 55, .int 0, .int 0, .int 0, .int 0, .int (-5)]),
  (100, List.replicate 6 (.int 0)),
  (4, [.int 0, .int 0, .int (-5), .int 0, .ref 57, .int 0, .int 0, .int 0, .int 0, .int (-5)]),
  (100, List.replicate 6 (.int 0)),
  (4, [.int 0, .int 0, .int (-5), .int 0, .ref 59, .int 0, .int 0, .int 0, .int 0, .int (-5)]),
  (100, List.replicate 6 (.int 0)),
  (4, [.int 0, .int 0, .int (-5), .int 0, .ref 61, .int 0, .int 0, .int 0, .int 0, .int (-5)]),
  (100, List.replicate 6 (.int 0)),
  (4, [.int 0, .int 0, .int (-5), .int 0, .ref 63, .int 0, .int 0, .int 0, .int 0, .int (-5)]),
  (100, List.replicate 6 (.int 0)),
  (4, [.int 0, .int 0, .int (-5), .int 0, .ref 65, .int 0, .int 0, .int 0, .int 0, .int (-5)]),
  (100, List.replicate 6 (.int 0)),
  (4, [.int 0, .int 0, .int (-5), .int 0, .ref 67, .int 0, .int 0, .int 0, .int 0, .int (-5)]),
  (100, List.replicate 6 (.int 0)),
  (4, [.int 0, .int 0, .int (-5), .int 0, .ref 69, .int 0, .int 0, .int 0, .int 0, .int (-5)]),
  (100, List.replicate 6 (.int 0)),
  (4, [.int 0, .int 0, .int (-5), .int 0, .ref 71, .int 0, .int 0, .int 0, .int 0, .int (-5)]),
  (100, List.replicate 6 (.int 0)),
  (4, [.int 0, .int 0, .int (-5), .int 0, .ref 73, .int 0, .int 0, .int 0, .int 0, .int (-5)]),
  (100, List.replicate 6 (.int 0)),
  (4, [.int 0, .int 0, .int (-5), .int 0, .ref 75, .int 0, .int 0, .int 0, .int 0, .int (-5)]),
  (100, List.replicate 6 (.int 0)),
  (4, [.int 0, .int 0, .int (-5), .int 0, .ref 77, .int 0, .int 0, .int 0, .int 0, .int (-5)]),
  (100, List.replicate 6 (.int 0)),
  (4, [.int 0, .int 0, .int (-5), .int 0, .ref 79, .int 0, .int 0, .int 0, .int 0, .int (-5)]),
  (100, List.replicate 6 (.int 0)),
  (4, [.int 0, .int 0, .int (-5), .int 0, .ref 81, .int 0, .int 0, .int 0, .int 0, .int (-5)]),
  (100, List.replicate 6 (.int 0)),
  (4, [.int 0, .int 0, .int (-5), .int 0, .ref 83, .int 0, .int 0, .int 0, .int 0, .int (-5)]),
  (100, List.replicate 6 (.int 0)),
  (4, [.int 0, .int 0, .int (-5), .int 0, .ref 85, .int 0, .int 0, .int 0, .int 0, .int (-5)]),
  (100, List.replicate 6 (.int 0)),
  (0, [.ref 87, .ref 88, .int 0]),
  (100, List.replicate 7 (.int 0)),
  (100, List.replicate 7 (.int 0)),
  (0, [.ref 90, .ref 91, .int 0]),
  (100, List.replicate 7 (.int 0)),
  (100, List.replicate 7 (.int 0)),
  (0, [.ref 93, .ref 94, .int 0]),
  (100, List.replicate 7 (.int 0)),
  (100, List.replicate 7 (.int 0)),
  (0, [.ref 96, .ref 97, .int 0]),
  (100, List.replicate 7 (.int 0)),
  (100, List.replicate 7 (.int 0)),
  (0, [.ref 99, .ref 100, .int 0]),
  (100, List.replicate 7 (.int 0)),
  (100, List.replicate 7 (.int 0)),
  (0, [.ref 102, .ref 103, .int 0]),
  (100, List.replicate 7 (.int 0)),
  (100, List.replicate 7 (.int 0)),
  (7, [.ref 105, .int 0, .int 0, .int 0, .int 0, .long 0]),
  (100, List.replicate 120 (.int 0)),
  (8, [.ref 107, .int 0]),
  (101, [.long 1818848869, .long 7364978, .long 1885696624, .long 25969, .long 7170404, .long 1667854947, .long 6452343, .long 444150998382, .long 1936024942, .long 25209, .long 28518, .long 1818848869, .long 7364978, .long 1885696624, .long 25969, .long 7170404, .long 1667854947, .long 6452343, .long 444150998382, .long 1936024942, .long 25209, .long 28518]),
  (3, [.ref 1, .ref 104, .ref 106, .ref 109, .ref 110, .long 0]),
  (100, List.replicate 4 (.int 0)),
  (4, [.int 0, .int 0, .int (-5), .int 0, .ref 111, .int 0, .int 0, .int 0, .int 0, .int (-5)]),
  (100, List.replicate 6 (.int 0)),
  (1, [.ref 1, .ref 113, .ref 122, .int 0, .int 0, .int 0, .int 0, .int 0, .ref 126, .int 0, .int (-1), .int (-1)]),
  (2, [.ref 114, .ref 115, .ref 121, .int 0, .int 0, .int 0]),
  (100, List.replicate 1180 (.int 0)),
  (105, [.ref 116, .ref 117, .ref 118, .ref 119, .ref 120]),
  (100, List.replicate 910 (.int 0)),
  (100, List.replicate 910 (.int 0)),
  (100, List.replicate 910 (.int 0)),
  (100, List.replicate 910 (.int 0)),
  (100, List.replicate 910 (.int 0)),
  (100, List.replicate 5 (.int 0)),
  (5, [.ref 113, .ref 123, .ref 124, .int 0, .ref 125, .int 0, .int 0, .int 0, .int 0, .int 0]),
  (100, List.replicate 6 (.int 0)),
  (100, List.replicate 6 (.int 0)),
  (100, List.replicate 6 (.int 0)),
  (100, List.replicate 40 (.int 0)),
  (10, [.int 0, .int 0, .ref 128, .ref 129, .ref 130, .ref 131, .ref 132, .ref 133, .ref 134, .ref 135, .ref 136, .ref 137, .int 0, .ref 138, .int 0, .ref 139, .ref 140, .int 0, .int 0, .int 0, .long 0, .int 0, .int 0, .ref 141, .int 0, .int 0, .ref 142, .ref 143, .ref 144, .ref 145, .ref 146, .ref 147, .ref 148, .int 0, .int 0, .int 0, .ref 149, .int 0, .ref 150, .ref 151, .ref 152, .ref 153, .ref 154, .int 0, .int 0, .ref 155, .ref 156, .int (-5), .int 0, .ref 157]),
  (100, List.replicate 42 (.int 0)),
  (100, List.replicate 42 (.int 0)),
  (102, List.replicate 42 (.int 0)),
  (100, [.int 6, .int 6, .int 6, .int 3, .int 3, .int 3, .int 5, .int 6, .int 3, .int 4, .int 4, .int 4, .int 5, .int 5, .int 5, .int 3, .int 5]),
  (100, [.int 4, .int 4, .int 4, .int 3, .int 3, .int 3, .int 3, .int 4, .int 3, .int 3, .int 3, .int 3, .int 3, .int 4, .int 3, .int 3, .int 4]),
  (100, [.int 10123, .int 20123, .int 20123, .int 40120, .int 40120, .int 60120, .int 40120, .int 30123, .int 10102, .int 120, .int 30121, .int 40120, .int 30102, .int 50123, .int 120, .int 120, .int 20123]),
  (100, [.int 12345, .int 22345, .int 12345, .int (-1), .int (-1), .int (-1), .int 43140, .int 32345, .int (-1), .int 130, .int 30323, .int 20312, .int 30203, .int 50124, .int 10134, .int 30102, .int 140]),
  (100, [.int 10145, .int 10145, .int 20145, .int 30102, .int 60120, .int 120, .int 10324, .int 30145, .int 120, .int 230, .int 20213, .int 33132, .int 51234, .int 50134, .int 10234, .int 40120, .int 20423]),
  (100, List.replicate 6 (.int 0)),
  (100, List.replicate 4400 (.int 0)),
  (100, List.replicate 120 (.int 0)),
  (101, [.long 402885, .long 16434, .long 530000, .long 177, .long 13604, .long 108099, .long 2711, .long 7657646, .long 627886, .long 89, .long 486, .long 402885, .long 16434, .long 530000, .long 177, .long 13604, .long 108099, .long 2711, .long 7657646, .long 627886, .long 89, .long 486]),
  (101, [.long 402885, .long 16434, .long 530000, .long 177, .long 13604, .long 108099, .long 2711, .long 7657646, .long 627886, .long 89, .long 486]),
  (100, List.replicate 4 (.int 0)),
  (100, List.replicate 41 (.int 0)),
  (100, List.replicate 164 (.int 0)),
  (100, List.replicate 41 (.int 0)),
  (100, List.replicate 41 (.int 0)),
  (100, List.replicate 41 (.int 0)),
  (100, List.replicate 41 (.int 0)),
  (100, List.replicate 246 (.int 0)),
  (100, List.replicate 6 (.int 0)),
  (100, List.replicate 41 (.int 0)),
  (100, List.replicate 41 (.int 0)),
  (100, List.replicate 41 (.int 0)),
  (100, List.replicate 41 (.int 0)),
  (100, List.replicate 41 (.int 0)),
  (100, List.replicate 41 (.int 0)),
  (102, List.replicate 6 (.int 0)),
  (100, List.replicate 4 (.int 0))]
