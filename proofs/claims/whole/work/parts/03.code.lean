/-- RowGrader$Figure.put(III)V -/
def mc_0 : List (Nat × Nat × List Instr) := [
  (0, 10, [.iload 1, .ifCond .lt 10, .iload 1, .iconst 7, .if_icmp .lt 11]),
  (10, 11, [.return_]),
  (11, 38, [.aload 0, .instanceof 0, .iload 1, .iload 2, .iastore, .aload 0, .instanceof 1, .iload 1, .iload 3, .iastore, .aload 0, .dup, .getfield 2, .iconst 1, .iload 1, .ishl, .ior, .putfield 2, .return_])]
/-- RowGrader$Figure.has(I)Z -/
def mc_1 : List (Nat × Nat × List Instr) := [
  (0, 26, [.iload 1, .ifCond .lt 26, .iload 1, .iconst 7, .if_icmp .ge 26, .aload 0, .getfield 2, .iload 1, .ishr, .iconst 1, .iand, .iconst 1, .if_icmp .ne 26, .iconst 1, .goto 27]),
  (26, 27, [.iconst 0]),
  (27, 28, [.freturn])]
/-- RowGrader$Figure.x(I)I -/
def mc_2 : List (Nat × Nat × List Instr) := [
  (0, 10, [.iload 1, .ifCond .lt 10, .iload 1, .iconst 7, .if_icmp .lt 14]),
  (10, 14, [.iconst 0, .goto 20]),
  (14, 20, [.aload 0, .instanceof 0, .iload 1, .iaload]),
  (20, 21, [.ireturn])]
/-- RowGrader$Figure.y(I)I -/
def mc_3 : List (Nat × Nat × List Instr) := [
  (0, 10, [.iload 1, .ifCond .lt 10, .iload 1, .iconst 7, .if_icmp .lt 14]),
  (10, 14, [.iconst 0, .goto 20]),
  (14, 20, [.aload 0, .instanceof 1, .iload 1, .iaload]),
  (20, 21, [.ireturn])]
/-- RowGrader$Figure.allApart(I)Z -/
def mc_4 : List (Nat × Nat × List Instr) := [
  (0, 2, [.iconst 0, .istore 2]),
  (2, 17, [.iload 2, .iload 1, .if_icmp .ge 64, .aload 0, .iload 2, .multianewarray 1 2, .ifCond .ne 17, .iconst 0, .freturn]),
  (17, 19, [.iconst 0, .istore 3]),
  (19, 52, [.iload 3, .iload 2, .if_icmp .ge 58, .aload 0, .iload 2, .multianewarray 2 2, .aload 0, .iload 3, .multianewarray 2 2, .if_icmp .ne 52, .aload 0, .iload 2, .multianewarray 3 2, .aload 0, .iload 3, .multianewarray 3 2, .if_icmp .ne 52, .iconst 0, .freturn]),
  (52, 58, [.iinc 3 1, .goto 19]),
  (58, 64, [.iinc 2 1, .goto 2]),
  (64, 66, [.iconst 1, .freturn])]
/-- RowGrader$Figure.shows(I)Z -/
def mc_5 : List (Nat × Nat × List Instr) := [
  (0, 13, [.iload 1, .invokeinterface 203 1, .istore 2, .iload 2, .invokeinterface 204 1, .istore 3, .iconst 0, .istore 4]),
  (13, 34, [.iload 4, .iload 3, .if_icmp .ge 40, .aload 0, .iload 1, .iload 4, .invokeinterface 205 2, .multianewarray 1 2, .ifCond .ne 34, .iconst 0, .freturn]),
  (34, 40, [.iinc 4 1, .goto 13]),
  (40, 74, [.iload 1, .iconst 0, .invokeinterface 205 2, .istore 4, .iload 1, .iconst 1, .invokeinterface 205 2, .istore 5, .iload 1, .iconst 2, .invokeinterface 205 2, .istore 6, .iload 3, .iconst 4, .if_icmp .ne 74, .iload 1, .iconst 3, .invokeinterface 205 2, .goto 76]),
  (74, 76, [.iload 6]),
  (76, 116, [.istore 7, .iload 2, .tableswitch 296 0 5 #[116, 139, 162, 185, 219, 283]]),
  (116, 137, [.aload 0, .iload 4, .iload 5, .iload 4, .iload 6, .multianewarray 6 5, .sipush 0, .lcmp, .ifCond .ne 137, .iconst 1, .goto 138]),
  (137, 138, [.iconst 0]),
  (138, 139, [.freturn]),
  (139, 160, [.aload 0, .iload 4, .iload 5, .iload 6, .iload 7, .multianewarray 6 5, .sipush 0, .lcmp, .ifCond .ne 160, .iconst 1, .goto 161]),
  (160, 161, [.iconst 0]),
  (161, 162, [.freturn]),
  (162, 183, [.aload 0, .iload 4, .iload 5, .iload 6, .iload 7, .multianewarray 7 5, .sipush 0, .lcmp, .ifCond .ne 183, .iconst 1, .goto 184]),
  (183, 184, [.iconst 0]),
  (184, 185, [.freturn]),
  (185, 217, [.aload 0, .iload 4, .iload 5, .iload 4, .iload 5, .multianewarray 7 5, .aload 0, .iload 6, .iload 7, .iload 6, .iload 7, .multianewarray 7 5, .lcmp, .ifCond .ne 217, .iconst 1, .goto 218]),
  (217, 218, [.iconst 0]),
  (218, 219, [.freturn]),
  (219, 281, [.aload 0, .iload 4, .multianewarray 2 2, .aload 0, .iload 4, .multianewarray 2 2, .iadd, .aload 0, .iload 5, .multianewarray 2 2, .aload 0, .iload 6, .multianewarray 2 2, .iadd, .if_icmp .ne 281, .aload 0, .iload 4, .multianewarray 3 2, .aload 0, .iload 4, .multianewarray 3 2, .iadd, .aload 0, .iload 5, .multianewarray 3 2, .aload 0, .iload 6, .multianewarray 3 2, .iadd, .if_icmp .ne 281, .iconst 1, .goto 282]),
  (281, 282, [.iconst 0]),
  (282, 283, [.freturn]),
  (283, 296, [.aload 0, .iload 4, .iload 5, .iload 6, .iload 7, .multianewarray 8 5, .freturn]),
  (296, 334, [.aload 0, .iload 4, .iload 5, .iload 4, .iload 6, .multianewarray 6 5, .sipush 0, .lcmp, .ifCond .ne 334, .aload 0, .iload 4, .iload 5, .iload 4, .iload 6, .multianewarray 7 5, .sipush 0, .lcmp, .ifCond .ge 334, .iconst 1, .goto 335]),
  (334, 335, [.iconst 0]),
  (335, 336, [.freturn])]
/-- RowGrader$Figure.cross(IIII)J -/
def mc_6 : List (Nat × Nat × List Instr) := [
  (0, 54, [.aload 0, .iload 2, .multianewarray 2 2, .aload 0, .iload 1, .multianewarray 2 2, .isub, .i2l, .aload 0, .iload 4, .multianewarray 3 2, .aload 0, .iload 3, .multianewarray 3 2, .isub, .i2l, .lmul, .aload 0, .iload 2, .multianewarray 3 2, .aload 0, .iload 1, .multianewarray 3 2, .isub, .i2l, .aload 0, .iload 4, .multianewarray 2 2, .aload 0, .iload 3, .multianewarray 2 2, .isub, .i2l, .lmul, .lsub, .lreturn])]
/-- RowGrader$Figure.dot(IIII)J -/
def mc_7 : List (Nat × Nat × List Instr) := [
  (0, 54, [.aload 0, .iload 2, .multianewarray 2 2, .aload 0, .iload 1, .multianewarray 2 2, .isub, .i2l, .aload 0, .iload 4, .multianewarray 2 2, .aload 0, .iload 3, .multianewarray 2 2, .isub, .i2l, .lmul, .aload 0, .iload 2, .multianewarray 3 2, .aload 0, .iload 1, .multianewarray 3 2, .isub, .i2l, .aload 0, .iload 4, .multianewarray 3 2, .aload 0, .iload 3, .multianewarray 3 2, .isub, .i2l, .lmul, .ladd, .lreturn])]
/-- RowGrader$Figure.onCircle(IIII)Z -/
def mc_8 : List (Nat × Nat × List Instr) := [
  (0, 70, [.aload 0, .iload 4, .iload 2, .iload 4, .iload 3, .multianewarray 6 5, .lstore 5, .aload 0, .iload 4, .iload 3, .iload 4, .iload 1, .multianewarray 6 5, .lstore 7, .aload 0, .iload 4, .iload 1, .iload 4, .iload 2, .multianewarray 6 5, .lstore 9, .lload 5, .sipush 0, .lcmp, .ifCond .eq 70, .lload 7, .sipush 0, .lcmp, .ifCond .eq 70, .lload 9, .sipush 0, .lcmp, .ifCond .eq 70, .aload 0, .iload 1, .iload 2, .iload 1, .iload 3, .multianewarray 6 5, .sipush 0, .lcmp, .ifCond .ne 72]),
  (70, 72, [.iconst 0, .freturn]),
  (72, 122, [.aload 0, .iload 4, .iload 1, .iload 4, .iload 1, .multianewarray 7 5, .lload 5, .lmul, .aload 0, .iload 4, .iload 2, .iload 4, .iload 2, .multianewarray 7 5, .lload 7, .lmul, .ladd, .aload 0, .iload 4, .iload 3, .iload 4, .iload 3, .multianewarray 7 5, .lload 9, .lmul, .ladd, .sipush 0, .lcmp, .ifCond .ne 122, .iconst 1, .goto 123]),
  (122, 123, [.iconst 0]),
  (123, 124, [.freturn])]
/-- RowGrader$Grading.gradeAnew()V -/
def mc_9 : List (Nat × Nat × List Instr) := [
  (0, 10, [.aload 0, .multianewarray 10 101, .aload 0, .multianewarray 11 101, .iconst 1, .istore 1]),
  (10, 33, [.iload 1, .aload 0, .instanceof 100, .getfield 602, .if_icmp .gt 136, .aload 0, .multianewarray 12 101, .astore 2, .aload 2, .ifnonnull 33, .goto 136]),
  (33, 90, [.aload 2, .iload 1, .putfield 405, .aload 2, .aload 0, .aload 2, .multianewarray 15 102, .putfield 407, .aload 2, .getfield 407, .ifCond .ne 90, .aload 2, .getfield 401, .iconst 3, .if_icmp .ne 90, .aload 0, .aload 2, .multianewarray 17 102, .aload 0, .instanceof 102, .aload 2, .getfield 400, .aload 2, .getfield 402, .multianewarray 70 503, .ifCond .eq 90, .aload 2, .iconst 4, .putfield 407]),
  (90, 125, [.aload 2, .getfield 407, .ifCond .ne 125, .aload 0, .instanceof 101, .iconst 2, .multianewarray 33 202, .aload 0, .instanceof 101, .aload 2, .getfield 400, .multianewarray 32 202, .iconst 2, .if_icmp .gt 125, .aload 2, .iconst 5, .putfield 407]),
  (125, 136, [.aload 0, .aload 2, .multianewarray 18 102, .iinc 1 1, .goto 10]),
  (136, 150, [.aload 0, .multianewarray 19 101, .aload 0, .multianewarray 20 101, .aload 0, .iconst 1, .putstatic 103, .return_])]
/-- RowGrader$Grading.clear()V -/
def mc_10 : List (Nat × Nat × List Instr) := [
  (0, 41, [.aload 0, .iconst 0, .putfield 104, .aload 0, .iconst 0, .putfield 105, .aload 0, .iconst 0, .putfield 106, .aload 0, .iconst 0, .putfield 109, .aload 0, .iconst (-1), .putfield 110, .aload 0, .instanceof 101, .aload 0, .instanceof 100, .getfield 600, .multianewarray 31 202, .iconst 1, .istore 1]),
  (41, 69, [.iload 1, .aload 0, .instanceof 100, .getfield 602, .if_icmp .gt 75, .aload 0, .instanceof 100, .iload 1, .multianewarray 83 602, .astore 2, .aload 2, .ifnull 69, .aload 2, .multianewarray 67 401]),
  (69, 75, [.iinc 1 1, .goto 41]),
  (75, 76, [.return_])]
/-- RowGrader$Grading.findGoodFigures()V -/
def mc_11 : List (Nat × Nat × List Instr) := [
  (0, 7, [.aload 0, .iconst 0, .putfield 107, .iconst 0, .istore 1]),
  (7, 54, [.iload 1, .aload 0, .instanceof 100, .getfield 601, .if_icmp .ge 60, .aload 0, .instanceof 100, .iload 1, .multianewarray 80 602, .astore 2, .aload 2, .ifnull 54, .aload 0, .instanceof 100, .aload 2, .multianewarray 82 602, .ifCond .eq 54, .aload 0, .dup, .getfield 107, .iconst 1, .iload 1, .ishl, .ior, .putfield 107]),
  (54, 60, [.iinc 1 1, .goto 7]),
  (60, 61, [.return_])]
/-- RowGrader$Grading.nextReady()LRowGrader$Row; -/
def mc_12 : List (Nat × Nat × List Instr) := [
  (0, 2, [.iconst 1, .istore 1]),
  (2, 43, [.iload 1, .aload 0, .instanceof 100, .getfield 602, .if_icmp .gt 49, .aload 0, .instanceof 100, .iload 1, .multianewarray 83 602, .astore 2, .aload 2, .ifnull 43, .aload 2, .getfield 405, .ifCond .ne 43, .aload 0, .aload 2, .multianewarray 13 102, .ifCond .eq 43, .aload 2, .areturn]),
  (43, 49, [.iinc 1 1, .goto 2]),
  (49, 51, [.aconst_null, .areturn])]
/-- RowGrader$Grading.isReady(LRowGrader$Row;)Z -/
def mc_13 : List (Nat × Nat × List Instr) := [
  (0, 2, [.iconst 0, .istore 2]),
  (2, 24, [.iload 2, .aload 1, .getfield 403, .if_icmp .ge 30, .aload 0, .aload 1, .iload 2, .multianewarray 66 402, .multianewarray 14 102, .ifCond .eq 24, .iconst 0, .freturn]),
  (24, 30, [.iinc 2 1, .goto 2]),
  (30, 32, [.iconst 1, .freturn])]
/-- RowGrader$Grading.isCircular(I)Z -/
def mc_14 : List (Nat × Nat × List Instr) := [
  (0, 24, [.aload 0, .instanceof 100, .iload 1, .multianewarray 83 602, .astore 2, .aload 2, .ifnull 24, .aload 2, .getfield 405, .ifCond .ne 24, .iconst 1, .goto 25]),
  (24, 25, [.iconst 0]),
  (25, 26, [.freturn])]
/-- RowGrader$Grading.quickWay(LRowGrader$Row;)I -/
def mc_15 : List (Nat × Nat × List Instr) := [
  (0, 10, [.aload 1, .getfield 401, .iconst 1, .if_icmp .ne 10, .iconst 1, .ireturn]),
  (10, 26, [.aload 0, .instanceof 101, .aload 1, .getfield 400, .multianewarray 32 202, .ifCond .ne 26, .iconst 2, .ireturn]),
  (26, 57, [.aload 1, .getfield 401, .iconst 2, .if_icmp .ne 57, .aload 1, .getfield 400, .invokeinterface 203 1, .iconst 6, .if_icmp .ne 57, .aload 0, .getfield 107, .ifCond .eq 57, .iconst 1, .goto 58]),
  (57, 58, [.iconst 0]),
  (58, 80, [.istore 2, .iload 2, .ifCond .eq 80, .aload 0, .aload 1, .getfield 400, .multianewarray 16 102, .iconst (-5), .if_icmp .ne 80, .iconst 3, .goto 81]),
  (80, 81, [.iconst 0]),
  (81, 82, [.ireturn])]
/-- RowGrader$Grading.firstAgainst(I)I -/
def mc_16 : List (Nat × Nat × List Instr) := [
  (0, 2, [.iconst 0, .istore 2]),
  (2, 48, [.iload 2, .aload 0, .instanceof 100, .getfield 601, .if_icmp .ge 54, .aload 0, .instanceof 100, .iload 2, .multianewarray 80 602, .astore 3, .aload 3, .ifnull 48, .aload 0, .getfield 107, .iload 2, .ishr, .iconst 1, .iand, .iconst 1, .if_icmp .ne 48, .aload 3, .iload 1, .multianewarray 5 2, .ifCond .ne 48, .iload 2, .ireturn]),
  (48, 54, [.iinc 2 1, .goto 2]),
  (54, 57, [.iconst (-5), .ireturn])]
/-- RowGrader$Grading.listRightOf(LRowGrader$Row;)V -/
def mc_17 : List (Nat × Nat × List Instr) := [
  (0, 16, [.aload 0, .instanceof 102, .aload 0, .instanceof 100, .getfield 600, .multianewarray 68 502, .iconst 0, .istore 2]),
  (16, 60, [.iload 2, .aload 1, .getfield 403, .if_icmp .ge 66, .aload 0, .instanceof 100, .aload 1, .iload 2, .multianewarray 66 402, .multianewarray 83 602, .astore 3, .aload 3, .ifnull 60, .aload 3, .getfield 406, .iconst 1, .if_icmp .ne 60, .aload 0, .instanceof 102, .aload 3, .getfield 400, .multianewarray 69 502]),
  (60, 66, [.iinc 2 1, .goto 16]),
  (66, 67, [.return_])]
/-- RowGrader$Grading.settle(LRowGrader$Row;)V -/
def mc_18 : List (Nat × Nat × List Instr) := [
  (0, 33, [.aload 1, .getfield 407, .ifCond .ne 38, .aload 1, .aload 0, .aload 1, .getfield 400, .multianewarray 16 102, .putfield 409, .aload 1, .aload 1, .getfield 409, .iconst (-5), .if_icmp .ne 33, .iconst 2, .goto 34]),
  (33, 34, [.iconst 0]),
  (34, 38, [.putfield 406, .return_]),
  (38, 66, [.aload 1, .iconst 1, .putfield 406, .aload 1, .getfield 407, .iconst 5, .if_icmp .ne 66, .aload 1, .aload 0, .instanceof 101, .aload 1, .getfield 400, .multianewarray 32 202, .putfield 408]),
  (66, 84, [.aload 1, .getfield 407, .iconst 3, .if_icmp .ne 84, .aload 0, .dup, .getfield 106, .iconst 1, .iadd, .putfield 106]),
  (84, 106, [.aload 0, .dup, .getfield 104, .iconst 1, .iadd, .putfield 104, .aload 0, .instanceof 101, .aload 1, .getfield 400, .multianewarray 52 202, .return_])]
/-- RowGrader$Grading.countCircular()V -/
def mc_19 : List (Nat × Nat × List Instr) := [
  (0, 2, [.iconst 1, .istore 1]),
  (2, 31, [.iload 1, .aload 0, .instanceof 100, .getfield 602, .if_icmp .gt 37, .aload 0, .iload 1, .multianewarray 14 102, .ifCond .eq 31, .aload 0, .dup, .getfield 105, .iconst 1, .iadd, .putfield 105]),
  (31, 37, [.iinc 1 1, .goto 2]),
  (37, 38, [.return_])]
/-- RowGrader$Grading.findCircle()V -/
def mc_20 : List (Nat × Nat × List Instr) := [
  (0, 2, [.iconst 1, .istore 1]),
  (2, 27, [.iload 1, .aload 0, .instanceof 100, .getfield 602, .if_icmp .gt 27, .aload 0, .iload 1, .multianewarray 14 102, .ifCond .ne 27, .iinc 1 1, .goto 2]),
  (27, 39, [.iload 1, .aload 0, .instanceof 100, .getfield 602, .if_icmp .le 39, .return_]),
  (39, 41, [.iconst 0, .istore 2]),
  (41, 76, [.iload 2, .iconst 40, .if_icmp .ge 76, .aload 0, .iload 1, .iload 2, .multianewarray 21 103, .iload 2, .if_icmp .ne 76, .aload 0, .instanceof 108, .iload 2, .iload 1, .iastore, .iinc 2 1, .aload 0, .iload 1, .multianewarray 22 102, .istore 1, .goto 41]),
  (76, 88, [.aload 0, .aload 0, .iload 1, .iload 2, .multianewarray 21 103, .iload 2, .multianewarray 23 103, .return_])]
/-- RowGrader$Grading.placeOnPath(II)I -/
def mc_21 : List (Nat × Nat × List Instr) := [
  (0, 2, [.iconst 0, .istore 3]),
  (2, 25, [.iload 3, .iload 2, .if_icmp .ge 31, .iload 3, .iconst 40, .if_icmp .ge 31, .aload 0, .instanceof 108, .iload 3, .iaload, .iload 1, .if_icmp .ne 25, .iload 3, .ireturn]),
  (25, 31, [.iinc 3 1, .goto 2]),
  (31, 33, [.iload 2, .ireturn])]
/-- RowGrader$Grading.firstCircularOf(I)I -/
def mc_22 : List (Nat × Nat × List Instr) := [
  (0, 15, [.aload 0, .instanceof 100, .iload 1, .multianewarray 83 602, .astore 2, .aload 2, .ifnonnull 15, .iload 1, .ireturn]),
  (15, 17, [.iconst 0, .istore 3]),
  (17, 43, [.iload 3, .aload 2, .getfield 403, .if_icmp .ge 49, .aload 0, .aload 2, .iload 3, .multianewarray 66 402, .multianewarray 14 102, .ifCond .eq 43, .aload 2, .iload 3, .multianewarray 66 402, .ireturn]),
  (43, 49, [.iinc 3 1, .goto 17]),
  (49, 51, [.iload 1, .ireturn])]
/-- RowGrader$Grading.cutTail(II)V -/
def mc_23 : List (Nat × Nat × List Instr) := [
  (0, 9, [.aload 0, .iload 2, .iload 1, .isub, .putfield 109, .iconst 0, .istore 3]),
  (9, 45, [.iload 3, .aload 0, .getfield 109, .if_icmp .ge 45, .iload 1, .iload 3, .iadd, .iconst 40, .if_icmp .ge 45, .aload 0, .instanceof 108, .iload 3, .aload 0, .instanceof 108, .iload 1, .iload 3, .iadd, .iaload, .iastore, .iinc 3 1, .goto 9]),
  (45, 46, [.return_])]
/-- RowGrader$Grading.firstNotRight()I -/
def mc_24 : List (Nat × Nat × List Instr) := [
  (0, 2, [.iconst 1, .istore 1]),
  (2, 36, [.iload 1, .aload 0, .instanceof 100, .getfield 602, .if_icmp .gt 42, .aload 0, .instanceof 100, .iload 1, .multianewarray 83 602, .astore 2, .aload 2, .ifnull 36, .aload 2, .getfield 406, .iconst 1, .if_icmp .eq 36, .iload 1, .ireturn]),
  (36, 42, [.iinc 1 1, .goto 2]),
  (42, 44, [.iconst 0, .ireturn])]
/-- RowGrader$Grading.circleAt(I)I -/
def mc_25 : List (Nat × Nat × List Instr) := [
  (0, 18, [.iload 1, .ifCond .lt 18, .iload 1, .aload 0, .getfield 109, .if_icmp .ge 18, .iload 1, .iconst 40, .if_icmp .lt 23]),
  (18, 23, [.iconst (-5), .goto 29]),
  (23, 29, [.aload 0, .instanceof 108, .iload 1, .iaload]),
  (29, 30, [.ireturn])]
/-- RowGrader$Grading.marksGot()I -/
def mc_26 : List (Nat × Nat × List Instr) := [
  (0, 4, [.iconst 0, .istore 1, .iconst 1, .istore 2]),
  (4, 31, [.iload 2, .aload 0, .instanceof 100, .getfield 602, .if_icmp .gt 67, .aload 0, .instanceof 100, .iload 2, .multianewarray 83 602, .astore 3, .aload 3, .ifnonnull 31, .goto 61]),
  (31, 42, [.aload 3, .getfield 407, .iconst 4, .if_icmp .ne 42, .iinc 1 2]),
  (42, 58, [.aload 3, .getfield 407, .iconst 3, .if_icmp .eq 58, .aload 3, .getfield 407, .iconst 5, .if_icmp .ne 61]),
  (58, 61, [.iinc 1 1]),
  (61, 67, [.iinc 2 1, .goto 4]),
  (67, 125, [.aload 0, .instanceof 100, .aload 0, .instanceof 100, .getfield 602, .multianewarray 83 602, .astore 2, .aload 2, .ifnull 125, .aload 0, .instanceof 100, .getfield 603, .ifCond .eq 125, .aload 2, .getfield 406, .iconst 1, .if_icmp .ne 125, .aload 2, .getfield 400, .aload 0, .instanceof 100, .instanceof 604, .getfield 400, .if_icmp .ne 125, .iconst 1, .goto 126]),
  (125, 126, [.iconst 0]),
  (126, 137, [.istore 3, .iload 3, .ifCond .eq 137, .iload 1, .iconst 5, .iadd, .goto 138]),
  (137, 138, [.iload 1]),
  (138, 139, [.ireturn])]
/-- RowGrader$Grading.marksAtMost()I -/
def mc_27 : List (Nat × Nat × List Instr) := [
  (0, 14, [.aload 0, .instanceof 100, .getfield 603, .ifCond .eq 14, .iconst 5, .goto 15]),
  (14, 15, [.iconst 0]),
  (15, 18, [.istore 1, .iconst 1, .istore 2]),
  (18, 53, [.iload 2, .aload 0, .instanceof 100, .getfield 602, .if_icmp .gt 59, .aload 0, .instanceof 100, .iload 2, .multianewarray 83 602, .astore 3, .aload 3, .ifnull 53, .aload 3, .getfield 401, .iconst 1, .if_icmp .eq 53, .iinc 1 2]),
  (53, 59, [.iinc 2 1, .goto 18]),
  (59, 61, [.iload 1, .ireturn])]
/-- RowGrader$Grading.levelOf(I)I -/
def mc_28 : List (Nat × Nat × List Instr) := [
  (0, 27, [.aload 0, .instanceof 101, .iconst 5, .multianewarray 33 202, .aload 0, .instanceof 101, .iload 1, .multianewarray 32 202, .istore 2, .iload 2, .iconst 5, .if_icmp .le 27, .iconst (-5), .goto 28]),
  (27, 28, [.iload 2]),
  (28, 29, [.ireturn])]
/-- RowGrader$Grading.hintTo(I)I -/
def mc_29 : List (Nat × Nat × List Instr) := [
  (0, 13, [.aload 0, .getfield 110, .iload 1, .if_icmp .ne 13, .aload 0, .getfield 111, .ireturn]),
  (13, 31, [.aload 0, .iload 1, .putfield 110, .aload 0, .aload 0, .iload 1, .multianewarray 28 102, .ifCond .le 31, .iload 1, .goto 32]),
  (31, 32, [.iconst (-1)]),
  (32, 51, [.putfield 111, .aload 0, .instanceof 102, .aload 0, .instanceof 100, .getfield 600, .multianewarray 68 502, .iconst 0, .istore 2]),
  (51, 100, [.iload 2, .iconst 5, .if_icmp .ge 100, .aload 0, .getfield 111, .iconst (-1), .if_icmp .eq 100, .aload 0, .instanceof 101, .aload 0, .getfield 111, .multianewarray 32 202, .iconst 1, .if_icmp .le 100, .aload 0, .aload 0, .instanceof 102, .aload 0, .getfield 111, .multianewarray 78 502, .putfield 111, .iinc 2 1, .goto 51]),
  (100, 105, [.aload 0, .getfield 111, .ireturn])]
/-- RowGrader$Grading.factsOfLevel(I)I -/
def mc_30 : List (Nat × Nat × List Instr) := [
  (0, 17, [.aload 0, .instanceof 101, .iconst 5, .multianewarray 33 202, .aload 0, .instanceof 101, .iload 1, .multianewarray 53 202, .ireturn])]
/-- RowGrader$Levels.clear(I)V -/
def mc_31 : List (Nat × Nat × List Instr) := [
  (0, 18, [.aload 0, .iload 1, .putfield 203, .aload 0, .iload 1, .iload 1, .iconst 1, .isub, .imul, .iconst 2, .idiv, .putfield 204, .iconst 0, .istore 2]),
  (18, 39, [.iload 2, .iconst 1180, .if_icmp .ge 39, .aload 0, .instanceof 200, .iload 2, .iconst 6, .iastore, .iinc 2 1, .goto 18]),
  (39, 41, [.iconst 0, .istore 2]),
  (41, 59, [.iload 2, .iconst 5, .if_icmp .ge 59, .aload 0, .instanceof 202, .iload 2, .iconst 0, .iastore, .iinc 2 1, .goto 41]),
  (59, 60, [.return_])]
/-- RowGrader$Levels.at(I)I -/
def mc_32 : List (Nat × Nat × List Instr) := [
  (0, 11, [.iload 1, .ifCond .lt 11, .iload 1, .iconst 1180, .if_icmp .lt 16]),
  (11, 16, [.iconst 6, .goto 22]),
  (16, 22, [.aload 0, .instanceof 200, .iload 1, .iaload]),
  (22, 23, [.ireturn])]
/-- RowGrader$Levels.spread(I)V -/
def mc_33 : List (Nat × Nat × List Instr) := [
  (0, 2, [.iconst 0, .istore 2]),
  (2, 19, [.iload 2, .iload 1, .if_icmp .ge 81, .iload 2, .iconst 5, .if_icmp .ge 81, .aload 0, .iload 2, .putfield 205, .iconst 0, .istore 3]),
  (19, 62, [.iload 3, .aload 0, .instanceof 202, .iload 2, .iaload, .if_icmp .ge 68, .iload 3, .iconst 910, .if_icmp .ge 68, .aload 0, .instanceof 201, .iload 2, .aaload, .iload 3, .iaload, .istore 4, .aload 0, .iload 4, .multianewarray 32 202, .iload 2, .if_icmp .ne 62, .aload 0, .iload 4, .multianewarray 34 202]),
  (62, 68, [.iinc 3 1, .goto 19]),
  (68, 81, [.aload 0, .instanceof 202, .iload 2, .iconst 0, .iastore, .iinc 2 1, .goto 2]),
  (81, 82, [.return_])]
/-- RowGrader$Levels.use(I)V -/
def mc_34 : List (Nat × Nat × List Instr) := [
  (0, 44, [.iload 1, .invokeinterface 203 1, .tableswitch 102 0 5 #[44, 54, 62, 70, 78, 90]]),
  (44, 54, [.aload 0, .iload 1, .iconst 0, .isub, .multianewarray 35 202, .goto 111]),
  (54, 62, [.aload 0, .iload 1, .multianewarray 39 202, .goto 111]),
  (62, 70, [.aload 0, .iload 1, .multianewarray 43 202, .goto 111]),
  (70, 78, [.aload 0, .iload 1, .multianewarray 45 202, .goto 111]),
  (78, 90, [.aload 0, .iload 1, .iconst 758, .isub, .multianewarray 48 202, .goto 111]),
  (90, 102, [.aload 0, .iload 1, .iconst 905, .isub, .multianewarray 50 202, .goto 111]),
  (102, 111, [.aload 0, .iload 1, .iconst 1033, .isub, .multianewarray 51 202]),
  (111, 112, [.return_])]
/-- RowGrader$Levels.useLine(I)V -/
def mc_35 : List (Nat × Nat × List Instr) := [
  (0, 2, [.iconst 0, .istore 2]),
  (2, 29, [.iload 2, .aload 0, .getfield 203, .if_icmp .ge 128, .iload 1, .iload 2, .ishr, .iconst 1, .iand, .ifCond .ne 29, .aload 0, .iload 1, .iconst 1, .iload 2, .ishl, .multianewarray 36 203, .goto 122]),
  (29, 98, [.iload 1, .iconst 1, .iload 2, .ishl, .ixor, .istore 3, .iload 3, .invokeinterface 219 1, .istore 4, .iload 3, .iload 3, .iconst 1, .isub, .iand, .invokeinterface 219 1, .istore 5, .aload 0, .iconst 548, .iload 2, .iload 4, .invokeinterface 215 2, .iload 2, .iload 5, .invokeinterface 215 2, .invokeinterface 216 3, .multianewarray 32 202, .istore 6, .iload 6, .iconst 5, .if_icmp .ge 98, .aload 0, .iconst 758, .iload 2, .iload 4, .iload 5, .invokeinterface 217 4, .iload 6, .multianewarray 37 203]),
  (98, 122, [.aload 0, .iconst 128, .iload 4, .iload 5, .iload 2, .multianewarray 38 205, .aload 0, .iconst 338, .iload 4, .iload 5, .iload 2, .multianewarray 38 205]),
  (122, 128, [.iinc 2 1, .goto 2]),
  (128, 129, [.return_])]
/-- RowGrader$Levels.lengthen(II)V -/
def mc_36 : List (Nat × Nat × List Instr) := [
  (0, 2, [.iconst 0, .istore 3]),
  (2, 28, [.iload 3, .aload 0, .getfield 203, .if_icmp .ge 94, .iload 1, .iconst 1, .iload 3, .ishl, .iconst (-1), .ixor, .iand, .istore 4, .iload 4, .iload 1, .if_icmp .ne 28, .goto 88]),
  (28, 49, [.aload 0, .iconst 0, .iload 4, .iload 2, .ior, .iadd, .multianewarray 32 202, .istore 5, .iload 5, .iconst 5, .if_icmp .lt 49, .goto 88]),
  (49, 88, [.iload 4, .iload 4, .ineg, .iand, .istore 6, .aload 0, .iconst 0, .iload 1, .iload 6, .ixor, .iload 2, .ior, .iadd, .iload 5, .multianewarray 37 203, .aload 0, .iconst 0, .iload 1, .iload 4, .ixor, .iload 6, .ixor, .iload 2, .ior, .iadd, .iload 5, .multianewarray 37 203]),
  (88, 94, [.iinc 3 1, .goto 2]),
  (94, 95, [.return_])]
/-- RowGrader$Levels.offer(II)V -/
def mc_37 : List (Nat × Nat × List Instr) := [
  (0, 13, [.iconst 1, .aload 0, .getfield 205, .iload 2, .if_icmp .ge 13, .iload 2, .goto 17]),
  (13, 17, [.aload 0, .getfield 205]),
  (17, 40, [.iadd, .istore 3, .iload 1, .ifCond .lt 40, .iload 1, .iconst 1180, .if_icmp .ge 40, .iload 3, .aload 0, .instanceof 200, .iload 1, .iaload, .if_icmp .lt 41]),
  (40, 41, [.return_]),
  (41, 57, [.aload 0, .instanceof 200, .iload 1, .iload 3, .iastore, .iload 3, .ifCond .lt 57, .iload 3, .iconst 5, .if_icmp .lt 58]),
  (57, 58, [.return_]),
  (58, 79, [.aload 0, .instanceof 202, .iload 3, .iaload, .istore 4, .iload 4, .ifCond .lt 79, .iload 4, .iconst 910, .if_icmp .lt 80]),
  (79, 80, [.return_]),
  (80, 101, [.aload 0, .instanceof 201, .iload 3, .aaload, .iload 4, .iload 1, .iastore, .aload 0, .instanceof 202, .iload 3, .iload 4, .iconst 1, .iadd, .iastore, .return_])]
/-- RowGrader$Levels.slideOver(IIII)V -/
def mc_38 : List (Nat × Nat × List Instr) := [
  (0, 10, [.iload 2, .iload 3, .invokeinterface 215 2, .istore 5, .iconst 0, .istore 6]),
  (10, 42, [.iload 6, .aload 0, .getfield 204, .if_icmp .ge 84, .aload 0, .iload 1, .iload 5, .iload 6, .invokeinterface 216 3, .multianewarray 32 202, .istore 7, .iload 7, .iconst 5, .if_icmp .lt 42, .goto 78]),
  (42, 78, [.aload 0, .iload 1, .iload 2, .iload 4, .invokeinterface 215 2, .iload 6, .invokeinterface 216 3, .iload 7, .multianewarray 37 203, .aload 0, .iload 1, .iload 3, .iload 4, .invokeinterface 215 2, .iload 6, .invokeinterface 216 3, .iload 7, .multianewarray 37 203]),
  (78, 84, [.iinc 6 1, .goto 10]),
  (84, 85, [.return_])]
/-- RowGrader$Levels.usePar(I)V -/
def mc_39 : List (Nat × Nat × List Instr) := [
  (0, 109, [.iload 1, .invokeinterface 211 1, .istore 2, .iload 1, .iload 2, .invokeinterface 212 2, .istore 3, .aload 0, .iload 3, .iload 2, .iconst 128, .iconst 128, .multianewarray 40 205, .aload 0, .iload 2, .iload 3, .iconst 128, .iconst 128, .multianewarray 40 205, .aload 0, .iload 3, .iload 2, .iconst 338, .iconst 338, .multianewarray 40 205, .aload 0, .iload 2, .iload 3, .iconst 338, .iconst 338, .multianewarray 40 205, .aload 0, .iconst 128, .iload 3, .iload 2, .multianewarray 41 204, .aload 0, .iconst 128, .iload 2, .iload 3, .multianewarray 41 204, .iload 3, .invokeinterface 42 1, .iload 2, .invokeinterface 42 1, .ior, .istore 4, .iload 4, .invokeinterface 220 1, .iconst 3, .if_icmp .ne 109, .aload 0, .iconst 0, .iload 4, .iadd, .aload 0, .getfield 205, .multianewarray 37 203]),
  (109, 110, [.return_])]
/-- RowGrader$Levels.chain(IIII)V -/
def mc_40 : List (Nat × Nat × List Instr) := [
  (0, 3, [.iconst 0, .istore 5]),
  (3, 45, [.iload 5, .aload 0, .getfield 204, .if_icmp .ge 51, .aload 0, .iload 3, .iload 2, .iload 5, .invokeinterface 216 3, .multianewarray 32 202, .istore 6, .iload 6, .iconst 5, .if_icmp .ge 45, .aload 0, .iload 4, .iload 1, .iload 5, .invokeinterface 216 3, .iload 6, .multianewarray 37 203]),
  (45, 51, [.iinc 5 1, .goto 3]),
  (51, 52, [.return_])]
/-- RowGrader$Levels.slide(III)V -/
def mc_41 : List (Nat × Nat × List Instr) := [
  (0, 15, [.iload 2, .invokeinterface 208 1, .istore 4, .iload 2, .invokeinterface 209 1, .istore 5, .iconst 0, .istore 6]),
  (15, 48, [.iload 6, .aload 0, .getfield 203, .if_icmp .ge 90, .aload 0, .iload 4, .iload 5, .iload 6, .invokeinterface 214 3, .multianewarray 32 202, .istore 7, .iload 7, .iconst 5, .if_icmp .lt 48, .goto 84]),
  (48, 84, [.aload 0, .iload 1, .iload 4, .iload 6, .invokeinterface 215 2, .iload 3, .invokeinterface 216 3, .iload 7, .multianewarray 37 203, .aload 0, .iload 1, .iload 5, .iload 6, .invokeinterface 215 2, .iload 3, .invokeinterface 216 3, .iload 7, .multianewarray 37 203]),
  (84, 90, [.iinc 6 1, .goto 15]),
  (90, 91, [.return_])]
/-- RowGrader$Levels.maskOf(I)I -/
def mc_42 : List (Nat × Nat × List Instr) := [
  (0, 14, [.iconst 1, .iload 0, .invokeinterface 208 1, .ishl, .iconst 1, .iload 0, .invokeinterface 209 1, .ishl, .ior, .ireturn])]
/-- RowGrader$Levels.usePerp(I)V -/
def mc_43 : List (Nat × Nat × List Instr) := [
  (0, 130, [.iload 1, .invokeinterface 211 1, .istore 2, .iload 1, .iload 2, .invokeinterface 212 2, .istore 3, .aload 0, .iload 3, .iload 2, .iconst 338, .iconst 128, .multianewarray 40 205, .aload 0, .iload 2, .iload 3, .iconst 338, .iconst 128, .multianewarray 40 205, .aload 0, .iload 3, .iload 2, .iconst 128, .iconst 338, .multianewarray 40 205, .aload 0, .iload 2, .iload 3, .iconst 128, .iconst 338, .multianewarray 40 205, .aload 0, .iconst 338, .iload 3, .iload 2, .multianewarray 41 204, .aload 0, .iconst 338, .iload 2, .iload 3, .multianewarray 41 204, .aload 0, .iload 3, .invokeinterface 208 1, .iload 3, .invokeinterface 209 1, .iload 2, .multianewarray 44 204, .aload 0, .iload 3, .invokeinterface 209 1, .iload 3, .invokeinterface 208 1, .iload 2, .multianewarray 44 204, .aload 0, .iload 2, .invokeinterface 208 1, .iload 2, .invokeinterface 209 1, .iload 3, .multianewarray 44 204, .aload 0, .iload 2, .invokeinterface 209 1, .iload 2, .invokeinterface 208 1, .iload 3, .multianewarray 44 204, .return_])]
/-- RowGrader$Levels.standOnMiddle(III)V -/
def mc_44 : List (Nat × Nat × List Instr) := [
  (0, 59, [.iload 3, .invokeinterface 208 1, .istore 4, .iload 3, .invokeinterface 209 1, .istore 5, .aload 0, .iconst 758, .iload 1, .iload 4, .iload 5, .invokeinterface 217 4, .multianewarray 32 202, .istore 6, .iload 6, .iconst 5, .if_icmp .ge 59, .aload 0, .iconst 548, .iload 2, .iload 4, .invokeinterface 215 2, .iload 2, .iload 5, .invokeinterface 215 2, .invokeinterface 216 3, .iload 6, .multianewarray 37 203]),
  (59, 60, [.return_])]
/-- RowGrader$Levels.useEq(I)V -/
def mc_45 : List (Nat × Nat × List Instr) := [
  (0, 52, [.iload 1, .invokeinterface 211 1, .istore 2, .iload 1, .iload 2, .invokeinterface 212 2, .istore 3, .aload 0, .iload 3, .iload 2, .iconst 548, .iconst 548, .multianewarray 40 205, .aload 0, .iload 2, .iload 3, .iconst 548, .iconst 548, .multianewarray 40 205, .iload 3, .invokeinterface 42 1, .iload 2, .invokeinterface 42 1, .iand, .istore 4, .iload 4, .ifCond .ne 52, .return_]),
  (52, 122, [.iload 4, .invokeinterface 219 1, .istore 5, .iload 3, .invokeinterface 42 1, .iload 4, .ixor, .invokeinterface 219 1, .istore 6, .iload 2, .invokeinterface 42 1, .iload 4, .ixor, .invokeinterface 219 1, .istore 7, .aload 0, .iload 5, .iload 6, .iload 7, .invokeinterface 214 3, .multianewarray 32 202, .istore 8, .iload 8, .iconst 5, .if_icmp .ge 122, .aload 0, .iconst 758, .iload 5, .iload 6, .iload 7, .invokeinterface 217 4, .iload 8, .multianewarray 37 203]),
  (122, 153, [.aload 0, .iload 5, .iload 6, .iload 7, .multianewarray 46 204, .aload 0, .iload 5, .iload 6, .iload 7, .multianewarray 47 204, .aload 0, .iload 5, .iload 7, .iload 6, .multianewarray 47 204, .return_])]
/-- RowGrader$Levels.standUpright(III)V -/
def mc_46 : List (Nat × Nat × List Instr) := [
  (0, 3, [.iconst 0, .istore 4]),
  (3, 65, [.iload 4, .aload 0, .getfield 203, .if_icmp .ge 71, .aload 0, .iconst 548, .iload 2, .iload 4, .invokeinterface 215 2, .iload 3, .iload 4, .invokeinterface 215 2, .invokeinterface 216 3, .multianewarray 32 202, .istore 5, .iload 5, .iconst 5, .if_icmp .ge 65, .aload 0, .iconst 338, .iload 2, .iload 3, .invokeinterface 215 2, .iload 1, .iload 4, .invokeinterface 215 2, .invokeinterface 216 3, .iload 5, .multianewarray 37 203]),
  (65, 71, [.iinc 4 1, .goto 3]),
  (71, 72, [.return_])]
/-- RowGrader$Levels.goRound(III)V -/
def mc_47 : List (Nat × Nat × List Instr) := [
  (0, 3, [.iconst 0, .istore 4]),
  (3, 44, [.iload 4, .aload 0, .getfield 203, .if_icmp .ge 164, .aload 0, .iconst 548, .iload 1, .iload 3, .invokeinterface 215 2, .iload 1, .iload 4, .invokeinterface 215 2, .invokeinterface 216 3, .multianewarray 32 202, .istore 5, .iload 5, .iconst 5, .if_icmp .lt 44, .goto 158]),
  (44, 47, [.iconst 0, .istore 6]),
  (47, 115, [.iload 6, .aload 0, .getfield 203, .if_icmp .ge 158, .aload 0, .iconst 548, .iload 1, .iload 4, .invokeinterface 215 2, .iload 1, .iload 6, .invokeinterface 215 2, .invokeinterface 216 3, .multianewarray 32 202, .istore 7, .aload 0, .iconst 548, .iload 1, .iload 2, .invokeinterface 215 2, .iload 1, .iload 6, .invokeinterface 215 2, .invokeinterface 216 3, .multianewarray 32 202, .istore 8, .iload 7, .iload 8, .if_icmp .ge 115, .iload 7, .goto 117]),
  (115, 117, [.iload 8]),
  (117, 147, [.istore 9, .iload 9, .iconst 5, .if_icmp .ge 152, .aload 0, .iload 2, .iload 3, .iload 4, .iload 6, .invokeinterface 218 4, .iload 5, .iload 9, .if_icmp .ge 147, .iload 9, .goto 149]),
  (147, 149, [.iload 5]),
  (149, 152, [.multianewarray 37 203]),
  (152, 158, [.iinc 6 1, .goto 47]),
  (158, 164, [.iinc 4 1, .goto 3]),
  (164, 165, [.return_])]
/-- RowGrader$Levels.useMid(I)V -/
def mc_48 : List (Nat × Nat × List Instr) := [
  (0, 88, [.iload 1, .iconst 21, .idiv, .istore 2, .iload 1, .iconst 21, .irem, .istore 3, .iload 3, .invokeinterface 208 1, .istore 4, .iload 3, .invokeinterface 209 1, .istore 5, .aload 0, .iconst 548, .iload 2, .iload 4, .invokeinterface 215 2, .iload 2, .iload 5, .invokeinterface 215 2, .invokeinterface 216 3, .aload 0, .getfield 205, .multianewarray 37 203, .aload 0, .iconst 1033, .iload 2, .iload 4, .iload 5, .invokeinterface 217 4, .aload 0, .getfield 205, .multianewarray 37 203, .aload 0, .iload 2, .iload 4, .iload 5, .multianewarray 49 204, .aload 0, .iload 2, .iload 5, .iload 4, .multianewarray 49 204, .iconst 0, .istore 6]),
  (88, 148, [.iload 6, .aload 0, .getfield 203, .if_icmp .ge 154, .aload 0, .iconst 338, .iload 2, .iload 6, .invokeinterface 215 2, .iload 3, .invokeinterface 216 3, .multianewarray 32 202, .istore 7, .iload 7, .iconst 5, .if_icmp .ge 148, .aload 0, .iconst 548, .iload 6, .iload 4, .invokeinterface 215 2, .iload 6, .iload 5, .invokeinterface 215 2, .invokeinterface 216 3, .iload 7, .multianewarray 37 203]),
  (148, 154, [.iinc 6 1, .goto 88]),
  (154, 155, [.return_])]
/-- RowGrader$Levels.joinMiddles(III)V -/
def mc_49 : List (Nat × Nat × List Instr) := [
  (0, 3, [.iconst 0, .istore 4]),
  (3, 15, [.iload 4, .aload 0, .getfield 203, .if_icmp .ge 83, .iconst 0, .istore 5]),
  (15, 71, [.iload 5, .aload 0, .getfield 203, .if_icmp .ge 77, .aload 0, .iconst 758, .iload 5, .iload 2, .iload 4, .invokeinterface 217 4, .multianewarray 32 202, .istore 6, .iload 6, .iconst 5, .if_icmp .ge 71, .aload 0, .iconst 128, .iload 1, .iload 5, .invokeinterface 215 2, .iload 3, .iload 4, .invokeinterface 215 2, .invokeinterface 216 3, .iload 6, .multianewarray 37 203]),
  (71, 77, [.iinc 5 1, .goto 15]),
  (77, 83, [.iinc 4 1, .goto 3]),
  (83, 84, [.return_])]
/-- RowGrader$Levels.useCircle(I)V -/
def mc_50 : List (Nat × Nat × List Instr) := [
  (0, 2, [.iconst 0, .istore 2]),
  (2, 22, [.iload 2, .aload 0, .getfield 203, .if_icmp .ge 141, .iload 1, .iload 2, .ishr, .iconst 1, .iand, .iconst 1, .if_icmp .ne 22, .goto 135]),
  (22, 31, [.iload 1, .iconst 1, .iload 2, .ishl, .ior, .istore 3, .iconst 0, .istore 4]),
  (31, 59, [.iload 4, .aload 0, .getfield 203, .if_icmp .ge 135, .iload 1, .iconst 1, .iload 4, .ishl, .iconst (-1), .ixor, .iand, .istore 5, .iload 5, .iload 1, .if_icmp .ne 59, .goto 129]),
  (59, 84, [.aload 0, .iconst 905, .iload 5, .iconst 1, .iload 2, .ishl, .ior, .iadd, .multianewarray 32 202, .istore 6, .iload 6, .iconst 5, .if_icmp .lt 84, .goto 129]),
  (84, 87, [.iconst 0, .istore 7]),
  (87, 123, [.iload 7, .aload 0, .getfield 203, .if_icmp .ge 129, .iload 5, .iload 7, .ishr, .iconst 1, .iand, .iconst 1, .if_icmp .ne 123, .aload 0, .iconst 905, .iload 3, .iconst 1, .iload 7, .ishl, .ixor, .iadd, .iload 6, .multianewarray 37 203]),
  (123, 129, [.iinc 7 1, .goto 87]),
  (129, 135, [.iinc 4 1, .goto 31]),
  (135, 141, [.iinc 2 1, .goto 2]),
  (141, 142, [.return_])]
/-- RowGrader$Levels.useBtw(I)V -/
def mc_51 : List (Nat × Nat × List Instr) := [
  (0, 31, [.iload 1, .iconst 21, .idiv, .istore 2, .iload 1, .iconst 21, .irem, .istore 3, .aload 0, .iload 2, .iload 3, .invokeinterface 208 1, .iload 3, .invokeinterface 209 1, .invokeinterface 214 3, .aload 0, .getfield 205, .multianewarray 37 203, .return_])]
/-- RowGrader$Levels.assume(I)V -/
def mc_52 : List (Nat × Nat × List Instr) := [
  (0, 12, [.aload 0, .iconst (-1), .putfield 205, .aload 0, .iload 1, .iconst (-1), .multianewarray 37 203, .return_])]
/-- RowGrader$Levels.countAt(I)I -/
def mc_53 : List (Nat × Nat × List Instr) := [
  (0, 4, [.iconst 0, .istore 2, .iconst 0, .istore 3]),
  (4, 24, [.iload 3, .iconst 1180, .if_icmp .ge 30, .aload 0, .instanceof 200, .iload 3, .iaload, .iload 1, .if_icmp .ne 24, .iinc 2 1]),
  (24, 30, [.iinc 3 1, .goto 4]),
  (30, 32, [.iload 2, .ireturn])]
/-- RowGrader$Reader.readWord()I -/
def mc_54 : List (Nat × Nat × List Instr) := [
  (0, 33, [.aload 0, .instanceof 301, .multianewarray 90 701, .aload 0, .instanceof 301, .multianewarray 91 701, .aload 0, .instanceof 301, .getfield 704, .iconst 1, .if_icmp .eq 33, .aload 0, .instanceof 301, .getfield 703, .ireturn]),
  (33, 49, [.aload 0, .aload 0, .instanceof 301, .getstatic 705, .checkcast 305, .aload 0, .multianewarray 55 301, .ireturn])]
/-- RowGrader$Reader.readEnd()I -/
def mc_55 : List (Nat × Nat × List Instr) := [
  (0, 21, [.aload 0, .instanceof 301, .multianewarray 91 701, .aload 0, .instanceof 301, .getfield 704, .ifCond .ne 21, .iconst (-1), .goto 28]),
  (21, 28, [.aload 0, .instanceof 301, .getfield 703]),
  (28, 29, [.ireturn])]
/-- RowGrader$Reader.readRow()I -/
def mc_56 : List (Nat × Nat × List Instr) := [
  (0, 14, [.aload 0, .multianewarray 57 301, .istore 1, .iload 1, .iconst (-1), .if_icmp .eq 14, .iload 1, .goto 18]),
  (14, 18, [.aload 0, .multianewarray 59 301]),
  (18, 19, [.ireturn])]
/-- RowGrader$Reader.readFact()I -/
def mc_57 : List (Nat × Nat × List Instr) := [
  (0, 37, [.aload 0, .instanceof 301, .multianewarray 90 701, .aload 0, .instanceof 301, .multianewarray 91 701, .aload 0, .instanceof 301, .getfield 703, .istore 1, .aload 0, .multianewarray 58 301, .istore 2, .iload 2, .ifCond .lt 37, .iload 2, .iconst 7, .if_icmp .lt 39]),
  (37, 39, [.iload 1, .ireturn]),
  (39, 54, [.iload 2, .invokeinterface 204 1, .istore 3, .aload 0, .instanceof 303, .iconst 3, .iconst 0, .iastore, .iconst 0, .istore 4]),
  (54, 107, [.iload 4, .iload 3, .if_icmp .ge 136, .iload 4, .aload 0, .instanceof 303, .arraylength, .if_icmp .ge 136, .aload 0, .instanceof 301, .multianewarray 91 701, .aload 0, .instanceof 301, .getfield 704, .iconst 2, .if_icmp .ne 107, .aload 0, .instanceof 301, .getstatic 705, .aload 0, .instanceof 300, .getfield 600, .i2l, .lcmp, .ifCond .lt 115]),
  (107, 115, [.aload 0, .instanceof 301, .getfield 703, .ireturn]),
  (115, 136, [.aload 0, .instanceof 303, .iload 4, .aload 0, .instanceof 301, .getstatic 705, .l2i, .iastore, .iinc 4 1, .goto 54]),
  (136, 174, [.iload 2, .aload 0, .instanceof 303, .iconst 0, .iaload, .aload 0, .instanceof 303, .iconst 1, .iaload, .aload 0, .instanceof 303, .iconst 2, .iaload, .aload 0, .instanceof 303, .iconst 3, .iaload, .invokeinterface 213 5, .istore 4, .iload 4, .iconst (-1), .if_icmp .ne 174, .iload 1, .ireturn]),
  (174, 185, [.aload 0, .instanceof 304, .iload 4, .multianewarray 63 402, .iconst (-1), .ireturn])]
/-- RowGrader$Reader.wordAtHand()I -/
def mc_58 : List (Nat × Nat × List Instr) := [
  (0, 35, [.aload 0, .instanceof 301, .getfield 704, .iconst 1, .if_icmp .ne 35, .aload 0, .instanceof 302, .aload 0, .instanceof 302, .getfield 801, .aload 0, .instanceof 301, .getstatic 705, .multianewarray 94 803, .goto 36]),
  (35, 36, [.iconst (-1)]),
  (36, 37, [.ireturn])]
/-- RowGrader$Reader.readReason()I -/
def mc_59 : List (Nat × Nat × List Instr) := [
  (0, 19, [.aload 0, .instanceof 301, .multianewarray 91 701, .aload 0, .instanceof 301, .getfield 704, .ifCond .ne 19, .iconst (-1), .ireturn]),
  (19, 48, [.aload 0, .multianewarray 58 301, .tableswitch 87 7 9 #[48, 61, 74]]),
  (48, 61, [.aload 0, .instanceof 304, .iconst 1, .putfield 401, .aload 0, .multianewarray 55 301, .ireturn]),
  (61, 74, [.aload 0, .instanceof 304, .iconst 2, .putfield 401, .aload 0, .multianewarray 55 301, .ireturn]),
  (74, 87, [.aload 0, .instanceof 304, .iconst 3, .putfield 401, .aload 0, .multianewarray 60 301, .ireturn]),
  (87, 95, [.aload 0, .instanceof 301, .getfield 703, .ireturn])]
/-- RowGrader$Reader.readRule()I -/
def mc_60 : List (Nat × Nat × List Instr) := [
  (0, 32, [.aload 0, .instanceof 301, .multianewarray 91 701, .aload 0, .instanceof 301, .getfield 704, .iconst 3, .if_icmp .ne 32, .aload 0, .instanceof 301, .getstatic 705, .sipush 17, .lcmp, .ifCond .lt 40]),
  (32, 40, [.aload 0, .instanceof 301, .getfield 703, .ireturn]),
  (40, 74, [.aload 0, .instanceof 304, .aload 0, .instanceof 301, .getstatic 705, .l2i, .putfield 402, .aload 0, .instanceof 301, .multianewarray 91 701, .aload 0, .instanceof 301, .getfield 704, .ifCond .ne 74, .iconst (-1), .ireturn]),
  (74, 90, [.aload 0, .multianewarray 58 301, .iconst 10, .if_icmp .ne 90, .aload 0, .multianewarray 61 301, .goto 97]),
  (90, 97, [.aload 0, .instanceof 301, .getfield 703]),
  (97, 98, [.ireturn])]
/-- RowGrader$Reader.readRowsOf()I -/
def mc_61 : List (Nat × Nat × List Instr) := [
  (0, 2, [.iconst 0, .istore 1]),
  (2, 31, [.iload 1, .iconst 6, .if_icmp .ge 83, .aload 0, .instanceof 301, .multianewarray 91 701, .iload 1, .ifCond .le 31, .aload 0, .instanceof 301, .getfield 704, .ifCond .ne 31, .iconst (-1), .ireturn]),
  (31, 54, [.aload 0, .instanceof 301, .getfield 704, .iconst 3, .if_icmp .ne 54, .aload 0, .instanceof 301, .getstatic 705, .sipush 1, .lcmp, .ifCond .ge 62]),
  (54, 62, [.aload 0, .instanceof 301, .getfield 703, .ireturn]),
  (62, 83, [.aload 0, .instanceof 304, .aload 0, .instanceof 301, .getstatic 705, .l2i, .multianewarray 64 402, .iinc 1 1, .goto 2]),
  (83, 88, [.aload 0, .multianewarray 55 301, .ireturn])]
/-- RowGrader$Reader.readGoal()I -/
def mc_62 : List (Nat × Nat × List Instr) := [
  (0, 14, [.aload 0, .multianewarray 57 301, .istore 1, .iload 1, .iconst (-1), .if_icmp .eq 14, .iload 1, .goto 18]),
  (14, 18, [.aload 0, .multianewarray 55 301]),
  (18, 19, [.ireturn])]
/-- RowGrader$Row.restart(I)V -/
def mc_63 : List (Nat × Nat × List Instr) := [
  (0, 22, [.aload 0, .iload 1, .putfield 400, .aload 0, .iconst 0, .putfield 401, .aload 0, .iconst (-5), .putfield 402, .aload 0, .iconst 0, .putfield 403, .return_])]
/-- RowGrader$Row.addOf(I)V -/
def mc_64 : List (Nat × Nat × List Instr) := [
  (0, 16, [.aload 0, .getfield 403, .ifCond .lt 16, .aload 0, .getfield 403, .iconst 6, .if_icmp .lt 17]),
  (16, 17, [.return_]),
  (17, 38, [.aload 0, .instanceof 404, .aload 0, .getfield 403, .iload 1, .iastore, .aload 0, .dup, .getfield 403, .iconst 1, .iadd, .putfield 403, .return_])]
/-- RowGrader$Row.take(LRowGrader$Row;)V -/
def mc_65 : List (Nat × Nat × List Instr) := [
  (0, 48, [.aload 0, .aload 1, .getfield 400, .putfield 400, .aload 0, .aload 1, .getfield 401, .putfield 401, .aload 0, .aload 1, .getfield 402, .putfield 402, .aload 0, .aload 1, .getfield 403, .putfield 403, .aload 1, .instanceof 404, .iconst 0, .aload 0, .instanceof 404, .iconst 0, .iconst 6, .monitorenter, .return_])]
/-- RowGrader$Row.ofAt(I)I -/
def mc_66 : List (Nat × Nat × List Instr) := [
  (0, 18, [.iload 1, .ifCond .lt 18, .iload 1, .aload 0, .getfield 403, .if_icmp .ge 18, .iload 1, .iconst 6, .if_icmp .lt 22]),
  (18, 22, [.iconst 0, .goto 28]),
  (22, 28, [.aload 0, .instanceof 404, .iload 1, .iaload]),
  (28, 29, [.ireturn])]
/-- RowGrader$Row.ungrade()V -/
def mc_67 : List (Nat × Nat × List Instr) := [
  (0, 27, [.aload 0, .iconst 0, .putfield 405, .aload 0, .iconst 0, .putfield 406, .aload 0, .iconst 0, .putfield 407, .aload 0, .iconst 0, .putfield 408, .aload 0, .iconst (-5), .putfield 409, .return_])]
/-- RowGrader$Search.restart(I)V -/
def mc_68 : List (Nat × Nat × List Instr) := [
  (0, 11, [.aload 0, .iload 1, .putfield 505, .aload 0, .iconst 0, .putfield 503, .return_])]
/-- RowGrader$Search.list(I)V -/
def mc_69 : List (Nat × Nat × List Instr) := [
  (0, 16, [.aload 0, .getfield 503, .ifCond .lt 16, .aload 0, .getfield 503, .iconst 6, .if_icmp .lt 17]),
  (16, 17, [.return_]),
  (17, 38, [.aload 0, .instanceof 502, .aload 0, .getfield 503, .iload 1, .iastore, .aload 0, .dup, .getfield 503, .iconst 1, .iadd, .putfield 503, .return_])]
/-- RowGrader$Search.followsFromListed(II)Z -/
def mc_70 : List (Nat × Nat × List Instr) := [
  (0, 16, [.aload 0, .iload 1, .putfield 506, .aload 0, .iconst 0, .putfield 507, .aload 0, .iload 2, .multianewarray 71 502, .freturn])]
/-- RowGrader$Search.findLetters(I)Z -/
def mc_71 : List (Nat × Nat × List Instr) := [
  (0, 10, [.aload 0, .iload 1, .multianewarray 72 502, .ifCond .ne 10, .iconst 0, .freturn]),
  (10, 31, [.aload 0, .getfield 509, .iconst 5, .invokeinterface 73 2, .istore 2, .iconst 0, .istore 3, .aload 0, .instanceof 501, .iconst 0, .iconst (-1), .iastore, .iconst 0, .istore 4]),
  (31, 77, [.iload 4, .iconst 1000000, .if_icmp .ge 133, .iload 3, .ifCond .lt 133, .iload 3, .iconst 6, .if_icmp .ge 133, .aload 0, .instanceof 501, .iload 3, .dup2, .iaload, .iconst 1, .iadd, .iastore, .aload 0, .instanceof 501, .iload 3, .iaload, .aload 0, .getfield 505, .if_icmp .lt 77, .iinc 3 (-1), .goto 127]),
  (77, 111, [.aload 0, .instanceof 504, .iload 3, .iaload, .aload 0, .instanceof 501, .iload 3, .iaload, .ishr, .iconst 1, .iand, .iconst 1, .if_icmp .ne 127, .aload 0, .iload 3, .multianewarray 74 502, .ifCond .eq 127, .iload 3, .iload 2, .if_icmp .ne 111, .iconst 1, .freturn]),
  (111, 127, [.iinc 3 1, .iload 3, .iconst 6, .if_icmp .ge 127, .aload 0, .instanceof 501, .iload 3, .iconst (-1), .iastore]),
  (127, 133, [.iinc 4 1, .goto 31]),
  (133, 135, [.iconst 0, .freturn])]
/-- RowGrader$Search.isRuleFor(I)Z -/
def mc_72 : List (Nat × Nat × List Instr) := [
  (0, 14, [.iload 1, .ifCond .lt 14, .iload 1, .iconst 1, .iadd, .anewarray 1004, .arraylength, .if_icmp .lt 16]),
  (14, 16, [.iconst 0, .freturn]),
  (16, 60, [.aload 0, .anewarray 1004, .iload 1, .iaload, .putfield 508, .aload 0, .anewarray 1004, .iload 1, .iconst 1, .iadd, .iaload, .iconst 1, .isub, .putfield 509, .aload 0, .getfield 506, .invokeinterface 203 1, .istore 2, .aload 0, .getfield 509, .iconst 0, .invokeinterface 73 2, .iload 2, .if_icmp .eq 60, .iconst 0, .freturn]),
  (60, 65, [.iconst 0, .istore 3, .iconst 0, .istore 4]),
  (65, 94, [.iload 4, .iload 2, .invokeinterface 204 1, .if_icmp .ge 94, .iload 3, .iconst 1, .aload 0, .getfield 506, .iload 4, .invokeinterface 205 2, .ishl, .ior, .istore 3, .iinc 4 1, .goto 65]),
  (94, 97, [.iconst 0, .istore 4]),
  (97, 118, [.iload 4, .iconst 6, .if_icmp .ge 118, .aload 0, .instanceof 504, .iload 4, .iconst (-1), .iastore, .iinc 4 1, .goto 97]),
  (118, 121, [.iconst 1, .istore 4]),
  (121, 161, [.iload 4, .iload 2, .invokeinterface 204 1, .if_icmp .gt 167, .aload 0, .getfield 509, .iload 4, .invokeinterface 73 2, .istore 5, .iload 5, .ifCond .lt 161, .iload 5, .iconst 6, .if_icmp .ge 161, .aload 0, .instanceof 504, .iload 5, .iload 3, .iastore]),
  (161, 167, [.iinc 4 1, .goto 121]),
  (167, 169, [.iconst 1, .freturn])]
/-- RowGrader$Search.partAt(II)I -/
def mc_73 : List (Nat × Nat × List Instr) := [
  (0, 19, [.iload 0, .iconst 6, .imul, .iload 1, .iadd, .istore 2, .iload 2, .ifCond .lt 19, .iload 2, .anewarray 1003, .arraylength, .if_icmp .lt 23]),
  (19, 23, [.iconst 0, .goto 28]),
  (23, 28, [.anewarray 1003, .iload 2, .iaload]),
  (28, 29, [.ireturn])]
/-- RowGrader$Search.partsStand(I)Z -/
def mc_74 : List (Nat × Nat × List Instr) := [
  (0, 5, [.aload 0, .getfield 508, .istore 2]),
  (5, 25, [.iload 2, .aload 0, .getfield 509, .if_icmp .gt 66, .iload 2, .iconst 5, .invokeinterface 73 2, .iload 1, .if_icmp .eq 25, .goto 60]),
  (25, 50, [.aload 0, .iload 2, .multianewarray 75 502, .istore 3, .iload 2, .aload 0, .getfield 509, .if_icmp .ne 50, .iload 3, .aload 0, .getfield 506, .if_icmp .eq 60, .goto 58]),
  (50, 58, [.aload 0, .iload 3, .multianewarray 77 502, .ifCond .ne 60]),
  (58, 60, [.iconst 0, .freturn]),
  (60, 66, [.iinc 2 1, .goto 5]),
  (66, 68, [.iconst 1, .freturn])]
/-- RowGrader$Search.factAt(I)I -/
def mc_75 : List (Nat × Nat × List Instr) := [
  (0, 35, [.iload 1, .iconst 0, .invokeinterface 73 2, .istore 2, .iload 2, .aload 0, .iload 1, .iconst 1, .multianewarray 76 503, .aload 0, .iload 1, .iconst 2, .multianewarray 76 503, .aload 0, .iload 1, .iconst 3, .multianewarray 76 503, .aload 0, .iload 1, .iconst 4, .multianewarray 76 503, .invokeinterface 213 5, .ireturn])]
/-- RowGrader$Search.pointAt(II)I -/
def mc_76 : List (Nat × Nat × List Instr) := [
  (0, 16, [.iload 1, .iload 2, .invokeinterface 73 2, .istore 3, .iload 3, .ifCond .lt 16, .iload 3, .iconst 6, .if_icmp .lt 20]),
  (16, 20, [.iconst 0, .goto 26]),
  (20, 26, [.aload 0, .instanceof 501, .iload 3, .iaload]),
  (26, 27, [.ireturn])]
/-- RowGrader$Search.isKnown(I)Z -/
def mc_77 : List (Nat × Nat × List Instr) := [
  (0, 7, [.iload 1, .iconst (-1), .if_icmp .ne 7, .iconst 0, .freturn]),
  (7, 33, [.aload 0, .getfield 507, .ifCond .le 35, .aload 0, .instanceof 500, .iload 1, .multianewarray 32 202, .aload 0, .getfield 507, .if_icmp .ge 33, .iconst 1, .goto 34]),
  (33, 34, [.iconst 0]),
  (34, 35, [.freturn]),
  (35, 37, [.iconst 0, .istore 2]),
  (37, 63, [.iload 2, .aload 0, .getfield 503, .if_icmp .ge 69, .iload 2, .iconst 6, .if_icmp .ge 69, .aload 0, .instanceof 502, .iload 2, .iaload, .iload 1, .if_icmp .ne 63, .iconst 1, .freturn]),
  (63, 69, [.iinc 2 1, .goto 37]),
  (69, 71, [.iconst 0, .freturn])]
/-- RowGrader$Search.premiseOf(I)I -/
def mc_78 : List (Nat × Nat × List Instr) := [
  (0, 19, [.aload 0, .iload 1, .putfield 506, .aload 0, .aload 0, .instanceof 500, .iload 1, .multianewarray 32 202, .putfield 507, .iconst 0, .istore 2]),
  (19, 38, [.iload 2, .iconst 17, .if_icmp .ge 44, .aload 0, .iload 2, .multianewarray 71 502, .ifCond .eq 38, .aload 0, .multianewarray 79 501, .ireturn]),
  (38, 44, [.iinc 2 1, .goto 19]),
  (44, 46, [.iconst (-1), .ireturn])]
/-- RowGrader$Search.greatestPremise()I -/
def mc_79 : List (Nat × Nat × List Instr) := [
  (0, 7, [.iconst (-1), .istore 1, .aload 0, .getfield 508, .istore 2]),
  (7, 45, [.iload 2, .aload 0, .getfield 509, .if_icmp .ge 53, .aload 0, .iload 2, .multianewarray 75 502, .istore 3, .iload 1, .iconst (-1), .if_icmp .eq 45, .aload 0, .instanceof 500, .iload 3, .multianewarray 32 202, .aload 0, .instanceof 500, .iload 1, .multianewarray 32 202, .if_icmp .le 47]),
  (45, 47, [.iload 3, .istore 1]),
  (47, 53, [.iinc 2 1, .goto 7]),
  (53, 55, [.iload 1, .ireturn])]
/-- RowGrader$Sheet.figureAt(I)LRowGrader$Figure; -/
def mc_80 : List (Nat × Nat × List Instr) := [
  (0, 18, [.iload 1, .ifCond .lt 18, .iload 1, .aload 0, .getfield 601, .if_icmp .ge 18, .iload 1, .iconst 6, .if_icmp .lt 22]),
  (18, 22, [.aconst_null, .goto 28]),
  (22, 28, [.aload 0, .instanceof 606, .iload 1, .aaload]),
  (28, 29, [.areturn])]
/-- RowGrader$Sheet.hasPoint(I)Z -/
def mc_81 : List (Nat × Nat × List Instr) := [
  (0, 16, [.iload 1, .ifCond .lt 16, .iload 1, .aload 0, .getfield 600, .if_icmp .ge 16, .iconst 1, .goto 17]),
  (16, 17, [.iconst 0]),
  (17, 18, [.freturn])]
/-- RowGrader$Sheet.isGood(LRowGrader$Figure;)Z -/
def mc_82 : List (Nat × Nat × List Instr) := [
  (0, 13, [.aload 1, .aload 0, .getfield 600, .multianewarray 4 2, .ifCond .ne 13, .iconst 0, .freturn]),
  (13, 15, [.iconst 1, .istore 2]),
  (15, 54, [.iload 2, .aload 0, .getfield 602, .if_icmp .gt 60, .aload 0, .iload 2, .multianewarray 83 602, .astore 3, .aload 3, .ifnull 54, .aload 3, .getfield 401, .iconst 1, .if_icmp .ne 54, .aload 1, .aload 3, .getfield 400, .multianewarray 5 2, .ifCond .ne 54, .iconst 0, .freturn]),
  (54, 60, [.iinc 2 1, .goto 15]),
  (60, 62, [.iconst 1, .freturn])]
/-- RowGrader$Sheet.rowAt(I)LRowGrader$Row; -/
def mc_83 : List (Nat × Nat × List Instr) := [
  (0, 19, [.iload 1, .iconst 1, .if_icmp .lt 19, .iload 1, .aload 0, .getfield 602, .if_icmp .gt 19, .iload 1, .iconst 40, .if_icmp .le 23]),
  (19, 23, [.aconst_null, .goto 31]),
  (23, 31, [.aload 0, .instanceof 605, .iload 1, .iconst 1, .isub, .aaload]),
  (31, 32, [.areturn])]
/-- RowGrader$Sheet.factOf(IIIII)I -/
def mc_84 : List (Nat × Nat × List Instr) := [
  (0, 10, [.iload 1, .ifCond .lt 10, .iload 1, .iconst 7, .if_icmp .lt 12]),
  (10, 12, [.iconst (-1), .ireturn]),
  (12, 25, [.iload 1, .invokeinterface 204 1, .iconst 4, .if_icmp .ne 25, .iload 5, .goto 26]),
  (25, 26, [.iconst 0]),
  (26, 62, [.istore 6, .aload 0, .iload 2, .multianewarray 81 602, .ifCond .eq 62, .aload 0, .iload 3, .multianewarray 81 602, .ifCond .eq 62, .aload 0, .iload 4, .multianewarray 81 602, .ifCond .eq 62, .aload 0, .iload 6, .multianewarray 81 602, .ifCond .ne 64]),
  (62, 64, [.iconst (-1), .ireturn]),
  (64, 75, [.iload 1, .iload 2, .iload 3, .iload 4, .iload 6, .invokeinterface 213 5, .ireturn])]
/-- RowGrader$Sheet.add(LRowGrader$Row;)Z -/
def mc_85 : List (Nat × Nat × List Instr) := [
  (0, 16, [.aload 0, .getfield 602, .ifCond .lt 16, .aload 0, .getfield 602, .iconst 40, .if_icmp .lt 18]),
  (16, 18, [.iconst 0, .freturn]),
  (18, 34, [.aload 0, .instanceof 605, .aload 0, .getfield 602, .aaload, .astore 2, .aload 2, .ifnonnull 34, .iconst 0, .freturn]),
  (34, 51, [.aload 2, .aload 1, .multianewarray 65 402, .aload 0, .dup, .getfield 602, .iconst 1, .iadd, .putfield 602, .iconst 1, .freturn])]
/-- RowGrader$Sheet.aim(LRowGrader$Row;)V -/
def mc_86 : List (Nat × Nat × List Instr) := [
  (0, 14, [.aload 0, .instanceof 604, .aload 1, .multianewarray 65 402, .aload 0, .iconst 1, .putstatic 603, .return_])]
/-- RowGrader$Sheet.rowOrGoal(I)LRowGrader$Row; -/
def mc_87 : List (Nat × Nat × List Instr) := [
  (0, 18, [.iload 1, .ifCond .ne 20, .aload 0, .getfield 603, .ifCond .eq 18, .aload 0, .instanceof 604, .goto 19]),
  (18, 19, [.aconst_null]),
  (19, 20, [.areturn]),
  (20, 26, [.aload 0, .iload 1, .multianewarray 83 602, .areturn])]
/-- RowGrader$Tape.append(JI)V -/
def mc_88 : List (Nat × Nat × List Instr) := [
  (0, 5, [.iload 3, .iconst 1, .isub, .istore 4]),
  (5, 63, [.iload 4, .ifCond .lt 63, .aload 0, .getfield 701, .ifCond .lt 63, .aload 0, .getfield 701, .iconst 120, .if_icmp .ge 63, .aload 0, .instanceof 700, .aload 0, .getfield 701, .lload 1, .iconst 8, .iload 4, .imul, .lushr, .sipush 255, .land, .l2i, .iastore, .aload 0, .dup, .getfield 701, .iconst 1, .iadd, .putfield 701, .iinc 4 (-1), .goto 5]),
  (63, 64, [.return_])]
/-- RowGrader$Tape.empty()I -/
def mc_89 : List (Nat × Nat × List Instr) := [
  (0, 12, [.aload 0, .getfield 701, .istore 1, .aload 0, .iconst 0, .putfield 701, .iload 1, .ireturn])]
/-- RowGrader$Tape.rewind()V -/
def mc_90 : List (Nat × Nat × List Instr) := [
  (0, 6, [.aload 0, .iconst 0, .putfield 702, .return_])]
/-- RowGrader$Tape.next()V -/
def mc_91 : List (Nat × Nat × List Instr) := [
  (0, 47, [.aload 0, .getfield 702, .aload 0, .getfield 701, .if_icmp .ge 47, .aload 0, .getfield 702, .iconst 120, .if_icmp .ge 47, .aload 0, .instanceof 700, .aload 0, .getfield 702, .iaload, .iconst 32, .if_icmp .ne 47, .aload 0, .dup, .getfield 702, .iconst 1, .iadd, .putfield 702, .goto 0]),
  (47, 55, [.aload 0, .aload 0, .getfield 702, .putfield 703]),
  (55, 102, [.aload 0, .getfield 702, .aload 0, .getfield 701, .if_icmp .ge 102, .aload 0, .getfield 702, .iconst 120, .if_icmp .ge 102, .aload 0, .instanceof 700, .aload 0, .getfield 702, .iaload, .iconst 32, .if_icmp .eq 102, .aload 0, .dup, .getfield 702, .iconst 1, .iadd, .putfield 702, .goto 55]),
  (102, 129, [.aload 0, .getfield 702, .aload 0, .getfield 703, .isub, .istore 1, .aload 0, .sipush 0, .checkcast 705, .iload 1, .ifCond .ne 129, .aload 0, .iconst 0, .putfield 704, .goto 207]),
  (129, 154, [.iload 1, .iconst 8, .if_icmp .gt 154, .aload 0, .iconst 97, .iconst 122, .multianewarray 92 703, .ifCond .eq 154, .aload 0, .iconst 1, .putfield 704, .goto 207]),
  (154, 178, [.iload 1, .iconst 1, .if_icmp .ne 178, .aload 0, .iconst 65, .iconst 71, .multianewarray 92 703, .ifCond .eq 178, .aload 0, .iconst 2, .putfield 704, .goto 207]),
  (178, 202, [.iload 1, .iconst 3, .if_icmp .gt 202, .aload 0, .iconst 48, .iconst 57, .multianewarray 92 703, .ifCond .eq 202, .aload 0, .iconst 3, .putfield 704, .goto 207]),
  (202, 207, [.aload 0, .iconst 4, .putfield 704]),
  (207, 223, [.aload 0, .getfield 704, .iconst 1, .if_icmp .ne 223, .aload 0, .iconst 0, .iconst 256, .multianewarray 93 703]),
  (223, 238, [.aload 0, .getfield 704, .iconst 2, .if_icmp .ne 238, .aload 0, .iconst 65, .iconst 1, .multianewarray 93 703]),
  (238, 254, [.aload 0, .getfield 704, .iconst 3, .if_icmp .ne 254, .aload 0, .iconst 48, .iconst 10, .multianewarray 93 703]),
  (254, 255, [.return_])]
/-- RowGrader$Tape.allIn(II)Z -/
def mc_92 : List (Nat × Nat × List Instr) := [
  (0, 5, [.aload 0, .getfield 703, .istore 3]),
  (5, 39, [.iload 3, .aload 0, .getfield 702, .if_icmp .ge 47, .iload 3, .iconst 120, .if_icmp .ge 47, .aload 0, .instanceof 700, .iload 3, .iaload, .iload 1, .if_icmp .lt 39, .aload 0, .instanceof 700, .iload 3, .iaload, .iload 2, .if_icmp .le 41]),
  (39, 41, [.iconst 0, .freturn]),
  (41, 47, [.iinc 3 1, .goto 5]),
  (47, 49, [.iconst 1, .freturn])]
/-- RowGrader$Tape.readValue(II)V -/
def mc_93 : List (Nat × Nat × List Instr) := [
  (0, 5, [.aload 0, .getfield 703, .istore 3]),
  (5, 46, [.iload 3, .aload 0, .getfield 702, .if_icmp .ge 46, .iload 3, .iconst 120, .if_icmp .ge 46, .aload 0, .aload 0, .getstatic 705, .iload 2, .i2l, .lmul, .aload 0, .instanceof 700, .iload 3, .iaload, .iload 1, .isub, .i2l, .ladd, .checkcast 705, .iinc 3 1, .goto 5]),
  (46, 47, [.return_])]
/-- RowGrader$Words.find(IJ)I -/
def mc_94 : List (Nat × Nat × List Instr) := [
  (0, 3, [.iconst 0, .istore 4]),
  (3, 49, [.iload 4, .iconst 11, .if_icmp .ge 55, .iload 1, .iconst 11, .imul, .iload 4, .iadd, .istore 5, .iload 5, .ifCond .lt 49, .iload 5, .aload 0, .instanceof 800, .arraylength, .if_icmp .ge 49, .aload 0, .instanceof 800, .iload 5, .laload, .lload 2, .lcmp, .ifCond .ne 49, .iload 4, .ireturn]),
  (49, 55, [.iinc 4 1, .goto 3]),
  (55, 57, [.iconst (-1), .ireturn])]
/-- RowGrader$Words.set(IIJ)V -/
def mc_95 : List (Nat × Nat × List Instr) := [
  (0, 31, [.iload 1, .iconst 11, .imul, .iload 2, .iadd, .istore 5, .iload 5, .ifCond .lt 31, .iload 5, .aload 0, .instanceof 800, .arraylength, .if_icmp .ge 31, .aload 0, .instanceof 800, .iload 5, .lload 3, .lastore]),
  (31, 32, [.return_])]
/-- RowGrader.points(I)I -/
def mc_96 : List (Nat × Nat × List Instr) := [
  (0, 11, [.iload 1, .iconst 2, .if_icmp .lt 11, .iload 1, .iconst 7, .if_icmp .le 14]),
  (11, 14, [.iconst (-2), .ireturn]),
  (14, 44, [.aload 0, .instanceof 900, .getfield 602, .ifCond .gt 44, .aload 0, .instanceof 900, .getfield 603, .ifCond .ne 44, .aload 0, .instanceof 900, .getfield 601, .ifCond .le 47]),
  (44, 47, [.iconst (-3), .ireturn]),
  (47, 65, [.aload 0, .instanceof 900, .iload 1, .putfield 600, .aload 0, .instanceof 904, .iconst 0, .putstatic 103, .iconst 1, .ireturn])]
/-- RowGrader.figure()I -/
def mc_97 : List (Nat × Nat × List Instr) := [
  (0, 13, [.aload 0, .instanceof 900, .getfield 600, .ifCond .ne 13, .iconst (-3), .ireturn]),
  (13, 28, [.aload 0, .instanceof 900, .getfield 601, .iconst 6, .if_icmp .lt 28, .iconst (-4), .ireturn]),
  (28, 59, [.aload 0, .instanceof 904, .iconst 0, .putstatic 103, .aload 0, .instanceof 900, .dup, .getfield 601, .iconst 1, .iadd, .putfield 601, .aload 0, .instanceof 900, .getfield 601, .iconst 1, .isub, .ireturn])]
/-- RowGrader.place(IIII)I -/
def mc_98 : List (Nat × Nat × List Instr) := [
  (0, 26, [.aload 0, .instanceof 900, .iload 1, .multianewarray 80 602, .astore 5, .aload 5, .ifnull 26, .aload 0, .instanceof 900, .iload 2, .multianewarray 81 602, .ifCond .ne 28]),
  (26, 28, [.iconst (-1), .ireturn]),
  (28, 58, [.iload 3, .iconst (-1000), .if_icmp .lt 58, .iload 3, .iconst 1000, .if_icmp .gt 58, .iload 4, .iconst (-1000), .if_icmp .lt 58, .iload 4, .iconst 1000, .if_icmp .le 61]),
  (58, 61, [.iconst (-2), .ireturn]),
  (61, 80, [.aload 5, .iload 2, .iload 3, .iload 4, .multianewarray 0 4, .aload 0, .instanceof 904, .iconst 0, .putstatic 103, .iconst 1, .ireturn])]
/-- RowGrader.placed(III)I -/
def mc_99 : List (Nat × Nat × List Instr) := [
  (0, 26, [.aload 0, .instanceof 900, .iload 1, .multianewarray 80 602, .astore 4, .aload 4, .ifnull 26, .aload 0, .instanceof 900, .iload 2, .multianewarray 81 602, .ifCond .ne 30]),
  (26, 30, [.iconst (-2001), .ireturn]),
  (30, 43, [.iload 3, .ifCond .eq 43, .iload 3, .iconst 1, .if_icmp .eq 43, .iconst (-2002), .ireturn]),
  (43, 56, [.aload 4, .iload 2, .multianewarray 1 2, .ifCond .ne 56, .iconst (-2003), .ireturn]),
  (56, 69, [.iload 3, .ifCond .ne 69, .aload 4, .iload 2, .multianewarray 2 2, .goto 75]),
  (69, 75, [.aload 4, .iload 2, .multianewarray 3 2]),
  (75, 76, [.ireturn])]
/-- RowGrader.good(I)I -/
def mc_100 : List (Nat × Nat × List Instr) := [
  (0, 15, [.aload 0, .instanceof 900, .iload 1, .multianewarray 80 602, .astore 2, .aload 2, .ifnonnull 15, .iconst (-1), .ireturn]),
  (15, 30, [.aload 0, .instanceof 900, .aload 2, .multianewarray 82 602, .ifCond .eq 30, .iconst 1, .goto 31]),
  (30, 31, [.iconst 0]),
  (31, 32, [.ireturn])]
/-- RowGrader.holds(IIIIII)I -/
def mc_101 : List (Nat × Nat × List Instr) := [
  (0, 17, [.aload 0, .instanceof 900, .iload 1, .multianewarray 80 602, .astore 7, .aload 7, .ifnonnull 17, .iconst (-1), .ireturn]),
  (17, 43, [.aload 0, .instanceof 900, .iload 2, .iload 3, .iload 4, .iload 5, .iload 6, .multianewarray 84 606, .istore 8, .iload 8, .iconst (-1), .if_icmp .ne 43, .iconst (-2), .ireturn]),
  (43, 57, [.aload 7, .iload 8, .multianewarray 5 2, .ifCond .eq 57, .iconst 1, .goto 58]),
  (57, 58, [.iconst 0]),
  (58, 59, [.ireturn])]
/-- RowGrader.feed(JI)I -/
def mc_102 : List (Nat × Nat × List Instr) := [
  (0, 11, [.iload 3, .iconst 1, .if_icmp .lt 11, .iload 3, .iconst 8, .if_icmp .le 14]),
  (11, 14, [.iconst (-2), .ireturn]),
  (14, 31, [.aload 0, .instanceof 901, .getfield 701, .iload 3, .iadd, .iconst 120, .if_icmp .le 31, .iconst (-4), .ireturn]),
  (31, 48, [.aload 0, .instanceof 901, .lload 1, .iload 3, .multianewarray 88 703, .aload 0, .instanceof 901, .getfield 701, .ireturn])]
/-- RowGrader.wipe()I -/
def mc_103 : List (Nat × Nat × List Instr) := [
  (0, 8, [.aload 0, .instanceof 901, .multianewarray 89 701, .ireturn])]
/-- RowGrader.language(I)I -/
def mc_104 : List (Nat × Nat × List Instr) := [
  (0, 9, [.iload 1, .ifCond .lt 9, .iload 1, .iconst 2, .if_icmp .lt 11]),
  (9, 11, [.iconst (-1), .ireturn]),
  (11, 29, [.aload 0, .instanceof 902, .getfield 801, .istore 2, .aload 0, .instanceof 902, .iload 1, .putfield 801, .iload 2, .ireturn])]
/-- RowGrader.word(II)I -/
def mc_105 : List (Nat × Nat × List Instr) := [
  (0, 9, [.iload 1, .ifCond .lt 9, .iload 1, .iconst 2, .if_icmp .lt 11]),
  (9, 11, [.iconst (-1), .ireturn]),
  (11, 21, [.iload 2, .ifCond .lt 21, .iload 2, .iconst 11, .if_icmp .lt 24]),
  (21, 24, [.iconst (-2), .ireturn]),
  (24, 50, [.aload 0, .instanceof 903, .multianewarray 54 301, .istore 3, .aload 0, .instanceof 901, .multianewarray 89 701, .pop, .iload 3, .iconst (-1), .if_icmp .eq 50, .iconst (-100), .iload 3, .isub, .ireturn]),
  (50, 82, [.aload 0, .instanceof 902, .iload 1, .aload 0, .instanceof 903, .getstatic 305, .multianewarray 94 803, .istore 4, .iload 4, .iconst (-1), .if_icmp .eq 82, .iload 4, .iload 2, .if_icmp .eq 82, .iconst (-3), .ireturn]),
  (82, 100, [.aload 0, .instanceof 902, .iload 1, .iload 2, .aload 0, .instanceof 903, .getstatic 305, .multianewarray 95 804, .iconst 1, .ireturn])]
/-- RowGrader.row()I -/
def mc_106 : List (Nat × Nat × List Instr) := [
  (0, 13, [.aload 0, .instanceof 900, .getfield 600, .ifCond .ne 13, .iconst (-3), .ireturn]),
  (13, 39, [.aload 0, .instanceof 903, .multianewarray 56 301, .istore 1, .aload 0, .instanceof 901, .multianewarray 89 701, .pop, .iload 1, .iconst (-1), .if_icmp .eq 39, .iconst (-100), .iload 1, .isub, .ireturn]),
  (39, 59, [.aload 0, .instanceof 900, .aload 0, .instanceof 903, .instanceof 304, .multianewarray 85 602, .ifCond .ne 59, .iconst (-4), .ireturn]),
  (59, 75, [.aload 0, .instanceof 904, .iconst 0, .putstatic 103, .aload 0, .instanceof 900, .getfield 602, .ireturn])]
/-- RowGrader.goal()I -/
def mc_107 : List (Nat × Nat × List Instr) := [
  (0, 13, [.aload 0, .instanceof 900, .getfield 600, .ifCond .ne 13, .iconst (-3), .ireturn]),
  (13, 39, [.aload 0, .instanceof 903, .multianewarray 62 301, .istore 1, .aload 0, .instanceof 901, .multianewarray 89 701, .pop, .iload 1, .iconst (-1), .if_icmp .eq 39, .iconst (-100), .iload 1, .isub, .ireturn]),
  (39, 55, [.aload 0, .instanceof 900, .aload 0, .instanceof 903, .instanceof 304, .multianewarray 86 602, .iconst 1, .ireturn])]
/-- RowGrader.back()I -/
def mc_108 : List (Nat × Nat × List Instr) := [
  (0, 13, [.aload 0, .instanceof 900, .getfield 602, .ifCond .ne 13, .iconst (-3), .ireturn]),
  (13, 42, [.aload 0, .instanceof 900, .dup, .getfield 602, .iconst 1, .isub, .putfield 602, .aload 0, .instanceof 904, .iconst 0, .putstatic 103, .aload 0, .instanceof 900, .getfield 602, .ireturn])]
/-- RowGrader.fact(II)I -/
def mc_109 : List (Nat × Nat × List Instr) := [
  (0, 15, [.aload 0, .instanceof 900, .iload 1, .multianewarray 87 602, .astore 3, .aload 3, .ifnonnull 15, .iconst (-1), .ireturn]),
  (15, 25, [.iload 2, .ifCond .lt 25, .iload 2, .iconst 7, .if_icmp .le 28]),
  (25, 28, [.iconst (-2), .ireturn]),
  (28, 40, [.iload 2, .ifCond .ne 40, .aload 3, .getfield 400, .invokeinterface 203 1, .ireturn]),
  (40, 56, [.iload 2, .iconst 4, .if_icmp .gt 56, .aload 3, .getfield 400, .iload 2, .iconst 1, .isub, .invokeinterface 205 2, .ireturn]),
  (56, 66, [.iload 2, .iconst 5, .if_icmp .ne 66, .aload 3, .getfield 401, .ireturn]),
  (66, 79, [.iload 2, .iconst 6, .if_icmp .ne 79, .aload 3, .getfield 402, .goto 83]),
  (79, 83, [.aload 3, .getfield 403]),
  (83, 84, [.ireturn])]
/-- RowGrader.because(II)I -/
def mc_110 : List (Nat × Nat × List Instr) := [
  (0, 25, [.aload 0, .instanceof 900, .iload 1, .multianewarray 83 602, .astore 3, .aload 3, .ifnull 25, .iload 2, .ifCond .lt 25, .iload 2, .aload 3, .getfield 403, .if_icmp .lt 27]),
  (25, 27, [.iconst (-1), .ireturn]),
  (27, 33, [.aload 3, .iload 2, .multianewarray 66 402, .ireturn])]
/-- RowGrader.alike(IIIIII)I -/
def mc_111 : List (Nat × Nat × List Instr) := [
  (0, 17, [.aload 0, .instanceof 900, .iload 1, .multianewarray 87 602, .astore 7, .aload 7, .ifnonnull 17, .iconst (-1), .ireturn]),
  (17, 43, [.aload 0, .instanceof 900, .iload 2, .iload 3, .iload 4, .iload 5, .iload 6, .multianewarray 84 606, .istore 8, .iload 8, .iconst (-1), .if_icmp .ne 43, .iconst (-2), .ireturn]),
  (43, 57, [.iload 8, .aload 7, .getfield 400, .if_icmp .ne 57, .iconst 1, .goto 58]),
  (57, 58, [.iconst 0]),
  (58, 59, [.ireturn])]
/-- RowGrader.grade()I -/
def mc_112 : List (Nat × Nat × List Instr) := [
  (0, 17, [.aload 0, .instanceof 904, .getfield 103, .ifCond .ne 17, .aload 0, .instanceof 904, .multianewarray 9 101]),
  (17, 25, [.aload 0, .instanceof 904, .multianewarray 24 101, .ireturn])]
/-- RowGrader.verdict(I)I -/
def mc_113 : List (Nat × Nat × List Instr) := [
  (0, 15, [.aload 0, .instanceof 900, .iload 1, .multianewarray 83 602, .astore 2, .aload 2, .ifnonnull 15, .iconst (-1), .ireturn]),
  (15, 32, [.aload 0, .instanceof 904, .getfield 103, .ifCond .eq 32, .aload 2, .getfield 406, .goto 34]),
  (32, 34, [.iconst (-3)]),
  (34, 35, [.ireturn])]
/-- RowGrader.way(I)I -/
def mc_114 : List (Nat × Nat × List Instr) := [
  (0, 15, [.aload 0, .instanceof 900, .iload 1, .multianewarray 83 602, .astore 2, .aload 2, .ifnonnull 15, .iconst (-1), .ireturn]),
  (15, 32, [.aload 0, .instanceof 904, .getfield 103, .ifCond .eq 32, .aload 2, .getfield 407, .goto 34]),
  (32, 34, [.iconst (-3)]),
  (34, 35, [.ireturn])]
/-- RowGrader.gap(I)I -/
def mc_115 : List (Nat × Nat × List Instr) := [
  (0, 15, [.aload 0, .instanceof 900, .iload 1, .multianewarray 83 602, .astore 2, .aload 2, .ifnonnull 15, .iconst (-1), .ireturn]),
  (15, 32, [.aload 0, .instanceof 904, .getfield 103, .ifCond .eq 32, .aload 2, .getfield 408, .goto 34]),
  (32, 34, [.iconst (-3)]),
  (34, 35, [.ireturn])]
/-- RowGrader.counter(I)I -/
def mc_116 : List (Nat × Nat × List Instr) := [
  (0, 15, [.aload 0, .instanceof 900, .iload 1, .multianewarray 83 602, .astore 2, .aload 2, .ifnonnull 15, .iconst (-1), .ireturn]),
  (15, 32, [.aload 0, .instanceof 904, .getfield 103, .ifCond .eq 32, .aload 2, .getfield 409, .goto 34]),
  (32, 34, [.iconst (-3)]),
  (34, 35, [.ireturn])]
/-- RowGrader.circle(I)I -/
def mc_117 : List (Nat × Nat × List Instr) := [
  (0, 21, [.aload 0, .instanceof 904, .getfield 103, .ifCond .eq 21, .aload 0, .instanceof 904, .iload 1, .multianewarray 25 102, .goto 23]),
  (21, 23, [.iconst (-3)]),
  (23, 24, [.ireturn])]
/-- RowGrader.order(I)I -/
def mc_118 : List (Nat × Nat × List Instr) := [
  (0, 15, [.aload 0, .instanceof 900, .iload 1, .multianewarray 83 602, .astore 2, .aload 2, .ifnonnull 15, .iconst (-1), .ireturn]),
  (15, 28, [.aload 0, .instanceof 904, .getfield 103, .ifCond .ne 28, .iconst (-3), .ireturn]),
  (28, 40, [.aload 2, .getfield 405, .ifCond .ne 40, .iconst (-5), .goto 44]),
  (40, 44, [.aload 2, .getfield 405]),
  (44, 45, [.ireturn])]
/-- RowGrader.marks(I)I -/
def mc_119 : List (Nat × Nat × List Instr) := [
  (0, 12, [.iload 1, .ifCond .eq 12, .iload 1, .iconst 1, .if_icmp .eq 12, .iconst (-2), .ireturn]),
  (12, 25, [.aload 0, .instanceof 904, .getfield 103, .ifCond .ne 25, .iconst (-3), .ireturn]),
  (25, 39, [.iload 1, .ifCond .ne 39, .aload 0, .instanceof 904, .multianewarray 26 101, .goto 46]),
  (39, 46, [.aload 0, .instanceof 904, .multianewarray 27 101]),
  (46, 47, [.ireturn])]
/-- RowGrader.hint(I)I -/
def mc_120 : List (Nat × Nat × List Instr) := [
  (0, 9, [.iload 1, .ifCond .lt 9, .iload 1, .iconst 5, .if_icmp .le 12]),
  (9, 12, [.iconst (-2), .ireturn]),
  (12, 25, [.aload 0, .instanceof 904, .getfield 103, .ifCond .ne 25, .iconst (-3), .ireturn]),
  (25, 38, [.aload 0, .instanceof 900, .getfield 603, .ifCond .ne 38, .iconst (-5), .ireturn]),
  (38, 60, [.iload 1, .ifCond .ne 60, .aload 0, .instanceof 904, .aload 0, .instanceof 900, .instanceof 604, .getfield 400, .multianewarray 28 102, .ireturn]),
  (60, 86, [.aload 0, .instanceof 904, .aload 0, .instanceof 900, .instanceof 604, .getfield 400, .multianewarray 29 102, .istore 2, .iload 2, .iconst (-1), .if_icmp .ne 86, .iconst (-5), .ireturn]),
  (86, 98, [.iload 1, .iconst 1, .if_icmp .ne 98, .iload 2, .invokeinterface 203 1, .goto 105]),
  (98, 105, [.iload 2, .iload 1, .iconst 2, .isub, .invokeinterface 205 2]),
  (105, 106, [.ireturn])]
/-- RowGrader.level(IIIII)I -/
def mc_121 : List (Nat × Nat × List Instr) := [
  (0, 25, [.aload 0, .instanceof 900, .iload 1, .iload 2, .iload 3, .iload 4, .iload 5, .multianewarray 84 606, .istore 6, .iload 6, .iconst (-1), .if_icmp .ne 25, .iconst (-2), .ireturn]),
  (25, 47, [.aload 0, .instanceof 904, .getfield 103, .ifCond .eq 47, .aload 0, .instanceof 904, .iload 6, .multianewarray 28 102, .goto 49]),
  (47, 49, [.iconst (-3)]),
  (49, 50, [.ireturn])]
/-- RowGrader.reached(I)I -/
def mc_122 : List (Nat × Nat × List Instr) := [
  (0, 9, [.iload 1, .ifCond .lt 9, .iload 1, .iconst 5, .if_icmp .le 12]),
  (9, 12, [.iconst (-2), .ireturn]),
  (12, 33, [.aload 0, .instanceof 904, .getfield 103, .ifCond .eq 33, .aload 0, .instanceof 904, .iload 1, .multianewarray 30 102, .goto 35]),
  (33, 35, [.iconst (-3)]),
  (35, 36, [.ireturn])]
/-- RowGrader.told(I)I -/
def mc_123 : List (Nat × Nat × List Instr) := [
  (0, 48, [.iload 1, .tableswitch 162 0 7 #[48, 56, 64, 72, 80, 96, 118, 140]]),
  (48, 56, [.aload 0, .instanceof 900, .getfield 600, .ireturn]),
  (56, 64, [.aload 0, .instanceof 900, .getfield 601, .ireturn]),
  (64, 72, [.aload 0, .instanceof 900, .getfield 602, .ireturn]),
  (72, 80, [.aload 0, .instanceof 901, .getfield 701, .ireturn]),
  (80, 94, [.aload 0, .instanceof 900, .getfield 603, .ifCond .eq 94, .iconst 1, .goto 95]),
  (94, 95, [.iconst 0]),
  (95, 96, [.ireturn]),
  (96, 116, [.aload 0, .instanceof 904, .getfield 103, .ifCond .eq 116, .aload 0, .instanceof 904, .getfield 104, .goto 117]),
  (116, 117, [.iconst 0]),
  (117, 118, [.ireturn]),
  (118, 138, [.aload 0, .instanceof 904, .getfield 103, .ifCond .eq 138, .aload 0, .instanceof 904, .getfield 105, .goto 139]),
  (138, 139, [.iconst 0]),
  (139, 140, [.ireturn]),
  (140, 160, [.aload 0, .instanceof 904, .getfield 103, .ifCond .eq 160, .aload 0, .instanceof 904, .getfield 106, .goto 161]),
  (160, 161, [.iconst 0]),
  (161, 162, [.ireturn]),
  (162, 165, [.iconst (-2), .ireturn])]
/-- RowGraderModel.points(I)I -/
def mc_124 : List (Nat × Nat × List Instr) := [
  (0, 17, [.iload 1, .i2l, .sipush 2, .sipush 7, .invokeinterface 125 3, .ifCond .ne 17, .iconst (-2), .ireturn]),
  (17, 38, [.aload 0, .getfield 1024, .ifCond .gt 38, .aload 0, .getfield 1025, .ifCond .ne 38, .aload 0, .getfield 1001, .ifCond .le 41]),
  (38, 41, [.iconst (-3), .ireturn]),
  (41, 53, [.aload 0, .iload 1, .putfield 1000, .aload 0, .iconst 0, .putstatic 1037, .iconst 1, .ireturn])]
/-- RowGraderModel.in(JJJ)Z -/
def mc_125 : List (Nat × Nat × List Instr) := [
  (0, 17, [.lload 0, .lload 2, .lcmp, .ifCond .lt 17, .lload 0, .lload 4, .lcmp, .ifCond .gt 17, .iconst 1, .goto 18]),
  (17, 18, [.iconst 0]),
  (18, 19, [.freturn])]
/-- RowGraderModel.figure()I -/
def mc_126 : List (Nat × Nat × List Instr) := [
  (0, 10, [.aload 0, .getfield 1000, .ifCond .ne 10, .iconst (-3), .ireturn]),
  (10, 22, [.aload 0, .getfield 1001, .iconst 6, .if_icmp .ne 22, .iconst (-4), .ireturn]),
  (22, 44, [.aload 0, .dup, .getfield 1001, .iconst 1, .iadd, .putfield 1001, .aload 0, .iconst 0, .putstatic 1037, .aload 0, .getfield 1001, .iconst 1, .isub, .ireturn])]
/-- RowGraderModel.place(IIII)I -/
def mc_127 : List (Nat × Nat × List Instr) := [
  (0, 24, [.aload 0, .iload 1, .multianewarray 128 1002, .ifCond .eq 24, .iload 2, .i2l, .sipush 0, .aload 0, .getfield 1000, .iconst 1, .isub, .i2l, .invokeinterface 125 3, .ifCond .ne 26]),
  (24, 26, [.iconst (-1), .ireturn]),
  (26, 55, [.iload 3, .i2l, .sipush (-1000), .sipush 1000, .invokeinterface 125 3, .ifCond .eq 55, .iload 4, .i2l, .sipush (-1000), .sipush 1000, .invokeinterface 125 3, .ifCond .ne 58]),
  (55, 58, [.iconst (-2), .ireturn]),
  (58, 102, [.aload 0, .instanceof 1002, .iconst 7, .iload 1, .imul, .iload 2, .iadd, .iload 3, .iastore, .aload 0, .instanceof 1003, .iconst 7, .iload 1, .imul, .iload 2, .iadd, .iload 4, .iastore, .aload 0, .instanceof 1004, .iconst 7, .iload 1, .imul, .iload 2, .iadd, .iconst 1, .bastore, .aload 0, .iconst 0, .putstatic 1037, .iconst 1, .ireturn])]
/-- RowGraderModel.isFigure(I)Z -/
def mc_128 : List (Nat × Nat × List Instr) := [
  (0, 14, [.iload 1, .i2l, .sipush 0, .aload 0, .getfield 1001, .iconst 1, .isub, .i2l, .invokeinterface 125 3, .freturn])]
/-- RowGraderModel.placed(III)I -/
def mc_129 : List (Nat × Nat × List Instr) := [
  (0, 24, [.aload 0, .iload 1, .multianewarray 128 1002, .ifCond .eq 24, .iload 2, .i2l, .sipush 0, .aload 0, .getfield 1000, .iconst 1, .isub, .i2l, .invokeinterface 125 3, .ifCond .ne 28]),
  (24, 28, [.iconst (-2001), .ireturn]),
  (28, 42, [.iload 3, .i2l, .sipush 0, .sipush 1, .invokeinterface 125 3, .ifCond .ne 42, .iconst (-2002), .ireturn]),
  (42, 62, [.aload 0, .instanceof 1004, .iconst 7, .iload 1, .imul, .iload 2, .iadd, .baload, .ifCond .ne 62, .iconst (-2003), .goto 91]),
  (62, 80, [.iload 3, .ifCond .ne 80, .aload 0, .instanceof 1002, .iconst 7, .iload 1, .imul, .iload 2, .iadd, .iaload, .goto 91]),
  (80, 91, [.aload 0, .instanceof 1003, .iconst 7, .iload 1, .imul, .iload 2, .iadd, .iaload]),
  (91, 92, [.ireturn])]
/-- RowGraderModel.holds(IIIIII)I -/
def mc_130 : List (Nat × Nat × List Instr) := [
  (0, 10, [.aload 0, .iload 1, .multianewarray 128 1002, .ifCond .ne 10, .iconst (-1), .ireturn]),
  (10, 28, [.aload 0, .iload 2, .iload 3, .iload 4, .iload 5, .iload 6, .multianewarray 131 1006, .ifCond .ge 28, .iconst (-2), .ireturn]),
  (28, 48, [.aload 0, .iload 1, .iload 2, .iload 3, .iload 4, .iload 5, .iload 6, .multianewarray 135 1007, .ifCond .eq 48, .iconst 1, .goto 49]),
  (48, 49, [.iconst 0]),
  (49, 50, [.ireturn])]
/-- RowGraderModel.slot(IIIII)I -/
def mc_131 : List (Nat × Nat × List Instr) := [
  (0, 57, [.aload 0, .getfield 1000, .iconst 1, .isub, .istore 6, .iload 1, .i2l, .sipush 0, .sipush 6, .invokeinterface 125 3, .ifCond .eq 57, .iload 2, .i2l, .sipush 0, .iload 6, .i2l, .invokeinterface 125 3, .ifCond .eq 57, .iload 3, .i2l, .sipush 0, .iload 6, .i2l, .invokeinterface 125 3, .ifCond .eq 57, .iload 4, .i2l, .sipush 0, .iload 6, .i2l, .invokeinterface 125 3, .ifCond .ne 59]),
  (57, 59, [.iconst (-1), .ireturn]),
  (59, 88, [.iload 1, .ifCond .ne 90, .iload 2, .iload 3, .iload 4, .invokeinterface 132 3, .ifCond .eq 88, .iconst 1, .iload 2, .ishl, .iconst 1, .iload 3, .ishl, .ior, .iconst 1, .iload 4, .ishl, .ior, .goto 89]),
  (88, 89, [.iconst (-1)]),
  (89, 90, [.ireturn]),
  (90, 101, [.iload 1, .iconst 4, .if_icmp .eq 101, .iload 1, .iconst 6, .if_icmp .ne 142]),
  (101, 122, [.iload 2, .iload 3, .iload 4, .invokeinterface 132 3, .ifCond .eq 140, .iload 1, .iconst 4, .if_icmp .ne 122, .iconst 200, .goto 125]),
  (122, 125, [.iconst 600]),
  (125, 140, [.iconst 49, .iload 2, .imul, .iadd, .iload 3, .iload 4, .invokeinterface 133 2, .iadd, .goto 141]),
  (140, 141, [.iconst (-1)]),
  (141, 142, [.ireturn]),
  (142, 157, [.iload 5, .i2l, .sipush 0, .iload 6, .i2l, .invokeinterface 125 3, .ifCond .ne 157, .iconst (-1), .ireturn]),
  (157, 215, [.iload 1, .iconst 5, .if_icmp .ne 217, .iload 2, .iload 3, .iload 4, .invokeinterface 132 3, .ifCond .eq 215, .iload 5, .iload 2, .if_icmp .eq 215, .iload 5, .iload 3, .if_icmp .eq 215, .iload 5, .iload 4, .if_icmp .eq 215, .iconst 1000, .iconst 1, .iload 2, .ishl, .iconst 1, .iload 3, .ishl, .ior, .iconst 1, .iload 4, .ishl, .ior, .iconst 1, .iload 5, .ishl, .ior, .iadd, .goto 216]),
  (215, 216, [.iconst (-1)]),
  (216, 217, [.ireturn]),
  (217, 244, [.iload 2, .iload 3, .if_icmp .eq 244, .iload 4, .iload 5, .if_icmp .eq 244, .iload 2, .iload 3, .invokeinterface 133 2, .iload 4, .iload 5, .invokeinterface 133 2, .if_icmp .ne 246]),
  (244, 246, [.iconst (-1), .ireturn]),
  (246, 295, [.iload 2, .iload 3, .invokeinterface 133 2, .invokeinterface 134 1, .istore 7, .iload 4, .iload 5, .invokeinterface 133 2, .invokeinterface 134 1, .istore 8, .iconst 1200, .iconst 500, .iload 1, .imul, .iadd, .iload 7, .iload 8, .if_icmp .ge 295, .iconst 21, .iload 7, .imul, .iload 8, .iadd, .goto 303]),
  (295, 303, [.iconst 21, .iload 8, .imul, .iload 7, .iadd]),
  (303, 305, [.iadd, .ireturn])]
/-- RowGraderModel.areThree(III)Z -/
def mc_132 : List (Nat × Nat × List Instr) := [
  (0, 19, [.iload 0, .iload 1, .if_icmp .eq 19, .iload 1, .iload 2, .if_icmp .eq 19, .iload 0, .iload 2, .if_icmp .eq 19, .iconst 1, .goto 20]),
  (19, 20, [.iconst 0]),
  (20, 21, [.freturn])]
/-- RowGraderModel.pair(II)I -/
def mc_133 : List (Nat × Nat × List Instr) := [
  (0, 14, [.iload 0, .iload 1, .if_icmp .ge 14, .iconst 7, .iload 0, .imul, .iload 1, .iadd, .goto 20]),
  (14, 20, [.iconst 7, .iload 1, .imul, .iload 0, .iadd]),
  (20, 21, [.ireturn])]
/-- RowGraderModel.numbered(I)I -/
def mc_134 : List (Nat × Nat × List Instr) := [
  (0, 27, [.iload 0, .iconst 7, .idiv, .istore 1, .iconst 6, .iload 1, .imul, .iload 1, .iload 1, .iconst 1, .isub, .imul, .iconst 2, .idiv, .isub, .iload 0, .iconst 7, .irem, .iadd, .iload 1, .isub, .iconst 1, .isub, .ireturn])]
/-- RowGraderModel.holdsIn(IIIIII)Z -/
def mc_135 : List (Nat × Nat × List Instr) := [
  (0, 9, [.iload 2, .ifCond .le 9, .iload 2, .iconst 4, .if_icmp .lt 14]),
  (9, 14, [.iload 2, .iconst 5, .if_icmp .ne 18]),
  (14, 18, [.iconst 1, .goto 19]),
  (18, 19, [.iconst 0]),
  (19, 61, [.istore 7, .iconst 7, .iload 1, .imul, .iload 3, .iadd, .istore 8, .iconst 7, .iload 1, .imul, .iload 4, .iadd, .istore 9, .iconst 7, .iload 1, .imul, .iload 5, .iadd, .istore 10, .iconst 7, .iload 1, .imul, .iload 7, .ifCond .eq 61, .iload 6, .goto 63]),
  (61, 63, [.iload 5]),
  (63, 106, [.iadd, .istore 11, .aload 0, .instanceof 1004, .iload 8, .baload, .ifCond .eq 106, .aload 0, .instanceof 1004, .iload 9, .baload, .ifCond .eq 106, .aload 0, .instanceof 1004, .iload 10, .baload, .ifCond .eq 106, .aload 0, .instanceof 1004, .iload 11, .baload, .ifCond .ne 108]),
  (106, 108, [.iconst 0, .freturn]),
  (108, 148, [.iload 2, .tableswitch 324 0 5 #[148, 171, 194, 217, 251, 311]]),
  (148, 169, [.aload 0, .iload 8, .iload 9, .iload 8, .iload 10, .multianewarray 136 1005, .sipush 0, .lcmp, .ifCond .ne 169, .iconst 1, .goto 170]),
  (169, 170, [.iconst 0]),
  (170, 171, [.freturn]),
  (171, 192, [.aload 0, .iload 8, .iload 9, .iload 10, .iload 11, .multianewarray 136 1005, .sipush 0, .lcmp, .ifCond .ne 192, .iconst 1, .goto 193]),
  (192, 193, [.iconst 0]),
  (193, 194, [.freturn]),
  (194, 215, [.aload 0, .iload 8, .iload 9, .iload 10, .iload 11, .multianewarray 137 1005, .sipush 0, .lcmp, .ifCond .ne 215, .iconst 1, .goto 216]),
  (215, 216, [.iconst 0]),
  (216, 217, [.freturn]),
  (217, 249, [.aload 0, .iload 8, .iload 9, .iload 8, .iload 9, .multianewarray 137 1005, .aload 0, .iload 10, .iload 11, .iload 10, .iload 11, .multianewarray 137 1005, .lcmp, .ifCond .ne 249, .iconst 1, .goto 250]),
  (249, 250, [.iconst 0]),
  (250, 251, [.freturn]),
  (251, 309, [.iconst 2, .aload 0, .instanceof 1002, .iload 8, .iaload, .imul, .aload 0, .instanceof 1002, .iload 9, .iaload, .aload 0, .instanceof 1002, .iload 10, .iaload, .iadd, .if_icmp .ne 309, .iconst 2, .aload 0, .instanceof 1003, .iload 8, .iaload, .imul, .aload 0, .instanceof 1003, .iload 9, .iaload, .aload 0, .instanceof 1003, .iload 10, .iaload, .iadd, .if_icmp .ne 309, .iconst 1, .goto 310]),
  (309, 310, [.iconst 0]),
  (310, 311, [.freturn]),
  (311, 324, [.aload 0, .iload 8, .iload 9, .iload 10, .iload 11, .multianewarray 138 1005, .freturn]),
  (324, 362, [.aload 0, .iload 8, .iload 9, .iload 8, .iload 10, .multianewarray 136 1005, .sipush 0, .lcmp, .ifCond .ne 362, .aload 0, .iload 8, .iload 9, .iload 8, .iload 10, .multianewarray 137 1005, .sipush 0, .lcmp, .ifCond .ge 362, .iconst 1, .goto 363]),
  (362, 363, [.iconst 0]),
  (363, 364, [.freturn])]
/-- RowGraderModel.cross(IIII)J -/
def mc_136 : List (Nat × Nat × List Instr) := [
  (0, 62, [.aload 0, .instanceof 1002, .iload 2, .iaload, .aload 0, .instanceof 1002, .iload 1, .iaload, .isub, .i2l, .aload 0, .instanceof 1003, .iload 4, .iaload, .aload 0, .instanceof 1003, .iload 3, .iaload, .isub, .i2l, .lmul, .aload 0, .instanceof 1003, .iload 2, .iaload, .aload 0, .instanceof 1003, .iload 1, .iaload, .isub, .i2l, .aload 0, .instanceof 1002, .iload 4, .iaload, .aload 0, .instanceof 1002, .iload 3, .iaload, .isub, .i2l, .lmul, .lsub, .lreturn])]
/-- RowGraderModel.dot(IIII)J -/
def mc_137 : List (Nat × Nat × List Instr) := [
  (0, 62, [.aload 0, .instanceof 1002, .iload 2, .iaload, .aload 0, .instanceof 1002, .iload 1, .iaload, .isub, .i2l, .aload 0, .instanceof 1002, .iload 4, .iaload, .aload 0, .instanceof 1002, .iload 3, .iaload, .isub, .i2l, .lmul, .aload 0, .instanceof 1003, .iload 2, .iaload, .aload 0, .instanceof 1003, .iload 1, .iaload, .isub, .i2l, .aload 0, .instanceof 1003, .iload 4, .iaload, .aload 0, .instanceof 1003, .iload 3, .iaload, .isub, .i2l, .lmul, .ladd, .lreturn])]
/-- RowGraderModel.areOnCircle(IIII)Z -/
def mc_138 : List (Nat × Nat × List Instr) := [
  (0, 55, [.aload 0, .iload 1, .iload 2, .iload 1, .iload 3, .multianewarray 136 1005, .sipush 0, .lcmp, .ifCond .eq 55, .aload 0, .iload 1, .iload 2, .iload 1, .iload 4, .multianewarray 136 1005, .sipush 0, .lcmp, .ifCond .eq 55, .aload 0, .iload 1, .iload 3, .iload 1, .iload 4, .multianewarray 136 1005, .sipush 0, .lcmp, .ifCond .eq 55, .aload 0, .iload 2, .iload 3, .iload 2, .iload 4, .multianewarray 136 1005, .sipush 0, .lcmp, .ifCond .ne 57]),
  (55, 57, [.iconst 0, .freturn]),
  (57, 131, [.aload 0, .iload 4, .iload 1, .iload 4, .iload 1, .multianewarray 137 1005, .aload 0, .iload 4, .iload 2, .iload 4, .iload 3, .multianewarray 136 1005, .lmul, .aload 0, .iload 4, .iload 2, .iload 4, .iload 2, .multianewarray 137 1005, .aload 0, .iload 4, .iload 1, .iload 4, .iload 3, .multianewarray 136 1005, .lmul, .lsub, .aload 0, .iload 4, .iload 3, .iload 4, .iload 3, .multianewarray 137 1005, .aload 0, .iload 4, .iload 1, .iload 4, .iload 2, .multianewarray 136 1005, .lmul, .ladd, .sipush 0, .lcmp, .ifCond .ne 131, .iconst 1, .goto 132]),
  (131, 132, [.iconst 0]),
  (132, 133, [.freturn])]
/-- RowGraderModel.good(I)I -/
def mc_139 : List (Nat × Nat × List Instr) := [
  (0, 12, [.aload 0, .iload 1, .multianewarray 128 1002, .ifCond .ne 12, .iconst (-1), .goto 25]),
  (12, 24, [.aload 0, .iload 1, .multianewarray 140 1002, .ifCond .eq 24, .iconst 1, .goto 25]),
  (24, 25, [.iconst 0]),
  (25, 26, [.ireturn])]
/-- RowGraderModel.isGood(I)Z -/
def mc_140 : List (Nat × Nat × List Instr) := [
  (0, 4, [.iconst 1, .istore 2, .iconst 0, .istore 3]),
  (4, 34, [.iload 3, .aload 0, .getfield 1000, .if_icmp .ge 119, .iload 2, .ifCond .eq 34, .aload 0, .instanceof 1004, .iconst 7, .iload 1, .imul, .iload 3, .iadd, .baload, .ifCond .eq 34, .iconst 1, .goto 35]),
  (34, 35, [.iconst 0]),
  (35, 39, [.istore 2, .iconst 0, .istore 4]),
  (39, 101, [.iload 4, .iload 3, .if_icmp .ge 113, .iload 2, .ifCond .eq 105, .aload 0, .instanceof 1002, .iconst 7, .iload 1, .imul, .iload 3, .iadd, .iaload, .aload 0, .instanceof 1002, .iconst 7, .iload 1, .imul, .iload 4, .iadd, .iaload, .if_icmp .ne 101, .aload 0, .instanceof 1003, .iconst 7, .iload 1, .imul, .iload 3, .iadd, .iaload, .aload 0, .instanceof 1003, .iconst 7, .iload 1, .imul, .iload 4, .iadd, .iaload, .if_icmp .eq 105]),
  (101, 105, [.iconst 1, .goto 106]),
  (105, 106, [.iconst 0]),
  (106, 113, [.istore 2, .iinc 4 1, .goto 39]),
  (113, 119, [.iinc 3 1, .goto 4]),
  (119, 121, [.iconst 1, .istore 3]),
  (121, 152, [.iload 3, .aload 0, .getfield 1024, .if_icmp .gt 164, .iload 2, .ifCond .eq 164, .aload 0, .instanceof 1029, .iload 3, .iaload, .iconst 1, .if_icmp .ne 152, .aload 0, .iload 1, .iload 3, .multianewarray 141 1003, .ifCond .eq 156]),
  (152, 156, [.iconst 1, .goto 157]),
  (156, 157, [.iconst 0]),
  (157, 164, [.istore 2, .iinc 3 1, .goto 121]),
  (164, 166, [.iload 2, .freturn])]
/-- RowGraderModel.rowHolds(II)Z -/
def mc_141 : List (Nat × Nat × List Instr) := [
  (0, 50, [.aload 0, .iload 1, .aload 0, .instanceof 1026, .iload 2, .iaload, .aload 0, .instanceof 1027, .iconst 4, .iload 2, .imul, .iaload, .aload 0, .instanceof 1027, .iconst 4, .iload 2, .imul, .iconst 1, .iadd, .iaload, .aload 0, .instanceof 1027, .iconst 4, .iload 2, .imul, .iconst 2, .iadd, .iaload, .aload 0, .instanceof 1027, .iconst 4, .iload 2, .imul, .iconst 3, .iadd, .iaload, .multianewarray 135 1007, .freturn])]
/-- RowGraderModel.feed(JI)I -/
def mc_142 : List (Nat × Nat × List Instr) := [
  (0, 15, [.iload 3, .i2l, .sipush 1, .sipush 8, .invokeinterface 125 3, .ifCond .ne 15, .iconst (-2), .ireturn]),
  (15, 29, [.aload 0, .getfield 1012, .iload 3, .iadd, .iconst 120, .if_icmp .le 29, .iconst (-4), .ireturn]),
  (29, 34, [.iload 3, .iconst 1, .isub, .istore 4]),
  (34, 76, [.iload 4, .ifCond .lt 76, .aload 0, .instanceof 1013, .aload 0, .getfield 1012, .lload 1, .iconst 8, .iload 4, .imul, .lshr, .l2i, .iconst 255, .iand, .iastore, .aload 0, .dup, .getfield 1012, .iconst 1, .iadd, .putfield 1012, .iinc 4 (-1), .goto 34]),
  (76, 81, [.aload 0, .getfield 1012, .ireturn])]
/-- RowGraderModel.wipe()I -/
def mc_143 : List (Nat × Nat × List Instr) := [
  (0, 12, [.aload 0, .getfield 1012, .istore 1, .aload 0, .iconst 0, .putfield 1012, .iload 1, .ireturn])]
/-- RowGraderModel.language(I)I -/
def mc_144 : List (Nat × Nat × List Instr) := [
  (0, 12, [.iload 1, .i2l, .sipush 0, .sipush 1, .invokeinterface 125 3, .ifCond .ne 12, .iconst (-1), .ireturn]),
  (12, 24, [.aload 0, .getfield 1014, .istore 2, .aload 0, .iload 1, .putfield 1014, .iload 2, .ireturn])]
/-- RowGraderModel.word(II)I -/
def mc_145 : List (Nat × Nat × List Instr) := [
  (0, 12, [.iload 1, .i2l, .sipush 0, .sipush 1, .invokeinterface 125 3, .ifCond .ne 12, .iconst (-1), .ireturn]),
  (12, 27, [.iload 2, .i2l, .sipush 0, .sipush 10, .invokeinterface 125 3, .ifCond .ne 27, .iconst (-2), .ireturn]),
  (27, 50, [.aload 0, .multianewarray 146 1001, .aload 0, .getfield 1019, .iconst 1, .if_icmp .eq 50, .aload 0, .aload 0, .getfield 1018, .multianewarray 150 1002, .ifCond .eq 54]),
  (50, 54, [.iconst 1, .goto 55]),
  (54, 55, [.iconst 0]),
  (55, 88, [.istore 3, .aload 0, .getstatic 1020, .lstore 4, .iload 3, .ifCond .eq 94, .aload 0, .multianewarray 147 1001, .aload 0, .getfield 1019, .ifCond .eq 88, .aload 0, .aload 0, .getfield 1018, .multianewarray 150 1002, .ifCond .eq 92]),
  (88, 92, [.iconst 1, .goto 93]),
  (92, 93, [.iconst 0]),
  (93, 94, [.istore 3]),
  (94, 103, [.iload 3, .ifCond .ne 103, .aload 0, .multianewarray 151 1001, .ireturn]),
  (103, 111, [.aload 0, .iconst 0, .putfield 1012, .iconst 0, .istore 6]),
  (111, 145, [.iload 6, .iconst 11, .if_icmp .ge 151, .iload 6, .iload 2, .if_icmp .eq 145, .aload 0, .instanceof 1015, .iconst 11, .iload 1, .imul, .iload 6, .iadd, .laload, .lload 4, .lcmp, .ifCond .ne 145, .iconst (-3), .ireturn]),
  (145, 151, [.iinc 6 1, .goto 111]),
  (151, 166, [.aload 0, .instanceof 1015, .iconst 11, .iload 1, .imul, .iload 2, .iadd, .lload 4, .lastore, .iconst 1, .ireturn])]
/-- RowGraderModel.begin()V -/
def mc_146 : List (Nat × Nat × List Instr) := [
  (0, 16, [.aload 0, .iconst 0, .putfield 1017, .aload 0, .iconst (-5), .putfield 1021, .aload 0, .multianewarray 147 1001, .return_])]
/-- RowGraderModel.take()V -/
def mc_147 : List (Nat × Nat × List Instr) := [
  (0, 38, [.aload 0, .getfield 1017, .aload 0, .getfield 1012, .if_icmp .ge 38, .aload 0, .instanceof 1013, .aload 0, .getfield 1017, .iaload, .iconst 32, .if_icmp .ne 38, .aload 0, .dup, .getfield 1017, .iconst 1, .iadd, .putfield 1017, .goto 0]),
  (38, 58, [.aload 0, .aload 0, .getfield 1017, .putfield 1018, .iconst 1, .istore 1, .iconst 1, .istore 2, .sipush 0, .lstore 3, .sipush 0, .lstore 5, .iconst 0, .istore 7]),
  (58, 110, [.aload 0, .getfield 1017, .aload 0, .getfield 1012, .if_icmp .ge 184, .aload 0, .instanceof 1013, .aload 0, .getfield 1017, .iaload, .iconst 32, .if_icmp .eq 184, .aload 0, .instanceof 1013, .aload 0, .getfield 1017, .iaload, .istore 8, .iload 1, .ifCond .eq 110, .iload 8, .invokeinterface 148 1, .ifCond .eq 110, .iconst 1, .goto 111]),
  (110, 111, [.iconst 0]),
  (111, 128, [.istore 1, .iload 2, .ifCond .eq 128, .iload 8, .invokeinterface 149 1, .ifCond .eq 128, .iconst 1, .goto 129]),
  (128, 129, [.iconst 0]),
  (129, 164, [.istore 2, .lload 3, .iconst 5, .lshl, .iload 8, .iconst 31, .iand, .i2l, .lor, .lstore 3, .iload 7, .iconst 4, .if_icmp .ge 164, .sipush 10, .lload 5, .lmul, .iload 8, .i2l, .ladd, .sipush 48, .lsub, .goto 166]),
  (164, 166, [.lload 5]),
  (166, 184, [.lstore 5, .iinc 7 1, .aload 0, .dup, .getfield 1017, .iconst 1, .iadd, .putfield 1017, .goto 58]),
  (184, 216, [.iload 7, .iconst 1, .if_icmp .ne 216, .aload 0, .instanceof 1013, .aload 0, .getfield 1018, .iaload, .i2l, .sipush 65, .sipush 71, .invokeinterface 125 3, .ifCond .eq 216, .iconst 1, .goto 217]),
  (216, 217, [.iconst 0]),
  (217, 229, [.istore 8, .aload 0, .iload 7, .ifCond .ne 229, .iconst 0, .goto 268]),
  (229, 244, [.iload 1, .ifCond .eq 244, .iload 7, .iconst 8, .if_icmp .gt 244, .iconst 1, .goto 268]),
  (244, 253, [.iload 8, .ifCond .eq 253, .iconst 2, .goto 268]),
  (253, 267, [.iload 2, .ifCond .eq 267, .iload 7, .iconst 3, .if_icmp .gt 267, .iconst 3, .goto 268]),
  (267, 268, [.iconst 4]),
  (268, 284, [.putfield 1019, .aload 0, .aload 0, .getfield 1019, .iconst 1, .if_icmp .ne 284, .lload 3, .goto 307]),
  (284, 305, [.iload 8, .ifCond .eq 305, .aload 0, .instanceof 1013, .aload 0, .getfield 1018, .iaload, .iconst 65, .isub, .i2l, .goto 307]),
  (305, 307, [.lload 5]),
  (307, 311, [.checkcast 1020, .return_])]
/-- RowGraderModel.isLetter(I)Z -/
def mc_148 : List (Nat × Nat × List Instr) := [
  (0, 12, [.iload 0, .i2l, .sipush 97, .sipush 122, .invokeinterface 125 3, .freturn])]
/-- RowGraderModel.isDigit(I)Z -/
def mc_149 : List (Nat × Nat × List Instr) := [
  (0, 12, [.iload 0, .i2l, .sipush 48, .sipush 57, .invokeinterface 125 3, .freturn])]
/-- RowGraderModel.fault(I)Z -/
def mc_150 : List (Nat × Nat × List Instr) := [
  (0, 14, [.aload 0, .aload 0, .getfield 1021, .iconst (-5), .if_icmp .ne 14, .iload 1, .goto 18]),
  (14, 18, [.aload 0, .getfield 1021]),
  (18, 23, [.putfield 1021, .iconst 0, .freturn])]
/-- RowGraderModel.refusedText()I -/
def mc_151 : List (Nat × Nat × List Instr) := [
  (0, 13, [.aload 0, .iconst 0, .putfield 1012, .iconst (-100), .aload 0, .getfield 1021, .isub, .ireturn])]
/-- RowGraderModel.row()I -/
def mc_152 : List (Nat × Nat × List Instr) := [
  (0, 10, [.aload 0, .getfield 1000, .ifCond .ne 10, .iconst (-3), .ireturn]),
  (10, 28, [.aload 0, .multianewarray 146 1001, .aload 0, .multianewarray 153 1001, .ifCond .eq 28, .aload 0, .multianewarray 156 1001, .ifCond .ne 33]),
  (28, 33, [.aload 0, .multianewarray 151 1001, .ireturn]),
  (33, 50, [.aload 0, .iconst 0, .putfield 1012, .aload 0, .getfield 1024, .iconst 40, .if_icmp .ne 50, .iconst (-4), .ireturn]),
  (50, 109, [.aload 0, .dup, .getfield 1024, .iconst 1, .iadd, .putfield 1024, .aload 0, .aload 0, .getfield 1024, .multianewarray 157 1002, .aload 0, .instanceof 1029, .aload 0, .getfield 1024, .aload 0, .getfield 1033, .iastore, .aload 0, .instanceof 1030, .aload 0, .getfield 1024, .aload 0, .getfield 1034, .iastore, .aload 0, .instanceof 1031, .aload 0, .getfield 1024, .aload 0, .getfield 1035, .iastore, .iconst 0, .istore 1]),
  (109, 143, [.iload 1, .aload 0, .getfield 1035, .if_icmp .ge 143, .aload 0, .instanceof 1032, .iconst 6, .aload 0, .getfield 1024, .imul, .iload 1, .iadd, .aload 0, .instanceof 1036, .iload 1, .iaload, .iastore, .iinc 1 1, .goto 109]),
  (143, 153, [.aload 0, .iconst 0, .putstatic 1037, .aload 0, .getfield 1024, .ireturn])]
/-- RowGraderModel.readFact()Z -/
def mc_153 : List (Nat × Nat × List Instr) := [
  (0, 32, [.aload 0, .aload 0, .multianewarray 154 1001, .putfield 1022, .aload 0, .getfield 1022, .i2l, .sipush 0, .sipush 6, .invokeinterface 125 3, .ifCond .ne 32, .aload 0, .aload 0, .getfield 1018, .multianewarray 150 1002, .freturn]),
  (32, 46, [.aload 0, .getfield 1018, .istore 1, .aload 0, .instanceof 1023, .iconst 3, .iconst 0, .iastore, .iconst 0, .istore 2]),
  (46, 82, [.iload 2, .aload 0, .getfield 1022, .invokeinterface 155 1, .if_icmp .ge 108, .aload 0, .multianewarray 147 1001, .aload 0, .getfield 1019, .iconst 2, .if_icmp .ne 82, .aload 0, .getstatic 1020, .aload 0, .getfield 1000, .i2l, .lcmp, .ifCond .lt 91]),
  (82, 91, [.aload 0, .aload 0, .getfield 1018, .multianewarray 150 1002, .freturn]),
  (91, 108, [.aload 0, .instanceof 1023, .iload 2, .aload 0, .getstatic 1020, .l2i, .iastore, .iinc 2 1, .goto 46]),
  (108, 155, [.aload 0, .multianewarray 147 1001, .aload 0, .aload 0, .getfield 1022, .aload 0, .instanceof 1023, .iconst 0, .iaload, .aload 0, .instanceof 1023, .iconst 1, .iaload, .aload 0, .instanceof 1023, .iconst 2, .iaload, .aload 0, .instanceof 1023, .iconst 3, .iaload, .multianewarray 131 1006, .ifCond .ge 155, .aload 0, .iload 1, .multianewarray 150 1002, .ifCond .eq 159]),
  (155, 159, [.iconst 1, .goto 160]),
  (159, 160, [.iconst 0]),
  (160, 161, [.freturn])]
/-- RowGraderModel.whichWord()I -/
def mc_154 : List (Nat × Nat × List Instr) := [
  (0, 5, [.iconst (-5), .istore 1, .iconst 0, .istore 2]),
  (5, 45, [.iload 2, .iconst 11, .if_icmp .ge 53, .aload 0, .getfield 1019, .iconst 1, .if_icmp .ne 53, .aload 0, .instanceof 1015, .iconst 11, .aload 0, .getfield 1014, .imul, .iload 2, .iadd, .laload, .aload 0, .getstatic 1020, .lcmp, .ifCond .ne 45, .iload 2, .goto 46]),
  (45, 46, [.iload 1]),
  (46, 53, [.istore 1, .iinc 2 1, .goto 5]),
  (53, 55, [.iload 1, .ireturn])]
/-- RowGraderModel.pointsOf(I)I -/
def mc_155 : List (Nat × Nat × List Instr) := [
  (0, 15, [.iload 0, .ifCond .eq 15, .iload 0, .iconst 4, .if_icmp .eq 15, .iload 0, .iconst 6, .if_icmp .ne 19]),
  (15, 19, [.iconst 3, .goto 20]),
  (19, 20, [.iconst 4]),
  (20, 21, [.ireturn])]
/-- RowGraderModel.readReason()Z -/
def mc_156 : List (Nat × Nat × List Instr) := [
  (0, 25, [.aload 0, .iconst 0, .putfield 1033, .aload 0, .iconst (-5), .putfield 1034, .aload 0, .iconst 0, .putfield 1035, .aload 0, .getfield 1019, .ifCond .ne 25, .iconst 1, .freturn]),
  (25, 53, [.aload 0, .multianewarray 154 1001, .istore 1, .iload 1, .i2l, .sipush 7, .sipush 9, .invokeinterface 125 3, .ifCond .ne 53, .aload 0, .aload 0, .getfield 1018, .multianewarray 150 1002, .freturn]),
  (53, 91, [.aload 0, .iload 1, .iconst 6, .isub, .putfield 1033, .aload 0, .multianewarray 147 1001, .aload 0, .getfield 1033, .iconst 3, .if_icmp .ge 97, .aload 0, .getfield 1019, .ifCond .eq 91, .aload 0, .aload 0, .getfield 1018, .multianewarray 150 1002, .ifCond .eq 95]),
  (91, 95, [.iconst 1, .goto 96]),
  (95, 96, [.iconst 0]),
  (96, 97, [.freturn]),
  (97, 116, [.aload 0, .getfield 1019, .iconst 3, .if_icmp .ne 116, .aload 0, .getstatic 1020, .sipush 16, .lcmp, .ifCond .le 125]),
  (116, 125, [.aload 0, .aload 0, .getfield 1018, .multianewarray 150 1002, .freturn]),
  (125, 147, [.aload 0, .aload 0, .getstatic 1020, .l2i, .putfield 1034, .aload 0, .multianewarray 147 1001, .aload 0, .getfield 1019, .ifCond .ne 147, .iconst 1, .freturn]),
  (147, 165, [.aload 0, .multianewarray 154 1001, .iconst 10, .if_icmp .eq 165, .aload 0, .aload 0, .getfield 1018, .multianewarray 150 1002, .freturn]),
  (165, 171, [.aload 0, .multianewarray 147 1001, .iconst 1, .istore 2]),
  (171, 201, [.iload 2, .ifCond .eq 254, .aload 0, .getfield 1019, .iconst 3, .if_icmp .ne 201, .aload 0, .getstatic 1020, .sipush 1, .lcmp, .ifCond .lt 201, .aload 0, .getfield 1035, .iconst 6, .if_icmp .ne 210]),
  (201, 210, [.aload 0, .aload 0, .getfield 1018, .multianewarray 150 1002, .freturn]),
  (210, 249, [.aload 0, .instanceof 1036, .aload 0, .getfield 1035, .aload 0, .getstatic 1020, .l2i, .iastore, .aload 0, .dup, .getfield 1035, .iconst 1, .iadd, .putfield 1035, .aload 0, .multianewarray 147 1001, .aload 0, .getfield 1019, .ifCond .eq 249, .iconst 1, .goto 250]),
  (249, 250, [.iconst 0]),
  (250, 254, [.istore 2, .goto 171]),
  (254, 256, [.iconst 1, .freturn])]
/-- RowGraderModel.keepFact(I)V -/
def mc_157 : List (Nat × Nat × List Instr) := [
  (0, 75, [.aload 0, .instanceof 1026, .iload 1, .aload 0, .getfield 1022, .iastore, .aload 0, .instanceof 1023, .iconst 0, .iaload, .istore 2, .aload 0, .instanceof 1023, .iconst 1, .iaload, .istore 3, .aload 0, .instanceof 1023, .iconst 2, .iaload, .istore 4, .aload 0, .instanceof 1023, .iconst 3, .iaload, .istore 5, .aload 0, .instanceof 1028, .iload 1, .aload 0, .aload 0, .getfield 1022, .iload 2, .iload 3, .iload 4, .iload 5, .multianewarray 131 1006, .iastore, .aload 0, .getfield 1022, .ifCond .eq 75, .aload 0, .getfield 1022, .iconst 5, .if_icmp .ne 83]),
  (75, 83, [.aload 0, .iload 1, .multianewarray 158 1002, .goto 250]),
  (83, 104, [.aload 0, .getfield 1022, .iconst 4, .if_icmp .lt 126, .aload 0, .iload 1, .iload 2, .iload 3, .iload 4, .if_icmp .ge 104, .iload 3, .goto 106]),
  (104, 106, [.iload 4]),
  (106, 117, [.iload 3, .iload 4, .if_icmp .ge 117, .iload 4, .goto 118]),
  (117, 118, [.iload 3]),
  (118, 126, [.iconst (-5), .multianewarray 159 1006, .goto 250]),
  (126, 152, [.iload 2, .iload 3, .invokeinterface 133 2, .iload 4, .iload 5, .invokeinterface 133 2, .if_icmp .ge 197, .aload 0, .iload 1, .iload 2, .iload 3, .if_icmp .ge 152, .iload 2, .goto 153]),
  (152, 153, [.iload 3]),
  (153, 162, [.iload 2, .iload 3, .if_icmp .ge 162, .iload 3, .goto 163]),
  (162, 163, [.iload 2]),
  (163, 175, [.iload 4, .iload 5, .if_icmp .ge 175, .iload 4, .goto 177]),
  (175, 177, [.iload 5]),
  (177, 189, [.iload 4, .iload 5, .if_icmp .ge 189, .iload 5, .goto 191]),
  (189, 191, [.iload 4]),
  (191, 197, [.multianewarray 159 1006, .goto 250]),
  (197, 211, [.aload 0, .iload 1, .iload 4, .iload 5, .if_icmp .ge 211, .iload 4, .goto 213]),
  (211, 213, [.iload 5]),
  (213, 225, [.iload 4, .iload 5, .if_icmp .ge 225, .iload 5, .goto 227]),
  (225, 227, [.iload 4]),
  (227, 236, [.iload 2, .iload 3, .if_icmp .ge 236, .iload 2, .goto 237]),
  (236, 237, [.iload 3]),
  (237, 246, [.iload 2, .iload 3, .if_icmp .ge 246, .iload 3, .goto 247]),
  (246, 247, [.iload 2]),
  (247, 250, [.multianewarray 159 1006]),
  (250, 251, [.return_])]
/-- RowGraderModel.sort0(I)V -/
def mc_158 : List (Nat × Nat × List Instr) := [
  (0, 17, [.aload 0, .iload 1, .iconst (-5), .iconst (-5), .iconst (-5), .iconst (-5), .multianewarray 159 1006, .iconst 0, .istore 2, .iconst 0, .istore 3]),
  (17, 31, [.iload 3, .aload 0, .getfield 1000, .if_icmp .ge 97, .iconst 0, .istore 4, .iconst 0, .istore 5]),
  (31, 59, [.iload 5, .aload 0, .getfield 1022, .invokeinterface 155 1, .if_icmp .ge 72, .iload 4, .ifCond .ne 59, .aload 0, .instanceof 1023, .iload 5, .iaload, .iload 3, .if_icmp .ne 63]),
  (59, 63, [.iconst 1, .goto 64]),
  (63, 64, [.iconst 0]),
  (64, 72, [.istore 4, .iinc 5 1, .goto 31]),
  (72, 91, [.iload 4, .ifCond .eq 91, .aload 0, .instanceof 1027, .iconst 4, .iload 1, .imul, .iload 2, .iadd, .iload 3, .iastore, .iinc 2 1]),
  (91, 97, [.iinc 3 1, .goto 17]),
  (97, 98, [.return_])]
/-- RowGraderModel.put(IIIII)V -/
def mc_159 : List (Nat × Nat × List Instr) := [
  (0, 45, [.aload 0, .instanceof 1027, .iconst 4, .iload 1, .imul, .iload 2, .iastore, .aload 0, .instanceof 1027, .iconst 4, .iload 1, .imul, .iconst 1, .iadd, .iload 3, .iastore, .aload 0, .instanceof 1027, .iconst 4, .iload 1, .imul, .iconst 2, .iadd, .iload 4, .iastore, .aload 0, .instanceof 1027, .iconst 4, .iload 1, .imul, .iconst 3, .iadd, .iload 5, .iastore, .return_])]
/-- RowGraderModel.goal()I -/
def mc_160 : List (Nat × Nat × List Instr) := [
  (0, 10, [.aload 0, .getfield 1000, .ifCond .ne 10, .iconst (-3), .ireturn]),
  (10, 39, [.aload 0, .multianewarray 146 1001, .aload 0, .multianewarray 153 1001, .ifCond .eq 39, .aload 0, .getfield 1019, .ifCond .eq 44, .aload 0, .aload 0, .getfield 1018, .multianewarray 150 1002, .ifCond .ne 44]),
  (39, 44, [.aload 0, .multianewarray 151 1001, .ireturn]),
  (44, 69, [.aload 0, .iconst 0, .putfield 1012, .aload 0, .iconst 0, .multianewarray 157 1002, .aload 0, .iconst 1, .putstatic 1025, .aload 0, .instanceof 1030, .iconst 0, .iconst (-5), .iastore, .iconst 1, .ireturn])]
/-- RowGraderModel.back()I -/
def mc_161 : List (Nat × Nat × List Instr) := [
  (0, 10, [.aload 0, .getfield 1024, .ifCond .ne 10, .iconst (-3), .ireturn]),
  (10, 30, [.aload 0, .dup, .getfield 1024, .iconst 1, .isub, .putfield 1024, .aload 0, .iconst 0, .putstatic 1037, .aload 0, .getfield 1024, .ireturn])]
/-- RowGraderModel.fact(II)I -/
def mc_162 : List (Nat × Nat × List Instr) := [
  (0, 10, [.aload 0, .iload 1, .multianewarray 163 1002, .ifCond .ne 10, .iconst (-1), .ireturn]),
  (10, 25, [.iload 2, .i2l, .sipush 0, .sipush 7, .invokeinterface 125 3, .ifCond .ne 25, .iconst (-2), .ireturn]),
  (25, 38, [.iload 2, .ifCond .ne 38, .aload 0, .instanceof 1026, .iload 1, .iaload, .goto 93]),
  (38, 58, [.iload 2, .iconst 5, .if_icmp .ge 58, .aload 0, .instanceof 1027, .iconst 4, .iload 1, .imul, .iload 2, .iadd, .iconst 1, .isub, .iaload, .goto 93]),
  (58, 72, [.iload 2, .iconst 5, .if_icmp .ne 72, .aload 0, .instanceof 1029, .iload 1, .iaload, .goto 93]),
  (72, 87, [.iload 2, .iconst 6, .if_icmp .ne 87, .aload 0, .instanceof 1030, .iload 1, .iaload, .goto 93]),
  (87, 93, [.aload 0, .instanceof 1031, .iload 1, .iaload]),
  (93, 94, [.ireturn])]
/-- RowGraderModel.isRowOrGoal(I)Z -/
def mc_163 : List (Nat × Nat × List Instr) := [
  (0, 19, [.aload 0, .iload 1, .multianewarray 164 1002, .ifCond .ne 19, .iload 1, .ifCond .ne 23, .aload 0, .getfield 1025, .ifCond .eq 23]),
  (19, 23, [.iconst 1, .goto 24]),
  (23, 24, [.iconst 0]),
  (24, 25, [.freturn])]
/-- RowGraderModel.isRow(I)Z -/
def mc_164 : List (Nat × Nat × List Instr) := [
  (0, 12, [.iload 1, .i2l, .sipush 1, .aload 0, .getfield 1024, .i2l, .invokeinterface 125 3, .freturn])]
/-- RowGraderModel.because(II)I -/
def mc_165 : List (Nat × Nat × List Instr) := [
  (0, 40, [.aload 0, .iload 1, .multianewarray 164 1002, .ifCond .eq 40, .iload 2, .i2l, .sipush 0, .aload 0, .instanceof 1031, .iload 1, .iaload, .iconst 1, .isub, .i2l, .invokeinterface 125 3, .ifCond .eq 40, .aload 0, .instanceof 1032, .iconst 6, .iload 1, .imul, .iload 2, .iadd, .iaload, .goto 41]),
  (40, 41, [.iconst (-1)]),
  (41, 42, [.ireturn])]
/-- RowGraderModel.alike(IIIIII)I -/
def mc_166 : List (Nat × Nat × List Instr) := [
  (0, 10, [.aload 0, .iload 1, .multianewarray 163 1002, .ifCond .ne 10, .iconst (-1), .ireturn]),
  (10, 34, [.aload 0, .iload 2, .iload 3, .iload 4, .iload 5, .iload 6, .multianewarray 131 1006, .istore 7, .iload 7, .ifCond .ge 34, .iconst (-2), .goto 50]),
  (34, 49, [.iload 7, .aload 0, .instanceof 1028, .iload 1, .iaload, .if_icmp .ne 49, .iconst 1, .goto 50]),
  (49, 50, [.iconst 0]),
  (50, 51, [.ireturn])]
/-- RowGraderModel.grade()I -/
def mc_167 : List (Nat × Nat × List Instr) := [
  (0, 13, [.aload 0, .iconst 0, .putfield 1043, .aload 0, .iconst (-5), .putfield 1047, .iconst 0, .istore 1]),
  (13, 38, [.iload 1, .aload 0, .getfield 1001, .if_icmp .ge 38, .aload 0, .instanceof 1046, .iload 1, .aload 0, .iload 1, .multianewarray 140 1002, .bastore, .iinc 1 1, .goto 13]),
  (38, 40, [.iconst 1, .istore 1]),
  (40, 90, [.iload 1, .aload 0, .getfield 1024, .if_icmp .gt 90, .aload 0, .instanceof 1042, .iload 1, .iconst 0, .iastore, .aload 0, .instanceof 1038, .iload 1, .iconst 0, .iastore, .aload 0, .instanceof 1039, .iload 1, .iconst 0, .iastore, .aload 0, .instanceof 1040, .iload 1, .iconst 0, .iastore, .aload 0, .instanceof 1041, .iload 1, .iconst (-5), .iastore, .iinc 1 1, .goto 40]),
  (90, 92, [.iconst 1, .istore 1]),
  (92, 103, [.iload 1, .ifCond .eq 149, .iconst 0, .istore 2, .aload 0, .getfield 1024, .istore 3]),
  (103, 119, [.iload 3, .ifCond .le 127, .aload 0, .iload 3, .multianewarray 168 1002, .ifCond .eq 119, .iload 3, .goto 120]),
  (119, 120, [.iload 2]),
  (120, 127, [.istore 2, .iinc 3 (-1), .goto 103]),
  (127, 135, [.iload 2, .ifCond .le 135, .iconst 1, .goto 136]),
  (135, 136, [.iconst 0]),
  (136, 146, [.istore 1, .iload 1, .ifCond .eq 146, .aload 0, .iload 2, .multianewarray 169 1002]),
  (146, 149, [.goto 92]),
  (149, 171, [.aload 0, .multianewarray 185 1001, .aload 0, .iconst 1, .putstatic 1037, .aload 0, .iconst (-5), .putfield 1047, .iconst 0, .istore 2, .aload 0, .getfield 1024, .istore 3]),
  (171, 189, [.iload 3, .ifCond .le 197, .aload 0, .instanceof 1038, .iload 3, .iaload, .iconst 1, .if_icmp .eq 189, .iload 3, .goto 190]),
  (189, 190, [.iload 2]),
  (190, 197, [.istore 2, .iinc 3 (-1), .goto 171]),
  (197, 199, [.iload 2, .ireturn])]
/-- RowGraderModel.mayBeGraded(I)Z -/
def mc_168 : List (Nat × Nat × List Instr) := [
  (0, 13, [.aload 0, .instanceof 1042, .iload 1, .iaload, .ifCond .ne 13, .iconst 1, .goto 14]),
  (13, 14, [.iconst 0]),
  (14, 17, [.istore 2, .iconst 0, .istore 3]),
  (17, 63, [.iload 3, .aload 0, .instanceof 1031, .iload 1, .iaload, .if_icmp .ge 75, .aload 0, .instanceof 1032, .iconst 6, .iload 1, .imul, .iload 3, .iadd, .iaload, .istore 4, .iload 2, .ifCond .eq 67, .iload 4, .aload 0, .getfield 1024, .if_icmp .gt 63, .aload 0, .instanceof 1042, .iload 4, .iaload, .ifCond .le 67]),
  (63, 67, [.iconst 1, .goto 68]),
  (67, 68, [.iconst 0]),
  (68, 75, [.istore 2, .iinc 3 1, .goto 17]),
  (75, 77, [.iload 2, .freturn])]
/-- RowGraderModel.gradeRow(I)V -/
def mc_169 : List (Nat × Nat × List Instr) := [
  (0, 37, [.aload 0, .iload 1, .multianewarray 170 1002, .istore 2, .aload 0, .instanceof 1039, .iload 1, .iload 2, .iastore, .aload 0, .instanceof 1040, .iload 1, .iload 2, .iconst 5, .if_icmp .ne 37, .aload 0, .instanceof 1011, .aload 0, .instanceof 1028, .iload 1, .iaload, .iaload, .goto 38]),
  (37, 38, [.iconst 0]),
  (38, 54, [.iastore, .aload 0, .instanceof 1041, .iload 1, .iconst (-5), .iastore, .aload 0, .getfield 1001, .iconst 1, .isub, .istore 3]),
  (54, 89, [.iload 3, .ifCond .lt 102, .iload 2, .ifCond .ne 102, .aload 0, .instanceof 1041, .iload 1, .aload 0, .instanceof 1046, .iload 3, .baload, .ifCond .eq 89, .aload 0, .iload 3, .iload 1, .multianewarray 141 1003, .ifCond .ne 89, .iload 3, .goto 95]),
  (89, 95, [.aload 0, .instanceof 1041, .iload 1, .iaload]),
  (95, 102, [.iastore, .iinc 3 (-1), .goto 54]),
  (102, 115, [.aload 0, .instanceof 1038, .iload 1, .iload 2, .ifCond .le 115, .iconst 1, .goto 129]),
  (115, 128, [.aload 0, .instanceof 1041, .iload 1, .iaload, .ifCond .lt 128, .iconst 0, .goto 129]),
  (128, 129, [.iconst 2]),
  (129, 160, [.iastore, .aload 0, .dup, .getfield 1043, .iconst 1, .iadd, .putfield 1043, .aload 0, .instanceof 1042, .iload 1, .aload 0, .getfield 1043, .iastore, .aload 0, .iload 2, .ifCond .le 160, .iconst (-5), .goto 164]),
  (160, 164, [.aload 0, .getfield 1047]),
  (164, 168, [.putfield 1047, .return_])]
/-- RowGraderModel.wayOf(I)I -/
def mc_170 : List (Nat × Nat × List Instr) := [
  (0, 12, [.aload 0, .instanceof 1029, .iload 1, .iaload, .iconst 1, .if_icmp .ne 12, .iconst 1, .ireturn]),
  (12, 22, [.aload 0, .iload 1, .multianewarray 171 1002, .ifCond .eq 22, .iconst 2, .ireturn]),
  (22, 42, [.aload 0, .instanceof 1029, .iload 1, .iaload, .iconst 2, .if_icmp .ne 42, .aload 0, .iload 1, .multianewarray 172 1002, .ifCond .eq 42, .iconst 3, .ireturn]),
  (42, 62, [.aload 0, .instanceof 1029, .iload 1, .iaload, .iconst 3, .if_icmp .ne 62, .aload 0, .iload 1, .multianewarray 173 1002, .ifCond .eq 62, .iconst 4, .ireturn]),
  (62, 74, [.aload 0, .iload 1, .multianewarray 181 1002, .ifCond .le 74, .iconst 5, .goto 75]),
  (74, 75, [.iconst 0]),
  (75, 76, [.ireturn])]
/-- RowGraderModel.isAgain(I)Z -/
def mc_171 : List (Nat × Nat × List Instr) := [
  (0, 4, [.iconst 0, .istore 2, .iconst 1, .istore 3]),
  (4, 55, [.iload 3, .aload 0, .getfield 1024, .if_icmp .gt 67, .iload 2, .ifCond .ne 55, .iload 3, .iload 1, .if_icmp .eq 59, .aload 0, .instanceof 1042, .iload 3, .iaload, .ifCond .le 59, .aload 0, .instanceof 1038, .iload 3, .iaload, .iconst 1, .if_icmp .ne 59, .aload 0, .instanceof 1028, .iload 3, .iaload, .aload 0, .instanceof 1028, .iload 1, .iaload, .if_icmp .ne 59]),
  (55, 59, [.iconst 1, .goto 60]),
  (59, 60, [.iconst 0]),
  (60, 67, [.istore 2, .iinc 3 1, .goto 4]),
  (67, 69, [.iload 2, .freturn])]
/-- RowGraderModel.isSeen(I)Z -/
def mc_172 : List (Nat × Nat × List Instr) := [
  (0, 17, [.iconst 0, .istore 2, .aload 0, .instanceof 1026, .iload 1, .iaload, .iconst 6, .if_icmp .ne 17, .iconst 1, .goto 18]),
  (17, 18, [.iconst 0]),
  (18, 22, [.istore 3, .iconst 0, .istore 4]),
  (22, 45, [.iload 4, .aload 0, .getfield 1001, .if_icmp .ge 87, .iload 2, .ifCond .ne 45, .aload 0, .instanceof 1046, .iload 4, .baload, .ifCond .eq 49]),
  (45, 49, [.iconst 1, .goto 50]),
  (49, 50, [.iconst 0]),
  (50, 75, [.istore 2, .iload 3, .ifCond .eq 79, .aload 0, .instanceof 1046, .iload 4, .baload, .ifCond .eq 75, .aload 0, .iload 4, .iload 1, .multianewarray 141 1003, .ifCond .eq 79]),
  (75, 79, [.iconst 1, .goto 80]),
  (79, 80, [.iconst 0]),
  (80, 87, [.istore 3, .iinc 4 1, .goto 22]),
  (87, 99, [.iload 2, .ifCond .eq 99, .iload 3, .ifCond .eq 99, .iconst 1, .goto 100]),
  (99, 100, [.iconst 0]),
  (100, 101, [.freturn])]
/-- RowGraderModel.isBy(I)Z -/
def mc_173 : List (Nat × Nat × List Instr) := [
  (0, 6, [.aload 0, .multianewarray 174 1001, .iconst 0, .istore 2]),
  (6, 67, [.iload 2, .aload 0, .instanceof 1031, .iload 1, .iaload, .if_icmp .ge 73, .aload 0, .instanceof 1032, .iconst 6, .iload 1, .imul, .iload 2, .iadd, .iaload, .istore 3, .iload 3, .aload 0, .getfield 1024, .if_icmp .gt 67, .aload 0, .instanceof 1042, .iload 3, .iaload, .ifCond .le 67, .aload 0, .instanceof 1038, .iload 3, .iaload, .iconst 1, .if_icmp .ne 67, .aload 0, .instanceof 1011, .aload 0, .instanceof 1028, .iload 3, .iaload, .iconst 0, .iastore]),
  (67, 73, [.iinc 2 1, .goto 6]),
  (73, 91, [.aload 0, .aload 0, .instanceof 1030, .iload 1, .iaload, .aload 0, .instanceof 1028, .iload 1, .iaload, .iconst 1, .multianewarray 175 1004, .freturn])]
/-- RowGraderModel.noLevels()V -/
def mc_174 : List (Nat × Nat × List Instr) := [
  (0, 2, [.iconst 0, .istore 1]),
  (2, 22, [.iload 1, .iconst 4400, .if_icmp .ge 22, .aload 0, .instanceof 1011, .iload 1, .iconst (-1), .iastore, .iinc 1 1, .goto 2]),
  (22, 29, [.aload 0, .iconst (-5), .putfield 1047, .return_])]
/-- RowGraderModel.follows(III)Z -/
def mc_175 : List (Nat × Nat × List Instr) := [
  (0, 34, [.aload 0, .aload 0, .instanceof 1006, .iload 1, .iaload, .multianewarray 176 1002, .istore 4, .aload 0, .aload 0, .instanceof 1005, .iload 1, .iaload, .aload 0, .instanceof 1006, .iload 1, .iaload, .isub, .multianewarray 176 1002, .istore 5, .iconst 0, .istore 6]),
  (34, 71, [.iload 6, .iload 4, .if_icmp .ge 136, .aload 0, .iconst 0, .aload 0, .instanceof 1006, .iload 1, .iaload, .iload 6, .multianewarray 177 1004, .aload 0, .aload 0, .instanceof 1007, .iload 1, .iaload, .iload 3, .multianewarray 178 1003, .ifCond .ne 71, .goto 130]),
  (71, 74, [.iconst 0, .istore 7]),
  (74, 124, [.iload 7, .iload 5, .if_icmp .ge 130, .aload 0, .aload 0, .instanceof 1006, .iload 1, .iaload, .aload 0, .instanceof 1005, .iload 1, .iaload, .iload 7, .multianewarray 177 1004, .aload 0, .aload 0, .instanceof 1009, .iload 1, .iaload, .multianewarray 179 1002, .iload 2, .if_icmp .ne 124, .aload 0, .iload 1, .iload 3, .multianewarray 180 1003, .ifCond .eq 124, .iconst 1, .freturn]),
  (124, 130, [.iinc 7 1, .goto 74]),
  (130, 136, [.iinc 6 1, .goto 34]),
  (136, 138, [.iconst 0, .freturn])]
/-- RowGraderModel.power(I)I -/
def mc_176 : List (Nat × Nat × List Instr) := [
  (0, 4, [.iconst 1, .istore 2, .iconst 0, .istore 3]),
  (4, 22, [.iload 3, .iload 1, .if_icmp .ge 22, .iload 2, .aload 0, .getfield 1000, .imul, .istore 2, .iinc 3 1, .goto 4]),
  (22, 24, [.iload 2, .ireturn])]
/-- RowGraderModel.assign(III)V -/
def mc_177 : List (Nat × Nat × List Instr) := [
  (0, 8, [.iload 3, .istore 4, .iload 2, .iconst 1, .isub, .istore 5]),
  (8, 43, [.iload 5, .iload 1, .if_icmp .lt 43, .aload 0, .instanceof 1010, .iload 5, .iload 4, .aload 0, .getfield 1000, .irem, .iastore, .iload 4, .aload 0, .getfield 1000, .idiv, .istore 4, .iinc 5 (-1), .goto 8]),
  (43, 44, [.return_])]
/-- RowGraderModel.isHad(II)Z -/
def mc_178 : List (Nat × Nat × List Instr) := [
  (0, 33, [.aload 0, .iload 1, .multianewarray 179 1002, .istore 3, .iload 3, .ifCond .lt 33, .aload 0, .instanceof 1011, .iload 3, .iaload, .ifCond .lt 33, .aload 0, .instanceof 1011, .iload 3, .iaload, .iload 2, .if_icmp .ge 33, .iconst 1, .goto 34]),
  (33, 34, [.iconst 0]),
  (34, 35, [.freturn])]
/-- RowGraderModel.slotBy(I)I -/
def mc_179 : List (Nat × Nat × List Instr) := [
  (0, 56, [.aload 0, .iload 1, .iconst 10000, .idiv, .aload 0, .instanceof 1010, .iload 1, .iconst 1000, .idiv, .iconst 10, .irem, .iaload, .aload 0, .instanceof 1010, .iload 1, .iconst 100, .idiv, .iconst 10, .irem, .iaload, .aload 0, .instanceof 1010, .iload 1, .iconst 10, .idiv, .iconst 10, .irem, .iaload, .aload 0, .instanceof 1010, .iload 1, .iconst 10, .irem, .iaload, .multianewarray 131 1006, .ireturn])]
/-- RowGraderModel.holdsAll(II)Z -/
def mc_180 : List (Nat × Nat × List Instr) := [
  (0, 23, [.aload 0, .instanceof 1008, .iload 1, .iaload, .ifCond .lt 23, .aload 0, .aload 0, .instanceof 1008, .iload 1, .iaload, .iload 2, .multianewarray 178 1003, .ifCond .eq 44]),
  (23, 40, [.iload 1, .iconst 12, .if_icmp .ne 40, .aload 0, .iconst 30304, .iload 2, .multianewarray 178 1003, .ifCond .eq 44]),
  (40, 44, [.iconst 1, .goto 45]),
  (44, 45, [.iconst 0]),
  (45, 46, [.freturn])]
/-- RowGraderModel.levelOf(I)I -/
def mc_181 : List (Nat × Nat × List Instr) := [
  (0, 22, [.aload 0, .getfield 1047, .iconst 2, .if_icmp .eq 22, .aload 0, .multianewarray 182 1001, .aload 0, .iconst 2, .multianewarray 183 1002, .aload 0, .iconst 2, .putfield 1047]),
  (22, 34, [.aload 0, .instanceof 1011, .aload 0, .instanceof 1028, .iload 1, .iaload, .iaload, .ireturn])]
/-- RowGraderModel.levelRows()V -/
def mc_182 : List (Nat × Nat × List Instr) := [
  (0, 6, [.aload 0, .multianewarray 174 1001, .iconst 1, .istore 1]),
  (6, 45, [.iload 1, .aload 0, .getfield 1024, .if_icmp .gt 51, .aload 0, .instanceof 1042, .iload 1, .iaload, .ifCond .le 45, .aload 0, .instanceof 1038, .iload 1, .iaload, .iconst 1, .if_icmp .ne 45, .aload 0, .instanceof 1011, .aload 0, .instanceof 1028, .iload 1, .iaload, .iconst 0, .iastore]),
  (45, 51, [.iinc 1 1, .goto 6]),
  (51, 52, [.return_])]
/-- RowGraderModel.spreadUpTo(I)V -/
def mc_183 : List (Nat × Nat × List Instr) := [
  (0, 2, [.iconst 1, .istore 2]),
  (2, 9, [.iload 2, .iload 1, .if_icmp .gt 33, .iconst 0, .istore 3]),
  (9, 27, [.iload 3, .iconst 17, .if_icmp .ge 27, .aload 0, .iload 3, .iload 2, .multianewarray 184 1003, .iinc 3 1, .goto 9]),
  (27, 33, [.iinc 2 1, .goto 2]),
  (33, 34, [.return_])]
/-- RowGraderModel.spread(II)V -/
def mc_184 : List (Nat × Nat × List Instr) := [
  (0, 33, [.aload 0, .aload 0, .instanceof 1006, .iload 1, .iaload, .multianewarray 176 1002, .istore 3, .aload 0, .aload 0, .instanceof 1005, .iload 1, .iaload, .aload 0, .instanceof 1006, .iload 1, .iaload, .isub, .multianewarray 176 1002, .istore 4, .iconst 0, .istore 5]),
  (33, 69, [.iload 5, .iload 3, .if_icmp .ge 153, .aload 0, .iconst 0, .aload 0, .instanceof 1006, .iload 1, .iaload, .iload 5, .multianewarray 177 1004, .aload 0, .aload 0, .instanceof 1007, .iload 1, .iaload, .iload 2, .multianewarray 178 1003, .ifCond .ne 69, .goto 147]),
  (69, 72, [.iconst 0, .istore 6]),
  (72, 141, [.iload 6, .iload 4, .if_icmp .ge 147, .aload 0, .aload 0, .instanceof 1006, .iload 1, .iaload, .aload 0, .instanceof 1005, .iload 1, .iaload, .iload 6, .multianewarray 177 1004, .aload 0, .aload 0, .instanceof 1009, .iload 1, .iaload, .multianewarray 179 1002, .istore 7, .iload 7, .ifCond .lt 141, .aload 0, .instanceof 1011, .iload 7, .iaload, .ifCond .ge 141, .aload 0, .iload 1, .iload 2, .multianewarray 180 1003, .ifCond .eq 141, .aload 0, .instanceof 1011, .iload 7, .iload 2, .iastore]),
  (141, 147, [.iinc 6 1, .goto 72]),
  (147, 153, [.iinc 5 1, .goto 33]),
  (153, 154, [.return_])]
/-- RowGraderModel.findCircle()V -/
def mc_185 : List (Nat × Nat × List Instr) := [
  (0, 12, [.aload 0, .iconst 0, .putfield 1044, .iconst 0, .istore 1, .aload 0, .getfield 1024, .istore 2]),
  (12, 29, [.iload 2, .ifCond .le 37, .aload 0, .instanceof 1042, .iload 2, .iaload, .ifCond .ne 29, .iload 2, .goto 30]),
  (29, 30, [.iload 1]),
  (30, 37, [.istore 1, .iinc 2 (-1), .goto 12]),
  (37, 42, [.iload 1, .ifCond .ne 42, .return_]),
  (42, 45, [.iconst (-5), .istore 2]),
  (45, 77, [.iload 2, .ifCond .ge 110, .aload 0, .instanceof 1045, .aload 0, .getfield 1044, .iload 1, .iastore, .aload 0, .dup, .getfield 1044, .iconst 1, .iadd, .putfield 1044, .aload 0, .iload 1, .multianewarray 186 1002, .istore 1, .iconst 0, .istore 3]),
  (77, 99, [.iload 3, .aload 0, .getfield 1044, .if_icmp .ge 107, .aload 0, .instanceof 1045, .iload 3, .iaload, .iload 1, .if_icmp .ne 99, .iload 3, .goto 100]),
  (99, 100, [.iload 2]),
  (100, 107, [.istore 2, .iinc 3 1, .goto 77]),
  (107, 110, [.goto 45]),
  (110, 112, [.iload 2, .istore 3]),
  (112, 140, [.iload 3, .aload 0, .getfield 1044, .if_icmp .ge 140, .aload 0, .instanceof 1045, .iload 3, .iload 2, .isub, .aload 0, .instanceof 1045, .iload 3, .iaload, .iastore, .iinc 3 1, .goto 112]),
  (140, 151, [.aload 0, .dup, .getfield 1044, .iload 2, .isub, .putfield 1044, .return_])]
/-- RowGraderModel.leftOf(I)I -/
def mc_186 : List (Nat × Nat × List Instr) := [
  (0, 11, [.iconst 0, .istore 2, .aload 0, .instanceof 1031, .iload 1, .iaload, .iconst 1, .isub, .istore 3]),
  (11, 52, [.iload 3, .ifCond .lt 60, .aload 0, .instanceof 1032, .iconst 6, .iload 1, .imul, .iload 3, .iadd, .iaload, .istore 4, .iload 4, .aload 0, .getfield 1024, .if_icmp .gt 52, .aload 0, .instanceof 1042, .iload 4, .iaload, .ifCond .ne 52, .iload 4, .goto 53]),
  (52, 53, [.iload 2]),
  (53, 60, [.istore 2, .iinc 3 (-1), .goto 11]),
  (60, 62, [.iload 2, .ireturn])]
/-- RowGraderModel.verdict(I)I -/
def mc_187 : List (Nat × Nat × List Instr) := [
  (0, 14, [.aload 0, .iload 1, .multianewarray 188 1002, .istore 2, .iload 2, .ifCond .ge 14, .iload 2, .goto 20]),
  (14, 20, [.aload 0, .instanceof 1038, .iload 1, .iaload]),
  (20, 21, [.ireturn])]
/-- RowGraderModel.refusal(I)I -/
def mc_188 : List (Nat × Nat × List Instr) := [
  (0, 12, [.aload 0, .iload 1, .multianewarray 164 1002, .ifCond .ne 12, .iconst (-1), .goto 25]),
  (12, 23, [.aload 0, .getfield 1037, .ifCond .eq 23, .iconst 0, .goto 25]),
  (23, 25, [.iconst (-3)]),
  (25, 26, [.ireturn])]
/-- RowGraderModel.way(I)I -/
def mc_189 : List (Nat × Nat × List Instr) := [
  (0, 14, [.aload 0, .iload 1, .multianewarray 188 1002, .istore 2, .iload 2, .ifCond .ge 14, .iload 2, .goto 20]),
  (14, 20, [.aload 0, .instanceof 1039, .iload 1, .iaload]),
  (20, 21, [.ireturn])]
/-- RowGraderModel.gap(I)I -/
def mc_190 : List (Nat × Nat × List Instr) := [
  (0, 14, [.aload 0, .iload 1, .multianewarray 188 1002, .istore 2, .iload 2, .ifCond .ge 14, .iload 2, .goto 20]),
  (14, 20, [.aload 0, .instanceof 1040, .iload 1, .iaload]),
  (20, 21, [.ireturn])]
/-- RowGraderModel.counter(I)I -/
def mc_191 : List (Nat × Nat × List Instr) := [
  (0, 14, [.aload 0, .iload 1, .multianewarray 188 1002, .istore 2, .iload 2, .ifCond .ge 14, .iload 2, .goto 20]),
  (14, 20, [.aload 0, .instanceof 1041, .iload 1, .iaload]),
  (20, 21, [.ireturn])]
/-- RowGraderModel.circle(I)I -/
def mc_192 : List (Nat × Nat × List Instr) := [
  (0, 12, [.aload 0, .getfield 1037, .ifCond .ne 12, .iconst (-3), .goto 39]),
  (12, 37, [.iload 1, .i2l, .sipush 0, .aload 0, .getfield 1044, .iconst 1, .isub, .i2l, .invokeinterface 125 3, .ifCond .eq 37, .aload 0, .instanceof 1045, .iload 1, .iaload, .goto 39]),
  (37, 39, [.iconst (-5)]),
  (39, 40, [.ireturn])]
/-- RowGraderModel.order(I)I -/
def mc_193 : List (Nat × Nat × List Instr) := [
  (0, 14, [.aload 0, .iload 1, .multianewarray 188 1002, .istore 2, .iload 2, .ifCond .ge 14, .iload 2, .goto 34]),
  (14, 28, [.aload 0, .instanceof 1042, .iload 1, .iaload, .ifCond .ne 28, .iconst (-5), .goto 34]),
  (28, 34, [.aload 0, .instanceof 1042, .iload 1, .iaload]),
  (34, 35, [.ireturn])]
/-- RowGraderModel.marks(I)I -/
def mc_194 : List (Nat × Nat × List Instr) := [
  (0, 13, [.iload 1, .i2l, .sipush 0, .sipush 1, .invokeinterface 125 3, .ifCond .ne 13, .iconst (-2), .ireturn]),
  (13, 23, [.aload 0, .getfield 1037, .ifCond .ne 23, .iconst (-3), .ireturn]),
  (23, 72, [.aload 0, .getfield 1024, .ifCond .le 72, .aload 0, .getfield 1025, .ifCond .eq 72, .aload 0, .instanceof 1038, .aload 0, .getfield 1024, .iaload, .iconst 1, .if_icmp .ne 72, .aload 0, .instanceof 1028, .aload 0, .getfield 1024, .iaload, .aload 0, .instanceof 1028, .iconst 0, .iaload, .if_icmp .ne 72, .iconst 5, .goto 73]),
  (72, 73, [.iconst 0]),
  (73, 85, [.istore 2, .aload 0, .getfield 1025, .ifCond .eq 85, .iconst 5, .goto 86]),
  (85, 86, [.iconst 0]),
  (86, 90, [.istore 3, .iconst 1, .istore 4]),
  (90, 115, [.iload 4, .aload 0, .getfield 1024, .if_icmp .gt 169, .iload 2, .aload 0, .instanceof 1039, .iload 4, .iaload, .iconst 4, .if_icmp .ne 115, .iconst 2, .goto 142]),
  (115, 137, [.aload 0, .instanceof 1039, .iload 4, .iaload, .iconst 3, .if_icmp .eq 137, .aload 0, .instanceof 1039, .iload 4, .iaload, .iconst 5, .if_icmp .ne 141]),
  (137, 141, [.iconst 1, .goto 142]),
  (141, 142, [.iconst 0]),
  (142, 160, [.iadd, .istore 2, .iload 3, .aload 0, .instanceof 1029, .iload 4, .iaload, .iconst 1, .if_icmp .ne 160, .iconst 0, .goto 161]),
  (160, 161, [.iconst 2]),
  (161, 169, [.iadd, .istore 3, .iinc 4 1, .goto 90]),
  (169, 177, [.iload 1, .ifCond .ne 177, .iload 2, .goto 178]),
  (177, 178, [.iload 3]),
  (178, 179, [.ireturn])]
/-- RowGraderModel.hint(I)I -/
def mc_195 : List (Nat × Nat × List Instr) := [
  (0, 15, [.iload 1, .i2l, .sipush 0, .sipush 5, .invokeinterface 125 3, .ifCond .ne 15, .iconst (-2), .ireturn]),
  (15, 25, [.aload 0, .getfield 1037, .ifCond .ne 25, .iconst (-3), .ireturn]),
  (25, 35, [.aload 0, .getfield 1025, .ifCond .ne 35, .iconst (-5), .ireturn]),
  (35, 59, [.aload 0, .multianewarray 196 1001, .aload 0, .instanceof 1011, .aload 0, .instanceof 1028, .iconst 0, .iaload, .iaload, .istore 2, .iload 2, .ifCond .le 59, .iload 1, .ifCond .ne 79]),
  (59, 68, [.iload 2, .ifCond .ge 68, .iconst (-5), .goto 78]),
  (68, 76, [.iload 1, .ifCond .ne 76, .iload 2, .goto 78]),
  (76, 78, [.iconst (-5)]),
  (78, 79, [.ireturn]),
  (79, 101, [.aload 0, .aload 0, .instanceof 1028, .iconst 0, .iaload, .multianewarray 197 1002, .iload 1, .iconst 1, .if_icmp .ne 101, .aload 0, .getfield 1048, .goto 109]),
  (101, 109, [.aload 0, .instanceof 1049, .iload 1, .iconst 2, .isub, .iaload]),
  (109, 110, [.ireturn])]
/-- RowGraderModel.levelAll()V -/
def mc_196 : List (Nat × Nat × List Instr) := [
  (0, 22, [.aload 0, .getfield 1047, .iconst 5, .if_icmp .eq 22, .aload 0, .multianewarray 182 1001, .aload 0, .iconst 5, .multianewarray 183 1002, .aload 0, .iconst 5, .putfield 1047]),
  (22, 23, [.return_])]
/-- RowGraderModel.goDown(I)V -/
def mc_197 : List (Nat × Nat × List Instr) := [
  (0, 2, [.iload 1, .istore 2]),
  (2, 22, [.aload 0, .instanceof 1011, .iload 2, .iaload, .iconst 1, .if_icmp .le 153, .aload 0, .instanceof 1011, .iload 2, .iaload, .istore 3, .iconst 0, .istore 4]),
  (22, 39, [.aload 0, .iload 4, .iload 2, .iload 3, .multianewarray 175 1004, .ifCond .ne 39, .iinc 4 1, .goto 22]),
  (39, 92, [.aload 0, .aload 0, .instanceof 1007, .iload 4, .iaload, .multianewarray 198 1002, .istore 5, .aload 0, .aload 0, .instanceof 1008, .iload 4, .iaload, .multianewarray 198 1002, .istore 6, .iload 6, .ifCond .lt 92, .aload 0, .instanceof 1011, .iload 6, .iaload, .aload 0, .instanceof 1011, .iload 5, .iaload, .if_icmp .le 92, .iload 6, .goto 94]),
  (92, 94, [.iload 5]),
  (94, 113, [.istore 5, .iload 4, .iconst 12, .if_icmp .ne 113, .aload 0, .iconst 30304, .multianewarray 179 1002, .goto 114]),
  (113, 114, [.iconst (-1)]),
  (114, 143, [.istore 7, .iload 7, .ifCond .lt 143, .aload 0, .instanceof 1011, .iload 7, .iaload, .aload 0, .instanceof 1011, .iload 5, .iaload, .if_icmp .le 143, .iload 7, .goto 145]),
  (143, 145, [.iload 5]),
  (145, 153, [.istore 5, .iload 5, .istore 2, .goto 2]),
  (153, 159, [.aload 0, .iload 2, .multianewarray 199 1002, .return_])]
/-- RowGraderModel.slotOfPremise(I)I -/
def mc_198 : List (Nat × Nat × List Instr) := [
  (0, 8, [.iload 1, .ifCond .ge 8, .iconst (-1), .goto 13]),
  (8, 13, [.aload 0, .iload 1, .multianewarray 179 1002]),
  (13, 14, [.ireturn])]
/-- RowGraderModel.name(I)V -/
def mc_199 : List (Nat × Nat × List Instr) := [
  (0, 23, [.aload 0, .getfield 1000, .aload 0, .getfield 1000, .imul, .aload 0, .getfield 1000, .imul, .aload 0, .getfield 1000, .imul, .istore 2, .iconst 6, .istore 3]),
  (23, 32, [.iload 3, .ifCond .lt 138, .iload 2, .iconst 1, .isub, .istore 4]),
  (32, 86, [.iload 4, .ifCond .lt 132, .aload 0, .iconst 0, .iconst 4, .iload 4, .multianewarray 177 1004, .aload 0, .iload 3, .aload 0, .instanceof 1010, .iconst 0, .iaload, .aload 0, .instanceof 1010, .iconst 1, .iaload, .aload 0, .instanceof 1010, .iconst 2, .iaload, .aload 0, .instanceof 1010, .iconst 3, .iaload, .multianewarray 131 1006, .iload 1, .if_icmp .ne 126, .aload 0, .iload 3, .putfield 1048, .iconst 0, .istore 5]),
  (86, 117, [.iload 5, .iconst 4, .if_icmp .ge 126, .aload 0, .instanceof 1049, .iload 5, .iload 5, .iload 3, .invokeinterface 155 1, .if_icmp .ge 117, .aload 0, .instanceof 1010, .iload 5, .iaload, .goto 119]),
  (117, 119, [.iconst (-5)]),
  (119, 126, [.iastore, .iinc 5 1, .goto 86]),
  (126, 132, [.iinc 4 (-1), .goto 32]),
  (132, 138, [.iinc 3 (-1), .goto 23]),
  (138, 139, [.return_])]
/-- RowGraderModel.level(IIIII)I -/
def mc_200 : List (Nat × Nat × List Instr) := [
  (0, 21, [.aload 0, .iload 1, .iload 2, .iload 3, .iload 4, .iload 5, .multianewarray 131 1006, .istore 6, .iload 6, .ifCond .ge 21, .iconst (-2), .ireturn]),
  (21, 31, [.aload 0, .getfield 1037, .ifCond .ne 31, .iconst (-3), .ireturn]),
  (31, 50, [.aload 0, .multianewarray 196 1001, .aload 0, .instanceof 1011, .iload 6, .iaload, .ifCond .ge 50, .iconst (-5), .goto 57]),
  (50, 57, [.aload 0, .instanceof 1011, .iload 6, .iaload]),
  (57, 58, [.ireturn])]
/-- RowGraderModel.reached(I)I -/
def mc_201 : List (Nat × Nat × List Instr) := [
  (0, 15, [.iload 1, .i2l, .sipush 0, .sipush 5, .invokeinterface 125 3, .ifCond .ne 15, .iconst (-2), .ireturn]),
  (15, 25, [.aload 0, .getfield 1037, .ifCond .ne 25, .iconst (-3), .ireturn]),
  (25, 33, [.aload 0, .multianewarray 196 1001, .iconst 0, .istore 2, .iconst 0, .istore 3]),
  (33, 55, [.iload 3, .iconst 4400, .if_icmp .ge 64, .iload 2, .aload 0, .instanceof 1011, .iload 3, .iaload, .iload 1, .if_icmp .ne 55, .iconst 1, .goto 56]),
  (55, 56, [.iconst 0]),
  (56, 64, [.iadd, .istore 2, .iinc 3 1, .goto 33]),
  (64, 66, [.iload 2, .ireturn])]
/-- RowGraderModel.told(I)I -/
def mc_202 : List (Nat × Nat × List Instr) := [
  (0, 10, [.iconst 0, .istore 2, .iconst 0, .istore 3, .iconst 0, .istore 4, .iconst 1, .istore 5]),
  (10, 42, [.iload 5, .aload 0, .getfield 1024, .if_icmp .gt 90, .aload 0, .getfield 1037, .ifCond .eq 90, .iload 2, .aload 0, .instanceof 1038, .iload 5, .iaload, .iconst 1, .if_icmp .ne 42, .iconst 1, .goto 43]),
  (42, 43, [.iconst 0]),
  (43, 60, [.iadd, .istore 2, .iload 3, .aload 0, .instanceof 1042, .iload 5, .iaload, .ifCond .ne 60, .iconst 1, .goto 61]),
  (60, 61, [.iconst 0]),
  (61, 80, [.iadd, .istore 3, .iload 4, .aload 0, .instanceof 1039, .iload 5, .iaload, .iconst 3, .if_icmp .ne 80, .iconst 1, .goto 81]),
  (80, 81, [.iconst 0]),
  (81, 90, [.iadd, .istore 4, .iinc 5 1, .goto 10]),
  (90, 136, [.iload 1, .tableswitch 176 0 7 #[136, 141, 146, 151, 156, 169, 171, 173]]),
  (136, 141, [.aload 0, .getfield 1000, .ireturn]),
  (141, 146, [.aload 0, .getfield 1001, .ireturn]),
  (146, 151, [.aload 0, .getfield 1024, .ireturn]),
  (151, 156, [.aload 0, .getfield 1012, .ireturn]),
  (156, 167, [.aload 0, .getfield 1025, .ifCond .eq 167, .iconst 1, .goto 168]),
  (167, 168, [.iconst 0]),
  (168, 169, [.ireturn]),
  (169, 171, [.iload 2, .ireturn]),
  (171, 173, [.iload 3, .ireturn]),
  (173, 176, [.iload 4, .ireturn]),
  (176, 179, [.iconst (-2), .ireturn])]
/-- RowGrader$Facts.kindOf(I)I -/
def mc_203 : List (Nat × Nat × List Instr) := [
  (0, 9, [.iload 0, .iconst 128, .if_icmp .ge 9, .iconst 0, .ireturn]),
  (9, 18, [.iload 0, .iconst 338, .if_icmp .ge 18, .iconst 1, .ireturn]),
  (18, 27, [.iload 0, .iconst 548, .if_icmp .ge 27, .iconst 2, .ireturn]),
  (27, 36, [.iload 0, .iconst 758, .if_icmp .ge 36, .iconst 3, .ireturn]),
  (36, 45, [.iload 0, .iconst 905, .if_icmp .ge 45, .iconst 4, .ireturn]),
  (45, 56, [.iload 0, .iconst 1033, .if_icmp .ge 56, .iconst 5, .goto 58]),
  (56, 58, [.iconst 6]),
  (58, 59, [.ireturn])]
/-- RowGrader$Facts.pointsOf(I)I -/
def mc_204 : List (Nat × Nat × List Instr) := [
  (0, 15, [.iload 0, .ifCond .eq 15, .iload 0, .iconst 4, .if_icmp .eq 15, .iload 0, .iconst 6, .if_icmp .ne 19]),
  (15, 19, [.iconst 3, .goto 20]),
  (19, 20, [.iconst 4]),
  (20, 21, [.ireturn])]
/-- RowGrader$Facts.pointOf(II)I -/
def mc_205 : List (Nat × Nat × List Instr) := [
  (0, 17, [.iload 0, .invokeinterface 203 1, .istore 2, .iload 1, .ifCond .lt 17, .iload 1, .iload 2, .invokeinterface 204 1, .if_icmp .lt 20]),
  (17, 20, [.iconst (-5), .ireturn]),
  (20, 64, [.iload 2, .tableswitch 102 0 6 #[64, 102, 102, 102, 82, 72, 92]]),
  (64, 72, [.iload 0, .iconst 0, .isub, .iload 1, .invokeinterface 206 2, .ireturn]),
  (72, 82, [.iload 0, .iconst 905, .isub, .iload 1, .invokeinterface 206 2, .ireturn]),
  (82, 92, [.iload 0, .iconst 758, .isub, .iload 1, .invokeinterface 207 2, .ireturn]),
  (92, 102, [.iload 0, .iconst 1033, .isub, .iload 1, .invokeinterface 207 2, .ireturn]),
  (102, 108, [.iload 0, .iload 1, .invokeinterface 210 2, .ireturn])]
/-- RowGrader$Facts.bitOf(II)I -/
def mc_206 : List (Nat × Nat × List Instr) := [
  (0, 4, [.iload 0, .istore 2, .iconst 0, .istore 3]),
  (4, 21, [.iload 3, .iload 1, .if_icmp .ge 21, .iload 2, .iload 2, .iconst 1, .isub, .iand, .istore 2, .iinc 3 1, .goto 4]),
  (21, 26, [.iload 2, .invokeinterface 219 1, .ireturn])]
/-- RowGrader$Facts.ofMiddlePoint(II)I -/
def mc_207 : List (Nat × Nat × List Instr) := [
  (0, 9, [.iload 1, .ifCond .ne 9, .iload 0, .iconst 21, .idiv, .ireturn]),
  (9, 24, [.iload 1, .iconst 1, .if_icmp .ne 24, .iload 0, .iconst 21, .irem, .invokeinterface 208 1, .goto 31]),
  (24, 31, [.iload 0, .iconst 21, .irem, .invokeinterface 209 1]),
  (31, 32, [.ireturn])]
/-- RowGrader$Facts.low(I)I -/
def mc_208 : List (Nat × Nat × List Instr) := [
  (0, 10, [.iload 0, .ifCond .lt 10, .iload 0, .iconst 21, .if_icmp .lt 14]),
  (10, 14, [.iconst 0, .goto 19]),
  (14, 19, [.anewarray 1001, .iload 0, .iaload]),
  (19, 20, [.ireturn])]
/-- RowGrader$Facts.high(I)I -/
def mc_209 : List (Nat × Nat × List Instr) := [
  (0, 10, [.iload 0, .ifCond .lt 10, .iload 0, .iconst 21, .if_icmp .lt 14]),
  (10, 14, [.iconst 0, .goto 19]),
  (14, 19, [.anewarray 1002, .iload 0, .iaload]),
  (19, 20, [.ireturn])]
/-- RowGrader$Facts.ofPairsPoint(II)I -/
def mc_210 : List (Nat × Nat × List Instr) := [
  (0, 42, [.iload 0, .invokeinterface 211 1, .istore 2, .iload 0, .iload 2, .invokeinterface 212 2, .istore 3, .iload 3, .invokeinterface 208 1, .iconst 7, .imul, .iload 3, .invokeinterface 209 1, .iadd, .iload 2, .invokeinterface 208 1, .iconst 7, .imul, .iload 2, .invokeinterface 209 1, .iadd, .if_icmp .ge 42, .iconst 1, .goto 43]),
  (42, 43, [.iconst 0]),
  (43, 54, [.istore 4, .iload 1, .iconst 2, .if_icmp .ge 54, .iconst 1, .goto 55]),
  (54, 55, [.iconst 0]),
  (55, 64, [.iload 4, .if_icmp .ne 64, .iload 3, .goto 65]),
  (64, 65, [.iload 2]),
  (65, 81, [.istore 5, .iload 1, .iconst 2, .irem, .ifCond .ne 81, .iload 5, .invokeinterface 208 1, .goto 86]),
  (81, 86, [.iload 5, .invokeinterface 209 1]),
  (86, 87, [.ireturn])]
/-- RowGrader$Facts.greatPair(I)I -/
def mc_211 : List (Nat × Nat × List Instr) := [
  (0, 12, [.iload 0, .iconst 128, .isub, .iconst 210, .irem, .istore 1, .iconst 1, .istore 2]),
  (12, 35, [.iload 2, .iconst 20, .if_icmp .ge 35, .iload 1, .iload 2, .iload 2, .iconst 1, .iadd, .imul, .iconst 2, .idiv, .if_icmp .lt 35, .iinc 2 1, .goto 12]),
  (35, 37, [.iload 2, .ireturn])]
/-- RowGrader$Facts.lessPair(II)I -/
def mc_212 : List (Nat × Nat × List Instr) := [
  (0, 18, [.iload 0, .iconst 128, .isub, .iconst 210, .irem, .iload 1, .iload 1, .iconst 1, .isub, .imul, .iconst 2, .idiv, .isub, .ireturn])]
/-- RowGrader$Facts.number(IIIII)I -/
def mc_213 : List (Nat × Nat × List Instr) := [
  (0, 44, [.iload 0, .tableswitch 134 0 6 #[44, 51, 69, 87, 105, 115, 124]]),
  (44, 51, [.iload 1, .iload 2, .iload 3, .invokeinterface 214 3, .ireturn]),
  (51, 69, [.iconst 128, .iload 1, .iload 2, .invokeinterface 215 2, .iload 3, .iload 4, .invokeinterface 215 2, .invokeinterface 216 3, .ireturn]),
  (69, 87, [.iconst 338, .iload 1, .iload 2, .invokeinterface 215 2, .iload 3, .iload 4, .invokeinterface 215 2, .invokeinterface 216 3, .ireturn]),
  (87, 105, [.iconst 548, .iload 1, .iload 2, .invokeinterface 215 2, .iload 3, .iload 4, .invokeinterface 215 2, .invokeinterface 216 3, .ireturn]),
  (105, 115, [.iconst 758, .iload 1, .iload 2, .iload 3, .invokeinterface 217 4, .ireturn]),
  (115, 124, [.iload 1, .iload 2, .iload 3, .iload 4, .invokeinterface 218 4, .ireturn]),
  (124, 134, [.iconst 1033, .iload 1, .iload 2, .iload 3, .invokeinterface 217 4, .ireturn]),
  (134, 136, [.iconst (-1), .ireturn])]
/-- RowGrader$Facts.ofLine(III)I -/
def mc_214 : List (Nat × Nat × List Instr) := [
  (0, 15, [.iload 0, .iload 1, .if_icmp .eq 15, .iload 0, .iload 2, .if_icmp .eq 15, .iload 1, .iload 2, .if_icmp .ne 17]),
  (15, 17, [.iconst (-1), .ireturn]),
  (17, 31, [.iconst 0, .iconst 1, .iload 0, .ishl, .iconst 1, .iload 1, .ishl, .ior, .iconst 1, .iload 2, .ishl, .ior, .iadd, .ireturn])]
/-- RowGrader$Facts.pair(II)I -/
def mc_215 : List (Nat × Nat × List Instr) := [
  (0, 7, [.iload 0, .iload 1, .if_icmp .ne 7, .iconst (-1), .ireturn]),
  (7, 24, [.iload 0, .iload 1, .if_icmp .ge 24, .iload 1, .iload 1, .iconst 1, .isub, .imul, .iconst 2, .idiv, .iload 0, .iadd, .goto 33]),
  (24, 33, [.iload 0, .iload 0, .iconst 1, .isub, .imul, .iconst 2, .idiv, .iload 1, .iadd]),
  (33, 34, [.ireturn])]
/-- RowGrader$Facts.ofPairs(III)I -/
def mc_216 : List (Nat × Nat × List Instr) := [
  (0, 13, [.iload 1, .ifCond .lt 13, .iload 2, .ifCond .lt 13, .iload 1, .iload 2, .if_icmp .ne 15]),
  (13, 15, [.iconst (-1), .ireturn]),
  (15, 34, [.iload 1, .iload 2, .if_icmp .ge 34, .iload 0, .iload 2, .iload 2, .iconst 1, .isub, .imul, .iconst 2, .idiv, .iadd, .iload 1, .iadd, .goto 45]),
  (34, 45, [.iload 0, .iload 1, .iload 1, .iconst 1, .isub, .imul, .iconst 2, .idiv, .iadd, .iload 2, .iadd]),
  (45, 46, [.ireturn])]
/-- RowGrader$Facts.ofMiddle(IIII)I -/
def mc_217 : List (Nat × Nat × List Instr) := [
  (0, 15, [.iload 1, .iload 2, .if_icmp .eq 15, .iload 1, .iload 3, .if_icmp .eq 15, .iload 2, .iload 3, .if_icmp .ne 17]),
  (15, 17, [.iconst (-1), .ireturn]),
  (17, 40, [.iload 0, .iload 1, .iconst 21, .imul, .iadd, .iload 2, .iload 3, .if_icmp .ge 40, .iload 3, .iload 3, .iconst 1, .isub, .imul, .iconst 2, .idiv, .iload 2, .iadd, .goto 49]),
  (40, 49, [.iload 2, .iload 2, .iconst 1, .isub, .imul, .iconst 2, .idiv, .iload 3, .iadd]),
  (49, 51, [.iadd, .ireturn])]
/-- RowGrader$Facts.ofCircle(IIII)I -/
def mc_218 : List (Nat × Nat × List Instr) := [
  (0, 30, [.iload 0, .iload 1, .if_icmp .eq 30, .iload 0, .iload 2, .if_icmp .eq 30, .iload 0, .iload 3, .if_icmp .eq 30, .iload 1, .iload 2, .if_icmp .eq 30, .iload 1, .iload 3, .if_icmp .eq 30, .iload 2, .iload 3, .if_icmp .ne 32]),
  (30, 32, [.iconst (-1), .ireturn]),
  (32, 52, [.iconst 905, .iconst 1, .iload 0, .ishl, .iconst 1, .iload 1, .ishl, .ior, .iconst 1, .iload 2, .ishl, .ior, .iconst 1, .iload 3, .ishl, .ior, .iadd, .ireturn])]
/-- java/lang/Integer.numberOfTrailingZeros(I)I -/
def mc_219 : List (Nat × Nat × List Instr) := [
  (0, 17, [.iload 0, .iconst (-1), .ixor, .iload 0, .iconst 1, .isub, .iand, .istore 0, .iload 0, .ifCond .gt 17, .iload 0, .iconst 32, .iand, .ireturn]),
  (17, 34, [.iconst 1, .istore 1, .iload 0, .iconst 65536, .if_icmp .le 34, .iinc 1 16, .iload 0, .iconst 16, .iushr, .istore 0]),
  (34, 49, [.iload 0, .iconst 256, .if_icmp .le 49, .iinc 1 8, .iload 0, .iconst 8, .iushr, .istore 0]),
  (49, 62, [.iload 0, .iconst 16, .if_icmp .le 62, .iinc 1 4, .iload 0, .iconst 4, .iushr, .istore 0]),
  (62, 74, [.iload 0, .iconst 4, .if_icmp .le 74, .iinc 1 2, .iload 0, .iconst 2, .iushr, .istore 0]),
  (74, 80, [.iload 1, .iload 0, .iconst 1, .iushr, .iadd, .ireturn])]
/-- java/lang/Integer.bitCount(I)I -/
def mc_220 : List (Nat × Nat × List Instr) := [
  (0, 53, [.iload 0, .iload 0, .iconst 1, .iushr, .iconst 1431655765, .iand, .isub, .istore 0, .iload 0, .iconst 858993459, .iand, .iload 0, .iconst 2, .iushr, .iconst 858993459, .iand, .iadd, .istore 0, .iload 0, .iload 0, .iconst 4, .iushr, .iadd, .iconst 252645135, .iand, .istore 0, .iload 0, .iload 0, .iconst 8, .iushr, .iadd, .istore 0, .iload 0, .iload 0, .iconst 16, .iushr, .iadd, .istore 0, .iload 0, .iconst 63, .iand, .ireturn])]
/-- RowGraderLaw.law([I)Z -/
def mc_221_0 : List (Nat × Nat × List Instr) := [
  (16, 18, [.iconst 0, .istore 3]),
  (18, 160, [.iload 3, .aload 0, .arraylength, .iconst 7, .isub, .if_icmp .gt 1014, .aload 0, .iload 3, .iaload, .iconst 31, .iand, .tableswitch 1008 0 27 #[160, 183, 196, 249, 292, 315, 390, 453, 466, 489, 522, 535, 548, 561, 594, 627, 702, 715, 738, 761, 784, 807, 830, 853, 876, 899, 962, 985]]),
  (160, 183, [.aload 1, .aload 0, .iload 3, .iconst 1, .iadd, .iaload, .multianewarray 96 902, .aload 2, .aload 0, .iload 3, .iconst 1, .iadd, .iaload, .multianewarray 124 1002, .if_icmp .eq 1008, .iconst 0, .freturn]),
  (183, 196, [.aload 1, .multianewarray 97 901, .aload 2, .multianewarray 126 1001, .if_icmp .eq 1008, .iconst 0, .freturn]),
  (196, 249, [.aload 1, .aload 0, .iload 3, .iconst 1, .iadd, .iaload, .aload 0, .iload 3, .iconst 2, .iadd, .iaload, .aload 0, .iload 3, .iconst 3, .iadd, .iaload, .aload 0, .iload 3, .iconst 4, .iadd, .iaload, .multianewarray 98 905, .aload 2, .aload 0, .iload 3, .iconst 1, .iadd, .iaload, .aload 0, .iload 3, .iconst 2, .iadd, .iaload, .aload 0, .iload 3, .iconst 3, .iadd, .iaload, .aload 0, .iload 3, .iconst 4, .iadd, .iaload, .multianewarray 127 1005, .if_icmp .eq 1008, .iconst 0, .freturn]),
  (249, 292, [.aload 1, .aload 0, .iload 3, .iconst 1, .iadd, .iaload, .aload 0, .iload 3, .iconst 2, .iadd, .iaload, .aload 0, .iload 3, .iconst 3, .iadd, .iaload, .multianewarray 99 904, .aload 2, .aload 0, .iload 3, .iconst 1, .iadd, .iaload, .aload 0, .iload 3, .iconst 2, .iadd, .iaload, .aload 0, .iload 3, .iconst 3, .iadd, .iaload, .multianewarray 129 1004, .if_icmp .eq 1008, .iconst 0, .freturn]),
  (292, 315, [.aload 1, .aload 0, .iload 3, .iconst 1, .iadd, .iaload, .multianewarray 100 902, .aload 2, .aload 0, .iload 3, .iconst 1, .iadd, .iaload, .multianewarray 139 1002, .if_icmp .eq 1008, .iconst 0, .freturn]),
  (315, 390, [.aload 1, .aload 0, .iload 3, .iconst 1, .iadd, .iaload, .aload 0, .iload 3, .iconst 2, .iadd, .iaload, .aload 0, .iload 3, .iconst 3, .iadd, .iaload, .aload 0, .iload 3, .iconst 4, .iadd, .iaload, .aload 0, .iload 3, .iconst 5, .iadd, .iaload, .aload 0, .iload 3, .iconst 6, .iadd, .iaload, .multianewarray 101 907, .aload 2, .aload 0, .iload 3, .iconst 1, .iadd, .iaload, .aload 0, .iload 3, .iconst 2, .iadd, .iaload, .aload 0, .iload 3, .iconst 3, .iadd, .iaload, .aload 0, .iload 3, .iconst 4, .iadd, .iaload, .aload 0, .iload 3, .iconst 5, .iadd, .iaload, .aload 0, .iload 3, .iconst 6, .iadd, .iaload, .multianewarray 130 1007, .if_icmp .eq 1008, .iconst 0, .freturn])]
def mc_221_1 : List (Nat × Nat × List Instr) := [
  (390, 453, [.aload 1, .aload 0, .iload 3, .iconst 1, .iadd, .iaload, .i2l, .iconst 32, .lshl, .aload 0, .iload 3, .iconst 2, .iadd, .iaload, .i2l, .sipush 4294967295, .land, .lor, .aload 0, .iload 3, .iconst 3, .iadd, .iaload, .multianewarray 102 903, .aload 2, .aload 0, .iload 3, .iconst 1, .iadd, .iaload, .i2l, .iconst 32, .lshl, .aload 0, .iload 3, .iconst 2, .iadd, .iaload, .i2l, .sipush 4294967295, .land, .lor, .aload 0, .iload 3, .iconst 3, .iadd, .iaload, .multianewarray 142 1003, .if_icmp .eq 1008, .iconst 0, .freturn]),
  (453, 466, [.aload 1, .multianewarray 103 901, .aload 2, .multianewarray 143 1001, .if_icmp .eq 1008, .iconst 0, .freturn]),
  (466, 489, [.aload 1, .aload 0, .iload 3, .iconst 1, .iadd, .iaload, .multianewarray 104 902, .aload 2, .aload 0, .iload 3, .iconst 1, .iadd, .iaload, .multianewarray 144 1002, .if_icmp .eq 1008, .iconst 0, .freturn]),
  (489, 522, [.aload 1, .aload 0, .iload 3, .iconst 1, .iadd, .iaload, .aload 0, .iload 3, .iconst 2, .iadd, .iaload, .multianewarray 105 903, .aload 2, .aload 0, .iload 3, .iconst 1, .iadd, .iaload, .aload 0, .iload 3, .iconst 2, .iadd, .iaload, .multianewarray 145 1003, .if_icmp .eq 1008, .iconst 0, .freturn]),
  (522, 535, [.aload 1, .multianewarray 106 901, .aload 2, .multianewarray 152 1001, .if_icmp .eq 1008, .iconst 0, .freturn]),
  (535, 548, [.aload 1, .multianewarray 107 901, .aload 2, .multianewarray 160 1001, .if_icmp .eq 1008, .iconst 0, .freturn]),
  (548, 561, [.aload 1, .multianewarray 108 901, .aload 2, .multianewarray 161 1001, .if_icmp .eq 1008, .iconst 0, .freturn]),
  (561, 594, [.aload 1, .aload 0, .iload 3, .iconst 1, .iadd, .iaload, .aload 0, .iload 3, .iconst 2, .iadd, .iaload, .multianewarray 109 903, .aload 2, .aload 0, .iload 3, .iconst 1, .iadd, .iaload, .aload 0, .iload 3, .iconst 2, .iadd, .iaload, .multianewarray 162 1003, .if_icmp .eq 1008, .iconst 0, .freturn])]
def mc_221_2 : List (Nat × Nat × List Instr) := [
  (594, 627, [.aload 1, .aload 0, .iload 3, .iconst 1, .iadd, .iaload, .aload 0, .iload 3, .iconst 2, .iadd, .iaload, .multianewarray 110 903, .aload 2, .aload 0, .iload 3, .iconst 1, .iadd, .iaload, .aload 0, .iload 3, .iconst 2, .iadd, .iaload, .multianewarray 165 1003, .if_icmp .eq 1008, .iconst 0, .freturn]),
  (627, 702, [.aload 1, .aload 0, .iload 3, .iconst 1, .iadd, .iaload, .aload 0, .iload 3, .iconst 2, .iadd, .iaload, .aload 0, .iload 3, .iconst 3, .iadd, .iaload, .aload 0, .iload 3, .iconst 4, .iadd, .iaload, .aload 0, .iload 3, .iconst 5, .iadd, .iaload, .aload 0, .iload 3, .iconst 6, .iadd, .iaload, .multianewarray 111 907, .aload 2, .aload 0, .iload 3, .iconst 1, .iadd, .iaload, .aload 0, .iload 3, .iconst 2, .iadd, .iaload, .aload 0, .iload 3, .iconst 3, .iadd, .iaload, .aload 0, .iload 3, .iconst 4, .iadd, .iaload, .aload 0, .iload 3, .iconst 5, .iadd, .iaload, .aload 0, .iload 3, .iconst 6, .iadd, .iaload, .multianewarray 166 1007, .if_icmp .eq 1008, .iconst 0, .freturn]),
  (702, 715, [.aload 1, .multianewarray 112 901, .aload 2, .multianewarray 167 1001, .if_icmp .eq 1008, .iconst 0, .freturn]),
  (715, 738, [.aload 1, .aload 0, .iload 3, .iconst 1, .iadd, .iaload, .multianewarray 113 902, .aload 2, .aload 0, .iload 3, .iconst 1, .iadd, .iaload, .multianewarray 187 1002, .if_icmp .eq 1008, .iconst 0, .freturn]),
  (738, 761, [.aload 1, .aload 0, .iload 3, .iconst 1, .iadd, .iaload, .multianewarray 114 902, .aload 2, .aload 0, .iload 3, .iconst 1, .iadd, .iaload, .multianewarray 189 1002, .if_icmp .eq 1008, .iconst 0, .freturn]),
  (761, 784, [.aload 1, .aload 0, .iload 3, .iconst 1, .iadd, .iaload, .multianewarray 115 902, .aload 2, .aload 0, .iload 3, .iconst 1, .iadd, .iaload, .multianewarray 190 1002, .if_icmp .eq 1008, .iconst 0, .freturn]),
  (784, 807, [.aload 1, .aload 0, .iload 3, .iconst 1, .iadd, .iaload, .multianewarray 116 902, .aload 2, .aload 0, .iload 3, .iconst 1, .iadd, .iaload, .multianewarray 191 1002, .if_icmp .eq 1008, .iconst 0, .freturn]),
  (807, 830, [.aload 1, .aload 0, .iload 3, .iconst 1, .iadd, .iaload, .multianewarray 117 902, .aload 2, .aload 0, .iload 3, .iconst 1, .iadd, .iaload, .multianewarray 192 1002, .if_icmp .eq 1008, .iconst 0, .freturn])]
def mc_221_3 : List (Nat × Nat × List Instr) := [
  (830, 853, [.aload 1, .aload 0, .iload 3, .iconst 1, .iadd, .iaload, .multianewarray 118 902, .aload 2, .aload 0, .iload 3, .iconst 1, .iadd, .iaload, .multianewarray 193 1002, .if_icmp .eq 1008, .iconst 0, .freturn]),
  (853, 876, [.aload 1, .aload 0, .iload 3, .iconst 1, .iadd, .iaload, .multianewarray 119 902, .aload 2, .aload 0, .iload 3, .iconst 1, .iadd, .iaload, .multianewarray 194 1002, .if_icmp .eq 1008, .iconst 0, .freturn]),
  (876, 899, [.aload 1, .aload 0, .iload 3, .iconst 1, .iadd, .iaload, .multianewarray 120 902, .aload 2, .aload 0, .iload 3, .iconst 1, .iadd, .iaload, .multianewarray 195 1002, .if_icmp .eq 1008, .iconst 0, .freturn]),
  (899, 962, [.aload 1, .aload 0, .iload 3, .iconst 1, .iadd, .iaload, .aload 0, .iload 3, .iconst 2, .iadd, .iaload, .aload 0, .iload 3, .iconst 3, .iadd, .iaload, .aload 0, .iload 3, .iconst 4, .iadd, .iaload, .aload 0, .iload 3, .iconst 5, .iadd, .iaload, .multianewarray 121 906, .aload 2, .aload 0, .iload 3, .iconst 1, .iadd, .iaload, .aload 0, .iload 3, .iconst 2, .iadd, .iaload, .aload 0, .iload 3, .iconst 3, .iadd, .iaload, .aload 0, .iload 3, .iconst 4, .iadd, .iaload, .aload 0, .iload 3, .iconst 5, .iadd, .iaload, .multianewarray 200 1006, .if_icmp .eq 1008, .iconst 0, .freturn]),
  (962, 985, [.aload 1, .aload 0, .iload 3, .iconst 1, .iadd, .iaload, .multianewarray 122 902, .aload 2, .aload 0, .iload 3, .iconst 1, .iadd, .iaload, .multianewarray 201 1002, .if_icmp .eq 1008, .iconst 0, .freturn]),
  (985, 1008, [.aload 1, .aload 0, .iload 3, .iconst 1, .iadd, .iaload, .multianewarray 123 902, .aload 2, .aload 0, .iload 3, .iconst 1, .iadd, .iaload, .multianewarray 202 1002, .if_icmp .eq 1008, .iconst 0, .freturn]),
  (1008, 1014, [.iinc 3 7, .goto 18]),
  (1014, 1016, [.iconst 1, .freturn])]
def mc_221 : List (Nat × Nat × List Instr) := mc_221_0 ++ mc_221_1 ++ mc_221_2 ++ mc_221_3
def mc_l0 : List (List (Nat × Nat × List Instr)) := [mc_0, mc_1, mc_2, mc_3, mc_4, mc_5, mc_6, mc_7, mc_8, mc_9, mc_10, mc_11, mc_12, mc_13, mc_14, mc_15, mc_16, mc_17, mc_18, mc_19, mc_20, mc_21, mc_22, mc_23, mc_24, mc_25, mc_26, mc_27, mc_28, mc_29, mc_30, mc_31, mc_32, mc_33, mc_34, mc_35, mc_36, mc_37, mc_38, mc_39]
def mc_l1 : List (List (Nat × Nat × List Instr)) := [mc_40, mc_41, mc_42, mc_43, mc_44, mc_45, mc_46, mc_47, mc_48, mc_49, mc_50, mc_51, mc_52, mc_53, mc_54, mc_55, mc_56, mc_57, mc_58, mc_59, mc_60, mc_61, mc_62, mc_63, mc_64, mc_65, mc_66, mc_67, mc_68, mc_69, mc_70, mc_71, mc_72, mc_73, mc_74, mc_75, mc_76, mc_77, mc_78, mc_79]
def mc_l2 : List (List (Nat × Nat × List Instr)) := [mc_80, mc_81, mc_82, mc_83, mc_84, mc_85, mc_86, mc_87, mc_88, mc_89, mc_90, mc_91, mc_92, mc_93, mc_94, mc_95, mc_96, mc_97, mc_98, mc_99, mc_100, mc_101, mc_102, mc_103, mc_104, mc_105, mc_106, mc_107, mc_108, mc_109, mc_110, mc_111, mc_112, mc_113, mc_114, mc_115, mc_116, mc_117, mc_118, mc_119]
def mc_l3 : List (List (Nat × Nat × List Instr)) := [mc_120, mc_121, mc_122, mc_123, mc_124, mc_125, mc_126, mc_127, mc_128, mc_129, mc_130, mc_131, mc_132, mc_133, mc_134, mc_135, mc_136, mc_137, mc_138, mc_139, mc_140, mc_141, mc_142, mc_143, mc_144, mc_145, mc_146, mc_147, mc_148, mc_149, mc_150, mc_151, mc_152, mc_153, mc_154, mc_155, mc_156, mc_157, mc_158, mc_159]
def mc_l4 : List (List (Nat × Nat × List Instr)) := [mc_160, mc_161, mc_162, mc_163, mc_164, mc_165, mc_166, mc_167, mc_168, mc_169, mc_170, mc_171, mc_172, mc_173, mc_174, mc_175, mc_176, mc_177, mc_178, mc_179, mc_180, mc_181, mc_182, mc_183, mc_184, mc_185, mc_186, mc_187, mc_188, mc_189, mc_190, mc_191, mc_192, mc_193, mc_194, mc_195, mc_196, mc_197, mc_198, mc_199]
def mc_l5 : List (List (Nat × Nat × List Instr)) := [mc_200, mc_201, mc_202, mc_203, mc_204, mc_205, mc_206, mc_207, mc_208, mc_209, mc_210, mc_211, mc_212, mc_213, mc_214, mc_215, mc_216, mc_217, mc_218, mc_219, mc_220, mc_221]
def mc_all : List (List (Nat × Nat × List Instr)) := mc_l0 ++ mc_l1 ++ mc_l2 ++ mc_l3 ++ mc_l4 ++ mc_l5
