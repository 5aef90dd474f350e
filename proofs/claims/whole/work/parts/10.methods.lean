/-! the methods: name, bytes, locals, what is returned, handlers, instructions with their links -/
/-- TapeVault.<init>()V -/
def mi_0 : MI := (⟨"TapeVault", "<init>", "()V"⟩, prog_1_method_1_code, 1, (none), [], [
  (0, .aload_n 0, 1, []), (1, .invokespecial 1, 4, [10, 63, 64, 65]), (4, .aload_n 0, 5, []), (5, .new 7, 8, [1, 66]), (8, .dup, 9, []), (9, .invokespecial 9, 12, [5, 0, 1, 68, 69, 41, 70]), 
  (12, .putfield 10, 15, [48, 0, 0]), (15, .aload_n 0, 16, []), (16, .new 16, 19, [2, 89]), (19, .dup, 20, []), (20, .invokespecial 18, 23, [5, 0, 3, 91, 92, 42, 93]), (23, .putfield 19, 26, [49, 0, 1]), 
  (26, .aload_n 0, 27, []), (27, .new 23, 30, [3, 115]), (30, .dup, 31, []), (31, .aload_n 0, 32, []), (32, .getfield 10, 35, [48, 0, 0]), (35, .aload_n 0, 36, []), (36, .getfield 19, 39, [49, 0, 1]), 
  (39, .invokespecial 25, 42, [4, 2, 4, 117, 118, 43, 119]), (42, .putfield 28, 45, [50, 0, 2]), (45, .aload_n 0, 46, []), (46, .new 32, 49, [4, 128]), (49, .dup, 50, []), (50, .aload_n 0, 51, []), 
  (51, .getfield 19, 54, [49, 0, 1]), (54, .invokespecial 34, 57, [4, 1, 5, 130, 131, 44, 132]), (57, .putfield 37, 60, [51, 0, 3]), (60, .aload_n 0, 61, []), (61, .bipush 100, 63, []), 
  (63, .anewarray 41, 66, [5, 164, 165]), (66, .putfield 43, 69, [52, 0, 4]), (69, .aload_n 0, 70, []), (70, .bipush 64, 72, []), (72, .invokevirtual 47, 75, [2, 1, 6, 0, 166, 168, 0, 39, 169]), (75, .return_, 76, [])])
/-- TapeVault$Tree.<init>()V -/
def mi_1 : MI := (⟨"TapeVault$Tree", "<init>", "()V"⟩, prog_5_method_1_code, 1, (none), [], [
  (0, .aload_n 0, 1, []), (1, .invokespecial 3, 4, [5, 0, 2, 71, 72, 40, 73]), (4, .aload_n 0, 5, []), (5, .sipush 256, 8, []), (8, .anewarray 9, 11, [4, 75, 76]), (11, .putfield 11, 14, [0, 1, 0]), (14, .return_, 15, [])])
/-- TapeVault$View.<init>()V -/
def mi_2 : MI := (⟨"TapeVault$View", "<init>", "()V"⟩, prog_6_method_1_code, 1, (none), [], [
  (0, .aload_n 0, 1, []), (1, .invokespecial 1, 4, [10, 74, 64, 65]), (4, .return_, 5, [])])
/-- TapeVault$Volumes.<init>()V -/
def mi_3 : MI := (⟨"TapeVault$Volumes", "<init>", "()V"⟩, prog_7_method_1_code, 1, (none), [], [
  (0, .aload_n 0, 1, []), (1, .invokespecial 3, 4, [10, 94, 64, 65]), (4, .aload_n 0, 5, []), (5, .sipush 128, 8, []), (8, .newarray .long, 10, []), (10, .putfield 9, 13, [5, 2, 0]), (13, .aload_n 0, 14, []), 
  (14, .bipush 16, 16, []), (16, .newarray .byte, 18, []), (18, .putfield 15, 21, [6, 2, 1]), (21, .aload_n 0, 22, []), (22, .bipush 64, 24, []), (24, .putfield 19, 27, [7, 2, 2]), (27, .return_, 28, [])])
/-- TapeVault$Writer.<init>(LTapeVault$Tree;LTapeVault$Volumes;)V -/
def mi_4 : MI := (⟨"TapeVault$Writer", "<init>", "(LTapeVault$Tree;LTapeVault$Volumes;)V"⟩, prog_8_method_1_code, 3, (none), [], [
  (0, .aload_n 0, 1, []), (1, .invokespecial 3, 4, [10, 120, 64, 65]), (4, .aload_n 0, 5, []), (5, .aload_n 1, 6, []), (6, .putfield 9, 9, [12, 3, 0]), (9, .aload_n 0, 10, []), (10, .aload_n 2, 11, []), 
  (11, .putfield 15, 14, [13, 3, 1]), (14, .return_, 15, [])])
/-- TapeVault$Restored.<init>(LTapeVault$Volumes;)V -/
def mi_5 : MI := (⟨"TapeVault$Restored", "<init>", "(LTapeVault$Volumes;)V"⟩, prog_4_method_1_code, 2, (none), [], [
  (0, .aload_n 0, 1, []), (1, .invokespecial 3, 4, [5, 0, 2, 133, 72, 40, 73]), (4, .aload_n 0, 5, []), (5, .sipush 256, 8, []), (8, .newarray .int, 10, []), (10, .putfield 9, 13, [15, 4, 1]), (13, .aload_n 0, 14, []), 
  (14, .sipush 256, 17, []), (17, .newarray .int, 19, []), (19, .putfield 15, 22, [16, 4, 2]), (22, .aload_n 0, 23, []), (23, .sipush 256, 26, []), (26, .newarray .boolean, 28, []), (28, .putfield 18, 31, [17, 4, 3]), 
  (31, .aload_n 0, 32, []), (32, .aload_n 1, 33, []), (33, .putfield 22, 36, [14, 4, 0]), (36, .return_, 37, [])])
/-- TapeVault.startAnew(I)V -/
def mi_6 : MI := (⟨"TapeVault", "startAnew", "(I)V"⟩, prog_1_method_16_code, 3, (none), [], [
  (0, .aload_n 0, 1, []), (1, .getfield 10, 4, [48, 0, 0]), (4, .invokevirtual 226, 7, [2, 0, 7, 1, 170, 171, 172, 41, 173]), (7, .aload_n 0, 8, []), (8, .getfield 19, 11, [49, 0, 1]), (11, .iload_n 1, 12, []), 
  (12, .invokevirtual 229, 15, [2, 1, 9, 2, 221, 222, 223, 42, 224]), (15, .aload_n 0, 16, []), (16, .getfield 37, 19, [51, 0, 3]), (19, .invokevirtual 231, 22, [2, 0, 10, 4, 228, 229, 230, 44, 231]), 
  (22, .iconst 0, 23, []), (23, .istore_n 2, 24, []), (24, .iload_n 2, 25, []), (25, .aload_n 0, 26, []), (26, .getfield 43, 29, [52, 0, 4]), (29, .arraylength, 30, []), (30, .if_icmp .ge 16, 33, [46]), 
  (33, .aload_n 0, 34, []), (34, .getfield 43, 37, [52, 0, 4]), (37, .iload_n 2, 38, []), (38, .aconst_null, 39, []), (39, .aastore, 40, []), (40, .iinc 2 1, 43, []), (43, .goto (-19), 46, [24]), (46, .aload_n 0, 47, []), 
  (47, .iconst 0, 48, []), (48, .putfield 121, 51, [53, 0, 5]), (51, .return_, 52, [])])
/-- TapeVault$Tree.clear()V -/
def mi_7 : MI := (⟨"TapeVault$Tree", "clear", "()V"⟩, prog_5_method_2_code, 2, (none), [], [
  (0, .iconst 0, 1, []), (1, .istore_n 1, 2, []), (2, .iload_n 1, 3, []), (3, .aload_n 0, 4, []), (4, .getfield 11, 7, [0, 1, 0]), (7, .arraylength, 8, []), (8, .if_icmp .ge 16, 11, [24]), (11, .aload_n 0, 12, []), 
  (12, .getfield 11, 15, [0, 1, 0]), (15, .iload_n 1, 16, []), (16, .aconst_null, 17, []), (17, .aastore, 18, []), (18, .iinc 1 1, 21, []), (21, .goto (-19), 24, [2]), (24, .aload_n 0, 25, []), 
  (25, .getfield 11, 28, [0, 1, 0]), (28, .iconst 0, 29, []), (29, .new 9, 32, [5, 75]), (32, .dup, 33, []), (33, .iconst 0, 34, []), (34, .iconst 2, 35, []), (35, .invokespecial 17, 38, [4, 2, 8, 175, 176, 45, 177]), 
  (38, .aastore, 39, []), (39, .aload_n 0, 40, []), (40, .iconst 1, 41, []), (41, .putfield 20, 44, [1, 1, 1]), (44, .aload_n 0, 45, []), (45, .iconst 0, 46, []), (46, .putfield 24, 49, [3, 1, 2]), (49, .return_, 50, [])])
/-- TapeVault$Node.<init>(II)V -/
def mi_8 : MI := (⟨"TapeVault$Node", "<init>", "(II)V"⟩, prog_3_method_1_code, 3, (none), [], [
  (0, .aload_n 0, 1, []), (1, .invokespecial 3, 4, [10, 178, 64, 65]), (4, .aload_n 0, 5, []), (5, .iload_n 1, 6, []), (6, .putfield 9, 9, [25, 5, 0]), (9, .aload_n 0, 10, []), (10, .iload_n 2, 11, []), 
  (11, .putfield 15, 14, [28, 5, 1]), (14, .return_, 15, [])])
/-- TapeVault$Volumes.clear(I)V -/
def mi_9 : MI := (⟨"TapeVault$Volumes", "clear", "(I)V"⟩, prog_7_method_2_code, 2, (none), [], [
  (0, .aload_n 0, 1, []), (1, .iload_n 1, 2, []), (2, .iconst 4, 3, []), (3, .invokestatic 23, 6, [11, 225, 226, 46, 227]), (6, .putfield 19, 9, [7, 2, 2]), (9, .aload_n 0, 10, []), (10, .iconst 0, 11, []), 
  (11, .putfield 29, 14, [8, 2, 3]), (14, .aload_n 0, 15, []), (15, .iconst 0, 16, []), (16, .putfield 32, 19, [10, 2, 4]), (19, .return_, 20, [])])
/-- TapeVault$Restored.clear()V -/
def mi_10 : MI := (⟨"TapeVault$Restored", "clear", "()V"⟩, prog_4_method_2_code, 2, (none), [], [
  (0, .aload_n 0, 1, []), (1, .iconst 0, 2, []), (2, .putfield 26, 5, [18, 4, 4]), (5, .aload_n 0, 6, []), (6, .iconst 0, 7, []), (7, .putfield 30, 10, [19, 4, 5]), (10, .aload_n 0, 11, []), (11, .iconst 0, 12, []), 
  (12, .putfield 34, 15, [21, 4, 6]), (15, .aload_n 0, 16, []), (16, .iconst 0, 17, []), (17, .putfield 37, 20, [23, 4, 7]), (20, .iconst 0, 21, []), (21, .istore_n 1, 22, []), (22, .iload_n 1, 23, []), 
  (23, .sipush 256, 26, []), (26, .if_icmp .ge 14, 29, [40]), (29, .aload_n 0, 30, []), (30, .iload_n 1, 31, []), (31, .invokevirtual 40, 34, [2, 1, 11, 4, 232, 234, 1, 44, 235]), (34, .iinc 1 1, 37, []), 
  (37, .goto (-15), 40, [22]), (40, .return_, 41, [])])
/-- TapeVault$Restored.setNone(I)V -/
def mi_11 : MI := (⟨"TapeVault$Restored", "setNone", "(I)V"⟩, prog_4_method_3_code, 2, (none), [], [
  (0, .aload_n 0, 1, []), (1, .getfield 9, 4, [15, 4, 1]), (4, .iload_n 1, 5, []), (5, .iconst (-1), 6, []), (6, .iastore, 7, []), (7, .aload_n 0, 8, []), (8, .getfield 15, 11, [16, 4, 2]), (11, .iload_n 1, 12, []), 
  (12, .iconst 0, 13, []), (13, .iastore, 14, []), (14, .aload_n 0, 15, []), (15, .getfield 18, 18, [17, 4, 3]), (18, .iload_n 1, 19, []), (19, .iconst 0, 20, []), (20, .bastore, 21, []), (21, .return_, 22, [])])
/-- TapeVaultLaw.begin(LTapeVault;I)I -/
def mi_12 : MI := (⟨"TapeVaultLaw", "begin", "(LTapeVault;I)I"⟩, method_3_code, 3, (some FieldType.int), [(0, 5, 8, 13)], [
  (0, .aload_n 0, 1, []), (1, .iload_n 1, 2, []), (2, .invokevirtual 7, 5, [9, 1, 13, 0, 259, 260, 261, 39, 262]), (5, .goto 6, 8, [11]), (8, .astore_n 2, 9, []), (9, .iconst 1, 10, []), (10, .ireturn, 11, []), 
  (11, .iconst 0, 12, []), (12, .ireturn, 13, [])])
/-- TapeVault.begin(I)V -/
def mi_13 : MI := (⟨"TapeVault", "begin", "(I)V"⟩, prog_1_method_2_code, 2, (none), [], [
  (0, .iload_n 1, 1, []), (1, .iconst 4, 2, []), (2, .if_icmp .lt 10, 5, [12]), (5, .iload_n 1, 6, []), (6, .sipush 1000, 9, []), (9, .if_icmp .le 11, 12, [20]), (12, .new 51, 15, [50, 0, 53, 263]), 
  (20, .aload_n 0, 21, []), (21, .iload_n 1, 22, []), (22, .invokevirtual 47, 25, [2, 1, 6, 0, 166, 168, 0, 39, 169]), (25, .return_, 26, [])])
/-- TapeVaultLaw.make(LTapeVault;IIZ[J)I -/
def mi_14 : MI := (⟨"TapeVaultLaw", "make", "(LTapeVault;IIZ[J)I"⟩, method_4_code, 6, (some FieldType.int), [(0, 12, 15, 13), (0, 12, 19, 19), (0, 12, 23, 21)], [
  (0, .aload 4, 2, []), (2, .iconst 0, 3, []), (3, .aload_n 0, 4, []), (4, .iload_n 1, 5, []), (5, .iload_n 2, 6, []), (6, .iload_n 3, 7, []), (7, .invokevirtual 15, 10, [9, 3, 15, 0, 332, 333, 334, 39, 335]), 
  (10, .i2l, 11, []), (11, .lastore, 12, []), (12, .goto 15, 15, [27]), (15, .astore 5, 17, []), (17, .iconst 1, 18, []), (18, .ireturn, 19, []), (19, .astore 5, 21, []), (21, .iconst 2, 22, []), (22, .ireturn, 23, []), 
  (23, .astore 5, 25, []), (25, .iconst 3, 26, []), (26, .ireturn, 27, []), (27, .iconst 0, 28, []), (28, .ireturn, 29, [])])
/-- TapeVault.make(IIZ)I -/
def mi_15 : MI := (⟨"TapeVault", "make", "(IIZ)I"⟩, prog_1_method_3_code, 6, (some FieldType.int), [], [
  (0, .aload_n 0, 1, []), (1, .getfield 10, 4, [48, 0, 0]), (4, .iload_n 1, 5, []), (5, .invokevirtual 54, 8, [2, 1, 16, 1, 336, 337, 338, 41, 339]), (8, .astore 4, 10, []), (10, .aload 4, 12, []), 
  (12, .ifnull 10, 15, [22]), (15, .iload_n 2, 16, []), (16, .invokestatic 58, 19, [0, 1, 19, 347, 348, 39, 349]), (19, .ifCond .ne 11, 22, [30]), (22, .new 51, 25, [50, 0, 53, 263]), (30, .aload 4, 32, []), 
  (32, .iload_n 2, 33, []), (33, .invokevirtual 62, 36, [2, 1, 20, 5, 350, 351, 352, 45, 353]), (36, .ifnull 11, 39, [47]), (39, .new 67, 42, [50, 1, 69, 354]), (47, .aload_n 0, 48, []), (48, .getfield 10, 51, [48, 0, 0]), 
  (51, .invokevirtual 70, 54, [2, 0, 21, 1, 369, 370, 371, 41, 372]), (54, .istore 5, 56, []), (56, .iload 5, 58, []), (58, .iconst (-1), 59, []), (59, .if_icmp .ne 11, 62, [70]), (62, .new 74, 65, [50, 2, 76, 373]), 
  (70, .aload_n 0, 71, []), (71, .getfield 10, 74, [48, 0, 0]), (74, .iload 5, 76, []), (76, .iload_n 3, 77, []), (77, .ifCond .eq 7, 80, [84]), (80, .iconst 2, 81, []), (81, .goto 4, 84, [85]), (84, .iconst 1, 85, []), 
  (85, .aload 4, 87, []), (87, .iload_n 2, 88, []), (88, .invokevirtual 77, 91, [2, 4, 22, 1, 388, 389, 390, 41, 391]), (91, .iload 5, 93, []), (93, .ireturn, 94, [])])
/-- TapeVault$Tree.directoryAt(I)LTapeVault$Node; -/
def mi_16 : MI := (⟨"TapeVault$Tree", "directoryAt", "(I)LTapeVault$Node;"⟩, prog_5_method_5_code, 3, (some (FieldType.object "TapeVault$Node")), [], [
  (0, .aload_n 0, 1, []), (1, .iload_n 1, 2, []), (2, .invokevirtual 31, 5, [2, 1, 17, 1, 340, 341, 342, 41, 343]), (5, .astore_n 2, 6, []), (6, .aload_n 2, 7, []), (7, .ifnull 15, 10, [22]), (10, .aload_n 2, 11, []), 
  (11, .getfield 35, 14, [29, 5, 1]), (14, .iconst 2, 15, []), (15, .if_icmp .ne 7, 18, [22]), (18, .aload_n 2, 19, []), (19, .goto 4, 22, [23]), (22, .aconst_null, 23, []), (23, .areturn, 24, [])])
/-- TapeVault$Tree.nodeAt(I)LTapeVault$Node; -/
def mi_17 : MI := (⟨"TapeVault$Tree", "nodeAt", "(I)LTapeVault$Node;"⟩, prog_5_method_3_code, 2, (some (FieldType.object "TapeVault$Node")), [], [
  (0, .iload_n 1, 1, []), (1, .invokestatic 27, 4, [1, 1, 18, 344, 345, 39, 346]), (4, .ifCond .eq 12, 7, [16]), (7, .aload_n 0, 8, []), (8, .getfield 11, 11, [0, 1, 0]), (11, .iload_n 1, 12, []), (12, .aaload, 13, []), 
  (13, .goto 4, 16, [17]), (16, .aconst_null, 17, []), (17, .areturn, 18, [])])
/-- TapeVault.isNumber(I)Z -/
def mi_18 : MI := (⟨"TapeVault", "isNumber", "(I)Z"⟩, prog_1_method_20_code, 1, (some FieldType.boolean), [], [
  (0, .iload_n 0, 1, []), (1, .ifCond .lt 14, 4, [15]), (4, .iload_n 0, 5, []), (5, .sipush 256, 8, []), (8, .if_icmp .ge 7, 11, [15]), (11, .iconst 1, 12, []), (12, .goto 4, 15, [16]), (15, .iconst 0, 16, []), 
  (16, .ireturn, 17, [])])
/-- TapeVault.isName(I)Z -/
def mi_19 : MI := (⟨"TapeVault", "isName", "(I)Z"⟩, prog_1_method_19_code, 1, (some FieldType.boolean), [], [
  (0, .iload_n 0, 1, []), (1, .iconst 1, 2, []), (2, .if_icmp .lt 14, 5, [16]), (5, .iload_n 0, 6, []), (6, .sipush 30000, 9, []), (9, .if_icmp .gt 7, 12, [16]), (12, .iconst 1, 13, []), (13, .goto 4, 16, [17]), 
  (16, .iconst 0, 17, []), (17, .ireturn, 18, [])])
/-- TapeVault$Node.childNamed(I)LTapeVault$Node; -/
def mi_20 : MI := (⟨"TapeVault$Node", "childNamed", "(I)LTapeVault$Node;"⟩, prog_3_method_5_code, 3, (some (FieldType.object "TapeVault$Node")), [], [
  (0, .aload_n 0, 1, []), (1, .getfield 22, 4, [44, 5, 7]), (4, .astore_n 2, 5, []), (5, .aload_n 2, 6, []), (6, .ifnull 21, 9, [27]), (9, .aload_n 2, 10, []), (10, .getfield 25, 13, [34, 5, 3]), (13, .iload_n 1, 14, []), 
  (14, .if_icmp .ne 5, 17, [19]), (17, .aload_n 2, 18, []), (18, .areturn, 19, []), (19, .aload_n 2, 20, []), (20, .getfield 28, 23, [46, 5, 8]), (23, .astore_n 2, 24, []), (24, .goto (-19), 27, [5]), 
  (27, .aconst_null, 28, []), (28, .areturn, 29, [])])
/-- TapeVault$Tree.leastFree()I -/
def mi_21 : MI := (⟨"TapeVault$Tree", "leastFree", "()I"⟩, prog_5_method_6_code, 2, (some FieldType.int), [], [
  (0, .iconst 0, 1, []), (1, .istore_n 1, 2, []), (2, .iload_n 1, 3, []), (3, .aload_n 0, 4, []), (4, .getfield 11, 7, [0, 1, 0]), (7, .arraylength, 8, []), (8, .if_icmp .ge 20, 11, [28]), (11, .aload_n 0, 12, []), 
  (12, .getfield 11, 15, [0, 1, 0]), (15, .iload_n 1, 16, []), (16, .aaload, 17, []), (17, .ifnonnull 5, 20, [22]), (20, .iload_n 1, 21, []), (21, .ireturn, 22, []), (22, .iinc 1 1, 25, []), (25, .goto (-23), 28, [2]), 
  (28, .iconst (-1), 29, []), (29, .ireturn, 30, [])])
/-- TapeVault$Tree.add(IILTapeVault$Node;I)V -/
def mi_22 : MI := (⟨"TapeVault$Tree", "add", "(IILTapeVault$Node;I)V"⟩, prog_5_method_7_code, 6, (none), [], [
  (0, .aload_n 0, 1, []), (1, .dup, 2, []), (2, .getfield 24, 5, [3, 1, 2]), (5, .iconst 1, 6, []), (6, .iadd, 7, []), (7, .putfield 24, 10, [3, 1, 2]), (10, .new 9, 13, [5, 75]), (13, .dup, 14, []), 
  (14, .iload_n 1, 15, []), (15, .iload_n 2, 16, []), (16, .invokespecial 17, 19, [4, 2, 8, 175, 176, 45, 177]), (19, .astore 5, 21, []), (21, .aload 5, 23, []), (23, .aload_n 3, 24, []), (24, .iload 4, 26, []), 
  (26, .invokevirtual 38, 29, [2, 2, 23, 5, 392, 393, 394, 45, 395]), (29, .aload 5, 31, []), (31, .aload_n 0, 32, []), (32, .getfield 24, 35, [3, 1, 2]), (35, .putfield 42, 38, [42, 5, 5]), (38, .aload_n 3, 39, []), 
  (39, .aload_n 0, 40, []), (40, .getfield 24, 43, [3, 1, 2]), (43, .putfield 42, 46, [42, 5, 5]), (46, .aload_n 0, 47, []), (47, .getfield 11, 50, [0, 1, 0]), (50, .iload_n 1, 51, []), (51, .aload 5, 53, []), 
  (53, .aastore, 54, []), (54, .aload_n 0, 55, []), (55, .dup, 56, []), (56, .getfield 20, 59, [1, 1, 1]), (59, .iconst 1, 60, []), (60, .iadd, 61, []), (61, .putfield 20, 64, [1, 1, 1]), (64, .return_, 65, [])])
/-- TapeVault$Node.enter(LTapeVault$Node;I)V -/
def mi_23 : MI := (⟨"TapeVault$Node", "enter", "(LTapeVault$Node;I)V"⟩, prog_3_method_9_code, 5, (none), [], [
  (0, .aload_n 0, 1, []), (1, .aload_n 1, 2, []), (2, .putfield 18, 5, [32, 5, 2]), (5, .aload_n 0, 6, []), (6, .iload_n 2, 7, []), (7, .putfield 25, 10, [34, 5, 3]), (10, .aconst_null, 11, []), (11, .astore_n 3, 12, []), 
  (12, .aload_n 1, 13, []), (13, .getfield 22, 16, [44, 5, 7]), (16, .astore 4, 18, []), (18, .aload 4, 20, []), (20, .ifnull 25, 23, [45]), (23, .aload 4, 25, []), (25, .getfield 25, 28, [34, 5, 3]), 
  (28, .iload_n 2, 29, []), (29, .if_icmp .ge 16, 32, [45]), (32, .aload 4, 34, []), (34, .astore_n 3, 35, []), (35, .aload 4, 37, []), (37, .getfield 28, 40, [46, 5, 8]), (40, .astore 4, 42, []), 
  (42, .goto (-24), 45, [18]), (45, .aload_n 0, 46, []), (46, .aload 4, 48, []), (48, .putfield 28, 51, [46, 5, 8]), (51, .aload_n 3, 52, []), (52, .ifnonnull 11, 55, [63]), (55, .aload_n 1, 56, []), 
  (56, .aload_n 0, 57, []), (57, .putfield 22, 60, [44, 5, 7]), (60, .goto 8, 63, [68]), (63, .aload_n 3, 64, []), (64, .aload_n 0, 65, []), (65, .putfield 28, 68, [46, 5, 8]), (68, .aload_n 1, 69, []), (69, .dup, 70, []), 
  (70, .getfield 35, 73, [39, 5, 4]), (73, .iconst 1, 74, []), (74, .iadd, 75, []), (75, .putfield 35, 78, [39, 5, 4]), (78, .return_, 79, [])])
/-- TapeVaultLaw.write(LTapeVault;IIJ[J)I -/
def mi_24 : MI := (⟨"TapeVaultLaw", "write", "(LTapeVault;IIJ[J)I"⟩, method_5_code, 7, (some FieldType.int), [(0, 12, 15, 13), (0, 12, 19, 21)], [
  (0, .aload 5, 2, []), (2, .iconst 0, 3, []), (3, .aload_n 0, 4, []), (4, .iload_n 1, 5, []), (5, .iload_n 2, 6, []), (6, .lload_n 3, 7, []), (7, .invokevirtual 23, 10, [9, 3, 25, 0, 399, 400, 401, 39, 402]), 
  (10, .i2l, 11, []), (11, .lastore, 12, []), (12, .goto 11, 15, [23]), (15, .astore 6, 17, []), (17, .iconst 1, 18, []), (18, .ireturn, 19, []), (19, .astore 6, 21, []), (21, .iconst 2, 22, []), (22, .ireturn, 23, []), 
  (23, .iconst 0, 24, []), (24, .ireturn, 25, [])])
/-- TapeVault.write(IIJ)I -/
def mi_25 : MI := (⟨"TapeVault", "write", "(IIJ)I"⟩, prog_1_method_4_code, 6, (some FieldType.int), [], [
  (0, .aload_n 0, 1, []), (1, .getfield 10, 4, [48, 0, 0]), (4, .iload_n 1, 5, []), (5, .invokevirtual 81, 8, [2, 1, 26, 1, 403, 404, 405, 41, 406]), (8, .astore 5, 10, []), (10, .aload 5, 12, []), 
  (12, .ifnonnull 11, 15, [23]), (15, .new 51, 18, [50, 0, 53, 263]), (23, .iload_n 2, 24, []), (24, .ifCond .lt 19, 27, [43]), (27, .iload_n 2, 28, []), (28, .aload 5, 30, []), (30, .getfield 84, 33, [37, 5, 4]), 
  (33, .if_icmp .gt 10, 36, [43]), (36, .iload_n 2, 37, []), (37, .sipush 504, 40, []), (40, .if_icmp .le 11, 43, [51]), (43, .new 74, 46, [50, 2, 76, 373]), (51, .aload_n 0, 52, []), (52, .getfield 10, 55, [48, 0, 0]), 
  (55, .aload 5, 57, []), (57, .iload_n 2, 58, []), (58, .lload_n 3, 59, []), (59, .invokevirtual 88, 62, [2, 3, 27, 1, 407, 408, 409, 41, 410]), (62, .aload 5, 64, []), (64, .getfield 84, 67, [37, 5, 4]), 
  (67, .ireturn, 68, [])])
/-- TapeVault$Tree.fileAt(I)LTapeVault$Node; -/
def mi_26 : MI := (⟨"TapeVault$Tree", "fileAt", "(I)LTapeVault$Node;"⟩, prog_5_method_4_code, 3, (some (FieldType.object "TapeVault$Node")), [], [
  (0, .aload_n 0, 1, []), (1, .iload_n 1, 2, []), (2, .invokevirtual 31, 5, [2, 1, 17, 1, 340, 341, 342, 41, 343]), (5, .astore_n 2, 6, []), (6, .aload_n 2, 7, []), (7, .ifnull 15, 10, [22]), (10, .aload_n 2, 11, []), 
  (11, .getfield 35, 14, [29, 5, 1]), (14, .iconst 1, 15, []), (15, .if_icmp .ne 7, 18, [22]), (18, .aload_n 2, 19, []), (19, .goto 4, 22, [23]), (22, .aconst_null, 23, []), (23, .areturn, 24, [])])
/-- TapeVault$Tree.overwrite(LTapeVault$Node;IJ)V -/
def mi_27 : MI := (⟨"TapeVault$Tree", "overwrite", "(LTapeVault$Node;IJ)V"⟩, prog_5_method_8_code, 5, (none), [], [
  (0, .aload_n 0, 1, []), (1, .dup, 2, []), (2, .getfield 24, 5, [3, 1, 2]), (5, .iconst 1, 6, []), (6, .iadd, 7, []), (7, .putfield 24, 10, [3, 1, 2]), (10, .aload_n 1, 11, []), (11, .iload_n 2, 12, []), 
  (12, .lload_n 3, 13, []), (13, .invokevirtual 45, 16, [2, 2, 28, 5, 411, 412, 413, 45, 414]), (16, .aload_n 1, 17, []), (17, .aload_n 0, 18, []), (18, .getfield 24, 21, [3, 1, 2]), (21, .putfield 42, 24, [42, 5, 5]), 
  (24, .return_, 25, [])])
/-- TapeVault$Node.setOctets(IJ)V -/
def mi_28 : MI := (⟨"TapeVault$Node", "setOctets", "(IJ)V"⟩, prog_3_method_7_code, 5, (none), [], [
  (0, .aload_n 0, 1, []), (1, .getfield 31, 4, [43, 5, 6]), (4, .ifnonnull 12, 7, [16]), (7, .aload_n 0, 8, []), (8, .sipush 512, 11, []), (11, .newarray .byte, 13, []), (13, .putfield 31, 16, [43, 5, 6]), 
  (16, .iconst 0, 17, []), (17, .istore 4, 19, []), (19, .iload 4, 21, []), (21, .bipush 8, 23, []), (23, .if_icmp .ge 42, 26, [65]), (26, .iload_n 1, 27, []), (27, .iload 4, 29, []), (29, .iadd, 30, []), 
  (30, .aload_n 0, 31, []), (31, .getfield 31, 34, [43, 5, 6]), (34, .arraylength, 35, []), (35, .if_icmp .ge 30, 38, [65]), (38, .aload_n 0, 39, []), (39, .getfield 31, 42, [43, 5, 6]), (42, .iload_n 1, 43, []), 
  (43, .iload 4, 45, []), (45, .iadd, 46, []), (46, .lload_n 2, 47, []), (47, .bipush 8, 49, []), (49, .bipush 7, 51, []), (51, .iload 4, 53, []), (53, .isub, 54, []), (54, .imul, 55, []), (55, .lushr, 56, []), 
  (56, .l2i, 57, []), (57, .i2b, 58, []), (58, .bastore, 59, []), (59, .iinc 4 1, 62, []), (62, .goto (-43), 65, [19]), (65, .aload_n 0, 66, []), (66, .aload_n 0, 67, []), (67, .getfield 35, 70, [39, 5, 4]), 
  (70, .iload_n 1, 71, []), (71, .bipush 8, 73, []), (73, .iadd, 74, []), (74, .invokestatic 38, 77, [11, 415, 226, 46, 227]), (77, .putfield 35, 80, [39, 5, 4]), (80, .return_, 81, [])])
/-- TapeVaultLaw.cut(LTapeVault;II)I -/
def mi_29 : MI := (⟨"TapeVaultLaw", "cut", "(LTapeVault;II)I"⟩, method_6_code, 4, (some FieldType.int), [(0, 6, 9, 13), (0, 6, 12, 21)], [
  (0, .aload_n 0, 1, []), (1, .iload_n 1, 2, []), (2, .iload_n 2, 3, []), (3, .invokevirtual 27, 6, [9, 2, 30, 0, 419, 420, 421, 39, 422]), (6, .goto 9, 9, [15]), (9, .astore_n 3, 10, []), (10, .iconst 1, 11, []), 
  (11, .ireturn, 12, []), (12, .astore_n 3, 13, []), (13, .iconst 2, 14, []), (14, .ireturn, 15, []), (15, .iconst 0, 16, []), (16, .ireturn, 17, [])])
/-- TapeVault.cut(II)V -/
def mi_30 : MI := (⟨"TapeVault", "cut", "(II)V"⟩, prog_1_method_5_code, 4, (none), [], [
  (0, .aload_n 0, 1, []), (1, .getfield 10, 4, [48, 0, 0]), (4, .iload_n 1, 5, []), (5, .invokevirtual 81, 8, [2, 1, 26, 1, 403, 404, 405, 41, 406]), (8, .astore_n 3, 9, []), (9, .aload_n 3, 10, []), 
  (10, .ifnonnull 11, 13, [21]), (13, .new 51, 16, [50, 0, 53, 263]), (21, .iload_n 2, 22, []), (22, .ifCond .lt 11, 25, [33]), (25, .iload_n 2, 26, []), (26, .aload_n 3, 27, []), (27, .getfield 84, 30, [37, 5, 4]), 
  (30, .if_icmp .le 11, 33, [41]), (33, .new 74, 36, [50, 2, 76, 373]), (41, .aload_n 0, 42, []), (42, .getfield 10, 45, [48, 0, 0]), (45, .aload_n 3, 46, []), (46, .iload_n 2, 47, []), 
  (47, .invokevirtual 92, 50, [2, 2, 31, 1, 423, 424, 425, 41, 426]), (50, .return_, 51, [])])
/-- TapeVault$Tree.shorten(LTapeVault$Node;I)V -/
def mi_31 : MI := (⟨"TapeVault$Tree", "shorten", "(LTapeVault$Node;I)V"⟩, prog_5_method_9_code, 3, (none), [], [
  (0, .aload_n 0, 1, []), (1, .dup, 2, []), (2, .getfield 24, 5, [3, 1, 2]), (5, .iconst 1, 6, []), (6, .iadd, 7, []), (7, .putfield 24, 10, [3, 1, 2]), (10, .aload_n 1, 11, []), (11, .iload_n 2, 12, []), 
  (12, .putfield 49, 15, [40, 5, 4]), (15, .aload_n 1, 16, []), (16, .aload_n 0, 17, []), (17, .getfield 24, 20, [3, 1, 2]), (20, .putfield 42, 23, [42, 5, 5]), (23, .return_, 24, [])])
/-- TapeVaultLaw.move(LTapeVault;III)I -/
def mi_32 : MI := (⟨"TapeVaultLaw", "move", "(LTapeVault;III)I"⟩, method_7_code, 5, (some FieldType.int), [(0, 7, 10, 13), (0, 7, 14, 19), (0, 7, 18, 35)], [
  (0, .aload_n 0, 1, []), (1, .iload_n 1, 2, []), (2, .iload_n 2, 3, []), (3, .iload_n 3, 4, []), (4, .invokevirtual 31, 7, [9, 3, 33, 0, 431, 432, 433, 39, 434]), (7, .goto 15, 10, [22]), (10, .astore 4, 12, []), 
  (12, .iconst 1, 13, []), (13, .ireturn, 14, []), (14, .astore 4, 16, []), (16, .iconst 2, 17, []), (17, .ireturn, 18, []), (18, .astore 4, 20, []), (20, .iconst 3, 21, []), (21, .ireturn, 22, []), (22, .iconst 0, 23, []), 
  (23, .ireturn, 24, [])])
/-- TapeVault.move(III)V -/
def mi_33 : MI := (⟨"TapeVault", "move", "(III)V"⟩, prog_1_method_6_code, 7, (none), [], [
  (0, .aload_n 0, 1, []), (1, .getfield 10, 4, [48, 0, 0]), (4, .iload_n 1, 5, []), (5, .invokevirtual 96, 8, [2, 1, 17, 1, 435, 341, 342, 41, 343]), (8, .astore 4, 10, []), (10, .aload_n 0, 11, []), 
  (11, .getfield 10, 14, [48, 0, 0]), (14, .iload_n 2, 15, []), (15, .invokevirtual 54, 18, [2, 1, 16, 1, 336, 337, 338, 41, 339]), (18, .astore 5, 20, []), (20, .aload 4, 22, []), (22, .ifnull 23, 25, [45]), 
  (25, .aload 4, 27, []), (27, .invokevirtual 99, 30, [2, 0, 34, 5, 436, 437, 438, 45, 439]), (30, .ifCond .ne 15, 33, [45]), (33, .aload 5, 35, []), (35, .ifnull 10, 38, [45]), (38, .iload_n 3, 39, []), 
  (39, .invokestatic 58, 42, [0, 1, 19, 347, 348, 39, 349]), (42, .ifCond .ne 11, 45, [53]), (45, .new 51, 48, [50, 0, 53, 263]), (53, .aload 5, 55, []), (55, .iload_n 3, 56, []), 
  (56, .invokevirtual 62, 59, [2, 1, 20, 5, 350, 351, 352, 45, 353]), (59, .astore 6, 61, []), (61, .aload 6, 63, []), (63, .ifnull 18, 66, [81]), (66, .aload 6, 68, []), (68, .aload 4, 70, []), 
  (70, .if_acmp .eq 11, 73, [81]), (73, .new 67, 76, [50, 1, 69, 354]), (81, .aload 5, 83, []), (83, .aload 4, 85, []), (85, .invokevirtual 103, 88, [2, 1, 35, 5, 440, 441, 442, 45, 443]), (88, .ifCond .eq 11, 91, [99]), 
  (91, .new 107, 94, [50, 3, 109, 444]), (99, .aload_n 0, 100, []), (100, .getfield 10, 103, [48, 0, 0]), (103, .aload 4, 105, []), (105, .aload 5, 107, []), (107, .iload_n 3, 108, []), 
  (108, .invokevirtual 110, 111, [2, 3, 36, 1, 459, 460, 461, 41, 462]), (111, .return_, 112, [])])
/-- TapeVault$Node.isRoot()Z -/
def mi_34 : MI := (⟨"TapeVault$Node", "isRoot", "()Z"⟩, prog_3_method_2_code, 1, (some FieldType.boolean), [], [
  (0, .aload_n 0, 1, []), (1, .getfield 18, 4, [32, 5, 2]), (4, .ifnonnull 7, 7, [11]), (7, .iconst 1, 8, []), (8, .goto 4, 11, [12]), (11, .iconst 0, 12, []), (12, .ireturn, 13, [])])
/-- TapeVault$Node.isAtOrBelow(LTapeVault$Node;)Z -/
def mi_35 : MI := (⟨"TapeVault$Node", "isAtOrBelow", "(LTapeVault$Node;)Z"⟩, prog_3_method_4_code, 3, (some FieldType.boolean), [], [
  (0, .aload_n 0, 1, []), (1, .astore_n 2, 2, []), (2, .aload_n 2, 3, []), (3, .ifnull 18, 6, [21]), (6, .aload_n 2, 7, []), (7, .aload_n 1, 8, []), (8, .if_acmp .ne 5, 11, [13]), (11, .iconst 1, 12, []), 
  (12, .ireturn, 13, []), (13, .aload_n 2, 14, []), (14, .getfield 18, 17, [32, 5, 2]), (17, .astore_n 2, 18, []), (18, .goto (-16), 21, [2]), (21, .iconst 0, 22, []), (22, .ireturn, 23, [])])
/-- TapeVault$Tree.rehome(LTapeVault$Node;LTapeVault$Node;I)V -/
def mi_36 : MI := (⟨"TapeVault$Tree", "rehome", "(LTapeVault$Node;LTapeVault$Node;I)V"⟩, prog_5_method_10_code, 4, (none), [], [
  (0, .aload_n 0, 1, []), (1, .dup, 2, []), (2, .getfield 24, 5, [3, 1, 2]), (5, .iconst 1, 6, []), (6, .iadd, 7, []), (7, .putfield 24, 10, [3, 1, 2]), (10, .aload_n 0, 11, []), (11, .aload_n 1, 12, []), 
  (12, .invokevirtual 52, 15, [2, 1, 37, 1, 463, 465, 3, 41, 466]), (15, .aload_n 1, 16, []), (16, .aload_n 2, 17, []), (17, .iload_n 3, 18, []), (18, .invokevirtual 38, 21, [2, 2, 23, 5, 392, 393, 394, 45, 395]), 
  (21, .aload_n 1, 22, []), (22, .aload_n 0, 23, []), (23, .getfield 24, 26, [3, 1, 2]), (26, .putfield 42, 29, [42, 5, 5]), (29, .aload_n 2, 30, []), (30, .aload_n 0, 31, []), (31, .getfield 24, 34, [3, 1, 2]), 
  (34, .putfield 42, 37, [42, 5, 5]), (37, .return_, 38, [])])
/-- TapeVault$Tree.takeOut(LTapeVault$Node;)V -/
def mi_37 : MI := (⟨"TapeVault$Tree", "takeOut", "(LTapeVault$Node;)V"⟩, prog_5_method_12_code, 3, (none), [], [
  (0, .aload_n 1, 1, []), (1, .getfield 59, 4, [33, 5, 2]), (4, .astore_n 2, 5, []), (5, .aload_n 2, 6, []), (6, .ifnull 16, 9, [22]), (9, .aload_n 1, 10, []), (10, .aload_n 2, 11, []), 
  (11, .invokevirtual 63, 14, [2, 1, 38, 5, 467, 468, 469, 45, 470]), (14, .aload_n 2, 15, []), (15, .aload_n 0, 16, []), (16, .getfield 24, 19, [3, 1, 2]), (19, .putfield 42, 22, [42, 5, 5]), (22, .return_, 23, [])])
/-- TapeVault$Node.leave(LTapeVault$Node;)V -/
def mi_38 : MI := (⟨"TapeVault$Node", "leave", "(LTapeVault$Node;)V"⟩, prog_3_method_10_code, 4, (none), [], [
  (0, .aconst_null, 1, []), (1, .astore_n 2, 2, []), (2, .aload_n 1, 3, []), (3, .getfield 22, 6, [44, 5, 7]), (6, .astore_n 3, 7, []), (7, .aload_n 3, 8, []), (8, .ifnull 18, 11, [26]), (11, .aload_n 3, 12, []), 
  (12, .aload_n 0, 13, []), (13, .if_acmp .eq 13, 16, [26]), (16, .aload_n 3, 17, []), (17, .astore_n 2, 18, []), (18, .aload_n 3, 19, []), (19, .getfield 28, 22, [46, 5, 8]), (22, .astore_n 3, 23, []), 
  (23, .goto (-16), 26, [7]), (26, .aload_n 2, 27, []), (27, .ifnonnull 14, 30, [41]), (30, .aload_n 1, 31, []), (31, .aload_n 0, 32, []), (32, .getfield 28, 35, [46, 5, 8]), (35, .putfield 22, 38, [44, 5, 7]), 
  (38, .goto 11, 41, [49]), (41, .aload_n 2, 42, []), (42, .aload_n 0, 43, []), (43, .getfield 28, 46, [46, 5, 8]), (46, .putfield 28, 49, [46, 5, 8]), (49, .aload_n 1, 50, []), (50, .dup, 51, []), 
  (51, .getfield 35, 54, [39, 5, 4]), (54, .iconst 1, 55, []), (55, .isub, 56, []), (56, .putfield 35, 59, [39, 5, 4]), (59, .return_, 60, [])])
/-- TapeVaultLaw.remove(LTapeVault;I)I -/
def mi_39 : MI := (⟨"TapeVaultLaw", "remove", "(LTapeVault;I)I"⟩, method_8_code, 3, (some FieldType.int), [(0, 5, 8, 13), (0, 5, 11, 19)], [
  (0, .aload_n 0, 1, []), (1, .iload_n 1, 2, []), (2, .invokevirtual 37, 5, [9, 1, 40, 0, 474, 475, 476, 39, 477]), (5, .goto 9, 8, [14]), (8, .astore_n 2, 9, []), (9, .iconst 1, 10, []), (10, .ireturn, 11, []), 
  (11, .astore_n 2, 12, []), (12, .iconst 2, 13, []), (13, .ireturn, 14, []), (14, .iconst 0, 15, []), (15, .ireturn, 16, [])])
/-- TapeVault.remove(I)V -/
def mi_40 : MI := (⟨"TapeVault", "remove", "(I)V"⟩, prog_1_method_7_code, 3, (none), [], [
  (0, .aload_n 0, 1, []), (1, .getfield 10, 4, [48, 0, 0]), (4, .iload_n 1, 5, []), (5, .invokevirtual 96, 8, [2, 1, 17, 1, 435, 341, 342, 41, 343]), (8, .astore_n 2, 9, []), (9, .aload_n 2, 10, []), 
  (10, .ifnull 10, 13, [20]), (13, .aload_n 2, 14, []), (14, .invokevirtual 99, 17, [2, 0, 34, 5, 436, 437, 438, 45, 439]), (17, .ifCond .eq 11, 20, [28]), (20, .new 51, 23, [50, 0, 53, 263]), (28, .aload_n 2, 29, []), 
  (29, .getfield 114, 32, [31, 5, 1]), (32, .iconst 2, 33, []), (33, .if_icmp .ne 18, 36, [51]), (36, .aload_n 2, 37, []), (37, .getfield 84, 40, [37, 5, 4]), (40, .ifCond .le 11, 43, [51]), 
  (43, .new 67, 46, [50, 1, 69, 354]), (51, .aload_n 0, 52, []), (52, .getfield 10, 55, [48, 0, 0]), (55, .aload_n 2, 56, []), (56, .invokevirtual 117, 59, [2, 1, 41, 1, 478, 479, 480, 41, 481]), (59, .return_, 60, [])])
/-- TapeVault$Tree.drop(LTapeVault$Node;)V -/
def mi_41 : MI := (⟨"TapeVault$Tree", "drop", "(LTapeVault$Node;)V"⟩, prog_5_method_11_code, 2, (none), [], [
  (0, .aload_n 0, 1, []), (1, .dup, 2, []), (2, .getfield 24, 5, [3, 1, 2]), (5, .iconst 1, 6, []), (6, .iadd, 7, []), (7, .putfield 24, 10, [3, 1, 2]), (10, .aload_n 0, 11, []), (11, .aload_n 1, 12, []), 
  (12, .invokevirtual 52, 15, [2, 1, 37, 1, 463, 465, 3, 41, 466]), (15, .aload_n 0, 16, []), (16, .getfield 11, 19, [0, 1, 0]), (19, .aload_n 1, 20, []), (20, .getfield 56, 23, [27, 5, 0]), (23, .aconst_null, 24, []), 
  (24, .aastore, 25, []), (25, .aload_n 0, 26, []), (26, .dup, 27, []), (27, .getfield 20, 30, [1, 1, 1]), (30, .iconst 1, 31, []), (31, .isub, 32, []), (32, .putfield 20, 35, [1, 1, 1]), (35, .return_, 36, [])])
/-- TapeVaultLaw.dump(LTapeVault;I[J)I -/
def mi_42 : MI := (⟨"TapeVaultLaw", "dump", "(LTapeVault;I[J)I"⟩, method_9_code, 4, (some FieldType.int), [(0, 9, 12, 13), (0, 9, 15, 21)], [
  (0, .aload_n 2, 1, []), (1, .iconst 0, 2, []), (2, .aload_n 0, 3, []), (3, .iload_n 1, 4, []), (4, .invokevirtual 40, 7, [9, 1, 43, 0, 485, 486, 487, 39, 488]), (7, .i2l, 8, []), (8, .lastore, 9, []), 
  (9, .goto 9, 12, [18]), (12, .astore_n 3, 13, []), (13, .iconst 1, 14, []), (14, .ireturn, 15, []), (15, .astore_n 3, 16, []), (16, .iconst 2, 17, []), (17, .ireturn, 18, []), (18, .iconst 0, 19, []), 
  (19, .ireturn, 20, [])])
/-- TapeVault.dump(I)I -/
def mi_43 : MI := (⟨"TapeVault", "dump", "(I)I"⟩, prog_1_method_8_code, 3, (some FieldType.int), [], [
  (0, .iload_n 1, 1, []), (1, .ifCond .lt 9, 4, [10]), (4, .iload_n 1, 5, []), (5, .bipush 9, 7, []), (7, .if_icmp .le 11, 10, [18]), (10, .new 51, 13, [50, 0, 53, 263]), (18, .new 41, 21, [6, 164]), (21, .dup, 22, []), 
  (22, .aload_n 0, 23, []), (23, .getfield 121, 26, [53, 0, 5]), (26, .iload_n 1, 27, []), (27, .aload_n 0, 28, []), (28, .getfield 10, 31, [48, 0, 0]), (31, .getfield 124, 34, [4, 1, 2]), (34, .aload_n 0, 35, []), 
  (35, .iload_n 1, 36, []), (36, .invokevirtual 127, 39, [2, 1, 44, 0, 490, 492, 4, 39, 493]), (39, .invokespecial 131, 42, [4, 4, 45, 494, 495, 55, 496]), (42, .astore_n 2, 43, []), (43, .aload_n 2, 44, []), 
  (44, .aload_n 0, 45, []), (45, .getfield 10, 48, [48, 0, 0]), (48, .aload_n 2, 49, []), (49, .invokevirtual 134, 52, [2, 0, 46, 6, 536, 537, 538, 55, 539]), 
  (52, .invokevirtual 137, 55, [2, 1, 47, 1, 540, 541, 542, 41, 543]), (55, .putfield 141, 58, [69, 6, 5]), (58, .aload_n 2, 59, []), (59, .aload_n 0, 60, []), (60, .getfield 19, 63, [49, 0, 1]), 
  (63, .getfield 144, 66, [11, 2, 4]), (66, .putfield 147, 69, [72, 6, 6]), (69, .aload_n 2, 70, []), (70, .aload_n 2, 71, []), (71, .invokevirtual 150, 74, [2, 0, 49, 6, 548, 549, 550, 55, 551]), (74, .aload_n 0, 75, []), 
  (75, .getfield 10, 78, [48, 0, 0]), (78, .aload_n 2, 79, []), (79, .invokevirtual 134, 82, [2, 0, 46, 6, 536, 537, 538, 55, 539]), (82, .invokevirtual 153, 85, [2, 1, 51, 1, 555, 556, 557, 41, 558]), (85, .iadd, 86, []), 
  (86, .putfield 156, 89, [74, 6, 7]), (89, .aload_n 0, 90, []), (90, .getfield 121, 93, [53, 0, 5]), (93, .bipush 100, 95, []), (95, .if_icmp .ge 17, 98, [112]), (98, .aload_n 0, 99, []), 
  (99, .getfield 19, 102, [49, 0, 1]), (102, .aload_n 2, 103, []), (103, .getfield 156, 106, [74, 6, 7]), (106, .invokevirtual 159, 109, [2, 1, 53, 2, 564, 565, 566, 42, 567]), (109, .ifCond .ne 11, 112, [120]), 
  (112, .new 74, 115, [50, 2, 76, 373]), (120, .aload_n 0, 121, []), (121, .getfield 28, 124, [50, 0, 2]), (124, .aload_n 2, 125, []), (125, .invokevirtual 162, 128, [2, 1, 54, 3, 569, 570, 571, 43, 572]), 
  (128, .aload_n 0, 129, []), (129, .getfield 43, 132, [52, 0, 4]), (132, .aload_n 0, 133, []), (133, .getfield 121, 136, [53, 0, 5]), (136, .aload_n 2, 137, []), (137, .aastore, 138, []), (138, .aload_n 0, 139, []), 
  (139, .dup, 140, []), (140, .getfield 121, 143, [53, 0, 5]), (143, .iconst 1, 144, []), (144, .iadd, 145, []), (145, .putfield 121, 148, [53, 0, 5]), (148, .aload_n 2, 149, []), (149, .getfield 166, 152, [56, 6, 0]), 
  (152, .ireturn, 153, [])])
/-- TapeVault.latestBelow(I)LTapeVault$Dump; -/
def mi_44 : MI := (⟨"TapeVault", "latestBelow", "(I)LTapeVault$Dump;"⟩, prog_1_method_18_code, 4, (some (FieldType.object "TapeVault$Dump")), [], [
  (0, .aload_n 0, 1, []), (1, .getfield 121, 4, [53, 0, 5]), (4, .iconst 1, 5, []), (5, .isub, 6, []), (6, .istore_n 2, 7, []), (7, .iload_n 2, 8, []), (8, .ifCond .lt 30, 11, [38]), (11, .aload_n 0, 12, []), 
  (12, .getfield 43, 15, [52, 0, 4]), (15, .iload_n 2, 16, []), (16, .aaload, 17, []), (17, .astore_n 3, 18, []), (18, .aload_n 3, 19, []), (19, .ifnull 13, 22, [32]), (22, .aload_n 3, 23, []), 
  (23, .getfield 232, 26, [59, 6, 1]), (26, .iload_n 1, 27, []), (27, .if_icmp .ge 5, 30, [32]), (30, .aload_n 3, 31, []), (31, .areturn, 32, []), (32, .iinc 2 (-1), 35, []), (35, .goto (-28), 38, [7]), 
  (38, .aconst_null, 39, []), (39, .areturn, 40, [])])
/-- TapeVault$Dump.<init>(IIILTapeVault$Dump;)V -/
def mi_45 : MI := (⟨"TapeVault$Dump", "<init>", "(IIILTapeVault$Dump;)V"⟩, prog_2_method_1_code, 5, (none), [], [
  (0, .aload_n 0, 1, []), (1, .invokespecial 3, 4, [10, 497, 64, 65]), (4, .aload_n 0, 5, []), (5, .iload_n 1, 6, []), (6, .putfield 9, 9, [54, 6, 0]), (9, .aload_n 0, 10, []), (10, .iload_n 2, 11, []), 
  (11, .putfield 15, 14, [57, 6, 1]), (14, .aload_n 0, 15, []), (15, .iload_n 3, 16, []), (16, .putfield 18, 19, [60, 6, 2]), (19, .aload_n 0, 20, []), (20, .aload 4, 22, []), (22, .putfield 21, 25, [62, 6, 3]), 
  (25, .aload_n 0, 26, []), (26, .aload 4, 28, []), (28, .ifnonnull 7, 31, [35]), (31, .iconst 1, 32, []), (32, .goto 10, 35, [42]), (35, .aload 4, 37, []), (37, .getfield 25, 40, [64, 6, 4]), (40, .iconst 1, 41, []), 
  (41, .iadd, 42, []), (42, .putfield 25, 45, [64, 6, 4]), (45, .return_, 46, [])])
/-- TapeVault$Dump.since()I -/
def mi_46 : MI := (⟨"TapeVault$Dump", "since", "()I"⟩, prog_2_method_2_code, 1, (some FieldType.int), [], [
  (0, .aload_n 0, 1, []), (1, .getfield 21, 4, [62, 6, 3]), (4, .ifnonnull 7, 7, [11]), (7, .iconst (-1), 8, []), (8, .goto 10, 11, [18]), (11, .aload_n 0, 12, []), (12, .getfield 21, 15, [62, 6, 3]), 
  (15, .getfield 18, 18, [60, 6, 2]), (18, .ireturn, 19, [])])
/-- TapeVault$Tree.changedAfter(I)I -/
def mi_47 : MI := (⟨"TapeVault$Tree", "changedAfter", "(I)I"⟩, prog_5_method_14_code, 4, (some FieldType.int), [], [
  (0, .iconst 0, 1, []), (1, .istore_n 2, 2, []), (2, .iconst 0, 3, []), (3, .istore_n 3, 4, []), (4, .iload_n 3, 5, []), (5, .sipush 256, 8, []), (8, .if_icmp .ge 21, 11, [29]), (11, .aload_n 0, 12, []), 
  (12, .iload_n 3, 13, []), (13, .iload_n 1, 14, []), (14, .invokevirtual 66, 17, [2, 2, 48, 1, 544, 545, 546, 41, 547]), (17, .ifnull 6, 20, [23]), (20, .iinc 2 1, 23, []), (23, .iinc 3 1, 26, []), 
  (26, .goto (-22), 29, [4]), (29, .iload_n 2, 30, []), (30, .ireturn, 31, [])])
/-- TapeVault$Tree.changedNode(II)LTapeVault$Node; -/
def mi_48 : MI := (⟨"TapeVault$Tree", "changedNode", "(II)LTapeVault$Node;"⟩, prog_5_method_13_code, 4, (some (FieldType.object "TapeVault$Node")), [], [
  (0, .aload_n 0, 1, []), (1, .iload_n 1, 2, []), (2, .invokevirtual 31, 5, [2, 1, 17, 1, 340, 341, 342, 41, 343]), (5, .astore_n 3, 6, []), (6, .aload_n 3, 7, []), (7, .ifnull 15, 10, [22]), (10, .aload_n 3, 11, []), 
  (11, .getfield 42, 14, [42, 5, 5]), (14, .iload_n 2, 15, []), (15, .if_icmp .le 7, 18, [22]), (18, .aload_n 3, 19, []), (19, .goto 4, 22, [23]), (22, .aconst_null, 23, []), (23, .areturn, 24, [])])
/-- TapeVault$Dump.blocksBeforeNodes()I -/
def mi_49 : MI := (⟨"TapeVault$Dump", "blocksBeforeNodes", "()I"⟩, prog_2_method_5_code, 1, (some FieldType.int), [], [
  (0, .iconst 2, 1, []), (1, .aload_n 0, 2, []), (2, .getfield 31, 5, [67, 6, 5]), (5, .bipush 31, 7, []), (7, .invokestatic 34, 10, [1, 2, 50, 552, 553, 39, 554]), (10, .iadd, 11, []), (11, .ireturn, 12, [])])
/-- TapeVault.quotientUp(II)I -/
def mi_50 : MI := (⟨"TapeVault", "quotientUp", "(II)I"⟩, prog_1_method_21_code, 2, (some FieldType.int), [], [
  (0, .iload_n 1, 1, []), (1, .ifCond .gt 7, 4, [8]), (4, .iconst 0, 5, []), (5, .goto 10, 8, [15]), (8, .iload_n 0, 9, []), (9, .iload_n 1, 10, []), (10, .iadd, 11, []), (11, .iconst 1, 12, []), (12, .isub, 13, []), 
  (13, .iload_n 1, 14, []), (14, .idiv, 15, []), (15, .ireturn, 16, [])])
/-- TapeVault$Tree.blocksChangedAfter(I)I -/
def mi_51 : MI := (⟨"TapeVault$Tree", "blocksChangedAfter", "(I)I"⟩, prog_5_method_15_code, 5, (some FieldType.int), [], [
  (0, .iconst 0, 1, []), (1, .istore_n 2, 2, []), (2, .iconst 0, 3, []), (3, .istore_n 3, 4, []), (4, .iload_n 3, 5, []), (5, .sipush 256, 8, []), (8, .if_icmp .ge 30, 11, [38]), (11, .aload_n 0, 12, []), 
  (12, .iload_n 3, 13, []), (13, .iload_n 1, 14, []), (14, .invokevirtual 66, 17, [2, 2, 48, 1, 544, 545, 546, 41, 547]), (17, .astore 4, 19, []), (19, .aload 4, 21, []), (21, .ifnull 11, 24, [32]), 
  (24, .iload_n 2, 25, []), (25, .aload 4, 27, []), (27, .invokevirtual 70, 30, [2, 0, 52, 5, 559, 560, 561, 45, 562]), (30, .iadd, 31, []), (31, .istore_n 2, 32, []), (32, .iinc 3 1, 35, []), (35, .goto (-31), 38, [4]), 
  (38, .iload_n 2, 39, []), (39, .ireturn, 40, [])])
/-- TapeVault$Node.blocks()I -/
def mi_52 : MI := (⟨"TapeVault$Node", "blocks", "()I"⟩, prog_3_method_8_code, 1, (some FieldType.int), [], [
  (0, .iconst 1, 1, []), (1, .aload_n 0, 2, []), (2, .getfield 35, 5, [39, 5, 4]), (5, .aload_n 0, 6, []), (6, .getfield 15, 9, [28, 5, 1]), (9, .iconst 1, 10, []), (10, .if_icmp .ne 8, 13, [18]), (13, .bipush 64, 15, []), 
  (15, .goto 5, 18, [20]), (18, .bipush 21, 20, []), (20, .invokestatic 44, 23, [1, 2, 50, 563, 553, 39, 554]), (23, .iadd, 24, []), (24, .ireturn, 25, [])])
/-- TapeVault$Volumes.hasRoomFor(I)Z -/
def mi_53 : MI := (⟨"TapeVault$Volumes", "hasRoomFor", "(I)Z"⟩, prog_7_method_4_code, 3, (some FieldType.boolean), [], [
  (0, .aload_n 0, 1, []), (1, .getfield 32, 4, [10, 2, 4]), (4, .iload_n 1, 5, []), (5, .iadd, 6, []), (6, .istore_n 2, 7, []), (7, .iload_n 2, 8, []), (8, .iload_n 2, 9, []), (9, .aload_n 0, 10, []), 
  (10, .getfield 19, 13, [7, 2, 2]), (13, .iconst 1, 14, []), (14, .isub, 15, []), (15, .invokestatic 35, 18, [1, 2, 50, 568, 553, 39, 554]), (18, .iadd, 19, []), (19, .sipush 4000, 22, []), (22, .if_icmp .gt 7, 25, [29]), 
  (25, .iconst 1, 26, []), (26, .goto 4, 29, [30]), (29, .iconst 0, 30, []), (30, .ireturn, 31, [])])
/-- TapeVault$Writer.writeAll(LTapeVault$Dump;)V -/
def mi_54 : MI := (⟨"TapeVault$Writer", "writeAll", "(LTapeVault$Dump;)V"⟩, prog_8_method_2_code, 4, (none), [], [
  (0, .aload_n 0, 1, []), (1, .aload_n 1, 2, []), (2, .invokevirtual 19, 5, [2, 1, 55, 3, 573, 575, 5, 43, 576]), (5, .aload_n 0, 6, []), (6, .invokevirtual 23, 9, [2, 0, 61, 3, 614, 616, 7, 43, 617]), 
  (9, .aload_n 0, 10, []), (10, .aload_n 1, 11, []), (11, .invokevirtual 26, 14, [2, 1, 62, 3, 619, 621, 8, 43, 622]), (14, .iconst 0, 15, []), (15, .istore_n 2, 16, []), (16, .iload_n 2, 17, []), (17, .sipush 256, 20, []), 
  (20, .if_icmp .ge 41, 23, [61]), (23, .aload_n 0, 24, []), (24, .getfield 9, 27, [12, 3, 0]), (27, .iload_n 2, 28, []), (28, .aload_n 1, 29, []), (29, .invokevirtual 29, 32, [2, 0, 46, 6, 623, 537, 538, 55, 539]), 
  (32, .invokevirtual 35, 35, [2, 2, 48, 1, 624, 545, 546, 41, 547]), (35, .astore_n 3, 36, []), (36, .aload_n 3, 37, []), (37, .ifnull 18, 40, [55]), (40, .aload_n 0, 41, []), (41, .aload_n 3, 42, []), 
  (42, .invokevirtual 41, 45, [2, 1, 63, 3, 627, 629, 9, 43, 630]), (45, .aload_n 0, 46, []), (46, .aload_n 3, 47, []), (47, .invokevirtual 45, 50, [2, 1, 65, 3, 635, 637, 10, 43, 638]), (50, .aload_n 0, 51, []), 
  (51, .aload_n 3, 52, []), (52, .invokevirtual 48, 55, [2, 1, 67, 3, 643, 645, 11, 43, 646]), (55, .iinc 2 1, 58, []), (58, .goto (-42), 61, [16]), (61, .return_, 62, [])])
/-- TapeVault$Writer.writeHead(LTapeVault$Dump;)V -/
def mi_55 : MI := (⟨"TapeVault$Writer", "writeHead", "(LTapeVault$Dump;)V"⟩, prog_8_method_3_code, 2, (none), [], [
  (0, .aload_n 0, 1, []), (1, .getfield 15, 4, [13, 3, 1]), (4, .invokevirtual 51, 7, [2, 0, 56, 2, 577, 578, 579, 42, 580]), (7, .aload_n 0, 8, []), (8, .getfield 15, 11, [13, 3, 1]), (11, .iconst 0, 12, []), 
  (12, .iconst 1, 13, []), (13, .bipush 72, 15, []), (15, .invokevirtual 56, 18, [2, 3, 60, 2, 613, 610, 611, 42, 612]), (18, .aload_n 0, 19, []), (19, .getfield 15, 22, [13, 3, 1]), (22, .iconst 1, 23, []), 
  (23, .iconst 1, 24, []), (24, .aload_n 1, 25, []), (25, .getfield 60, 28, [58, 6, 1]), (28, .invokevirtual 56, 31, [2, 3, 60, 2, 613, 610, 611, 42, 612]), (31, .aload_n 0, 32, []), (32, .getfield 15, 35, [13, 3, 1]), 
  (35, .iconst 2, 36, []), (36, .iconst 2, 37, []), (37, .aload_n 1, 38, []), (38, .getfield 64, 41, [55, 6, 0]), (41, .invokevirtual 56, 44, [2, 3, 60, 2, 613, 610, 611, 42, 612]), (44, .aload_n 0, 45, []), 
  (45, .getfield 15, 48, [13, 3, 1]), (48, .iconst 4, 49, []), (49, .iconst 4, 50, []), (50, .aload_n 1, 51, []), (51, .getfield 67, 54, [61, 6, 2]), (54, .invokevirtual 56, 57, [2, 3, 60, 2, 613, 610, 611, 42, 612]), 
  (57, .aload_n 0, 58, []), (58, .getfield 15, 61, [13, 3, 1]), (61, .bipush 8, 63, []), (63, .iconst 2, 64, []), (64, .aload_n 1, 65, []), (65, .getfield 70, 68, [63, 6, 3]), (68, .ifnonnull 7, 71, [75]), 
  (71, .iconst 0, 72, []), (72, .goto 12, 75, [84]), (75, .aload_n 1, 76, []), (76, .getfield 70, 79, [63, 6, 3]), (79, .getfield 64, 82, [55, 6, 0]), (82, .iconst 1, 83, []), (83, .iadd, 84, []), 
  (84, .invokevirtual 56, 87, [2, 3, 60, 2, 613, 610, 611, 42, 612]), (87, .aload_n 0, 88, []), (88, .getfield 15, 91, [13, 3, 1]), (91, .bipush 10, 93, []), (93, .iconst 2, 94, []), (94, .aload_n 1, 95, []), 
  (95, .getfield 74, 98, [66, 6, 5]), (98, .invokevirtual 56, 101, [2, 3, 60, 2, 613, 610, 611, 42, 612]), (101, .return_, 102, [])])
/-- TapeVault$Volumes.append()V -/
def mi_56 : MI := (⟨"TapeVault$Volumes", "append", "()V"⟩, prog_7_method_5_code, 1, (none), [], [
  (0, .aload_n 0, 1, []), (1, .getfield 29, 4, [8, 2, 3]), (4, .aload_n 0, 5, []), (5, .getfield 19, 8, [7, 2, 2]), (8, .irem, 9, []), (9, .ifCond .ne 30, 12, [39]), (12, .aload_n 0, 13, []), 
  (13, .invokevirtual 38, 16, [2, 0, 57, 2, 581, 583, 6, 42, 584]), (16, .aload_n 0, 17, []), (17, .iconst 0, 18, []), (18, .iconst 1, 19, []), (19, .bipush 76, 21, []), 
  (21, .invokevirtual 41, 24, [2, 3, 60, 2, 609, 610, 611, 42, 612]), (24, .aload_n 0, 25, []), (25, .iconst 1, 26, []), (26, .iconst 2, 27, []), (27, .aload_n 0, 28, []), (28, .getfield 29, 31, [8, 2, 3]), 
  (31, .aload_n 0, 32, []), (32, .getfield 19, 35, [7, 2, 2]), (35, .idiv, 36, []), (36, .invokevirtual 41, 39, [2, 3, 60, 2, 609, 610, 611, 42, 612]), (39, .aload_n 0, 40, []), 
  (40, .invokevirtual 38, 43, [2, 0, 57, 2, 581, 583, 6, 42, 584]), (43, .aload_n 0, 44, []), (44, .dup, 45, []), (45, .getfield 32, 48, [10, 2, 4]), (48, .iconst 1, 49, []), (49, .iadd, 50, []), 
  (50, .putfield 32, 53, [10, 2, 4]), (53, .return_, 54, [])])
/-- TapeVault$Volumes.appendPosition()V -/
def mi_57 : MI := (⟨"TapeVault$Volumes", "appendPosition", "()V"⟩, prog_7_method_6_code, 3, (none), [], [
  (0, .aload_n 0, 1, []), (1, .getfield 29, 4, [8, 2, 3]), (4, .aload_n 0, 5, []), (5, .getfield 15, 8, [6, 2, 1]), (8, .arraylength, 9, []), (9, .if_icmp .lt 39, 12, [48]), (12, .aload_n 0, 13, []), 
  (13, .aload_n 0, 14, []), (14, .getfield 9, 17, [5, 2, 0]), (17, .iconst 2, 18, []), (18, .aload_n 0, 19, []), (19, .getfield 9, 22, [5, 2, 0]), (22, .arraylength, 23, []), (23, .imul, 24, []), 
  (24, .invokestatic 45, 27, [0, 2, 58, 585, 586, 56, 587]), (27, .putfield 9, 30, [5, 2, 0]), (30, .aload_n 0, 31, []), (31, .aload_n 0, 32, []), (32, .getfield 15, 35, [6, 2, 1]), (35, .iconst 2, 36, []), 
  (36, .aload_n 0, 37, []), (37, .getfield 15, 40, [6, 2, 1]), (40, .arraylength, 41, []), (41, .imul, 42, []), (42, .invokestatic 51, 45, [0, 2, 59, 601, 602, 56, 603]), (45, .putfield 15, 48, [6, 2, 1]), 
  (48, .aload_n 0, 49, []), (49, .getfield 29, 52, [8, 2, 3]), (52, .bipush 8, 54, []), (54, .imul, 55, []), (55, .istore_n 1, 56, []), (56, .iload_n 1, 57, []), (57, .istore_n 2, 58, []), (58, .iload_n 2, 59, []), 
  (59, .iload_n 1, 60, []), (60, .bipush 8, 62, []), (62, .iadd, 63, []), (63, .if_icmp .ge 16, 66, [79]), (66, .aload_n 0, 67, []), (67, .getfield 9, 70, [5, 2, 0]), (70, .iload_n 2, 71, []), (71, .lconst 0, 72, []), 
  (72, .lastore, 73, []), (73, .iinc 2 1, 76, []), (76, .goto (-18), 79, [58]), (79, .aload_n 0, 80, []), (80, .getfield 15, 83, [6, 2, 1]), (83, .aload_n 0, 84, []), (84, .getfield 29, 87, [8, 2, 3]), 
  (87, .iconst 0, 88, []), (88, .bastore, 89, []), (89, .aload_n 0, 90, []), (90, .dup, 91, []), (91, .getfield 29, 94, [8, 2, 3]), (94, .iconst 1, 95, []), (95, .iadd, 96, []), (96, .putfield 29, 99, [8, 2, 3]), 
  (99, .return_, 100, [])])
/-- java/util/Arrays.copyOf([JI)[J -/
def mi_58 : MI := (⟨"java/util/Arrays", "copyOf", "([JI)[J"⟩, prog_21_method_124_code, 3, (some (FieldType.array FieldType.long)), [], [
  (0, .iload_n 1, 1, []), (1, .aload_n 0, 2, []), (2, .arraylength, 3, []), (3, .if_icmp .ne 11, 6, [14]), (14, .iload_n 1, 15, []), (15, .newarray .long, 17, []), (17, .astore_n 2, 18, []), (18, .aload_n 0, 19, []), 
  (19, .iconst 0, 20, []), (20, .aload_n 2, 21, []), (21, .iconst 0, 22, []), (22, .aload_n 0, 23, []), (23, .arraylength, 24, []), (24, .iload_n 1, 25, []), (25, .invokestatic 304, 28, [12, 595, 596, 46, 597]), 
  (28, .invokestatic 150, 31, [7, 598]), (31, .aload_n 2, 32, []), (32, .areturn, 33, [])])
/-- java/util/Arrays.copyOf([BI)[B -/
def mi_59 : MI := (⟨"java/util/Arrays", "copyOf", "([BI)[B"⟩, prog_21_method_121_code, 3, (some (FieldType.array FieldType.byte)), [], [
  (0, .iload_n 1, 1, []), (1, .aload_n 0, 2, []), (2, .arraylength, 3, []), (3, .if_icmp .ne 11, 6, [14]), (14, .iload_n 1, 15, []), (15, .newarray .byte, 17, []), (17, .astore_n 2, 18, []), (18, .aload_n 0, 19, []), 
  (19, .iconst 0, 20, []), (20, .aload_n 2, 21, []), (21, .iconst 0, 22, []), (22, .aload_n 0, 23, []), (23, .arraylength, 24, []), (24, .iload_n 1, 25, []), (25, .invokestatic 304, 28, [12, 595, 596, 46, 597]), 
  (28, .invokestatic 150, 31, [7, 598]), (31, .aload_n 2, 32, []), (32, .areturn, 33, [])])
/-- TapeVault$Volumes.store(III)V -/
def mi_60 : MI := (⟨"TapeVault$Volumes", "store", "(III)V"⟩, prog_7_method_7_code, 7, (none), [], [
  (0, .iconst 0, 1, []), (1, .istore 4, 3, []), (3, .iload 4, 5, []), (5, .iload_n 2, 6, []), (6, .if_icmp .ge 87, 9, [93]), (9, .iload_n 3, 10, []), (10, .bipush 8, 12, []), (12, .iload_n 2, 13, []), 
  (13, .iconst 1, 14, []), (14, .isub, 15, []), (15, .iload 4, 17, []), (17, .isub, 18, []), (18, .imul, 19, []), (19, .iushr, 20, []), (20, .sipush 255, 23, []), (23, .iand, 24, []), (24, .istore 5, 26, []), 
  (26, .aload_n 0, 27, []), (27, .getfield 29, 30, [8, 2, 3]), (30, .iconst 1, 31, []), (31, .isub, 32, []), (32, .bipush 8, 34, []), (34, .imul, 35, []), (35, .iload_n 1, 36, []), (36, .iload 4, 38, []), 
  (38, .iadd, 39, []), (39, .bipush 8, 41, []), (41, .idiv, 42, []), (42, .iadd, 43, []), (43, .istore 6, 45, []), (45, .iload 6, 47, []), (47, .ifCond .lt 40, 50, [87]), (50, .iload 6, 52, []), (52, .aload_n 0, 53, []), 
  (53, .getfield 9, 56, [5, 2, 0]), (56, .arraylength, 57, []), (57, .if_icmp .ge 30, 60, [87]), (60, .aload_n 0, 61, []), (61, .getfield 9, 64, [5, 2, 0]), (64, .iload 6, 66, []), (66, .dup2, 67, []), 
  (67, .laload, 68, []), (68, .iload 5, 70, []), (70, .i2l, 71, []), (71, .bipush 56, 73, []), (73, .bipush 8, 75, []), (75, .iload_n 1, 76, []), (76, .iload 4, 78, []), (78, .iadd, 79, []), (79, .bipush 8, 81, []), 
  (81, .irem, 82, []), (82, .imul, 83, []), (83, .isub, 84, []), (84, .lshl, 85, []), (85, .lor, 86, []), (86, .lastore, 87, []), (87, .iinc 4 1, 90, []), (90, .goto (-87), 93, [3]), (93, .return_, 94, [])])
/-- TapeVault$Writer.writeMap()V -/
def mi_61 : MI := (⟨"TapeVault$Writer", "writeMap", "()V"⟩, prog_8_method_4_code, 2, (none), [], [
  (0, .aload_n 0, 1, []), (1, .getfield 15, 4, [13, 3, 1]), (4, .invokevirtual 51, 7, [2, 0, 56, 2, 577, 578, 579, 42, 580]), (7, .aload_n 0, 8, []), (8, .getfield 15, 11, [13, 3, 1]), (11, .iconst 0, 12, []), 
  (12, .iconst 1, 13, []), (13, .bipush 77, 15, []), (15, .invokevirtual 56, 18, [2, 3, 60, 2, 613, 610, 611, 42, 612]), (18, .iconst 0, 19, []), (19, .istore_n 1, 20, []), (20, .iload_n 1, 21, []), 
  (21, .sipush 256, 24, []), (24, .if_icmp .ge 43, 27, [67]), (27, .aload_n 0, 28, []), (28, .getfield 9, 31, [12, 3, 0]), (31, .iload_n 1, 32, []), (32, .invokevirtual 77, 35, [2, 1, 17, 1, 618, 341, 342, 41, 343]), 
  (35, .ifnull 26, 38, [61]), (38, .aload_n 0, 39, []), (39, .getfield 15, 42, [13, 3, 1]), (42, .iconst 1, 43, []), (43, .iload_n 1, 44, []), (44, .bipush 8, 46, []), (46, .idiv, 47, []), (47, .iadd, 48, []), 
  (48, .iconst 1, 49, []), (49, .iconst 1, 50, []), (50, .bipush 7, 52, []), (52, .iload_n 1, 53, []), (53, .bipush 8, 55, []), (55, .irem, 56, []), (56, .isub, 57, []), (57, .ishl, 58, []), 
  (58, .invokevirtual 56, 61, [2, 3, 60, 2, 613, 610, 611, 42, 612]), (61, .iinc 1 1, 64, []), (64, .goto (-44), 67, [20]), (67, .return_, 68, [])])
/-- TapeVault$Writer.writeIndex(LTapeVault$Dump;)V -/
def mi_62 : MI := (⟨"TapeVault$Writer", "writeIndex", "(LTapeVault$Dump;)V"⟩, prog_8_method_5_code, 6, (none), [], [
  (0, .iconst 0, 1, []), (1, .istore_n 2, 2, []), (2, .iconst 0, 3, []), (3, .istore_n 3, 4, []), (4, .iload_n 3, 5, []), (5, .sipush 256, 8, []), (8, .if_icmp .ge 114, 11, [122]), (11, .aload_n 0, 12, []), 
  (12, .getfield 9, 15, [12, 3, 0]), (15, .iload_n 3, 16, []), (16, .aload_n 1, 17, []), (17, .invokevirtual 29, 20, [2, 0, 46, 6, 623, 537, 538, 55, 539]), 
  (20, .invokevirtual 35, 23, [2, 2, 48, 1, 624, 545, 546, 41, 547]), (23, .astore 4, 25, []), (25, .aload 4, 27, []), (27, .ifnull 89, 30, [116]), (30, .iload_n 2, 31, []), (31, .bipush 31, 33, []), (33, .irem, 34, []), 
  (34, .ifCond .ne 41, 37, [75]), (37, .aload_n 0, 38, []), (38, .getfield 15, 41, [13, 3, 1]), (41, .invokevirtual 51, 44, [2, 0, 56, 2, 577, 578, 579, 42, 580]), (44, .aload_n 0, 45, []), 
  (45, .getfield 15, 48, [13, 3, 1]), (48, .iconst 0, 49, []), (49, .iconst 1, 50, []), (50, .bipush 73, 52, []), (52, .invokevirtual 56, 55, [2, 3, 60, 2, 613, 610, 611, 42, 612]), (55, .aload_n 0, 56, []), 
  (56, .getfield 15, 59, [13, 3, 1]), (59, .iconst 1, 60, []), (60, .iconst 1, 61, []), (61, .bipush 31, 63, []), (63, .aload_n 1, 64, []), (64, .getfield 74, 67, [66, 6, 5]), (67, .iload_n 2, 68, []), (68, .isub, 69, []), 
  (69, .invokestatic 81, 72, [12, 625, 596, 46, 597]), (72, .invokevirtual 56, 75, [2, 3, 60, 2, 613, 610, 611, 42, 612]), (75, .iconst 2, 76, []), (76, .iconst 2, 77, []), (77, .iload_n 2, 78, []), 
  (78, .bipush 31, 80, []), (80, .irem, 81, []), (81, .imul, 82, []), (82, .iadd, 83, []), (83, .istore 5, 85, []), (85, .aload_n 0, 86, []), (86, .getfield 15, 89, [13, 3, 1]), (89, .iload 5, 91, []), 
  (91, .iconst 1, 92, []), (92, .iload_n 3, 93, []), (93, .invokevirtual 56, 96, [2, 3, 60, 2, 613, 610, 611, 42, 612]), (96, .aload_n 0, 97, []), (97, .getfield 15, 100, [13, 3, 1]), (100, .iload 5, 102, []), 
  (102, .iconst 1, 103, []), (103, .iadd, 104, []), (104, .iconst 1, 105, []), (105, .aload 4, 107, []), (107, .invokevirtual 87, 110, [2, 0, 52, 5, 626, 560, 561, 45, 562]), 
  (110, .invokevirtual 56, 113, [2, 3, 60, 2, 613, 610, 611, 42, 612]), (113, .iinc 2 1, 116, []), (116, .iinc 3 1, 119, []), (119, .goto (-115), 122, [4]), (122, .return_, 123, [])])
/-- TapeVault$Writer.writeFacts(LTapeVault$Node;)V -/
def mi_63 : MI := (⟨"TapeVault$Writer", "writeFacts", "(LTapeVault$Node;)V"⟩, prog_8_method_6_code, 2, (none), [], [
  (0, .aload_n 0, 1, []), (1, .getfield 15, 4, [13, 3, 1]), (4, .invokevirtual 51, 7, [2, 0, 56, 2, 577, 578, 579, 42, 580]), (7, .aload_n 0, 8, []), (8, .getfield 15, 11, [13, 3, 1]), (11, .iconst 0, 12, []), 
  (12, .iconst 1, 13, []), (13, .bipush 78, 15, []), (15, .invokevirtual 56, 18, [2, 3, 60, 2, 613, 610, 611, 42, 612]), (18, .aload_n 0, 19, []), (19, .getfield 15, 22, [13, 3, 1]), (22, .iconst 1, 23, []), 
  (23, .iconst 1, 24, []), (24, .aload_n 1, 25, []), (25, .getfield 92, 28, [26, 5, 0]), (28, .invokevirtual 56, 31, [2, 3, 60, 2, 613, 610, 611, 42, 612]), (31, .aload_n 0, 32, []), (32, .getfield 15, 35, [13, 3, 1]), 
  (35, .iconst 2, 36, []), (36, .iconst 1, 37, []), (37, .aload_n 1, 38, []), (38, .getfield 93, 41, [30, 5, 1]), (41, .invokevirtual 56, 44, [2, 3, 60, 2, 613, 610, 611, 42, 612]), (44, .aload_n 0, 45, []), 
  (45, .getfield 15, 48, [13, 3, 1]), (48, .iconst 3, 49, []), (49, .iconst 2, 50, []), (50, .aload_n 1, 51, []), (51, .getfield 96, 54, [35, 5, 3]), (54, .invokevirtual 56, 57, [2, 3, 60, 2, 613, 610, 611, 42, 612]), 
  (57, .aload_n 0, 58, []), (58, .getfield 15, 61, [13, 3, 1]), (61, .iconst 5, 62, []), (62, .iconst 1, 63, []), (63, .aload_n 1, 64, []), (64, .invokevirtual 99, 67, [2, 0, 64, 5, 631, 632, 633, 45, 634]), 
  (67, .invokevirtual 56, 70, [2, 3, 60, 2, 613, 610, 611, 42, 612]), (70, .aload_n 0, 71, []), (71, .getfield 15, 74, [13, 3, 1]), (74, .bipush 6, 76, []), (76, .iconst 2, 77, []), (77, .aload_n 1, 78, []), 
  (78, .getfield 102, 81, [38, 5, 4]), (81, .invokevirtual 56, 84, [2, 3, 60, 2, 613, 610, 611, 42, 612]), (84, .aload_n 0, 85, []), (85, .getfield 15, 88, [13, 3, 1]), (88, .bipush 8, 90, []), (90, .iconst 4, 91, []), 
  (91, .aload_n 1, 92, []), (92, .getfield 105, 95, [41, 5, 5]), (95, .invokevirtual 56, 98, [2, 3, 60, 2, 613, 610, 611, 42, 612]), (98, .return_, 99, [])])
/-- TapeVault$Node.parentNumber()I -/
def mi_64 : MI := (⟨"TapeVault$Node", "parentNumber", "()I"⟩, prog_3_method_3_code, 1, (some FieldType.int), [], [
  (0, .aload_n 0, 1, []), (1, .getfield 18, 4, [32, 5, 2]), (4, .ifnonnull 7, 7, [11]), (7, .iconst 0, 8, []), (8, .goto 10, 11, [18]), (11, .aload_n 0, 12, []), (12, .getfield 18, 15, [32, 5, 2]), 
  (15, .getfield 9, 18, [25, 5, 0]), (18, .ireturn, 19, [])])
/-- TapeVault$Writer.writeOctets(LTapeVault$Node;)V -/
def mi_65 : MI := (⟨"TapeVault$Writer", "writeOctets", "(LTapeVault$Node;)V"⟩, prog_8_method_7_code, 3, (none), [], [
  (0, .aload_n 1, 1, []), (1, .getfield 93, 4, [30, 5, 1]), (4, .iconst 1, 5, []), (5, .if_icmp .eq 4, 8, [9]), (8, .return_, 9, []), (9, .iconst 0, 10, []), (10, .istore_n 2, 11, []), (11, .iload_n 2, 12, []), 
  (12, .aload_n 1, 13, []), (13, .getfield 102, 16, [38, 5, 4]), (16, .if_icmp .ge 40, 19, [56]), (19, .iload_n 2, 20, []), (20, .bipush 64, 22, []), (22, .irem, 23, []), (23, .ifCond .ne 10, 26, [33]), 
  (26, .aload_n 0, 27, []), (27, .getfield 15, 30, [13, 3, 1]), (30, .invokevirtual 51, 33, [2, 0, 56, 2, 577, 578, 579, 42, 580]), (33, .aload_n 0, 34, []), (34, .getfield 15, 37, [13, 3, 1]), (37, .iload_n 2, 38, []), 
  (38, .bipush 64, 40, []), (40, .irem, 41, []), (41, .iconst 1, 42, []), (42, .aload_n 1, 43, []), (43, .iload_n 2, 44, []), (44, .invokevirtual 108, 47, [2, 1, 66, 5, 639, 640, 641, 45, 642]), 
  (47, .invokevirtual 56, 50, [2, 3, 60, 2, 613, 610, 611, 42, 612]), (50, .iinc 2 1, 53, []), (53, .goto (-42), 56, [11]), (56, .return_, 57, [])])
/-- TapeVault$Node.octetAt(I)I -/
def mi_66 : MI := (⟨"TapeVault$Node", "octetAt", "(I)I"⟩, prog_3_method_6_code, 2, (some FieldType.int), [], [
  (0, .aload_n 0, 1, []), (1, .getfield 31, 4, [43, 5, 6]), (4, .ifnull 16, 7, [20]), (7, .iload_n 1, 8, []), (8, .ifCond .lt 12, 11, [20]), (11, .iload_n 1, 12, []), (12, .aload_n 0, 13, []), 
  (13, .getfield 31, 16, [43, 5, 6]), (16, .arraylength, 17, []), (17, .if_icmp .lt 7, 20, [24]), (20, .iconst 0, 21, []), (21, .goto 13, 24, [34]), (24, .aload_n 0, 25, []), (25, .getfield 31, 28, [43, 5, 6]), 
  (28, .iload_n 1, 29, []), (29, .baload, 30, []), (30, .sipush 255, 33, []), (33, .iand, 34, []), (34, .ireturn, 35, [])])
/-- TapeVault$Writer.writeEntries(LTapeVault$Node;)V -/
def mi_67 : MI := (⟨"TapeVault$Writer", "writeEntries", "(LTapeVault$Node;)V"⟩, prog_8_method_8_code, 4, (none), [], [
  (0, .bipush 21, 2, []), (2, .istore_n 2, 3, []), (3, .aload_n 1, 4, []), (4, .getfield 112, 7, [45, 5, 7]), (7, .astore_n 3, 8, []), (8, .aload_n 3, 9, []), (9, .ifnull 61, 12, [70]), (12, .iload_n 2, 13, []), 
  (13, .bipush 21, 15, []), (15, .if_icmp .ne 12, 18, [27]), (18, .aload_n 0, 19, []), (19, .getfield 15, 22, [13, 3, 1]), (22, .invokevirtual 51, 25, [2, 0, 56, 2, 577, 578, 579, 42, 580]), (25, .iconst 0, 26, []), 
  (26, .istore_n 2, 27, []), (27, .aload_n 0, 28, []), (28, .getfield 15, 31, [13, 3, 1]), (31, .iconst 3, 32, []), (32, .iload_n 2, 33, []), (33, .imul, 34, []), (34, .iconst 2, 35, []), (35, .aload_n 3, 36, []), 
  (36, .getfield 96, 39, [35, 5, 3]), (39, .invokevirtual 56, 42, [2, 3, 60, 2, 613, 610, 611, 42, 612]), (42, .aload_n 0, 43, []), (43, .getfield 15, 46, [13, 3, 1]), (46, .iconst 3, 47, []), (47, .iload_n 2, 48, []), 
  (48, .imul, 49, []), (49, .iconst 2, 50, []), (50, .iadd, 51, []), (51, .iconst 1, 52, []), (52, .aload_n 3, 53, []), (53, .getfield 92, 56, [26, 5, 0]), (56, .invokevirtual 56, 59, [2, 3, 60, 2, 613, 610, 611, 42, 612]), 
  (59, .iinc 2 1, 62, []), (62, .aload_n 3, 63, []), (63, .getfield 116, 66, [47, 5, 8]), (66, .astore_n 3, 67, []), (67, .goto (-59), 70, [8]), (70, .return_, 71, [])])
/-- TapeVaultLaw.spoil(LTapeVault;II)I -/
def mi_68 : MI := (⟨"TapeVaultLaw", "spoil", "(LTapeVault;II)I"⟩, method_10_code, 4, (some FieldType.int), [(0, 6, 9, 21)], [
  (0, .aload_n 0, 1, []), (1, .iload_n 1, 2, []), (2, .iload_n 2, 3, []), (3, .invokevirtual 44, 6, [9, 2, 69, 0, 650, 651, 652, 39, 653]), (6, .goto 6, 9, [12]), (9, .astore_n 3, 10, []), (10, .iconst 1, 11, []), 
  (11, .ireturn, 12, []), (12, .iconst 0, 13, []), (13, .ireturn, 14, [])])
/-- TapeVault.spoil(II)V -/
def mi_69 : MI := (⟨"TapeVault", "spoil", "(II)V"⟩, prog_1_method_9_code, 4, (none), [], [
  (0, .aload_n 0, 1, []), (1, .getfield 19, 4, [49, 0, 1]), (4, .iload_n 1, 5, []), (5, .iload_n 2, 6, []), (6, .invokevirtual 169, 9, [2, 2, 70, 2, 654, 655, 656, 42, 657]), (9, .istore_n 3, 10, []), 
  (10, .iload_n 3, 11, []), (11, .iconst (-1), 12, []), (12, .if_icmp .ne 11, 15, [23]), (15, .new 74, 18, [50, 2, 76, 373]), (23, .aload_n 0, 24, []), (24, .getfield 19, 27, [49, 0, 1]), (27, .iload_n 3, 28, []), 
  (28, .invokevirtual 173, 31, [2, 1, 71, 2, 658, 659, 660, 42, 661]), (31, .return_, 32, [])])
/-- TapeVault$Volumes.positionOf(II)I -/
def mi_70 : MI := (⟨"TapeVault$Volumes", "positionOf", "(II)I"⟩, prog_7_method_14_code, 4, (some FieldType.int), [], [
  (0, .iload_n 1, 1, []), (1, .ifCond .lt 22, 4, [23]), (4, .iload_n 1, 5, []), (5, .sipush 4000, 8, []), (8, .if_icmp .ge 15, 11, [23]), (11, .iload_n 2, 12, []), (12, .ifCond .lt 11, 15, [23]), (15, .iload_n 2, 16, []), 
  (16, .aload_n 0, 17, []), (17, .getfield 19, 20, [7, 2, 2]), (20, .if_icmp .lt 5, 23, [25]), (23, .iconst (-1), 24, []), (24, .ireturn, 25, []), (25, .iload_n 1, 26, []), (26, .aload_n 0, 27, []), 
  (27, .getfield 19, 30, [7, 2, 2]), (30, .imul, 31, []), (31, .iload_n 2, 32, []), (32, .iadd, 33, []), (33, .istore_n 3, 34, []), (34, .iload_n 3, 35, []), (35, .aload_n 0, 36, []), (36, .getfield 29, 39, [8, 2, 3]), 
  (39, .if_icmp .ge 7, 42, [46]), (42, .iload_n 3, 43, []), (43, .goto 4, 46, [47]), (46, .iconst (-1), 47, []), (47, .ireturn, 48, [])])
/-- TapeVault$Volumes.spoilAt(I)V -/
def mi_71 : MI := (⟨"TapeVault$Volumes", "spoilAt", "(I)V"⟩, prog_7_method_10_code, 2, (none), [], [
  (0, .iload_n 1, 1, []), (1, .ifCond .lt 19, 4, [20]), (4, .iload_n 1, 5, []), (5, .aload_n 0, 6, []), (6, .getfield 15, 9, [6, 2, 1]), (9, .arraylength, 10, []), (10, .if_icmp .ge 10, 13, [20]), (13, .aload_n 0, 14, []), 
  (14, .getfield 15, 17, [6, 2, 1]), (17, .iload_n 1, 18, []), (18, .iconst 1, 19, []), (19, .bastore, 20, []), (20, .return_, 21, [])])
/-- TapeVaultLaw.tape(LTapeVault;III[J)I -/
def mi_72 : MI := (⟨"TapeVaultLaw", "tape", "(LTapeVault;III[J)I"⟩, method_11_code, 6, (some FieldType.int), [(0, 11, 14, 13), (0, 11, 18, 21), (0, 11, 22, 19)], [
  (0, .aload 4, 2, []), (2, .iconst 0, 3, []), (3, .aload_n 0, 4, []), (4, .iload_n 1, 5, []), (5, .iload_n 2, 6, []), (6, .iload_n 3, 7, []), (7, .invokevirtual 47, 10, [9, 3, 73, 0, 665, 666, 667, 39, 668]), 
  (10, .lastore, 11, []), (11, .goto 15, 14, [26]), (14, .astore 5, 16, []), (16, .iconst 1, 17, []), (17, .ireturn, 18, []), (18, .astore 5, 20, []), (20, .iconst 2, 21, []), (21, .ireturn, 22, []), 
  (22, .astore 5, 24, []), (24, .iconst 3, 25, []), (25, .ireturn, 26, []), (26, .iconst 0, 27, []), (27, .ireturn, 28, [])])
/-- TapeVault.tape(III)J -/
def mi_73 : MI := (⟨"TapeVault", "tape", "(III)J"⟩, prog_1_method_10_code, 5, (some FieldType.long), [], [
  (0, .iload_n 3, 1, []), (1, .ifCond .lt 9, 4, [10]), (4, .iload_n 3, 5, []), (5, .bipush 8, 7, []), (7, .if_icmp .lt 11, 10, [18]), (10, .new 51, 13, [50, 0, 53, 263]), (18, .aload_n 0, 19, []), 
  (19, .getfield 19, 22, [49, 0, 1]), (22, .iload_n 1, 23, []), (23, .iload_n 2, 24, []), (24, .invokevirtual 169, 27, [2, 2, 70, 2, 654, 655, 656, 42, 657]), (27, .istore 4, 29, []), (29, .iload 4, 31, []), 
  (31, .iconst (-1), 32, []), (32, .if_icmp .ne 11, 35, [43]), (35, .new 74, 38, [50, 2, 76, 373]), (43, .aload_n 0, 44, []), (44, .getfield 19, 47, [49, 0, 1]), (47, .iload 4, 49, []), 
  (49, .invokevirtual 176, 52, [2, 1, 74, 2, 669, 670, 671, 42, 672]), (52, .ifCond .eq 11, 55, [63]), (55, .new 67, 58, [50, 1, 69, 354]), (63, .aload_n 0, 64, []), (64, .getfield 19, 67, [49, 0, 1]), 
  (67, .iload 4, 69, []), (69, .iload_n 3, 70, []), (70, .invokevirtual 179, 73, [2, 2, 75, 2, 673, 674, 675, 42, 676]), (73, .lreturn, 74, [])])
/-- TapeVault$Volumes.isSpoiledAt(I)Z -/
def mi_74 : MI := (⟨"TapeVault$Volumes", "isSpoiledAt", "(I)Z"⟩, prog_7_method_11_code, 2, (some FieldType.boolean), [], [
  (0, .iload_n 1, 1, []), (1, .ifCond .lt 25, 4, [26]), (4, .iload_n 1, 5, []), (5, .aload_n 0, 6, []), (6, .getfield 15, 9, [6, 2, 1]), (9, .arraylength, 10, []), (10, .if_icmp .ge 16, 13, [26]), (13, .aload_n 0, 14, []), 
  (14, .getfield 15, 17, [6, 2, 1]), (17, .iload_n 1, 18, []), (18, .baload, 19, []), (19, .ifCond .eq 7, 22, [26]), (22, .iconst 1, 23, []), (23, .goto 4, 26, [27]), (26, .iconst 0, 27, []), (27, .ireturn, 28, [])])
/-- TapeVault$Volumes.wordAt(II)J -/
def mi_75 : MI := (⟨"TapeVault$Volumes", "wordAt", "(II)J"⟩, prog_7_method_9_code, 4, (some FieldType.long), [], [
  (0, .iload_n 1, 1, []), (1, .bipush 8, 3, []), (3, .imul, 4, []), (4, .iload_n 2, 5, []), (5, .iadd, 6, []), (6, .istore_n 3, 7, []), (7, .iload_n 3, 8, []), (8, .ifCond .lt 12, 11, [20]), (11, .iload_n 3, 12, []), 
  (12, .aload_n 0, 13, []), (13, .getfield 9, 16, [5, 2, 0]), (16, .arraylength, 17, []), (17, .if_icmp .lt 7, 20, [24]), (20, .lconst 0, 21, []), (21, .goto 9, 24, [30]), (24, .aload_n 0, 25, []), 
  (25, .getfield 9, 28, [5, 2, 0]), (28, .iload_n 3, 29, []), (29, .laload, 30, []), (30, .lreturn, 31, [])])
/-- TapeVaultLaw.restore(LTapeVault;I[J)I -/
def mi_76 : MI := (⟨"TapeVaultLaw", "restore", "(LTapeVault;I[J)I"⟩, method_12_code, 4, (some FieldType.int), [(0, 9, 12, 21)], [
  (0, .aload_n 2, 1, []), (1, .iconst 0, 2, []), (2, .aload_n 0, 3, []), (3, .iload_n 1, 4, []), (4, .invokevirtual 51, 7, [9, 1, 77, 0, 680, 681, 682, 39, 683]), (7, .i2l, 8, []), (8, .lastore, 9, []), 
  (9, .goto 6, 12, [15]), (12, .astore_n 3, 13, []), (13, .iconst 1, 14, []), (14, .ireturn, 15, []), (15, .iconst 0, 16, []), (16, .ireturn, 17, [])])
/-- TapeVault.restore(I)I -/
def mi_77 : MI := (⟨"TapeVault", "restore", "(I)I"⟩, prog_1_method_11_code, 3, (some FieldType.int), [], [
  (0, .iload_n 1, 1, []), (1, .ifCond .lt 11, 4, [12]), (4, .iload_n 1, 5, []), (5, .aload_n 0, 6, []), (6, .getfield 121, 9, [53, 0, 5]), (9, .if_icmp .lt 7, 12, [16]), (12, .aconst_null, 13, []), (13, .goto 9, 16, [22]), 
  (16, .aload_n 0, 17, []), (17, .getfield 43, 20, [52, 0, 4]), (20, .iload_n 1, 21, []), (21, .aaload, 22, []), (22, .astore_n 2, 23, []), (23, .aload_n 2, 24, []), (24, .ifnonnull 11, 27, [35]), 
  (27, .new 74, 30, [50, 2, 76, 373]), (35, .aload_n 0, 36, []), (36, .getfield 37, 39, [51, 0, 3]), (39, .aload_n 2, 40, []), (40, .invokevirtual 183, 43, [2, 1, 78, 4, 684, 685, 686, 44, 687]), (43, .ireturn, 44, [])])
/-- TapeVault$Restored.bringBack(LTapeVault$Dump;)I -/
def mi_78 : MI := (⟨"TapeVault$Restored", "bringBack", "(LTapeVault$Dump;)I"⟩, prog_4_method_4_code, 4, (some FieldType.int), [], [
  (0, .aload_n 0, 1, []), (1, .invokevirtual 44, 4, [2, 0, 10, 4, 688, 229, 230, 44, 231]), (4, .aload_n 0, 5, []), (5, .aload_n 1, 6, []), (6, .getfield 47, 9, [65, 6, 4]), (9, .putfield 30, 12, [19, 4, 5]), 
  (12, .iconst 0, 13, []), (13, .istore_n 2, 14, []), (14, .iload_n 2, 15, []), (15, .aload_n 0, 16, []), (16, .getfield 30, 19, [19, 4, 5]), (19, .if_icmp .ge 23, 22, [42]), (22, .aload_n 0, 23, []), 
  (23, .aload_n 1, 24, []), (24, .iload_n 2, 25, []), (25, .invokevirtual 50, 28, [2, 1, 79, 6, 689, 690, 691, 55, 692]), (28, .invokevirtual 54, 31, [2, 1, 80, 4, 693, 695, 12, 44, 696]), (31, .ifCond .ne 5, 34, [36]), 
  (34, .iconst 2, 35, []), (35, .ireturn, 36, []), (36, .iinc 2 1, 39, []), (39, .goto (-25), 42, [14]), (42, .aload_n 0, 43, []), (43, .getfield 30, 46, [19, 4, 5]), (46, .iconst 1, 47, []), (47, .isub, 48, []), 
  (48, .istore_n 2, 49, []), (49, .iload_n 2, 50, []), (50, .ifCond .lt 39, 53, [89]), (53, .aload_n 1, 54, []), (54, .iload_n 2, 55, []), (55, .invokevirtual 50, 58, [2, 1, 79, 6, 689, 690, 691, 55, 692]), 
  (58, .astore_n 3, 59, []), (59, .aload_n 0, 60, []), (60, .aload_n 3, 61, []), (61, .invokevirtual 58, 64, [2, 1, 83, 4, 707, 709, 14, 44, 710]), (64, .aload_n 0, 65, []), (65, .aload_n 3, 66, []), 
  (66, .invokevirtual 62, 69, [2, 1, 86, 4, 721, 723, 15, 44, 724]), (69, .aload_n 0, 70, []), (70, .dup, 71, []), (71, .getfield 37, 74, [23, 4, 7]), (74, .aload_n 0, 75, []), (75, .aload_n 3, 76, []), 
  (76, .invokevirtual 65, 79, [2, 1, 89, 4, 734, 736, 17, 44, 737]), (79, .iadd, 80, []), (80, .putfield 37, 83, [23, 4, 7]), (83, .iinc 2 (-1), 86, []), (86, .goto (-37), 89, [49]), (89, .aload_n 0, 90, []), 
  (90, .iconst 1, 91, []), (91, .putfield 26, 94, [18, 4, 4]), (94, .aload_n 0, 95, []), (95, .aload_n 0, 96, []), (96, .invokevirtual 69, 99, [2, 0, 90, 4, 738, 740, 18, 44, 741]), (99, .putfield 34, 102, [21, 4, 6]), 
  (102, .aload_n 0, 103, []), (103, .getfield 34, 106, [21, 4, 6]), (106, .ifCond .ne 7, 109, [113]), (109, .iconst 0, 110, []), (110, .goto 4, 113, [114]), (113, .iconst 1, 114, []), (114, .ireturn, 115, [])])
/-- TapeVault$Dump.chained(I)LTapeVault$Dump; -/
def mi_79 : MI := (⟨"TapeVault$Dump", "chained", "(I)LTapeVault$Dump;"⟩, prog_2_method_6_code, 4, (some (FieldType.object "TapeVault$Dump")), [], [
  (0, .aload_n 0, 1, []), (1, .astore_n 2, 2, []), (2, .iconst 0, 3, []), (3, .istore_n 3, 4, []), (4, .iload_n 3, 5, []), (5, .iload_n 1, 6, []), (6, .if_icmp .ge 21, 9, [27]), (9, .aload_n 2, 10, []), 
  (10, .getfield 21, 13, [62, 6, 3]), (13, .ifnull 14, 16, [27]), (16, .aload_n 2, 17, []), (17, .getfield 21, 20, [62, 6, 3]), (20, .astore_n 2, 21, []), (21, .iinc 3 1, 24, []), (24, .goto (-20), 27, [4]), 
  (27, .aload_n 2, 28, []), (28, .areturn, 29, [])])
/-- TapeVault$Restored.isReadable(LTapeVault$Dump;)Z -/
def mi_80 : MI := (⟨"TapeVault$Restored", "isReadable", "(LTapeVault$Dump;)Z"⟩, prog_4_method_5_code, 3, (some FieldType.boolean), [], [
  (0, .iconst 0, 1, []), (1, .istore_n 2, 2, []), (2, .iload_n 2, 3, []), (3, .aload_n 1, 4, []), (4, .invokevirtual 73, 7, [2, 0, 49, 6, 697, 549, 550, 55, 551]), (7, .if_icmp .ge 27, 10, [34]), (10, .aload_n 0, 11, []), 
  (11, .getfield 22, 14, [14, 4, 0]), (14, .aload_n 1, 15, []), (15, .getfield 76, 18, [71, 6, 6]), (18, .iload_n 2, 19, []), (19, .iadd, 20, []), (20, .invokevirtual 79, 23, [2, 1, 81, 2, 698, 699, 700, 42, 701]), 
  (23, .ifCond .eq 5, 26, [28]), (26, .iconst 0, 27, []), (27, .ireturn, 28, []), (28, .iinc 2 1, 31, []), (31, .goto (-29), 34, [2]), (34, .iconst 1, 35, []), (35, .ireturn, 36, [])])
/-- TapeVault$Volumes.isSpoiled(I)Z -/
def mi_81 : MI := (⟨"TapeVault$Volumes", "isSpoiled", "(I)Z"⟩, prog_7_method_12_code, 2, (some FieldType.boolean), [], [
  (0, .aload_n 0, 1, []), (1, .aload_n 0, 2, []), (2, .iload_n 1, 3, []), (3, .invokevirtual 54, 6, [2, 1, 82, 2, 702, 704, 13, 42, 705]), (6, .invokevirtual 64, 9, [2, 1, 74, 2, 706, 670, 671, 42, 672]), 
  (9, .ireturn, 10, [])])
/-- TapeVault$Volumes.positionOfBlock(I)I -/
def mi_82 : MI := (⟨"TapeVault$Volumes", "positionOfBlock", "(I)I"⟩, prog_7_method_13_code, 3, (some FieldType.int), [], [
  (0, .aload_n 0, 1, []), (1, .getfield 19, 4, [7, 2, 2]), (4, .iconst 1, 5, []), (5, .isub, 6, []), (6, .istore_n 2, 7, []), (7, .iload_n 1, 8, []), (8, .iload_n 2, 9, []), (9, .idiv, 10, []), (10, .aload_n 0, 11, []), 
  (11, .getfield 19, 14, [7, 2, 2]), (14, .imul, 15, []), (15, .iconst 1, 16, []), (16, .iadd, 17, []), (17, .iload_n 1, 18, []), (18, .iload_n 2, 19, []), (19, .irem, 20, []), (20, .iadd, 21, []), (21, .ireturn, 22, [])])
/-- TapeVault$Restored.dropUnmapped(LTapeVault$Dump;)V -/
def mi_83 : MI := (⟨"TapeVault$Restored", "dropUnmapped", "(LTapeVault$Dump;)V"⟩, prog_4_method_7_code, 4, (none), [], [
  (0, .iconst 0, 1, []), (1, .istore_n 2, 2, []), (2, .iload_n 2, 3, []), (3, .sipush 256, 6, []), (6, .if_icmp .ge 47, 9, [53]), (9, .aload_n 0, 10, []), (10, .getfield 22, 13, [14, 4, 0]), (13, .aload_n 1, 14, []), 
  (14, .invokevirtual 88, 17, [2, 0, 84, 6, 711, 712, 713, 55, 714]), (17, .iconst 1, 18, []), (18, .iload_n 2, 19, []), (19, .bipush 8, 21, []), (21, .idiv, 22, []), (22, .iadd, 23, []), (23, .iconst 1, 24, []), 
  (24, .invokevirtual 91, 27, [2, 3, 85, 2, 715, 716, 717, 42, 718]), (27, .istore_n 3, 28, []), (28, .iload_n 3, 29, []), (29, .bipush 7, 31, []), (31, .iload_n 2, 32, []), (32, .bipush 8, 34, []), (34, .irem, 35, []), 
  (35, .isub, 36, []), (36, .ishr, 37, []), (37, .iconst 1, 38, []), (38, .iand, 39, []), (39, .ifCond .ne 8, 42, [47]), (42, .aload_n 0, 43, []), (43, .iload_n 2, 44, []), 
  (44, .invokevirtual 40, 47, [2, 1, 11, 4, 232, 234, 1, 44, 235]), (47, .iinc 2 1, 50, []), (50, .goto (-48), 53, [2]), (53, .return_, 54, [])])
/-- TapeVault$Dump.mapBlock()I -/
def mi_84 : MI := (⟨"TapeVault$Dump", "mapBlock", "()I"⟩, prog_2_method_3_code, 1, (some FieldType.int), [], [
  (0, .aload_n 0, 1, []), (1, .getfield 28, 4, [70, 6, 6]), (4, .iconst 1, 5, []), (5, .iadd, 6, []), (6, .ireturn, 7, [])])
/-- TapeVault$Volumes.number(III)I -/
def mi_85 : MI := (⟨"TapeVault$Volumes", "number", "(III)I"⟩, prog_7_method_8_code, 9, (some FieldType.int), [], [
  (0, .aload_n 0, 1, []), (1, .iload_n 1, 2, []), (2, .invokevirtual 54, 5, [2, 1, 82, 2, 702, 704, 13, 42, 705]), (5, .istore 4, 7, []), (7, .iconst 0, 8, []), (8, .istore 5, 10, []), (10, .iload_n 2, 11, []), 
  (11, .istore 6, 13, []), (13, .iload 6, 15, []), (15, .iload_n 2, 16, []), (16, .iload_n 3, 17, []), (17, .iadd, 18, []), (18, .if_icmp .ge 49, 21, [67]), (21, .aload_n 0, 22, []), (22, .iload 4, 24, []), 
  (24, .iload 6, 26, []), (26, .bipush 8, 28, []), (28, .idiv, 29, []), (29, .invokevirtual 58, 32, [2, 2, 75, 2, 719, 674, 675, 42, 676]), (32, .bipush 56, 34, []), (34, .bipush 8, 36, []), (36, .iload 6, 38, []), 
  (38, .bipush 8, 40, []), (40, .irem, 41, []), (41, .imul, 42, []), (42, .isub, 43, []), (43, .lushr, 44, []), (44, .lstore 7, 46, []), (46, .iload 5, 48, []), (48, .bipush 8, 50, []), (50, .ishl, 51, []), 
  (51, .lload 7, 53, []), (53, .ldc2_w 62, 56, [0]), (56, .land, 57, []), (57, .l2i, 58, []), (58, .ior, 59, []), (59, .istore 5, 61, []), (61, .iinc 6 1, 64, []), (64, .goto (-51), 67, [13]), (67, .iload 5, 69, []), 
  (69, .ireturn, 70, [])])
/-- TapeVault$Restored.takeChanged(LTapeVault$Dump;)V -/
def mi_86 : MI := (⟨"TapeVault$Restored", "takeChanged", "(LTapeVault$Dump;)V"⟩, prog_4_method_8_code, 7, (none), [], [
  (0, .aload_n 1, 1, []), (1, .getfield 76, 4, [71, 6, 6]), (4, .aload_n 1, 5, []), (5, .invokevirtual 73, 8, [2, 0, 49, 6, 697, 549, 550, 55, 551]), (8, .iadd, 9, []), (9, .istore_n 2, 10, []), (10, .iconst 0, 11, []), 
  (11, .istore_n 3, 12, []), (12, .iload_n 3, 13, []), (13, .aload_n 1, 14, []), (14, .getfield 95, 17, [68, 6, 5]), (17, .if_icmp .ge 70, 20, [87]), (20, .aload_n 1, 21, []), 
  (21, .invokevirtual 98, 24, [2, 0, 87, 6, 725, 726, 727, 55, 728]), (24, .iload_n 3, 25, []), (25, .bipush 31, 27, []), (27, .idiv, 28, []), (28, .iadd, 29, []), (29, .istore 4, 31, []), (31, .iconst 2, 32, []), 
  (32, .iconst 2, 33, []), (33, .iload_n 3, 34, []), (34, .bipush 31, 36, []), (36, .irem, 37, []), (37, .imul, 38, []), (38, .iadd, 39, []), (39, .istore 5, 41, []), (41, .aload_n 0, 42, []), 
  (42, .getfield 22, 45, [14, 4, 0]), (45, .iload 4, 47, []), (47, .iload 5, 49, []), (49, .iconst 1, 50, []), (50, .iadd, 51, []), (51, .iconst 1, 52, []), 
  (52, .invokevirtual 91, 55, [2, 3, 85, 2, 715, 716, 717, 42, 718]), (55, .istore 6, 57, []), (57, .aload_n 0, 58, []), (58, .aload_n 0, 59, []), (59, .getfield 22, 62, [14, 4, 0]), (62, .iload 4, 64, []), 
  (64, .iload 5, 66, []), (66, .iconst 1, 67, []), (67, .invokevirtual 91, 70, [2, 3, 85, 2, 715, 716, 717, 42, 718]), (70, .iload_n 2, 71, []), (71, .iload 6, 73, []), 
  (73, .invokevirtual 101, 76, [2, 3, 88, 4, 729, 731, 16, 44, 732]), (76, .iload_n 2, 77, []), (77, .iload 6, 79, []), (79, .iadd, 80, []), (80, .istore_n 2, 81, []), (81, .iinc 3 1, 84, []), (84, .goto (-72), 87, [12]), 
  (87, .return_, 88, [])])
/-- TapeVault$Dump.firstIndexBlock()I -/
def mi_87 : MI := (⟨"TapeVault$Dump", "firstIndexBlock", "()I"⟩, prog_2_method_4_code, 1, (some FieldType.int), [], [
  (0, .aload_n 0, 1, []), (1, .getfield 28, 4, [70, 6, 6]), (4, .iconst 2, 5, []), (5, .iadd, 6, []), (6, .ireturn, 7, [])])
/-- TapeVault$Restored.takeNode(III)V -/
def mi_88 : MI := (⟨"TapeVault$Restored", "takeNode", "(III)V"⟩, prog_4_method_9_code, 5, (none), [], [
  (0, .iload_n 1, 1, []), (1, .invokestatic 105, 4, [1, 1, 18, 733, 345, 39, 346]), (4, .ifCond .ne 4, 7, [8]), (7, .return_, 8, []), (8, .aload_n 0, 9, []), (9, .getfield 22, 12, [14, 4, 0]), (12, .iload_n 2, 13, []), 
  (13, .invokevirtual 79, 16, [2, 1, 81, 2, 698, 699, 700, 42, 701]), (16, .ifCond .eq 11, 19, [27]), (19, .aload_n 0, 20, []), (20, .getfield 18, 23, [17, 4, 3]), (23, .iload_n 1, 24, []), (24, .iconst 1, 25, []), 
  (25, .bastore, 26, []), (26, .return_, 27, []), (27, .aload_n 0, 28, []), (28, .getfield 9, 31, [15, 4, 1]), (31, .iload_n 1, 32, []), (32, .iload_n 2, 33, []), (33, .iastore, 34, []), (34, .aload_n 0, 35, []), 
  (35, .getfield 15, 38, [16, 4, 2]), (38, .iload_n 1, 39, []), (39, .iconst 0, 40, []), (40, .iastore, 41, []), (41, .iconst 0, 42, []), (42, .istore 4, 44, []), (44, .iload 4, 46, []), (46, .iload_n 3, 47, []), 
  (47, .iconst 1, 48, []), (48, .isub, 49, []), (49, .if_icmp .ge 38, 52, [87]), (52, .aload_n 0, 53, []), (53, .getfield 22, 56, [14, 4, 0]), (56, .iload_n 2, 57, []), (57, .iconst 1, 58, []), (58, .iadd, 59, []), 
  (59, .iload 4, 61, []), (61, .iadd, 62, []), (62, .invokevirtual 79, 65, [2, 1, 81, 2, 698, 699, 700, 42, 701]), (65, .ifCond .eq 16, 68, [81]), (68, .aload_n 0, 69, []), (69, .getfield 15, 72, [16, 4, 2]), 
  (72, .iload_n 1, 73, []), (73, .dup2, 74, []), (74, .iaload, 75, []), (75, .iconst 1, 76, []), (76, .iload 4, 78, []), (78, .ishl, 79, []), (79, .ior, 80, []), (80, .iastore, 81, []), (81, .iinc 4 1, 84, []), 
  (84, .goto (-40), 87, [44]), (87, .aload_n 0, 88, []), (88, .getfield 18, 91, [17, 4, 3]), (91, .iload_n 1, 92, []), (92, .aload_n 0, 93, []), (93, .getfield 15, 96, [16, 4, 2]), (96, .iload_n 1, 97, []), 
  (97, .iaload, 98, []), (98, .ifCond .eq 7, 101, [105]), (101, .iconst 1, 102, []), (102, .goto 4, 105, [106]), (105, .iconst 0, 106, []), (106, .bastore, 107, []), (107, .return_, 108, [])])
/-- TapeVault$Restored.wholeBlocks(LTapeVault$Dump;)I -/
def mi_89 : MI := (⟨"TapeVault$Restored", "wholeBlocks", "(LTapeVault$Dump;)I"⟩, prog_4_method_6_code, 4, (some FieldType.int), [], [
  (0, .iconst 0, 1, []), (1, .istore_n 2, 2, []), (2, .iconst 0, 3, []), (3, .istore_n 3, 4, []), (4, .iload_n 3, 5, []), (5, .aload_n 1, 6, []), (6, .getfield 85, 9, [73, 6, 7]), (9, .if_icmp .ge 28, 12, [37]), 
  (12, .aload_n 0, 13, []), (13, .getfield 22, 16, [14, 4, 0]), (16, .aload_n 1, 17, []), (17, .getfield 76, 20, [71, 6, 6]), (20, .iload_n 3, 21, []), (21, .iadd, 22, []), 
  (22, .invokevirtual 79, 25, [2, 1, 81, 2, 698, 699, 700, 42, 701]), (25, .ifCond .ne 6, 28, [31]), (28, .iinc 2 1, 31, []), (31, .iinc 3 1, 34, []), (34, .goto (-30), 37, [4]), (37, .iload_n 2, 38, []), 
  (38, .ireturn, 39, [])])
/-- TapeVault$Restored.countLost()I -/
def mi_90 : MI := (⟨"TapeVault$Restored", "countLost", "()I"⟩, prog_4_method_10_code, 3, (some FieldType.int), [], [
  (0, .iconst 0, 1, []), (1, .istore_n 1, 2, []), (2, .iconst 0, 3, []), (3, .istore_n 2, 4, []), (4, .iload_n 2, 5, []), (5, .sipush 256, 8, []), (8, .if_icmp .ge 21, 11, [29]), (11, .aload_n 0, 12, []), 
  (12, .getfield 18, 15, [17, 4, 3]), (15, .iload_n 2, 16, []), (16, .baload, 17, []), (17, .ifCond .eq 6, 20, [23]), (20, .iinc 1 1, 23, []), (23, .iinc 2 1, 26, []), (26, .goto (-22), 29, [4]), (29, .iload_n 1, 30, []), 
  (30, .ireturn, 31, [])])
/-- TapeVaultLaw.node(LTapeVault;ZII[J)I -/
def mi_91 : MI := (⟨"TapeVaultLaw", "node", "(LTapeVault;ZII[J)I"⟩, method_13_code, 6, (some FieldType.int), [(0, 12, 15, 13), (0, 12, 19, 19), (0, 12, 23, 21)], [
  (0, .aload 4, 2, []), (2, .iconst 0, 3, []), (3, .aload_n 0, 4, []), (4, .iload_n 1, 5, []), (5, .iload_n 2, 6, []), (6, .iload_n 3, 7, []), (7, .invokevirtual 54, 10, [9, 3, 92, 0, 745, 746, 747, 39, 748]), 
  (10, .i2l, 11, []), (11, .lastore, 12, []), (12, .goto 15, 15, [27]), (15, .astore 5, 17, []), (17, .iconst 1, 18, []), (18, .ireturn, 19, []), (19, .astore 5, 21, []), (21, .iconst 2, 22, []), (22, .ireturn, 23, []), 
  (23, .astore 5, 25, []), (25, .iconst 3, 26, []), (26, .ireturn, 27, []), (27, .iconst 0, 28, []), (28, .ireturn, 29, [])])
/-- TapeVault.node(ZII)I -/
def mi_92 : MI := (⟨"TapeVault", "node", "(ZII)I"⟩, prog_1_method_12_code, 5, (some FieldType.int), [], [
  (0, .iload_n 3, 1, []), (1, .ifCond .lt 8, 4, [9]), (4, .iload_n 3, 5, []), (5, .iconst 5, 6, []), (6, .if_icmp .le 11, 9, [17]), (9, .new 51, 12, [50, 0, 53, 263]), (17, .aload_n 0, 18, []), (18, .iload_n 1, 19, []), 
  (19, .invokevirtual 187, 22, [2, 1, 93, 0, 749, 751, 19, 39, 752]), (22, .astore 4, 24, []), (24, .aload 4, 26, []), (26, .invokevirtual 191, 29, [6, 0, 95, 94, 753, 755, 754, 759, 760, 41, 761, 756, 757, 44, 758]), 
  (29, .ifCond .ne 11, 32, [40]), (32, .new 67, 35, [50, 1, 69, 354]), (40, .iload_n 2, 41, []), (41, .invokestatic 196, 44, [0, 1, 18, 762, 345, 39, 346]), (44, .ifCond .ne 11, 47, [55]), 
  (47, .new 74, 50, [50, 2, 76, 373]), (55, .aload 4, 57, []), (57, .iload_n 2, 58, []), (58, .iload_n 3, 59, []), (59, .invokevirtual 199, 62, [6, 2, 97, 96, 763, 765, 764, 769, 770, 41, 771, 766, 767, 44, 768]), 
  (62, .ireturn, 63, [])])
/-- TapeVault.viewOf(Z)LTapeVault$View; -/
def mi_93 : MI := (⟨"TapeVault", "viewOf", "(Z)LTapeVault$View;"⟩, prog_1_method_17_code, 2, (some (FieldType.object "TapeVault$View")), [], [
  (0, .iload_n 1, 1, []), (1, .ifCond .eq 10, 4, [11]), (4, .aload_n 0, 5, []), (5, .getfield 37, 8, [51, 0, 3]), (8, .goto 7, 11, [15]), (11, .aload_n 0, 12, []), (12, .getfield 10, 15, [48, 0, 0]), (15, .areturn, 16, [])])
/-- TapeVault$Restored.isThere()Z -/
def mi_94 : MI := (⟨"TapeVault$Restored", "isThere", "()Z"⟩, prog_4_method_11_code, 1, (some FieldType.boolean), [], [
  (0, .aload_n 0, 1, []), (1, .getfield 26, 4, [18, 4, 4]), (4, .ireturn, 5, [])])
/-- TapeVault$Tree.isThere()Z -/
def mi_95 : MI := (⟨"TapeVault$Tree", "isThere", "()Z"⟩, prog_5_method_16_code, 1, (some FieldType.boolean), [], [
  (0, .iconst 1, 1, []), (1, .ireturn, 2, [])])
/-- TapeVault$Restored.fact(II)I -/
def mi_96 : MI := (⟨"TapeVault$Restored", "fact", "(II)I"⟩, prog_4_method_12_code, 4, (some FieldType.int), [], [
  (0, .iload_n 1, 1, []), (1, .invokestatic 105, 4, [1, 1, 18, 733, 345, 39, 346]), (4, .ifCond .ne 5, 7, [9]), (7, .iconst 0, 8, []), (8, .ireturn, 9, []), (9, .iload_n 2, 10, []), (10, .iconst 5, 11, []), 
  (11, .if_icmp .ne 18, 14, [29]), (14, .aload_n 0, 15, []), (15, .getfield 18, 18, [17, 4, 3]), (18, .iload_n 1, 19, []), (19, .baload, 20, []), (20, .ifCond .eq 7, 23, [27]), (23, .iconst 1, 24, []), 
  (24, .goto 4, 27, [28]), (27, .iconst 0, 28, []), (28, .ireturn, 29, []), (29, .aload_n 0, 30, []), (30, .getfield 9, 33, [15, 4, 1]), (33, .iload_n 1, 34, []), (34, .iaload, 35, []), (35, .istore_n 3, 36, []), 
  (36, .iload_n 3, 37, []), (37, .iconst (-1), 38, []), (38, .if_icmp .ne 5, 41, [43]), (41, .iconst 0, 42, []), (42, .ireturn, 43, []), (43, .iload_n 2, 44, []), 
  (44, .tableswitch 93 0 4 #[36, 47, 58, 69, 81], 80, [137, 80, 91, 102, 113, 125]), (80, .aload_n 0, 81, []), (81, .getfield 22, 84, [14, 4, 0]), (84, .iload_n 3, 85, []), (85, .iconst 2, 86, []), (86, .iconst 1, 87, []), 
  (87, .invokevirtual 91, 90, [2, 3, 85, 2, 715, 716, 717, 42, 718]), (90, .ireturn, 91, []), (91, .aload_n 0, 92, []), (92, .getfield 22, 95, [14, 4, 0]), (95, .iload_n 3, 96, []), (96, .iconst 5, 97, []), 
  (97, .iconst 1, 98, []), (98, .invokevirtual 91, 101, [2, 3, 85, 2, 715, 716, 717, 42, 718]), (101, .ireturn, 102, []), (102, .aload_n 0, 103, []), (103, .getfield 22, 106, [14, 4, 0]), (106, .iload_n 3, 107, []), 
  (107, .iconst 3, 108, []), (108, .iconst 2, 109, []), (109, .invokevirtual 91, 112, [2, 3, 85, 2, 715, 716, 717, 42, 718]), (112, .ireturn, 113, []), (113, .aload_n 0, 114, []), (114, .getfield 22, 117, [14, 4, 0]), 
  (117, .iload_n 3, 118, []), (118, .bipush 6, 120, []), (120, .iconst 2, 121, []), (121, .invokevirtual 91, 124, [2, 3, 85, 2, 715, 716, 717, 42, 718]), (124, .ireturn, 125, []), (125, .aload_n 0, 126, []), 
  (126, .getfield 22, 129, [14, 4, 0]), (129, .iload_n 3, 130, []), (130, .bipush 8, 132, []), (132, .iconst 4, 133, []), (133, .invokevirtual 91, 136, [2, 3, 85, 2, 715, 716, 717, 42, 718]), (136, .ireturn, 137, []), 
  (137, .iconst 0, 138, []), (138, .ireturn, 139, [])])
/-- TapeVault$Tree.fact(II)I -/
def mi_97 : MI := (⟨"TapeVault$Tree", "fact", "(II)I"⟩, prog_5_method_17_code, 4, (some FieldType.int), [], [
  (0, .aload_n 0, 1, []), (1, .iload_n 1, 2, []), (2, .invokevirtual 31, 5, [2, 1, 17, 1, 340, 341, 342, 41, 343]), (5, .astore_n 3, 6, []), (6, .aload_n 3, 7, []), (7, .ifnonnull 5, 10, [12]), (10, .iconst 0, 11, []), 
  (11, .ireturn, 12, []), (12, .iload_n 2, 13, []), (13, .tableswitch 60 0 4 #[35, 40, 45, 50, 55], 48, [73, 48, 53, 58, 63, 68]), (48, .aload_n 3, 49, []), (49, .getfield 35, 52, [29, 5, 1]), (52, .ireturn, 53, []), 
  (53, .aload_n 3, 54, []), (54, .invokevirtual 74, 57, [2, 0, 64, 5, 772, 632, 633, 45, 634]), (57, .ireturn, 58, []), (58, .aload_n 3, 59, []), (59, .getfield 77, 62, [36, 5, 3]), (62, .ireturn, 63, []), 
  (63, .aload_n 3, 64, []), (64, .getfield 49, 67, [40, 5, 4]), (67, .ireturn, 68, []), (68, .aload_n 3, 69, []), (69, .getfield 42, 72, [42, 5, 5]), (72, .ireturn, 73, []), (73, .iconst 0, 74, []), (74, .ireturn, 75, [])])
/-- TapeVaultLaw.octet(LTapeVault;ZII[J)I -/
def mi_98 : MI := (⟨"TapeVaultLaw", "octet", "(LTapeVault;ZII[J)I"⟩, method_14_code, 6, (some FieldType.int), [(0, 12, 15, 19), (0, 12, 19, 13), (0, 12, 23, 21)], [
  (0, .aload 4, 2, []), (2, .iconst 0, 3, []), (3, .aload_n 0, 4, []), (4, .iload_n 1, 5, []), (5, .iload_n 2, 6, []), (6, .iload_n 3, 7, []), (7, .invokevirtual 58, 10, [9, 3, 99, 0, 776, 777, 778, 39, 779]), 
  (10, .i2l, 11, []), (11, .lastore, 12, []), (12, .goto 15, 15, [27]), (15, .astore 5, 17, []), (17, .iconst 1, 18, []), (18, .ireturn, 19, []), (19, .astore 5, 21, []), (21, .iconst 2, 22, []), (22, .ireturn, 23, []), 
  (23, .astore 5, 25, []), (25, .iconst 3, 26, []), (26, .ireturn, 27, []), (27, .iconst 0, 28, []), (28, .ireturn, 29, [])])
/-- TapeVault.octet(ZII)I -/
def mi_99 : MI := (⟨"TapeVault", "octet", "(ZII)I"⟩, prog_1_method_13_code, 5, (some FieldType.int), [], [
  (0, .aload_n 0, 1, []), (1, .iload_n 1, 2, []), (2, .invokevirtual 187, 5, [2, 1, 93, 0, 749, 751, 19, 39, 752]), (5, .astore 4, 7, []), (7, .aload 4, 9, []), 
  (9, .invokevirtual 191, 12, [6, 0, 95, 94, 753, 755, 754, 759, 760, 41, 761, 756, 757, 44, 758]), (12, .ifCond .ne 11, 15, [23]), (15, .new 67, 18, [50, 1, 69, 354]), (23, .aload 4, 25, []), (25, .iload_n 2, 26, []), 
  (26, .iconst 0, 27, []), (27, .invokevirtual 199, 30, [6, 2, 97, 96, 763, 765, 764, 769, 770, 41, 771, 766, 767, 44, 768]), (30, .iconst 1, 31, []), (31, .if_icmp .eq 11, 34, [42]), (34, .new 51, 37, [50, 0, 53, 263]), 
  (42, .iload_n 3, 43, []), (43, .ifCond .lt 14, 46, [57]), (46, .iload_n 3, 47, []), (47, .aload 4, 49, []), (49, .iload_n 2, 50, []), (50, .iconst 3, 51, []), 
  (51, .invokevirtual 199, 54, [6, 2, 97, 96, 763, 765, 764, 769, 770, 41, 771, 766, 767, 44, 768]), (54, .if_icmp .lt 11, 57, [65]), (57, .new 74, 60, [50, 2, 76, 373]), (65, .aload 4, 67, []), (67, .iload_n 2, 68, []), 
  (68, .iload_n 3, 69, []), (69, .invokevirtual 202, 72, [6, 2, 102, 100, 780, 782, 781, 790, 791, 41, 792, 783, 784, 44, 785]), (72, .ireturn, 73, [])])
/-- TapeVault$Restored.octetOf(II)I -/
def mi_100 : MI := (⟨"TapeVault$Restored", "octetOf", "(II)I"⟩, prog_4_method_14_code, 4, (some FieldType.int), [], [
  (0, .iload_n 1, 1, []), (1, .invokestatic 105, 4, [1, 1, 18, 733, 345, 39, 346]), (4, .ifCond .eq 13, 7, [17]), (7, .aload_n 0, 8, []), (8, .getfield 9, 11, [15, 4, 1]), (11, .iload_n 1, 12, []), (12, .iaload, 13, []), 
  (13, .iconst (-1), 14, []), (14, .if_icmp .ne 5, 17, [19]), (17, .iconst 0, 18, []), (18, .ireturn, 19, []), (19, .iload_n 2, 20, []), (20, .bipush 64, 22, []), (22, .idiv, 23, []), (23, .istore_n 3, 24, []), 
  (24, .aload_n 0, 25, []), (25, .iload_n 1, 26, []), (26, .iload_n 3, 27, []), (27, .invokevirtual 108, 30, [2, 2, 101, 4, 786, 788, 20, 44, 789]), (30, .ifCond .eq 28, 33, [58]), (33, .aload_n 0, 34, []), 
  (34, .getfield 22, 37, [14, 4, 0]), (37, .aload_n 0, 38, []), (38, .getfield 9, 41, [15, 4, 1]), (41, .iload_n 1, 42, []), (42, .iaload, 43, []), (43, .iconst 1, 44, []), (44, .iadd, 45, []), (45, .iload_n 3, 46, []), 
  (46, .iadd, 47, []), (47, .iload_n 2, 48, []), (48, .bipush 64, 50, []), (50, .irem, 51, []), (51, .iconst 1, 52, []), (52, .invokevirtual 91, 55, [2, 3, 85, 2, 715, 716, 717, 42, 718]), (55, .goto 4, 58, [59]), 
  (58, .iconst 0, 59, []), (59, .ireturn, 60, [])])
/-- TapeVault$Restored.wasRead(II)Z -/
def mi_101 : MI := (⟨"TapeVault$Restored", "wasRead", "(II)Z"⟩, prog_4_method_13_code, 3, (some FieldType.boolean), [], [
  (0, .aload_n 0, 1, []), (1, .getfield 15, 4, [16, 4, 2]), (4, .iload_n 1, 5, []), (5, .iaload, 6, []), (6, .iload_n 2, 7, []), (7, .ishr, 8, []), (8, .iconst 1, 9, []), (9, .iand, 10, []), (10, .ifCond .ne 7, 13, [17]), 
  (13, .iconst 1, 14, []), (14, .goto 4, 17, [18]), (17, .iconst 0, 18, []), (18, .ireturn, 19, [])])
/-- TapeVault$Tree.octetOf(II)I -/
def mi_102 : MI := (⟨"TapeVault$Tree", "octetOf", "(II)I"⟩, prog_5_method_18_code, 4, (some FieldType.int), [], [
  (0, .aload_n 0, 1, []), (1, .iload_n 1, 2, []), (2, .invokevirtual 80, 5, [2, 1, 26, 1, 793, 404, 405, 41, 406]), (5, .astore_n 3, 6, []), (6, .aload_n 3, 7, []), (7, .ifnonnull 7, 10, [14]), (10, .iconst 0, 11, []), 
  (11, .goto 8, 14, [19]), (14, .aload_n 3, 15, []), (15, .iload_n 2, 16, []), (16, .invokevirtual 83, 19, [2, 1, 66, 5, 794, 640, 641, 45, 642]), (19, .ireturn, 20, [])])
/-- TapeVaultLaw.find(LTapeVault;ZII[J)I -/
def mi_103 : MI := (⟨"TapeVaultLaw", "find", "(LTapeVault;ZII[J)I"⟩, method_15_code, 6, (some FieldType.int), [(0, 12, 15, 19), (0, 12, 19, 13)], [
  (0, .aload 4, 2, []), (2, .iconst 0, 3, []), (3, .aload_n 0, 4, []), (4, .iload_n 1, 5, []), (5, .iload_n 2, 6, []), (6, .iload_n 3, 7, []), (7, .invokevirtual 61, 10, [9, 3, 104, 0, 798, 799, 800, 39, 801]), 
  (10, .i2l, 11, []), (11, .lastore, 12, []), (12, .goto 11, 15, [23]), (15, .astore 5, 17, []), (17, .iconst 1, 18, []), (18, .ireturn, 19, []), (19, .astore 5, 21, []), (21, .iconst 2, 22, []), (22, .ireturn, 23, []), 
  (23, .iconst 0, 24, []), (24, .ireturn, 25, [])])
/-- TapeVault.find(ZII)I -/
def mi_104 : MI := (⟨"TapeVault", "find", "(ZII)I"⟩, prog_1_method_14_code, 5, (some FieldType.int), [], [
  (0, .aload_n 0, 1, []), (1, .iload_n 1, 2, []), (2, .invokevirtual 187, 5, [2, 1, 93, 0, 749, 751, 19, 39, 752]), (5, .astore 4, 7, []), (7, .aload 4, 9, []), 
  (9, .invokevirtual 191, 12, [6, 0, 95, 94, 753, 755, 754, 759, 760, 41, 761, 756, 757, 44, 758]), (12, .ifCond .ne 11, 15, [23]), (15, .new 67, 18, [50, 1, 69, 354]), (23, .aload 4, 25, []), (25, .iload_n 2, 26, []), 
  (26, .iconst 0, 27, []), (27, .invokevirtual 199, 30, [6, 2, 97, 96, 763, 765, 764, 769, 770, 41, 771, 766, 767, 44, 768]), (30, .iconst 2, 31, []), (31, .if_icmp .eq 11, 34, [42]), (34, .new 51, 37, [50, 0, 53, 263]), 
  (42, .aload 4, 44, []), (44, .iload_n 2, 45, []), (45, .iload_n 3, 46, []), (46, .invokevirtual 205, 49, [6, 2, 106, 105, 802, 804, 803, 809, 810, 41, 811, 805, 806, 44, 807]), (49, .ireturn, 50, [])])
/-- TapeVault$Restored.entryNamed(II)I -/
def mi_105 : MI := (⟨"TapeVault$Restored", "entryNamed", "(II)I"⟩, prog_4_method_15_code, 8, (some FieldType.int), [], [
  (0, .iload_n 1, 1, []), (1, .invokestatic 105, 4, [1, 1, 18, 733, 345, 39, 346]), (4, .ifCond .eq 13, 7, [17]), (7, .aload_n 0, 8, []), (8, .getfield 9, 11, [15, 4, 1]), (11, .iload_n 1, 12, []), (12, .iaload, 13, []), 
  (13, .iconst (-1), 14, []), (14, .if_icmp .ne 5, 17, [19]), (17, .iconst (-1), 18, []), (18, .ireturn, 19, []), (19, .aload_n 0, 20, []), (20, .iload_n 1, 21, []), (21, .iconst 3, 22, []), 
  (22, .invokevirtual 112, 25, [2, 2, 96, 4, 808, 767, 1123, 44, 768]), (25, .istore_n 3, 26, []), (26, .iconst 0, 27, []), (27, .istore 4, 29, []), (29, .iload 4, 31, []), (31, .iload_n 3, 32, []), 
  (32, .if_icmp .ge 79, 35, [111]), (35, .iload 4, 37, []), (37, .bipush 21, 39, []), (39, .idiv, 40, []), (40, .istore 5, 42, []), (42, .aload_n 0, 43, []), (43, .getfield 9, 46, [15, 4, 1]), (46, .iload_n 1, 47, []), 
  (47, .iaload, 48, []), (48, .iconst 1, 49, []), (49, .iadd, 50, []), (50, .iload 5, 52, []), (52, .iadd, 53, []), (53, .istore 6, 55, []), (55, .iconst 3, 56, []), (56, .iload 4, 58, []), (58, .bipush 21, 60, []), 
  (60, .irem, 61, []), (61, .imul, 62, []), (62, .istore 7, 64, []), (64, .aload_n 0, 65, []), (65, .iload_n 1, 66, []), (66, .iload 5, 68, []), (68, .invokevirtual 108, 71, [2, 2, 101, 4, 786, 788, 20, 44, 789]), 
  (71, .ifCond .eq 34, 74, [105]), (74, .aload_n 0, 75, []), (75, .getfield 22, 78, [14, 4, 0]), (78, .iload 6, 80, []), (80, .iload 7, 82, []), (82, .iconst 2, 83, []), 
  (83, .invokevirtual 91, 86, [2, 3, 85, 2, 715, 716, 717, 42, 718]), (86, .iload_n 2, 87, []), (87, .if_icmp .ne 18, 90, [105]), (90, .aload_n 0, 91, []), (91, .getfield 22, 94, [14, 4, 0]), (94, .iload 6, 96, []), 
  (96, .iload 7, 98, []), (98, .iconst 2, 99, []), (99, .iadd, 100, []), (100, .iconst 1, 101, []), (101, .invokevirtual 91, 104, [2, 3, 85, 2, 715, 716, 717, 42, 718]), (104, .ireturn, 105, []), (105, .iinc 4 1, 108, []), 
  (108, .goto (-79), 111, [29]), (111, .iconst (-1), 112, []), (112, .ireturn, 113, [])])
/-- TapeVault$Tree.entryNamed(II)I -/
def mi_106 : MI := (⟨"TapeVault$Tree", "entryNamed", "(II)I"⟩, prog_5_method_19_code, 5, (some FieldType.int), [], [
  (0, .aload_n 0, 1, []), (1, .iload_n 1, 2, []), (2, .invokevirtual 87, 5, [2, 1, 16, 1, 812, 337, 338, 41, 339]), (5, .astore_n 3, 6, []), (6, .aload_n 3, 7, []), (7, .ifnonnull 7, 10, [14]), (10, .aconst_null, 11, []), 
  (11, .goto 8, 14, [19]), (14, .aload_n 3, 15, []), (15, .iload_n 2, 16, []), (16, .invokevirtual 90, 19, [2, 1, 20, 5, 813, 351, 352, 45, 353]), (19, .astore 4, 21, []), (21, .aload 4, 23, []), 
  (23, .ifnonnull 7, 26, [30]), (26, .iconst (-1), 27, []), (27, .goto 8, 30, [35]), (30, .aload 4, 32, []), (32, .getfield 56, 35, [27, 5, 0]), (35, .ireturn, 36, [])])
/-- TapeVaultLaw.count(LTapeVault;I[J)I -/
def mi_107 : MI := (⟨"TapeVaultLaw", "count", "(LTapeVault;I[J)I"⟩, method_16_code, 4, (some FieldType.int), [(0, 9, 12, 13)], [
  (0, .aload_n 2, 1, []), (1, .iconst 0, 2, []), (2, .aload_n 0, 3, []), (3, .iload_n 1, 4, []), (4, .invokevirtual 64, 7, [9, 1, 108, 0, 817, 818, 819, 39, 820]), (7, .i2l, 8, []), (8, .lastore, 9, []), 
  (9, .goto 6, 12, [15]), (12, .astore_n 3, 13, []), (13, .iconst 1, 14, []), (14, .ireturn, 15, []), (15, .iconst 0, 16, []), (16, .ireturn, 17, [])])
/-- TapeVault.count(I)I -/
def mi_108 : MI := (⟨"TapeVault", "count", "(I)I"⟩, prog_1_method_15_code, 2, (some FieldType.int), [], [
  (0, .iload_n 1, 1, []), (1, .tableswitch 108 0 7 #[47, 55, 63, 68, 76, 84, 92, 100], 48, [109, 48, 56, 64, 69, 77, 85, 93, 101]), (48, .aload_n 0, 49, []), (49, .getfield 10, 52, [48, 0, 0]), 
  (52, .getfield 124, 55, [4, 1, 2]), (55, .ireturn, 56, []), (56, .aload_n 0, 57, []), (57, .getfield 10, 60, [48, 0, 0]), (60, .getfield 208, 63, [2, 1, 1]), (63, .ireturn, 64, []), (64, .aload_n 0, 65, []), 
  (65, .getfield 121, 68, [53, 0, 5]), (68, .ireturn, 69, []), (69, .aload_n 0, 70, []), (70, .getfield 19, 73, [49, 0, 1]), (73, .invokevirtual 211, 76, [2, 0, 109, 2, 821, 822, 823, 42, 824]), (76, .ireturn, 77, []), 
  (77, .aload_n 0, 78, []), (78, .getfield 19, 81, [49, 0, 1]), (81, .getfield 214, 84, [9, 2, 3]), (84, .ireturn, 85, []), (85, .aload_n 0, 86, []), (86, .getfield 37, 89, [51, 0, 3]), (89, .getfield 217, 92, [20, 4, 5]), 
  (92, .ireturn, 93, []), (93, .aload_n 0, 94, []), (94, .getfield 37, 97, [51, 0, 3]), (97, .getfield 220, 100, [22, 4, 6]), (100, .ireturn, 101, []), (101, .aload_n 0, 102, []), (102, .getfield 37, 105, [51, 0, 3]), 
  (105, .getfield 223, 108, [24, 4, 7]), (108, .ireturn, 109, []), (109, .new 51, 112, [50, 0, 53, 263])])
/-- TapeVault$Volumes.volumesWritten()I -/
def mi_109 : MI := (⟨"TapeVault$Volumes", "volumesWritten", "()I"⟩, prog_7_method_3_code, 1, (some FieldType.int), [], [
  (0, .aload_n 0, 1, []), (1, .getfield 29, 4, [8, 2, 3]), (4, .aload_n 0, 5, []), (5, .getfield 19, 8, [7, 2, 2]), (8, .invokestatic 35, 11, [1, 2, 50, 568, 553, 39, 554]), (11, .ireturn, 12, [])])
/-- TapeVaultModel.<init>()V -/
def mi_110 : MI := (⟨"TapeVaultModel", "<init>", "()V"⟩, prog_10_method_1_code, 1, (none), [], [
  (0, .aload_n 0, 1, []), (1, .invokespecial 1, 4, [10, 830, 64, 65]), (4, .aload_n 0, 5, []), (5, .sipush 256, 8, []), (8, .newarray .int, 10, []), (10, .putfield 9, 13, [76, 7, 1]), (13, .aload_n 0, 14, []), 
  (14, .sipush 256, 17, []), (17, .newarray .int, 19, []), (19, .putfield 13, 22, [77, 7, 2]), (22, .aload_n 0, 23, []), (23, .sipush 256, 26, []), (26, .newarray .int, 28, []), (28, .putfield 16, 31, [78, 7, 3]), 
  (31, .aload_n 0, 32, []), (32, .sipush 256, 35, []), (35, .newarray .int, 37, []), (37, .putfield 19, 40, [79, 7, 4]), (40, .aload_n 0, 41, []), (41, .sipush 256, 44, []), (44, .newarray .int, 46, []), 
  (46, .putfield 22, 49, [80, 7, 5]), (49, .aload_n 0, 50, []), (50, .sipush 256, 53, []), (53, .sipush 512, 56, []), (56, .multianewarray 25 2, 60, [6, 831]), (60, .putfield 27, 63, [81, 7, 6]), (63, .aload_n 0, 64, []), 
  (64, .bipush 100, 66, []), (66, .newarray .int, 68, []), (68, .putfield 30, 71, [85, 7, 10]), (71, .aload_n 0, 72, []), (72, .bipush 100, 74, []), (74, .newarray .int, 76, []), (76, .putfield 33, 79, [86, 7, 11]), 
  (79, .aload_n 0, 80, []), (80, .bipush 100, 82, []), (82, .newarray .int, 84, []), (84, .putfield 36, 87, [87, 7, 12]), (87, .aload_n 0, 88, []), (88, .bipush 101, 90, []), (90, .newarray .int, 92, []), 
  (92, .putfield 39, 95, [88, 7, 13]), (95, .aload_n 0, 96, []), (96, .bipush 101, 98, []), (98, .newarray .int, 100, []), (100, .putfield 42, 103, [89, 7, 14]), (103, .aload_n 0, 104, []), (104, .bipush 100, 106, []), 
  (106, .sipush 256, 109, []), (109, .multianewarray 45 2, 113, [7, 833]), (113, .putfield 47, 116, [90, 7, 15]), (116, .aload_n 0, 117, []), (117, .sipush 4000, 120, []), (120, .newarray .int, 122, []), 
  (122, .putfield 50, 125, [92, 7, 17]), (125, .aload_n 0, 126, []), (126, .sipush 4000, 129, []), (129, .newarray .int, 131, []), (131, .putfield 53, 134, [93, 7, 18]), (134, .aload_n 0, 135, []), 
  (135, .sipush 4000, 138, []), (138, .newarray .int, 140, []), (140, .putfield 56, 143, [94, 7, 19]), (143, .aload_n 0, 144, []), (144, .sipush 4000, 147, []), (147, .newarray .int, 149, []), 
  (149, .putfield 59, 152, [95, 7, 20]), (152, .aload_n 0, 153, []), (153, .sipush 4000, 156, []), (156, .newarray .int, 158, []), (158, .putfield 62, 161, [96, 7, 21]), (161, .aload_n 0, 162, []), 
  (162, .sipush 4000, 165, []), (165, .newarray .int, 167, []), (167, .putfield 65, 170, [97, 7, 22]), (170, .aload_n 0, 171, []), (171, .sipush 4000, 174, []), (174, .newarray .int, 176, []), 
  (176, .putfield 68, 179, [98, 7, 23]), (179, .aload_n 0, 180, []), (180, .ldc 71, 182, [0]), (182, .newarray .byte, 184, []), (184, .putfield 72, 187, [99, 7, 24]), (187, .aload_n 0, 188, []), (188, .ldc 76, 190, [1]), 
  (190, .newarray .int, 192, []), (192, .putfield 77, 195, [100, 7, 25]), (195, .aload_n 0, 196, []), (196, .ldc 76, 198, [1]), (198, .newarray .int, 200, []), (200, .putfield 80, 203, [101, 7, 26]), 
  (203, .aload_n 0, 204, []), (204, .sipush 4001, 207, []), (207, .newarray .boolean, 209, []), (209, .putfield 83, 212, [105, 7, 30]), (212, .aload_n 0, 213, []), (213, .sipush 4001, 216, []), 
  (216, .newarray .boolean, 218, []), (218, .putfield 87, 221, [106, 7, 31]), (221, .aload_n 0, 222, []), (222, .sipush 256, 225, []), (225, .newarray .int, 227, []), (227, .putfield 90, 230, [107, 7, 32]), 
  (230, .aload_n 0, 231, []), (231, .sipush 256, 234, []), (234, .newarray .int, 236, []), (236, .putfield 93, 239, [108, 7, 33]), (239, .aload_n 0, 240, []), (240, .sipush 256, 243, []), (243, .newarray .int, 245, []), 
  (245, .putfield 96, 248, [109, 7, 34]), (248, .aload_n 0, 249, []), (249, .sipush 256, 252, []), (252, .newarray .int, 254, []), (254, .putfield 99, 257, [110, 7, 35]), (257, .aload_n 0, 258, []), 
  (258, .sipush 256, 261, []), (261, .newarray .int, 263, []), (263, .putfield 102, 266, [111, 7, 36]), (266, .aload_n 0, 267, []), (267, .sipush 256, 270, []), (270, .newarray .int, 272, []), 
  (272, .putfield 105, 275, [112, 7, 37]), (275, .aload_n 0, 276, []), (276, .sipush 256, 279, []), (279, .newarray .boolean, 281, []), (281, .putfield 108, 284, [113, 7, 38]), (284, .aload_n 0, 285, []), 
  (285, .sipush 256, 288, []), (288, .sipush 512, 291, []), (291, .multianewarray 25 2, 295, [6, 831]), (295, .putfield 111, 298, [114, 7, 39]), (298, .aload_n 0, 299, []), (299, .sipush 256, 302, []), 
  (302, .sipush 256, 305, []), (305, .multianewarray 114 2, 309, [8, 837]), (309, .putfield 116, 312, [115, 7, 40]), (312, .aload_n 0, 313, []), (313, .sipush 256, 316, []), (316, .sipush 256, 319, []), 
  (319, .multianewarray 114 2, 323, [8, 837]), (323, .putfield 119, 326, [116, 7, 41]), (326, .aload_n 0, 327, []), (327, .bipush 64, 329, []), (329, .newarray .int, 331, []), (331, .putfield 122, 334, [121, 7, 46]), 
  (334, .aload_n 0, 335, []), (335, .bipush 64, 337, []), (337, .invokevirtual 125, 340, [2, 1, 111, 7, 839, 840, 841, 47, 842]), (340, .return_, 341, [])])
/-- TapeVaultModel.begin(I)V -/
def mi_111 : MI := (⟨"TapeVaultModel", "begin", "(I)V"⟩, prog_10_method_4_code, 3, (none), [], [
  (0, .aload_n 0, 1, []), (1, .iload_n 1, 2, []), (2, .iconst 4, 3, []), (3, .if_icmp .lt 10, 6, [13]), (6, .iload_n 1, 7, []), (7, .sipush 1000, 10, []), (10, .if_icmp .le 7, 13, [17]), (13, .iconst 1, 14, []), 
  (14, .goto 4, 17, [18]), (17, .iconst 0, 18, []), (18, .iconst 1, 19, []), (19, .invokevirtual 133, 22, [2, 2, 112, 7, 843, 845, 21, 47, 846]), (22, .ifCond .eq 4, 25, [26]), (25, .return_, 26, []), 
  (26, .iconst 0, 27, []), (27, .istore_n 2, 28, []), (28, .iload_n 2, 29, []), (29, .sipush 256, 32, []), (32, .if_icmp .ge 16, 35, [48]), (35, .aload_n 0, 36, []), (36, .getfield 9, 39, [76, 7, 1]), 
  (39, .iload_n 2, 40, []), (40, .iconst 0, 41, []), (41, .iastore, 42, []), (42, .iinc 2 1, 45, []), (45, .goto (-17), 48, [28]), (48, .aload_n 0, 49, []), (49, .getfield 9, 52, [76, 7, 1]), (52, .iconst 0, 53, []), 
  (53, .iconst 2, 54, []), (54, .iastore, 55, []), (55, .aload_n 0, 56, []), (56, .getfield 13, 59, [77, 7, 2]), (59, .iconst 0, 60, []), (60, .iconst 0, 61, []), (61, .iastore, 62, []), (62, .aload_n 0, 63, []), 
  (63, .getfield 16, 66, [78, 7, 3]), (66, .iconst 0, 67, []), (67, .iconst 0, 68, []), (68, .iastore, 69, []), (69, .aload_n 0, 70, []), (70, .getfield 22, 73, [80, 7, 5]), (73, .iconst 0, 74, []), (74, .iconst 0, 75, []), 
  (75, .iastore, 76, []), (76, .aload_n 0, 77, []), (77, .iconst 0, 78, []), (78, .putfield 137, 81, [82, 7, 7]), (81, .aload_n 0, 82, []), (82, .iload_n 1, 83, []), (83, .putfield 140, 86, [83, 7, 8]), 
  (86, .aload_n 0, 87, []), (87, .iconst 0, 88, []), (88, .putfield 143, 91, [84, 7, 9]), (91, .aload_n 0, 92, []), (92, .iconst 0, 93, []), (93, .putfield 146, 96, [91, 7, 16]), (96, .aload_n 0, 97, []), 
  (97, .iconst 0, 98, []), (98, .putfield 149, 101, [102, 7, 27]), (101, .aload_n 0, 102, []), (102, .iconst 0, 103, []), (103, .putfield 152, 106, [103, 7, 28]), (106, .aload_n 0, 107, []), (107, .iconst 0, 108, []), 
  (108, .putfield 155, 111, [104, 7, 29]), (111, .iconst 0, 112, []), (112, .istore_n 2, 113, []), (113, .iload_n 2, 114, []), (114, .sipush 4000, 117, []), (117, .if_icmp .gt 23, 120, [140]), (120, .aload_n 0, 121, []), 
  (121, .getfield 83, 124, [105, 7, 30]), (124, .iload_n 2, 125, []), (125, .iconst 0, 126, []), (126, .bastore, 127, []), (127, .aload_n 0, 128, []), (128, .getfield 87, 131, [106, 7, 31]), (131, .iload_n 2, 132, []), 
  (132, .iconst 0, 133, []), (133, .bastore, 134, []), (134, .iinc 2 1, 137, []), (137, .goto (-24), 140, [113]), (140, .aload_n 0, 141, []), (141, .iconst 0, 142, []), (142, .putfield 158, 145, [117, 7, 42]), 
  (145, .aload_n 0, 146, []), (146, .iconst 0, 147, []), (147, .putfield 162, 150, [118, 7, 43]), (150, .aload_n 0, 151, []), (151, .iconst 0, 152, []), (152, .putfield 165, 155, [119, 7, 44]), (155, .aload_n 0, 156, []), 
  (156, .iconst 0, 157, []), (157, .putfield 168, 160, [120, 7, 45]), (160, .return_, 161, [])])
/-- TapeVaultModel.fails(ZI)Z -/
def mi_112 : MI := (⟨"TapeVaultModel", "fails", "(ZI)Z"⟩, prog_10_method_3_code, 3, (some FieldType.boolean), [], [
  (0, .aload_n 0, 1, []), (1, .iload_n 1, 2, []), (2, .ifCond .eq 7, 5, [9]), (5, .iload_n 2, 6, []), (6, .goto 4, 9, [10]), (9, .iconst 0, 10, []), (10, .putfield 129, 13, [75, 7, 0]), (13, .iload_n 1, 14, []), 
  (14, .ireturn, 15, [])])
/-- TapeVaultModel.thrown()I -/
def mi_113 : MI := (⟨"TapeVaultModel", "thrown", "()I"⟩, prog_10_method_2_code, 1, (some FieldType.int), [], [
  (0, .aload_n 0, 1, []), (1, .getfield 129, 4, [75, 7, 0]), (4, .ireturn, 5, [])])
/-- TapeVaultModel.make(IIZ)I -/
def mi_114 : MI := (⟨"TapeVaultModel", "make", "(IIZ)I"⟩, prog_10_method_7_code, 5, (some FieldType.int), [], [
  (0, .aload_n 0, 1, []), (1, .aload_n 0, 2, []), (2, .iload_n 1, 3, []), (3, .iconst 2, 4, []), (4, .invokevirtual 171, 7, [2, 2, 115, 7, 1001, 1003, 22, 47, 1004]), (7, .ifCond .eq 15, 10, [22]), (10, .iload_n 2, 11, []), 
  (11, .iconst 1, 12, []), (12, .if_icmp .lt 10, 15, [22]), (15, .iload_n 2, 16, []), (16, .sipush 30000, 19, []), (19, .if_icmp .le 7, 22, [26]), (22, .iconst 1, 23, []), (23, .goto 4, 26, [27]), (26, .iconst 0, 27, []), 
  (27, .iconst 1, 28, []), (28, .invokevirtual 133, 31, [2, 2, 112, 7, 843, 845, 21, 47, 846]), (31, .ifCond .eq 5, 34, [36]), (34, .iconst 0, 35, []), (35, .ireturn, 36, []), (36, .aload_n 0, 37, []), 
  (37, .aload_n 0, 38, []), (38, .iload_n 1, 39, []), (39, .iload_n 2, 40, []), (40, .invokevirtual 175, 43, [2, 2, 116, 7, 1005, 1007, 23, 47, 1008]), (43, .ifCond .lt 7, 46, [50]), (46, .iconst 1, 47, []), 
  (47, .goto 4, 50, [51]), (50, .iconst 0, 51, []), (51, .iconst 2, 52, []), (52, .invokevirtual 133, 55, [2, 2, 112, 7, 843, 845, 21, 47, 846]), (55, .ifCond .eq 5, 58, [60]), (58, .iconst 0, 59, []), 
  (59, .ireturn, 60, []), (60, .iconst 1, 61, []), (61, .istore 4, 63, []), (63, .iload 4, 65, []), (65, .sipush 256, 68, []), (68, .if_icmp .ge 19, 71, [87]), (71, .aload_n 0, 72, []), (72, .getfield 9, 75, [76, 7, 1]), 
  (75, .iload 4, 77, []), (77, .iaload, 78, []), (78, .ifCond .eq 9, 81, [87]), (81, .iinc 4 1, 84, []), (84, .goto (-21), 87, [63]), (87, .aload_n 0, 88, []), (88, .iload 4, 90, []), (90, .sipush 256, 93, []), 
  (93, .if_icmp .ne 7, 96, [100]), (96, .iconst 1, 97, []), (97, .goto 4, 100, [101]), (100, .iconst 0, 101, []), (101, .iconst 3, 102, []), (102, .invokevirtual 133, 105, [2, 2, 112, 7, 843, 845, 21, 47, 846]), 
  (105, .ifCond .eq 5, 108, [110]), (108, .iconst 0, 109, []), (109, .ireturn, 110, []), (110, .aload_n 0, 111, []), (111, .dup, 112, []), (112, .getfield 137, 115, [82, 7, 7]), (115, .iconst 1, 116, []), 
  (116, .iadd, 117, []), (117, .putfield 137, 120, [82, 7, 7]), (120, .aload_n 0, 121, []), (121, .getfield 9, 124, [76, 7, 1]), (124, .iload 4, 126, []), (126, .iload_n 3, 127, []), (127, .ifCond .eq 7, 130, [134]), 
  (130, .iconst 2, 131, []), (131, .goto 4, 134, [135]), (134, .iconst 1, 135, []), (135, .iastore, 136, []), (136, .aload_n 0, 137, []), (137, .getfield 13, 140, [77, 7, 2]), (140, .iload 4, 142, []), 
  (142, .iload_n 1, 143, []), (143, .iastore, 144, []), (144, .aload_n 0, 145, []), (145, .getfield 16, 148, [78, 7, 3]), (148, .iload 4, 150, []), (150, .iload_n 2, 151, []), (151, .iastore, 152, []), 
  (152, .aload_n 0, 153, []), (153, .getfield 19, 156, [79, 7, 4]), (156, .iload 4, 158, []), (158, .iconst 0, 159, []), (159, .iastore, 160, []), (160, .aload_n 0, 161, []), (161, .getfield 22, 164, [80, 7, 5]), 
  (164, .iload 4, 166, []), (166, .aload_n 0, 167, []), (167, .getfield 137, 170, [82, 7, 7]), (170, .iastore, 171, []), (171, .aload_n 0, 172, []), (172, .getfield 22, 175, [80, 7, 5]), (175, .iload_n 1, 176, []), 
  (176, .aload_n 0, 177, []), (177, .getfield 137, 180, [82, 7, 7]), (180, .iastore, 181, []), (181, .iload 4, 183, []), (183, .ireturn, 184, [])])
/-- TapeVaultModel.is(II)Z -/
def mi_115 : MI := (⟨"TapeVaultModel", "is", "(II)Z"⟩, prog_10_method_5_code, 3, (some FieldType.boolean), [], [
  (0, .iload_n 1, 1, []), (1, .ifCond .lt 24, 4, [25]), (4, .iload_n 1, 5, []), (5, .sipush 256, 8, []), (8, .if_icmp .ge 17, 11, [25]), (11, .aload_n 0, 12, []), (12, .getfield 9, 15, [76, 7, 1]), (15, .iload_n 1, 16, []), 
  (16, .iaload, 17, []), (17, .iload_n 2, 18, []), (18, .if_icmp .ne 7, 21, [25]), (21, .iconst 1, 22, []), (22, .goto 4, 25, [26]), (25, .iconst 0, 26, []), (26, .ireturn, 27, [])])
/-- TapeVaultModel.named(II)I -/
def mi_116 : MI := (⟨"TapeVaultModel", "named", "(II)I"⟩, prog_10_method_6_code, 4, (some FieldType.int), [], [
  (0, .iconst 1, 1, []), (1, .istore_n 3, 2, []), (2, .iload_n 3, 3, []), (3, .sipush 256, 6, []), (6, .if_icmp .ge 40, 9, [46]), (9, .aload_n 0, 10, []), (10, .getfield 9, 13, [76, 7, 1]), (13, .iload_n 3, 14, []), 
  (14, .iaload, 15, []), (15, .ifCond .eq 25, 18, [40]), (18, .aload_n 0, 19, []), (19, .getfield 13, 22, [77, 7, 2]), (22, .iload_n 3, 23, []), (23, .iaload, 24, []), (24, .iload_n 1, 25, []), 
  (25, .if_icmp .ne 15, 28, [40]), (28, .aload_n 0, 29, []), (29, .getfield 16, 32, [78, 7, 3]), (32, .iload_n 3, 33, []), (33, .iaload, 34, []), (34, .iload_n 2, 35, []), (35, .if_icmp .ne 5, 38, [40]), 
  (38, .iload_n 3, 39, []), (39, .ireturn, 40, []), (40, .iinc 3 1, 43, []), (43, .goto (-41), 46, [2]), (46, .iconst (-1), 47, []), (47, .ireturn, 48, [])])
/-- TapeVaultModel.write(IIJ)I -/
def mi_117 : MI := (⟨"TapeVaultModel", "write", "(IIJ)I"⟩, prog_10_method_8_code, 6, (some FieldType.int), [], [
  (0, .aload_n 0, 1, []), (1, .aload_n 0, 2, []), (2, .iload_n 1, 3, []), (3, .iconst 1, 4, []), (4, .invokevirtual 171, 7, [2, 2, 115, 7, 1001, 1003, 22, 47, 1004]), (7, .ifCond .ne 7, 10, [14]), (10, .iconst 1, 11, []), 
  (11, .goto 4, 14, [15]), (14, .iconst 0, 15, []), (15, .iconst 1, 16, []), (16, .invokevirtual 133, 19, [2, 2, 112, 7, 843, 845, 21, 47, 846]), (19, .ifCond .eq 5, 22, [24]), (22, .iconst 0, 23, []), 
  (23, .ireturn, 24, []), (24, .aload_n 0, 25, []), (25, .iload_n 2, 26, []), (26, .ifCond .lt 20, 29, [46]), (29, .iload_n 2, 30, []), (30, .aload_n 0, 31, []), (31, .getfield 19, 34, [79, 7, 4]), (34, .iload_n 1, 35, []), 
  (35, .iaload, 36, []), (36, .if_icmp .gt 10, 39, [46]), (39, .iload_n 2, 40, []), (40, .sipush 504, 43, []), (43, .if_icmp .le 7, 46, [50]), (46, .iconst 1, 47, []), (47, .goto 4, 50, [51]), (50, .iconst 0, 51, []), 
  (51, .iconst 2, 52, []), (52, .invokevirtual 133, 55, [2, 2, 112, 7, 843, 845, 21, 47, 846]), (55, .ifCond .eq 5, 58, [60]), (58, .iconst 0, 59, []), (59, .ireturn, 60, []), (60, .iconst 0, 61, []), 
  (61, .istore 5, 63, []), (63, .iload 5, 65, []), (65, .bipush 8, 67, []), (67, .if_icmp .ge 32, 70, [99]), (70, .aload_n 0, 71, []), (71, .getfield 27, 74, [81, 7, 6]), (74, .iload_n 1, 75, []), (75, .aaload, 76, []), 
  (76, .iload_n 2, 77, []), (77, .iload 5, 79, []), (79, .iadd, 80, []), (80, .lload_n 3, 81, []), (81, .bipush 56, 83, []), (83, .bipush 8, 85, []), (85, .iload 5, 87, []), (87, .imul, 88, []), (88, .isub, 89, []), 
  (89, .lshr, 90, []), (90, .l2i, 91, []), (91, .i2b, 92, []), (92, .bastore, 93, []), (93, .iinc 5 1, 96, []), (96, .goto (-33), 99, [63]), (99, .aload_n 0, 100, []), (100, .getfield 19, 103, [79, 7, 4]), 
  (103, .iload_n 1, 104, []), (104, .aload_n 0, 105, []), (105, .getfield 19, 108, [79, 7, 4]), (108, .iload_n 1, 109, []), (109, .iaload, 110, []), (110, .iload_n 2, 111, []), (111, .bipush 8, 113, []), 
  (113, .iadd, 114, []), (114, .invokestatic 179, 117, [11, 1013, 226, 46, 227]), (117, .iastore, 118, []), (118, .aload_n 0, 119, []), (119, .getfield 22, 122, [80, 7, 5]), (122, .iload_n 1, 123, []), 
  (123, .aload_n 0, 124, []), (124, .dup, 125, []), (125, .getfield 137, 128, [82, 7, 7]), (128, .iconst 1, 129, []), (129, .iadd, 130, []), (130, .dup_x1, 131, []), (131, .putfield 137, 134, [82, 7, 7]), 
  (134, .iastore, 135, []), (135, .aload_n 0, 136, []), (136, .getfield 19, 139, [79, 7, 4]), (139, .iload_n 1, 140, []), (140, .iaload, 141, []), (141, .ireturn, 142, [])])
/-- TapeVaultModel.cut(II)V -/
def mi_118 : MI := (⟨"TapeVaultModel", "cut", "(II)V"⟩, prog_10_method_9_code, 3, (none), [], [
  (0, .aload_n 0, 1, []), (1, .aload_n 0, 2, []), (2, .iload_n 1, 3, []), (3, .iconst 1, 4, []), (4, .invokevirtual 171, 7, [2, 2, 115, 7, 1001, 1003, 22, 47, 1004]), (7, .ifCond .ne 7, 10, [14]), (10, .iconst 1, 11, []), 
  (11, .goto 4, 14, [15]), (14, .iconst 0, 15, []), (15, .iconst 1, 16, []), (16, .invokevirtual 133, 19, [2, 2, 112, 7, 843, 845, 21, 47, 846]), (19, .ifCond .eq 4, 22, [23]), (22, .return_, 23, []), 
  (23, .aload_n 0, 24, []), (24, .iload_n 2, 25, []), (25, .ifCond .lt 13, 28, [38]), (28, .iload_n 2, 29, []), (29, .aload_n 0, 30, []), (30, .getfield 19, 33, [79, 7, 4]), (33, .iload_n 1, 34, []), (34, .iaload, 35, []), 
  (35, .if_icmp .le 7, 38, [42]), (38, .iconst 1, 39, []), (39, .goto 4, 42, [43]), (42, .iconst 0, 43, []), (43, .iconst 2, 44, []), (44, .invokevirtual 133, 47, [2, 2, 112, 7, 843, 845, 21, 47, 846]), 
  (47, .ifCond .eq 4, 50, [51]), (50, .return_, 51, []), (51, .aload_n 0, 52, []), (52, .getfield 19, 55, [79, 7, 4]), (55, .iload_n 1, 56, []), (56, .iload_n 2, 57, []), (57, .iastore, 58, []), (58, .aload_n 0, 59, []), 
  (59, .getfield 22, 62, [80, 7, 5]), (62, .iload_n 1, 63, []), (63, .aload_n 0, 64, []), (64, .dup, 65, []), (65, .getfield 137, 68, [82, 7, 7]), (68, .iconst 1, 69, []), (69, .iadd, 70, []), (70, .dup_x1, 71, []), 
  (71, .putfield 137, 74, [82, 7, 7]), (74, .iastore, 75, []), (75, .return_, 76, [])])
/-- TapeVaultModel.move(III)V -/
def mi_119 : MI := (⟨"TapeVaultModel", "move", "(III)V"⟩, prog_10_method_10_code, 6, (none), [], [
  (0, .aload_n 0, 1, []), (1, .iload_n 1, 2, []), (2, .iconst 1, 3, []), (3, .if_icmp .lt 40, 6, [43]), (6, .iload_n 1, 7, []), (7, .sipush 256, 10, []), (10, .if_icmp .ge 33, 13, [43]), (13, .aload_n 0, 14, []), 
  (14, .getfield 9, 17, [76, 7, 1]), (17, .iload_n 1, 18, []), (18, .iaload, 19, []), (19, .ifCond .eq 24, 22, [43]), (22, .aload_n 0, 23, []), (23, .iload_n 2, 24, []), (24, .iconst 2, 25, []), 
  (25, .invokevirtual 171, 28, [2, 2, 115, 7, 1001, 1003, 22, 47, 1004]), (28, .ifCond .eq 15, 31, [43]), (31, .iload_n 3, 32, []), (32, .iconst 1, 33, []), (33, .if_icmp .lt 10, 36, [43]), (36, .iload_n 3, 37, []), 
  (37, .sipush 30000, 40, []), (40, .if_icmp .le 7, 43, [47]), (43, .iconst 1, 44, []), (44, .goto 4, 47, [48]), (47, .iconst 0, 48, []), (48, .iconst 1, 49, []), 
  (49, .invokevirtual 133, 52, [2, 2, 112, 7, 843, 845, 21, 47, 846]), (52, .ifCond .eq 4, 55, [56]), (55, .return_, 56, []), (56, .aload_n 0, 57, []), (57, .iload_n 2, 58, []), (58, .iload_n 3, 59, []), 
  (59, .invokevirtual 175, 62, [2, 2, 116, 7, 1005, 1007, 23, 47, 1008]), (62, .istore 4, 64, []), (64, .aload_n 0, 65, []), (65, .iload 4, 67, []), (67, .ifCond .lt 13, 70, [80]), (70, .iload 4, 72, []), 
  (72, .iload_n 1, 73, []), (73, .if_icmp .eq 7, 76, [80]), (76, .iconst 1, 77, []), (77, .goto 4, 80, [81]), (80, .iconst 0, 81, []), (81, .iconst 2, 82, []), 
  (82, .invokevirtual 133, 85, [2, 2, 112, 7, 843, 845, 21, 47, 846]), (85, .ifCond .eq 4, 88, [89]), (88, .return_, 89, []), (89, .iload_n 2, 90, []), (90, .istore 5, 92, []), (92, .iload 5, 94, []), 
  (94, .ifCond .eq 21, 97, [115]), (97, .iload 5, 99, []), (99, .iload_n 1, 100, []), (100, .if_icmp .eq 15, 103, [115]), (103, .aload_n 0, 104, []), (104, .getfield 13, 107, [77, 7, 2]), (107, .iload 5, 109, []), 
  (109, .iaload, 110, []), (110, .istore 5, 112, []), (112, .goto (-20), 115, [92]), (115, .aload_n 0, 116, []), (116, .iload 5, 118, []), (118, .iload_n 1, 119, []), (119, .if_icmp .ne 7, 122, [126]), 
  (122, .iconst 1, 123, []), (123, .goto 4, 126, [127]), (126, .iconst 0, 127, []), (127, .iconst 3, 128, []), (128, .invokevirtual 133, 131, [2, 2, 112, 7, 843, 845, 21, 47, 846]), (131, .ifCond .eq 4, 134, [135]), 
  (134, .return_, 135, []), (135, .aload_n 0, 136, []), (136, .dup, 137, []), (137, .getfield 137, 140, [82, 7, 7]), (140, .iconst 1, 141, []), (141, .iadd, 142, []), (142, .putfield 137, 145, [82, 7, 7]), 
  (145, .aload_n 0, 146, []), (146, .getfield 22, 149, [80, 7, 5]), (149, .aload_n 0, 150, []), (150, .getfield 13, 153, [77, 7, 2]), (153, .iload_n 1, 154, []), (154, .iaload, 155, []), (155, .aload_n 0, 156, []), 
  (156, .getfield 137, 159, [82, 7, 7]), (159, .iastore, 160, []), (160, .aload_n 0, 161, []), (161, .getfield 22, 164, [80, 7, 5]), (164, .iload_n 2, 165, []), (165, .aload_n 0, 166, []), 
  (166, .getfield 137, 169, [82, 7, 7]), (169, .iastore, 170, []), (170, .aload_n 0, 171, []), (171, .getfield 22, 174, [80, 7, 5]), (174, .iload_n 1, 175, []), (175, .aload_n 0, 176, []), 
  (176, .getfield 137, 179, [82, 7, 7]), (179, .iastore, 180, []), (180, .aload_n 0, 181, []), (181, .getfield 13, 184, [77, 7, 2]), (184, .iload_n 1, 185, []), (185, .iload_n 2, 186, []), (186, .iastore, 187, []), 
  (187, .aload_n 0, 188, []), (188, .getfield 16, 191, [78, 7, 3]), (191, .iload_n 1, 192, []), (192, .iload_n 3, 193, []), (193, .iastore, 194, []), (194, .return_, 195, [])])
/-- TapeVaultModel.remove(I)V -/
def mi_120 : MI := (⟨"TapeVaultModel", "remove", "(I)V"⟩, prog_10_method_12_code, 2, (none), [], [
  (0, .aload_n 0, 1, []), (1, .iload_n 1, 2, []), (2, .iconst 1, 3, []), (3, .if_icmp .lt 19, 6, [22]), (6, .iload_n 1, 7, []), (7, .sipush 256, 10, []), (10, .if_icmp .ge 12, 13, [22]), (13, .aload_n 0, 14, []), 
  (14, .getfield 9, 17, [76, 7, 1]), (17, .iload_n 1, 18, []), (18, .iaload, 19, []), (19, .ifCond .ne 7, 22, [26]), (22, .iconst 1, 23, []), (23, .goto 4, 26, [27]), (26, .iconst 0, 27, []), (27, .iconst 1, 28, []), 
  (28, .invokevirtual 133, 31, [2, 2, 112, 7, 843, 845, 21, 47, 846]), (31, .ifCond .eq 4, 34, [35]), (34, .return_, 35, []), (35, .aload_n 0, 36, []), (36, .aload_n 0, 37, []), (37, .getfield 9, 40, [76, 7, 1]), 
  (40, .iload_n 1, 41, []), (41, .iaload, 42, []), (42, .iconst 2, 43, []), (43, .if_icmp .ne 15, 46, [58]), (46, .aload_n 0, 47, []), (47, .iload_n 1, 48, []), 
  (48, .invokevirtual 184, 51, [2, 1, 121, 7, 1026, 1028, 24, 47, 1029]), (51, .ifCond .le 7, 54, [58]), (54, .iconst 1, 55, []), (55, .goto 4, 58, [59]), (58, .iconst 0, 59, []), (59, .iconst 2, 60, []), 
  (60, .invokevirtual 133, 63, [2, 2, 112, 7, 843, 845, 21, 47, 846]), (63, .ifCond .eq 4, 66, [67]), (66, .return_, 67, []), (67, .aload_n 0, 68, []), (68, .getfield 9, 71, [76, 7, 1]), (71, .iload_n 1, 72, []), 
  (72, .iconst 0, 73, []), (73, .iastore, 74, []), (74, .aload_n 0, 75, []), (75, .getfield 22, 78, [80, 7, 5]), (78, .aload_n 0, 79, []), (79, .getfield 13, 82, [77, 7, 2]), (82, .iload_n 1, 83, []), (83, .iaload, 84, []), 
  (84, .aload_n 0, 85, []), (85, .dup, 86, []), (86, .getfield 137, 89, [82, 7, 7]), (89, .iconst 1, 90, []), (90, .iadd, 91, []), (91, .dup_x1, 92, []), (92, .putfield 137, 95, [82, 7, 7]), (95, .iastore, 96, []), 
  (96, .return_, 97, [])])
/-- TapeVaultModel.entries(I)I -/
def mi_121 : MI := (⟨"TapeVaultModel", "entries", "(I)I"⟩, prog_10_method_11_code, 4, (some FieldType.int), [], [
  (0, .iconst 0, 1, []), (1, .istore_n 2, 2, []), (2, .iconst 1, 3, []), (3, .istore_n 3, 4, []), (4, .iload_n 3, 5, []), (5, .sipush 256, 8, []), (8, .if_icmp .ge 31, 11, [39]), (11, .aload_n 0, 12, []), 
  (12, .getfield 9, 15, [76, 7, 1]), (15, .iload_n 3, 16, []), (16, .iaload, 17, []), (17, .ifCond .eq 16, 20, [33]), (20, .aload_n 0, 21, []), (21, .getfield 13, 24, [77, 7, 2]), (24, .iload_n 3, 25, []), 
  (25, .iaload, 26, []), (26, .iload_n 1, 27, []), (27, .if_icmp .ne 6, 30, [33]), (30, .iinc 2 1, 33, []), (33, .iinc 3 1, 36, []), (36, .goto (-32), 39, [4]), (39, .iload_n 2, 40, []), (40, .ireturn, 41, [])])
/-- TapeVaultModel.dump(I)I -/
def mi_122 : MI := (⟨"TapeVaultModel", "dump", "(I)I"⟩, prog_10_method_16_code, 6, (some FieldType.int), [], [
  (0, .aload_n 0, 1, []), (1, .iload_n 1, 2, []), (2, .ifCond .lt 9, 5, [11]), (5, .iload_n 1, 6, []), (6, .bipush 9, 8, []), (8, .if_icmp .le 7, 11, [15]), (11, .iconst 1, 12, []), (12, .goto 4, 15, [16]), 
  (15, .iconst 0, 16, []), (16, .iconst 1, 17, []), (17, .invokevirtual 133, 20, [2, 2, 112, 7, 843, 845, 21, 47, 846]), (20, .ifCond .eq 5, 23, [25]), (23, .iconst 0, 24, []), (24, .ireturn, 25, []), 
  (25, .iconst (-1), 26, []), (26, .istore_n 2, 27, []), (27, .iconst 0, 28, []), (28, .istore_n 3, 29, []), (29, .iconst 2, 30, []), (30, .istore 4, 32, []), (32, .iconst 0, 33, []), (33, .istore 5, 35, []), 
  (35, .iload 5, 37, []), (37, .aload_n 0, 38, []), (38, .getfield 146, 41, [91, 7, 16]), (41, .if_icmp .ge 23, 44, [64]), (44, .aload_n 0, 45, []), (45, .getfield 30, 48, [85, 7, 10]), (48, .iload 5, 50, []), 
  (50, .iaload, 51, []), (51, .iload_n 1, 52, []), (52, .if_icmp .ge 6, 55, [58]), (55, .iload 5, 57, []), (57, .istore_n 2, 58, []), (58, .iinc 5 1, 61, []), (61, .goto (-26), 64, [35]), (64, .iconst 0, 65, []), 
  (65, .istore 5, 67, []), (67, .iload 5, 69, []), (69, .sipush 256, 72, []), (72, .if_icmp .ge 66, 75, [138]), (75, .aload_n 0, 76, []), (76, .iload 5, 78, []), (78, .iload_n 2, 79, []), 
  (79, .invokevirtual 191, 82, [2, 2, 123, 7, 1034, 1036, 25, 47, 1037]), (82, .ifCond .eq 50, 85, [132]), (85, .iinc 3 1, 88, []), (88, .iload 4, 90, []), (90, .iconst 1, 91, []), (91, .aload_n 0, 92, []), 
  (92, .getfield 9, 95, [76, 7, 1]), (95, .iload 5, 97, []), (97, .iaload, 98, []), (98, .iconst 1, 99, []), (99, .if_icmp .ne 18, 102, [117]), (102, .aload_n 0, 103, []), (103, .getfield 19, 106, [79, 7, 4]), 
  (106, .iload 5, 108, []), (108, .iaload, 109, []), (109, .bipush 64, 111, []), (111, .invokestatic 188, 114, [0, 2, 124, 1038, 1039, 47, 1040]), (114, .goto 14, 117, [128]), (117, .aload_n 0, 118, []), 
  (118, .iload 5, 120, []), (120, .invokevirtual 184, 123, [2, 1, 121, 7, 1026, 1028, 24, 47, 1029]), (123, .bipush 21, 125, []), (125, .invokestatic 188, 128, [0, 2, 124, 1038, 1039, 47, 1040]), (128, .iadd, 129, []), 
  (129, .iadd, 130, []), (130, .istore 4, 132, []), (132, .iinc 5 1, 135, []), (135, .goto (-68), 138, [67]), (138, .iload 4, 140, []), (140, .iload_n 3, 141, []), (141, .bipush 31, 143, []), 
  (143, .invokestatic 188, 146, [0, 2, 124, 1038, 1039, 47, 1040]), (146, .iadd, 147, []), (147, .istore 4, 149, []), (149, .aload_n 0, 150, []), (150, .aload_n 0, 151, []), (151, .getfield 146, 154, [91, 7, 16]), 
  (154, .bipush 100, 156, []), (156, .if_icmp .eq 23, 159, [179]), (159, .aload_n 0, 160, []), (160, .getfield 143, 163, [84, 7, 9]), (163, .iload 4, 165, []), (165, .iadd, 166, []), (166, .aload_n 0, 167, []), 
  (167, .getfield 140, 170, [83, 7, 8]), (170, .invokestatic 194, 173, [0, 2, 125, 1041, 1042, 47, 1043]), (173, .sipush 4000, 176, []), (176, .if_icmp .le 7, 179, [183]), (179, .iconst 1, 180, []), 
  (180, .goto 4, 183, [184]), (183, .iconst 0, 184, []), (184, .iconst 2, 185, []), (185, .invokevirtual 133, 188, [2, 2, 112, 7, 843, 845, 21, 47, 846]), (188, .ifCond .eq 5, 191, [193]), (191, .iconst 0, 192, []), 
  (192, .ireturn, 193, []), (193, .aload_n 0, 194, []), (194, .getfield 30, 197, [85, 7, 10]), (197, .aload_n 0, 198, []), (198, .getfield 146, 201, [91, 7, 16]), (201, .iload_n 1, 202, []), (202, .iastore, 203, []), 
  (203, .aload_n 0, 204, []), (204, .getfield 33, 207, [86, 7, 11]), (207, .aload_n 0, 208, []), (208, .getfield 146, 211, [91, 7, 16]), (211, .aload_n 0, 212, []), (212, .getfield 137, 215, [82, 7, 7]), 
  (215, .iastore, 216, []), (216, .aload_n 0, 217, []), (217, .getfield 36, 220, [87, 7, 12]), (220, .aload_n 0, 221, []), (221, .getfield 146, 224, [91, 7, 16]), (224, .iload_n 2, 225, []), (225, .iastore, 226, []), 
  (226, .aload_n 0, 227, []), (227, .getfield 39, 230, [88, 7, 13]), (230, .aload_n 0, 231, []), (231, .getfield 146, 234, [91, 7, 16]), (234, .aload_n 0, 235, []), (235, .getfield 143, 238, [84, 7, 9]), 
  (238, .iastore, 239, []), (239, .aload_n 0, 240, []), (240, .getfield 42, 243, [89, 7, 14]), (243, .aload_n 0, 244, []), (244, .getfield 146, 247, [91, 7, 16]), (247, .aload_n 0, 248, []), 
  (248, .getfield 149, 251, [102, 7, 27]), (251, .iastore, 252, []), (252, .iconst 0, 253, []), (253, .istore 5, 255, []), (255, .iload 5, 257, []), (257, .sipush 256, 260, []), (260, .if_icmp .ge 52, 263, [312]), 
  (263, .aload_n 0, 264, []), (264, .getfield 47, 267, [90, 7, 15]), (267, .aload_n 0, 268, []), (268, .getfield 146, 271, [91, 7, 16]), (271, .aaload, 272, []), (272, .iload 5, 274, []), (274, .aload_n 0, 275, []), 
  (275, .getfield 9, 278, [76, 7, 1]), (278, .iload 5, 280, []), (280, .iaload, 281, []), (281, .ifCond .eq 7, 284, [288]), (284, .iconst 1, 285, []), (285, .goto 4, 288, [289]), (288, .iconst 0, 289, []), 
  (289, .bastore, 290, []), (290, .aload_n 0, 291, []), (291, .iload 5, 293, []), (293, .iload_n 2, 294, []), (294, .invokevirtual 191, 297, [2, 2, 123, 7, 1034, 1036, 25, 47, 1037]), (297, .ifCond .eq 9, 300, [306]), 
  (300, .aload_n 0, 301, []), (301, .iload 5, 303, []), (303, .invokevirtual 197, 306, [2, 1, 126, 7, 1044, 1046, 26, 47, 1047]), (306, .iinc 5 1, 309, []), (309, .goto (-54), 312, [255]), (312, .aload_n 0, 313, []), 
  (313, .dup, 314, []), (314, .getfield 143, 317, [84, 7, 9]), (317, .iload 4, 319, []), (319, .iadd, 320, []), (320, .putfield 143, 323, [84, 7, 9]), (323, .aload_n 0, 324, []), (324, .dup, 325, []), 
  (325, .getfield 146, 328, [91, 7, 16]), (328, .iconst 1, 329, []), (329, .iadd, 330, []), (330, .putfield 146, 333, [91, 7, 16]), (333, .aload_n 0, 334, []), (334, .getfield 39, 337, [88, 7, 13]), 
  (337, .aload_n 0, 338, []), (338, .getfield 146, 341, [91, 7, 16]), (341, .aload_n 0, 342, []), (342, .getfield 143, 345, [84, 7, 9]), (345, .iastore, 346, []), (346, .aload_n 0, 347, []), 
  (347, .getfield 42, 350, [89, 7, 14]), (350, .aload_n 0, 351, []), (351, .getfield 146, 354, [91, 7, 16]), (354, .aload_n 0, 355, []), (355, .getfield 149, 358, [102, 7, 27]), (358, .iastore, 359, []), 
  (359, .aload_n 0, 360, []), (360, .getfield 146, 363, [91, 7, 16]), (363, .iconst 1, 364, []), (364, .isub, 365, []), (365, .ireturn, 366, [])])
/-- TapeVaultModel.changed(II)Z -/
def mi_123 : MI := (⟨"TapeVaultModel", "changed", "(II)Z"⟩, prog_10_method_17_code, 3, (some FieldType.boolean), [], [
  (0, .aload_n 0, 1, []), (1, .getfield 9, 4, [76, 7, 1]), (4, .iload_n 1, 5, []), (5, .iaload, 6, []), (6, .ifCond .eq 26, 9, [32]), (9, .iload_n 2, 10, []), (10, .ifCond .lt 18, 13, [28]), (13, .aload_n 0, 14, []), 
  (14, .getfield 22, 17, [80, 7, 5]), (17, .iload_n 1, 18, []), (18, .iaload, 19, []), (19, .aload_n 0, 20, []), (20, .getfield 33, 23, [86, 7, 11]), (23, .iload_n 2, 24, []), (24, .iaload, 25, []), 
  (25, .if_icmp .le 7, 28, [32]), (28, .iconst 1, 29, []), (29, .goto 4, 32, [33]), (32, .iconst 0, 33, []), (33, .ireturn, 34, [])])
/-- TapeVaultModel.parts(II)I -/
def mi_124 : MI := (⟨"TapeVaultModel", "parts", "(II)I"⟩, prog_10_method_13_code, 2, (some FieldType.int), [], [
  (0, .iload_n 0, 1, []), (1, .iload_n 1, 2, []), (2, .iadd, 3, []), (3, .iconst 1, 4, []), (4, .isub, 5, []), (5, .iload_n 1, 6, []), (6, .idiv, 7, []), (7, .ireturn, 8, [])])
/-- TapeVaultModel.all(II)I -/
def mi_125 : MI := (⟨"TapeVaultModel", "all", "(II)I"⟩, prog_10_method_15_code, 2, (some FieldType.int), [], [
  (0, .iload_n 0, 1, []), (1, .iload_n 0, 2, []), (2, .iload_n 1, 3, []), (3, .iconst 1, 4, []), (4, .isub, 5, []), (5, .invokestatic 188, 8, [0, 2, 124, 1038, 1039, 47, 1040]), (8, .iadd, 9, []), (9, .ireturn, 10, [])])
/-- TapeVaultModel.record(I)V -/
def mi_126 : MI := (⟨"TapeVaultModel", "record", "(I)V"⟩, prog_10_method_18_code, 7, (none), [], [
  (0, .aload_n 0, 1, []), (1, .dup, 2, []), (2, .getfield 149, 5, [102, 7, 27]), (5, .dup_x1, 6, []), (6, .iconst 1, 7, []), (7, .iadd, 8, []), (8, .putfield 149, 11, [102, 7, 27]), (11, .istore_n 2, 12, []), 
  (12, .aload_n 0, 13, []), (13, .getfield 50, 16, [92, 7, 17]), (16, .iload_n 2, 17, []), (17, .iload_n 1, 18, []), (18, .iastore, 19, []), (19, .aload_n 0, 20, []), (20, .getfield 53, 23, [93, 7, 18]), 
  (23, .iload_n 2, 24, []), (24, .aload_n 0, 25, []), (25, .getfield 9, 28, [76, 7, 1]), (28, .iload_n 1, 29, []), (29, .iaload, 30, []), (30, .iastore, 31, []), (31, .aload_n 0, 32, []), 
  (32, .getfield 56, 35, [94, 7, 19]), (35, .iload_n 2, 36, []), (36, .aload_n 0, 37, []), (37, .getfield 16, 40, [78, 7, 3]), (40, .iload_n 1, 41, []), (41, .iaload, 42, []), (42, .iastore, 43, []), 
  (43, .aload_n 0, 44, []), (44, .getfield 59, 47, [95, 7, 20]), (47, .iload_n 2, 48, []), (48, .aload_n 0, 49, []), (49, .getfield 13, 52, [77, 7, 2]), (52, .iload_n 1, 53, []), (53, .iaload, 54, []), 
  (54, .iastore, 55, []), (55, .aload_n 0, 56, []), (56, .getfield 65, 59, [97, 7, 22]), (59, .iload_n 2, 60, []), (60, .aload_n 0, 61, []), (61, .getfield 22, 64, [80, 7, 5]), (64, .iload_n 1, 65, []), 
  (65, .iaload, 66, []), (66, .iastore, 67, []), (67, .aload_n 0, 68, []), (68, .getfield 9, 71, [76, 7, 1]), (71, .iload_n 1, 72, []), (72, .iaload, 73, []), (73, .iconst 1, 74, []), (74, .if_icmp .ne 68, 77, [142]), 
  (77, .aload_n 0, 78, []), (78, .getfield 62, 81, [96, 7, 21]), (81, .iload_n 2, 82, []), (82, .aload_n 0, 83, []), (83, .getfield 19, 86, [79, 7, 4]), (86, .iload_n 1, 87, []), (87, .iaload, 88, []), 
  (88, .iastore, 89, []), (89, .aload_n 0, 90, []), (90, .getfield 68, 93, [98, 7, 23]), (93, .iload_n 2, 94, []), (94, .aload_n 0, 95, []), (95, .getfield 152, 98, [103, 7, 28]), (98, .iastore, 99, []), 
  (99, .iconst 0, 100, []), (100, .istore_n 3, 101, []), (101, .iload_n 3, 102, []), (102, .aload_n 0, 103, []), (103, .getfield 19, 106, [79, 7, 4]), (106, .iload_n 1, 107, []), (107, .iaload, 108, []), 
  (108, .if_icmp .ge 33, 111, [141]), (111, .aload_n 0, 112, []), (112, .getfield 72, 115, [99, 7, 24]), (115, .aload_n 0, 116, []), (116, .dup, 117, []), (117, .getfield 152, 120, [103, 7, 28]), (120, .dup_x1, 121, []), 
  (121, .iconst 1, 122, []), (122, .iadd, 123, []), (123, .putfield 152, 126, [103, 7, 28]), (126, .aload_n 0, 127, []), (127, .getfield 27, 130, [81, 7, 6]), (130, .iload_n 1, 131, []), (131, .aaload, 132, []), 
  (132, .iload_n 3, 133, []), (133, .baload, 134, []), (134, .bastore, 135, []), (135, .iinc 3 1, 138, []), (138, .goto (-37), 141, [101]), (141, .return_, 142, []), (142, .aload_n 0, 143, []), 
  (143, .getfield 62, 146, [96, 7, 21]), (146, .iload_n 2, 147, []), (147, .aload_n 0, 148, []), (148, .iload_n 1, 149, []), (149, .invokevirtual 184, 152, [2, 1, 121, 7, 1026, 1028, 24, 47, 1029]), 
  (152, .iastore, 153, []), (153, .aload_n 0, 154, []), (154, .getfield 68, 157, [98, 7, 23]), (157, .iload_n 2, 158, []), (158, .aload_n 0, 159, []), (159, .getfield 155, 162, [104, 7, 29]), (162, .iastore, 163, []), 
  (163, .iconst 0, 164, []), (164, .istore_n 3, 165, []), (165, .iconst 0, 166, []), (166, .istore 4, 168, []), (168, .iload 4, 170, []), (170, .aload_n 0, 171, []), (171, .getfield 62, 174, [96, 7, 21]), 
  (174, .iload_n 2, 175, []), (175, .iaload, 176, []), (176, .if_icmp .ge 123, 179, [299]), (179, .iconst (-1), 180, []), (180, .istore 5, 182, []), (182, .iconst 1, 183, []), (183, .istore 6, 185, []), 
  (185, .iload 6, 187, []), (187, .sipush 256, 190, []), (190, .if_icmp .ge 67, 193, [257]), (193, .aload_n 0, 194, []), (194, .getfield 9, 197, [76, 7, 1]), (197, .iload 6, 199, []), (199, .iaload, 200, []), 
  (200, .ifCond .eq 51, 203, [251]), (203, .aload_n 0, 204, []), (204, .getfield 13, 207, [77, 7, 2]), (207, .iload 6, 209, []), (209, .iaload, 210, []), (210, .iload_n 1, 211, []), (211, .if_icmp .ne 40, 214, [251]), 
  (214, .aload_n 0, 215, []), (215, .getfield 16, 218, [78, 7, 3]), (218, .iload 6, 220, []), (220, .iaload, 221, []), (221, .iload_n 3, 222, []), (222, .if_icmp .le 29, 225, [251]), (225, .iload 5, 227, []), 
  (227, .ifCond .lt 20, 230, [247]), (230, .aload_n 0, 231, []), (231, .getfield 16, 234, [78, 7, 3]), (234, .iload 6, 236, []), (236, .iaload, 237, []), (237, .aload_n 0, 238, []), (238, .getfield 16, 241, [78, 7, 3]), 
  (241, .iload 5, 243, []), (243, .iaload, 244, []), (244, .if_icmp .ge 7, 247, [251]), (247, .iload 6, 249, []), (249, .istore 5, 251, []), (251, .iinc 6 1, 254, []), (254, .goto (-69), 257, [185]), 
  (257, .aload_n 0, 258, []), (258, .getfield 16, 261, [78, 7, 3]), (261, .iload 5, 263, []), (263, .iaload, 264, []), (264, .istore_n 3, 265, []), (265, .aload_n 0, 266, []), (266, .getfield 77, 269, [100, 7, 25]), 
  (269, .aload_n 0, 270, []), (270, .getfield 155, 273, [104, 7, 29]), (273, .iload_n 3, 274, []), (274, .iastore, 275, []), (275, .aload_n 0, 276, []), (276, .getfield 80, 279, [101, 7, 26]), (279, .aload_n 0, 280, []), 
  (280, .dup, 281, []), (281, .getfield 155, 284, [104, 7, 29]), (284, .dup_x1, 285, []), (285, .iconst 1, 286, []), (286, .iadd, 287, []), (287, .putfield 155, 290, [104, 7, 29]), (290, .iload 5, 292, []), 
  (292, .iastore, 293, []), (293, .iinc 4 1, 296, []), (296, .goto (-128), 299, [168]), (299, .return_, 300, [])])
/-- TapeVaultModel.spoil(II)V -/
def mi_127 : MI := (⟨"TapeVaultModel", "spoil", "(II)V"⟩, prog_10_method_21_code, 3, (none), [], [
  (0, .aload_n 0, 1, []), (1, .aload_n 0, 2, []), (2, .iload_n 1, 3, []), (3, .iload_n 2, 4, []), (4, .invokevirtual 200, 7, [2, 2, 128, 7, 1052, 1054, 27, 47, 1055]), (7, .ifCond .ne 7, 10, [14]), (10, .iconst 1, 11, []), 
  (11, .goto 4, 14, [15]), (14, .iconst 0, 15, []), (15, .iconst 1, 16, []), (16, .invokevirtual 133, 19, [2, 2, 112, 7, 843, 845, 21, 47, 846]), (19, .ifCond .eq 4, 22, [23]), (22, .return_, 23, []), 
  (23, .iload_n 2, 24, []), (24, .ifCond .ne 13, 27, [37]), (27, .aload_n 0, 28, []), (28, .getfield 87, 31, [106, 7, 31]), (31, .iload_n 1, 32, []), (32, .iconst 1, 33, []), (33, .bastore, 34, []), 
  (34, .goto 15, 37, [49]), (37, .aload_n 0, 38, []), (38, .getfield 83, 41, [105, 7, 30]), (41, .aload_n 0, 42, []), (42, .iload_n 1, 43, []), (43, .iload_n 2, 44, []), 
  (44, .invokevirtual 203, 47, [2, 2, 129, 7, 1056, 1058, 28, 47, 1059]), (47, .iconst 1, 48, []), (48, .bastore, 49, []), (49, .return_, 50, [])])
/-- TapeVaultModel.isWritten(II)Z -/
def mi_128 : MI := (⟨"TapeVaultModel", "isWritten", "(II)Z"⟩, prog_10_method_20_code, 3, (some FieldType.boolean), [], [
  (0, .iload_n 1, 1, []), (1, .ifCond .lt 22, 4, [23]), (4, .iload_n 2, 5, []), (5, .ifCond .lt 18, 8, [23]), (8, .iload_n 2, 9, []), (9, .aload_n 0, 10, []), (10, .getfield 140, 13, [83, 7, 8]), 
  (13, .if_icmp .ge 10, 16, [23]), (16, .iload_n 1, 17, []), (17, .sipush 4000, 20, []), (20, .if_icmp .le 5, 23, [25]), (23, .iconst 0, 24, []), (24, .ireturn, 25, []), (25, .iload_n 2, 26, []), 
  (26, .ifCond .ne 30, 29, [56]), (29, .iload_n 1, 30, []), (30, .i2l, 31, []), (31, .aload_n 0, 32, []), (32, .getfield 140, 35, [83, 7, 8]), (35, .iconst 1, 36, []), (36, .isub, 37, []), (37, .i2l, 38, []), 
  (38, .lmul, 39, []), (39, .aload_n 0, 40, []), (40, .getfield 143, 43, [84, 7, 9]), (43, .i2l, 44, []), (44, .lcmp, 45, []), (45, .ifCond .ge 7, 48, [52]), (48, .iconst 1, 49, []), (49, .goto 36, 52, [85]), 
  (52, .iconst 0, 53, []), (53, .goto 32, 56, [85]), (56, .iload_n 1, 57, []), (57, .i2l, 58, []), (58, .aload_n 0, 59, []), (59, .getfield 140, 62, [83, 7, 8]), (62, .iconst 1, 63, []), (63, .isub, 64, []), 
  (64, .i2l, 65, []), (65, .lmul, 66, []), (66, .iload_n 2, 67, []), (67, .i2l, 68, []), (68, .ladd, 69, []), (69, .lconst 1, 70, []), (70, .lsub, 71, []), (71, .aload_n 0, 72, []), (72, .getfield 143, 75, [84, 7, 9]), 
  (75, .i2l, 76, []), (76, .lcmp, 77, []), (77, .ifCond .ge 7, 80, [84]), (80, .iconst 1, 81, []), (81, .goto 4, 84, [85]), (84, .iconst 0, 85, []), (85, .ireturn, 86, [])])
/-- TapeVaultModel.place(II)I -/
def mi_129 : MI := (⟨"TapeVaultModel", "place", "(II)I"⟩, prog_10_method_19_code, 3, (some FieldType.int), [], [
  (0, .iload_n 1, 1, []), (1, .aload_n 0, 2, []), (2, .getfield 140, 5, [83, 7, 8]), (5, .iconst 1, 6, []), (6, .isub, 7, []), (7, .imul, 8, []), (8, .iload_n 2, 9, []), (9, .iadd, 10, []), (10, .iconst 1, 11, []), 
  (11, .isub, 12, []), (12, .ireturn, 13, [])])
/-- TapeVaultModel.tape(III)J -/
def mi_130 : MI := (⟨"TapeVaultModel", "tape", "(III)J"⟩, prog_10_method_27_code, 7, (some FieldType.long), [], [
  (0, .aload_n 0, 1, []), (1, .iload_n 3, 2, []), (2, .ifCond .lt 9, 5, [11]), (5, .iload_n 3, 6, []), (6, .bipush 7, 8, []), (8, .if_icmp .le 7, 11, [15]), (11, .iconst 1, 12, []), (12, .goto 4, 15, [16]), 
  (15, .iconst 0, 16, []), (16, .iconst 1, 17, []), (17, .invokevirtual 133, 20, [2, 2, 112, 7, 843, 845, 21, 47, 846]), (20, .ifCond .eq 5, 23, [25]), (23, .lconst 0, 24, []), (24, .lreturn, 25, []), 
  (25, .aload_n 0, 26, []), (26, .aload_n 0, 27, []), (27, .iload_n 1, 28, []), (28, .iload_n 2, 29, []), (29, .invokevirtual 200, 32, [2, 2, 128, 7, 1052, 1054, 27, 47, 1055]), (32, .ifCond .ne 7, 35, [39]), 
  (35, .iconst 1, 36, []), (36, .goto 4, 39, [40]), (39, .iconst 0, 40, []), (40, .iconst 2, 41, []), (41, .invokevirtual 133, 44, [2, 2, 112, 7, 843, 845, 21, 47, 846]), (44, .ifCond .eq 5, 47, [49]), 
  (47, .lconst 0, 48, []), (48, .lreturn, 49, []), (49, .aload_n 0, 50, []), (50, .iload_n 2, 51, []), (51, .ifCond .ne 12, 54, [63]), (54, .aload_n 0, 55, []), (55, .getfield 87, 58, [106, 7, 31]), 
  (58, .iload_n 1, 59, []), (59, .baload, 60, []), (60, .goto 14, 63, [74]), (63, .aload_n 0, 64, []), (64, .getfield 83, 67, [105, 7, 30]), (67, .aload_n 0, 68, []), (68, .iload_n 1, 69, []), (69, .iload_n 2, 70, []), 
  (70, .invokevirtual 203, 73, [2, 2, 129, 7, 1056, 1058, 28, 47, 1059]), (73, .baload, 74, []), (74, .iconst 3, 75, []), (75, .invokevirtual 133, 78, [2, 2, 112, 7, 843, 845, 21, 47, 846]), (78, .ifCond .eq 5, 81, [83]), 
  (81, .lconst 0, 82, []), (82, .lreturn, 83, []), (83, .iload_n 2, 84, []), (84, .ifCond .ne 48, 87, [132]), (87, .iconst 0, 88, []), (88, .istore 4, 90, []), (90, .iload 4, 92, []), (92, .bipush 64, 94, []), 
  (94, .if_icmp .ge 17, 97, [111]), (97, .aload_n 0, 98, []), (98, .getfield 122, 101, [121, 7, 46]), (101, .iload 4, 103, []), (103, .iconst 0, 104, []), (104, .iastore, 105, []), (105, .iinc 4 1, 108, []), 
  (108, .goto (-18), 111, [90]), (111, .aload_n 0, 112, []), (112, .iconst 0, 113, []), (113, .putfield 206, 116, [122, 7, 47]), (116, .aload_n 0, 117, []), (117, .bipush 76, 119, []), (119, .iconst 1, 120, []), 
  (120, .invokevirtual 212, 123, [2, 2, 131, 7, 1064, 1066, 29, 47, 1067]), (123, .aload_n 0, 124, []), (124, .iload_n 1, 125, []), (125, .iconst 2, 126, []), 
  (126, .invokevirtual 212, 129, [2, 2, 131, 7, 1064, 1066, 29, 47, 1067]), (129, .goto 13, 132, [142]), (132, .aload_n 0, 133, []), (133, .aload_n 0, 134, []), (134, .iload_n 1, 135, []), (135, .iload_n 2, 136, []), 
  (136, .invokevirtual 203, 139, [2, 2, 129, 7, 1056, 1058, 28, 47, 1059]), (139, .invokevirtual 228, 142, [2, 1, 132, 7, 1068, 1070, 30, 47, 1071]), (142, .lconst 0, 143, []), (143, .lstore 4, 145, []), 
  (145, .iconst 0, 146, []), (146, .istore 6, 148, []), (148, .iload 6, 150, []), (150, .bipush 8, 152, []), (152, .if_icmp .ge 30, 155, [182]), (155, .lload 4, 157, []), (157, .bipush 8, 159, []), (159, .lshl, 160, []), 
  (160, .aload_n 0, 161, []), (161, .getfield 122, 164, [121, 7, 46]), (164, .bipush 8, 166, []), (166, .iload_n 3, 167, []), (167, .imul, 168, []), (168, .iload 6, 170, []), (170, .iadd, 171, []), (171, .iaload, 172, []), 
  (172, .i2l, 173, []), (173, .lor, 174, []), (174, .lstore 4, 176, []), (176, .iinc 6 1, 179, []), (179, .goto (-31), 182, [148]), (182, .lload 4, 184, []), (184, .lreturn, 185, [])])
/-- TapeVaultModel.put(II)V -/
def mi_131 : MI := (⟨"TapeVaultModel", "put", "(II)V"⟩, prog_10_method_22_code, 4, (none), [], [
  (0, .iload_n 2, 1, []), (1, .iconst 1, 2, []), (2, .isub, 3, []), (3, .istore_n 3, 4, []), (4, .iload_n 3, 5, []), (5, .ifCond .lt 35, 8, [40]), (8, .aload_n 0, 9, []), (9, .getfield 122, 12, [121, 7, 46]), 
  (12, .aload_n 0, 13, []), (13, .dup, 14, []), (14, .getfield 206, 17, [122, 7, 47]), (17, .dup_x1, 18, []), (18, .iconst 1, 19, []), (19, .iadd, 20, []), (20, .putfield 206, 23, [122, 7, 47]), (23, .iload_n 1, 24, []), 
  (24, .bipush 8, 26, []), (26, .iload_n 3, 27, []), (27, .imul, 28, []), (28, .ishr, 29, []), (29, .sipush 255, 32, []), (32, .iand, 33, []), (33, .iastore, 34, []), (34, .iinc 3 (-1), 37, []), (37, .goto (-33), 40, [4]), 
  (40, .return_, 41, [])])
/-- TapeVaultModel.make(I)V -/
def mi_132 : MI := (⟨"TapeVaultModel", "make", "(I)V"⟩, prog_10_method_25_code, 7, (none), [], [
  (0, .iconst 0, 1, []), (1, .istore_n 2, 2, []), (2, .iload_n 2, 3, []), (3, .bipush 64, 5, []), (5, .if_icmp .ge 16, 8, [21]), (8, .aload_n 0, 9, []), (9, .getfield 122, 12, [121, 7, 46]), (12, .iload_n 2, 13, []), 
  (13, .iconst 0, 14, []), (14, .iastore, 15, []), (15, .iinc 2 1, 18, []), (18, .goto (-16), 21, [2]), (21, .aload_n 0, 22, []), (22, .iconst 0, 23, []), (23, .putfield 206, 26, [122, 7, 47]), (26, .iconst 0, 27, []), 
  (27, .istore_n 2, 28, []), (28, .aload_n 0, 29, []), (29, .getfield 39, 32, [88, 7, 13]), (32, .iload_n 2, 33, []), (33, .iconst 1, 34, []), (34, .iadd, 35, []), (35, .iaload, 36, []), (36, .iload_n 1, 37, []), 
  (37, .if_icmp .gt 9, 40, [46]), (40, .iinc 2 1, 43, []), (43, .goto (-15), 46, [28]), (46, .iload_n 1, 47, []), (47, .aload_n 0, 48, []), (48, .getfield 39, 51, [88, 7, 13]), (51, .iload_n 2, 52, []), 
  (52, .iaload, 53, []), (53, .isub, 54, []), (54, .istore_n 3, 55, []), (55, .iload_n 3, 56, []), (56, .ifCond .ne 64, 59, [120]), (59, .aload_n 0, 60, []), (60, .bipush 72, 62, []), (62, .iconst 1, 63, []), 
  (63, .invokevirtual 212, 66, [2, 2, 131, 7, 1064, 1066, 29, 47, 1067]), (66, .aload_n 0, 67, []), (67, .aload_n 0, 68, []), (68, .getfield 30, 71, [85, 7, 10]), (71, .iload_n 2, 72, []), (72, .iaload, 73, []), 
  (73, .iconst 1, 74, []), (74, .invokevirtual 212, 77, [2, 2, 131, 7, 1064, 1066, 29, 47, 1067]), (77, .aload_n 0, 78, []), (78, .iload_n 2, 79, []), (79, .iconst 2, 80, []), 
  (80, .invokevirtual 212, 83, [2, 2, 131, 7, 1064, 1066, 29, 47, 1067]), (83, .aload_n 0, 84, []), (84, .aload_n 0, 85, []), (85, .getfield 33, 88, [86, 7, 11]), (88, .iload_n 2, 89, []), (89, .iaload, 90, []), 
  (90, .iconst 4, 91, []), (91, .invokevirtual 212, 94, [2, 2, 131, 7, 1064, 1066, 29, 47, 1067]), (94, .aload_n 0, 95, []), (95, .aload_n 0, 96, []), (96, .getfield 36, 99, [87, 7, 12]), (99, .iload_n 2, 100, []), 
  (100, .iaload, 101, []), (101, .iconst 1, 102, []), (102, .iadd, 103, []), (103, .iconst 2, 104, []), (104, .invokevirtual 212, 107, [2, 2, 131, 7, 1064, 1066, 29, 47, 1067]), (107, .aload_n 0, 108, []), 
  (108, .aload_n 0, 109, []), (109, .iload_n 2, 110, []), (110, .invokevirtual 209, 113, [2, 1, 133, 7, 1072, 1074, 31, 47, 1075]), (113, .iconst 2, 114, []), 
  (114, .invokevirtual 212, 117, [2, 2, 131, 7, 1064, 1066, 29, 47, 1067]), (117, .goto 192, 120, [309]), (120, .iload_n 3, 121, []), (121, .iconst 1, 122, []), (122, .if_icmp .ne 67, 125, [189]), 
  (125, .aload_n 0, 126, []), (126, .bipush 77, 128, []), (128, .iconst 1, 129, []), (129, .invokevirtual 212, 132, [2, 2, 131, 7, 1064, 1066, 29, 47, 1067]), (132, .iconst 0, 133, []), (133, .istore 4, 135, []), 
  (135, .iload 4, 137, []), (137, .sipush 256, 140, []), (140, .if_icmp .ge 46, 143, [186]), (143, .aload_n 0, 144, []), (144, .getfield 47, 147, [90, 7, 15]), (147, .iload_n 2, 148, []), (148, .aaload, 149, []), 
  (149, .iload 4, 151, []), (151, .baload, 152, []), (152, .ifCond .eq 28, 155, [180]), (155, .aload_n 0, 156, []), (156, .getfield 122, 159, [121, 7, 46]), (159, .iconst 1, 160, []), (160, .iload 4, 162, []), 
  (162, .bipush 8, 164, []), (164, .idiv, 165, []), (165, .iadd, 166, []), (166, .dup2, 167, []), (167, .iaload, 168, []), (168, .iconst 1, 169, []), (169, .bipush 7, 171, []), (171, .iload 4, 173, []), 
  (173, .bipush 8, 175, []), (175, .irem, 176, []), (176, .isub, 177, []), (177, .ishl, 178, []), (178, .ior, 179, []), (179, .iastore, 180, []), (180, .iinc 4 1, 183, []), (183, .goto (-48), 186, [135]), 
  (186, .goto 123, 189, [309]), (189, .iload_n 3, 190, []), (190, .iconst 2, 191, []), (191, .aload_n 0, 192, []), (192, .iload_n 2, 193, []), (193, .invokevirtual 216, 196, [2, 1, 134, 7, 1076, 1078, 32, 47, 1079]), 
  (196, .iadd, 197, []), (197, .if_icmp .ge 98, 200, [295]), (200, .aload_n 0, 201, []), (201, .getfield 42, 204, [89, 7, 14]), (204, .iload_n 2, 205, []), (205, .iaload, 206, []), (206, .bipush 31, 208, []), 
  (208, .iload_n 3, 209, []), (209, .iconst 2, 210, []), (210, .isub, 211, []), (211, .imul, 212, []), (212, .iadd, 213, []), (213, .istore 4, 215, []), (215, .iload 4, 217, []), (217, .bipush 31, 219, []), 
  (219, .iadd, 220, []), (220, .aload_n 0, 221, []), (221, .getfield 42, 224, [89, 7, 14]), (224, .iload_n 2, 225, []), (225, .iconst 1, 226, []), (226, .iadd, 227, []), (227, .iaload, 228, []), 
  (228, .invokestatic 219, 231, [12, 1080, 596, 46, 597]), (231, .istore 5, 233, []), (233, .aload_n 0, 234, []), (234, .bipush 73, 236, []), (236, .iconst 1, 237, []), 
  (237, .invokevirtual 212, 240, [2, 2, 131, 7, 1064, 1066, 29, 47, 1067]), (240, .aload_n 0, 241, []), (241, .iload 5, 243, []), (243, .iload 4, 245, []), (245, .isub, 246, []), (246, .iconst 1, 247, []), 
  (247, .invokevirtual 212, 250, [2, 2, 131, 7, 1064, 1066, 29, 47, 1067]), (250, .iload 4, 252, []), (252, .istore 6, 254, []), (254, .iload 6, 256, []), (256, .iload 5, 258, []), (258, .if_icmp .ge 34, 261, [292]), 
  (261, .aload_n 0, 262, []), (262, .aload_n 0, 263, []), (263, .getfield 50, 266, [92, 7, 17]), (266, .iload 6, 268, []), (268, .iaload, 269, []), (269, .iconst 1, 270, []), 
  (270, .invokevirtual 212, 273, [2, 2, 131, 7, 1064, 1066, 29, 47, 1067]), (273, .aload_n 0, 274, []), (274, .iconst 1, 275, []), (275, .aload_n 0, 276, []), (276, .iload 6, 278, []), 
  (278, .invokevirtual 222, 281, [2, 1, 135, 7, 1081, 1083, 33, 47, 1084]), (281, .iadd, 282, []), (282, .iconst 1, 283, []), (283, .invokevirtual 212, 286, [2, 2, 131, 7, 1064, 1066, 29, 47, 1067]), 
  (286, .iinc 6 1, 289, []), (289, .goto (-35), 292, [254]), (292, .goto 17, 295, [309]), (295, .aload_n 0, 296, []), (296, .iload_n 2, 297, []), (297, .iload_n 3, 298, []), (298, .iconst 2, 299, []), (299, .isub, 300, []), 
  (300, .aload_n 0, 301, []), (301, .iload_n 2, 302, []), (302, .invokevirtual 216, 305, [2, 1, 134, 7, 1076, 1078, 32, 47, 1079]), (305, .isub, 306, []), 
  (306, .invokevirtual 225, 309, [2, 2, 136, 7, 1085, 1087, 34, 47, 1088]), (309, .return_, 310, [])])
/-- TapeVaultModel.many(I)I -/
def mi_133 : MI := (⟨"TapeVaultModel", "many", "(I)I"⟩, prog_10_method_23_code, 2, (some FieldType.int), [], [
  (0, .aload_n 0, 1, []), (1, .getfield 42, 4, [89, 7, 14]), (4, .iload_n 1, 5, []), (5, .iconst 1, 6, []), (6, .iadd, 7, []), (7, .iaload, 8, []), (8, .aload_n 0, 9, []), (9, .getfield 42, 12, [89, 7, 14]), 
  (12, .iload_n 1, 13, []), (13, .iaload, 14, []), (14, .isub, 15, []), (15, .ireturn, 16, [])])
/-- TapeVaultModel.indexes(I)I -/
def mi_134 : MI := (⟨"TapeVaultModel", "indexes", "(I)I"⟩, prog_10_method_24_code, 2, (some FieldType.int), [], [
  (0, .aload_n 0, 1, []), (1, .iload_n 1, 2, []), (2, .invokevirtual 209, 5, [2, 1, 133, 7, 1072, 1074, 31, 47, 1075]), (5, .bipush 31, 7, []), (7, .invokestatic 188, 10, [0, 2, 124, 1038, 1039, 47, 1040]), 
  (10, .ireturn, 11, [])])
/-- TapeVaultModel.contents(I)I -/
def mi_135 : MI := (⟨"TapeVaultModel", "contents", "(I)I"⟩, prog_10_method_14_code, 2, (some FieldType.int), [], [
  (0, .aload_n 0, 1, []), (1, .getfield 62, 4, [96, 7, 21]), (4, .iload_n 1, 5, []), (5, .iaload, 6, []), (6, .aload_n 0, 7, []), (7, .getfield 53, 10, [93, 7, 18]), (10, .iload_n 1, 11, []), (11, .iaload, 12, []), 
  (12, .iconst 1, 13, []), (13, .if_icmp .ne 8, 16, [21]), (16, .bipush 64, 18, []), (18, .goto 5, 21, [23]), (21, .bipush 21, 23, []), (23, .invokestatic 188, 26, [0, 2, 124, 1038, 1039, 47, 1040]), (26, .ireturn, 27, [])])
/-- TapeVaultModel.node(II)V -/
def mi_136 : MI := (⟨"TapeVaultModel", "node", "(II)V"⟩, prog_10_method_26_code, 6, (none), [], [
  (0, .aload_n 0, 1, []), (1, .getfield 42, 4, [89, 7, 14]), (4, .iload_n 1, 5, []), (5, .iaload, 6, []), (6, .istore_n 3, 7, []), (7, .iload_n 2, 8, []), (8, .istore 4, 10, []), (10, .iload 4, 12, []), 
  (12, .aload_n 0, 13, []), (13, .iload_n 3, 14, []), (14, .invokevirtual 222, 17, [2, 1, 135, 7, 1081, 1083, 33, 47, 1084]), (17, .if_icmp .le 21, 20, [38]), (20, .iload 4, 22, []), (22, .iconst 1, 23, []), 
  (23, .aload_n 0, 24, []), (24, .iload_n 3, 25, []), (25, .iinc 3 1, 28, []), (28, .invokevirtual 222, 31, [2, 1, 135, 7, 1081, 1083, 33, 47, 1084]), (31, .iadd, 32, []), (32, .isub, 33, []), (33, .istore 4, 35, []), 
  (35, .goto (-25), 38, [10]), (38, .iload 4, 40, []), (40, .ifCond .ne 79, 43, [119]), (43, .aload_n 0, 44, []), (44, .bipush 78, 46, []), (46, .iconst 1, 47, []), 
  (47, .invokevirtual 212, 50, [2, 2, 131, 7, 1064, 1066, 29, 47, 1067]), (50, .aload_n 0, 51, []), (51, .aload_n 0, 52, []), (52, .getfield 50, 55, [92, 7, 17]), (55, .iload_n 3, 56, []), (56, .iaload, 57, []), 
  (57, .iconst 1, 58, []), (58, .invokevirtual 212, 61, [2, 2, 131, 7, 1064, 1066, 29, 47, 1067]), (61, .aload_n 0, 62, []), (62, .aload_n 0, 63, []), (63, .getfield 53, 66, [93, 7, 18]), (66, .iload_n 3, 67, []), 
  (67, .iaload, 68, []), (68, .iconst 1, 69, []), (69, .invokevirtual 212, 72, [2, 2, 131, 7, 1064, 1066, 29, 47, 1067]), (72, .aload_n 0, 73, []), (73, .aload_n 0, 74, []), (74, .getfield 56, 77, [94, 7, 19]), 
  (77, .iload_n 3, 78, []), (78, .iaload, 79, []), (79, .iconst 2, 80, []), (80, .invokevirtual 212, 83, [2, 2, 131, 7, 1064, 1066, 29, 47, 1067]), (83, .aload_n 0, 84, []), (84, .aload_n 0, 85, []), 
  (85, .getfield 59, 88, [95, 7, 20]), (88, .iload_n 3, 89, []), (89, .iaload, 90, []), (90, .iconst 1, 91, []), (91, .invokevirtual 212, 94, [2, 2, 131, 7, 1064, 1066, 29, 47, 1067]), (94, .aload_n 0, 95, []), 
  (95, .aload_n 0, 96, []), (96, .getfield 62, 99, [96, 7, 21]), (99, .iload_n 3, 100, []), (100, .iaload, 101, []), (101, .iconst 2, 102, []), (102, .invokevirtual 212, 105, [2, 2, 131, 7, 1064, 1066, 29, 47, 1067]), 
  (105, .aload_n 0, 106, []), (106, .aload_n 0, 107, []), (107, .getfield 65, 110, [97, 7, 22]), (110, .iload_n 3, 111, []), (111, .iaload, 112, []), (112, .iconst 4, 113, []), 
  (113, .invokevirtual 212, 116, [2, 2, 131, 7, 1064, 1066, 29, 47, 1067]), (116, .goto 149, 119, [265]), (119, .aload_n 0, 120, []), (120, .getfield 53, 123, [93, 7, 18]), (123, .iload_n 3, 124, []), 
  (124, .iaload, 125, []), (125, .iconst 1, 126, []), (126, .if_icmp .ne 65, 129, [191]), (129, .bipush 64, 131, []), (131, .iload 4, 133, []), (133, .iconst 1, 134, []), (134, .isub, 135, []), (135, .imul, 136, []), 
  (136, .istore 5, 138, []), (138, .iload 5, 140, []), (140, .aload_n 0, 141, []), (141, .getfield 62, 144, [96, 7, 21]), (144, .iload_n 3, 145, []), (145, .iaload, 146, []), (146, .if_icmp .ge 42, 149, [188]), 
  (149, .iload 5, 151, []), (151, .bipush 64, 153, []), (153, .iload 4, 155, []), (155, .imul, 156, []), (156, .if_icmp .ge 32, 159, [188]), (159, .aload_n 0, 160, []), (160, .aload_n 0, 161, []), 
  (161, .getfield 72, 164, [99, 7, 24]), (164, .aload_n 0, 165, []), (165, .getfield 68, 168, [98, 7, 23]), (168, .iload_n 3, 169, []), (169, .iaload, 170, []), (170, .iload 5, 172, []), (172, .iadd, 173, []), 
  (173, .baload, 174, []), (174, .sipush 255, 177, []), (177, .iand, 178, []), (178, .iconst 1, 179, []), (179, .invokevirtual 212, 182, [2, 2, 131, 7, 1064, 1066, 29, 47, 1067]), (182, .iinc 5 1, 185, []), 
  (185, .goto (-47), 188, [138]), (188, .goto 77, 191, [265]), (191, .bipush 21, 193, []), (193, .iload 4, 195, []), (195, .iconst 1, 196, []), (196, .isub, 197, []), (197, .imul, 198, []), (198, .istore 5, 200, []), 
  (200, .iload 5, 202, []), (202, .aload_n 0, 203, []), (203, .getfield 62, 206, [96, 7, 21]), (206, .iload_n 3, 207, []), (207, .iaload, 208, []), (208, .if_icmp .ge 57, 211, [265]), (211, .iload 5, 213, []), 
  (213, .bipush 21, 215, []), (215, .iload 4, 217, []), (217, .imul, 218, []), (218, .if_icmp .ge 47, 221, [265]), (221, .aload_n 0, 222, []), (222, .aload_n 0, 223, []), (223, .getfield 77, 226, [100, 7, 25]), 
  (226, .aload_n 0, 227, []), (227, .getfield 68, 230, [98, 7, 23]), (230, .iload_n 3, 231, []), (231, .iaload, 232, []), (232, .iload 5, 234, []), (234, .iadd, 235, []), (235, .iaload, 236, []), (236, .iconst 2, 237, []), 
  (237, .invokevirtual 212, 240, [2, 2, 131, 7, 1064, 1066, 29, 47, 1067]), (240, .aload_n 0, 241, []), (241, .aload_n 0, 242, []), (242, .getfield 80, 245, [101, 7, 26]), (245, .aload_n 0, 246, []), 
  (246, .getfield 68, 249, [98, 7, 23]), (249, .iload_n 3, 250, []), (250, .iaload, 251, []), (251, .iload 5, 253, []), (253, .iadd, 254, []), (254, .iaload, 255, []), (255, .iconst 1, 256, []), 
  (256, .invokevirtual 212, 259, [2, 2, 131, 7, 1064, 1066, 29, 47, 1067]), (259, .iinc 5 1, 262, []), (262, .goto (-62), 265, [200]), (265, .return_, 266, [])])
/-- TapeVaultModel.restore(I)I -/
def mi_137 : MI := (⟨"TapeVaultModel", "restore", "(I)I"⟩, prog_10_method_29_code, 6, (some FieldType.int), [], [
  (0, .aload_n 0, 1, []), (1, .iload_n 1, 2, []), (2, .ifCond .lt 11, 5, [13]), (5, .iload_n 1, 6, []), (6, .aload_n 0, 7, []), (7, .getfield 146, 10, [91, 7, 16]), (10, .if_icmp .lt 7, 13, [17]), (13, .iconst 1, 14, []), 
  (14, .goto 4, 17, [18]), (17, .iconst 0, 18, []), (18, .iconst 1, 19, []), (19, .invokevirtual 133, 22, [2, 2, 112, 7, 843, 845, 21, 47, 846]), (22, .ifCond .eq 5, 25, [27]), (25, .iconst 0, 26, []), 
  (26, .ireturn, 27, []), (27, .aload_n 0, 28, []), (28, .iconst 0, 29, []), (29, .putfield 158, 32, [117, 7, 42]), (32, .aload_n 0, 33, []), (33, .iconst 0, 34, []), (34, .putfield 162, 37, [118, 7, 43]), 
  (37, .aload_n 0, 38, []), (38, .iconst 0, 39, []), (39, .putfield 165, 42, [119, 7, 44]), (42, .aload_n 0, 43, []), (43, .iconst 0, 44, []), (44, .putfield 168, 47, [120, 7, 45]), (47, .iconst 1, 48, []), 
  (48, .istore_n 2, 49, []), (49, .iload_n 1, 50, []), (50, .istore_n 3, 51, []), (51, .iload_n 3, 52, []), (52, .ifCond .lt 61, 55, [113]), (55, .aload_n 0, 56, []), (56, .dup, 57, []), 
  (57, .getfield 162, 60, [118, 7, 43]), (60, .iconst 1, 61, []), (61, .iadd, 62, []), (62, .putfield 162, 65, [118, 7, 43]), (65, .iconst 0, 66, []), (66, .istore 4, 68, []), (68, .iload 4, 70, []), 
  (70, .aload_n 0, 71, []), (71, .iload_n 3, 72, []), (72, .invokevirtual 231, 75, [2, 1, 138, 7, 1093, 1095, 35, 47, 1096]), (75, .if_icmp .ge 28, 78, [103]), (78, .aload_n 0, 79, []), (79, .getfield 83, 82, [105, 7, 30]), 
  (82, .aload_n 0, 83, []), (83, .getfield 39, 86, [88, 7, 13]), (86, .iload_n 3, 87, []), (87, .iaload, 88, []), (88, .iload 4, 90, []), (90, .iadd, 91, []), (91, .baload, 92, []), (92, .ifCond .eq 5, 95, [97]), 
  (95, .iconst 0, 96, []), (96, .istore_n 2, 97, []), (97, .iinc 4 1, 100, []), (100, .goto (-32), 103, [68]), (103, .aload_n 0, 104, []), (104, .getfield 36, 107, [87, 7, 12]), (107, .iload_n 3, 108, []), 
  (108, .iaload, 109, []), (109, .istore_n 3, 110, []), (110, .goto (-59), 113, [51]), (113, .iload_n 2, 114, []), (114, .ifCond .ne 5, 117, [119]), (117, .iconst 2, 118, []), (118, .ireturn, 119, []), 
  (119, .iconst 0, 120, []), (120, .istore_n 3, 121, []), (121, .iload_n 3, 122, []), (122, .sipush 256, 125, []), (125, .if_icmp .ge 30, 128, [155]), (128, .aload_n 0, 129, []), (129, .getfield 90, 132, [107, 7, 32]), 
  (132, .iload_n 3, 133, []), (133, .iconst 0, 134, []), (134, .iastore, 135, []), (135, .aload_n 0, 136, []), (136, .getfield 108, 139, [113, 7, 38]), (139, .iload_n 3, 140, []), (140, .iconst 0, 141, []), 
  (141, .bastore, 142, []), (142, .aload_n 0, 143, []), (143, .getfield 105, 146, [112, 7, 37]), (146, .iload_n 3, 147, []), (147, .iconst 0, 148, []), (148, .iastore, 149, []), (149, .iinc 3 1, 152, []), 
  (152, .goto (-31), 155, [121]), (155, .aload_n 0, 156, []), (156, .getfield 162, 159, [118, 7, 43]), (159, .iconst 1, 160, []), (160, .isub, 161, []), (161, .istore_n 3, 162, []), (162, .iload_n 3, 163, []), 
  (163, .ifCond .lt 42, 166, [205]), (166, .iload_n 1, 167, []), (167, .istore 4, 169, []), (169, .iconst 0, 170, []), (170, .istore 5, 172, []), (172, .iload 5, 174, []), (174, .iload_n 3, 175, []), 
  (175, .if_icmp .ge 18, 178, [193]), (178, .aload_n 0, 179, []), (179, .getfield 36, 182, [87, 7, 12]), (182, .iload 4, 184, []), (184, .iaload, 185, []), (185, .istore 4, 187, []), (187, .iinc 5 1, 190, []), 
  (190, .goto (-18), 193, [172]), (193, .aload_n 0, 194, []), (194, .iload 4, 196, []), (196, .invokevirtual 234, 199, [2, 1, 139, 7, 1097, 1099, 36, 47, 1100]), (199, .iinc 3 (-1), 202, []), (202, .goto (-40), 205, [162]), 
  (205, .aload_n 0, 206, []), (206, .iconst 1, 207, []), (207, .putfield 158, 210, [117, 7, 42]), (210, .iconst 0, 211, []), (211, .istore_n 3, 212, []), (212, .iload_n 3, 213, []), (213, .sipush 256, 216, []), 
  (216, .if_icmp .ge 28, 219, [244]), (219, .aload_n 0, 220, []), (220, .getfield 108, 223, [113, 7, 38]), (223, .iload_n 3, 224, []), (224, .baload, 225, []), (225, .ifCond .eq 13, 228, [238]), (228, .aload_n 0, 229, []), 
  (229, .dup, 230, []), (230, .getfield 165, 233, [119, 7, 44]), (233, .iconst 1, 234, []), (234, .iadd, 235, []), (235, .putfield 165, 238, [119, 7, 44]), (238, .iinc 3 1, 241, []), (241, .goto (-29), 244, [212]), 
  (244, .aload_n 0, 245, []), (245, .getfield 165, 248, [119, 7, 44]), (248, .ifCond .le 7, 251, [255]), (251, .iconst 1, 252, []), (252, .goto 4, 255, [256]), (255, .iconst 0, 256, []), (256, .ireturn, 257, [])])
/-- TapeVaultModel.head(I)I -/
def mi_138 : MI := (⟨"TapeVaultModel", "head", "(I)I"⟩, prog_10_method_28_code, 2, (some FieldType.int), [], [
  (0, .iconst 2, 1, []), (1, .aload_n 0, 2, []), (2, .iload_n 1, 3, []), (3, .invokevirtual 216, 6, [2, 1, 134, 7, 1076, 1078, 32, 47, 1079]), (6, .iadd, 7, []), (7, .ireturn, 8, [])])
/-- TapeVaultModel.one(I)V -/
def mi_139 : MI := (⟨"TapeVaultModel", "one", "(I)V"⟩, prog_10_method_30_code, 4, (none), [], [
  (0, .iconst 0, 1, []), (1, .istore_n 2, 2, []), (2, .iload_n 2, 3, []), (3, .sipush 256, 6, []), (6, .if_icmp .ge 34, 9, [40]), (9, .aload_n 0, 10, []), (10, .getfield 47, 13, [90, 7, 15]), (13, .iload_n 1, 14, []), 
  (14, .aaload, 15, []), (15, .iload_n 2, 16, []), (16, .baload, 17, []), (17, .ifCond .ne 17, 20, [34]), (20, .aload_n 0, 21, []), (21, .getfield 90, 24, [107, 7, 32]), (24, .iload_n 2, 25, []), (25, .iconst 0, 26, []), 
  (26, .iastore, 27, []), (27, .aload_n 0, 28, []), (28, .getfield 108, 31, [113, 7, 38]), (31, .iload_n 2, 32, []), (32, .iconst 0, 33, []), (33, .bastore, 34, []), (34, .iinc 2 1, 37, []), (37, .goto (-35), 40, [2]), 
  (40, .aload_n 0, 41, []), (41, .getfield 39, 44, [88, 7, 13]), (44, .iload_n 1, 45, []), (45, .iaload, 46, []), (46, .istore_n 2, 47, []), (47, .iload_n 2, 48, []), (48, .aload_n 0, 49, []), 
  (49, .getfield 39, 52, [88, 7, 13]), (52, .iload_n 1, 53, []), (53, .iconst 1, 54, []), (54, .iadd, 55, []), (55, .iaload, 56, []), (56, .if_icmp .ge 28, 59, [84]), (59, .aload_n 0, 60, []), 
  (60, .getfield 83, 63, [105, 7, 30]), (63, .iload_n 2, 64, []), (64, .baload, 65, []), (65, .ifCond .ne 13, 68, [78]), (68, .aload_n 0, 69, []), (69, .dup, 70, []), (70, .getfield 168, 73, [120, 7, 45]), 
  (73, .iconst 1, 74, []), (74, .iadd, 75, []), (75, .putfield 168, 78, [120, 7, 45]), (78, .iinc 2 1, 81, []), (81, .goto (-34), 84, [47]), (84, .aload_n 0, 85, []), (85, .getfield 39, 88, [88, 7, 13]), 
  (88, .iload_n 1, 89, []), (89, .iaload, 90, []), (90, .aload_n 0, 91, []), (91, .iload_n 1, 92, []), (92, .invokevirtual 231, 95, [2, 1, 138, 7, 1093, 1095, 35, 47, 1096]), (95, .iadd, 96, []), (96, .istore_n 2, 97, []), 
  (97, .aload_n 0, 98, []), (98, .getfield 42, 101, [89, 7, 14]), (101, .iload_n 1, 102, []), (102, .iaload, 103, []), (103, .istore_n 3, 104, []), (104, .iload_n 3, 105, []), (105, .aload_n 0, 106, []), 
  (106, .getfield 42, 109, [89, 7, 14]), (109, .iload_n 1, 110, []), (110, .iconst 1, 111, []), (111, .iadd, 112, []), (112, .iaload, 113, []), (113, .if_icmp .ge 25, 116, [138]), (116, .aload_n 0, 117, []), 
  (117, .iload_n 3, 118, []), (118, .iload_n 2, 119, []), (119, .invokevirtual 237, 122, [2, 2, 140, 7, 1101, 1103, 37, 47, 1104]), (122, .iload_n 2, 123, []), (123, .iconst 1, 124, []), (124, .aload_n 0, 125, []), 
  (125, .iload_n 3, 126, []), (126, .invokevirtual 222, 129, [2, 1, 135, 7, 1081, 1083, 33, 47, 1084]), (129, .iadd, 130, []), (130, .iadd, 131, []), (131, .istore_n 2, 132, []), (132, .iinc 3 1, 135, []), 
  (135, .goto (-31), 138, [104]), (138, .return_, 139, [])])
/-- TapeVaultModel.back(II)V -/
def mi_140 : MI := (⟨"TapeVaultModel", "back", "(II)V"⟩, prog_10_method_31_code, 7, (none), [], [
  (0, .aload_n 0, 1, []), (1, .getfield 50, 4, [92, 7, 17]), (4, .iload_n 1, 5, []), (5, .iaload, 6, []), (6, .istore_n 3, 7, []), (7, .aload_n 0, 8, []), (8, .getfield 108, 11, [113, 7, 38]), (11, .iload_n 3, 12, []), 
  (12, .aload_n 0, 13, []), (13, .getfield 83, 16, [105, 7, 30]), (16, .iload_n 2, 17, []), (17, .baload, 18, []), (18, .bastore, 19, []), (19, .aload_n 0, 20, []), (20, .getfield 83, 23, [105, 7, 30]), 
  (23, .iload_n 2, 24, []), (24, .baload, 25, []), (25, .ifCond .eq 4, 28, [29]), (28, .return_, 29, []), (29, .aload_n 0, 30, []), (30, .getfield 90, 33, [107, 7, 32]), (33, .iload_n 3, 34, []), (34, .aload_n 0, 35, []), 
  (35, .getfield 53, 38, [93, 7, 18]), (38, .iload_n 1, 39, []), (39, .iaload, 40, []), (40, .iastore, 41, []), (41, .aload_n 0, 42, []), (42, .getfield 96, 45, [109, 7, 34]), (45, .iload_n 3, 46, []), 
  (46, .aload_n 0, 47, []), (47, .getfield 56, 50, [94, 7, 19]), (50, .iload_n 1, 51, []), (51, .iaload, 52, []), (52, .iastore, 53, []), (53, .aload_n 0, 54, []), (54, .getfield 93, 57, [108, 7, 33]), 
  (57, .iload_n 3, 58, []), (58, .aload_n 0, 59, []), (59, .getfield 59, 62, [95, 7, 20]), (62, .iload_n 1, 63, []), (63, .iaload, 64, []), (64, .iastore, 65, []), (65, .aload_n 0, 66, []), 
  (66, .getfield 99, 69, [110, 7, 35]), (69, .iload_n 3, 70, []), (70, .aload_n 0, 71, []), (71, .getfield 62, 74, [96, 7, 21]), (74, .iload_n 1, 75, []), (75, .iaload, 76, []), (76, .iastore, 77, []), 
  (77, .aload_n 0, 78, []), (78, .getfield 102, 81, [111, 7, 36]), (81, .iload_n 3, 82, []), (82, .aload_n 0, 83, []), (83, .getfield 65, 86, [97, 7, 22]), (86, .iload_n 1, 87, []), (87, .iaload, 88, []), 
  (88, .iastore, 89, []), (89, .aload_n 0, 90, []), (90, .getfield 105, 93, [112, 7, 37]), (93, .iload_n 3, 94, []), (94, .iconst 0, 95, []), (95, .iastore, 96, []), (96, .aload_n 0, 97, []), 
  (97, .getfield 53, 100, [93, 7, 18]), (100, .iload_n 1, 101, []), (101, .iaload, 102, []), (102, .iconst 1, 103, []), (103, .if_icmp .ne 8, 106, [111]), (106, .bipush 64, 108, []), (108, .goto 5, 111, [113]), 
  (111, .bipush 21, 113, []), (113, .istore 4, 115, []), (115, .iconst 0, 116, []), (116, .istore 5, 118, []), (118, .iload 5, 120, []), (120, .aload_n 0, 121, []), (121, .getfield 62, 124, [96, 7, 21]), 
  (124, .iload_n 1, 125, []), (125, .iaload, 126, []), (126, .if_icmp .ge 146, 129, [272]), (129, .aload_n 0, 130, []), (130, .getfield 83, 133, [105, 7, 30]), (133, .iload_n 2, 134, []), (134, .iconst 1, 135, []), 
  (135, .iadd, 136, []), (136, .iload 5, 138, []), (138, .iload 4, 140, []), (140, .idiv, 141, []), (141, .iadd, 142, []), (142, .baload, 143, []), (143, .istore 6, 145, []), (145, .iload 6, 147, []), 
  (147, .ifCond .eq 10, 150, [157]), (150, .aload_n 0, 151, []), (151, .getfield 108, 154, [113, 7, 38]), (154, .iload_n 3, 155, []), (155, .iconst 1, 156, []), (156, .bastore, 157, []), (157, .aload_n 0, 158, []), 
  (158, .getfield 53, 161, [93, 7, 18]), (161, .iload_n 1, 162, []), (162, .iaload, 163, []), (163, .iconst 1, 164, []), (164, .if_icmp .ne 38, 167, [202]), (167, .aload_n 0, 168, []), 
  (168, .getfield 111, 171, [114, 7, 39]), (171, .iload_n 3, 172, []), (172, .aaload, 173, []), (173, .iload 5, 175, []), (175, .iload 6, 177, []), (177, .ifCond .eq 7, 180, [184]), (180, .iconst 0, 181, []), 
  (181, .goto 17, 184, [198]), (184, .aload_n 0, 185, []), (185, .getfield 72, 188, [99, 7, 24]), (188, .aload_n 0, 189, []), (189, .getfield 68, 192, [98, 7, 23]), (192, .iload_n 1, 193, []), (193, .iaload, 194, []), 
  (194, .iload 5, 196, []), (196, .iadd, 197, []), (197, .baload, 198, []), (198, .bastore, 199, []), (199, .goto 67, 202, [266]), (202, .iload 6, 204, []), (204, .ifCond .ne 62, 207, [266]), (207, .aload_n 0, 208, []), 
  (208, .getfield 116, 211, [115, 7, 40]), (211, .iload_n 3, 212, []), (212, .aaload, 213, []), (213, .aload_n 0, 214, []), (214, .getfield 105, 217, [112, 7, 37]), (217, .iload_n 3, 218, []), (218, .iaload, 219, []), 
  (219, .aload_n 0, 220, []), (220, .getfield 77, 223, [100, 7, 25]), (223, .aload_n 0, 224, []), (224, .getfield 68, 227, [98, 7, 23]), (227, .iload_n 1, 228, []), (228, .iaload, 229, []), (229, .iload 5, 231, []), 
  (231, .iadd, 232, []), (232, .iaload, 233, []), (233, .iastore, 234, []), (234, .aload_n 0, 235, []), (235, .getfield 119, 238, [116, 7, 41]), (238, .iload_n 3, 239, []), (239, .aaload, 240, []), 
  (240, .aload_n 0, 241, []), (241, .getfield 105, 244, [112, 7, 37]), (244, .iload_n 3, 245, []), (245, .dup2, 246, []), (246, .iaload, 247, []), (247, .dup_x2, 248, []), (248, .iconst 1, 249, []), (249, .iadd, 250, []), 
  (250, .iastore, 251, []), (251, .aload_n 0, 252, []), (252, .getfield 80, 255, [101, 7, 26]), (255, .aload_n 0, 256, []), (256, .getfield 68, 259, [98, 7, 23]), (259, .iload_n 1, 260, []), (260, .iaload, 261, []), 
  (261, .iload 5, 263, []), (263, .iadd, 264, []), (264, .iaload, 265, []), (265, .iastore, 266, []), (266, .iinc 5 1, 269, []), (269, .goto (-151), 272, [118]), (272, .return_, 273, [])])
/-- TapeVaultModel.node(ZII)I -/
def mi_141 : MI := (⟨"TapeVaultModel", "node", "(ZII)I"⟩, prog_10_method_32_code, 5, (some FieldType.int), [], [
  (0, .aload_n 0, 1, []), (1, .iload_n 3, 2, []), (2, .ifCond .lt 8, 5, [10]), (5, .iload_n 3, 6, []), (6, .iconst 5, 7, []), (7, .if_icmp .le 7, 10, [14]), (10, .iconst 1, 11, []), (11, .goto 4, 14, [15]), 
  (14, .iconst 0, 15, []), (15, .iconst 1, 16, []), (16, .invokevirtual 133, 19, [2, 2, 112, 7, 843, 845, 21, 47, 846]), (19, .ifCond .eq 5, 22, [24]), (22, .iconst 0, 23, []), (23, .ireturn, 24, []), 
  (24, .aload_n 0, 25, []), (25, .iload_n 1, 26, []), (26, .ifCond .eq 14, 29, [40]), (29, .aload_n 0, 30, []), (30, .getfield 158, 33, [117, 7, 42]), (33, .ifCond .ne 7, 36, [40]), (36, .iconst 1, 37, []), 
  (37, .goto 4, 40, [41]), (40, .iconst 0, 41, []), (41, .iconst 2, 42, []), (42, .invokevirtual 133, 45, [2, 2, 112, 7, 843, 845, 21, 47, 846]), (45, .ifCond .eq 5, 48, [50]), (48, .iconst 0, 49, []), 
  (49, .ireturn, 50, []), (50, .aload_n 0, 51, []), (51, .iload_n 2, 52, []), (52, .ifCond .lt 10, 55, [62]), (55, .iload_n 2, 56, []), (56, .sipush 256, 59, []), (59, .if_icmp .lt 7, 62, [66]), (62, .iconst 1, 63, []), 
  (63, .goto 4, 66, [67]), (66, .iconst 0, 67, []), (67, .iconst 3, 68, []), (68, .invokevirtual 133, 71, [2, 2, 112, 7, 843, 845, 21, 47, 846]), (71, .ifCond .eq 5, 74, [76]), (74, .iconst 0, 75, []), 
  (75, .ireturn, 76, []), (76, .iload_n 1, 77, []), (77, .ifCond .eq 12, 80, [89]), (80, .aload_n 0, 81, []), (81, .getfield 90, 84, [107, 7, 32]), (84, .iload_n 2, 85, []), (85, .iaload, 86, []), (86, .goto 9, 89, [95]), 
  (89, .aload_n 0, 90, []), (90, .getfield 9, 93, [76, 7, 1]), (93, .iload_n 2, 94, []), (94, .iaload, 95, []), (95, .istore 4, 97, []), (97, .iload_n 3, 98, []), (98, .ifCond .ne 6, 101, [104]), (101, .iload 4, 103, []), 
  (103, .ireturn, 104, []), (104, .iload_n 3, 105, []), (105, .iconst 5, 106, []), (106, .if_icmp .ne 22, 109, [128]), (109, .iload_n 1, 110, []), (110, .ifCond .eq 16, 113, [126]), (113, .aload_n 0, 114, []), 
  (114, .getfield 108, 117, [113, 7, 38]), (117, .iload_n 2, 118, []), (118, .baload, 119, []), (119, .ifCond .eq 7, 122, [126]), (122, .iconst 1, 123, []), (123, .goto 4, 126, [127]), (126, .iconst 0, 127, []), 
  (127, .ireturn, 128, []), (128, .iload 4, 130, []), (130, .ifCond .ne 5, 133, [135]), (133, .iconst 0, 134, []), (134, .ireturn, 135, []), (135, .iload_n 1, 136, []), (136, .ifCond .eq 52, 139, [188]), 
  (139, .iload_n 3, 140, []), (140, .iconst 1, 141, []), (141, .if_icmp .ne 12, 144, [153]), (144, .aload_n 0, 145, []), (145, .getfield 93, 148, [108, 7, 33]), (148, .iload_n 2, 149, []), (149, .iaload, 150, []), 
  (150, .goto 37, 153, [187]), (153, .iload_n 3, 154, []), (154, .iconst 2, 155, []), (155, .if_icmp .ne 12, 158, [167]), (158, .aload_n 0, 159, []), (159, .getfield 96, 162, [109, 7, 34]), (162, .iload_n 2, 163, []), 
  (163, .iaload, 164, []), (164, .goto 23, 167, [187]), (167, .iload_n 3, 168, []), (168, .iconst 3, 169, []), (169, .if_icmp .ne 12, 172, [181]), (172, .aload_n 0, 173, []), (173, .getfield 99, 176, [110, 7, 35]), 
  (176, .iload_n 2, 177, []), (177, .iaload, 178, []), (178, .goto 9, 181, [187]), (181, .aload_n 0, 182, []), (182, .getfield 102, 185, [111, 7, 36]), (185, .iload_n 2, 186, []), (186, .iaload, 187, []), 
  (187, .ireturn, 188, []), (188, .iload_n 3, 189, []), (189, .iconst 1, 190, []), (190, .if_icmp .ne 12, 193, [202]), (193, .aload_n 0, 194, []), (194, .getfield 13, 197, [77, 7, 2]), (197, .iload_n 2, 198, []), 
  (198, .iaload, 199, []), (199, .goto 51, 202, [250]), (202, .iload_n 3, 203, []), (203, .iconst 2, 204, []), (204, .if_icmp .ne 12, 207, [216]), (207, .aload_n 0, 208, []), (208, .getfield 16, 211, [78, 7, 3]), 
  (211, .iload_n 2, 212, []), (212, .iaload, 213, []), (213, .goto 37, 216, [250]), (216, .iload_n 3, 217, []), (217, .iconst 3, 218, []), (218, .if_icmp .ne 26, 221, [244]), (221, .iload 4, 223, []), 
  (223, .iconst 1, 224, []), (224, .if_icmp .ne 12, 227, [236]), (227, .aload_n 0, 228, []), (228, .getfield 19, 231, [79, 7, 4]), (231, .iload_n 2, 232, []), (232, .iaload, 233, []), (233, .goto 17, 236, [250]), 
  (236, .aload_n 0, 237, []), (237, .iload_n 2, 238, []), (238, .invokevirtual 184, 241, [2, 1, 121, 7, 1026, 1028, 24, 47, 1029]), (241, .goto 9, 244, [250]), (244, .aload_n 0, 245, []), 
  (245, .getfield 22, 248, [80, 7, 5]), (248, .iload_n 2, 249, []), (249, .iaload, 250, []), (250, .ireturn, 251, [])])
/-- TapeVaultModel.octet(ZII)I -/
def mi_142 : MI := (⟨"TapeVaultModel", "octet", "(ZII)I"⟩, prog_10_method_33_code, 4, (some FieldType.int), [], [
  (0, .aload_n 0, 1, []), (1, .iload_n 1, 2, []), (2, .ifCond .eq 14, 5, [16]), (5, .aload_n 0, 6, []), (6, .getfield 158, 9, [117, 7, 42]), (9, .ifCond .ne 7, 12, [16]), (12, .iconst 1, 13, []), (13, .goto 4, 16, [17]), 
  (16, .iconst 0, 17, []), (17, .iconst 1, 18, []), (18, .invokevirtual 133, 21, [2, 2, 112, 7, 843, 845, 21, 47, 846]), (21, .ifCond .eq 5, 24, [26]), (24, .iconst 0, 25, []), (25, .ireturn, 26, []), 
  (26, .aload_n 0, 27, []), (27, .iload_n 2, 28, []), (28, .ifCond .lt 33, 31, [61]), (31, .iload_n 2, 32, []), (32, .sipush 256, 35, []), (35, .if_icmp .ge 26, 38, [61]), (38, .iload_n 1, 39, []), 
  (39, .ifCond .eq 12, 42, [51]), (42, .aload_n 0, 43, []), (43, .getfield 90, 46, [107, 7, 32]), (46, .iload_n 2, 47, []), (47, .iaload, 48, []), (48, .goto 9, 51, [57]), (51, .aload_n 0, 52, []), 
  (52, .getfield 9, 55, [76, 7, 1]), (55, .iload_n 2, 56, []), (56, .iaload, 57, []), (57, .iconst 1, 58, []), (58, .if_icmp .eq 7, 61, [65]), (61, .iconst 1, 62, []), (62, .goto 4, 65, [66]), (65, .iconst 0, 66, []), 
  (66, .iconst 2, 67, []), (67, .invokevirtual 133, 70, [2, 2, 112, 7, 843, 845, 21, 47, 846]), (70, .ifCond .eq 5, 73, [75]), (73, .iconst 0, 74, []), (74, .ireturn, 75, []), (75, .aload_n 0, 76, []), 
  (76, .iload_n 3, 77, []), (77, .ifCond .lt 26, 80, [103]), (80, .iload_n 3, 81, []), (81, .iload_n 1, 82, []), (82, .ifCond .eq 12, 85, [94]), (85, .aload_n 0, 86, []), (86, .getfield 99, 89, [110, 7, 35]), 
  (89, .iload_n 2, 90, []), (90, .iaload, 91, []), (91, .goto 9, 94, [100]), (94, .aload_n 0, 95, []), (95, .getfield 19, 98, [79, 7, 4]), (98, .iload_n 2, 99, []), (99, .iaload, 100, []), (100, .if_icmp .lt 7, 103, [107]), 
  (103, .iconst 1, 104, []), (104, .goto 4, 107, [108]), (107, .iconst 0, 108, []), (108, .iconst 3, 109, []), (109, .invokevirtual 133, 112, [2, 2, 112, 7, 843, 845, 21, 47, 846]), (112, .ifCond .eq 5, 115, [117]), 
  (115, .iconst 0, 116, []), (116, .ireturn, 117, []), (117, .iload_n 1, 118, []), (118, .ifCond .eq 10, 121, [128]), (121, .aload_n 0, 122, []), (122, .getfield 111, 125, [114, 7, 39]), (125, .goto 7, 128, [132]), 
  (128, .aload_n 0, 129, []), (129, .getfield 27, 132, [81, 7, 6]), (132, .iload_n 2, 133, []), (133, .aaload, 134, []), (134, .iload_n 3, 135, []), (135, .baload, 136, []), (136, .sipush 255, 139, []), 
  (139, .iand, 140, []), (140, .ireturn, 141, [])])
/-- TapeVaultModel.find(ZII)I -/
def mi_143 : MI := (⟨"TapeVaultModel", "find", "(ZII)I"⟩, prog_10_method_34_code, 5, (some FieldType.int), [], [
  (0, .aload_n 0, 1, []), (1, .iload_n 1, 2, []), (2, .ifCond .eq 14, 5, [16]), (5, .aload_n 0, 6, []), (6, .getfield 158, 9, [117, 7, 42]), (9, .ifCond .ne 7, 12, [16]), (12, .iconst 1, 13, []), (13, .goto 4, 16, [17]), 
  (16, .iconst 0, 17, []), (17, .iconst 1, 18, []), (18, .invokevirtual 133, 21, [2, 2, 112, 7, 843, 845, 21, 47, 846]), (21, .ifCond .eq 5, 24, [26]), (24, .iconst 0, 25, []), (25, .ireturn, 26, []), 
  (26, .aload_n 0, 27, []), (27, .iload_n 2, 28, []), (28, .ifCond .lt 33, 31, [61]), (31, .iload_n 2, 32, []), (32, .sipush 256, 35, []), (35, .if_icmp .ge 26, 38, [61]), (38, .iload_n 1, 39, []), 
  (39, .ifCond .eq 12, 42, [51]), (42, .aload_n 0, 43, []), (43, .getfield 90, 46, [107, 7, 32]), (46, .iload_n 2, 47, []), (47, .iaload, 48, []), (48, .goto 9, 51, [57]), (51, .aload_n 0, 52, []), 
  (52, .getfield 9, 55, [76, 7, 1]), (55, .iload_n 2, 56, []), (56, .iaload, 57, []), (57, .iconst 2, 58, []), (58, .if_icmp .eq 7, 61, [65]), (61, .iconst 1, 62, []), (62, .goto 4, 65, [66]), (65, .iconst 0, 66, []), 
  (66, .iconst 2, 67, []), (67, .invokevirtual 133, 70, [2, 2, 112, 7, 843, 845, 21, 47, 846]), (70, .ifCond .eq 5, 73, [75]), (73, .iconst 0, 74, []), (74, .ireturn, 75, []), (75, .iload_n 1, 76, []), 
  (76, .ifCond .ne 10, 79, [86]), (79, .aload_n 0, 80, []), (80, .iload_n 2, 81, []), (81, .iload_n 3, 82, []), (82, .invokevirtual 175, 85, [2, 2, 116, 7, 1005, 1007, 23, 47, 1008]), (85, .ireturn, 86, []), 
  (86, .iconst 0, 87, []), (87, .istore 4, 89, []), (89, .iload 4, 91, []), (91, .aload_n 0, 92, []), (92, .getfield 105, 95, [112, 7, 37]), (95, .iload_n 2, 96, []), (96, .iaload, 97, []), 
  (97, .if_icmp .ge 32, 100, [129]), (100, .aload_n 0, 101, []), (101, .getfield 116, 104, [115, 7, 40]), (104, .iload_n 2, 105, []), (105, .aaload, 106, []), (106, .iload 4, 108, []), (108, .iaload, 109, []), 
  (109, .iload_n 3, 110, []), (110, .if_icmp .ne 13, 113, [123]), (113, .aload_n 0, 114, []), (114, .getfield 119, 117, [116, 7, 41]), (117, .iload_n 2, 118, []), (118, .aaload, 119, []), (119, .iload 4, 121, []), 
  (121, .iaload, 122, []), (122, .ireturn, 123, []), (123, .iinc 4 1, 126, []), (126, .goto (-37), 129, [89]), (129, .iconst (-1), 130, []), (130, .ireturn, 131, [])])
/-- TapeVaultModel.count(I)I -/
def mi_144 : MI := (⟨"TapeVaultModel", "count", "(I)I"⟩, prog_10_method_35_code, 4, (some FieldType.int), [], [
  (0, .aload_n 0, 1, []), (1, .iload_n 1, 2, []), (2, .ifCond .lt 9, 5, [11]), (5, .iload_n 1, 6, []), (6, .bipush 7, 8, []), (8, .if_icmp .le 7, 11, [15]), (11, .iconst 1, 12, []), (12, .goto 4, 15, [16]), 
  (15, .iconst 0, 16, []), (16, .iconst 1, 17, []), (17, .invokevirtual 133, 20, [2, 2, 112, 7, 843, 845, 21, 47, 846]), (20, .ifCond .eq 5, 23, [25]), (23, .iconst 0, 24, []), (24, .ireturn, 25, []), 
  (25, .iconst 0, 26, []), (26, .istore_n 2, 27, []), (27, .iconst 0, 28, []), (28, .istore_n 3, 29, []), (29, .iload_n 3, 30, []), (30, .sipush 256, 33, []), (33, .if_icmp .ge 21, 36, [54]), (36, .aload_n 0, 37, []), 
  (37, .getfield 9, 40, [76, 7, 1]), (40, .iload_n 3, 41, []), (41, .iaload, 42, []), (42, .ifCond .eq 6, 45, [48]), (45, .iinc 2 1, 48, []), (48, .iinc 3 1, 51, []), (51, .goto (-22), 54, [29]), (54, .iload_n 1, 55, []), 
  (55, .tableswitch 89 0 6 #[41, 46, 48, 53, 67, 79, 84], 96, [144, 96, 101, 103, 108, 122, 134, 139]), (96, .aload_n 0, 97, []), (97, .getfield 137, 100, [82, 7, 7]), (100, .ireturn, 101, []), (101, .iload_n 2, 102, []), 
  (102, .ireturn, 103, []), (103, .aload_n 0, 104, []), (104, .getfield 146, 107, [91, 7, 16]), (107, .ireturn, 108, []), (108, .aload_n 0, 109, []), (109, .getfield 143, 112, [84, 7, 9]), (112, .aload_n 0, 113, []), 
  (113, .getfield 140, 116, [83, 7, 8]), (116, .iconst 1, 117, []), (117, .isub, 118, []), (118, .invokestatic 188, 121, [0, 2, 124, 1038, 1039, 47, 1040]), (121, .ireturn, 122, []), (122, .aload_n 0, 123, []), 
  (123, .getfield 143, 126, [84, 7, 9]), (126, .aload_n 0, 127, []), (127, .getfield 140, 130, [83, 7, 8]), (130, .invokestatic 194, 133, [0, 2, 125, 1041, 1042, 47, 1043]), (133, .ireturn, 134, []), 
  (134, .aload_n 0, 135, []), (135, .getfield 162, 138, [118, 7, 43]), (138, .ireturn, 139, []), (139, .aload_n 0, 140, []), (140, .getfield 165, 143, [119, 7, 44]), (143, .ireturn, 144, []), (144, .aload_n 0, 145, []), 
  (145, .getfield 168, 148, [120, 7, 45]), (148, .ireturn, 149, [])])
/-- TapeVaultLaw.law([I)Z -/
def mi_145 : MI := (⟨"TapeVaultLaw", "law", "([I)Z"⟩, code, 8, (some .boolean), [], [
  (0, .new 8, 3, [0, 58]), (3, .dup, 4, []), (4, .invokespecial 67, 7, [4, 0, 0, 60, 61, 39, 62]), (7, .astore_n 1, 8, []), (8, .new 68, 11, [7, 825]), (11, .dup, 12, []), 
  (12, .invokespecial 70, 15, [4, 0, 110, 827, 828, 47, 829]), (15, .astore_n 2, 16, []), (16, .iconst 1, 17, []), (17, .newarray .long, 19, []), (19, .astore_n 3, 20, []), (20, .iconst 0, 21, []), (21, .istore 4, 23, []), 
  (23, .iload 4, 25, []), (25, .aload_n 0, 26, []), (26, .arraylength, 27, []), (27, .iconst 5, 28, []), (28, .isub, 29, []), (29, .if_icmp .gt 1056, 32, [1085]), (32, .aload_n 0, 33, []), (33, .iload 4, 35, []), 
  (35, .iaload, 36, []), (36, .bipush 15, 38, []), (38, .iand, 39, []), 
  (39, .tableswitch 1040 0 13 #[69, 105, 201, 313, 361, 421, 457, 513, 561, 640, 696, 792, 888, 984], 108, [1079, 108, 144, 240, 352, 400, 460, 496, 552, 600, 679, 735, 831, 927, 1023]), (108, .aload_n 1, 109, []), 
  (109, .aload_n 0, 110, []), (110, .iload 4, 112, []), (112, .iconst 1, 113, []), (113, .iadd, 114, []), (114, .iaload, 115, []), (115, .invokestatic 71, 118, [8, 2, 12, 255, 256, 38, 257]), (118, .istore 5, 120, []), 
  (120, .aload_n 2, 121, []), (121, .aload_n 0, 122, []), (122, .iload 4, 124, []), (124, .iconst 1, 125, []), (125, .iadd, 126, []), (126, .iaload, 127, []), 
  (127, .invokevirtual 76, 130, [2, 1, 111, 7, 996, 840, 841, 47, 842]), (130, .aload_n 2, 131, []), (131, .invokevirtual 77, 134, [2, 0, 113, 7, 992, 993, 994, 47, 995]), (134, .iload 5, 136, []), 
  (136, .if_icmp .eq 5, 139, [141]), (139, .iconst 0, 140, []), (140, .ireturn, 141, []), (141, .goto 938, 144, [1079]), (144, .aload_n 1, 145, []), (145, .aload_n 0, 146, []), (146, .iload 4, 148, []), 
  (148, .iconst 1, 149, []), (149, .iadd, 150, []), (150, .iaload, 151, []), (151, .aload_n 0, 152, []), (152, .iload 4, 154, []), (154, .iconst 2, 155, []), (155, .iadd, 156, []), (156, .iaload, 157, []), 
  (157, .aload_n 0, 158, []), (158, .iload 4, 160, []), (160, .iconst 3, 161, []), (161, .iadd, 162, []), (162, .iaload, 163, []), (163, .ifCond .eq 7, 166, [170]), (166, .iconst 1, 167, []), (167, .goto 4, 170, [171]), 
  (170, .iconst 0, 171, []), (171, .aload_n 3, 172, []), (172, .invokestatic 81, 175, [8, 5, 14, 327, 328, 38, 329]), (175, .istore 5, 177, []), (177, .aload_n 2, 178, []), (178, .aload_n 0, 179, []), 
  (179, .iload 4, 181, []), (181, .iconst 1, 182, []), (182, .iadd, 183, []), (183, .iaload, 184, []), (184, .aload_n 0, 185, []), (185, .iload 4, 187, []), (187, .iconst 2, 188, []), (188, .iadd, 189, []), 
  (189, .iaload, 190, []), (190, .aload_n 0, 191, []), (191, .iload 4, 193, []), (193, .iconst 3, 194, []), (194, .iadd, 195, []), (195, .iaload, 196, []), (196, .ifCond .eq 7, 199, [203]), (199, .iconst 1, 200, []), 
  (200, .goto 4, 203, [204]), (203, .iconst 0, 204, []), (204, .invokevirtual 84, 207, [2, 3, 114, 7, 997, 998, 999, 47, 1000]), (207, .istore 6, 209, []), (209, .aload_n 2, 210, []), 
  (210, .invokevirtual 77, 213, [2, 0, 113, 7, 992, 993, 994, 47, 995]), (213, .iload 5, 215, []), (215, .if_icmp .eq 5, 218, [220]), (218, .iconst 0, 219, []), (219, .ireturn, 220, []), (220, .iload 5, 222, []), 
  (222, .ifCond .ne 15, 225, [237]), (225, .aload_n 3, 226, []), (226, .iconst 0, 227, []), (227, .laload, 228, []), (228, .iload 6, 230, []), (230, .i2l, 231, []), (231, .lcmp, 232, []), (232, .ifCond .eq 5, 235, [237]), 
  (235, .iconst 0, 236, []), (236, .ireturn, 237, []), (237, .goto 842, 240, [1079]), (240, .aload_n 1, 241, []), (241, .aload_n 0, 242, []), (242, .iload 4, 244, []), (244, .iconst 1, 245, []), (245, .iadd, 246, []), 
  (246, .iaload, 247, []), (247, .aload_n 0, 248, []), (248, .iload 4, 250, []), (250, .iconst 2, 251, []), (251, .iadd, 252, []), (252, .iaload, 253, []), (253, .aload_n 0, 254, []), (254, .iload 4, 256, []), 
  (256, .iconst 3, 257, []), (257, .iadd, 258, []), (258, .iaload, 259, []), (259, .i2l, 260, []), (260, .bipush 32, 262, []), (262, .lshl, 263, []), (263, .aload_n 0, 264, []), (264, .iload 4, 266, []), 
  (266, .iconst 4, 267, []), (267, .iadd, 268, []), (268, .iaload, 269, []), (269, .i2l, 270, []), (270, .ldc2_w 85, 273, [1]), (273, .land, 274, []), (274, .lor, 275, []), (275, .aload_n 3, 276, []), 
  (276, .invokestatic 87, 279, [8, 5, 24, 396, 397, 38, 398]), (279, .istore 5, 281, []), (281, .aload_n 2, 282, []), (282, .aload_n 0, 283, []), (283, .iload 4, 285, []), (285, .iconst 1, 286, []), (286, .iadd, 287, []), 
  (287, .iaload, 288, []), (288, .aload_n 0, 289, []), (289, .iload 4, 291, []), (291, .iconst 2, 292, []), (292, .iadd, 293, []), (293, .iaload, 294, []), (294, .aload_n 0, 295, []), (295, .iload 4, 297, []), 
  (297, .iconst 3, 298, []), (298, .iadd, 299, []), (299, .iaload, 300, []), (300, .i2l, 301, []), (301, .bipush 32, 303, []), (303, .lshl, 304, []), (304, .aload_n 0, 305, []), (305, .iload 4, 307, []), 
  (307, .iconst 4, 308, []), (308, .iadd, 309, []), (309, .iaload, 310, []), (310, .i2l, 311, []), (311, .ldc2_w 85, 314, [1]), (314, .land, 315, []), (315, .lor, 316, []), 
  (316, .invokevirtual 90, 319, [2, 3, 117, 7, 1009, 1010, 1011, 47, 1012]), (319, .istore 6, 321, []), (321, .aload_n 2, 322, []), (322, .invokevirtual 77, 325, [2, 0, 113, 7, 992, 993, 994, 47, 995]), 
  (325, .iload 5, 327, []), (327, .if_icmp .eq 5, 330, [332]), (330, .iconst 0, 331, []), (331, .ireturn, 332, []), (332, .iload 5, 334, []), (334, .ifCond .ne 15, 337, [349]), (337, .aload_n 3, 338, []), 
  (338, .iconst 0, 339, []), (339, .laload, 340, []), (340, .iload 6, 342, []), (342, .i2l, 343, []), (343, .lcmp, 344, []), (344, .ifCond .eq 5, 347, [349]), (347, .iconst 0, 348, []), (348, .ireturn, 349, []), 
  (349, .goto 730, 352, [1079]), (352, .aload_n 1, 353, []), (353, .aload_n 0, 354, []), (354, .iload 4, 356, []), (356, .iconst 1, 357, []), (357, .iadd, 358, []), (358, .iaload, 359, []), (359, .aload_n 0, 360, []), 
  (360, .iload 4, 362, []), (362, .iconst 2, 363, []), (363, .iadd, 364, []), (364, .iaload, 365, []), (365, .invokestatic 91, 368, [8, 3, 29, 416, 417, 38, 418]), (368, .istore 5, 370, []), (370, .aload_n 2, 371, []), 
  (371, .aload_n 0, 372, []), (372, .iload 4, 374, []), (374, .iconst 1, 375, []), (375, .iadd, 376, []), (376, .iaload, 377, []), (377, .aload_n 0, 378, []), (378, .iload 4, 380, []), (380, .iconst 2, 381, []), 
  (381, .iadd, 382, []), (382, .iaload, 383, []), (383, .invokevirtual 94, 386, [2, 2, 118, 7, 1014, 1015, 1016, 47, 1017]), (386, .aload_n 2, 387, []), (387, .invokevirtual 77, 390, [2, 0, 113, 7, 992, 993, 994, 47, 995]), 
  (390, .iload 5, 392, []), (392, .if_icmp .eq 5, 395, [397]), (395, .iconst 0, 396, []), (396, .ireturn, 397, []), (397, .goto 682, 400, [1079]), (400, .aload_n 1, 401, []), (401, .aload_n 0, 402, []), 
  (402, .iload 4, 404, []), (404, .iconst 1, 405, []), (405, .iadd, 406, []), (406, .iaload, 407, []), (407, .aload_n 0, 408, []), (408, .iload 4, 410, []), (410, .iconst 2, 411, []), (411, .iadd, 412, []), 
  (412, .iaload, 413, []), (413, .aload_n 0, 414, []), (414, .iload 4, 416, []), (416, .iconst 3, 417, []), (417, .iadd, 418, []), (418, .iaload, 419, []), (419, .invokestatic 95, 422, [8, 4, 32, 427, 428, 38, 429]), 
  (422, .istore 5, 424, []), (424, .aload_n 2, 425, []), (425, .aload_n 0, 426, []), (426, .iload 4, 428, []), (428, .iconst 1, 429, []), (429, .iadd, 430, []), (430, .iaload, 431, []), (431, .aload_n 0, 432, []), 
  (432, .iload 4, 434, []), (434, .iconst 2, 435, []), (435, .iadd, 436, []), (436, .iaload, 437, []), (437, .aload_n 0, 438, []), (438, .iload 4, 440, []), (440, .iconst 3, 441, []), (441, .iadd, 442, []), 
  (442, .iaload, 443, []), (443, .invokevirtual 98, 446, [2, 3, 119, 7, 1018, 1019, 1020, 47, 1021]), (446, .aload_n 2, 447, []), (447, .invokevirtual 77, 450, [2, 0, 113, 7, 992, 993, 994, 47, 995]), 
  (450, .iload 5, 452, []), (452, .if_icmp .eq 5, 455, [457]), (455, .iconst 0, 456, []), (456, .ireturn, 457, []), (457, .goto 622, 460, [1079]), (460, .aload_n 1, 461, []), (461, .aload_n 0, 462, []), 
  (462, .iload 4, 464, []), (464, .iconst 1, 465, []), (465, .iadd, 466, []), (466, .iaload, 467, []), (467, .invokestatic 99, 470, [8, 2, 39, 471, 472, 38, 473]), (470, .istore 5, 472, []), (472, .aload_n 2, 473, []), 
  (473, .aload_n 0, 474, []), (474, .iload 4, 476, []), (476, .iconst 1, 477, []), (477, .iadd, 478, []), (478, .iaload, 479, []), (479, .invokevirtual 101, 482, [2, 1, 120, 7, 1022, 1023, 1024, 47, 1025]), 
  (482, .aload_n 2, 483, []), (483, .invokevirtual 77, 486, [2, 0, 113, 7, 992, 993, 994, 47, 995]), (486, .iload 5, 488, []), (488, .if_icmp .eq 5, 491, [493]), (491, .iconst 0, 492, []), (492, .ireturn, 493, []), 
  (493, .goto 586, 496, [1079]), (496, .aload_n 1, 497, []), (497, .aload_n 0, 498, []), (498, .iload 4, 500, []), (500, .iconst 1, 501, []), (501, .iadd, 502, []), (502, .iaload, 503, []), (503, .aload_n 3, 504, []), 
  (504, .invokestatic 102, 507, [8, 3, 42, 482, 483, 38, 484]), (507, .istore 5, 509, []), (509, .aload_n 2, 510, []), (510, .aload_n 0, 511, []), (511, .iload 4, 513, []), (513, .iconst 1, 514, []), (514, .iadd, 515, []), 
  (515, .iaload, 516, []), (516, .invokevirtual 105, 519, [2, 1, 122, 7, 1030, 1031, 1032, 47, 1033]), (519, .istore 6, 521, []), (521, .aload_n 2, 522, []), 
  (522, .invokevirtual 77, 525, [2, 0, 113, 7, 992, 993, 994, 47, 995]), (525, .iload 5, 527, []), (527, .if_icmp .eq 5, 530, [532]), (530, .iconst 0, 531, []), (531, .ireturn, 532, []), (532, .iload 5, 534, []), 
  (534, .ifCond .ne 15, 537, [549]), (537, .aload_n 3, 538, []), (538, .iconst 0, 539, []), (539, .laload, 540, []), (540, .iload 6, 542, []), (542, .i2l, 543, []), (543, .lcmp, 544, []), (544, .ifCond .eq 5, 547, [549]), 
  (547, .iconst 0, 548, []), (548, .ireturn, 549, []), (549, .goto 530, 552, [1079]), (552, .aload_n 1, 553, []), (553, .aload_n 0, 554, []), (554, .iload 4, 556, []), (556, .iconst 1, 557, []), (557, .iadd, 558, []), 
  (558, .iaload, 559, []), (559, .aload_n 0, 560, []), (560, .iload 4, 562, []), (562, .iconst 2, 563, []), (563, .iadd, 564, []), (564, .iaload, 565, []), (565, .invokestatic 106, 568, [8, 3, 68, 647, 648, 38, 649]), 
  (568, .istore 5, 570, []), (570, .aload_n 2, 571, []), (571, .aload_n 0, 572, []), (572, .iload 4, 574, []), (574, .iconst 1, 575, []), (575, .iadd, 576, []), (576, .iaload, 577, []), (577, .aload_n 0, 578, []), 
  (578, .iload 4, 580, []), (580, .iconst 2, 581, []), (581, .iadd, 582, []), (582, .iaload, 583, []), (583, .invokevirtual 108, 586, [2, 2, 127, 7, 1048, 1049, 1050, 47, 1051]), (586, .aload_n 2, 587, []), 
  (587, .invokevirtual 77, 590, [2, 0, 113, 7, 992, 993, 994, 47, 995]), (590, .iload 5, 592, []), (592, .if_icmp .eq 5, 595, [597]), (595, .iconst 0, 596, []), (596, .ireturn, 597, []), (597, .goto 482, 600, [1079]), 
  (600, .aload_n 1, 601, []), (601, .aload_n 0, 602, []), (602, .iload 4, 604, []), (604, .iconst 1, 605, []), (605, .iadd, 606, []), (606, .iaload, 607, []), (607, .aload_n 0, 608, []), (608, .iload 4, 610, []), 
  (610, .iconst 2, 611, []), (611, .iadd, 612, []), (612, .iaload, 613, []), (613, .aload_n 0, 614, []), (614, .iload 4, 616, []), (616, .iconst 3, 617, []), (617, .iadd, 618, []), (618, .iaload, 619, []), 
  (619, .aload_n 3, 620, []), (620, .invokestatic 109, 623, [8, 5, 72, 662, 663, 38, 664]), (623, .istore 5, 625, []), (625, .aload_n 2, 626, []), (626, .aload_n 0, 627, []), (627, .iload 4, 629, []), 
  (629, .iconst 1, 630, []), (630, .iadd, 631, []), (631, .iaload, 632, []), (632, .aload_n 0, 633, []), (633, .iload 4, 635, []), (635, .iconst 2, 636, []), (636, .iadd, 637, []), (637, .iaload, 638, []), 
  (638, .aload_n 0, 639, []), (639, .iload 4, 641, []), (641, .iconst 3, 642, []), (642, .iadd, 643, []), (643, .iaload, 644, []), (644, .invokevirtual 112, 647, [2, 3, 130, 7, 1060, 1061, 1062, 47, 1063]), 
  (647, .lstore 6, 649, []), (649, .aload_n 2, 650, []), (650, .invokevirtual 77, 653, [2, 0, 113, 7, 992, 993, 994, 47, 995]), (653, .iload 5, 655, []), (655, .if_icmp .eq 5, 658, [660]), (658, .iconst 0, 659, []), 
  (659, .ireturn, 660, []), (660, .iload 5, 662, []), (662, .ifCond .ne 14, 665, [676]), (665, .aload_n 3, 666, []), (666, .iconst 0, 667, []), (667, .laload, 668, []), (668, .lload 6, 670, []), (670, .lcmp, 671, []), 
  (671, .ifCond .eq 5, 674, [676]), (674, .iconst 0, 675, []), (675, .ireturn, 676, []), (676, .goto 403, 679, [1079]), (679, .aload_n 1, 680, []), (680, .aload_n 0, 681, []), (681, .iload 4, 683, []), 
  (683, .iconst 1, 684, []), (684, .iadd, 685, []), (685, .iaload, 686, []), (686, .aload_n 3, 687, []), (687, .invokestatic 113, 690, [8, 3, 76, 677, 678, 38, 679]), (690, .istore 5, 692, []), (692, .aload_n 2, 693, []), 
  (693, .aload_n 0, 694, []), (694, .iload 4, 696, []), (696, .iconst 1, 697, []), (697, .iadd, 698, []), (698, .iaload, 699, []), (699, .invokevirtual 115, 702, [2, 1, 137, 7, 1089, 1090, 1091, 47, 1092]), 
  (702, .istore 6, 704, []), (704, .aload_n 2, 705, []), (705, .invokevirtual 77, 708, [2, 0, 113, 7, 992, 993, 994, 47, 995]), (708, .iload 5, 710, []), (710, .if_icmp .eq 5, 713, [715]), (713, .iconst 0, 714, []), 
  (714, .ireturn, 715, []), (715, .iload 5, 717, []), (717, .ifCond .ne 15, 720, [732]), (720, .aload_n 3, 721, []), (721, .iconst 0, 722, []), (722, .laload, 723, []), (723, .iload 6, 725, []), (725, .i2l, 726, []), 
  (726, .lcmp, 727, []), (727, .ifCond .eq 5, 730, [732]), (730, .iconst 0, 731, []), (731, .ireturn, 732, []), (732, .goto 347, 735, [1079]), (735, .aload_n 1, 736, []), (736, .aload_n 0, 737, []), 
  (737, .iload 4, 739, []), (739, .iconst 1, 740, []), (740, .iadd, 741, []), (741, .iaload, 742, []), (742, .ifCond .eq 7, 745, [749]), (745, .iconst 1, 746, []), (746, .goto 4, 749, [750]), (749, .iconst 0, 750, []), 
  (750, .aload_n 0, 751, []), (751, .iload 4, 753, []), (753, .iconst 2, 754, []), (754, .iadd, 755, []), (755, .iaload, 756, []), (756, .aload_n 0, 757, []), (757, .iload 4, 759, []), (759, .iconst 3, 760, []), 
  (760, .iadd, 761, []), (761, .iaload, 762, []), (762, .aload_n 3, 763, []), (763, .invokestatic 116, 766, [8, 5, 91, 742, 743, 38, 744]), (766, .istore 5, 768, []), (768, .aload_n 2, 769, []), (769, .aload_n 0, 770, []), 
  (770, .iload 4, 772, []), (772, .iconst 1, 773, []), (773, .iadd, 774, []), (774, .iaload, 775, []), (775, .ifCond .eq 7, 778, [782]), (778, .iconst 1, 779, []), (779, .goto 4, 782, [783]), (782, .iconst 0, 783, []), 
  (783, .aload_n 0, 784, []), (784, .iload 4, 786, []), (786, .iconst 2, 787, []), (787, .iadd, 788, []), (788, .iaload, 789, []), (789, .aload_n 0, 790, []), (790, .iload 4, 792, []), (792, .iconst 3, 793, []), 
  (793, .iadd, 794, []), (794, .iaload, 795, []), (795, .invokevirtual 119, 798, [2, 3, 141, 7, 1105, 1106, 1107, 47, 1108]), (798, .istore 6, 800, []), (800, .aload_n 2, 801, []), 
  (801, .invokevirtual 77, 804, [2, 0, 113, 7, 992, 993, 994, 47, 995]), (804, .iload 5, 806, []), (806, .if_icmp .eq 5, 809, [811]), (809, .iconst 0, 810, []), (810, .ireturn, 811, []), (811, .iload 5, 813, []), 
  (813, .ifCond .ne 15, 816, [828]), (816, .aload_n 3, 817, []), (817, .iconst 0, 818, []), (818, .laload, 819, []), (819, .iload 6, 821, []), (821, .i2l, 822, []), (822, .lcmp, 823, []), (823, .ifCond .eq 5, 826, [828]), 
  (826, .iconst 0, 827, []), (827, .ireturn, 828, []), (828, .goto 251, 831, [1079]), (831, .aload_n 1, 832, []), (832, .aload_n 0, 833, []), (833, .iload 4, 835, []), (835, .iconst 1, 836, []), (836, .iadd, 837, []), 
  (837, .iaload, 838, []), (838, .ifCond .eq 7, 841, [845]), (841, .iconst 1, 842, []), (842, .goto 4, 845, [846]), (845, .iconst 0, 846, []), (846, .aload_n 0, 847, []), (847, .iload 4, 849, []), (849, .iconst 2, 850, []), 
  (850, .iadd, 851, []), (851, .iaload, 852, []), (852, .aload_n 0, 853, []), (853, .iload 4, 855, []), (855, .iconst 3, 856, []), (856, .iadd, 857, []), (857, .iaload, 858, []), (858, .aload_n 3, 859, []), 
  (859, .invokestatic 120, 862, [8, 5, 98, 773, 774, 38, 775]), (862, .istore 5, 864, []), (864, .aload_n 2, 865, []), (865, .aload_n 0, 866, []), (866, .iload 4, 868, []), (868, .iconst 1, 869, []), (869, .iadd, 870, []), 
  (870, .iaload, 871, []), (871, .ifCond .eq 7, 874, [878]), (874, .iconst 1, 875, []), (875, .goto 4, 878, [879]), (878, .iconst 0, 879, []), (879, .aload_n 0, 880, []), (880, .iload 4, 882, []), (882, .iconst 2, 883, []), 
  (883, .iadd, 884, []), (884, .iaload, 885, []), (885, .aload_n 0, 886, []), (886, .iload 4, 888, []), (888, .iconst 3, 889, []), (889, .iadd, 890, []), (890, .iaload, 891, []), 
  (891, .invokevirtual 122, 894, [2, 3, 142, 7, 1109, 1110, 1111, 47, 1112]), (894, .istore 6, 896, []), (896, .aload_n 2, 897, []), (897, .invokevirtual 77, 900, [2, 0, 113, 7, 992, 993, 994, 47, 995]), 
  (900, .iload 5, 902, []), (902, .if_icmp .eq 5, 905, [907]), (905, .iconst 0, 906, []), (906, .ireturn, 907, []), (907, .iload 5, 909, []), (909, .ifCond .ne 15, 912, [924]), (912, .aload_n 3, 913, []), 
  (913, .iconst 0, 914, []), (914, .laload, 915, []), (915, .iload 6, 917, []), (917, .i2l, 918, []), (918, .lcmp, 919, []), (919, .ifCond .eq 5, 922, [924]), (922, .iconst 0, 923, []), (923, .ireturn, 924, []), 
  (924, .goto 155, 927, [1079]), (927, .aload_n 1, 928, []), (928, .aload_n 0, 929, []), (929, .iload 4, 931, []), (931, .iconst 1, 932, []), (932, .iadd, 933, []), (933, .iaload, 934, []), (934, .ifCond .eq 7, 937, [941]), 
  (937, .iconst 1, 938, []), (938, .goto 4, 941, [942]), (941, .iconst 0, 942, []), (942, .aload_n 0, 943, []), (943, .iload 4, 945, []), (945, .iconst 2, 946, []), (946, .iadd, 947, []), (947, .iaload, 948, []), 
  (948, .aload_n 0, 949, []), (949, .iload 4, 951, []), (951, .iconst 3, 952, []), (952, .iadd, 953, []), (953, .iaload, 954, []), (954, .aload_n 3, 955, []), (955, .invokestatic 123, 958, [8, 5, 103, 795, 796, 38, 797]), 
  (958, .istore 5, 960, []), (960, .aload_n 2, 961, []), (961, .aload_n 0, 962, []), (962, .iload 4, 964, []), (964, .iconst 1, 965, []), (965, .iadd, 966, []), (966, .iaload, 967, []), (967, .ifCond .eq 7, 970, [974]), 
  (970, .iconst 1, 971, []), (971, .goto 4, 974, [975]), (974, .iconst 0, 975, []), (975, .aload_n 0, 976, []), (976, .iload 4, 978, []), (978, .iconst 2, 979, []), (979, .iadd, 980, []), (980, .iaload, 981, []), 
  (981, .aload_n 0, 982, []), (982, .iload 4, 984, []), (984, .iconst 3, 985, []), (985, .iadd, 986, []), (986, .iaload, 987, []), (987, .invokevirtual 125, 990, [2, 3, 143, 7, 1113, 1114, 1115, 47, 1116]), 
  (990, .istore 6, 992, []), (992, .aload_n 2, 993, []), (993, .invokevirtual 77, 996, [2, 0, 113, 7, 992, 993, 994, 47, 995]), (996, .iload 5, 998, []), (998, .if_icmp .eq 5, 1001, [1003]), (1001, .iconst 0, 1002, []), 
  (1002, .ireturn, 1003, []), (1003, .iload 5, 1005, []), (1005, .ifCond .ne 15, 1008, [1020]), (1008, .aload_n 3, 1009, []), (1009, .iconst 0, 1010, []), (1010, .laload, 1011, []), (1011, .iload 6, 1013, []), 
  (1013, .i2l, 1014, []), (1014, .lcmp, 1015, []), (1015, .ifCond .eq 5, 1018, [1020]), (1018, .iconst 0, 1019, []), (1019, .ireturn, 1020, []), (1020, .goto 59, 1023, [1079]), (1023, .aload_n 1, 1024, []), 
  (1024, .aload_n 0, 1025, []), (1025, .iload 4, 1027, []), (1027, .iconst 1, 1028, []), (1028, .iadd, 1029, []), (1029, .iaload, 1030, []), (1030, .aload_n 3, 1031, []), 
  (1031, .invokestatic 126, 1034, [8, 3, 107, 814, 815, 38, 816]), (1034, .istore 5, 1036, []), (1036, .aload_n 2, 1037, []), (1037, .aload_n 0, 1038, []), (1038, .iload 4, 1040, []), (1040, .iconst 1, 1041, []), 
  (1041, .iadd, 1042, []), (1042, .iaload, 1043, []), (1043, .invokevirtual 128, 1046, [2, 1, 144, 7, 1117, 1118, 1119, 47, 1120]), (1046, .istore 6, 1048, []), (1048, .aload_n 2, 1049, []), 
  (1049, .invokevirtual 77, 1052, [2, 0, 113, 7, 992, 993, 994, 47, 995]), (1052, .iload 5, 1054, []), (1054, .if_icmp .eq 5, 1057, [1059]), (1057, .iconst 0, 1058, []), (1058, .ireturn, 1059, []), 
  (1059, .iload 5, 1061, []), (1061, .ifCond .ne 15, 1064, [1076]), (1064, .aload_n 3, 1065, []), (1065, .iconst 0, 1066, []), (1066, .laload, 1067, []), (1067, .iload 6, 1069, []), (1069, .i2l, 1070, []), 
  (1070, .lcmp, 1071, []), (1071, .ifCond .eq 5, 1074, [1076]), (1074, .iconst 0, 1075, []), (1075, .ireturn, 1076, []), (1076, .goto 3, 1079, [1079]), (1079, .iinc 4 5, 1082, []), (1082, .goto (-1059), 1085, [23]), 
  (1085, .iconst 1, 1086, []), (1086, .ireturn, 1087, [])])
def mt : List MI := [mi_0, mi_1, mi_2, mi_3, mi_4, mi_5, mi_6, mi_7, mi_8, mi_9, mi_10, mi_11, mi_12, mi_13, mi_14, mi_15, mi_16, mi_17, mi_18, mi_19, mi_20, mi_21, mi_22, mi_23, mi_24, mi_25, mi_26, mi_27, mi_28, mi_29, mi_30, mi_31, mi_32, mi_33, mi_34, mi_35, mi_36, mi_37, mi_38, mi_39, mi_40, mi_41, mi_42, mi_43, mi_44, mi_45, mi_46, mi_47, mi_48, mi_49, mi_50, mi_51, mi_52, mi_53, mi_54, mi_55, mi_56, mi_57, mi_58, mi_59, mi_60, mi_61, mi_62, mi_63, mi_64, mi_65, mi_66, mi_67, mi_68, mi_69, mi_70, mi_71, mi_72, mi_73, mi_74, mi_75, mi_76, mi_77, mi_78, mi_79, mi_80, mi_81, mi_82, mi_83, mi_84, mi_85, mi_86, mi_87, mi_88, mi_89, mi_90, mi_91, mi_92, mi_93, mi_94, mi_95, mi_96, mi_97, mi_98, mi_99, mi_100, mi_101, mi_102, mi_103, mi_104, mi_105, mi_106, mi_107, mi_108, mi_109, mi_110, mi_111, mi_112, mi_113, mi_114, mi_115, mi_116, mi_117, mi_118, mi_119, mi_120, mi_121, mi_122, mi_123, mi_124, mi_125, mi_126, mi_127, mi_128, mi_129, mi_130, mi_131, mi_132, mi_133, mi_134, mi_135, mi_136, mi_137, mi_138, mi_139, mi_140, mi_141, mi_142, mi_143, mi_144]
