/-! the code of the methods, by blocks: live locals, then the instructions (place, instruction, length, what it means here, places of its words in lw_tbl) -/
def kb_X0_init : List (List Nat × List RI) := [
  ([0, 1, 2, 3, 4, 5, 6], [(0, .aload_n 0, 1, [], []), (1, .iload_n 1, 1, [], []), (2, .iload_n 2, 1, [], []), (3, .iload_n 3, 1, [], []), (4, .iload 4, 2, [], []), (6, .iload 5, 2, [], []), (8, .aload 6, 2, [], []), (10, .invokespecial 1, 3, [1, 0, 6, 32, 0, 1, 2, 4, 6, 7, 8], [0, 511, 512]), (13, .return_, 1, [], [])])]
def km_X0_init : MT := (yX0_init, cX0_init, 7, none, kb_X0_init)
def kb_X0_hoursFrom : List (List Nat × List RI) := [
  ([0], [(0, .aload_n 0, 1, [], []), (1, .getfield 7, 3, [3, 0, 0, 7], [531, 532]), (4, .iconst 1, 1, [], []), (5, .iadd, 1, [], []), (6, .iconst 2, 1, [], []), (7, .idiv, 1, [], []), (8, .ireturn, 1, [0], [])])]
def km_X0_hoursFrom : MT := (yX0_hoursFrom, cX0_hoursFrom, 2, (some .int), kb_X0_hoursFrom)
def kb_X0_sends : List (List Nat × List RI) := [
  ([0, 1], [(0, .aload_n 0, 1, [], []), (1, .getfield 13, 3, [5, 2, 0, 7], [542, 543]), (4, .bipush 11, 2, [], []), (6, .invokevirtual 17, 3, [2, 0, 1, 9, 46], [878, 0, 879, 880, 70, 0, 0, 0]), (9, .aload_n 0, 1, [], []), (10, .iload_n 1, 1, [], []), (11, .iconst 3, 1, [], []), (12, .imul, 1, [], []), (13, .invokespecial 23, 3, [1, 1, 1, 36, 0, 7], [1, 882, 874, 566, 872, 0]), (16, .ireturn, 1, [0], [])])]
def km_X0_sends : MT := (yX0_sends, cX0_sends, 2, (some .int), kb_X0_sends)
def kb_X1_init : List (List Nat × List RI) := [
  ([0, 1, 2, 3, 4, 5, 6], [(0, .aload_n 0, 1, [], []), (1, .iload_n 1, 1, [], []), (2, .iload_n 2, 1, [], []), (3, .iload_n 3, 1, [], []), (4, .iload 4, 2, [], []), (6, .iload 5, 2, [], []), (8, .aload 6, 2, [], []), (10, .invokespecial 1, 3, [1, 0, 6, 32, 0, 1, 2, 4, 6, 7, 8], [0, 572, 512]), (13, .return_, 1, [], [])])]
def km_X1_init : MT := (yX1_init, cX1_init, 7, none, kb_X1_init)
def kb_X1_hoursFrom : List (List Nat × List RI) := [
  ([0, 1], [(0, .aload_n 0, 1, [], []), (1, .getfield 7, 3, [3, 0, 1, 8], [533, 534]), (4, .iload_n 1, 1, [], []), (5, .iconst 2, 1, [], []), (6, .irem, 1, [], []), (7, .iconst 1, 1, [], []), (8, .if_icmp .ne 12, 3, [2, 1], [])]),
  ([0], [(11, .aload_n 0, 1, [], []), (12, .getfield 13, 3, [2, 0, 1, 8], [525, 526]), (15, .iconst 3, 1, [], []), (16, .irem, 1, [], []), (17, .goto 4, 3, [3], [])]),
  ([], [(20, .iconst 0, 1, [], []), (21, .nop, 0, [3], [])]),
  ([], [(21, .iadd, 1, [], []), (22, .ireturn, 1, [0], [])])]
def km_X1_hoursFrom : MT := (yX1_hoursFrom, cX1_hoursFrom, 2, (some .int), kb_X1_hoursFrom)
def kb_X1_takes : List (List Nat × List RI) := [
  ([0, 1], [(0, .aload_n 0, 1, [], []), (1, .getfield 16, 3, [5, 2, 1, 8], [546, 547]), (4, .bipush 21, 2, [], []), (6, .invokevirtual 20, 3, [2, 0, 1, 9, 46], [904, 0, 879, 880, 70, 0, 0, 0]), (9, .aload_n 0, 1, [], []), (10, .iload_n 1, 1, [], []), (11, .invokespecial 26, 3, [1, 1, 1, 37, 1, 8], [1, 905, 899, 579, 897, 0]), (14, .ineg, 1, [], []), (15, .ireturn, 1, [0], [])])]
def km_X1_takes : MT := (yX1_takes, cX1_takes, 2, (some .int), kb_X1_takes)
def kb_X2_init : List (List Nat × List RI) := [
  ([0, 1, 2, 3, 4, 5, 6], [(0, .aload_n 0, 1, [], []), (1, .bipush 6, 2, [], []), (3, .iload_n 1, 1, [], []), (4, .iload_n 2, 1, [], []), (5, .iload_n 3, 1, [], []), (6, .iload 4, 2, [], []), (8, .aload 6, 2, [], []), (10, .invokespecial 3, 3, [1, 0, 6, 14, 2, 4], [0, 624, 583]), (13, .aload_n 0, 1, [], []), (14, .iload 5, 2, [], []), (16, .putfield 9, 3, [6, 0, 2], [625, 0]), (19, .return_, 1, [], [])])]
def km_X2_init : MT := (yX2_init, cX2_init, 7, none, kb_X2_init)
def kb_X2_hoursFrom : List (List Nat × List RI) := [
  ([0, 1], [(0, .aload_n 0, 1, [], []), (1, .iload_n 1, 1, [], []), (2, .invokespecial 15, 3, [1, 1, 1, 15, 2], [1, 666, 1388, 634, 667, 0]), (5, .aload_n 0, 1, [], []), (6, .getfield 9, 3, [6, 0, 2], [625, 0]), (9, .iadd, 1, [], []), (10, .ireturn, 1, [0], [])])]
def km_X2_hoursFrom : MT := (yX2_hoursFrom, cX2_hoursFrom, 2, (some .int), kb_X2_hoursFrom)
def kb_X2_hoursSat : List (List Nat × List RI) := [
  ([0], [(0, .aload_n 0, 1, [], []), (1, .getfield 9, 3, [6, 0, 2], [625, 0]), (4, .ireturn, 1, [0], [])])]
def km_X2_hoursSat : MT := (yX2_hoursSat, cX2_hoursSat, 1, (some .int), kb_X2_hoursSat)
def kb_X2_takes : List (List Nat × List RI) := [
  ([0, 1], [(0, .aload_n 0, 1, [], []), (1, .getfield 19, 3, [5, 2, 2], [552, 553]), (4, .bipush 61, 2, [], []), (6, .invokevirtual 23, 3, [2, 0, 1, 9, 46], [909, 0, 879, 880, 70, 0, 0, 0]), (9, .aload_n 0, 1, [], []), (10, .iload_n 1, 1, [], []), (11, .invokespecial 29, 3, [1, 1, 1, 37, 2], [1, 910, 911, 634, 897, 592]), (14, .aload_n 0, 1, [], []), (15, .getfield 32, 3, [2, 0, 2], [527, 528]), (18, .iadd, 1, [], []), (19, .ireturn, 1, [0], [])])]
def km_X2_takes : MT := (yX2_takes, cX2_takes, 2, (some .int), kb_X2_takes)
def kb_X3_init : List (List Nat × List RI) := [
  ([0, 1, 2, 3], [(0, .aload_n 0, 1, [], []), (1, .invokespecial 1, 3, [3], [428]), (4, .aload_n 0, 1, [], []), (5, .iload_n 1, 1, [], []), (6, .putfield 7, 3, [0, 0, 3], [429, 0]), (9, .aload_n 0, 1, [], []), (10, .iload_n 2, 1, [], []), (11, .putfield 13, 3, [1, 0, 3], [431, 0]), (14, .aload_n 0, 1, [], []), (15, .aload_n 3, 1, [], []), (16, .putfield 16, 3, [2, 2, 3], [433, 0]), (19, .return_, 1, [], [])])]
def km_X3_init : MT := (yX3_init, cX3_init, 4, none, kb_X3_init)
def kb_X3_holds : List (List Nat × List RI) := [
  ([0, 1], [(0, .iconst 0, 1, [], []), (1, .istore_n 2, 1, [], []), (2, .aload_n 0, 1, [], []), (3, .getfield 16, 3, [2, 2, 3], [433, 0]), (6, .astore_n 3, 1, [], []), (7, .aload_n 3, 1, [], []), (8, .arraylength, 1, [], []), (9, .istore 4, 2, [], []), (11, .iconst 0, 1, [], []), (12, .istore 5, 2, [], []), (14, .nop, 0, [1], [])]),
  ([1, 2, 3, 4, 5], [(14, .iload 5, 2, [], []), (16, .iload 4, 2, [], []), (18, .if_icmp .ge 97, 3, [11, 2], [])]),
  ([1, 2, 3, 4, 5], [(21, .aload_n 3, 1, [], []), (22, .iload 5, 2, [], []), (24, .iaload, 1, [], []), (25, .istore 6, 2, [], []), (27, .iload 6, 2, [], []), (29, .bipush 7, 2, [], []), (31, .iand, 1, [], []), (32, .tableswitch 58 5 7 #[28, 35, 47], 28, [6, 3, 4, 5], [])]),
  ([1, 2, 3, 4, 5], [(60, .iload_n 2, 1, [], []), (61, .iconst 1, 1, [], []), (62, .ixor, 1, [], []), (63, .istore_n 2, 1, [], []), (64, .goto 45, 3, [10], [])]),
  ([1, 2, 3, 4, 5], [(67, .iload_n 2, 1, [], []), (68, .iconst 1, 1, [], []), (69, .ishr, 1, [], []), (70, .iload_n 2, 1, [], []), (71, .bipush (-2), 2, [], []), (73, .ior, 1, [], []), (74, .iand, 1, [], []), (75, .istore_n 2, 1, [], []), (76, .goto 33, 3, [10], [])]),
  ([1, 2, 3, 4, 5], [(79, .iload_n 2, 1, [], []), (80, .iconst 1, 1, [], []), (81, .ishr, 1, [], []), (82, .iload_n 2, 1, [], []), (83, .iconst 1, 1, [], []), (84, .iand, 1, [], []), (85, .ior, 1, [], []), (86, .istore_n 2, 1, [], []), (87, .goto 22, 3, [10], [])]),
  ([1, 2, 3, 4, 5, 6], [(90, .iload_n 2, 1, [], []), (91, .iconst 1, 1, [], []), (92, .ishl, 1, [], []), (93, .iload 6, 2, [], []), (95, .iload_n 1, 1, [], []), (96, .invokestatic 20, 3, [0, 1, 2, 13], [0, 491, 492]), (99, .ifCond .eq 7, 3, [8, 7], [])]),
  ([1, 3, 4, 5], [(102, .iconst 1, 1, [], []), (103, .goto 4, 3, [9], [])]),
  ([1, 3, 4, 5], [(106, .iconst 0, 1, [], []), (107, .nop, 0, [9], [])]),
  ([1, 3, 4, 5], [(107, .ior, 1, [], []), (108, .istore_n 2, 1, [], []), (109, .nop, 0, [10], [])]),
  ([1, 2, 3, 4, 5], [(109, .iinc 5 1, 3, [], []), (112, .goto (-98), 3, [1], [])]),
  ([2], [(115, .iload_n 2, 1, [], []), (116, .iconst 1, 1, [], []), (117, .iand, 1, [], []), (118, .iconst 1, 1, [], []), (119, .if_icmp .ne 7, 3, [13, 12], [])]),
  ([], [(122, .iconst 1, 1, [], []), (123, .goto 4, 3, [14], [])]),
  ([], [(126, .iconst 0, 1, [], []), (127, .nop, 0, [14], [])]),
  ([], [(127, .ireturn, 1, [1], [])])]
def km_X3_holds : MT := (yX3_holds, cX3_holds, 7, (some .boolean), kb_X3_holds)
def kb_X3_test : List (List Nat × List RI) := [
  ([0, 1, 2], [(0, .iload_n 0, 1, [], []), (1, .iload_n 1, 1, [], []), (2, .iconst 3, 1, [], []), (3, .ishl, 1, [], []), (4, .ior, 1, [], []), (5, .iload_n 2, 1, [], []), (6, .iconst 5, 1, [], []), (7, .ishl, 1, [], []), (8, .ior, 1, [], []), (9, .ireturn, 1, [0], [])])]
def km_X3_test : MT := (yX3_test, cX3_test, 3, (some .int), kb_X3_test)
def kb_X3_passes : List (List Nat × List RI) := [
  ([0, 1], [(0, .iload_n 1, 1, [], []), (1, .iconst 4, 1, [], []), (2, .iload_n 0, 1, [], []), (3, .bipush 7, 2, [], []), (5, .iand, 1, [], []), (6, .imul, 1, [], []), (7, .ishr, 1, [], []), (8, .bipush 15, 2, [], []), (10, .iand, 1, [], []), (11, .istore_n 2, 1, [], []), (12, .iload_n 0, 1, [], []), (13, .iconst 5, 1, [], []), (14, .ishr, 1, [], []), (15, .istore_n 3, 1, [], []), (16, .iload_n 0, 1, [], []), (17, .iconst 3, 1, [], []), (18, .ishr, 1, [], []), (19, .iconst 3, 1, [], []), (20, .iand, 1, [], []), (21, .lookupswitch 49 #[(0, 27), (1, 38)], 27, [9, 1, 5], [])]),
  ([2, 3], [(48, .iload_n 2, 1, [], []), (49, .iload_n 3, 1, [], []), (50, .if_icmp .ge 7, 3, [3, 2], [])]),
  ([], [(53, .iconst 1, 1, [], []), (54, .goto 4, 3, [4], [])]),
  ([], [(57, .iconst 0, 1, [], []), (58, .nop, 0, [4], [])]),
  ([], [(58, .ireturn, 1, [1], [])]),
  ([2, 3], [(59, .iload_n 2, 1, [], []), (60, .iload_n 3, 1, [], []), (61, .if_icmp .ne 7, 3, [7, 6], [])]),
  ([], [(64, .iconst 1, 1, [], []), (65, .goto 4, 3, [8], [])]),
  ([], [(68, .iconst 0, 1, [], []), (69, .nop, 0, [8], [])]),
  ([], [(69, .ireturn, 1, [1], [])]),
  ([2, 3], [(70, .iload_n 2, 1, [], []), (71, .iload_n 3, 1, [], []), (72, .if_icmp .le 7, 3, [11, 10], [])]),
  ([], [(75, .iconst 1, 1, [], []), (76, .goto 4, 3, [12], [])]),
  ([], [(79, .iconst 0, 1, [], []), (80, .nop, 0, [12], [])]),
  ([], [(80, .ireturn, 1, [1], [])])]
def km_X3_passes : MT := (yX3_passes, cX3_passes, 4, (some .boolean), kb_X3_passes)
def kb_X4_init : List (List Nat × List RI) := [
  ([0, 1, 2, 3, 4, 5, 6], [(0, .aload_n 0, 1, [], []), (1, .iload_n 1, 1, [], []), (2, .iload_n 2, 1, [], []), (3, .iload_n 3, 1, [], []), (4, .iload 4, 2, [], []), (6, .iload 5, 2, [], []), (8, .aload 6, 2, [], []), (10, .invokespecial 1, 3, [1, 0, 6, 32, 0, 1, 2, 4, 6, 7, 8], [0, 585, 512]), (13, .return_, 1, [], [])])]
def km_X4_init : MT := (yX4_init, cX4_init, 7, none, kb_X4_init)
def kb_X4_hoursFrom : List (List Nat × List RI) := [
  ([0, 1], [(0, .iload_n 1, 1, [], []), (1, .bipush 12, 2, [], []), (3, .irem, 1, [], []), (4, .bipush 6, 2, [], []), (6, .if_icmp .lt 7, 3, [2, 1], [])]),
  ([], [(9, .iconst 1, 1, [], []), (10, .goto 7, 3, [3], [])]),
  ([0], [(13, .aload_n 0, 1, [], []), (14, .getfield 7, 3, [3, 0, 2, 4], [535, 536]), (17, .nop, 0, [3], [])]),
  ([], [(17, .ireturn, 1, [0], [])])]
def km_X4_hoursFrom : MT := (yX4_hoursFrom, cX4_hoursFrom, 2, (some .int), kb_X4_hoursFrom)
def kb_X4_tells : List (List Nat × List RI) := [
  ([0, 1], [(0, .aload_n 0, 1, [], []), (1, .getfield 13, 3, [5, 2, 2, 4], [548, 549]), (4, .bipush 31, 2, [], []), (6, .invokevirtual 17, 3, [2, 0, 1, 9, 46], [927, 0, 879, 880, 70, 0, 0, 0]), (9, .aload_n 0, 1, [], []), (10, .iload_n 1, 1, [], []), (11, .invokespecial 23, 3, [1, 1, 1, 38, 2, 4], [1, 928, 921, 592, 919, 0]), (14, .bipush 7, 2, [], []), (16, .ixor, 1, [], []), (17, .ireturn, 1, [0], [])])]
def km_X4_tells : MT := (yX4_tells, cX4_tells, 2, (some .int), kb_X4_tells)
def kb_X5_init : List (List Nat × List RI) := [
  ([0, 1], [(0, .aload_n 0, 1, [], []), (1, .invokespecial 3, 3, [3], [175]), (4, .aload_n 0, 1, [], []), (5, .bipush 10, 2, [], []), (7, .anewarray 9, 3, [24], [176]), (10, .putfield 11, 3, [1, 2, 5], [179, 0]), (13, .aload_n 0, 1, [], []), (14, .bipush 100, 2, [], []), (16, .newarray .int, 2, [20], [198]), (18, .putfield 17, 3, [2, 2, 5], [180, 0]), (21, .aload_n 0, 1, [], []), (22, .ldc 21, 2, [1, 0], []), (24, .putfield 23, 3, [4, 2, 5], [182, 0]), (27, .aload_n 0, 1, [], []), (28, .aload_n 1, 1, [], []), (29, .putfield 27, 3, [0, 2, 5], [178, 0]), (32, .return_, 1, [], [])])]
def km_X5_init : MT := (yX5_init, cX5_init, 2, none, kb_X5_init)
def kb_X5_readCoast : List (List Nat × List RI) := [
  ([0], [(0, .aload_n 0, 1, [], []), (1, .ldc 31, 2, [1, 1], []), (3, .putfield 23, 3, [4, 2, 5], [182, 0]), (6, .aload_n 0, 1, [], []), (7, .iconst 0, 1, [], []), (8, .putfield 33, 3, [5, 0, 5], [183, 0]), (11, .iconst 0, 1, [], []), (12, .istore_n 1, 1, [], []), (13, .iconst 1, 1, [], []), (14, .istore_n 2, 1, [], []), (15, .nop, 0, [1], [])]),
  ([0, 1, 2], [(15, .iload_n 2, 1, [], []), (16, .ifCond .eq 60, 3, [10, 2], [])]),
  ([0, 1], [(19, .iload_n 1, 1, [], []), (20, .aload_n 0, 1, [], []), (21, .getfield 11, 3, [1, 2, 5], [179, 0]), (24, .arraylength, 1, [], []), (25, .if_icmp .ge 51, 3, [10, 3], [])]),
  ([0, 1], [(28, .aload_n 0, 1, [], []), (29, .invokevirtual 37, 3, [2, 3, 0, 5, 22], [251, 0, 253, 0, 69, 0, 0, 0]), (32, .astore_n 3, 1, [], []), (33, .aload_n 3, 1, [], []), (34, .ifnonnull 5, 3, [5, 4], [])]),
  ([], [(37, .aconst_null, 1, [], []), (38, .areturn, 1, [], [])]),
  ([0, 1, 3], [(39, .aload_n 0, 1, [], []), (40, .getfield 11, 3, [1, 2, 5], [179, 0]), (43, .iload_n 1, 1, [], []), (44, .aload_n 3, 1, [], []), (45, .aastore, 1, [], []), (46, .iinc 1 1, 3, [], []), (49, .iload_n 1, 1, [], []), (50, .aload_n 0, 1, [], []), (51, .getfield 11, 3, [1, 2, 5], [179, 0]), (54, .arraylength, 1, [], []), (55, .if_icmp .ge 16, 3, [8, 6], [])]),
  ([0, 1], [(58, .aload_n 0, 1, [], []), (59, .bipush 59, 2, [], []), (61, .invokevirtual 41, 3, [2, 1, 1, 5, 29], [316, 0, 318, 4, 69, 0, 0, 0]), (64, .ifCond .eq 7, 3, [8, 7], [])]),
  ([0, 1], [(67, .iconst 1, 1, [], []), (68, .goto 4, 3, [9], [])]),
  ([0, 1], [(71, .iconst 0, 1, [], []), (72, .nop, 0, [9], [])]),
  ([0, 1], [(72, .istore_n 2, 1, [], []), (73, .goto (-58), 3, [1], [])]),
  ([0, 1], [(76, .aload_n 0, 1, [], []), (77, .getfield 33, 3, [5, 0, 5], [183, 0]), (80, .aload_n 0, 1, [], []), (81, .getfield 27, 3, [0, 2, 5], [178, 0]), (84, .getfield 45, 3, [1, 0, 10], [111, 0]), (87, .if_icmp .ne 11, 3, [12, 11], [])]),
  ([0, 1], [(90, .aload_n 0, 1, [], []), (91, .iload_n 1, 1, [], []), (92, .invokevirtual 50, 3, [2, 3, 1, 5, 19], [441, 0, 443, 11, 69, 0, 0, 0]), (95, .goto 4, 3, [13], [])]),
  ([], [(98, .aconst_null, 1, [], []), (99, .nop, 0, [13], [])]),
  ([], [(99, .areturn, 1, [], [])])]
def km_X5_readCoast : MT := (yX5_readCoast, cX5_readCoast, 4, (some (.array (.object "TrueHeard$Clause"))), kb_X5_readCoast)
def kb_X5_firstClauses : List (List Nat × List RI) := [
  ([0, 1], [(0, .iconst 0, 1, [], []), (1, .iload_n 1, 1, [], []), (2, .invokestatic 54, 3, [5], [410, 354, 76, 355]), (5, .anewarray 9, 3, [24], [176]), (8, .astore_n 2, 1, [], []), (9, .iconst 0, 1, [], []), (10, .istore_n 3, 1, [], []), (11, .nop, 0, [1], [])]),
  ([0, 2, 3], [(11, .iload_n 3, 1, [], []), (12, .aload_n 2, 1, [], []), (13, .arraylength, 1, [], []), (14, .if_icmp .ge 27, 3, [4, 2], [])]),
  ([0, 2, 3], [(17, .iload_n 3, 1, [], []), (18, .aload_n 0, 1, [], []), (19, .getfield 11, 3, [1, 2, 5], [179, 0]), (22, .arraylength, 1, [], []), (23, .if_icmp .ge 18, 3, [4, 3], [])]),
  ([0, 2, 3], [(26, .aload_n 2, 1, [], []), (27, .iload_n 3, 1, [], []), (28, .aload_n 0, 1, [], []), (29, .getfield 11, 3, [1, 2, 5], [179, 0]), (32, .iload_n 3, 1, [], []), (33, .aaload, 1, [], []), (34, .aastore, 1, [], []), (35, .iinc 3 1, 3, [], []), (38, .goto (-27), 3, [1], [])]),
  ([2], [(41, .aload_n 2, 1, [], []), (42, .areturn, 1, [], [])])]
def km_X5_firstClauses : MT := (yX5_firstClauses, cX5_firstClauses, 4, (some (.array (.object "TrueHeard$Clause"))), kb_X5_firstClauses)
def kb_X5_readSaying : List (List Nat × List RI) := [
  ([0], [(0, .aload_n 0, 1, [], []), (1, .ldc 60, 2, [1, 6], []), (3, .putfield 23, 3, [4, 2, 5], [182, 0]), (6, .aload_n 0, 1, [], []), (7, .iconst 0, 1, [], []), (8, .putfield 33, 3, [5, 0, 5], [183, 0]), (11, .aload_n 0, 1, [], []), (12, .iconst 0, 1, [], []), (13, .putfield 62, 3, [3, 0, 5], [181, 0]), (16, .aload_n 0, 1, [], []), (17, .iconst 0, 1, [], []), (18, .invokevirtual 65, 3, [2, 1, 1, 5, 24], [326, 0, 328, 6, 69, 0, 0, 0]), (21, .ifCond .eq 26, 3, [3, 1], [])]),
  ([0], [(24, .aload_n 0, 1, [], []), (25, .getfield 33, 3, [5, 0, 5], [183, 0]), (28, .aload_n 0, 1, [], []), (29, .getfield 27, 3, [0, 2, 5], [178, 0]), (32, .getfield 45, 3, [1, 0, 10], [111, 0]), (35, .if_icmp .ne 12, 3, [3, 2], [])]),
  ([0], [(38, .aload_n 0, 1, [], []), (39, .iconst 3, 1, [], []), (40, .iconst 0, 1, [], []), (41, .invokevirtual 69, 3, [2, 3, 2, 5, 21], [405, 0, 407, 10, 69, 0, 0, 0]), (44, .goto 4, 3, [4], [])]),
  ([], [(47, .aconst_null, 1, [], []), (48, .nop, 0, [4], [])]),
  ([], [(48, .areturn, 1, [], [])])]
def km_X5_readSaying : MT := (yX5_readSaying, cX5_readSaying, 1, (some (.object "TrueHeard$Clause")), kb_X5_readSaying)
def kb_X5_newClause : List (List Nat × List RI) := [
  ([0, 1, 2], [(0, .new 9, 3, [3, 3], [176, 409, 78]), (3, .dup, 1, [], []), (4, .iload_n 1, 1, [], []), (5, .iload_n 2, 1, [], []), (6, .aload_n 0, 1, [], []), (7, .getfield 17, 3, [2, 2, 5], [180, 0]), (10, .iconst 0, 1, [], []), (11, .aload_n 0, 1, [], []), (12, .getfield 62, 3, [3, 0, 5], [181, 0]), (15, .invokestatic 54, 3, [5], [410, 354, 76, 355]), (18, .invokestatic 73, 3, [0, 3, 2, 207], [0, 411, 412]), (21, .invokespecial 79, 3, [1, 0, 3, 10, 3], [0, 425, 426]), (24, .areturn, 1, [], [])])]
def km_X5_newClause : MT := (yX5_newClause, cX5_newClause, 3, (some (.object "TrueHeard$Clause")), kb_X5_newClause)
def kb_X5_readClause : List (List Nat × List RI) := [
  ([0], [(0, .aload_n 0, 1, [], []), (1, .iconst 0, 1, [], []), (2, .putfield 62, 3, [3, 0, 5], [181, 0]), (5, .aload_n 0, 1, [], []), (6, .invokevirtual 82, 3, [2, 1, 0, 5, 23], [255, 0, 257, 1, 69, 0, 0, 0]), (9, .istore_n 1, 1, [], []), (10, .iload_n 1, 1, [], []), (11, .ifCond .lt 12, 3, [2, 1], [])]),
  ([0, 1], [(14, .aload_n 0, 1, [], []), (15, .bipush 32, 2, [], []), (17, .invokevirtual 41, 3, [2, 1, 1, 5, 29], [316, 0, 318, 4, 69, 0, 0, 0]), (20, .ifCond .ne 5, 3, [3, 2], [])]),
  ([], [(23, .aconst_null, 1, [], []), (24, .areturn, 1, [], [])]),
  ([0, 1], [(25, .aload_n 0, 1, [], []), (26, .invokevirtual 86, 3, [2, 1, 0, 5, 27], [322, 0, 324, 5, 69, 0, 0, 0]), (29, .istore_n 2, 1, [], []), (30, .iload_n 2, 1, [], []), (31, .ifCond .lt 20, 3, [6, 4], [])]),
  ([0, 1, 2], [(34, .aload_n 0, 1, [], []), (35, .bipush 32, 2, [], []), (37, .invokevirtual 41, 3, [2, 1, 1, 5, 29], [316, 0, 318, 4, 69, 0, 0, 0]), (40, .ifCond .eq 11, 3, [6, 5], [])]),
  ([0, 1, 2], [(43, .aload_n 0, 1, [], []), (44, .iconst 0, 1, [], []), (45, .invokevirtual 65, 3, [2, 1, 1, 5, 24], [326, 0, 328, 6, 69, 0, 0, 0]), (48, .ifCond .ne 5, 3, [7, 6], [])]),
  ([], [(51, .aconst_null, 1, [], []), (52, .areturn, 1, [], [])]),
  ([0, 1, 2], [(53, .aload_n 0, 1, [], []), (54, .iload_n 1, 1, [], []), (55, .iload_n 2, 1, [], []), (56, .invokevirtual 69, 3, [2, 3, 2, 5, 21], [405, 0, 407, 10, 69, 0, 0, 0]), (59, .areturn, 1, [], [])])]
def km_X5_readClause : MT := (yX5_readClause, cX5_readClause, 3, (some (.object "TrueHeard$Clause")), kb_X5_readClause)
def kb_X5_readWord : List (List Nat × List RI) := [
  ([0], [(0, .aload_n 0, 1, [], []), (1, .invokevirtual 89, 3, [2, 1, 0, 5, 30], [259, 0, 261, 2, 69, 0, 0, 0]), (4, .bipush 116, 2, [], []), (6, .if_icmp .ne 18, 3, [5, 1], [])]),
  ([0], [(9, .aload_n 0, 1, [], []), (10, .ldc 92, 2, [1, 2], []), (12, .invokevirtual 94, 3, [2, 1, 1, 5, 28], [264, 0, 266, 3, 69, 0, 0, 0]), (15, .ifCond .eq 7, 3, [3, 2], [])]),
  ([], [(18, .iconst 0, 1, [], []), (19, .goto 4, 3, [4], [])]),
  ([], [(22, .iconst (-1), 1, [], []), (23, .nop, 0, [4], [])]),
  ([], [(23, .ireturn, 1, [0], [])]),
  ([0], [(24, .aload_n 0, 1, [], []), (25, .bipush 100, 2, [], []), (27, .invokevirtual 41, 3, [2, 1, 1, 5, 29], [316, 0, 318, 4, 69, 0, 0, 0]), (30, .ifCond .ne 5, 3, [7, 6], [])]),
  ([], [(33, .iconst (-1), 1, [], []), (34, .ireturn, 1, [0], [])]),
  ([0], [(35, .aload_n 0, 1, [], []), (36, .invokevirtual 89, 3, [2, 1, 0, 5, 30], [259, 0, 261, 2, 69, 0, 0, 0]), (39, .bipush 114, 2, [], []), (41, .if_icmp .ne 18, 3, [12, 8], [])]),
  ([0], [(44, .aload_n 0, 1, [], []), (45, .ldc 98, 2, [1, 3], []), (47, .invokevirtual 94, 3, [2, 1, 1, 5, 28], [264, 0, 266, 3, 69, 0, 0, 0]), (50, .ifCond .eq 7, 3, [10, 9], [])]),
  ([], [(53, .iconst 1, 1, [], []), (54, .goto 4, 3, [11], [])]),
  ([], [(57, .iconst (-1), 1, [], []), (58, .nop, 0, [11], [])]),
  ([], [(58, .ireturn, 1, [0], [])]),
  ([0], [(59, .aload_n 0, 1, [], []), (60, .ldc 100, 2, [1, 4], []), (62, .invokevirtual 94, 3, [2, 1, 1, 5, 28], [264, 0, 266, 3, 69, 0, 0, 0]), (65, .ifCond .eq 7, 3, [14, 13], [])]),
  ([], [(68, .iconst 2, 1, [], []), (69, .goto 4, 3, [15], [])]),
  ([], [(72, .iconst (-1), 1, [], []), (73, .nop, 0, [15], [])]),
  ([], [(73, .ireturn, 1, [0], [])])]
def km_X5_readWord : MT := (yX5_readWord, cX5_readWord, 1, (some .int), kb_X5_readWord)
def kb_X5_readAny : List (List Nat × List RI) := [
  ([0, 1], [(0, .iconst 1, 1, [], []), (1, .istore_n 2, 1, [], []), (2, .iconst 0, 1, [], []), (3, .istore_n 3, 1, [], []), (4, .nop, 0, [1], [])]),
  ([0, 1, 2, 3], [(4, .iload_n 2, 1, [], []), (5, .ifCond .eq 83, 3, [14, 2], [])]),
  ([0, 1, 3], [(8, .iload_n 3, 1, [], []), (9, .bipush 100, 2, [], []), (11, .if_icmp .ge 77, 3, [14, 3], [])]),
  ([0, 1, 3], [(14, .aload_n 0, 1, [], []), (15, .iload_n 1, 1, [], []), (16, .invokevirtual 102, 3, [2, 1, 1, 5, 25], [330, 0, 332, 7, 69, 0, 0, 0]), (19, .ifCond .ne 5, 3, [5, 4], [])]),
  ([], [(22, .iconst 0, 1, [], []), (23, .ireturn, 1, [1], [])]),
  ([0, 1, 3], [(24, .iconst 0, 1, [], []), (25, .istore 4, 2, [], []), (27, .nop, 0, [6], [])]),
  ([0, 1, 3, 4], [(27, .iload 4, 2, [], []), (29, .bipush 100, 2, [], []), (31, .if_icmp .ge 34, 3, [11, 7], [])]),
  ([0, 1, 3, 4], [(34, .aload_n 0, 1, [], []), (35, .bipush 38, 2, [], []), (37, .invokevirtual 41, 3, [2, 1, 1, 5, 29], [316, 0, 318, 4, 69, 0, 0, 0]), (40, .ifCond .eq 25, 3, [11, 8], [])]),
  ([0, 1, 3, 4], [(43, .aload_n 0, 1, [], []), (44, .iload_n 1, 1, [], []), (45, .invokevirtual 102, 3, [2, 1, 1, 5, 25], [330, 0, 332, 7, 69, 0, 0, 0]), (48, .ifCond .ne 5, 3, [10, 9], [])]),
  ([], [(51, .iconst 0, 1, [], []), (52, .ireturn, 1, [1], [])]),
  ([0, 1, 3, 4], [(53, .aload_n 0, 1, [], []), (54, .bipush 6, 2, [], []), (56, .invokevirtual 105, 3, [2, 0, 1, 5, 31], [401, 0, 403, 9, 69, 0, 0, 0]), (59, .iinc 4 1, 3, [], []), (62, .goto (-35), 3, [6], [])]),
  ([0, 1, 3], [(65, .iload_n 3, 1, [], []), (66, .ifCond .le 9, 3, [13, 12], [])]),
  ([0, 1, 3], [(69, .aload_n 0, 1, [], []), (70, .bipush 7, 2, [], []), (72, .invokevirtual 105, 3, [2, 0, 1, 5, 31], [401, 0, 403, 9, 69, 0, 0, 0]), (75, .nop, 0, [13], [])]),
  ([0, 1, 3], [(75, .aload_n 0, 1, [], []), (76, .bipush 124, 2, [], []), (78, .invokevirtual 41, 3, [2, 1, 1, 5, 29], [316, 0, 318, 4, 69, 0, 0, 0]), (81, .istore_n 2, 1, [], []), (82, .iinc 3 1, 3, [], []), (85, .goto (-81), 3, [1], [])]),
  ([], [(88, .iconst 1, 1, [], []), (89, .ireturn, 1, [1], [])])]
def km_X5_readAny : MT := (yX5_readAny, cX5_readAny, 5, (some .boolean), kb_X5_readAny)
def kb_X5_readOne : List (List Nat × List RI) := [
  ([0, 1], [(0, .aload_n 0, 1, [], []), (1, .invokevirtual 89, 3, [2, 1, 0, 5, 30], [259, 0, 261, 2, 69, 0, 0, 0]), (4, .bipush 33, 2, [], []), (6, .if_icmp .eq 17, 3, [3, 1], [])]),
  ([0, 1], [(9, .aload_n 0, 1, [], []), (10, .invokevirtual 89, 3, [2, 1, 0, 5, 30], [259, 0, 261, 2, 69, 0, 0, 0]), (13, .bipush 40, 2, [], []), (15, .if_icmp .eq 8, 3, [3, 2], [])]),
  ([0], [(18, .aload_n 0, 1, [], []), (19, .invokevirtual 109, 3, [2, 1, 0, 5, 26], [334, 0, 336, 8, 69, 0, 0, 0]), (22, .ireturn, 1, [1], [])]),
  ([0, 1], [(23, .iload_n 1, 1, [], []), (24, .iconst 5, 1, [], []), (25, .if_icmp .lt 5, 3, [5, 4], [])]),
  ([], [(28, .iconst 0, 1, [], []), (29, .ireturn, 1, [1], [])]),
  ([0, 1], [(30, .aload_n 0, 1, [], []), (31, .bipush 40, 2, [], []), (33, .invokevirtual 41, 3, [2, 1, 1, 5, 29], [316, 0, 318, 4, 69, 0, 0, 0]), (36, .ifCond .eq 28, 3, [11, 6], [])]),
  ([0, 1], [(39, .aload_n 0, 1, [], []), (40, .iload_n 1, 1, [], []), (41, .iconst 1, 1, [], []), (42, .iadd, 1, [], []), (43, .invokevirtual 65, 3, [2, 1, 1, 5, 24], [326, 0, 328, 6, 69, 0, 0, 0]), (46, .ifCond .eq 16, 3, [9, 7], [])]),
  ([0], [(49, .aload_n 0, 1, [], []), (50, .bipush 41, 2, [], []), (52, .invokevirtual 41, 3, [2, 1, 1, 5, 29], [316, 0, 318, 4, 69, 0, 0, 0]), (55, .ifCond .eq 7, 3, [9, 8], [])]),
  ([], [(58, .iconst 1, 1, [], []), (59, .goto 4, 3, [10], [])]),
  ([], [(62, .iconst 0, 1, [], []), (63, .nop, 0, [10], [])]),
  ([], [(63, .ireturn, 1, [1], [])]),
  ([0, 1], [(64, .aload_n 0, 1, [], []), (65, .bipush 33, 2, [], []), (67, .invokevirtual 41, 3, [2, 1, 1, 5, 29], [316, 0, 318, 4, 69, 0, 0, 0]), (70, .ifCond .eq 13, 3, [13, 12], [])]),
  ([0, 1], [(73, .aload_n 0, 1, [], []), (74, .iload_n 1, 1, [], []), (75, .iconst 1, 1, [], []), (76, .iadd, 1, [], []), (77, .invokevirtual 102, 3, [2, 1, 1, 5, 25], [330, 0, 332, 7, 69, 0, 0, 0]), (80, .ifCond .ne 5, 3, [14, 13], [])]),
  ([], [(83, .iconst 0, 1, [], []), (84, .ireturn, 1, [1], [])]),
  ([0], [(85, .aload_n 0, 1, [], []), (86, .iconst 5, 1, [], []), (87, .invokevirtual 105, 3, [2, 0, 1, 5, 31], [401, 0, 403, 9, 69, 0, 0, 0]), (90, .iconst 1, 1, [], []), (91, .ireturn, 1, [1], [])])]
def km_X5_readOne : MT := (yX5_readOne, cX5_readOne, 2, (some .boolean), kb_X5_readOne)
def kb_X5_readTest : List (List Nat × List RI) := [
  ([0], [(0, .aload_n 0, 1, [], []), (1, .getfield 23, 3, [4, 2, 5], [182, 0]), (4, .aload_n 0, 1, [], []), (5, .invokevirtual 89, 3, [2, 1, 0, 5, 30], [259, 0, 261, 2, 69, 0, 0, 0]), (8, .i2c, 1, [], []), (9, .invokevirtual 113, 3, [2, 1, 1, 30, 198], [338, 0, 339, 340, 72, 0, 0, 0]), (12, .istore_n 1, 1, [], []), (13, .iload_n 1, 1, [], []), (14, .ifCond .ge 5, 3, [2, 1], [])]),
  ([], [(17, .iconst 0, 1, [], []), (18, .ireturn, 1, [1], [])]),
  ([0, 1], [(19, .aload_n 0, 1, [], []), (20, .dup, 1, [], []), (21, .getfield 33, 3, [5, 0, 5], [183, 0]), (24, .iconst 1, 1, [], []), (25, .iadd, 1, [], []), (26, .putfield 33, 3, [5, 0, 5], [183, 0]), (29, .ldc 119, 2, [1, 5], []), (31, .aload_n 0, 1, [], []), (32, .invokevirtual 89, 3, [2, 1, 0, 5, 30], [259, 0, 261, 2, 69, 0, 0, 0]), (35, .i2c, 1, [], []), (36, .invokevirtual 113, 3, [2, 1, 1, 30, 198], [338, 0, 339, 340, 72, 0, 0, 0]), (39, .istore_n 2, 1, [], []), (40, .iload_n 2, 1, [], []), (41, .ifCond .ge 5, 3, [4, 3], [])]),
  ([], [(44, .iconst 0, 1, [], []), (45, .ireturn, 1, [1], [])]),
  ([0, 1, 2], [(46, .aload_n 0, 1, [], []), (47, .dup, 1, [], []), (48, .getfield 33, 3, [5, 0, 5], [183, 0]), (51, .iconst 1, 1, [], []), (52, .iadd, 1, [], []), (53, .putfield 33, 3, [5, 0, 5], [183, 0]), (56, .aload_n 0, 1, [], []), (57, .invokevirtual 86, 3, [2, 1, 0, 5, 27], [322, 0, 324, 5, 69, 0, 0, 0]), (60, .istore_n 3, 1, [], []), (61, .iload_n 3, 1, [], []), (62, .ifCond .ge 5, 3, [6, 5], [])]),
  ([], [(65, .iconst 0, 1, [], []), (66, .ireturn, 1, [1], [])]),
  ([0, 1, 2, 3], [(67, .aload_n 0, 1, [], []), (68, .iload_n 1, 1, [], []), (69, .iload_n 2, 1, [], []), (70, .iload_n 3, 1, [], []), (71, .invokestatic 121, 3, [0, 1, 3, 12], [0, 398, 399]), (74, .invokevirtual 105, 3, [2, 0, 1, 5, 31], [401, 0, 403, 9, 69, 0, 0, 0]), (77, .iconst 1, 1, [], []), (78, .ireturn, 1, [1], [])])]
def km_X5_readTest : MT := (yX5_readTest, cX5_readTest, 4, (some .boolean), kb_X5_readTest)
def kb_X5_readNumber : List (List Nat × List RI) := [
  ([0], [(0, .aload_n 0, 1, [], []), (1, .invokevirtual 89, 3, [2, 1, 0, 5, 30], [259, 0, 261, 2, 69, 0, 0, 0]), (4, .bipush 48, 2, [], []), (6, .isub, 1, [], []), (7, .istore_n 1, 1, [], []), (8, .iload_n 1, 1, [], []), (9, .ifCond .lt 9, 3, [2, 1], [])]),
  ([0, 1], [(12, .iload_n 1, 1, [], []), (13, .bipush 9, 2, [], []), (15, .if_icmp .le 5, 3, [3, 2], [])]),
  ([], [(18, .iconst (-1), 1, [], []), (19, .ireturn, 1, [0], [])]),
  ([0, 1], [(20, .aload_n 0, 1, [], []), (21, .dup, 1, [], []), (22, .getfield 33, 3, [5, 0, 5], [183, 0]), (25, .iconst 1, 1, [], []), (26, .iadd, 1, [], []), (27, .putfield 33, 3, [5, 0, 5], [183, 0]), (30, .aload_n 0, 1, [], []), (31, .invokevirtual 89, 3, [2, 1, 0, 5, 30], [259, 0, 261, 2, 69, 0, 0, 0]), (34, .bipush 48, 2, [], []), (36, .isub, 1, [], []), (37, .istore_n 2, 1, [], []), (38, .iload_n 1, 1, [], []), (39, .ifCond .eq 13, 3, [6, 4], [])]),
  ([0, 1, 2], [(42, .iload_n 2, 1, [], []), (43, .ifCond .lt 9, 3, [6, 5], [])]),
  ([0, 1, 2], [(46, .iload_n 2, 1, [], []), (47, .bipush 9, 2, [], []), (49, .if_icmp .le 5, 3, [7, 6], [])]),
  ([1], [(52, .iload_n 1, 1, [], []), (53, .ireturn, 1, [0], [])]),
  ([0, 1, 2], [(54, .aload_n 0, 1, [], []), (55, .dup, 1, [], []), (56, .getfield 33, 3, [5, 0, 5], [183, 0]), (59, .iconst 1, 1, [], []), (60, .iadd, 1, [], []), (61, .putfield 33, 3, [5, 0, 5], [183, 0]), (64, .iload_n 1, 1, [], []), (65, .bipush 10, 2, [], []), (67, .imul, 1, [], []), (68, .iload_n 2, 1, [], []), (69, .iadd, 1, [], []), (70, .ireturn, 1, [0], [])])]
def km_X5_readNumber : MT := (yX5_readNumber, cX5_readNumber, 3, (some .int), kb_X5_readNumber)
def kb_X5_goOnAll : List (List Nat × List RI) := [
  ([0, 1], [(0, .iconst 0, 1, [], []), (1, .istore_n 2, 1, [], []), (2, .nop, 0, [1], [])]),
  ([0, 1, 2], [(2, .iload_n 2, 1, [], []), (3, .aload_n 1, 1, [], []), (4, .invokevirtual 125, 3, [2, 1, 0, 30, 196], [268, 0, 269, 270, 72, 0, 0, 0]), (7, .if_icmp .ge 23, 3, [5, 2], [])]),
  ([0, 1, 2], [(10, .aload_n 0, 1, [], []), (11, .aload_n 1, 1, [], []), (12, .iload_n 2, 1, [], []), (13, .invokevirtual 128, 3, [2, 1, 1, 30, 197], [278, 0, 279, 280, 72, 0, 0, 0]), (16, .invokevirtual 41, 3, [2, 1, 1, 5, 29], [316, 0, 318, 4, 69, 0, 0, 0]), (19, .ifCond .ne 5, 3, [4, 3], [])]),
  ([], [(22, .iconst 0, 1, [], []), (23, .ireturn, 1, [1], [])]),
  ([0, 1, 2], [(24, .iinc 2 1, 3, [], []), (27, .goto (-25), 3, [1], [])]),
  ([], [(30, .iconst 1, 1, [], []), (31, .ireturn, 1, [1], [])])]
def km_X5_goOnAll : MT := (yX5_goOnAll, cX5_goOnAll, 3, (some .boolean), kb_X5_goOnAll)
def kb_X5_goOn : List (List Nat × List RI) := [
  ([0, 1], [(0, .aload_n 0, 1, [], []), (1, .invokevirtual 89, 3, [2, 1, 0, 5, 30], [259, 0, 261, 2, 69, 0, 0, 0]), (4, .iload_n 1, 1, [], []), (5, .if_icmp .eq 5, 3, [2, 1], [])]),
  ([], [(8, .iconst 0, 1, [], []), (9, .ireturn, 1, [1], [])]),
  ([0], [(10, .aload_n 0, 1, [], []), (11, .dup, 1, [], []), (12, .getfield 33, 3, [5, 0, 5], [183, 0]), (15, .iconst 1, 1, [], []), (16, .iadd, 1, [], []), (17, .putfield 33, 3, [5, 0, 5], [183, 0]), (20, .iconst 1, 1, [], []), (21, .ireturn, 1, [1], [])])]
def km_X5_goOn : MT := (yX5_goOn, cX5_goOn, 2, (some .boolean), kb_X5_goOn)
def kb_X5_sign : List (List Nat × List RI) := [
  ([0], [(0, .aload_n 0, 1, [], []), (1, .getfield 33, 3, [5, 0, 5], [183, 0]), (4, .ifCond .lt 36, 3, [4, 1], [])]),
  ([0], [(7, .aload_n 0, 1, [], []), (8, .getfield 33, 3, [5, 0, 5], [183, 0]), (11, .aload_n 0, 1, [], []), (12, .getfield 27, 3, [0, 2, 5], [178, 0]), (15, .getfield 45, 3, [1, 0, 10], [111, 0]), (18, .if_icmp .ge 22, 3, [4, 2], [])]),
  ([0], [(21, .aload_n 0, 1, [], []), (22, .getfield 33, 3, [5, 0, 5], [183, 0]), (25, .aload_n 0, 1, [], []), (26, .getfield 27, 3, [0, 2, 5], [178, 0]), (29, .getfield 132, 3, [0, 2, 10], [108, 0]), (32, .arraylength, 1, [], []), (33, .if_icmp .ge 7, 3, [4, 3], [])]),
  ([0], [(36, .iconst 1, 1, [], []), (37, .goto 4, 3, [5], [])]),
  ([0], [(40, .iconst 0, 1, [], []), (41, .nop, 0, [5], [])]),
  ([0], [(41, .istore_n 1, 1, [], []), (42, .iload_n 1, 1, [], []), (43, .ifCond .eq 18, 3, [7, 6], [])]),
  ([0], [(46, .aload_n 0, 1, [], []), (47, .getfield 27, 3, [0, 2, 5], [178, 0]), (50, .getfield 132, 3, [0, 2, 10], [108, 0]), (53, .aload_n 0, 1, [], []), (54, .getfield 33, 3, [5, 0, 5], [183, 0]), (57, .baload, 1, [], []), (58, .goto 6, 3, [8], [])]),
  ([], [(61, .sipush 128, 3, [], []), (64, .nop, 0, [8], [])]),
  ([], [(64, .ireturn, 1, [0], [])])]
def km_X5_sign : MT := (yX5_sign, cX5_sign, 2, (some .int), kb_X5_sign)
def kb_X5_add : List (List Nat × List RI) := [
  ([0, 1], [(0, .aload_n 0, 1, [], []), (1, .getfield 62, 3, [3, 0, 5], [181, 0]), (4, .aload_n 0, 1, [], []), (5, .getfield 17, 3, [2, 2, 5], [180, 0]), (8, .arraylength, 1, [], []), (9, .if_icmp .ge 23, 3, [2, 1], [])]),
  ([0, 1], [(12, .aload_n 0, 1, [], []), (13, .getfield 17, 3, [2, 2, 5], [180, 0]), (16, .aload_n 0, 1, [], []), (17, .getfield 62, 3, [3, 0, 5], [181, 0]), (20, .iload_n 1, 1, [], []), (21, .iastore, 1, [], []), (22, .aload_n 0, 1, [], []), (23, .dup, 1, [], []), (24, .getfield 62, 3, [3, 0, 5], [181, 0]), (27, .iconst 1, 1, [], []), (28, .iadd, 1, [], []), (29, .putfield 62, 3, [3, 0, 5], [181, 0]), (32, .nop, 0, [2], [])]),
  ([], [(32, .return_, 1, [], [])])]
def km_X5_add : MT := (yX5_add, cX5_add, 2, none, kb_X5_add)
def kb_X6_init : List (List Nat × List RI) := [
  ([0, 1, 2, 3, 4, 5, 6], [(0, .aload_n 0, 1, [], []), (1, .invokespecial 1, 3, [3], [514]), (4, .aload_n 0, 1, [], []), (5, .iload_n 1, 1, [], []), (6, .putfield 7, 3, [0, 0, 0, 1, 2, 4, 6, 7, 8], [515, 0]), (9, .aload_n 0, 1, [], []), (10, .iload_n 2, 1, [], []), (11, .putfield 13, 3, [1, 0, 0, 1, 2, 4, 6, 7, 8], [518, 0]), (14, .aload_n 0, 1, [], []), (15, .iload_n 3, 1, [], []), (16, .putfield 16, 3, [2, 0, 0, 1, 2, 4, 6, 7, 8], [522, 0]), (19, .aload_n 0, 1, [], []), (20, .iload 4, 2, [], []), (22, .putfield 19, 3, [3, 0, 0, 1, 2, 4, 6, 7, 8], [530, 0]), (25, .aload_n 0, 1, [], []), (26, .iload 5, 2, [], []), (28, .putfield 22, 3, [4, 0, 0, 1, 2, 4, 6, 7, 8], [538, 0]), (31, .aload_n 0, 1, [], []), (32, .aload 6, 2, [], []), (34, .putfield 25, 3, [5, 2, 0, 1, 2, 4, 6, 7, 8], [541, 0]), (37, .return_, 1, [], [])])]
def km_X6_init : MT := (yX6_init, cX6_init, 7, none, kb_X6_init)
def kb_X6_hoursFrom : List (List Nat × List RI) := [
  ([0], [(0, .aload_n 0, 1, [], []), (1, .getfield 19, 3, [3, 0, 0, 1, 2, 4, 6, 7, 8], [530, 0]), (4, .ireturn, 1, [0], [])])]
def km_X6_hoursFrom : MT := (yX6_hoursFrom, cX6_hoursFrom, 2, (some .int), kb_X6_hoursFrom)
def kb_X6_hoursSat : List (List Nat × List RI) := [
  ([], [(0, .iconst 0, 1, [], []), (1, .ireturn, 1, [0], [])])]
def km_X6_hoursSat : MT := (yX6_hoursSat, cX6_hoursSat, 1, (some .int), kb_X6_hoursSat)
def kb_X6_toll : List (List Nat × List RI) := [
  ([], [(0, .iconst 0, 1, [], []), (1, .ireturn, 1, [0], [])])]
def km_X6_toll : MT := (yX6_toll, cX6_toll, 1, (some .int), kb_X6_toll)
def kb_X6_sends : List (List Nat × List RI) := [
  ([0, 1], [(0, .aload_n 0, 1, [], []), (1, .getfield 25, 3, [5, 2, 0, 1, 2, 4, 6, 7, 8], [541, 0]), (4, .iconst 1, 1, [], []), (5, .invokevirtual 29, 3, [2, 0, 1, 9, 46], [895, 0, 879, 880, 70, 0, 0, 0]), (8, .iload_n 1, 1, [], []), (9, .aload_n 0, 1, [], []), (10, .getfield 13, 3, [1, 0, 0, 1, 2, 4, 6, 7, 8], [518, 0]), (13, .iadd, 1, [], []), (14, .ireturn, 1, [0], [])])]
def km_X6_sends : MT := (yX6_sends, cX6_sends, 2, (some .int), kb_X6_sends)
def kb_X6_takes : List (List Nat × List RI) := [
  ([0, 1], [(0, .aload_n 0, 1, [], []), (1, .getfield 25, 3, [5, 2, 0, 1, 2, 4, 6, 7, 8], [541, 0]), (4, .iconst 2, 1, [], []), (5, .invokevirtual 29, 3, [2, 0, 1, 9, 46], [895, 0, 879, 880, 70, 0, 0, 0]), (8, .aload_n 0, 1, [], []), (9, .iload_n 1, 1, [], []), (10, .invokevirtual 35, 3, [2, 1, 1, 0, 2, 1, 36, 2, 36, 4, 36, 6, 36, 7, 2, 8, 44], [917, 1, 876, 875, 82, 874, 36, 872, 1, 872, 883, 81, 874, 36, 872, 1, 872, 884, 81, 874, 36, 872, 1, 872, 885, 81, 874, 36, 872, 1, 872, 873, 81, 874, 36, 872, 1, 876, 886, 82, 874, 36, 872, 1, 888, 887, 86, 874, 36, 872]), (13, .aload_n 0, 1, [], []), (14, .getfield 16, 3, [2, 0, 0, 1, 2, 4, 6, 7, 8], [522, 0]), (17, .isub, 1, [], []), (18, .ireturn, 1, [0], [])])]
def km_X6_takes : MT := (yX6_takes, cX6_takes, 2, (some .int), kb_X6_takes)
def kb_X6_tells : List (List Nat × List RI) := [
  ([0, 1], [(0, .aload_n 0, 1, [], []), (1, .getfield 25, 3, [5, 2, 0, 1, 2, 4, 6, 7, 8], [541, 0]), (4, .iconst 3, 1, [], []), (5, .invokevirtual 29, 3, [2, 0, 1, 9, 46], [895, 0, 879, 880, 70, 0, 0, 0]), (8, .aload_n 0, 1, [], []), (9, .iload_n 1, 1, [], []), (10, .invokevirtual 39, 3, [2, 1, 1, 0, 37, 1, 5, 2, 9, 4, 37, 6, 37, 7, 37, 8, 5], [943, 1, 897, 900, 81, 899, 37, 897, 1, 902, 901, 83, 899, 37, 897, 1, 907, 906, 87, 899, 37, 897, 1, 897, 913, 81, 899, 37, 897, 1, 897, 898, 81, 899, 37, 897, 1, 897, 914, 81, 899, 37, 897, 1, 902, 915, 83, 899, 37, 897]), (13, .iconst 2, 1, [], []), (14, .imul, 1, [], []), (15, .ireturn, 1, [0], [])])]
def km_X6_tells : MT := (yX6_tells, cX6_tells, 2, (some .int), kb_X6_tells)
def kb_X7_init : List (List Nat × List RI) := [
  ([0, 1, 2, 3, 4, 5, 6], [(0, .aload_n 0, 1, [], []), (1, .iload_n 1, 1, [], []), (2, .iload_n 2, 1, [], []), (3, .iload_n 3, 1, [], []), (4, .iload 4, 2, [], []), (6, .iload 5, 2, [], []), (8, .aload 6, 2, [], []), (10, .invokespecial 1, 3, [1, 0, 6, 0, 0, 7], [0, 598, 509]), (13, .return_, 1, [], [])])]
def km_X7_init : MT := (yX7_init, cX7_init, 7, none, kb_X7_init)
def kb_X7_toll : List (List Nat × List RI) := [
  ([0], [(0, .aload_n 0, 1, [], []), (1, .getfield 7, 3, [2, 0, 7], [523, 524]), (4, .ireturn, 1, [0], [])])]
def km_X7_toll : MT := (yX7_toll, cX7_toll, 1, (some .int), kb_X7_toll)
def kb_X7_tells : List (List Nat × List RI) := [
  ([0, 1], [(0, .aload_n 0, 1, [], []), (1, .getfield 13, 3, [5, 2, 7], [550, 551]), (4, .bipush 41, 2, [], []), (6, .invokevirtual 17, 3, [2, 0, 1, 9, 46], [933, 0, 879, 880, 70, 0, 0, 0]), (9, .aload_n 0, 1, [], []), (10, .iload_n 1, 1, [], []), (11, .iconst 1, 1, [], []), (12, .isub, 1, [], []), (13, .invokespecial 23, 3, [1, 1, 1, 38, 7], [1, 934, 935, 605, 919, 566]), (16, .aload_n 0, 1, [], []), (17, .iconst 2, 1, [], []), (18, .invokevirtual 27, 3, [2, 1, 1, 7, 2], [937, 1, 876, 940, 82, 938, 2, 876]), (21, .iadd, 1, [], []), (22, .ireturn, 1, [0], [])])]
def km_X7_tells : MT := (yX7_tells, cX7_tells, 2, (some .int), kb_X7_tells)
def kb_X8_init : List (List Nat × List RI) := [
  ([0, 1, 2, 3, 4, 5, 6], [(0, .aload_n 0, 1, [], []), (1, .iload_n 1, 1, [], []), (2, .iload_n 2, 1, [], []), (3, .iload_n 3, 1, [], []), (4, .iload 4, 2, [], []), (6, .iload 5, 2, [], []), (8, .aload 6, 2, [], []), (10, .invokespecial 1, 3, [1, 0, 6, 3, 1, 8], [0, 611, 570]), (13, .return_, 1, [], [])])]
def km_X8_init : MT := (yX8_init, cX8_init, 7, none, kb_X8_init)
def kb_X8_hoursFrom : List (List Nat × List RI) := [
  ([0, 1], [(0, .iconst 0, 1, [], []), (1, .aload_n 0, 1, [], []), (2, .iload_n 1, 1, [], []), (3, .invokespecial 7, 3, [1, 1, 1, 4, 8], [1, 674, 1389, 618, 661, 0]), (6, .iconst 1, 1, [], []), (7, .isub, 1, [], []), (8, .invokestatic 11, 3, [5], [675, 354, 76, 355]), (11, .ireturn, 1, [0], [])])]
def km_X8_hoursFrom : MT := (yX8_hoursFrom, cX8_hoursFrom, 2, (some .int), kb_X8_hoursFrom)
def kb_X8_sends : List (List Nat × List RI) := [
  ([0, 1], [(0, .aload_n 0, 1, [], []), (1, .getfield 17, 3, [5, 2, 8], [544, 545]), (4, .bipush 51, 2, [], []), (6, .invokevirtual 23, 3, [2, 0, 1, 9, 46], [890, 0, 879, 880, 70, 0, 0, 0]), (9, .aload_n 0, 1, [], []), (10, .iload_n 1, 1, [], []), (11, .invokespecial 29, 3, [1, 1, 1, 36, 8], [1, 891, 892, 618, 872, 579]), (14, .aload_n 0, 1, [], []), (15, .getfield 32, 3, [1, 0, 8], [519, 520]), (18, .ixor, 1, [], []), (19, .ireturn, 1, [0], [])])]
def km_X8_sends : MT := (yX8_sends, cX8_sends, 2, (some .int), kb_X8_sends)
def kb_X9_init : List (List Nat × List RI) := [
  ([0], [(0, .aload_n 0, 1, [], []), (1, .invokespecial 3, 3, [3], [204]), (4, .aload_n 0, 1, [], []), (5, .bipush 20, 2, [], []), (7, .newarray .int, 2, [20], [198]), (9, .putfield 9, 3, [0, 2, 9], [205, 0]), (12, .return_, 1, [], [])])]
def km_X9_init : MT := (yX9_init, cX9_init, 1, none, kb_X9_init)
def kb_X9_note : List (List Nat × List RI) := [
  ([0, 1], [(0, .aload_n 0, 1, [], []), (1, .getfield 15, 3, [1, 0, 9], [207, 0]), (4, .aload_n 0, 1, [], []), (5, .getfield 9, 3, [0, 2, 9], [205, 0]), (8, .arraylength, 1, [], []), (9, .if_icmp .ge 13, 3, [2, 1], [])]),
  ([0, 1], [(12, .aload_n 0, 1, [], []), (13, .getfield 9, 3, [0, 2, 9], [205, 0]), (16, .aload_n 0, 1, [], []), (17, .getfield 15, 3, [1, 0, 9], [207, 0]), (20, .iload_n 1, 1, [], []), (21, .iastore, 1, [], []), (22, .nop, 0, [2], [])]),
  ([0], [(22, .aload_n 0, 1, [], []), (23, .dup, 1, [], []), (24, .getfield 15, 3, [1, 0, 9], [207, 0]), (27, .iconst 1, 1, [], []), (28, .iadd, 1, [], []), (29, .putfield 15, 3, [1, 0, 9], [207, 0]), (32, .return_, 1, [], [])])]
def km_X9_note : MT := (yX9_note, cX9_note, 2, none, kb_X9_note)
def kb_X10_init : List (List Nat × List RI) := [
  ([0], [(0, .aload_n 0, 1, [], []), (1, .invokespecial 3, 3, [3], [101]), (4, .aload_n 0, 1, [], []), (5, .bipush 100, 2, [], []), (7, .newarray .byte, 2, [23], [169]), (9, .putfield 9, 3, [0, 2, 10], [106, 0]), (12, .aload_n 0, 1, [], []), (13, .iconst 0, 1, [], []), (14, .anewarray 15, 3, [24], [102]), (17, .putfield 17, 3, [2, 2, 10], [112, 0]), (20, .aload_n 0, 1, [], []), (21, .iconst 5, 1, [], []), (22, .anewarray 15, 3, [24], [102]), (25, .putfield 21, 3, [4, 2, 10], [116, 0]), (28, .aload_n 0, 1, [], []), (29, .iconst 5, 1, [], []), (30, .anewarray 24, 3, [25], [104]), (33, .putfield 26, 3, [6, 2, 10], [120, 0]), (36, .aload_n 0, 1, [], []), (37, .iconst (-1), 1, [], []), (38, .putfield 30, 3, [11, 0, 10], [130, 0]), (41, .return_, 1, [], [])])]
def km_X10_init : MT := (yX10_init, cX10_init, 1, none, kb_X10_init)
def kb_X10_copy : List (List Nat × List RI) := [
  ([0, 1], [(0, .aload_n 1, 1, [], []), (1, .getfield 9, 3, [0, 2, 10], [106, 0]), (4, .iconst 0, 1, [], []), (5, .aload_n 0, 1, [], []), (6, .getfield 9, 3, [0, 2, 10], [106, 0]), (9, .iconst 0, 1, [], []), (10, .aload_n 1, 1, [], []), (11, .getfield 9, 3, [0, 2, 10], [106, 0]), (14, .arraylength, 1, [], []), (15, .aload_n 0, 1, [], []), (16, .getfield 9, 3, [0, 2, 10], [106, 0]), (19, .arraylength, 1, [], []), (20, .invokestatic 34, 3, [6], [494, 357, 76, 358]), (23, .invokestatic 40, 3, [4], [963, 424, 423, 80]), (26, .aload_n 0, 1, [], []), (27, .aload_n 1, 1, [], []), (28, .getfield 46, 3, [1, 0, 10], [110, 0]), (31, .putfield 46, 3, [1, 0, 10], [110, 0]), (34, .aload_n 0, 1, [], []), (35, .aload_n 1, 1, [], []), (36, .getfield 17, 3, [2, 2, 10], [112, 0]), (39, .putfield 17, 3, [2, 2, 10], [112, 0]), (42, .aload_n 0, 1, [], []), (43, .aload_n 1, 1, [], []), (44, .getfield 49, 3, [3, 0, 10], [114, 0]), (47, .putfield 49, 3, [3, 0, 10], [114, 0]), (50, .iconst 0, 1, [], []), (51, .istore_n 2, 1, [], []), (52, .nop, 0, [1], [])]),
  ([0, 1, 2], [(52, .iload_n 2, 1, [], []), (53, .aload_n 0, 1, [], []), (54, .getfield 21, 3, [4, 2, 10], [116, 0]), (57, .arraylength, 1, [], []), (58, .if_icmp .ge 30, 3, [4, 2], [])]),
  ([0, 1, 2], [(61, .iload_n 2, 1, [], []), (62, .aload_n 1, 1, [], []), (63, .getfield 21, 3, [4, 2, 10], [116, 0]), (66, .arraylength, 1, [], []), (67, .if_icmp .ge 21, 3, [4, 3], [])]),
  ([0, 1, 2], [(70, .aload_n 0, 1, [], []), (71, .getfield 21, 3, [4, 2, 10], [116, 0]), (74, .iload_n 2, 1, [], []), (75, .aload_n 1, 1, [], []), (76, .getfield 21, 3, [4, 2, 10], [116, 0]), (79, .iload_n 2, 1, [], []), (80, .aaload, 1, [], []), (81, .aastore, 1, [], []), (82, .iinc 2 1, 3, [], []), (85, .goto (-33), 3, [1], [])]),
  ([0, 1], [(88, .aload_n 0, 1, [], []), (89, .aload_n 1, 1, [], []), (90, .getfield 52, 3, [5, 0, 10], [118, 0]), (93, .putfield 52, 3, [5, 0, 10], [118, 0]), (96, .iconst 0, 1, [], []), (97, .istore_n 2, 1, [], []), (98, .nop, 0, [5], [])]),
  ([0, 1, 2], [(98, .iload_n 2, 1, [], []), (99, .aload_n 0, 1, [], []), (100, .getfield 26, 3, [6, 2, 10], [120, 0]), (103, .arraylength, 1, [], []), (104, .if_icmp .ge 30, 3, [8, 6], [])]),
  ([0, 1, 2], [(107, .iload_n 2, 1, [], []), (108, .aload_n 1, 1, [], []), (109, .getfield 26, 3, [6, 2, 10], [120, 0]), (112, .arraylength, 1, [], []), (113, .if_icmp .ge 21, 3, [8, 7], [])]),
  ([0, 1, 2], [(116, .aload_n 0, 1, [], []), (117, .getfield 26, 3, [6, 2, 10], [120, 0]), (120, .iload_n 2, 1, [], []), (121, .aload_n 1, 1, [], []), (122, .getfield 26, 3, [6, 2, 10], [120, 0]), (125, .iload_n 2, 1, [], []), (126, .aaload, 1, [], []), (127, .aastore, 1, [], []), (128, .iinc 2 1, 3, [], []), (131, .goto (-33), 3, [5], [])]),
  ([0, 1], [(134, .aload_n 0, 1, [], []), (135, .aload_n 1, 1, [], []), (136, .getfield 55, 3, [7, 0, 10], [122, 0]), (139, .putfield 55, 3, [7, 0, 10], [122, 0]), (142, .aload_n 0, 1, [], []), (143, .aload_n 1, 1, [], []), (144, .getfield 58, 3, [8, 0, 10], [124, 0]), (147, .putfield 58, 3, [8, 0, 10], [124, 0]), (150, .aload_n 0, 1, [], []), (151, .aload_n 1, 1, [], []), (152, .getfield 61, 3, [9, 0, 10], [126, 0]), (155, .putfield 61, 3, [9, 0, 10], [126, 0]), (158, .aload_n 0, 1, [], []), (159, .aload_n 1, 1, [], []), (160, .getfield 64, 3, [10, 0, 10], [128, 0]), (163, .putfield 64, 3, [10, 0, 10], [128, 0]), (166, .aload_n 0, 1, [], []), (167, .aload_n 1, 1, [], []), (168, .getfield 30, 3, [11, 0, 10], [130, 0]), (171, .putfield 30, 3, [11, 0, 10], [130, 0]), (174, .aload_n 0, 1, [], []), (175, .aload_n 1, 1, [], []), (176, .getfield 67, 3, [12, 0, 10], [132, 0]), (179, .putfield 67, 3, [12, 0, 10], [132, 0]), (182, .aload_n 0, 1, [], []), (183, .aload_n 1, 1, [], []), (184, .getfield 70, 3, [13, 0, 10], [134, 0]), (187, .putfield 70, 3, [13, 0, 10], [134, 0]), (190, .aload_n 0, 1, [], []), (191, .aload_n 1, 1, [], []), (192, .getfield 73, 3, [14, 0, 10], [136, 0]), (195, .putfield 73, 3, [14, 0, 10], [136, 0]), (198, .return_, 1, [], [])])]
def km_X10_copy : MT := (yX10_copy, cX10_copy, 3, none, kb_X10_copy)
def kb_X10_hasThing : List (List Nat × List RI) := [
  ([0, 1], [(0, .iload_n 1, 1, [], []), (1, .ifCond .lt 15, 3, [3, 1], [])]),
  ([0, 1], [(4, .iload_n 1, 1, [], []), (5, .aload_n 0, 1, [], []), (6, .getfield 58, 3, [8, 0, 10], [124, 0]), (9, .if_icmp .ge 7, 3, [3, 2], [])]),
  ([], [(12, .iconst 1, 1, [], []), (13, .goto 4, 3, [4], [])]),
  ([], [(16, .iconst 0, 1, [], []), (17, .nop, 0, [4], [])]),
  ([], [(17, .ireturn, 1, [1], [])])]
def km_X10_hasThing : MT := (yX10_hasThing, cX10_hasThing, 2, (some .boolean), kb_X10_hasThing)
def kb_X10_sayingAt : List (List Nat × List RI) := [
  ([0, 1], [(0, .iload_n 1, 1, [], []), (1, .ifCond .lt 29, 3, [4, 1], [])]),
  ([0, 1], [(4, .iload_n 1, 1, [], []), (5, .aload_n 0, 1, [], []), (6, .getfield 52, 3, [5, 0, 10], [118, 0]), (9, .if_icmp .ge 21, 3, [4, 2], [])]),
  ([0, 1], [(12, .iload_n 1, 1, [], []), (13, .aload_n 0, 1, [], []), (14, .getfield 21, 3, [4, 2, 10], [116, 0]), (17, .arraylength, 1, [], []), (18, .if_icmp .ge 12, 3, [4, 3], [])]),
  ([0, 1], [(21, .aload_n 0, 1, [], []), (22, .getfield 21, 3, [4, 2, 10], [116, 0]), (25, .iload_n 1, 1, [], []), (26, .aaload, 1, [], []), (27, .goto 4, 3, [5], [])]),
  ([], [(30, .aconst_null, 1, [], []), (31, .nop, 0, [5], [])]),
  ([], [(31, .areturn, 1, [], [])])]
def km_X10_sayingAt : MT := (yX10_sayingAt, cX10_sayingAt, 2, (some (.object "TrueHeard$Clause")), kb_X10_sayingAt)
def kb_X10_wayAt : List (List Nat × List RI) := [
  ([0, 1], [(0, .iload_n 1, 1, [], []), (1, .ifCond .lt 29, 3, [4, 1], [])]),
  ([0, 1], [(4, .iload_n 1, 1, [], []), (5, .aload_n 0, 1, [], []), (6, .getfield 55, 3, [7, 0, 10], [122, 0]), (9, .if_icmp .ge 21, 3, [4, 2], [])]),
  ([0, 1], [(12, .iload_n 1, 1, [], []), (13, .aload_n 0, 1, [], []), (14, .getfield 26, 3, [6, 2, 10], [120, 0]), (17, .arraylength, 1, [], []), (18, .if_icmp .ge 12, 3, [4, 3], [])]),
  ([0, 1], [(21, .aload_n 0, 1, [], []), (22, .getfield 26, 3, [6, 2, 10], [120, 0]), (25, .iload_n 1, 1, [], []), (26, .aaload, 1, [], []), (27, .goto 4, 3, [5], [])]),
  ([], [(30, .aconst_null, 1, [], []), (31, .nop, 0, [5], [])]),
  ([], [(31, .areturn, 1, [], [])])]
def km_X10_wayAt : MT := (yX10_wayAt, cX10_wayAt, 2, (some (.object "TrueHeard$Runner")), kb_X10_wayAt)
def kb_X10_replaceWay : List (List Nat × List RI) := [
  ([0, 1, 2], [(0, .iload_n 1, 1, [], []), (1, .ifCond .lt 19, 3, [3, 1], [])]),
  ([0, 1, 2], [(4, .iload_n 1, 1, [], []), (5, .aload_n 0, 1, [], []), (6, .getfield 26, 3, [6, 2, 10], [120, 0]), (9, .arraylength, 1, [], []), (10, .if_icmp .ge 10, 3, [3, 2], [])]),
  ([0, 1, 2], [(13, .aload_n 0, 1, [], []), (14, .getfield 26, 3, [6, 2, 10], [120, 0]), (17, .iload_n 1, 1, [], []), (18, .aload_n 2, 1, [], []), (19, .aastore, 1, [], []), (20, .nop, 0, [3], [])]),
  ([], [(20, .return_, 1, [], [])])]
def km_X10_replaceWay : MT := (yX10_replaceWay, cX10_replaceWay, 3, none, kb_X10_replaceWay)
def kb_X10_rows : List (List Nat × List RI) := [
  ([0], [(0, .iconst 1, 1, [], []), (1, .iconst 2, 1, [], []), (2, .aload_n 0, 1, [], []), (3, .getfield 58, 3, [8, 0, 10], [124, 0]), (6, .imul, 1, [], []), (7, .ishl, 1, [], []), (8, .ireturn, 1, [0], [])])]
def km_X10_rows : MT := (yX10_rows, cX10_rows, 1, (some .int), kb_X10_rows)
def kb_X10_heeded : List (List Nat × List RI) := [
  ([0, 1], [(0, .aload_n 0, 1, [], []), (1, .getfield 30, 3, [11, 0, 10], [130, 0]), (4, .iconst (-1), 1, [], []), (5, .if_icmp .ne 7, 3, [2, 1], [])]),
  ([1], [(8, .iload_n 1, 1, [], []), (9, .goto 15, 3, [3], [])]),
  ([0, 1], [(12, .iload_n 1, 1, [], []), (13, .aload_n 0, 1, [], []), (14, .getfield 30, 3, [11, 0, 10], [130, 0]), (17, .aload_n 0, 1, [], []), (18, .getfield 67, 3, [12, 0, 10], [132, 0]), (21, .invokestatic 76, 3, [0, 1, 3, 108], [1, 781, 462]), (24, .nop, 0, [3], [])]),
  ([], [(24, .ireturn, 1, [0], [])])]
def km_X10_heeded : MT := (yX10_heeded, cX10_heeded, 2, (some .int), kb_X10_heeded)
def kb_X10_factsOfRow : List (List Nat × List RI) := [
  ([0, 1, 2], [(0, .iload_n 2, 1, [], []), (1, .bipush 12, 2, [], []), (3, .irem, 1, [], []), (4, .bipush 16, 2, [], []), (6, .ishl, 1, [], []), (7, .istore_n 3, 1, [], []), (8, .iconst 0, 1, [], []), (9, .istore 4, 2, [], []), (11, .nop, 0, [1], [])]),
  ([0, 1, 3, 4], [(11, .iload 4, 2, [], []), (13, .iconst 4, 1, [], []), (14, .if_icmp .ge 37, 3, [6, 2], [])]),
  ([0, 1, 3, 4], [(17, .iload_n 3, 1, [], []), (18, .iload 4, 2, [], []), (20, .aload_n 0, 1, [], []), (21, .getfield 58, 3, [8, 0, 10], [124, 0]), (24, .if_icmp .ge 12, 3, [4, 3], [])]),
  ([0, 1, 4], [(27, .iload_n 1, 1, [], []), (28, .iload 4, 2, [], []), (30, .invokestatic 80, 3, [0, 1, 2, 107], [1, 752, 473]), (33, .goto 5, 3, [5], [])]),
  ([0, 1, 4], [(36, .bipush 9, 2, [], []), (38, .nop, 0, [5], [])]),
  ([0, 1, 4], [(38, .iconst 4, 1, [], []), (39, .iload 4, 2, [], []), (41, .imul, 1, [], []), (42, .ishl, 1, [], []), (43, .ior, 1, [], []), (44, .istore_n 3, 1, [], []), (45, .iinc 4 1, 3, [], []), (48, .goto (-37), 3, [1], [])]),
  ([3], [(51, .iload_n 3, 1, [], []), (52, .ireturn, 1, [0], [])])]
def km_X10_factsOfRow : MT := (yX10_factsOfRow, cX10_factsOfRow, 5, (some .int), kb_X10_factsOfRow)
def kb_X10_costs : List (List Nat × List RI) := [
  ([0, 1], [(0, .aload_n 1, 1, [], []), (1, .getfield 83, 3, [4, 0, 0, 1, 2, 4, 6, 7, 8], [539, 0]), (4, .aload_n 1, 1, [], []), (5, .invokevirtual 86, 3, [2, 1, 0, 0, 35, 1, 35, 2, 35, 4, 35, 6, 35, 7, 40, 8, 35], [681, 1, 682, 685, 81, 684, 35, 682, 1, 682, 686, 81, 684, 35, 682, 1, 682, 687, 81, 684, 35, 682, 1, 682, 688, 81, 684, 35, 682, 1, 682, 683, 81, 684, 35, 682, 1, 690, 689, 85, 684, 35, 682, 1, 682, 692, 81, 684, 35, 682]), (8, .iadd, 1, [], []), (9, .aload_n 0, 1, [], []), (10, .iconst 2, 1, [], []), (11, .aload_n 1, 1, [], []), (12, .getfield 90, 3, [0, 0, 0, 1, 2, 4, 6, 7, 8], [516, 0]), (15, .aload_n 0, 1, [], []), (16, .getfield 64, 3, [10, 0, 10], [128, 0]), (19, .invokestatic 93, 3, [0, 1, 2, 111], [1, 694, 695]), (22, .invokevirtual 96, 3, [2, 1, 2, 10, 57], [697, 0, 484, 485, 68, 0, 0, 0]), (25, .iadd, 1, [], []), (26, .ireturn, 1, [0], [])])]
def km_X10_costs : MT := (yX10_costs, cX10_costs, 2, (some .int), kb_X10_costs)
def kb_X10_together : List (List Nat × List RI) := [
  ([0, 1, 2], [(0, .iconst 0, 1, [], []), (1, .istore_n 3, 1, [], []), (2, .aload_n 0, 1, [], []), (3, .getfield 17, 3, [2, 2, 10], [112, 0]), (6, .astore 4, 2, [], []), (8, .aload 4, 2, [], []), (10, .arraylength, 1, [], []), (11, .istore 5, 2, [], []), (13, .iconst 0, 1, [], []), (14, .istore 6, 2, [], []), (16, .nop, 0, [1], [])]),
  ([1, 2, 3, 4, 5, 6], [(16, .iload 6, 2, [], []), (18, .iload 5, 2, [], []), (20, .if_icmp .ge 47, 3, [7, 2], [])]),
  ([1, 2, 3, 4, 5, 6], [(23, .aload 4, 2, [], []), (25, .iload 6, 2, [], []), (27, .aaload, 1, [], []), (28, .astore 7, 2, [], []), (30, .aload 7, 2, [], []), (32, .ifnull 29, 3, [6, 3], [])]),
  ([1, 2, 3, 4, 5, 6, 7], [(35, .aload 7, 2, [], []), (37, .getfield 99, 3, [0, 0, 3], [430, 0]), (40, .iload_n 1, 1, [], []), (41, .if_icmp .ne 20, 3, [6, 4], [])]),
  ([1, 2, 3, 4, 5, 6, 7], [(44, .aload 7, 2, [], []), (46, .iload_n 2, 1, [], []), (47, .invokevirtual 102, 3, [2, 1, 1, 3, 11], [487, 0, 488, 489, 78, 0, 0, 0]), (50, .ifCond .eq 11, 3, [6, 5], [])]),
  ([1, 2, 3, 4, 5, 6, 7], [(53, .iload_n 3, 1, [], []), (54, .aload 7, 2, [], []), (56, .getfield 106, 3, [1, 0, 3], [432, 0]), (59, .iadd, 1, [], []), (60, .istore_n 3, 1, [], []), (61, .nop, 0, [6], [])]),
  ([1, 2, 3, 4, 5, 6], [(61, .iinc 6 1, 3, [], []), (64, .goto (-48), 3, [1], [])]),
  ([1, 3], [(67, .iload_n 1, 1, [], []), (68, .iconst 1, 1, [], []), (69, .if_icmp .ne 11, 3, [9, 8], [])]),
  ([3], [(72, .iconst 2, 1, [], []), (73, .iload_n 3, 1, [], []), (74, .invokestatic 34, 3, [6], [494, 357, 76, 358]), (77, .goto 4, 3, [10], [])]),
  ([3], [(80, .iload_n 3, 1, [], []), (81, .nop, 0, [10], [])]),
  ([], [(81, .ireturn, 1, [0], [])])]
def km_X10_together : MT := (yX10_together, cX10_together, 8, (some .int), kb_X10_together)
def kb_X10_step : List (List Nat × List RI) := [
  ([0, 1, 2], [(0, .iconst 0, 1, [], []), (1, .istore_n 3, 1, [], []), (2, .iconst 0, 1, [], []), (3, .istore 4, 2, [], []), (5, .nop, 0, [1], [])]),
  ([0, 1, 2, 3, 4], [(5, .iload 4, 2, [], []), (7, .iconst 4, 1, [], []), (8, .if_icmp .ge 89, 3, [9, 2], [])]),
  ([0, 1, 2, 3, 4], [(11, .iload_n 1, 1, [], []), (12, .iload 4, 2, [], []), (14, .iload_n 2, 1, [], []), (15, .invokestatic 109, 3, [0, 1, 3, 110], [1, 758, 480]), (18, .istore 5, 2, [], []), (20, .iload 4, 2, [], []), (22, .aload_n 0, 1, [], []), (23, .iconst 0, 1, [], []), (24, .iload 5, 2, [], []), (26, .invokevirtual 96, 3, [2, 1, 2, 10, 57], [697, 0, 484, 485, 68, 0, 0, 0]), (29, .iadd, 1, [], []), (30, .istore 6, 2, [], []), (32, .aload_n 0, 1, [], []), (33, .iconst 1, 1, [], []), (34, .iload 5, 2, [], []), (36, .invokevirtual 96, 3, [2, 1, 2, 10, 57], [697, 0, 484, 485, 68, 0, 0, 0]), (39, .istore 7, 2, [], []), (41, .iload 7, 2, [], []), (43, .iconst 2, 1, [], []), (44, .if_icmp .ge 12, 3, [4, 3], [])]),
  ([0, 1, 2, 3, 4, 6, 7], [(47, .iconst 1, 1, [], []), (48, .iload 6, 2, [], []), (50, .iconst 4, 1, [], []), (51, .irem, 1, [], []), (52, .ishl, 1, [], []), (53, .goto 4, 3, [5], [])]),
  ([0, 1, 2, 3, 4, 6, 7], [(56, .iconst 0, 1, [], []), (57, .nop, 0, [5], [])]),
  ([0, 1, 2, 3, 4, 6, 7], [(57, .istore 8, 2, [], []), (59, .iload 7, 2, [], []), (61, .ifCond .le 14, 3, [7, 6], [])]),
  ([0, 1, 2, 3, 4, 6, 8], [(64, .iconst 1, 1, [], []), (65, .iload 6, 2, [], []), (67, .iconst 1, 1, [], []), (68, .iadd, 1, [], []), (69, .iconst 4, 1, [], []), (70, .irem, 1, [], []), (71, .ishl, 1, [], []), (72, .goto 4, 3, [8], [])]),
  ([0, 1, 2, 3, 4, 8], [(75, .iconst 0, 1, [], []), (76, .nop, 0, [8], [])]),
  ([0, 1, 2, 3, 4, 8], [(76, .istore 9, 2, [], []), (78, .iload_n 3, 1, [], []), (79, .iload 8, 2, [], []), (81, .iload 9, 2, [], []), (83, .ior, 1, [], []), (84, .iconst 4, 1, [], []), (85, .iload 4, 2, [], []), (87, .imul, 1, [], []), (88, .ishl, 1, [], []), (89, .ior, 1, [], []), (90, .istore_n 3, 1, [], []), (91, .iinc 4 1, 3, [], []), (94, .goto (-89), 3, [1], [])]),
  ([3], [(97, .iload_n 3, 1, [], []), (98, .ireturn, 1, [0], [])])]
def km_X10_step : MT := (yX10_step, cX10_step, 10, (some .int), kb_X10_step)
def kb_X10_reach : List (List Nat × List RI) := [
  ([0, 1, 2], [(0, .ldc 112, 2, [0, 33825], [799]), (2, .istore_n 3, 1, [], []), (3, .iconst 0, 1, [], []), (4, .istore 4, 2, [], []), (6, .nop, 0, [1], [])]),
  ([0, 1, 2, 3, 4], [(6, .iload 4, 2, [], []), (8, .iload_n 2, 1, [], []), (9, .if_icmp .ge 105, 3, [12, 2], [])]),
  ([0, 1, 2, 3, 4], [(12, .aload_n 0, 1, [], []), (13, .iload_n 1, 1, [], []), (14, .aload_n 0, 1, [], []), (15, .getfield 64, 3, [10, 0, 10], [128, 0]), (18, .iload 4, 2, [], []), (20, .iadd, 1, [], []), (21, .invokevirtual 113, 3, [2, 1, 2, 10, 58], [800, 0, 801, 802, 68, 0, 0, 0]), (24, .istore 5, 2, [], []), (26, .iconst 0, 1, [], []), (27, .istore 6, 2, [], []), (29, .iconst 0, 1, [], []), (30, .istore 7, 2, [], []), (32, .nop, 0, [3], [])]),
  ([0, 1, 2, 3, 4, 5, 6, 7], [(32, .iload 7, 2, [], []), (34, .iconst 4, 1, [], []), (35, .if_icmp .ge 70, 3, [11, 4], [])]),
  ([0, 1, 2, 3, 4, 5, 6, 7], [(38, .iconst 0, 1, [], []), (39, .istore 8, 2, [], []), (41, .iconst 0, 1, [], []), (42, .istore 9, 2, [], []), (44, .nop, 0, [5], [])]),
  ([0, 1, 2, 3, 4, 5, 6, 7, 8, 9], [(44, .iload 9, 2, [], []), (46, .iconst 4, 1, [], []), (47, .if_icmp .ge 40, 3, [10, 6], [])]),
  ([0, 1, 2, 3, 4, 5, 6, 7, 8, 9], [(50, .iload 8, 2, [], []), (52, .iload_n 3, 1, [], []), (53, .iload 7, 2, [], []), (55, .invokestatic 116, 3, [0, 1, 2, 109], [1, 804, 805]), (58, .iload 9, 2, [], []), (60, .ishr, 1, [], []), (61, .iconst 1, 1, [], []), (62, .iand, 1, [], []), (63, .iconst 1, 1, [], []), (64, .if_icmp .ne 13, 3, [8, 7], [])]),
  ([0, 1, 2, 3, 4, 5, 6, 7, 9], [(67, .iload 5, 2, [], []), (69, .iload 9, 2, [], []), (71, .invokestatic 116, 3, [0, 1, 2, 109], [1, 804, 805]), (74, .goto 4, 3, [9], [])]),
  ([0, 1, 2, 3, 4, 5, 6, 7, 9], [(77, .iconst 0, 1, [], []), (78, .nop, 0, [9], [])]),
  ([0, 1, 2, 3, 4, 5, 6, 7, 9], [(78, .ior, 1, [], []), (79, .istore 8, 2, [], []), (81, .iinc 9 1, 3, [], []), (84, .goto (-40), 3, [5], [])]),
  ([0, 1, 2, 3, 4, 5, 6, 7, 8], [(87, .iload 6, 2, [], []), (89, .iload 8, 2, [], []), (91, .iconst 4, 1, [], []), (92, .iload 7, 2, [], []), (94, .imul, 1, [], []), (95, .ishl, 1, [], []), (96, .ior, 1, [], []), (97, .istore 6, 2, [], []), (99, .iinc 7 1, 3, [], []), (102, .goto (-70), 3, [3], [])]),
  ([0, 1, 2, 4, 6], [(105, .iload 6, 2, [], []), (107, .istore_n 3, 1, [], []), (108, .iinc 4 1, 3, [], []), (111, .goto (-105), 3, [1], [])]),
  ([3], [(114, .iload_n 3, 1, [], []), (115, .ireturn, 1, [0], [])])]
def km_X10_reach : MT := (yX10_reach, cX10_reach, 10, (some .int), kb_X10_reach)
def kb_X10_chances : List (List Nat × List RI) := [
  ([0, 1, 2], [(0, .iload_n 1, 1, [], []), (1, .aload_n 0, 1, [], []), (2, .getfield 58, 3, [8, 0, 10], [124, 0]), (5, .if_icmp .lt 7, 3, [2, 1], [])]),
  ([], [(8, .ldc2_w 119, 3, [4096], [751]), (11, .lreturn, 1, [], [])]),
  ([0, 1, 2], [(12, .ldc2_w 119, 3, [4096], [751]), (15, .bipush 16, 2, [], []), (17, .aload_n 0, 1, [], []), (18, .getfield 61, 3, [9, 0, 10], [126, 0]), (21, .iload_n 1, 1, [], []), (22, .invokestatic 80, 3, [0, 1, 2, 107], [1, 752, 473]), (25, .imul, 1, [], []), (26, .lshl, 1, [], []), (27, .lstore_n 3, 1, [], []), (28, .iconst 0, 1, [], []), (29, .istore 5, 2, [], []), (31, .nop, 0, [3], [])]),
  ([0, 1, 2, 3, 5], [(31, .iload 5, 2, [], []), (33, .iload_n 2, 1, [], []), (34, .if_icmp .ge 127, 3, [10, 4], [])]),
  ([0, 1, 2, 3, 5], [(37, .lconst 0, 1, [], []), (38, .lstore 6, 2, [], []), (40, .iconst 0, 1, [], []), (41, .istore 8, 2, [], []), (43, .nop, 0, [5], [])]),
  ([0, 1, 2, 3, 5, 6, 8], [(43, .iload 8, 2, [], []), (45, .iconst 4, 1, [], []), (46, .if_icmp .ge 106, 3, [9, 6], [])]),
  ([0, 1, 2, 3, 5, 6, 8], [(49, .lload_n 3, 1, [], []), (50, .iload 8, 2, [], []), (52, .invokestatic 121, 3, [0, 2, 2, 61], [0, 753, 754]), (55, .ldc2_w 125, 3, [2], [757]), (58, .ldiv, 1, [], []), (59, .lstore 9, 2, [], []), (61, .lload 9, 2, [], []), (63, .lconst 0, 1, [], []), (64, .lcmp, 1, [], []), (65, .ifCond .eq 81, 3, [8, 7], [])]),
  ([0, 1, 2, 3, 5, 6, 8, 9], [(68, .iload_n 1, 1, [], []), (69, .iload 8, 2, [], []), (71, .aload_n 0, 1, [], []), (72, .getfield 64, 3, [10, 0, 10], [128, 0]), (75, .iload 5, 2, [], []), (77, .iadd, 1, [], []), (78, .invokestatic 109, 3, [0, 1, 3, 110], [1, 758, 480]), (81, .istore 11, 2, [], []), (83, .iload 8, 2, [], []), (85, .aload_n 0, 1, [], []), (86, .iconst 0, 1, [], []), (87, .iload 11, 2, [], []), (89, .invokevirtual 96, 3, [2, 1, 2, 10, 57], [697, 0, 484, 485, 68, 0, 0, 0]), (92, .iadd, 1, [], []), (93, .istore 12, 2, [], []), (95, .aload_n 0, 1, [], []), (96, .iconst 1, 1, [], []), (97, .iload 11, 2, [], []), (99, .invokevirtual 96, 3, [2, 1, 2, 10, 57], [697, 0, 484, 485, 68, 0, 0, 0]), (102, .istore 13, 2, [], []), (104, .lload 6, 2, [], []), (106, .lload 9, 2, [], []), (108, .iconst 2, 1, [], []), (109, .iload 13, 2, [], []), (111, .isub, 1, [], []), (112, .i2l, 1, [], []), (113, .lmul, 1, [], []), (114, .bipush 16, 2, [], []), (116, .iload 12, 2, [], []), (118, .iconst 4, 1, [], []), (119, .irem, 1, [], []), (120, .imul, 1, [], []), (121, .lshl, 1, [], []), (122, .ladd, 1, [], []), (123, .lstore 6, 2, [], []), (125, .lload 6, 2, [], []), (127, .lload 9, 2, [], []), (129, .iload 13, 2, [], []), (131, .i2l, 1, [], []), (132, .lmul, 1, [], []), (133, .bipush 16, 2, [], []), (135, .iload 12, 2, [], []), (137, .iconst 1, 1, [], []), (138, .iadd, 1, [], []), (139, .iconst 4, 1, [], []), (140, .irem, 1, [], []), (141, .imul, 1, [], []), (142, .lshl, 1, [], []), (143, .ladd, 1, [], []), (144, .lstore 6, 2, [], []), (146, .nop, 0, [8], [])]),
  ([0, 1, 2, 3, 5, 6, 8], [(146, .iinc 8 1, 3, [], []), (149, .goto (-106), 3, [5], [])]),
  ([0, 1, 2, 5, 6], [(152, .lload 6, 2, [], []), (154, .lstore_n 3, 1, [], []), (155, .iinc 5 1, 3, [], []), (158, .goto (-127), 3, [3], [])]),
  ([3], [(161, .lload_n 3, 1, [], []), (162, .lreturn, 1, [], [])])]
def km_X10_chances : MT := (yX10_chances, cX10_chances, 14, (some .long), kb_X10_chances)
def kb_X10_chanceIn : List (List Nat × List RI) := [
  ([0, 2], [(0, .lload_n 0, 1, [], []), (1, .bipush 16, 2, [], []), (3, .iload_n 2, 1, [], []), (4, .imul, 1, [], []), (5, .lshr, 1, [], []), (6, .ldc2_w 127, 3, [65535], [756]), (9, .land, 1, [], []), (10, .lreturn, 1, [], [])])]
def km_X10_chanceIn : MT := (yX10_chanceIn, cX10_chanceIn, 3, (some .long), kb_X10_chanceIn)
def kb_X11_init : List (List Nat × List RI) := [
  ([0], [(0, .aload_n 0, 1, [], []), (1, .invokespecial 5, 3, [3], [93]), (4, .aload_n 0, 1, [], []), (5, .new 11, 3, [10, 15], [96, 97, 68]), (8, .dup, 1, [], []), (9, .invokespecial 13, 3, [1, 0, 0, 47, 10], [2, 98, 99]), (12, .putfield 14, 3, [0, 2, 11], [214, 0]), (15, .aload_n 0, 1, [], []), (16, .new 11, 3, [10, 15], [96, 97, 68]), (19, .dup, 1, [], []), (20, .invokespecial 13, 3, [1, 0, 0, 47, 10], [2, 98, 99]), (23, .putfield 18, 3, [1, 2, 11], [215, 0]), (26, .aload_n 0, 1, [], []), (27, .new 21, 3, [5, 6], [170, 171, 69]), (30, .dup, 1, [], []), (31, .aload_n 0, 1, [], []), (32, .getfield 14, 3, [0, 2, 11], [214, 0]), (35, .invokespecial 23, 3, [1, 0, 1, 17, 5], [0, 172, 173]), (38, .putfield 26, 3, [2, 2, 11], [216, 0]), (41, .aload_n 0, 1, [], []), (42, .new 30, 3, [9, 2], [199, 200, 70]), (45, .dup, 1, [], []), (46, .invokespecial 32, 3, [1, 0, 0, 45, 9], [2, 201, 202]), (49, .putfield 33, 3, [3, 2, 11], [217, 0]), (52, .aload_n 0, 1, [], []), (53, .iconst 4, 1, [], []), (54, .newarray .long, 2, [21], [236]), (56, .putfield 37, 3, [4, 2, 11], [218, 0]), (59, .aload_n 0, 1, [], []), (60, .sipush 256, 3, [], []), (63, .newarray .boolean, 2, [22], [237]), (65, .putfield 41, 3, [5, 2, 11], [219, 0]), (68, .return_, 1, [], [])])]
def km_X11_init : MT := (yX11_init, cX11_init, 1, none, kb_X11_init)
def kb_X11_feed : List (List Nat × List RI) := [
  ([0, 1], [(0, .iload_n 1, 1, [], []), (1, .ifCond .lt 9, 3, [2, 1], [])]),
  ([0, 1], [(4, .iload_n 1, 1, [], []), (5, .bipush 127, 2, [], []), (7, .if_icmp .le 6, 3, [3, 2], [])]),
  ([], [(10, .bipush (-2), 2, [], []), (12, .ireturn, 1, [0], [])]),
  ([0, 1], [(13, .aload_n 0, 1, [], []), (14, .getfield 14, 3, [0, 2, 11], [214, 0]), (17, .getfield 45, 3, [1, 0, 10], [109, 0]), (20, .aload_n 0, 1, [], []), (21, .getfield 14, 3, [0, 2, 11], [214, 0]), (24, .getfield 49, 3, [0, 2, 10], [107, 0]), (27, .arraylength, 1, [], []), (28, .if_icmp .lt 6, 3, [5, 4], [])]),
  ([], [(31, .bipush (-4), 2, [], []), (33, .ireturn, 1, [0], [])]),
  ([0, 1], [(34, .aload_n 0, 1, [], []), (35, .getfield 14, 3, [0, 2, 11], [214, 0]), (38, .getfield 49, 3, [0, 2, 10], [107, 0]), (41, .aload_n 0, 1, [], []), (42, .getfield 14, 3, [0, 2, 11], [214, 0]), (45, .getfield 45, 3, [1, 0, 10], [109, 0]), (48, .iload_n 1, 1, [], []), (49, .i2b, 1, [], []), (50, .bastore, 1, [1], []), (51, .aload_n 0, 1, [], []), (52, .getfield 14, 3, [0, 2, 11], [214, 0]), (55, .dup, 1, [], []), (56, .getfield 45, 3, [1, 0, 10], [109, 0]), (59, .iconst 1, 1, [], []), (60, .iadd, 1, [], []), (61, .putfield 45, 3, [1, 0, 10], [109, 0]), (64, .aload_n 0, 1, [], []), (65, .getfield 14, 3, [0, 2, 11], [214, 0]), (68, .getfield 45, 3, [1, 0, 10], [109, 0]), (71, .ireturn, 1, [0], [])])]
def km_X11_feed : MT := (yX11_feed, cX11_feed, 2, (some .int), kb_X11_feed)
def kb_X11_coast : List (List Nat × List RI) := [
  ([0], [(0, .aload_n 0, 1, [], []), (1, .getfield 14, 3, [0, 2, 11], [214, 0]), (4, .getfield 53, 3, [3, 0, 10], [115, 0]), (7, .iconst 5, 1, [], []), (8, .if_icmp .lt 6, 3, [2, 1], [])]),
  ([], [(11, .bipush (-4), 2, [], []), (13, .ireturn, 1, [0], [])]),
  ([0], [(14, .aload_n 0, 1, [], []), (15, .getfield 26, 3, [2, 2, 11], [216, 0]), (18, .invokevirtual 56, 3, [2, 3, 0, 5, 18], [246, 0, 247, 248, 69, 0, 0, 0]), (21, .astore_n 1, 1, [], []), (22, .aload_n 0, 1, [], []), (23, .getfield 14, 3, [0, 2, 11], [214, 0]), (26, .iconst 0, 1, [], []), (27, .putfield 45, 3, [1, 0, 10], [109, 0]), (30, .aload_n 1, 1, [], []), (31, .ifnonnull 14, 3, [4, 3], [])]),
  ([0], [(34, .bipush (-10), 2, [], []), (36, .aload_n 0, 1, [], []), (37, .getfield 26, 3, [2, 2, 11], [216, 0]), (40, .getfield 60, 3, [5, 0, 5], [184, 0]), (43, .isub, 1, [], []), (44, .ireturn, 1, [0], [])]),
  ([0, 1], [(45, .aload_n 0, 1, [], []), (46, .getfield 14, 3, [0, 2, 11], [214, 0]), (49, .aload_n 1, 1, [], []), (50, .putfield 63, 3, [2, 2, 10], [113, 0]), (53, .aload_n 0, 1, [], []), (54, .getfield 14, 3, [0, 2, 11], [214, 0]), (57, .dup, 1, [], []), (58, .getfield 53, 3, [3, 0, 10], [115, 0]), (61, .iconst 1, 1, [], []), (62, .iadd, 1, [], []), (63, .putfield 53, 3, [3, 0, 10], [115, 0]), (66, .aload_n 0, 1, [], []), (67, .getfield 14, 3, [0, 2, 11], [214, 0]), (70, .getfield 53, 3, [3, 0, 10], [115, 0]), (73, .iconst 1, 1, [], []), (74, .isub, 1, [], []), (75, .ireturn, 1, [0], [])])]
def km_X11_coast : MT := (yX11_coast, cX11_coast, 2, (some .int), kb_X11_coast)
def kb_X11_saying : List (List Nat × List RI) := [
  ([0], [(0, .aload_n 0, 1, [], []), (1, .getfield 14, 3, [0, 2, 11], [214, 0]), (4, .getfield 67, 3, [5, 0, 10], [119, 0]), (7, .aload_n 0, 1, [], []), (8, .getfield 14, 3, [0, 2, 11], [214, 0]), (11, .getfield 70, 3, [4, 2, 10], [117, 0]), (14, .arraylength, 1, [], []), (15, .if_icmp .lt 6, 3, [2, 1], [])]),
  ([], [(18, .bipush (-4), 2, [], []), (20, .ireturn, 1, [0], [])]),
  ([0], [(21, .aload_n 0, 1, [], []), (22, .getfield 26, 3, [2, 2, 11], [216, 0]), (25, .invokevirtual 73, 3, [2, 3, 0, 5, 20], [449, 0, 450, 451, 69, 0, 0, 0]), (28, .astore_n 1, 1, [], []), (29, .aload_n 0, 1, [], []), (30, .getfield 14, 3, [0, 2, 11], [214, 0]), (33, .iconst 0, 1, [], []), (34, .putfield 45, 3, [1, 0, 10], [109, 0]), (37, .aload_n 1, 1, [], []), (38, .ifnonnull 14, 3, [4, 3], [])]),
  ([0], [(41, .bipush (-10), 2, [], []), (43, .aload_n 0, 1, [], []), (44, .getfield 26, 3, [2, 2, 11], [216, 0]), (47, .getfield 60, 3, [5, 0, 5], [184, 0]), (50, .isub, 1, [], []), (51, .ireturn, 1, [0], [])]),
  ([0, 1], [(52, .aload_n 0, 1, [], []), (53, .getfield 14, 3, [0, 2, 11], [214, 0]), (56, .getfield 70, 3, [4, 2, 10], [117, 0]), (59, .aload_n 0, 1, [], []), (60, .getfield 14, 3, [0, 2, 11], [214, 0]), (63, .getfield 67, 3, [5, 0, 10], [119, 0]), (66, .aload_n 1, 1, [], []), (67, .aastore, 1, [], []), (68, .aload_n 0, 1, [], []), (69, .getfield 14, 3, [0, 2, 11], [214, 0]), (72, .dup, 1, [], []), (73, .getfield 67, 3, [5, 0, 10], [119, 0]), (76, .iconst 1, 1, [], []), (77, .iadd, 1, [], []), (78, .putfield 67, 3, [5, 0, 10], [119, 0]), (81, .aload_n 0, 1, [], []), (82, .getfield 14, 3, [0, 2, 11], [214, 0]), (85, .getfield 67, 3, [5, 0, 10], [119, 0]), (88, .iconst 1, 1, [], []), (89, .isub, 1, [], []), (90, .ireturn, 1, [0], [])])]
def km_X11_saying : MT := (yX11_saying, cX11_saying, 2, (some .int), kb_X11_saying)
def kb_X11_thing : List (List Nat × List RI) := [
  ([0, 1], [(0, .iload_n 1, 1, [], []), (1, .invokestatic 77, 3, [0, 1, 1, 104], [0, 458, 459]), (4, .ifCond .ne 6, 3, [2, 1], [])]),
  ([], [(7, .bipush (-2), 2, [], []), (9, .ireturn, 1, [0], [])]),
  ([0, 1], [(10, .aload_n 0, 1, [], []), (11, .getfield 14, 3, [0, 2, 11], [214, 0]), (14, .getfield 81, 3, [8, 0, 10], [125, 0]), (17, .iconst 4, 1, [], []), (18, .if_icmp .lt 6, 3, [4, 3], [])]),
  ([], [(21, .bipush (-4), 2, [], []), (23, .ireturn, 1, [0], [])]),
  ([0, 1], [(24, .aload_n 0, 1, [], []), (25, .getfield 14, 3, [0, 2, 11], [214, 0]), (28, .dup, 1, [], []), (29, .getfield 81, 3, [8, 0, 10], [125, 0]), (32, .iconst 1, 1, [], []), (33, .iadd, 1, [], []), (34, .putfield 81, 3, [8, 0, 10], [125, 0]), (37, .aload_n 0, 1, [], []), (38, .getfield 14, 3, [0, 2, 11], [214, 0]), (41, .aload_n 0, 1, [], []), (42, .getfield 14, 3, [0, 2, 11], [214, 0]), (45, .getfield 84, 3, [9, 0, 10], [127, 0]), (48, .aload_n 0, 1, [], []), (49, .getfield 14, 3, [0, 2, 11], [214, 0]), (52, .getfield 81, 3, [8, 0, 10], [125, 0]), (55, .iconst 1, 1, [], []), (56, .isub, 1, [], []), (57, .iload_n 1, 1, [], []), (58, .invokestatic 87, 3, [0, 1, 3, 108], [0, 461, 462]), (61, .putfield 84, 3, [9, 0, 10], [127, 0]), (64, .aload_n 0, 1, [], []), (65, .getfield 14, 3, [0, 2, 11], [214, 0]), (68, .getfield 81, 3, [8, 0, 10], [125, 0]), (71, .iconst 1, 1, [], []), (72, .isub, 1, [], []), (73, .ireturn, 1, [0], [])])]
def km_X11_thing : MT := (yX11_thing, cX11_thing, 2, (some .int), kb_X11_thing)
def kb_X11_put : List (List Nat × List RI) := [
  ([0, 1, 2], [(0, .aload_n 0, 1, [], []), (1, .getfield 14, 3, [0, 2, 11], [214, 0]), (4, .iload_n 1, 1, [], []), (5, .invokevirtual 91, 3, [2, 1, 1, 10, 49], [468, 0, 469, 470, 68, 0, 0, 0]), (8, .ifCond .ne 5, 3, [2, 1], [])]),
  ([], [(11, .iconst (-1), 1, [], []), (12, .ireturn, 1, [0], [])]),
  ([0, 1, 2], [(13, .iload_n 2, 1, [], []), (14, .invokestatic 77, 3, [0, 1, 1, 104], [0, 458, 459]), (17, .ifCond .ne 6, 3, [4, 3], [])]),
  ([], [(20, .bipush (-2), 2, [], []), (22, .ireturn, 1, [0], [])]),
  ([0, 1, 2], [(23, .aload_n 0, 1, [], []), (24, .getfield 14, 3, [0, 2, 11], [214, 0]), (27, .getfield 84, 3, [9, 0, 10], [127, 0]), (30, .iload_n 1, 1, [], []), (31, .invokestatic 94, 3, [0, 1, 2, 107], [0, 472, 473]), (34, .istore_n 3, 1, [], []), (35, .aload_n 0, 1, [], []), (36, .getfield 14, 3, [0, 2, 11], [214, 0]), (39, .aload_n 0, 1, [], []), (40, .getfield 14, 3, [0, 2, 11], [214, 0]), (43, .getfield 84, 3, [9, 0, 10], [127, 0]), (46, .iload_n 1, 1, [], []), (47, .iload_n 2, 1, [], []), (48, .invokestatic 87, 3, [0, 1, 3, 108], [0, 461, 462]), (51, .putfield 84, 3, [9, 0, 10], [127, 0]), (54, .iload_n 3, 1, [], []), (55, .ireturn, 1, [0], [])])]
def km_X11_put : MT := (yX11_put, cX11_put, 4, (some .int), kb_X11_put)
def kb_X11_of : List (List Nat × List RI) := [
  ([0, 1, 2], [(0, .aload_n 0, 1, [], []), (1, .getfield 14, 3, [0, 2, 11], [214, 0]), (4, .iload_n 1, 1, [], []), (5, .invokevirtual 91, 3, [2, 1, 1, 10, 49], [468, 0, 469, 470, 68, 0, 0, 0]), (8, .ifCond .ne 5, 3, [2, 1], [])]),
  ([], [(11, .iconst (-1), 1, [], []), (12, .ireturn, 1, [0], [])]),
  ([0, 1, 2], [(13, .aload_n 0, 1, [], []), (14, .getfield 14, 3, [0, 2, 11], [214, 0]), (17, .getfield 84, 3, [9, 0, 10], [127, 0]), (20, .iload_n 1, 1, [], []), (21, .invokestatic 94, 3, [0, 1, 2, 107], [0, 472, 473]), (24, .istore_n 3, 1, [], []), (25, .iload_n 1, 1, [], []), (26, .iload_n 3, 1, [], []), (27, .aload_n 0, 1, [], []), (28, .getfield 14, 3, [0, 2, 11], [214, 0]), (31, .getfield 98, 3, [10, 0, 10], [129, 0]), (34, .invokestatic 101, 3, [0, 1, 3, 110], [0, 479, 480]), (37, .istore 4, 2, [], []), (39, .iload_n 2, 1, [], []), (40, .tableswitch 52 0 2 #[28, 30, 41], 28, [6, 3, 4, 5], [])]),
  ([3], [(68, .iload_n 3, 1, [], []), (69, .ireturn, 1, [0], [])]),
  ([0, 4], [(70, .aload_n 0, 1, [], []), (71, .getfield 14, 3, [0, 2, 11], [214, 0]), (74, .iconst 0, 1, [], []), (75, .iload 4, 2, [], []), (77, .invokevirtual 106, 3, [2, 1, 2, 10, 57], [483, 0, 484, 485, 68, 0, 0, 0]), (80, .ireturn, 1, [0], [])]),
  ([0, 4], [(81, .aload_n 0, 1, [], []), (82, .getfield 14, 3, [0, 2, 11], [214, 0]), (85, .iconst 1, 1, [], []), (86, .iload 4, 2, [], []), (88, .invokevirtual 106, 3, [2, 1, 2, 10, 57], [483, 0, 484, 485, 68, 0, 0, 0]), (91, .ireturn, 1, [0], [])]),
  ([], [(92, .iconst (-1), 1, [], []), (93, .ireturn, 1, [0], [])])]
def km_X11_of : MT := (yX11_of, cX11_of, 5, (some .int), kb_X11_of)
def kb_X11_way : List (List Nat × List RI) := [
  ([0, 1, 2, 3, 4], [(0, .iload_n 1, 1, [], []), (1, .invokestatic 109, 3, [0, 1, 1, 105], [0, 499, 500]), (4, .ifCond .ne 5, 3, [2, 1], [])]),
  ([], [(7, .iconst (-1), 1, [], []), (8, .ireturn, 1, [0], [])]),
  ([0, 1, 2, 3, 4], [(9, .iload_n 2, 1, [], []), (10, .ifCond .lt 31, 3, [8, 3], [])]),
  ([0, 1, 2, 3, 4], [(13, .iload_n 2, 1, [], []), (14, .bipush 9, 2, [], []), (16, .if_icmp .gt 25, 3, [8, 4], [])]),
  ([0, 1, 2, 3, 4], [(19, .iload_n 3, 1, [], []), (20, .ifCond .lt 21, 3, [8, 5], [])]),
  ([0, 1, 2, 3, 4], [(23, .iload_n 3, 1, [], []), (24, .bipush 6, 2, [], []), (26, .if_icmp .gt 15, 3, [8, 6], [])]),
  ([0, 1, 2, 3, 4], [(29, .iload 4, 2, [], []), (31, .ifCond .lt 10, 3, [8, 7], [])]),
  ([0, 1, 2, 3, 4], [(34, .iload 4, 2, [], []), (36, .bipush 99, 2, [], []), (38, .if_icmp .le 6, 3, [9, 8], [])]),
  ([], [(41, .bipush (-2), 2, [], []), (43, .ireturn, 1, [0], [])]),
  ([0, 1, 2, 3, 4], [(44, .aload_n 0, 1, [], []), (45, .getfield 14, 3, [0, 2, 11], [214, 0]), (48, .getfield 112, 3, [7, 0, 10], [123, 0]), (51, .aload_n 0, 1, [], []), (52, .getfield 14, 3, [0, 2, 11], [214, 0]), (55, .getfield 115, 3, [6, 2, 10], [121, 0]), (58, .arraylength, 1, [], []), (59, .if_icmp .lt 6, 3, [11, 10], [])]),
  ([], [(62, .bipush (-4), 2, [], []), (64, .ireturn, 1, [0], [])]),
  ([0, 1, 2, 3, 4], [(65, .aload_n 0, 1, [], []), (66, .getfield 14, 3, [0, 2, 11], [214, 0]), (69, .getfield 115, 3, [6, 2, 10], [121, 0]), (72, .aload_n 0, 1, [], []), (73, .getfield 14, 3, [0, 2, 11], [214, 0]), (76, .getfield 112, 3, [7, 0, 10], [123, 0]), (79, .aload_n 0, 1, [], []), (80, .iload_n 1, 1, [], []), (81, .iload_n 2, 1, [], []), (82, .iload_n 3, 1, [], []), (83, .iload 4, 2, [], []), (85, .invokevirtual 119, 3, [2, 3, 4, 11, 70], [502, 0, 504, 12, 67, 0, 0, 0]), (88, .aastore, 1, [], []), (89, .aload_n 0, 1, [], []), (90, .getfield 14, 3, [0, 2, 11], [214, 0]), (93, .dup, 1, [], []), (94, .getfield 112, 3, [7, 0, 10], [123, 0]), (97, .iconst 1, 1, [], []), (98, .iadd, 1, [], []), (99, .putfield 112, 3, [7, 0, 10], [123, 0]), (102, .aload_n 0, 1, [], []), (103, .getfield 14, 3, [0, 2, 11], [214, 0]), (106, .getfield 112, 3, [7, 0, 10], [123, 0]), (109, .iconst 1, 1, [], []), (110, .isub, 1, [], []), (111, .ireturn, 1, [0], [])])]
def km_X11_way : MT := (yX11_way, cX11_way, 5, (some .int), kb_X11_way)
def kb_X11_newWay : List (List Nat × List RI) := [
  ([0, 1, 2, 3, 4], [(0, .aload_n 0, 1, [], []), (1, .getfield 14, 3, [0, 2, 11], [214, 0]), (4, .getfield 112, 3, [7, 0, 10], [123, 0]), (7, .istore 5, 2, [], []), (9, .iload_n 1, 1, [], []), (10, .tableswitch 152 1 6 #[38, 57, 76, 95, 114, 133], 38, [7, 1, 2, 3, 4, 5, 6], [])]),
  ([0, 1, 2, 3, 4, 5], [(48, .new 123, 3, [0, 6], [506, 507, 82]), (51, .dup, 1, [], []), (52, .iload_n 1, 1, [], []), (53, .iload 5, 2, [], []), (55, .iload_n 2, 1, [], []), (56, .iload_n 3, 1, [], []), (57, .iload 4, 2, [], []), (59, .aload_n 0, 1, [], []), (60, .getfield 33, 3, [3, 2, 11], [217, 0]), (63, .invokespecial 125, 3, [1, 0, 6, 0, 0, 7], [0, 508, 509]), (66, .areturn, 1, [], [])]),
  ([0, 1, 2, 3, 4, 5], [(67, .new 128, 3, [1, 6], [567, 568, 83]), (70, .dup, 1, [], []), (71, .iload_n 1, 1, [], []), (72, .iload 5, 2, [], []), (74, .iload_n 2, 1, [], []), (75, .iload_n 3, 1, [], []), (76, .iload 4, 2, [], []), (78, .aload_n 0, 1, [], []), (79, .getfield 33, 3, [3, 2, 11], [217, 0]), (82, .invokespecial 130, 3, [1, 0, 6, 3, 1, 8], [0, 569, 570]), (85, .areturn, 1, [], [])]),
  ([0, 1, 2, 3, 4, 5], [(86, .new 131, 3, [4, 6], [580, 581, 84]), (89, .dup, 1, [], []), (90, .iload_n 1, 1, [], []), (91, .iload 5, 2, [], []), (93, .iload_n 2, 1, [], []), (94, .iload_n 3, 1, [], []), (95, .iload 4, 2, [], []), (97, .aload_n 0, 1, [], []), (98, .getfield 33, 3, [3, 2, 11], [217, 0]), (101, .invokespecial 133, 3, [1, 0, 6, 14, 2, 4], [0, 582, 583]), (104, .areturn, 1, [], [])]),
  ([0, 1, 2, 3, 4, 5], [(105, .new 134, 3, [7, 6], [593, 594, 85]), (108, .dup, 1, [], []), (109, .iload_n 1, 1, [], []), (110, .iload 5, 2, [], []), (112, .iload_n 2, 1, [], []), (113, .iload_n 3, 1, [], []), (114, .iload 4, 2, [], []), (116, .aload_n 0, 1, [], []), (117, .getfield 33, 3, [3, 2, 11], [217, 0]), (120, .invokespecial 136, 3, [1, 0, 6, 39, 7], [0, 595, 596]), (123, .areturn, 1, [], [])]),
  ([0, 1, 2, 3, 4, 5], [(124, .new 137, 3, [8, 6], [606, 607, 86]), (127, .dup, 1, [], []), (128, .iload_n 1, 1, [], []), (129, .iload 5, 2, [], []), (131, .iload_n 2, 1, [], []), (132, .iload_n 3, 1, [], []), (133, .iload 4, 2, [], []), (135, .aload_n 0, 1, [], []), (136, .getfield 33, 3, [3, 2, 11], [217, 0]), (139, .invokespecial 139, 3, [1, 0, 6, 42, 8], [0, 608, 609]), (142, .areturn, 1, [], [])]),
  ([0, 2, 3, 4, 5], [(143, .new 140, 3, [2, 7], [619, 620, 87]), (146, .dup, 1, [], []), (147, .iload 5, 2, [], []), (149, .iload_n 2, 1, [], []), (150, .iload_n 3, 1, [], []), (151, .iload 4, 2, [], []), (153, .iconst 0, 1, [], []), (154, .aload_n 0, 1, [], []), (155, .getfield 33, 3, [3, 2, 11], [217, 0]), (158, .invokespecial 142, 3, [1, 0, 6, 6, 2], [0, 621, 622]), (161, .areturn, 1, [], [])]),
  ([0, 2, 3, 4, 5], [(162, .new 143, 3, [6, 6], [635, 636, 81]), (165, .dup, 1, [], []), (166, .iconst 0, 1, [], []), (167, .iload 5, 2, [], []), (169, .iload_n 2, 1, [], []), (170, .iload_n 3, 1, [], []), (171, .iload 4, 2, [], []), (173, .aload_n 0, 1, [], []), (174, .getfield 33, 3, [3, 2, 11], [217, 0]), (177, .invokespecial 145, 3, [1, 0, 6, 32, 0, 1, 2, 4, 6, 7, 8], [0, 637, 512]), (180, .areturn, 1, [], [])])]
def km_X11_newWay : MT := (yX11_newWay, cX11_newWay, 6, (some (.object "TrueHeard$Runner")), kb_X11_newWay)
def kb_X11_at : List (List Nat × List RI) := [
  ([0, 1, 2], [(0, .aload_n 0, 1, [], []), (1, .getfield 14, 3, [0, 2, 11], [214, 0]), (4, .iload_n 1, 1, [], []), (5, .invokevirtual 146, 3, [2, 3, 1, 10, 51], [649, 0, 650, 651, 68, 0, 0, 0]), (8, .astore_n 3, 1, [], []), (9, .aload_n 3, 1, [], []), (10, .ifnonnull 5, 3, [2, 1], [])]),
  ([], [(13, .iconst (-1), 1, [], []), (14, .ireturn, 1, [0], [])]),
  ([0, 2, 3], [(15, .iload_n 2, 1, [], []), (16, .tableswitch 90 0 6 #[44, 49, 54, 59, 64, 76, 85], 44, [10, 3, 4, 5, 6, 7, 8, 9], [])]),
  ([3], [(60, .aload_n 3, 1, [], []), (61, .getfield 150, 3, [0, 0, 0, 1, 2, 4, 6, 7, 8], [517, 0]), (64, .ireturn, 1, [0], [])]),
  ([3], [(65, .aload_n 3, 1, [], []), (66, .getfield 153, 3, [2, 0, 0, 1, 2, 4, 6, 7, 8], [529, 0]), (69, .ireturn, 1, [0], [])]),
  ([3], [(70, .aload_n 3, 1, [], []), (71, .getfield 156, 3, [3, 0, 0, 1, 2, 4, 6, 7, 8], [537, 0]), (74, .ireturn, 1, [0], [])]),
  ([3], [(75, .aload_n 3, 1, [], []), (76, .getfield 159, 3, [4, 0, 0, 1, 2, 4, 6, 7, 8], [540, 0]), (79, .ireturn, 1, [0], [])]),
  ([0, 3], [(80, .aload_n 3, 1, [], []), (81, .aload_n 0, 1, [], []), (82, .getfield 14, 3, [0, 2, 11], [214, 0]), (85, .getfield 98, 3, [10, 0, 10], [129, 0]), (88, .invokevirtual 162, 3, [2, 1, 1, 0, 1, 1, 4, 2, 7, 4, 15, 6, 33, 7, 1, 8, 43], [653, 1, 658, 657, 82, 656, 33, 654, 1, 661, 660, 83, 656, 33, 654, 1, 664, 663, 87, 656, 33, 654, 1, 667, 669, 84, 656, 33, 654, 1, 654, 655, 81, 656, 33, 654, 1, 658, 670, 82, 656, 33, 654, 1, 672, 671, 86, 656, 33, 654]), (91, .ireturn, 1, [0], [])]),
  ([0, 3], [(92, .aload_n 0, 1, [], []), (93, .getfield 14, 3, [0, 2, 11], [214, 0]), (96, .aload_n 3, 1, [], []), (97, .invokevirtual 166, 3, [2, 1, 1, 10, 56], [677, 0, 678, 679, 68, 0, 0, 0]), (100, .ireturn, 1, [0], [])]),
  ([3], [(101, .aload_n 3, 1, [], []), (102, .invokevirtual 170, 3, [2, 1, 0, 0, 34, 1, 34, 2, 8, 4, 34, 6, 34, 7, 34, 8, 34], [698, 1, 699, 702, 81, 701, 34, 699, 1, 699, 703, 81, 701, 34, 699, 1, 705, 704, 87, 701, 34, 699, 1, 699, 707, 81, 701, 34, 699, 1, 699, 700, 81, 701, 34, 699, 1, 699, 708, 81, 701, 34, 699, 1, 699, 709, 81, 701, 34, 699]), (105, .ireturn, 1, [0], [])]),
  ([], [(106, .iconst (-1), 1, [], []), (107, .ireturn, 1, [0], [])])]
def km_X11_at : MT := (yX11_at, cX11_at, 4, (some .int), kb_X11_at)
def kb_X11_bribe : List (List Nat × List RI) := [
  ([0, 1, 2], [(0, .aload_n 0, 1, [], []), (1, .getfield 14, 3, [0, 2, 11], [214, 0]), (4, .iload_n 1, 1, [], []), (5, .invokevirtual 146, 3, [2, 3, 1, 10, 51], [649, 0, 650, 651, 68, 0, 0, 0]), (8, .astore_n 3, 1, [], []), (9, .aload_n 3, 1, [], []), (10, .ifnonnull 5, 3, [2, 1], [])]),
  ([], [(13, .iconst (-1), 1, [], []), (14, .ireturn, 1, [0], [])]),
  ([0, 1, 2, 3], [(15, .iload_n 2, 1, [], []), (16, .ifCond .lt 9, 3, [4, 3], [])]),
  ([0, 1, 2, 3], [(19, .iload_n 2, 1, [], []), (20, .bipush 6, 2, [], []), (22, .if_icmp .le 6, 3, [5, 4], [])]),
  ([], [(25, .bipush (-2), 2, [], []), (27, .ireturn, 1, [0], [])]),
  ([0, 1, 2, 3], [(28, .aload_n 3, 1, [], []), (29, .instanceof 140, 3, [1, 2, 0, 1, 4, 6, 7, 8], [619]), (32, .ifCond .ne 6, 3, [7, 6], [])]),
  ([], [(35, .bipush (-3), 2, [], []), (37, .ireturn, 1, [0], [])]),
  ([0, 1, 2, 3], [(38, .aload_n 0, 1, [], []), (39, .getfield 14, 3, [0, 2, 11], [214, 0]), (42, .iload_n 1, 1, [], []), (43, .new 140, 3, [2, 7], [619, 620, 87]), (46, .dup, 1, [], []), (47, .aload_n 3, 1, [], []), (48, .getfield 174, 3, [1, 0, 0, 1, 2, 4, 6, 7, 8], [521, 0]), (51, .aload_n 3, 1, [], []), (52, .getfield 153, 3, [2, 0, 0, 1, 2, 4, 6, 7, 8], [529, 0]), (55, .aload_n 3, 1, [], []), (56, .getfield 156, 3, [3, 0, 0, 1, 2, 4, 6, 7, 8], [537, 0]), (59, .aload_n 3, 1, [], []), (60, .getfield 159, 3, [4, 0, 0, 1, 2, 4, 6, 7, 8], [540, 0]), (63, .iload_n 2, 1, [], []), (64, .aload_n 0, 1, [], []), (65, .getfield 33, 3, [3, 2, 11], [217, 0]), (68, .invokespecial 142, 3, [1, 0, 6, 6, 2], [0, 621, 622]), (71, .invokevirtual 177, 3, [2, 0, 2, 10, 52], [715, 0, 716, 717, 68, 0, 0, 0]), (74, .aload_n 3, 1, [], []), (75, .invokevirtual 170, 3, [2, 1, 0, 0, 34, 1, 34, 2, 8, 4, 34, 6, 34, 7, 34, 8, 34], [698, 1, 699, 702, 81, 701, 34, 699, 1, 699, 703, 81, 701, 34, 699, 1, 705, 704, 87, 701, 34, 699, 1, 699, 707, 81, 701, 34, 699, 1, 699, 700, 81, 701, 34, 699, 1, 699, 708, 81, 701, 34, 699, 1, 699, 709, 81, 701, 34, 699]), (78, .ireturn, 1, [0], [])])]
def km_X11_bribe : MT := (yX11_bribe, cX11_bribe, 4, (some .int), kb_X11_bribe)
def kb_X11_now : List (List Nat × List RI) := [
  ([0], [(0, .aload_n 0, 1, [], []), (1, .getfield 14, 3, [0, 2, 11], [214, 0]), (4, .getfield 98, 3, [10, 0, 10], [129, 0]), (7, .ireturn, 1, [0], [])])]
def km_X11_now : MT := (yX11_now, cX11_now, 1, (some .int), kb_X11_now)
def kb_X11_hour : List (List Nat × List RI) := [
  ([0, 1], [(0, .iload_n 1, 1, [], []), (1, .ifCond .lt 9, 3, [2, 1], [])]),
  ([0, 1], [(4, .iload_n 1, 1, [], []), (5, .bipush 15, 2, [], []), (7, .if_icmp .le 6, 3, [3, 2], [])]),
  ([], [(10, .bipush (-2), 2, [], []), (12, .ireturn, 1, [0], [])]),
  ([0, 1], [(13, .aload_n 0, 1, [], []), (14, .getfield 14, 3, [0, 2, 11], [214, 0]), (17, .getfield 98, 3, [10, 0, 10], [129, 0]), (20, .sipush 999, 3, [], []), (23, .if_icmp .lt 6, 3, [5, 4], [])]),
  ([], [(26, .bipush (-3), 2, [], []), (28, .ireturn, 1, [0], [])]),
  ([0, 1], [(29, .iconst 0, 1, [], []), (30, .istore_n 2, 1, [], []), (31, .iconst 0, 1, [], []), (32, .istore_n 3, 1, [], []), (33, .nop, 0, [6], [])]),
  ([0, 1, 2, 3], [(33, .iload_n 3, 1, [], []), (34, .aload_n 0, 1, [], []), (35, .getfield 14, 3, [0, 2, 11], [214, 0]), (38, .getfield 81, 3, [8, 0, 10], [125, 0]), (41, .if_icmp .ge 107, 3, [16, 7], [])]),
  ([0, 1, 2, 3], [(44, .aload_n 0, 1, [], []), (45, .getfield 14, 3, [0, 2, 11], [214, 0]), (48, .getfield 84, 3, [9, 0, 10], [127, 0]), (51, .iload_n 3, 1, [], []), (52, .invokestatic 94, 3, [0, 1, 2, 107], [0, 472, 473]), (55, .istore 4, 2, [], []), (57, .iload_n 3, 1, [], []), (58, .iload 4, 2, [], []), (60, .aload_n 0, 1, [], []), (61, .getfield 14, 3, [0, 2, 11], [214, 0]), (64, .getfield 98, 3, [10, 0, 10], [129, 0]), (67, .invokestatic 101, 3, [0, 1, 3, 110], [0, 479, 480]), (70, .istore 5, 2, [], []), (72, .aload_n 0, 1, [], []), (73, .getfield 14, 3, [0, 2, 11], [214, 0]), (76, .iconst 1, 1, [], []), (77, .iload 5, 2, [], []), (79, .invokevirtual 106, 3, [2, 1, 2, 10, 57], [483, 0, 484, 485, 68, 0, 0, 0]), (82, .istore 6, 2, [], []), (84, .iload 6, 2, [], []), (86, .iconst 2, 1, [], []), (87, .if_icmp .eq 18, 3, [10, 8], [])]),
  ([0, 1, 2, 3, 4, 5, 6], [(90, .iload 6, 2, [], []), (92, .iconst 1, 1, [], []), (93, .if_icmp .ne 16, 3, [11, 9], [])]),
  ([0, 1, 2, 3, 4, 5], [(96, .iload_n 1, 1, [], []), (97, .iload_n 3, 1, [], []), (98, .ishr, 1, [], []), (99, .iconst 1, 1, [], []), (100, .iand, 1, [], []), (101, .iconst 1, 1, [], []), (102, .if_icmp .ne 7, 3, [11, 10], [])]),
  ([0, 1, 2, 3, 4, 5], [(105, .iconst 1, 1, [], []), (106, .goto 4, 3, [12], [])]),
  ([0, 1, 2, 3, 4, 5], [(109, .iconst 0, 1, [], []), (110, .nop, 0, [12], [])]),
  ([0, 1, 2, 3, 4, 5], [(110, .istore 7, 2, [], []), (112, .iload_n 2, 1, [], []), (113, .iload_n 3, 1, [], []), (114, .iload 4, 2, [], []), (116, .aload_n 0, 1, [], []), (117, .getfield 14, 3, [0, 2, 11], [214, 0]), (120, .iconst 0, 1, [], []), (121, .iload 5, 2, [], []), (123, .invokevirtual 106, 3, [2, 1, 2, 10, 57], [483, 0, 484, 485, 68, 0, 0, 0]), (126, .iadd, 1, [], []), (127, .iload 7, 2, [], []), (129, .ifCond .eq 7, 3, [14, 13], [])]),
  ([0, 1, 3], [(132, .iconst 1, 1, [], []), (133, .goto 4, 3, [15], [])]),
  ([0, 1, 3], [(136, .iconst 0, 1, [], []), (137, .nop, 0, [15], [])]),
  ([0, 1, 3], [(137, .iadd, 1, [], []), (138, .invokestatic 87, 3, [0, 1, 3, 108], [0, 461, 462]), (141, .istore_n 2, 1, [], []), (142, .iinc 3 1, 3, [], []), (145, .goto (-112), 3, [6], [])]),
  ([0, 2], [(148, .aload_n 0, 1, [], []), (149, .getfield 14, 3, [0, 2, 11], [214, 0]), (152, .iload_n 2, 1, [], []), (153, .putfield 84, 3, [9, 0, 10], [127, 0]), (156, .aload_n 0, 1, [], []), (157, .getfield 14, 3, [0, 2, 11], [214, 0]), (160, .dup, 1, [], []), (161, .getfield 98, 3, [10, 0, 10], [129, 0]), (164, .iconst 1, 1, [], []), (165, .iadd, 1, [], []), (166, .putfield 98, 3, [10, 0, 10], [129, 0]), (169, .aload_n 0, 1, [], []), (170, .getfield 14, 3, [0, 2, 11], [214, 0]), (173, .getfield 98, 3, [10, 0, 10], [129, 0]), (176, .ireturn, 1, [0], [])])]
def km_X11_hour : MT := (yX11_hour, cX11_hour, 8, (some .int), kb_X11_hour)
def kb_X11_odds : List (List Nat × List RI) := [
  ([0, 1, 2, 3], [(0, .aload_n 0, 1, [], []), (1, .iload_n 1, 1, [], []), (2, .iload_n 2, 1, [], []), (3, .iconst 0, 1, [], []), (4, .iload_n 3, 1, [], []), (5, .invokevirtual 181, 3, [2, 2, 4, 11, 85], [731, 0, 732, 733, 67, 0, 0, 0]), (8, .lreturn, 1, [], [])])]
def km_X11_odds : MT := (yX11_odds, cX11_odds, 4, (some .long), kb_X11_odds)
def kb_X11_sure : List (List Nat × List RI) := [
  ([0, 1, 2], [(0, .aload_n 0, 1, [], []), (1, .getfield 14, 3, [0, 2, 11], [214, 0]), (4, .iload_n 1, 1, [], []), (5, .invokevirtual 185, 3, [2, 3, 1, 10, 50], [735, 0, 736, 737, 68, 0, 0, 0]), (8, .astore_n 3, 1, [], []), (9, .aload_n 0, 1, [], []), (10, .getfield 14, 3, [0, 2, 11], [214, 0]), (13, .iload_n 2, 1, [], []), (14, .invokevirtual 146, 3, [2, 3, 1, 10, 51], [649, 0, 650, 651, 68, 0, 0, 0]), (17, .astore 4, 2, [], []), (19, .aload_n 3, 1, [], []), (20, .ifnull 8, 3, [2, 1], [])]),
  ([0, 3, 4], [(23, .aload 4, 2, [], []), (25, .ifnonnull 5, 3, [3, 2], [])]),
  ([], [(28, .iconst (-1), 1, [], []), (29, .ireturn, 1, [0], [])]),
  ([0, 3, 4], [(30, .aload_n 0, 1, [], []), (31, .aload_n 3, 1, [], []), (32, .aload 4, 2, [], []), (34, .iconst 0, 1, [], []), (35, .invokevirtual 189, 3, [2, 2, 3, 11, 87], [743, 0, 745, 13, 67, 0, 0, 0]), (38, .lstore 5, 2, [], []), (40, .lload 5, 2, [], []), (42, .ldc2_w 193, 3, [281474976710656], [785]), (45, .lcmp, 1, [], []), (46, .ifCond .ne 5, 3, [5, 4], [])]),
  ([], [(49, .iconst 2, 1, [], []), (50, .ireturn, 1, [0], [])]),
  ([5], [(51, .lload 5, 2, [], []), (53, .lconst 0, 1, [], []), (54, .lcmp, 1, [], []), (55, .ifCond .ne 7, 3, [7, 6], [])]),
  ([], [(58, .iconst 0, 1, [], []), (59, .goto 4, 3, [8], [])]),
  ([], [(62, .iconst 1, 1, [], []), (63, .nop, 0, [8], [])]),
  ([], [(63, .ireturn, 1, [0], [])])]
def km_X11_sure : MT := (yX11_sure, cX11_sure, 7, (some .int), kb_X11_sure)
def kb_X11_tell : List (List Nat × List RI) := [
  ([0, 1, 2], [(0, .aload_n 0, 1, [], []), (1, .getfield 14, 3, [0, 2, 11], [214, 0]), (4, .iload_n 2, 1, [], []), (5, .invokevirtual 146, 3, [2, 3, 1, 10, 51], [649, 0, 650, 651, 68, 0, 0, 0]), (8, .astore_n 3, 1, [], []), (9, .aload_n 0, 1, [], []), (10, .getfield 14, 3, [0, 2, 11], [214, 0]), (13, .iload_n 1, 1, [], []), (14, .invokevirtual 91, 3, [2, 1, 1, 10, 49], [468, 0, 469, 470, 68, 0, 0, 0]), (17, .ifCond .eq 7, 3, [2, 1], [])]),
  ([0, 1, 3], [(20, .aload_n 3, 1, [], []), (21, .ifnonnull 5, 3, [3, 2], [])]),
  ([], [(24, .iconst (-1), 1, [], []), (25, .ireturn, 1, [0], [])]),
  ([0, 1, 3], [(26, .aload_n 0, 1, [], []), (27, .getfield 14, 3, [0, 2, 11], [214, 0]), (30, .iload_n 1, 1, [], []), (31, .aload_n 3, 1, [], []), (32, .aload_n 0, 1, [], []), (33, .getfield 14, 3, [0, 2, 11], [214, 0]), (36, .getfield 98, 3, [10, 0, 10], [129, 0]), (39, .invokevirtual 162, 3, [2, 1, 1, 0, 1, 1, 4, 2, 7, 4, 15, 6, 33, 7, 1, 8, 43], [653, 1, 658, 657, 82, 656, 33, 654, 1, 661, 660, 83, 656, 33, 654, 1, 664, 663, 87, 656, 33, 654, 1, 667, 669, 84, 656, 33, 654, 1, 654, 655, 81, 656, 33, 654, 1, 658, 670, 82, 656, 33, 654, 1, 672, 671, 86, 656, 33, 654]), (42, .invokevirtual 195, 3, [2, 1, 2, 10, 59], [795, 0, 796, 797, 68, 0, 0, 0]), (45, .istore 4, 2, [], []), (47, .iload 4, 2, [], []), (49, .aload_n 0, 1, [], []), (50, .getfield 14, 3, [0, 2, 11], [214, 0]), (53, .getfield 84, 3, [9, 0, 10], [127, 0]), (56, .iload_n 1, 1, [], []), (57, .invokestatic 94, 3, [0, 1, 2, 107], [0, 472, 473]), (60, .invokestatic 198, 3, [0, 1, 2, 109], [0, 807, 805]), (63, .ireturn, 1, [0], [])])]
def km_X11_tell : MT := (yX11_tell, cX11_tell, 5, (some .int), kb_X11_tell)
def kb_X11_which : List (List Nat × List RI) := [
  ([0, 1], [(0, .aload_n 0, 1, [], []), (1, .getfield 14, 3, [0, 2, 11], [214, 0]), (4, .iload_n 1, 1, [], []), (5, .invokevirtual 185, 3, [2, 3, 1, 10, 50], [735, 0, 736, 737, 68, 0, 0, 0]), (8, .astore_n 2, 1, [], []), (9, .aload_n 2, 1, [], []), (10, .ifnonnull 5, 3, [2, 1], [])]),
  ([], [(13, .iconst (-1), 1, [], []), (14, .ireturn, 1, [0], [])]),
  ([0, 2], [(15, .bipush (-5), 2, [], []), (17, .istore_n 3, 1, [], []), (18, .lconst 0, 1, [], []), (19, .lstore 4, 2, [], []), (21, .iconst 0, 1, [], []), (22, .istore 6, 2, [], []), (24, .iconst 0, 1, [], []), (25, .istore 7, 2, [], []), (27, .nop, 0, [3], [])]),
  ([0, 2, 3, 4, 6, 7], [(27, .iload 7, 2, [], []), (29, .aload_n 0, 1, [], []), (30, .getfield 14, 3, [0, 2, 11], [214, 0]), (33, .getfield 112, 3, [7, 0, 10], [123, 0]), (36, .if_icmp .ge 86, 3, [11, 4], [])]),
  ([0, 2, 3, 4, 6, 7], [(39, .aload_n 0, 1, [], []), (40, .getfield 14, 3, [0, 2, 11], [214, 0]), (43, .iload 7, 2, [], []), (45, .invokevirtual 146, 3, [2, 3, 1, 10, 51], [649, 0, 650, 651, 68, 0, 0, 0]), (48, .astore 8, 2, [], []), (50, .aload 8, 2, [], []), (52, .ifnull 64, 3, [10, 5], [])]),
  ([0, 2, 3, 4, 6, 7, 8], [(55, .aload_n 0, 1, [], []), (56, .aload_n 2, 1, [], []), (57, .aload 8, 2, [], []), (59, .iconst 0, 1, [], []), (60, .invokevirtual 189, 3, [2, 2, 3, 11, 87], [743, 0, 745, 13, 67, 0, 0, 0]), (63, .lstore 9, 2, [], []), (65, .aload_n 0, 1, [], []), (66, .getfield 14, 3, [0, 2, 11], [214, 0]), (69, .aload 8, 2, [], []), (71, .invokevirtual 166, 3, [2, 1, 1, 10, 56], [677, 0, 678, 679, 68, 0, 0, 0]), (74, .istore 11, 2, [], []), (76, .iload_n 3, 1, [], []), (77, .bipush (-5), 2, [], []), (79, .if_icmp .eq 26, 3, [9, 6], [])]),
  ([0, 2, 3, 4, 6, 7, 9, 11], [(82, .lload 9, 2, [], []), (84, .lload 4, 2, [], []), (86, .lcmp, 1, [], []), (87, .ifCond .gt 18, 3, [9, 7], [])]),
  ([0, 2, 3, 4, 6, 7, 9, 11], [(90, .lload 9, 2, [], []), (92, .lload 4, 2, [], []), (94, .lcmp, 1, [], []), (95, .ifCond .ne 21, 3, [10, 8], [])]),
  ([0, 2, 3, 4, 6, 7, 9, 11], [(98, .iload 11, 2, [], []), (100, .iload 6, 2, [], []), (102, .if_icmp .ge 14, 3, [10, 9], [])]),
  ([0, 2, 7, 9, 11], [(105, .iload 7, 2, [], []), (107, .istore_n 3, 1, [], []), (108, .lload 9, 2, [], []), (110, .lstore 4, 2, [], []), (112, .iload 11, 2, [], []), (114, .istore 6, 2, [], []), (116, .nop, 0, [10], [])]),
  ([0, 2, 3, 4, 6, 7], [(116, .iinc 7 1, 3, [], []), (119, .goto (-92), 3, [3], [])]),
  ([3], [(122, .iload_n 3, 1, [], []), (123, .ireturn, 1, [0], [])])]
def km_X11_which : MT := (yX11_which, cX11_which, 12, (some .int), kb_X11_which)
def kb_X11_worth : List (List Nat × List RI) := [
  ([0, 1, 2, 3, 4, 5], [(0, .aload_n 0, 1, [], []), (1, .getfield 14, 3, [0, 2, 11], [214, 0]), (4, .iload_n 1, 1, [], []), (5, .invokevirtual 185, 3, [2, 3, 1, 10, 50], [735, 0, 736, 737, 68, 0, 0, 0]), (8, .astore 6, 2, [], []), (10, .aload_n 0, 1, [], []), (11, .getfield 14, 3, [0, 2, 11], [214, 0]), (14, .iload_n 2, 1, [], []), (15, .invokevirtual 146, 3, [2, 3, 1, 10, 51], [649, 0, 650, 651, 68, 0, 0, 0]), (18, .astore 7, 2, [], []), (20, .aload 6, 2, [], []), (22, .ifnull 38, 3, [7, 1], [])]),
  ([0, 3, 4, 5, 6, 7], [(25, .aload 7, 2, [], []), (27, .ifnull 33, 3, [7, 2], [])]),
  ([0, 3, 4, 5, 6, 7], [(30, .iload_n 3, 1, [], []), (31, .ifCond .lt 29, 3, [7, 3], [])]),
  ([0, 3, 4, 5, 6, 7], [(34, .iload_n 3, 1, [], []), (35, .bipush 99, 2, [], []), (37, .if_icmp .gt 23, 3, [7, 4], [])]),
  ([0, 3, 4, 5, 6, 7], [(40, .iload 4, 2, [], []), (42, .ifCond .lt 18, 3, [7, 5], [])]),
  ([0, 3, 4, 5, 6, 7], [(45, .iload 4, 2, [], []), (47, .bipush 99, 2, [], []), (49, .if_icmp .gt 11, 3, [7, 6], [])]),
  ([0, 3, 4, 5, 6, 7], [(52, .iload 5, 2, [], []), (54, .invokestatic 201, 3, [0, 1, 1, 106], [0, 739, 740]), (57, .ifCond .ne 7, 3, [8, 7], [])]),
  ([], [(60, .ldc2_w 204, 3, [9223372036854775808], [742]), (63, .lreturn, 1, [], [])]),
  ([0, 3, 4, 5, 6, 7], [(64, .aload_n 0, 1, [], []), (65, .aload 6, 2, [], []), (67, .aload 7, 2, [], []), (69, .iconst 0, 1, [], []), (70, .invokevirtual 189, 3, [2, 2, 3, 11, 87], [743, 0, 745, 13, 67, 0, 0, 0]), (73, .lstore 8, 2, [], []), (75, .iload_n 3, 1, [], []), (76, .i2l, 1, [], []), (77, .lload 8, 2, [], []), (79, .lmul, 1, [], []), (80, .iload 4, 2, [], []), (82, .i2l, 1, [], []), (83, .ldc2_w 193, 3, [281474976710656], [785]), (86, .lload 8, 2, [], []), (88, .lsub, 1, [], []), (89, .lmul, 1, [], []), (90, .lsub, 1, [], []), (91, .aload_n 0, 1, [], []), (92, .getfield 14, 3, [0, 2, 11], [214, 0]), (95, .aload 7, 2, [], []), (97, .invokevirtual 166, 3, [2, 1, 1, 10, 56], [677, 0, 678, 679, 68, 0, 0, 0]), (100, .i2l, 1, [], []), (101, .ldc2_w 193, 3, [281474976710656], [785]), (104, .lmul, 1, [], []), (105, .lsub, 1, [], []), (106, .iload 5, 2, [], []), (108, .invokestatic 206, 3, [0, 2, 2, 94], [0, 782, 783]), (111, .lreturn, 1, [], [])])]
def km_X11_worth : MT := (yX11_worth, cX11_worth, 10, (some .long), kb_X11_worth)
def kb_X11_sit : List (List Nat × List RI) := [
  ([0, 1, 2], [(0, .aload_n 0, 1, [], []), (1, .getfield 14, 3, [0, 2, 11], [214, 0]), (4, .iload_n 1, 1, [], []), (5, .invokevirtual 185, 3, [2, 3, 1, 10, 50], [735, 0, 736, 737, 68, 0, 0, 0]), (8, .astore_n 3, 1, [], []), (9, .aload_n 0, 1, [], []), (10, .getfield 14, 3, [0, 2, 11], [214, 0]), (13, .iload_n 2, 1, [], []), (14, .invokevirtual 146, 3, [2, 3, 1, 10, 51], [649, 0, 650, 651, 68, 0, 0, 0]), (17, .astore 4, 2, [], []), (19, .aload_n 3, 1, [], []), (20, .ifnull 8, 3, [2, 1], [])]),
  ([0, 3, 4], [(23, .aload 4, 2, [], []), (25, .ifnonnull 5, 3, [3, 2], [])]),
  ([], [(28, .iconst (-1), 1, [], []), (29, .ireturn, 1, [0], [])]),
  ([0, 3, 4], [(30, .aload 4, 2, [], []), (32, .aload_n 0, 1, [], []), (33, .getfield 14, 3, [0, 2, 11], [214, 0]), (36, .getfield 98, 3, [10, 0, 10], [129, 0]), (39, .invokevirtual 162, 3, [2, 1, 1, 0, 1, 1, 4, 2, 7, 4, 15, 6, 33, 7, 1, 8, 43], [653, 1, 658, 657, 82, 656, 33, 654, 1, 661, 660, 83, 656, 33, 654, 1, 664, 663, 87, 656, 33, 654, 1, 667, 669, 84, 656, 33, 654, 1, 654, 655, 81, 656, 33, 654, 1, 658, 670, 82, 656, 33, 654, 1, 672, 671, 86, 656, 33, 654]), (42, .istore 5, 2, [], []), (44, .iconst 0, 1, [], []), (45, .istore 6, 2, [], []), (47, .nop, 0, [4], [])]),
  ([0, 3, 5, 6], [(47, .iload 6, 2, [], []), (49, .bipush 6, 2, [], []), (51, .if_icmp .gt 36, 3, [8, 5], [])]),
  ([0, 3, 5, 6], [(54, .aload_n 0, 1, [], []), (55, .aload_n 3, 1, [], []), (56, .iload 5, 2, [], []), (58, .iload 6, 2, [], []), (60, .iadd, 1, [], []), (61, .invokevirtual 210, 3, [2, 0, 2, 11, 90], [820, 0, 822, 16, 67, 0, 0, 0]), (64, .aload_n 0, 1, [], []), (65, .aload_n 0, 1, [], []), (66, .getfield 14, 3, [0, 2, 11], [214, 0]), (69, .getfield 84, 3, [9, 0, 10], [127, 0]), (72, .invokevirtual 214, 3, [2, 1, 1, 11, 92], [828, 0, 830, 18, 67, 0, 0, 0]), (75, .ifCond .ne 6, 3, [7, 6], [])]),
  ([6], [(78, .iload 6, 2, [], []), (80, .ireturn, 1, [0], [])]),
  ([0, 3, 5, 6], [(81, .iinc 6 1, 3, [], []), (84, .goto (-37), 3, [4], [])]),
  ([], [(87, .bipush (-5), 2, [], []), (89, .ireturn, 1, [0], [])])]
def km_X11_sit : MT := (yX11_sit, cX11_sit, 7, (some .int), kb_X11_sit)
def kb_X11_catches : List (List Nat × List RI) := [
  ([0, 1, 2, 3], [(0, .aload_n 0, 1, [], []), (1, .getfield 14, 3, [0, 2, 11], [214, 0]), (4, .iload_n 1, 1, [], []), (5, .invokevirtual 146, 3, [2, 3, 1, 10, 51], [649, 0, 650, 651, 68, 0, 0, 0]), (8, .astore 4, 2, [], []), (10, .aload_n 0, 1, [], []), (11, .getfield 14, 3, [0, 2, 11], [214, 0]), (14, .iload_n 2, 1, [], []), (15, .invokevirtual 146, 3, [2, 3, 1, 10, 51], [649, 0, 650, 651, 68, 0, 0, 0]), (18, .astore 5, 2, [], []), (20, .aload 4, 2, [], []), (22, .ifnull 8, 3, [2, 1], [])]),
  ([0, 3, 4, 5], [(25, .aload 5, 2, [], []), (27, .ifnonnull 5, 3, [3, 2], [])]),
  ([], [(30, .iconst (-1), 1, [], []), (31, .ireturn, 1, [0], [])]),
  ([0, 3, 4, 5], [(32, .iload_n 3, 1, [], []), (33, .ifCond .lt 9, 3, [5, 4], [])]),
  ([0, 3, 4, 5], [(36, .iload_n 3, 1, [], []), (37, .bipush 6, 2, [], []), (39, .if_icmp .le 6, 3, [6, 5], [])]),
  ([], [(42, .bipush (-2), 2, [], []), (44, .ireturn, 1, [0], [])]),
  ([0, 3, 4, 5], [(45, .iload_n 3, 1, [], []), (46, .aload 5, 2, [], []), (48, .aload_n 0, 1, [], []), (49, .getfield 14, 3, [0, 2, 11], [214, 0]), (52, .getfield 98, 3, [10, 0, 10], [129, 0]), (55, .iload_n 3, 1, [], []), (56, .iadd, 1, [], []), (57, .invokevirtual 162, 3, [2, 1, 1, 0, 1, 1, 4, 2, 7, 4, 15, 6, 33, 7, 1, 8, 43], [653, 1, 658, 657, 82, 656, 33, 654, 1, 661, 660, 83, 656, 33, 654, 1, 664, 663, 87, 656, 33, 654, 1, 667, 669, 84, 656, 33, 654, 1, 654, 655, 81, 656, 33, 654, 1, 658, 670, 82, 656, 33, 654, 1, 672, 671, 86, 656, 33, 654]), (60, .iadd, 1, [], []), (61, .aload 4, 2, [], []), (63, .aload_n 0, 1, [], []), (64, .getfield 14, 3, [0, 2, 11], [214, 0]), (67, .getfield 98, 3, [10, 0, 10], [129, 0]), (70, .invokevirtual 162, 3, [2, 1, 1, 0, 1, 1, 4, 2, 7, 4, 15, 6, 33, 7, 1, 8, 43], [653, 1, 658, 657, 82, 656, 33, 654, 1, 661, 660, 83, 656, 33, 654, 1, 664, 663, 87, 656, 33, 654, 1, 667, 669, 84, 656, 33, 654, 1, 654, 655, 81, 656, 33, 654, 1, 658, 670, 82, 656, 33, 654, 1, 672, 671, 86, 656, 33, 654]), (73, .if_icmp .gt 7, 3, [8, 7], [])]),
  ([], [(76, .iconst 1, 1, [], []), (77, .goto 4, 3, [9], [])]),
  ([], [(80, .iconst 0, 1, [], []), (81, .nop, 0, [9], [])]),
  ([], [(81, .ireturn, 1, [0], [])])]
def km_X11_catches : MT := (yX11_catches, cX11_catches, 6, (some .int), kb_X11_catches)
def kb_X11_all : List (List Nat × List RI) := [
  ([0, 1], [(0, .iload_n 1, 1, [], []), (1, .ifCond .lt 8, 3, [2, 1], [])]),
  ([0, 1], [(4, .iload_n 1, 1, [], []), (5, .iconst 1, 1, [], []), (6, .if_icmp .le 5, 3, [3, 2], [])]),
  ([], [(9, .iconst (-1), 1, [], []), (10, .ireturn, 1, [0], [])]),
  ([0, 1], [(11, .iconst 0, 1, [], []), (12, .istore_n 2, 1, [], []), (13, .iconst 0, 1, [], []), (14, .istore_n 3, 1, [], []), (15, .iconst 0, 1, [], []), (16, .istore 4, 2, [], []), (18, .nop, 0, [4], [])]),
  ([0, 1, 2, 3, 4], [(18, .iload 4, 2, [], []), (20, .aload_n 0, 1, [], []), (21, .getfield 14, 3, [0, 2, 11], [214, 0]), (24, .getfield 112, 3, [7, 0, 10], [123, 0]), (27, .if_icmp .ge 54, 3, [8, 5], [])]),
  ([0, 1, 2, 3, 4], [(30, .aload_n 0, 1, [], []), (31, .getfield 14, 3, [0, 2, 11], [214, 0]), (34, .iload 4, 2, [], []), (36, .invokevirtual 146, 3, [2, 3, 1, 10, 51], [649, 0, 650, 651, 68, 0, 0, 0]), (39, .astore 5, 2, [], []), (41, .aload 5, 2, [], []), (43, .ifnull 32, 3, [7, 6], [])]),
  ([0, 1, 2, 3, 4, 5], [(46, .iload_n 2, 1, [], []), (47, .aload 5, 2, [], []), (49, .aload_n 0, 1, [], []), (50, .getfield 14, 3, [0, 2, 11], [214, 0]), (53, .getfield 98, 3, [10, 0, 10], [129, 0]), (56, .invokevirtual 162, 3, [2, 1, 1, 0, 1, 1, 4, 2, 7, 4, 15, 6, 33, 7, 1, 8, 43], [653, 1, 658, 657, 82, 656, 33, 654, 1, 661, 660, 83, 656, 33, 654, 1, 664, 663, 87, 656, 33, 654, 1, 667, 669, 84, 656, 33, 654, 1, 654, 655, 81, 656, 33, 654, 1, 658, 670, 82, 656, 33, 654, 1, 672, 671, 86, 656, 33, 654]), (59, .invokestatic 217, 3, [5], [844, 354, 76, 355]), (62, .istore_n 2, 1, [], []), (63, .iload_n 3, 1, [], []), (64, .aload_n 0, 1, [], []), (65, .getfield 14, 3, [0, 2, 11], [214, 0]), (68, .aload 5, 2, [], []), (70, .invokevirtual 166, 3, [2, 1, 1, 10, 56], [677, 0, 678, 679, 68, 0, 0, 0]), (73, .iadd, 1, [], []), (74, .istore_n 3, 1, [], []), (75, .nop, 0, [7], [])]),
  ([0, 1, 2, 3, 4], [(75, .iinc 4 1, 3, [], []), (78, .goto (-60), 3, [4], [])]),
  ([1, 2, 3], [(81, .iload_n 1, 1, [], []), (82, .ifCond .ne 7, 3, [10, 9], [])]),
  ([2], [(85, .iload_n 2, 1, [], []), (86, .goto 4, 3, [11], [])]),
  ([3], [(89, .iload_n 3, 1, [], []), (90, .nop, 0, [11], [])]),
  ([], [(90, .ireturn, 1, [0], [])])]
def km_X11_all : MT := (yX11_all, cX11_all, 6, (some .int), kb_X11_all)
def kb_X11_begin : List (List Nat × List RI) := [
  ([0, 1, 2, 3], [(0, .aload_n 0, 1, [], []), (1, .getfield 14, 3, [0, 2, 11], [214, 0]), (4, .iload_n 1, 1, [], []), (5, .invokevirtual 185, 3, [2, 3, 1, 10, 50], [735, 0, 736, 737, 68, 0, 0, 0]), (8, .astore 4, 2, [], []), (10, .aload_n 0, 1, [], []), (11, .getfield 14, 3, [0, 2, 11], [214, 0]), (14, .iload_n 2, 1, [], []), (15, .invokevirtual 146, 3, [2, 3, 1, 10, 51], [649, 0, 650, 651, 68, 0, 0, 0]), (18, .astore 5, 2, [], []), (20, .aload 4, 2, [], []), (22, .ifnull 17, 3, [4, 1], [])]),
  ([0, 3, 4, 5], [(25, .aload 5, 2, [], []), (27, .ifnull 12, 3, [4, 2], [])]),
  ([0, 3, 4, 5], [(30, .iload_n 3, 1, [], []), (31, .ifCond .lt 8, 3, [4, 3], [])]),
  ([0, 3, 4, 5], [(34, .iload_n 3, 1, [], []), (35, .iconst 1, 1, [], []), (36, .if_icmp .le 5, 3, [5, 4], [])]),
  ([], [(39, .iconst (-1), 1, [], []), (40, .ireturn, 1, [0], [])]),
  ([0, 3, 4, 5], [(41, .aload_n 0, 1, [], []), (42, .aload 4, 2, [], []), (44, .aload 5, 2, [], []), (46, .aload_n 0, 1, [], []), (47, .getfield 14, 3, [0, 2, 11], [214, 0]), (50, .getfield 98, 3, [10, 0, 10], [129, 0]), (53, .invokevirtual 162, 3, [2, 1, 1, 0, 1, 1, 4, 2, 7, 4, 15, 6, 33, 7, 1, 8, 43], [653, 1, 658, 657, 82, 656, 33, 654, 1, 661, 660, 83, 656, 33, 654, 1, 664, 663, 87, 656, 33, 654, 1, 667, 669, 84, 656, 33, 654, 1, 654, 655, 81, 656, 33, 654, 1, 658, 670, 82, 656, 33, 654, 1, 672, 671, 86, 656, 33, 654]), (56, .invokevirtual 210, 3, [2, 0, 2, 11, 90], [820, 0, 822, 16, 67, 0, 0, 0]), (59, .iconst 0, 1, [], []), (60, .istore 6, 2, [], []), (62, .bipush (-5), 2, [], []), (64, .istore 7, 2, [], []), (66, .aload_n 0, 1, [], []), (67, .getfield 14, 3, [0, 2, 11], [214, 0]), (70, .invokevirtual 222, 3, [2, 1, 0, 10, 53], [759, 0, 760, 761, 68, 0, 0, 0]), (73, .iconst 1, 1, [], []), (74, .isub, 1, [], []), (75, .istore 8, 2, [], []), (77, .nop, 0, [6], [])]),
  ([0, 3, 6, 7, 8], [(77, .iload 8, 2, [], []), (79, .ifCond .lt 25, 3, [10, 7], [])]),
  ([0, 3, 6, 7, 8], [(82, .aload_n 0, 1, [], []), (83, .iload 8, 2, [], []), (85, .invokevirtual 214, 3, [2, 1, 1, 11, 92], [828, 0, 830, 18, 67, 0, 0, 0]), (88, .ifCond .ne 10, 3, [9, 8], [])]),
  ([0, 3, 6, 8], [(91, .iinc 6 1, 3, [], []), (94, .iload 8, 2, [], []), (96, .istore 7, 2, [], []), (98, .nop, 0, [9], [])]),
  ([0, 3, 6, 7, 8], [(98, .iinc 8 (-1), 3, [], []), (101, .goto (-24), 3, [6], [])]),
  ([3, 6, 7], [(104, .iload_n 3, 1, [], []), (105, .ifCond .ne 8, 3, [12, 11], [])]),
  ([6], [(108, .iload 6, 2, [], []), (110, .goto 5, 3, [13], [])]),
  ([7], [(113, .iload 7, 2, [], []), (115, .nop, 0, [13], [])]),
  ([], [(115, .ireturn, 1, [0], [])])]
def km_X11_begin : MT := (yX11_begin, cX11_begin, 9, (some .int), kb_X11_begin)
def kb_X11_heed : List (List Nat × List RI) := [
  ([0, 1, 2], [(0, .iload_n 1, 1, [], []), (1, .iconst (-1), 1, [], []), (2, .if_icmp .eq 16, 3, [3, 1], [])]),
  ([0, 1, 2], [(5, .aload_n 0, 1, [], []), (6, .getfield 14, 3, [0, 2, 11], [214, 0]), (9, .iload_n 1, 1, [], []), (10, .invokevirtual 91, 3, [2, 1, 1, 10, 49], [468, 0, 469, 470, 68, 0, 0, 0]), (13, .ifCond .ne 5, 3, [3, 2], [])]),
  ([], [(16, .iconst (-1), 1, [], []), (17, .ireturn, 1, [0], [])]),
  ([0, 1, 2], [(18, .iload_n 1, 1, [], []), (19, .iconst (-1), 1, [], []), (20, .if_icmp .eq 13, 3, [6, 4], [])]),
  ([0, 1, 2], [(23, .iload_n 2, 1, [], []), (24, .invokestatic 77, 3, [0, 1, 1, 104], [0, 458, 459]), (27, .ifCond .ne 6, 3, [6, 5], [])]),
  ([], [(30, .bipush (-2), 2, [], []), (32, .ireturn, 1, [0], [])]),
  ([0, 1, 2], [(33, .aload_n 0, 1, [], []), (34, .getfield 14, 3, [0, 2, 11], [214, 0]), (37, .iload_n 1, 1, [], []), (38, .putfield 225, 3, [11, 0, 10], [131, 0]), (41, .aload_n 0, 1, [], []), (42, .getfield 14, 3, [0, 2, 11], [214, 0]), (45, .iload_n 1, 1, [], []), (46, .iconst (-1), 1, [], []), (47, .if_icmp .ne 7, 3, [8, 7], [])]),
  ([], [(50, .iconst 0, 1, [], []), (51, .goto 4, 3, [9], [])]),
  ([2], [(54, .iload_n 2, 1, [], []), (55, .nop, 0, [9], [])]),
  ([], [(55, .putfield 228, 3, [12, 0, 10], [133, 0]), (58, .iconst 1, 1, [], []), (59, .ireturn, 1, [0], [])])]
def km_X11_heed : MT := (yX11_heed, cX11_heed, 3, (some .int), kb_X11_heed)
def kb_X11_self : List (List Nat × List RI) := [
  ([0, 1, 2, 3, 4], [(0, .aload_n 0, 1, [], []), (1, .getfield 14, 3, [0, 2, 11], [214, 0]), (4, .iload_n 1, 1, [], []), (5, .invokevirtual 185, 3, [2, 3, 1, 10, 50], [735, 0, 736, 737, 68, 0, 0, 0]), (8, .astore 5, 2, [], []), (10, .aload_n 0, 1, [], []), (11, .getfield 14, 3, [0, 2, 11], [214, 0]), (14, .iload_n 2, 1, [], []), (15, .invokevirtual 146, 3, [2, 3, 1, 10, 51], [649, 0, 650, 651, 68, 0, 0, 0]), (18, .astore 6, 2, [], []), (20, .aload 5, 2, [], []), (22, .ifnull 25, 3, [5, 1], [])]),
  ([0, 3, 4, 5, 6], [(25, .aload 6, 2, [], []), (27, .ifnull 20, 3, [5, 2], [])]),
  ([0, 3, 4, 5, 6], [(30, .iload_n 3, 1, [], []), (31, .ifCond .lt 16, 3, [5, 3], [])]),
  ([0, 3, 4, 5, 6], [(34, .iload_n 3, 1, [], []), (35, .iconst 2, 1, [], []), (36, .if_icmp .gt 11, 3, [5, 4], [])]),
  ([0, 3, 4, 5, 6], [(39, .iload 4, 2, [], []), (41, .invokestatic 201, 3, [0, 1, 1, 106], [0, 739, 740]), (44, .ifCond .ne 7, 3, [6, 5], [])]),
  ([], [(47, .ldc2_w 204, 3, [9223372036854775808], [742]), (50, .lreturn, 1, [], [])]),
  ([0, 3, 4, 5, 6], [(51, .aload_n 0, 1, [], []), (52, .aload 5, 2, [], []), (54, .aload 6, 2, [], []), (56, .iload_n 3, 1, [], []), (57, .invokevirtual 189, 3, [2, 2, 3, 11, 87], [743, 0, 745, 13, 67, 0, 0, 0]), (60, .iload 4, 2, [], []), (62, .invokestatic 206, 3, [0, 2, 2, 94], [0, 782, 783]), (65, .lreturn, 1, [], [])])]
def km_X11_self : MT := (yX11_self, cX11_self, 7, (some .long), kb_X11_self)
def kb_X11_back : List (List Nat × List RI) := [
  ([0, 1, 2, 3], [(0, .aload_n 0, 1, [], []), (1, .getfield 14, 3, [0, 2, 11], [214, 0]), (4, .iload_n 1, 1, [], []), (5, .invokevirtual 91, 3, [2, 1, 1, 10, 49], [468, 0, 469, 470, 68, 0, 0, 0]), (8, .ifCond .ne 5, 3, [2, 1], [])]),
  ([], [(11, .iconst (-1), 1, [], []), (12, .ireturn, 1, [0], [])]),
  ([0, 1, 2, 3], [(13, .iload_n 2, 1, [], []), (14, .invokestatic 77, 3, [0, 1, 1, 104], [0, 458, 459]), (17, .ifCond .eq 13, 3, [5, 3], [])]),
  ([0, 1, 2, 3], [(20, .iload_n 3, 1, [], []), (21, .ifCond .lt 9, 3, [5, 4], [])]),
  ([0, 1, 2, 3], [(24, .iload_n 3, 1, [], []), (25, .bipush 6, 2, [], []), (27, .if_icmp .le 6, 3, [6, 5], [])]),
  ([], [(30, .bipush (-2), 2, [], []), (32, .ireturn, 1, [0], [])]),
  ([0, 1, 2, 3], [(33, .aload_n 0, 1, [], []), (34, .getfield 14, 3, [0, 2, 11], [214, 0]), (37, .iload_n 1, 1, [], []), (38, .iload_n 3, 1, [], []), (39, .invokevirtual 195, 3, [2, 1, 2, 10, 59], [795, 0, 796, 797, 68, 0, 0, 0]), (42, .istore 4, 2, [], []), (44, .iconst 0, 1, [], []), (45, .istore 5, 2, [], []), (47, .iconst 0, 1, [], []), (48, .istore 6, 2, [], []), (50, .nop, 0, [7], [])]),
  ([2, 4, 5, 6], [(50, .iload 6, 2, [], []), (52, .iconst 4, 1, [], []), (53, .if_icmp .ge 33, 3, [11, 8], [])]),
  ([2, 4, 5, 6], [(56, .iload 4, 2, [], []), (58, .iload 6, 2, [], []), (60, .invokestatic 198, 3, [0, 1, 2, 109], [0, 807, 805]), (63, .iload_n 2, 1, [], []), (64, .ishr, 1, [], []), (65, .iconst 1, 1, [], []), (66, .iand, 1, [], []), (67, .iconst 1, 1, [], []), (68, .if_icmp .ne 12, 3, [10, 9], [])]),
  ([2, 4, 5, 6], [(71, .iload 5, 2, [], []), (73, .iconst 1, 1, [], []), (74, .iload 6, 2, [], []), (76, .ishl, 1, [], []), (77, .ior, 1, [], []), (78, .istore 5, 2, [], []), (80, .nop, 0, [10], [])]),
  ([2, 4, 5, 6], [(80, .iinc 6 1, 3, [], []), (83, .goto (-33), 3, [7], [])]),
  ([5], [(86, .iload 5, 2, [], []), (88, .ireturn, 1, [0], [])])]
def km_X11_back : MT := (yX11_back, cX11_back, 7, (some .int), kb_X11_back)
def kb_X11_partsSo : List (List Nat × List RI) := [
  ([0, 1, 2, 3], [(0, .aload_n 2, 1, [], []), (1, .aload_n 0, 1, [], []), (2, .getfield 14, 3, [0, 2, 11], [214, 0]), (5, .getfield 98, 3, [10, 0, 10], [129, 0]), (8, .invokevirtual 162, 3, [2, 1, 1, 0, 1, 1, 4, 2, 7, 4, 15, 6, 33, 7, 1, 8, 43], [653, 1, 658, 657, 82, 656, 33, 654, 1, 661, 660, 83, 656, 33, 654, 1, 664, 663, 87, 656, 33, 654, 1, 667, 669, 84, 656, 33, 654, 1, 654, 655, 81, 656, 33, 654, 1, 658, 670, 82, 656, 33, 654, 1, 672, 671, 86, 656, 33, 654]), (11, .istore 4, 2, [], []), (13, .iconst 0, 1, [], []), (14, .istore 5, 2, [], []), (16, .nop, 0, [1], [])]),
  ([0, 1, 3, 4, 5], [(16, .iload 5, 2, [], []), (18, .aload_n 0, 1, [], []), (19, .getfield 37, 3, [4, 2, 11], [218, 0]), (22, .arraylength, 1, [], []), (23, .if_icmp .ge 27, 3, [3, 2], [])]),
  ([0, 1, 3, 4, 5], [(26, .aload_n 0, 1, [], []), (27, .getfield 37, 3, [4, 2, 11], [218, 0]), (30, .iload 5, 2, [], []), (32, .aload_n 0, 1, [], []), (33, .getfield 14, 3, [0, 2, 11], [214, 0]), (36, .iload 5, 2, [], []), (38, .iload 4, 2, [], []), (40, .invokevirtual 231, 3, [2, 2, 2, 10, 60], [747, 0, 748, 749, 68, 0, 0, 0]), (43, .lastore, 1, [], []), (44, .iinc 5 1, 3, [], []), (47, .goto (-31), 3, [1], [])]),
  ([0, 1, 3, 4], [(50, .lconst 0, 1, [], []), (51, .lstore 5, 2, [], []), (53, .iconst 0, 1, [], []), (54, .istore 7, 2, [], []), (56, .nop, 0, [4], [])]),
  ([0, 1, 3, 4, 5, 7], [(56, .iload 7, 2, [], []), (58, .aload_n 0, 1, [], []), (59, .getfield 14, 3, [0, 2, 11], [214, 0]), (62, .invokevirtual 222, 3, [2, 1, 0, 10, 53], [759, 0, 760, 761, 68, 0, 0, 0]), (65, .if_icmp .ge 52, 3, [9, 5], [])]),
  ([0, 1, 3, 4, 5, 7], [(68, .aload_n 0, 1, [], []), (69, .iload 7, 2, [], []), (71, .invokevirtual 234, 3, [2, 2, 1, 11, 88], [763, 0, 765, 14, 67, 0, 0, 0]), (74, .lstore 8, 2, [], []), (76, .lload 8, 2, [], []), (78, .lconst 0, 1, [], []), (79, .lcmp, 1, [], []), (80, .ifCond .eq 31, 3, [8, 6], [])]),
  ([0, 1, 3, 4, 5, 7, 8], [(83, .aload_n 0, 1, [], []), (84, .aload_n 1, 1, [], []), (85, .iload 7, 2, [], []), (87, .aload_n 0, 1, [], []), (88, .getfield 14, 3, [0, 2, 11], [214, 0]), (91, .getfield 98, 3, [10, 0, 10], [129, 0]), (94, .iload 4, 2, [], []), (96, .iadd, 1, [], []), (97, .iload_n 3, 1, [], []), (98, .invokevirtual 238, 3, [2, 1, 4, 11, 89], [768, 0, 770, 15, 67, 0, 0, 0]), (101, .ifCond .eq 10, 3, [8, 7], [])]),
  ([0, 1, 3, 4, 5, 7, 8], [(104, .lload 5, 2, [], []), (106, .lload 8, 2, [], []), (108, .ladd, 1, [], []), (109, .lstore 5, 2, [], []), (111, .nop, 0, [8], [])]),
  ([0, 1, 3, 4, 5, 7], [(111, .iinc 7 1, 3, [], []), (114, .goto (-58), 3, [4], [])]),
  ([5], [(117, .lload 5, 2, [], []), (119, .lreturn, 1, [], [])])]
def km_X11_partsSo : MT := (yX11_partsSo, cX11_partsSo, 10, (some .long), kb_X11_partsSo)
def kb_X11_partsOfRow : List (List Nat × List RI) := [
  ([0, 1], [(0, .lconst 1, 1, [], []), (1, .lstore_n 2, 1, [], []), (2, .iconst 0, 1, [], []), (3, .istore 4, 2, [], []), (5, .nop, 0, [1], [])]),
  ([0, 1, 2, 4], [(5, .iload 4, 2, [], []), (7, .aload_n 0, 1, [], []), (8, .getfield 37, 3, [4, 2, 11], [218, 0]), (11, .arraylength, 1, [], []), (12, .if_icmp .ge 28, 3, [3, 2], [])]),
  ([0, 1, 2, 4], [(15, .lload_n 2, 1, [], []), (16, .aload_n 0, 1, [], []), (17, .getfield 37, 3, [4, 2, 11], [218, 0]), (20, .iload 4, 2, [], []), (22, .laload, 1, [], []), (23, .iload_n 1, 1, [], []), (24, .iload 4, 2, [], []), (26, .invokestatic 94, 3, [0, 1, 2, 107], [0, 472, 473]), (29, .invokestatic 242, 3, [0, 2, 2, 61], [0, 767, 754]), (32, .lmul, 1, [], []), (33, .lstore_n 2, 1, [], []), (34, .iinc 4 1, 3, [], []), (37, .goto (-32), 3, [1], [])]),
  ([2], [(40, .lload_n 2, 1, [], []), (41, .lreturn, 1, [], [])])]
def km_X11_partsOfRow : MT := (yX11_partsOfRow, cX11_partsOfRow, 5, (some .long), kb_X11_partsOfRow)
def kb_X11_isSo : List (List Nat × List RI) := [
  ([0, 1, 2, 3, 4], [(0, .iload 4, 2, [], []), (2, .iconst 1, 1, [], []), (3, .if_icmp .eq 21, 3, [3, 1], [])]),
  ([0, 1, 2, 3, 4], [(6, .aload_n 1, 1, [], []), (7, .aload_n 0, 1, [], []), (8, .getfield 14, 3, [0, 2, 11], [214, 0]), (11, .iload_n 2, 1, [], []), (12, .iload_n 3, 1, [], []), (13, .invokevirtual 245, 3, [2, 1, 2, 10, 55], [772, 0, 773, 774, 68, 0, 0, 0]), (16, .invokevirtual 248, 3, [2, 1, 1, 3, 11], [776, 0, 488, 489, 78, 0, 0, 0]), (19, .ifCond .ne 5, 3, [3, 2], [])]),
  ([], [(22, .iconst 0, 1, [], []), (23, .ireturn, 1, [1], [])]),
  ([0, 1, 2, 3, 4], [(24, .iload 4, 2, [], []), (26, .ifCond .eq 26, 3, [5, 4], [])]),
  ([0, 1, 2, 3], [(29, .aload_n 1, 1, [], []), (30, .aload_n 0, 1, [], []), (31, .getfield 14, 3, [0, 2, 11], [214, 0]), (34, .aload_n 0, 1, [], []), (35, .getfield 14, 3, [0, 2, 11], [214, 0]), (38, .iload_n 2, 1, [], []), (39, .invokevirtual 251, 3, [2, 1, 1, 10, 54], [777, 0, 778, 779, 68, 0, 0, 0]), (42, .iload_n 3, 1, [], []), (43, .invokevirtual 245, 3, [2, 1, 2, 10, 55], [772, 0, 773, 774, 68, 0, 0, 0]), (46, .invokevirtual 248, 3, [2, 1, 1, 3, 11], [776, 0, 488, 489, 78, 0, 0, 0]), (49, .ifCond .eq 7, 3, [6, 5], [])]),
  ([], [(52, .iconst 1, 1, [], []), (53, .goto 4, 3, [7], [])]),
  ([], [(56, .iconst 0, 1, [], []), (57, .nop, 0, [7], [])]),
  ([], [(57, .ireturn, 1, [1], [])])]
def km_X11_isSo : MT := (yX11_isSo, cX11_isSo, 5, (some .boolean), kb_X11_isSo)
def kb_X11_markFails : List (List Nat × List RI) := [
  ([0, 1, 2], [(0, .iconst 0, 1, [], []), (1, .istore_n 3, 1, [], []), (2, .nop, 0, [1], [])]),
  ([0, 1, 2, 3], [(2, .iload_n 3, 1, [], []), (3, .aload_n 0, 1, [], []), (4, .getfield 14, 3, [0, 2, 11], [214, 0]), (7, .invokevirtual 222, 3, [2, 1, 0, 10, 53], [759, 0, 760, 761, 68, 0, 0, 0]), (10, .if_icmp .ge 53, 3, [7, 2], [])]),
  ([0, 1, 2, 3], [(13, .iload_n 3, 1, [], []), (14, .aload_n 0, 1, [], []), (15, .getfield 41, 3, [5, 2, 11], [219, 0]), (18, .arraylength, 1, [], []), (19, .if_icmp .ge 44, 3, [7, 3], [])]),
  ([0, 1, 2, 3], [(22, .aload_n 0, 1, [], []), (23, .getfield 41, 3, [5, 2, 11], [219, 0]), (26, .iload_n 3, 1, [], []), (27, .aload_n 1, 1, [], []), (28, .aload_n 0, 1, [], []), (29, .getfield 14, 3, [0, 2, 11], [214, 0]), (32, .iload_n 3, 1, [], []), (33, .aload_n 0, 1, [], []), (34, .getfield 14, 3, [0, 2, 11], [214, 0]), (37, .getfield 98, 3, [10, 0, 10], [129, 0]), (40, .iload_n 2, 1, [], []), (41, .iadd, 1, [], []), (42, .invokevirtual 245, 3, [2, 1, 2, 10, 55], [772, 0, 773, 774, 68, 0, 0, 0]), (45, .invokevirtual 248, 3, [2, 1, 1, 3, 11], [776, 0, 488, 489, 78, 0, 0, 0]), (48, .ifCond .ne 7, 3, [5, 4], [])]),
  ([0, 1, 2, 3], [(51, .iconst 1, 1, [], []), (52, .goto 4, 3, [6], [])]),
  ([0, 1, 2, 3], [(55, .iconst 0, 1, [], []), (56, .nop, 0, [6], [])]),
  ([0, 1, 2, 3], [(56, .bastore, 1, [0], []), (57, .iinc 3 1, 3, [], []), (60, .goto (-58), 3, [1], [])]),
  ([0, 2], [(63, .iconst 0, 1, [], []), (64, .istore_n 3, 1, [], []), (65, .nop, 0, [8], [])]),
  ([0, 2, 3], [(65, .iload_n 3, 1, [], []), (66, .aload_n 0, 1, [], []), (67, .getfield 14, 3, [0, 2, 11], [214, 0]), (70, .getfield 81, 3, [8, 0, 10], [125, 0]), (73, .if_icmp .ge 23, 3, [10, 9], [])]),
  ([0, 2, 3], [(76, .aload_n 0, 1, [], []), (77, .iload_n 3, 1, [], []), (78, .aload_n 0, 1, [], []), (79, .getfield 14, 3, [0, 2, 11], [214, 0]), (82, .iload_n 3, 1, [], []), (83, .iload_n 2, 1, [], []), (84, .invokevirtual 195, 3, [2, 1, 2, 10, 59], [795, 0, 796, 797, 68, 0, 0, 0]), (87, .invokevirtual 254, 3, [2, 0, 2, 11, 91], [824, 0, 826, 17, 67, 0, 0, 0]), (90, .iinc 3 1, 3, [], []), (93, .goto (-28), 3, [8], [])]),
  ([], [(96, .return_, 1, [], [])])]
def km_X11_markFails : MT := (yX11_markFails, cX11_markFails, 4, none, kb_X11_markFails)
def kb_X11_carryBack : List (List Nat × List RI) := [
  ([0, 1, 2], [(0, .iconst 0, 1, [], []), (1, .istore_n 3, 1, [], []), (2, .nop, 0, [1], [])]),
  ([0, 1, 2, 3], [(2, .iload_n 3, 1, [], []), (3, .aload_n 0, 1, [], []), (4, .getfield 14, 3, [0, 2, 11], [214, 0]), (7, .invokevirtual 222, 3, [2, 1, 0, 10, 53], [759, 0, 760, 761, 68, 0, 0, 0]), (10, .if_icmp .ge 105, 3, [16, 2], [])]),
  ([0, 1, 2, 3], [(13, .iload_n 3, 1, [], []), (14, .iload_n 1, 1, [], []), (15, .invokestatic 94, 3, [0, 1, 2, 107], [0, 472, 473]), (18, .ifCond .ne 91, 3, [15, 3], [])]),
  ([0, 1, 2, 3], [(21, .iconst 0, 1, [], []), (22, .istore 4, 2, [], []), (24, .iconst 0, 1, [], []), (25, .istore 5, 2, [], []), (27, .nop, 0, [4], [])]),
  ([0, 1, 2, 3, 4, 5], [(27, .iload 5, 2, [], []), (29, .iconst 4, 1, [], []), (30, .if_icmp .ge 36, 3, [9, 5], [])]),
  ([0, 1, 2, 3, 4, 5], [(33, .iload 4, 2, [], []), (35, .aload_n 0, 1, [], []), (36, .iload_n 3, 1, [], []), (37, .iload_n 1, 1, [], []), (38, .iload 5, 2, [], []), (40, .invokestatic 87, 3, [0, 1, 3, 108], [0, 461, 462]), (43, .invokevirtual 214, 3, [2, 1, 1, 11, 92], [828, 0, 830, 18, 67, 0, 0, 0]), (46, .ifCond .eq 10, 3, [7, 6], [])]),
  ([0, 1, 2, 3, 5], [(49, .iconst 1, 1, [], []), (50, .iload 5, 2, [], []), (52, .ishl, 1, [], []), (53, .goto 4, 3, [8], [])]),
  ([0, 1, 2, 3, 5], [(56, .iconst 0, 1, [], []), (57, .nop, 0, [8], [])]),
  ([0, 1, 2, 3, 5], [(57, .ior, 1, [], []), (58, .istore 4, 2, [], []), (60, .iinc 5 1, 3, [], []), (63, .goto (-36), 3, [4], [])]),
  ([0, 1, 2, 3, 4], [(66, .iconst 0, 1, [], []), (67, .istore 5, 2, [], []), (69, .nop, 0, [10], [])]),
  ([0, 1, 2, 3, 4, 5], [(69, .iload 5, 2, [], []), (71, .iconst 4, 1, [], []), (72, .if_icmp .ge 37, 3, [15, 11], [])]),
  ([0, 1, 2, 3, 4, 5], [(75, .aload_n 0, 1, [], []), (76, .iload_n 3, 1, [], []), (77, .iload_n 1, 1, [], []), (78, .iload 5, 2, [], []), (80, .invokestatic 87, 3, [0, 1, 3, 108], [0, 461, 462]), (83, .iload_n 2, 1, [], []), (84, .iload 5, 2, [], []), (86, .invokestatic 198, 3, [0, 1, 2, 109], [0, 807, 805]), (89, .iload 4, 2, [], []), (91, .iand, 1, [], []), (92, .ifCond .eq 7, 3, [13, 12], [])]),
  ([0, 1, 2, 3, 4, 5], [(95, .iconst 1, 1, [], []), (96, .goto 4, 3, [14], [])]),
  ([0, 1, 2, 3, 4, 5], [(99, .iconst 0, 1, [], []), (100, .nop, 0, [14], [])]),
  ([0, 1, 2, 3, 4, 5], [(100, .invokevirtual 258, 3, [2, 0, 2, 11, 93], [832, 0, 834, 19, 67, 0, 0, 0]), (103, .iinc 5 1, 3, [], []), (106, .goto (-37), 3, [10], [])]),
  ([0, 1, 2, 3], [(109, .iinc 3 1, 3, [], []), (112, .goto (-110), 3, [1], [])]),
  ([], [(115, .return_, 1, [], [])])]
def km_X11_carryBack : MT := (yX11_carryBack, cX11_carryBack, 6, none, kb_X11_carryBack)
def kb_X11_failsFrom : List (List Nat × List RI) := [
  ([0, 1], [(0, .iload_n 1, 1, [], []), (1, .ifCond .lt 25, 3, [4, 1], [])]),
  ([0, 1], [(4, .iload_n 1, 1, [], []), (5, .aload_n 0, 1, [], []), (6, .getfield 41, 3, [5, 2, 11], [219, 0]), (9, .arraylength, 1, [], []), (10, .if_icmp .ge 16, 3, [4, 2], [])]),
  ([0, 1], [(13, .aload_n 0, 1, [], []), (14, .getfield 41, 3, [5, 2, 11], [219, 0]), (17, .iload_n 1, 1, [], []), (18, .baload, 1, [], []), (19, .ifCond .eq 7, 3, [4, 3], [])]),
  ([], [(22, .iconst 1, 1, [], []), (23, .goto 4, 3, [5], [])]),
  ([], [(26, .iconst 0, 1, [], []), (27, .nop, 0, [5], [])]),
  ([], [(27, .ireturn, 1, [1], [])])]
def km_X11_failsFrom : MT := (yX11_failsFrom, cX11_failsFrom, 2, (some .boolean), kb_X11_failsFrom)
def kb_X11_setFails : List (List Nat × List RI) := [
  ([0, 1, 2], [(0, .iload_n 1, 1, [], []), (1, .ifCond .lt 19, 3, [3, 1], [])]),
  ([0, 1, 2], [(4, .iload_n 1, 1, [], []), (5, .aload_n 0, 1, [], []), (6, .getfield 41, 3, [5, 2, 11], [219, 0]), (9, .arraylength, 1, [], []), (10, .if_icmp .ge 10, 3, [3, 2], [])]),
  ([0, 1, 2], [(13, .aload_n 0, 1, [], []), (14, .getfield 41, 3, [5, 2, 11], [219, 0]), (17, .iload_n 1, 1, [], []), (18, .iload_n 2, 1, [], []), (19, .bastore, 1, [0], []), (20, .nop, 0, [3], [])]),
  ([], [(20, .return_, 1, [], [])])]
def km_X11_setFails : MT := (yX11_setFails, cX11_setFails, 3, none, kb_X11_setFails)
def kb_X11_partOf : List (List Nat × List RI) := [
  ([0, 2], [(0, .lload_n 0, 1, [], []), (1, .lstore_n 3, 1, [], []), (2, .ldc2_w 193, 3, [281474976710656], [785]), (5, .lstore 5, 2, [], []), (7, .iconst 0, 1, [], []), (8, .istore 7, 2, [], []), (10, .nop, 0, [1], [])]),
  ([2, 3, 5, 7], [(10, .iload 7, 2, [], []), (12, .bipush 48, 2, [], []), (14, .if_icmp .ge 33, 3, [4, 2], [])]),
  ([2, 3, 5, 7], [(17, .lload_n 3, 1, [], []), (18, .ldc2_w 262, 3, [2], [786]), (21, .lrem, 1, [], []), (22, .lconst 0, 1, [], []), (23, .lcmp, 1, [], []), (24, .ifCond .ne 23, 3, [4, 3], [])]),
  ([2, 3, 5, 7], [(27, .lload_n 3, 1, [], []), (28, .ldc2_w 262, 3, [2], [786]), (31, .ldiv, 1, [], []), (32, .lstore_n 3, 1, [], []), (33, .lload 5, 2, [], []), (35, .ldc2_w 262, 3, [2], [786]), (38, .ldiv, 1, [], []), (39, .lstore 5, 2, [], []), (41, .iinc 7 1, 3, [], []), (44, .goto (-34), 3, [1], [])]),
  ([2, 3, 5], [(47, .iload_n 2, 1, [], []), (48, .ifCond .ne 7, 3, [6, 5], [])]),
  ([3], [(51, .lload_n 3, 1, [], []), (52, .goto 5, 3, [7], [])]),
  ([5], [(55, .lload 5, 2, [], []), (57, .nop, 0, [7], [])]),
  ([], [(57, .lreturn, 1, [], [])])]
def km_X11_partOf : MT := (yX11_partOf, cX11_partOf, 8, (some .long), kb_X11_partOf)
def kb_X11_row : List (List Nat × List RI) := [
  ([0, 1], [(0, .iload_n 1, 1, [], []), (1, .iconst (-1), 1, [], []), (2, .if_icmp .ne 21, 3, [2, 1], [])]),
  ([0], [(5, .aload_n 0, 1, [], []), (6, .getfield 14, 3, [0, 2, 11], [214, 0]), (9, .iconst 0, 1, [], []), (10, .putfield 264, 3, [13, 0, 10], [135, 0]), (13, .aload_n 0, 1, [], []), (14, .getfield 14, 3, [0, 2, 11], [214, 0]), (17, .iconst 0, 1, [], []), (18, .putfield 267, 3, [14, 0, 10], [137, 0]), (21, .iconst 0, 1, [], []), (22, .ireturn, 1, [0], [])]),
  ([0, 1], [(23, .iload_n 1, 1, [], []), (24, .invokestatic 77, 3, [0, 1, 1, 104], [0, 458, 459]), (27, .ifCond .ne 6, 3, [4, 3], [])]),
  ([], [(30, .bipush (-2), 2, [], []), (32, .ireturn, 1, [0], [])]),
  ([0, 1], [(33, .aload_n 0, 1, [], []), (34, .getfield 14, 3, [0, 2, 11], [214, 0]), (37, .getfield 267, 3, [14, 0, 10], [137, 0]), (40, .bipush 12, 2, [], []), (42, .if_icmp .lt 6, 3, [6, 5], [])]),
  ([], [(45, .bipush (-4), 2, [], []), (47, .ireturn, 1, [0], [])]),
  ([0, 1], [(48, .aload_n 0, 1, [], []), (49, .getfield 14, 3, [0, 2, 11], [214, 0]), (52, .aload_n 0, 1, [], []), (53, .getfield 14, 3, [0, 2, 11], [214, 0]), (56, .getfield 264, 3, [13, 0, 10], [135, 0]), (59, .aload_n 0, 1, [], []), (60, .getfield 14, 3, [0, 2, 11], [214, 0]), (63, .getfield 267, 3, [14, 0, 10], [137, 0]), (66, .iload_n 1, 1, [], []), (67, .invokestatic 87, 3, [0, 1, 3, 108], [0, 461, 462]), (70, .putfield 264, 3, [13, 0, 10], [135, 0]), (73, .aload_n 0, 1, [], []), (74, .getfield 14, 3, [0, 2, 11], [214, 0]), (77, .dup, 1, [], []), (78, .getfield 267, 3, [14, 0, 10], [137, 0]), (81, .iconst 1, 1, [], []), (82, .iadd, 1, [], []), (83, .putfield 267, 3, [14, 0, 10], [137, 0]), (86, .aload_n 0, 1, [], []), (87, .getfield 14, 3, [0, 2, 11], [214, 0]), (90, .getfield 267, 3, [14, 0, 10], [137, 0]), (93, .ireturn, 1, [0], [])])]
def km_X11_row : MT := (yX11_row, cX11_row, 2, (some .int), kb_X11_row)
def kb_X11_looked : List (List Nat × List RI) := [
  ([0], [(0, .aload_n 0, 1, [], []), (1, .getfield 14, 3, [0, 2, 11], [214, 0]), (4, .iconst 0, 1, [], []), (5, .invokevirtual 91, 3, [2, 1, 1, 10, 49], [468, 0, 469, 470, 68, 0, 0, 0]), (8, .ifCond .ne 6, 3, [2, 1], [])]),
  ([], [(11, .bipush (-3), 2, [], []), (13, .ireturn, 1, [0], [])]),
  ([0], [(14, .iconst 1, 1, [], []), (15, .aload_n 0, 1, [], []), (16, .getfield 14, 3, [0, 2, 11], [214, 0]), (19, .getfield 84, 3, [9, 0, 10], [127, 0]), (22, .iconst 0, 1, [], []), (23, .invokestatic 94, 3, [0, 1, 2, 107], [0, 472, 473]), (26, .ishl, 1, [], []), (27, .istore_n 1, 1, [], []), (28, .iconst 0, 1, [], []), (29, .istore_n 2, 1, [], []), (30, .nop, 0, [3], [])]),
  ([0, 1, 2], [(30, .iload_n 2, 1, [], []), (31, .aload_n 0, 1, [], []), (32, .getfield 14, 3, [0, 2, 11], [214, 0]), (35, .getfield 267, 3, [14, 0, 10], [137, 0]), (38, .if_icmp .ge 53, 3, [7, 4], [])]),
  ([0, 1, 2], [(41, .aload_n 0, 1, [], []), (42, .getfield 14, 3, [0, 2, 11], [214, 0]), (45, .getfield 264, 3, [13, 0, 10], [135, 0]), (48, .iload_n 2, 1, [], []), (49, .invokestatic 94, 3, [0, 1, 2, 107], [0, 472, 473]), (52, .istore_n 3, 1, [], []), (53, .iload_n 1, 1, [], []), (54, .iload_n 3, 1, [], []), (55, .ishr, 1, [], []), (56, .iconst 1, 1, [], []), (57, .iand, 1, [], []), (58, .ifCond .ne 5, 3, [6, 5], [])]),
  ([2], [(61, .iload_n 2, 1, [], []), (62, .ireturn, 1, [0], [])]),
  ([0, 2, 3], [(63, .aload_n 0, 1, [], []), (64, .getfield 14, 3, [0, 2, 11], [214, 0]), (67, .iconst 0, 1, [], []), (68, .aload_n 0, 1, [], []), (69, .getfield 14, 3, [0, 2, 11], [214, 0]), (72, .getfield 98, 3, [10, 0, 10], [129, 0]), (75, .iload_n 2, 1, [], []), (76, .iadd, 1, [], []), (77, .invokevirtual 270, 3, [2, 1, 2, 10, 58], [866, 0, 801, 802, 68, 0, 0, 0]), (80, .iload_n 3, 1, [], []), (81, .invokestatic 198, 3, [0, 1, 2, 109], [0, 807, 805]), (84, .istore_n 1, 1, [], []), (85, .iinc 2 1, 3, [], []), (88, .goto (-58), 3, [3], [])]),
  ([], [(91, .bipush (-5), 2, [], []), (93, .ireturn, 1, [0], [])])]
def km_X11_looked : MT := (yX11_looked, cX11_looked, 4, (some .int), kb_X11_looked)
def kb_X11_act : List (List Nat × List RI) := [
  ([0, 1, 2, 3], [(0, .aload_n 0, 1, [], []), (1, .getfield 33, 3, [3, 2, 11], [217, 0]), (4, .iconst 0, 1, [], []), (5, .putfield 273, 3, [1, 0, 9], [208, 0]), (8, .aload_n 0, 1, [], []), (9, .getfield 14, 3, [0, 2, 11], [214, 0]), (12, .iload_n 1, 1, [], []), (13, .invokevirtual 146, 3, [2, 3, 1, 10, 51], [649, 0, 650, 651, 68, 0, 0, 0]), (16, .astore 4, 2, [], []), (18, .aload 4, 2, [], []), (20, .ifnonnull 5, 3, [2, 1], [])]),
  ([], [(23, .iconst 0, 1, [], []), (24, .ireturn, 1, [0], [])]),
  ([2, 3, 4], [(25, .iload_n 2, 1, [], []), (26, .tableswitch 47 0 2 #[26, 33, 40], 26, [6, 3, 4, 5], [])]),
  ([3, 4], [(52, .aload 4, 2, [], []), (54, .iload_n 3, 1, [], []), (55, .invokevirtual 276, 3, [2, 1, 1, 0, 2, 1, 36, 2, 36, 4, 36, 6, 36, 7, 2, 8, 44], [871, 1, 876, 875, 82, 874, 36, 872, 1, 872, 883, 81, 874, 36, 872, 1, 872, 884, 81, 874, 36, 872, 1, 872, 885, 81, 874, 36, 872, 1, 872, 873, 81, 874, 36, 872, 1, 876, 886, 82, 874, 36, 872, 1, 888, 887, 86, 874, 36, 872]), (58, .ireturn, 1, [0], [])]),
  ([3, 4], [(59, .aload 4, 2, [], []), (61, .iload_n 3, 1, [], []), (62, .invokevirtual 279, 3, [2, 1, 1, 0, 37, 1, 5, 2, 9, 4, 37, 6, 37, 7, 37, 8, 5], [896, 1, 897, 900, 81, 899, 37, 897, 1, 902, 901, 83, 899, 37, 897, 1, 907, 906, 87, 899, 37, 897, 1, 897, 913, 81, 899, 37, 897, 1, 897, 898, 81, 899, 37, 897, 1, 897, 914, 81, 899, 37, 897, 1, 902, 915, 83, 899, 37, 897]), (65, .ireturn, 1, [0], [])]),
  ([3, 4], [(66, .aload 4, 2, [], []), (68, .iload_n 3, 1, [], []), (69, .invokevirtual 282, 3, [2, 1, 1, 0, 38, 1, 38, 2, 16, 4, 16, 6, 38, 7, 41, 8, 38], [918, 1, 919, 922, 81, 921, 38, 919, 1, 919, 923, 81, 921, 38, 919, 1, 925, 924, 84, 921, 38, 919, 1, 925, 929, 84, 921, 38, 919, 1, 919, 920, 81, 921, 38, 919, 1, 931, 930, 85, 921, 38, 919, 1, 919, 941, 81, 921, 38, 919]), (72, .ireturn, 1, [0], [])]),
  ([], [(73, .iconst 0, 1, [], []), (74, .ireturn, 1, [0], [])])]
def km_X11_act : MT := (yX11_act, cX11_act, 5, (some .int), kb_X11_act)
def kb_X11_trace : List (List Nat × List RI) := [
  ([0, 1], [(0, .iload_n 1, 1, [], []), (1, .ifCond .lt 26, 3, [3, 1], [])]),
  ([0, 1], [(4, .iload_n 1, 1, [], []), (5, .aload_n 0, 1, [], []), (6, .getfield 33, 3, [3, 2, 11], [217, 0]), (9, .getfield 273, 3, [1, 0, 9], [208, 0]), (12, .if_icmp .ge 15, 3, [3, 2], [])]),
  ([0, 1], [(15, .iload_n 1, 1, [], []), (16, .aload_n 0, 1, [], []), (17, .getfield 33, 3, [3, 2, 11], [217, 0]), (20, .getfield 285, 3, [0, 2, 9], [206, 0]), (23, .arraylength, 1, [], []), (24, .if_icmp .lt 5, 3, [4, 3], [])]),
  ([], [(27, .iconst (-1), 1, [], []), (28, .ireturn, 1, [0], [])]),
  ([0, 1], [(29, .aload_n 0, 1, [], []), (30, .getfield 33, 3, [3, 2, 11], [217, 0]), (33, .getfield 285, 3, [0, 2, 9], [206, 0]), (36, .iload_n 1, 1, [], []), (37, .iaload, 1, [], []), (38, .ireturn, 1, [0], [])])]
def km_X11_trace : MT := (yX11_trace, cX11_trace, 2, (some .int), kb_X11_trace)
def kb_X11_as : List (List Nat × List RI) := [
  ([0, 1, 2], [(0, .aload_n 0, 1, [], []), (1, .getfield 14, 3, [0, 2, 11], [214, 0]), (4, .iload_n 1, 1, [], []), (5, .invokevirtual 146, 3, [2, 3, 1, 10, 51], [649, 0, 650, 651, 68, 0, 0, 0]), (8, .astore_n 3, 1, [], []), (9, .aload_n 3, 1, [], []), (10, .ifnull 10, 3, [2, 1], [])]),
  ([2, 3], [(13, .iload_n 2, 1, [], []), (14, .invokestatic 109, 3, [0, 1, 1, 105], [0, 499, 500]), (17, .ifCond .ne 5, 3, [3, 2], [])]),
  ([], [(20, .iconst (-1), 1, [], []), (21, .ireturn, 1, [0], [])]),
  ([2, 3], [(22, .aload_n 3, 1, [], []), (23, .iload_n 2, 1, [], []), (24, .invokestatic 289, 3, [0, 1, 2, 100], [0, 952, 953]), (27, .ifCond .eq 10, 3, [5, 4], [])]),
  ([3], [(30, .aload_n 3, 1, [], []), (31, .getfield 153, 3, [2, 0, 0, 1, 2, 4, 6, 7, 8], [529, 0]), (34, .goto 5, 3, [6], [])]),
  ([], [(37, .bipush (-6), 2, [], []), (39, .nop, 0, [6], [])]),
  ([], [(39, .ireturn, 1, [0], [])])]
def km_X11_as : MT := (yX11_as, cX11_as, 4, (some .int), kb_X11_as)
def kb_X11_isOf : List (List Nat × List RI) := [
  ([0, 1], [(0, .iload_n 1, 1, [], []), (1, .tableswitch 69 1 6 #[39, 44, 49, 54, 59, 64], 39, [7, 1, 2, 3, 4, 5, 6], [])]),
  ([0], [(40, .aload_n 0, 1, [], []), (41, .instanceof 123, 3, [2, 0, 7, 1, 2, 4, 6, 8], [506]), (44, .ireturn, 1, [1], [])]),
  ([0], [(45, .aload_n 0, 1, [], []), (46, .instanceof 128, 3, [2, 1, 8, 0, 2, 4, 6, 7], [567]), (49, .ireturn, 1, [1], [])]),
  ([0], [(50, .aload_n 0, 1, [], []), (51, .instanceof 131, 3, [2, 2, 4, 0, 1, 6, 7, 8], [580]), (54, .ireturn, 1, [1], [])]),
  ([0], [(55, .aload_n 0, 1, [], []), (56, .instanceof 134, 3, [1, 7, 0, 1, 2, 4, 6, 8], [593]), (59, .ireturn, 1, [1], [])]),
  ([0], [(60, .aload_n 0, 1, [], []), (61, .instanceof 137, 3, [1, 8, 0, 1, 2, 4, 6, 7], [606]), (64, .ireturn, 1, [1], [])]),
  ([0], [(65, .aload_n 0, 1, [], []), (66, .instanceof 140, 3, [1, 2, 0, 1, 4, 6, 7, 8], [619]), (69, .ireturn, 1, [1], [])]),
  ([], [(70, .iconst 1, 1, [], []), (71, .ireturn, 1, [1], [])])]
def km_X11_isOf : MT := (yX11_isOf, cX11_isOf, 2, (some .boolean), kb_X11_isOf)
def kb_X11_image : List (List Nat × List RI) := [
  ([0], [(0, .aload_n 0, 1, [], []), (1, .getfield 18, 3, [1, 2, 11], [215, 0]), (4, .aload_n 0, 1, [], []), (5, .getfield 14, 3, [0, 2, 11], [214, 0]), (8, .invokevirtual 293, 3, [2, 0, 1, 10, 48], [959, 0, 960, 961, 68, 0, 0, 0]), (11, .aload_n 0, 1, [], []), (12, .iconst 1, 1, [], []), (13, .putfield 296, 3, [6, 1, 11], [220, 0]), (16, .aload_n 0, 1, [], []), (17, .getfield 18, 3, [1, 2, 11], [215, 0]), (20, .getfield 81, 3, [8, 0, 10], [125, 0]), (23, .ireturn, 1, [0], [])])]
def km_X11_image : MT := (yX11_image, cX11_image, 1, (some .int), kb_X11_image)
def kb_X11_undo : List (List Nat × List RI) := [
  ([0], [(0, .aload_n 0, 1, [], []), (1, .getfield 296, 3, [6, 1, 11], [220, 0]), (4, .ifCond .ne 6, 3, [2, 1], [])]),
  ([], [(7, .bipush (-3), 2, [], []), (9, .ireturn, 1, [0], [])]),
  ([0], [(10, .aload_n 0, 1, [], []), (11, .getfield 14, 3, [0, 2, 11], [214, 0]), (14, .aload_n 0, 1, [], []), (15, .getfield 18, 3, [1, 2, 11], [215, 0]), (18, .invokevirtual 293, 3, [2, 0, 1, 10, 48], [959, 0, 960, 961, 68, 0, 0, 0]), (21, .aload_n 0, 1, [], []), (22, .getfield 14, 3, [0, 2, 11], [214, 0]), (25, .getfield 81, 3, [8, 0, 10], [125, 0]), (28, .ireturn, 1, [0], [])])]
def km_X11_undo : MT := (yX11_undo, cX11_undo, 1, (some .int), kb_X11_undo)
def kb_X11_count : List (List Nat × List RI) := [
  ([0, 1], [(0, .iload_n 1, 1, [], []), (1, .tableswitch 99 0 6 #[43, 51, 59, 67, 75, 83, 91], 43, [8, 1, 2, 3, 4, 5, 6, 7], [])]),
  ([0], [(44, .aload_n 0, 1, [], []), (45, .getfield 14, 3, [0, 2, 11], [214, 0]), (48, .getfield 81, 3, [8, 0, 10], [125, 0]), (51, .ireturn, 1, [0], [])]),
  ([0], [(52, .aload_n 0, 1, [], []), (53, .getfield 14, 3, [0, 2, 11], [214, 0]), (56, .getfield 112, 3, [7, 0, 10], [123, 0]), (59, .ireturn, 1, [0], [])]),
  ([0], [(60, .aload_n 0, 1, [], []), (61, .getfield 14, 3, [0, 2, 11], [214, 0]), (64, .getfield 67, 3, [5, 0, 10], [119, 0]), (67, .ireturn, 1, [0], [])]),
  ([0], [(68, .aload_n 0, 1, [], []), (69, .getfield 14, 3, [0, 2, 11], [214, 0]), (72, .getfield 53, 3, [3, 0, 10], [115, 0]), (75, .ireturn, 1, [0], [])]),
  ([0], [(76, .aload_n 0, 1, [], []), (77, .getfield 14, 3, [0, 2, 11], [214, 0]), (80, .getfield 267, 3, [14, 0, 10], [137, 0]), (83, .ireturn, 1, [0], [])]),
  ([0], [(84, .aload_n 0, 1, [], []), (85, .getfield 14, 3, [0, 2, 11], [214, 0]), (88, .getfield 45, 3, [1, 0, 10], [109, 0]), (91, .ireturn, 1, [0], [])]),
  ([0], [(92, .aload_n 0, 1, [], []), (93, .getfield 33, 3, [3, 2, 11], [217, 0]), (96, .getfield 273, 3, [1, 0, 9], [208, 0]), (99, .ireturn, 1, [0], [])]),
  ([], [(100, .iconst (-1), 1, [], []), (101, .ireturn, 1, [0], [])])]
def km_X11_count : MT := (yX11_count, cX11_count, 2, (some .int), kb_X11_count)
def kb_X11_isState : List (List Nat × List RI) := [
  ([0], [(0, .iload_n 0, 1, [], []), (1, .ifCond .lt 12, 3, [3, 1], [])]),
  ([0], [(4, .iload_n 0, 1, [], []), (5, .iconst 4, 1, [], []), (6, .if_icmp .ge 7, 3, [3, 2], [])]),
  ([], [(9, .iconst 1, 1, [], []), (10, .goto 4, 3, [4], [])]),
  ([], [(13, .iconst 0, 1, [], []), (14, .nop, 0, [4], [])]),
  ([], [(14, .ireturn, 1, [1], [])])]
def km_X11_isState : MT := (yX11_isState, cX11_isState, 1, (some .boolean), kb_X11_isState)
def kb_X11_isKind : List (List Nat × List RI) := [
  ([0], [(0, .iload_n 0, 1, [], []), (1, .ifCond .lt 13, 3, [3, 1], [])]),
  ([0], [(4, .iload_n 0, 1, [], []), (5, .bipush 6, 2, [], []), (7, .if_icmp .gt 7, 3, [3, 2], [])]),
  ([], [(10, .iconst 1, 1, [], []), (11, .goto 4, 3, [4], [])]),
  ([], [(14, .iconst 0, 1, [], []), (15, .nop, 0, [4], [])]),
  ([], [(15, .ireturn, 1, [1], [])])]
def km_X11_isKind : MT := (yX11_isKind, cX11_isKind, 1, (some .boolean), kb_X11_isKind)
def kb_X11_isPart : List (List Nat × List RI) := [
  ([0], [(0, .iload_n 0, 1, [], []), (1, .ifCond .eq 8, 3, [2, 1], [])]),
  ([0], [(4, .iload_n 0, 1, [], []), (5, .iconst 1, 1, [], []), (6, .if_icmp .ne 7, 3, [3, 2], [])]),
  ([], [(9, .iconst 1, 1, [], []), (10, .goto 4, 3, [4], [])]),
  ([], [(13, .iconst 0, 1, [], []), (14, .nop, 0, [4], [])]),
  ([], [(14, .ireturn, 1, [1], [])])]
def km_X11_isPart : MT := (yX11_isPart, cX11_isPart, 1, (some .boolean), kb_X11_isPart)
def kb_X11_stateIn : List (List Nat × List RI) := [
  ([0, 1], [(0, .iload_n 0, 1, [], []), (1, .iconst 2, 1, [], []), (2, .iload_n 1, 1, [], []), (3, .imul, 1, [], []), (4, .ishr, 1, [], []), (5, .iconst 3, 1, [], []), (6, .iand, 1, [], []), (7, .ireturn, 1, [0], [])])]
def km_X11_stateIn : MT := (yX11_stateIn, cX11_stateIn, 2, (some .int), kb_X11_stateIn)
def kb_X11_withState : List (List Nat × List RI) := [
  ([0, 1, 2], [(0, .iload_n 0, 1, [], []), (1, .iconst 3, 1, [], []), (2, .iconst 2, 1, [], []), (3, .iload_n 1, 1, [], []), (4, .imul, 1, [], []), (5, .ishl, 1, [], []), (6, .iconst (-1), 1, [], []), (7, .ixor, 1, [], []), (8, .iand, 1, [], []), (9, .iload_n 2, 1, [], []), (10, .iconst 3, 1, [], []), (11, .iand, 1, [], []), (12, .iconst 2, 1, [], []), (13, .iload_n 1, 1, [], []), (14, .imul, 1, [], []), (15, .ishl, 1, [], []), (16, .ior, 1, [], []), (17, .ireturn, 1, [0], [])])]
def km_X11_withState : MT := (yX11_withState, cX11_withState, 3, (some .int), kb_X11_withState)
def kb_X11_reached : List (List Nat × List RI) := [
  ([0, 1], [(0, .iload_n 0, 1, [], []), (1, .iconst 4, 1, [], []), (2, .iload_n 1, 1, [], []), (3, .imul, 1, [], []), (4, .ishr, 1, [], []), (5, .bipush 15, 2, [], []), (7, .iand, 1, [], []), (8, .ireturn, 1, [0], [])])]
def km_X11_reached : MT := (yX11_reached, cX11_reached, 2, (some .int), kb_X11_reached)
def kb_X11_factsOfThing : List (List Nat × List RI) := [
  ([0, 1, 2], [(0, .iload_n 0, 1, [], []), (1, .iload_n 1, 1, [], []), (2, .iconst 4, 1, [], []), (3, .ishl, 1, [], []), (4, .ior, 1, [], []), (5, .iload_n 2, 1, [], []), (6, .bipush 12, 2, [], []), (8, .irem, 1, [], []), (9, .bipush 8, 2, [], []), (11, .ishl, 1, [], []), (12, .ior, 1, [], []), (13, .ldc_w 300, 3, [0, 36864], [482]), (16, .ior, 1, [], []), (17, .ireturn, 1, [0], [])])]
def km_X11_factsOfThing : MT := (yX11_factsOfThing, cX11_factsOfThing, 3, (some .int), kb_X11_factsOfThing)
def kb_X11_factsOfWay : List (List Nat × List RI) := [
  ([0, 1], [(0, .sipush 153, 3, [], []), (3, .iload_n 1, 1, [], []), (4, .bipush 12, 2, [], []), (6, .irem, 1, [], []), (7, .bipush 8, 2, [], []), (9, .ishl, 1, [], []), (10, .ior, 1, [], []), (11, .iload_n 0, 1, [], []), (12, .bipush 12, 2, [], []), (14, .ishl, 1, [], []), (15, .ior, 1, [], []), (16, .ireturn, 1, [0], [])])]
def km_X11_factsOfWay : MT := (yX11_factsOfWay, cX11_factsOfWay, 2, (some .int), kb_X11_factsOfWay)
def kb_X12_init : List (List Nat × List RI) := [
  ([0], [(0, .aload_n 0, 1, [], []), (1, .invokespecial 3, 3, [3], [977]), (4, .aload_n 0, 1, [], []), (5, .sipush 1562, 3, [], []), (8, .newarray .int, 2, [20], [198]), (10, .putfield 9, 3, [1, 2, 12], [978, 0]), (13, .aload_n 0, 1, [], []), (14, .sipush 1562, 3, [], []), (17, .newarray .int, 2, [20], [198]), (19, .putfield 15, 3, [2, 2, 12], [979, 0]), (22, .aload_n 0, 1, [], []), (23, .iconst 5, 1, [], []), (24, .newarray .int, 2, [20], [198]), (26, .putfield 18, 3, [10, 2, 12], [987, 0]), (29, .aload_n 0, 1, [], []), (30, .bipush 64, 2, [], []), (32, .newarray .boolean, 2, [22], [237]), (34, .putfield 21, 3, [11, 2, 12], [988, 0]), (37, .aload_n 0, 1, [], []), (38, .bipush 16, 2, [], []), (40, .newarray .long, 2, [21], [236]), (42, .putfield 25, 3, [15, 2, 12], [992, 0]), (45, .aload_n 0, 1, [], []), (46, .iconst 4, 1, [], []), (47, .newarray .long, 2, [21], [236]), (49, .putfield 29, 3, [16, 2, 12], [993, 0]), (52, .aload_n 0, 1, [], []), (53, .iconst 4, 1, [], []), (54, .newarray .int, 2, [20], [198]), (56, .putfield 32, 3, [17, 2, 12], [994, 0]), (59, .aload_n 0, 1, [], []), (60, .bipush 16, 2, [], []), (62, .newarray .int, 2, [20], [198]), (64, .putfield 35, 3, [18, 2, 12], [995, 0]), (67, .aload_n 0, 1, [], []), (68, .sipush 256, 3, [], []), (71, .newarray .boolean, 2, [22], [237]), (73, .putfield 38, 3, [19, 2, 12], [996, 0]), (76, .aload_n 0, 1, [], []), (77, .bipush 20, 2, [], []), (79, .newarray .int, 2, [20], [198]), (81, .putfield 41, 3, [20, 2, 12], [997, 0]), (84, .aload_n 0, 1, [], []), (85, .getfield 9, 3, [1, 2, 12], [978, 0]), (88, .bipush 6, 2, [], []), (90, .iconst (-1), 1, [], []), (91, .iastore, 1, [], []), (92, .aload_n 0, 1, [], []), (93, .getfield 9, 3, [1, 2, 12], [978, 0]), (96, .bipush 8, 2, [], []), (98, .iconst (-1), 1, [], []), (99, .iastore, 1, [], []), (100, .return_, 1, [], [])])]
def km_X12_init : MT := (yX12_init, cX12_init, 1, none, kb_X12_init)
def kb_X12_in : List (List Nat × List RI) := [
  ([0, 1, 2], [(0, .iload_n 0, 1, [], []), (1, .iload_n 1, 1, [], []), (2, .if_icmp .lt 12, 3, [3, 1], [])]),
  ([0, 2], [(5, .iload_n 0, 1, [], []), (6, .iload_n 2, 1, [], []), (7, .if_icmp .gt 7, 3, [3, 2], [])]),
  ([], [(10, .iconst 1, 1, [], []), (11, .goto 4, 3, [4], [])]),
  ([], [(14, .iconst 0, 1, [], []), (15, .nop, 0, [4], [])]),
  ([], [(15, .ireturn, 1, [1], [])])]
def km_X12_in : MT := (yX12_in, cX12_in, 3, (some .boolean), kb_X12_in)
def kb_X12_isThing : List (List Nat × List RI) := [
  ([0, 1], [(0, .iload_n 1, 1, [], []), (1, .iconst 0, 1, [], []), (2, .aload_n 0, 1, [], []), (3, .getfield 9, 3, [1, 2, 12], [978, 0]), (6, .iconst 0, 1, [], []), (7, .iaload, 1, [], []), (8, .iconst 1, 1, [], []), (9, .isub, 1, [], []), (10, .invokestatic 48, 3, [0, 1, 3, 113], [0, 1057, 1058]), (13, .ireturn, 1, [1], [])])]
def km_X12_isThing : MT := (yX12_isThing, cX12_isThing, 2, (some .boolean), kb_X12_isThing)
def kb_X12_isWay : List (List Nat × List RI) := [
  ([0, 1], [(0, .iload_n 1, 1, [], []), (1, .iconst 0, 1, [], []), (2, .aload_n 0, 1, [], []), (3, .getfield 9, 3, [1, 2, 12], [978, 0]), (6, .iconst 1, 1, [], []), (7, .iaload, 1, [], []), (8, .iconst 1, 1, [], []), (9, .isub, 1, [], []), (10, .invokestatic 48, 3, [0, 1, 3, 113], [0, 1057, 1058]), (13, .ireturn, 1, [1], [])])]
def km_X12_isWay : MT := (yX12_isWay, cX12_isWay, 2, (some .boolean), kb_X12_isWay)
def kb_X12_isSaying : List (List Nat × List RI) := [
  ([0, 1], [(0, .iload_n 1, 1, [], []), (1, .iconst 0, 1, [], []), (2, .aload_n 0, 1, [], []), (3, .getfield 9, 3, [1, 2, 12], [978, 0]), (6, .iconst 2, 1, [], []), (7, .iaload, 1, [], []), (8, .iconst 1, 1, [], []), (9, .isub, 1, [], []), (10, .invokestatic 48, 3, [0, 1, 3, 113], [0, 1057, 1058]), (13, .ireturn, 1, [1], [])])]
def km_X12_isSaying : MT := (yX12_isSaying, cX12_isSaying, 2, (some .boolean), kb_X12_isSaying)
def kb_X12_feed : List (List Nat × List RI) := [
  ([0, 1], [(0, .iload_n 1, 1, [], []), (1, .iconst 0, 1, [], []), (2, .bipush 127, 2, [], []), (4, .invokestatic 48, 3, [0, 1, 3, 113], [0, 1057, 1058]), (7, .ifCond .ne 6, 3, [2, 1], [])]),
  ([], [(10, .bipush (-2), 2, [], []), (12, .ireturn, 1, [0], [])]),
  ([0, 1], [(13, .aload_n 0, 1, [], []), (14, .getfield 9, 3, [1, 2, 12], [978, 0]), (17, .iconst 5, 1, [], []), (18, .iaload, 1, [], []), (19, .bipush 100, 2, [], []), (21, .if_icmp .ne 6, 3, [4, 3], [])]),
  ([], [(24, .bipush (-4), 2, [], []), (26, .ireturn, 1, [0], [])]),
  ([0, 1], [(27, .aload_n 0, 1, [], []), (28, .getfield 9, 3, [1, 2, 12], [978, 0]), (31, .bipush 52, 2, [], []), (33, .aload_n 0, 1, [], []), (34, .getfield 9, 3, [1, 2, 12], [978, 0]), (37, .iconst 5, 1, [], []), (38, .iaload, 1, [], []), (39, .iadd, 1, [], []), (40, .iload_n 1, 1, [], []), (41, .iastore, 1, [], []), (42, .aload_n 0, 1, [], []), (43, .getfield 9, 3, [1, 2, 12], [978, 0]), (46, .iconst 5, 1, [], []), (47, .dup2, 1, [], []), (48, .iaload, 1, [], []), (49, .iconst 1, 1, [], []), (50, .iadd, 1, [], []), (51, .iastore, 1, [], []), (52, .aload_n 0, 1, [], []), (53, .getfield 9, 3, [1, 2, 12], [978, 0]), (56, .iconst 5, 1, [], []), (57, .iaload, 1, [], []), (58, .ireturn, 1, [0], [])])]
def km_X12_feed : MT := (yX12_feed, cX12_feed, 2, (some .int), kb_X12_feed)
def kb_X12_here : List (List Nat × List RI) := [
  ([0], [(0, .aload_n 0, 1, [], []), (1, .getfield 52, 3, [6, 0, 12], [983, 0]), (4, .aload_n 0, 1, [], []), (5, .getfield 55, 3, [7, 0, 12], [984, 0]), (8, .if_icmp .ge 18, 3, [2, 1], [])]),
  ([0], [(11, .aload_n 0, 1, [], []), (12, .getfield 9, 3, [1, 2, 12], [978, 0]), (15, .bipush 52, 2, [], []), (17, .aload_n 0, 1, [], []), (18, .getfield 52, 3, [6, 0, 12], [983, 0]), (21, .iadd, 1, [], []), (22, .iaload, 1, [], []), (23, .goto 4, 3, [3], [])]),
  ([], [(26, .iconst (-1), 1, [], []), (27, .nop, 0, [3], [])]),
  ([], [(27, .ireturn, 1, [0], [])])]
def km_X12_here : MT := (yX12_here, cX12_here, 1, (some .int), kb_X12_here)
def kb_X12_must : List (List Nat × List RI) := [
  ([0, 1], [(0, .aload_n 0, 1, [], []), (1, .aload_n 0, 1, [], []), (2, .getfield 58, 3, [8, 1, 12], [985, 0]), (5, .ifCond .ne 11, 3, [2, 1], [])]),
  ([0, 1], [(8, .aload_n 0, 1, [], []), (9, .invokevirtual 62, 3, [2, 1, 0, 12, 118], [1073, 0, 1075, 22, 71, 0, 0, 0]), (12, .iload_n 1, 1, [], []), (13, .if_icmp .eq 7, 3, [3, 2], [])]),
  ([0], [(16, .iconst 1, 1, [], []), (17, .goto 4, 3, [4], [])]),
  ([0], [(20, .iconst 0, 1, [], []), (21, .nop, 0, [4], [])]),
  ([0], [(21, .putfield 58, 3, [8, 1, 12], [985, 0]), (24, .aload_n 0, 1, [], []), (25, .dup, 1, [], []), (26, .getfield 52, 3, [6, 0, 12], [983, 0]), (29, .aload_n 0, 1, [], []), (30, .getfield 58, 3, [8, 1, 12], [985, 0]), (33, .ifCond .eq 7, 3, [6, 5], [])]),
  ([], [(36, .iconst 0, 1, [], []), (37, .goto 4, 3, [7], [])]),
  ([], [(40, .iconst 1, 1, [], []), (41, .nop, 0, [7], [])]),
  ([], [(41, .iadd, 1, [], []), (42, .putfield 52, 3, [6, 0, 12], [983, 0]), (45, .return_, 1, [], [])])]
def km_X12_must : MT := (yX12_must, cX12_must, 2, none, kb_X12_must)
def kb_X12_spells : List (List Nat × List RI) := [
  ([0, 1], [(0, .iconst 0, 1, [], []), (1, .istore_n 2, 1, [], []), (2, .nop, 0, [1], [])]),
  ([0, 1, 2], [(2, .iload_n 2, 1, [], []), (3, .aload_n 1, 1, [], []), (4, .invokevirtual 66, 3, [2, 1, 0, 30, 196], [1086, 0, 269, 270, 72, 0, 0, 0]), (7, .if_icmp .ge 18, 3, [3, 2], [])]),
  ([0, 1, 2], [(10, .aload_n 0, 1, [], []), (11, .aload_n 1, 1, [], []), (12, .iload_n 2, 1, [], []), (13, .invokevirtual 71, 3, [2, 1, 1, 30, 197], [1087, 0, 279, 280, 72, 0, 0, 0]), (16, .invokevirtual 75, 3, [2, 0, 1, 12, 119], [1088, 0, 1090, 25, 71, 0, 0, 0]), (19, .iinc 2 1, 3, [], []), (22, .goto (-20), 3, [1], [])]),
  ([], [(25, .return_, 1, [], [])])]
def km_X12_spells : MT := (yX12_spells, cX12_spells, 3, none, kb_X12_spells)
def kb_X12_figures : List (List Nat × List RI) := [
  ([0], [(0, .aload_n 0, 1, [], []), (1, .aload_n 0, 1, [], []), (2, .getfield 58, 3, [8, 1, 12], [985, 0]), (5, .ifCond .ne 17, 3, [2, 1], [])]),
  ([0], [(8, .aload_n 0, 1, [], []), (9, .invokevirtual 62, 3, [2, 1, 0, 12, 118], [1073, 0, 1075, 22, 71, 0, 0, 0]), (12, .bipush 48, 2, [], []), (14, .bipush 57, 2, [], []), (16, .invokestatic 48, 3, [0, 1, 3, 113], [0, 1057, 1058]), (19, .ifCond .ne 7, 3, [3, 2], [])]),
  ([0], [(22, .iconst 1, 1, [], []), (23, .goto 4, 3, [4], [])]),
  ([0], [(26, .iconst 0, 1, [], []), (27, .nop, 0, [4], [])]),
  ([0], [(27, .putfield 58, 3, [8, 1, 12], [985, 0]), (30, .iconst 0, 1, [], []), (31, .istore_n 1, 1, [], []), (32, .iconst 0, 1, [], []), (33, .istore_n 2, 1, [], []), (34, .nop, 0, [5], [])]),
  ([0, 1, 2], [(34, .iload_n 2, 1, [], []), (35, .iconst 2, 1, [], []), (36, .if_icmp .ge 61, 3, [11, 6], [])]),
  ([0, 1, 2], [(39, .aload_n 0, 1, [], []), (40, .getfield 58, 3, [8, 1, 12], [985, 0]), (43, .ifCond .ne 54, 3, [11, 7], [])]),
  ([0, 1, 2], [(46, .aload_n 0, 1, [], []), (47, .invokevirtual 62, 3, [2, 1, 0, 12, 118], [1073, 0, 1075, 22, 71, 0, 0, 0]), (50, .bipush 48, 2, [], []), (52, .bipush 57, 2, [], []), (54, .invokestatic 48, 3, [0, 1, 3, 113], [0, 1057, 1058]), (57, .ifCond .eq 40, 3, [11, 8], [])]),
  ([0, 1, 2], [(60, .iload_n 2, 1, [], []), (61, .ifCond .eq 7, 3, [10, 9], [])]),
  ([0, 1, 2], [(64, .iload_n 1, 1, [], []), (65, .ifCond .le 32, 3, [11, 10], [])]),
  ([0, 1, 2], [(68, .bipush 10, 2, [], []), (70, .iload_n 1, 1, [], []), (71, .imul, 1, [], []), (72, .aload_n 0, 1, [], []), (73, .invokevirtual 62, 3, [2, 1, 0, 12, 118], [1073, 0, 1075, 22, 71, 0, 0, 0]), (76, .iadd, 1, [], []), (77, .bipush 48, 2, [], []), (79, .isub, 1, [], []), (80, .istore_n 1, 1, [], []), (81, .aload_n 0, 1, [], []), (82, .dup, 1, [], []), (83, .getfield 52, 3, [6, 0, 12], [983, 0]), (86, .iconst 1, 1, [], []), (87, .iadd, 1, [], []), (88, .putfield 52, 3, [6, 0, 12], [983, 0]), (91, .iinc 2 1, 3, [], []), (94, .goto (-60), 3, [5], [])]),
  ([1], [(97, .iload_n 1, 1, [], []), (98, .ireturn, 1, [0], [])])]
def km_X12_figures : MT := (yX12_figures, cX12_figures, 3, (some .int), kb_X12_figures)
def kb_X12_among : List (List Nat × List RI) := [
  ([0, 1], [(0, .iconst 0, 1, [], []), (1, .istore_n 2, 1, [], []), (2, .nop, 0, [1], [])]),
  ([0, 1, 2], [(2, .iload_n 2, 1, [], []), (3, .aload_n 1, 1, [], []), (4, .invokevirtual 66, 3, [2, 1, 0, 30, 196], [1086, 0, 269, 270, 72, 0, 0, 0]), (7, .if_icmp .ge 33, 3, [5, 2], [])]),
  ([0, 1, 2], [(10, .aload_n 0, 1, [], []), (11, .invokevirtual 62, 3, [2, 1, 0, 12, 118], [1073, 0, 1075, 22, 71, 0, 0, 0]), (14, .aload_n 1, 1, [], []), (15, .iload_n 2, 1, [], []), (16, .invokevirtual 71, 3, [2, 1, 1, 30, 197], [1087, 0, 279, 280, 72, 0, 0, 0]), (19, .if_icmp .ne 15, 3, [4, 3], [])]),
  ([0, 2], [(22, .aload_n 0, 1, [], []), (23, .dup, 1, [], []), (24, .getfield 52, 3, [6, 0, 12], [983, 0]), (27, .iconst 1, 1, [], []), (28, .iadd, 1, [], []), (29, .putfield 52, 3, [6, 0, 12], [983, 0]), (32, .iload_n 2, 1, [], []), (33, .ireturn, 1, [0], [])]),
  ([0, 1, 2], [(34, .iinc 2 1, 3, [], []), (37, .goto (-35), 3, [1], [])]),
  ([], [(40, .iconst (-1), 1, [], []), (41, .ireturn, 1, [0], [])])]
def km_X12_among : MT := (yX12_among, cX12_among, 3, (some .int), kb_X12_among)
def kb_X12_emits : List (List Nat × List RI) := [
  ([0, 1], [(0, .aload_n 0, 1, [], []), (1, .getfield 58, 3, [8, 1, 12], [985, 0]), (4, .ifCond .ne 52, 3, [2, 1], [])]),
  ([0, 1], [(7, .aload_n 0, 1, [], []), (8, .getfield 9, 3, [1, 2, 12], [978, 0]), (11, .sipush 162, 3, [], []), (14, .sipush 140, 3, [], []), (17, .aload_n 0, 1, [], []), (18, .getfield 79, 3, [4, 0, 12], [981, 0]), (21, .imul, 1, [], []), (22, .iadd, 1, [], []), (23, .aload_n 0, 1, [], []), (24, .getfield 9, 3, [1, 2, 12], [978, 0]), (27, .sipush 152, 3, [], []), (30, .aload_n 0, 1, [], []), (31, .getfield 79, 3, [4, 0, 12], [981, 0]), (34, .iadd, 1, [], []), (35, .iaload, 1, [], []), (36, .iadd, 1, [], []), (37, .iload_n 1, 1, [], []), (38, .iastore, 1, [], []), (39, .aload_n 0, 1, [], []), (40, .getfield 9, 3, [1, 2, 12], [978, 0]), (43, .sipush 152, 3, [], []), (46, .aload_n 0, 1, [], []), (47, .getfield 79, 3, [4, 0, 12], [981, 0]), (50, .iadd, 1, [], []), (51, .dup2, 1, [], []), (52, .iaload, 1, [], []), (53, .iconst 1, 1, [], []), (54, .iadd, 1, [], []), (55, .iastore, 1, [], []), (56, .nop, 0, [2], [])]),
  ([], [(56, .return_, 1, [], [])])]
def km_X12_emits : MT := (yX12_emits, cX12_emits, 2, none, kb_X12_emits)
def kb_X12_factor : List (List Nat × List RI) := [
  ([0], [(0, .aload_n 0, 1, [], []), (1, .getfield 58, 3, [8, 1, 12], [985, 0]), (4, .ifCond .eq 4, 3, [2, 1], [])]),
  ([], [(7, .return_, 1, [], [])]),
  ([0], [(8, .aload_n 0, 1, [], []), (9, .invokevirtual 62, 3, [2, 1, 0, 12, 118], [1073, 0, 1075, 22, 71, 0, 0, 0]), (12, .istore_n 1, 1, [], []), (13, .iload_n 1, 1, [], []), (14, .bipush 33, 2, [], []), (16, .if_icmp .eq 9, 3, [4, 3], [])]),
  ([0, 1], [(19, .iload_n 1, 1, [], []), (20, .bipush 40, 2, [], []), (22, .if_icmp .ne 90, 3, [14, 4], [])]),
  ([0, 1], [(25, .aload_n 0, 1, [], []), (26, .aload_n 0, 1, [], []), (27, .getfield 82, 3, [9, 0, 12], [986, 0]), (30, .iconst 5, 1, [], []), (31, .if_icmp .ne 7, 3, [6, 5], [])]),
  ([0, 1], [(34, .iconst 1, 1, [], []), (35, .goto 4, 3, [7], [])]),
  ([0, 1], [(38, .iconst 0, 1, [], []), (39, .nop, 0, [7], [])]),
  ([0, 1], [(39, .putfield 58, 3, [8, 1, 12], [985, 0]), (42, .aload_n 0, 1, [], []), (43, .dup, 1, [], []), (44, .getfield 82, 3, [9, 0, 12], [986, 0]), (47, .iconst 1, 1, [], []), (48, .iadd, 1, [], []), (49, .putfield 82, 3, [9, 0, 12], [986, 0]), (52, .aload_n 0, 1, [], []), (53, .dup, 1, [], []), (54, .getfield 52, 3, [6, 0, 12], [983, 0]), (57, .aload_n 0, 1, [], []), (58, .getfield 58, 3, [8, 1, 12], [985, 0]), (61, .ifCond .eq 7, 3, [9, 8], [])]),
  ([0, 1], [(64, .iconst 0, 1, [], []), (65, .goto 4, 3, [10], [])]),
  ([0, 1], [(68, .iconst 1, 1, [], []), (69, .nop, 0, [10], [])]),
  ([0, 1], [(69, .iadd, 1, [], []), (70, .putfield 52, 3, [6, 0, 12], [983, 0]), (73, .iload_n 1, 1, [], []), (74, .bipush 33, 2, [], []), (76, .if_icmp .ne 15, 3, [12, 11], [])]),
  ([0], [(79, .aload_n 0, 1, [], []), (80, .invokevirtual 85, 3, [2, 0, 0, 12, 124], [1104, 0, 1106, 29, 71, 0, 0, 0]), (83, .aload_n 0, 1, [], []), (84, .iconst (-1), 1, [], []), (85, .invokevirtual 88, 3, [2, 0, 1, 12, 123], [1108, 0, 1110, 30, 71, 0, 0, 0]), (88, .goto 13, 3, [13], [])]),
  ([0], [(91, .aload_n 0, 1, [], []), (92, .invokevirtual 91, 3, [2, 0, 0, 12, 126], [1096, 0, 1098, 27, 71, 0, 0, 0]), (95, .aload_n 0, 1, [], []), (96, .bipush 41, 2, [], []), (98, .invokevirtual 75, 3, [2, 0, 1, 12, 119], [1088, 0, 1090, 25, 71, 0, 0, 0]), (101, .nop, 0, [13], [])]),
  ([0], [(101, .aload_n 0, 1, [], []), (102, .dup, 1, [], []), (103, .getfield 82, 3, [9, 0, 12], [986, 0]), (106, .iconst 1, 1, [], []), (107, .isub, 1, [], []), (108, .putfield 82, 3, [9, 0, 12], [986, 0]), (111, .return_, 1, [], [])]),
  ([0], [(112, .aload_n 0, 1, [], []), (113, .aload_n 0, 1, [], []), (114, .getfield 94, 3, [5, 2, 12], [982, 0]), (117, .invokevirtual 98, 3, [2, 1, 1, 12, 122], [1112, 0, 1114, 31, 71, 0, 0, 0]), (120, .istore_n 2, 1, [], []), (121, .aload_n 0, 1, [], []), (122, .iload_n 2, 1, [], []), (123, .iconst (-1), 1, [], []), (124, .if_icmp .ne 7, 3, [16, 15], [])]),
  ([0, 2], [(127, .iconst 1, 1, [], []), (128, .goto 4, 3, [17], [])]),
  ([0, 2], [(131, .iconst 0, 1, [], []), (132, .nop, 0, [17], [])]),
  ([0, 2], [(132, .putfield 58, 3, [8, 1, 12], [985, 0]), (135, .aload_n 0, 1, [], []), (136, .getfield 58, 3, [8, 1, 12], [985, 0]), (139, .ifCond .eq 7, 3, [19, 18], [])]),
  ([0, 2], [(142, .iconst 0, 1, [], []), (143, .goto 9, 3, [20], [])]),
  ([0, 2], [(146, .aload_n 0, 1, [], []), (147, .ldc 102, 2, [1, 9], []), (149, .invokevirtual 98, 3, [2, 1, 1, 12, 122], [1112, 0, 1114, 31, 71, 0, 0, 0]), (152, .nop, 0, [20], [])]),
  ([0, 2], [(152, .istore_n 3, 1, [], []), (153, .aload_n 0, 1, [], []), (154, .aload_n 0, 1, [], []), (155, .getfield 58, 3, [8, 1, 12], [985, 0]), (158, .ifCond .ne 8, 3, [22, 21], [])]),
  ([0, 2, 3], [(161, .iload_n 3, 1, [], []), (162, .iconst (-1), 1, [], []), (163, .if_icmp .ne 7, 3, [23, 22], [])]),
  ([0, 2, 3], [(166, .iconst 1, 1, [], []), (167, .goto 4, 3, [24], [])]),
  ([0, 2, 3], [(170, .iconst 0, 1, [], []), (171, .nop, 0, [24], [])]),
  ([0, 2, 3], [(171, .putfield 58, 3, [8, 1, 12], [985, 0]), (174, .aload_n 0, 1, [], []), (175, .invokevirtual 104, 3, [2, 1, 0, 12, 121], [1092, 0, 1094, 26, 71, 0, 0, 0]), (178, .istore 4, 2, [], []), (180, .aload_n 0, 1, [], []), (181, .iload_n 2, 1, [], []), (182, .bipush 8, 2, [], []), (184, .iload_n 3, 1, [], []), (185, .imul, 1, [], []), (186, .iadd, 1, [], []), (187, .bipush 32, 2, [], []), (189, .iload 4, 2, [], []), (191, .imul, 1, [], []), (192, .iadd, 1, [], []), (193, .invokevirtual 88, 3, [2, 0, 1, 12, 123], [1108, 0, 1110, 30, 71, 0, 0, 0]), (196, .return_, 1, [], [])])]
def km_X12_factor : MT := (yX12_factor, cX12_factor, 5, none, kb_X12_factor)
def kb_X12_every : List (List Nat × List RI) := [
  ([0], [(0, .aload_n 0, 1, [], []), (1, .invokevirtual 85, 3, [2, 0, 0, 12, 124], [1104, 0, 1106, 29, 71, 0, 0, 0]), (4, .nop, 0, [1], [])]),
  ([0], [(4, .aload_n 0, 1, [], []), (5, .getfield 58, 3, [8, 1, 12], [985, 0]), (8, .ifCond .ne 35, 3, [4, 2], [])]),
  ([0], [(11, .aload_n 0, 1, [], []), (12, .invokevirtual 62, 3, [2, 1, 0, 12, 118], [1073, 0, 1075, 22, 71, 0, 0, 0]), (15, .bipush 38, 2, [], []), (17, .if_icmp .ne 26, 3, [4, 3], [])]),
  ([0], [(20, .aload_n 0, 1, [], []), (21, .dup, 1, [], []), (22, .getfield 52, 3, [6, 0, 12], [983, 0]), (25, .iconst 1, 1, [], []), (26, .iadd, 1, [], []), (27, .putfield 52, 3, [6, 0, 12], [983, 0]), (30, .aload_n 0, 1, [], []), (31, .invokevirtual 85, 3, [2, 0, 0, 12, 124], [1104, 0, 1106, 29, 71, 0, 0, 0]), (34, .aload_n 0, 1, [], []), (35, .bipush (-2), 2, [], []), (37, .invokevirtual 88, 3, [2, 0, 1, 12, 123], [1108, 0, 1110, 30, 71, 0, 0, 0]), (40, .goto (-36), 3, [1], [])]),
  ([], [(43, .return_, 1, [], [])])]
def km_X12_every : MT := (yX12_every, cX12_every, 1, none, kb_X12_every)
def kb_X12_some : List (List Nat × List RI) := [
  ([0], [(0, .aload_n 0, 1, [], []), (1, .invokevirtual 107, 3, [2, 0, 0, 12, 125], [1100, 0, 1102, 28, 71, 0, 0, 0]), (4, .nop, 0, [1], [])]),
  ([0], [(4, .aload_n 0, 1, [], []), (5, .getfield 58, 3, [8, 1, 12], [985, 0]), (8, .ifCond .ne 35, 3, [4, 2], [])]),
  ([0], [(11, .aload_n 0, 1, [], []), (12, .invokevirtual 62, 3, [2, 1, 0, 12, 118], [1073, 0, 1075, 22, 71, 0, 0, 0]), (15, .bipush 124, 2, [], []), (17, .if_icmp .ne 26, 3, [4, 3], [])]),
  ([0], [(20, .aload_n 0, 1, [], []), (21, .dup, 1, [], []), (22, .getfield 52, 3, [6, 0, 12], [983, 0]), (25, .iconst 1, 1, [], []), (26, .iadd, 1, [], []), (27, .putfield 52, 3, [6, 0, 12], [983, 0]), (30, .aload_n 0, 1, [], []), (31, .invokevirtual 107, 3, [2, 0, 0, 12, 125], [1100, 0, 1102, 28, 71, 0, 0, 0]), (34, .aload_n 0, 1, [], []), (35, .bipush (-3), 2, [], []), (37, .invokevirtual 88, 3, [2, 0, 1, 12, 123], [1108, 0, 1110, 30, 71, 0, 0, 0]), (40, .goto (-36), 3, [1], [])]),
  ([], [(43, .return_, 1, [], [])])]
def km_X12_some : MT := (yX12_some, cX12_some, 1, none, kb_X12_some)
def kb_X12_much : List (List Nat × List RI) := [
  ([0, 1, 2], [(0, .aload_n 0, 1, [], []), (1, .aload_n 2, 1, [], []), (2, .invokevirtual 110, 3, [2, 0, 1, 12, 120], [1082, 0, 1084, 24, 71, 0, 0, 0]), (5, .aload_n 0, 1, [], []), (6, .invokevirtual 104, 3, [2, 1, 0, 12, 121], [1092, 0, 1094, 26, 71, 0, 0, 0]), (9, .istore_n 3, 1, [], []), (10, .aload_n 0, 1, [], []), (11, .bipush 32, 2, [], []), (13, .invokevirtual 75, 3, [2, 0, 1, 12, 119], [1088, 0, 1090, 25, 71, 0, 0, 0]), (16, .aload_n 0, 1, [], []), (17, .invokevirtual 91, 3, [2, 0, 0, 12, 126], [1096, 0, 1098, 27, 71, 0, 0, 0]), (20, .aload_n 0, 1, [], []), (21, .iload_n 1, 1, [], []), (22, .iload_n 3, 1, [], []), (23, .isub, 1, [], []), (24, .invokevirtual 88, 3, [2, 0, 1, 12, 123], [1108, 0, 1110, 30, 71, 0, 0, 0]), (27, .return_, 1, [], [])])]
def km_X12_much : MT := (yX12_much, cX12_much, 4, none, kb_X12_much)
def kb_X12_clauseOfD : List (List Nat × List RI) := [
  ([0], [(0, .aload_n 0, 1, [], []), (1, .bipush 100, 2, [], []), (3, .invokevirtual 75, 3, [2, 0, 1, 12, 119], [1088, 0, 1090, 25, 71, 0, 0, 0]), (6, .aload_n 0, 1, [], []), (7, .invokevirtual 62, 3, [2, 1, 0, 12, 118], [1073, 0, 1075, 22, 71, 0, 0, 0]), (10, .bipush 114, 2, [], []), (12, .if_icmp .ne 15, 3, [2, 1], [])]),
  ([0], [(15, .aload_n 0, 1, [], []), (16, .sipush (-200), 3, [], []), (19, .ldc 114, 2, [1, 10], []), (21, .invokevirtual 116, 3, [2, 0, 2, 12, 127], [1078, 0, 1080, 23, 71, 0, 0, 0]), (24, .goto 12, 3, [3], [])]),
  ([0], [(27, .aload_n 0, 1, [], []), (28, .sipush (-400), 3, [], []), (31, .ldc 120, 2, [1, 11], []), (33, .invokevirtual 116, 3, [2, 0, 2, 12, 127], [1078, 0, 1080, 23, 71, 0, 0, 0]), (36, .nop, 0, [3], [])]),
  ([], [(36, .return_, 1, [], [])])]
def km_X12_clauseOfD : MT := (yX12_clauseOfD, cX12_clauseOfD, 1, none, kb_X12_clauseOfD)
def kb_X12_clauseHere : List (List Nat × List RI) := [
  ([0], [(0, .aload_n 0, 1, [], []), (1, .invokevirtual 62, 3, [2, 1, 0, 12, 118], [1073, 0, 1075, 22, 71, 0, 0, 0]), (4, .lookupswitch 46 #[(100, 39), (116, 28)], 28, [3, 2, 1], [])]),
  ([0], [(32, .aload_n 0, 1, [], []), (33, .bipush (-10), 2, [], []), (35, .ldc 122, 2, [1, 8], []), (37, .invokevirtual 116, 3, [2, 0, 2, 12, 127], [1078, 0, 1080, 23, 71, 0, 0, 0]), (40, .goto 15, 3, [4], [])]),
  ([0], [(43, .aload_n 0, 1, [], []), (44, .invokevirtual 124, 3, [2, 0, 0, 12, 128], [1117, 0, 1119, 32, 71, 0, 0, 0]), (47, .goto 8, 3, [4], [])]),
  ([0], [(50, .aload_n 0, 1, [], []), (51, .iconst 1, 1, [], []), (52, .putfield 58, 3, [8, 1, 12], [985, 0]), (55, .nop, 0, [4], [])]),
  ([], [(55, .return_, 1, [], [])])]
def km_X12_clauseHere : MT := (yX12_clauseHere, cX12_clauseHere, 1, none, kb_X12_clauseHere)
def kb_X12_begins : List (List Nat × List RI) := [
  ([0, 1, 2], [(0, .aload_n 0, 1, [], []), (1, .iload_n 1, 1, [], []), (2, .putfield 79, 3, [4, 0, 12], [981, 0]), (5, .aload_n 0, 1, [], []), (6, .aload_n 2, 1, [], []), (7, .putfield 94, 3, [5, 2, 12], [982, 0]), (10, .aload_n 0, 1, [], []), (11, .aload_n 0, 1, [], []), (12, .getfield 9, 3, [1, 2, 12], [978, 0]), (15, .iconst 5, 1, [], []), (16, .iaload, 1, [], []), (17, .putfield 55, 3, [7, 0, 12], [984, 0]), (20, .aload_n 0, 1, [], []), (21, .getfield 9, 3, [1, 2, 12], [978, 0]), (24, .iconst 5, 1, [], []), (25, .iconst 0, 1, [], []), (26, .iastore, 1, [], []), (27, .aload_n 0, 1, [], []), (28, .getfield 9, 3, [1, 2, 12], [978, 0]), (31, .sipush 152, 3, [], []), (34, .aload_n 0, 1, [], []), (35, .getfield 79, 3, [4, 0, 12], [981, 0]), (38, .iadd, 1, [], []), (39, .iconst 0, 1, [], []), (40, .iastore, 1, [], []), (41, .aload_n 0, 1, [], []), (42, .iconst 0, 1, [], []), (43, .putfield 52, 3, [6, 0, 12], [983, 0]), (46, .aload_n 0, 1, [], []), (47, .iconst 0, 1, [], []), (48, .putfield 58, 3, [8, 1, 12], [985, 0]), (51, .aload_n 0, 1, [], []), (52, .iconst 0, 1, [], []), (53, .putfield 82, 3, [9, 0, 12], [986, 0]), (56, .return_, 1, [], [])])]
def km_X12_begins : MT := (yX12_begins, cX12_begins, 3, none, kb_X12_begins)
def kb_X12_coast : List (List Nat × List RI) := [
  ([0], [(0, .aload_n 0, 1, [], []), (1, .getfield 9, 3, [1, 2, 12], [978, 0]), (4, .iconst 3, 1, [], []), (5, .iaload, 1, [], []), (6, .iconst 5, 1, [], []), (7, .if_icmp .ne 6, 3, [2, 1], [])]),
  ([], [(10, .bipush (-4), 2, [], []), (12, .ireturn, 1, [0], [])]),
  ([0], [(13, .aload_n 0, 1, [], []), (14, .aload_n 0, 1, [], []), (15, .getfield 9, 3, [1, 2, 12], [978, 0]), (18, .iconst 3, 1, [], []), (19, .iaload, 1, [], []), (20, .ldc 127, 2, [1, 7], []), (22, .invokevirtual 129, 3, [2, 0, 2, 12, 130], [1065, 0, 1067, 20, 71, 0, 0, 0]), (25, .iconst 1, 1, [], []), (26, .istore_n 1, 1, [], []), (27, .aload_n 0, 1, [], []), (28, .invokevirtual 132, 3, [2, 0, 0, 12, 129], [1069, 0, 1071, 21, 71, 0, 0, 0]), (31, .nop, 0, [3], [])]),
  ([0, 1], [(31, .aload_n 0, 1, [], []), (32, .getfield 58, 3, [8, 1, 12], [985, 0]), (35, .ifCond .ne 38, 3, [7, 4], [])]),
  ([0, 1], [(38, .iload_n 1, 1, [], []), (39, .bipush 10, 2, [], []), (41, .if_icmp .ge 32, 3, [7, 5], [])]),
  ([0, 1], [(44, .aload_n 0, 1, [], []), (45, .invokevirtual 62, 3, [2, 1, 0, 12, 118], [1073, 0, 1075, 22, 71, 0, 0, 0]), (48, .bipush 59, 2, [], []), (50, .if_icmp .ne 23, 3, [7, 6], [])]),
  ([0, 1], [(53, .aload_n 0, 1, [], []), (54, .dup, 1, [], []), (55, .getfield 52, 3, [6, 0, 12], [983, 0]), (58, .iconst 1, 1, [], []), (59, .iadd, 1, [], []), (60, .putfield 52, 3, [6, 0, 12], [983, 0]), (63, .aload_n 0, 1, [], []), (64, .invokevirtual 132, 3, [2, 0, 0, 12, 129], [1069, 0, 1071, 21, 71, 0, 0, 0]), (67, .iinc 1 1, 3, [], []), (70, .goto (-39), 3, [3], [])]),
  ([0], [(73, .aload_n 0, 1, [], []), (74, .getfield 58, 3, [8, 1, 12], [985, 0]), (77, .ifCond .ne 14, 3, [9, 8], [])]),
  ([0], [(80, .aload_n 0, 1, [], []), (81, .getfield 52, 3, [6, 0, 12], [983, 0]), (84, .aload_n 0, 1, [], []), (85, .getfield 55, 3, [7, 0, 12], [984, 0]), (88, .if_icmp .eq 11, 3, [10, 9], [])]),
  ([0], [(91, .bipush (-10), 2, [], []), (93, .aload_n 0, 1, [], []), (94, .getfield 52, 3, [6, 0, 12], [983, 0]), (97, .isub, 1, [], []), (98, .ireturn, 1, [0], [])]),
  ([0], [(99, .aload_n 0, 1, [], []), (100, .getfield 9, 3, [1, 2, 12], [978, 0]), (103, .iconst 3, 1, [], []), (104, .dup2, 1, [], []), (105, .iaload, 1, [], []), (106, .iconst 1, 1, [], []), (107, .iadd, 1, [], []), (108, .iastore, 1, [], []), (109, .aload_n 0, 1, [], []), (110, .getfield 9, 3, [1, 2, 12], [978, 0]), (113, .bipush 6, 2, [], []), (115, .aload_n 0, 1, [], []), (116, .getfield 79, 3, [4, 0, 12], [981, 0]), (119, .iastore, 1, [], []), (120, .aload_n 0, 1, [], []), (121, .getfield 79, 3, [4, 0, 12], [981, 0]), (124, .ireturn, 1, [0], [])])]
def km_X12_coast : MT := (yX12_coast, cX12_coast, 2, (some .int), kb_X12_coast)
def kb_X12_saying : List (List Nat × List RI) := [
  ([0], [(0, .aload_n 0, 1, [], []), (1, .getfield 9, 3, [1, 2, 12], [978, 0]), (4, .iconst 2, 1, [], []), (5, .iaload, 1, [], []), (6, .iconst 5, 1, [], []), (7, .if_icmp .ne 6, 3, [2, 1], [])]),
  ([], [(10, .bipush (-4), 2, [], []), (12, .ireturn, 1, [0], [])]),
  ([0], [(13, .aload_n 0, 1, [], []), (14, .iconst 5, 1, [], []), (15, .aload_n 0, 1, [], []), (16, .getfield 9, 3, [1, 2, 12], [978, 0]), (19, .iconst 2, 1, [], []), (20, .iaload, 1, [], []), (21, .iadd, 1, [], []), (22, .ldc 135, 2, [1, 12], []), (24, .invokevirtual 129, 3, [2, 0, 2, 12, 130], [1065, 0, 1067, 20, 71, 0, 0, 0]), (27, .aload_n 0, 1, [], []), (28, .invokevirtual 91, 3, [2, 0, 0, 12, 126], [1096, 0, 1098, 27, 71, 0, 0, 0]), (31, .aload_n 0, 1, [], []), (32, .getfield 58, 3, [8, 1, 12], [985, 0]), (35, .ifCond .ne 14, 3, [4, 3], [])]),
  ([0], [(38, .aload_n 0, 1, [], []), (39, .getfield 52, 3, [6, 0, 12], [983, 0]), (42, .aload_n 0, 1, [], []), (43, .getfield 55, 3, [7, 0, 12], [984, 0]), (46, .if_icmp .eq 11, 3, [5, 4], [])]),
  ([0], [(49, .bipush (-10), 2, [], []), (51, .aload_n 0, 1, [], []), (52, .getfield 52, 3, [6, 0, 12], [983, 0]), (55, .isub, 1, [], []), (56, .ireturn, 1, [0], [])]),
  ([0], [(57, .aload_n 0, 1, [], []), (58, .getfield 9, 3, [1, 2, 12], [978, 0]), (61, .iconst 2, 1, [], []), (62, .dup2, 1, [], []), (63, .iaload, 1, [], []), (64, .iconst 1, 1, [], []), (65, .iadd, 1, [], []), (66, .iastore, 1, [], []), (67, .aload_n 0, 1, [], []), (68, .getfield 9, 3, [1, 2, 12], [978, 0]), (71, .iconst 2, 1, [], []), (72, .iaload, 1, [], []), (73, .iconst 1, 1, [], []), (74, .isub, 1, [], []), (75, .ireturn, 1, [0], [])])]
def km_X12_saying : MT := (yX12_saying, cX12_saying, 1, (some .int), kb_X12_saying)
def kb_X12_isSo : List (List Nat × List RI) := [
  ([0, 1], [(0, .iload_n 0, 1, [], []), (1, .bipush 8, 2, [], []), (3, .idiv, 1, [], []), (4, .iconst 4, 1, [], []), (5, .irem, 1, [], []), (6, .istore_n 2, 1, [], []), (7, .iload_n 0, 1, [], []), (8, .bipush 32, 2, [], []), (10, .idiv, 1, [], []), (11, .istore_n 3, 1, [], []), (12, .iload_n 2, 1, [], []), (13, .ifCond .ne 16, 3, [4, 1], [])]),
  ([1, 3], [(16, .iload_n 1, 1, [], []), (17, .iload_n 3, 1, [], []), (18, .if_icmp .ge 7, 3, [3, 2], [])]),
  ([], [(21, .iconst 1, 1, [], []), (22, .goto 35, 3, [11], [])]),
  ([], [(25, .iconst 0, 1, [], []), (26, .goto 31, 3, [11], [])]),
  ([1, 2, 3], [(29, .iload_n 2, 1, [], []), (30, .iconst 1, 1, [], []), (31, .if_icmp .ne 16, 3, [8, 5], [])]),
  ([1, 3], [(34, .iload_n 1, 1, [], []), (35, .iload_n 3, 1, [], []), (36, .if_icmp .ne 7, 3, [7, 6], [])]),
  ([], [(39, .iconst 1, 1, [], []), (40, .goto 17, 3, [11], [])]),
  ([], [(43, .iconst 0, 1, [], []), (44, .goto 13, 3, [11], [])]),
  ([1, 3], [(47, .iload_n 1, 1, [], []), (48, .iload_n 3, 1, [], []), (49, .if_icmp .le 7, 3, [10, 9], [])]),
  ([], [(52, .iconst 1, 1, [], []), (53, .goto 4, 3, [11], [])]),
  ([], [(56, .iconst 0, 1, [], []), (57, .nop, 0, [11], [])]),
  ([], [(57, .ireturn, 1, [1], [])])]
def km_X12_isSo : MT := (yX12_isSo, cX12_isSo, 4, (some .boolean), kb_X12_isSo)
def kb_X12_goesThrough : List (List Nat × List RI) := [
  ([0, 1], [(0, .aload_n 0, 1, [], []), (1, .iconst 0, 1, [], []), (2, .putfield 137, 3, [12, 0, 12], [989, 0]), (5, .aload_n 0, 1, [], []), (6, .iconst 0, 1, [], []), (7, .putfield 140, 3, [13, 0, 12], [990, 0]), (10, .aload_n 0, 1, [], []), (11, .iconst 0, 1, [], []), (12, .putfield 143, 3, [14, 0, 12], [991, 0]), (15, .sipush 162, 3, [], []), (18, .sipush 140, 3, [], []), (21, .iload_n 1, 1, [], []), (22, .imul, 1, [], []), (23, .iadd, 1, [], []), (24, .istore_n 2, 1, [], []), (25, .iload_n 1, 1, [], []), (26, .iconst (-1), 1, [], []), (27, .if_icmp .ne 7, 3, [2, 1], [])]),
  ([0, 2], [(30, .iconst 0, 1, [], []), (31, .goto 13, 3, [3], [])]),
  ([0, 1, 2], [(34, .aload_n 0, 1, [], []), (35, .getfield 9, 3, [1, 2, 12], [978, 0]), (38, .sipush 152, 3, [], []), (41, .iload_n 1, 1, [], []), (42, .iadd, 1, [], []), (43, .iaload, 1, [], []), (44, .nop, 0, [3], [])]),
  ([0, 2], [(44, .istore_n 3, 1, [], []), (45, .iconst 0, 1, [], []), (46, .istore 4, 2, [], []), (48, .iload_n 2, 1, [], []), (49, .istore 5, 2, [], []), (51, .nop, 0, [4], [])]),
  ([0, 2, 3, 4, 5], [(51, .iload 5, 2, [], []), (53, .iload_n 2, 1, [], []), (54, .iload_n 3, 1, [], []), (55, .iadd, 1, [], []), (56, .if_icmp .ge 286, 3, [38, 5], [])]),
  ([0, 2, 3, 4, 5], [(59, .aload_n 0, 1, [], []), (60, .getfield 9, 3, [1, 2, 12], [978, 0]), (63, .iload 5, 2, [], []), (65, .iaload, 1, [], []), (66, .istore 6, 2, [], []), (68, .iload 6, 2, [], []), (70, .ifCond .lt 31, 3, [7, 6], [])]),
  ([0, 2, 3, 4, 5, 6], [(73, .aload_n 0, 1, [], []), (74, .getfield 21, 3, [11, 2, 12], [988, 0]), (77, .iload 4, 2, [], []), (79, .iload 6, 2, [], []), (81, .aload_n 0, 1, [], []), (82, .getfield 18, 3, [10, 2, 12], [987, 0]), (85, .iload 6, 2, [], []), (87, .bipush 8, 2, [], []), (89, .irem, 1, [], []), (90, .iaload, 1, [], []), (91, .invokestatic 146, 3, [0, 1, 2, 133], [0, 1152, 1153]), (94, .bastore, 1, [0], []), (95, .iinc 4 1, 3, [], []), (98, .goto 238, 3, [37], [])]),
  ([0, 2, 3, 4, 5, 6], [(101, .iload 6, 2, [], []), (103, .iconst (-1), 1, [], []), (104, .if_icmp .ne 32, 3, [12, 8], [])]),
  ([0, 2, 3, 4, 5], [(107, .aload_n 0, 1, [], []), (108, .getfield 21, 3, [11, 2, 12], [988, 0]), (111, .iload 4, 2, [], []), (113, .iconst 1, 1, [], []), (114, .isub, 1, [], []), (115, .aload_n 0, 1, [], []), (116, .getfield 21, 3, [11, 2, 12], [988, 0]), (119, .iload 4, 2, [], []), (121, .iconst 1, 1, [], []), (122, .isub, 1, [], []), (123, .baload, 1, [], []), (124, .ifCond .ne 7, 3, [10, 9], [])]),
  ([0, 2, 3, 4, 5], [(127, .iconst 1, 1, [], []), (128, .goto 4, 3, [11], [])]),
  ([0, 2, 3, 4, 5], [(131, .iconst 0, 1, [], []), (132, .nop, 0, [11], [])]),
  ([0, 2, 3, 4, 5], [(132, .bastore, 1, [0], []), (133, .goto 203, 3, [37], [])]),
  ([0, 2, 3, 4, 5, 6], [(136, .iload 6, 2, [], []), (138, .bipush (-10), 2, [], []), (140, .if_icmp .le 82, 3, [23, 13], [])]),
  ([0, 2, 3, 4, 5, 6], [(143, .iinc 4 (-1), 3, [], []), (146, .aload_n 0, 1, [], []), (147, .getfield 21, 3, [11, 2, 12], [988, 0]), (150, .iload 4, 2, [], []), (152, .iconst 1, 1, [], []), (153, .isub, 1, [], []), (154, .iload 6, 2, [], []), (156, .bipush (-2), 2, [], []), (158, .if_icmp .ne 33, 3, [18, 14], [])]),
  ([0, 2, 3, 4, 5], [(161, .aload_n 0, 1, [], []), (162, .getfield 21, 3, [11, 2, 12], [988, 0]), (165, .iload 4, 2, [], []), (167, .iconst 1, 1, [], []), (168, .isub, 1, [], []), (169, .baload, 1, [], []), (170, .ifCond .eq 17, 3, [17, 15], [])]),
  ([0, 2, 3, 4, 5], [(173, .aload_n 0, 1, [], []), (174, .getfield 21, 3, [11, 2, 12], [988, 0]), (177, .iload 4, 2, [], []), (179, .baload, 1, [], []), (180, .ifCond .eq 7, 3, [17, 16], [])]),
  ([0, 2, 3, 4, 5], [(183, .iconst 1, 1, [], []), (184, .goto 34, 3, [22], [])]),
  ([0, 2, 3, 4, 5], [(187, .iconst 0, 1, [], []), (188, .goto 30, 3, [22], [])]),
  ([0, 2, 3, 4, 5], [(191, .aload_n 0, 1, [], []), (192, .getfield 21, 3, [11, 2, 12], [988, 0]), (195, .iload 4, 2, [], []), (197, .iconst 1, 1, [], []), (198, .isub, 1, [], []), (199, .baload, 1, [], []), (200, .ifCond .ne 13, 3, [20, 19], [])]),
  ([0, 2, 3, 4, 5], [(203, .aload_n 0, 1, [], []), (204, .getfield 21, 3, [11, 2, 12], [988, 0]), (207, .iload 4, 2, [], []), (209, .baload, 1, [], []), (210, .ifCond .eq 7, 3, [21, 20], [])]),
  ([0, 2, 3, 4, 5], [(213, .iconst 1, 1, [], []), (214, .goto 4, 3, [22], [])]),
  ([0, 2, 3, 4, 5], [(217, .iconst 0, 1, [], []), (218, .nop, 0, [22], [])]),
  ([0, 2, 3, 4, 5], [(218, .bastore, 1, [0], []), (219, .goto 117, 3, [37], [])]),
  ([0, 2, 3, 5, 6], [(222, .iconst 0, 1, [], []), (223, .istore 4, 2, [], []), (225, .aload_n 0, 1, [], []), (226, .getfield 21, 3, [11, 2, 12], [988, 0]), (229, .iconst 0, 1, [], []), (230, .baload, 1, [], []), (231, .istore 7, 2, [], []), (233, .aload_n 0, 1, [], []), (234, .dup, 1, [], []), (235, .getfield 137, 3, [12, 0, 12], [989, 0]), (238, .iload 7, 2, [], []), (240, .ifCond .eq 19, 3, [26, 24], [])]),
  ([0, 2, 3, 4, 5, 6, 7], [(243, .iload 6, 2, [], []), (245, .sipush (-200), 3, [], []), (248, .if_icmp .le 11, 3, [26, 25], [])]),
  ([0, 2, 3, 4, 5, 6, 7], [(251, .bipush (-10), 2, [], []), (253, .iload 6, 2, [], []), (255, .isub, 1, [], []), (256, .goto 4, 3, [27], [])]),
  ([0, 2, 3, 4, 5, 6, 7], [(259, .iconst 0, 1, [], []), (260, .nop, 0, [27], [])]),
  ([0, 2, 3, 4, 5, 6, 7], [(260, .iadd, 1, [], []), (261, .putfield 137, 3, [12, 0, 12], [989, 0]), (264, .aload_n 0, 1, [], []), (265, .dup, 1, [], []), (266, .getfield 140, 3, [13, 0, 12], [990, 0]), (269, .iload 7, 2, [], []), (271, .ifCond .eq 28, 3, [31, 28], [])]),
  ([0, 2, 3, 4, 5, 6, 7], [(274, .iload 6, 2, [], []), (276, .sipush (-200), 3, [], []), (279, .if_icmp .gt 20, 3, [31, 29], [])]),
  ([0, 2, 3, 4, 5, 6, 7], [(282, .iload 6, 2, [], []), (284, .sipush (-400), 3, [], []), (287, .if_icmp .le 12, 3, [31, 30], [])]),
  ([0, 2, 3, 4, 5, 6, 7], [(290, .sipush (-200), 3, [], []), (293, .iload 6, 2, [], []), (295, .isub, 1, [], []), (296, .goto 4, 3, [32], [])]),
  ([0, 2, 3, 4, 5, 6, 7], [(299, .iconst 0, 1, [], []), (300, .nop, 0, [32], [])]),
  ([0, 2, 3, 4, 5, 6, 7], [(300, .iadd, 1, [], []), (301, .putfield 140, 3, [13, 0, 12], [990, 0]), (304, .aload_n 0, 1, [], []), (305, .dup, 1, [], []), (306, .getfield 143, 3, [14, 0, 12], [991, 0]), (309, .iload 7, 2, [], []), (311, .ifCond .eq 20, 3, [35, 33], [])]),
  ([0, 2, 3, 4, 5, 6], [(314, .iload 6, 2, [], []), (316, .sipush (-400), 3, [], []), (319, .if_icmp .gt 12, 3, [35, 34], [])]),
  ([0, 2, 3, 4, 5, 6], [(322, .sipush (-400), 3, [], []), (325, .iload 6, 2, [], []), (327, .isub, 1, [], []), (328, .goto 4, 3, [36], [])]),
  ([0, 2, 3, 4, 5], [(331, .iconst 0, 1, [], []), (332, .nop, 0, [36], [])]),
  ([0, 2, 3, 4, 5], [(332, .iadd, 1, [], []), (333, .putfield 143, 3, [14, 0, 12], [991, 0]), (336, .nop, 0, [37], [])]),
  ([0, 2, 3, 4, 5], [(336, .iinc 5 1, 3, [], []), (339, .goto (-288), 3, [4], [])]),
  ([0], [(342, .aload_n 0, 1, [], []), (343, .aload_n 0, 1, [], []), (344, .getfield 140, 3, [13, 0, 12], [990, 0]), (347, .iconst 2, 1, [], []), (348, .if_icmp .le 7, 3, [40, 39], [])]),
  ([0], [(351, .iconst 2, 1, [], []), (352, .goto 7, 3, [41], [])]),
  ([0], [(355, .aload_n 0, 1, [], []), (356, .getfield 140, 3, [13, 0, 12], [990, 0]), (359, .nop, 0, [41], [])]),
  ([0], [(359, .putfield 140, 3, [13, 0, 12], [990, 0]), (362, .aload_n 0, 1, [], []), (363, .getfield 21, 3, [11, 2, 12], [988, 0]), (366, .iconst 0, 1, [], []), (367, .baload, 1, [], []), (368, .ireturn, 1, [1], [])])]
def km_X12_goesThrough : MT := (yX12_goesThrough, cX12_goesThrough, 8, (some .boolean), kb_X12_goesThrough)
def kb_X12_looks : List (List Nat × List RI) := [
  ([0, 1, 2, 3, 4], [(0, .aload_n 0, 1, [], []), (1, .getfield 18, 3, [10, 2, 12], [987, 0]), (4, .iconst 0, 1, [], []), (5, .iload_n 1, 1, [], []), (6, .iastore, 1, [], []), (7, .aload_n 0, 1, [], []), (8, .getfield 18, 3, [10, 2, 12], [987, 0]), (11, .iconst 1, 1, [], []), (12, .iload_n 2, 1, [], []), (13, .iastore, 1, [], []), (14, .aload_n 0, 1, [], []), (15, .getfield 18, 3, [10, 2, 12], [987, 0]), (18, .iconst 2, 1, [], []), (19, .iload_n 3, 1, [], []), (20, .bipush 12, 2, [], []), (22, .irem, 1, [], []), (23, .iastore, 1, [], []), (24, .aload_n 0, 1, [], []), (25, .getfield 18, 3, [10, 2, 12], [987, 0]), (28, .iconst 3, 1, [], []), (29, .iload 4, 2, [], []), (31, .iastore, 1, [], []), (32, .aload_n 0, 1, [], []), (33, .aload_n 0, 1, [], []), (34, .getfield 9, 3, [1, 2, 12], [978, 0]), (37, .bipush 6, 2, [], []), (39, .iaload, 1, [], []), (40, .invokevirtual 150, 3, [2, 1, 1, 12, 134], [1148, 0, 1150, 35, 71, 0, 0, 0]), (43, .pop, 1, [], []), (44, .return_, 1, [], [])])]
def km_X12_looks : MT := (yX12_looks, cX12_looks, 5, none, kb_X12_looks)
def kb_X12_stateOf : List (List Nat × List RI) := [
  ([0, 1], [(0, .iload_n 0, 1, [], []), (1, .iconst 2, 1, [], []), (2, .iload_n 1, 1, [], []), (3, .imul, 1, [], []), (4, .ishr, 1, [], []), (5, .iconst 3, 1, [], []), (6, .iand, 1, [], []), (7, .ireturn, 1, [0], [])])]
def km_X12_stateOf : MT := (yX12_stateOf, cX12_stateOf, 2, (some .int), kb_X12_stateOf)
def kb_X12_isTrue : List (List Nat × List RI) := [
  ([0, 1, 2, 3], [(0, .iconst 0, 1, [], []), (1, .istore 4, 2, [], []), (3, .nop, 0, [1], [])]),
  ([0, 1, 2, 3, 4], [(3, .iload 4, 2, [], []), (5, .iconst 4, 1, [], []), (6, .if_icmp .ge 36, 3, [6, 2], [])]),
  ([0, 1, 2, 3, 4], [(9, .aload_n 0, 1, [], []), (10, .getfield 18, 3, [10, 2, 12], [987, 0]), (13, .iload 4, 2, [], []), (15, .aload_n 0, 1, [], []), (16, .iload 4, 2, [], []), (18, .invokevirtual 154, 3, [2, 1, 1, 12, 114], [1136, 0, 1138, 33, 71, 0, 0, 0]), (21, .ifCond .eq 12, 3, [4, 3], [])]),
  ([0, 1, 2, 3, 4], [(24, .iload_n 2, 1, [], []), (25, .iload 4, 2, [], []), (27, .invokestatic 157, 3, [0, 1, 2, 136], [0, 1212, 1213]), (30, .goto 5, 3, [5], [])]),
  ([0, 1, 2, 3, 4], [(33, .bipush 9, 2, [], []), (35, .nop, 0, [5], [])]),
  ([0, 1, 2, 3, 4], [(35, .iastore, 1, [], []), (36, .iinc 4 1, 3, [], []), (39, .goto (-36), 3, [1], [])]),
  ([0, 1, 3], [(42, .aload_n 0, 1, [], []), (43, .getfield 18, 3, [10, 2, 12], [987, 0]), (46, .iconst 4, 1, [], []), (47, .iload_n 3, 1, [], []), (48, .bipush 12, 2, [], []), (50, .irem, 1, [], []), (51, .iastore, 1, [], []), (52, .aload_n 0, 1, [], []), (53, .iconst 5, 1, [], []), (54, .iload_n 1, 1, [], []), (55, .iadd, 1, [], []), (56, .invokevirtual 150, 3, [2, 1, 1, 12, 134], [1148, 0, 1150, 35, 71, 0, 0, 0]), (59, .ireturn, 1, [1], [])])]
def km_X12_isTrue : MT := (yX12_isTrue, cX12_isTrue, 5, (some .boolean), kb_X12_isTrue)
def kb_X12_thing : List (List Nat × List RI) := [
  ([0, 1], [(0, .iload_n 1, 1, [], []), (1, .iconst 0, 1, [], []), (2, .iconst 3, 1, [], []), (3, .invokestatic 48, 3, [0, 1, 3, 113], [0, 1057, 1058]), (6, .ifCond .ne 6, 3, [2, 1], [])]),
  ([], [(9, .bipush (-2), 2, [], []), (11, .ireturn, 1, [0], [])]),
  ([0, 1], [(12, .aload_n 0, 1, [], []), (13, .getfield 9, 3, [1, 2, 12], [978, 0]), (16, .iconst 0, 1, [], []), (17, .iaload, 1, [], []), (18, .iconst 4, 1, [], []), (19, .if_icmp .ne 6, 3, [4, 3], [])]),
  ([], [(22, .bipush (-4), 2, [], []), (24, .ireturn, 1, [0], [])]),
  ([0, 1], [(25, .aload_n 0, 1, [], []), (26, .getfield 9, 3, [1, 2, 12], [978, 0]), (29, .iconst 0, 1, [], []), (30, .iaload, 1, [], []), (31, .istore_n 2, 1, [], []), (32, .aload_n 0, 1, [], []), (33, .getfield 9, 3, [1, 2, 12], [978, 0]), (36, .bipush 10, 2, [], []), (38, .iload_n 2, 1, [], []), (39, .iadd, 1, [], []), (40, .iload_n 1, 1, [], []), (41, .iastore, 1, [], []), (42, .aload_n 0, 1, [], []), (43, .getfield 9, 3, [1, 2, 12], [978, 0]), (46, .iconst 0, 1, [], []), (47, .dup2, 1, [], []), (48, .iaload, 1, [], []), (49, .iconst 1, 1, [], []), (50, .iadd, 1, [], []), (51, .iastore, 1, [], []), (52, .iload_n 2, 1, [], []), (53, .ireturn, 1, [0], [])])]
def km_X12_thing : MT := (yX12_thing, cX12_thing, 3, (some .int), kb_X12_thing)
def kb_X12_put : List (List Nat × List RI) := [
  ([0, 1, 2], [(0, .aload_n 0, 1, [], []), (1, .iload_n 1, 1, [], []), (2, .invokevirtual 154, 3, [2, 1, 1, 12, 114], [1136, 0, 1138, 33, 71, 0, 0, 0]), (5, .ifCond .ne 5, 3, [2, 1], [])]),
  ([], [(8, .iconst (-1), 1, [], []), (9, .ireturn, 1, [0], [])]),
  ([0, 1, 2], [(10, .iload_n 2, 1, [], []), (11, .iconst 0, 1, [], []), (12, .iconst 3, 1, [], []), (13, .invokestatic 48, 3, [0, 1, 3, 113], [0, 1057, 1058]), (16, .ifCond .ne 6, 3, [4, 3], [])]),
  ([], [(19, .bipush (-2), 2, [], []), (21, .ireturn, 1, [0], [])]),
  ([0, 1, 2], [(22, .aload_n 0, 1, [], []), (23, .getfield 9, 3, [1, 2, 12], [978, 0]), (26, .bipush 10, 2, [], []), (28, .iload_n 1, 1, [], []), (29, .iadd, 1, [], []), (30, .iaload, 1, [], []), (31, .istore_n 3, 1, [], []), (32, .aload_n 0, 1, [], []), (33, .getfield 9, 3, [1, 2, 12], [978, 0]), (36, .bipush 10, 2, [], []), (38, .iload_n 1, 1, [], []), (39, .iadd, 1, [], []), (40, .iload_n 2, 1, [], []), (41, .iastore, 1, [], []), (42, .iload_n 3, 1, [], []), (43, .ireturn, 1, [0], [])])]
def km_X12_put : MT := (yX12_put, cX12_put, 4, (some .int), kb_X12_put)
def kb_X12_of : List (List Nat × List RI) := [
  ([0, 1, 2], [(0, .aload_n 0, 1, [], []), (1, .iload_n 1, 1, [], []), (2, .invokevirtual 154, 3, [2, 1, 1, 12, 114], [1136, 0, 1138, 33, 71, 0, 0, 0]), (5, .ifCond .eq 12, 3, [2, 1], [])]),
  ([0, 1, 2], [(8, .iload_n 2, 1, [], []), (9, .iconst 0, 1, [], []), (10, .iconst 2, 1, [], []), (11, .invokestatic 48, 3, [0, 1, 3, 113], [0, 1057, 1058]), (14, .ifCond .ne 5, 3, [3, 2], [])]),
  ([], [(17, .iconst (-1), 1, [], []), (18, .ireturn, 1, [0], [])]),
  ([0, 1, 2], [(19, .aload_n 0, 1, [], []), (20, .iload_n 1, 1, [], []), (21, .aload_n 0, 1, [], []), (22, .getfield 9, 3, [1, 2, 12], [978, 0]), (25, .bipush 10, 2, [], []), (27, .iload_n 1, 1, [], []), (28, .iadd, 1, [], []), (29, .iaload, 1, [], []), (30, .aload_n 0, 1, [], []), (31, .getfield 9, 3, [1, 2, 12], [978, 0]), (34, .bipush 7, 2, [], []), (36, .iaload, 1, [], []), (37, .bipush 9, 2, [], []), (39, .invokevirtual 161, 3, [2, 0, 4, 12, 135], [1144, 0, 1146, 34, 71, 0, 0, 0]), (42, .iload_n 2, 1, [], []), (43, .ifCond .ne 15, 3, [5, 4], [])]),
  ([0, 1], [(46, .aload_n 0, 1, [], []), (47, .getfield 9, 3, [1, 2, 12], [978, 0]), (50, .bipush 10, 2, [], []), (52, .iload_n 1, 1, [], []), (53, .iadd, 1, [], []), (54, .iaload, 1, [], []), (55, .goto 19, 3, [8], [])]),
  ([0, 2], [(58, .iload_n 2, 1, [], []), (59, .iconst 1, 1, [], []), (60, .if_icmp .ne 10, 3, [7, 6], [])]),
  ([0], [(63, .aload_n 0, 1, [], []), (64, .getfield 137, 3, [12, 0, 12], [989, 0]), (67, .goto 7, 3, [8], [])]),
  ([0], [(70, .aload_n 0, 1, [], []), (71, .getfield 140, 3, [13, 0, 12], [990, 0]), (74, .nop, 0, [8], [])]),
  ([], [(74, .ireturn, 1, [0], [])])]
def km_X12_of : MT := (yX12_of, cX12_of, 3, (some .int), kb_X12_of)
def kb_X12_way : List (List Nat × List RI) := [
  ([0, 1, 2, 3, 4], [(0, .iload_n 1, 1, [], []), (1, .iconst 0, 1, [], []), (2, .bipush 6, 2, [], []), (4, .invokestatic 48, 3, [0, 1, 3, 113], [0, 1057, 1058]), (7, .ifCond .ne 5, 3, [2, 1], [])]),
  ([], [(10, .iconst (-1), 1, [], []), (11, .ireturn, 1, [0], [])]),
  ([0, 1, 2, 3, 4], [(12, .iload_n 2, 1, [], []), (13, .iconst 0, 1, [], []), (14, .bipush 9, 2, [], []), (16, .invokestatic 48, 3, [0, 1, 3, 113], [0, 1057, 1058]), (19, .ifCond .eq 24, 3, [5, 3], [])]),
  ([0, 1, 2, 3, 4], [(22, .iload_n 3, 1, [], []), (23, .iconst 0, 1, [], []), (24, .bipush 6, 2, [], []), (26, .invokestatic 48, 3, [0, 1, 3, 113], [0, 1057, 1058]), (29, .ifCond .eq 14, 3, [5, 4], [])]),
  ([0, 1, 2, 3, 4], [(32, .iload 4, 2, [], []), (34, .iconst 0, 1, [], []), (35, .bipush 99, 2, [], []), (37, .invokestatic 48, 3, [0, 1, 3, 113], [0, 1057, 1058]), (40, .ifCond .ne 6, 3, [6, 5], [])]),
  ([], [(43, .bipush (-2), 2, [], []), (45, .ireturn, 1, [0], [])]),
  ([0, 1, 2, 3, 4], [(46, .aload_n 0, 1, [], []), (47, .getfield 9, 3, [1, 2, 12], [978, 0]), (50, .iconst 1, 1, [], []), (51, .iaload, 1, [], []), (52, .iconst 5, 1, [], []), (53, .if_icmp .ne 6, 3, [8, 7], [])]),
  ([], [(56, .bipush (-4), 2, [], []), (58, .ireturn, 1, [0], [])]),
  ([0, 1, 2, 3, 4], [(59, .aload_n 0, 1, [], []), (60, .getfield 9, 3, [1, 2, 12], [978, 0]), (63, .iconst 1, 1, [], []), (64, .iaload, 1, [], []), (65, .istore 5, 2, [], []), (67, .aload_n 0, 1, [], []), (68, .getfield 9, 3, [1, 2, 12], [978, 0]), (71, .bipush 14, 2, [], []), (73, .iload 5, 2, [], []), (75, .iadd, 1, [], []), (76, .iload_n 1, 1, [], []), (77, .iastore, 1, [], []), (78, .aload_n 0, 1, [], []), (79, .getfield 9, 3, [1, 2, 12], [978, 0]), (82, .bipush 19, 2, [], []), (84, .iload 5, 2, [], []), (86, .iadd, 1, [], []), (87, .iload_n 2, 1, [], []), (88, .iastore, 1, [], []), (89, .aload_n 0, 1, [], []), (90, .getfield 9, 3, [1, 2, 12], [978, 0]), (93, .bipush 24, 2, [], []), (95, .iload 5, 2, [], []), (97, .iadd, 1, [], []), (98, .iload_n 3, 1, [], []), (99, .iastore, 1, [], []), (100, .aload_n 0, 1, [], []), (101, .getfield 9, 3, [1, 2, 12], [978, 0]), (104, .bipush 29, 2, [], []), (106, .iload 5, 2, [], []), (108, .iadd, 1, [], []), (109, .iload 4, 2, [], []), (111, .iastore, 1, [], []), (112, .aload_n 0, 1, [], []), (113, .getfield 9, 3, [1, 2, 12], [978, 0]), (116, .bipush 34, 2, [], []), (118, .iload 5, 2, [], []), (120, .iadd, 1, [], []), (121, .iconst 0, 1, [], []), (122, .iastore, 1, [], []), (123, .aload_n 0, 1, [], []), (124, .getfield 9, 3, [1, 2, 12], [978, 0]), (127, .iconst 1, 1, [], []), (128, .dup2, 1, [], []), (129, .iaload, 1, [], []), (130, .iconst 1, 1, [], []), (131, .iadd, 1, [], []), (132, .iastore, 1, [], []), (133, .iload 5, 2, [], []), (135, .ireturn, 1, [0], [])])]
def km_X12_way : MT := (yX12_way, cX12_way, 6, (some .int), kb_X12_way)
def kb_X12_takesAt : List (List Nat × List RI) := [
  ([0, 1, 2], [(0, .aload_n 0, 1, [], []), (1, .getfield 9, 3, [1, 2, 12], [978, 0]), (4, .bipush 24, 2, [], []), (6, .iload_n 1, 1, [], []), (7, .iadd, 1, [], []), (8, .iaload, 1, [], []), (9, .istore_n 3, 1, [], []), (10, .iload_n 3, 1, [], []), (11, .iload_n 2, 1, [], []), (12, .iconst 2, 1, [], []), (13, .irem, 1, [], []), (14, .iconst 1, 1, [], []), (15, .if_icmp .ne 17, 3, [2, 1], [])]),
  ([0, 1, 2, 3], [(18, .aload_n 0, 1, [], []), (19, .getfield 9, 3, [1, 2, 12], [978, 0]), (22, .bipush 19, 2, [], []), (24, .iload_n 1, 1, [], []), (25, .iadd, 1, [], []), (26, .iaload, 1, [], []), (27, .iconst 3, 1, [], []), (28, .irem, 1, [], []), (29, .goto 4, 3, [3], [])]),
  ([0, 1, 2, 3], [(32, .iconst 0, 1, [], []), (33, .nop, 0, [3], [])]),
  ([0, 1, 2, 3], [(33, .iadd, 1, [], []), (34, .istore 4, 2, [], []), (36, .iload_n 2, 1, [], []), (37, .bipush 12, 2, [], []), (39, .irem, 1, [], []), (40, .bipush 6, 2, [], []), (42, .if_icmp .lt 7, 3, [5, 4], [])]),
  ([0, 1, 3, 4], [(45, .iconst 1, 1, [], []), (46, .goto 4, 3, [6], [])]),
  ([0, 1, 3, 4], [(49, .iload_n 3, 1, [], []), (50, .nop, 0, [6], [])]),
  ([0, 1, 3, 4], [(50, .istore 5, 2, [], []), (52, .aload_n 0, 1, [], []), (53, .getfield 9, 3, [1, 2, 12], [978, 0]), (56, .bipush 14, 2, [], []), (58, .iload_n 1, 1, [], []), (59, .iadd, 1, [], []), (60, .iaload, 1, [], []), (61, .tableswitch 78 1 6 #[39, 45, 62, 39, 48, 65], 39, [15, 7, 8, 13, 7, 9, 14], [])]),
  ([3], [(100, .iload_n 3, 1, [], []), (101, .iconst 1, 1, [], []), (102, .iadd, 1, [], []), (103, .iconst 2, 1, [], []), (104, .idiv, 1, [], []), (105, .ireturn, 1, [0], [])]),
  ([4], [(106, .iload 4, 2, [], []), (108, .ireturn, 1, [0], [])]),
  ([4], [(109, .iload 4, 2, [], []), (111, .ifCond .ne 7, 3, [11, 10], [])]),
  ([], [(114, .iconst 0, 1, [], []), (115, .goto 7, 3, [12], [])]),
  ([4], [(118, .iload 4, 2, [], []), (120, .iconst 1, 1, [], []), (121, .isub, 1, [], []), (122, .nop, 0, [12], [])]),
  ([], [(122, .ireturn, 1, [0], [])]),
  ([5], [(123, .iload 5, 2, [], []), (125, .ireturn, 1, [0], [])]),
  ([0, 1, 5], [(126, .iload 5, 2, [], []), (128, .aload_n 0, 1, [], []), (129, .getfield 9, 3, [1, 2, 12], [978, 0]), (132, .bipush 34, 2, [], []), (134, .iload_n 1, 1, [], []), (135, .iadd, 1, [], []), (136, .iaload, 1, [], []), (137, .iadd, 1, [], []), (138, .ireturn, 1, [0], [])]),
  ([3], [(139, .iload_n 3, 1, [], []), (140, .ireturn, 1, [0], [])])]
def km_X12_takesAt : MT := (yX12_takesAt, cX12_takesAt, 6, (some .int), kb_X12_takesAt)
def kb_X12_takes : List (List Nat × List RI) := [
  ([0, 1], [(0, .aload_n 0, 1, [], []), (1, .iload_n 1, 1, [], []), (2, .aload_n 0, 1, [], []), (3, .getfield 9, 3, [1, 2, 12], [978, 0]), (6, .bipush 7, 2, [], []), (8, .iaload, 1, [], []), (9, .invokevirtual 165, 3, [2, 1, 2, 12, 142], [1171, 0, 1173, 38, 71, 0, 0, 0]), (12, .ireturn, 1, [0], [])])]
def km_X12_takes : MT := (yX12_takes, cX12_takes, 2, (some .int), kb_X12_takes)
def kb_X12_costsOf : List (List Nat × List RI) := [
  ([0, 1], [(0, .aload_n 0, 1, [], []), (1, .bipush 9, 2, [], []), (3, .bipush 9, 2, [], []), (5, .aload_n 0, 1, [], []), (6, .getfield 9, 3, [1, 2, 12], [978, 0]), (9, .bipush 7, 2, [], []), (11, .iaload, 1, [], []), (12, .aload_n 0, 1, [], []), (13, .getfield 9, 3, [1, 2, 12], [978, 0]), (16, .bipush 14, 2, [], []), (18, .iload_n 1, 1, [], []), (19, .iadd, 1, [], []), (20, .iaload, 1, [], []), (21, .invokevirtual 161, 3, [2, 0, 4, 12, 135], [1144, 0, 1146, 34, 71, 0, 0, 0]), (24, .aload_n 0, 1, [], []), (25, .getfield 9, 3, [1, 2, 12], [978, 0]), (28, .bipush 29, 2, [], []), (30, .iload_n 1, 1, [], []), (31, .iadd, 1, [], []), (32, .iaload, 1, [], []), (33, .aload_n 0, 1, [], []), (34, .getfield 143, 3, [14, 0, 12], [991, 0]), (37, .iadd, 1, [], []), (38, .aload_n 0, 1, [], []), (39, .getfield 9, 3, [1, 2, 12], [978, 0]), (42, .bipush 14, 2, [], []), (44, .iload_n 1, 1, [], []), (45, .iadd, 1, [], []), (46, .iaload, 1, [], []), (47, .iconst 4, 1, [], []), (48, .if_icmp .ne 15, 3, [2, 1], [])]),
  ([0, 1], [(51, .aload_n 0, 1, [], []), (52, .getfield 9, 3, [1, 2, 12], [978, 0]), (55, .bipush 19, 2, [], []), (57, .iload_n 1, 1, [], []), (58, .iadd, 1, [], []), (59, .iaload, 1, [], []), (60, .goto 4, 3, [3], [])]),
  ([], [(63, .iconst 0, 1, [], []), (64, .nop, 0, [3], [])]),
  ([], [(64, .iadd, 1, [], []), (65, .ireturn, 1, [0], [])])]
def km_X12_costsOf : MT := (yX12_costsOf, cX12_costsOf, 2, (some .int), kb_X12_costsOf)
def kb_X12_at : List (List Nat × List RI) := [
  ([0, 1, 2], [(0, .aload_n 0, 1, [], []), (1, .iload_n 1, 1, [], []), (2, .invokevirtual 168, 3, [2, 1, 1, 12, 115], [1163, 0, 1165, 36, 71, 0, 0, 0]), (5, .ifCond .eq 13, 3, [2, 1], [])]),
  ([0, 1, 2], [(8, .iload_n 2, 1, [], []), (9, .iconst 0, 1, [], []), (10, .bipush 6, 2, [], []), (12, .invokestatic 48, 3, [0, 1, 3, 113], [0, 1057, 1058]), (15, .ifCond .ne 5, 3, [3, 2], [])]),
  ([], [(18, .iconst (-1), 1, [], []), (19, .ireturn, 1, [0], [])]),
  ([0, 1, 2], [(20, .iload_n 2, 1, [], []), (21, .iconst 4, 1, [], []), (22, .if_icmp .ge 17, 3, [5, 4], [])]),
  ([0, 1, 2], [(25, .aload_n 0, 1, [], []), (26, .getfield 9, 3, [1, 2, 12], [978, 0]), (29, .bipush 14, 2, [], []), (31, .iconst 5, 1, [], []), (32, .iload_n 2, 1, [], []), (33, .imul, 1, [], []), (34, .iadd, 1, [], []), (35, .iload_n 1, 1, [], []), (36, .iadd, 1, [], []), (37, .iaload, 1, [], []), (38, .ireturn, 1, [0], [])]),
  ([0, 1, 2], [(39, .iload_n 2, 1, [], []), (40, .iconst 4, 1, [], []), (41, .if_icmp .ne 11, 3, [7, 6], [])]),
  ([0, 1], [(44, .aload_n 0, 1, [], []), (45, .iload_n 1, 1, [], []), (46, .invokevirtual 171, 3, [2, 1, 1, 12, 143], [1167, 0, 1169, 37, 71, 0, 0, 0]), (49, .goto 25, 3, [10], [])]),
  ([0, 1, 2], [(52, .iload_n 2, 1, [], []), (53, .iconst 5, 1, [], []), (54, .if_icmp .ne 11, 3, [9, 8], [])]),
  ([0, 1], [(57, .aload_n 0, 1, [], []), (58, .iload_n 1, 1, [], []), (59, .invokevirtual 175, 3, [2, 1, 1, 12, 144], [1175, 0, 1177, 39, 71, 0, 0, 0]), (62, .goto 12, 3, [10], [])]),
  ([0, 1], [(65, .aload_n 0, 1, [], []), (66, .getfield 9, 3, [1, 2, 12], [978, 0]), (69, .bipush 34, 2, [], []), (71, .iload_n 1, 1, [], []), (72, .iadd, 1, [], []), (73, .iaload, 1, [], []), (74, .nop, 0, [10], [])]),
  ([], [(74, .ireturn, 1, [0], [])])]
def km_X12_at : MT := (yX12_at, cX12_at, 3, (some .int), kb_X12_at)
def kb_X12_bribe : List (List Nat × List RI) := [
  ([0, 1, 2], [(0, .aload_n 0, 1, [], []), (1, .iload_n 1, 1, [], []), (2, .invokevirtual 168, 3, [2, 1, 1, 12, 115], [1163, 0, 1165, 36, 71, 0, 0, 0]), (5, .ifCond .ne 5, 3, [2, 1], [])]),
  ([], [(8, .iconst (-1), 1, [], []), (9, .ireturn, 1, [0], [])]),
  ([0, 1, 2], [(10, .iload_n 2, 1, [], []), (11, .iconst 0, 1, [], []), (12, .bipush 6, 2, [], []), (14, .invokestatic 48, 3, [0, 1, 3, 113], [0, 1057, 1058]), (17, .ifCond .ne 6, 3, [4, 3], [])]),
  ([], [(20, .bipush (-2), 2, [], []), (22, .ireturn, 1, [0], [])]),
  ([0, 1, 2], [(23, .aload_n 0, 1, [], []), (24, .getfield 9, 3, [1, 2, 12], [978, 0]), (27, .bipush 14, 2, [], []), (29, .iload_n 1, 1, [], []), (30, .iadd, 1, [], []), (31, .iaload, 1, [], []), (32, .bipush 6, 2, [], []), (34, .if_icmp .eq 6, 3, [6, 5], [])]),
  ([], [(37, .bipush (-3), 2, [], []), (39, .ireturn, 1, [0], [])]),
  ([0, 1, 2], [(40, .aload_n 0, 1, [], []), (41, .getfield 9, 3, [1, 2, 12], [978, 0]), (44, .bipush 34, 2, [], []), (46, .iload_n 1, 1, [], []), (47, .iadd, 1, [], []), (48, .iaload, 1, [], []), (49, .istore_n 3, 1, [], []), (50, .aload_n 0, 1, [], []), (51, .getfield 9, 3, [1, 2, 12], [978, 0]), (54, .bipush 34, 2, [], []), (56, .iload_n 1, 1, [], []), (57, .iadd, 1, [], []), (58, .iload_n 2, 1, [], []), (59, .iastore, 1, [], []), (60, .iload_n 3, 1, [], []), (61, .ireturn, 1, [0], [])])]
def km_X12_bribe : MT := (yX12_bribe, cX12_bribe, 4, (some .int), kb_X12_bribe)
def kb_X12_now : List (List Nat × List RI) := [
  ([0], [(0, .aload_n 0, 1, [], []), (1, .getfield 9, 3, [1, 2, 12], [978, 0]), (4, .bipush 7, 2, [], []), (6, .iaload, 1, [], []), (7, .ireturn, 1, [0], [])])]
def km_X12_now : MT := (yX12_now, cX12_now, 1, (some .int), kb_X12_now)
def kb_X12_hour : List (List Nat × List RI) := [
  ([0, 1], [(0, .iload_n 1, 1, [], []), (1, .iconst 0, 1, [], []), (2, .bipush 15, 2, [], []), (4, .invokestatic 48, 3, [0, 1, 3, 113], [0, 1057, 1058]), (7, .ifCond .ne 6, 3, [2, 1], [])]),
  ([], [(10, .bipush (-2), 2, [], []), (12, .ireturn, 1, [0], [])]),
  ([0, 1], [(13, .aload_n 0, 1, [], []), (14, .getfield 9, 3, [1, 2, 12], [978, 0]), (17, .bipush 7, 2, [], []), (19, .iaload, 1, [], []), (20, .sipush 999, 3, [], []), (23, .if_icmp .ne 6, 3, [4, 3], [])]),
  ([], [(26, .bipush (-3), 2, [], []), (28, .ireturn, 1, [0], [])]),
  ([0, 1], [(29, .iconst 0, 1, [], []), (30, .istore_n 2, 1, [], []), (31, .nop, 0, [5], [])]),
  ([0, 1, 2], [(31, .iload_n 2, 1, [], []), (32, .aload_n 0, 1, [], []), (33, .getfield 9, 3, [1, 2, 12], [978, 0]), (36, .iconst 0, 1, [], []), (37, .iaload, 1, [], []), (38, .if_icmp .ge 90, 3, [12, 6], [])]),
  ([0, 1, 2], [(41, .aload_n 0, 1, [], []), (42, .iload_n 2, 1, [], []), (43, .aload_n 0, 1, [], []), (44, .getfield 9, 3, [1, 2, 12], [978, 0]), (47, .bipush 10, 2, [], []), (49, .iload_n 2, 1, [], []), (50, .iadd, 1, [], []), (51, .iaload, 1, [], []), (52, .aload_n 0, 1, [], []), (53, .getfield 9, 3, [1, 2, 12], [978, 0]), (56, .bipush 7, 2, [], []), (58, .iaload, 1, [], []), (59, .bipush 9, 2, [], []), (61, .invokevirtual 161, 3, [2, 0, 4, 12, 135], [1144, 0, 1146, 34, 71, 0, 0, 0]), (64, .aload_n 0, 1, [], []), (65, .getfield 140, 3, [13, 0, 12], [990, 0]), (68, .iconst 2, 1, [], []), (69, .if_icmp .eq 20, 3, [9, 7], [])]),
  ([0, 1, 2], [(72, .aload_n 0, 1, [], []), (73, .getfield 140, 3, [13, 0, 12], [990, 0]), (76, .iconst 1, 1, [], []), (77, .if_icmp .ne 16, 3, [10, 8], [])]),
  ([0, 1, 2], [(80, .iload_n 1, 1, [], []), (81, .iload_n 2, 1, [], []), (82, .ishr, 1, [], []), (83, .iconst 1, 1, [], []), (84, .iand, 1, [], []), (85, .iconst 1, 1, [], []), (86, .if_icmp .ne 7, 3, [10, 9], [])]),
  ([0, 1, 2], [(89, .iconst 1, 1, [], []), (90, .goto 4, 3, [11], [])]),
  ([0, 1, 2], [(93, .iconst 0, 1, [], []), (94, .nop, 0, [11], [])]),
  ([0, 1, 2], [(94, .istore_n 3, 1, [], []), (95, .aload_n 0, 1, [], []), (96, .getfield 9, 3, [1, 2, 12], [978, 0]), (99, .bipush 10, 2, [], []), (101, .iload_n 2, 1, [], []), (102, .iadd, 1, [], []), (103, .aload_n 0, 1, [], []), (104, .getfield 9, 3, [1, 2, 12], [978, 0]), (107, .bipush 10, 2, [], []), (109, .iload_n 2, 1, [], []), (110, .iadd, 1, [], []), (111, .iaload, 1, [], []), (112, .aload_n 0, 1, [], []), (113, .getfield 137, 3, [12, 0, 12], [989, 0]), (116, .iadd, 1, [], []), (117, .iload_n 3, 1, [], []), (118, .iadd, 1, [], []), (119, .iconst 4, 1, [], []), (120, .irem, 1, [], []), (121, .iastore, 1, [], []), (122, .iinc 2 1, 3, [], []), (125, .goto (-94), 3, [5], [])]),
  ([0], [(128, .aload_n 0, 1, [], []), (129, .getfield 9, 3, [1, 2, 12], [978, 0]), (132, .bipush 7, 2, [], []), (134, .dup2, 1, [], []), (135, .iaload, 1, [], []), (136, .iconst 1, 1, [], []), (137, .iadd, 1, [], []), (138, .iastore, 1, [], []), (139, .aload_n 0, 1, [], []), (140, .getfield 9, 3, [1, 2, 12], [978, 0]), (143, .bipush 7, 2, [], []), (145, .iaload, 1, [], []), (146, .ireturn, 1, [0], [])])]
def km_X12_hour : MT := (yX12_hour, cX12_hour, 4, (some .int), kb_X12_hour)
def kb_X12_beginsAll : List (List Nat × List RI) := [
  ([0, 1], [(0, .iconst 0, 1, [], []), (1, .istore_n 2, 1, [], []), (2, .nop, 0, [1], [])]),
  ([0, 1, 2], [(2, .iload_n 2, 1, [], []), (3, .iconst 4, 1, [], []), (4, .if_icmp .ge 46, 3, [9, 2], [])]),
  ([0, 1, 2], [(7, .iconst 0, 1, [], []), (8, .istore_n 3, 1, [], []), (9, .nop, 0, [3], [])]),
  ([0, 1, 2, 3], [(9, .iload_n 3, 1, [], []), (10, .iconst 4, 1, [], []), (11, .if_icmp .ge 33, 3, [8, 4], [])]),
  ([0, 1, 2, 3], [(14, .aload_n 0, 1, [], []), (15, .getfield 25, 3, [15, 2, 12], [992, 0]), (18, .iconst 4, 1, [], []), (19, .iload_n 2, 1, [], []), (20, .imul, 1, [], []), (21, .iload_n 3, 1, [], []), (22, .iadd, 1, [], []), (23, .iload_n 1, 1, [], []), (24, .iload_n 2, 1, [], []), (25, .invokestatic 157, 3, [0, 1, 2, 136], [0, 1212, 1213]), (28, .iload_n 3, 1, [], []), (29, .if_icmp .ne 7, 3, [6, 5], [])]),
  ([0, 1, 2, 3], [(32, .lconst 1, 1, [], []), (33, .goto 4, 3, [7], [])]),
  ([0, 1, 2, 3], [(36, .lconst 0, 1, [], []), (37, .nop, 0, [7], [])]),
  ([0, 1, 2, 3], [(37, .lastore, 1, [], []), (38, .iinc 3 1, 3, [], []), (41, .goto (-32), 3, [3], [])]),
  ([0, 1, 2], [(44, .iinc 2 1, 3, [], []), (47, .goto (-45), 3, [1], [])]),
  ([], [(50, .return_, 1, [], [])])]
def km_X12_beginsAll : MT := (yX12_beginsAll, cX12_beginsAll, 4, none, kb_X12_beginsAll)
def kb_X12_statesNow : List (List Nat × List RI) := [
  ([0], [(0, .iconst 0, 1, [], []), (1, .istore_n 1, 1, [], []), (2, .iconst 0, 1, [], []), (3, .istore_n 2, 1, [], []), (4, .nop, 0, [1], [])]),
  ([0, 1, 2], [(4, .iload_n 2, 1, [], []), (5, .aload_n 0, 1, [], []), (6, .getfield 9, 3, [1, 2, 12], [978, 0]), (9, .iconst 0, 1, [], []), (10, .iaload, 1, [], []), (11, .if_icmp .ge 25, 3, [3, 2], [])]),
  ([0, 1, 2], [(14, .iload_n 1, 1, [], []), (15, .aload_n 0, 1, [], []), (16, .getfield 9, 3, [1, 2, 12], [978, 0]), (19, .bipush 10, 2, [], []), (21, .iload_n 2, 1, [], []), (22, .iadd, 1, [], []), (23, .iaload, 1, [], []), (24, .iconst 2, 1, [], []), (25, .iload_n 2, 1, [], []), (26, .imul, 1, [], []), (27, .ishl, 1, [], []), (28, .ior, 1, [], []), (29, .istore_n 1, 1, [], []), (30, .iinc 2 1, 3, [], []), (33, .goto (-29), 3, [1], [])]),
  ([1], [(36, .iload_n 1, 1, [], []), (37, .ireturn, 1, [0], [])])]
def km_X12_statesNow : MT := (yX12_statesNow, cX12_statesNow, 3, (some .int), kb_X12_statesNow)
def kb_X12_goesOn : List (List Nat × List RI) := [
  ([0, 1, 2], [(0, .iconst 0, 1, [], []), (1, .istore_n 3, 1, [], []), (2, .nop, 0, [1], [])]),
  ([0, 1, 2, 3], [(2, .iload_n 3, 1, [], []), (3, .iconst 4, 1, [], []), (4, .if_icmp .ge 16, 3, [3, 2], [])]),
  ([0, 1, 2, 3], [(7, .aload_n 0, 1, [], []), (8, .getfield 29, 3, [16, 2, 12], [993, 0]), (11, .iload_n 3, 1, [], []), (12, .lconst 0, 1, [], []), (13, .lastore, 1, [], []), (14, .iinc 3 1, 3, [], []), (17, .goto (-15), 3, [1], [])]),
  ([0, 1, 2], [(20, .iconst 0, 1, [], []), (21, .istore_n 3, 1, [], []), (22, .nop, 0, [4], [])]),
  ([0, 1, 2, 3], [(22, .iload_n 3, 1, [], []), (23, .iconst 4, 1, [], []), (24, .if_icmp .ge 86, 3, [6, 5], [])]),
  ([0, 1, 2, 3], [(27, .aload_n 0, 1, [], []), (28, .iload_n 1, 1, [], []), (29, .iload_n 3, 1, [], []), (30, .iload_n 2, 1, [], []), (31, .bipush 9, 2, [], []), (33, .invokevirtual 161, 3, [2, 0, 4, 12, 135], [1144, 0, 1146, 34, 71, 0, 0, 0]), (36, .iload_n 3, 1, [], []), (37, .aload_n 0, 1, [], []), (38, .getfield 137, 3, [12, 0, 12], [989, 0]), (41, .iadd, 1, [], []), (42, .iconst 4, 1, [], []), (43, .irem, 1, [], []), (44, .istore 4, 2, [], []), (46, .aload_n 0, 1, [], []), (47, .getfield 29, 3, [16, 2, 12], [993, 0]), (50, .iload 4, 2, [], []), (52, .dup2, 1, [], []), (53, .laload, 1, [], []), (54, .iconst 2, 1, [], []), (55, .aload_n 0, 1, [], []), (56, .getfield 140, 3, [13, 0, 12], [990, 0]), (59, .isub, 1, [], []), (60, .i2l, 1, [], []), (61, .aload_n 0, 1, [], []), (62, .getfield 25, 3, [15, 2, 12], [992, 0]), (65, .iconst 4, 1, [], []), (66, .iload_n 1, 1, [], []), (67, .imul, 1, [], []), (68, .iload_n 3, 1, [], []), (69, .iadd, 1, [], []), (70, .laload, 1, [], []), (71, .lmul, 1, [], []), (72, .ladd, 1, [], []), (73, .lastore, 1, [], []), (74, .aload_n 0, 1, [], []), (75, .getfield 29, 3, [16, 2, 12], [993, 0]), (78, .iload 4, 2, [], []), (80, .iconst 1, 1, [], []), (81, .iadd, 1, [], []), (82, .iconst 4, 1, [], []), (83, .irem, 1, [], []), (84, .dup2, 1, [], []), (85, .laload, 1, [], []), (86, .aload_n 0, 1, [], []), (87, .getfield 140, 3, [13, 0, 12], [990, 0]), (90, .i2l, 1, [], []), (91, .aload_n 0, 1, [], []), (92, .getfield 25, 3, [15, 2, 12], [992, 0]), (95, .iconst 4, 1, [], []), (96, .iload_n 1, 1, [], []), (97, .imul, 1, [], []), (98, .iload_n 3, 1, [], []), (99, .iadd, 1, [], []), (100, .laload, 1, [], []), (101, .lmul, 1, [], []), (102, .ladd, 1, [], []), (103, .lastore, 1, [], []), (104, .iinc 3 1, 3, [], []), (107, .goto (-85), 3, [4], [])]),
  ([0, 1], [(110, .iconst 0, 1, [], []), (111, .istore_n 3, 1, [], []), (112, .nop, 0, [7], [])]),
  ([0, 1, 3], [(112, .iload_n 3, 1, [], []), (113, .iconst 4, 1, [], []), (114, .if_icmp .ge 25, 3, [9, 8], [])]),
  ([0, 1, 3], [(117, .aload_n 0, 1, [], []), (118, .getfield 25, 3, [15, 2, 12], [992, 0]), (121, .iconst 4, 1, [], []), (122, .iload_n 1, 1, [], []), (123, .imul, 1, [], []), (124, .iload_n 3, 1, [], []), (125, .iadd, 1, [], []), (126, .aload_n 0, 1, [], []), (127, .getfield 29, 3, [16, 2, 12], [993, 0]), (130, .iload_n 3, 1, [], []), (131, .laload, 1, [], []), (132, .lastore, 1, [], []), (133, .iinc 3 1, 3, [], []), (136, .goto (-24), 3, [7], [])]),
  ([], [(139, .return_, 1, [], [])])]
def km_X12_goesOn : MT := (yX12_goesOn, cX12_goesOn, 5, none, kb_X12_goesOn)
def kb_X12_goesAll : List (List Nat × List RI) := [
  ([0, 1], [(0, .iconst 0, 1, [], []), (1, .istore_n 2, 1, [], []), (2, .nop, 0, [1], [])]),
  ([0, 1, 2], [(2, .iload_n 2, 1, [], []), (3, .iload_n 1, 1, [], []), (4, .if_icmp .ge 41, 3, [6, 2], [])]),
  ([0, 1, 2], [(7, .iconst 0, 1, [], []), (8, .istore_n 3, 1, [], []), (9, .nop, 0, [3], [])]),
  ([0, 1, 2, 3], [(9, .iload_n 3, 1, [], []), (10, .aload_n 0, 1, [], []), (11, .getfield 9, 3, [1, 2, 12], [978, 0]), (14, .iconst 0, 1, [], []), (15, .iaload, 1, [], []), (16, .if_icmp .ge 23, 3, [5, 4], [])]),
  ([0, 1, 2, 3], [(19, .aload_n 0, 1, [], []), (20, .iload_n 3, 1, [], []), (21, .aload_n 0, 1, [], []), (22, .getfield 9, 3, [1, 2, 12], [978, 0]), (25, .bipush 7, 2, [], []), (27, .iaload, 1, [], []), (28, .iload_n 2, 1, [], []), (29, .iadd, 1, [], []), (30, .invokevirtual 178, 3, [2, 0, 2, 12, 151], [1219, 0, 1221, 45, 71, 0, 0, 0]), (33, .iinc 3 1, 3, [], []), (36, .goto (-27), 3, [3], [])]),
  ([0, 1, 2], [(39, .iinc 2 1, 3, [], []), (42, .goto (-40), 3, [1], [])]),
  ([], [(45, .return_, 1, [], [])])]
def km_X12_goesAll : MT := (yX12_goesAll, cX12_goesAll, 4, none, kb_X12_goesAll)
def kb_X12_oftenOf : List (List Nat × List RI) := [
  ([0, 1], [(0, .lconst 1, 1, [], []), (1, .lstore_n 2, 1, [], []), (2, .iconst 0, 1, [], []), (3, .istore 4, 2, [], []), (5, .nop, 0, [1], [])]),
  ([0, 1, 2, 4], [(5, .iload 4, 2, [], []), (7, .aload_n 0, 1, [], []), (8, .getfield 9, 3, [1, 2, 12], [978, 0]), (11, .iconst 0, 1, [], []), (12, .iaload, 1, [], []), (13, .if_icmp .ge 28, 3, [3, 2], [])]),
  ([0, 1, 2, 4], [(16, .lload_n 2, 1, [], []), (17, .aload_n 0, 1, [], []), (18, .getfield 25, 3, [15, 2, 12], [992, 0]), (21, .iconst 4, 1, [], []), (22, .iload 4, 2, [], []), (24, .imul, 1, [], []), (25, .iload_n 1, 1, [], []), (26, .iload 4, 2, [], []), (28, .invokestatic 157, 3, [0, 1, 2, 136], [0, 1212, 1213]), (31, .iadd, 1, [], []), (32, .laload, 1, [], []), (33, .lmul, 1, [], []), (34, .lstore_n 2, 1, [], []), (35, .iinc 4 1, 3, [], []), (38, .goto (-33), 3, [1], [])]),
  ([2], [(41, .lload_n 2, 1, [], []), (42, .lreturn, 1, [], [])])]
def km_X12_oftenOf : MT := (yX12_oftenOf, cX12_oftenOf, 5, (some .long), kb_X12_oftenOf)
def kb_X12_allStates : List (List Nat × List RI) := [
  ([0], [(0, .iconst 1, 1, [], []), (1, .iconst 2, 1, [], []), (2, .aload_n 0, 1, [], []), (3, .getfield 9, 3, [1, 2, 12], [978, 0]), (6, .iconst 0, 1, [], []), (7, .iaload, 1, [], []), (8, .imul, 1, [], []), (9, .ishl, 1, [], []), (10, .ireturn, 1, [0], [])])]
def km_X12_allStates : MT := (yX12_allStates, cX12_allStates, 1, (some .int), kb_X12_allStates)
def kb_X12_twos : List (List Nat × List RI) := [
  ([0], [(0, .lconst 1, 1, [], []), (1, .iload_n 0, 1, [], []), (2, .lshl, 1, [], []), (3, .lreturn, 1, [], [])])]
def km_X12_twos : MT := (yX12_twos, cX12_twos, 1, (some .long), kb_X12_twos)
def kb_X12_allOften : List (List Nat × List RI) := [
  ([0, 1], [(0, .iload_n 1, 1, [], []), (1, .aload_n 0, 1, [], []), (2, .getfield 9, 3, [1, 2, 12], [978, 0]), (5, .iconst 0, 1, [], []), (6, .iaload, 1, [], []), (7, .imul, 1, [], []), (8, .invokestatic 182, 3, [0, 2, 1, 155], [0, 1243, 1244]), (11, .lreturn, 1, [], [])])]
def km_X12_allOften : MT := (yX12_allOften, cX12_allOften, 2, (some .long), kb_X12_allOften)
def kb_X12_oftenTrue : List (List Nat × List RI) := [
  ([0, 1, 2], [(0, .lconst 0, 1, [], []), (1, .lstore_n 3, 1, [], []), (2, .iconst 0, 1, [], []), (3, .istore 5, 2, [], []), (5, .nop, 0, [1], [])]),
  ([0, 1, 2, 3, 5], [(5, .iload 5, 2, [], []), (7, .aload_n 0, 1, [], []), (8, .invokevirtual 186, 3, [2, 1, 0, 12, 154], [1227, 0, 1229, 47, 71, 0, 0, 0]), (11, .if_icmp .ge 52, 3, [7, 2], [])]),
  ([0, 1, 2, 3, 5], [(14, .aload_n 0, 1, [], []), (15, .iload 5, 2, [], []), (17, .invokevirtual 189, 3, [2, 2, 1, 12, 153], [1231, 0, 1233, 48, 71, 0, 0, 0]), (20, .lstore 6, 2, [], []), (22, .lload_n 3, 1, [], []), (23, .lload 6, 2, [], []), (25, .lconst 0, 1, [], []), (26, .lcmp, 1, [], []), (27, .ifCond .le 27, 3, [5, 3], [])]),
  ([0, 1, 2, 5, 6], [(30, .aload_n 0, 1, [], []), (31, .iload_n 1, 1, [], []), (32, .iload 5, 2, [], []), (34, .aload_n 0, 1, [], []), (35, .getfield 9, 3, [1, 2, 12], [978, 0]), (38, .bipush 7, 2, [], []), (40, .iaload, 1, [], []), (41, .iload_n 2, 1, [], []), (42, .iadd, 1, [], []), (43, .invokevirtual 192, 3, [2, 1, 3, 12, 137], [1235, 0, 1237, 49, 71, 0, 0, 0]), (46, .ifCond .eq 8, 3, [5, 4], [])]),
  ([0, 1, 2, 5, 6], [(49, .lload 6, 2, [], []), (51, .goto 4, 3, [6], [])]),
  ([0, 1, 2, 5], [(54, .lconst 0, 1, [], []), (55, .nop, 0, [6], [])]),
  ([0, 1, 2, 5], [(55, .ladd, 1, [], []), (56, .lstore_n 3, 1, [], []), (57, .iinc 5 1, 3, [], []), (60, .goto (-55), 3, [1], [])]),
  ([3], [(63, .lload_n 3, 1, [], []), (64, .lreturn, 1, [], [])])]
def km_X12_oftenTrue : MT := (yX12_oftenTrue, cX12_oftenTrue, 8, (some .long), kb_X12_oftenTrue)
def kb_X12_heardTrue : List (List Nat × List RI) := [
  ([0, 1, 2], [(0, .aload_n 0, 1, [], []), (1, .aload_n 0, 1, [], []), (2, .invokevirtual 195, 3, [2, 1, 0, 12, 150], [1204, 0, 1206, 42, 71, 0, 0, 0]), (5, .invokevirtual 198, 3, [2, 0, 1, 12, 149], [1208, 0, 1210, 43, 71, 0, 0, 0]), (8, .aload_n 0, 1, [], []), (9, .aload_n 0, 1, [], []), (10, .iload_n 2, 1, [], []), (11, .invokevirtual 171, 3, [2, 1, 1, 12, 143], [1167, 0, 1169, 37, 71, 0, 0, 0]), (14, .invokevirtual 201, 3, [2, 0, 1, 12, 152], [1215, 0, 1217, 44, 71, 0, 0, 0]), (17, .aload_n 0, 1, [], []), (18, .iload_n 1, 1, [], []), (19, .aload_n 0, 1, [], []), (20, .iload_n 2, 1, [], []), (21, .invokevirtual 171, 3, [2, 1, 1, 12, 143], [1167, 0, 1169, 37, 71, 0, 0, 0]), (24, .invokevirtual 204, 3, [2, 2, 2, 12, 157], [1223, 0, 1225, 46, 71, 0, 0, 0]), (27, .lreturn, 1, [], [])])]
def km_X12_heardTrue : MT := (yX12_heardTrue, cX12_heardTrue, 3, (some .long), kb_X12_heardTrue)
def kb_X12_lowest : List (List Nat × List RI) := [
  ([0, 2, 4], [(0, .lload_n 0, 1, [], []), (1, .lconst 0, 1, [], []), (2, .lcmp, 1, [], []), (3, .ifCond .ge 8, 3, [2, 1], [])]),
  ([0, 2, 4], [(6, .lload_n 0, 1, [], []), (7, .lneg, 1, [], []), (8, .goto 4, 3, [3], [])]),
  ([0, 2, 4], [(11, .lload_n 0, 1, [], []), (12, .nop, 0, [3], [])]),
  ([0, 2, 4], [(12, .lstore 5, 2, [], []), (14, .lload_n 2, 1, [], []), (15, .lstore 7, 2, [], []), (17, .nop, 0, [4], [])]),
  ([0, 2, 4, 5, 7], [(17, .lload 7, 2, [], []), (19, .lconst 0, 1, [], []), (20, .lcmp, 1, [], []), (21, .ifCond .eq 21, 3, [6, 5], [])]),
  ([0, 2, 4, 5, 7], [(24, .lload 5, 2, [], []), (26, .lload 7, 2, [], []), (28, .lrem, 1, [], []), (29, .lstore 9, 2, [], []), (31, .lload 7, 2, [], []), (33, .lstore 5, 2, [], []), (35, .lload 9, 2, [], []), (37, .lstore 7, 2, [], []), (39, .goto (-22), 3, [4], [])]),
  ([0, 2, 4, 5], [(42, .iload 4, 2, [], []), (44, .ifCond .ne 7, 3, [8, 7], [])]),
  ([0, 5], [(47, .lload_n 0, 1, [], []), (48, .goto 4, 3, [9], [])]),
  ([2, 5], [(51, .lload_n 2, 1, [], []), (52, .nop, 0, [9], [])]),
  ([5], [(52, .lload 5, 2, [], []), (54, .ldiv, 1, [], []), (55, .lreturn, 1, [], [])])]
def km_X12_lowest : MT := (yX12_lowest, cX12_lowest, 11, (some .long), kb_X12_lowest)
def kb_X12_odds : List (List Nat × List RI) := [
  ([0, 1, 2, 3], [(0, .aload_n 0, 1, [], []), (1, .iload_n 1, 1, [], []), (2, .invokevirtual 208, 3, [2, 1, 1, 12, 116], [1195, 0, 1197, 40, 71, 0, 0, 0]), (5, .ifCond .eq 20, 3, [3, 1], [])]),
  ([0, 1, 2, 3], [(8, .aload_n 0, 1, [], []), (9, .iload_n 2, 1, [], []), (10, .invokevirtual 168, 3, [2, 1, 1, 12, 115], [1163, 0, 1165, 36, 71, 0, 0, 0]), (13, .ifCond .eq 12, 3, [3, 2], [])]),
  ([0, 1, 2, 3], [(16, .iload_n 3, 1, [], []), (17, .iconst 0, 1, [], []), (18, .iconst 1, 1, [], []), (19, .invokestatic 48, 3, [0, 1, 3, 113], [0, 1057, 1058]), (22, .ifCond .ne 7, 3, [4, 3], [])]),
  ([], [(25, .ldc2_w 211, 3, [9223372036854775808], [1199]), (28, .lreturn, 1, [], [])]),
  ([0, 1, 2, 3], [(29, .aload_n 0, 1, [], []), (30, .iload_n 1, 1, [], []), (31, .iload_n 2, 1, [], []), (32, .invokevirtual 213, 3, [2, 2, 2, 12, 158], [1200, 0, 1202, 41, 71, 0, 0, 0]), (35, .aload_n 0, 1, [], []), (36, .aload_n 0, 1, [], []), (37, .iload_n 2, 1, [], []), (38, .invokevirtual 171, 3, [2, 1, 1, 12, 143], [1167, 0, 1169, 37, 71, 0, 0, 0]), (41, .invokevirtual 216, 3, [2, 2, 1, 12, 156], [1239, 0, 1241, 50, 71, 0, 0, 0]), (44, .iload_n 3, 1, [], []), (45, .invokestatic 219, 3, [0, 2, 3, 159], [0, 1246, 1247]), (48, .lreturn, 1, [], [])])]
def km_X12_odds : MT := (yX12_odds, cX12_odds, 4, (some .long), kb_X12_odds)
def kb_X12_sure : List (List Nat × List RI) := [
  ([0, 1, 2], [(0, .aload_n 0, 1, [], []), (1, .iload_n 1, 1, [], []), (2, .invokevirtual 208, 3, [2, 1, 1, 12, 116], [1195, 0, 1197, 40, 71, 0, 0, 0]), (5, .ifCond .eq 11, 3, [2, 1], [])]),
  ([0, 1, 2], [(8, .aload_n 0, 1, [], []), (9, .iload_n 2, 1, [], []), (10, .invokevirtual 168, 3, [2, 1, 1, 12, 115], [1163, 0, 1165, 36, 71, 0, 0, 0]), (13, .ifCond .ne 5, 3, [3, 2], [])]),
  ([], [(16, .iconst (-1), 1, [], []), (17, .ireturn, 1, [0], [])]),
  ([0, 1, 2], [(18, .aload_n 0, 1, [], []), (19, .iload_n 1, 1, [], []), (20, .iload_n 2, 1, [], []), (21, .invokevirtual 213, 3, [2, 2, 2, 12, 158], [1200, 0, 1202, 41, 71, 0, 0, 0]), (24, .lstore_n 3, 1, [], []), (25, .lload_n 3, 1, [], []), (26, .lconst 0, 1, [], []), (27, .lcmp, 1, [], []), (28, .ifCond .ne 7, 3, [5, 4], [])]),
  ([], [(31, .iconst 0, 1, [], []), (32, .goto 22, 3, [8], [])]),
  ([0, 2, 3], [(35, .lload_n 3, 1, [], []), (36, .aload_n 0, 1, [], []), (37, .aload_n 0, 1, [], []), (38, .iload_n 2, 1, [], []), (39, .invokevirtual 171, 3, [2, 1, 1, 12, 143], [1167, 0, 1169, 37, 71, 0, 0, 0]), (42, .invokevirtual 216, 3, [2, 2, 1, 12, 156], [1239, 0, 1241, 50, 71, 0, 0, 0]), (45, .lcmp, 1, [], []), (46, .ifCond .ne 7, 3, [7, 6], [])]),
  ([], [(49, .iconst 2, 1, [], []), (50, .goto 4, 3, [8], [])]),
  ([], [(53, .iconst 1, 1, [], []), (54, .nop, 0, [8], [])]),
  ([], [(54, .ireturn, 1, [0], [])])]
def km_X12_sure : MT := (yX12_sure, cX12_sure, 5, (some .int), kb_X12_sure)
def kb_X12_tell : List (List Nat × List RI) := [
  ([0, 1, 2], [(0, .aload_n 0, 1, [], []), (1, .iload_n 1, 1, [], []), (2, .invokevirtual 154, 3, [2, 1, 1, 12, 114], [1136, 0, 1138, 33, 71, 0, 0, 0]), (5, .ifCond .eq 11, 3, [2, 1], [])]),
  ([0, 1, 2], [(8, .aload_n 0, 1, [], []), (9, .iload_n 2, 1, [], []), (10, .invokevirtual 168, 3, [2, 1, 1, 12, 115], [1163, 0, 1165, 36, 71, 0, 0, 0]), (13, .ifCond .ne 5, 3, [3, 2], [])]),
  ([], [(16, .iconst (-1), 1, [], []), (17, .ireturn, 1, [0], [])]),
  ([0, 1, 2], [(18, .aload_n 0, 1, [], []), (19, .aload_n 0, 1, [], []), (20, .invokevirtual 195, 3, [2, 1, 0, 12, 150], [1204, 0, 1206, 42, 71, 0, 0, 0]), (23, .invokevirtual 198, 3, [2, 0, 1, 12, 149], [1208, 0, 1210, 43, 71, 0, 0, 0]), (26, .aload_n 0, 1, [], []), (27, .aload_n 0, 1, [], []), (28, .iload_n 2, 1, [], []), (29, .invokevirtual 171, 3, [2, 1, 1, 12, 143], [1167, 0, 1169, 37, 71, 0, 0, 0]), (32, .invokevirtual 201, 3, [2, 0, 1, 12, 152], [1215, 0, 1217, 44, 71, 0, 0, 0]), (35, .iconst 0, 1, [], []), (36, .istore_n 3, 1, [], []), (37, .iconst 0, 1, [], []), (38, .istore 4, 2, [], []), (40, .nop, 0, [4], [])]),
  ([0, 1, 3, 4], [(40, .iload 4, 2, [], []), (42, .iconst 4, 1, [], []), (43, .if_icmp .ge 36, 3, [9, 5], [])]),
  ([0, 1, 3, 4], [(46, .iload_n 3, 1, [], []), (47, .aload_n 0, 1, [], []), (48, .getfield 25, 3, [15, 2, 12], [992, 0]), (51, .iconst 4, 1, [], []), (52, .iload_n 1, 1, [], []), (53, .imul, 1, [], []), (54, .iload 4, 2, [], []), (56, .iadd, 1, [], []), (57, .laload, 1, [], []), (58, .lconst 0, 1, [], []), (59, .lcmp, 1, [], []), (60, .ifCond .le 10, 3, [7, 6], [])]),
  ([0, 1, 4], [(63, .iconst 1, 1, [], []), (64, .iload 4, 2, [], []), (66, .ishl, 1, [], []), (67, .goto 4, 3, [8], [])]),
  ([0, 1, 4], [(70, .iconst 0, 1, [], []), (71, .nop, 0, [8], [])]),
  ([0, 1, 4], [(71, .ior, 1, [], []), (72, .istore_n 3, 1, [], []), (73, .iinc 4 1, 3, [], []), (76, .goto (-36), 3, [4], [])]),
  ([3], [(79, .iload_n 3, 1, [], []), (80, .ireturn, 1, [0], [])])]
def km_X12_tell : MT := (yX12_tell, cX12_tell, 5, (some .int), kb_X12_tell)
def kb_X12_isBetter : List (List Nat × List RI) := [
  ([0, 1, 2, 3], [(0, .aload_n 0, 1, [], []), (1, .iload_n 2, 1, [], []), (2, .invokevirtual 171, 3, [2, 1, 1, 12, 143], [1167, 0, 1169, 37, 71, 0, 0, 0]), (5, .aload_n 0, 1, [], []), (6, .iload_n 3, 1, [], []), (7, .invokevirtual 171, 3, [2, 1, 1, 12, 143], [1167, 0, 1169, 37, 71, 0, 0, 0]), (10, .if_icmp .le 11, 3, [2, 1], [])]),
  ([0, 1, 2, 3], [(13, .aload_n 0, 1, [], []), (14, .iload_n 2, 1, [], []), (15, .invokevirtual 171, 3, [2, 1, 1, 12, 143], [1167, 0, 1169, 37, 71, 0, 0, 0]), (18, .goto 8, 3, [3], [])]),
  ([0, 1, 2, 3], [(21, .aload_n 0, 1, [], []), (22, .iload_n 3, 1, [], []), (23, .invokevirtual 171, 3, [2, 1, 1, 12, 143], [1167, 0, 1169, 37, 71, 0, 0, 0]), (26, .nop, 0, [3], [])]),
  ([0, 1, 2, 3], [(26, .istore 4, 2, [], []), (28, .aload_n 0, 1, [], []), (29, .iload_n 1, 1, [], []), (30, .iload_n 2, 1, [], []), (31, .invokevirtual 213, 3, [2, 2, 2, 12, 158], [1200, 0, 1202, 41, 71, 0, 0, 0]), (34, .aload_n 0, 1, [], []), (35, .iload 4, 2, [], []), (37, .invokevirtual 216, 3, [2, 2, 1, 12, 156], [1239, 0, 1241, 50, 71, 0, 0, 0]), (40, .aload_n 0, 1, [], []), (41, .aload_n 0, 1, [], []), (42, .iload_n 2, 1, [], []), (43, .invokevirtual 171, 3, [2, 1, 1, 12, 143], [1167, 0, 1169, 37, 71, 0, 0, 0]), (46, .invokevirtual 216, 3, [2, 2, 1, 12, 156], [1239, 0, 1241, 50, 71, 0, 0, 0]), (49, .ldiv, 1, [], []), (50, .lmul, 1, [], []), (51, .lstore 5, 2, [], []), (53, .aload_n 0, 1, [], []), (54, .iload_n 1, 1, [], []), (55, .iload_n 3, 1, [], []), (56, .invokevirtual 213, 3, [2, 2, 2, 12, 158], [1200, 0, 1202, 41, 71, 0, 0, 0]), (59, .aload_n 0, 1, [], []), (60, .iload 4, 2, [], []), (62, .invokevirtual 216, 3, [2, 2, 1, 12, 156], [1239, 0, 1241, 50, 71, 0, 0, 0]), (65, .aload_n 0, 1, [], []), (66, .aload_n 0, 1, [], []), (67, .iload_n 3, 1, [], []), (68, .invokevirtual 171, 3, [2, 1, 1, 12, 143], [1167, 0, 1169, 37, 71, 0, 0, 0]), (71, .invokevirtual 216, 3, [2, 2, 1, 12, 156], [1239, 0, 1241, 50, 71, 0, 0, 0]), (74, .ldiv, 1, [], []), (75, .lmul, 1, [], []), (76, .lstore 7, 2, [], []), (78, .lload 5, 2, [], []), (80, .lload 7, 2, [], []), (82, .lcmp, 1, [], []), (83, .ifCond .gt 24, 3, [6, 4], [])]),
  ([0, 2, 3, 5, 7], [(86, .lload 5, 2, [], []), (88, .lload 7, 2, [], []), (90, .lcmp, 1, [], []), (91, .ifCond .ne 20, 3, [7, 5], [])]),
  ([0, 2, 3], [(94, .aload_n 0, 1, [], []), (95, .iload_n 2, 1, [], []), (96, .invokevirtual 175, 3, [2, 1, 1, 12, 144], [1175, 0, 1177, 39, 71, 0, 0, 0]), (99, .aload_n 0, 1, [], []), (100, .iload_n 3, 1, [], []), (101, .invokevirtual 175, 3, [2, 1, 1, 12, 144], [1175, 0, 1177, 39, 71, 0, 0, 0]), (104, .if_icmp .ge 7, 3, [7, 6], [])]),
  ([], [(107, .iconst 1, 1, [], []), (108, .goto 4, 3, [8], [])]),
  ([], [(111, .iconst 0, 1, [], []), (112, .nop, 0, [8], [])]),
  ([], [(112, .ireturn, 1, [1], [])])]
def km_X12_isBetter : MT := (yX12_isBetter, cX12_isBetter, 9, (some .boolean), kb_X12_isBetter)
def kb_X12_which : List (List Nat × List RI) := [
  ([0, 1], [(0, .aload_n 0, 1, [], []), (1, .iload_n 1, 1, [], []), (2, .invokevirtual 208, 3, [2, 1, 1, 12, 116], [1195, 0, 1197, 40, 71, 0, 0, 0]), (5, .ifCond .ne 5, 3, [2, 1], [])]),
  ([], [(8, .iconst (-1), 1, [], []), (9, .ireturn, 1, [0], [])]),
  ([0, 1], [(10, .bipush (-5), 2, [], []), (12, .istore_n 2, 1, [], []), (13, .iconst 0, 1, [], []), (14, .istore_n 3, 1, [], []), (15, .nop, 0, [3], [])]),
  ([0, 1, 2, 3], [(15, .iload_n 3, 1, [], []), (16, .aload_n 0, 1, [], []), (17, .getfield 9, 3, [1, 2, 12], [978, 0]), (20, .iconst 1, 1, [], []), (21, .iaload, 1, [], []), (22, .if_icmp .ge 31, 3, [9, 4], [])]),
  ([0, 1, 2, 3], [(25, .iload_n 2, 1, [], []), (26, .bipush (-5), 2, [], []), (28, .if_icmp .eq 13, 3, [6, 5], [])]),
  ([0, 1, 2, 3], [(31, .aload_n 0, 1, [], []), (32, .iload_n 1, 1, [], []), (33, .iload_n 3, 1, [], []), (34, .iload_n 2, 1, [], []), (35, .invokevirtual 223, 3, [2, 1, 3, 12, 163], [1261, 0, 1263, 51, 71, 0, 0, 0]), (38, .ifCond .eq 7, 3, [7, 6], [])]),
  ([0, 1, 3], [(41, .iload_n 3, 1, [], []), (42, .goto 4, 3, [8], [])]),
  ([0, 1, 2, 3], [(45, .iload_n 2, 1, [], []), (46, .nop, 0, [8], [])]),
  ([0, 1, 3], [(46, .istore_n 2, 1, [], []), (47, .iinc 3 1, 3, [], []), (50, .goto (-35), 3, [3], [])]),
  ([2], [(53, .iload_n 2, 1, [], []), (54, .ireturn, 1, [0], [])])]
def km_X12_which : MT := (yX12_which, cX12_which, 4, (some .int), kb_X12_which)
def kb_X12_worth : List (List Nat × List RI) := [
  ([0, 1, 2, 3, 4, 5], [(0, .aload_n 0, 1, [], []), (1, .iload_n 1, 1, [], []), (2, .invokevirtual 208, 3, [2, 1, 1, 12, 116], [1195, 0, 1197, 40, 71, 0, 0, 0]), (5, .ifCond .eq 42, 3, [5, 1], [])]),
  ([0, 1, 2, 3, 4, 5], [(8, .aload_n 0, 1, [], []), (9, .iload_n 2, 1, [], []), (10, .invokevirtual 168, 3, [2, 1, 1, 12, 115], [1163, 0, 1165, 36, 71, 0, 0, 0]), (13, .ifCond .eq 34, 3, [5, 2], [])]),
  ([0, 1, 2, 3, 4, 5], [(16, .iload_n 3, 1, [], []), (17, .iconst 0, 1, [], []), (18, .bipush 99, 2, [], []), (20, .invokestatic 48, 3, [0, 1, 3, 113], [0, 1057, 1058]), (23, .ifCond .eq 24, 3, [5, 3], [])]),
  ([0, 1, 2, 3, 4, 5], [(26, .iload 4, 2, [], []), (28, .iconst 0, 1, [], []), (29, .bipush 99, 2, [], []), (31, .invokestatic 48, 3, [0, 1, 3, 113], [0, 1057, 1058]), (34, .ifCond .eq 13, 3, [5, 4], [])]),
  ([0, 1, 2, 3, 4, 5], [(37, .iload 5, 2, [], []), (39, .iconst 0, 1, [], []), (40, .iconst 1, 1, [], []), (41, .invokestatic 48, 3, [0, 1, 3, 113], [0, 1057, 1058]), (44, .ifCond .ne 7, 3, [6, 5], [])]),
  ([], [(47, .ldc2_w 211, 3, [9223372036854775808], [1199]), (50, .lreturn, 1, [], [])]),
  ([0, 1, 2, 3, 4, 5], [(51, .aload_n 0, 1, [], []), (52, .iload_n 1, 1, [], []), (53, .iload_n 2, 1, [], []), (54, .invokevirtual 213, 3, [2, 2, 2, 12, 158], [1200, 0, 1202, 41, 71, 0, 0, 0]), (57, .lstore 6, 2, [], []), (59, .aload_n 0, 1, [], []), (60, .aload_n 0, 1, [], []), (61, .iload_n 2, 1, [], []), (62, .invokevirtual 171, 3, [2, 1, 1, 12, 143], [1167, 0, 1169, 37, 71, 0, 0, 0]), (65, .invokevirtual 216, 3, [2, 2, 1, 12, 156], [1239, 0, 1241, 50, 71, 0, 0, 0]), (68, .lstore 8, 2, [], []), (70, .iload_n 3, 1, [], []), (71, .i2l, 1, [], []), (72, .lload 6, 2, [], []), (74, .lmul, 1, [], []), (75, .iload 4, 2, [], []), (77, .i2l, 1, [], []), (78, .lload 8, 2, [], []), (80, .lload 6, 2, [], []), (82, .lsub, 1, [], []), (83, .lmul, 1, [], []), (84, .lsub, 1, [], []), (85, .aload_n 0, 1, [], []), (86, .iload_n 2, 1, [], []), (87, .invokevirtual 175, 3, [2, 1, 1, 12, 144], [1175, 0, 1177, 39, 71, 0, 0, 0]), (90, .i2l, 1, [], []), (91, .lload 8, 2, [], []), (93, .lmul, 1, [], []), (94, .lsub, 1, [], []), (95, .lload 8, 2, [], []), (97, .iload 5, 2, [], []), (99, .invokestatic 219, 3, [0, 2, 3, 159], [0, 1246, 1247]), (102, .lreturn, 1, [], [])])]
def km_X12_worth : MT := (yX12_worth, cX12_worth, 10, (some .long), kb_X12_worth)
def kb_X12_mayBegin : List (List Nat × List RI) := [
  ([0, 1], [(0, .iconst 0, 1, [], []), (1, .istore_n 2, 1, [], []), (2, .nop, 0, [1], [])]),
  ([0, 1, 2], [(2, .iload_n 2, 1, [], []), (3, .iconst 4, 1, [], []), (4, .if_icmp .ge 22, 3, [3, 2], [])]),
  ([0, 1, 2], [(7, .aload_n 0, 1, [], []), (8, .getfield 32, 3, [17, 2, 12], [994, 0]), (11, .iload_n 2, 1, [], []), (12, .iconst 1, 1, [], []), (13, .iload_n 1, 1, [], []), (14, .iload_n 2, 1, [], []), (15, .invokestatic 157, 3, [0, 1, 2, 136], [0, 1212, 1213]), (18, .ishl, 1, [], []), (19, .iastore, 1, [], []), (20, .iinc 2 1, 3, [], []), (23, .goto (-21), 3, [1], [])]),
  ([], [(26, .return_, 1, [], [])])]
def km_X12_mayBegin : MT := (yX12_mayBegin, cX12_mayBegin, 3, none, kb_X12_mayBegin)
def kb_X12_mayBecome : List (List Nat × List RI) := [
  ([0, 1, 2, 3], [(0, .iconst 0, 1, [], []), (1, .istore 4, 2, [], []), (3, .iconst 0, 1, [], []), (4, .istore 5, 2, [], []), (6, .nop, 0, [1], [])]),
  ([0, 1, 2, 3, 4, 5], [(6, .iload 5, 2, [], []), (8, .iconst 4, 1, [], []), (9, .if_icmp .ge 86, 3, [11, 2], [])]),
  ([0, 1, 2, 3, 4, 5], [(12, .iload_n 2, 1, [], []), (13, .iload 5, 2, [], []), (15, .ishr, 1, [], []), (16, .iconst 1, 1, [], []), (17, .iand, 1, [], []), (18, .iconst 1, 1, [], []), (19, .if_icmp .ne 70, 3, [10, 3], [])]),
  ([0, 1, 2, 3, 4, 5], [(22, .aload_n 0, 1, [], []), (23, .iload_n 1, 1, [], []), (24, .iload 5, 2, [], []), (26, .iload_n 3, 1, [], []), (27, .bipush 9, 2, [], []), (29, .invokevirtual 161, 3, [2, 0, 4, 12, 135], [1144, 0, 1146, 34, 71, 0, 0, 0]), (32, .iload 4, 2, [], []), (34, .aload_n 0, 1, [], []), (35, .getfield 140, 3, [13, 0, 12], [990, 0]), (38, .iconst 2, 1, [], []), (39, .if_icmp .ge 17, 3, [5, 4], [])]),
  ([0, 1, 2, 3, 5], [(42, .iconst 1, 1, [], []), (43, .iload 5, 2, [], []), (45, .aload_n 0, 1, [], []), (46, .getfield 137, 3, [12, 0, 12], [989, 0]), (49, .iadd, 1, [], []), (50, .iconst 4, 1, [], []), (51, .irem, 1, [], []), (52, .ishl, 1, [], []), (53, .goto 4, 3, [6], [])]),
  ([0, 1, 2, 3, 5], [(56, .iconst 0, 1, [], []), (57, .nop, 0, [6], [])]),
  ([0, 1, 2, 3, 5], [(57, .ior, 1, [], []), (58, .istore 4, 2, [], []), (60, .iload 4, 2, [], []), (62, .aload_n 0, 1, [], []), (63, .getfield 140, 3, [13, 0, 12], [990, 0]), (66, .ifCond .le 19, 3, [8, 7], [])]),
  ([0, 1, 2, 3, 5], [(69, .iconst 1, 1, [], []), (70, .iload 5, 2, [], []), (72, .aload_n 0, 1, [], []), (73, .getfield 137, 3, [12, 0, 12], [989, 0]), (76, .iadd, 1, [], []), (77, .iconst 1, 1, [], []), (78, .iadd, 1, [], []), (79, .iconst 4, 1, [], []), (80, .irem, 1, [], []), (81, .ishl, 1, [], []), (82, .goto 4, 3, [9], [])]),
  ([0, 1, 2, 3, 5], [(85, .iconst 0, 1, [], []), (86, .nop, 0, [9], [])]),
  ([0, 1, 2, 3, 5], [(86, .ior, 1, [], []), (87, .istore 4, 2, [], []), (89, .nop, 0, [10], [])]),
  ([0, 1, 2, 3, 4, 5], [(89, .iinc 5 1, 3, [], []), (92, .goto (-86), 3, [1], [])]),
  ([4], [(95, .iload 4, 2, [], []), (97, .ireturn, 1, [0], [])])]
def km_X12_mayBecome : MT := (yX12_mayBecome, cX12_mayBecome, 6, (some .int), kb_X12_mayBecome)
def kb_X12_mayGo : List (List Nat × List RI) := [
  ([0, 1], [(0, .iconst 0, 1, [], []), (1, .istore_n 2, 1, [], []), (2, .nop, 0, [1], [])]),
  ([0, 1, 2], [(2, .iload_n 2, 1, [], []), (3, .iload_n 1, 1, [], []), (4, .if_icmp .ge 53, 3, [6, 2], [])]),
  ([0, 1, 2], [(7, .iconst 0, 1, [], []), (8, .istore_n 3, 1, [], []), (9, .nop, 0, [3], [])]),
  ([0, 1, 2, 3], [(9, .iload_n 3, 1, [], []), (10, .aload_n 0, 1, [], []), (11, .getfield 9, 3, [1, 2, 12], [978, 0]), (14, .iconst 0, 1, [], []), (15, .iaload, 1, [], []), (16, .if_icmp .ge 35, 3, [5, 4], [])]),
  ([0, 1, 2, 3], [(19, .aload_n 0, 1, [], []), (20, .getfield 32, 3, [17, 2, 12], [994, 0]), (23, .iload_n 3, 1, [], []), (24, .aload_n 0, 1, [], []), (25, .iload_n 3, 1, [], []), (26, .aload_n 0, 1, [], []), (27, .getfield 32, 3, [17, 2, 12], [994, 0]), (30, .iload_n 3, 1, [], []), (31, .iaload, 1, [], []), (32, .aload_n 0, 1, [], []), (33, .getfield 9, 3, [1, 2, 12], [978, 0]), (36, .bipush 7, 2, [], []), (38, .iaload, 1, [], []), (39, .iload_n 2, 1, [], []), (40, .iadd, 1, [], []), (41, .invokevirtual 226, 3, [2, 1, 3, 12, 167], [1281, 0, 1283, 54, 71, 0, 0, 0]), (44, .iastore, 1, [], []), (45, .iinc 3 1, 3, [], []), (48, .goto (-39), 3, [3], [])]),
  ([0, 1, 2], [(51, .iinc 2 1, 3, [], []), (54, .goto (-52), 3, [1], [])]),
  ([], [(57, .return_, 1, [], [])])]
def km_X12_mayGo : MT := (yX12_mayGo, cX12_mayGo, 4, none, kb_X12_mayGo)
def kb_X12_isSurely : List (List Nat × List RI) := [
  ([0, 1, 2], [(0, .iconst 0, 1, [], []), (1, .istore_n 3, 1, [], []), (2, .nop, 0, [1], [])]),
  ([0, 1, 2, 3], [(2, .iload_n 3, 1, [], []), (3, .aload_n 0, 1, [], []), (4, .invokevirtual 186, 3, [2, 1, 0, 12, 154], [1227, 0, 1229, 47, 71, 0, 0, 0]), (7, .if_icmp .ge 89, 3, [13, 2], [])]),
  ([0, 1, 2, 3], [(10, .iconst 1, 1, [], []), (11, .istore 4, 2, [], []), (13, .iconst 0, 1, [], []), (14, .istore 5, 2, [], []), (16, .nop, 0, [3], [])]),
  ([0, 1, 2, 3, 4, 5], [(16, .iload 5, 2, [], []), (18, .aload_n 0, 1, [], []), (19, .getfield 9, 3, [1, 2, 12], [978, 0]), (22, .iconst 0, 1, [], []), (23, .iaload, 1, [], []), (24, .if_icmp .ge 41, 3, [9, 4], [])]),
  ([0, 1, 2, 3, 4, 5], [(27, .iload 4, 2, [], []), (29, .ifCond .eq 27, 3, [7, 5], [])]),
  ([0, 1, 2, 3, 5], [(32, .aload_n 0, 1, [], []), (33, .getfield 32, 3, [17, 2, 12], [994, 0]), (36, .iload 5, 2, [], []), (38, .iaload, 1, [], []), (39, .iload_n 3, 1, [], []), (40, .iload 5, 2, [], []), (42, .invokestatic 157, 3, [0, 1, 2, 136], [0, 1212, 1213]), (45, .ishr, 1, [], []), (46, .iconst 1, 1, [], []), (47, .iand, 1, [], []), (48, .iconst 1, 1, [], []), (49, .if_icmp .ne 7, 3, [7, 6], [])]),
  ([0, 1, 2, 3, 5], [(52, .iconst 1, 1, [], []), (53, .goto 4, 3, [8], [])]),
  ([0, 1, 2, 3, 5], [(56, .iconst 0, 1, [], []), (57, .nop, 0, [8], [])]),
  ([0, 1, 2, 3, 5], [(57, .istore 4, 2, [], []), (59, .iinc 5 1, 3, [], []), (62, .goto (-46), 3, [3], [])]),
  ([0, 1, 2, 3, 4], [(65, .iload 4, 2, [], []), (67, .ifCond .eq 23, 3, [12, 10], [])]),
  ([0, 1, 2, 3], [(70, .aload_n 0, 1, [], []), (71, .iload_n 1, 1, [], []), (72, .iload_n 3, 1, [], []), (73, .aload_n 0, 1, [], []), (74, .getfield 9, 3, [1, 2, 12], [978, 0]), (77, .bipush 7, 2, [], []), (79, .iaload, 1, [], []), (80, .iload_n 2, 1, [], []), (81, .iadd, 1, [], []), (82, .invokevirtual 192, 3, [2, 1, 3, 12, 137], [1235, 0, 1237, 49, 71, 0, 0, 0]), (85, .ifCond .ne 5, 3, [12, 11], [])]),
  ([], [(88, .iconst 0, 1, [], []), (89, .ireturn, 1, [1], [])]),
  ([0, 1, 2, 3], [(90, .iinc 3 1, 3, [], []), (93, .goto (-91), 3, [1], [])]),
  ([], [(96, .iconst 1, 1, [], []), (97, .ireturn, 1, [1], [])])]
def km_X12_isSurely : MT := (yX12_isSurely, cX12_isSurely, 6, (some .boolean), kb_X12_isSurely)
def kb_X12_sit : List (List Nat × List RI) := [
  ([0, 1, 2], [(0, .aload_n 0, 1, [], []), (1, .iload_n 1, 1, [], []), (2, .invokevirtual 208, 3, [2, 1, 1, 12, 116], [1195, 0, 1197, 40, 71, 0, 0, 0]), (5, .ifCond .eq 11, 3, [2, 1], [])]),
  ([0, 1, 2], [(8, .aload_n 0, 1, [], []), (9, .iload_n 2, 1, [], []), (10, .invokevirtual 168, 3, [2, 1, 1, 12, 115], [1163, 0, 1165, 36, 71, 0, 0, 0]), (13, .ifCond .ne 5, 3, [3, 2], [])]),
  ([], [(16, .iconst (-1), 1, [], []), (17, .ireturn, 1, [0], [])]),
  ([0, 1, 2], [(18, .iconst 0, 1, [], []), (19, .istore_n 3, 1, [], []), (20, .nop, 0, [4], [])]),
  ([0, 1, 2, 3], [(20, .iload_n 3, 1, [], []), (21, .bipush 7, 2, [], []), (23, .if_icmp .ge 45, 3, [8, 5], [])]),
  ([0, 1, 2, 3], [(26, .aload_n 0, 1, [], []), (27, .aload_n 0, 1, [], []), (28, .invokevirtual 195, 3, [2, 1, 0, 12, 150], [1204, 0, 1206, 42, 71, 0, 0, 0]), (31, .invokevirtual 230, 3, [2, 0, 1, 12, 166], [1273, 0, 1275, 52, 71, 0, 0, 0]), (34, .aload_n 0, 1, [], []), (35, .aload_n 0, 1, [], []), (36, .iload_n 2, 1, [], []), (37, .invokevirtual 171, 3, [2, 1, 1, 12, 143], [1167, 0, 1169, 37, 71, 0, 0, 0]), (40, .iload_n 3, 1, [], []), (41, .iadd, 1, [], []), (42, .invokevirtual 233, 3, [2, 0, 1, 12, 168], [1277, 0, 1279, 53, 71, 0, 0, 0]), (45, .aload_n 0, 1, [], []), (46, .iload_n 1, 1, [], []), (47, .aload_n 0, 1, [], []), (48, .iload_n 2, 1, [], []), (49, .invokevirtual 171, 3, [2, 1, 1, 12, 143], [1167, 0, 1169, 37, 71, 0, 0, 0]), (52, .iload_n 3, 1, [], []), (53, .iadd, 1, [], []), (54, .invokevirtual 236, 3, [2, 1, 2, 12, 169], [1285, 0, 1287, 55, 71, 0, 0, 0]), (57, .ifCond .eq 5, 3, [7, 6], [])]),
  ([3], [(60, .iload_n 3, 1, [], []), (61, .ireturn, 1, [0], [])]),
  ([0, 1, 2, 3], [(62, .iinc 3 1, 3, [], []), (65, .goto (-45), 3, [4], [])]),
  ([], [(68, .bipush (-5), 2, [], []), (70, .ireturn, 1, [0], [])])]
def km_X12_sit : MT := (yX12_sit, cX12_sit, 4, (some .int), kb_X12_sit)
def kb_X12_catches : List (List Nat × List RI) := [
  ([0, 1, 2, 3], [(0, .aload_n 0, 1, [], []), (1, .iload_n 1, 1, [], []), (2, .invokevirtual 168, 3, [2, 1, 1, 12, 115], [1163, 0, 1165, 36, 71, 0, 0, 0]), (5, .ifCond .eq 11, 3, [2, 1], [])]),
  ([0, 1, 2, 3], [(8, .aload_n 0, 1, [], []), (9, .iload_n 2, 1, [], []), (10, .invokevirtual 168, 3, [2, 1, 1, 12, 115], [1163, 0, 1165, 36, 71, 0, 0, 0]), (13, .ifCond .ne 5, 3, [3, 2], [])]),
  ([], [(16, .iconst (-1), 1, [], []), (17, .ireturn, 1, [0], [])]),
  ([0, 1, 2, 3], [(18, .iload_n 3, 1, [], []), (19, .iconst 0, 1, [], []), (20, .bipush 6, 2, [], []), (22, .invokestatic 48, 3, [0, 1, 3, 113], [0, 1057, 1058]), (25, .ifCond .ne 6, 3, [5, 4], [])]),
  ([], [(28, .bipush (-2), 2, [], []), (30, .ireturn, 1, [0], [])]),
  ([0, 1, 2, 3], [(31, .iload_n 3, 1, [], []), (32, .aload_n 0, 1, [], []), (33, .iload_n 2, 1, [], []), (34, .aload_n 0, 1, [], []), (35, .getfield 9, 3, [1, 2, 12], [978, 0]), (38, .bipush 7, 2, [], []), (40, .iaload, 1, [], []), (41, .iload_n 3, 1, [], []), (42, .iadd, 1, [], []), (43, .invokevirtual 165, 3, [2, 1, 2, 12, 142], [1171, 0, 1173, 38, 71, 0, 0, 0]), (46, .iadd, 1, [], []), (47, .aload_n 0, 1, [], []), (48, .iload_n 1, 1, [], []), (49, .invokevirtual 171, 3, [2, 1, 1, 12, 143], [1167, 0, 1169, 37, 71, 0, 0, 0]), (52, .if_icmp .gt 7, 3, [7, 6], [])]),
  ([], [(55, .iconst 1, 1, [], []), (56, .goto 4, 3, [8], [])]),
  ([], [(59, .iconst 0, 1, [], []), (60, .nop, 0, [8], [])]),
  ([], [(60, .ireturn, 1, [0], [])])]
def km_X12_catches : MT := (yX12_catches, cX12_catches, 4, (some .int), kb_X12_catches)
def kb_X12_all : List (List Nat × List RI) := [
  ([0, 1], [(0, .iload_n 1, 1, [], []), (1, .iconst 0, 1, [], []), (2, .iconst 1, 1, [], []), (3, .invokestatic 48, 3, [0, 1, 3, 113], [0, 1057, 1058]), (6, .ifCond .ne 5, 3, [2, 1], [])]),
  ([], [(9, .iconst (-1), 1, [], []), (10, .ireturn, 1, [0], [])]),
  ([0, 1], [(11, .iconst 0, 1, [], []), (12, .istore_n 2, 1, [], []), (13, .iconst 0, 1, [], []), (14, .istore_n 3, 1, [], []), (15, .iconst 0, 1, [], []), (16, .istore 4, 2, [], []), (18, .nop, 0, [3], [])]),
  ([0, 1, 2, 3, 4], [(18, .iload 4, 2, [], []), (20, .aload_n 0, 1, [], []), (21, .getfield 9, 3, [1, 2, 12], [978, 0]), (24, .iconst 1, 1, [], []), (25, .iaload, 1, [], []), (26, .if_icmp .ge 39, 3, [8, 4], [])]),
  ([0, 1, 2, 3, 4], [(29, .aload_n 0, 1, [], []), (30, .iload 4, 2, [], []), (32, .invokevirtual 171, 3, [2, 1, 1, 12, 143], [1167, 0, 1169, 37, 71, 0, 0, 0]), (35, .iload_n 2, 1, [], []), (36, .if_icmp .le 12, 3, [6, 5], [])]),
  ([0, 1, 3, 4], [(39, .aload_n 0, 1, [], []), (40, .iload 4, 2, [], []), (42, .invokevirtual 171, 3, [2, 1, 1, 12, 143], [1167, 0, 1169, 37, 71, 0, 0, 0]), (45, .goto 4, 3, [7], [])]),
  ([0, 1, 2, 3, 4], [(48, .iload_n 2, 1, [], []), (49, .nop, 0, [7], [])]),
  ([0, 1, 3, 4], [(49, .istore_n 2, 1, [], []), (50, .iload_n 3, 1, [], []), (51, .aload_n 0, 1, [], []), (52, .iload 4, 2, [], []), (54, .invokevirtual 175, 3, [2, 1, 1, 12, 144], [1175, 0, 1177, 39, 71, 0, 0, 0]), (57, .iadd, 1, [], []), (58, .istore_n 3, 1, [], []), (59, .iinc 4 1, 3, [], []), (62, .goto (-44), 3, [3], [])]),
  ([1, 2, 3], [(65, .iload_n 1, 1, [], []), (66, .ifCond .ne 7, 3, [10, 9], [])]),
  ([2], [(69, .iload_n 2, 1, [], []), (70, .goto 4, 3, [11], [])]),
  ([3], [(73, .iload_n 3, 1, [], []), (74, .nop, 0, [11], [])]),
  ([], [(74, .ireturn, 1, [0], [])])]
def km_X12_all : MT := (yX12_all, cX12_all, 5, (some .int), kb_X12_all)
def kb_X12_begin : List (List Nat × List RI) := [
  ([0, 1, 2, 3], [(0, .aload_n 0, 1, [], []), (1, .iload_n 1, 1, [], []), (2, .invokevirtual 208, 3, [2, 1, 1, 12, 116], [1195, 0, 1197, 40, 71, 0, 0, 0]), (5, .ifCond .eq 20, 3, [3, 1], [])]),
  ([0, 1, 2, 3], [(8, .aload_n 0, 1, [], []), (9, .iload_n 2, 1, [], []), (10, .invokevirtual 168, 3, [2, 1, 1, 12, 115], [1163, 0, 1165, 36, 71, 0, 0, 0]), (13, .ifCond .eq 12, 3, [3, 2], [])]),
  ([0, 1, 2, 3], [(16, .iload_n 3, 1, [], []), (17, .iconst 0, 1, [], []), (18, .iconst 1, 1, [], []), (19, .invokestatic 48, 3, [0, 1, 3, 113], [0, 1057, 1058]), (22, .ifCond .ne 5, 3, [4, 3], [])]),
  ([], [(25, .iconst (-1), 1, [], []), (26, .ireturn, 1, [0], [])]),
  ([0, 1, 2, 3], [(27, .aload_n 0, 1, [], []), (28, .iload_n 1, 1, [], []), (29, .aload_n 0, 1, [], []), (30, .iload_n 2, 1, [], []), (31, .invokevirtual 171, 3, [2, 1, 1, 12, 143], [1167, 0, 1169, 37, 71, 0, 0, 0]), (34, .invokevirtual 239, 3, [2, 0, 2, 12, 174], [1301, 0, 1303, 56, 71, 0, 0, 0]), (37, .iconst 0, 1, [], []), (38, .istore 4, 2, [], []), (40, .bipush (-5), 2, [], []), (42, .istore 5, 2, [], []), (44, .iconst 0, 1, [], []), (45, .istore 6, 2, [], []), (47, .nop, 0, [5], [])]),
  ([0, 3, 4, 5, 6], [(47, .iload 6, 2, [], []), (49, .aload_n 0, 1, [], []), (50, .invokevirtual 186, 3, [2, 1, 0, 12, 154], [1227, 0, 1229, 47, 71, 0, 0, 0]), (53, .if_icmp .ge 35, 3, [12, 6], [])]),
  ([0, 3, 4, 5, 6], [(56, .aload_n 0, 1, [], []), (57, .iload 6, 2, [], []), (59, .invokevirtual 242, 3, [2, 1, 1, 12, 175], [1305, 0, 1307, 57, 71, 0, 0, 0]), (62, .ifCond .eq 20, 3, [11, 7], [])]),
  ([0, 3, 4, 5, 6], [(65, .iload 4, 2, [], []), (67, .ifCond .ne 8, 3, [9, 8], [])]),
  ([0, 3, 4, 6], [(70, .iload 6, 2, [], []), (72, .goto 5, 3, [10], [])]),
  ([0, 3, 4, 5, 6], [(75, .iload 5, 2, [], []), (77, .nop, 0, [10], [])]),
  ([0, 3, 4, 6], [(77, .istore 5, 2, [], []), (79, .iinc 4 1, 3, [], []), (82, .nop, 0, [11], [])]),
  ([0, 3, 4, 5, 6], [(82, .iinc 6 1, 3, [], []), (85, .goto (-38), 3, [5], [])]),
  ([3, 4, 5], [(88, .iload_n 3, 1, [], []), (89, .ifCond .ne 8, 3, [14, 13], [])]),
  ([4], [(92, .iload 4, 2, [], []), (94, .goto 5, 3, [15], [])]),
  ([5], [(97, .iload 5, 2, [], []), (99, .nop, 0, [15], [])]),
  ([], [(99, .ireturn, 1, [0], [])])]
def km_X12_begin : MT := (yX12_begin, cX12_begin, 7, (some .int), kb_X12_begin)
def kb_X12_looksForReach : List (List Nat × List RI) := [
  ([0, 1, 2], [(0, .iconst 0, 1, [], []), (1, .istore_n 3, 1, [], []), (2, .nop, 0, [1], [])]),
  ([0, 1, 2, 3], [(2, .iload_n 3, 1, [], []), (3, .iconst 4, 1, [], []), (4, .if_icmp .ge 55, 3, [6, 2], [])]),
  ([0, 1, 2, 3], [(7, .aload_n 0, 1, [], []), (8, .bipush 85, 2, [], []), (10, .iload_n 3, 1, [], []), (11, .imul, 1, [], []), (12, .invokevirtual 230, 3, [2, 0, 1, 12, 166], [1273, 0, 1275, 52, 71, 0, 0, 0]), (15, .aload_n 0, 1, [], []), (16, .iload_n 2, 1, [], []), (17, .invokevirtual 233, 3, [2, 0, 1, 12, 168], [1277, 0, 1279, 53, 71, 0, 0, 0]), (20, .iconst 0, 1, [], []), (21, .istore 4, 2, [], []), (23, .nop, 0, [3], [])]),
  ([0, 1, 2, 3, 4], [(23, .iload 4, 2, [], []), (25, .iconst 4, 1, [], []), (26, .if_icmp .ge 27, 3, [5, 4], [])]),
  ([0, 1, 2, 3, 4], [(29, .aload_n 0, 1, [], []), (30, .getfield 35, 3, [18, 2, 12], [995, 0]), (33, .iconst 4, 1, [], []), (34, .iload 4, 2, [], []), (36, .imul, 1, [], []), (37, .iload_n 3, 1, [], []), (38, .iadd, 1, [], []), (39, .aload_n 0, 1, [], []), (40, .getfield 32, 3, [17, 2, 12], [994, 0]), (43, .iload 4, 2, [], []), (45, .iaload, 1, [], []), (46, .iastore, 1, [], []), (47, .iinc 4 1, 3, [], []), (50, .goto (-27), 3, [3], [])]),
  ([0, 1, 2, 3], [(53, .iinc 3 1, 3, [], []), (56, .goto (-54), 3, [1], [])]),
  ([0, 1, 2], [(59, .iconst 0, 1, [], []), (60, .istore_n 3, 1, [], []), (61, .nop, 0, [7], [])]),
  ([0, 1, 2, 3], [(61, .iload_n 3, 1, [], []), (62, .aload_n 0, 1, [], []), (63, .invokevirtual 186, 3, [2, 1, 0, 12, 154], [1227, 0, 1229, 47, 71, 0, 0, 0]), (66, .if_icmp .ge 30, 3, [9, 8], [])]),
  ([0, 1, 2, 3], [(69, .aload_n 0, 1, [], []), (70, .getfield 38, 3, [19, 2, 12], [996, 0]), (73, .iload_n 3, 1, [], []), (74, .aload_n 0, 1, [], []), (75, .iload_n 1, 1, [], []), (76, .iload_n 3, 1, [], []), (77, .aload_n 0, 1, [], []), (78, .getfield 9, 3, [1, 2, 12], [978, 0]), (81, .bipush 7, 2, [], []), (83, .iaload, 1, [], []), (84, .iload_n 2, 1, [], []), (85, .iadd, 1, [], []), (86, .invokevirtual 192, 3, [2, 1, 3, 12, 137], [1235, 0, 1237, 49, 71, 0, 0, 0]), (89, .bastore, 1, [0], []), (90, .iinc 3 1, 3, [], []), (93, .goto (-32), 3, [7], [])]),
  ([], [(96, .return_, 1, [], [])])]
def km_X12_looksForReach : MT := (yX12_looksForReach, cX12_looksForReach, 5, none, kb_X12_looksForReach)
def kb_X12_reachesTruth : List (List Nat × List RI) := [
  ([0, 1], [(0, .iconst 0, 1, [], []), (1, .istore_n 2, 1, [], []), (2, .nop, 0, [1], [])]),
  ([0, 1, 2], [(2, .iload_n 2, 1, [], []), (3, .aload_n 0, 1, [], []), (4, .invokevirtual 186, 3, [2, 1, 0, 12, 154], [1227, 0, 1229, 47, 71, 0, 0, 0]), (7, .if_icmp .ge 89, 3, [15, 2], [])]),
  ([0, 1, 2], [(10, .aload_n 0, 1, [], []), (11, .getfield 38, 3, [19, 2, 12], [996, 0]), (14, .iload_n 2, 1, [], []), (15, .baload, 1, [], []), (16, .ifCond .ne 7, 3, [4, 3], [])]),
  ([0, 1, 2], [(19, .iconst 1, 1, [], []), (20, .goto 4, 3, [5], [])]),
  ([0, 1, 2], [(23, .iconst 0, 1, [], []), (24, .nop, 0, [5], [])]),
  ([0, 1, 2], [(24, .istore_n 3, 1, [], []), (25, .iconst 0, 1, [], []), (26, .istore 4, 2, [], []), (28, .nop, 0, [6], [])]),
  ([0, 1, 2, 3, 4], [(28, .iload 4, 2, [], []), (30, .aload_n 0, 1, [], []), (31, .getfield 9, 3, [1, 2, 12], [978, 0]), (34, .iconst 0, 1, [], []), (35, .iaload, 1, [], []), (36, .if_icmp .ge 48, 3, [12, 7], [])]),
  ([0, 1, 2, 3, 4], [(39, .iload_n 3, 1, [], []), (40, .ifCond .eq 44, 3, [12, 8], [])]),
  ([0, 1, 2, 4], [(43, .aload_n 0, 1, [], []), (44, .getfield 35, 3, [18, 2, 12], [995, 0]), (47, .iconst 4, 1, [], []), (48, .iload 4, 2, [], []), (50, .imul, 1, [], []), (51, .iload_n 1, 1, [], []), (52, .iload 4, 2, [], []), (54, .invokestatic 157, 3, [0, 1, 2, 136], [0, 1212, 1213]), (57, .iadd, 1, [], []), (58, .iaload, 1, [], []), (59, .iload_n 2, 1, [], []), (60, .iload 4, 2, [], []), (62, .invokestatic 157, 3, [0, 1, 2, 136], [0, 1212, 1213]), (65, .ishr, 1, [], []), (66, .iconst 1, 1, [], []), (67, .iand, 1, [], []), (68, .iconst 1, 1, [], []), (69, .if_icmp .ne 7, 3, [10, 9], [])]),
  ([0, 1, 2, 4], [(72, .iconst 1, 1, [], []), (73, .goto 4, 3, [11], [])]),
  ([0, 1, 2, 4], [(76, .iconst 0, 1, [], []), (77, .nop, 0, [11], [])]),
  ([0, 1, 2, 4], [(77, .istore_n 3, 1, [], []), (78, .iinc 4 1, 3, [], []), (81, .goto (-53), 3, [6], [])]),
  ([0, 1, 2, 3], [(84, .iload_n 3, 1, [], []), (85, .ifCond .eq 5, 3, [14, 13], [])]),
  ([], [(88, .iconst 0, 1, [], []), (89, .ireturn, 1, [1], [])]),
  ([0, 1, 2], [(90, .iinc 2 1, 3, [], []), (93, .goto (-91), 3, [1], [])]),
  ([], [(96, .iconst 1, 1, [], []), (97, .ireturn, 1, [1], [])])]
def km_X12_reachesTruth : MT := (yX12_reachesTruth, cX12_reachesTruth, 5, (some .boolean), kb_X12_reachesTruth)
def kb_X12_heed : List (List Nat × List RI) := [
  ([0, 1, 2], [(0, .iload_n 1, 1, [], []), (1, .iconst (-1), 1, [], []), (2, .if_icmp .eq 13, 3, [3, 1], [])]),
  ([0, 1, 2], [(5, .aload_n 0, 1, [], []), (6, .iload_n 1, 1, [], []), (7, .invokevirtual 154, 3, [2, 1, 1, 12, 114], [1136, 0, 1138, 33, 71, 0, 0, 0]), (10, .ifCond .ne 5, 3, [3, 2], [])]),
  ([], [(13, .iconst (-1), 1, [], []), (14, .ireturn, 1, [0], [])]),
  ([0, 1, 2], [(15, .iload_n 1, 1, [], []), (16, .iconst (-1), 1, [], []), (17, .if_icmp .eq 15, 3, [6, 4], [])]),
  ([0, 1, 2], [(20, .iload_n 2, 1, [], []), (21, .iconst 0, 1, [], []), (22, .iconst 3, 1, [], []), (23, .invokestatic 48, 3, [0, 1, 3, 113], [0, 1057, 1058]), (26, .ifCond .ne 6, 3, [6, 5], [])]),
  ([], [(29, .bipush (-2), 2, [], []), (31, .ireturn, 1, [0], [])]),
  ([0, 1, 2], [(32, .aload_n 0, 1, [], []), (33, .getfield 9, 3, [1, 2, 12], [978, 0]), (36, .bipush 8, 2, [], []), (38, .iload_n 1, 1, [], []), (39, .iastore, 1, [], []), (40, .aload_n 0, 1, [], []), (41, .getfield 9, 3, [1, 2, 12], [978, 0]), (44, .bipush 9, 2, [], []), (46, .iload_n 1, 1, [], []), (47, .iconst (-1), 1, [], []), (48, .if_icmp .ne 7, 3, [8, 7], [])]),
  ([], [(51, .iconst 0, 1, [], []), (52, .goto 4, 3, [9], [])]),
  ([2], [(55, .iload_n 2, 1, [], []), (56, .nop, 0, [9], [])]),
  ([], [(56, .iastore, 1, [], []), (57, .iconst 1, 1, [], []), (58, .ireturn, 1, [0], [])])]
def km_X12_heed : MT := (yX12_heed, cX12_heed, 3, (some .int), kb_X12_heed)
def kb_X12_heededBy : List (List Nat × List RI) := [
  ([0, 1], [(0, .aload_n 0, 1, [], []), (1, .getfield 9, 3, [1, 2, 12], [978, 0]), (4, .bipush 8, 2, [], []), (6, .iaload, 1, [], []), (7, .istore_n 2, 1, [], []), (8, .iload_n 2, 1, [], []), (9, .iconst (-1), 1, [], []), (10, .if_icmp .ne 7, 3, [2, 1], [])]),
  ([1], [(13, .iload_n 1, 1, [], []), (14, .goto 24, 3, [3], [])]),
  ([0, 1, 2], [(17, .iload_n 1, 1, [], []), (18, .iconst 3, 1, [], []), (19, .iconst 2, 1, [], []), (20, .iload_n 2, 1, [], []), (21, .imul, 1, [], []), (22, .ishl, 1, [], []), (23, .iconst (-1), 1, [], []), (24, .ixor, 1, [], []), (25, .iand, 1, [], []), (26, .aload_n 0, 1, [], []), (27, .getfield 9, 3, [1, 2, 12], [978, 0]), (30, .bipush 9, 2, [], []), (32, .iaload, 1, [], []), (33, .iconst 2, 1, [], []), (34, .iload_n 2, 1, [], []), (35, .imul, 1, [], []), (36, .ishl, 1, [], []), (37, .ior, 1, [], []), (38, .nop, 0, [3], [])]),
  ([], [(38, .ireturn, 1, [0], [])])]
def km_X12_heededBy : MT := (yX12_heededBy, cX12_heededBy, 3, (some .int), kb_X12_heededBy)
def kb_X12_self : List (List Nat × List RI) := [
  ([0, 1, 2, 3, 4], [(0, .aload_n 0, 1, [], []), (1, .iload_n 1, 1, [], []), (2, .invokevirtual 208, 3, [2, 1, 1, 12, 116], [1195, 0, 1197, 40, 71, 0, 0, 0]), (5, .ifCond .eq 30, 3, [4, 1], [])]),
  ([0, 1, 2, 3, 4], [(8, .aload_n 0, 1, [], []), (9, .iload_n 2, 1, [], []), (10, .invokevirtual 168, 3, [2, 1, 1, 12, 115], [1163, 0, 1165, 36, 71, 0, 0, 0]), (13, .ifCond .eq 22, 3, [4, 2], [])]),
  ([0, 1, 2, 3, 4], [(16, .iload_n 3, 1, [], []), (17, .iconst 0, 1, [], []), (18, .iconst 2, 1, [], []), (19, .invokestatic 48, 3, [0, 1, 3, 113], [0, 1057, 1058]), (22, .ifCond .eq 13, 3, [4, 3], [])]),
  ([0, 1, 2, 3, 4], [(25, .iload 4, 2, [], []), (27, .iconst 0, 1, [], []), (28, .iconst 1, 1, [], []), (29, .invokestatic 48, 3, [0, 1, 3, 113], [0, 1057, 1058]), (32, .ifCond .ne 7, 3, [5, 4], [])]),
  ([], [(35, .ldc2_w 211, 3, [9223372036854775808], [1199]), (38, .lreturn, 1, [], [])]),
  ([0, 1, 2, 3, 4], [(39, .aload_n 0, 1, [], []), (40, .iload_n 2, 1, [], []), (41, .invokevirtual 171, 3, [2, 1, 1, 12, 143], [1167, 0, 1169, 37, 71, 0, 0, 0]), (44, .istore 5, 2, [], []), (46, .aload_n 0, 1, [], []), (47, .aload_n 0, 1, [], []), (48, .invokevirtual 195, 3, [2, 1, 0, 12, 150], [1204, 0, 1206, 42, 71, 0, 0, 0]), (51, .invokevirtual 198, 3, [2, 0, 1, 12, 149], [1208, 0, 1210, 43, 71, 0, 0, 0]), (54, .aload_n 0, 1, [], []), (55, .iload 5, 2, [], []), (57, .invokevirtual 201, 3, [2, 0, 1, 12, 152], [1215, 0, 1217, 44, 71, 0, 0, 0]), (60, .lconst 0, 1, [], []), (61, .lstore 6, 2, [], []), (63, .iconst 0, 1, [], []), (64, .istore 8, 2, [], []), (66, .nop, 0, [6], [])]),
  ([0, 1, 3, 4, 5, 6, 8], [(66, .iload 8, 2, [], []), (68, .aload_n 0, 1, [], []), (69, .invokevirtual 186, 3, [2, 1, 0, 12, 154], [1227, 0, 1229, 47, 71, 0, 0, 0]), (72, .if_icmp .ge 101, 3, [20, 7], [])]),
  ([0, 1, 3, 4, 5, 6, 8], [(75, .iload_n 3, 1, [], []), (76, .iconst 1, 1, [], []), (77, .if_icmp .eq 23, 3, [9, 8], [])]),
  ([0, 1, 3, 4, 5, 6, 8], [(80, .aload_n 0, 1, [], []), (81, .iload_n 1, 1, [], []), (82, .iload 8, 2, [], []), (84, .aload_n 0, 1, [], []), (85, .getfield 9, 3, [1, 2, 12], [978, 0]), (88, .bipush 7, 2, [], []), (90, .iaload, 1, [], []), (91, .iload 5, 2, [], []), (93, .iadd, 1, [], []), (94, .invokevirtual 192, 3, [2, 1, 3, 12, 137], [1235, 0, 1237, 49, 71, 0, 0, 0]), (97, .ifCond .eq 7, 3, [10, 9], [])]),
  ([0, 1, 3, 4, 5, 6, 8], [(100, .iconst 1, 1, [], []), (101, .goto 4, 3, [11], [])]),
  ([0, 1, 3, 4, 5, 6, 8], [(104, .iconst 0, 1, [], []), (105, .nop, 0, [11], [])]),
  ([0, 1, 3, 4, 5, 6, 8], [(105, .istore 9, 2, [], []), (107, .iload_n 3, 1, [], []), (108, .ifCond .eq 27, 3, [13, 12], [])]),
  ([0, 1, 3, 4, 5, 6, 8, 9], [(111, .aload_n 0, 1, [], []), (112, .iload_n 1, 1, [], []), (113, .aload_n 0, 1, [], []), (114, .iload 8, 2, [], []), (116, .invokevirtual 245, 3, [2, 1, 1, 12, 177], [1317, 0, 1319, 58, 71, 0, 0, 0]), (119, .aload_n 0, 1, [], []), (120, .getfield 9, 3, [1, 2, 12], [978, 0]), (123, .bipush 7, 2, [], []), (125, .iaload, 1, [], []), (126, .iload 5, 2, [], []), (128, .iadd, 1, [], []), (129, .invokevirtual 192, 3, [2, 1, 3, 12, 137], [1235, 0, 1237, 49, 71, 0, 0, 0]), (132, .ifCond .eq 7, 3, [14, 13], [])]),
  ([0, 1, 3, 4, 5, 6, 8, 9], [(135, .iconst 1, 1, [], []), (136, .goto 4, 3, [15], [])]),
  ([0, 1, 3, 4, 5, 6, 8, 9], [(139, .iconst 0, 1, [], []), (140, .nop, 0, [15], [])]),
  ([0, 1, 3, 4, 5, 6, 8, 9], [(140, .istore 10, 2, [], []), (142, .lload 6, 2, [], []), (144, .iload 9, 2, [], []), (146, .ifCond .eq 17, 3, [18, 16], [])]),
  ([0, 1, 3, 4, 5, 8, 10], [(149, .iload 10, 2, [], []), (151, .ifCond .eq 12, 3, [18, 17], [])]),
  ([0, 1, 3, 4, 5, 8], [(154, .aload_n 0, 1, [], []), (155, .iload 8, 2, [], []), (157, .invokevirtual 189, 3, [2, 2, 1, 12, 153], [1231, 0, 1233, 48, 71, 0, 0, 0]), (160, .goto 4, 3, [19], [])]),
  ([0, 1, 3, 4, 5, 8], [(163, .lconst 0, 1, [], []), (164, .nop, 0, [19], [])]),
  ([0, 1, 3, 4, 5, 8], [(164, .ladd, 1, [], []), (165, .lstore 6, 2, [], []), (167, .iinc 8 1, 3, [], []), (170, .goto (-104), 3, [6], [])]),
  ([0, 4, 5, 6], [(173, .lload 6, 2, [], []), (175, .aload_n 0, 1, [], []), (176, .iload 5, 2, [], []), (178, .invokevirtual 216, 3, [2, 2, 1, 12, 156], [1239, 0, 1241, 50, 71, 0, 0, 0]), (181, .iload 4, 2, [], []), (183, .invokestatic 219, 3, [0, 2, 3, 159], [0, 1246, 1247]), (186, .lreturn, 1, [], [])])]
def km_X12_self : MT := (yX12_self, cX12_self, 11, (some .long), kb_X12_self)
def kb_X12_back : List (List Nat × List RI) := [
  ([0, 1, 2, 3], [(0, .aload_n 0, 1, [], []), (1, .iload_n 1, 1, [], []), (2, .invokevirtual 154, 3, [2, 1, 1, 12, 114], [1136, 0, 1138, 33, 71, 0, 0, 0]), (5, .ifCond .ne 5, 3, [2, 1], [])]),
  ([], [(8, .iconst (-1), 1, [], []), (9, .ireturn, 1, [0], [])]),
  ([0, 1, 2, 3], [(10, .iload_n 2, 1, [], []), (11, .iconst 0, 1, [], []), (12, .iconst 3, 1, [], []), (13, .invokestatic 48, 3, [0, 1, 3, 113], [0, 1057, 1058]), (16, .ifCond .eq 13, 3, [4, 3], [])]),
  ([0, 1, 2, 3], [(19, .iload_n 3, 1, [], []), (20, .iconst 0, 1, [], []), (21, .bipush 6, 2, [], []), (23, .invokestatic 48, 3, [0, 1, 3, 113], [0, 1057, 1058]), (26, .ifCond .ne 6, 3, [5, 4], [])]),
  ([], [(29, .bipush (-2), 2, [], []), (31, .ireturn, 1, [0], [])]),
  ([0, 1, 2, 3], [(32, .iconst 0, 1, [], []), (33, .istore 4, 2, [], []), (35, .iconst 0, 1, [], []), (36, .istore 5, 2, [], []), (38, .nop, 0, [6], [])]),
  ([0, 1, 2, 3, 4, 5], [(38, .iload 5, 2, [], []), (40, .iconst 4, 1, [], []), (41, .if_icmp .ge 72, 3, [14, 7], [])]),
  ([0, 1, 2, 3, 4, 5], [(44, .iconst 1, 1, [], []), (45, .iload 5, 2, [], []), (47, .ishl, 1, [], []), (48, .istore 6, 2, [], []), (50, .iconst 0, 1, [], []), (51, .istore 7, 2, [], []), (53, .nop, 0, [8], [])]),
  ([0, 1, 2, 3, 4, 5, 6, 7], [(53, .iload 7, 2, [], []), (55, .iload_n 3, 1, [], []), (56, .if_icmp .ge 28, 3, [10, 9], [])]),
  ([0, 1, 2, 3, 4, 5, 6, 7], [(59, .aload_n 0, 1, [], []), (60, .iload_n 1, 1, [], []), (61, .iload 6, 2, [], []), (63, .aload_n 0, 1, [], []), (64, .getfield 9, 3, [1, 2, 12], [978, 0]), (67, .bipush 7, 2, [], []), (69, .iaload, 1, [], []), (70, .iload 7, 2, [], []), (72, .iadd, 1, [], []), (73, .invokevirtual 226, 3, [2, 1, 3, 12, 167], [1281, 0, 1283, 54, 71, 0, 0, 0]), (76, .istore 6, 2, [], []), (78, .iinc 7 1, 3, [], []), (81, .goto (-28), 3, [8], [])]),
  ([0, 1, 2, 3, 4, 5, 6], [(84, .iload 4, 2, [], []), (86, .iload 6, 2, [], []), (88, .iload_n 2, 1, [], []), (89, .ishr, 1, [], []), (90, .iconst 1, 1, [], []), (91, .iand, 1, [], []), (92, .iconst 1, 1, [], []), (93, .if_icmp .ne 10, 3, [12, 11], [])]),
  ([0, 1, 2, 3, 5], [(96, .iconst 1, 1, [], []), (97, .iload 5, 2, [], []), (99, .ishl, 1, [], []), (100, .goto 4, 3, [13], [])]),
  ([0, 1, 2, 3, 5], [(103, .iconst 0, 1, [], []), (104, .nop, 0, [13], [])]),
  ([0, 1, 2, 3, 5], [(104, .ior, 1, [], []), (105, .istore 4, 2, [], []), (107, .iinc 5 1, 3, [], []), (110, .goto (-72), 3, [6], [])]),
  ([4], [(113, .iload 4, 2, [], []), (115, .ireturn, 1, [0], [])])]
def km_X12_back : MT := (yX12_back, cX12_back, 8, (some .int), kb_X12_back)
def kb_X12_row : List (List Nat × List RI) := [
  ([0, 1], [(0, .iload_n 1, 1, [], []), (1, .iconst (-1), 1, [], []), (2, .if_icmp .ne 12, 3, [2, 1], [])]),
  ([0], [(5, .aload_n 0, 1, [], []), (6, .getfield 9, 3, [1, 2, 12], [978, 0]), (9, .iconst 4, 1, [], []), (10, .iconst 0, 1, [], []), (11, .iastore, 1, [], []), (12, .iconst 0, 1, [], []), (13, .ireturn, 1, [0], [])]),
  ([0, 1], [(14, .iload_n 1, 1, [], []), (15, .iconst 0, 1, [], []), (16, .iconst 3, 1, [], []), (17, .invokestatic 48, 3, [0, 1, 3, 113], [0, 1057, 1058]), (20, .ifCond .ne 6, 3, [4, 3], [])]),
  ([], [(23, .bipush (-2), 2, [], []), (25, .ireturn, 1, [0], [])]),
  ([0, 1], [(26, .aload_n 0, 1, [], []), (27, .getfield 9, 3, [1, 2, 12], [978, 0]), (30, .iconst 4, 1, [], []), (31, .iaload, 1, [], []), (32, .bipush 12, 2, [], []), (34, .if_icmp .ne 6, 3, [6, 5], [])]),
  ([], [(37, .bipush (-4), 2, [], []), (39, .ireturn, 1, [0], [])]),
  ([0, 1], [(40, .aload_n 0, 1, [], []), (41, .getfield 9, 3, [1, 2, 12], [978, 0]), (44, .bipush 40, 2, [], []), (46, .aload_n 0, 1, [], []), (47, .getfield 9, 3, [1, 2, 12], [978, 0]), (50, .iconst 4, 1, [], []), (51, .iaload, 1, [], []), (52, .iadd, 1, [], []), (53, .iload_n 1, 1, [], []), (54, .iastore, 1, [], []), (55, .aload_n 0, 1, [], []), (56, .getfield 9, 3, [1, 2, 12], [978, 0]), (59, .iconst 4, 1, [], []), (60, .dup2, 1, [], []), (61, .iaload, 1, [], []), (62, .iconst 1, 1, [], []), (63, .iadd, 1, [], []), (64, .iastore, 1, [], []), (65, .aload_n 0, 1, [], []), (66, .getfield 9, 3, [1, 2, 12], [978, 0]), (69, .iconst 4, 1, [], []), (70, .iaload, 1, [], []), (71, .ireturn, 1, [0], [])])]
def km_X12_row : MT := (yX12_row, cX12_row, 2, (some .int), kb_X12_row)
def kb_X12_looked : List (List Nat × List RI) := [
  ([0], [(0, .aload_n 0, 1, [], []), (1, .getfield 9, 3, [1, 2, 12], [978, 0]), (4, .iconst 0, 1, [], []), (5, .iaload, 1, [], []), (6, .ifCond .ne 6, 3, [2, 1], [])]),
  ([], [(9, .bipush (-3), 2, [], []), (11, .ireturn, 1, [0], [])]),
  ([0], [(12, .iconst 0, 1, [], []), (13, .istore_n 1, 1, [], []), (14, .nop, 0, [3], [])]),
  ([0, 1], [(14, .iload_n 1, 1, [], []), (15, .aload_n 0, 1, [], []), (16, .getfield 9, 3, [1, 2, 12], [978, 0]), (19, .iconst 4, 1, [], []), (20, .iaload, 1, [], []), (21, .if_icmp .ge 73, 3, [10, 4], [])]),
  ([0, 1], [(24, .iload_n 1, 1, [], []), (25, .ifCond .ne 15, 3, [6, 5], [])]),
  ([0, 1], [(28, .iconst 1, 1, [], []), (29, .aload_n 0, 1, [], []), (30, .getfield 9, 3, [1, 2, 12], [978, 0]), (33, .bipush 10, 2, [], []), (35, .iaload, 1, [], []), (36, .ishl, 1, [], []), (37, .goto 32, 3, [7], [])]),
  ([0, 1], [(40, .aload_n 0, 1, [], []), (41, .iconst 0, 1, [], []), (42, .iconst 1, 1, [], []), (43, .aload_n 0, 1, [], []), (44, .getfield 9, 3, [1, 2, 12], [978, 0]), (47, .bipush 40, 2, [], []), (49, .iload_n 1, 1, [], []), (50, .iadd, 1, [], []), (51, .iconst 1, 1, [], []), (52, .isub, 1, [], []), (53, .iaload, 1, [], []), (54, .ishl, 1, [], []), (55, .aload_n 0, 1, [], []), (56, .getfield 9, 3, [1, 2, 12], [978, 0]), (59, .bipush 7, 2, [], []), (61, .iaload, 1, [], []), (62, .iload_n 1, 1, [], []), (63, .iadd, 1, [], []), (64, .iconst 1, 1, [], []), (65, .isub, 1, [], []), (66, .invokevirtual 226, 3, [2, 1, 3, 12, 167], [1281, 0, 1283, 54, 71, 0, 0, 0]), (69, .nop, 0, [7], [])]),
  ([0, 1], [(69, .istore_n 2, 1, [], []), (70, .iload_n 2, 1, [], []), (71, .aload_n 0, 1, [], []), (72, .getfield 9, 3, [1, 2, 12], [978, 0]), (75, .bipush 40, 2, [], []), (77, .iload_n 1, 1, [], []), (78, .iadd, 1, [], []), (79, .iaload, 1, [], []), (80, .ishr, 1, [], []), (81, .iconst 1, 1, [], []), (82, .iand, 1, [], []), (83, .ifCond .ne 5, 3, [9, 8], [])]),
  ([1], [(86, .iload_n 1, 1, [], []), (87, .ireturn, 1, [0], [])]),
  ([0, 1], [(88, .iinc 1 1, 3, [], []), (91, .goto (-77), 3, [3], [])]),
  ([], [(94, .bipush (-5), 2, [], []), (96, .ireturn, 1, [0], [])])]
def km_X12_looked : MT := (yX12_looked, cX12_looked, 3, (some .int), kb_X12_looked)
def kb_X12_ranBody : List (List Nat × List RI) := [
  ([0, 1], [(0, .aload_n 0, 1, [], []), (1, .getfield 248, 3, [21, 0, 12], [998, 0]), (4, .bipush 20, 2, [], []), (6, .if_icmp .ge 13, 3, [2, 1], [])]),
  ([0, 1], [(9, .aload_n 0, 1, [], []), (10, .getfield 41, 3, [20, 2, 12], [997, 0]), (13, .aload_n 0, 1, [], []), (14, .getfield 248, 3, [21, 0, 12], [998, 0]), (17, .iload_n 1, 1, [], []), (18, .iastore, 1, [], []), (19, .nop, 0, [2], [])]),
  ([0], [(19, .aload_n 0, 1, [], []), (20, .dup, 1, [], []), (21, .getfield 248, 3, [21, 0, 12], [998, 0]), (24, .iconst 1, 1, [], []), (25, .iadd, 1, [], []), (26, .putfield 248, 3, [21, 0, 12], [998, 0]), (29, .return_, 1, [], [])])]
def km_X12_ranBody : MT := (yX12_ranBody, cX12_ranBody, 2, none, kb_X12_ranBody)
def kb_X12_isUnder : List (List Nat × List RI) := [
  ([0, 1], [(0, .iload_n 1, 1, [], []), (1, .ifCond .eq 24, 3, [5, 1], [])]),
  ([0, 1], [(4, .iload_n 1, 1, [], []), (5, .iload_n 0, 1, [], []), (6, .if_icmp .eq 19, 3, [5, 2], [])]),
  ([0, 1], [(9, .iload_n 1, 1, [], []), (10, .ifCond .le 19, 3, [6, 3], [])]),
  ([0, 1], [(13, .iload_n 1, 1, [], []), (14, .iconst 4, 1, [], []), (15, .if_icmp .ge 14, 3, [6, 4], [])]),
  ([0, 1], [(18, .iload_n 0, 1, [], []), (19, .iload_n 1, 1, [], []), (20, .iconst 3, 1, [], []), (21, .iadd, 1, [], []), (22, .if_icmp .ne 7, 3, [6, 5], [])]),
  ([], [(25, .iconst 1, 1, [], []), (26, .goto 4, 3, [7], [])]),
  ([], [(29, .iconst 0, 1, [], []), (30, .nop, 0, [7], [])]),
  ([], [(30, .ireturn, 1, [1], [])])]
def km_X12_isUnder : MT := (yX12_isUnder, cX12_isUnder, 2, (some .boolean), kb_X12_isUnder)
def kb_X12_plainSends : List (List Nat × List RI) := [
  ([0, 1], [(0, .aload_n 0, 1, [], []), (1, .iconst 1, 1, [], []), (2, .invokevirtual 251, 3, [2, 0, 1, 12, 182], [1344, 0, 1346, 60, 71, 0, 0, 0]), (5, .iload_n 1, 1, [], []), (6, .aload_n 0, 1, [], []), (7, .getfield 254, 3, [23, 0, 12], [1000, 0]), (10, .iadd, 1, [], []), (11, .ireturn, 1, [0], [])])]
def km_X12_plainSends : MT := (yX12_plainSends, cX12_plainSends, 2, (some .int), kb_X12_plainSends)
def kb_X12_sendsActs : List (List Nat × List RI) := [
  ([0, 1], [(0, .aload_n 0, 1, [], []), (1, .getfield 257, 3, [22, 0, 12], [999, 0]), (4, .iconst 1, 1, [], []), (5, .invokestatic 260, 3, [0, 1, 2, 183], [0, 1341, 1342]), (8, .ifCond .eq 17, 3, [2, 1], [])]),
  ([0, 1], [(11, .aload_n 0, 1, [], []), (12, .bipush 11, 2, [], []), (14, .invokevirtual 251, 3, [2, 0, 1, 12, 182], [1344, 0, 1346, 60, 71, 0, 0, 0]), (17, .aload_n 0, 1, [], []), (18, .iload_n 1, 1, [], []), (19, .iconst 3, 1, [], []), (20, .imul, 1, [], []), (21, .invokevirtual 263, 3, [2, 1, 1, 12, 184], [1348, 0, 1350, 61, 71, 0, 0, 0]), (24, .ireturn, 1, [0], [])]),
  ([0, 1], [(25, .aload_n 0, 1, [], []), (26, .getfield 257, 3, [22, 0, 12], [999, 0]), (29, .iconst 5, 1, [], []), (30, .if_icmp .ne 20, 3, [4, 3], [])]),
  ([0, 1], [(33, .aload_n 0, 1, [], []), (34, .bipush 51, 2, [], []), (36, .invokevirtual 251, 3, [2, 0, 1, 12, 182], [1344, 0, 1346, 60, 71, 0, 0, 0]), (39, .aload_n 0, 1, [], []), (40, .iload_n 1, 1, [], []), (41, .invokevirtual 263, 3, [2, 1, 1, 12, 184], [1348, 0, 1350, 61, 71, 0, 0, 0]), (44, .aload_n 0, 1, [], []), (45, .getfield 254, 3, [23, 0, 12], [1000, 0]), (48, .ixor, 1, [], []), (49, .ireturn, 1, [0], [])]),
  ([0, 1], [(50, .aload_n 0, 1, [], []), (51, .iload_n 1, 1, [], []), (52, .invokevirtual 263, 3, [2, 1, 1, 12, 184], [1348, 0, 1350, 61, 71, 0, 0, 0]), (55, .ireturn, 1, [0], [])])]
def km_X12_sendsActs : MT := (yX12_sendsActs, cX12_sendsActs, 2, (some .int), kb_X12_sendsActs)
def kb_X12_plainTakes : List (List Nat × List RI) := [
  ([0, 1], [(0, .aload_n 0, 1, [], []), (1, .iconst 2, 1, [], []), (2, .invokevirtual 251, 3, [2, 0, 1, 12, 182], [1344, 0, 1346, 60, 71, 0, 0, 0]), (5, .aload_n 0, 1, [], []), (6, .iload_n 1, 1, [], []), (7, .invokevirtual 266, 3, [2, 1, 1, 12, 185], [1337, 0, 1339, 59, 71, 0, 0, 0]), (10, .aload_n 0, 1, [], []), (11, .getfield 269, 3, [24, 0, 12], [1001, 0]), (14, .isub, 1, [], []), (15, .ireturn, 1, [0], [])])]
def km_X12_plainTakes : MT := (yX12_plainTakes, cX12_plainTakes, 2, (some .int), kb_X12_plainTakes)
def kb_X12_takesActs : List (List Nat × List RI) := [
  ([0, 1], [(0, .aload_n 0, 1, [], []), (1, .getfield 257, 3, [22, 0, 12], [999, 0]), (4, .iconst 2, 1, [], []), (5, .invokestatic 260, 3, [0, 1, 2, 183], [0, 1341, 1342]), (8, .ifCond .eq 16, 3, [2, 1], [])]),
  ([0, 1], [(11, .aload_n 0, 1, [], []), (12, .bipush 21, 2, [], []), (14, .invokevirtual 251, 3, [2, 0, 1, 12, 182], [1344, 0, 1346, 60, 71, 0, 0, 0]), (17, .aload_n 0, 1, [], []), (18, .iload_n 1, 1, [], []), (19, .invokevirtual 272, 3, [2, 1, 1, 12, 186], [1356, 0, 1358, 63, 71, 0, 0, 0]), (22, .ineg, 1, [], []), (23, .ireturn, 1, [0], [])]),
  ([0, 1], [(24, .aload_n 0, 1, [], []), (25, .getfield 257, 3, [22, 0, 12], [999, 0]), (28, .bipush 6, 2, [], []), (30, .if_icmp .ne 20, 3, [4, 3], [])]),
  ([0, 1], [(33, .aload_n 0, 1, [], []), (34, .bipush 61, 2, [], []), (36, .invokevirtual 251, 3, [2, 0, 1, 12, 182], [1344, 0, 1346, 60, 71, 0, 0, 0]), (39, .aload_n 0, 1, [], []), (40, .iload_n 1, 1, [], []), (41, .invokevirtual 272, 3, [2, 1, 1, 12, 186], [1356, 0, 1358, 63, 71, 0, 0, 0]), (44, .aload_n 0, 1, [], []), (45, .getfield 269, 3, [24, 0, 12], [1001, 0]), (48, .iadd, 1, [], []), (49, .ireturn, 1, [0], [])]),
  ([0, 1], [(50, .aload_n 0, 1, [], []), (51, .iload_n 1, 1, [], []), (52, .invokevirtual 272, 3, [2, 1, 1, 12, 186], [1356, 0, 1358, 63, 71, 0, 0, 0]), (55, .ireturn, 1, [0], [])])]
def km_X12_takesActs : MT := (yX12_takesActs, cX12_takesActs, 2, (some .int), kb_X12_takesActs)
def kb_X12_plainTells : List (List Nat × List RI) := [
  ([0, 1], [(0, .aload_n 0, 1, [], []), (1, .iconst 3, 1, [], []), (2, .invokevirtual 251, 3, [2, 0, 1, 12, 182], [1344, 0, 1346, 60, 71, 0, 0, 0]), (5, .aload_n 0, 1, [], []), (6, .iload_n 1, 1, [], []), (7, .invokevirtual 275, 3, [2, 1, 1, 12, 187], [1352, 0, 1354, 62, 71, 0, 0, 0]), (10, .iconst 2, 1, [], []), (11, .imul, 1, [], []), (12, .ireturn, 1, [0], [])])]
def km_X12_plainTells : MT := (yX12_plainTells, cX12_plainTells, 2, (some .int), kb_X12_plainTells)
def kb_X12_tellsActs : List (List Nat × List RI) := [
  ([0, 1], [(0, .aload_n 0, 1, [], []), (1, .getfield 257, 3, [22, 0, 12], [999, 0]), (4, .iconst 3, 1, [], []), (5, .invokestatic 260, 3, [0, 1, 2, 183], [0, 1341, 1342]), (8, .ifCond .eq 18, 3, [2, 1], [])]),
  ([0, 1], [(11, .aload_n 0, 1, [], []), (12, .bipush 31, 2, [], []), (14, .invokevirtual 251, 3, [2, 0, 1, 12, 182], [1344, 0, 1346, 60, 71, 0, 0, 0]), (17, .aload_n 0, 1, [], []), (18, .iload_n 1, 1, [], []), (19, .invokevirtual 278, 3, [2, 1, 1, 12, 188], [1364, 0, 1366, 65, 71, 0, 0, 0]), (22, .bipush 7, 2, [], []), (24, .ixor, 1, [], []), (25, .ireturn, 1, [0], [])]),
  ([0, 1], [(26, .aload_n 0, 1, [], []), (27, .getfield 257, 3, [22, 0, 12], [999, 0]), (30, .iconst 4, 1, [], []), (31, .if_icmp .ne 25, 3, [4, 3], [])]),
  ([0, 1], [(34, .aload_n 0, 1, [], []), (35, .bipush 41, 2, [], []), (37, .invokevirtual 251, 3, [2, 0, 1, 12, 182], [1344, 0, 1346, 60, 71, 0, 0, 0]), (40, .aload_n 0, 1, [], []), (41, .iload_n 1, 1, [], []), (42, .iconst 1, 1, [], []), (43, .isub, 1, [], []), (44, .invokevirtual 278, 3, [2, 1, 1, 12, 188], [1364, 0, 1366, 65, 71, 0, 0, 0]), (47, .istore_n 2, 1, [], []), (48, .iload_n 2, 1, [], []), (49, .aload_n 0, 1, [], []), (50, .iconst 2, 1, [], []), (51, .invokevirtual 266, 3, [2, 1, 1, 12, 185], [1337, 0, 1339, 59, 71, 0, 0, 0]), (54, .iadd, 1, [], []), (55, .ireturn, 1, [0], [])]),
  ([0, 1], [(56, .aload_n 0, 1, [], []), (57, .iload_n 1, 1, [], []), (58, .invokevirtual 278, 3, [2, 1, 1, 12, 188], [1364, 0, 1366, 65, 71, 0, 0, 0]), (61, .ireturn, 1, [0], [])])]
def km_X12_tellsActs : MT := (yX12_tellsActs, cX12_tellsActs, 3, (some .int), kb_X12_tellsActs)
def kb_X12_act : List (List Nat × List RI) := [
  ([0, 1, 2, 3], [(0, .aload_n 0, 1, [], []), (1, .iconst 0, 1, [], []), (2, .putfield 248, 3, [21, 0, 12], [998, 0]), (5, .aload_n 0, 1, [], []), (6, .iload_n 1, 1, [], []), (7, .invokevirtual 168, 3, [2, 1, 1, 12, 115], [1163, 0, 1165, 36, 71, 0, 0, 0]), (10, .ifCond .eq 12, 3, [2, 1], [])]),
  ([0, 1, 2, 3], [(13, .iload_n 2, 1, [], []), (14, .iconst 0, 1, [], []), (15, .iconst 2, 1, [], []), (16, .invokestatic 48, 3, [0, 1, 3, 113], [0, 1057, 1058]), (19, .ifCond .ne 5, 3, [3, 2], [])]),
  ([], [(22, .iconst 0, 1, [], []), (23, .ireturn, 1, [0], [])]),
  ([0, 1, 2, 3], [(24, .aload_n 0, 1, [], []), (25, .aload_n 0, 1, [], []), (26, .getfield 9, 3, [1, 2, 12], [978, 0]), (29, .bipush 14, 2, [], []), (31, .iload_n 1, 1, [], []), (32, .iadd, 1, [], []), (33, .iaload, 1, [], []), (34, .putfield 257, 3, [22, 0, 12], [999, 0]), (37, .aload_n 0, 1, [], []), (38, .iload_n 1, 1, [], []), (39, .putfield 254, 3, [23, 0, 12], [1000, 0]), (42, .aload_n 0, 1, [], []), (43, .aload_n 0, 1, [], []), (44, .getfield 9, 3, [1, 2, 12], [978, 0]), (47, .bipush 19, 2, [], []), (49, .iload_n 1, 1, [], []), (50, .iadd, 1, [], []), (51, .iaload, 1, [], []), (52, .putfield 269, 3, [24, 0, 12], [1001, 0]), (55, .iload_n 2, 1, [], []), (56, .ifCond .ne 11, 3, [5, 4], [])]),
  ([0, 3], [(59, .aload_n 0, 1, [], []), (60, .iload_n 3, 1, [], []), (61, .invokevirtual 266, 3, [2, 1, 1, 12, 185], [1337, 0, 1339, 59, 71, 0, 0, 0]), (64, .goto 21, 3, [8], [])]),
  ([0, 2, 3], [(67, .iload_n 2, 1, [], []), (68, .iconst 1, 1, [], []), (69, .if_icmp .ne 11, 3, [7, 6], [])]),
  ([0, 3], [(72, .aload_n 0, 1, [], []), (73, .iload_n 3, 1, [], []), (74, .invokevirtual 275, 3, [2, 1, 1, 12, 187], [1352, 0, 1354, 62, 71, 0, 0, 0]), (77, .goto 8, 3, [8], [])]),
  ([0, 3], [(80, .aload_n 0, 1, [], []), (81, .iload_n 3, 1, [], []), (82, .invokevirtual 281, 3, [2, 1, 1, 12, 189], [1360, 0, 1362, 64, 71, 0, 0, 0]), (85, .nop, 0, [8], [])]),
  ([], [(85, .ireturn, 1, [0], [])])]
def km_X12_act : MT := (yX12_act, cX12_act, 4, (some .int), kb_X12_act)
def kb_X12_trace : List (List Nat × List RI) := [
  ([0, 1], [(0, .iload_n 1, 1, [], []), (1, .iconst 0, 1, [], []), (2, .aload_n 0, 1, [], []), (3, .getfield 248, 3, [21, 0, 12], [998, 0]), (6, .bipush 20, 2, [], []), (8, .if_icmp .ge 10, 3, [2, 1], [])]),
  ([0, 1], [(11, .aload_n 0, 1, [], []), (12, .getfield 248, 3, [21, 0, 12], [998, 0]), (15, .goto 5, 3, [3], [])]),
  ([0, 1], [(18, .bipush 20, 2, [], []), (20, .nop, 0, [3], [])]),
  ([0, 1], [(20, .iconst 1, 1, [], []), (21, .isub, 1, [], []), (22, .invokestatic 48, 3, [0, 1, 3, 113], [0, 1057, 1058]), (25, .ifCond .eq 12, 3, [5, 4], [])]),
  ([0, 1], [(28, .aload_n 0, 1, [], []), (29, .getfield 41, 3, [20, 2, 12], [997, 0]), (32, .iload_n 1, 1, [], []), (33, .iaload, 1, [], []), (34, .goto 4, 3, [6], [])]),
  ([], [(37, .iconst (-1), 1, [], []), (38, .nop, 0, [6], [])]),
  ([], [(38, .ireturn, 1, [0], [])])]
def km_X12_trace : MT := (yX12_trace, cX12_trace, 2, (some .int), kb_X12_trace)
def kb_X12_as : List (List Nat × List RI) := [
  ([0, 1, 2], [(0, .aload_n 0, 1, [], []), (1, .iload_n 1, 1, [], []), (2, .invokevirtual 168, 3, [2, 1, 1, 12, 115], [1163, 0, 1165, 36, 71, 0, 0, 0]), (5, .ifCond .eq 13, 3, [2, 1], [])]),
  ([0, 1, 2], [(8, .iload_n 2, 1, [], []), (9, .iconst 0, 1, [], []), (10, .bipush 6, 2, [], []), (12, .invokestatic 48, 3, [0, 1, 3, 113], [0, 1057, 1058]), (15, .ifCond .ne 5, 3, [3, 2], [])]),
  ([], [(18, .iconst (-1), 1, [], []), (19, .ireturn, 1, [0], [])]),
  ([0, 1, 2], [(20, .aload_n 0, 1, [], []), (21, .getfield 9, 3, [1, 2, 12], [978, 0]), (24, .bipush 14, 2, [], []), (26, .iload_n 1, 1, [], []), (27, .iadd, 1, [], []), (28, .iaload, 1, [], []), (29, .iload_n 2, 1, [], []), (30, .invokestatic 260, 3, [0, 1, 2, 183], [0, 1341, 1342]), (33, .ifCond .eq 15, 3, [5, 4], [])]),
  ([0, 1], [(36, .aload_n 0, 1, [], []), (37, .getfield 9, 3, [1, 2, 12], [978, 0]), (40, .bipush 19, 2, [], []), (42, .iload_n 1, 1, [], []), (43, .iadd, 1, [], []), (44, .iaload, 1, [], []), (45, .goto 5, 3, [6], [])]),
  ([], [(48, .bipush (-6), 2, [], []), (50, .nop, 0, [6], [])]),
  ([], [(50, .ireturn, 1, [0], [])])]
def km_X12_as : MT := (yX12_as, cX12_as, 3, (some .int), kb_X12_as)
def kb_X12_image : List (List Nat × List RI) := [
  ([0], [(0, .iconst 0, 1, [], []), (1, .istore_n 1, 1, [], []), (2, .nop, 0, [1], [])]),
  ([0, 1], [(2, .iload_n 1, 1, [], []), (3, .sipush 1562, 3, [], []), (6, .if_icmp .ge 21, 3, [3, 2], [])]),
  ([0, 1], [(9, .aload_n 0, 1, [], []), (10, .getfield 15, 3, [2, 2, 12], [979, 0]), (13, .iload_n 1, 1, [], []), (14, .aload_n 0, 1, [], []), (15, .getfield 9, 3, [1, 2, 12], [978, 0]), (18, .iload_n 1, 1, [], []), (19, .iaload, 1, [], []), (20, .iastore, 1, [], []), (21, .iinc 1 1, 3, [], []), (24, .goto (-22), 3, [1], [])]),
  ([0], [(27, .aload_n 0, 1, [], []), (28, .iconst 1, 1, [], []), (29, .putfield 284, 3, [3, 1, 12], [980, 0]), (32, .aload_n 0, 1, [], []), (33, .getfield 9, 3, [1, 2, 12], [978, 0]), (36, .iconst 0, 1, [], []), (37, .iaload, 1, [], []), (38, .ireturn, 1, [0], [])])]
def km_X12_image : MT := (yX12_image, cX12_image, 2, (some .int), kb_X12_image)
def kb_X12_undo : List (List Nat × List RI) := [
  ([0], [(0, .aload_n 0, 1, [], []), (1, .getfield 284, 3, [3, 1, 12], [980, 0]), (4, .ifCond .ne 6, 3, [2, 1], [])]),
  ([], [(7, .bipush (-3), 2, [], []), (9, .ireturn, 1, [0], [])]),
  ([0], [(10, .iconst 0, 1, [], []), (11, .istore_n 1, 1, [], []), (12, .nop, 0, [3], [])]),
  ([0, 1], [(12, .iload_n 1, 1, [], []), (13, .sipush 1562, 3, [], []), (16, .if_icmp .ge 21, 3, [5, 4], [])]),
  ([0, 1], [(19, .aload_n 0, 1, [], []), (20, .getfield 9, 3, [1, 2, 12], [978, 0]), (23, .iload_n 1, 1, [], []), (24, .aload_n 0, 1, [], []), (25, .getfield 15, 3, [2, 2, 12], [979, 0]), (28, .iload_n 1, 1, [], []), (29, .iaload, 1, [], []), (30, .iastore, 1, [], []), (31, .iinc 1 1, 3, [], []), (34, .goto (-22), 3, [3], [])]),
  ([0], [(37, .aload_n 0, 1, [], []), (38, .getfield 9, 3, [1, 2, 12], [978, 0]), (41, .iconst 0, 1, [], []), (42, .iaload, 1, [], []), (43, .ireturn, 1, [0], [])])]
def km_X12_undo : MT := (yX12_undo, cX12_undo, 2, (some .int), kb_X12_undo)
def kb_X12_count : List (List Nat × List RI) := [
  ([0, 1], [(0, .iload_n 1, 1, [], []), (1, .tableswitch 90 0 6 #[43, 50, 57, 64, 71, 78, 85], 43, [8, 1, 2, 3, 4, 5, 6, 7], [])]),
  ([0], [(44, .aload_n 0, 1, [], []), (45, .getfield 9, 3, [1, 2, 12], [978, 0]), (48, .iconst 0, 1, [], []), (49, .iaload, 1, [], []), (50, .ireturn, 1, [0], [])]),
  ([0], [(51, .aload_n 0, 1, [], []), (52, .getfield 9, 3, [1, 2, 12], [978, 0]), (55, .iconst 1, 1, [], []), (56, .iaload, 1, [], []), (57, .ireturn, 1, [0], [])]),
  ([0], [(58, .aload_n 0, 1, [], []), (59, .getfield 9, 3, [1, 2, 12], [978, 0]), (62, .iconst 2, 1, [], []), (63, .iaload, 1, [], []), (64, .ireturn, 1, [0], [])]),
  ([0], [(65, .aload_n 0, 1, [], []), (66, .getfield 9, 3, [1, 2, 12], [978, 0]), (69, .iconst 3, 1, [], []), (70, .iaload, 1, [], []), (71, .ireturn, 1, [0], [])]),
  ([0], [(72, .aload_n 0, 1, [], []), (73, .getfield 9, 3, [1, 2, 12], [978, 0]), (76, .iconst 4, 1, [], []), (77, .iaload, 1, [], []), (78, .ireturn, 1, [0], [])]),
  ([0], [(79, .aload_n 0, 1, [], []), (80, .getfield 9, 3, [1, 2, 12], [978, 0]), (83, .iconst 5, 1, [], []), (84, .iaload, 1, [], []), (85, .ireturn, 1, [0], [])]),
  ([0], [(86, .aload_n 0, 1, [], []), (87, .getfield 248, 3, [21, 0, 12], [998, 0]), (90, .ireturn, 1, [0], [])]),
  ([], [(91, .iconst (-1), 1, [], []), (92, .ireturn, 1, [0], [])])]
def km_X12_count : MT := (yX12_count, cX12_count, 2, (some .int), kb_X12_count)
def kb_J0_length_8abf5 : List (List Nat × List RI) := [
  ([0], [(0, .aload_n 0, 1, [], []), (1, .getfield 9, 3, [0, 2, 30], [1399, 0]), (4, .arraylength, 1, [], []), (5, .aload_n 0, 1, [], []), (6, .invokevirtual 335, 3, [2, 1, 0, 30, 200], [272, 0, 273, 274, 72, 0, 0, 0]), (9, .ishr, 1, [], []), (10, .ireturn, 1, [0], [])])]
def km_J0_length_8abf5 : MT := (yJ0_length_8abf5, cJ0_length_8abf5, 1, (some .int), kb_J0_length_8abf5)
def kb_J0_charAt_5068e : List (List Nat × List RI) := [
  ([0, 1], [(0, .aload_n 0, 1, [], []), (1, .invokevirtual 492, 3, [2, 1, 0, 30, 201], [282, 0, 283, 284, 72, 0, 0, 0]), (4, .ifCond .eq 12, 3, [2, 1], [])]),
  ([0, 1], [(7, .aload_n 0, 1, [], []), (8, .getfield 9, 3, [0, 2, 30], [1399, 0]), (11, .iload_n 1, 1, [], []), (12, .invokestatic 495, 3, [0, 1, 2, 203], [0, 286, 287]), (15, .ireturn, 1, [3], [])]),
  ([], [(16, .athrow, 1, [], [])])]
def km_J0_charAt_5068e : MT := (yJ0_charAt_5068e, cJ0_charAt_5068e, 2, (some .char), kb_J0_charAt_5068e)
def kb_J0_indexOf_0f7a4 : List (List Nat × List RI) := [
  ([0, 1], [(0, .aload_n 0, 1, [], []), (1, .iload_n 1, 1, [], []), (2, .iconst 0, 1, [], []), (3, .invokevirtual 633, 3, [2, 1, 2, 30, 199], [342, 0, 343, 344, 72, 0, 0, 0]), (6, .ireturn, 1, [0], [])])]
def km_J0_indexOf_0f7a4 : MT := (yJ0_indexOf_0f7a4, cJ0_indexOf_0f7a4, 2, (some .int), kb_J0_indexOf_0f7a4)
def kb_J0_indexOf_7cf53 : List (List Nat × List RI) := [
  ([0, 1, 2], [(0, .aload_n 0, 1, [], []), (1, .invokevirtual 492, 3, [2, 1, 0, 30, 201], [282, 0, 283, 284, 72, 0, 0, 0]), (4, .ifCond .eq 19, 3, [2, 1], [])]),
  ([0, 1, 2], [(7, .aload_n 0, 1, [], []), (8, .getfield 9, 3, [0, 2, 30], [1399, 0]), (11, .iload_n 1, 1, [], []), (12, .iload_n 2, 1, [], []), (13, .aload_n 0, 1, [], []), (14, .invokevirtual 505, 3, [2, 1, 0, 30, 196], [346, 0, 269, 270, 72, 0, 0, 0]), (17, .invokestatic 637, 3, [0, 1, 4, 205], [0, 347, 348]), (20, .goto 16, 3, [3], [])]),
  ([], [(23, .athrow, 1, [], [])]),
  ([], [(36, .ireturn, 1, [0], [])])]
def km_J0_indexOf_7cf53 : MT := (yJ0_indexOf_7cf53, cJ0_indexOf_7cf53, 3, (some .int), kb_J0_indexOf_7cf53)
def kb_J0_coder_7d493 : List (List Nat × List RI) := [
  ([0], [(0, .getstatic 38, 3, [0], [276]), (3, .ifCond .eq 10, 3, [2, 1], [])]),
  ([0], [(6, .aload_n 0, 1, [], []), (7, .getfield 15, 3, [1, 0, 30], [1400, 0]), (10, .goto 4, 3, [3], [])]),
  ([], [(13, .iconst 1, 1, [], []), (14, .nop, 0, [3], [])]),
  ([], [(14, .ireturn, 1, [2], [])])]
def km_J0_coder_7d493 : MT := (yJ0_coder_7d493, cJ0_coder_7d493, 1, (some .byte), kb_J0_coder_7d493)
def kb_J0_isLatin1_aae02 : List (List Nat × List RI) := [
  ([0], [(0, .getstatic 38, 3, [0], [276]), (3, .ifCond .eq 14, 3, [3, 1], [])]),
  ([0], [(6, .aload_n 0, 1, [], []), (7, .getfield 15, 3, [1, 0, 30], [1400, 0]), (10, .ifCond .ne 7, 3, [3, 2], [])]),
  ([], [(13, .iconst 1, 1, [], []), (14, .goto 4, 3, [4], [])]),
  ([], [(17, .iconst 0, 1, [], []), (18, .nop, 0, [4], [])]),
  ([], [(18, .ireturn, 1, [1], [])])]
def km_J0_isLatin1_aae02 : MT := (yJ0_isLatin1_aae02, cJ0_isLatin1_aae02, 1, (some .boolean), kb_J0_isLatin1_aae02)
def kb_J0_checkIndex_df160 : List (List Nat × List RI) := [
  ([0, 1], [(0, .iload_n 0, 1, [], []), (1, .iload_n 1, 1, [], []), (2, .getstatic 1053, 3, [1], [292]), (5, .invokestatic 1059, 3, [0, 1, 3, 208], [0, 294, 295]), (8, .pop, 1, [], []), (9, .return_, 1, [], [])])]
def km_J0_checkIndex_df160 : MT := (yJ0_checkIndex_df160, cJ0_checkIndex_df160, 2, none, kb_J0_checkIndex_df160)
def kb_J1_charAt_3b067 : List (List Nat × List RI) := [
  ([0, 1], [(0, .iload_n 1, 1, [], []), (1, .aload_n 0, 1, [], []), (2, .arraylength, 1, [], []), (3, .invokestatic 9, 3, [0, 0, 2, 202], [0, 289, 290]), (6, .aload_n 0, 1, [], []), (7, .iload_n 1, 1, [], []), (8, .baload, 1, [], []), (9, .sipush 255, 3, [], []), (12, .iand, 1, [], []), (13, .i2c, 1, [], []), (14, .ireturn, 1, [3], [])])]
def km_J1_charAt_3b067 : MT := (yJ1_charAt_3b067, cJ1_charAt_3b067, 2, (some .char), kb_J1_charAt_3b067)
def kb_J1_canEncode_9a6ad : List (List Nat × List RI) := [
  ([0], [(0, .iload_n 0, 1, [], []), (1, .ifCond .lt 14, 3, [3, 1], [])]),
  ([0], [(4, .iload_n 0, 1, [], []), (5, .sipush 255, 3, [], []), (8, .if_icmp .gt 7, 3, [3, 2], [])]),
  ([], [(11, .iconst 1, 1, [], []), (12, .goto 4, 3, [4], [])]),
  ([], [(15, .iconst 0, 1, [], []), (16, .nop, 0, [4], [])]),
  ([], [(16, .ireturn, 1, [1], [])])]
def km_J1_canEncode_9a6ad : MT := (yJ1_canEncode_9a6ad, cJ1_canEncode_9a6ad, 1, (some .boolean), kb_J1_canEncode_9a6ad)
def kb_J1_indexOf_4cfef : List (List Nat × List RI) := [
  ([0, 1, 2, 3], [(0, .iload_n 1, 1, [], []), (1, .invokestatic 88, 3, [0, 1, 1, 204], [0, 350, 351]), (4, .ifCond .ne 5, 3, [2, 1], [])]),
  ([], [(7, .iconst (-1), 1, [], []), (8, .ireturn, 1, [0], [])]),
  ([0, 1, 2, 3], [(9, .iload_n 2, 1, [], []), (10, .iconst 0, 1, [], []), (11, .invokestatic 92, 3, [5], [353, 354, 76, 355]), (14, .istore_n 2, 1, [], []), (15, .iload_n 3, 1, [], []), (16, .aload_n 0, 1, [], []), (17, .arraylength, 1, [], []), (18, .invokestatic 38, 3, [6], [356, 357, 76, 358]), (21, .istore_n 3, 1, [], []), (22, .iload_n 2, 1, [], []), (23, .iload_n 3, 1, [], []), (24, .if_icmp .lt 5, 3, [4, 3], [])]),
  ([], [(27, .iconst (-1), 1, [], []), (28, .ireturn, 1, [0], [])]),
  ([0, 1, 2, 3], [(29, .aload_n 0, 1, [], []), (30, .iload_n 1, 1, [], []), (31, .iload_n 2, 1, [], []), (32, .iload_n 3, 1, [], []), (33, .invokestatic 95, 3, [0, 1, 4, 206], [0, 359, 360]), (36, .ireturn, 1, [0], [])])]
def km_J1_indexOf_4cfef : MT := (yJ1_indexOf_4cfef, cJ1_indexOf_4cfef, 4, (some .int), kb_J1_indexOf_4cfef)
def kb_J1_indexOfChar_4cfef : List (List Nat × List RI) := [
  ([0, 1, 2, 3], [(0, .iload_n 1, 1, [], []), (1, .i2b, 1, [], []), (2, .istore 4, 2, [], []), (4, .iload_n 2, 1, [], []), (5, .istore 5, 2, [], []), (7, .nop, 0, [1], [])]),
  ([0, 3, 4, 5], [(7, .iload 5, 2, [], []), (9, .iload_n 3, 1, [], []), (10, .if_icmp .ge 21, 3, [5, 2], [])]),
  ([0, 3, 4, 5], [(13, .aload_n 0, 1, [], []), (14, .iload 5, 2, [], []), (16, .baload, 1, [], []), (17, .iload 4, 2, [], []), (19, .if_icmp .ne 6, 3, [4, 3], [])]),
  ([5], [(22, .iload 5, 2, [], []), (24, .ireturn, 1, [0], [])]),
  ([0, 3, 4, 5], [(25, .iinc 5 1, 3, [], []), (28, .goto (-21), 3, [1], [])]),
  ([], [(31, .iconst (-1), 1, [], []), (32, .ireturn, 1, [0], [])])]
def km_J1_indexOfChar_4cfef : MT := (yJ1_indexOfChar_4cfef, cJ1_indexOfChar_4cfef, 6, (some .int), kb_J1_indexOfChar_4cfef)
def kb_J7_copyOf_59c91 : List (List Nat × List RI) := [
  ([0, 1], [(0, .iload_n 1, 1, [], []), (1, .aload_n 0, 1, [], []), (2, .arraylength, 1, [], []), (3, .if_icmp .ne 11, 3, [2, 1], [])]),
  ([], [(6, .athrow, 1, [], [])]),
  ([0, 1], [(14, .iload_n 1, 1, [], []), (15, .newarray .int, 2, [20], [198]), (17, .astore_n 2, 1, [], []), (18, .aload_n 0, 1, [], []), (19, .iconst 0, 1, [], []), (20, .aload_n 2, 1, [], []), (21, .iconst 0, 1, [], []), (22, .aload_n 0, 1, [], []), (23, .arraylength, 1, [], []), (24, .iload_n 1, 1, [], []), (25, .invokestatic 304, 3, [6], [421, 357, 76, 358]), (28, .invokestatic 150, 3, [4], [422, 424, 423, 80]), (31, .aload_n 2, 1, [], []), (32, .areturn, 1, [], [])])]
def km_J7_copyOf_59c91 : MT := (yJ7_copyOf_59c91, cJ7_copyOf_59c91, 3, (some (.array .int)), kb_J7_copyOf_59c91)
def kb_J3_checkIndex_8e157 : List (List Nat × List RI) := [
  ([0, 1], [(0, .iload_n 0, 1, [], []), (1, .ifCond .lt 8, 3, [2, 1], [])]),
  ([0, 1], [(4, .iload_n 0, 1, [], []), (5, .iload_n 1, 1, [], []), (6, .if_icmp .lt 10, 3, [3, 2], [])]),
  ([], [(9, .athrow, 1, [], [])]),
  ([0], [(16, .iload_n 0, 1, [], []), (17, .ireturn, 1, [0], [])])]
def km_J3_checkIndex_8e157 : MT := (yJ3_checkIndex_8e157, cJ3_checkIndex_8e157, 3, (some .int), kb_J3_checkIndex_8e157)
def kb_L_law_0 : List (List Nat × List RI) := [
  ([0], [(0, .new 7, 3, [11, 7], [88, 89, 67]), (3, .dup, 1, [], []), (4, .invokespecial 9, 3, [1, 0, 0, 62, 11], [0, 90, 91]), (7, .astore_n 1, 1, [], []), (8, .new 10, 3, [12, 25], [972, 973, 71]), (11, .dup, 1, [], []), (12, .invokespecial 12, 3, [1, 0, 0, 112, 12], [0, 974, 975]), (15, .astore_n 2, 1, [], []), (16, .iconst 0, 1, [], []), (17, .istore_n 3, 1, [], []), (18, .nop, 0, [1], [])]),
  ([0, 1, 2, 3], [(18, .iload_n 3, 1, [], []), (19, .aload_n 0, 1, [], []), (20, .arraylength, 1, [], []), (21, .bipush 6, 2, [], []), (23, .isub, 1, [], []), (24, .if_icmp .gt 1100, 3, [66, 2], [])]),
  ([0, 1, 2, 3], [(27, .aload_n 0, 1, [], []), (28, .iload_n 3, 1, [], []), (29, .iaload, 1, [], []), (30, .bipush 31, 2, [], []), (32, .iand, 1, [], []), (33, .tableswitch 1085 0 30 #[139, 162, 175, 188, 211, 244, 277, 330, 363, 396, 409, 432, 476, 509, 542, 565, 629, 662, 705, 728, 771, 804, 858, 901, 924, 937, 980, 1003, 1036, 1049, 1062], 139, [65, 3, 5, 7, 9, 11, 13, 15, 17, 19, 21, 23, 25, 27, 29, 31, 33, 35, 37, 39, 41, 43, 45, 47, 49, 51, 53, 55, 57, 59, 61, 63], [])]),
  ([0, 1, 2, 3], [(172, .aload_n 1, 1, [], []), (173, .aload_n 0, 1, [], []), (174, .iload_n 3, 1, [], []), (175, .iconst 1, 1, [], []), (176, .iadd, 1, [], []), (177, .iaload, 1, [], []), (178, .invokevirtual 13, 3, [2, 1, 1, 11, 63], [238, 0, 239, 240, 67, 0, 0, 0]), (181, .aload_n 2, 1, [], []), (182, .aload_n 0, 1, [], []), (183, .iload_n 3, 1, [], []), (184, .iconst 1, 1, [], []), (185, .iadd, 1, [], []), (186, .iaload, 1, [], []), (187, .invokevirtual 17, 3, [2, 1, 1, 12, 117], [1053, 0, 1054, 1055, 71, 0, 0, 0]), (190, .if_icmp .eq 928, 3, [65, 4], [])]),
  ([], [(193, .iconst 0, 1, [], []), (194, .ireturn, 1, [1], [])]),
  ([0, 1, 2, 3], [(195, .aload_n 1, 1, [], []), (196, .invokevirtual 18, 3, [2, 1, 0, 11, 64], [242, 0, 243, 244, 67, 0, 0, 0]), (199, .aload_n 2, 1, [], []), (200, .invokevirtual 22, 3, [2, 1, 0, 12, 131], [1060, 0, 1061, 1062, 71, 0, 0, 0]), (203, .if_icmp .eq 915, 3, [65, 6], [])]),
  ([], [(206, .iconst 0, 1, [], []), (207, .ireturn, 1, [1], [])]),
  ([0, 1, 2, 3], [(208, .aload_n 1, 1, [], []), (209, .invokevirtual 23, 3, [2, 1, 0, 11, 65], [445, 0, 446, 447, 67, 0, 0, 0]), (212, .aload_n 2, 1, [], []), (213, .invokevirtual 26, 3, [2, 1, 0, 12, 132], [1123, 0, 1124, 1125, 71, 0, 0, 0]), (216, .if_icmp .eq 902, 3, [65, 8], [])]),
  ([], [(219, .iconst 0, 1, [], []), (220, .ireturn, 1, [1], [])])]
def kb_L_law_1 : List (List Nat × List RI) := [
  ([0, 1, 2, 3], [(221, .aload_n 1, 1, [], []), (222, .aload_n 0, 1, [], []), (223, .iload_n 3, 1, [], []), (224, .iconst 1, 1, [], []), (225, .iadd, 1, [], []), (226, .iaload, 1, [], []), (227, .invokevirtual 27, 3, [2, 1, 1, 11, 66], [454, 0, 455, 456, 67, 0, 0, 0]), (230, .aload_n 2, 1, [], []), (231, .aload_n 0, 1, [], []), (232, .iload_n 3, 1, [], []), (233, .iconst 1, 1, [], []), (234, .iadd, 1, [], []), (235, .iaload, 1, [], []), (236, .invokevirtual 30, 3, [2, 1, 1, 12, 138], [1128, 0, 1129, 1130, 71, 0, 0, 0]), (239, .if_icmp .eq 879, 3, [65, 10], [])]),
  ([], [(242, .iconst 0, 1, [], []), (243, .ireturn, 1, [1], [])]),
  ([0, 1, 2, 3], [(244, .aload_n 1, 1, [], []), (245, .aload_n 0, 1, [], []), (246, .iload_n 3, 1, [], []), (247, .iconst 1, 1, [], []), (248, .iadd, 1, [], []), (249, .iaload, 1, [], []), (250, .aload_n 0, 1, [], []), (251, .iload_n 3, 1, [], []), (252, .iconst 2, 1, [], []), (253, .iadd, 1, [], []), (254, .iaload, 1, [], []), (255, .invokevirtual 31, 3, [2, 1, 2, 11, 67], [464, 0, 465, 466, 67, 0, 0, 0]), (258, .aload_n 2, 1, [], []), (259, .aload_n 0, 1, [], []), (260, .iload_n 3, 1, [], []), (261, .iconst 1, 1, [], []), (262, .iadd, 1, [], []), (263, .iaload, 1, [], []), (264, .aload_n 0, 1, [], []), (265, .iload_n 3, 1, [], []), (266, .iconst 2, 1, [], []), (267, .iadd, 1, [], []), (268, .iaload, 1, [], []), (269, .invokevirtual 35, 3, [2, 1, 2, 12, 139], [1132, 0, 1133, 1134, 71, 0, 0, 0]), (272, .if_icmp .eq 846, 3, [65, 12], [])]),
  ([], [(275, .iconst 0, 1, [], []), (276, .ireturn, 1, [1], [])])]
def kb_L_law_2 : List (List Nat × List RI) := [
  ([0, 1, 2, 3], [(277, .aload_n 1, 1, [], []), (278, .aload_n 0, 1, [], []), (279, .iload_n 3, 1, [], []), (280, .iconst 1, 1, [], []), (281, .iadd, 1, [], []), (282, .iaload, 1, [], []), (283, .aload_n 0, 1, [], []), (284, .iload_n 3, 1, [], []), (285, .iconst 2, 1, [], []), (286, .iadd, 1, [], []), (287, .iaload, 1, [], []), (288, .invokevirtual 36, 3, [2, 1, 2, 11, 68], [475, 0, 476, 477, 67, 0, 0, 0]), (291, .aload_n 2, 1, [], []), (292, .aload_n 0, 1, [], []), (293, .iload_n 3, 1, [], []), (294, .iconst 1, 1, [], []), (295, .iadd, 1, [], []), (296, .iaload, 1, [], []), (297, .aload_n 0, 1, [], []), (298, .iload_n 3, 1, [], []), (299, .iconst 2, 1, [], []), (300, .iadd, 1, [], []), (301, .iaload, 1, [], []), (302, .invokevirtual 39, 3, [2, 1, 2, 12, 140], [1140, 0, 1141, 1142, 71, 0, 0, 0]), (305, .if_icmp .eq 813, 3, [65, 14], [])]),
  ([], [(308, .iconst 0, 1, [], []), (309, .ireturn, 1, [1], [])])]
def kb_L_law_3 : List (List Nat × List RI) := [
  ([0, 1, 2, 3], [(310, .aload_n 1, 1, [], []), (311, .aload_n 0, 1, [], []), (312, .iload_n 3, 1, [], []), (313, .iconst 1, 1, [], []), (314, .iadd, 1, [], []), (315, .iaload, 1, [], []), (316, .aload_n 0, 1, [], []), (317, .iload_n 3, 1, [], []), (318, .iconst 2, 1, [], []), (319, .iadd, 1, [], []), (320, .iaload, 1, [], []), (321, .aload_n 0, 1, [], []), (322, .iload_n 3, 1, [], []), (323, .iconst 3, 1, [], []), (324, .iadd, 1, [], []), (325, .iaload, 1, [], []), (326, .aload_n 0, 1, [], []), (327, .iload_n 3, 1, [], []), (328, .iconst 4, 1, [], []), (329, .iadd, 1, [], []), (330, .iaload, 1, [], []), (331, .invokevirtual 40, 3, [2, 1, 4, 11, 69], [495, 0, 496, 497, 67, 0, 0, 0]), (334, .aload_n 2, 1, [], []), (335, .aload_n 0, 1, [], []), (336, .iload_n 3, 1, [], []), (337, .iconst 1, 1, [], []), (338, .iadd, 1, [], []), (339, .iaload, 1, [], []), (340, .aload_n 0, 1, [], []), (341, .iload_n 3, 1, [], []), (342, .iconst 2, 1, [], []), (343, .iadd, 1, [], []), (344, .iaload, 1, [], []), (345, .aload_n 0, 1, [], []), (346, .iload_n 3, 1, [], []), (347, .iconst 3, 1, [], []), (348, .iadd, 1, [], []), (349, .iaload, 1, [], []), (350, .aload_n 0, 1, [], []), (351, .iload_n 3, 1, [], []), (352, .iconst 4, 1, [], []), (353, .iadd, 1, [], []), (354, .iaload, 1, [], []), (355, .invokevirtual 44, 3, [2, 1, 4, 12, 141], [1155, 0, 1156, 1157, 71, 0, 0, 0]), (358, .if_icmp .eq 760, 3, [65, 16], [])]),
  ([], [(361, .iconst 0, 1, [], []), (362, .ireturn, 1, [1], [])])]
def kb_L_law_4 : List (List Nat × List RI) := [
  ([0, 1, 2, 3], [(363, .aload_n 1, 1, [], []), (364, .aload_n 0, 1, [], []), (365, .iload_n 3, 1, [], []), (366, .iconst 1, 1, [], []), (367, .iadd, 1, [], []), (368, .iaload, 1, [], []), (369, .aload_n 0, 1, [], []), (370, .iload_n 3, 1, [], []), (371, .iconst 2, 1, [], []), (372, .iadd, 1, [], []), (373, .iaload, 1, [], []), (374, .invokevirtual 45, 3, [2, 1, 2, 11, 71], [645, 0, 646, 647, 67, 0, 0, 0]), (377, .aload_n 2, 1, [], []), (378, .aload_n 0, 1, [], []), (379, .iload_n 3, 1, [], []), (380, .iconst 1, 1, [], []), (381, .iadd, 1, [], []), (382, .iaload, 1, [], []), (383, .aload_n 0, 1, [], []), (384, .iload_n 3, 1, [], []), (385, .iconst 2, 1, [], []), (386, .iadd, 1, [], []), (387, .iaload, 1, [], []), (388, .invokevirtual 48, 3, [2, 1, 2, 12, 145], [1159, 0, 1160, 1161, 71, 0, 0, 0]), (391, .if_icmp .eq 727, 3, [65, 18], [])]),
  ([], [(394, .iconst 0, 1, [], []), (395, .ireturn, 1, [1], [])]),
  ([0, 1, 2, 3], [(396, .aload_n 1, 1, [], []), (397, .aload_n 0, 1, [], []), (398, .iload_n 3, 1, [], []), (399, .iconst 1, 1, [], []), (400, .iadd, 1, [], []), (401, .iaload, 1, [], []), (402, .aload_n 0, 1, [], []), (403, .iload_n 3, 1, [], []), (404, .iconst 2, 1, [], []), (405, .iadd, 1, [], []), (406, .iaload, 1, [], []), (407, .invokevirtual 49, 3, [2, 1, 2, 11, 72], [711, 0, 712, 713, 67, 0, 0, 0]), (410, .aload_n 2, 1, [], []), (411, .aload_n 0, 1, [], []), (412, .iload_n 3, 1, [], []), (413, .iconst 1, 1, [], []), (414, .iadd, 1, [], []), (415, .iaload, 1, [], []), (416, .aload_n 0, 1, [], []), (417, .iload_n 3, 1, [], []), (418, .iconst 2, 1, [], []), (419, .iadd, 1, [], []), (420, .iaload, 1, [], []), (421, .invokevirtual 52, 3, [2, 1, 2, 12, 146], [1179, 0, 1180, 1181, 71, 0, 0, 0]), (424, .if_icmp .eq 694, 3, [65, 20], [])]),
  ([], [(427, .iconst 0, 1, [], []), (428, .ireturn, 1, [1], [])]),
  ([0, 1, 2, 3], [(429, .aload_n 1, 1, [], []), (430, .invokevirtual 53, 3, [2, 1, 0, 11, 73], [719, 0, 720, 721, 67, 0, 0, 0]), (433, .aload_n 2, 1, [], []), (434, .invokevirtual 56, 3, [2, 1, 0, 12, 147], [1183, 0, 1184, 1185, 71, 0, 0, 0]), (437, .if_icmp .eq 681, 3, [65, 22], [])])]
def kb_L_law_5 : List (List Nat × List RI) := [
  ([], [(440, .iconst 0, 1, [], []), (441, .ireturn, 1, [1], [])]),
  ([0, 1, 2, 3], [(442, .aload_n 1, 1, [], []), (443, .aload_n 0, 1, [], []), (444, .iload_n 3, 1, [], []), (445, .iconst 1, 1, [], []), (446, .iadd, 1, [], []), (447, .iaload, 1, [], []), (448, .invokevirtual 57, 3, [2, 1, 1, 11, 74], [723, 0, 724, 725, 67, 0, 0, 0]), (451, .aload_n 2, 1, [], []), (452, .aload_n 0, 1, [], []), (453, .iload_n 3, 1, [], []), (454, .iconst 1, 1, [], []), (455, .iadd, 1, [], []), (456, .iaload, 1, [], []), (457, .invokevirtual 60, 3, [2, 1, 1, 12, 148], [1187, 0, 1188, 1189, 71, 0, 0, 0]), (460, .if_icmp .eq 658, 3, [65, 24], [])]),
  ([], [(463, .iconst 0, 1, [], []), (464, .ireturn, 1, [1], [])]),
  ([0, 1, 2, 3], [(465, .aload_n 1, 1, [], []), (466, .aload_n 0, 1, [], []), (467, .iload_n 3, 1, [], []), (468, .iconst 1, 1, [], []), (469, .iadd, 1, [], []), (470, .iaload, 1, [], []), (471, .aload_n 0, 1, [], []), (472, .iload_n 3, 1, [], []), (473, .iconst 2, 1, [], []), (474, .iadd, 1, [], []), (475, .iaload, 1, [], []), (476, .aload_n 0, 1, [], []), (477, .iload_n 3, 1, [], []), (478, .iconst 3, 1, [], []), (479, .iadd, 1, [], []), (480, .iaload, 1, [], []), (481, .invokevirtual 61, 3, [2, 2, 3, 11, 75], [727, 0, 728, 729, 67, 0, 0, 0]), (484, .aload_n 2, 1, [], []), (485, .aload_n 0, 1, [], []), (486, .iload_n 3, 1, [], []), (487, .iconst 1, 1, [], []), (488, .iadd, 1, [], []), (489, .iaload, 1, [], []), (490, .aload_n 0, 1, [], []), (491, .iload_n 3, 1, [], []), (492, .iconst 2, 1, [], []), (493, .iadd, 1, [], []), (494, .iaload, 1, [], []), (495, .aload_n 0, 1, [], []), (496, .iload_n 3, 1, [], []), (497, .iconst 3, 1, [], []), (498, .iadd, 1, [], []), (499, .iaload, 1, [], []), (500, .invokevirtual 65, 3, [2, 2, 3, 12, 160], [1191, 0, 1192, 1193, 71, 0, 0, 0]), (503, .lcmp, 1, [], []), (504, .ifCond .eq 614, 3, [65, 26], [])]),
  ([], [(507, .iconst 0, 1, [], []), (508, .ireturn, 1, [1], [])])]
def kb_L_law_6 : List (List Nat × List RI) := [
  ([0, 1, 2, 3], [(509, .aload_n 1, 1, [], []), (510, .aload_n 0, 1, [], []), (511, .iload_n 3, 1, [], []), (512, .iconst 1, 1, [], []), (513, .iadd, 1, [], []), (514, .iaload, 1, [], []), (515, .aload_n 0, 1, [], []), (516, .iload_n 3, 1, [], []), (517, .iconst 2, 1, [], []), (518, .iadd, 1, [], []), (519, .iaload, 1, [], []), (520, .invokevirtual 66, 3, [2, 1, 2, 11, 76], [787, 0, 788, 789, 67, 0, 0, 0]), (523, .aload_n 2, 1, [], []), (524, .aload_n 0, 1, [], []), (525, .iload_n 3, 1, [], []), (526, .iconst 1, 1, [], []), (527, .iadd, 1, [], []), (528, .iaload, 1, [], []), (529, .aload_n 0, 1, [], []), (530, .iload_n 3, 1, [], []), (531, .iconst 2, 1, [], []), (532, .iadd, 1, [], []), (533, .iaload, 1, [], []), (534, .invokevirtual 69, 3, [2, 1, 2, 12, 161], [1249, 0, 1250, 1251, 71, 0, 0, 0]), (537, .if_icmp .eq 581, 3, [65, 28], [])]),
  ([], [(540, .iconst 0, 1, [], []), (541, .ireturn, 1, [1], [])]),
  ([0, 1, 2, 3], [(542, .aload_n 1, 1, [], []), (543, .aload_n 0, 1, [], []), (544, .iload_n 3, 1, [], []), (545, .iconst 1, 1, [], []), (546, .iadd, 1, [], []), (547, .iaload, 1, [], []), (548, .aload_n 0, 1, [], []), (549, .iload_n 3, 1, [], []), (550, .iconst 2, 1, [], []), (551, .iadd, 1, [], []), (552, .iaload, 1, [], []), (553, .invokevirtual 70, 3, [2, 1, 2, 11, 77], [791, 0, 792, 793, 67, 0, 0, 0]), (556, .aload_n 2, 1, [], []), (557, .aload_n 0, 1, [], []), (558, .iload_n 3, 1, [], []), (559, .iconst 1, 1, [], []), (560, .iadd, 1, [], []), (561, .iaload, 1, [], []), (562, .aload_n 0, 1, [], []), (563, .iload_n 3, 1, [], []), (564, .iconst 2, 1, [], []), (565, .iadd, 1, [], []), (566, .iaload, 1, [], []), (567, .invokevirtual 73, 3, [2, 1, 2, 12, 162], [1253, 0, 1254, 1255, 71, 0, 0, 0]), (570, .if_icmp .eq 548, 3, [65, 30], [])]),
  ([], [(573, .iconst 0, 1, [], []), (574, .ireturn, 1, [1], [])])]
def kb_L_law_7 : List (List Nat × List RI) := [
  ([0, 1, 2, 3], [(575, .aload_n 1, 1, [], []), (576, .aload_n 0, 1, [], []), (577, .iload_n 3, 1, [], []), (578, .iconst 1, 1, [], []), (579, .iadd, 1, [], []), (580, .iaload, 1, [], []), (581, .invokevirtual 74, 3, [2, 1, 1, 11, 78], [808, 0, 809, 810, 67, 0, 0, 0]), (584, .aload_n 2, 1, [], []), (585, .aload_n 0, 1, [], []), (586, .iload_n 3, 1, [], []), (587, .iconst 1, 1, [], []), (588, .iadd, 1, [], []), (589, .iaload, 1, [], []), (590, .invokevirtual 77, 3, [2, 1, 1, 12, 164], [1257, 0, 1258, 1259, 71, 0, 0, 0]), (593, .if_icmp .eq 525, 3, [65, 32], [])]),
  ([], [(596, .iconst 0, 1, [], []), (597, .ireturn, 1, [1], [])])]
def kb_L_law_8 : List (List Nat × List RI) := [
  ([0, 1, 2, 3], [(598, .aload_n 1, 1, [], []), (599, .aload_n 0, 1, [], []), (600, .iload_n 3, 1, [], []), (601, .iconst 1, 1, [], []), (602, .iadd, 1, [], []), (603, .iaload, 1, [], []), (604, .aload_n 0, 1, [], []), (605, .iload_n 3, 1, [], []), (606, .iconst 2, 1, [], []), (607, .iadd, 1, [], []), (608, .iaload, 1, [], []), (609, .aload_n 0, 1, [], []), (610, .iload_n 3, 1, [], []), (611, .iconst 3, 1, [], []), (612, .iadd, 1, [], []), (613, .iaload, 1, [], []), (614, .aload_n 0, 1, [], []), (615, .iload_n 3, 1, [], []), (616, .iconst 4, 1, [], []), (617, .iadd, 1, [], []), (618, .iaload, 1, [], []), (619, .aload_n 0, 1, [], []), (620, .iload_n 3, 1, [], []), (621, .iconst 5, 1, [], []), (622, .iadd, 1, [], []), (623, .iaload, 1, [], []), (624, .invokevirtual 78, 3, [2, 2, 5, 11, 79], [812, 0, 813, 814, 67, 0, 0, 0]), (627, .aload_n 2, 1, [], []), (628, .aload_n 0, 1, [], []), (629, .iload_n 3, 1, [], []), (630, .iconst 1, 1, [], []), (631, .iadd, 1, [], []), (632, .iaload, 1, [], []), (633, .aload_n 0, 1, [], []), (634, .iload_n 3, 1, [], []), (635, .iconst 2, 1, [], []), (636, .iadd, 1, [], []), (637, .iaload, 1, [], []), (638, .aload_n 0, 1, [], []), (639, .iload_n 3, 1, [], []), (640, .iconst 3, 1, [], []), (641, .iadd, 1, [], []), (642, .iaload, 1, [], []), (643, .aload_n 0, 1, [], []), (644, .iload_n 3, 1, [], []), (645, .iconst 4, 1, [], []), (646, .iadd, 1, [], []), (647, .iaload, 1, [], []), (648, .aload_n 0, 1, [], []), (649, .iload_n 3, 1, [], []), (650, .iconst 5, 1, [], []), (651, .iadd, 1, [], []), (652, .iaload, 1, [], []), (653, .invokevirtual 82, 3, [2, 2, 5, 12, 165], [1265, 0, 1266, 1267, 71, 0, 0, 0]), (656, .lcmp, 1, [], []), (657, .ifCond .eq 461, 3, [65, 34], [])]),
  ([], [(660, .iconst 0, 1, [], []), (661, .ireturn, 1, [1], [])])]
def kb_L_law_9 : List (List Nat × List RI) := [
  ([0, 1, 2, 3], [(662, .aload_n 1, 1, [], []), (663, .aload_n 0, 1, [], []), (664, .iload_n 3, 1, [], []), (665, .iconst 1, 1, [], []), (666, .iadd, 1, [], []), (667, .iaload, 1, [], []), (668, .aload_n 0, 1, [], []), (669, .iload_n 3, 1, [], []), (670, .iconst 2, 1, [], []), (671, .iadd, 1, [], []), (672, .iaload, 1, [], []), (673, .invokevirtual 83, 3, [2, 1, 2, 11, 80], [816, 0, 817, 818, 67, 0, 0, 0]), (676, .aload_n 2, 1, [], []), (677, .aload_n 0, 1, [], []), (678, .iload_n 3, 1, [], []), (679, .iconst 1, 1, [], []), (680, .iadd, 1, [], []), (681, .iaload, 1, [], []), (682, .aload_n 0, 1, [], []), (683, .iload_n 3, 1, [], []), (684, .iconst 2, 1, [], []), (685, .iadd, 1, [], []), (686, .iaload, 1, [], []), (687, .invokevirtual 86, 3, [2, 1, 2, 12, 170], [1269, 0, 1270, 1271, 71, 0, 0, 0]), (690, .if_icmp .eq 428, 3, [65, 36], [])]),
  ([], [(693, .iconst 0, 1, [], []), (694, .ireturn, 1, [1], [])])]
def kb_L_law_10 : List (List Nat × List RI) := [
  ([0, 1, 2, 3], [(695, .aload_n 1, 1, [], []), (696, .aload_n 0, 1, [], []), (697, .iload_n 3, 1, [], []), (698, .iconst 1, 1, [], []), (699, .iadd, 1, [], []), (700, .iaload, 1, [], []), (701, .aload_n 0, 1, [], []), (702, .iload_n 3, 1, [], []), (703, .iconst 2, 1, [], []), (704, .iadd, 1, [], []), (705, .iaload, 1, [], []), (706, .aload_n 0, 1, [], []), (707, .iload_n 3, 1, [], []), (708, .iconst 3, 1, [], []), (709, .iadd, 1, [], []), (710, .iaload, 1, [], []), (711, .invokevirtual 87, 3, [2, 1, 3, 11, 81], [836, 0, 837, 838, 67, 0, 0, 0]), (714, .aload_n 2, 1, [], []), (715, .aload_n 0, 1, [], []), (716, .iload_n 3, 1, [], []), (717, .iconst 1, 1, [], []), (718, .iadd, 1, [], []), (719, .iaload, 1, [], []), (720, .aload_n 0, 1, [], []), (721, .iload_n 3, 1, [], []), (722, .iconst 2, 1, [], []), (723, .iadd, 1, [], []), (724, .iaload, 1, [], []), (725, .aload_n 0, 1, [], []), (726, .iload_n 3, 1, [], []), (727, .iconst 3, 1, [], []), (728, .iadd, 1, [], []), (729, .iaload, 1, [], []), (730, .invokevirtual 91, 3, [2, 1, 3, 12, 171], [1289, 0, 1290, 1291, 71, 0, 0, 0]), (733, .if_icmp .eq 385, 3, [65, 38], [])]),
  ([], [(736, .iconst 0, 1, [], []), (737, .ireturn, 1, [1], [])]),
  ([0, 1, 2, 3], [(738, .aload_n 1, 1, [], []), (739, .aload_n 0, 1, [], []), (740, .iload_n 3, 1, [], []), (741, .iconst 1, 1, [], []), (742, .iadd, 1, [], []), (743, .iaload, 1, [], []), (744, .invokevirtual 92, 3, [2, 1, 1, 11, 82], [840, 0, 841, 842, 67, 0, 0, 0]), (747, .aload_n 2, 1, [], []), (748, .aload_n 0, 1, [], []), (749, .iload_n 3, 1, [], []), (750, .iconst 1, 1, [], []), (751, .iadd, 1, [], []), (752, .iaload, 1, [], []), (753, .invokevirtual 95, 3, [2, 1, 1, 12, 172], [1293, 0, 1294, 1295, 71, 0, 0, 0]), (756, .if_icmp .eq 362, 3, [65, 40], [])]),
  ([], [(759, .iconst 0, 1, [], []), (760, .ireturn, 1, [1], [])])]
def kb_L_law_11 : List (List Nat × List RI) := [
  ([0, 1, 2, 3], [(761, .aload_n 1, 1, [], []), (762, .aload_n 0, 1, [], []), (763, .iload_n 3, 1, [], []), (764, .iconst 1, 1, [], []), (765, .iadd, 1, [], []), (766, .iaload, 1, [], []), (767, .aload_n 0, 1, [], []), (768, .iload_n 3, 1, [], []), (769, .iconst 2, 1, [], []), (770, .iadd, 1, [], []), (771, .iaload, 1, [], []), (772, .aload_n 0, 1, [], []), (773, .iload_n 3, 1, [], []), (774, .iconst 3, 1, [], []), (775, .iadd, 1, [], []), (776, .iaload, 1, [], []), (777, .invokevirtual 96, 3, [2, 1, 3, 11, 83], [845, 0, 846, 847, 67, 0, 0, 0]), (780, .aload_n 2, 1, [], []), (781, .aload_n 0, 1, [], []), (782, .iload_n 3, 1, [], []), (783, .iconst 1, 1, [], []), (784, .iadd, 1, [], []), (785, .iaload, 1, [], []), (786, .aload_n 0, 1, [], []), (787, .iload_n 3, 1, [], []), (788, .iconst 2, 1, [], []), (789, .iadd, 1, [], []), (790, .iaload, 1, [], []), (791, .aload_n 0, 1, [], []), (792, .iload_n 3, 1, [], []), (793, .iconst 3, 1, [], []), (794, .iadd, 1, [], []), (795, .iaload, 1, [], []), (796, .invokevirtual 99, 3, [2, 1, 3, 12, 173], [1297, 0, 1298, 1299, 71, 0, 0, 0]), (799, .if_icmp .eq 319, 3, [65, 42], [])]),
  ([], [(802, .iconst 0, 1, [], []), (803, .ireturn, 1, [1], [])])]
def kb_L_law_12 : List (List Nat × List RI) := [
  ([0, 1, 2, 3], [(804, .aload_n 1, 1, [], []), (805, .aload_n 0, 1, [], []), (806, .iload_n 3, 1, [], []), (807, .iconst 1, 1, [], []), (808, .iadd, 1, [], []), (809, .iaload, 1, [], []), (810, .aload_n 0, 1, [], []), (811, .iload_n 3, 1, [], []), (812, .iconst 2, 1, [], []), (813, .iadd, 1, [], []), (814, .iaload, 1, [], []), (815, .invokevirtual 100, 3, [2, 1, 2, 11, 84], [849, 0, 850, 851, 67, 0, 0, 0]), (818, .aload_n 2, 1, [], []), (819, .aload_n 0, 1, [], []), (820, .iload_n 3, 1, [], []), (821, .iconst 1, 1, [], []), (822, .iadd, 1, [], []), (823, .iaload, 1, [], []), (824, .aload_n 0, 1, [], []), (825, .iload_n 3, 1, [], []), (826, .iconst 2, 1, [], []), (827, .iadd, 1, [], []), (828, .iaload, 1, [], []), (829, .invokevirtual 103, 3, [2, 1, 2, 12, 176], [1309, 0, 1310, 1311, 71, 0, 0, 0]), (832, .if_icmp .eq 286, 3, [65, 44], [])]),
  ([], [(835, .iconst 0, 1, [], []), (836, .ireturn, 1, [1], [])])]
def kb_L_law_13 : List (List Nat × List RI) := [
  ([0, 1, 2, 3], [(837, .aload_n 1, 1, [], []), (838, .aload_n 0, 1, [], []), (839, .iload_n 3, 1, [], []), (840, .iconst 1, 1, [], []), (841, .iadd, 1, [], []), (842, .iaload, 1, [], []), (843, .aload_n 0, 1, [], []), (844, .iload_n 3, 1, [], []), (845, .iconst 2, 1, [], []), (846, .iadd, 1, [], []), (847, .iaload, 1, [], []), (848, .aload_n 0, 1, [], []), (849, .iload_n 3, 1, [], []), (850, .iconst 3, 1, [], []), (851, .iadd, 1, [], []), (852, .iaload, 1, [], []), (853, .aload_n 0, 1, [], []), (854, .iload_n 3, 1, [], []), (855, .iconst 4, 1, [], []), (856, .iadd, 1, [], []), (857, .iaload, 1, [], []), (858, .invokevirtual 104, 3, [2, 2, 4, 11, 85], [853, 0, 732, 733, 67, 0, 0, 0]), (861, .aload_n 2, 1, [], []), (862, .aload_n 0, 1, [], []), (863, .iload_n 3, 1, [], []), (864, .iconst 1, 1, [], []), (865, .iadd, 1, [], []), (866, .iaload, 1, [], []), (867, .aload_n 0, 1, [], []), (868, .iload_n 3, 1, [], []), (869, .iconst 2, 1, [], []), (870, .iadd, 1, [], []), (871, .iaload, 1, [], []), (872, .aload_n 0, 1, [], []), (873, .iload_n 3, 1, [], []), (874, .iconst 3, 1, [], []), (875, .iadd, 1, [], []), (876, .iaload, 1, [], []), (877, .aload_n 0, 1, [], []), (878, .iload_n 3, 1, [], []), (879, .iconst 4, 1, [], []), (880, .iadd, 1, [], []), (881, .iaload, 1, [], []), (882, .invokevirtual 108, 3, [2, 2, 4, 12, 178], [1313, 0, 1314, 1315, 71, 0, 0, 0]), (885, .lcmp, 1, [], []), (886, .ifCond .eq 232, 3, [65, 46], [])]),
  ([], [(889, .iconst 0, 1, [], []), (890, .ireturn, 1, [1], [])])]
def kb_L_law_14 : List (List Nat × List RI) := [
  ([0, 1, 2, 3], [(891, .aload_n 1, 1, [], []), (892, .aload_n 0, 1, [], []), (893, .iload_n 3, 1, [], []), (894, .iconst 1, 1, [], []), (895, .iadd, 1, [], []), (896, .iaload, 1, [], []), (897, .aload_n 0, 1, [], []), (898, .iload_n 3, 1, [], []), (899, .iconst 2, 1, [], []), (900, .iadd, 1, [], []), (901, .iaload, 1, [], []), (902, .aload_n 0, 1, [], []), (903, .iload_n 3, 1, [], []), (904, .iconst 3, 1, [], []), (905, .iadd, 1, [], []), (906, .iaload, 1, [], []), (907, .invokevirtual 109, 3, [2, 1, 3, 11, 86], [854, 0, 855, 856, 67, 0, 0, 0]), (910, .aload_n 2, 1, [], []), (911, .aload_n 0, 1, [], []), (912, .iload_n 3, 1, [], []), (913, .iconst 1, 1, [], []), (914, .iadd, 1, [], []), (915, .iaload, 1, [], []), (916, .aload_n 0, 1, [], []), (917, .iload_n 3, 1, [], []), (918, .iconst 2, 1, [], []), (919, .iadd, 1, [], []), (920, .iaload, 1, [], []), (921, .aload_n 0, 1, [], []), (922, .iload_n 3, 1, [], []), (923, .iconst 3, 1, [], []), (924, .iadd, 1, [], []), (925, .iaload, 1, [], []), (926, .invokevirtual 112, 3, [2, 1, 3, 12, 179], [1321, 0, 1322, 1323, 71, 0, 0, 0]), (929, .if_icmp .eq 189, 3, [65, 48], [])]),
  ([], [(932, .iconst 0, 1, [], []), (933, .ireturn, 1, [1], [])]),
  ([0, 1, 2, 3], [(934, .aload_n 1, 1, [], []), (935, .aload_n 0, 1, [], []), (936, .iload_n 3, 1, [], []), (937, .iconst 1, 1, [], []), (938, .iadd, 1, [], []), (939, .iaload, 1, [], []), (940, .invokevirtual 113, 3, [2, 1, 1, 11, 95], [858, 0, 859, 860, 67, 0, 0, 0]), (943, .aload_n 2, 1, [], []), (944, .aload_n 0, 1, [], []), (945, .iload_n 3, 1, [], []), (946, .iconst 1, 1, [], []), (947, .iadd, 1, [], []), (948, .iaload, 1, [], []), (949, .invokevirtual 116, 3, [2, 1, 1, 12, 180], [1325, 0, 1326, 1327, 71, 0, 0, 0]), (952, .if_icmp .eq 166, 3, [65, 50], [])]),
  ([], [(955, .iconst 0, 1, [], []), (956, .ireturn, 1, [1], [])]),
  ([0, 1, 2, 3], [(957, .aload_n 1, 1, [], []), (958, .invokevirtual 117, 3, [2, 1, 0, 11, 96], [862, 0, 863, 864, 67, 0, 0, 0]), (961, .aload_n 2, 1, [], []), (962, .invokevirtual 120, 3, [2, 1, 0, 12, 181], [1329, 0, 1330, 1331, 71, 0, 0, 0]), (965, .if_icmp .eq 153, 3, [65, 52], [])])]
def kb_L_law_15 : List (List Nat × List RI) := [
  ([], [(968, .iconst 0, 1, [], []), (969, .ireturn, 1, [1], [])]),
  ([0, 1, 2, 3], [(970, .aload_n 1, 1, [], []), (971, .aload_n 0, 1, [], []), (972, .iload_n 3, 1, [], []), (973, .iconst 1, 1, [], []), (974, .iadd, 1, [], []), (975, .iaload, 1, [], []), (976, .aload_n 0, 1, [], []), (977, .iload_n 3, 1, [], []), (978, .iconst 2, 1, [], []), (979, .iadd, 1, [], []), (980, .iaload, 1, [], []), (981, .aload_n 0, 1, [], []), (982, .iload_n 3, 1, [], []), (983, .iconst 3, 1, [], []), (984, .iadd, 1, [], []), (985, .iaload, 1, [], []), (986, .invokevirtual 121, 3, [2, 1, 3, 11, 97], [867, 0, 868, 869, 67, 0, 0, 0]), (989, .aload_n 2, 1, [], []), (990, .aload_n 0, 1, [], []), (991, .iload_n 3, 1, [], []), (992, .iconst 1, 1, [], []), (993, .iadd, 1, [], []), (994, .iaload, 1, [], []), (995, .aload_n 0, 1, [], []), (996, .iload_n 3, 1, [], []), (997, .iconst 2, 1, [], []), (998, .iadd, 1, [], []), (999, .iaload, 1, [], []), (1000, .aload_n 0, 1, [], []), (1001, .iload_n 3, 1, [], []), (1002, .iconst 3, 1, [], []), (1003, .iadd, 1, [], []), (1004, .iaload, 1, [], []), (1005, .invokevirtual 124, 3, [2, 1, 3, 12, 190], [1333, 0, 1334, 1335, 71, 0, 0, 0]), (1008, .if_icmp .eq 110, 3, [65, 54], [])]),
  ([], [(1011, .iconst 0, 1, [], []), (1012, .ireturn, 1, [1], [])]),
  ([0, 1, 2, 3], [(1013, .aload_n 1, 1, [], []), (1014, .aload_n 0, 1, [], []), (1015, .iload_n 3, 1, [], []), (1016, .iconst 1, 1, [], []), (1017, .iadd, 1, [], []), (1018, .iaload, 1, [], []), (1019, .invokevirtual 125, 3, [2, 1, 1, 11, 98], [944, 0, 945, 946, 67, 0, 0, 0]), (1022, .aload_n 2, 1, [], []), (1023, .aload_n 0, 1, [], []), (1024, .iload_n 3, 1, [], []), (1025, .iconst 1, 1, [], []), (1026, .iadd, 1, [], []), (1027, .iaload, 1, [], []), (1028, .invokevirtual 128, 3, [2, 1, 1, 12, 191], [1368, 0, 1369, 1370, 71, 0, 0, 0]), (1031, .if_icmp .eq 87, 3, [65, 56], [])]),
  ([], [(1034, .iconst 0, 1, [], []), (1035, .ireturn, 1, [1], [])])]
def kb_L_law_16 : List (List Nat × List RI) := [
  ([0, 1, 2, 3], [(1036, .aload_n 1, 1, [], []), (1037, .aload_n 0, 1, [], []), (1038, .iload_n 3, 1, [], []), (1039, .iconst 1, 1, [], []), (1040, .iadd, 1, [], []), (1041, .iaload, 1, [], []), (1042, .aload_n 0, 1, [], []), (1043, .iload_n 3, 1, [], []), (1044, .iconst 2, 1, [], []), (1045, .iadd, 1, [], []), (1046, .iaload, 1, [], []), (1047, .invokevirtual 129, 3, [2, 1, 2, 11, 99], [948, 0, 949, 950, 67, 0, 0, 0]), (1050, .aload_n 2, 1, [], []), (1051, .aload_n 0, 1, [], []), (1052, .iload_n 3, 1, [], []), (1053, .iconst 1, 1, [], []), (1054, .iadd, 1, [], []), (1055, .iaload, 1, [], []), (1056, .aload_n 0, 1, [], []), (1057, .iload_n 3, 1, [], []), (1058, .iconst 2, 1, [], []), (1059, .iadd, 1, [], []), (1060, .iaload, 1, [], []), (1061, .invokevirtual 132, 3, [2, 1, 2, 12, 192], [1372, 0, 1373, 1374, 71, 0, 0, 0]), (1064, .if_icmp .eq 54, 3, [65, 58], [])]),
  ([], [(1067, .iconst 0, 1, [], []), (1068, .ireturn, 1, [1], [])]),
  ([0, 1, 2, 3], [(1069, .aload_n 1, 1, [], []), (1070, .invokevirtual 133, 3, [2, 1, 0, 11, 101], [955, 0, 956, 957, 67, 0, 0, 0]), (1073, .aload_n 2, 1, [], []), (1074, .invokevirtual 136, 3, [2, 1, 0, 12, 193], [1376, 0, 1377, 1378, 71, 0, 0, 0]), (1077, .if_icmp .eq 41, 3, [65, 60], [])]),
  ([], [(1080, .iconst 0, 1, [], []), (1081, .ireturn, 1, [1], [])]),
  ([0, 1, 2, 3], [(1082, .aload_n 1, 1, [], []), (1083, .invokevirtual 137, 3, [2, 1, 0, 11, 102], [964, 0, 965, 966, 67, 0, 0, 0]), (1086, .aload_n 2, 1, [], []), (1087, .invokevirtual 140, 3, [2, 1, 0, 12, 194], [1380, 0, 1381, 1382, 71, 0, 0, 0]), (1090, .if_icmp .eq 28, 3, [65, 62], [])]),
  ([], [(1093, .iconst 0, 1, [], []), (1094, .ireturn, 1, [1], [])]),
  ([0, 1, 2, 3], [(1095, .aload_n 1, 1, [], []), (1096, .aload_n 0, 1, [], []), (1097, .iload_n 3, 1, [], []), (1098, .iconst 1, 1, [], []), (1099, .iadd, 1, [], []), (1100, .iaload, 1, [], []), (1101, .invokevirtual 141, 3, [2, 1, 1, 11, 103], [968, 0, 969, 970, 67, 0, 0, 0]), (1104, .aload_n 2, 1, [], []), (1105, .aload_n 0, 1, [], []), (1106, .iload_n 3, 1, [], []), (1107, .iconst 1, 1, [], []), (1108, .iadd, 1, [], []), (1109, .iaload, 1, [], []), (1110, .invokevirtual 144, 3, [2, 1, 1, 12, 195], [1384, 0, 1385, 1386, 71, 0, 0, 0]), (1113, .if_icmp .eq 5, 3, [65, 64], [])]),
  ([], [(1116, .iconst 0, 1, [], []), (1117, .ireturn, 1, [1], [])]),
  ([0, 1, 2, 3], [(1118, .iinc 3 6, 3, [], []), (1121, .goto (-1103), 3, [1], [])])]
def kb_L_law_17 : List (List Nat × List RI) := [
  ([], [(1124, .iconst 1, 1, [], []), (1125, .ireturn, 1, [1], [])])]
def kb_L_law : List (List Nat × List RI) := kb_L_law_0 ++ (kb_L_law_1 ++ (kb_L_law_2 ++ (kb_L_law_3 ++ (kb_L_law_4 ++ (kb_L_law_5 ++ (kb_L_law_6 ++ (kb_L_law_7 ++ (kb_L_law_8 ++ (kb_L_law_9 ++ (kb_L_law_10 ++ (kb_L_law_11 ++ (kb_L_law_12 ++ (kb_L_law_13 ++ (kb_L_law_14 ++ (kb_L_law_15 ++ (kb_L_law_16 ++ (kb_L_law_17)))))))))))))))))
def km_L_law : MT := (yL_law, cL_law, 4, (some .boolean), kb_L_law)
def allM : List MT := [km_X0_init, km_X0_hoursFrom, km_X0_sends, km_X1_init, km_X1_hoursFrom, km_X1_takes, km_X2_init, km_X2_hoursFrom, km_X2_hoursSat, km_X2_takes, km_X3_init, km_X3_holds, km_X3_test, km_X3_passes, km_X4_init, km_X4_hoursFrom, km_X4_tells, km_X5_init, km_X5_readCoast, km_X5_firstClauses, km_X5_readSaying, km_X5_newClause, km_X5_readClause, km_X5_readWord, km_X5_readAny, km_X5_readOne, km_X5_readTest, km_X5_readNumber, km_X5_goOnAll, km_X5_goOn, km_X5_sign, km_X5_add, km_X6_init, km_X6_hoursFrom, km_X6_hoursSat, km_X6_toll, km_X6_sends, km_X6_takes, km_X6_tells, km_X7_init, km_X7_toll, km_X7_tells, km_X8_init, km_X8_hoursFrom, km_X8_sends, km_X9_init, km_X9_note, km_X10_init, km_X10_copy, km_X10_hasThing, km_X10_sayingAt, km_X10_wayAt, km_X10_replaceWay, km_X10_rows, km_X10_heeded, km_X10_factsOfRow, km_X10_costs, km_X10_together, km_X10_step, km_X10_reach, km_X10_chances, km_X10_chanceIn, km_X11_init, km_X11_feed, km_X11_coast, km_X11_saying, km_X11_thing, km_X11_put, km_X11_of, km_X11_way, km_X11_newWay, km_X11_at, km_X11_bribe, km_X11_now, km_X11_hour, km_X11_odds, km_X11_sure, km_X11_tell, km_X11_which, km_X11_worth, km_X11_sit, km_X11_catches, km_X11_all, km_X11_begin, km_X11_heed, km_X11_self, km_X11_back, km_X11_partsSo, km_X11_partsOfRow, km_X11_isSo, km_X11_markFails, km_X11_carryBack, km_X11_failsFrom, km_X11_setFails, km_X11_partOf, km_X11_row, km_X11_looked, km_X11_act, km_X11_trace, km_X11_as, km_X11_isOf, km_X11_image, km_X11_undo, km_X11_count, km_X11_isState, km_X11_isKind, km_X11_isPart, km_X11_stateIn, km_X11_withState, km_X11_reached, km_X11_factsOfThing, km_X11_factsOfWay, km_X12_init, km_X12_in, km_X12_isThing, km_X12_isWay, km_X12_isSaying, km_X12_feed, km_X12_here, km_X12_must, km_X12_spells, km_X12_figures, km_X12_among, km_X12_emits, km_X12_factor, km_X12_every, km_X12_some, km_X12_much, km_X12_clauseOfD, km_X12_clauseHere, km_X12_begins, km_X12_coast, km_X12_saying, km_X12_isSo, km_X12_goesThrough, km_X12_looks, km_X12_stateOf, km_X12_isTrue, km_X12_thing, km_X12_put, km_X12_of, km_X12_way, km_X12_takesAt, km_X12_takes, km_X12_costsOf, km_X12_at, km_X12_bribe, km_X12_now, km_X12_hour, km_X12_beginsAll, km_X12_statesNow, km_X12_goesOn, km_X12_goesAll, km_X12_oftenOf, km_X12_allStates, km_X12_twos, km_X12_allOften, km_X12_oftenTrue, km_X12_heardTrue, km_X12_lowest, km_X12_odds, km_X12_sure, km_X12_tell, km_X12_isBetter, km_X12_which, km_X12_worth, km_X12_mayBegin, km_X12_mayBecome, km_X12_mayGo, km_X12_isSurely, km_X12_sit, km_X12_catches, km_X12_all, km_X12_begin, km_X12_looksForReach, km_X12_reachesTruth, km_X12_heed, km_X12_heededBy, km_X12_self, km_X12_back, km_X12_row, km_X12_looked, km_X12_ranBody, km_X12_isUnder, km_X12_plainSends, km_X12_sendsActs, km_X12_plainTakes, km_X12_takesActs, km_X12_plainTells, km_X12_tellsActs, km_X12_act, km_X12_trace, km_X12_as, km_X12_image, km_X12_undo, km_X12_count, km_J0_length_8abf5, km_J0_charAt_5068e, km_J0_indexOf_0f7a4, km_J0_indexOf_7cf53, km_J0_coder_7d493, km_J0_isLatin1_aae02, km_J0_checkIndex_df160, km_J1_charAt_3b067, km_J1_canEncode_9a6ad, km_J1_indexOf_4cfef, km_J1_indexOfChar_4cfef, km_J7_copyOf_59c91, km_J3_checkIndex_8e157, km_L_law]
def mt (M : Nat) : MT := allM.getD M mt0
/-- where a method's code word stands in lw_tbl, and that its class is initialized -/
def cwp : List (Nat × Nat) := [(510, 82), (659, 82), (877, 82), (571, 83), (662, 83), (903, 83), (623, 87), (665, 87), (706, 87), (908, 87), (427, 78), (490, 78), (400, 78), (493, 78), (584, 84), (668, 84), (926, 84), (174, 69), (249, 69), (444, 69), (452, 69), (408, 69), (254, 69), (258, 69), (329, 69), (333, 69), (337, 69), (325, 69), (267, 69), (319, 69), (262, 69), (404, 69), (513, 81), (676, 81), (710, 81), (693, 81), (894, 81), (916, 81), (942, 81), (597, 85), (691, 85), (932, 85), (610, 86), (673, 86), (889, 86), (203, 70), (881, 70), (100, 68), (962, 68), (471, 68), (738, 68), (652, 68), (718, 68), (762, 68), (780, 68), (775, 68), (680, 68), (486, 68), (803, 68), (798, 68), (750, 68), (755, 68), (92, 67), (241, 67), (245, 67), (448, 67), (457, 67), (467, 67), (478, 67), (498, 67), (505, 67), (648, 67), (714, 67), (722, 67), (726, 67), (730, 67), (790, 67), (794, 67), (811, 67), (815, 67), (819, 67), (839, 67), (843, 67), (848, 67), (852, 67), (734, 67), (857, 67), (746, 67), (766, 67), (771, 67), (823, 67), (827, 67), (831, 67), (835, 67), (784, 67), (861, 67), (865, 67), (870, 67), (947, 67), (951, 67), (954, 67), (958, 67), (967, 67), (971, 67), (460, 67), (501, 67), (741, 67), (474, 67), (463, 67), (806, 67), (481, 67), (696, 67), (976, 71), (1059, 71), (1139, 71), (1166, 71), (1198, 71), (1056, 71), (1076, 71), (1091, 71), (1085, 71), (1095, 71), (1115, 71), (1111, 71), (1107, 71), (1103, 71), (1099, 71), (1081, 71), (1120, 71), (1072, 71), (1068, 71), (1063, 71), (1126, 71), (1154, 71), (1151, 71), (1147, 71), (1214, 71), (1238, 71), (1131, 71), (1135, 71), (1143, 71), (1158, 71), (1174, 71), (1170, 71), (1178, 71), (1162, 71), (1182, 71), (1186, 71), (1190, 71), (1211, 71), (1207, 71), (1222, 71), (1218, 71), (1234, 71), (1230, 71), (1245, 71), (1242, 71), (1226, 71), (1203, 71), (1248, 71), (1194, 71), (1252, 71), (1256, 71), (1264, 71), (1260, 71), (1268, 71), (1276, 71), (1284, 71), (1280, 71), (1288, 71), (1272, 71), (1292, 71), (1296, 71), (1300, 71), (1304, 71), (1308, 71), (1312, 71), (1320, 71), (1316, 71), (1324, 71), (1328, 71), (1332, 71), (1347, 71), (1343, 71), (1351, 71), (1340, 71), (1359, 71), (1355, 71), (1367, 71), (1363, 71), (1336, 71), (1371, 71), (1375, 71), (1379, 71), (1383, 71), (1387, 71), (271, 72), (281, 72), (341, 72), (345, 72), (275, 72), (285, 72), (291, 72), (288, 73), (352, 73), (349, 73), (361, 73), (413, 79), (296, 74), (0, 66)]
