/-! ===== the methods, as blocks ===== -/
def md_X0_copyFrom : List mB := [
  (false, [(0, .aload_n 1, 1, []), (1, .getfield 9, 3, [0, 0]), (4, .iconst 0, 1, []), (5, .aload_n 0, 1, []), (6, .getfield 9, 3, [0, 0]), (9, .iconst 0, 1, []), (10, .aload_n 0, 1, []), (11, .getfield 9, 3, [0, 0]), (14, .arraylength, 1, []), (15, .invokestatic 43, 3, [9]), (18, .aload_n 1, 1, []), (19, .getfield 15, 3, [0, 1]), (22, .iconst 0, 1, []), (23, .aload_n 0, 1, []), (24, .getfield 15, 3, [0, 1]), (27, .iconst 0, 1, []), (28, .aload_n 0, 1, []), (29, .getfield 15, 3, [0, 1]), (32, .arraylength, 1, []), (33, .invokestatic 43, 3, [9]), (36, .aload_n 1, 1, []), (37, .getfield 18, 3, [0, 2]), (40, .iconst 0, 1, []), (41, .aload_n 0, 1, []), (42, .getfield 18, 3, [0, 2]), (45, .iconst 0, 1, []), (46, .aload_n 0, 1, []), (47, .getfield 18, 3, [0, 2]), (50, .arraylength, 1, []), (51, .invokestatic 43, 3, [9]), (54, .aload_n 1, 1, []), (55, .getfield 21, 3, [0, 3]), (58, .iconst 0, 1, []), (59, .aload_n 0, 1, []), (60, .getfield 21, 3, [0, 3]), (63, .iconst 0, 1, []), (64, .aload_n 0, 1, []), (65, .getfield 21, 3, [0, 3]), (68, .arraylength, 1, []), (69, .invokestatic 43, 3, [9]), (72, .aload_n 1, 1, []), (73, .getfield 24, 3, [0, 4]), (76, .iconst 0, 1, []), (77, .aload_n 0, 1, []), (78, .getfield 24, 3, [0, 4]), (81, .iconst 0, 1, []), (82, .aload_n 0, 1, []), (83, .getfield 24, 3, [0, 4]), (86, .arraylength, 1, []), (87, .invokestatic 43, 3, [9]), (90, .aload_n 0, 1, []), (91, .aload_n 1, 1, []), (92, .getfield 27, 3, [0, 5]), (95, .putfield 27, 3, [0, 5]), (98, .aload_n 0, 1, []), (99, .aload_n 1, 1, []), (100, .getfield 31, 3, [0, 6]), (103, .putfield 31, 3, [0, 6]), (106, .return_, 1, [])])]
theorem cb_X0_copyFrom_0 : (blk md_X0_copyFrom 0).2 = [(0, .aload_n 1, 1, []), (1, .getfield 9, 3, [0, 0]), (4, .iconst 0, 1, []), (5, .aload_n 0, 1, []), (6, .getfield 9, 3, [0, 0]), (9, .iconst 0, 1, []), (10, .aload_n 0, 1, []), (11, .getfield 9, 3, [0, 0]), (14, .arraylength, 1, []), (15, .invokestatic 43, 3, [9]), (18, .aload_n 1, 1, []), (19, .getfield 15, 3, [0, 1]), (22, .iconst 0, 1, []), (23, .aload_n 0, 1, []), (24, .getfield 15, 3, [0, 1]), (27, .iconst 0, 1, []), (28, .aload_n 0, 1, []), (29, .getfield 15, 3, [0, 1]), (32, .arraylength, 1, []), (33, .invokestatic 43, 3, [9]), (36, .aload_n 1, 1, []), (37, .getfield 18, 3, [0, 2]), (40, .iconst 0, 1, []), (41, .aload_n 0, 1, []), (42, .getfield 18, 3, [0, 2]), (45, .iconst 0, 1, []), (46, .aload_n 0, 1, []), (47, .getfield 18, 3, [0, 2]), (50, .arraylength, 1, []), (51, .invokestatic 43, 3, [9]), (54, .aload_n 1, 1, []), (55, .getfield 21, 3, [0, 3]), (58, .iconst 0, 1, []), (59, .aload_n 0, 1, []), (60, .getfield 21, 3, [0, 3]), (63, .iconst 0, 1, []), (64, .aload_n 0, 1, []), (65, .getfield 21, 3, [0, 3]), (68, .arraylength, 1, []), (69, .invokestatic 43, 3, [9]), (72, .aload_n 1, 1, []), (73, .getfield 24, 3, [0, 4]), (76, .iconst 0, 1, []), (77, .aload_n 0, 1, []), (78, .getfield 24, 3, [0, 4]), (81, .iconst 0, 1, []), (82, .aload_n 0, 1, []), (83, .getfield 24, 3, [0, 4]), (86, .arraylength, 1, []), (87, .invokestatic 43, 3, [9]), (90, .aload_n 0, 1, []), (91, .aload_n 1, 1, []), (92, .getfield 27, 3, [0, 5]), (95, .putfield 27, 3, [0, 5]), (98, .aload_n 0, 1, []), (99, .aload_n 1, 1, []), (100, .getfield 31, 3, [0, 6]), (103, .putfield 31, 3, [0, 6]), (106, .return_, 1, [])] := rfl
def md_X0_hasLayer : List mB := [
  (false, [(0, .iload_n 1, 1, []), (1, .ifCond .lt 21, 3, [4])]),
  (false, [(4, .iload_n 1, 1, []), (5, .aload_n 0, 1, []), (6, .getfield 27, 3, [0, 5]), (9, .if_icmp .ge 13, 3, [4])]),
  (false, [(12, .iload_n 1, 1, []), (13, .bipush 6, 2, []), (15, .if_icmp .ge 7, 3, [4])]),
  (false, [(18, .iconst 1, 1, []), (19, .goto 4, 3, [5])]),
  (false, [(22, .iconst 0, 1, [])]),
  (false, [(23, .ireturn, 1, [1])])]
theorem cb_X0_hasLayer_0 : (blk md_X0_hasLayer 0).2 = [(0, .iload_n 1, 1, []), (1, .ifCond .lt 21, 3, [4])] := rfl
theorem cb_X0_hasLayer_1 : (blk md_X0_hasLayer 1).2 = [(4, .iload_n 1, 1, []), (5, .aload_n 0, 1, []), (6, .getfield 27, 3, [0, 5]), (9, .if_icmp .ge 13, 3, [4])] := rfl
theorem cb_X0_hasLayer_2 : (blk md_X0_hasLayer 2).2 = [(12, .iload_n 1, 1, []), (13, .bipush 6, 2, []), (15, .if_icmp .ge 7, 3, [4])] := rfl
theorem cb_X0_hasLayer_3 : (blk md_X0_hasLayer 3).2 = [(18, .iconst 1, 1, []), (19, .goto 4, 3, [5])] := rfl
theorem cb_X0_hasLayer_4 : (blk md_X0_hasLayer 4).2 = [(22, .iconst 0, 1, [])] := rfl
theorem cb_X0_hasLayer_5 : (blk md_X0_hasLayer 5).2 = [(23, .ireturn, 1, [1])] := rfl
def md_X0_hasBacking : List mB := [
  (false, [(0, .iload_n 1, 1, []), (1, .iconst (-1), 1, []), (2, .if_icmp .eq 11, 3, [2])]),
  (false, [(5, .aload_n 0, 1, []), (6, .iload_n 1, 1, []), (7, .invokevirtual 49, 3, [0, 1, 2, 1]), (10, .ifCond .eq 7, 3, [3])]),
  (false, [(13, .iconst 1, 1, []), (14, .goto 4, 3, [4])]),
  (false, [(17, .iconst 0, 1, [])]),
  (false, [(18, .ireturn, 1, [1])])]
theorem cb_X0_hasBacking_0 : (blk md_X0_hasBacking 0).2 = [(0, .iload_n 1, 1, []), (1, .iconst (-1), 1, []), (2, .if_icmp .eq 11, 3, [2])] := rfl
theorem cb_X0_hasBacking_1 : (blk md_X0_hasBacking 1).2 = [(5, .aload_n 0, 1, []), (6, .iload_n 1, 1, []), (7, .invokevirtual 49, 3, [0, 1, 2, 1]), (10, .ifCond .eq 7, 3, [3])] := rfl
theorem cb_X0_hasBacking_2 : (blk md_X0_hasBacking 2).2 = [(13, .iconst 1, 1, []), (14, .goto 4, 3, [4])] := rfl
theorem cb_X0_hasBacking_3 : (blk md_X0_hasBacking 3).2 = [(17, .iconst 0, 1, [])] := rfl
theorem cb_X0_hasBacking_4 : (blk md_X0_hasBacking 4).2 = [(18, .ireturn, 1, [1])] := rfl
def md_X0_hasSnapshot : List mB := [
  (false, [(0, .iload_n 1, 1, []), (1, .ifCond .lt 23, 3, [4])]),
  (false, [(4, .iload_n 1, 1, []), (5, .bipush 8, 2, []), (7, .if_icmp .ge 17, 3, [4])]),
  (false, [(10, .aload_n 0, 1, []), (11, .getfield 24, 3, [0, 4]), (14, .iload_n 1, 1, []), (15, .iaload, 1, []), (16, .iconst (-1), 1, []), (17, .if_icmp .eq 7, 3, [4])]),
  (false, [(20, .iconst 1, 1, []), (21, .goto 4, 3, [5])]),
  (false, [(24, .iconst 0, 1, [])]),
  (false, [(25, .ireturn, 1, [1])])]
theorem cb_X0_hasSnapshot_0 : (blk md_X0_hasSnapshot 0).2 = [(0, .iload_n 1, 1, []), (1, .ifCond .lt 23, 3, [4])] := rfl
theorem cb_X0_hasSnapshot_1 : (blk md_X0_hasSnapshot 1).2 = [(4, .iload_n 1, 1, []), (5, .bipush 8, 2, []), (7, .if_icmp .ge 17, 3, [4])] := rfl
theorem cb_X0_hasSnapshot_2 : (blk md_X0_hasSnapshot 2).2 = [(10, .aload_n 0, 1, []), (11, .getfield 24, 3, [0, 4]), (14, .iload_n 1, 1, []), (15, .iaload, 1, []), (16, .iconst (-1), 1, []), (17, .if_icmp .eq 7, 3, [4])] := rfl
theorem cb_X0_hasSnapshot_3 : (blk md_X0_hasSnapshot 3).2 = [(20, .iconst 1, 1, []), (21, .goto 4, 3, [5])] := rfl
theorem cb_X0_hasSnapshot_4 : (blk md_X0_hasSnapshot 4).2 = [(24, .iconst 0, 1, [])] := rfl
theorem cb_X0_hasSnapshot_5 : (blk md_X0_hasSnapshot 5).2 = [(25, .ireturn, 1, [1])] := rfl
def md_X0_addLayer : List mB := [
  (false, [(0, .aload_n 0, 1, []), (1, .getfield 27, 3, [0, 5]), (4, .istore_n 2, 1, []), (5, .iload_n 2, 1, []), (6, .bipush 6, 2, []), (8, .if_icmp .lt 5, 3, [2])]),
  (false, [(11, .iconst (-1), 1, []), (12, .ireturn, 1, [])]),
  (false, [(13, .aload_n 0, 1, []), (14, .getfield 21, 3, [0, 3]), (17, .iload_n 2, 1, []), (18, .iload_n 1, 1, []), (19, .iastore, 1, []), (20, .aload_n 0, 1, []), (21, .dup, 1, []), (22, .getfield 27, 3, [0, 5]), (25, .iconst 1, 1, []), (26, .iadd, 1, []), (27, .putfield 27, 3, [0, 5]), (30, .iload_n 2, 1, []), (31, .ireturn, 1, [])])]
theorem cb_X0_addLayer_0 : (blk md_X0_addLayer 0).2 = [(0, .aload_n 0, 1, []), (1, .getfield 27, 3, [0, 5]), (4, .istore_n 2, 1, []), (5, .iload_n 2, 1, []), (6, .bipush 6, 2, []), (8, .if_icmp .lt 5, 3, [2])] := rfl
theorem cb_X0_addLayer_1 : (blk md_X0_addLayer 1).2 = [(11, .iconst (-1), 1, []), (12, .ireturn, 1, [])] := rfl
theorem cb_X0_addLayer_2 : (blk md_X0_addLayer 2).2 = [(13, .aload_n 0, 1, []), (14, .getfield 21, 3, [0, 3]), (17, .iload_n 2, 1, []), (18, .iload_n 1, 1, []), (19, .iastore, 1, []), (20, .aload_n 0, 1, []), (21, .dup, 1, []), (22, .getfield 27, 3, [0, 5]), (25, .iconst 1, 1, []), (26, .iadd, 1, []), (27, .putfield 27, 3, [0, 5]), (30, .iload_n 2, 1, []), (31, .ireturn, 1, [])] := rfl
def md_X0_snapshotSet : List mB := [
  (false, [(0, .iconst 0, 1, []), (1, .istore_n 1, 1, []), (2, .iconst 0, 1, []), (3, .istore_n 2, 1, [])]),
  (false, [(4, .iload_n 2, 1, []), (5, .bipush 8, 2, []), (7, .if_icmp .ge 25, 3, [5])]),
  (false, [(10, .aload_n 0, 1, []), (11, .getfield 24, 3, [0, 4]), (14, .iload_n 2, 1, []), (15, .iaload, 1, []), (16, .iconst (-1), 1, []), (17, .if_icmp .eq 9, 3, [4])]),
  (false, [(20, .iload_n 1, 1, []), (21, .iconst 1, 1, []), (22, .iload_n 2, 1, []), (23, .ishl, 1, []), (24, .ior, 1, []), (25, .istore_n 1, 1, [])]),
  (false, [(26, .iinc 2 1, 3, []), (29, .goto (-25), 3, [1])]),
  (false, [(32, .iload_n 1, 1, []), (33, .ireturn, 1, [])])]
theorem cb_X0_snapshotSet_0 : (blk md_X0_snapshotSet 0).2 = [(0, .iconst 0, 1, []), (1, .istore_n 1, 1, []), (2, .iconst 0, 1, []), (3, .istore_n 2, 1, [])] := rfl
theorem cb_X0_snapshotSet_1 : (blk md_X0_snapshotSet 1).2 = [(4, .iload_n 2, 1, []), (5, .bipush 8, 2, []), (7, .if_icmp .ge 25, 3, [5])] := rfl
theorem cb_X0_snapshotSet_2 : (blk md_X0_snapshotSet 2).2 = [(10, .aload_n 0, 1, []), (11, .getfield 24, 3, [0, 4]), (14, .iload_n 2, 1, []), (15, .iaload, 1, []), (16, .iconst (-1), 1, []), (17, .if_icmp .eq 9, 3, [4])] := rfl
theorem cb_X0_snapshotSet_3 : (blk md_X0_snapshotSet 3).2 = [(20, .iload_n 1, 1, []), (21, .iconst 1, 1, []), (22, .iload_n 2, 1, []), (23, .ishl, 1, []), (24, .ior, 1, []), (25, .istore_n 1, 1, [])] := rfl
theorem cb_X0_snapshotSet_4 : (blk md_X0_snapshotSet 4).2 = [(26, .iinc 2 1, 3, []), (29, .goto (-25), 3, [1])] := rfl
theorem cb_X0_snapshotSet_5 : (blk md_X0_snapshotSet 5).2 = [(32, .iload_n 1, 1, []), (33, .ireturn, 1, [])] := rfl
def md_X0_leastMissingSnapshot : List mB := [
  (false, [(0, .iconst 0, 1, []), (1, .istore_n 1, 1, [])]),
  (false, [(2, .iload_n 1, 1, []), (3, .bipush 8, 2, []), (5, .if_icmp .ge 21, 3, [5])]),
  (false, [(8, .aload_n 0, 1, []), (9, .getfield 24, 3, [0, 4]), (12, .iload_n 1, 1, []), (13, .iaload, 1, []), (14, .iconst (-1), 1, []), (15, .if_icmp .ne 5, 3, [4])]),
  (false, [(18, .iload_n 1, 1, []), (19, .ireturn, 1, [])]),
  (false, [(20, .iinc 1 1, 3, []), (23, .goto (-21), 3, [1])]),
  (false, [(26, .iconst (-1), 1, []), (27, .ireturn, 1, [])])]
theorem cb_X0_leastMissingSnapshot_0 : (blk md_X0_leastMissingSnapshot 0).2 = [(0, .iconst 0, 1, []), (1, .istore_n 1, 1, [])] := rfl
theorem cb_X0_leastMissingSnapshot_1 : (blk md_X0_leastMissingSnapshot 1).2 = [(2, .iload_n 1, 1, []), (3, .bipush 8, 2, []), (5, .if_icmp .ge 21, 3, [5])] := rfl
theorem cb_X0_leastMissingSnapshot_2 : (blk md_X0_leastMissingSnapshot 2).2 = [(8, .aload_n 0, 1, []), (9, .getfield 24, 3, [0, 4]), (12, .iload_n 1, 1, []), (13, .iaload, 1, []), (14, .iconst (-1), 1, []), (15, .if_icmp .ne 5, 3, [4])] := rfl
theorem cb_X0_leastMissingSnapshot_3 : (blk md_X0_leastMissingSnapshot 3).2 = [(18, .iload_n 1, 1, []), (19, .ireturn, 1, [])] := rfl
theorem cb_X0_leastMissingSnapshot_4 : (blk md_X0_leastMissingSnapshot 4).2 = [(20, .iinc 1 1, 3, []), (23, .goto (-21), 3, [1])] := rfl
theorem cb_X0_leastMissingSnapshot_5 : (blk md_X0_leastMissingSnapshot 5).2 = [(26, .iconst (-1), 1, []), (27, .ireturn, 1, [])] := rfl
def md_X0_layersBelow : List mB := [
  (false, [(0, .iconst 0, 1, []), (1, .istore_n 2, 1, []), (2, .aload_n 0, 1, []), (3, .getfield 21, 3, [0, 3]), (6, .iload_n 1, 1, []), (7, .iaload, 1, []), (8, .istore_n 3, 1, [])]),
  (false, [(9, .iload_n 3, 1, []), (10, .ifCond .lt 28, 3, [5])]),
  (false, [(13, .iload_n 3, 1, []), (14, .bipush 6, 2, []), (16, .if_icmp .ge 22, 3, [5])]),
  (false, [(19, .iload_n 2, 1, []), (20, .bipush 6, 2, []), (22, .if_icmp .ge 16, 3, [5])]),
  (false, [(25, .iinc 2 1, 3, []), (28, .aload_n 0, 1, []), (29, .getfield 21, 3, [0, 3]), (32, .iload_n 3, 1, []), (33, .iaload, 1, []), (34, .istore_n 3, 1, []), (35, .goto (-26), 3, [1])]),
  (false, [(38, .iload_n 2, 1, []), (39, .ireturn, 1, [])])]
theorem cb_X0_layersBelow_0 : (blk md_X0_layersBelow 0).2 = [(0, .iconst 0, 1, []), (1, .istore_n 2, 1, []), (2, .aload_n 0, 1, []), (3, .getfield 21, 3, [0, 3]), (6, .iload_n 1, 1, []), (7, .iaload, 1, []), (8, .istore_n 3, 1, [])] := rfl
theorem cb_X0_layersBelow_1 : (blk md_X0_layersBelow 1).2 = [(9, .iload_n 3, 1, []), (10, .ifCond .lt 28, 3, [5])] := rfl
theorem cb_X0_layersBelow_2 : (blk md_X0_layersBelow 2).2 = [(13, .iload_n 3, 1, []), (14, .bipush 6, 2, []), (16, .if_icmp .ge 22, 3, [5])] := rfl
theorem cb_X0_layersBelow_3 : (blk md_X0_layersBelow 3).2 = [(19, .iload_n 2, 1, []), (20, .bipush 6, 2, []), (22, .if_icmp .ge 16, 3, [5])] := rfl
theorem cb_X0_layersBelow_4 : (blk md_X0_layersBelow 4).2 = [(25, .iinc 2 1, 3, []), (28, .aload_n 0, 1, []), (29, .getfield 21, 3, [0, 3]), (32, .iload_n 3, 1, []), (33, .iaload, 1, []), (34, .istore_n 3, 1, []), (35, .goto (-26), 3, [1])] := rfl
theorem cb_X0_layersBelow_5 : (blk md_X0_layersBelow 5).2 = [(38, .iload_n 2, 1, []), (39, .ireturn, 1, [])] := rfl
def md_X0_standsOn : List mB := [
  (false, [(0, .iload_n 1, 1, []), (1, .istore_n 3, 1, []), (2, .iconst 0, 1, []), (3, .istore 4, 2, [])]),
  (false, [(5, .iload 4, 2, []), (7, .bipush 6, 2, []), (9, .if_icmp .ge 33, 3, [7])]),
  (false, [(12, .iload_n 3, 1, []), (13, .ifCond .lt 29, 3, [7])]),
  (false, [(16, .iload_n 3, 1, []), (17, .bipush 6, 2, []), (19, .if_icmp .ge 23, 3, [7])]),
  (false, [(22, .iload_n 3, 1, []), (23, .iload_n 2, 1, []), (24, .if_icmp .ne 5, 3, [6])]),
  (false, [(27, .iconst 1, 1, []), (28, .ireturn, 1, [1])]),
  (false, [(29, .aload_n 0, 1, []), (30, .getfield 21, 3, [0, 3]), (33, .iload_n 3, 1, []), (34, .iaload, 1, []), (35, .istore_n 3, 1, []), (36, .iinc 4 1, 3, []), (39, .goto (-34), 3, [1])]),
  (false, [(42, .iconst 0, 1, []), (43, .ireturn, 1, [1])])]
theorem cb_X0_standsOn_0 : (blk md_X0_standsOn 0).2 = [(0, .iload_n 1, 1, []), (1, .istore_n 3, 1, []), (2, .iconst 0, 1, []), (3, .istore 4, 2, [])] := rfl
theorem cb_X0_standsOn_1 : (blk md_X0_standsOn 1).2 = [(5, .iload 4, 2, []), (7, .bipush 6, 2, []), (9, .if_icmp .ge 33, 3, [7])] := rfl
theorem cb_X0_standsOn_2 : (blk md_X0_standsOn 2).2 = [(12, .iload_n 3, 1, []), (13, .ifCond .lt 29, 3, [7])] := rfl
theorem cb_X0_standsOn_3 : (blk md_X0_standsOn 3).2 = [(16, .iload_n 3, 1, []), (17, .bipush 6, 2, []), (19, .if_icmp .ge 23, 3, [7])] := rfl
theorem cb_X0_standsOn_4 : (blk md_X0_standsOn 4).2 = [(22, .iload_n 3, 1, []), (23, .iload_n 2, 1, []), (24, .if_icmp .ne 5, 3, [6])] := rfl
theorem cb_X0_standsOn_5 : (blk md_X0_standsOn 5).2 = [(27, .iconst 1, 1, []), (28, .ireturn, 1, [1])] := rfl
theorem cb_X0_standsOn_6 : (blk md_X0_standsOn 6).2 = [(29, .aload_n 0, 1, []), (30, .getfield 21, 3, [0, 3]), (33, .iload_n 3, 1, []), (34, .iaload, 1, []), (35, .istore_n 3, 1, []), (36, .iinc 4 1, 3, []), (39, .goto (-34), 3, [1])] := rfl
theorem cb_X0_standsOn_7 : (blk md_X0_standsOn 7).2 = [(42, .iconst 0, 1, []), (43, .ireturn, 1, [1])] := rfl
def md_X0_tableAt : List mB := [
  (false, [(0, .iload_n 1, 1, []), (1, .iconst 4, 1, []), (2, .imul, 1, []), (3, .iload_n 2, 1, []), (4, .iadd, 1, []), (5, .istore_n 3, 1, []), (6, .iload_n 3, 1, []), (7, .ifCond .lt 21, 3, [3])]),
  (false, [(10, .iload_n 3, 1, []), (11, .aload_n 0, 1, []), (12, .getfield 18, 3, [0, 2]), (15, .arraylength, 1, []), (16, .if_icmp .ge 12, 3, [3])]),
  (false, [(19, .aload_n 0, 1, []), (20, .getfield 18, 3, [0, 2]), (23, .iload_n 3, 1, []), (24, .iaload, 1, []), (25, .goto 4, 3, [4])]),
  (false, [(28, .iconst 0, 1, [])]),
  (false, [(29, .istore 4, 2, []), (31, .iload 4, 2, []), (33, .ifCond .le 15, 3, [7])]),
  (false, [(36, .iload 4, 2, []), (38, .bipush 64, 2, []), (40, .if_icmp .ge 8, 3, [7])]),
  (false, [(43, .iload 4, 2, []), (45, .goto 4, 3, [8])]),
  (false, [(48, .iconst 0, 1, [])]),
  (false, [(49, .ireturn, 1, [])])]
theorem cb_X0_tableAt_0 : (blk md_X0_tableAt 0).2 = [(0, .iload_n 1, 1, []), (1, .iconst 4, 1, []), (2, .imul, 1, []), (3, .iload_n 2, 1, []), (4, .iadd, 1, []), (5, .istore_n 3, 1, []), (6, .iload_n 3, 1, []), (7, .ifCond .lt 21, 3, [3])] := rfl
theorem cb_X0_tableAt_1 : (blk md_X0_tableAt 1).2 = [(10, .iload_n 3, 1, []), (11, .aload_n 0, 1, []), (12, .getfield 18, 3, [0, 2]), (15, .arraylength, 1, []), (16, .if_icmp .ge 12, 3, [3])] := rfl
theorem cb_X0_tableAt_2 : (blk md_X0_tableAt 2).2 = [(19, .aload_n 0, 1, []), (20, .getfield 18, 3, [0, 2]), (23, .iload_n 3, 1, []), (24, .iaload, 1, []), (25, .goto 4, 3, [4])] := rfl
theorem cb_X0_tableAt_3 : (blk md_X0_tableAt 3).2 = [(28, .iconst 0, 1, [])] := rfl
theorem cb_X0_tableAt_4 : (blk md_X0_tableAt 4).2 = [(29, .istore 4, 2, []), (31, .iload 4, 2, []), (33, .ifCond .le 15, 3, [7])] := rfl
theorem cb_X0_tableAt_5 : (blk md_X0_tableAt 5).2 = [(36, .iload 4, 2, []), (38, .bipush 64, 2, []), (40, .if_icmp .ge 8, 3, [7])] := rfl
theorem cb_X0_tableAt_6 : (blk md_X0_tableAt 6).2 = [(43, .iload 4, 2, []), (45, .goto 4, 3, [8])] := rfl
theorem cb_X0_tableAt_7 : (blk md_X0_tableAt 7).2 = [(48, .iconst 0, 1, [])] := rfl
theorem cb_X0_tableAt_8 : (blk md_X0_tableAt 8).2 = [(49, .ireturn, 1, [])] := rfl
def md_X0_dataAt : List mB := [
  (false, [(0, .iload_n 1, 1, []), (1, .iconst 4, 1, []), (2, .imul, 1, []), (3, .iload_n 2, 1, []), (4, .iadd, 1, []), (5, .istore_n 3, 1, []), (6, .iload_n 3, 1, []), (7, .iconst 4, 1, []), (8, .if_icmp .lt 21, 3, [3])]),
  (false, [(11, .iload_n 3, 1, []), (12, .aload_n 0, 1, []), (13, .getfield 9, 3, [0, 0]), (16, .arraylength, 1, []), (17, .if_icmp .ge 12, 3, [3])]),
  (false, [(20, .aload_n 0, 1, []), (21, .getfield 9, 3, [0, 0]), (24, .iload_n 3, 1, []), (25, .iaload, 1, []), (26, .goto 4, 3, [4])]),
  (false, [(29, .iconst 0, 1, [])]),
  (false, [(30, .istore 4, 2, []), (32, .iload 4, 2, []), (34, .ifCond .le 15, 3, [7])]),
  (false, [(37, .iload 4, 2, []), (39, .bipush 64, 2, []), (41, .if_icmp .ge 8, 3, [7])]),
  (false, [(44, .iload 4, 2, []), (46, .goto 4, 3, [8])]),
  (false, [(49, .iconst 0, 1, [])]),
  (false, [(50, .ireturn, 1, [])])]
theorem cb_X0_dataAt_0 : (blk md_X0_dataAt 0).2 = [(0, .iload_n 1, 1, []), (1, .iconst 4, 1, []), (2, .imul, 1, []), (3, .iload_n 2, 1, []), (4, .iadd, 1, []), (5, .istore_n 3, 1, []), (6, .iload_n 3, 1, []), (7, .iconst 4, 1, []), (8, .if_icmp .lt 21, 3, [3])] := rfl
theorem cb_X0_dataAt_1 : (blk md_X0_dataAt 1).2 = [(11, .iload_n 3, 1, []), (12, .aload_n 0, 1, []), (13, .getfield 9, 3, [0, 0]), (16, .arraylength, 1, []), (17, .if_icmp .ge 12, 3, [3])] := rfl
theorem cb_X0_dataAt_2 : (blk md_X0_dataAt 2).2 = [(20, .aload_n 0, 1, []), (21, .getfield 9, 3, [0, 0]), (24, .iload_n 3, 1, []), (25, .iaload, 1, []), (26, .goto 4, 3, [4])] := rfl
theorem cb_X0_dataAt_3 : (blk md_X0_dataAt 3).2 = [(29, .iconst 0, 1, [])] := rfl
theorem cb_X0_dataAt_4 : (blk md_X0_dataAt 4).2 = [(30, .istore 4, 2, []), (32, .iload 4, 2, []), (34, .ifCond .le 15, 3, [7])] := rfl
theorem cb_X0_dataAt_5 : (blk md_X0_dataAt 5).2 = [(37, .iload 4, 2, []), (39, .bipush 64, 2, []), (41, .if_icmp .ge 8, 3, [7])] := rfl
theorem cb_X0_dataAt_6 : (blk md_X0_dataAt 6).2 = [(44, .iload 4, 2, []), (46, .goto 4, 3, [8])] := rfl
theorem cb_X0_dataAt_7 : (blk md_X0_dataAt 7).2 = [(49, .iconst 0, 1, [])] := rfl
theorem cb_X0_dataAt_8 : (blk md_X0_dataAt 8).2 = [(50, .ireturn, 1, [])] := rfl
def md_X0_dataOf : List mB := [
  (false, [(0, .aload_n 0, 1, []), (1, .aload_n 0, 1, []), (2, .iload_n 1, 1, []), (3, .iload_n 2, 1, []), (4, .iconst 4, 1, []), (5, .idiv, 1, []), (6, .invokevirtual 53, 3, [0, 9, 3, 1]), (9, .iload_n 2, 1, []), (10, .iconst 4, 1, []), (11, .irem, 1, []), (12, .invokevirtual 57, 3, [0, 10, 3, 1]), (15, .ireturn, 1, [])])]
theorem cb_X0_dataOf_0 : (blk md_X0_dataOf 0).2 = [(0, .aload_n 0, 1, []), (1, .aload_n 0, 1, []), (2, .iload_n 1, 1, []), (3, .iload_n 2, 1, []), (4, .iconst 4, 1, []), (5, .idiv, 1, []), (6, .invokevirtual 53, 3, [0, 9, 3, 1]), (9, .iload_n 2, 1, []), (10, .iconst 4, 1, []), (11, .irem, 1, []), (12, .invokevirtual 57, 3, [0, 10, 3, 1]), (15, .ireturn, 1, [])] := rfl
def md_X0_ownBlocks : List mB := [
  (false, [(0, .iconst 0, 1, []), (1, .istore_n 2, 1, []), (2, .iconst 0, 1, []), (3, .istore_n 3, 1, [])]),
  (false, [(4, .iload_n 3, 1, []), (5, .bipush 16, 2, []), (7, .if_icmp .ge 24, 3, [5])]),
  (false, [(10, .aload_n 0, 1, []), (11, .iload_n 1, 1, []), (12, .iload_n 3, 1, []), (13, .invokevirtual 60, 3, [0, 11, 3, 1]), (16, .ifCond .eq 9, 3, [4])]),
  (false, [(19, .iload_n 2, 1, []), (20, .iconst 1, 1, []), (21, .iload_n 3, 1, []), (22, .ishl, 1, []), (23, .ior, 1, []), (24, .istore_n 2, 1, [])]),
  (false, [(25, .iinc 3 1, 3, []), (28, .goto (-24), 3, [1])]),
  (false, [(31, .iload_n 2, 1, []), (32, .ireturn, 1, [])])]
theorem cb_X0_ownBlocks_0 : (blk md_X0_ownBlocks 0).2 = [(0, .iconst 0, 1, []), (1, .istore_n 2, 1, []), (2, .iconst 0, 1, []), (3, .istore_n 3, 1, [])] := rfl
theorem cb_X0_ownBlocks_1 : (blk md_X0_ownBlocks 1).2 = [(4, .iload_n 3, 1, []), (5, .bipush 16, 2, []), (7, .if_icmp .ge 24, 3, [5])] := rfl
theorem cb_X0_ownBlocks_2 : (blk md_X0_ownBlocks 2).2 = [(10, .aload_n 0, 1, []), (11, .iload_n 1, 1, []), (12, .iload_n 3, 1, []), (13, .invokevirtual 60, 3, [0, 11, 3, 1]), (16, .ifCond .eq 9, 3, [4])] := rfl
theorem cb_X0_ownBlocks_3 : (blk md_X0_ownBlocks 3).2 = [(19, .iload_n 2, 1, []), (20, .iconst 1, 1, []), (21, .iload_n 3, 1, []), (22, .ishl, 1, []), (23, .ior, 1, []), (24, .istore_n 2, 1, [])] := rfl
theorem cb_X0_ownBlocks_4 : (blk md_X0_ownBlocks 4).2 = [(25, .iinc 3 1, 3, []), (28, .goto (-24), 3, [1])] := rfl
theorem cb_X0_ownBlocks_5 : (blk md_X0_ownBlocks 5).2 = [(31, .iload_n 2, 1, []), (32, .ireturn, 1, [])] := rfl
def md_X0_at : List mB := [
  (false, [(0, .iload_n 1, 1, []), (1, .istore_n 3, 1, []), (2, .iconst 0, 1, []), (3, .istore 4, 2, [])]),
  (false, [(5, .iload 4, 2, []), (7, .bipush 6, 2, []), (9, .if_icmp .ge 65, 3, [7])]),
  (false, [(12, .iload_n 3, 1, []), (13, .ifCond .lt 61, 3, [7])]),
  (false, [(16, .iload_n 3, 1, []), (17, .bipush 6, 2, []), (19, .if_icmp .ge 55, 3, [7])]),
  (false, [(22, .aload_n 0, 1, []), (23, .aload_n 0, 1, []), (24, .iload_n 3, 1, []), (25, .iload_n 2, 1, []), (26, .bipush 16, 2, []), (28, .idiv, 1, []), (29, .invokevirtual 53, 3, [0, 9, 3, 1]), (32, .iload_n 2, 1, []), (33, .iconst 4, 1, []), (34, .idiv, 1, []), (35, .iconst 4, 1, []), (36, .irem, 1, []), (37, .invokevirtual 57, 3, [0, 10, 3, 1]), (40, .istore 5, 2, []), (42, .iload 5, 2, []), (44, .ifCond .eq 17, 3, [6])]),
  (false, [(47, .aload_n 0, 1, []), (48, .getfield 9, 3, [0, 0]), (51, .iload 5, 2, []), (53, .iconst 4, 1, []), (54, .imul, 1, []), (55, .iload_n 2, 1, []), (56, .iconst 4, 1, []), (57, .irem, 1, []), (58, .iadd, 1, []), (59, .iaload, 1, []), (60, .ireturn, 1, [])]),
  (false, [(61, .aload_n 0, 1, []), (62, .getfield 21, 3, [0, 3]), (65, .iload_n 3, 1, []), (66, .iaload, 1, []), (67, .istore_n 3, 1, []), (68, .iinc 4 1, 3, []), (71, .goto (-66), 3, [1])]),
  (false, [(74, .iconst 0, 1, []), (75, .ireturn, 1, [])])]
theorem cb_X0_at_0 : (blk md_X0_at 0).2 = [(0, .iload_n 1, 1, []), (1, .istore_n 3, 1, []), (2, .iconst 0, 1, []), (3, .istore 4, 2, [])] := rfl
theorem cb_X0_at_1 : (blk md_X0_at 1).2 = [(5, .iload 4, 2, []), (7, .bipush 6, 2, []), (9, .if_icmp .ge 65, 3, [7])] := rfl
theorem cb_X0_at_2 : (blk md_X0_at 2).2 = [(12, .iload_n 3, 1, []), (13, .ifCond .lt 61, 3, [7])] := rfl
theorem cb_X0_at_3 : (blk md_X0_at 3).2 = [(16, .iload_n 3, 1, []), (17, .bipush 6, 2, []), (19, .if_icmp .ge 55, 3, [7])] := rfl
theorem cb_X0_at_4 : (blk md_X0_at 4).2 = [(22, .aload_n 0, 1, []), (23, .aload_n 0, 1, []), (24, .iload_n 3, 1, []), (25, .iload_n 2, 1, []), (26, .bipush 16, 2, []), (28, .idiv, 1, []), (29, .invokevirtual 53, 3, [0, 9, 3, 1]), (32, .iload_n 2, 1, []), (33, .iconst 4, 1, []), (34, .idiv, 1, []), (35, .iconst 4, 1, []), (36, .irem, 1, []), (37, .invokevirtual 57, 3, [0, 10, 3, 1]), (40, .istore 5, 2, []), (42, .iload 5, 2, []), (44, .ifCond .eq 17, 3, [6])] := rfl
theorem cb_X0_at_5 : (blk md_X0_at 5).2 = [(47, .aload_n 0, 1, []), (48, .getfield 9, 3, [0, 0]), (51, .iload 5, 2, []), (53, .iconst 4, 1, []), (54, .imul, 1, []), (55, .iload_n 2, 1, []), (56, .iconst 4, 1, []), (57, .irem, 1, []), (58, .iadd, 1, []), (59, .iaload, 1, []), (60, .ireturn, 1, [])] := rfl
theorem cb_X0_at_6 : (blk md_X0_at 6).2 = [(61, .aload_n 0, 1, []), (62, .getfield 21, 3, [0, 3]), (65, .iload_n 3, 1, []), (66, .iaload, 1, []), (67, .istore_n 3, 1, []), (68, .iinc 4 1, 3, []), (71, .goto (-66), 3, [1])] := rfl
theorem cb_X0_at_7 : (blk md_X0_at 7).2 = [(74, .iconst 0, 1, []), (75, .ireturn, 1, [])] := rfl
def md_X0_atOld : List mB := [
  (false, [(0, .aload_n 0, 1, []), (1, .bipush 6, 2, []), (3, .iload_n 1, 1, []), (4, .iadd, 1, []), (5, .iload_n 2, 1, []), (6, .iconst 4, 1, []), (7, .idiv, 1, []), (8, .invokevirtual 60, 3, [0, 11, 3, 1]), (11, .istore_n 3, 1, []), (12, .iload_n 3, 1, []), (13, .ifCond .eq 16, 3, [2])]),
  (false, [(16, .aload_n 0, 1, []), (17, .getfield 9, 3, [0, 0]), (20, .iload_n 3, 1, []), (21, .iconst 4, 1, []), (22, .imul, 1, []), (23, .iload_n 2, 1, []), (24, .iconst 4, 1, []), (25, .irem, 1, []), (26, .iadd, 1, []), (27, .iaload, 1, []), (28, .ireturn, 1, [])]),
  (false, [(29, .aload_n 0, 1, []), (30, .getfield 24, 3, [0, 4]), (33, .iload_n 1, 1, []), (34, .iaload, 1, []), (35, .istore 4, 2, []), (37, .aload_n 0, 1, []), (38, .iload 4, 2, []), (40, .invokevirtual 49, 3, [0, 1, 2, 1]), (43, .ifCond .eq 18, 3, [4])]),
  (false, [(46, .aload_n 0, 1, []), (47, .aload_n 0, 1, []), (48, .getfield 21, 3, [0, 3]), (51, .iload 4, 2, []), (53, .iaload, 1, []), (54, .iload_n 2, 1, []), (55, .invokevirtual 63, 3, [0, 13, 3, 1]), (58, .goto 4, 3, [5])]),
  (false, [(61, .iconst 0, 1, [])]),
  (false, [(62, .ireturn, 1, [])])]
theorem cb_X0_atOld_0 : (blk md_X0_atOld 0).2 = [(0, .aload_n 0, 1, []), (1, .bipush 6, 2, []), (3, .iload_n 1, 1, []), (4, .iadd, 1, []), (5, .iload_n 2, 1, []), (6, .iconst 4, 1, []), (7, .idiv, 1, []), (8, .invokevirtual 60, 3, [0, 11, 3, 1]), (11, .istore_n 3, 1, []), (12, .iload_n 3, 1, []), (13, .ifCond .eq 16, 3, [2])] := rfl
theorem cb_X0_atOld_1 : (blk md_X0_atOld 1).2 = [(16, .aload_n 0, 1, []), (17, .getfield 9, 3, [0, 0]), (20, .iload_n 3, 1, []), (21, .iconst 4, 1, []), (22, .imul, 1, []), (23, .iload_n 2, 1, []), (24, .iconst 4, 1, []), (25, .irem, 1, []), (26, .iadd, 1, []), (27, .iaload, 1, []), (28, .ireturn, 1, [])] := rfl
theorem cb_X0_atOld_2 : (blk md_X0_atOld 2).2 = [(29, .aload_n 0, 1, []), (30, .getfield 24, 3, [0, 4]), (33, .iload_n 1, 1, []), (34, .iaload, 1, []), (35, .istore 4, 2, []), (37, .aload_n 0, 1, []), (38, .iload 4, 2, []), (40, .invokevirtual 49, 3, [0, 1, 2, 1]), (43, .ifCond .eq 18, 3, [4])] := rfl
theorem cb_X0_atOld_3 : (blk md_X0_atOld 3).2 = [(46, .aload_n 0, 1, []), (47, .aload_n 0, 1, []), (48, .getfield 21, 3, [0, 3]), (51, .iload 4, 2, []), (53, .iaload, 1, []), (54, .iload_n 2, 1, []), (55, .invokevirtual 63, 3, [0, 13, 3, 1]), (58, .goto 4, 3, [5])] := rfl
theorem cb_X0_atOld_4 : (blk md_X0_atOld 4).2 = [(61, .iconst 0, 1, [])] := rfl
theorem cb_X0_atOld_5 : (blk md_X0_atOld 5).2 = [(62, .ireturn, 1, [])] := rfl
def md_X0_sameBlock : List mB := [
  (false, [(0, .iload_n 3, 1, []), (1, .iconst 4, 1, []), (2, .imul, 1, []), (3, .istore 4, 2, [])]),
  (false, [(5, .iload 4, 2, []), (7, .iload_n 3, 1, []), (8, .iconst 1, 1, []), (9, .iadd, 1, []), (10, .iconst 4, 1, []), (11, .imul, 1, []), (12, .if_icmp .ge 28, 3, [5])]),
  (false, [(15, .aload_n 0, 1, []), (16, .iload_n 1, 1, []), (17, .iload 4, 2, []), (19, .invokevirtual 63, 3, [0, 13, 3, 1]), (22, .aload_n 0, 1, []), (23, .iload_n 2, 1, []), (24, .iload 4, 2, []), (26, .invokevirtual 63, 3, [0, 13, 3, 1]), (29, .if_icmp .eq 5, 3, [4])]),
  (false, [(32, .iconst 0, 1, []), (33, .ireturn, 1, [1])]),
  (false, [(34, .iinc 4 1, 3, []), (37, .goto (-32), 3, [1])]),
  (false, [(40, .iconst 1, 1, []), (41, .ireturn, 1, [1])])]
theorem cb_X0_sameBlock_0 : (blk md_X0_sameBlock 0).2 = [(0, .iload_n 3, 1, []), (1, .iconst 4, 1, []), (2, .imul, 1, []), (3, .istore 4, 2, [])] := rfl
theorem cb_X0_sameBlock_1 : (blk md_X0_sameBlock 1).2 = [(5, .iload 4, 2, []), (7, .iload_n 3, 1, []), (8, .iconst 1, 1, []), (9, .iadd, 1, []), (10, .iconst 4, 1, []), (11, .imul, 1, []), (12, .if_icmp .ge 28, 3, [5])] := rfl
theorem cb_X0_sameBlock_2 : (blk md_X0_sameBlock 2).2 = [(15, .aload_n 0, 1, []), (16, .iload_n 1, 1, []), (17, .iload 4, 2, []), (19, .invokevirtual 63, 3, [0, 13, 3, 1]), (22, .aload_n 0, 1, []), (23, .iload_n 2, 1, []), (24, .iload 4, 2, []), (26, .invokevirtual 63, 3, [0, 13, 3, 1]), (29, .if_icmp .eq 5, 3, [4])] := rfl
theorem cb_X0_sameBlock_3 : (blk md_X0_sameBlock 3).2 = [(32, .iconst 0, 1, []), (33, .ireturn, 1, [1])] := rfl
theorem cb_X0_sameBlock_4 : (blk md_X0_sameBlock 4).2 = [(34, .iinc 4 1, 3, []), (37, .goto (-32), 3, [1])] := rfl
theorem cb_X0_sameBlock_5 : (blk md_X0_sameBlock 5).2 = [(40, .iconst 1, 1, []), (41, .ireturn, 1, [1])] := rfl
def md_X0_alike : List mB := [
  (false, [(0, .iconst 0, 1, []), (1, .istore_n 3, 1, [])]),
  (false, [(2, .iload_n 3, 1, []), (3, .iconst 4, 1, []), (4, .if_icmp .ge 34, 3, [5])]),
  (false, [(7, .aload_n 0, 1, []), (8, .getfield 9, 3, [0, 0]), (11, .iload_n 1, 1, []), (12, .iconst 4, 1, []), (13, .imul, 1, []), (14, .iload_n 3, 1, []), (15, .iadd, 1, []), (16, .iaload, 1, []), (17, .aload_n 0, 1, []), (18, .getfield 9, 3, [0, 0]), (21, .iload_n 2, 1, []), (22, .iconst 4, 1, []), (23, .imul, 1, []), (24, .iload_n 3, 1, []), (25, .iadd, 1, []), (26, .iaload, 1, []), (27, .if_icmp .eq 5, 3, [4])]),
  (false, [(30, .iconst 0, 1, []), (31, .ireturn, 1, [1])]),
  (false, [(32, .iinc 3 1, 3, []), (35, .goto (-33), 3, [1])]),
  (false, [(38, .iconst 1, 1, []), (39, .ireturn, 1, [1])])]
theorem cb_X0_alike_0 : (blk md_X0_alike 0).2 = [(0, .iconst 0, 1, []), (1, .istore_n 3, 1, [])] := rfl
theorem cb_X0_alike_1 : (blk md_X0_alike 1).2 = [(2, .iload_n 3, 1, []), (3, .iconst 4, 1, []), (4, .if_icmp .ge 34, 3, [5])] := rfl
theorem cb_X0_alike_2 : (blk md_X0_alike 2).2 = [(7, .aload_n 0, 1, []), (8, .getfield 9, 3, [0, 0]), (11, .iload_n 1, 1, []), (12, .iconst 4, 1, []), (13, .imul, 1, []), (14, .iload_n 3, 1, []), (15, .iadd, 1, []), (16, .iaload, 1, []), (17, .aload_n 0, 1, []), (18, .getfield 9, 3, [0, 0]), (21, .iload_n 2, 1, []), (22, .iconst 4, 1, []), (23, .imul, 1, []), (24, .iload_n 3, 1, []), (25, .iadd, 1, []), (26, .iaload, 1, []), (27, .if_icmp .eq 5, 3, [4])] := rfl
theorem cb_X0_alike_3 : (blk md_X0_alike 3).2 = [(30, .iconst 0, 1, []), (31, .ireturn, 1, [1])] := rfl
theorem cb_X0_alike_4 : (blk md_X0_alike 4).2 = [(32, .iinc 3 1, 3, []), (35, .goto (-33), 3, [1])] := rfl
theorem cb_X0_alike_5 : (blk md_X0_alike 5).2 = [(38, .iconst 1, 1, []), (39, .ireturn, 1, [1])] := rfl
def md_X0_leastAlike : List mB := [
  (false, [(0, .iconst 1, 1, []), (1, .istore 4, 2, [])]),
  (false, [(3, .iload 4, 2, []), (5, .iload_n 3, 1, []), (6, .if_icmp .ge 31, 3, [6])]),
  (false, [(9, .lload_n 1, 1, []), (10, .iload 4, 2, []), (12, .invokestatic 66, 3, [2, 98, 2, 1]), (15, .ifCond .eq 16, 3, [5])]),
  (false, [(18, .aload_n 0, 1, []), (19, .iload 4, 2, []), (21, .iload_n 3, 1, []), (22, .invokevirtual 70, 3, [0, 16, 3, 1]), (25, .ifCond .eq 6, 3, [5])]),
  (false, [(28, .iload 4, 2, []), (30, .ireturn, 1, [])]),
  (false, [(31, .iinc 4 1, 3, []), (34, .goto (-31), 3, [1])]),
  (false, [(37, .iload_n 3, 1, []), (38, .ireturn, 1, [])])]
theorem cb_X0_leastAlike_0 : (blk md_X0_leastAlike 0).2 = [(0, .iconst 1, 1, []), (1, .istore 4, 2, [])] := rfl
theorem cb_X0_leastAlike_1 : (blk md_X0_leastAlike 1).2 = [(3, .iload 4, 2, []), (5, .iload_n 3, 1, []), (6, .if_icmp .ge 31, 3, [6])] := rfl
theorem cb_X0_leastAlike_2 : (blk md_X0_leastAlike 2).2 = [(9, .lload_n 1, 1, []), (10, .iload 4, 2, []), (12, .invokestatic 66, 3, [2, 98, 2, 1]), (15, .ifCond .eq 16, 3, [5])] := rfl
theorem cb_X0_leastAlike_3 : (blk md_X0_leastAlike 3).2 = [(18, .aload_n 0, 1, []), (19, .iload 4, 2, []), (21, .iload_n 3, 1, []), (22, .invokevirtual 70, 3, [0, 16, 3, 1]), (25, .ifCond .eq 6, 3, [5])] := rfl
theorem cb_X0_leastAlike_4 : (blk md_X0_leastAlike 4).2 = [(28, .iload 4, 2, []), (30, .ireturn, 1, [])] := rfl
theorem cb_X0_leastAlike_5 : (blk md_X0_leastAlike 5).2 = [(31, .iinc 4 1, 3, []), (34, .goto (-31), 3, [1])] := rfl
theorem cb_X0_leastAlike_6 : (blk md_X0_leastAlike 6).2 = [(37, .iload_n 3, 1, []), (38, .ireturn, 1, [])] := rfl
def md_X0_tablesOf : List mB := [
  (false, [(0, .lconst 0, 1, []), (1, .lstore_n 3, 1, []), (2, .iload_n 1, 1, []), (3, .istore 5, 2, [])]),
  (false, [(5, .iload 5, 2, []), (7, .iload_n 2, 1, []), (8, .if_icmp .ge 37, 3, [6])]),
  (false, [(11, .iconst 0, 1, []), (12, .istore 6, 2, [])]),
  (false, [(14, .iload 6, 2, []), (16, .iconst 4, 1, []), (17, .if_icmp .ge 22, 3, [5])]),
  (false, [(20, .lload_n 3, 1, []), (21, .lconst 1, 1, []), (22, .aload_n 0, 1, []), (23, .iload 5, 2, []), (25, .iload 6, 2, []), (27, .invokevirtual 53, 3, [0, 9, 3, 1]), (30, .lshl, 1, []), (31, .lor, 1, []), (32, .lstore_n 3, 1, []), (33, .iinc 6 1, 3, []), (36, .goto (-22), 3, [3])]),
  (false, [(39, .iinc 5 1, 3, []), (42, .goto (-37), 3, [1])]),
  (false, [(45, .lload_n 3, 1, []), (46, .ldc2_w 74, 3, [18446744073709551614]), (49, .land, 1, []), (50, .lreturn, 1, [])])]
theorem cb_X0_tablesOf_0 : (blk md_X0_tablesOf 0).2 = [(0, .lconst 0, 1, []), (1, .lstore_n 3, 1, []), (2, .iload_n 1, 1, []), (3, .istore 5, 2, [])] := rfl
theorem cb_X0_tablesOf_1 : (blk md_X0_tablesOf 1).2 = [(5, .iload 5, 2, []), (7, .iload_n 2, 1, []), (8, .if_icmp .ge 37, 3, [6])] := rfl
theorem cb_X0_tablesOf_2 : (blk md_X0_tablesOf 2).2 = [(11, .iconst 0, 1, []), (12, .istore 6, 2, [])] := rfl
theorem cb_X0_tablesOf_3 : (blk md_X0_tablesOf 3).2 = [(14, .iload 6, 2, []), (16, .iconst 4, 1, []), (17, .if_icmp .ge 22, 3, [5])] := rfl
theorem cb_X0_tablesOf_4 : (blk md_X0_tablesOf 4).2 = [(20, .lload_n 3, 1, []), (21, .lconst 1, 1, []), (22, .aload_n 0, 1, []), (23, .iload 5, 2, []), (25, .iload 6, 2, []), (27, .invokevirtual 53, 3, [0, 9, 3, 1]), (30, .lshl, 1, []), (31, .lor, 1, []), (32, .lstore_n 3, 1, []), (33, .iinc 6 1, 3, []), (36, .goto (-22), 3, [3])] := rfl
theorem cb_X0_tablesOf_5 : (blk md_X0_tablesOf 5).2 = [(39, .iinc 5 1, 3, []), (42, .goto (-37), 3, [1])] := rfl
theorem cb_X0_tablesOf_6 : (blk md_X0_tablesOf 6).2 = [(45, .lload_n 3, 1, []), (46, .ldc2_w 74, 3, [18446744073709551614]), (49, .land, 1, []), (50, .lreturn, 1, [])] := rfl
def md_X0_dataNamedBy : List mB := [
  (false, [(0, .lconst 0, 1, []), (1, .lstore_n 3, 1, []), (2, .iconst 1, 1, []), (3, .istore 5, 2, [])]),
  (false, [(5, .iload 5, 2, []), (7, .bipush 64, 2, []), (9, .if_icmp .ge 46, 3, [7])]),
  (false, [(12, .iconst 0, 1, []), (13, .istore 6, 2, [])]),
  (false, [(15, .iload 6, 2, []), (17, .iconst 4, 1, []), (18, .if_icmp .ge 31, 3, [6])]),
  (false, [(21, .lload_n 1, 1, []), (22, .iload 5, 2, []), (24, .invokestatic 66, 3, [2, 98, 2, 1]), (27, .ifCond .eq 22, 3, [6])]),
  (false, [(30, .lload_n 3, 1, []), (31, .lconst 1, 1, []), (32, .aload_n 0, 1, []), (33, .iload 5, 2, []), (35, .iload 6, 2, []), (37, .invokevirtual 57, 3, [0, 10, 3, 1]), (40, .lshl, 1, []), (41, .lor, 1, []), (42, .lstore_n 3, 1, []), (43, .iinc 6 1, 3, []), (46, .goto (-31), 3, [3])]),
  (false, [(49, .iinc 5 1, 3, []), (52, .goto (-47), 3, [1])]),
  (false, [(55, .lload_n 3, 1, []), (56, .ldc2_w 74, 3, [18446744073709551614]), (59, .land, 1, []), (60, .lreturn, 1, [])])]
theorem cb_X0_dataNamedBy_0 : (blk md_X0_dataNamedBy 0).2 = [(0, .lconst 0, 1, []), (1, .lstore_n 3, 1, []), (2, .iconst 1, 1, []), (3, .istore 5, 2, [])] := rfl
theorem cb_X0_dataNamedBy_1 : (blk md_X0_dataNamedBy 1).2 = [(5, .iload 5, 2, []), (7, .bipush 64, 2, []), (9, .if_icmp .ge 46, 3, [7])] := rfl
theorem cb_X0_dataNamedBy_2 : (blk md_X0_dataNamedBy 2).2 = [(12, .iconst 0, 1, []), (13, .istore 6, 2, [])] := rfl
theorem cb_X0_dataNamedBy_3 : (blk md_X0_dataNamedBy 3).2 = [(15, .iload 6, 2, []), (17, .iconst 4, 1, []), (18, .if_icmp .ge 31, 3, [6])] := rfl
theorem cb_X0_dataNamedBy_4 : (blk md_X0_dataNamedBy 4).2 = [(21, .lload_n 1, 1, []), (22, .iload 5, 2, []), (24, .invokestatic 66, 3, [2, 98, 2, 1]), (27, .ifCond .eq 22, 3, [6])] := rfl
theorem cb_X0_dataNamedBy_5 : (blk md_X0_dataNamedBy 5).2 = [(30, .lload_n 3, 1, []), (31, .lconst 1, 1, []), (32, .aload_n 0, 1, []), (33, .iload 5, 2, []), (35, .iload 6, 2, []), (37, .invokevirtual 57, 3, [0, 10, 3, 1]), (40, .lshl, 1, []), (41, .lor, 1, []), (42, .lstore_n 3, 1, []), (43, .iinc 6 1, 3, []), (46, .goto (-31), 3, [3])] := rfl
theorem cb_X0_dataNamedBy_6 : (blk md_X0_dataNamedBy 6).2 = [(49, .iinc 5 1, 3, []), (52, .goto (-47), 3, [1])] := rfl
theorem cb_X0_dataNamedBy_7 : (blk md_X0_dataNamedBy 7).2 = [(55, .lload_n 3, 1, []), (56, .ldc2_w 74, 3, [18446744073709551614]), (59, .land, 1, []), (60, .lreturn, 1, [])] := rfl
def md_X0_heldBy : List mB := [
  (false, [(0, .iload_n 1, 1, []), (1, .ifCond .ge 7, 3, [2])]),
  (false, [(4, .lconst 0, 1, []), (5, .goto 11, 3, [3])]),
  (false, [(8, .aload_n 0, 1, []), (9, .iload_n 1, 1, []), (10, .iload_n 1, 1, []), (11, .iconst 1, 1, []), (12, .iadd, 1, []), (13, .invokevirtual 76, 3, [0, 18, 3, 2])]),
  (false, [(16, .lstore_n 2, 1, []), (17, .lload_n 2, 1, []), (18, .aload_n 0, 1, []), (19, .lload_n 2, 1, []), (20, .invokevirtual 80, 3, [0, 19, 2, 2]), (23, .lor, 1, []), (24, .lreturn, 1, [])])]
theorem cb_X0_heldBy_0 : (blk md_X0_heldBy 0).2 = [(0, .iload_n 1, 1, []), (1, .ifCond .ge 7, 3, [2])] := rfl
theorem cb_X0_heldBy_1 : (blk md_X0_heldBy 1).2 = [(4, .lconst 0, 1, []), (5, .goto 11, 3, [3])] := rfl
theorem cb_X0_heldBy_2 : (blk md_X0_heldBy 2).2 = [(8, .aload_n 0, 1, []), (9, .iload_n 1, 1, []), (10, .iload_n 1, 1, []), (11, .iconst 1, 1, []), (12, .iadd, 1, []), (13, .invokevirtual 76, 3, [0, 18, 3, 2])] := rfl
theorem cb_X0_heldBy_3 : (blk md_X0_heldBy 3).2 = [(16, .lstore_n 2, 1, []), (17, .lload_n 2, 1, []), (18, .aload_n 0, 1, []), (19, .lload_n 2, 1, []), (20, .invokevirtual 80, 3, [0, 19, 2, 2]), (23, .lor, 1, []), (24, .lreturn, 1, [])] := rfl
def md_X0_countCells : List mB := [
  (false, [(0, .aload_n 0, 1, []), (1, .getfield 34, 3, [0, 7]), (4, .iconst 0, 1, []), (5, .invokestatic 37, 3, [1, 193, 2, 0]), (8, .aload_n 0, 1, []), (9, .iconst 0, 1, []), (10, .bipush 14, 2, []), (12, .invokevirtual 76, 3, [0, 18, 3, 2]), (15, .lstore_n 1, 1, []), (16, .iconst 1, 1, []), (17, .istore_n 3, 1, [])]),
  (false, [(18, .iload_n 3, 1, []), (19, .bipush 64, 2, []), (21, .if_icmp .ge 48, 3, [7])]),
  (false, [(24, .iconst 0, 1, []), (25, .istore 4, 2, [])]),
  (false, [(27, .iload 4, 2, []), (29, .iconst 4, 1, []), (30, .if_icmp .ge 33, 3, [6])]),
  (false, [(33, .lload_n 1, 1, []), (34, .iload_n 3, 1, []), (35, .invokestatic 66, 3, [2, 98, 2, 1]), (38, .ifCond .eq 25, 3, [6])]),
  (false, [(41, .aload_n 0, 1, []), (42, .getfield 34, 3, [0, 7]), (45, .aload_n 0, 1, []), (46, .iload_n 3, 1, []), (47, .iload 4, 2, []), (49, .invokevirtual 57, 3, [0, 10, 3, 1]), (52, .dup2, 1, []), (53, .iaload, 1, []), (54, .iconst 1, 1, []), (55, .iadd, 1, []), (56, .iastore, 1, []), (57, .iinc 4 1, 3, []), (60, .goto (-33), 3, [3])]),
  (false, [(63, .iinc 3 1, 3, []), (66, .goto (-48), 3, [1])]),
  (false, [(69, .aload_n 0, 1, []), (70, .getfield 34, 3, [0, 7]), (73, .iconst 0, 1, []), (74, .iconst 0, 1, []), (75, .iastore, 1, []), (76, .return_, 1, [])])]
theorem cb_X0_countCells_0 : (blk md_X0_countCells 0).2 = [(0, .aload_n 0, 1, []), (1, .getfield 34, 3, [0, 7]), (4, .iconst 0, 1, []), (5, .invokestatic 37, 3, [1, 193, 2, 0]), (8, .aload_n 0, 1, []), (9, .iconst 0, 1, []), (10, .bipush 14, 2, []), (12, .invokevirtual 76, 3, [0, 18, 3, 2]), (15, .lstore_n 1, 1, []), (16, .iconst 1, 1, []), (17, .istore_n 3, 1, [])] := rfl
theorem cb_X0_countCells_1 : (blk md_X0_countCells 1).2 = [(18, .iload_n 3, 1, []), (19, .bipush 64, 2, []), (21, .if_icmp .ge 48, 3, [7])] := rfl
theorem cb_X0_countCells_2 : (blk md_X0_countCells 2).2 = [(24, .iconst 0, 1, []), (25, .istore 4, 2, [])] := rfl
theorem cb_X0_countCells_3 : (blk md_X0_countCells 3).2 = [(27, .iload 4, 2, []), (29, .iconst 4, 1, []), (30, .if_icmp .ge 33, 3, [6])] := rfl
theorem cb_X0_countCells_4 : (blk md_X0_countCells 4).2 = [(33, .lload_n 1, 1, []), (34, .iload_n 3, 1, []), (35, .invokestatic 66, 3, [2, 98, 2, 1]), (38, .ifCond .eq 25, 3, [6])] := rfl
theorem cb_X0_countCells_5 : (blk md_X0_countCells 5).2 = [(41, .aload_n 0, 1, []), (42, .getfield 34, 3, [0, 7]), (45, .aload_n 0, 1, []), (46, .iload_n 3, 1, []), (47, .iload 4, 2, []), (49, .invokevirtual 57, 3, [0, 10, 3, 1]), (52, .dup2, 1, []), (53, .iaload, 1, []), (54, .iconst 1, 1, []), (55, .iadd, 1, []), (56, .iastore, 1, []), (57, .iinc 4 1, 3, []), (60, .goto (-33), 3, [3])] := rfl
theorem cb_X0_countCells_6 : (blk md_X0_countCells 6).2 = [(63, .iinc 3 1, 3, []), (66, .goto (-48), 3, [1])] := rfl
theorem cb_X0_countCells_7 : (blk md_X0_countCells 7).2 = [(69, .aload_n 0, 1, []), (70, .getfield 34, 3, [0, 7]), (73, .iconst 0, 1, []), (74, .iconst 0, 1, []), (75, .iastore, 1, []), (76, .return_, 1, [])] := rfl
def md_X0_countTrue : List mB := [
  (false, [(0, .aload_n 0, 1, []), (1, .invokevirtual 84, 3, [0, 21, 1, 0]), (4, .iconst 0, 1, []), (5, .istore_n 1, 1, [])]),
  (false, [(6, .iload_n 1, 1, []), (7, .bipush 14, 2, []), (9, .if_icmp .ge 37, 3, [6])]),
  (false, [(12, .iconst 0, 1, []), (13, .istore_n 2, 1, [])]),
  (false, [(14, .iload_n 2, 1, []), (15, .iconst 4, 1, []), (16, .if_icmp .ge 24, 3, [5])]),
  (false, [(19, .aload_n 0, 1, []), (20, .getfield 34, 3, [0, 7]), (23, .aload_n 0, 1, []), (24, .iload_n 1, 1, []), (25, .iload_n 2, 1, []), (26, .invokevirtual 53, 3, [0, 9, 3, 1]), (29, .dup2, 1, []), (30, .iaload, 1, []), (31, .iconst 1, 1, []), (32, .iadd, 1, []), (33, .iastore, 1, []), (34, .iinc 2 1, 3, []), (37, .goto (-23), 3, [3])]),
  (false, [(40, .iinc 1 1, 3, []), (43, .goto (-37), 3, [1])]),
  (false, [(46, .aload_n 0, 1, []), (47, .getfield 34, 3, [0, 7]), (50, .iconst 0, 1, []), (51, .iconst 0, 1, []), (52, .iastore, 1, []), (53, .return_, 1, [])])]
theorem cb_X0_countTrue_0 : (blk md_X0_countTrue 0).2 = [(0, .aload_n 0, 1, []), (1, .invokevirtual 84, 3, [0, 21, 1, 0]), (4, .iconst 0, 1, []), (5, .istore_n 1, 1, [])] := rfl
theorem cb_X0_countTrue_1 : (blk md_X0_countTrue 1).2 = [(6, .iload_n 1, 1, []), (7, .bipush 14, 2, []), (9, .if_icmp .ge 37, 3, [6])] := rfl
theorem cb_X0_countTrue_2 : (blk md_X0_countTrue 2).2 = [(12, .iconst 0, 1, []), (13, .istore_n 2, 1, [])] := rfl
theorem cb_X0_countTrue_3 : (blk md_X0_countTrue 3).2 = [(14, .iload_n 2, 1, []), (15, .iconst 4, 1, []), (16, .if_icmp .ge 24, 3, [5])] := rfl
theorem cb_X0_countTrue_4 : (blk md_X0_countTrue 4).2 = [(19, .aload_n 0, 1, []), (20, .getfield 34, 3, [0, 7]), (23, .aload_n 0, 1, []), (24, .iload_n 1, 1, []), (25, .iload_n 2, 1, []), (26, .invokevirtual 53, 3, [0, 9, 3, 1]), (29, .dup2, 1, []), (30, .iaload, 1, []), (31, .iconst 1, 1, []), (32, .iadd, 1, []), (33, .iastore, 1, []), (34, .iinc 2 1, 3, []), (37, .goto (-23), 3, [3])] := rfl
theorem cb_X0_countTrue_5 : (blk md_X0_countTrue 5).2 = [(40, .iinc 1 1, 3, []), (43, .goto (-37), 3, [1])] := rfl
theorem cb_X0_countTrue_6 : (blk md_X0_countTrue 6).2 = [(46, .aload_n 0, 1, []), (47, .getfield 34, 3, [0, 7]), (50, .iconst 0, 1, []), (51, .iconst 0, 1, []), (52, .iastore, 1, []), (53, .return_, 1, [])] := rfl
def md_X0_leakSet : List mB := [
  (false, [(0, .aload_n 0, 1, []), (1, .invokevirtual 87, 3, [0, 22, 1, 0]), (4, .lconst 0, 1, []), (5, .lstore_n 1, 1, []), (6, .iconst 1, 1, []), (7, .istore_n 3, 1, [])]),
  (false, [(8, .iload_n 3, 1, []), (9, .bipush 64, 2, []), (11, .if_icmp .ge 30, 3, [5])]),
  (false, [(14, .aload_n 0, 1, []), (15, .getfield 15, 3, [0, 1]), (18, .iload_n 3, 1, []), (19, .iaload, 1, []), (20, .aload_n 0, 1, []), (21, .getfield 34, 3, [0, 7]), (24, .iload_n 3, 1, []), (25, .iaload, 1, []), (26, .if_icmp .le 9, 3, [4])]),
  (false, [(29, .lload_n 1, 1, []), (30, .lconst 1, 1, []), (31, .iload_n 3, 1, []), (32, .lshl, 1, []), (33, .lor, 1, []), (34, .lstore_n 1, 1, [])]),
  (false, [(35, .iinc 3 1, 3, []), (38, .goto (-30), 3, [1])]),
  (false, [(41, .lload_n 1, 1, []), (42, .lreturn, 1, [])])]
theorem cb_X0_leakSet_0 : (blk md_X0_leakSet 0).2 = [(0, .aload_n 0, 1, []), (1, .invokevirtual 87, 3, [0, 22, 1, 0]), (4, .lconst 0, 1, []), (5, .lstore_n 1, 1, []), (6, .iconst 1, 1, []), (7, .istore_n 3, 1, [])] := rfl
theorem cb_X0_leakSet_1 : (blk md_X0_leakSet 1).2 = [(8, .iload_n 3, 1, []), (9, .bipush 64, 2, []), (11, .if_icmp .ge 30, 3, [5])] := rfl
theorem cb_X0_leakSet_2 : (blk md_X0_leakSet 2).2 = [(14, .aload_n 0, 1, []), (15, .getfield 15, 3, [0, 1]), (18, .iload_n 3, 1, []), (19, .iaload, 1, []), (20, .aload_n 0, 1, []), (21, .getfield 34, 3, [0, 7]), (24, .iload_n 3, 1, []), (25, .iaload, 1, []), (26, .if_icmp .le 9, 3, [4])] := rfl
theorem cb_X0_leakSet_3 : (blk md_X0_leakSet 3).2 = [(29, .lload_n 1, 1, []), (30, .lconst 1, 1, []), (31, .iload_n 3, 1, []), (32, .lshl, 1, []), (33, .lor, 1, []), (34, .lstore_n 1, 1, [])] := rfl
theorem cb_X0_leakSet_4 : (blk md_X0_leakSet 4).2 = [(35, .iinc 3 1, 3, []), (38, .goto (-30), 3, [1])] := rfl
theorem cb_X0_leakSet_5 : (blk md_X0_leakSet 5).2 = [(41, .lload_n 1, 1, []), (42, .lreturn, 1, [])] := rfl
def md_X0_lackSet : List mB := [
  (false, [(0, .aload_n 0, 1, []), (1, .invokevirtual 87, 3, [0, 22, 1, 0]), (4, .lconst 0, 1, []), (5, .lstore_n 1, 1, []), (6, .iconst 1, 1, []), (7, .istore_n 3, 1, [])]),
  (false, [(8, .iload_n 3, 1, []), (9, .bipush 64, 2, []), (11, .if_icmp .ge 30, 3, [5])]),
  (false, [(14, .aload_n 0, 1, []), (15, .getfield 15, 3, [0, 1]), (18, .iload_n 3, 1, []), (19, .iaload, 1, []), (20, .aload_n 0, 1, []), (21, .getfield 34, 3, [0, 7]), (24, .iload_n 3, 1, []), (25, .iaload, 1, []), (26, .if_icmp .ge 9, 3, [4])]),
  (false, [(29, .lload_n 1, 1, []), (30, .lconst 1, 1, []), (31, .iload_n 3, 1, []), (32, .lshl, 1, []), (33, .lor, 1, []), (34, .lstore_n 1, 1, [])]),
  (false, [(35, .iinc 3 1, 3, []), (38, .goto (-30), 3, [1])]),
  (false, [(41, .lload_n 1, 1, []), (42, .lreturn, 1, [])])]
theorem cb_X0_lackSet_0 : (blk md_X0_lackSet 0).2 = [(0, .aload_n 0, 1, []), (1, .invokevirtual 87, 3, [0, 22, 1, 0]), (4, .lconst 0, 1, []), (5, .lstore_n 1, 1, []), (6, .iconst 1, 1, []), (7, .istore_n 3, 1, [])] := rfl
theorem cb_X0_lackSet_1 : (blk md_X0_lackSet 1).2 = [(8, .iload_n 3, 1, []), (9, .bipush 64, 2, []), (11, .if_icmp .ge 30, 3, [5])] := rfl
theorem cb_X0_lackSet_2 : (blk md_X0_lackSet 2).2 = [(14, .aload_n 0, 1, []), (15, .getfield 15, 3, [0, 1]), (18, .iload_n 3, 1, []), (19, .iaload, 1, []), (20, .aload_n 0, 1, []), (21, .getfield 34, 3, [0, 7]), (24, .iload_n 3, 1, []), (25, .iaload, 1, []), (26, .if_icmp .ge 9, 3, [4])] := rfl
theorem cb_X0_lackSet_3 : (blk md_X0_lackSet 3).2 = [(29, .lload_n 1, 1, []), (30, .lconst 1, 1, []), (31, .iload_n 3, 1, []), (32, .lshl, 1, []), (33, .lor, 1, []), (34, .lstore_n 1, 1, [])] := rfl
theorem cb_X0_lackSet_4 : (blk md_X0_lackSet 4).2 = [(35, .iinc 3 1, 3, []), (38, .goto (-30), 3, [1])] := rfl
theorem cb_X0_lackSet_5 : (blk md_X0_lackSet 5).2 = [(41, .lload_n 1, 1, []), (42, .lreturn, 1, [])] := rfl
def md_X0_freeSet : List mB := [
  (false, [(0, .lconst 0, 1, []), (1, .lstore_n 1, 1, []), (2, .iconst 1, 1, []), (3, .istore_n 3, 1, [])]),
  (false, [(4, .iload_n 3, 1, []), (5, .bipush 64, 2, []), (7, .if_icmp .ge 24, 3, [5])]),
  (false, [(10, .aload_n 0, 1, []), (11, .getfield 15, 3, [0, 1]), (14, .iload_n 3, 1, []), (15, .iaload, 1, []), (16, .ifCond .ne 9, 3, [4])]),
  (false, [(19, .lload_n 1, 1, []), (20, .lconst 1, 1, []), (21, .iload_n 3, 1, []), (22, .lshl, 1, []), (23, .lor, 1, []), (24, .lstore_n 1, 1, [])]),
  (false, [(25, .iinc 3 1, 3, []), (28, .goto (-24), 3, [1])]),
  (false, [(31, .lload_n 1, 1, []), (32, .lreturn, 1, [])])]
theorem cb_X0_freeSet_0 : (blk md_X0_freeSet 0).2 = [(0, .lconst 0, 1, []), (1, .lstore_n 1, 1, []), (2, .iconst 1, 1, []), (3, .istore_n 3, 1, [])] := rfl
theorem cb_X0_freeSet_1 : (blk md_X0_freeSet 1).2 = [(4, .iload_n 3, 1, []), (5, .bipush 64, 2, []), (7, .if_icmp .ge 24, 3, [5])] := rfl
theorem cb_X0_freeSet_2 : (blk md_X0_freeSet 2).2 = [(10, .aload_n 0, 1, []), (11, .getfield 15, 3, [0, 1]), (14, .iload_n 3, 1, []), (15, .iaload, 1, []), (16, .ifCond .ne 9, 3, [4])] := rfl
theorem cb_X0_freeSet_3 : (blk md_X0_freeSet 3).2 = [(19, .lload_n 1, 1, []), (20, .lconst 1, 1, []), (21, .iload_n 3, 1, []), (22, .lshl, 1, []), (23, .lor, 1, []), (24, .lstore_n 1, 1, [])] := rfl
theorem cb_X0_freeSet_4 : (blk md_X0_freeSet 4).2 = [(25, .iinc 3 1, 3, []), (28, .goto (-24), 3, [1])] := rfl
theorem cb_X0_freeSet_5 : (blk md_X0_freeSet 5).2 = [(31, .lload_n 1, 1, []), (32, .lreturn, 1, [])] := rfl
def md_X0_sharedData : List mB := [
  (false, [(0, .aload_n 0, 1, []), (1, .invokevirtual 84, 3, [0, 21, 1, 0]), (4, .lconst 0, 1, []), (5, .lstore_n 1, 1, []), (6, .iconst 1, 1, []), (7, .istore_n 3, 1, [])]),
  (false, [(8, .iload_n 3, 1, []), (9, .bipush 64, 2, []), (11, .if_icmp .ge 25, 3, [5])]),
  (false, [(14, .aload_n 0, 1, []), (15, .getfield 34, 3, [0, 7]), (18, .iload_n 3, 1, []), (19, .iaload, 1, []), (20, .iconst 1, 1, []), (21, .if_icmp .le 9, 3, [4])]),
  (false, [(24, .lload_n 1, 1, []), (25, .lconst 1, 1, []), (26, .iload_n 3, 1, []), (27, .lshl, 1, []), (28, .lor, 1, []), (29, .lstore_n 1, 1, [])]),
  (false, [(30, .iinc 3 1, 3, []), (33, .goto (-25), 3, [1])]),
  (false, [(36, .lload_n 1, 1, []), (37, .lreturn, 1, [])])]
theorem cb_X0_sharedData_0 : (blk md_X0_sharedData 0).2 = [(0, .aload_n 0, 1, []), (1, .invokevirtual 84, 3, [0, 21, 1, 0]), (4, .lconst 0, 1, []), (5, .lstore_n 1, 1, []), (6, .iconst 1, 1, []), (7, .istore_n 3, 1, [])] := rfl
theorem cb_X0_sharedData_1 : (blk md_X0_sharedData 1).2 = [(8, .iload_n 3, 1, []), (9, .bipush 64, 2, []), (11, .if_icmp .ge 25, 3, [5])] := rfl
theorem cb_X0_sharedData_2 : (blk md_X0_sharedData 2).2 = [(14, .aload_n 0, 1, []), (15, .getfield 34, 3, [0, 7]), (18, .iload_n 3, 1, []), (19, .iaload, 1, []), (20, .iconst 1, 1, []), (21, .if_icmp .le 9, 3, [4])] := rfl
theorem cb_X0_sharedData_3 : (blk md_X0_sharedData 3).2 = [(24, .lload_n 1, 1, []), (25, .lconst 1, 1, []), (26, .iload_n 3, 1, []), (27, .lshl, 1, []), (28, .lor, 1, []), (29, .lstore_n 1, 1, [])] := rfl
theorem cb_X0_sharedData_4 : (blk md_X0_sharedData 4).2 = [(30, .iinc 3 1, 3, []), (33, .goto (-25), 3, [1])] := rfl
theorem cb_X0_sharedData_5 : (blk md_X0_sharedData 5).2 = [(36, .lload_n 1, 1, []), (37, .lreturn, 1, [])] := rfl
def md_X0_mendCounts : List mB := [
  (false, [(0, .aload_n 0, 1, []), (1, .invokevirtual 87, 3, [0, 22, 1, 0]), (4, .iconst 0, 1, []), (5, .istore_n 1, 1, []), (6, .iconst 1, 1, []), (7, .istore_n 2, 1, [])]),
  (false, [(8, .iload_n 2, 1, []), (9, .bipush 64, 2, []), (11, .if_icmp .ge 39, 3, [5])]),
  (false, [(14, .aload_n 0, 1, []), (15, .getfield 15, 3, [0, 1]), (18, .iload_n 2, 1, []), (19, .iaload, 1, []), (20, .aload_n 0, 1, []), (21, .getfield 34, 3, [0, 7]), (24, .iload_n 2, 1, []), (25, .iaload, 1, []), (26, .if_icmp .eq 18, 3, [4])]),
  (false, [(29, .aload_n 0, 1, []), (30, .getfield 15, 3, [0, 1]), (33, .iload_n 2, 1, []), (34, .aload_n 0, 1, []), (35, .getfield 34, 3, [0, 7]), (38, .iload_n 2, 1, []), (39, .iaload, 1, []), (40, .iastore, 1, []), (41, .iinc 1 1, 3, [])]),
  (false, [(44, .iinc 2 1, 3, []), (47, .goto (-39), 3, [1])]),
  (false, [(50, .iload_n 1, 1, []), (51, .ireturn, 1, [])])]
theorem cb_X0_mendCounts_0 : (blk md_X0_mendCounts 0).2 = [(0, .aload_n 0, 1, []), (1, .invokevirtual 87, 3, [0, 22, 1, 0]), (4, .iconst 0, 1, []), (5, .istore_n 1, 1, []), (6, .iconst 1, 1, []), (7, .istore_n 2, 1, [])] := rfl
theorem cb_X0_mendCounts_1 : (blk md_X0_mendCounts 1).2 = [(8, .iload_n 2, 1, []), (9, .bipush 64, 2, []), (11, .if_icmp .ge 39, 3, [5])] := rfl
theorem cb_X0_mendCounts_2 : (blk md_X0_mendCounts 2).2 = [(14, .aload_n 0, 1, []), (15, .getfield 15, 3, [0, 1]), (18, .iload_n 2, 1, []), (19, .iaload, 1, []), (20, .aload_n 0, 1, []), (21, .getfield 34, 3, [0, 7]), (24, .iload_n 2, 1, []), (25, .iaload, 1, []), (26, .if_icmp .eq 18, 3, [4])] := rfl
theorem cb_X0_mendCounts_3 : (blk md_X0_mendCounts 3).2 = [(29, .aload_n 0, 1, []), (30, .getfield 15, 3, [0, 1]), (33, .iload_n 2, 1, []), (34, .aload_n 0, 1, []), (35, .getfield 34, 3, [0, 7]), (38, .iload_n 2, 1, []), (39, .iaload, 1, []), (40, .iastore, 1, []), (41, .iinc 1 1, 3, [])] := rfl
theorem cb_X0_mendCounts_4 : (blk md_X0_mendCounts 4).2 = [(44, .iinc 2 1, 3, []), (47, .goto (-39), 3, [1])] := rfl
theorem cb_X0_mendCounts_5 : (blk md_X0_mendCounts 5).2 = [(50, .iload_n 1, 1, []), (51, .ireturn, 1, [])] := rfl
def md_X1_append : List mB := [
  (false, [(0, .aload_n 0, 1, []), (1, .getfield 18, 3, [1, 2]), (4, .bipush 120, 2, []), (6, .if_icmp .ge 23, 3, [2])]),
  (false, [(9, .aload_n 0, 1, []), (10, .getfield 9, 3, [1, 0]), (13, .aload_n 0, 1, []), (14, .getfield 18, 3, [1, 2]), (17, .iload_n 1, 1, []), (18, .iastore, 1, []), (19, .aload_n 0, 1, []), (20, .dup, 1, []), (21, .getfield 18, 3, [1, 2]), (24, .iconst 1, 1, []), (25, .iadd, 1, []), (26, .putfield 18, 3, [1, 2])]),
  (false, [(29, .return_, 1, [])])]
theorem cb_X1_append_0 : (blk md_X1_append 0).2 = [(0, .aload_n 0, 1, []), (1, .getfield 18, 3, [1, 2]), (4, .bipush 120, 2, []), (6, .if_icmp .ge 23, 3, [2])] := rfl
theorem cb_X1_append_1 : (blk md_X1_append 1).2 = [(9, .aload_n 0, 1, []), (10, .getfield 9, 3, [1, 0]), (13, .aload_n 0, 1, []), (14, .getfield 18, 3, [1, 2]), (17, .iload_n 1, 1, []), (18, .iastore, 1, []), (19, .aload_n 0, 1, []), (20, .dup, 1, []), (21, .getfield 18, 3, [1, 2]), (24, .iconst 1, 1, []), (25, .iadd, 1, []), (26, .putfield 18, 3, [1, 2])] := rfl
theorem cb_X1_append_2 : (blk md_X1_append 2).2 = [(29, .return_, 1, [])] := rfl
def md_X1_ahead : List mB := [
  (false, [(0, .aload_n 0, 1, []), (1, .getfield 22, 3, [1, 3]), (4, .ifCond .lt 35, 3, [4])]),
  (false, [(7, .aload_n 0, 1, []), (8, .getfield 22, 3, [1, 3]), (11, .aload_n 0, 1, []), (12, .getfield 18, 3, [1, 2]), (15, .if_icmp .ge 24, 3, [4])]),
  (false, [(18, .aload_n 0, 1, []), (19, .getfield 22, 3, [1, 3]), (22, .bipush 120, 2, []), (24, .if_icmp .ge 15, 3, [4])]),
  (false, [(27, .aload_n 0, 1, []), (28, .getfield 9, 3, [1, 0]), (31, .aload_n 0, 1, []), (32, .getfield 22, 3, [1, 3]), (35, .iaload, 1, []), (36, .goto 4, 3, [5])]),
  (false, [(39, .iconst (-1), 1, [])]),
  (false, [(40, .ireturn, 1, [])])]
theorem cb_X1_ahead_0 : (blk md_X1_ahead 0).2 = [(0, .aload_n 0, 1, []), (1, .getfield 22, 3, [1, 3]), (4, .ifCond .lt 35, 3, [4])] := rfl
theorem cb_X1_ahead_1 : (blk md_X1_ahead 1).2 = [(7, .aload_n 0, 1, []), (8, .getfield 22, 3, [1, 3]), (11, .aload_n 0, 1, []), (12, .getfield 18, 3, [1, 2]), (15, .if_icmp .ge 24, 3, [4])] := rfl
theorem cb_X1_ahead_2 : (blk md_X1_ahead 2).2 = [(18, .aload_n 0, 1, []), (19, .getfield 22, 3, [1, 3]), (22, .bipush 120, 2, []), (24, .if_icmp .ge 15, 3, [4])] := rfl
theorem cb_X1_ahead_3 : (blk md_X1_ahead 3).2 = [(27, .aload_n 0, 1, []), (28, .getfield 9, 3, [1, 0]), (31, .aload_n 0, 1, []), (32, .getfield 22, 3, [1, 3]), (35, .iaload, 1, []), (36, .goto 4, 3, [5])] := rfl
theorem cb_X1_ahead_4 : (blk md_X1_ahead 4).2 = [(39, .iconst (-1), 1, [])] := rfl
theorem cb_X1_ahead_5 : (blk md_X1_ahead 5).2 = [(40, .ireturn, 1, [])] := rfl
def md_X1_faultPlace : List mB := [
  (false, [(0, .aload_n 0, 1, []), (1, .iconst 0, 1, []), (2, .putfield 22, 3, [1, 3]), (5, .aload_n 0, 1, []), (6, .iconst 1, 1, []), (7, .putfield 28, 3, [1, 5])]),
  (false, [(10, .aload_n 0, 1, []), (11, .getfield 28, 3, [1, 5]), (14, .bipush 120, 2, []), (16, .if_icmp .gt 55, 3, [10])]),
  (false, [(19, .aload_n 0, 1, []), (20, .invokevirtual 31, 3, [0, 32, 1, 1]), (23, .ifCond .ne 8, 3, [4])]),
  (false, [(26, .aload_n 0, 1, []), (27, .getfield 22, 3, [1, 3]), (30, .ireturn, 1, [])]),
  (false, [(31, .aload_n 0, 1, []), (32, .invokevirtual 35, 3, [0, 31, 1, 1]), (35, .ifCond .ne 23, 3, [9])]),
  (false, [(38, .aload_n 0, 1, []), (39, .getfield 22, 3, [1, 3]), (42, .aload_n 0, 1, []), (43, .getfield 18, 3, [1, 2]), (46, .if_icmp .ge 10, 3, [7])]),
  (false, [(49, .aload_n 0, 1, []), (50, .getfield 22, 3, [1, 3]), (53, .goto 4, 3, [8])]),
  (false, [(56, .iconst (-1), 1, [])]),
  (false, [(57, .ireturn, 1, [])]),
  (false, [(58, .aload_n 0, 1, []), (59, .dup, 1, []), (60, .getfield 28, 3, [1, 5]), (63, .iconst 1, 1, []), (64, .iadd, 1, []), (65, .putfield 28, 3, [1, 5]), (68, .goto (-58), 3, [1])]),
  (false, [(71, .aload_n 0, 1, []), (72, .getfield 22, 3, [1, 3]), (75, .ireturn, 1, [])])]
theorem cb_X1_faultPlace_0 : (blk md_X1_faultPlace 0).2 = [(0, .aload_n 0, 1, []), (1, .iconst 0, 1, []), (2, .putfield 22, 3, [1, 3]), (5, .aload_n 0, 1, []), (6, .iconst 1, 1, []), (7, .putfield 28, 3, [1, 5])] := rfl
theorem cb_X1_faultPlace_1 : (blk md_X1_faultPlace 1).2 = [(10, .aload_n 0, 1, []), (11, .getfield 28, 3, [1, 5]), (14, .bipush 120, 2, []), (16, .if_icmp .gt 55, 3, [10])] := rfl
theorem cb_X1_faultPlace_2 : (blk md_X1_faultPlace 2).2 = [(19, .aload_n 0, 1, []), (20, .invokevirtual 31, 3, [0, 32, 1, 1]), (23, .ifCond .ne 8, 3, [4])] := rfl
theorem cb_X1_faultPlace_3 : (blk md_X1_faultPlace 3).2 = [(26, .aload_n 0, 1, []), (27, .getfield 22, 3, [1, 3]), (30, .ireturn, 1, [])] := rfl
theorem cb_X1_faultPlace_4 : (blk md_X1_faultPlace 4).2 = [(31, .aload_n 0, 1, []), (32, .invokevirtual 35, 3, [0, 31, 1, 1]), (35, .ifCond .ne 23, 3, [9])] := rfl
theorem cb_X1_faultPlace_5 : (blk md_X1_faultPlace 5).2 = [(38, .aload_n 0, 1, []), (39, .getfield 22, 3, [1, 3]), (42, .aload_n 0, 1, []), (43, .getfield 18, 3, [1, 2]), (46, .if_icmp .ge 10, 3, [7])] := rfl
theorem cb_X1_faultPlace_6 : (blk md_X1_faultPlace 6).2 = [(49, .aload_n 0, 1, []), (50, .getfield 22, 3, [1, 3]), (53, .goto 4, 3, [8])] := rfl
theorem cb_X1_faultPlace_7 : (blk md_X1_faultPlace 7).2 = [(56, .iconst (-1), 1, [])] := rfl
theorem cb_X1_faultPlace_8 : (blk md_X1_faultPlace 8).2 = [(57, .ireturn, 1, [])] := rfl
theorem cb_X1_faultPlace_9 : (blk md_X1_faultPlace 9).2 = [(58, .aload_n 0, 1, []), (59, .dup, 1, []), (60, .getfield 28, 3, [1, 5]), (63, .iconst 1, 1, []), (64, .iadd, 1, []), (65, .putfield 28, 3, [1, 5]), (68, .goto (-58), 3, [1])] := rfl
theorem cb_X1_faultPlace_10 : (blk md_X1_faultPlace 10).2 = [(71, .aload_n 0, 1, []), (72, .getfield 22, 3, [1, 3]), (75, .ireturn, 1, [])] := rfl
def md_X1_takeParting : List mB := [
  (false, [(0, .aload_n 0, 1, []), (1, .invokevirtual 38, 3, [0, 29, 1, 1]), (4, .bipush 59, 2, []), (6, .if_icmp .eq 5, 3, [2])]),
  (false, [(9, .iconst 0, 1, []), (10, .ireturn, 1, [1])]),
  (false, [(11, .aload_n 0, 1, []), (12, .dup, 1, []), (13, .getfield 22, 3, [1, 3]), (16, .iconst 1, 1, []), (17, .iadd, 1, []), (18, .putfield 22, 3, [1, 3]), (21, .iconst 1, 1, []), (22, .ireturn, 1, [1])])]
theorem cb_X1_takeParting_0 : (blk md_X1_takeParting 0).2 = [(0, .aload_n 0, 1, []), (1, .invokevirtual 38, 3, [0, 29, 1, 1]), (4, .bipush 59, 2, []), (6, .if_icmp .eq 5, 3, [2])] := rfl
theorem cb_X1_takeParting_1 : (blk md_X1_takeParting 1).2 = [(9, .iconst 0, 1, []), (10, .ireturn, 1, [1])] := rfl
theorem cb_X1_takeParting_2 : (blk md_X1_takeParting 2).2 = [(11, .aload_n 0, 1, []), (12, .dup, 1, []), (13, .getfield 22, 3, [1, 3]), (16, .iconst 1, 1, []), (17, .iadd, 1, []), (18, .putfield 22, 3, [1, 3]), (21, .iconst 1, 1, []), (22, .ireturn, 1, [1])] := rfl
def md_X1_takeDeed : List mB := [
  (false, [(0, .aload_n 0, 1, []), (1, .invokevirtual 38, 3, [0, 29, 1, 1]), (4, .istore_n 1, 1, []), (5, .aload_n 0, 1, []), (6, .iload_n 1, 1, []), (7, .ifCond .ge 7, 3, [2])]),
  (false, [(10, .iconst (-1), 1, []), (11, .goto 10, 3, [3])]),
  (false, [(14, .ldc 42, 2, [1]), (16, .iload_n 1, 1, []), (17, .i2c, 1, []), (18, .invokevirtual 44, 3, [4, 900, 2, 1])]),
  (false, [(21, .putfield 25, 3, [1, 4]), (24, .aload_n 0, 1, []), (25, .getfield 25, 3, [1, 4]), (28, .ifCond .lt 14, 3, [5])]),
  (false, [(31, .aload_n 0, 1, []), (32, .getfield 25, 3, [1, 4]), (35, .getstatic 50, 3, []), (38, .arraylength, 1, []), (39, .if_icmp .lt 5, 3, [6])]),
  (false, [(42, .iconst 0, 1, []), (43, .ireturn, 1, [1])]),
  (false, [(44, .aload_n 0, 1, []), (45, .dup, 1, []), (46, .getfield 22, 3, [1, 3]), (49, .iconst 1, 1, []), (50, .iadd, 1, []), (51, .putfield 22, 3, [1, 3]), (54, .aload_n 0, 1, []), (55, .getfield 15, 3, [1, 1]), (58, .iconst 0, 1, []), (59, .invokestatic 53, 3, [1, 193, 2, 0]), (62, .iconst 0, 1, []), (63, .istore_n 2, 1, [])]),
  (false, [(64, .iload_n 2, 1, []), (65, .getstatic 50, 3, []), (68, .aload_n 0, 1, []), (69, .getfield 25, 3, [1, 4]), (72, .iaload, 1, []), (73, .if_icmp .ge 24, 3, [12])]),
  (false, [(76, .iload_n 2, 1, []), (77, .iconst 3, 1, []), (78, .if_icmp .ge 19, 3, [12])]),
  (false, [(81, .aload_n 0, 1, []), (82, .iload_n 2, 1, []), (83, .invokevirtual 59, 3, [0, 33, 2, 1]), (86, .ifCond .ne 5, 3, [11])]),
  (false, [(89, .iconst 0, 1, []), (90, .ireturn, 1, [1])]),
  (false, [(91, .iinc 2 1, 3, []), (94, .goto (-30), 3, [7])]),
  (false, [(97, .iconst 1, 1, []), (98, .ireturn, 1, [1])])]
theorem cb_X1_takeDeed_0 : (blk md_X1_takeDeed 0).2 = [(0, .aload_n 0, 1, []), (1, .invokevirtual 38, 3, [0, 29, 1, 1]), (4, .istore_n 1, 1, []), (5, .aload_n 0, 1, []), (6, .iload_n 1, 1, []), (7, .ifCond .ge 7, 3, [2])] := rfl
theorem cb_X1_takeDeed_1 : (blk md_X1_takeDeed 1).2 = [(10, .iconst (-1), 1, []), (11, .goto 10, 3, [3])] := rfl
theorem cb_X1_takeDeed_2 : (blk md_X1_takeDeed 2).2 = [(14, .ldc 42, 2, [1]), (16, .iload_n 1, 1, []), (17, .i2c, 1, []), (18, .invokevirtual 44, 3, [4, 900, 2, 1])] := rfl
theorem cb_X1_takeDeed_3 : (blk md_X1_takeDeed 3).2 = [(21, .putfield 25, 3, [1, 4]), (24, .aload_n 0, 1, []), (25, .getfield 25, 3, [1, 4]), (28, .ifCond .lt 14, 3, [5])] := rfl
theorem cb_X1_takeDeed_4 : (blk md_X1_takeDeed 4).2 = [(31, .aload_n 0, 1, []), (32, .getfield 25, 3, [1, 4]), (35, .getstatic 50, 3, []), (38, .arraylength, 1, []), (39, .if_icmp .lt 5, 3, [6])] := rfl
theorem cb_X1_takeDeed_5 : (blk md_X1_takeDeed 5).2 = [(42, .iconst 0, 1, []), (43, .ireturn, 1, [1])] := rfl
theorem cb_X1_takeDeed_6 : (blk md_X1_takeDeed 6).2 = [(44, .aload_n 0, 1, []), (45, .dup, 1, []), (46, .getfield 22, 3, [1, 3]), (49, .iconst 1, 1, []), (50, .iadd, 1, []), (51, .putfield 22, 3, [1, 3]), (54, .aload_n 0, 1, []), (55, .getfield 15, 3, [1, 1]), (58, .iconst 0, 1, []), (59, .invokestatic 53, 3, [1, 193, 2, 0]), (62, .iconst 0, 1, []), (63, .istore_n 2, 1, [])] := rfl
theorem cb_X1_takeDeed_7 : (blk md_X1_takeDeed 7).2 = [(64, .iload_n 2, 1, []), (65, .getstatic 50, 3, []), (68, .aload_n 0, 1, []), (69, .getfield 25, 3, [1, 4]), (72, .iaload, 1, []), (73, .if_icmp .ge 24, 3, [12])] := rfl
theorem cb_X1_takeDeed_8 : (blk md_X1_takeDeed 8).2 = [(76, .iload_n 2, 1, []), (77, .iconst 3, 1, []), (78, .if_icmp .ge 19, 3, [12])] := rfl
theorem cb_X1_takeDeed_9 : (blk md_X1_takeDeed 9).2 = [(81, .aload_n 0, 1, []), (82, .iload_n 2, 1, []), (83, .invokevirtual 59, 3, [0, 33, 2, 1]), (86, .ifCond .ne 5, 3, [11])] := rfl
theorem cb_X1_takeDeed_10 : (blk md_X1_takeDeed 10).2 = [(89, .iconst 0, 1, []), (90, .ireturn, 1, [1])] := rfl
theorem cb_X1_takeDeed_11 : (blk md_X1_takeDeed 11).2 = [(91, .iinc 2 1, 3, []), (94, .goto (-30), 3, [7])] := rfl
theorem cb_X1_takeDeed_12 : (blk md_X1_takeDeed 12).2 = [(97, .iconst 1, 1, []), (98, .ireturn, 1, [1])] := rfl
def md_X1_takeNumber : List mB := [
  (false, [(0, .aload_n 0, 1, []), (1, .invokevirtual 38, 3, [0, 29, 1, 1]), (4, .bipush 32, 2, []), (6, .if_icmp .eq 5, 3, [2])]),
  (false, [(9, .iconst 0, 1, []), (10, .ireturn, 1, [1])]),
  (false, [(11, .aload_n 0, 1, []), (12, .dup, 1, []), (13, .getfield 22, 3, [1, 3]), (16, .iconst 1, 1, []), (17, .iadd, 1, []), (18, .putfield 22, 3, [1, 3]), (21, .iconst 0, 1, []), (22, .istore_n 2, 1, [])]),
  (false, [(23, .iload_n 2, 1, []), (24, .iconst 3, 1, []), (25, .if_icmp .ge 60, 3, [7])]),
  (false, [(28, .aload_n 0, 1, []), (29, .invokevirtual 38, 3, [0, 29, 1, 1]), (32, .bipush 48, 2, []), (34, .if_icmp .lt 51, 3, [7])]),
  (false, [(37, .aload_n 0, 1, []), (38, .invokevirtual 38, 3, [0, 29, 1, 1]), (41, .bipush 57, 2, []), (43, .if_icmp .gt 42, 3, [7])]),
  (false, [(46, .aload_n 0, 1, []), (47, .getfield 15, 3, [1, 1]), (50, .iload_n 1, 1, []), (51, .aload_n 0, 1, []), (52, .getfield 15, 3, [1, 1]), (55, .iload_n 1, 1, []), (56, .iaload, 1, []), (57, .bipush 10, 2, []), (59, .imul, 1, []), (60, .aload_n 0, 1, []), (61, .invokevirtual 38, 3, [0, 29, 1, 1]), (64, .iadd, 1, []), (65, .bipush 48, 2, []), (67, .isub, 1, []), (68, .iastore, 1, []), (69, .iinc 2 1, 3, []), (72, .aload_n 0, 1, []), (73, .dup, 1, []), (74, .getfield 22, 3, [1, 3]), (77, .iconst 1, 1, []), (78, .iadd, 1, []), (79, .putfield 22, 3, [1, 3]), (82, .goto (-59), 3, [3])]),
  (false, [(85, .iload_n 2, 1, []), (86, .ifCond .le 7, 3, [9])]),
  (false, [(89, .iconst 1, 1, []), (90, .goto 4, 3, [10])]),
  (false, [(93, .iconst 0, 1, [])]),
  (false, [(94, .ireturn, 1, [1])])]
theorem cb_X1_takeNumber_0 : (blk md_X1_takeNumber 0).2 = [(0, .aload_n 0, 1, []), (1, .invokevirtual 38, 3, [0, 29, 1, 1]), (4, .bipush 32, 2, []), (6, .if_icmp .eq 5, 3, [2])] := rfl
theorem cb_X1_takeNumber_1 : (blk md_X1_takeNumber 1).2 = [(9, .iconst 0, 1, []), (10, .ireturn, 1, [1])] := rfl
theorem cb_X1_takeNumber_2 : (blk md_X1_takeNumber 2).2 = [(11, .aload_n 0, 1, []), (12, .dup, 1, []), (13, .getfield 22, 3, [1, 3]), (16, .iconst 1, 1, []), (17, .iadd, 1, []), (18, .putfield 22, 3, [1, 3]), (21, .iconst 0, 1, []), (22, .istore_n 2, 1, [])] := rfl
theorem cb_X1_takeNumber_3 : (blk md_X1_takeNumber 3).2 = [(23, .iload_n 2, 1, []), (24, .iconst 3, 1, []), (25, .if_icmp .ge 60, 3, [7])] := rfl
theorem cb_X1_takeNumber_4 : (blk md_X1_takeNumber 4).2 = [(28, .aload_n 0, 1, []), (29, .invokevirtual 38, 3, [0, 29, 1, 1]), (32, .bipush 48, 2, []), (34, .if_icmp .lt 51, 3, [7])] := rfl
theorem cb_X1_takeNumber_5 : (blk md_X1_takeNumber 5).2 = [(37, .aload_n 0, 1, []), (38, .invokevirtual 38, 3, [0, 29, 1, 1]), (41, .bipush 57, 2, []), (43, .if_icmp .gt 42, 3, [7])] := rfl
theorem cb_X1_takeNumber_6 : (blk md_X1_takeNumber 6).2 = [(46, .aload_n 0, 1, []), (47, .getfield 15, 3, [1, 1]), (50, .iload_n 1, 1, []), (51, .aload_n 0, 1, []), (52, .getfield 15, 3, [1, 1]), (55, .iload_n 1, 1, []), (56, .iaload, 1, []), (57, .bipush 10, 2, []), (59, .imul, 1, []), (60, .aload_n 0, 1, []), (61, .invokevirtual 38, 3, [0, 29, 1, 1]), (64, .iadd, 1, []), (65, .bipush 48, 2, []), (67, .isub, 1, []), (68, .iastore, 1, []), (69, .iinc 2 1, 3, []), (72, .aload_n 0, 1, []), (73, .dup, 1, []), (74, .getfield 22, 3, [1, 3]), (77, .iconst 1, 1, []), (78, .iadd, 1, []), (79, .putfield 22, 3, [1, 3]), (82, .goto (-59), 3, [3])] := rfl
theorem cb_X1_takeNumber_7 : (blk md_X1_takeNumber 7).2 = [(85, .iload_n 2, 1, []), (86, .ifCond .le 7, 3, [9])] := rfl
theorem cb_X1_takeNumber_8 : (blk md_X1_takeNumber 8).2 = [(89, .iconst 1, 1, []), (90, .goto 4, 3, [10])] := rfl
theorem cb_X1_takeNumber_9 : (blk md_X1_takeNumber 9).2 = [(93, .iconst 0, 1, [])] := rfl
theorem cb_X1_takeNumber_10 : (blk md_X1_takeNumber 10).2 = [(94, .ireturn, 1, [1])] := rfl
def md_X2_set : List mB := [
  (false, [(0, .aload_n 0, 1, []), (1, .iload_n 1, 1, []), (2, .putfield 18, 3, [2, 1]), (5, .aload_n 0, 1, []), (6, .iload_n 2, 1, []), (7, .putfield 22, 3, [2, 2]), (10, .aload_n 0, 1, []), (11, .iload_n 3, 1, []), (12, .putfield 25, 3, [2, 3]), (15, .aload_n 0, 1, []), (16, .iload 4, 2, []), (18, .putfield 28, 3, [2, 4]), (21, .return_, 1, [])])]
theorem cb_X2_set_0 : (blk md_X2_set 0).2 = [(0, .aload_n 0, 1, []), (1, .iload_n 1, 1, []), (2, .putfield 18, 3, [2, 1]), (5, .aload_n 0, 1, []), (6, .iload_n 2, 1, []), (7, .putfield 22, 3, [2, 2]), (10, .aload_n 0, 1, []), (11, .iload_n 3, 1, []), (12, .putfield 25, 3, [2, 3]), (15, .aload_n 0, 1, []), (16, .iload 4, 2, []), (18, .putfield 28, 3, [2, 4]), (21, .return_, 1, [])] := rfl
def md_X2_start : List mB := [
  (false, [(0, .aload_n 0, 1, []), (1, .getfield 12, 3, [2, 0]), (4, .aload_n 1, 1, []), (5, .invokevirtual 44, 3, [0, 0, 2, 0]), (8, .aload_n 0, 1, []), (9, .iload_n 2, 1, []), (10, .putfield 31, 3, [2, 5]), (13, .aload_n 0, 1, []), (14, .iconst 0, 1, []), (15, .putfield 34, 3, [2, 6]), (18, .aload_n 0, 1, []), (19, .iconst 0, 1, []), (20, .putfield 37, 3, [2, 7]), (23, .return_, 1, [])])]
theorem cb_X2_start_0 : (blk md_X2_start 0).2 = [(0, .aload_n 0, 1, []), (1, .getfield 12, 3, [2, 0]), (4, .aload_n 1, 1, []), (5, .invokevirtual 44, 3, [0, 0, 2, 0]), (8, .aload_n 0, 1, []), (9, .iload_n 2, 1, []), (10, .putfield 31, 3, [2, 5]), (13, .aload_n 0, 1, []), (14, .iconst 0, 1, []), (15, .putfield 34, 3, [2, 6]), (18, .aload_n 0, 1, []), (19, .iconst 0, 1, []), (20, .putfield 37, 3, [2, 7]), (23, .return_, 1, [])] := rfl
def md_X2_step : List mB := [
  (false, [(0, .aload_n 0, 1, []), (1, .getfield 37, 3, [2, 7]), (4, .ifCond .ne 21, 3, [3])]),
  (false, [(7, .aload_n 0, 1, []), (8, .getfield 34, 3, [2, 6]), (11, .aload_n 0, 1, []), (12, .getfield 31, 3, [2, 5]), (15, .if_icmp .lt 10, 3, [3])]),
  (false, [(18, .aload_n 0, 1, []), (19, .sipush (-1005), 3, []), (22, .putfield 37, 3, [2, 7])]),
  (false, [(25, .aload_n 0, 1, []), (26, .getfield 37, 3, [2, 7]), (29, .ifCond .eq 5, 3, [5])]),
  (false, [(32, .iconst 0, 1, []), (33, .ireturn, 1, [1])]),
  (false, [(34, .aload_n 0, 1, []), (35, .dup, 1, []), (36, .getfield 34, 3, [2, 6]), (39, .iconst 1, 1, []), (40, .iadd, 1, []), (41, .putfield 34, 3, [2, 6]), (44, .iconst 1, 1, []), (45, .ireturn, 1, [1])])]
theorem cb_X2_step_0 : (blk md_X2_step 0).2 = [(0, .aload_n 0, 1, []), (1, .getfield 37, 3, [2, 7]), (4, .ifCond .ne 21, 3, [3])] := rfl
theorem cb_X2_step_1 : (blk md_X2_step 1).2 = [(7, .aload_n 0, 1, []), (8, .getfield 34, 3, [2, 6]), (11, .aload_n 0, 1, []), (12, .getfield 31, 3, [2, 5]), (15, .if_icmp .lt 10, 3, [3])] := rfl
theorem cb_X2_step_2 : (blk md_X2_step 2).2 = [(18, .aload_n 0, 1, []), (19, .sipush (-1005), 3, []), (22, .putfield 37, 3, [2, 7])] := rfl
theorem cb_X2_step_3 : (blk md_X2_step 3).2 = [(25, .aload_n 0, 1, []), (26, .getfield 37, 3, [2, 7]), (29, .ifCond .eq 5, 3, [5])] := rfl
theorem cb_X2_step_4 : (blk md_X2_step 4).2 = [(32, .iconst 0, 1, []), (33, .ireturn, 1, [1])] := rfl
theorem cb_X2_step_5 : (blk md_X2_step 5).2 = [(34, .aload_n 0, 1, []), (35, .dup, 1, []), (36, .getfield 34, 3, [2, 6]), (39, .iconst 1, 1, []), (40, .iadd, 1, []), (41, .putfield 34, 3, [2, 6]), (44, .iconst 1, 1, []), (45, .ireturn, 1, [1])] := rfl
def md_X2_addToCount : List mB := [
  (false, [(0, .iload_n 1, 1, []), (1, .ifCond .eq 23, 3, [3])]),
  (false, [(4, .aload_n 0, 1, []), (5, .invokevirtual 48, 3, [0, 36, 1, 1]), (8, .ifCond .eq 16, 3, [3])]),
  (false, [(11, .aload_n 0, 1, []), (12, .getfield 12, 3, [2, 0]), (15, .getfield 52, 3, [0, 1]), (18, .iload_n 1, 1, []), (19, .dup2, 1, []), (20, .iaload, 1, []), (21, .iload_n 2, 1, []), (22, .iadd, 1, []), (23, .iastore, 1, [])]),
  (false, [(24, .return_, 1, [])])]
theorem cb_X2_addToCount_0 : (blk md_X2_addToCount 0).2 = [(0, .iload_n 1, 1, []), (1, .ifCond .eq 23, 3, [3])] := rfl
theorem cb_X2_addToCount_1 : (blk md_X2_addToCount 1).2 = [(4, .aload_n 0, 1, []), (5, .invokevirtual 48, 3, [0, 36, 1, 1]), (8, .ifCond .eq 16, 3, [3])] := rfl
theorem cb_X2_addToCount_2 : (blk md_X2_addToCount 2).2 = [(11, .aload_n 0, 1, []), (12, .getfield 12, 3, [2, 0]), (15, .getfield 52, 3, [0, 1]), (18, .iload_n 1, 1, []), (19, .dup2, 1, []), (20, .iaload, 1, []), (21, .iload_n 2, 1, []), (22, .iadd, 1, []), (23, .iastore, 1, [])] := rfl
theorem cb_X2_addToCount_3 : (blk md_X2_addToCount 3).2 = [(24, .return_, 1, [])] := rfl
def md_X2_newCluster : List mB := [
  (false, [(0, .aload_n 0, 1, []), (1, .getfield 37, 3, [2, 7]), (4, .ifCond .eq 5, 3, [2])]),
  (false, [(7, .iconst 0, 1, []), (8, .ireturn, 1, [])]),
  (false, [(9, .iconst 1, 1, []), (10, .istore_n 1, 1, [])]),
  (false, [(11, .iload_n 1, 1, []), (12, .bipush 64, 2, []), (14, .if_icmp .ge 23, 3, [7])]),
  (false, [(17, .aload_n 0, 1, []), (18, .getfield 12, 3, [2, 0]), (21, .getfield 52, 3, [0, 1]), (24, .iload_n 1, 1, []), (25, .iaload, 1, []), (26, .ifCond .ne 5, 3, [6])]),
  (false, [(29, .iload_n 1, 1, []), (30, .ireturn, 1, [])]),
  (false, [(31, .iinc 1 1, 3, []), (34, .goto (-23), 3, [3])]),
  (false, [(37, .aload_n 0, 1, []), (38, .sipush (-1002), 3, []), (41, .putfield 37, 3, [2, 7]), (44, .iconst 0, 1, []), (45, .ireturn, 1, [])])]
theorem cb_X2_newCluster_0 : (blk md_X2_newCluster 0).2 = [(0, .aload_n 0, 1, []), (1, .getfield 37, 3, [2, 7]), (4, .ifCond .eq 5, 3, [2])] := rfl
theorem cb_X2_newCluster_1 : (blk md_X2_newCluster 1).2 = [(7, .iconst 0, 1, []), (8, .ireturn, 1, [])] := rfl
theorem cb_X2_newCluster_2 : (blk md_X2_newCluster 2).2 = [(9, .iconst 1, 1, []), (10, .istore_n 1, 1, [])] := rfl
theorem cb_X2_newCluster_3 : (blk md_X2_newCluster 3).2 = [(11, .iload_n 1, 1, []), (12, .bipush 64, 2, []), (14, .if_icmp .ge 23, 3, [7])] := rfl
theorem cb_X2_newCluster_4 : (blk md_X2_newCluster 4).2 = [(17, .aload_n 0, 1, []), (18, .getfield 12, 3, [2, 0]), (21, .getfield 52, 3, [0, 1]), (24, .iload_n 1, 1, []), (25, .iaload, 1, []), (26, .ifCond .ne 5, 3, [6])] := rfl
theorem cb_X2_newCluster_5 : (blk md_X2_newCluster 5).2 = [(29, .iload_n 1, 1, []), (30, .ireturn, 1, [])] := rfl
theorem cb_X2_newCluster_6 : (blk md_X2_newCluster 6).2 = [(31, .iinc 1 1, 3, []), (34, .goto (-23), 3, [3])] := rfl
theorem cb_X2_newCluster_7 : (blk md_X2_newCluster 7).2 = [(37, .aload_n 0, 1, []), (38, .sipush (-1002), 3, []), (41, .putfield 37, 3, [2, 7]), (44, .iconst 0, 1, []), (45, .ireturn, 1, [])] := rfl
def md_X2_go : List mB := [
  (false, [(0, .aload_n 0, 1, []), (1, .aload_n 1, 1, []), (2, .iload_n 2, 1, []), (3, .invokevirtual 55, 3, [0, 35, 3, 0]), (6, .aload_n 0, 1, []), (7, .getfield 18, 3, [2, 1]), (10, .tableswitch 150 0 7 #[46, 65, 83, 94, 105, 120, 150, 131], 46, [8, 1, 2, 3, 4, 5, 6, 8, 7])]),
  (false, [(56, .aload_n 0, 1, []), (57, .aload_n 0, 1, []), (58, .getfield 22, 3, [2, 2]), (61, .aload_n 0, 1, []), (62, .getfield 25, 3, [2, 3]), (65, .aload_n 0, 1, []), (66, .getfield 28, 3, [2, 4]), (69, .invokevirtual 59, 3, [0, 44, 4, 0]), (72, .goto 92, 3, [9])]),
  (false, [(75, .aload_n 0, 1, []), (76, .aload_n 0, 1, []), (77, .getfield 22, 3, [2, 2]), (80, .aload_n 0, 1, []), (81, .getfield 12, 3, [2, 0]), (84, .invokevirtual 63, 3, [0, 6, 1, 1]), (87, .invokevirtual 67, 3, [0, 45, 3, 0]), (90, .goto 74, 3, [9])]),
  (false, [(93, .aload_n 0, 1, []), (94, .aload_n 0, 1, []), (95, .getfield 22, 3, [2, 2]), (98, .invokevirtual 71, 3, [0, 46, 2, 0]), (101, .goto 63, 3, [9])]),
  (false, [(104, .aload_n 0, 1, []), (105, .aload_n 0, 1, []), (106, .getfield 22, 3, [2, 2]), (109, .invokevirtual 75, 3, [0, 47, 2, 0]), (112, .goto 52, 3, [9])]),
  (false, [(115, .aload_n 0, 1, []), (116, .aload_n 0, 1, []), (117, .getfield 22, 3, [2, 2]), (120, .aload_n 0, 1, []), (121, .getfield 25, 3, [2, 3]), (124, .invokevirtual 78, 3, [0, 48, 3, 0]), (127, .goto 37, 3, [9])]),
  (false, [(130, .aload_n 0, 1, []), (131, .aload_n 0, 1, []), (132, .getfield 22, 3, [2, 2]), (135, .invokevirtual 81, 3, [0, 49, 2, 0]), (138, .goto 26, 3, [9])]),
  (false, [(141, .aload_n 0, 1, []), (142, .aload_n 0, 1, []), (143, .getfield 22, 3, [2, 2]), (146, .aload_n 0, 1, []), (147, .getfield 25, 3, [2, 3]), (150, .aload_n 0, 1, []), (151, .getfield 28, 3, [2, 4]), (154, .invokevirtual 84, 3, [0, 50, 4, 0]), (157, .goto 7, 3, [9])]),
  (false, [(160, .aload_n 0, 1, []), (161, .invokevirtual 87, 3, [0, 51, 1, 0])]),
  (false, [(164, .return_, 1, [])])]
theorem cb_X2_go_0 : (blk md_X2_go 0).2 = [(0, .aload_n 0, 1, []), (1, .aload_n 1, 1, []), (2, .iload_n 2, 1, []), (3, .invokevirtual 55, 3, [0, 35, 3, 0]), (6, .aload_n 0, 1, []), (7, .getfield 18, 3, [2, 1]), (10, .tableswitch 150 0 7 #[46, 65, 83, 94, 105, 120, 150, 131], 46, [8, 1, 2, 3, 4, 5, 6, 8, 7])] := rfl
theorem cb_X2_go_1 : (blk md_X2_go 1).2 = [(56, .aload_n 0, 1, []), (57, .aload_n 0, 1, []), (58, .getfield 22, 3, [2, 2]), (61, .aload_n 0, 1, []), (62, .getfield 25, 3, [2, 3]), (65, .aload_n 0, 1, []), (66, .getfield 28, 3, [2, 4]), (69, .invokevirtual 59, 3, [0, 44, 4, 0]), (72, .goto 92, 3, [9])] := rfl
theorem cb_X2_go_2 : (blk md_X2_go 2).2 = [(75, .aload_n 0, 1, []), (76, .aload_n 0, 1, []), (77, .getfield 22, 3, [2, 2]), (80, .aload_n 0, 1, []), (81, .getfield 12, 3, [2, 0]), (84, .invokevirtual 63, 3, [0, 6, 1, 1]), (87, .invokevirtual 67, 3, [0, 45, 3, 0]), (90, .goto 74, 3, [9])] := rfl
theorem cb_X2_go_3 : (blk md_X2_go 3).2 = [(93, .aload_n 0, 1, []), (94, .aload_n 0, 1, []), (95, .getfield 22, 3, [2, 2]), (98, .invokevirtual 71, 3, [0, 46, 2, 0]), (101, .goto 63, 3, [9])] := rfl
theorem cb_X2_go_4 : (blk md_X2_go 4).2 = [(104, .aload_n 0, 1, []), (105, .aload_n 0, 1, []), (106, .getfield 22, 3, [2, 2]), (109, .invokevirtual 75, 3, [0, 47, 2, 0]), (112, .goto 52, 3, [9])] := rfl
theorem cb_X2_go_5 : (blk md_X2_go 5).2 = [(115, .aload_n 0, 1, []), (116, .aload_n 0, 1, []), (117, .getfield 22, 3, [2, 2]), (120, .aload_n 0, 1, []), (121, .getfield 25, 3, [2, 3]), (124, .invokevirtual 78, 3, [0, 48, 3, 0]), (127, .goto 37, 3, [9])] := rfl
theorem cb_X2_go_6 : (blk md_X2_go 6).2 = [(130, .aload_n 0, 1, []), (131, .aload_n 0, 1, []), (132, .getfield 22, 3, [2, 2]), (135, .invokevirtual 81, 3, [0, 49, 2, 0]), (138, .goto 26, 3, [9])] := rfl
theorem cb_X2_go_7 : (blk md_X2_go 7).2 = [(141, .aload_n 0, 1, []), (142, .aload_n 0, 1, []), (143, .getfield 22, 3, [2, 2]), (146, .aload_n 0, 1, []), (147, .getfield 25, 3, [2, 3]), (150, .aload_n 0, 1, []), (151, .getfield 28, 3, [2, 4]), (154, .invokevirtual 84, 3, [0, 50, 4, 0]), (157, .goto 7, 3, [9])] := rfl
theorem cb_X2_go_8 : (blk md_X2_go 8).2 = [(160, .aload_n 0, 1, []), (161, .invokevirtual 87, 3, [0, 51, 1, 0])] := rfl
theorem cb_X2_go_9 : (blk md_X2_go 9).2 = [(164, .return_, 1, [])] := rfl
def md_X2_ownTable : List mB := [
  (false, [(0, .aload_n 0, 1, []), (1, .getfield 12, 3, [2, 0]), (4, .iload_n 1, 1, []), (5, .iload_n 2, 1, []), (6, .invokevirtual 90, 3, [0, 9, 3, 1]), (9, .istore_n 3, 1, []), (10, .iload_n 3, 1, []), (11, .ifCond .eq 18, 3, [3])]),
  (false, [(14, .aload_n 0, 1, []), (15, .getfield 12, 3, [2, 0]), (18, .getfield 52, 3, [0, 1]), (21, .iload_n 3, 1, []), (22, .iaload, 1, []), (23, .iconst 1, 1, []), (24, .if_icmp .gt 5, 3, [3])]),
  (false, [(27, .iload_n 3, 1, []), (28, .ireturn, 1, [])]),
  (false, [(29, .aload_n 0, 1, []), (30, .invokevirtual 94, 3, [0, 38, 1, 1]), (33, .istore 4, 2, []), (35, .aload_n 0, 1, []), (36, .invokevirtual 48, 3, [0, 36, 1, 1]), (39, .ifCond .eq 14, 3, [5])]),
  (false, [(42, .aload_n 0, 1, []), (43, .getfield 12, 3, [2, 0]), (46, .getfield 52, 3, [0, 1]), (49, .iload 4, 2, []), (51, .iconst 1, 1, []), (52, .iastore, 1, [])]),
  (false, [(53, .aload_n 0, 1, []), (54, .invokevirtual 48, 3, [0, 36, 1, 1]), (57, .ifCond .eq 28, 3, [7])]),
  (false, [(60, .aload_n 0, 1, []), (61, .getfield 12, 3, [2, 0]), (64, .getfield 97, 3, [0, 0]), (67, .iload_n 3, 1, []), (68, .iconst 4, 1, []), (69, .imul, 1, []), (70, .aload_n 0, 1, []), (71, .getfield 12, 3, [2, 0]), (74, .getfield 97, 3, [0, 0]), (77, .iload 4, 2, []), (79, .iconst 4, 1, []), (80, .imul, 1, []), (81, .iconst 4, 1, []), (82, .invokestatic 100, 3, [9])]),
  (false, [(85, .iconst 0, 1, []), (86, .istore 5, 2, [])]),
  (false, [(88, .iload 5, 2, []), (90, .iconst 4, 1, []), (91, .if_icmp .ge 47, 3, [13])]),
  (false, [(94, .aload_n 0, 1, []), (95, .getfield 12, 3, [2, 0]), (98, .iload_n 3, 1, []), (99, .iload 5, 2, []), (101, .invokevirtual 106, 3, [0, 10, 3, 1]), (104, .istore 6, 2, []), (106, .iload 6, 2, []), (108, .ifCond .eq 24, 3, [12])]),
  (false, [(111, .aload_n 0, 1, []), (112, .invokevirtual 48, 3, [0, 36, 1, 1]), (115, .ifCond .eq 17, 3, [12])]),
  (false, [(118, .aload_n 0, 1, []), (119, .getfield 12, 3, [2, 0]), (122, .getfield 52, 3, [0, 1]), (125, .iload 6, 2, []), (127, .dup2, 1, []), (128, .iaload, 1, []), (129, .iconst 1, 1, []), (130, .iadd, 1, []), (131, .iastore, 1, [])]),
  (false, [(132, .iinc 5 1, 3, []), (135, .goto (-47), 3, [8])]),
  (false, [(138, .aload_n 0, 1, []), (139, .invokevirtual 48, 3, [0, 36, 1, 1]), (142, .ifCond .eq 18, 3, [15])]),
  (false, [(145, .aload_n 0, 1, []), (146, .getfield 12, 3, [2, 0]), (149, .getfield 109, 3, [0, 2]), (152, .iload_n 1, 1, []), (153, .iconst 4, 1, []), (154, .imul, 1, []), (155, .iload_n 2, 1, []), (156, .iadd, 1, []), (157, .iload 4, 2, []), (159, .iastore, 1, [])]),
  (false, [(160, .iload_n 3, 1, []), (161, .ifCond .eq 23, 3, [18])]),
  (false, [(164, .aload_n 0, 1, []), (165, .invokevirtual 48, 3, [0, 36, 1, 1]), (168, .ifCond .eq 16, 3, [18])]),
  (false, [(171, .aload_n 0, 1, []), (172, .getfield 12, 3, [2, 0]), (175, .getfield 52, 3, [0, 1]), (178, .iload_n 3, 1, []), (179, .dup2, 1, []), (180, .iaload, 1, []), (181, .iconst 1, 1, []), (182, .isub, 1, []), (183, .iastore, 1, [])]),
  (false, [(184, .iload 4, 2, []), (186, .ireturn, 1, [])])]
theorem cb_X2_ownTable_0 : (blk md_X2_ownTable 0).2 = [(0, .aload_n 0, 1, []), (1, .getfield 12, 3, [2, 0]), (4, .iload_n 1, 1, []), (5, .iload_n 2, 1, []), (6, .invokevirtual 90, 3, [0, 9, 3, 1]), (9, .istore_n 3, 1, []), (10, .iload_n 3, 1, []), (11, .ifCond .eq 18, 3, [3])] := rfl
theorem cb_X2_ownTable_1 : (blk md_X2_ownTable 1).2 = [(14, .aload_n 0, 1, []), (15, .getfield 12, 3, [2, 0]), (18, .getfield 52, 3, [0, 1]), (21, .iload_n 3, 1, []), (22, .iaload, 1, []), (23, .iconst 1, 1, []), (24, .if_icmp .gt 5, 3, [3])] := rfl
theorem cb_X2_ownTable_2 : (blk md_X2_ownTable 2).2 = [(27, .iload_n 3, 1, []), (28, .ireturn, 1, [])] := rfl
theorem cb_X2_ownTable_3 : (blk md_X2_ownTable 3).2 = [(29, .aload_n 0, 1, []), (30, .invokevirtual 94, 3, [0, 38, 1, 1]), (33, .istore 4, 2, []), (35, .aload_n 0, 1, []), (36, .invokevirtual 48, 3, [0, 36, 1, 1]), (39, .ifCond .eq 14, 3, [5])] := rfl
theorem cb_X2_ownTable_4 : (blk md_X2_ownTable 4).2 = [(42, .aload_n 0, 1, []), (43, .getfield 12, 3, [2, 0]), (46, .getfield 52, 3, [0, 1]), (49, .iload 4, 2, []), (51, .iconst 1, 1, []), (52, .iastore, 1, [])] := rfl
theorem cb_X2_ownTable_5 : (blk md_X2_ownTable 5).2 = [(53, .aload_n 0, 1, []), (54, .invokevirtual 48, 3, [0, 36, 1, 1]), (57, .ifCond .eq 28, 3, [7])] := rfl
theorem cb_X2_ownTable_6 : (blk md_X2_ownTable 6).2 = [(60, .aload_n 0, 1, []), (61, .getfield 12, 3, [2, 0]), (64, .getfield 97, 3, [0, 0]), (67, .iload_n 3, 1, []), (68, .iconst 4, 1, []), (69, .imul, 1, []), (70, .aload_n 0, 1, []), (71, .getfield 12, 3, [2, 0]), (74, .getfield 97, 3, [0, 0]), (77, .iload 4, 2, []), (79, .iconst 4, 1, []), (80, .imul, 1, []), (81, .iconst 4, 1, []), (82, .invokestatic 100, 3, [9])] := rfl
theorem cb_X2_ownTable_7 : (blk md_X2_ownTable 7).2 = [(85, .iconst 0, 1, []), (86, .istore 5, 2, [])] := rfl
theorem cb_X2_ownTable_8 : (blk md_X2_ownTable 8).2 = [(88, .iload 5, 2, []), (90, .iconst 4, 1, []), (91, .if_icmp .ge 47, 3, [13])] := rfl
theorem cb_X2_ownTable_9 : (blk md_X2_ownTable 9).2 = [(94, .aload_n 0, 1, []), (95, .getfield 12, 3, [2, 0]), (98, .iload_n 3, 1, []), (99, .iload 5, 2, []), (101, .invokevirtual 106, 3, [0, 10, 3, 1]), (104, .istore 6, 2, []), (106, .iload 6, 2, []), (108, .ifCond .eq 24, 3, [12])] := rfl
theorem cb_X2_ownTable_10 : (blk md_X2_ownTable 10).2 = [(111, .aload_n 0, 1, []), (112, .invokevirtual 48, 3, [0, 36, 1, 1]), (115, .ifCond .eq 17, 3, [12])] := rfl
theorem cb_X2_ownTable_11 : (blk md_X2_ownTable 11).2 = [(118, .aload_n 0, 1, []), (119, .getfield 12, 3, [2, 0]), (122, .getfield 52, 3, [0, 1]), (125, .iload 6, 2, []), (127, .dup2, 1, []), (128, .iaload, 1, []), (129, .iconst 1, 1, []), (130, .iadd, 1, []), (131, .iastore, 1, [])] := rfl
theorem cb_X2_ownTable_12 : (blk md_X2_ownTable 12).2 = [(132, .iinc 5 1, 3, []), (135, .goto (-47), 3, [8])] := rfl
theorem cb_X2_ownTable_13 : (blk md_X2_ownTable 13).2 = [(138, .aload_n 0, 1, []), (139, .invokevirtual 48, 3, [0, 36, 1, 1]), (142, .ifCond .eq 18, 3, [15])] := rfl
theorem cb_X2_ownTable_14 : (blk md_X2_ownTable 14).2 = [(145, .aload_n 0, 1, []), (146, .getfield 12, 3, [2, 0]), (149, .getfield 109, 3, [0, 2]), (152, .iload_n 1, 1, []), (153, .iconst 4, 1, []), (154, .imul, 1, []), (155, .iload_n 2, 1, []), (156, .iadd, 1, []), (157, .iload 4, 2, []), (159, .iastore, 1, [])] := rfl
theorem cb_X2_ownTable_15 : (blk md_X2_ownTable 15).2 = [(160, .iload_n 3, 1, []), (161, .ifCond .eq 23, 3, [18])] := rfl
theorem cb_X2_ownTable_16 : (blk md_X2_ownTable 16).2 = [(164, .aload_n 0, 1, []), (165, .invokevirtual 48, 3, [0, 36, 1, 1]), (168, .ifCond .eq 16, 3, [18])] := rfl
theorem cb_X2_ownTable_17 : (blk md_X2_ownTable 17).2 = [(171, .aload_n 0, 1, []), (172, .getfield 12, 3, [2, 0]), (175, .getfield 52, 3, [0, 1]), (178, .iload_n 3, 1, []), (179, .dup2, 1, []), (180, .iaload, 1, []), (181, .iconst 1, 1, []), (182, .isub, 1, []), (183, .iastore, 1, [])] := rfl
theorem cb_X2_ownTable_18 : (blk md_X2_ownTable 18).2 = [(184, .iload 4, 2, []), (186, .ireturn, 1, [])] := rfl
def md_X2_noteTables : List mB := [
  (false, [(0, .aload_n 0, 1, []), (1, .getfield 12, 3, [2, 0]), (4, .getfield 109, 3, [0, 2]), (7, .iload_n 1, 1, []), (8, .iconst 4, 1, []), (9, .imul, 1, []), (10, .aload_n 0, 1, []), (11, .getfield 40, 3, [2, 8]), (14, .iconst 0, 1, []), (15, .iconst 4, 1, []), (16, .invokestatic 100, 3, [9]), (19, .return_, 1, [])])]
theorem cb_X2_noteTables_0 : (blk md_X2_noteTables 0).2 = [(0, .aload_n 0, 1, []), (1, .getfield 12, 3, [2, 0]), (4, .getfield 109, 3, [0, 2]), (7, .iload_n 1, 1, []), (8, .iconst 4, 1, []), (9, .imul, 1, []), (10, .aload_n 0, 1, []), (11, .getfield 40, 3, [2, 8]), (14, .iconst 0, 1, []), (15, .iconst 4, 1, []), (16, .invokestatic 100, 3, [9]), (19, .return_, 1, [])] := rfl
def md_X2_releaseNoted : List mB := [
  (false, [(0, .iconst 0, 1, []), (1, .istore_n 1, 1, [])]),
  (false, [(2, .iload_n 1, 1, []), (3, .iconst 4, 1, []), (4, .if_icmp .ge 68, 3, [8])]),
  (false, [(7, .aload_n 0, 1, []), (8, .getfield 40, 3, [2, 8]), (11, .iload_n 1, 1, []), (12, .iaload, 1, []), (13, .istore_n 2, 1, []), (14, .iload_n 2, 1, []), (15, .invokestatic 112, 3, [2, 97, 1, 1]), (18, .ifCond .eq 48, 3, [7])]),
  (false, [(21, .aload_n 0, 1, []), (22, .iload_n 2, 1, []), (23, .iconst (-1), 1, []), (24, .invokevirtual 116, 3, [0, 37, 3, 0]), (27, .iconst 0, 1, []), (28, .istore_n 3, 1, [])]),
  (false, [(29, .iload_n 3, 1, []), (30, .iconst 4, 1, []), (31, .if_icmp .ge 35, 3, [7])]),
  (false, [(34, .aload_n 0, 1, []), (35, .getfield 12, 3, [2, 0]), (38, .getfield 52, 3, [0, 1]), (41, .iload_n 2, 1, []), (42, .iaload, 1, []), (43, .ifCond .ne 23, 3, [7])]),
  (false, [(46, .aload_n 0, 1, []), (47, .aload_n 0, 1, []), (48, .getfield 12, 3, [2, 0]), (51, .iload_n 2, 1, []), (52, .iload_n 3, 1, []), (53, .invokevirtual 106, 3, [0, 10, 3, 1]), (56, .iconst (-1), 1, []), (57, .invokevirtual 116, 3, [0, 37, 3, 0]), (60, .iinc 3 1, 3, []), (63, .goto (-34), 3, [4])]),
  (false, [(66, .iinc 1 1, 3, []), (69, .goto (-67), 3, [1])]),
  (false, [(72, .return_, 1, [])])]
theorem cb_X2_releaseNoted_0 : (blk md_X2_releaseNoted 0).2 = [(0, .iconst 0, 1, []), (1, .istore_n 1, 1, [])] := rfl
theorem cb_X2_releaseNoted_1 : (blk md_X2_releaseNoted 1).2 = [(2, .iload_n 1, 1, []), (3, .iconst 4, 1, []), (4, .if_icmp .ge 68, 3, [8])] := rfl
theorem cb_X2_releaseNoted_2 : (blk md_X2_releaseNoted 2).2 = [(7, .aload_n 0, 1, []), (8, .getfield 40, 3, [2, 8]), (11, .iload_n 1, 1, []), (12, .iaload, 1, []), (13, .istore_n 2, 1, []), (14, .iload_n 2, 1, []), (15, .invokestatic 112, 3, [2, 97, 1, 1]), (18, .ifCond .eq 48, 3, [7])] := rfl
theorem cb_X2_releaseNoted_3 : (blk md_X2_releaseNoted 3).2 = [(21, .aload_n 0, 1, []), (22, .iload_n 2, 1, []), (23, .iconst (-1), 1, []), (24, .invokevirtual 116, 3, [0, 37, 3, 0]), (27, .iconst 0, 1, []), (28, .istore_n 3, 1, [])] := rfl
theorem cb_X2_releaseNoted_4 : (blk md_X2_releaseNoted 4).2 = [(29, .iload_n 3, 1, []), (30, .iconst 4, 1, []), (31, .if_icmp .ge 35, 3, [7])] := rfl
theorem cb_X2_releaseNoted_5 : (blk md_X2_releaseNoted 5).2 = [(34, .aload_n 0, 1, []), (35, .getfield 12, 3, [2, 0]), (38, .getfield 52, 3, [0, 1]), (41, .iload_n 2, 1, []), (42, .iaload, 1, []), (43, .ifCond .ne 23, 3, [7])] := rfl
theorem cb_X2_releaseNoted_6 : (blk md_X2_releaseNoted 6).2 = [(46, .aload_n 0, 1, []), (47, .aload_n 0, 1, []), (48, .getfield 12, 3, [2, 0]), (51, .iload_n 2, 1, []), (52, .iload_n 3, 1, []), (53, .invokevirtual 106, 3, [0, 10, 3, 1]), (56, .iconst (-1), 1, []), (57, .invokevirtual 116, 3, [0, 37, 3, 0]), (60, .iinc 3 1, 3, []), (63, .goto (-34), 3, [4])] := rfl
theorem cb_X2_releaseNoted_7 : (blk md_X2_releaseNoted 7).2 = [(66, .iinc 1 1, 3, []), (69, .goto (-67), 3, [1])] := rfl
theorem cb_X2_releaseNoted_8 : (blk md_X2_releaseNoted 8).2 = [(72, .return_, 1, [])] := rfl
def md_X2_rewriteAll : List mB := [
  (false, [(0, .aload_n 0, 1, []), (1, .aload_n 1, 1, []), (2, .ldc 119, 2, [0, 1000000]), (4, .invokevirtual 55, 3, [0, 35, 3, 0]), (7, .iconst 0, 1, []), (8, .istore_n 3, 1, [])]),
  (false, [(9, .iload_n 3, 1, []), (10, .bipush 64, 2, []), (12, .if_icmp .ge 36, 3, [5])]),
  (false, [(15, .aload_n 0, 1, []), (16, .iload_n 2, 1, []), (17, .iload_n 3, 1, []), (18, .aload_n 0, 1, []), (19, .getfield 12, 3, [2, 0]), (22, .iload_n 2, 1, []), (23, .iload_n 3, 1, []), (24, .invokevirtual 120, 3, [0, 13, 3, 1]), (27, .invokevirtual 59, 3, [0, 44, 4, 0]), (30, .aload_n 0, 1, []), (31, .getfield 37, 3, [2, 7]), (34, .sipush (-1002), 3, []), (37, .if_icmp .ne 5, 3, [4])]),
  (false, [(40, .iload_n 3, 1, []), (41, .ireturn, 1, [])]),
  (false, [(42, .iinc 3 1, 3, []), (45, .goto (-36), 3, [1])]),
  (false, [(48, .bipush 64, 2, []), (50, .ireturn, 1, [])])]
theorem cb_X2_rewriteAll_0 : (blk md_X2_rewriteAll 0).2 = [(0, .aload_n 0, 1, []), (1, .aload_n 1, 1, []), (2, .ldc 119, 2, [0, 1000000]), (4, .invokevirtual 55, 3, [0, 35, 3, 0]), (7, .iconst 0, 1, []), (8, .istore_n 3, 1, [])] := rfl
theorem cb_X2_rewriteAll_1 : (blk md_X2_rewriteAll 1).2 = [(9, .iload_n 3, 1, []), (10, .bipush 64, 2, []), (12, .if_icmp .ge 36, 3, [5])] := rfl
theorem cb_X2_rewriteAll_2 : (blk md_X2_rewriteAll 2).2 = [(15, .aload_n 0, 1, []), (16, .iload_n 2, 1, []), (17, .iload_n 3, 1, []), (18, .aload_n 0, 1, []), (19, .getfield 12, 3, [2, 0]), (22, .iload_n 2, 1, []), (23, .iload_n 3, 1, []), (24, .invokevirtual 120, 3, [0, 13, 3, 1]), (27, .invokevirtual 59, 3, [0, 44, 4, 0]), (30, .aload_n 0, 1, []), (31, .getfield 37, 3, [2, 7]), (34, .sipush (-1002), 3, []), (37, .if_icmp .ne 5, 3, [4])] := rfl
theorem cb_X2_rewriteAll_3 : (blk md_X2_rewriteAll 3).2 = [(40, .iload_n 3, 1, []), (41, .ireturn, 1, [])] := rfl
theorem cb_X2_rewriteAll_4 : (blk md_X2_rewriteAll 4).2 = [(42, .iinc 3 1, 3, []), (45, .goto (-36), 3, [1])] := rfl
theorem cb_X2_rewriteAll_5 : (blk md_X2_rewriteAll 5).2 = [(48, .bipush 64, 2, []), (50, .ireturn, 1, [])] := rfl
def md_X2_writePlace : List mB := [
  (false, [(0, .iload_n 2, 1, []), (1, .iconst 4, 1, []), (2, .idiv, 1, []), (3, .istore 4, 2, []), (5, .aload_n 0, 1, []), (6, .iload_n 1, 1, []), (7, .iload 4, 2, []), (9, .iconst 4, 1, []), (10, .idiv, 1, []), (11, .invokevirtual 123, 3, [0, 40, 3, 1]), (14, .istore 5, 2, []), (16, .aload_n 0, 1, []), (17, .getfield 12, 3, [2, 0]), (20, .iload 5, 2, []), (22, .iload 4, 2, []), (24, .iconst 4, 1, []), (25, .irem, 1, []), (26, .invokevirtual 106, 3, [0, 10, 3, 1]), (29, .istore 6, 2, []), (31, .iload 6, 2, []), (33, .ifCond .eq 17, 3, [2])]),
  (false, [(36, .aload_n 0, 1, []), (37, .getfield 12, 3, [2, 0]), (40, .getfield 52, 3, [0, 1]), (43, .iload 6, 2, []), (45, .iaload, 1, []), (46, .iconst 1, 1, []), (47, .if_icmp .le 120, 3, [11])]),
  (false, [(50, .iload 6, 2, []), (52, .istore 7, 2, []), (54, .aload_n 0, 1, []), (55, .invokevirtual 94, 3, [0, 38, 1, 1]), (58, .istore 6, 2, []), (60, .aload_n 0, 1, []), (61, .invokevirtual 48, 3, [0, 36, 1, 1]), (64, .ifCond .eq 14, 3, [4])]),
  (false, [(67, .aload_n 0, 1, []), (68, .getfield 12, 3, [2, 0]), (71, .getfield 52, 3, [0, 1]), (74, .iload 6, 2, []), (76, .iconst 1, 1, []), (77, .iastore, 1, [])]),
  (false, [(78, .aload_n 0, 1, []), (79, .invokevirtual 48, 3, [0, 36, 1, 1]), (82, .istore 8, 2, []), (84, .iconst 0, 1, []), (85, .istore 9, 2, [])]),
  (false, [(87, .iload 9, 2, []), (89, .iconst 4, 1, []), (90, .if_icmp .ge 44, 3, [8])]),
  (false, [(93, .iload 8, 2, []), (95, .ifCond .eq 39, 3, [8])]),
  (false, [(98, .aload_n 0, 1, []), (99, .getfield 12, 3, [2, 0]), (102, .getfield 97, 3, [0, 0]), (105, .iload 6, 2, []), (107, .iconst 4, 1, []), (108, .imul, 1, []), (109, .iload 9, 2, []), (111, .iadd, 1, []), (112, .aload_n 0, 1, []), (113, .getfield 12, 3, [2, 0]), (116, .iload_n 1, 1, []), (117, .iload 4, 2, []), (119, .iconst 4, 1, []), (120, .imul, 1, []), (121, .iload 9, 2, []), (123, .iadd, 1, []), (124, .invokevirtual 120, 3, [0, 13, 3, 1]), (127, .iastore, 1, []), (128, .iinc 9 1, 3, []), (131, .goto (-44), 3, [5])]),
  (false, [(134, .aload_n 0, 1, []), (135, .invokevirtual 48, 3, [0, 36, 1, 1]), (138, .ifCond .eq 22, 3, [10])]),
  (false, [(141, .aload_n 0, 1, []), (142, .getfield 12, 3, [2, 0]), (145, .getfield 97, 3, [0, 0]), (148, .iload 5, 2, []), (150, .iconst 4, 1, []), (151, .imul, 1, []), (152, .iload 4, 2, []), (154, .iconst 4, 1, []), (155, .irem, 1, []), (156, .iadd, 1, []), (157, .iload 6, 2, []), (159, .iastore, 1, [])]),
  (false, [(160, .aload_n 0, 1, []), (161, .iload 7, 2, []), (163, .iconst (-1), 1, []), (164, .invokevirtual 116, 3, [0, 37, 3, 0])]),
  (false, [(167, .aload_n 0, 1, []), (168, .invokevirtual 48, 3, [0, 36, 1, 1]), (171, .ifCond .eq 20, 3, [13])]),
  (false, [(174, .aload_n 0, 1, []), (175, .getfield 12, 3, [2, 0]), (178, .getfield 97, 3, [0, 0]), (181, .iload 6, 2, []), (183, .iconst 4, 1, []), (184, .imul, 1, []), (185, .iload_n 2, 1, []), (186, .iconst 4, 1, []), (187, .irem, 1, []), (188, .iadd, 1, []), (189, .iload_n 3, 1, []), (190, .iastore, 1, [])]),
  (false, [(191, .return_, 1, [])])]
theorem cb_X2_writePlace_0 : (blk md_X2_writePlace 0).2 = [(0, .iload_n 2, 1, []), (1, .iconst 4, 1, []), (2, .idiv, 1, []), (3, .istore 4, 2, []), (5, .aload_n 0, 1, []), (6, .iload_n 1, 1, []), (7, .iload 4, 2, []), (9, .iconst 4, 1, []), (10, .idiv, 1, []), (11, .invokevirtual 123, 3, [0, 40, 3, 1]), (14, .istore 5, 2, []), (16, .aload_n 0, 1, []), (17, .getfield 12, 3, [2, 0]), (20, .iload 5, 2, []), (22, .iload 4, 2, []), (24, .iconst 4, 1, []), (25, .irem, 1, []), (26, .invokevirtual 106, 3, [0, 10, 3, 1]), (29, .istore 6, 2, []), (31, .iload 6, 2, []), (33, .ifCond .eq 17, 3, [2])] := rfl
theorem cb_X2_writePlace_1 : (blk md_X2_writePlace 1).2 = [(36, .aload_n 0, 1, []), (37, .getfield 12, 3, [2, 0]), (40, .getfield 52, 3, [0, 1]), (43, .iload 6, 2, []), (45, .iaload, 1, []), (46, .iconst 1, 1, []), (47, .if_icmp .le 120, 3, [11])] := rfl
theorem cb_X2_writePlace_2 : (blk md_X2_writePlace 2).2 = [(50, .iload 6, 2, []), (52, .istore 7, 2, []), (54, .aload_n 0, 1, []), (55, .invokevirtual 94, 3, [0, 38, 1, 1]), (58, .istore 6, 2, []), (60, .aload_n 0, 1, []), (61, .invokevirtual 48, 3, [0, 36, 1, 1]), (64, .ifCond .eq 14, 3, [4])] := rfl
theorem cb_X2_writePlace_3 : (blk md_X2_writePlace 3).2 = [(67, .aload_n 0, 1, []), (68, .getfield 12, 3, [2, 0]), (71, .getfield 52, 3, [0, 1]), (74, .iload 6, 2, []), (76, .iconst 1, 1, []), (77, .iastore, 1, [])] := rfl
theorem cb_X2_writePlace_4 : (blk md_X2_writePlace 4).2 = [(78, .aload_n 0, 1, []), (79, .invokevirtual 48, 3, [0, 36, 1, 1]), (82, .istore 8, 2, []), (84, .iconst 0, 1, []), (85, .istore 9, 2, [])] := rfl
theorem cb_X2_writePlace_5 : (blk md_X2_writePlace 5).2 = [(87, .iload 9, 2, []), (89, .iconst 4, 1, []), (90, .if_icmp .ge 44, 3, [8])] := rfl
theorem cb_X2_writePlace_6 : (blk md_X2_writePlace 6).2 = [(93, .iload 8, 2, []), (95, .ifCond .eq 39, 3, [8])] := rfl
theorem cb_X2_writePlace_7 : (blk md_X2_writePlace 7).2 = [(98, .aload_n 0, 1, []), (99, .getfield 12, 3, [2, 0]), (102, .getfield 97, 3, [0, 0]), (105, .iload 6, 2, []), (107, .iconst 4, 1, []), (108, .imul, 1, []), (109, .iload 9, 2, []), (111, .iadd, 1, []), (112, .aload_n 0, 1, []), (113, .getfield 12, 3, [2, 0]), (116, .iload_n 1, 1, []), (117, .iload 4, 2, []), (119, .iconst 4, 1, []), (120, .imul, 1, []), (121, .iload 9, 2, []), (123, .iadd, 1, []), (124, .invokevirtual 120, 3, [0, 13, 3, 1]), (127, .iastore, 1, []), (128, .iinc 9 1, 3, []), (131, .goto (-44), 3, [5])] := rfl
theorem cb_X2_writePlace_8 : (blk md_X2_writePlace 8).2 = [(134, .aload_n 0, 1, []), (135, .invokevirtual 48, 3, [0, 36, 1, 1]), (138, .ifCond .eq 22, 3, [10])] := rfl
theorem cb_X2_writePlace_9 : (blk md_X2_writePlace 9).2 = [(141, .aload_n 0, 1, []), (142, .getfield 12, 3, [2, 0]), (145, .getfield 97, 3, [0, 0]), (148, .iload 5, 2, []), (150, .iconst 4, 1, []), (151, .imul, 1, []), (152, .iload 4, 2, []), (154, .iconst 4, 1, []), (155, .irem, 1, []), (156, .iadd, 1, []), (157, .iload 6, 2, []), (159, .iastore, 1, [])] := rfl
theorem cb_X2_writePlace_10 : (blk md_X2_writePlace 10).2 = [(160, .aload_n 0, 1, []), (161, .iload 7, 2, []), (163, .iconst (-1), 1, []), (164, .invokevirtual 116, 3, [0, 37, 3, 0])] := rfl
theorem cb_X2_writePlace_11 : (blk md_X2_writePlace 11).2 = [(167, .aload_n 0, 1, []), (168, .invokevirtual 48, 3, [0, 36, 1, 1]), (171, .ifCond .eq 20, 3, [13])] := rfl
theorem cb_X2_writePlace_12 : (blk md_X2_writePlace 12).2 = [(174, .aload_n 0, 1, []), (175, .getfield 12, 3, [2, 0]), (178, .getfield 97, 3, [0, 0]), (181, .iload 6, 2, []), (183, .iconst 4, 1, []), (184, .imul, 1, []), (185, .iload_n 2, 1, []), (186, .iconst 4, 1, []), (187, .irem, 1, []), (188, .iadd, 1, []), (189, .iload_n 3, 1, []), (190, .iastore, 1, [])] := rfl
theorem cb_X2_writePlace_13 : (blk md_X2_writePlace 13).2 = [(191, .return_, 1, [])] := rfl
def md_X2_takeSnapshot : List mB := [
  (false, [(0, .iload_n 2, 1, []), (1, .ifCond .lt 9, 3, [2])]),
  (false, [(4, .iload_n 2, 1, []), (5, .bipush 8, 2, []), (7, .if_icmp .lt 4, 3, [3])]),
  (false, [(10, .return_, 1, [])]),
  (false, [(11, .iconst 0, 1, []), (12, .istore_n 3, 1, [])]),
  (false, [(13, .iload_n 3, 1, []), (14, .iconst 4, 1, []), (15, .if_icmp .ge 23, 3, [6])]),
  (false, [(18, .aload_n 0, 1, []), (19, .aload_n 0, 1, []), (20, .getfield 12, 3, [2, 0]), (23, .iload_n 1, 1, []), (24, .iload_n 3, 1, []), (25, .invokevirtual 90, 3, [0, 9, 3, 1]), (28, .iconst 1, 1, []), (29, .invokevirtual 116, 3, [0, 37, 3, 0]), (32, .iinc 3 1, 3, []), (35, .goto (-22), 3, [4])]),
  (false, [(38, .aload_n 0, 1, []), (39, .invokevirtual 48, 3, [0, 36, 1, 1]), (42, .ifCond .eq 40, 3, [8])]),
  (false, [(45, .aload_n 0, 1, []), (46, .getfield 12, 3, [2, 0]), (49, .getfield 126, 3, [0, 4]), (52, .iload_n 2, 1, []), (53, .iload_n 1, 1, []), (54, .iastore, 1, []), (55, .aload_n 0, 1, []), (56, .getfield 12, 3, [2, 0]), (59, .getfield 109, 3, [0, 2]), (62, .iload_n 1, 1, []), (63, .iconst 4, 1, []), (64, .imul, 1, []), (65, .aload_n 0, 1, []), (66, .getfield 12, 3, [2, 0]), (69, .getfield 109, 3, [0, 2]), (72, .bipush 6, 2, []), (74, .iload_n 2, 1, []), (75, .iadd, 1, []), (76, .iconst 4, 1, []), (77, .imul, 1, []), (78, .iconst 4, 1, []), (79, .invokestatic 100, 3, [9])]),
  (false, [(82, .return_, 1, [])])]
theorem cb_X2_takeSnapshot_0 : (blk md_X2_takeSnapshot 0).2 = [(0, .iload_n 2, 1, []), (1, .ifCond .lt 9, 3, [2])] := rfl
theorem cb_X2_takeSnapshot_1 : (blk md_X2_takeSnapshot 1).2 = [(4, .iload_n 2, 1, []), (5, .bipush 8, 2, []), (7, .if_icmp .lt 4, 3, [3])] := rfl
theorem cb_X2_takeSnapshot_2 : (blk md_X2_takeSnapshot 2).2 = [(10, .return_, 1, [])] := rfl
theorem cb_X2_takeSnapshot_3 : (blk md_X2_takeSnapshot 3).2 = [(11, .iconst 0, 1, []), (12, .istore_n 3, 1, [])] := rfl
theorem cb_X2_takeSnapshot_4 : (blk md_X2_takeSnapshot 4).2 = [(13, .iload_n 3, 1, []), (14, .iconst 4, 1, []), (15, .if_icmp .ge 23, 3, [6])] := rfl
theorem cb_X2_takeSnapshot_5 : (blk md_X2_takeSnapshot 5).2 = [(18, .aload_n 0, 1, []), (19, .aload_n 0, 1, []), (20, .getfield 12, 3, [2, 0]), (23, .iload_n 1, 1, []), (24, .iload_n 3, 1, []), (25, .invokevirtual 90, 3, [0, 9, 3, 1]), (28, .iconst 1, 1, []), (29, .invokevirtual 116, 3, [0, 37, 3, 0]), (32, .iinc 3 1, 3, []), (35, .goto (-22), 3, [4])] := rfl
theorem cb_X2_takeSnapshot_6 : (blk md_X2_takeSnapshot 6).2 = [(38, .aload_n 0, 1, []), (39, .invokevirtual 48, 3, [0, 36, 1, 1]), (42, .ifCond .eq 40, 3, [8])] := rfl
theorem cb_X2_takeSnapshot_7 : (blk md_X2_takeSnapshot 7).2 = [(45, .aload_n 0, 1, []), (46, .getfield 12, 3, [2, 0]), (49, .getfield 126, 3, [0, 4]), (52, .iload_n 2, 1, []), (53, .iload_n 1, 1, []), (54, .iastore, 1, []), (55, .aload_n 0, 1, []), (56, .getfield 12, 3, [2, 0]), (59, .getfield 109, 3, [0, 2]), (62, .iload_n 1, 1, []), (63, .iconst 4, 1, []), (64, .imul, 1, []), (65, .aload_n 0, 1, []), (66, .getfield 12, 3, [2, 0]), (69, .getfield 109, 3, [0, 2]), (72, .bipush 6, 2, []), (74, .iload_n 2, 1, []), (75, .iadd, 1, []), (76, .iconst 4, 1, []), (77, .imul, 1, []), (78, .iconst 4, 1, []), (79, .invokestatic 100, 3, [9])] := rfl
theorem cb_X2_takeSnapshot_8 : (blk md_X2_takeSnapshot 8).2 = [(82, .return_, 1, [])] := rfl
def md_X2_dropSnapshot : List mB := [
  (false, [(0, .bipush 6, 2, []), (2, .iload_n 1, 1, []), (3, .iadd, 1, []), (4, .istore_n 2, 1, []), (5, .aload_n 0, 1, []), (6, .iload_n 2, 1, []), (7, .invokevirtual 129, 3, [0, 41, 2, 0]), (10, .aload_n 0, 1, []), (11, .invokevirtual 48, 3, [0, 36, 1, 1]), (14, .ifCond .eq 32, 3, [2])]),
  (false, [(17, .aload_n 0, 1, []), (18, .getfield 12, 3, [2, 0]), (21, .getfield 126, 3, [0, 4]), (24, .iload_n 1, 1, []), (25, .iconst (-1), 1, []), (26, .iastore, 1, []), (27, .aload_n 0, 1, []), (28, .getfield 12, 3, [2, 0]), (31, .getfield 109, 3, [0, 2]), (34, .iload_n 2, 1, []), (35, .iconst 4, 1, []), (36, .imul, 1, []), (37, .iload_n 2, 1, []), (38, .iconst 1, 1, []), (39, .iadd, 1, []), (40, .iconst 4, 1, []), (41, .imul, 1, []), (42, .iconst 0, 1, []), (43, .invokestatic 132, 3, [1, 194, 4, 0])]),
  (false, [(46, .aload_n 0, 1, []), (47, .invokevirtual 138, 3, [0, 42, 1, 0]), (50, .return_, 1, [])])]
theorem cb_X2_dropSnapshot_0 : (blk md_X2_dropSnapshot 0).2 = [(0, .bipush 6, 2, []), (2, .iload_n 1, 1, []), (3, .iadd, 1, []), (4, .istore_n 2, 1, []), (5, .aload_n 0, 1, []), (6, .iload_n 2, 1, []), (7, .invokevirtual 129, 3, [0, 41, 2, 0]), (10, .aload_n 0, 1, []), (11, .invokevirtual 48, 3, [0, 36, 1, 1]), (14, .ifCond .eq 32, 3, [2])] := rfl
theorem cb_X2_dropSnapshot_1 : (blk md_X2_dropSnapshot 1).2 = [(17, .aload_n 0, 1, []), (18, .getfield 12, 3, [2, 0]), (21, .getfield 126, 3, [0, 4]), (24, .iload_n 1, 1, []), (25, .iconst (-1), 1, []), (26, .iastore, 1, []), (27, .aload_n 0, 1, []), (28, .getfield 12, 3, [2, 0]), (31, .getfield 109, 3, [0, 2]), (34, .iload_n 2, 1, []), (35, .iconst 4, 1, []), (36, .imul, 1, []), (37, .iload_n 2, 1, []), (38, .iconst 1, 1, []), (39, .iadd, 1, []), (40, .iconst 4, 1, []), (41, .imul, 1, []), (42, .iconst 0, 1, []), (43, .invokestatic 132, 3, [1, 194, 4, 0])] := rfl
theorem cb_X2_dropSnapshot_2 : (blk md_X2_dropSnapshot 2).2 = [(46, .aload_n 0, 1, []), (47, .invokevirtual 138, 3, [0, 42, 1, 0]), (50, .return_, 1, [])] := rfl
def md_X2_revertTo : List mB := [
  (false, [(0, .bipush 6, 2, []), (2, .iload_n 1, 1, []), (3, .iadd, 1, []), (4, .istore_n 2, 1, []), (5, .aload_n 0, 1, []), (6, .getfield 12, 3, [2, 0]), (9, .getfield 126, 3, [0, 4]), (12, .iload_n 1, 1, []), (13, .iaload, 1, []), (14, .istore_n 3, 1, []), (15, .aload_n 0, 1, []), (16, .getfield 12, 3, [2, 0]), (19, .iload_n 3, 1, []), (20, .invokevirtual 141, 3, [0, 1, 2, 1]), (23, .ifCond .ne 4, 3, [2])]),
  (false, [(26, .return_, 1, [])]),
  (false, [(27, .aload_n 0, 1, []), (28, .iload_n 3, 1, []), (29, .invokevirtual 129, 3, [0, 41, 2, 0]), (32, .iconst 0, 1, []), (33, .istore 4, 2, [])]),
  (false, [(35, .iload 4, 2, []), (37, .iconst 4, 1, []), (38, .if_icmp .ge 24, 3, [5])]),
  (false, [(41, .aload_n 0, 1, []), (42, .aload_n 0, 1, []), (43, .getfield 12, 3, [2, 0]), (46, .iload_n 2, 1, []), (47, .iload 4, 2, []), (49, .invokevirtual 90, 3, [0, 9, 3, 1]), (52, .iconst 1, 1, []), (53, .invokevirtual 116, 3, [0, 37, 3, 0]), (56, .iinc 4 1, 3, []), (59, .goto (-24), 3, [3])]),
  (false, [(62, .aload_n 0, 1, []), (63, .invokevirtual 48, 3, [0, 36, 1, 1]), (66, .ifCond .eq 27, 3, [7])]),
  (false, [(69, .aload_n 0, 1, []), (70, .getfield 12, 3, [2, 0]), (73, .getfield 109, 3, [0, 2]), (76, .iload_n 2, 1, []), (77, .iconst 4, 1, []), (78, .imul, 1, []), (79, .aload_n 0, 1, []), (80, .getfield 12, 3, [2, 0]), (83, .getfield 109, 3, [0, 2]), (86, .iload_n 3, 1, []), (87, .iconst 4, 1, []), (88, .imul, 1, []), (89, .iconst 4, 1, []), (90, .invokestatic 100, 3, [9])]),
  (false, [(93, .aload_n 0, 1, []), (94, .invokevirtual 138, 3, [0, 42, 1, 0]), (97, .return_, 1, [])])]
theorem cb_X2_revertTo_0 : (blk md_X2_revertTo 0).2 = [(0, .bipush 6, 2, []), (2, .iload_n 1, 1, []), (3, .iadd, 1, []), (4, .istore_n 2, 1, []), (5, .aload_n 0, 1, []), (6, .getfield 12, 3, [2, 0]), (9, .getfield 126, 3, [0, 4]), (12, .iload_n 1, 1, []), (13, .iaload, 1, []), (14, .istore_n 3, 1, []), (15, .aload_n 0, 1, []), (16, .getfield 12, 3, [2, 0]), (19, .iload_n 3, 1, []), (20, .invokevirtual 141, 3, [0, 1, 2, 1]), (23, .ifCond .ne 4, 3, [2])] := rfl
theorem cb_X2_revertTo_1 : (blk md_X2_revertTo 1).2 = [(26, .return_, 1, [])] := rfl
theorem cb_X2_revertTo_2 : (blk md_X2_revertTo 2).2 = [(27, .aload_n 0, 1, []), (28, .iload_n 3, 1, []), (29, .invokevirtual 129, 3, [0, 41, 2, 0]), (32, .iconst 0, 1, []), (33, .istore 4, 2, [])] := rfl
theorem cb_X2_revertTo_3 : (blk md_X2_revertTo 3).2 = [(35, .iload 4, 2, []), (37, .iconst 4, 1, []), (38, .if_icmp .ge 24, 3, [5])] := rfl
theorem cb_X2_revertTo_4 : (blk md_X2_revertTo 4).2 = [(41, .aload_n 0, 1, []), (42, .aload_n 0, 1, []), (43, .getfield 12, 3, [2, 0]), (46, .iload_n 2, 1, []), (47, .iload 4, 2, []), (49, .invokevirtual 90, 3, [0, 9, 3, 1]), (52, .iconst 1, 1, []), (53, .invokevirtual 116, 3, [0, 37, 3, 0]), (56, .iinc 4 1, 3, []), (59, .goto (-24), 3, [3])] := rfl
theorem cb_X2_revertTo_5 : (blk md_X2_revertTo 5).2 = [(62, .aload_n 0, 1, []), (63, .invokevirtual 48, 3, [0, 36, 1, 1]), (66, .ifCond .eq 27, 3, [7])] := rfl
theorem cb_X2_revertTo_6 : (blk md_X2_revertTo 6).2 = [(69, .aload_n 0, 1, []), (70, .getfield 12, 3, [2, 0]), (73, .getfield 109, 3, [0, 2]), (76, .iload_n 2, 1, []), (77, .iconst 4, 1, []), (78, .imul, 1, []), (79, .aload_n 0, 1, []), (80, .getfield 12, 3, [2, 0]), (83, .getfield 109, 3, [0, 2]), (86, .iload_n 3, 1, []), (87, .iconst 4, 1, []), (88, .imul, 1, []), (89, .iconst 4, 1, []), (90, .invokestatic 100, 3, [9])] := rfl
theorem cb_X2_revertTo_7 : (blk md_X2_revertTo 7).2 = [(93, .aload_n 0, 1, []), (94, .invokevirtual 138, 3, [0, 42, 1, 0]), (97, .return_, 1, [])] := rfl
def md_X2_giveUpBlock : List mB := [
  (false, [(0, .aload_n 0, 1, []), (1, .getfield 12, 3, [2, 0]), (4, .iload_n 1, 1, []), (5, .iload_n 2, 1, []), (6, .invokevirtual 144, 3, [0, 11, 3, 1]), (9, .istore_n 3, 1, []), (10, .iload_n 3, 1, []), (11, .ifCond .ne 4, 3, [2])]),
  (false, [(14, .return_, 1, [])]),
  (false, [(15, .aload_n 0, 1, []), (16, .iload_n 1, 1, []), (17, .iload_n 2, 1, []), (18, .iconst 4, 1, []), (19, .idiv, 1, []), (20, .invokevirtual 123, 3, [0, 40, 3, 1]), (23, .istore 4, 2, []), (25, .aload_n 0, 1, []), (26, .invokevirtual 48, 3, [0, 36, 1, 1]), (29, .ifCond .eq 20, 3, [4])]),
  (false, [(32, .aload_n 0, 1, []), (33, .getfield 12, 3, [2, 0]), (36, .getfield 97, 3, [0, 0]), (39, .iload 4, 2, []), (41, .iconst 4, 1, []), (42, .imul, 1, []), (43, .iload_n 2, 1, []), (44, .iconst 4, 1, []), (45, .irem, 1, []), (46, .iadd, 1, []), (47, .iconst 0, 1, []), (48, .iastore, 1, [])]),
  (false, [(49, .aload_n 0, 1, []), (50, .iload_n 3, 1, []), (51, .iconst (-1), 1, []), (52, .invokevirtual 116, 3, [0, 37, 3, 0]), (55, .return_, 1, [])])]
theorem cb_X2_giveUpBlock_0 : (blk md_X2_giveUpBlock 0).2 = [(0, .aload_n 0, 1, []), (1, .getfield 12, 3, [2, 0]), (4, .iload_n 1, 1, []), (5, .iload_n 2, 1, []), (6, .invokevirtual 144, 3, [0, 11, 3, 1]), (9, .istore_n 3, 1, []), (10, .iload_n 3, 1, []), (11, .ifCond .ne 4, 3, [2])] := rfl
theorem cb_X2_giveUpBlock_1 : (blk md_X2_giveUpBlock 1).2 = [(14, .return_, 1, [])] := rfl
theorem cb_X2_giveUpBlock_2 : (blk md_X2_giveUpBlock 2).2 = [(15, .aload_n 0, 1, []), (16, .iload_n 1, 1, []), (17, .iload_n 2, 1, []), (18, .iconst 4, 1, []), (19, .idiv, 1, []), (20, .invokevirtual 123, 3, [0, 40, 3, 1]), (23, .istore 4, 2, []), (25, .aload_n 0, 1, []), (26, .invokevirtual 48, 3, [0, 36, 1, 1]), (29, .ifCond .eq 20, 3, [4])] := rfl
theorem cb_X2_giveUpBlock_3 : (blk md_X2_giveUpBlock 3).2 = [(32, .aload_n 0, 1, []), (33, .getfield 12, 3, [2, 0]), (36, .getfield 97, 3, [0, 0]), (39, .iload 4, 2, []), (41, .iconst 4, 1, []), (42, .imul, 1, []), (43, .iload_n 2, 1, []), (44, .iconst 4, 1, []), (45, .irem, 1, []), (46, .iadd, 1, []), (47, .iconst 0, 1, []), (48, .iastore, 1, [])] := rfl
theorem cb_X2_giveUpBlock_4 : (blk md_X2_giveUpBlock 4).2 = [(49, .aload_n 0, 1, []), (50, .iload_n 3, 1, []), (51, .iconst (-1), 1, []), (52, .invokevirtual 116, 3, [0, 37, 3, 0]), (55, .return_, 1, [])] := rfl
def md_X2_mergeDown : List mB := [
  (false, [(0, .aload_n 0, 1, []), (1, .getfield 12, 3, [2, 0]), (4, .getfield 147, 3, [0, 3]), (7, .iload_n 1, 1, []), (8, .iaload, 1, []), (9, .istore_n 2, 1, []), (10, .aload_n 0, 1, []), (11, .getfield 12, 3, [2, 0]), (14, .iload_n 2, 1, []), (15, .invokevirtual 141, 3, [0, 1, 2, 1]), (18, .ifCond .ne 4, 3, [2])]),
  (false, [(21, .return_, 1, [])]),
  (false, [(22, .iconst 0, 1, []), (23, .istore_n 3, 1, [])]),
  (false, [(24, .iload_n 3, 1, []), (25, .bipush 64, 2, []), (27, .if_icmp .ge 38, 3, [7])]),
  (false, [(30, .aload_n 0, 1, []), (31, .getfield 12, 3, [2, 0]), (34, .iload_n 1, 1, []), (35, .iload_n 3, 1, []), (36, .iconst 4, 1, []), (37, .idiv, 1, []), (38, .invokevirtual 144, 3, [0, 11, 3, 1]), (41, .ifCond .eq 18, 3, [6])]),
  (false, [(44, .aload_n 0, 1, []), (45, .iload_n 2, 1, []), (46, .iload_n 3, 1, []), (47, .aload_n 0, 1, []), (48, .getfield 12, 3, [2, 0]), (51, .iload_n 1, 1, []), (52, .iload_n 3, 1, []), (53, .invokevirtual 120, 3, [0, 13, 3, 1]), (56, .invokevirtual 59, 3, [0, 44, 4, 0])]),
  (false, [(59, .iinc 3 1, 3, []), (62, .goto (-38), 3, [3])]),
  (false, [(65, .aload_n 0, 1, []), (66, .iload_n 1, 1, []), (67, .invokevirtual 129, 3, [0, 41, 2, 0]), (70, .aload_n 0, 1, []), (71, .invokevirtual 48, 3, [0, 36, 1, 1]), (74, .ifCond .eq 22, 3, [9])]),
  (false, [(77, .aload_n 0, 1, []), (78, .getfield 12, 3, [2, 0]), (81, .getfield 109, 3, [0, 2]), (84, .iload_n 1, 1, []), (85, .iconst 4, 1, []), (86, .imul, 1, []), (87, .iload_n 1, 1, []), (88, .iconst 1, 1, []), (89, .iadd, 1, []), (90, .iconst 4, 1, []), (91, .imul, 1, []), (92, .iconst 0, 1, []), (93, .invokestatic 132, 3, [1, 194, 4, 0])]),
  (false, [(96, .aload_n 0, 1, []), (97, .invokevirtual 138, 3, [0, 42, 1, 0]), (100, .return_, 1, [])])]
theorem cb_X2_mergeDown_0 : (blk md_X2_mergeDown 0).2 = [(0, .aload_n 0, 1, []), (1, .getfield 12, 3, [2, 0]), (4, .getfield 147, 3, [0, 3]), (7, .iload_n 1, 1, []), (8, .iaload, 1, []), (9, .istore_n 2, 1, []), (10, .aload_n 0, 1, []), (11, .getfield 12, 3, [2, 0]), (14, .iload_n 2, 1, []), (15, .invokevirtual 141, 3, [0, 1, 2, 1]), (18, .ifCond .ne 4, 3, [2])] := rfl
theorem cb_X2_mergeDown_1 : (blk md_X2_mergeDown 1).2 = [(21, .return_, 1, [])] := rfl
theorem cb_X2_mergeDown_2 : (blk md_X2_mergeDown 2).2 = [(22, .iconst 0, 1, []), (23, .istore_n 3, 1, [])] := rfl
theorem cb_X2_mergeDown_3 : (blk md_X2_mergeDown 3).2 = [(24, .iload_n 3, 1, []), (25, .bipush 64, 2, []), (27, .if_icmp .ge 38, 3, [7])] := rfl
theorem cb_X2_mergeDown_4 : (blk md_X2_mergeDown 4).2 = [(30, .aload_n 0, 1, []), (31, .getfield 12, 3, [2, 0]), (34, .iload_n 1, 1, []), (35, .iload_n 3, 1, []), (36, .iconst 4, 1, []), (37, .idiv, 1, []), (38, .invokevirtual 144, 3, [0, 11, 3, 1]), (41, .ifCond .eq 18, 3, [6])] := rfl
theorem cb_X2_mergeDown_5 : (blk md_X2_mergeDown 5).2 = [(44, .aload_n 0, 1, []), (45, .iload_n 2, 1, []), (46, .iload_n 3, 1, []), (47, .aload_n 0, 1, []), (48, .getfield 12, 3, [2, 0]), (51, .iload_n 1, 1, []), (52, .iload_n 3, 1, []), (53, .invokevirtual 120, 3, [0, 13, 3, 1]), (56, .invokevirtual 59, 3, [0, 44, 4, 0])] := rfl
theorem cb_X2_mergeDown_6 : (blk md_X2_mergeDown 6).2 = [(59, .iinc 3 1, 3, []), (62, .goto (-38), 3, [3])] := rfl
theorem cb_X2_mergeDown_7 : (blk md_X2_mergeDown 7).2 = [(65, .aload_n 0, 1, []), (66, .iload_n 1, 1, []), (67, .invokevirtual 129, 3, [0, 41, 2, 0]), (70, .aload_n 0, 1, []), (71, .invokevirtual 48, 3, [0, 36, 1, 1]), (74, .ifCond .eq 22, 3, [9])] := rfl
theorem cb_X2_mergeDown_8 : (blk md_X2_mergeDown 8).2 = [(77, .aload_n 0, 1, []), (78, .getfield 12, 3, [2, 0]), (81, .getfield 109, 3, [0, 2]), (84, .iload_n 1, 1, []), (85, .iconst 4, 1, []), (86, .imul, 1, []), (87, .iload_n 1, 1, []), (88, .iconst 1, 1, []), (89, .iadd, 1, []), (90, .iconst 4, 1, []), (91, .imul, 1, []), (92, .iconst 0, 1, []), (93, .invokestatic 132, 3, [1, 194, 4, 0])] := rfl
theorem cb_X2_mergeDown_9 : (blk md_X2_mergeDown 9).2 = [(96, .aload_n 0, 1, []), (97, .invokevirtual 138, 3, [0, 42, 1, 0]), (100, .return_, 1, [])] := rfl
def md_X2_moveOnto : List mB := [
  (false, [(0, .iconst 0, 1, []), (1, .istore 4, 2, [])]),
  (false, [(3, .iload 4, 2, []), (5, .bipush 16, 2, []), (7, .if_icmp .ge 82, 3, [9])]),
  (false, [(10, .iload_n 3, 1, []), (11, .iconst 1, 1, []), (12, .if_icmp .ne 77, 3, [9])]),
  (false, [(15, .aload_n 0, 1, []), (16, .getfield 12, 3, [2, 0]), (19, .iload_n 1, 1, []), (20, .iload 4, 2, []), (22, .invokevirtual 144, 3, [0, 11, 3, 1]), (25, .ifCond .ne 58, 3, [8])]),
  (false, [(28, .aload_n 0, 1, []), (29, .getfield 12, 3, [2, 0]), (32, .iload_n 1, 1, []), (33, .iload_n 2, 1, []), (34, .iload 4, 2, []), (36, .invokevirtual 150, 3, [0, 15, 4, 1]), (39, .ifCond .ne 44, 3, [8])]),
  (false, [(42, .iconst 0, 1, []), (43, .istore 5, 2, [])]),
  (false, [(45, .iload 5, 2, []), (47, .iconst 4, 1, []), (48, .if_icmp .ge 35, 3, [8])]),
  (false, [(51, .iload 4, 2, []), (53, .iconst 4, 1, []), (54, .imul, 1, []), (55, .iload 5, 2, []), (57, .iadd, 1, []), (58, .istore 6, 2, []), (60, .aload_n 0, 1, []), (61, .iload_n 1, 1, []), (62, .iload 6, 2, []), (64, .aload_n 0, 1, []), (65, .getfield 12, 3, [2, 0]), (68, .iload_n 1, 1, []), (69, .iload 6, 2, []), (71, .invokevirtual 120, 3, [0, 13, 3, 1]), (74, .invokevirtual 59, 3, [0, 44, 4, 0]), (77, .iinc 5 1, 3, []), (80, .goto (-35), 3, [6])]),
  (false, [(83, .iinc 4 1, 3, []), (86, .goto (-83), 3, [1])]),
  (false, [(89, .aload_n 0, 1, []), (90, .invokevirtual 48, 3, [0, 36, 1, 1]), (93, .ifCond .eq 13, 3, [11])]),
  (false, [(96, .aload_n 0, 1, []), (97, .getfield 12, 3, [2, 0]), (100, .getfield 147, 3, [0, 3]), (103, .iload_n 1, 1, []), (104, .iload_n 2, 1, []), (105, .iastore, 1, [])]),
  (false, [(106, .return_, 1, [])])]
theorem cb_X2_moveOnto_0 : (blk md_X2_moveOnto 0).2 = [(0, .iconst 0, 1, []), (1, .istore 4, 2, [])] := rfl
theorem cb_X2_moveOnto_1 : (blk md_X2_moveOnto 1).2 = [(3, .iload 4, 2, []), (5, .bipush 16, 2, []), (7, .if_icmp .ge 82, 3, [9])] := rfl
theorem cb_X2_moveOnto_2 : (blk md_X2_moveOnto 2).2 = [(10, .iload_n 3, 1, []), (11, .iconst 1, 1, []), (12, .if_icmp .ne 77, 3, [9])] := rfl
theorem cb_X2_moveOnto_3 : (blk md_X2_moveOnto 3).2 = [(15, .aload_n 0, 1, []), (16, .getfield 12, 3, [2, 0]), (19, .iload_n 1, 1, []), (20, .iload 4, 2, []), (22, .invokevirtual 144, 3, [0, 11, 3, 1]), (25, .ifCond .ne 58, 3, [8])] := rfl
theorem cb_X2_moveOnto_4 : (blk md_X2_moveOnto 4).2 = [(28, .aload_n 0, 1, []), (29, .getfield 12, 3, [2, 0]), (32, .iload_n 1, 1, []), (33, .iload_n 2, 1, []), (34, .iload 4, 2, []), (36, .invokevirtual 150, 3, [0, 15, 4, 1]), (39, .ifCond .ne 44, 3, [8])] := rfl
theorem cb_X2_moveOnto_5 : (blk md_X2_moveOnto 5).2 = [(42, .iconst 0, 1, []), (43, .istore 5, 2, [])] := rfl
theorem cb_X2_moveOnto_6 : (blk md_X2_moveOnto 6).2 = [(45, .iload 5, 2, []), (47, .iconst 4, 1, []), (48, .if_icmp .ge 35, 3, [8])] := rfl
theorem cb_X2_moveOnto_7 : (blk md_X2_moveOnto 7).2 = [(51, .iload 4, 2, []), (53, .iconst 4, 1, []), (54, .imul, 1, []), (55, .iload 5, 2, []), (57, .iadd, 1, []), (58, .istore 6, 2, []), (60, .aload_n 0, 1, []), (61, .iload_n 1, 1, []), (62, .iload 6, 2, []), (64, .aload_n 0, 1, []), (65, .getfield 12, 3, [2, 0]), (68, .iload_n 1, 1, []), (69, .iload 6, 2, []), (71, .invokevirtual 120, 3, [0, 13, 3, 1]), (74, .invokevirtual 59, 3, [0, 44, 4, 0]), (77, .iinc 5 1, 3, []), (80, .goto (-35), 3, [6])] := rfl
theorem cb_X2_moveOnto_8 : (blk md_X2_moveOnto 8).2 = [(83, .iinc 4 1, 3, []), (86, .goto (-83), 3, [1])] := rfl
theorem cb_X2_moveOnto_9 : (blk md_X2_moveOnto 9).2 = [(89, .aload_n 0, 1, []), (90, .invokevirtual 48, 3, [0, 36, 1, 1]), (93, .ifCond .eq 13, 3, [11])] := rfl
theorem cb_X2_moveOnto_10 : (blk md_X2_moveOnto 10).2 = [(96, .aload_n 0, 1, []), (97, .getfield 12, 3, [2, 0]), (100, .getfield 147, 3, [0, 3]), (103, .iload_n 1, 1, []), (104, .iload_n 2, 1, []), (105, .iastore, 1, [])] := rfl
theorem cb_X2_moveOnto_11 : (blk md_X2_moveOnto 11).2 = [(106, .return_, 1, [])] := rfl
def md_X2_foldAlike : List mB := [
  (false, [(0, .aload_n 0, 1, []), (1, .getfield 12, 3, [2, 0]), (4, .iconst 0, 1, []), (5, .bipush 14, 2, []), (7, .invokevirtual 154, 3, [0, 18, 3, 2]), (10, .lstore_n 1, 1, []), (11, .aload_n 0, 1, []), (12, .getfield 12, 3, [2, 0]), (15, .lload_n 1, 1, []), (16, .invokevirtual 158, 3, [0, 19, 2, 2]), (19, .lstore_n 3, 1, []), (20, .iconst 1, 1, []), (21, .istore 5, 2, [])]),
  (false, [(23, .iload 5, 2, []), (25, .bipush 64, 2, []), (27, .if_icmp .ge 103, 3, [11])]),
  (false, [(30, .iconst 0, 1, []), (31, .istore 6, 2, [])]),
  (false, [(33, .iload 6, 2, []), (35, .iconst 4, 1, []), (36, .if_icmp .ge 88, 3, [10])]),
  (false, [(39, .lload_n 1, 1, []), (40, .iload 5, 2, []), (42, .invokestatic 162, 3, [2, 98, 2, 1]), (45, .ifCond .eq 79, 3, [10])]),
  (false, [(48, .aload_n 0, 1, []), (49, .getfield 12, 3, [2, 0]), (52, .iload 5, 2, []), (54, .iload 6, 2, []), (56, .invokevirtual 106, 3, [0, 10, 3, 1]), (59, .istore 7, 2, []), (61, .aload_n 0, 1, []), (62, .getfield 12, 3, [2, 0]), (65, .lload_n 3, 1, []), (66, .iload 7, 2, []), (68, .invokevirtual 166, 3, [0, 17, 3, 1]), (71, .istore 8, 2, []), (73, .iload 8, 2, []), (75, .iload 7, 2, []), (77, .if_icmp .ge 41, 3, [9])]),
  (false, [(80, .aload_n 0, 1, []), (81, .iload 8, 2, []), (83, .iconst 1, 1, []), (84, .invokevirtual 116, 3, [0, 37, 3, 0]), (87, .aload_n 0, 1, []), (88, .invokevirtual 48, 3, [0, 36, 1, 1]), (91, .ifCond .eq 20, 3, [8])]),
  (false, [(94, .aload_n 0, 1, []), (95, .getfield 12, 3, [2, 0]), (98, .getfield 97, 3, [0, 0]), (101, .iload 5, 2, []), (103, .iconst 4, 1, []), (104, .imul, 1, []), (105, .iload 6, 2, []), (107, .iadd, 1, []), (108, .iload 8, 2, []), (110, .iastore, 1, [])]),
  (false, [(111, .aload_n 0, 1, []), (112, .iload 7, 2, []), (114, .iconst (-1), 1, []), (115, .invokevirtual 116, 3, [0, 37, 3, 0])]),
  (false, [(118, .iinc 6 1, 3, []), (121, .goto (-88), 3, [3])]),
  (false, [(124, .iinc 5 1, 3, []), (127, .goto (-104), 3, [1])]),
  (false, [(130, .return_, 1, [])])]
theorem cb_X2_foldAlike_0 : (blk md_X2_foldAlike 0).2 = [(0, .aload_n 0, 1, []), (1, .getfield 12, 3, [2, 0]), (4, .iconst 0, 1, []), (5, .bipush 14, 2, []), (7, .invokevirtual 154, 3, [0, 18, 3, 2]), (10, .lstore_n 1, 1, []), (11, .aload_n 0, 1, []), (12, .getfield 12, 3, [2, 0]), (15, .lload_n 1, 1, []), (16, .invokevirtual 158, 3, [0, 19, 2, 2]), (19, .lstore_n 3, 1, []), (20, .iconst 1, 1, []), (21, .istore 5, 2, [])] := rfl
theorem cb_X2_foldAlike_1 : (blk md_X2_foldAlike 1).2 = [(23, .iload 5, 2, []), (25, .bipush 64, 2, []), (27, .if_icmp .ge 103, 3, [11])] := rfl
theorem cb_X2_foldAlike_2 : (blk md_X2_foldAlike 2).2 = [(30, .iconst 0, 1, []), (31, .istore 6, 2, [])] := rfl
theorem cb_X2_foldAlike_3 : (blk md_X2_foldAlike 3).2 = [(33, .iload 6, 2, []), (35, .iconst 4, 1, []), (36, .if_icmp .ge 88, 3, [10])] := rfl
theorem cb_X2_foldAlike_4 : (blk md_X2_foldAlike 4).2 = [(39, .lload_n 1, 1, []), (40, .iload 5, 2, []), (42, .invokestatic 162, 3, [2, 98, 2, 1]), (45, .ifCond .eq 79, 3, [10])] := rfl
theorem cb_X2_foldAlike_5 : (blk md_X2_foldAlike 5).2 = [(48, .aload_n 0, 1, []), (49, .getfield 12, 3, [2, 0]), (52, .iload 5, 2, []), (54, .iload 6, 2, []), (56, .invokevirtual 106, 3, [0, 10, 3, 1]), (59, .istore 7, 2, []), (61, .aload_n 0, 1, []), (62, .getfield 12, 3, [2, 0]), (65, .lload_n 3, 1, []), (66, .iload 7, 2, []), (68, .invokevirtual 166, 3, [0, 17, 3, 1]), (71, .istore 8, 2, []), (73, .iload 8, 2, []), (75, .iload 7, 2, []), (77, .if_icmp .ge 41, 3, [9])] := rfl
theorem cb_X2_foldAlike_6 : (blk md_X2_foldAlike 6).2 = [(80, .aload_n 0, 1, []), (81, .iload 8, 2, []), (83, .iconst 1, 1, []), (84, .invokevirtual 116, 3, [0, 37, 3, 0]), (87, .aload_n 0, 1, []), (88, .invokevirtual 48, 3, [0, 36, 1, 1]), (91, .ifCond .eq 20, 3, [8])] := rfl
theorem cb_X2_foldAlike_7 : (blk md_X2_foldAlike 7).2 = [(94, .aload_n 0, 1, []), (95, .getfield 12, 3, [2, 0]), (98, .getfield 97, 3, [0, 0]), (101, .iload 5, 2, []), (103, .iconst 4, 1, []), (104, .imul, 1, []), (105, .iload 6, 2, []), (107, .iadd, 1, []), (108, .iload 8, 2, []), (110, .iastore, 1, [])] := rfl
theorem cb_X2_foldAlike_8 : (blk md_X2_foldAlike 8).2 = [(111, .aload_n 0, 1, []), (112, .iload 7, 2, []), (114, .iconst (-1), 1, []), (115, .invokevirtual 116, 3, [0, 37, 3, 0])] := rfl
theorem cb_X2_foldAlike_9 : (blk md_X2_foldAlike 9).2 = [(118, .iinc 6 1, 3, []), (121, .goto (-88), 3, [3])] := rfl
theorem cb_X2_foldAlike_10 : (blk md_X2_foldAlike 10).2 = [(124, .iinc 5 1, 3, []), (127, .goto (-104), 3, [1])] := rfl
theorem cb_X2_foldAlike_11 : (blk md_X2_foldAlike 11).2 = [(130, .return_, 1, [])] := rfl
def md_X3_layer : List mB := [
  (false, [(0, .aload_n 0, 1, []), (1, .getfield 12, 3, [3, 0]), (4, .iload_n 1, 1, []), (5, .invokevirtual 45, 3, [0, 2, 2, 1]), (8, .ifCond .ne 11, 3, [2])]),
  (false, [(11, .aload_n 0, 1, []), (12, .sipush (-1001), 3, []), (15, .invokevirtual 49, 3, [0, 88, 2, 1]), (18, .ireturn, 1, [])]),
  (false, [(19, .aload_n 0, 1, []), (20, .getfield 12, 3, [3, 0]), (23, .getfield 53, 3, [0, 5]), (26, .bipush 6, 2, []), (28, .if_icmp .lt 11, 3, [4])]),
  (false, [(31, .aload_n 0, 1, []), (32, .sipush (-1002), 3, []), (35, .invokevirtual 49, 3, [0, 88, 2, 1]), (38, .ireturn, 1, [])]),
  (false, [(39, .aload_n 0, 1, []), (40, .getfield 12, 3, [3, 0]), (43, .iload_n 1, 1, []), (44, .invokevirtual 56, 3, [0, 4, 2, 1]), (47, .ireturn, 1, [])])]
theorem cb_X3_layer_0 : (blk md_X3_layer 0).2 = [(0, .aload_n 0, 1, []), (1, .getfield 12, 3, [3, 0]), (4, .iload_n 1, 1, []), (5, .invokevirtual 45, 3, [0, 2, 2, 1]), (8, .ifCond .ne 11, 3, [2])] := rfl
theorem cb_X3_layer_1 : (blk md_X3_layer 1).2 = [(11, .aload_n 0, 1, []), (12, .sipush (-1001), 3, []), (15, .invokevirtual 49, 3, [0, 88, 2, 1]), (18, .ireturn, 1, [])] := rfl
theorem cb_X3_layer_2 : (blk md_X3_layer 2).2 = [(19, .aload_n 0, 1, []), (20, .getfield 12, 3, [3, 0]), (23, .getfield 53, 3, [0, 5]), (26, .bipush 6, 2, []), (28, .if_icmp .lt 11, 3, [4])] := rfl
theorem cb_X3_layer_3 : (blk md_X3_layer 3).2 = [(31, .aload_n 0, 1, []), (32, .sipush (-1002), 3, []), (35, .invokevirtual 49, 3, [0, 88, 2, 1]), (38, .ireturn, 1, [])] := rfl
theorem cb_X3_layer_4 : (blk md_X3_layer 4).2 = [(39, .aload_n 0, 1, []), (40, .getfield 12, 3, [3, 0]), (43, .iload_n 1, 1, []), (44, .invokevirtual 56, 3, [0, 4, 2, 1]), (47, .ireturn, 1, [])] := rfl
def md_X3_of : List mB := [
  (false, [(0, .aload_n 0, 1, []), (1, .getfield 12, 3, [3, 0]), (4, .iload_n 1, 1, []), (5, .invokevirtual 59, 3, [0, 1, 2, 1]), (8, .ifCond .ne 11, 3, [2])]),
  (false, [(11, .aload_n 0, 1, []), (12, .sipush (-1001), 3, []), (15, .invokevirtual 49, 3, [0, 88, 2, 1]), (18, .ireturn, 1, [])]),
  (false, [(19, .iload_n 2, 1, []), (20, .tableswitch 66 0 3 #[32, 42, 51, 57], 32, [7, 3, 4, 5, 6])]),
  (false, [(52, .aload_n 0, 1, []), (53, .getfield 12, 3, [3, 0]), (56, .getfield 62, 3, [0, 3]), (59, .iload_n 1, 1, []), (60, .iaload, 1, []), (61, .ireturn, 1, [])]),
  (false, [(62, .aload_n 0, 1, []), (63, .getfield 12, 3, [3, 0]), (66, .iload_n 1, 1, []), (67, .invokevirtual 65, 3, [0, 12, 2, 1]), (70, .ireturn, 1, [])]),
  (false, [(71, .aload_n 0, 1, []), (72, .iload_n 1, 1, []), (73, .invokevirtual 68, 3, [0, 93, 2, 1]), (76, .ireturn, 1, [])]),
  (false, [(77, .aload_n 0, 1, []), (78, .getfield 12, 3, [3, 0]), (81, .iload_n 1, 1, []), (82, .invokevirtual 71, 3, [0, 7, 2, 1]), (85, .ireturn, 1, [])]),
  (false, [(86, .aload_n 0, 1, []), (87, .sipush (-1001), 3, []), (90, .invokevirtual 49, 3, [0, 88, 2, 1]), (93, .ireturn, 1, [])])]
theorem cb_X3_of_0 : (blk md_X3_of 0).2 = [(0, .aload_n 0, 1, []), (1, .getfield 12, 3, [3, 0]), (4, .iload_n 1, 1, []), (5, .invokevirtual 59, 3, [0, 1, 2, 1]), (8, .ifCond .ne 11, 3, [2])] := rfl
theorem cb_X3_of_1 : (blk md_X3_of 1).2 = [(11, .aload_n 0, 1, []), (12, .sipush (-1001), 3, []), (15, .invokevirtual 49, 3, [0, 88, 2, 1]), (18, .ireturn, 1, [])] := rfl
theorem cb_X3_of_2 : (blk md_X3_of 2).2 = [(19, .iload_n 2, 1, []), (20, .tableswitch 66 0 3 #[32, 42, 51, 57], 32, [7, 3, 4, 5, 6])] := rfl
theorem cb_X3_of_3 : (blk md_X3_of 3).2 = [(52, .aload_n 0, 1, []), (53, .getfield 12, 3, [3, 0]), (56, .getfield 62, 3, [0, 3]), (59, .iload_n 1, 1, []), (60, .iaload, 1, []), (61, .ireturn, 1, [])] := rfl
theorem cb_X3_of_4 : (blk md_X3_of 4).2 = [(62, .aload_n 0, 1, []), (63, .getfield 12, 3, [3, 0]), (66, .iload_n 1, 1, []), (67, .invokevirtual 65, 3, [0, 12, 2, 1]), (70, .ireturn, 1, [])] := rfl
theorem cb_X3_of_5 : (blk md_X3_of 5).2 = [(71, .aload_n 0, 1, []), (72, .iload_n 1, 1, []), (73, .invokevirtual 68, 3, [0, 93, 2, 1]), (76, .ireturn, 1, [])] := rfl
theorem cb_X3_of_6 : (blk md_X3_of 6).2 = [(77, .aload_n 0, 1, []), (78, .getfield 12, 3, [3, 0]), (81, .iload_n 1, 1, []), (82, .invokevirtual 71, 3, [0, 7, 2, 1]), (85, .ireturn, 1, [])] := rfl
theorem cb_X3_of_7 : (blk md_X3_of 7).2 = [(86, .aload_n 0, 1, []), (87, .sipush (-1001), 3, []), (90, .invokevirtual 49, 3, [0, 88, 2, 1]), (93, .ireturn, 1, [])] := rfl
def md_X3_read : List mB := [
  (false, [(0, .aload_n 0, 1, []), (1, .getfield 12, 3, [3, 0]), (4, .iload_n 1, 1, []), (5, .invokevirtual 59, 3, [0, 1, 2, 1]), (8, .ifCond .eq 10, 3, [2])]),
  (false, [(11, .iload_n 2, 1, []), (12, .invokestatic 74, 3, [1, 96, 1, 1]), (15, .ifCond .ne 11, 3, [3])]),
  (false, [(18, .aload_n 0, 1, []), (19, .sipush (-1001), 3, []), (22, .invokevirtual 49, 3, [0, 88, 2, 1]), (25, .ireturn, 1, [])]),
  (false, [(26, .aload_n 0, 1, []), (27, .getfield 12, 3, [3, 0]), (30, .iload_n 1, 1, []), (31, .iload_n 2, 1, []), (32, .invokevirtual 77, 3, [0, 13, 3, 1]), (35, .ireturn, 1, [])])]
theorem cb_X3_read_0 : (blk md_X3_read 0).2 = [(0, .aload_n 0, 1, []), (1, .getfield 12, 3, [3, 0]), (4, .iload_n 1, 1, []), (5, .invokevirtual 59, 3, [0, 1, 2, 1]), (8, .ifCond .eq 10, 3, [2])] := rfl
theorem cb_X3_read_1 : (blk md_X3_read 1).2 = [(11, .iload_n 2, 1, []), (12, .invokestatic 74, 3, [1, 96, 1, 1]), (15, .ifCond .ne 11, 3, [3])] := rfl
theorem cb_X3_read_2 : (blk md_X3_read 2).2 = [(18, .aload_n 0, 1, []), (19, .sipush (-1001), 3, []), (22, .invokevirtual 49, 3, [0, 88, 2, 1]), (25, .ireturn, 1, [])] := rfl
theorem cb_X3_read_3 : (blk md_X3_read 3).2 = [(26, .aload_n 0, 1, []), (27, .getfield 12, 3, [3, 0]), (30, .iload_n 1, 1, []), (31, .iload_n 2, 1, []), (32, .invokevirtual 77, 3, [0, 13, 3, 1]), (35, .ireturn, 1, [])] := rfl
def md_X3_readOld : List mB := [
  (false, [(0, .aload_n 0, 1, []), (1, .getfield 12, 3, [3, 0]), (4, .iload_n 1, 1, []), (5, .invokevirtual 81, 3, [0, 3, 2, 1]), (8, .ifCond .eq 10, 3, [2])]),
  (false, [(11, .iload_n 2, 1, []), (12, .invokestatic 74, 3, [1, 96, 1, 1]), (15, .ifCond .ne 11, 3, [3])]),
  (false, [(18, .aload_n 0, 1, []), (19, .sipush (-1001), 3, []), (22, .invokevirtual 49, 3, [0, 88, 2, 1]), (25, .ireturn, 1, [])]),
  (false, [(26, .aload_n 0, 1, []), (27, .getfield 12, 3, [3, 0]), (30, .iload_n 1, 1, []), (31, .iload_n 2, 1, []), (32, .invokevirtual 84, 3, [0, 14, 3, 1]), (35, .ireturn, 1, [])])]
theorem cb_X3_readOld_0 : (blk md_X3_readOld 0).2 = [(0, .aload_n 0, 1, []), (1, .getfield 12, 3, [3, 0]), (4, .iload_n 1, 1, []), (5, .invokevirtual 81, 3, [0, 3, 2, 1]), (8, .ifCond .eq 10, 3, [2])] := rfl
theorem cb_X3_readOld_1 : (blk md_X3_readOld 1).2 = [(11, .iload_n 2, 1, []), (12, .invokestatic 74, 3, [1, 96, 1, 1]), (15, .ifCond .ne 11, 3, [3])] := rfl
theorem cb_X3_readOld_2 : (blk md_X3_readOld 2).2 = [(18, .aload_n 0, 1, []), (19, .sipush (-1001), 3, []), (22, .invokevirtual 49, 3, [0, 88, 2, 1]), (25, .ireturn, 1, [])] := rfl
theorem cb_X3_readOld_3 : (blk md_X3_readOld 3).2 = [(26, .aload_n 0, 1, []), (27, .getfield 12, 3, [3, 0]), (30, .iload_n 1, 1, []), (31, .iload_n 2, 1, []), (32, .invokevirtual 84, 3, [0, 14, 3, 1]), (35, .ireturn, 1, [])] := rfl
def md_X3_unlike : List mB := [
  (false, [(0, .aload_n 0, 1, []), (1, .getfield 12, 3, [3, 0]), (4, .iload_n 1, 1, []), (5, .invokevirtual 59, 3, [0, 1, 2, 1]), (8, .ifCond .eq 14, 3, [2])]),
  (false, [(11, .aload_n 0, 1, []), (12, .getfield 12, 3, [3, 0]), (15, .iload_n 2, 1, []), (16, .invokevirtual 59, 3, [0, 1, 2, 1]), (19, .ifCond .ne 11, 3, [3])]),
  (false, [(22, .aload_n 0, 1, []), (23, .sipush (-1001), 3, []), (26, .invokevirtual 49, 3, [0, 88, 2, 1]), (29, .ireturn, 1, [])]),
  (false, [(30, .iconst 0, 1, []), (31, .istore_n 3, 1, [])]),
  (false, [(32, .iload_n 3, 1, []), (33, .bipush 64, 2, []), (35, .if_icmp .ge 32, 3, [8])]),
  (false, [(38, .aload_n 0, 1, []), (39, .getfield 12, 3, [3, 0]), (42, .iload_n 1, 1, []), (43, .iload_n 3, 1, []), (44, .invokevirtual 77, 3, [0, 13, 3, 1]), (47, .aload_n 0, 1, []), (48, .getfield 12, 3, [3, 0]), (51, .iload_n 2, 1, []), (52, .iload_n 3, 1, []), (53, .invokevirtual 77, 3, [0, 13, 3, 1]), (56, .if_icmp .eq 5, 3, [7])]),
  (false, [(59, .iload_n 3, 1, []), (60, .ireturn, 1, [])]),
  (false, [(61, .iinc 3 1, 3, []), (64, .goto (-32), 3, [4])]),
  (false, [(67, .iconst (-1), 1, []), (68, .ireturn, 1, [])])]
theorem cb_X3_unlike_0 : (blk md_X3_unlike 0).2 = [(0, .aload_n 0, 1, []), (1, .getfield 12, 3, [3, 0]), (4, .iload_n 1, 1, []), (5, .invokevirtual 59, 3, [0, 1, 2, 1]), (8, .ifCond .eq 14, 3, [2])] := rfl
theorem cb_X3_unlike_1 : (blk md_X3_unlike 1).2 = [(11, .aload_n 0, 1, []), (12, .getfield 12, 3, [3, 0]), (15, .iload_n 2, 1, []), (16, .invokevirtual 59, 3, [0, 1, 2, 1]), (19, .ifCond .ne 11, 3, [3])] := rfl
theorem cb_X3_unlike_2 : (blk md_X3_unlike 2).2 = [(22, .aload_n 0, 1, []), (23, .sipush (-1001), 3, []), (26, .invokevirtual 49, 3, [0, 88, 2, 1]), (29, .ireturn, 1, [])] := rfl
theorem cb_X3_unlike_3 : (blk md_X3_unlike 3).2 = [(30, .iconst 0, 1, []), (31, .istore_n 3, 1, [])] := rfl
theorem cb_X3_unlike_4 : (blk md_X3_unlike 4).2 = [(32, .iload_n 3, 1, []), (33, .bipush 64, 2, []), (35, .if_icmp .ge 32, 3, [8])] := rfl
theorem cb_X3_unlike_5 : (blk md_X3_unlike 5).2 = [(38, .aload_n 0, 1, []), (39, .getfield 12, 3, [3, 0]), (42, .iload_n 1, 1, []), (43, .iload_n 3, 1, []), (44, .invokevirtual 77, 3, [0, 13, 3, 1]), (47, .aload_n 0, 1, []), (48, .getfield 12, 3, [3, 0]), (51, .iload_n 2, 1, []), (52, .iload_n 3, 1, []), (53, .invokevirtual 77, 3, [0, 13, 3, 1]), (56, .if_icmp .eq 5, 3, [7])] := rfl
theorem cb_X3_unlike_6 : (blk md_X3_unlike 6).2 = [(59, .iload_n 3, 1, []), (60, .ireturn, 1, [])] := rfl
theorem cb_X3_unlike_7 : (blk md_X3_unlike 7).2 = [(61, .iinc 3 1, 3, []), (64, .goto (-32), 3, [4])] := rfl
theorem cb_X3_unlike_8 : (blk md_X3_unlike 8).2 = [(67, .iconst (-1), 1, []), (68, .ireturn, 1, [])] := rfl
def md_X3_sum : List mB := [
  (false, [(0, .aload_n 0, 1, []), (1, .getfield 12, 3, [3, 0]), (4, .iload_n 1, 1, []), (5, .invokevirtual 59, 3, [0, 1, 2, 1]), (8, .ifCond .ne 11, 3, [2])]),
  (false, [(11, .aload_n 0, 1, []), (12, .sipush (-1001), 3, []), (15, .invokevirtual 49, 3, [0, 88, 2, 1]), (18, .ireturn, 1, [])]),
  (false, [(19, .iconst 1, 1, []), (20, .istore_n 2, 1, []), (21, .iconst 0, 1, []), (22, .istore_n 3, 1, [])]),
  (false, [(23, .iload_n 3, 1, []), (24, .bipush 64, 2, []), (26, .if_icmp .ge 24, 3, [5])]),
  (false, [(29, .bipush 31, 2, []), (31, .iload_n 2, 1, []), (32, .imul, 1, []), (33, .aload_n 0, 1, []), (34, .getfield 12, 3, [3, 0]), (37, .iload_n 1, 1, []), (38, .iload_n 3, 1, []), (39, .invokevirtual 77, 3, [0, 13, 3, 1]), (42, .iadd, 1, []), (43, .istore_n 2, 1, []), (44, .iinc 3 1, 3, []), (47, .goto (-24), 3, [3])]),
  (false, [(50, .iload_n 2, 1, []), (51, .ireturn, 1, [])])]
theorem cb_X3_sum_0 : (blk md_X3_sum 0).2 = [(0, .aload_n 0, 1, []), (1, .getfield 12, 3, [3, 0]), (4, .iload_n 1, 1, []), (5, .invokevirtual 59, 3, [0, 1, 2, 1]), (8, .ifCond .ne 11, 3, [2])] := rfl
theorem cb_X3_sum_1 : (blk md_X3_sum 1).2 = [(11, .aload_n 0, 1, []), (12, .sipush (-1001), 3, []), (15, .invokevirtual 49, 3, [0, 88, 2, 1]), (18, .ireturn, 1, [])] := rfl
theorem cb_X3_sum_2 : (blk md_X3_sum 2).2 = [(19, .iconst 1, 1, []), (20, .istore_n 2, 1, []), (21, .iconst 0, 1, []), (22, .istore_n 3, 1, [])] := rfl
theorem cb_X3_sum_3 : (blk md_X3_sum 3).2 = [(23, .iload_n 3, 1, []), (24, .bipush 64, 2, []), (26, .if_icmp .ge 24, 3, [5])] := rfl
theorem cb_X3_sum_4 : (blk md_X3_sum 4).2 = [(29, .bipush 31, 2, []), (31, .iload_n 2, 1, []), (32, .imul, 1, []), (33, .aload_n 0, 1, []), (34, .getfield 12, 3, [3, 0]), (37, .iload_n 1, 1, []), (38, .iload_n 3, 1, []), (39, .invokevirtual 77, 3, [0, 13, 3, 1]), (42, .iadd, 1, []), (43, .istore_n 2, 1, []), (44, .iinc 3 1, 3, []), (47, .goto (-24), 3, [3])] := rfl
theorem cb_X3_sum_5 : (blk md_X3_sum 5).2 = [(50, .iload_n 2, 1, []), (51, .ireturn, 1, [])] := rfl
def md_X3_write : List mB := [
  (false, [(0, .aload_n 0, 1, []), (1, .aload_n 0, 1, []), (2, .iconst 0, 1, []), (3, .iload_n 1, 1, []), (4, .iload_n 2, 1, []), (5, .iload_n 3, 1, []), (6, .invokevirtual 87, 3, [0, 89, 5, 1]), (9, .invokevirtual 91, 3, [0, 90, 2, 1]), (12, .ireturn, 1, [])])]
theorem cb_X3_write_0 : (blk md_X3_write 0).2 = [(0, .aload_n 0, 1, []), (1, .aload_n 0, 1, []), (2, .iconst 0, 1, []), (3, .iload_n 1, 1, []), (4, .iload_n 2, 1, []), (5, .iload_n 3, 1, []), (6, .invokevirtual 87, 3, [0, 89, 5, 1]), (9, .invokevirtual 91, 3, [0, 90, 2, 1]), (12, .ireturn, 1, [])] := rfl
def md_X3_snap : List mB := [
  (false, [(0, .aload_n 0, 1, []), (1, .aload_n 0, 1, []), (2, .iconst 1, 1, []), (3, .iload_n 1, 1, []), (4, .iconst 0, 1, []), (5, .iconst 0, 1, []), (6, .invokevirtual 87, 3, [0, 89, 5, 1]), (9, .invokevirtual 91, 3, [0, 90, 2, 1]), (12, .ireturn, 1, [])])]
theorem cb_X3_snap_0 : (blk md_X3_snap 0).2 = [(0, .aload_n 0, 1, []), (1, .aload_n 0, 1, []), (2, .iconst 1, 1, []), (3, .iload_n 1, 1, []), (4, .iconst 0, 1, []), (5, .iconst 0, 1, []), (6, .invokevirtual 87, 3, [0, 89, 5, 1]), (9, .invokevirtual 91, 3, [0, 90, 2, 1]), (12, .ireturn, 1, [])] := rfl
def md_X3_drop : List mB := [
  (false, [(0, .aload_n 0, 1, []), (1, .aload_n 0, 1, []), (2, .iconst 2, 1, []), (3, .iload_n 1, 1, []), (4, .iconst 0, 1, []), (5, .iconst 0, 1, []), (6, .invokevirtual 87, 3, [0, 89, 5, 1]), (9, .invokevirtual 91, 3, [0, 90, 2, 1]), (12, .ireturn, 1, [])])]
theorem cb_X3_drop_0 : (blk md_X3_drop 0).2 = [(0, .aload_n 0, 1, []), (1, .aload_n 0, 1, []), (2, .iconst 2, 1, []), (3, .iload_n 1, 1, []), (4, .iconst 0, 1, []), (5, .iconst 0, 1, []), (6, .invokevirtual 87, 3, [0, 89, 5, 1]), (9, .invokevirtual 91, 3, [0, 90, 2, 1]), (12, .ireturn, 1, [])] := rfl
def md_X3_revert : List mB := [
  (false, [(0, .aload_n 0, 1, []), (1, .aload_n 0, 1, []), (2, .iconst 3, 1, []), (3, .iload_n 1, 1, []), (4, .iconst 0, 1, []), (5, .iconst 0, 1, []), (6, .invokevirtual 87, 3, [0, 89, 5, 1]), (9, .invokevirtual 91, 3, [0, 90, 2, 1]), (12, .ireturn, 1, [])])]
theorem cb_X3_revert_0 : (blk md_X3_revert 0).2 = [(0, .aload_n 0, 1, []), (1, .aload_n 0, 1, []), (2, .iconst 3, 1, []), (3, .iload_n 1, 1, []), (4, .iconst 0, 1, []), (5, .iconst 0, 1, []), (6, .invokevirtual 87, 3, [0, 89, 5, 1]), (9, .invokevirtual 91, 3, [0, 90, 2, 1]), (12, .ireturn, 1, [])] := rfl
def md_X3_giveUp : List mB := [
  (false, [(0, .aload_n 0, 1, []), (1, .aload_n 0, 1, []), (2, .iconst 4, 1, []), (3, .iload_n 1, 1, []), (4, .iload_n 2, 1, []), (5, .iconst 0, 1, []), (6, .invokevirtual 87, 3, [0, 89, 5, 1]), (9, .invokevirtual 91, 3, [0, 90, 2, 1]), (12, .ireturn, 1, [])])]
theorem cb_X3_giveUp_0 : (blk md_X3_giveUp 0).2 = [(0, .aload_n 0, 1, []), (1, .aload_n 0, 1, []), (2, .iconst 4, 1, []), (3, .iload_n 1, 1, []), (4, .iload_n 2, 1, []), (5, .iconst 0, 1, []), (6, .invokevirtual 87, 3, [0, 89, 5, 1]), (9, .invokevirtual 91, 3, [0, 90, 2, 1]), (12, .ireturn, 1, [])] := rfl
def md_X3_merge : List mB := [
  (false, [(0, .aload_n 0, 1, []), (1, .aload_n 0, 1, []), (2, .iconst 5, 1, []), (3, .iload_n 1, 1, []), (4, .iconst 0, 1, []), (5, .iconst 0, 1, []), (6, .invokevirtual 87, 3, [0, 89, 5, 1]), (9, .invokevirtual 91, 3, [0, 90, 2, 1]), (12, .ireturn, 1, [])])]
theorem cb_X3_merge_0 : (blk md_X3_merge 0).2 = [(0, .aload_n 0, 1, []), (1, .aload_n 0, 1, []), (2, .iconst 5, 1, []), (3, .iload_n 1, 1, []), (4, .iconst 0, 1, []), (5, .iconst 0, 1, []), (6, .invokevirtual 87, 3, [0, 89, 5, 1]), (9, .invokevirtual 91, 3, [0, 90, 2, 1]), (12, .ireturn, 1, [])] := rfl
def md_X3_move : List mB := [
  (false, [(0, .aload_n 0, 1, []), (1, .aload_n 0, 1, []), (2, .bipush 7, 2, []), (4, .iload_n 1, 1, []), (5, .iload_n 2, 1, []), (6, .iload_n 3, 1, []), (7, .invokevirtual 87, 3, [0, 89, 5, 1]), (10, .invokevirtual 91, 3, [0, 90, 2, 1]), (13, .ireturn, 1, [])])]
theorem cb_X3_move_0 : (blk md_X3_move 0).2 = [(0, .aload_n 0, 1, []), (1, .aload_n 0, 1, []), (2, .bipush 7, 2, []), (4, .iload_n 1, 1, []), (5, .iload_n 2, 1, []), (6, .iload_n 3, 1, []), (7, .invokevirtual 87, 3, [0, 89, 5, 1]), (10, .invokevirtual 91, 3, [0, 90, 2, 1]), (13, .ireturn, 1, [])] := rfl
def md_X3_fold : List mB := [
  (false, [(0, .aload_n 0, 1, []), (1, .aload_n 0, 1, []), (2, .bipush 6, 2, []), (4, .iconst 0, 1, []), (5, .iconst 0, 1, []), (6, .iconst 0, 1, []), (7, .invokevirtual 87, 3, [0, 89, 5, 1]), (10, .invokevirtual 91, 3, [0, 90, 2, 1]), (13, .ireturn, 1, [])])]
theorem cb_X3_fold_0 : (blk md_X3_fold 0).2 = [(0, .aload_n 0, 1, []), (1, .aload_n 0, 1, []), (2, .bipush 6, 2, []), (4, .iconst 0, 1, []), (5, .iconst 0, 1, []), (6, .iconst 0, 1, []), (7, .invokevirtual 87, 3, [0, 89, 5, 1]), (10, .invokevirtual 91, 3, [0, 90, 2, 1]), (13, .ireturn, 1, [])] := rfl
def md_X3_tear : List mB := [
  (false, [(0, .iload_n 1, 1, []), (1, .iconst (-1), 1, []), (2, .if_icmp .lt 10, 3, [2])]),
  (false, [(5, .iload_n 1, 1, []), (6, .sipush 999, 3, []), (9, .if_icmp .le 11, 3, [3])]),
  (false, [(12, .aload_n 0, 1, []), (13, .sipush (-1001), 3, []), (16, .invokevirtual 49, 3, [0, 88, 2, 1]), (19, .ireturn, 1, [])]),
  (false, [(20, .aload_n 0, 1, []), (21, .getfield 12, 3, [3, 0]), (24, .getfield 94, 3, [0, 6]), (27, .istore_n 2, 1, []), (28, .aload_n 0, 1, []), (29, .getfield 12, 3, [3, 0]), (32, .iload_n 1, 1, []), (33, .putfield 94, 3, [0, 6]), (36, .iload_n 2, 1, []), (37, .ireturn, 1, [])])]
theorem cb_X3_tear_0 : (blk md_X3_tear 0).2 = [(0, .iload_n 1, 1, []), (1, .iconst (-1), 1, []), (2, .if_icmp .lt 10, 3, [2])] := rfl
theorem cb_X3_tear_1 : (blk md_X3_tear 1).2 = [(5, .iload_n 1, 1, []), (6, .sipush 999, 3, []), (9, .if_icmp .le 11, 3, [3])] := rfl
theorem cb_X3_tear_2 : (blk md_X3_tear 2).2 = [(12, .aload_n 0, 1, []), (13, .sipush (-1001), 3, []), (16, .invokevirtual 49, 3, [0, 88, 2, 1]), (19, .ireturn, 1, [])] := rfl
theorem cb_X3_tear_3 : (blk md_X3_tear 3).2 = [(20, .aload_n 0, 1, []), (21, .getfield 12, 3, [3, 0]), (24, .getfield 94, 3, [0, 6]), (27, .istore_n 2, 1, []), (28, .aload_n 0, 1, []), (29, .getfield 12, 3, [3, 0]), (32, .iload_n 1, 1, []), (33, .putfield 94, 3, [0, 6]), (36, .iload_n 2, 1, []), (37, .ireturn, 1, [])] := rfl
def md_X3_cluster : List mB := [
  (false, [(0, .iload_n 1, 1, []), (1, .invokestatic 97, 3, [1, 97, 1, 1]), (4, .ifCond .ne 11, 3, [2])]),
  (false, [(7, .aload_n 0, 1, []), (8, .sipush (-1001), 3, []), (11, .invokevirtual 49, 3, [0, 88, 2, 1]), (14, .ireturn, 1, [])]),
  (false, [(15, .iload_n 2, 1, []), (16, .tableswitch 83 0 5 #[40, 50, 67, 67, 67, 67], 40, [6, 3, 4, 5, 5, 5, 5])]),
  (false, [(56, .aload_n 0, 1, []), (57, .getfield 12, 3, [3, 0]), (60, .getfield 100, 3, [0, 1]), (63, .iload_n 1, 1, []), (64, .iaload, 1, []), (65, .ireturn, 1, [])]),
  (false, [(66, .aload_n 0, 1, []), (67, .getfield 12, 3, [3, 0]), (70, .invokevirtual 103, 3, [0, 22, 1, 0]), (73, .aload_n 0, 1, []), (74, .getfield 12, 3, [3, 0]), (77, .getfield 106, 3, [0, 7]), (80, .iload_n 1, 1, []), (81, .iaload, 1, []), (82, .ireturn, 1, [])]),
  (false, [(83, .aload_n 0, 1, []), (84, .getfield 12, 3, [3, 0]), (87, .getfield 109, 3, [0, 0]), (90, .iload_n 1, 1, []), (91, .iconst 4, 1, []), (92, .imul, 1, []), (93, .iload_n 2, 1, []), (94, .iadd, 1, []), (95, .iconst 2, 1, []), (96, .isub, 1, []), (97, .iaload, 1, []), (98, .ireturn, 1, [])]),
  (false, [(99, .aload_n 0, 1, []), (100, .sipush (-1001), 3, []), (103, .invokevirtual 49, 3, [0, 88, 2, 1]), (106, .ireturn, 1, [])])]
theorem cb_X3_cluster_0 : (blk md_X3_cluster 0).2 = [(0, .iload_n 1, 1, []), (1, .invokestatic 97, 3, [1, 97, 1, 1]), (4, .ifCond .ne 11, 3, [2])] := rfl
theorem cb_X3_cluster_1 : (blk md_X3_cluster 1).2 = [(7, .aload_n 0, 1, []), (8, .sipush (-1001), 3, []), (11, .invokevirtual 49, 3, [0, 88, 2, 1]), (14, .ireturn, 1, [])] := rfl
theorem cb_X3_cluster_2 : (blk md_X3_cluster 2).2 = [(15, .iload_n 2, 1, []), (16, .tableswitch 83 0 5 #[40, 50, 67, 67, 67, 67], 40, [6, 3, 4, 5, 5, 5, 5])] := rfl
theorem cb_X3_cluster_3 : (blk md_X3_cluster 3).2 = [(56, .aload_n 0, 1, []), (57, .getfield 12, 3, [3, 0]), (60, .getfield 100, 3, [0, 1]), (63, .iload_n 1, 1, []), (64, .iaload, 1, []), (65, .ireturn, 1, [])] := rfl
theorem cb_X3_cluster_4 : (blk md_X3_cluster 4).2 = [(66, .aload_n 0, 1, []), (67, .getfield 12, 3, [3, 0]), (70, .invokevirtual 103, 3, [0, 22, 1, 0]), (73, .aload_n 0, 1, []), (74, .getfield 12, 3, [3, 0]), (77, .getfield 106, 3, [0, 7]), (80, .iload_n 1, 1, []), (81, .iaload, 1, []), (82, .ireturn, 1, [])] := rfl
theorem cb_X3_cluster_5 : (blk md_X3_cluster 5).2 = [(83, .aload_n 0, 1, []), (84, .getfield 12, 3, [3, 0]), (87, .getfield 109, 3, [0, 0]), (90, .iload_n 1, 1, []), (91, .iconst 4, 1, []), (92, .imul, 1, []), (93, .iload_n 2, 1, []), (94, .iadd, 1, []), (95, .iconst 2, 1, []), (96, .isub, 1, []), (97, .iaload, 1, []), (98, .ireturn, 1, [])] := rfl
theorem cb_X3_cluster_6 : (blk md_X3_cluster 6).2 = [(99, .aload_n 0, 1, []), (100, .sipush (-1001), 3, []), (103, .invokevirtual 49, 3, [0, 88, 2, 1]), (106, .ireturn, 1, [])] := rfl
def md_X3_spoil : List mB := [
  (false, [(0, .iload_n 1, 1, []), (1, .invokestatic 97, 3, [1, 97, 1, 1]), (4, .ifCond .eq 13, 3, [3])]),
  (false, [(7, .iload_n 2, 1, []), (8, .ifCond .lt 9, 3, [3])]),
  (false, [(11, .iload_n 2, 1, []), (12, .bipush 99, 2, []), (14, .if_icmp .le 11, 3, [4])]),
  (false, [(17, .aload_n 0, 1, []), (18, .sipush (-1001), 3, []), (21, .invokevirtual 49, 3, [0, 88, 2, 1]), (24, .ireturn, 1, [])]),
  (false, [(25, .aload_n 0, 1, []), (26, .getfield 12, 3, [3, 0]), (29, .getfield 100, 3, [0, 1]), (32, .iload_n 1, 1, []), (33, .iaload, 1, []), (34, .istore_n 3, 1, []), (35, .aload_n 0, 1, []), (36, .getfield 12, 3, [3, 0]), (39, .getfield 100, 3, [0, 1]), (42, .iload_n 1, 1, []), (43, .iload_n 2, 1, []), (44, .iastore, 1, []), (45, .iload_n 3, 1, []), (46, .ireturn, 1, [])])]
theorem cb_X3_spoil_0 : (blk md_X3_spoil 0).2 = [(0, .iload_n 1, 1, []), (1, .invokestatic 97, 3, [1, 97, 1, 1]), (4, .ifCond .eq 13, 3, [3])] := rfl
theorem cb_X3_spoil_1 : (blk md_X3_spoil 1).2 = [(7, .iload_n 2, 1, []), (8, .ifCond .lt 9, 3, [3])] := rfl
theorem cb_X3_spoil_2 : (blk md_X3_spoil 2).2 = [(11, .iload_n 2, 1, []), (12, .bipush 99, 2, []), (14, .if_icmp .le 11, 3, [4])] := rfl
theorem cb_X3_spoil_3 : (blk md_X3_spoil 3).2 = [(17, .aload_n 0, 1, []), (18, .sipush (-1001), 3, []), (21, .invokevirtual 49, 3, [0, 88, 2, 1]), (24, .ireturn, 1, [])] := rfl
theorem cb_X3_spoil_4 : (blk md_X3_spoil 4).2 = [(25, .aload_n 0, 1, []), (26, .getfield 12, 3, [3, 0]), (29, .getfield 100, 3, [0, 1]), (32, .iload_n 1, 1, []), (33, .iaload, 1, []), (34, .istore_n 3, 1, []), (35, .aload_n 0, 1, []), (36, .getfield 12, 3, [3, 0]), (39, .getfield 100, 3, [0, 1]), (42, .iload_n 1, 1, []), (43, .iload_n 2, 1, []), (44, .iastore, 1, []), (45, .iload_n 3, 1, []), (46, .ireturn, 1, [])] := rfl
def md_X3_all : List mB := [
  (false, [(0, .iload_n 1, 1, []), (1, .tableswitch 63 0 3 #[31, 39, 47, 55], 31, [5, 1, 2, 3, 4])]),
  (false, [(32, .aload_n 0, 1, []), (33, .getfield 12, 3, [3, 0]), (36, .invokevirtual 112, 3, [0, 23, 1, 2]), (39, .lreturn, 1, [])]),
  (false, [(40, .aload_n 0, 1, []), (41, .getfield 12, 3, [3, 0]), (44, .invokevirtual 116, 3, [0, 24, 1, 2]), (47, .lreturn, 1, [])]),
  (false, [(48, .aload_n 0, 1, []), (49, .getfield 12, 3, [3, 0]), (52, .invokevirtual 119, 3, [0, 25, 1, 2]), (55, .lreturn, 1, [])]),
  (false, [(56, .aload_n 0, 1, []), (57, .getfield 12, 3, [3, 0]), (60, .invokevirtual 122, 3, [0, 26, 1, 2]), (63, .lreturn, 1, [])]),
  (false, [(64, .lconst 0, 1, []), (65, .lreturn, 1, [])])]
theorem cb_X3_all_0 : (blk md_X3_all 0).2 = [(0, .iload_n 1, 1, []), (1, .tableswitch 63 0 3 #[31, 39, 47, 55], 31, [5, 1, 2, 3, 4])] := rfl
theorem cb_X3_all_1 : (blk md_X3_all 1).2 = [(32, .aload_n 0, 1, []), (33, .getfield 12, 3, [3, 0]), (36, .invokevirtual 112, 3, [0, 23, 1, 2]), (39, .lreturn, 1, [])] := rfl
theorem cb_X3_all_2 : (blk md_X3_all 2).2 = [(40, .aload_n 0, 1, []), (41, .getfield 12, 3, [3, 0]), (44, .invokevirtual 116, 3, [0, 24, 1, 2]), (47, .lreturn, 1, [])] := rfl
theorem cb_X3_all_3 : (blk md_X3_all 3).2 = [(48, .aload_n 0, 1, []), (49, .getfield 12, 3, [3, 0]), (52, .invokevirtual 119, 3, [0, 25, 1, 2]), (55, .lreturn, 1, [])] := rfl
theorem cb_X3_all_4 : (blk md_X3_all 4).2 = [(56, .aload_n 0, 1, []), (57, .getfield 12, 3, [3, 0]), (60, .invokevirtual 122, 3, [0, 26, 1, 2]), (63, .lreturn, 1, [])] := rfl
theorem cb_X3_all_5 : (blk md_X3_all 5).2 = [(64, .lconst 0, 1, []), (65, .lreturn, 1, [])] := rfl
def md_X3_repair : List mB := [
  (false, [(0, .aload_n 0, 1, []), (1, .getfield 12, 3, [3, 0]), (4, .invokevirtual 125, 3, [0, 27, 1, 1]), (7, .ireturn, 1, [])])]
theorem cb_X3_repair_0 : (blk md_X3_repair 0).2 = [(0, .aload_n 0, 1, []), (1, .getfield 12, 3, [3, 0]), (4, .invokevirtual 125, 3, [0, 27, 1, 1]), (7, .ireturn, 1, [])] := rfl
def md_X3_holds : List mB := [
  (false, [(0, .aload_n 0, 1, []), (1, .getfield 12, 3, [3, 0]), (4, .iload_n 1, 1, []), (5, .invokestatic 129, 3, [1, 99, 1, 1]), (8, .invokevirtual 132, 3, [0, 20, 2, 2]), (11, .lreturn, 1, [])])]
theorem cb_X3_holds_0 : (blk md_X3_holds 0).2 = [(0, .aload_n 0, 1, []), (1, .getfield 12, 3, [3, 0]), (4, .iload_n 1, 1, []), (5, .invokestatic 129, 3, [1, 99, 1, 1]), (8, .invokevirtual 132, 3, [0, 20, 2, 2]), (11, .lreturn, 1, [])] := rfl
def md_X3_alone : List mB := [
  (false, [(0, .iload_n 1, 1, []), (1, .invokestatic 129, 3, [1, 99, 1, 1]), (4, .istore_n 2, 1, []), (5, .lconst 0, 1, []), (6, .lstore_n 3, 1, []), (7, .iconst 0, 1, []), (8, .istore 5, 2, [])]),
  (false, [(10, .iload 5, 2, []), (12, .bipush 14, 2, []), (14, .if_icmp .ge 27, 3, [5])]),
  (false, [(17, .iload 5, 2, []), (19, .iload_n 2, 1, []), (20, .if_icmp .eq 15, 3, [4])]),
  (false, [(23, .lload_n 3, 1, []), (24, .aload_n 0, 1, []), (25, .getfield 12, 3, [3, 0]), (28, .iload 5, 2, []), (30, .invokevirtual 132, 3, [0, 20, 2, 2]), (33, .lor, 1, []), (34, .lstore_n 3, 1, [])]),
  (false, [(35, .iinc 5 1, 3, []), (38, .goto (-28), 3, [1])]),
  (false, [(41, .aload_n 0, 1, []), (42, .getfield 12, 3, [3, 0]), (45, .iload_n 2, 1, []), (46, .invokevirtual 132, 3, [0, 20, 2, 2]), (49, .lload_n 3, 1, []), (50, .ldc2_w 136, 3, [18446744073709551615]), (53, .lxor, 1, []), (54, .land, 1, []), (55, .lreturn, 1, [])])]
theorem cb_X3_alone_0 : (blk md_X3_alone 0).2 = [(0, .iload_n 1, 1, []), (1, .invokestatic 129, 3, [1, 99, 1, 1]), (4, .istore_n 2, 1, []), (5, .lconst 0, 1, []), (6, .lstore_n 3, 1, []), (7, .iconst 0, 1, []), (8, .istore 5, 2, [])] := rfl
theorem cb_X3_alone_1 : (blk md_X3_alone 1).2 = [(10, .iload 5, 2, []), (12, .bipush 14, 2, []), (14, .if_icmp .ge 27, 3, [5])] := rfl
theorem cb_X3_alone_2 : (blk md_X3_alone 2).2 = [(17, .iload 5, 2, []), (19, .iload_n 2, 1, []), (20, .if_icmp .eq 15, 3, [4])] := rfl
theorem cb_X3_alone_3 : (blk md_X3_alone 3).2 = [(23, .lload_n 3, 1, []), (24, .aload_n 0, 1, []), (25, .getfield 12, 3, [3, 0]), (28, .iload 5, 2, []), (30, .invokevirtual 132, 3, [0, 20, 2, 2]), (33, .lor, 1, []), (34, .lstore_n 3, 1, [])] := rfl
theorem cb_X3_alone_4 : (blk md_X3_alone 4).2 = [(35, .iinc 5 1, 3, []), (38, .goto (-28), 3, [1])] := rfl
theorem cb_X3_alone_5 : (blk md_X3_alone 5).2 = [(41, .aload_n 0, 1, []), (42, .getfield 12, 3, [3, 0]), (45, .iload_n 2, 1, []), (46, .invokevirtual 132, 3, [0, 20, 2, 2]), (49, .lload_n 3, 1, []), (50, .ldc2_w 136, 3, [18446744073709551615]), (53, .lxor, 1, []), (54, .land, 1, []), (55, .lreturn, 1, [])] := rfl
def md_X3_holders : List mB := [
  (false, [(0, .iload_n 1, 1, []), (1, .invokestatic 97, 3, [1, 97, 1, 1]), (4, .ifCond .ne 11, 3, [2])]),
  (false, [(7, .aload_n 0, 1, []), (8, .sipush (-1001), 3, []), (11, .invokevirtual 49, 3, [0, 88, 2, 1]), (14, .ireturn, 1, [])]),
  (false, [(15, .iconst 0, 1, []), (16, .istore_n 2, 1, []), (17, .iconst 0, 1, []), (18, .istore_n 3, 1, [])]),
  (false, [(19, .iload_n 3, 1, []), (20, .bipush 14, 2, []), (22, .if_icmp .ge 46, 3, [10])]),
  (false, [(25, .aload_n 0, 1, []), (26, .getfield 12, 3, [3, 0]), (29, .iload_n 3, 1, []), (30, .invokevirtual 132, 3, [0, 20, 2, 2]), (33, .iload_n 1, 1, []), (34, .invokestatic 138, 3, [1, 98, 2, 1]), (37, .ifCond .eq 25, 3, [9])]),
  (false, [(40, .iload_n 2, 1, []), (41, .iconst 1, 1, []), (42, .iload_n 3, 1, []), (43, .bipush 6, 2, []), (45, .if_icmp .ge 7, 3, [7])]),
  (false, [(48, .iload_n 3, 1, []), (49, .goto 10, 3, [8])]),
  (false, [(52, .iload_n 3, 1, []), (53, .bipush 6, 2, []), (55, .isub, 1, []), (56, .bipush 10, 2, []), (58, .iadd, 1, [])]),
  (false, [(59, .ishl, 1, []), (60, .ior, 1, []), (61, .istore_n 2, 1, [])]),
  (false, [(62, .iinc 3 1, 3, []), (65, .goto (-46), 3, [3])]),
  (false, [(68, .iload_n 2, 1, []), (69, .ireturn, 1, [])])]
theorem cb_X3_holders_0 : (blk md_X3_holders 0).2 = [(0, .iload_n 1, 1, []), (1, .invokestatic 97, 3, [1, 97, 1, 1]), (4, .ifCond .ne 11, 3, [2])] := rfl
theorem cb_X3_holders_1 : (blk md_X3_holders 1).2 = [(7, .aload_n 0, 1, []), (8, .sipush (-1001), 3, []), (11, .invokevirtual 49, 3, [0, 88, 2, 1]), (14, .ireturn, 1, [])] := rfl
theorem cb_X3_holders_2 : (blk md_X3_holders 2).2 = [(15, .iconst 0, 1, []), (16, .istore_n 2, 1, []), (17, .iconst 0, 1, []), (18, .istore_n 3, 1, [])] := rfl
theorem cb_X3_holders_3 : (blk md_X3_holders 3).2 = [(19, .iload_n 3, 1, []), (20, .bipush 14, 2, []), (22, .if_icmp .ge 46, 3, [10])] := rfl
theorem cb_X3_holders_4 : (blk md_X3_holders 4).2 = [(25, .aload_n 0, 1, []), (26, .getfield 12, 3, [3, 0]), (29, .iload_n 3, 1, []), (30, .invokevirtual 132, 3, [0, 20, 2, 2]), (33, .iload_n 1, 1, []), (34, .invokestatic 138, 3, [1, 98, 2, 1]), (37, .ifCond .eq 25, 3, [9])] := rfl
theorem cb_X3_holders_5 : (blk md_X3_holders 5).2 = [(40, .iload_n 2, 1, []), (41, .iconst 1, 1, []), (42, .iload_n 3, 1, []), (43, .bipush 6, 2, []), (45, .if_icmp .ge 7, 3, [7])] := rfl
theorem cb_X3_holders_6 : (blk md_X3_holders 6).2 = [(48, .iload_n 3, 1, []), (49, .goto 10, 3, [8])] := rfl
theorem cb_X3_holders_7 : (blk md_X3_holders 7).2 = [(52, .iload_n 3, 1, []), (53, .bipush 6, 2, []), (55, .isub, 1, []), (56, .bipush 10, 2, []), (58, .iadd, 1, [])] := rfl
theorem cb_X3_holders_8 : (blk md_X3_holders 8).2 = [(59, .ishl, 1, []), (60, .ior, 1, []), (61, .istore_n 2, 1, [])] := rfl
theorem cb_X3_holders_9 : (blk md_X3_holders 9).2 = [(62, .iinc 3 1, 3, []), (65, .goto (-46), 3, [3])] := rfl
theorem cb_X3_holders_10 : (blk md_X3_holders 10).2 = [(68, .iload_n 2, 1, []), (69, .ireturn, 1, [])] := rfl
def md_X3_best : List mB := [
  (false, [(0, .iload_n 1, 1, []), (1, .ifCond .eq 16, 3, [3])]),
  (false, [(4, .iload_n 1, 1, []), (5, .iconst 1, 1, []), (6, .if_icmp .eq 11, 3, [3])]),
  (false, [(9, .aload_n 0, 1, []), (10, .sipush (-1001), 3, []), (13, .invokevirtual 49, 3, [0, 88, 2, 1]), (16, .ireturn, 1, [])]),
  (false, [(17, .aload_n 0, 1, []), (18, .getfield 12, 3, [3, 0]), (21, .invokevirtual 116, 3, [0, 24, 1, 2]), (24, .lconst 0, 1, []), (25, .lcmp, 1, []), (26, .ifCond .eq 5, 3, [5])]),
  (false, [(29, .iconst (-1), 1, []), (30, .ireturn, 1, [])]),
  (false, [(31, .iconst (-1), 1, []), (32, .istore_n 2, 1, []), (33, .iconst (-1), 1, []), (34, .istore_n 3, 1, []), (35, .iconst 0, 1, []), (36, .istore 4, 2, [])]),
  (false, [(38, .iload 4, 2, []), (40, .bipush 8, 2, []), (42, .if_icmp .ge 45, 3, [13])]),
  (false, [(45, .aload_n 0, 1, []), (46, .getfield 12, 3, [3, 0]), (49, .iload 4, 2, []), (51, .invokevirtual 81, 3, [0, 3, 2, 1]), (54, .ifCond .eq 12, 3, [9])]),
  (false, [(57, .aload_n 0, 1, []), (58, .iload 4, 2, []), (60, .invokevirtual 142, 3, [0, 94, 2, 1]), (63, .goto 4, 3, [10])]),
  (false, [(66, .iconst (-1), 1, [])]),
  (false, [(67, .istore 5, 2, []), (69, .iload 5, 2, []), (71, .iload_n 3, 1, []), (72, .if_icmp .le 9, 3, [12])]),
  (false, [(75, .iload 5, 2, []), (77, .istore_n 3, 1, []), (78, .iload 4, 2, []), (80, .istore_n 2, 1, [])]),
  (false, [(81, .iinc 4 1, 3, []), (84, .goto (-46), 3, [6])]),
  (false, [(87, .iload_n 1, 1, []), (88, .ifCond .ne 7, 3, [15])]),
  (false, [(91, .iload_n 2, 1, []), (92, .goto 4, 3, [16])]),
  (false, [(95, .iload_n 3, 1, [])]),
  (false, [(96, .ireturn, 1, [])])]
theorem cb_X3_best_0 : (blk md_X3_best 0).2 = [(0, .iload_n 1, 1, []), (1, .ifCond .eq 16, 3, [3])] := rfl
theorem cb_X3_best_1 : (blk md_X3_best 1).2 = [(4, .iload_n 1, 1, []), (5, .iconst 1, 1, []), (6, .if_icmp .eq 11, 3, [3])] := rfl
theorem cb_X3_best_2 : (blk md_X3_best 2).2 = [(9, .aload_n 0, 1, []), (10, .sipush (-1001), 3, []), (13, .invokevirtual 49, 3, [0, 88, 2, 1]), (16, .ireturn, 1, [])] := rfl
theorem cb_X3_best_3 : (blk md_X3_best 3).2 = [(17, .aload_n 0, 1, []), (18, .getfield 12, 3, [3, 0]), (21, .invokevirtual 116, 3, [0, 24, 1, 2]), (24, .lconst 0, 1, []), (25, .lcmp, 1, []), (26, .ifCond .eq 5, 3, [5])] := rfl
theorem cb_X3_best_4 : (blk md_X3_best 4).2 = [(29, .iconst (-1), 1, []), (30, .ireturn, 1, [])] := rfl
theorem cb_X3_best_5 : (blk md_X3_best 5).2 = [(31, .iconst (-1), 1, []), (32, .istore_n 2, 1, []), (33, .iconst (-1), 1, []), (34, .istore_n 3, 1, []), (35, .iconst 0, 1, []), (36, .istore 4, 2, [])] := rfl
theorem cb_X3_best_6 : (blk md_X3_best 6).2 = [(38, .iload 4, 2, []), (40, .bipush 8, 2, []), (42, .if_icmp .ge 45, 3, [13])] := rfl
theorem cb_X3_best_7 : (blk md_X3_best 7).2 = [(45, .aload_n 0, 1, []), (46, .getfield 12, 3, [3, 0]), (49, .iload 4, 2, []), (51, .invokevirtual 81, 3, [0, 3, 2, 1]), (54, .ifCond .eq 12, 3, [9])] := rfl
theorem cb_X3_best_8 : (blk md_X3_best 8).2 = [(57, .aload_n 0, 1, []), (58, .iload 4, 2, []), (60, .invokevirtual 142, 3, [0, 94, 2, 1]), (63, .goto 4, 3, [10])] := rfl
theorem cb_X3_best_9 : (blk md_X3_best 9).2 = [(66, .iconst (-1), 1, [])] := rfl
theorem cb_X3_best_10 : (blk md_X3_best 10).2 = [(67, .istore 5, 2, []), (69, .iload 5, 2, []), (71, .iload_n 3, 1, []), (72, .if_icmp .le 9, 3, [12])] := rfl
theorem cb_X3_best_11 : (blk md_X3_best 11).2 = [(75, .iload 5, 2, []), (77, .istore_n 3, 1, []), (78, .iload 4, 2, []), (80, .istore_n 2, 1, [])] := rfl
theorem cb_X3_best_12 : (blk md_X3_best 12).2 = [(81, .iinc 4 1, 3, []), (84, .goto (-46), 3, [6])] := rfl
theorem cb_X3_best_13 : (blk md_X3_best 13).2 = [(87, .iload_n 1, 1, []), (88, .ifCond .ne 7, 3, [15])] := rfl
theorem cb_X3_best_14 : (blk md_X3_best 14).2 = [(91, .iload_n 2, 1, []), (92, .goto 4, 3, [16])] := rfl
theorem cb_X3_best_15 : (blk md_X3_best 15).2 = [(95, .iload_n 3, 1, [])] := rfl
theorem cb_X3_best_16 : (blk md_X3_best 16).2 = [(96, .ireturn, 1, [])] := rfl
def md_X3_twins : List mB := [
  (false, [(0, .aload_n 0, 1, []), (1, .getfield 12, 3, [3, 0]), (4, .aload_n 0, 1, []), (5, .getfield 12, 3, [3, 0]), (8, .iconst 0, 1, []), (9, .bipush 14, 2, []), (11, .invokevirtual 145, 3, [0, 18, 3, 2]), (14, .invokevirtual 149, 3, [0, 19, 2, 2]), (17, .lstore_n 1, 1, []), (18, .iconst 0, 1, []), (19, .istore_n 3, 1, []), (20, .iconst 1, 1, []), (21, .istore 4, 2, [])]),
  (false, [(23, .iload 4, 2, []), (25, .bipush 64, 2, []), (27, .if_icmp .ge 63, 3, [10])]),
  (false, [(30, .iload 4, 2, []), (32, .iconst 1, 1, []), (33, .iadd, 1, []), (34, .istore 5, 2, [])]),
  (false, [(36, .iload 5, 2, []), (38, .bipush 64, 2, []), (40, .if_icmp .ge 44, 3, [9])]),
  (false, [(43, .lload_n 1, 1, []), (44, .iload 4, 2, []), (46, .invokestatic 138, 3, [1, 98, 2, 1]), (49, .ifCond .eq 29, 3, [8])]),
  (false, [(52, .lload_n 1, 1, []), (53, .iload 5, 2, []), (55, .invokestatic 138, 3, [1, 98, 2, 1]), (58, .ifCond .eq 20, 3, [8])]),
  (false, [(61, .aload_n 0, 1, []), (62, .getfield 12, 3, [3, 0]), (65, .iload 4, 2, []), (67, .iload 5, 2, []), (69, .invokevirtual 153, 3, [0, 16, 3, 1]), (72, .ifCond .eq 6, 3, [8])]),
  (false, [(75, .iinc 3 1, 3, [])]),
  (false, [(78, .iinc 5 1, 3, []), (81, .goto (-45), 3, [3])]),
  (false, [(84, .iinc 4 1, 3, []), (87, .goto (-64), 3, [1])]),
  (false, [(90, .iload_n 3, 1, []), (91, .ireturn, 1, [])])]
theorem cb_X3_twins_0 : (blk md_X3_twins 0).2 = [(0, .aload_n 0, 1, []), (1, .getfield 12, 3, [3, 0]), (4, .aload_n 0, 1, []), (5, .getfield 12, 3, [3, 0]), (8, .iconst 0, 1, []), (9, .bipush 14, 2, []), (11, .invokevirtual 145, 3, [0, 18, 3, 2]), (14, .invokevirtual 149, 3, [0, 19, 2, 2]), (17, .lstore_n 1, 1, []), (18, .iconst 0, 1, []), (19, .istore_n 3, 1, []), (20, .iconst 1, 1, []), (21, .istore 4, 2, [])] := rfl
theorem cb_X3_twins_1 : (blk md_X3_twins 1).2 = [(23, .iload 4, 2, []), (25, .bipush 64, 2, []), (27, .if_icmp .ge 63, 3, [10])] := rfl
theorem cb_X3_twins_2 : (blk md_X3_twins 2).2 = [(30, .iload 4, 2, []), (32, .iconst 1, 1, []), (33, .iadd, 1, []), (34, .istore 5, 2, [])] := rfl
theorem cb_X3_twins_3 : (blk md_X3_twins 3).2 = [(36, .iload 5, 2, []), (38, .bipush 64, 2, []), (40, .if_icmp .ge 44, 3, [9])] := rfl
theorem cb_X3_twins_4 : (blk md_X3_twins 4).2 = [(43, .lload_n 1, 1, []), (44, .iload 4, 2, []), (46, .invokestatic 138, 3, [1, 98, 2, 1]), (49, .ifCond .eq 29, 3, [8])] := rfl
theorem cb_X3_twins_5 : (blk md_X3_twins 5).2 = [(52, .lload_n 1, 1, []), (53, .iload 5, 2, []), (55, .invokestatic 138, 3, [1, 98, 2, 1]), (58, .ifCond .eq 20, 3, [8])] := rfl
theorem cb_X3_twins_6 : (blk md_X3_twins 6).2 = [(61, .aload_n 0, 1, []), (62, .getfield 12, 3, [3, 0]), (65, .iload 4, 2, []), (67, .iload 5, 2, []), (69, .invokevirtual 153, 3, [0, 16, 3, 1]), (72, .ifCond .eq 6, 3, [8])] := rfl
theorem cb_X3_twins_7 : (blk md_X3_twins 7).2 = [(75, .iinc 3 1, 3, [])] := rfl
theorem cb_X3_twins_8 : (blk md_X3_twins 8).2 = [(78, .iinc 5 1, 3, []), (81, .goto (-45), 3, [3])] := rfl
theorem cb_X3_twins_9 : (blk md_X3_twins 9).2 = [(84, .iinc 4 1, 3, []), (87, .goto (-64), 3, [1])] := rfl
theorem cb_X3_twins_10 : (blk md_X3_twins 10).2 = [(90, .iload_n 3, 1, []), (91, .ireturn, 1, [])] := rfl
def md_X3_cost : List mB := [
  (false, [(0, .aload_n 0, 1, []), (1, .iconst 0, 1, []), (2, .iload_n 1, 1, []), (3, .iload_n 2, 1, []), (4, .iconst 0, 1, []), (5, .invokevirtual 87, 3, [0, 89, 5, 1]), (8, .ireturn, 1, [])])]
theorem cb_X3_cost_0 : (blk md_X3_cost 0).2 = [(0, .aload_n 0, 1, []), (1, .iconst 0, 1, []), (2, .iload_n 1, 1, []), (3, .iload_n 2, 1, []), (4, .iconst 0, 1, []), (5, .invokevirtual 87, 3, [0, 89, 5, 1]), (8, .ireturn, 1, [])] := rfl
def md_X3_torn : List mB := [
  (false, [(0, .iload 4, 2, []), (2, .invokestatic 157, 3, [1, 95, 1, 1]), (5, .ifCond .eq 14, 3, [2])]),
  (false, [(8, .aload_n 0, 1, []), (9, .iconst 0, 1, []), (10, .iload_n 1, 1, []), (11, .iload_n 2, 1, []), (12, .iload_n 3, 1, []), (13, .invokevirtual 87, 3, [0, 89, 5, 1]), (16, .goto 10, 3, [3])]),
  (false, [(19, .aload_n 0, 1, []), (20, .sipush (-1001), 3, []), (23, .invokevirtual 49, 3, [0, 88, 2, 1])]),
  (false, [(26, .istore 5, 2, []), (28, .iload 5, 2, []), (30, .ifCond .ge 6, 3, [5])]),
  (false, [(33, .iload 5, 2, []), (35, .ireturn, 1, [])]),
  (false, [(36, .aload_n 0, 1, []), (37, .getfield 22, 3, [3, 2]), (40, .aload_n 0, 1, []), (41, .getfield 12, 3, [3, 0]), (44, .iload 4, 2, []), (46, .invokevirtual 160, 3, [0, 39, 3, 0]), (49, .aload_n 0, 1, []), (50, .getfield 22, 3, [3, 2]), (53, .getfield 164, 3, [2, 0]), (56, .iload_n 1, 1, []), (57, .iload_n 2, 1, []), (58, .invokevirtual 77, 3, [0, 13, 3, 1]), (61, .ireturn, 1, [])])]
theorem cb_X3_torn_0 : (blk md_X3_torn 0).2 = [(0, .iload 4, 2, []), (2, .invokestatic 157, 3, [1, 95, 1, 1]), (5, .ifCond .eq 14, 3, [2])] := rfl
theorem cb_X3_torn_1 : (blk md_X3_torn 1).2 = [(8, .aload_n 0, 1, []), (9, .iconst 0, 1, []), (10, .iload_n 1, 1, []), (11, .iload_n 2, 1, []), (12, .iload_n 3, 1, []), (13, .invokevirtual 87, 3, [0, 89, 5, 1]), (16, .goto 10, 3, [3])] := rfl
theorem cb_X3_torn_2 : (blk md_X3_torn 2).2 = [(19, .aload_n 0, 1, []), (20, .sipush (-1001), 3, []), (23, .invokevirtual 49, 3, [0, 88, 2, 1])] := rfl
theorem cb_X3_torn_3 : (blk md_X3_torn 3).2 = [(26, .istore 5, 2, []), (28, .iload 5, 2, []), (30, .ifCond .ge 6, 3, [5])] := rfl
theorem cb_X3_torn_4 : (blk md_X3_torn 4).2 = [(33, .iload 5, 2, []), (35, .ireturn, 1, [])] := rfl
theorem cb_X3_torn_5 : (blk md_X3_torn 5).2 = [(36, .aload_n 0, 1, []), (37, .getfield 22, 3, [3, 2]), (40, .aload_n 0, 1, []), (41, .getfield 12, 3, [3, 0]), (44, .iload 4, 2, []), (46, .invokevirtual 160, 3, [0, 39, 3, 0]), (49, .aload_n 0, 1, []), (50, .getfield 22, 3, [3, 2]), (53, .getfield 164, 3, [2, 0]), (56, .iload_n 1, 1, []), (57, .iload_n 2, 1, []), (58, .invokevirtual 77, 3, [0, 13, 3, 1]), (61, .ireturn, 1, [])] := rfl
def md_X3_leaks : List mB := [
  (false, [(0, .iload_n 3, 1, []), (1, .invokestatic 157, 3, [1, 95, 1, 1]), (4, .ifCond .eq 14, 3, [2])]),
  (false, [(7, .aload_n 0, 1, []), (8, .iconst 0, 1, []), (9, .iload_n 1, 1, []), (10, .iload_n 2, 1, []), (11, .iconst 0, 1, []), (12, .invokevirtual 87, 3, [0, 89, 5, 1]), (15, .goto 10, 3, [3])]),
  (false, [(18, .aload_n 0, 1, []), (19, .sipush (-1001), 3, []), (22, .invokevirtual 49, 3, [0, 88, 2, 1])]),
  (false, [(25, .istore 4, 2, []), (27, .iload 4, 2, []), (29, .ifCond .ge 6, 3, [5])]),
  (false, [(32, .iload 4, 2, []), (34, .ireturn, 1, [])]),
  (false, [(35, .aload_n 0, 1, []), (36, .getfield 22, 3, [3, 2]), (39, .aload_n 0, 1, []), (40, .getfield 12, 3, [3, 0]), (43, .iload_n 3, 1, []), (44, .invokevirtual 160, 3, [0, 39, 3, 0]), (47, .aload_n 0, 1, []), (48, .getfield 22, 3, [3, 2]), (51, .getfield 164, 3, [2, 0]), (54, .invokevirtual 112, 3, [0, 23, 1, 2]), (57, .invokestatic 167, 3, [1, 191, 1, 1]), (60, .ireturn, 1, [])])]
theorem cb_X3_leaks_0 : (blk md_X3_leaks 0).2 = [(0, .iload_n 3, 1, []), (1, .invokestatic 157, 3, [1, 95, 1, 1]), (4, .ifCond .eq 14, 3, [2])] := rfl
theorem cb_X3_leaks_1 : (blk md_X3_leaks 1).2 = [(7, .aload_n 0, 1, []), (8, .iconst 0, 1, []), (9, .iload_n 1, 1, []), (10, .iload_n 2, 1, []), (11, .iconst 0, 1, []), (12, .invokevirtual 87, 3, [0, 89, 5, 1]), (15, .goto 10, 3, [3])] := rfl
theorem cb_X3_leaks_2 : (blk md_X3_leaks 2).2 = [(18, .aload_n 0, 1, []), (19, .sipush (-1001), 3, []), (22, .invokevirtual 49, 3, [0, 88, 2, 1])] := rfl
theorem cb_X3_leaks_3 : (blk md_X3_leaks 3).2 = [(25, .istore 4, 2, []), (27, .iload 4, 2, []), (29, .ifCond .ge 6, 3, [5])] := rfl
theorem cb_X3_leaks_4 : (blk md_X3_leaks 4).2 = [(32, .iload 4, 2, []), (34, .ireturn, 1, [])] := rfl
theorem cb_X3_leaks_5 : (blk md_X3_leaks 5).2 = [(35, .aload_n 0, 1, []), (36, .getfield 22, 3, [3, 2]), (39, .aload_n 0, 1, []), (40, .getfield 12, 3, [3, 0]), (43, .iload_n 3, 1, []), (44, .invokevirtual 160, 3, [0, 39, 3, 0]), (47, .aload_n 0, 1, []), (48, .getfield 22, 3, [3, 2]), (51, .getfield 164, 3, [2, 0]), (54, .invokevirtual 112, 3, [0, 23, 1, 2]), (57, .invokestatic 167, 3, [1, 191, 1, 1]), (60, .ireturn, 1, [])] := rfl
def md_X3_behind : List mB := [
  (false, [(0, .aload_n 0, 1, []), (1, .iconst 0, 1, []), (2, .iload_n 1, 1, []), (3, .iload_n 2, 1, []), (4, .iload_n 3, 1, []), (5, .invokevirtual 87, 3, [0, 89, 5, 1]), (8, .istore 4, 2, []), (10, .iload 4, 2, []), (12, .ifCond .ge 6, 3, [2])]),
  (false, [(15, .iload 4, 2, []), (17, .ireturn, 1, [])]),
  (false, [(18, .aload_n 0, 1, []), (19, .getfield 12, 3, [3, 0]), (22, .iload_n 1, 1, []), (23, .iload_n 2, 1, []), (24, .invokevirtual 77, 3, [0, 13, 3, 1]), (27, .iload_n 3, 1, []), (28, .if_icmp .ne 5, 3, [4])]),
  (false, [(31, .iconst (-1), 1, []), (32, .ireturn, 1, [])]),
  (false, [(33, .iconst 0, 1, []), (34, .istore 5, 2, [])]),
  (false, [(36, .iload 5, 2, []), (38, .iload 4, 2, []), (40, .if_icmp .ge 41, 3, [9])]),
  (false, [(43, .aload_n 0, 1, []), (44, .getfield 22, 3, [3, 2]), (47, .aload_n 0, 1, []), (48, .getfield 12, 3, [3, 0]), (51, .iload 5, 2, []), (53, .invokevirtual 160, 3, [0, 39, 3, 0]), (56, .aload_n 0, 1, []), (57, .getfield 22, 3, [3, 2]), (60, .getfield 164, 3, [2, 0]), (63, .iload_n 1, 1, []), (64, .iload_n 2, 1, []), (65, .invokevirtual 77, 3, [0, 13, 3, 1]), (68, .iload_n 3, 1, []), (69, .if_icmp .ne 6, 3, [8])]),
  (false, [(72, .iload 5, 2, []), (74, .ireturn, 1, [])]),
  (false, [(75, .iinc 5 1, 3, []), (78, .goto (-42), 3, [5])]),
  (false, [(81, .iload 4, 2, []), (83, .ireturn, 1, [])])]
theorem cb_X3_behind_0 : (blk md_X3_behind 0).2 = [(0, .aload_n 0, 1, []), (1, .iconst 0, 1, []), (2, .iload_n 1, 1, []), (3, .iload_n 2, 1, []), (4, .iload_n 3, 1, []), (5, .invokevirtual 87, 3, [0, 89, 5, 1]), (8, .istore 4, 2, []), (10, .iload 4, 2, []), (12, .ifCond .ge 6, 3, [2])] := rfl
theorem cb_X3_behind_1 : (blk md_X3_behind 1).2 = [(15, .iload 4, 2, []), (17, .ireturn, 1, [])] := rfl
theorem cb_X3_behind_2 : (blk md_X3_behind 2).2 = [(18, .aload_n 0, 1, []), (19, .getfield 12, 3, [3, 0]), (22, .iload_n 1, 1, []), (23, .iload_n 2, 1, []), (24, .invokevirtual 77, 3, [0, 13, 3, 1]), (27, .iload_n 3, 1, []), (28, .if_icmp .ne 5, 3, [4])] := rfl
theorem cb_X3_behind_3 : (blk md_X3_behind 3).2 = [(31, .iconst (-1), 1, []), (32, .ireturn, 1, [])] := rfl
theorem cb_X3_behind_4 : (blk md_X3_behind 4).2 = [(33, .iconst 0, 1, []), (34, .istore 5, 2, [])] := rfl
theorem cb_X3_behind_5 : (blk md_X3_behind 5).2 = [(36, .iload 5, 2, []), (38, .iload 4, 2, []), (40, .if_icmp .ge 41, 3, [9])] := rfl
theorem cb_X3_behind_6 : (blk md_X3_behind 6).2 = [(43, .aload_n 0, 1, []), (44, .getfield 22, 3, [3, 2]), (47, .aload_n 0, 1, []), (48, .getfield 12, 3, [3, 0]), (51, .iload 5, 2, []), (53, .invokevirtual 160, 3, [0, 39, 3, 0]), (56, .aload_n 0, 1, []), (57, .getfield 22, 3, [3, 2]), (60, .getfield 164, 3, [2, 0]), (63, .iload_n 1, 1, []), (64, .iload_n 2, 1, []), (65, .invokevirtual 77, 3, [0, 13, 3, 1]), (68, .iload_n 3, 1, []), (69, .if_icmp .ne 6, 3, [8])] := rfl
theorem cb_X3_behind_7 : (blk md_X3_behind 7).2 = [(72, .iload 5, 2, []), (74, .ireturn, 1, [])] := rfl
theorem cb_X3_behind_8 : (blk md_X3_behind 8).2 = [(75, .iinc 5 1, 3, []), (78, .goto (-42), 3, [5])] := rfl
theorem cb_X3_behind_9 : (blk md_X3_behind 9).2 = [(81, .iload 4, 2, []), (83, .ireturn, 1, [])] := rfl
def md_X3_room : List mB := [
  (false, [(0, .aload_n 0, 1, []), (1, .getfield 12, 3, [3, 0]), (4, .iload_n 1, 1, []), (5, .invokevirtual 59, 3, [0, 1, 2, 1]), (8, .ifCond .ne 11, 3, [2])]),
  (false, [(11, .aload_n 0, 1, []), (12, .sipush (-1001), 3, []), (15, .invokevirtual 49, 3, [0, 88, 2, 1]), (18, .ireturn, 1, [])]),
  (false, [(19, .aload_n 0, 1, []), (20, .getfield 12, 3, [3, 0]), (23, .invokevirtual 116, 3, [0, 24, 1, 2]), (26, .lconst 0, 1, []), (27, .lcmp, 1, []), (28, .ifCond .eq 11, 3, [4])]),
  (false, [(31, .aload_n 0, 1, []), (32, .sipush (-1003), 3, []), (35, .invokevirtual 49, 3, [0, 88, 2, 1]), (38, .ireturn, 1, [])]),
  (false, [(39, .aload_n 0, 1, []), (40, .getfield 22, 3, [3, 2]), (43, .aload_n 0, 1, []), (44, .getfield 12, 3, [3, 0]), (47, .iload_n 1, 1, []), (48, .invokevirtual 173, 3, [0, 43, 3, 1]), (51, .ireturn, 1, [])])]
theorem cb_X3_room_0 : (blk md_X3_room 0).2 = [(0, .aload_n 0, 1, []), (1, .getfield 12, 3, [3, 0]), (4, .iload_n 1, 1, []), (5, .invokevirtual 59, 3, [0, 1, 2, 1]), (8, .ifCond .ne 11, 3, [2])] := rfl
theorem cb_X3_room_1 : (blk md_X3_room 1).2 = [(11, .aload_n 0, 1, []), (12, .sipush (-1001), 3, []), (15, .invokevirtual 49, 3, [0, 88, 2, 1]), (18, .ireturn, 1, [])] := rfl
theorem cb_X3_room_2 : (blk md_X3_room 2).2 = [(19, .aload_n 0, 1, []), (20, .getfield 12, 3, [3, 0]), (23, .invokevirtual 116, 3, [0, 24, 1, 2]), (26, .lconst 0, 1, []), (27, .lcmp, 1, []), (28, .ifCond .eq 11, 3, [4])] := rfl
theorem cb_X3_room_3 : (blk md_X3_room 3).2 = [(31, .aload_n 0, 1, []), (32, .sipush (-1003), 3, []), (35, .invokevirtual 49, 3, [0, 88, 2, 1]), (38, .ireturn, 1, [])] := rfl
theorem cb_X3_room_4 : (blk md_X3_room 4).2 = [(39, .aload_n 0, 1, []), (40, .getfield 22, 3, [3, 2]), (43, .aload_n 0, 1, []), (44, .getfield 12, 3, [3, 0]), (47, .iload_n 1, 1, []), (48, .invokevirtual 173, 3, [0, 43, 3, 1]), (51, .ireturn, 1, [])] := rfl
def md_X3_feed : List mB := [
  (false, [(0, .iload_n 3, 1, []), (1, .iconst 1, 1, []), (2, .if_icmp .lt 9, 3, [2])]),
  (false, [(5, .iload_n 3, 1, []), (6, .bipush 8, 2, []), (8, .if_icmp .le 11, 3, [3])]),
  (false, [(11, .aload_n 0, 1, []), (12, .sipush (-1001), 3, []), (15, .invokevirtual 49, 3, [0, 88, 2, 1]), (18, .ireturn, 1, [])]),
  (false, [(19, .aload_n 0, 1, []), (20, .getfield 29, 3, [3, 3]), (23, .getfield 177, 3, [1, 2]), (26, .iload_n 3, 1, []), (27, .iadd, 1, []), (28, .bipush 120, 2, []), (30, .if_icmp .le 11, 3, [5])]),
  (false, [(33, .aload_n 0, 1, []), (34, .sipush (-1002), 3, []), (37, .invokevirtual 49, 3, [0, 88, 2, 1]), (40, .ireturn, 1, [])]),
  (false, [(41, .iconst 0, 1, []), (42, .istore 4, 2, [])]),
  (false, [(44, .iload 4, 2, []), (46, .iload_n 3, 1, []), (47, .if_icmp .ge 28, 3, [8])]),
  (false, [(50, .aload_n 0, 1, []), (51, .getfield 29, 3, [3, 3]), (54, .lload_n 1, 1, []), (55, .bipush 8, 2, []), (57, .iload 4, 2, []), (59, .imul, 1, []), (60, .lushr, 1, []), (61, .l2i, 1, []), (62, .sipush 255, 3, []), (65, .iand, 1, []), (66, .invokevirtual 180, 3, [0, 28, 2, 0]), (69, .iinc 4 1, 3, []), (72, .goto (-28), 3, [6])]),
  (false, [(75, .aload_n 0, 1, []), (76, .getfield 29, 3, [3, 3]), (79, .getfield 177, 3, [1, 2]), (82, .ireturn, 1, [])])]
theorem cb_X3_feed_0 : (blk md_X3_feed 0).2 = [(0, .iload_n 3, 1, []), (1, .iconst 1, 1, []), (2, .if_icmp .lt 9, 3, [2])] := rfl
theorem cb_X3_feed_1 : (blk md_X3_feed 1).2 = [(5, .iload_n 3, 1, []), (6, .bipush 8, 2, []), (8, .if_icmp .le 11, 3, [3])] := rfl
theorem cb_X3_feed_2 : (blk md_X3_feed 2).2 = [(11, .aload_n 0, 1, []), (12, .sipush (-1001), 3, []), (15, .invokevirtual 49, 3, [0, 88, 2, 1]), (18, .ireturn, 1, [])] := rfl
theorem cb_X3_feed_3 : (blk md_X3_feed 3).2 = [(19, .aload_n 0, 1, []), (20, .getfield 29, 3, [3, 3]), (23, .getfield 177, 3, [1, 2]), (26, .iload_n 3, 1, []), (27, .iadd, 1, []), (28, .bipush 120, 2, []), (30, .if_icmp .le 11, 3, [5])] := rfl
theorem cb_X3_feed_4 : (blk md_X3_feed 4).2 = [(33, .aload_n 0, 1, []), (34, .sipush (-1002), 3, []), (37, .invokevirtual 49, 3, [0, 88, 2, 1]), (40, .ireturn, 1, [])] := rfl
theorem cb_X3_feed_5 : (blk md_X3_feed 5).2 = [(41, .iconst 0, 1, []), (42, .istore 4, 2, [])] := rfl
theorem cb_X3_feed_6 : (blk md_X3_feed 6).2 = [(44, .iload 4, 2, []), (46, .iload_n 3, 1, []), (47, .if_icmp .ge 28, 3, [8])] := rfl
theorem cb_X3_feed_7 : (blk md_X3_feed 7).2 = [(50, .aload_n 0, 1, []), (51, .getfield 29, 3, [3, 3]), (54, .lload_n 1, 1, []), (55, .bipush 8, 2, []), (57, .iload 4, 2, []), (59, .imul, 1, []), (60, .lushr, 1, []), (61, .l2i, 1, []), (62, .sipush 255, 3, []), (65, .iand, 1, []), (66, .invokevirtual 180, 3, [0, 28, 2, 0]), (69, .iinc 4 1, 3, []), (72, .goto (-28), 3, [6])] := rfl
theorem cb_X3_feed_8 : (blk md_X3_feed 8).2 = [(75, .aload_n 0, 1, []), (76, .getfield 29, 3, [3, 3]), (79, .getfield 177, 3, [1, 2]), (82, .ireturn, 1, [])] := rfl
def md_X3_wipe : List mB := [
  (false, [(0, .aload_n 0, 1, []), (1, .getfield 29, 3, [3, 3]), (4, .getfield 177, 3, [1, 2]), (7, .istore_n 1, 1, []), (8, .aload_n 0, 1, []), (9, .getfield 29, 3, [3, 3]), (12, .iconst 0, 1, []), (13, .putfield 177, 3, [1, 2]), (16, .iload_n 1, 1, []), (17, .ireturn, 1, [])])]
theorem cb_X3_wipe_0 : (blk md_X3_wipe 0).2 = [(0, .aload_n 0, 1, []), (1, .getfield 29, 3, [3, 3]), (4, .getfield 177, 3, [1, 2]), (7, .istore_n 1, 1, []), (8, .aload_n 0, 1, []), (9, .getfield 29, 3, [3, 3]), (12, .iconst 0, 1, []), (13, .putfield 177, 3, [1, 2]), (16, .iload_n 1, 1, []), (17, .ireturn, 1, [])] := rfl
def md_X3_run : List mB := [
  (false, [(0, .aload_n 0, 1, []), (1, .getfield 29, 3, [3, 3]), (4, .invokevirtual 184, 3, [0, 30, 1, 1]), (7, .istore_n 1, 1, []), (8, .iload_n 1, 1, []), (9, .iconst (-1), 1, []), (10, .if_icmp .ne 13, 3, [2])]),
  (false, [(13, .aload_n 0, 1, []), (14, .getfield 29, 3, [3, 3]), (17, .getfield 187, 3, [1, 5]), (20, .goto 7, 3, [3])]),
  (false, [(23, .bipush (-10), 2, []), (25, .iload_n 1, 1, []), (26, .isub, 1, [])]),
  (false, [(27, .istore_n 2, 1, []), (28, .aload_n 0, 1, []), (29, .getfield 29, 3, [3, 3]), (32, .getfield 190, 3, [1, 1]), (35, .astore_n 3, 1, []), (36, .aload_n 0, 1, []), (37, .getfield 29, 3, [3, 3]), (40, .iconst 0, 1, []), (41, .putfield 193, 3, [1, 3]), (44, .iconst 0, 1, []), (45, .istore 4, 2, [])]),
  (false, [(47, .iload 4, 2, []), (49, .iload_n 2, 1, []), (50, .if_icmp .ge 59, 3, [8])]),
  (false, [(53, .aload_n 0, 1, []), (54, .getfield 29, 3, [3, 3]), (57, .invokevirtual 195, 3, [0, 32, 1, 1]), (60, .pop, 1, []), (61, .aload_n 0, 1, []), (62, .aload_n 0, 1, []), (63, .aload_n 0, 1, []), (64, .getfield 29, 3, [3, 3]), (67, .getfield 199, 3, [1, 4]), (70, .aload_n 3, 1, []), (71, .iconst 0, 1, []), (72, .iaload, 1, []), (73, .aload_n 3, 1, []), (74, .iconst 1, 1, []), (75, .iaload, 1, []), (76, .aload_n 3, 1, []), (77, .iconst 2, 1, []), (78, .iaload, 1, []), (79, .invokevirtual 87, 3, [0, 89, 5, 1]), (82, .invokevirtual 91, 3, [0, 90, 2, 1]), (85, .ifCond .ge 10, 3, [7])]),
  (false, [(88, .sipush (-300), 3, []), (91, .iload 4, 2, []), (93, .isub, 1, []), (94, .istore_n 2, 1, [])]),
  (false, [(95, .aload_n 0, 1, []), (96, .getfield 29, 3, [3, 3]), (99, .invokevirtual 202, 3, [0, 31, 1, 1]), (102, .pop, 1, []), (103, .iinc 4 1, 3, []), (106, .goto (-59), 3, [4])]),
  (false, [(109, .aload_n 0, 1, []), (110, .getfield 29, 3, [3, 3]), (113, .iconst 0, 1, []), (114, .putfield 177, 3, [1, 2]), (117, .iload_n 2, 1, []), (118, .ireturn, 1, [])])]
theorem cb_X3_run_0 : (blk md_X3_run 0).2 = [(0, .aload_n 0, 1, []), (1, .getfield 29, 3, [3, 3]), (4, .invokevirtual 184, 3, [0, 30, 1, 1]), (7, .istore_n 1, 1, []), (8, .iload_n 1, 1, []), (9, .iconst (-1), 1, []), (10, .if_icmp .ne 13, 3, [2])] := rfl
theorem cb_X3_run_1 : (blk md_X3_run 1).2 = [(13, .aload_n 0, 1, []), (14, .getfield 29, 3, [3, 3]), (17, .getfield 187, 3, [1, 5]), (20, .goto 7, 3, [3])] := rfl
theorem cb_X3_run_2 : (blk md_X3_run 2).2 = [(23, .bipush (-10), 2, []), (25, .iload_n 1, 1, []), (26, .isub, 1, [])] := rfl
theorem cb_X3_run_3 : (blk md_X3_run 3).2 = [(27, .istore_n 2, 1, []), (28, .aload_n 0, 1, []), (29, .getfield 29, 3, [3, 3]), (32, .getfield 190, 3, [1, 1]), (35, .astore_n 3, 1, []), (36, .aload_n 0, 1, []), (37, .getfield 29, 3, [3, 3]), (40, .iconst 0, 1, []), (41, .putfield 193, 3, [1, 3]), (44, .iconst 0, 1, []), (45, .istore 4, 2, [])] := rfl
theorem cb_X3_run_4 : (blk md_X3_run 4).2 = [(47, .iload 4, 2, []), (49, .iload_n 2, 1, []), (50, .if_icmp .ge 59, 3, [8])] := rfl
theorem cb_X3_run_5 : (blk md_X3_run 5).2 = [(53, .aload_n 0, 1, []), (54, .getfield 29, 3, [3, 3]), (57, .invokevirtual 195, 3, [0, 32, 1, 1]), (60, .pop, 1, []), (61, .aload_n 0, 1, []), (62, .aload_n 0, 1, []), (63, .aload_n 0, 1, []), (64, .getfield 29, 3, [3, 3]), (67, .getfield 199, 3, [1, 4]), (70, .aload_n 3, 1, []), (71, .iconst 0, 1, []), (72, .iaload, 1, []), (73, .aload_n 3, 1, []), (74, .iconst 1, 1, []), (75, .iaload, 1, []), (76, .aload_n 3, 1, []), (77, .iconst 2, 1, []), (78, .iaload, 1, []), (79, .invokevirtual 87, 3, [0, 89, 5, 1]), (82, .invokevirtual 91, 3, [0, 90, 2, 1]), (85, .ifCond .ge 10, 3, [7])] := rfl
theorem cb_X3_run_6 : (blk md_X3_run 6).2 = [(88, .sipush (-300), 3, []), (91, .iload 4, 2, []), (93, .isub, 1, []), (94, .istore_n 2, 1, [])] := rfl
theorem cb_X3_run_7 : (blk md_X3_run 7).2 = [(95, .aload_n 0, 1, []), (96, .getfield 29, 3, [3, 3]), (99, .invokevirtual 202, 3, [0, 31, 1, 1]), (102, .pop, 1, []), (103, .iinc 4 1, 3, []), (106, .goto (-59), 3, [4])] := rfl
theorem cb_X3_run_8 : (blk md_X3_run 8).2 = [(109, .aload_n 0, 1, []), (110, .getfield 29, 3, [3, 3]), (113, .iconst 0, 1, []), (114, .putfield 177, 3, [1, 2]), (117, .iload_n 2, 1, []), (118, .ireturn, 1, [])] := rfl
def md_X3_keep : List mB := [
  (false, [(0, .aload_n 0, 1, []), (1, .getfield 16, 3, [3, 1]), (4, .aload_n 0, 1, []), (5, .getfield 12, 3, [3, 0]), (8, .invokevirtual 205, 3, [0, 0, 2, 0]), (11, .aload_n 0, 1, []), (12, .iconst 1, 1, []), (13, .putfield 37, 3, [3, 5, 1]), (16, .aload_n 0, 1, []), (17, .getfield 12, 3, [3, 0]), (20, .invokevirtual 119, 3, [0, 25, 1, 2]), (23, .invokestatic 167, 3, [1, 191, 1, 1]), (26, .ireturn, 1, [])])]
theorem cb_X3_keep_0 : (blk md_X3_keep 0).2 = [(0, .aload_n 0, 1, []), (1, .getfield 16, 3, [3, 1]), (4, .aload_n 0, 1, []), (5, .getfield 12, 3, [3, 0]), (8, .invokevirtual 205, 3, [0, 0, 2, 0]), (11, .aload_n 0, 1, []), (12, .iconst 1, 1, []), (13, .putfield 37, 3, [3, 5, 1]), (16, .aload_n 0, 1, []), (17, .getfield 12, 3, [3, 0]), (20, .invokevirtual 119, 3, [0, 25, 1, 2]), (23, .invokestatic 167, 3, [1, 191, 1, 1]), (26, .ireturn, 1, [])] := rfl
def md_X3_again : List mB := [
  (false, [(0, .aload_n 0, 1, []), (1, .getfield 37, 3, [3, 5]), (4, .ifCond .ne 11, 3, [2])]),
  (false, [(7, .aload_n 0, 1, []), (8, .sipush (-1003), 3, []), (11, .invokevirtual 49, 3, [0, 88, 2, 1]), (14, .ireturn, 1, [])]),
  (false, [(15, .aload_n 0, 1, []), (16, .getfield 12, 3, [3, 0]), (19, .aload_n 0, 1, []), (20, .getfield 16, 3, [3, 1]), (23, .invokevirtual 205, 3, [0, 0, 2, 0]), (26, .aload_n 0, 1, []), (27, .getfield 12, 3, [3, 0]), (30, .invokevirtual 119, 3, [0, 25, 1, 2]), (33, .invokestatic 167, 3, [1, 191, 1, 1]), (36, .ireturn, 1, [])])]
theorem cb_X3_again_0 : (blk md_X3_again 0).2 = [(0, .aload_n 0, 1, []), (1, .getfield 37, 3, [3, 5]), (4, .ifCond .ne 11, 3, [2])] := rfl
theorem cb_X3_again_1 : (blk md_X3_again 1).2 = [(7, .aload_n 0, 1, []), (8, .sipush (-1003), 3, []), (11, .invokevirtual 49, 3, [0, 88, 2, 1]), (14, .ireturn, 1, [])] := rfl
theorem cb_X3_again_2 : (blk md_X3_again 2).2 = [(15, .aload_n 0, 1, []), (16, .getfield 12, 3, [3, 0]), (19, .aload_n 0, 1, []), (20, .getfield 16, 3, [3, 1]), (23, .invokevirtual 205, 3, [0, 0, 2, 0]), (26, .aload_n 0, 1, []), (27, .getfield 12, 3, [3, 0]), (30, .invokevirtual 119, 3, [0, 25, 1, 2]), (33, .invokestatic 167, 3, [1, 191, 1, 1]), (36, .ireturn, 1, [])] := rfl
def md_X3_count : List mB := [
  (false, [(0, .iload_n 1, 1, []), (1, .tableswitch 87 0 5 #[39, 47, 55, 66, 74, 82], 39, [7, 1, 2, 3, 4, 5, 6])]),
  (false, [(40, .aload_n 0, 1, []), (41, .getfield 12, 3, [3, 0]), (44, .getfield 53, 3, [0, 5]), (47, .ireturn, 1, [])]),
  (false, [(48, .aload_n 0, 1, []), (49, .getfield 12, 3, [3, 0]), (52, .invokevirtual 209, 3, [0, 5, 1, 1]), (55, .ireturn, 1, [])]),
  (false, [(56, .aload_n 0, 1, []), (57, .getfield 12, 3, [3, 0]), (60, .invokevirtual 119, 3, [0, 25, 1, 2]), (63, .invokestatic 167, 3, [1, 191, 1, 1]), (66, .ireturn, 1, [])]),
  (false, [(67, .aload_n 0, 1, []), (68, .getfield 12, 3, [3, 0]), (71, .getfield 94, 3, [0, 6]), (74, .ireturn, 1, [])]),
  (false, [(75, .aload_n 0, 1, []), (76, .getfield 29, 3, [3, 3]), (79, .getfield 177, 3, [1, 2]), (82, .ireturn, 1, [])]),
  (false, [(83, .aload_n 0, 1, []), (84, .getfield 41, 3, [3, 6]), (87, .ireturn, 1, [])]),
  (false, [(88, .aload_n 0, 1, []), (89, .sipush (-1001), 3, []), (92, .invokevirtual 49, 3, [0, 88, 2, 1]), (95, .ireturn, 1, [])])]
theorem cb_X3_count_0 : (blk md_X3_count 0).2 = [(0, .iload_n 1, 1, []), (1, .tableswitch 87 0 5 #[39, 47, 55, 66, 74, 82], 39, [7, 1, 2, 3, 4, 5, 6])] := rfl
theorem cb_X3_count_1 : (blk md_X3_count 1).2 = [(40, .aload_n 0, 1, []), (41, .getfield 12, 3, [3, 0]), (44, .getfield 53, 3, [0, 5]), (47, .ireturn, 1, [])] := rfl
theorem cb_X3_count_2 : (blk md_X3_count 2).2 = [(48, .aload_n 0, 1, []), (49, .getfield 12, 3, [3, 0]), (52, .invokevirtual 209, 3, [0, 5, 1, 1]), (55, .ireturn, 1, [])] := rfl
theorem cb_X3_count_3 : (blk md_X3_count 3).2 = [(56, .aload_n 0, 1, []), (57, .getfield 12, 3, [3, 0]), (60, .invokevirtual 119, 3, [0, 25, 1, 2]), (63, .invokestatic 167, 3, [1, 191, 1, 1]), (66, .ireturn, 1, [])] := rfl
theorem cb_X3_count_4 : (blk md_X3_count 4).2 = [(67, .aload_n 0, 1, []), (68, .getfield 12, 3, [3, 0]), (71, .getfield 94, 3, [0, 6]), (74, .ireturn, 1, [])] := rfl
theorem cb_X3_count_5 : (blk md_X3_count 5).2 = [(75, .aload_n 0, 1, []), (76, .getfield 29, 3, [3, 3]), (79, .getfield 177, 3, [1, 2]), (82, .ireturn, 1, [])] := rfl
theorem cb_X3_count_6 : (blk md_X3_count 6).2 = [(83, .aload_n 0, 1, []), (84, .getfield 41, 3, [3, 6]), (87, .ireturn, 1, [])] := rfl
theorem cb_X3_count_7 : (blk md_X3_count 7).2 = [(88, .aload_n 0, 1, []), (89, .sipush (-1001), 3, []), (92, .invokevirtual 49, 3, [0, 88, 2, 1]), (95, .ireturn, 1, [])] := rfl
def md_X3_refused : List mB := [
  (false, [(0, .iload_n 1, 1, []), (1, .ifCond .lt 8, 3, [2])]),
  (false, [(4, .iload_n 1, 1, []), (5, .iconst 4, 1, []), (6, .if_icmp .lt 11, 3, [3])]),
  (false, [(9, .aload_n 0, 1, []), (10, .sipush (-1001), 3, []), (13, .invokevirtual 49, 3, [0, 88, 2, 1]), (16, .ireturn, 1, [])]),
  (false, [(17, .aload_n 0, 1, []), (18, .getfield 33, 3, [3, 4]), (21, .iload_n 1, 1, []), (22, .iaload, 1, []), (23, .ireturn, 1, [])])]
theorem cb_X3_refused_0 : (blk md_X3_refused 0).2 = [(0, .iload_n 1, 1, []), (1, .ifCond .lt 8, 3, [2])] := rfl
theorem cb_X3_refused_1 : (blk md_X3_refused 1).2 = [(4, .iload_n 1, 1, []), (5, .iconst 4, 1, []), (6, .if_icmp .lt 11, 3, [3])] := rfl
theorem cb_X3_refused_2 : (blk md_X3_refused 2).2 = [(9, .aload_n 0, 1, []), (10, .sipush (-1001), 3, []), (13, .invokevirtual 49, 3, [0, 88, 2, 1]), (16, .ireturn, 1, [])] := rfl
theorem cb_X3_refused_3 : (blk md_X3_refused 3).2 = [(17, .aload_n 0, 1, []), (18, .getfield 33, 3, [3, 4]), (21, .iload_n 1, 1, []), (22, .iaload, 1, []), (23, .ireturn, 1, [])] := rfl
def md_X3_refuse : List mB := [
  (false, [(0, .sipush (-1001), 3, []), (3, .iload_n 1, 1, []), (4, .isub, 1, []), (5, .istore_n 2, 1, []), (6, .iload_n 2, 1, []), (7, .ifCond .lt 18, 3, [3])]),
  (false, [(10, .iload_n 2, 1, []), (11, .iconst 4, 1, []), (12, .if_icmp .ge 13, 3, [3])]),
  (false, [(15, .aload_n 0, 1, []), (16, .getfield 33, 3, [3, 4]), (19, .iload_n 2, 1, []), (20, .dup2, 1, []), (21, .iaload, 1, []), (22, .iconst 1, 1, []), (23, .iadd, 1, []), (24, .iastore, 1, [])]),
  (false, [(25, .iload_n 1, 1, []), (26, .ireturn, 1, [])])]
theorem cb_X3_refuse_0 : (blk md_X3_refuse 0).2 = [(0, .sipush (-1001), 3, []), (3, .iload_n 1, 1, []), (4, .isub, 1, []), (5, .istore_n 2, 1, []), (6, .iload_n 2, 1, []), (7, .ifCond .lt 18, 3, [3])] := rfl
theorem cb_X3_refuse_1 : (blk md_X3_refuse 1).2 = [(10, .iload_n 2, 1, []), (11, .iconst 4, 1, []), (12, .if_icmp .ge 13, 3, [3])] := rfl
theorem cb_X3_refuse_2 : (blk md_X3_refuse 2).2 = [(15, .aload_n 0, 1, []), (16, .getfield 33, 3, [3, 4]), (19, .iload_n 2, 1, []), (20, .dup2, 1, []), (21, .iaload, 1, []), (22, .iconst 1, 1, []), (23, .iadd, 1, []), (24, .iastore, 1, [])] := rfl
theorem cb_X3_refuse_3 : (blk md_X3_refuse 3).2 = [(25, .iload_n 1, 1, []), (26, .ireturn, 1, [])] := rfl
def md_X3_foresee : List mB := [
  (false, [(0, .aload_n 0, 1, []), (1, .iload_n 1, 1, []), (2, .iload_n 2, 1, []), (3, .iload_n 3, 1, []), (4, .iload 4, 2, []), (6, .invokevirtual 212, 3, [0, 91, 5, 1]), (9, .ifCond .ne 11, 3, [2])]),
  (false, [(12, .aload_n 0, 1, []), (13, .sipush (-1001), 3, []), (16, .invokevirtual 49, 3, [0, 88, 2, 1]), (19, .ireturn, 1, [])]),
  (false, [(20, .aload_n 0, 1, []), (21, .getfield 12, 3, [3, 0]), (24, .invokevirtual 116, 3, [0, 24, 1, 2]), (27, .lconst 0, 1, []), (28, .lcmp, 1, []), (29, .ifCond .ne 12, 3, [4])]),
  (false, [(32, .aload_n 0, 1, []), (33, .iload_n 1, 1, []), (34, .iload_n 2, 1, []), (35, .invokevirtual 216, 3, [0, 92, 3, 1]), (38, .ifCond .eq 11, 3, [5])]),
  (false, [(41, .aload_n 0, 1, []), (42, .sipush (-1003), 3, []), (45, .invokevirtual 49, 3, [0, 88, 2, 1]), (48, .ireturn, 1, [])]),
  (false, [(49, .iload_n 1, 1, []), (50, .bipush 7, 2, []), (52, .if_icmp .ne 23, 3, [8])]),
  (false, [(55, .aload_n 0, 1, []), (56, .getfield 12, 3, [3, 0]), (59, .iload_n 3, 1, []), (60, .iload_n 2, 1, []), (61, .invokevirtual 219, 3, [0, 8, 3, 1]), (64, .ifCond .eq 11, 3, [8])]),
  (false, [(67, .aload_n 0, 1, []), (68, .sipush (-1004), 3, []), (71, .invokevirtual 49, 3, [0, 88, 2, 1]), (74, .ireturn, 1, [])]),
  (false, [(75, .aload_n 0, 1, []), (76, .getfield 22, 3, [3, 2]), (79, .iload_n 1, 1, []), (80, .iload_n 2, 1, []), (81, .iload_n 3, 1, []), (82, .iload 4, 2, []), (84, .invokevirtual 222, 3, [0, 34, 5, 0]), (87, .aload_n 0, 1, []), (88, .getfield 22, 3, [3, 2]), (91, .aload_n 0, 1, []), (92, .getfield 12, 3, [3, 0]), (95, .ldc 226, 2, [0, 1000000]), (97, .invokevirtual 160, 3, [0, 39, 3, 0]), (100, .aload_n 0, 1, []), (101, .getfield 22, 3, [3, 2]), (104, .getfield 227, 3, [2, 7]), (107, .sipush (-1002), 3, []), (110, .if_icmp .ne 13, 3, [10])]),
  (false, [(113, .aload_n 0, 1, []), (114, .sipush (-1002), 3, []), (117, .invokevirtual 49, 3, [0, 88, 2, 1]), (120, .goto 10, 3, [11])]),
  (false, [(123, .aload_n 0, 1, []), (124, .getfield 22, 3, [3, 2]), (127, .getfield 230, 3, [2, 6])]),
  (false, [(130, .ireturn, 1, [])])]
theorem cb_X3_foresee_0 : (blk md_X3_foresee 0).2 = [(0, .aload_n 0, 1, []), (1, .iload_n 1, 1, []), (2, .iload_n 2, 1, []), (3, .iload_n 3, 1, []), (4, .iload 4, 2, []), (6, .invokevirtual 212, 3, [0, 91, 5, 1]), (9, .ifCond .ne 11, 3, [2])] := rfl
theorem cb_X3_foresee_1 : (blk md_X3_foresee 1).2 = [(12, .aload_n 0, 1, []), (13, .sipush (-1001), 3, []), (16, .invokevirtual 49, 3, [0, 88, 2, 1]), (19, .ireturn, 1, [])] := rfl
theorem cb_X3_foresee_2 : (blk md_X3_foresee 2).2 = [(20, .aload_n 0, 1, []), (21, .getfield 12, 3, [3, 0]), (24, .invokevirtual 116, 3, [0, 24, 1, 2]), (27, .lconst 0, 1, []), (28, .lcmp, 1, []), (29, .ifCond .ne 12, 3, [4])] := rfl
theorem cb_X3_foresee_3 : (blk md_X3_foresee 3).2 = [(32, .aload_n 0, 1, []), (33, .iload_n 1, 1, []), (34, .iload_n 2, 1, []), (35, .invokevirtual 216, 3, [0, 92, 3, 1]), (38, .ifCond .eq 11, 3, [5])] := rfl
theorem cb_X3_foresee_4 : (blk md_X3_foresee 4).2 = [(41, .aload_n 0, 1, []), (42, .sipush (-1003), 3, []), (45, .invokevirtual 49, 3, [0, 88, 2, 1]), (48, .ireturn, 1, [])] := rfl
theorem cb_X3_foresee_5 : (blk md_X3_foresee 5).2 = [(49, .iload_n 1, 1, []), (50, .bipush 7, 2, []), (52, .if_icmp .ne 23, 3, [8])] := rfl
theorem cb_X3_foresee_6 : (blk md_X3_foresee 6).2 = [(55, .aload_n 0, 1, []), (56, .getfield 12, 3, [3, 0]), (59, .iload_n 3, 1, []), (60, .iload_n 2, 1, []), (61, .invokevirtual 219, 3, [0, 8, 3, 1]), (64, .ifCond .eq 11, 3, [8])] := rfl
theorem cb_X3_foresee_7 : (blk md_X3_foresee 7).2 = [(67, .aload_n 0, 1, []), (68, .sipush (-1004), 3, []), (71, .invokevirtual 49, 3, [0, 88, 2, 1]), (74, .ireturn, 1, [])] := rfl
theorem cb_X3_foresee_8 : (blk md_X3_foresee 8).2 = [(75, .aload_n 0, 1, []), (76, .getfield 22, 3, [3, 2]), (79, .iload_n 1, 1, []), (80, .iload_n 2, 1, []), (81, .iload_n 3, 1, []), (82, .iload 4, 2, []), (84, .invokevirtual 222, 3, [0, 34, 5, 0]), (87, .aload_n 0, 1, []), (88, .getfield 22, 3, [3, 2]), (91, .aload_n 0, 1, []), (92, .getfield 12, 3, [3, 0]), (95, .ldc 226, 2, [0, 1000000]), (97, .invokevirtual 160, 3, [0, 39, 3, 0]), (100, .aload_n 0, 1, []), (101, .getfield 22, 3, [3, 2]), (104, .getfield 227, 3, [2, 7]), (107, .sipush (-1002), 3, []), (110, .if_icmp .ne 13, 3, [10])] := rfl
theorem cb_X3_foresee_9 : (blk md_X3_foresee 9).2 = [(113, .aload_n 0, 1, []), (114, .sipush (-1002), 3, []), (117, .invokevirtual 49, 3, [0, 88, 2, 1]), (120, .goto 10, 3, [11])] := rfl
theorem cb_X3_foresee_10 : (blk md_X3_foresee 10).2 = [(123, .aload_n 0, 1, []), (124, .getfield 22, 3, [3, 2]), (127, .getfield 230, 3, [2, 6])] := rfl
theorem cb_X3_foresee_11 : (blk md_X3_foresee 11).2 = [(130, .ireturn, 1, [])] := rfl
def md_X3_settle : List mB := [
  (false, [(0, .iload_n 1, 1, []), (1, .ifCond .ge 5, 3, [2])]),
  (false, [(4, .iload_n 1, 1, []), (5, .ireturn, 1, [])]),
  (false, [(6, .aload_n 0, 1, []), (7, .getfield 12, 3, [3, 0]), (10, .getfield 94, 3, [0, 6]), (13, .iconst (-1), 1, []), (14, .if_icmp .eq 21, 3, [4])]),
  (false, [(17, .aload_n 0, 1, []), (18, .getfield 22, 3, [3, 2]), (21, .aload_n 0, 1, []), (22, .getfield 12, 3, [3, 0]), (25, .aload_n 0, 1, []), (26, .getfield 12, 3, [3, 0]), (29, .getfield 94, 3, [0, 6]), (32, .invokevirtual 160, 3, [0, 39, 3, 0])]),
  (false, [(35, .aload_n 0, 1, []), (36, .getfield 12, 3, [3, 0]), (39, .aload_n 0, 1, []), (40, .getfield 22, 3, [3, 2]), (43, .getfield 164, 3, [2, 0]), (46, .invokevirtual 205, 3, [0, 0, 2, 0]), (49, .aload_n 0, 1, []), (50, .getfield 12, 3, [3, 0]), (53, .iconst (-1), 1, []), (54, .putfield 94, 3, [0, 6]), (57, .aload_n 0, 1, []), (58, .dup, 1, []), (59, .getfield 41, 3, [3, 6]), (62, .aload_n 0, 1, []), (63, .getfield 22, 3, [3, 2]), (66, .getfield 230, 3, [2, 6]), (69, .iadd, 1, []), (70, .putfield 41, 3, [3, 6]), (73, .aload_n 0, 1, []), (74, .getfield 22, 3, [3, 2]), (77, .getfield 227, 3, [2, 7]), (80, .sipush (-1005), 3, []), (83, .if_icmp .ne 9, 3, [6])]),
  (false, [(86, .sipush (-1005), 3, []), (89, .goto 10, 3, [7])]),
  (false, [(92, .aload_n 0, 1, []), (93, .getfield 22, 3, [3, 2]), (96, .getfield 230, 3, [2, 6])]),
  (false, [(99, .ireturn, 1, [])])]
theorem cb_X3_settle_0 : (blk md_X3_settle 0).2 = [(0, .iload_n 1, 1, []), (1, .ifCond .ge 5, 3, [2])] := rfl
theorem cb_X3_settle_1 : (blk md_X3_settle 1).2 = [(4, .iload_n 1, 1, []), (5, .ireturn, 1, [])] := rfl
theorem cb_X3_settle_2 : (blk md_X3_settle 2).2 = [(6, .aload_n 0, 1, []), (7, .getfield 12, 3, [3, 0]), (10, .getfield 94, 3, [0, 6]), (13, .iconst (-1), 1, []), (14, .if_icmp .eq 21, 3, [4])] := rfl
theorem cb_X3_settle_3 : (blk md_X3_settle 3).2 = [(17, .aload_n 0, 1, []), (18, .getfield 22, 3, [3, 2]), (21, .aload_n 0, 1, []), (22, .getfield 12, 3, [3, 0]), (25, .aload_n 0, 1, []), (26, .getfield 12, 3, [3, 0]), (29, .getfield 94, 3, [0, 6]), (32, .invokevirtual 160, 3, [0, 39, 3, 0])] := rfl
theorem cb_X3_settle_4 : (blk md_X3_settle 4).2 = [(35, .aload_n 0, 1, []), (36, .getfield 12, 3, [3, 0]), (39, .aload_n 0, 1, []), (40, .getfield 22, 3, [3, 2]), (43, .getfield 164, 3, [2, 0]), (46, .invokevirtual 205, 3, [0, 0, 2, 0]), (49, .aload_n 0, 1, []), (50, .getfield 12, 3, [3, 0]), (53, .iconst (-1), 1, []), (54, .putfield 94, 3, [0, 6]), (57, .aload_n 0, 1, []), (58, .dup, 1, []), (59, .getfield 41, 3, [3, 6]), (62, .aload_n 0, 1, []), (63, .getfield 22, 3, [3, 2]), (66, .getfield 230, 3, [2, 6]), (69, .iadd, 1, []), (70, .putfield 41, 3, [3, 6]), (73, .aload_n 0, 1, []), (74, .getfield 22, 3, [3, 2]), (77, .getfield 227, 3, [2, 7]), (80, .sipush (-1005), 3, []), (83, .if_icmp .ne 9, 3, [6])] := rfl
theorem cb_X3_settle_5 : (blk md_X3_settle 5).2 = [(86, .sipush (-1005), 3, []), (89, .goto 10, 3, [7])] := rfl
theorem cb_X3_settle_6 : (blk md_X3_settle 6).2 = [(92, .aload_n 0, 1, []), (93, .getfield 22, 3, [3, 2]), (96, .getfield 230, 3, [2, 6])] := rfl
theorem cb_X3_settle_7 : (blk md_X3_settle 7).2 = [(99, .ireturn, 1, [])] := rfl
def md_X3_fits : List mB := [
  (false, [(0, .iload_n 1, 1, []), (1, .tableswitch 168 0 7 #[47, 84, 93, 93, 102, 84, 168, 129], 47, [23, 1, 8, 9, 9, 10, 8, 23, 16])]),
  (false, [(48, .aload_n 0, 1, []), (49, .getfield 12, 3, [3, 0]), (52, .iload_n 2, 1, []), (53, .invokevirtual 59, 3, [0, 1, 2, 1]), (56, .ifCond .eq 27, 3, [6])]),
  (false, [(59, .iload_n 3, 1, []), (60, .invokestatic 74, 3, [1, 96, 1, 1]), (63, .ifCond .eq 20, 3, [6])]),
  (false, [(66, .iload 4, 2, []), (68, .ifCond .lt 15, 3, [6])]),
  (false, [(71, .iload 4, 2, []), (73, .sipush 255, 3, []), (76, .if_icmp .gt 7, 3, [6])]),
  (false, [(79, .iconst 1, 1, []), (80, .goto 4, 3, [7])]),
  (false, [(83, .iconst 0, 1, [])]),
  (false, [(84, .ireturn, 1, [1])]),
  (false, [(85, .aload_n 0, 1, []), (86, .getfield 12, 3, [3, 0]), (89, .iload_n 2, 1, []), (90, .invokevirtual 59, 3, [0, 1, 2, 1]), (93, .ireturn, 1, [1])]),
  (false, [(94, .aload_n 0, 1, []), (95, .getfield 12, 3, [3, 0]), (98, .iload_n 2, 1, []), (99, .invokevirtual 81, 3, [0, 3, 2, 1]), (102, .ireturn, 1, [1])]),
  (false, [(103, .aload_n 0, 1, []), (104, .getfield 12, 3, [3, 0]), (107, .iload_n 2, 1, []), (108, .invokevirtual 59, 3, [0, 1, 2, 1]), (111, .ifCond .eq 17, 3, [14])]),
  (false, [(114, .iload_n 3, 1, []), (115, .ifCond .lt 13, 3, [14])]),
  (false, [(118, .iload_n 3, 1, []), (119, .bipush 16, 2, []), (121, .if_icmp .ge 7, 3, [14])]),
  (false, [(124, .iconst 1, 1, []), (125, .goto 4, 3, [15])]),
  (false, [(128, .iconst 0, 1, [])]),
  (false, [(129, .ireturn, 1, [1])]),
  (false, [(130, .aload_n 0, 1, []), (131, .getfield 12, 3, [3, 0]), (134, .iload_n 2, 1, []), (135, .invokevirtual 59, 3, [0, 1, 2, 1]), (138, .ifCond .eq 29, 3, [21])]),
  (false, [(141, .aload_n 0, 1, []), (142, .getfield 12, 3, [3, 0]), (145, .iload_n 3, 1, []), (146, .invokevirtual 45, 3, [0, 2, 2, 1]), (149, .ifCond .eq 18, 3, [21])]),
  (false, [(152, .iload 4, 2, []), (154, .ifCond .eq 9, 3, [20])]),
  (false, [(157, .iload 4, 2, []), (159, .iconst 1, 1, []), (160, .if_icmp .ne 7, 3, [21])]),
  (false, [(163, .iconst 1, 1, []), (164, .goto 4, 3, [22])]),
  (false, [(167, .iconst 0, 1, [])]),
  (false, [(168, .ireturn, 1, [1])]),
  (false, [(169, .iconst 1, 1, []), (170, .ireturn, 1, [1])])]
theorem cb_X3_fits_0 : (blk md_X3_fits 0).2 = [(0, .iload_n 1, 1, []), (1, .tableswitch 168 0 7 #[47, 84, 93, 93, 102, 84, 168, 129], 47, [23, 1, 8, 9, 9, 10, 8, 23, 16])] := rfl
theorem cb_X3_fits_1 : (blk md_X3_fits 1).2 = [(48, .aload_n 0, 1, []), (49, .getfield 12, 3, [3, 0]), (52, .iload_n 2, 1, []), (53, .invokevirtual 59, 3, [0, 1, 2, 1]), (56, .ifCond .eq 27, 3, [6])] := rfl
theorem cb_X3_fits_2 : (blk md_X3_fits 2).2 = [(59, .iload_n 3, 1, []), (60, .invokestatic 74, 3, [1, 96, 1, 1]), (63, .ifCond .eq 20, 3, [6])] := rfl
theorem cb_X3_fits_3 : (blk md_X3_fits 3).2 = [(66, .iload 4, 2, []), (68, .ifCond .lt 15, 3, [6])] := rfl
theorem cb_X3_fits_4 : (blk md_X3_fits 4).2 = [(71, .iload 4, 2, []), (73, .sipush 255, 3, []), (76, .if_icmp .gt 7, 3, [6])] := rfl
theorem cb_X3_fits_5 : (blk md_X3_fits 5).2 = [(79, .iconst 1, 1, []), (80, .goto 4, 3, [7])] := rfl
theorem cb_X3_fits_6 : (blk md_X3_fits 6).2 = [(83, .iconst 0, 1, [])] := rfl
theorem cb_X3_fits_7 : (blk md_X3_fits 7).2 = [(84, .ireturn, 1, [1])] := rfl
theorem cb_X3_fits_8 : (blk md_X3_fits 8).2 = [(85, .aload_n 0, 1, []), (86, .getfield 12, 3, [3, 0]), (89, .iload_n 2, 1, []), (90, .invokevirtual 59, 3, [0, 1, 2, 1]), (93, .ireturn, 1, [1])] := rfl
theorem cb_X3_fits_9 : (blk md_X3_fits 9).2 = [(94, .aload_n 0, 1, []), (95, .getfield 12, 3, [3, 0]), (98, .iload_n 2, 1, []), (99, .invokevirtual 81, 3, [0, 3, 2, 1]), (102, .ireturn, 1, [1])] := rfl
theorem cb_X3_fits_10 : (blk md_X3_fits 10).2 = [(103, .aload_n 0, 1, []), (104, .getfield 12, 3, [3, 0]), (107, .iload_n 2, 1, []), (108, .invokevirtual 59, 3, [0, 1, 2, 1]), (111, .ifCond .eq 17, 3, [14])] := rfl
theorem cb_X3_fits_11 : (blk md_X3_fits 11).2 = [(114, .iload_n 3, 1, []), (115, .ifCond .lt 13, 3, [14])] := rfl
theorem cb_X3_fits_12 : (blk md_X3_fits 12).2 = [(118, .iload_n 3, 1, []), (119, .bipush 16, 2, []), (121, .if_icmp .ge 7, 3, [14])] := rfl
theorem cb_X3_fits_13 : (blk md_X3_fits 13).2 = [(124, .iconst 1, 1, []), (125, .goto 4, 3, [15])] := rfl
theorem cb_X3_fits_14 : (blk md_X3_fits 14).2 = [(128, .iconst 0, 1, [])] := rfl
theorem cb_X3_fits_15 : (blk md_X3_fits 15).2 = [(129, .ireturn, 1, [1])] := rfl
theorem cb_X3_fits_16 : (blk md_X3_fits 16).2 = [(130, .aload_n 0, 1, []), (131, .getfield 12, 3, [3, 0]), (134, .iload_n 2, 1, []), (135, .invokevirtual 59, 3, [0, 1, 2, 1]), (138, .ifCond .eq 29, 3, [21])] := rfl
theorem cb_X3_fits_17 : (blk md_X3_fits 17).2 = [(141, .aload_n 0, 1, []), (142, .getfield 12, 3, [3, 0]), (145, .iload_n 3, 1, []), (146, .invokevirtual 45, 3, [0, 2, 2, 1]), (149, .ifCond .eq 18, 3, [21])] := rfl
theorem cb_X3_fits_18 : (blk md_X3_fits 18).2 = [(152, .iload 4, 2, []), (154, .ifCond .eq 9, 3, [20])] := rfl
theorem cb_X3_fits_19 : (blk md_X3_fits 19).2 = [(157, .iload 4, 2, []), (159, .iconst 1, 1, []), (160, .if_icmp .ne 7, 3, [21])] := rfl
theorem cb_X3_fits_20 : (blk md_X3_fits 20).2 = [(163, .iconst 1, 1, []), (164, .goto 4, 3, [22])] := rfl
theorem cb_X3_fits_21 : (blk md_X3_fits 21).2 = [(167, .iconst 0, 1, [])] := rfl
theorem cb_X3_fits_22 : (blk md_X3_fits 22).2 = [(168, .ireturn, 1, [1])] := rfl
theorem cb_X3_fits_23 : (blk md_X3_fits 23).2 = [(169, .iconst 1, 1, []), (170, .ireturn, 1, [1])] := rfl
def md_X3_isHindered : List mB := [
  (false, [(0, .iload_n 1, 1, []), (1, .iconst 1, 1, []), (2, .if_icmp .ne 20, 3, [5])]),
  (false, [(5, .aload_n 0, 1, []), (6, .getfield 12, 3, [3, 0]), (9, .invokevirtual 233, 3, [0, 6, 1, 1]), (12, .iconst (-1), 1, []), (13, .if_icmp .ne 7, 3, [3])]),
  (false, [(16, .iconst 1, 1, []), (17, .goto 4, 3, [4])]),
  (false, [(20, .iconst 0, 1, [])]),
  (false, [(21, .ireturn, 1, [1])]),
  (false, [(22, .iload_n 1, 1, []), (23, .iconst 5, 1, []), (24, .if_icmp .ne 31, 3, [9])]),
  (false, [(27, .aload_n 0, 1, []), (28, .getfield 12, 3, [3, 0]), (31, .iload_n 2, 1, []), (32, .invokevirtual 59, 3, [0, 1, 2, 1]), (35, .ifCond .eq 20, 3, [9])]),
  (false, [(38, .aload_n 0, 1, []), (39, .getfield 12, 3, [3, 0]), (42, .getfield 62, 3, [0, 3]), (45, .iload_n 2, 1, []), (46, .iaload, 1, []), (47, .iconst (-1), 1, []), (48, .if_icmp .ne 7, 3, [9])]),
  (false, [(51, .iconst 1, 1, []), (52, .goto 4, 3, [10])]),
  (false, [(55, .iconst 0, 1, [])]),
  (false, [(56, .ireturn, 1, [1])])]
theorem cb_X3_isHindered_0 : (blk md_X3_isHindered 0).2 = [(0, .iload_n 1, 1, []), (1, .iconst 1, 1, []), (2, .if_icmp .ne 20, 3, [5])] := rfl
theorem cb_X3_isHindered_1 : (blk md_X3_isHindered 1).2 = [(5, .aload_n 0, 1, []), (6, .getfield 12, 3, [3, 0]), (9, .invokevirtual 233, 3, [0, 6, 1, 1]), (12, .iconst (-1), 1, []), (13, .if_icmp .ne 7, 3, [3])] := rfl
theorem cb_X3_isHindered_2 : (blk md_X3_isHindered 2).2 = [(16, .iconst 1, 1, []), (17, .goto 4, 3, [4])] := rfl
theorem cb_X3_isHindered_3 : (blk md_X3_isHindered 3).2 = [(20, .iconst 0, 1, [])] := rfl
theorem cb_X3_isHindered_4 : (blk md_X3_isHindered 4).2 = [(21, .ireturn, 1, [1])] := rfl
theorem cb_X3_isHindered_5 : (blk md_X3_isHindered 5).2 = [(22, .iload_n 1, 1, []), (23, .iconst 5, 1, []), (24, .if_icmp .ne 31, 3, [9])] := rfl
theorem cb_X3_isHindered_6 : (blk md_X3_isHindered 6).2 = [(27, .aload_n 0, 1, []), (28, .getfield 12, 3, [3, 0]), (31, .iload_n 2, 1, []), (32, .invokevirtual 59, 3, [0, 1, 2, 1]), (35, .ifCond .eq 20, 3, [9])] := rfl
theorem cb_X3_isHindered_7 : (blk md_X3_isHindered 7).2 = [(38, .aload_n 0, 1, []), (39, .getfield 12, 3, [3, 0]), (42, .getfield 62, 3, [0, 3]), (45, .iload_n 2, 1, []), (46, .iaload, 1, []), (47, .iconst (-1), 1, []), (48, .if_icmp .ne 7, 3, [9])] := rfl
theorem cb_X3_isHindered_8 : (blk md_X3_isHindered 8).2 = [(51, .iconst 1, 1, []), (52, .goto 4, 3, [10])] := rfl
theorem cb_X3_isHindered_9 : (blk md_X3_isHindered 9).2 = [(55, .iconst 0, 1, [])] := rfl
theorem cb_X3_isHindered_10 : (blk md_X3_isHindered 10).2 = [(56, .ireturn, 1, [1])] := rfl
def md_X3_rewritingCost : List mB := [
  (false, [(0, .aload_n 0, 1, []), (1, .getfield 12, 3, [3, 0]), (4, .invokevirtual 116, 3, [0, 24, 1, 2]), (7, .lconst 0, 1, []), (8, .lcmp, 1, []), (9, .ifCond .ne 20, 3, [2])]),
  (false, [(12, .aload_n 0, 1, []), (13, .getfield 22, 3, [3, 2]), (16, .aload_n 0, 1, []), (17, .getfield 12, 3, [3, 0]), (20, .iload_n 1, 1, []), (21, .invokevirtual 173, 3, [0, 43, 3, 1]), (24, .bipush 64, 2, []), (26, .if_icmp .ge 5, 3, [3])]),
  (false, [(29, .iconst (-1), 1, []), (30, .ireturn, 1, [])]),
  (false, [(31, .aload_n 0, 1, []), (32, .getfield 22, 3, [3, 2]), (35, .getfield 230, 3, [2, 6]), (38, .ireturn, 1, [])])]
theorem cb_X3_rewritingCost_0 : (blk md_X3_rewritingCost 0).2 = [(0, .aload_n 0, 1, []), (1, .getfield 12, 3, [3, 0]), (4, .invokevirtual 116, 3, [0, 24, 1, 2]), (7, .lconst 0, 1, []), (8, .lcmp, 1, []), (9, .ifCond .ne 20, 3, [2])] := rfl
theorem cb_X3_rewritingCost_1 : (blk md_X3_rewritingCost 1).2 = [(12, .aload_n 0, 1, []), (13, .getfield 22, 3, [3, 2]), (16, .aload_n 0, 1, []), (17, .getfield 12, 3, [3, 0]), (20, .iload_n 1, 1, []), (21, .invokevirtual 173, 3, [0, 43, 3, 1]), (24, .bipush 64, 2, []), (26, .if_icmp .ge 5, 3, [3])] := rfl
theorem cb_X3_rewritingCost_2 : (blk md_X3_rewritingCost 2).2 = [(29, .iconst (-1), 1, []), (30, .ireturn, 1, [])] := rfl
theorem cb_X3_rewritingCost_3 : (blk md_X3_rewritingCost 3).2 = [(31, .aload_n 0, 1, []), (32, .getfield 22, 3, [3, 2]), (35, .getfield 230, 3, [2, 6]), (38, .ireturn, 1, [])] := rfl
def md_X3_freedByDrop : List mB := [
  (false, [(0, .aload_n 0, 1, []), (1, .getfield 22, 3, [3, 2]), (4, .iconst 2, 1, []), (5, .iload_n 1, 1, []), (6, .iconst 0, 1, []), (7, .iconst 0, 1, []), (8, .invokevirtual 222, 3, [0, 34, 5, 0]), (11, .aload_n 0, 1, []), (12, .getfield 22, 3, [3, 2]), (15, .aload_n 0, 1, []), (16, .getfield 12, 3, [3, 0]), (19, .ldc 226, 2, [0, 1000000]), (21, .invokevirtual 160, 3, [0, 39, 3, 0]), (24, .aload_n 0, 1, []), (25, .getfield 22, 3, [3, 2]), (28, .getfield 164, 3, [2, 0]), (31, .invokevirtual 119, 3, [0, 25, 1, 2]), (34, .aload_n 0, 1, []), (35, .getfield 12, 3, [3, 0]), (38, .invokevirtual 119, 3, [0, 25, 1, 2]), (41, .ldc2_w 136, 3, [18446744073709551615]), (44, .lxor, 1, []), (45, .land, 1, []), (46, .invokestatic 167, 3, [1, 191, 1, 1]), (49, .ireturn, 1, [])])]
theorem cb_X3_freedByDrop_0 : (blk md_X3_freedByDrop 0).2 = [(0, .aload_n 0, 1, []), (1, .getfield 22, 3, [3, 2]), (4, .iconst 2, 1, []), (5, .iload_n 1, 1, []), (6, .iconst 0, 1, []), (7, .iconst 0, 1, []), (8, .invokevirtual 222, 3, [0, 34, 5, 0]), (11, .aload_n 0, 1, []), (12, .getfield 22, 3, [3, 2]), (15, .aload_n 0, 1, []), (16, .getfield 12, 3, [3, 0]), (19, .ldc 226, 2, [0, 1000000]), (21, .invokevirtual 160, 3, [0, 39, 3, 0]), (24, .aload_n 0, 1, []), (25, .getfield 22, 3, [3, 2]), (28, .getfield 164, 3, [2, 0]), (31, .invokevirtual 119, 3, [0, 25, 1, 2]), (34, .aload_n 0, 1, []), (35, .getfield 12, 3, [3, 0]), (38, .invokevirtual 119, 3, [0, 25, 1, 2]), (41, .ldc2_w 136, 3, [18446744073709551615]), (44, .lxor, 1, []), (45, .land, 1, []), (46, .invokestatic 167, 3, [1, 191, 1, 1]), (49, .ireturn, 1, [])] := rfl
def md_X3_isTornBehind : List mB := [
  (false, [(0, .iload_n 0, 1, []), (1, .ifCond .lt 13, 3, [3])]),
  (false, [(4, .iload_n 0, 1, []), (5, .bipush 99, 2, []), (7, .if_icmp .gt 7, 3, [3])]),
  (false, [(10, .iconst 1, 1, []), (11, .goto 4, 3, [4])]),
  (false, [(14, .iconst 0, 1, [])]),
  (false, [(15, .ireturn, 1, [1])])]
theorem cb_X3_isTornBehind_0 : (blk md_X3_isTornBehind 0).2 = [(0, .iload_n 0, 1, []), (1, .ifCond .lt 13, 3, [3])] := rfl
theorem cb_X3_isTornBehind_1 : (blk md_X3_isTornBehind 1).2 = [(4, .iload_n 0, 1, []), (5, .bipush 99, 2, []), (7, .if_icmp .gt 7, 3, [3])] := rfl
theorem cb_X3_isTornBehind_2 : (blk md_X3_isTornBehind 2).2 = [(10, .iconst 1, 1, []), (11, .goto 4, 3, [4])] := rfl
theorem cb_X3_isTornBehind_3 : (blk md_X3_isTornBehind 3).2 = [(14, .iconst 0, 1, [])] := rfl
theorem cb_X3_isTornBehind_4 : (blk md_X3_isTornBehind 4).2 = [(15, .ireturn, 1, [1])] := rfl
def md_X3_isPlace : List mB := [
  (false, [(0, .iload_n 0, 1, []), (1, .ifCond .lt 13, 3, [3])]),
  (false, [(4, .iload_n 0, 1, []), (5, .bipush 64, 2, []), (7, .if_icmp .ge 7, 3, [3])]),
  (false, [(10, .iconst 1, 1, []), (11, .goto 4, 3, [4])]),
  (false, [(14, .iconst 0, 1, [])]),
  (false, [(15, .ireturn, 1, [1])])]
theorem cb_X3_isPlace_0 : (blk md_X3_isPlace 0).2 = [(0, .iload_n 0, 1, []), (1, .ifCond .lt 13, 3, [3])] := rfl
theorem cb_X3_isPlace_1 : (blk md_X3_isPlace 1).2 = [(4, .iload_n 0, 1, []), (5, .bipush 64, 2, []), (7, .if_icmp .ge 7, 3, [3])] := rfl
theorem cb_X3_isPlace_2 : (blk md_X3_isPlace 2).2 = [(10, .iconst 1, 1, []), (11, .goto 4, 3, [4])] := rfl
theorem cb_X3_isPlace_3 : (blk md_X3_isPlace 3).2 = [(14, .iconst 0, 1, [])] := rfl
theorem cb_X3_isPlace_4 : (blk md_X3_isPlace 4).2 = [(15, .ireturn, 1, [1])] := rfl
def md_X3_isCluster : List mB := [
  (false, [(0, .iload_n 0, 1, []), (1, .ifCond .le 13, 3, [3])]),
  (false, [(4, .iload_n 0, 1, []), (5, .bipush 64, 2, []), (7, .if_icmp .ge 7, 3, [3])]),
  (false, [(10, .iconst 1, 1, []), (11, .goto 4, 3, [4])]),
  (false, [(14, .iconst 0, 1, [])]),
  (false, [(15, .ireturn, 1, [1])])]
theorem cb_X3_isCluster_0 : (blk md_X3_isCluster 0).2 = [(0, .iload_n 0, 1, []), (1, .ifCond .le 13, 3, [3])] := rfl
theorem cb_X3_isCluster_1 : (blk md_X3_isCluster 1).2 = [(4, .iload_n 0, 1, []), (5, .bipush 64, 2, []), (7, .if_icmp .ge 7, 3, [3])] := rfl
theorem cb_X3_isCluster_2 : (blk md_X3_isCluster 2).2 = [(10, .iconst 1, 1, []), (11, .goto 4, 3, [4])] := rfl
theorem cb_X3_isCluster_3 : (blk md_X3_isCluster 3).2 = [(14, .iconst 0, 1, [])] := rfl
theorem cb_X3_isCluster_4 : (blk md_X3_isCluster 4).2 = [(15, .ireturn, 1, [1])] := rfl
def md_X3_isIn : List mB := [
  (false, [(0, .lload_n 0, 1, []), (1, .iload_n 2, 1, []), (2, .lushr, 1, []), (3, .lconst 1, 1, []), (4, .land, 1, []), (5, .lconst 0, 1, []), (6, .lcmp, 1, []), (7, .ifCond .eq 7, 3, [2])]),
  (false, [(10, .iconst 1, 1, []), (11, .goto 4, 3, [3])]),
  (false, [(14, .iconst 0, 1, [])]),
  (false, [(15, .ireturn, 1, [1])])]
theorem cb_X3_isIn_0 : (blk md_X3_isIn 0).2 = [(0, .lload_n 0, 1, []), (1, .iload_n 2, 1, []), (2, .lushr, 1, []), (3, .lconst 1, 1, []), (4, .land, 1, []), (5, .lconst 0, 1, []), (6, .lcmp, 1, []), (7, .ifCond .eq 7, 3, [2])] := rfl
theorem cb_X3_isIn_1 : (blk md_X3_isIn 1).2 = [(10, .iconst 1, 1, []), (11, .goto 4, 3, [3])] := rfl
theorem cb_X3_isIn_2 : (blk md_X3_isIn 2).2 = [(14, .iconst 0, 1, [])] := rfl
theorem cb_X3_isIn_3 : (blk md_X3_isIn 3).2 = [(15, .ireturn, 1, [1])] := rfl
def md_X3_holderOf : List mB := [
  (false, [(0, .iload_n 0, 1, []), (1, .ifCond .lt 11, 3, [3])]),
  (false, [(4, .iload_n 0, 1, []), (5, .bipush 6, 2, []), (7, .if_icmp .ge 5, 3, [3])]),
  (false, [(10, .iload_n 0, 1, []), (11, .ireturn, 1, [])]),
  (false, [(12, .iload_n 0, 1, []), (13, .bipush 10, 2, []), (15, .if_icmp .lt 17, 3, [6])]),
  (false, [(18, .iload_n 0, 1, []), (19, .bipush 18, 2, []), (21, .if_icmp .ge 11, 3, [6])]),
  (false, [(24, .iload_n 0, 1, []), (25, .bipush 10, 2, []), (27, .isub, 1, []), (28, .bipush 6, 2, []), (30, .iadd, 1, []), (31, .ireturn, 1, [])]),
  (false, [(32, .iconst (-1), 1, []), (33, .ireturn, 1, [])])]
theorem cb_X3_holderOf_0 : (blk md_X3_holderOf 0).2 = [(0, .iload_n 0, 1, []), (1, .ifCond .lt 11, 3, [3])] := rfl
theorem cb_X3_holderOf_1 : (blk md_X3_holderOf 1).2 = [(4, .iload_n 0, 1, []), (5, .bipush 6, 2, []), (7, .if_icmp .ge 5, 3, [3])] := rfl
theorem cb_X3_holderOf_2 : (blk md_X3_holderOf 2).2 = [(10, .iload_n 0, 1, []), (11, .ireturn, 1, [])] := rfl
theorem cb_X3_holderOf_3 : (blk md_X3_holderOf 3).2 = [(12, .iload_n 0, 1, []), (13, .bipush 10, 2, []), (15, .if_icmp .lt 17, 3, [6])] := rfl
theorem cb_X3_holderOf_4 : (blk md_X3_holderOf 4).2 = [(18, .iload_n 0, 1, []), (19, .bipush 18, 2, []), (21, .if_icmp .ge 11, 3, [6])] := rfl
theorem cb_X3_holderOf_5 : (blk md_X3_holderOf 5).2 = [(24, .iload_n 0, 1, []), (25, .bipush 10, 2, []), (27, .isub, 1, []), (28, .bipush 6, 2, []), (30, .iadd, 1, []), (31, .ireturn, 1, [])] := rfl
theorem cb_X3_holderOf_6 : (blk md_X3_holderOf 6).2 = [(32, .iconst (-1), 1, []), (33, .ireturn, 1, [])] := rfl
def md_X4_in : List mB := [
  (false, [(0, .iload_n 0, 1, []), (1, .iload_n 1, 1, []), (2, .if_icmp .lt 12, 3, [3])]),
  (false, [(5, .iload_n 0, 1, []), (6, .iload_n 2, 1, []), (7, .if_icmp .gt 7, 3, [3])]),
  (false, [(10, .iconst 1, 1, []), (11, .goto 4, 3, [4])]),
  (false, [(14, .iconst 0, 1, [])]),
  (false, [(15, .ireturn, 1, [1])])]
theorem cb_X4_in_0 : (blk md_X4_in 0).2 = [(0, .iload_n 0, 1, []), (1, .iload_n 1, 1, []), (2, .if_icmp .lt 12, 3, [3])] := rfl
theorem cb_X4_in_1 : (blk md_X4_in 1).2 = [(5, .iload_n 0, 1, []), (6, .iload_n 2, 1, []), (7, .if_icmp .gt 7, 3, [3])] := rfl
theorem cb_X4_in_2 : (blk md_X4_in 2).2 = [(10, .iconst 1, 1, []), (11, .goto 4, 3, [4])] := rfl
theorem cb_X4_in_3 : (blk md_X4_in 3).2 = [(14, .iconst 0, 1, [])] := rfl
theorem cb_X4_in_4 : (blk md_X4_in 4).2 = [(15, .ireturn, 1, [1])] := rfl
def md_X4_refuse : List mB := [
  (false, [(0, .aload_n 0, 1, []), (1, .getfield 19, 3, [4, 4]), (4, .sipush (-1001), 3, []), (7, .iload_n 1, 1, []), (8, .isub, 1, []), (9, .dup2, 1, []), (10, .iaload, 1, []), (11, .iconst 1, 1, []), (12, .iadd, 1, []), (13, .iastore, 1, []), (14, .iload_n 1, 1, []), (15, .ireturn, 1, [])])]
theorem cb_X4_refuse_0 : (blk md_X4_refuse 0).2 = [(0, .aload_n 0, 1, []), (1, .getfield 19, 3, [4, 4]), (4, .sipush (-1001), 3, []), (7, .iload_n 1, 1, []), (8, .isub, 1, []), (9, .dup2, 1, []), (10, .iaload, 1, []), (11, .iconst 1, 1, []), (12, .iadd, 1, []), (13, .iastore, 1, []), (14, .iload_n 1, 1, []), (15, .ireturn, 1, [])] := rfl
def md_X4_copies : List mB := [
  (false, [(0, .iconst 0, 1, []), (1, .istore_n 2, 1, [])]),
  (false, [(2, .iload_n 2, 1, []), (3, .sipush 400, 3, []), (6, .if_icmp .ge 15, 3, [3])]),
  (false, [(9, .aload_n 1, 1, []), (10, .iload_n 2, 1, []), (11, .aload_n 0, 1, []), (12, .iload_n 2, 1, []), (13, .iaload, 1, []), (14, .iastore, 1, []), (15, .iinc 2 1, 3, []), (18, .goto (-16), 3, [1])]),
  (false, [(21, .return_, 1, [])])]
theorem cb_X4_copies_0 : (blk md_X4_copies 0).2 = [(0, .iconst 0, 1, []), (1, .istore_n 2, 1, [])] := rfl
theorem cb_X4_copies_1 : (blk md_X4_copies 1).2 = [(2, .iload_n 2, 1, []), (3, .sipush 400, 3, []), (6, .if_icmp .ge 15, 3, [3])] := rfl
theorem cb_X4_copies_2 : (blk md_X4_copies 2).2 = [(9, .aload_n 1, 1, []), (10, .iload_n 2, 1, []), (11, .aload_n 0, 1, []), (12, .iload_n 2, 1, []), (13, .iaload, 1, []), (14, .iastore, 1, []), (15, .iinc 2 1, 3, []), (18, .goto (-16), 3, [1])] := rfl
theorem cb_X4_copies_3 : (blk md_X4_copies 3).2 = [(21, .return_, 1, [])] := rfl
def md_X4_isLayer : List mB := [
  (false, [(0, .iload_n 1, 1, []), (1, .iconst 0, 1, []), (2, .aload_n 0, 1, []), (3, .getfield 7, 3, [4, 0]), (6, .sipush 320, 3, []), (9, .iaload, 1, []), (10, .iconst 1, 1, []), (11, .isub, 1, []), (12, .invokestatic 37, 3, [1, 100, 3, 1]), (15, .ireturn, 1, [1])])]
theorem cb_X4_isLayer_0 : (blk md_X4_isLayer 0).2 = [(0, .iload_n 1, 1, []), (1, .iconst 0, 1, []), (2, .aload_n 0, 1, []), (3, .getfield 7, 3, [4, 0]), (6, .sipush 320, 3, []), (9, .iaload, 1, []), (10, .iconst 1, 1, []), (11, .isub, 1, []), (12, .invokestatic 37, 3, [1, 100, 3, 1]), (15, .ireturn, 1, [1])] := rfl
def md_X4_isSnap : List mB := [
  (false, [(0, .iload_n 1, 1, []), (1, .iconst 0, 1, []), (2, .bipush 7, 2, []), (4, .invokestatic 37, 3, [1, 100, 3, 1]), (7, .ifCond .eq 21, 3, [3])]),
  (false, [(10, .aload_n 0, 1, []), (11, .getfield 7, 3, [4, 0]), (14, .sipush 383, 3, []), (17, .iload_n 1, 1, []), (18, .iadd, 1, []), (19, .iaload, 1, []), (20, .iconst 1, 1, []), (21, .if_icmp .ne 7, 3, [3])]),
  (false, [(24, .iconst 1, 1, []), (25, .goto 4, 3, [4])]),
  (false, [(28, .iconst 0, 1, [])]),
  (false, [(29, .ireturn, 1, [1])])]
theorem cb_X4_isSnap_0 : (blk md_X4_isSnap 0).2 = [(0, .iload_n 1, 1, []), (1, .iconst 0, 1, []), (2, .bipush 7, 2, []), (4, .invokestatic 37, 3, [1, 100, 3, 1]), (7, .ifCond .eq 21, 3, [3])] := rfl
theorem cb_X4_isSnap_1 : (blk md_X4_isSnap 1).2 = [(10, .aload_n 0, 1, []), (11, .getfield 7, 3, [4, 0]), (14, .sipush 383, 3, []), (17, .iload_n 1, 1, []), (18, .iadd, 1, []), (19, .iaload, 1, []), (20, .iconst 1, 1, []), (21, .if_icmp .ne 7, 3, [3])] := rfl
theorem cb_X4_isSnap_2 : (blk md_X4_isSnap 2).2 = [(24, .iconst 1, 1, []), (25, .goto 4, 3, [4])] := rfl
theorem cb_X4_isSnap_3 : (blk md_X4_isSnap 3).2 = [(28, .iconst 0, 1, [])] := rfl
theorem cb_X4_isSnap_4 : (blk md_X4_isSnap 4).2 = [(29, .ireturn, 1, [1])] := rfl
def md_X4_isPlace : List mB := [
  (false, [(0, .iload_n 0, 1, []), (1, .iconst 0, 1, []), (2, .bipush 63, 2, []), (4, .invokestatic 37, 3, [1, 100, 3, 1]), (7, .ireturn, 1, [1])])]
theorem cb_X4_isPlace_0 : (blk md_X4_isPlace 0).2 = [(0, .iload_n 0, 1, []), (1, .iconst 0, 1, []), (2, .bipush 63, 2, []), (4, .invokestatic 37, 3, [1, 100, 3, 1]), (7, .ireturn, 1, [1])] := rfl
def md_X4_isBlock : List mB := [
  (false, [(0, .iload_n 0, 1, []), (1, .iconst 0, 1, []), (2, .bipush 15, 2, []), (4, .invokestatic 37, 3, [1, 100, 3, 1]), (7, .ireturn, 1, [1])])]
theorem cb_X4_isBlock_0 : (blk md_X4_isBlock 0).2 = [(0, .iload_n 0, 1, []), (1, .iconst 0, 1, []), (2, .bipush 15, 2, []), (4, .invokestatic 37, 3, [1, 100, 3, 1]), (7, .ireturn, 1, [1])] := rfl
def md_X4_isCluster : List mB := [
  (false, [(0, .iload_n 0, 1, []), (1, .iconst 1, 1, []), (2, .bipush 63, 2, []), (4, .invokestatic 37, 3, [1, 100, 3, 1]), (7, .ireturn, 1, [1])])]
theorem cb_X4_isCluster_0 : (blk md_X4_isCluster 0).2 = [(0, .iload_n 0, 1, []), (1, .iconst 1, 1, []), (2, .bipush 63, 2, []), (4, .invokestatic 37, 3, [1, 100, 3, 1]), (7, .ireturn, 1, [1])] := rfl
def md_X4_dir : List mB := [
  (false, [(0, .sipush 327, 3, []), (3, .iconst 4, 1, []), (4, .iload_n 0, 1, []), (5, .imul, 1, []), (6, .iadd, 1, []), (7, .iload_n 1, 1, []), (8, .iadd, 1, []), (9, .ireturn, 1, [])])]
theorem cb_X4_dir_0 : (blk md_X4_dir 0).2 = [(0, .sipush 327, 3, []), (3, .iconst 4, 1, []), (4, .iload_n 0, 1, []), (5, .imul, 1, []), (6, .iadd, 1, []), (7, .iload_n 1, 1, []), (8, .iadd, 1, []), (9, .ireturn, 1, [])] := rfl
def md_X4_dataOf : List mB := [
  (false, [(0, .aload_n 0, 1, []), (1, .getfield 7, 3, [4, 0]), (4, .iload_n 1, 1, []), (5, .iload_n 2, 1, []), (6, .iconst 4, 1, []), (7, .idiv, 1, []), (8, .invokestatic 41, 3, [1, 108, 2, 1]), (11, .iaload, 1, []), (12, .istore_n 3, 1, []), (13, .iload_n 3, 1, []), (14, .ifCond .ne 7, 3, [2])]),
  (false, [(17, .iconst 0, 1, []), (18, .goto 18, 3, [3])]),
  (false, [(21, .aload_n 0, 1, []), (22, .getfield 7, 3, [4, 0]), (25, .bipush 64, 2, []), (27, .iconst 4, 1, []), (28, .iload_n 3, 1, []), (29, .imul, 1, []), (30, .iadd, 1, []), (31, .iload_n 2, 1, []), (32, .iconst 4, 1, []), (33, .irem, 1, []), (34, .iadd, 1, []), (35, .iaload, 1, [])]),
  (false, [(36, .ireturn, 1, [])])]
theorem cb_X4_dataOf_0 : (blk md_X4_dataOf 0).2 = [(0, .aload_n 0, 1, []), (1, .getfield 7, 3, [4, 0]), (4, .iload_n 1, 1, []), (5, .iload_n 2, 1, []), (6, .iconst 4, 1, []), (7, .idiv, 1, []), (8, .invokestatic 41, 3, [1, 108, 2, 1]), (11, .iaload, 1, []), (12, .istore_n 3, 1, []), (13, .iload_n 3, 1, []), (14, .ifCond .ne 7, 3, [2])] := rfl
theorem cb_X4_dataOf_1 : (blk md_X4_dataOf 1).2 = [(17, .iconst 0, 1, []), (18, .goto 18, 3, [3])] := rfl
theorem cb_X4_dataOf_2 : (blk md_X4_dataOf 2).2 = [(21, .aload_n 0, 1, []), (22, .getfield 7, 3, [4, 0]), (25, .bipush 64, 2, []), (27, .iconst 4, 1, []), (28, .iload_n 3, 1, []), (29, .imul, 1, []), (30, .iadd, 1, []), (31, .iload_n 2, 1, []), (32, .iconst 4, 1, []), (33, .irem, 1, []), (34, .iadd, 1, []), (35, .iaload, 1, [])] := rfl
theorem cb_X4_dataOf_3 : (blk md_X4_dataOf 3).2 = [(36, .ireturn, 1, [])] := rfl
def md_X4_readBy : List mB := [
  (false, [(0, .iload_n 1, 1, []), (1, .istore 4, 2, []), (3, .iload_n 2, 1, []), (4, .istore 5, 2, [])]),
  (false, [(6, .aload_n 0, 1, []), (7, .iload 4, 2, []), (9, .iload_n 3, 1, []), (10, .iconst 4, 1, []), (11, .idiv, 1, []), (12, .invokevirtual 45, 3, [0, 109, 3, 1]), (15, .ifCond .ne 31, 3, [5])]),
  (false, [(18, .iload 5, 2, []), (20, .iconst (-1), 1, []), (21, .if_icmp .ne 5, 3, [4])]),
  (false, [(24, .iconst 0, 1, []), (25, .ireturn, 1, [])]),
  (false, [(26, .iload 5, 2, []), (28, .istore 4, 2, []), (30, .aload_n 0, 1, []), (31, .getfield 7, 3, [4, 0]), (34, .sipush 321, 3, []), (37, .iload 5, 2, []), (39, .iadd, 1, []), (40, .iaload, 1, []), (41, .istore 5, 2, []), (43, .goto (-37), 3, [1])]),
  (false, [(46, .aload_n 0, 1, []), (47, .getfield 7, 3, [4, 0]), (50, .bipush 64, 2, []), (52, .iconst 4, 1, []), (53, .aload_n 0, 1, []), (54, .iload 4, 2, []), (56, .iload_n 3, 1, []), (57, .iconst 4, 1, []), (58, .idiv, 1, []), (59, .invokevirtual 45, 3, [0, 109, 3, 1]), (62, .imul, 1, []), (63, .iadd, 1, []), (64, .iload_n 3, 1, []), (65, .iconst 4, 1, []), (66, .irem, 1, []), (67, .iadd, 1, []), (68, .iaload, 1, []), (69, .ireturn, 1, [])])]
theorem cb_X4_readBy_0 : (blk md_X4_readBy 0).2 = [(0, .iload_n 1, 1, []), (1, .istore 4, 2, []), (3, .iload_n 2, 1, []), (4, .istore 5, 2, [])] := rfl
theorem cb_X4_readBy_1 : (blk md_X4_readBy 1).2 = [(6, .aload_n 0, 1, []), (7, .iload 4, 2, []), (9, .iload_n 3, 1, []), (10, .iconst 4, 1, []), (11, .idiv, 1, []), (12, .invokevirtual 45, 3, [0, 109, 3, 1]), (15, .ifCond .ne 31, 3, [5])] := rfl
theorem cb_X4_readBy_2 : (blk md_X4_readBy 2).2 = [(18, .iload 5, 2, []), (20, .iconst (-1), 1, []), (21, .if_icmp .ne 5, 3, [4])] := rfl
theorem cb_X4_readBy_3 : (blk md_X4_readBy 3).2 = [(24, .iconst 0, 1, []), (25, .ireturn, 1, [])] := rfl
theorem cb_X4_readBy_4 : (blk md_X4_readBy 4).2 = [(26, .iload 5, 2, []), (28, .istore 4, 2, []), (30, .aload_n 0, 1, []), (31, .getfield 7, 3, [4, 0]), (34, .sipush 321, 3, []), (37, .iload 5, 2, []), (39, .iadd, 1, []), (40, .iaload, 1, []), (41, .istore 5, 2, []), (43, .goto (-37), 3, [1])] := rfl
theorem cb_X4_readBy_5 : (blk md_X4_readBy 5).2 = [(46, .aload_n 0, 1, []), (47, .getfield 7, 3, [4, 0]), (50, .bipush 64, 2, []), (52, .iconst 4, 1, []), (53, .aload_n 0, 1, []), (54, .iload 4, 2, []), (56, .iload_n 3, 1, []), (57, .iconst 4, 1, []), (58, .idiv, 1, []), (59, .invokevirtual 45, 3, [0, 109, 3, 1]), (62, .imul, 1, []), (63, .iadd, 1, []), (64, .iload_n 3, 1, []), (65, .iconst 4, 1, []), (66, .irem, 1, []), (67, .iadd, 1, []), (68, .iaload, 1, []), (69, .ireturn, 1, [])] := rfl
def md_X4_readOf : List mB := [
  (false, [(0, .aload_n 0, 1, []), (1, .iload_n 1, 1, []), (2, .aload_n 0, 1, []), (3, .getfield 7, 3, [4, 0]), (6, .sipush 321, 3, []), (9, .iload_n 1, 1, []), (10, .iadd, 1, []), (11, .iaload, 1, []), (12, .iload_n 2, 1, []), (13, .invokevirtual 48, 3, [0, 110, 4, 1]), (16, .ireturn, 1, [])])]
theorem cb_X4_readOf_0 : (blk md_X4_readOf 0).2 = [(0, .aload_n 0, 1, []), (1, .iload_n 1, 1, []), (2, .aload_n 0, 1, []), (3, .getfield 7, 3, [4, 0]), (6, .sipush 321, 3, []), (9, .iload_n 1, 1, []), (10, .iadd, 1, []), (11, .iaload, 1, []), (12, .iload_n 2, 1, []), (13, .invokevirtual 48, 3, [0, 110, 4, 1]), (16, .ireturn, 1, [])] := rfl
def md_X4_layer : List mB := [
  (false, [(0, .iload_n 1, 1, []), (1, .iconst (-1), 1, []), (2, .if_icmp .eq 19, 3, [3])]),
  (false, [(5, .aload_n 0, 1, []), (6, .iload_n 1, 1, []), (7, .invokevirtual 52, 3, [0, 103, 2, 1]), (10, .ifCond .ne 11, 3, [3])]),
  (false, [(13, .aload_n 0, 1, []), (14, .sipush (-1001), 3, []), (17, .invokevirtual 56, 3, [0, 101, 2, 1]), (20, .ireturn, 1, [])]),
  (false, [(21, .aload_n 0, 1, []), (22, .getfield 7, 3, [4, 0]), (25, .sipush 320, 3, []), (28, .iaload, 1, []), (29, .bipush 6, 2, []), (31, .if_icmp .ne 11, 3, [5])]),
  (false, [(34, .aload_n 0, 1, []), (35, .sipush (-1002), 3, []), (38, .invokevirtual 56, 3, [0, 101, 2, 1]), (41, .ireturn, 1, [])]),
  (false, [(42, .aload_n 0, 1, []), (43, .getfield 7, 3, [4, 0]), (46, .sipush 321, 3, []), (49, .aload_n 0, 1, []), (50, .getfield 7, 3, [4, 0]), (53, .sipush 320, 3, []), (56, .iaload, 1, []), (57, .iadd, 1, []), (58, .iload_n 1, 1, []), (59, .iastore, 1, []), (60, .aload_n 0, 1, []), (61, .getfield 7, 3, [4, 0]), (64, .sipush 320, 3, []), (67, .dup2, 1, []), (68, .iaload, 1, []), (69, .iconst 1, 1, []), (70, .iadd, 1, []), (71, .iastore, 1, []), (72, .aload_n 0, 1, []), (73, .getfield 7, 3, [4, 0]), (76, .sipush 320, 3, []), (79, .iaload, 1, []), (80, .iconst 1, 1, []), (81, .isub, 1, []), (82, .ireturn, 1, [])])]
theorem cb_X4_layer_0 : (blk md_X4_layer 0).2 = [(0, .iload_n 1, 1, []), (1, .iconst (-1), 1, []), (2, .if_icmp .eq 19, 3, [3])] := rfl
theorem cb_X4_layer_1 : (blk md_X4_layer 1).2 = [(5, .aload_n 0, 1, []), (6, .iload_n 1, 1, []), (7, .invokevirtual 52, 3, [0, 103, 2, 1]), (10, .ifCond .ne 11, 3, [3])] := rfl
theorem cb_X4_layer_2 : (blk md_X4_layer 2).2 = [(13, .aload_n 0, 1, []), (14, .sipush (-1001), 3, []), (17, .invokevirtual 56, 3, [0, 101, 2, 1]), (20, .ireturn, 1, [])] := rfl
theorem cb_X4_layer_3 : (blk md_X4_layer 3).2 = [(21, .aload_n 0, 1, []), (22, .getfield 7, 3, [4, 0]), (25, .sipush 320, 3, []), (28, .iaload, 1, []), (29, .bipush 6, 2, []), (31, .if_icmp .ne 11, 3, [5])] := rfl
theorem cb_X4_layer_4 : (blk md_X4_layer 4).2 = [(34, .aload_n 0, 1, []), (35, .sipush (-1002), 3, []), (38, .invokevirtual 56, 3, [0, 101, 2, 1]), (41, .ireturn, 1, [])] := rfl
theorem cb_X4_layer_5 : (blk md_X4_layer 5).2 = [(42, .aload_n 0, 1, []), (43, .getfield 7, 3, [4, 0]), (46, .sipush 321, 3, []), (49, .aload_n 0, 1, []), (50, .getfield 7, 3, [4, 0]), (53, .sipush 320, 3, []), (56, .iaload, 1, []), (57, .iadd, 1, []), (58, .iload_n 1, 1, []), (59, .iastore, 1, []), (60, .aload_n 0, 1, []), (61, .getfield 7, 3, [4, 0]), (64, .sipush 320, 3, []), (67, .dup2, 1, []), (68, .iaload, 1, []), (69, .iconst 1, 1, []), (70, .iadd, 1, []), (71, .iastore, 1, []), (72, .aload_n 0, 1, []), (73, .getfield 7, 3, [4, 0]), (76, .sipush 320, 3, []), (79, .iaload, 1, []), (80, .iconst 1, 1, []), (81, .isub, 1, []), (82, .ireturn, 1, [])] := rfl
def md_X4_read : List mB := [
  (false, [(0, .aload_n 0, 1, []), (1, .iload_n 1, 1, []), (2, .invokevirtual 52, 3, [0, 103, 2, 1]), (5, .ifCond .eq 19, 3, [3])]),
  (false, [(8, .iload_n 2, 1, []), (9, .invokestatic 60, 3, [1, 105, 1, 1]), (12, .ifCond .eq 12, 3, [3])]),
  (false, [(15, .aload_n 0, 1, []), (16, .iload_n 1, 1, []), (17, .iload_n 2, 1, []), (18, .invokevirtual 63, 3, [0, 111, 3, 1]), (21, .goto 10, 3, [4])]),
  (false, [(24, .aload_n 0, 1, []), (25, .sipush (-1001), 3, []), (28, .invokevirtual 56, 3, [0, 101, 2, 1])]),
  (false, [(31, .ireturn, 1, [])])]
theorem cb_X4_read_0 : (blk md_X4_read 0).2 = [(0, .aload_n 0, 1, []), (1, .iload_n 1, 1, []), (2, .invokevirtual 52, 3, [0, 103, 2, 1]), (5, .ifCond .eq 19, 3, [3])] := rfl
theorem cb_X4_read_1 : (blk md_X4_read 1).2 = [(8, .iload_n 2, 1, []), (9, .invokestatic 60, 3, [1, 105, 1, 1]), (12, .ifCond .eq 12, 3, [3])] := rfl
theorem cb_X4_read_2 : (blk md_X4_read 2).2 = [(15, .aload_n 0, 1, []), (16, .iload_n 1, 1, []), (17, .iload_n 2, 1, []), (18, .invokevirtual 63, 3, [0, 111, 3, 1]), (21, .goto 10, 3, [4])] := rfl
theorem cb_X4_read_3 : (blk md_X4_read 3).2 = [(24, .aload_n 0, 1, []), (25, .sipush (-1001), 3, []), (28, .invokevirtual 56, 3, [0, 101, 2, 1])] := rfl
theorem cb_X4_read_4 : (blk md_X4_read 4).2 = [(31, .ireturn, 1, [])] := rfl
def md_X4_readOld : List mB := [
  (false, [(0, .aload_n 0, 1, []), (1, .iload_n 1, 1, []), (2, .invokevirtual 66, 3, [0, 104, 2, 1]), (5, .ifCond .eq 41, 3, [3])]),
  (false, [(8, .iload_n 2, 1, []), (9, .invokestatic 60, 3, [1, 105, 1, 1]), (12, .ifCond .eq 34, 3, [3])]),
  (false, [(15, .aload_n 0, 1, []), (16, .bipush 6, 2, []), (18, .iload_n 1, 1, []), (19, .iadd, 1, []), (20, .aload_n 0, 1, []), (21, .getfield 7, 3, [4, 0]), (24, .sipush 321, 3, []), (27, .aload_n 0, 1, []), (28, .getfield 7, 3, [4, 0]), (31, .sipush 391, 3, []), (34, .iload_n 1, 1, []), (35, .iadd, 1, []), (36, .iaload, 1, []), (37, .iadd, 1, []), (38, .iaload, 1, []), (39, .iload_n 2, 1, []), (40, .invokevirtual 48, 3, [0, 110, 4, 1]), (43, .goto 10, 3, [4])]),
  (false, [(46, .aload_n 0, 1, []), (47, .sipush (-1001), 3, []), (50, .invokevirtual 56, 3, [0, 101, 2, 1])]),
  (false, [(53, .ireturn, 1, [])])]
theorem cb_X4_readOld_0 : (blk md_X4_readOld 0).2 = [(0, .aload_n 0, 1, []), (1, .iload_n 1, 1, []), (2, .invokevirtual 66, 3, [0, 104, 2, 1]), (5, .ifCond .eq 41, 3, [3])] := rfl
theorem cb_X4_readOld_1 : (blk md_X4_readOld 1).2 = [(8, .iload_n 2, 1, []), (9, .invokestatic 60, 3, [1, 105, 1, 1]), (12, .ifCond .eq 34, 3, [3])] := rfl
theorem cb_X4_readOld_2 : (blk md_X4_readOld 2).2 = [(15, .aload_n 0, 1, []), (16, .bipush 6, 2, []), (18, .iload_n 1, 1, []), (19, .iadd, 1, []), (20, .aload_n 0, 1, []), (21, .getfield 7, 3, [4, 0]), (24, .sipush 321, 3, []), (27, .aload_n 0, 1, []), (28, .getfield 7, 3, [4, 0]), (31, .sipush 391, 3, []), (34, .iload_n 1, 1, []), (35, .iadd, 1, []), (36, .iaload, 1, []), (37, .iadd, 1, []), (38, .iaload, 1, []), (39, .iload_n 2, 1, []), (40, .invokevirtual 48, 3, [0, 110, 4, 1]), (43, .goto 10, 3, [4])] := rfl
theorem cb_X4_readOld_3 : (blk md_X4_readOld 3).2 = [(46, .aload_n 0, 1, []), (47, .sipush (-1001), 3, []), (50, .invokevirtual 56, 3, [0, 101, 2, 1])] := rfl
theorem cb_X4_readOld_4 : (blk md_X4_readOld 4).2 = [(53, .ireturn, 1, [])] := rfl
def md_X4_unlike : List mB := [
  (false, [(0, .aload_n 0, 1, []), (1, .iload_n 1, 1, []), (2, .invokevirtual 52, 3, [0, 103, 2, 1]), (5, .ifCond .eq 11, 3, [2])]),
  (false, [(8, .aload_n 0, 1, []), (9, .iload_n 2, 1, []), (10, .invokevirtual 52, 3, [0, 103, 2, 1]), (13, .ifCond .ne 11, 3, [3])]),
  (false, [(16, .aload_n 0, 1, []), (17, .sipush (-1001), 3, []), (20, .invokevirtual 56, 3, [0, 101, 2, 1]), (23, .ireturn, 1, [])]),
  (false, [(24, .iconst 0, 1, []), (25, .istore_n 3, 1, [])]),
  (false, [(26, .iload_n 3, 1, []), (27, .bipush 64, 2, []), (29, .if_icmp .ge 26, 3, [8])]),
  (false, [(32, .aload_n 0, 1, []), (33, .iload_n 1, 1, []), (34, .iload_n 3, 1, []), (35, .invokevirtual 63, 3, [0, 111, 3, 1]), (38, .aload_n 0, 1, []), (39, .iload_n 2, 1, []), (40, .iload_n 3, 1, []), (41, .invokevirtual 63, 3, [0, 111, 3, 1]), (44, .if_icmp .eq 5, 3, [7])]),
  (false, [(47, .iload_n 3, 1, []), (48, .ireturn, 1, [])]),
  (false, [(49, .iinc 3 1, 3, []), (52, .goto (-26), 3, [4])]),
  (false, [(55, .iconst (-1), 1, []), (56, .ireturn, 1, [])])]
theorem cb_X4_unlike_0 : (blk md_X4_unlike 0).2 = [(0, .aload_n 0, 1, []), (1, .iload_n 1, 1, []), (2, .invokevirtual 52, 3, [0, 103, 2, 1]), (5, .ifCond .eq 11, 3, [2])] := rfl
theorem cb_X4_unlike_1 : (blk md_X4_unlike 1).2 = [(8, .aload_n 0, 1, []), (9, .iload_n 2, 1, []), (10, .invokevirtual 52, 3, [0, 103, 2, 1]), (13, .ifCond .ne 11, 3, [3])] := rfl
theorem cb_X4_unlike_2 : (blk md_X4_unlike 2).2 = [(16, .aload_n 0, 1, []), (17, .sipush (-1001), 3, []), (20, .invokevirtual 56, 3, [0, 101, 2, 1]), (23, .ireturn, 1, [])] := rfl
theorem cb_X4_unlike_3 : (blk md_X4_unlike 3).2 = [(24, .iconst 0, 1, []), (25, .istore_n 3, 1, [])] := rfl
theorem cb_X4_unlike_4 : (blk md_X4_unlike 4).2 = [(26, .iload_n 3, 1, []), (27, .bipush 64, 2, []), (29, .if_icmp .ge 26, 3, [8])] := rfl
theorem cb_X4_unlike_5 : (blk md_X4_unlike 5).2 = [(32, .aload_n 0, 1, []), (33, .iload_n 1, 1, []), (34, .iload_n 3, 1, []), (35, .invokevirtual 63, 3, [0, 111, 3, 1]), (38, .aload_n 0, 1, []), (39, .iload_n 2, 1, []), (40, .iload_n 3, 1, []), (41, .invokevirtual 63, 3, [0, 111, 3, 1]), (44, .if_icmp .eq 5, 3, [7])] := rfl
theorem cb_X4_unlike_6 : (blk md_X4_unlike 6).2 = [(47, .iload_n 3, 1, []), (48, .ireturn, 1, [])] := rfl
theorem cb_X4_unlike_7 : (blk md_X4_unlike 7).2 = [(49, .iinc 3 1, 3, []), (52, .goto (-26), 3, [4])] := rfl
theorem cb_X4_unlike_8 : (blk md_X4_unlike 8).2 = [(55, .iconst (-1), 1, []), (56, .ireturn, 1, [])] := rfl
def md_X4_sum : List mB := [
  (false, [(0, .aload_n 0, 1, []), (1, .iload_n 1, 1, []), (2, .invokevirtual 52, 3, [0, 103, 2, 1]), (5, .ifCond .ne 11, 3, [2])]),
  (false, [(8, .aload_n 0, 1, []), (9, .sipush (-1001), 3, []), (12, .invokevirtual 56, 3, [0, 101, 2, 1]), (15, .ireturn, 1, [])]),
  (false, [(16, .iconst 1, 1, []), (17, .istore_n 2, 1, []), (18, .iconst 0, 1, []), (19, .istore_n 3, 1, [])]),
  (false, [(20, .iload_n 3, 1, []), (21, .bipush 64, 2, []), (23, .if_icmp .ge 21, 3, [5])]),
  (false, [(26, .bipush 31, 2, []), (28, .iload_n 2, 1, []), (29, .imul, 1, []), (30, .aload_n 0, 1, []), (31, .iload_n 1, 1, []), (32, .iload_n 3, 1, []), (33, .invokevirtual 63, 3, [0, 111, 3, 1]), (36, .iadd, 1, []), (37, .istore_n 2, 1, []), (38, .iinc 3 1, 3, []), (41, .goto (-21), 3, [3])]),
  (false, [(44, .iload_n 2, 1, []), (45, .ireturn, 1, [])])]
theorem cb_X4_sum_0 : (blk md_X4_sum 0).2 = [(0, .aload_n 0, 1, []), (1, .iload_n 1, 1, []), (2, .invokevirtual 52, 3, [0, 103, 2, 1]), (5, .ifCond .ne 11, 3, [2])] := rfl
theorem cb_X4_sum_1 : (blk md_X4_sum 1).2 = [(8, .aload_n 0, 1, []), (9, .sipush (-1001), 3, []), (12, .invokevirtual 56, 3, [0, 101, 2, 1]), (15, .ireturn, 1, [])] := rfl
theorem cb_X4_sum_2 : (blk md_X4_sum 2).2 = [(16, .iconst 1, 1, []), (17, .istore_n 2, 1, []), (18, .iconst 0, 1, []), (19, .istore_n 3, 1, [])] := rfl
theorem cb_X4_sum_3 : (blk md_X4_sum 3).2 = [(20, .iload_n 3, 1, []), (21, .bipush 64, 2, []), (23, .if_icmp .ge 21, 3, [5])] := rfl
theorem cb_X4_sum_4 : (blk md_X4_sum 4).2 = [(26, .bipush 31, 2, []), (28, .iload_n 2, 1, []), (29, .imul, 1, []), (30, .aload_n 0, 1, []), (31, .iload_n 1, 1, []), (32, .iload_n 3, 1, []), (33, .invokevirtual 63, 3, [0, 111, 3, 1]), (36, .iadd, 1, []), (37, .istore_n 2, 1, []), (38, .iinc 3 1, 3, []), (41, .goto (-21), 3, [3])] := rfl
theorem cb_X4_sum_5 : (blk md_X4_sum 5).2 = [(44, .iload_n 2, 1, []), (45, .ireturn, 1, [])] := rfl
def md_X4_standsOn : List mB := [
  (false, [(0, .iload_n 1, 1, []), (1, .istore_n 3, 1, [])]),
  (false, [(2, .iload_n 3, 1, []), (3, .iconst (-1), 1, []), (4, .if_icmp .eq 22, 3, [4])]),
  (false, [(7, .iload_n 3, 1, []), (8, .iload_n 2, 1, []), (9, .if_icmp .eq 17, 3, [4])]),
  (false, [(12, .aload_n 0, 1, []), (13, .getfield 7, 3, [4, 0]), (16, .sipush 321, 3, []), (19, .iload_n 3, 1, []), (20, .iadd, 1, []), (21, .iaload, 1, []), (22, .istore_n 3, 1, []), (23, .goto (-21), 3, [1])]),
  (false, [(26, .iload_n 3, 1, []), (27, .iload_n 2, 1, []), (28, .if_icmp .ne 7, 3, [6])]),
  (false, [(31, .iconst 1, 1, []), (32, .goto 4, 3, [7])]),
  (false, [(35, .iconst 0, 1, [])]),
  (false, [(36, .ireturn, 1, [1])])]
theorem cb_X4_standsOn_0 : (blk md_X4_standsOn 0).2 = [(0, .iload_n 1, 1, []), (1, .istore_n 3, 1, [])] := rfl
theorem cb_X4_standsOn_1 : (blk md_X4_standsOn 1).2 = [(2, .iload_n 3, 1, []), (3, .iconst (-1), 1, []), (4, .if_icmp .eq 22, 3, [4])] := rfl
theorem cb_X4_standsOn_2 : (blk md_X4_standsOn 2).2 = [(7, .iload_n 3, 1, []), (8, .iload_n 2, 1, []), (9, .if_icmp .eq 17, 3, [4])] := rfl
theorem cb_X4_standsOn_3 : (blk md_X4_standsOn 3).2 = [(12, .aload_n 0, 1, []), (13, .getfield 7, 3, [4, 0]), (16, .sipush 321, 3, []), (19, .iload_n 3, 1, []), (20, .iadd, 1, []), (21, .iaload, 1, []), (22, .istore_n 3, 1, []), (23, .goto (-21), 3, [1])] := rfl
theorem cb_X4_standsOn_4 : (blk md_X4_standsOn 4).2 = [(26, .iload_n 3, 1, []), (27, .iload_n 2, 1, []), (28, .if_icmp .ne 7, 3, [6])] := rfl
theorem cb_X4_standsOn_5 : (blk md_X4_standsOn 5).2 = [(31, .iconst 1, 1, []), (32, .goto 4, 3, [7])] := rfl
theorem cb_X4_standsOn_6 : (blk md_X4_standsOn 6).2 = [(35, .iconst 0, 1, [])] := rfl
theorem cb_X4_standsOn_7 : (blk md_X4_standsOn 7).2 = [(36, .ireturn, 1, [1])] := rfl
def md_X4_isNamedBy : List mB := [
  (false, [(0, .iload_n 1, 1, []), (1, .bipush 6, 2, []), (3, .if_icmp .ge 23, 3, [4])]),
  (false, [(6, .iload_n 1, 1, []), (7, .aload_n 0, 1, []), (8, .getfield 7, 3, [4, 0]), (11, .sipush 320, 3, []), (14, .iaload, 1, []), (15, .if_icmp .ge 7, 3, [3])]),
  (false, [(18, .iconst 1, 1, []), (19, .goto 29, 3, [7])]),
  (false, [(22, .iconst 0, 1, []), (23, .goto 25, 3, [7])]),
  (false, [(26, .aload_n 0, 1, []), (27, .getfield 7, 3, [4, 0]), (30, .sipush 383, 3, []), (33, .iload_n 1, 1, []), (34, .iadd, 1, []), (35, .bipush 6, 2, []), (37, .isub, 1, []), (38, .iaload, 1, []), (39, .iconst 1, 1, []), (40, .if_icmp .ne 7, 3, [6])]),
  (false, [(43, .iconst 1, 1, []), (44, .goto 4, 3, [7])]),
  (false, [(47, .iconst 0, 1, [])]),
  (false, [(48, .ireturn, 1, [1])])]
theorem cb_X4_isNamedBy_0 : (blk md_X4_isNamedBy 0).2 = [(0, .iload_n 1, 1, []), (1, .bipush 6, 2, []), (3, .if_icmp .ge 23, 3, [4])] := rfl
theorem cb_X4_isNamedBy_1 : (blk md_X4_isNamedBy 1).2 = [(6, .iload_n 1, 1, []), (7, .aload_n 0, 1, []), (8, .getfield 7, 3, [4, 0]), (11, .sipush 320, 3, []), (14, .iaload, 1, []), (15, .if_icmp .ge 7, 3, [3])] := rfl
theorem cb_X4_isNamedBy_2 : (blk md_X4_isNamedBy 2).2 = [(18, .iconst 1, 1, []), (19, .goto 29, 3, [7])] := rfl
theorem cb_X4_isNamedBy_3 : (blk md_X4_isNamedBy 3).2 = [(22, .iconst 0, 1, []), (23, .goto 25, 3, [7])] := rfl
theorem cb_X4_isNamedBy_4 : (blk md_X4_isNamedBy 4).2 = [(26, .aload_n 0, 1, []), (27, .getfield 7, 3, [4, 0]), (30, .sipush 383, 3, []), (33, .iload_n 1, 1, []), (34, .iadd, 1, []), (35, .bipush 6, 2, []), (37, .isub, 1, []), (38, .iaload, 1, []), (39, .iconst 1, 1, []), (40, .if_icmp .ne 7, 3, [6])] := rfl
theorem cb_X4_isNamedBy_5 : (blk md_X4_isNamedBy 5).2 = [(43, .iconst 1, 1, []), (44, .goto 4, 3, [7])] := rfl
theorem cb_X4_isNamedBy_6 : (blk md_X4_isNamedBy 6).2 = [(47, .iconst 0, 1, [])] := rfl
theorem cb_X4_isNamedBy_7 : (blk md_X4_isNamedBy 7).2 = [(48, .ireturn, 1, [1])] := rfl
def md_X4_reckons : List mB := [
  (false, [(0, .iconst 0, 1, []), (1, .istore_n 1, 1, [])]),
  (false, [(2, .iload_n 1, 1, []), (3, .bipush 64, 2, []), (5, .if_icmp .ge 23, 3, [3])]),
  (false, [(8, .aload_n 0, 1, []), (9, .getfield 22, 3, [4, 5]), (12, .iload_n 1, 1, []), (13, .iconst 0, 1, []), (14, .iastore, 1, []), (15, .aload_n 0, 1, []), (16, .getfield 25, 3, [4, 6]), (19, .iload_n 1, 1, []), (20, .iconst 0, 1, []), (21, .iastore, 1, []), (22, .iinc 1 1, 3, []), (25, .goto (-23), 3, [1])]),
  (false, [(28, .iconst 0, 1, []), (29, .istore_n 1, 1, [])]),
  (false, [(30, .iload_n 1, 1, []), (31, .bipush 14, 2, []), (33, .if_icmp .ge 49, 3, [10])]),
  (false, [(36, .iconst 0, 1, []), (37, .istore_n 2, 1, [])]),
  (false, [(38, .iload_n 2, 1, []), (39, .iconst 4, 1, []), (40, .if_icmp .ge 36, 3, [9])]),
  (false, [(43, .aload_n 0, 1, []), (44, .iload_n 1, 1, []), (45, .invokevirtual 69, 3, [0, 118, 2, 1]), (48, .ifCond .eq 28, 3, [9])]),
  (false, [(51, .aload_n 0, 1, []), (52, .getfield 22, 3, [4, 5]), (55, .aload_n 0, 1, []), (56, .getfield 7, 3, [4, 0]), (59, .iload_n 1, 1, []), (60, .iload_n 2, 1, []), (61, .invokestatic 41, 3, [1, 108, 2, 1]), (64, .iaload, 1, []), (65, .dup2, 1, []), (66, .iaload, 1, []), (67, .iconst 1, 1, []), (68, .iadd, 1, []), (69, .iastore, 1, []), (70, .iinc 2 1, 3, []), (73, .goto (-35), 3, [6])]),
  (false, [(76, .iinc 1 1, 3, []), (79, .goto (-49), 3, [4])]),
  (false, [(82, .iconst 1, 1, []), (83, .istore_n 1, 1, [])]),
  (false, [(84, .iload_n 1, 1, []), (85, .bipush 64, 2, []), (87, .if_icmp .ge 55, 3, [18])]),
  (false, [(90, .aload_n 0, 1, []), (91, .iload_n 1, 1, []), (92, .invokevirtual 72, 3, [0, 120, 2, 1]), (95, .ifCond .ne 6, 3, [14])]),
  (false, [(98, .goto 38, 3, [17])]),
  (false, [(101, .iconst 0, 1, []), (102, .istore_n 2, 1, [])]),
  (false, [(103, .iload_n 2, 1, []), (104, .iconst 4, 1, []), (105, .if_icmp .ge 31, 3, [17])]),
  (false, [(108, .aload_n 0, 1, []), (109, .getfield 25, 3, [4, 6]), (112, .aload_n 0, 1, []), (113, .getfield 7, 3, [4, 0]), (116, .bipush 64, 2, []), (118, .iconst 4, 1, []), (119, .iload_n 1, 1, []), (120, .imul, 1, []), (121, .iadd, 1, []), (122, .iload_n 2, 1, []), (123, .iadd, 1, []), (124, .iaload, 1, []), (125, .dup2, 1, []), (126, .iaload, 1, []), (127, .iconst 1, 1, []), (128, .iadd, 1, []), (129, .iastore, 1, []), (130, .iinc 2 1, 3, []), (133, .goto (-30), 3, [15])]),
  (false, [(136, .iinc 1 1, 3, []), (139, .goto (-55), 3, [11])]),
  (false, [(142, .iconst 0, 1, []), (143, .istore_n 1, 1, [])]),
  (false, [(144, .iload_n 1, 1, []), (145, .bipush 64, 2, []), (147, .if_icmp .ge 24, 3, [21])]),
  (false, [(150, .aload_n 0, 1, []), (151, .getfield 22, 3, [4, 5]), (154, .iload_n 1, 1, []), (155, .dup2, 1, []), (156, .iaload, 1, []), (157, .aload_n 0, 1, []), (158, .getfield 25, 3, [4, 6]), (161, .iload_n 1, 1, []), (162, .iaload, 1, []), (163, .iadd, 1, []), (164, .iastore, 1, []), (165, .iinc 1 1, 3, []), (168, .goto (-24), 3, [19])]),
  (false, [(171, .aload_n 0, 1, []), (172, .getfield 22, 3, [4, 5]), (175, .iconst 0, 1, []), (176, .iconst 0, 1, []), (177, .iastore, 1, []), (178, .aload_n 0, 1, []), (179, .getfield 25, 3, [4, 6]), (182, .iconst 0, 1, []), (183, .iconst 0, 1, []), (184, .iastore, 1, []), (185, .return_, 1, [])])]
theorem cb_X4_reckons_0 : (blk md_X4_reckons 0).2 = [(0, .iconst 0, 1, []), (1, .istore_n 1, 1, [])] := rfl
theorem cb_X4_reckons_1 : (blk md_X4_reckons 1).2 = [(2, .iload_n 1, 1, []), (3, .bipush 64, 2, []), (5, .if_icmp .ge 23, 3, [3])] := rfl
theorem cb_X4_reckons_2 : (blk md_X4_reckons 2).2 = [(8, .aload_n 0, 1, []), (9, .getfield 22, 3, [4, 5]), (12, .iload_n 1, 1, []), (13, .iconst 0, 1, []), (14, .iastore, 1, []), (15, .aload_n 0, 1, []), (16, .getfield 25, 3, [4, 6]), (19, .iload_n 1, 1, []), (20, .iconst 0, 1, []), (21, .iastore, 1, []), (22, .iinc 1 1, 3, []), (25, .goto (-23), 3, [1])] := rfl
theorem cb_X4_reckons_3 : (blk md_X4_reckons 3).2 = [(28, .iconst 0, 1, []), (29, .istore_n 1, 1, [])] := rfl
theorem cb_X4_reckons_4 : (blk md_X4_reckons 4).2 = [(30, .iload_n 1, 1, []), (31, .bipush 14, 2, []), (33, .if_icmp .ge 49, 3, [10])] := rfl
theorem cb_X4_reckons_5 : (blk md_X4_reckons 5).2 = [(36, .iconst 0, 1, []), (37, .istore_n 2, 1, [])] := rfl
theorem cb_X4_reckons_6 : (blk md_X4_reckons 6).2 = [(38, .iload_n 2, 1, []), (39, .iconst 4, 1, []), (40, .if_icmp .ge 36, 3, [9])] := rfl
theorem cb_X4_reckons_7 : (blk md_X4_reckons 7).2 = [(43, .aload_n 0, 1, []), (44, .iload_n 1, 1, []), (45, .invokevirtual 69, 3, [0, 118, 2, 1]), (48, .ifCond .eq 28, 3, [9])] := rfl
theorem cb_X4_reckons_8 : (blk md_X4_reckons 8).2 = [(51, .aload_n 0, 1, []), (52, .getfield 22, 3, [4, 5]), (55, .aload_n 0, 1, []), (56, .getfield 7, 3, [4, 0]), (59, .iload_n 1, 1, []), (60, .iload_n 2, 1, []), (61, .invokestatic 41, 3, [1, 108, 2, 1]), (64, .iaload, 1, []), (65, .dup2, 1, []), (66, .iaload, 1, []), (67, .iconst 1, 1, []), (68, .iadd, 1, []), (69, .iastore, 1, []), (70, .iinc 2 1, 3, []), (73, .goto (-35), 3, [6])] := rfl
theorem cb_X4_reckons_9 : (blk md_X4_reckons 9).2 = [(76, .iinc 1 1, 3, []), (79, .goto (-49), 3, [4])] := rfl
theorem cb_X4_reckons_10 : (blk md_X4_reckons 10).2 = [(82, .iconst 1, 1, []), (83, .istore_n 1, 1, [])] := rfl
theorem cb_X4_reckons_11 : (blk md_X4_reckons 11).2 = [(84, .iload_n 1, 1, []), (85, .bipush 64, 2, []), (87, .if_icmp .ge 55, 3, [18])] := rfl
theorem cb_X4_reckons_12 : (blk md_X4_reckons 12).2 = [(90, .aload_n 0, 1, []), (91, .iload_n 1, 1, []), (92, .invokevirtual 72, 3, [0, 120, 2, 1]), (95, .ifCond .ne 6, 3, [14])] := rfl
theorem cb_X4_reckons_13 : (blk md_X4_reckons 13).2 = [(98, .goto 38, 3, [17])] := rfl
theorem cb_X4_reckons_14 : (blk md_X4_reckons 14).2 = [(101, .iconst 0, 1, []), (102, .istore_n 2, 1, [])] := rfl
theorem cb_X4_reckons_15 : (blk md_X4_reckons 15).2 = [(103, .iload_n 2, 1, []), (104, .iconst 4, 1, []), (105, .if_icmp .ge 31, 3, [17])] := rfl
theorem cb_X4_reckons_16 : (blk md_X4_reckons 16).2 = [(108, .aload_n 0, 1, []), (109, .getfield 25, 3, [4, 6]), (112, .aload_n 0, 1, []), (113, .getfield 7, 3, [4, 0]), (116, .bipush 64, 2, []), (118, .iconst 4, 1, []), (119, .iload_n 1, 1, []), (120, .imul, 1, []), (121, .iadd, 1, []), (122, .iload_n 2, 1, []), (123, .iadd, 1, []), (124, .iaload, 1, []), (125, .dup2, 1, []), (126, .iaload, 1, []), (127, .iconst 1, 1, []), (128, .iadd, 1, []), (129, .iastore, 1, []), (130, .iinc 2 1, 3, []), (133, .goto (-30), 3, [15])] := rfl
theorem cb_X4_reckons_17 : (blk md_X4_reckons 17).2 = [(136, .iinc 1 1, 3, []), (139, .goto (-55), 3, [11])] := rfl
theorem cb_X4_reckons_18 : (blk md_X4_reckons 18).2 = [(142, .iconst 0, 1, []), (143, .istore_n 1, 1, [])] := rfl
theorem cb_X4_reckons_19 : (blk md_X4_reckons 19).2 = [(144, .iload_n 1, 1, []), (145, .bipush 64, 2, []), (147, .if_icmp .ge 24, 3, [21])] := rfl
theorem cb_X4_reckons_20 : (blk md_X4_reckons 20).2 = [(150, .aload_n 0, 1, []), (151, .getfield 22, 3, [4, 5]), (154, .iload_n 1, 1, []), (155, .dup2, 1, []), (156, .iaload, 1, []), (157, .aload_n 0, 1, []), (158, .getfield 25, 3, [4, 6]), (161, .iload_n 1, 1, []), (162, .iaload, 1, []), (163, .iadd, 1, []), (164, .iastore, 1, []), (165, .iinc 1 1, 3, []), (168, .goto (-24), 3, [19])] := rfl
theorem cb_X4_reckons_21 : (blk md_X4_reckons 21).2 = [(171, .aload_n 0, 1, []), (172, .getfield 22, 3, [4, 5]), (175, .iconst 0, 1, []), (176, .iconst 0, 1, []), (177, .iastore, 1, []), (178, .aload_n 0, 1, []), (179, .getfield 25, 3, [4, 6]), (182, .iconst 0, 1, []), (183, .iconst 0, 1, []), (184, .iastore, 1, []), (185, .return_, 1, [])] := rfl
def md_X4_isTable : List mB := [
  (false, [(0, .iconst 0, 1, []), (1, .istore_n 2, 1, []), (2, .iconst 0, 1, []), (3, .istore_n 3, 1, [])]),
  (false, [(4, .iload_n 3, 1, []), (5, .bipush 14, 2, []), (7, .if_icmp .ge 57, 3, [11])]),
  (false, [(10, .iconst 0, 1, []), (11, .istore 4, 2, [])]),
  (false, [(13, .iload 4, 2, []), (15, .iconst 4, 1, []), (16, .if_icmp .ge 42, 3, [10])]),
  (false, [(19, .iload_n 2, 1, []), (20, .ifCond .ne 26, 3, [7])]),
  (false, [(23, .aload_n 0, 1, []), (24, .iload_n 3, 1, []), (25, .invokevirtual 69, 3, [0, 118, 2, 1]), (28, .ifCond .eq 22, 3, [8])]),
  (false, [(31, .aload_n 0, 1, []), (32, .getfield 7, 3, [4, 0]), (35, .iload_n 3, 1, []), (36, .iload 4, 2, []), (38, .invokestatic 41, 3, [1, 108, 2, 1]), (41, .iaload, 1, []), (42, .iload_n 1, 1, []), (43, .if_icmp .ne 7, 3, [8])]),
  (false, [(46, .iconst 1, 1, []), (47, .goto 4, 3, [9])]),
  (false, [(50, .iconst 0, 1, [])]),
  (false, [(51, .istore_n 2, 1, []), (52, .iinc 4 1, 3, []), (55, .goto (-42), 3, [3])]),
  (false, [(58, .iinc 3 1, 3, []), (61, .goto (-57), 3, [1])]),
  (false, [(64, .iload_n 2, 1, []), (65, .ireturn, 1, [1])])]
theorem cb_X4_isTable_0 : (blk md_X4_isTable 0).2 = [(0, .iconst 0, 1, []), (1, .istore_n 2, 1, []), (2, .iconst 0, 1, []), (3, .istore_n 3, 1, [])] := rfl
theorem cb_X4_isTable_1 : (blk md_X4_isTable 1).2 = [(4, .iload_n 3, 1, []), (5, .bipush 14, 2, []), (7, .if_icmp .ge 57, 3, [11])] := rfl
theorem cb_X4_isTable_2 : (blk md_X4_isTable 2).2 = [(10, .iconst 0, 1, []), (11, .istore 4, 2, [])] := rfl
theorem cb_X4_isTable_3 : (blk md_X4_isTable 3).2 = [(13, .iload 4, 2, []), (15, .iconst 4, 1, []), (16, .if_icmp .ge 42, 3, [10])] := rfl
theorem cb_X4_isTable_4 : (blk md_X4_isTable 4).2 = [(19, .iload_n 2, 1, []), (20, .ifCond .ne 26, 3, [7])] := rfl
theorem cb_X4_isTable_5 : (blk md_X4_isTable 5).2 = [(23, .aload_n 0, 1, []), (24, .iload_n 3, 1, []), (25, .invokevirtual 69, 3, [0, 118, 2, 1]), (28, .ifCond .eq 22, 3, [8])] := rfl
theorem cb_X4_isTable_6 : (blk md_X4_isTable 6).2 = [(31, .aload_n 0, 1, []), (32, .getfield 7, 3, [4, 0]), (35, .iload_n 3, 1, []), (36, .iload 4, 2, []), (38, .invokestatic 41, 3, [1, 108, 2, 1]), (41, .iaload, 1, []), (42, .iload_n 1, 1, []), (43, .if_icmp .ne 7, 3, [8])] := rfl
theorem cb_X4_isTable_7 : (blk md_X4_isTable 7).2 = [(46, .iconst 1, 1, []), (47, .goto 4, 3, [9])] := rfl
theorem cb_X4_isTable_8 : (blk md_X4_isTable 8).2 = [(50, .iconst 0, 1, [])] := rfl
theorem cb_X4_isTable_9 : (blk md_X4_isTable 9).2 = [(51, .istore_n 2, 1, []), (52, .iinc 4 1, 3, []), (55, .goto (-42), 3, [3])] := rfl
theorem cb_X4_isTable_10 : (blk md_X4_isTable 10).2 = [(58, .iinc 3 1, 3, []), (61, .goto (-57), 3, [1])] := rfl
theorem cb_X4_isTable_11 : (blk md_X4_isTable 11).2 = [(64, .iload_n 2, 1, []), (65, .ireturn, 1, [1])] := rfl
def md_X4_hasLack : List mB := [
  (false, [(0, .aload_n 0, 1, []), (1, .invokevirtual 75, 3, [0, 119, 1, 0]), (4, .iconst 0, 1, []), (5, .istore_n 1, 1, []), (6, .iconst 1, 1, []), (7, .istore_n 2, 1, [])]),
  (false, [(8, .iload_n 2, 1, []), (9, .bipush 64, 2, []), (11, .if_icmp .ge 36, 3, [7])]),
  (false, [(14, .iload_n 1, 1, []), (15, .ifCond .ne 20, 3, [4])]),
  (false, [(18, .aload_n 0, 1, []), (19, .getfield 7, 3, [4, 0]), (22, .iconst 0, 1, []), (23, .iload_n 2, 1, []), (24, .iadd, 1, []), (25, .iaload, 1, []), (26, .aload_n 0, 1, []), (27, .getfield 22, 3, [4, 5]), (30, .iload_n 2, 1, []), (31, .iaload, 1, []), (32, .if_icmp .ge 7, 3, [5])]),
  (false, [(35, .iconst 1, 1, []), (36, .goto 4, 3, [6])]),
  (false, [(39, .iconst 0, 1, [])]),
  (false, [(40, .istore_n 1, 1, []), (41, .iinc 2 1, 3, []), (44, .goto (-36), 3, [1])]),
  (false, [(47, .iload_n 1, 1, []), (48, .ireturn, 1, [1])])]
theorem cb_X4_hasLack_0 : (blk md_X4_hasLack 0).2 = [(0, .aload_n 0, 1, []), (1, .invokevirtual 75, 3, [0, 119, 1, 0]), (4, .iconst 0, 1, []), (5, .istore_n 1, 1, []), (6, .iconst 1, 1, []), (7, .istore_n 2, 1, [])] := rfl
theorem cb_X4_hasLack_1 : (blk md_X4_hasLack 1).2 = [(8, .iload_n 2, 1, []), (9, .bipush 64, 2, []), (11, .if_icmp .ge 36, 3, [7])] := rfl
theorem cb_X4_hasLack_2 : (blk md_X4_hasLack 2).2 = [(14, .iload_n 1, 1, []), (15, .ifCond .ne 20, 3, [4])] := rfl
theorem cb_X4_hasLack_3 : (blk md_X4_hasLack 3).2 = [(18, .aload_n 0, 1, []), (19, .getfield 7, 3, [4, 0]), (22, .iconst 0, 1, []), (23, .iload_n 2, 1, []), (24, .iadd, 1, []), (25, .iaload, 1, []), (26, .aload_n 0, 1, []), (27, .getfield 22, 3, [4, 5]), (30, .iload_n 2, 1, []), (31, .iaload, 1, []), (32, .if_icmp .ge 7, 3, [5])] := rfl
theorem cb_X4_hasLack_4 : (blk md_X4_hasLack 4).2 = [(35, .iconst 1, 1, []), (36, .goto 4, 3, [6])] := rfl
theorem cb_X4_hasLack_5 : (blk md_X4_hasLack 5).2 = [(39, .iconst 0, 1, [])] := rfl
theorem cb_X4_hasLack_6 : (blk md_X4_hasLack 6).2 = [(40, .istore_n 1, 1, []), (41, .iinc 2 1, 3, []), (44, .goto (-36), 3, [1])] := rfl
theorem cb_X4_hasLack_7 : (blk md_X4_hasLack 7).2 = [(47, .iload_n 1, 1, []), (48, .ireturn, 1, [1])] := rfl
def md_X4_may : List mB := [
  (false, [(0, .aload_n 0, 1, []), (1, .getfield 78, 3, [4, 9]), (4, .ifCond .ne 10, 3, [2])]),
  (false, [(7, .aload_n 0, 1, []), (8, .getfield 82, 3, [4, 10]), (11, .ifCond .eq 5, 3, [3])]),
  (false, [(14, .iconst 0, 1, []), (15, .ireturn, 1, [1])]),
  (false, [(16, .aload_n 0, 1, []), (17, .aload_n 0, 1, []), (18, .getfield 85, 3, [4, 7]), (21, .aload_n 0, 1, []), (22, .getfield 89, 3, [4, 8]), (25, .if_icmp .ne 7, 3, [5])]),
  (false, [(28, .iconst 1, 1, []), (29, .goto 4, 3, [6])]),
  (false, [(32, .iconst 0, 1, [])]),
  (false, [(33, .putfield 78, 3, [4, 9, 1]), (36, .aload_n 0, 1, []), (37, .dup, 1, []), (38, .getfield 85, 3, [4, 7]), (41, .aload_n 0, 1, []), (42, .getfield 78, 3, [4, 9]), (45, .ifCond .eq 7, 3, [8])]),
  (false, [(48, .iconst 0, 1, []), (49, .goto 4, 3, [9])]),
  (false, [(52, .iconst 1, 1, [])]),
  (false, [(53, .iadd, 1, []), (54, .putfield 85, 3, [4, 7]), (57, .aload_n 0, 1, []), (58, .getfield 78, 3, [4, 9]), (61, .ifCond .ne 7, 3, [11])]),
  (false, [(64, .iconst 1, 1, []), (65, .goto 4, 3, [12])]),
  (false, [(68, .iconst 0, 1, [])]),
  (false, [(69, .ireturn, 1, [1])])]
theorem cb_X4_may_0 : (blk md_X4_may 0).2 = [(0, .aload_n 0, 1, []), (1, .getfield 78, 3, [4, 9]), (4, .ifCond .ne 10, 3, [2])] := rfl
theorem cb_X4_may_1 : (blk md_X4_may 1).2 = [(7, .aload_n 0, 1, []), (8, .getfield 82, 3, [4, 10]), (11, .ifCond .eq 5, 3, [3])] := rfl
theorem cb_X4_may_2 : (blk md_X4_may 2).2 = [(14, .iconst 0, 1, []), (15, .ireturn, 1, [1])] := rfl
theorem cb_X4_may_3 : (blk md_X4_may 3).2 = [(16, .aload_n 0, 1, []), (17, .aload_n 0, 1, []), (18, .getfield 85, 3, [4, 7]), (21, .aload_n 0, 1, []), (22, .getfield 89, 3, [4, 8]), (25, .if_icmp .ne 7, 3, [5])] := rfl
theorem cb_X4_may_4 : (blk md_X4_may 4).2 = [(28, .iconst 1, 1, []), (29, .goto 4, 3, [6])] := rfl
theorem cb_X4_may_5 : (blk md_X4_may 5).2 = [(32, .iconst 0, 1, [])] := rfl
theorem cb_X4_may_6 : (blk md_X4_may 6).2 = [(33, .putfield 78, 3, [4, 9, 1]), (36, .aload_n 0, 1, []), (37, .dup, 1, []), (38, .getfield 85, 3, [4, 7]), (41, .aload_n 0, 1, []), (42, .getfield 78, 3, [4, 9]), (45, .ifCond .eq 7, 3, [8])] := rfl
theorem cb_X4_may_7 : (blk md_X4_may 7).2 = [(48, .iconst 0, 1, []), (49, .goto 4, 3, [9])] := rfl
theorem cb_X4_may_8 : (blk md_X4_may 8).2 = [(52, .iconst 1, 1, [])] := rfl
theorem cb_X4_may_9 : (blk md_X4_may 9).2 = [(53, .iadd, 1, []), (54, .putfield 85, 3, [4, 7]), (57, .aload_n 0, 1, []), (58, .getfield 78, 3, [4, 9]), (61, .ifCond .ne 7, 3, [11])] := rfl
theorem cb_X4_may_10 : (blk md_X4_may 10).2 = [(64, .iconst 1, 1, []), (65, .goto 4, 3, [12])] := rfl
theorem cb_X4_may_11 : (blk md_X4_may 11).2 = [(68, .iconst 0, 1, [])] := rfl
theorem cb_X4_may_12 : (blk md_X4_may 12).2 = [(69, .ireturn, 1, [1])] := rfl
def md_X4_sets : List mB := [
  (false, [(0, .aload_n 0, 1, []), (1, .invokevirtual 92, 3, [0, 122, 1, 1]), (4, .ifCond .eq 10, 3, [2])]),
  (false, [(7, .aload_n 0, 1, []), (8, .getfield 7, 3, [4, 0]), (11, .iload_n 1, 1, []), (12, .iload_n 2, 1, []), (13, .iastore, 1, [])]),
  (false, [(14, .return_, 1, [])])]
theorem cb_X4_sets_0 : (blk md_X4_sets 0).2 = [(0, .aload_n 0, 1, []), (1, .invokevirtual 92, 3, [0, 122, 1, 1]), (4, .ifCond .eq 10, 3, [2])] := rfl
theorem cb_X4_sets_1 : (blk md_X4_sets 1).2 = [(7, .aload_n 0, 1, []), (8, .getfield 7, 3, [4, 0]), (11, .iload_n 1, 1, []), (12, .iload_n 2, 1, []), (13, .iastore, 1, [])] := rfl
theorem cb_X4_sets_2 : (blk md_X4_sets 2).2 = [(14, .return_, 1, [])] := rfl
def md_X4_counts : List mB := [
  (false, [(0, .aload_n 0, 1, []), (1, .iconst 0, 1, []), (2, .iload_n 1, 1, []), (3, .iadd, 1, []), (4, .aload_n 0, 1, []), (5, .getfield 7, 3, [4, 0]), (8, .iconst 0, 1, []), (9, .iload_n 1, 1, []), (10, .iadd, 1, []), (11, .iaload, 1, []), (12, .iload_n 2, 1, []), (13, .iadd, 1, []), (14, .invokevirtual 96, 3, [0, 123, 3, 0]), (17, .return_, 1, [])])]
theorem cb_X4_counts_0 : (blk md_X4_counts 0).2 = [(0, .aload_n 0, 1, []), (1, .iconst 0, 1, []), (2, .iload_n 1, 1, []), (3, .iadd, 1, []), (4, .aload_n 0, 1, []), (5, .getfield 7, 3, [4, 0]), (8, .iconst 0, 1, []), (9, .iload_n 1, 1, []), (10, .iadd, 1, []), (11, .iaload, 1, []), (12, .iload_n 2, 1, []), (13, .iadd, 1, []), (14, .invokevirtual 96, 3, [0, 123, 3, 0]), (17, .return_, 1, [])] := rfl
def md_X4_setsFour : List mB := [
  (false, [(0, .aload_n 0, 1, []), (1, .invokevirtual 92, 3, [0, 122, 1, 1]), (4, .ifCond .ne 4, 3, [2])]),
  (false, [(7, .return_, 1, [])]),
  (false, [(8, .aload_n 0, 1, []), (9, .getfield 7, 3, [4, 0]), (12, .bipush 64, 2, []), (14, .iconst 4, 1, []), (15, .iload_n 1, 1, []), (16, .imul, 1, []), (17, .iadd, 1, []), (18, .iload_n 2, 1, []), (19, .iastore, 1, []), (20, .aload_n 0, 1, []), (21, .getfield 7, 3, [4, 0]), (24, .bipush 64, 2, []), (26, .iconst 4, 1, []), (27, .iload_n 1, 1, []), (28, .imul, 1, []), (29, .iadd, 1, []), (30, .iconst 1, 1, []), (31, .iadd, 1, []), (32, .iload_n 3, 1, []), (33, .iastore, 1, []), (34, .aload_n 0, 1, []), (35, .getfield 7, 3, [4, 0]), (38, .bipush 64, 2, []), (40, .iconst 4, 1, []), (41, .iload_n 1, 1, []), (42, .imul, 1, []), (43, .iadd, 1, []), (44, .iconst 2, 1, []), (45, .iadd, 1, []), (46, .iload 4, 2, []), (48, .iastore, 1, []), (49, .aload_n 0, 1, []), (50, .getfield 7, 3, [4, 0]), (53, .bipush 64, 2, []), (55, .iconst 4, 1, []), (56, .iload_n 1, 1, []), (57, .imul, 1, []), (58, .iadd, 1, []), (59, .iconst 3, 1, []), (60, .iadd, 1, []), (61, .iload 5, 2, []), (63, .iastore, 1, []), (64, .return_, 1, [])])]
theorem cb_X4_setsFour_0 : (blk md_X4_setsFour 0).2 = [(0, .aload_n 0, 1, []), (1, .invokevirtual 92, 3, [0, 122, 1, 1]), (4, .ifCond .ne 4, 3, [2])] := rfl
theorem cb_X4_setsFour_1 : (blk md_X4_setsFour 1).2 = [(7, .return_, 1, [])] := rfl
theorem cb_X4_setsFour_2 : (blk md_X4_setsFour 2).2 = [(8, .aload_n 0, 1, []), (9, .getfield 7, 3, [4, 0]), (12, .bipush 64, 2, []), (14, .iconst 4, 1, []), (15, .iload_n 1, 1, []), (16, .imul, 1, []), (17, .iadd, 1, []), (18, .iload_n 2, 1, []), (19, .iastore, 1, []), (20, .aload_n 0, 1, []), (21, .getfield 7, 3, [4, 0]), (24, .bipush 64, 2, []), (26, .iconst 4, 1, []), (27, .iload_n 1, 1, []), (28, .imul, 1, []), (29, .iadd, 1, []), (30, .iconst 1, 1, []), (31, .iadd, 1, []), (32, .iload_n 3, 1, []), (33, .iastore, 1, []), (34, .aload_n 0, 1, []), (35, .getfield 7, 3, [4, 0]), (38, .bipush 64, 2, []), (40, .iconst 4, 1, []), (41, .iload_n 1, 1, []), (42, .imul, 1, []), (43, .iadd, 1, []), (44, .iconst 2, 1, []), (45, .iadd, 1, []), (46, .iload 4, 2, []), (48, .iastore, 1, []), (49, .aload_n 0, 1, []), (50, .getfield 7, 3, [4, 0]), (53, .bipush 64, 2, []), (55, .iconst 4, 1, []), (56, .iload_n 1, 1, []), (57, .imul, 1, []), (58, .iadd, 1, []), (59, .iconst 3, 1, []), (60, .iadd, 1, []), (61, .iload 5, 2, []), (63, .iastore, 1, []), (64, .return_, 1, [])] := rfl
def md_X4_copiesCells : List mB := [
  (false, [(0, .aload_n 0, 1, []), (1, .iload_n 2, 1, []), (2, .aload_n 0, 1, []), (3, .getfield 7, 3, [4, 0]), (6, .bipush 64, 2, []), (8, .iconst 4, 1, []), (9, .iload_n 1, 1, []), (10, .imul, 1, []), (11, .iadd, 1, []), (12, .iaload, 1, []), (13, .aload_n 0, 1, []), (14, .getfield 7, 3, [4, 0]), (17, .bipush 64, 2, []), (19, .iconst 4, 1, []), (20, .iload_n 1, 1, []), (21, .imul, 1, []), (22, .iadd, 1, []), (23, .iconst 1, 1, []), (24, .iadd, 1, []), (25, .iaload, 1, []), (26, .aload_n 0, 1, []), (27, .getfield 7, 3, [4, 0]), (30, .bipush 64, 2, []), (32, .iconst 4, 1, []), (33, .iload_n 1, 1, []), (34, .imul, 1, []), (35, .iadd, 1, []), (36, .iconst 2, 1, []), (37, .iadd, 1, []), (38, .iaload, 1, []), (39, .aload_n 0, 1, []), (40, .getfield 7, 3, [4, 0]), (43, .bipush 64, 2, []), (45, .iconst 4, 1, []), (46, .iload_n 1, 1, []), (47, .imul, 1, []), (48, .iadd, 1, []), (49, .iconst 3, 1, []), (50, .iadd, 1, []), (51, .iaload, 1, []), (52, .invokevirtual 100, 3, [0, 125, 6, 0]), (55, .return_, 1, [])])]
theorem cb_X4_copiesCells_0 : (blk md_X4_copiesCells 0).2 = [(0, .aload_n 0, 1, []), (1, .iload_n 2, 1, []), (2, .aload_n 0, 1, []), (3, .getfield 7, 3, [4, 0]), (6, .bipush 64, 2, []), (8, .iconst 4, 1, []), (9, .iload_n 1, 1, []), (10, .imul, 1, []), (11, .iadd, 1, []), (12, .iaload, 1, []), (13, .aload_n 0, 1, []), (14, .getfield 7, 3, [4, 0]), (17, .bipush 64, 2, []), (19, .iconst 4, 1, []), (20, .iload_n 1, 1, []), (21, .imul, 1, []), (22, .iadd, 1, []), (23, .iconst 1, 1, []), (24, .iadd, 1, []), (25, .iaload, 1, []), (26, .aload_n 0, 1, []), (27, .getfield 7, 3, [4, 0]), (30, .bipush 64, 2, []), (32, .iconst 4, 1, []), (33, .iload_n 1, 1, []), (34, .imul, 1, []), (35, .iadd, 1, []), (36, .iconst 2, 1, []), (37, .iadd, 1, []), (38, .iaload, 1, []), (39, .aload_n 0, 1, []), (40, .getfield 7, 3, [4, 0]), (43, .bipush 64, 2, []), (45, .iconst 4, 1, []), (46, .iload_n 1, 1, []), (47, .imul, 1, []), (48, .iadd, 1, []), (49, .iconst 3, 1, []), (50, .iadd, 1, []), (51, .iaload, 1, []), (52, .invokevirtual 100, 3, [0, 125, 6, 0]), (55, .return_, 1, [])] := rfl
def md_X4_anew : List mB := [
  (false, [(0, .iconst 1, 1, []), (1, .istore_n 1, 1, [])]),
  (false, [(2, .iload_n 1, 1, []), (3, .bipush 64, 2, []), (5, .if_icmp .ge 20, 3, [4])]),
  (false, [(8, .aload_n 0, 1, []), (9, .getfield 7, 3, [4, 0]), (12, .iconst 0, 1, []), (13, .iload_n 1, 1, []), (14, .iadd, 1, []), (15, .iaload, 1, []), (16, .ifCond .eq 9, 3, [4])]),
  (false, [(19, .iinc 1 1, 3, []), (22, .goto (-20), 3, [1])]),
  (false, [(25, .iload_n 1, 1, []), (26, .bipush 64, 2, []), (28, .if_icmp .ne 28, 3, [10])]),
  (false, [(31, .aload_n 0, 1, []), (32, .aload_n 0, 1, []), (33, .getfield 82, 3, [4, 10]), (36, .ifCond .ne 10, 3, [7])]),
  (false, [(39, .aload_n 0, 1, []), (40, .getfield 78, 3, [4, 9]), (43, .ifCond .ne 7, 3, [8])]),
  (false, [(46, .iconst 1, 1, []), (47, .goto 4, 3, [9])]),
  (false, [(50, .iconst 0, 1, [])]),
  (false, [(51, .putfield 82, 3, [4, 10, 1]), (54, .iconst 0, 1, []), (55, .ireturn, 1, [])]),
  (false, [(56, .aload_n 0, 1, []), (57, .iconst 0, 1, []), (58, .iload_n 1, 1, []), (59, .iadd, 1, []), (60, .iconst 1, 1, []), (61, .invokevirtual 96, 3, [0, 123, 3, 0]), (64, .iload_n 1, 1, []), (65, .ireturn, 1, [])])]
theorem cb_X4_anew_0 : (blk md_X4_anew 0).2 = [(0, .iconst 1, 1, []), (1, .istore_n 1, 1, [])] := rfl
theorem cb_X4_anew_1 : (blk md_X4_anew 1).2 = [(2, .iload_n 1, 1, []), (3, .bipush 64, 2, []), (5, .if_icmp .ge 20, 3, [4])] := rfl
theorem cb_X4_anew_2 : (blk md_X4_anew 2).2 = [(8, .aload_n 0, 1, []), (9, .getfield 7, 3, [4, 0]), (12, .iconst 0, 1, []), (13, .iload_n 1, 1, []), (14, .iadd, 1, []), (15, .iaload, 1, []), (16, .ifCond .eq 9, 3, [4])] := rfl
theorem cb_X4_anew_3 : (blk md_X4_anew 3).2 = [(19, .iinc 1 1, 3, []), (22, .goto (-20), 3, [1])] := rfl
theorem cb_X4_anew_4 : (blk md_X4_anew 4).2 = [(25, .iload_n 1, 1, []), (26, .bipush 64, 2, []), (28, .if_icmp .ne 28, 3, [10])] := rfl
theorem cb_X4_anew_5 : (blk md_X4_anew 5).2 = [(31, .aload_n 0, 1, []), (32, .aload_n 0, 1, []), (33, .getfield 82, 3, [4, 10]), (36, .ifCond .ne 10, 3, [7])] := rfl
theorem cb_X4_anew_6 : (blk md_X4_anew 6).2 = [(39, .aload_n 0, 1, []), (40, .getfield 78, 3, [4, 9]), (43, .ifCond .ne 7, 3, [8])] := rfl
theorem cb_X4_anew_7 : (blk md_X4_anew 7).2 = [(46, .iconst 1, 1, []), (47, .goto 4, 3, [9])] := rfl
theorem cb_X4_anew_8 : (blk md_X4_anew 8).2 = [(50, .iconst 0, 1, [])] := rfl
theorem cb_X4_anew_9 : (blk md_X4_anew 9).2 = [(51, .putfield 82, 3, [4, 10, 1]), (54, .iconst 0, 1, []), (55, .ireturn, 1, [])] := rfl
theorem cb_X4_anew_10 : (blk md_X4_anew 10).2 = [(56, .aload_n 0, 1, []), (57, .iconst 0, 1, []), (58, .iload_n 1, 1, []), (59, .iadd, 1, []), (60, .iconst 1, 1, []), (61, .invokevirtual 96, 3, [0, 123, 3, 0]), (64, .iload_n 1, 1, []), (65, .ireturn, 1, [])] := rfl
def md_X4_owns : List mB := [
  (false, [(0, .iload_n 1, 1, []), (1, .iload_n 2, 1, []), (2, .iconst 4, 1, []), (3, .idiv, 1, []), (4, .invokestatic 41, 3, [1, 108, 2, 1]), (7, .istore_n 3, 1, []), (8, .aload_n 0, 1, []), (9, .getfield 7, 3, [4, 0]), (12, .iload_n 3, 1, []), (13, .iaload, 1, []), (14, .istore 4, 2, []), (16, .iload 4, 2, []), (18, .ifCond .eq 17, 3, [3])]),
  (false, [(21, .aload_n 0, 1, []), (22, .getfield 7, 3, [4, 0]), (25, .iconst 0, 1, []), (26, .iload 4, 2, []), (28, .iadd, 1, []), (29, .iaload, 1, []), (30, .iconst 1, 1, []), (31, .if_icmp .gt 4, 3, [3])]),
  (false, [(34, .return_, 1, [])]),
  (false, [(35, .aload_n 0, 1, []), (36, .invokevirtual 104, 3, [0, 127, 1, 1]), (39, .istore 5, 2, []), (41, .iload 4, 2, []), (43, .ifCond .ne 16, 3, [5])]),
  (false, [(46, .aload_n 0, 1, []), (47, .iload 5, 2, []), (49, .iconst 0, 1, []), (50, .iconst 0, 1, []), (51, .iconst 0, 1, []), (52, .iconst 0, 1, []), (53, .invokevirtual 100, 3, [0, 125, 6, 0]), (56, .goto 11, 3, [6])]),
  (false, [(59, .aload_n 0, 1, []), (60, .iload 4, 2, []), (62, .iload 5, 2, []), (64, .invokevirtual 108, 3, [0, 126, 3, 0])]),
  (false, [(67, .iconst 0, 1, []), (68, .istore 6, 2, [])]),
  (false, [(70, .iload 6, 2, []), (72, .iconst 4, 1, []), (73, .if_icmp .ge 52, 3, [12])]),
  (false, [(76, .iload 4, 2, []), (78, .ifCond .eq 47, 3, [12])]),
  (false, [(81, .aload_n 0, 1, []), (82, .getfield 7, 3, [4, 0]), (85, .bipush 64, 2, []), (87, .iconst 4, 1, []), (88, .iload 4, 2, []), (90, .imul, 1, []), (91, .iadd, 1, []), (92, .iload 6, 2, []), (94, .iadd, 1, []), (95, .iaload, 1, []), (96, .ifCond .eq 23, 3, [11])]),
  (false, [(99, .aload_n 0, 1, []), (100, .aload_n 0, 1, []), (101, .getfield 7, 3, [4, 0]), (104, .bipush 64, 2, []), (106, .iconst 4, 1, []), (107, .iload 4, 2, []), (109, .imul, 1, []), (110, .iadd, 1, []), (111, .iload 6, 2, []), (113, .iadd, 1, []), (114, .iaload, 1, []), (115, .iconst 1, 1, []), (116, .invokevirtual 111, 3, [0, 124, 3, 0])]),
  (false, [(119, .iinc 6 1, 3, []), (122, .goto (-52), 3, [7])]),
  (false, [(125, .aload_n 0, 1, []), (126, .iload_n 3, 1, []), (127, .iload 5, 2, []), (129, .invokevirtual 96, 3, [0, 123, 3, 0]), (132, .iload 4, 2, []), (134, .ifCond .eq 10, 3, [14])]),
  (false, [(137, .aload_n 0, 1, []), (138, .iload 4, 2, []), (140, .iconst (-1), 1, []), (141, .invokevirtual 111, 3, [0, 124, 3, 0])]),
  (false, [(144, .return_, 1, [])])]
theorem cb_X4_owns_0 : (blk md_X4_owns 0).2 = [(0, .iload_n 1, 1, []), (1, .iload_n 2, 1, []), (2, .iconst 4, 1, []), (3, .idiv, 1, []), (4, .invokestatic 41, 3, [1, 108, 2, 1]), (7, .istore_n 3, 1, []), (8, .aload_n 0, 1, []), (9, .getfield 7, 3, [4, 0]), (12, .iload_n 3, 1, []), (13, .iaload, 1, []), (14, .istore 4, 2, []), (16, .iload 4, 2, []), (18, .ifCond .eq 17, 3, [3])] := rfl
theorem cb_X4_owns_1 : (blk md_X4_owns 1).2 = [(21, .aload_n 0, 1, []), (22, .getfield 7, 3, [4, 0]), (25, .iconst 0, 1, []), (26, .iload 4, 2, []), (28, .iadd, 1, []), (29, .iaload, 1, []), (30, .iconst 1, 1, []), (31, .if_icmp .gt 4, 3, [3])] := rfl
theorem cb_X4_owns_2 : (blk md_X4_owns 2).2 = [(34, .return_, 1, [])] := rfl
theorem cb_X4_owns_3 : (blk md_X4_owns 3).2 = [(35, .aload_n 0, 1, []), (36, .invokevirtual 104, 3, [0, 127, 1, 1]), (39, .istore 5, 2, []), (41, .iload 4, 2, []), (43, .ifCond .ne 16, 3, [5])] := rfl
theorem cb_X4_owns_4 : (blk md_X4_owns 4).2 = [(46, .aload_n 0, 1, []), (47, .iload 5, 2, []), (49, .iconst 0, 1, []), (50, .iconst 0, 1, []), (51, .iconst 0, 1, []), (52, .iconst 0, 1, []), (53, .invokevirtual 100, 3, [0, 125, 6, 0]), (56, .goto 11, 3, [6])] := rfl
theorem cb_X4_owns_5 : (blk md_X4_owns 5).2 = [(59, .aload_n 0, 1, []), (60, .iload 4, 2, []), (62, .iload 5, 2, []), (64, .invokevirtual 108, 3, [0, 126, 3, 0])] := rfl
theorem cb_X4_owns_6 : (blk md_X4_owns 6).2 = [(67, .iconst 0, 1, []), (68, .istore 6, 2, [])] := rfl
theorem cb_X4_owns_7 : (blk md_X4_owns 7).2 = [(70, .iload 6, 2, []), (72, .iconst 4, 1, []), (73, .if_icmp .ge 52, 3, [12])] := rfl
theorem cb_X4_owns_8 : (blk md_X4_owns 8).2 = [(76, .iload 4, 2, []), (78, .ifCond .eq 47, 3, [12])] := rfl
theorem cb_X4_owns_9 : (blk md_X4_owns 9).2 = [(81, .aload_n 0, 1, []), (82, .getfield 7, 3, [4, 0]), (85, .bipush 64, 2, []), (87, .iconst 4, 1, []), (88, .iload 4, 2, []), (90, .imul, 1, []), (91, .iadd, 1, []), (92, .iload 6, 2, []), (94, .iadd, 1, []), (95, .iaload, 1, []), (96, .ifCond .eq 23, 3, [11])] := rfl
theorem cb_X4_owns_10 : (blk md_X4_owns 10).2 = [(99, .aload_n 0, 1, []), (100, .aload_n 0, 1, []), (101, .getfield 7, 3, [4, 0]), (104, .bipush 64, 2, []), (106, .iconst 4, 1, []), (107, .iload 4, 2, []), (109, .imul, 1, []), (110, .iadd, 1, []), (111, .iload 6, 2, []), (113, .iadd, 1, []), (114, .iaload, 1, []), (115, .iconst 1, 1, []), (116, .invokevirtual 111, 3, [0, 124, 3, 0])] := rfl
theorem cb_X4_owns_11 : (blk md_X4_owns 11).2 = [(119, .iinc 6 1, 3, []), (122, .goto (-52), 3, [7])] := rfl
theorem cb_X4_owns_12 : (blk md_X4_owns 12).2 = [(125, .aload_n 0, 1, []), (126, .iload_n 3, 1, []), (127, .iload 5, 2, []), (129, .invokevirtual 96, 3, [0, 123, 3, 0]), (132, .iload 4, 2, []), (134, .ifCond .eq 10, 3, [14])] := rfl
theorem cb_X4_owns_13 : (blk md_X4_owns 13).2 = [(137, .aload_n 0, 1, []), (138, .iload 4, 2, []), (140, .iconst (-1), 1, []), (141, .invokevirtual 111, 3, [0, 124, 3, 0])] := rfl
theorem cb_X4_owns_14 : (blk md_X4_owns 14).2 = [(144, .return_, 1, [])] := rfl
def md_X4_releases : List mB := [
  (false, [(0, .iload_n 1, 1, []), (1, .ifCond .ne 4, 3, [2])]),
  (false, [(4, .return_, 1, [])]),
  (false, [(5, .aload_n 0, 1, []), (6, .iload_n 1, 1, []), (7, .iconst (-1), 1, []), (8, .invokevirtual 111, 3, [0, 124, 3, 0]), (11, .aload_n 0, 1, []), (12, .getfield 7, 3, [4, 0]), (15, .iconst 0, 1, []), (16, .iload_n 1, 1, []), (17, .iadd, 1, []), (18, .iaload, 1, []), (19, .ifCond .eq 4, 3, [4])]),
  (false, [(22, .return_, 1, [])]),
  (false, [(23, .iconst 0, 1, []), (24, .istore_n 2, 1, [])]),
  (false, [(25, .iload_n 2, 1, []), (26, .iconst 4, 1, []), (27, .if_icmp .ge 43, 3, [9])]),
  (false, [(30, .aload_n 0, 1, []), (31, .getfield 7, 3, [4, 0]), (34, .bipush 64, 2, []), (36, .iconst 4, 1, []), (37, .iload_n 1, 1, []), (38, .imul, 1, []), (39, .iadd, 1, []), (40, .iload_n 2, 1, []), (41, .iadd, 1, []), (42, .iaload, 1, []), (43, .ifCond .eq 21, 3, [8])]),
  (false, [(46, .aload_n 0, 1, []), (47, .aload_n 0, 1, []), (48, .getfield 7, 3, [4, 0]), (51, .bipush 64, 2, []), (53, .iconst 4, 1, []), (54, .iload_n 1, 1, []), (55, .imul, 1, []), (56, .iadd, 1, []), (57, .iload_n 2, 1, []), (58, .iadd, 1, []), (59, .iaload, 1, []), (60, .iconst (-1), 1, []), (61, .invokevirtual 111, 3, [0, 124, 3, 0])]),
  (false, [(64, .iinc 2 1, 3, []), (67, .goto (-42), 3, [5])]),
  (false, [(70, .return_, 1, [])])]
theorem cb_X4_releases_0 : (blk md_X4_releases 0).2 = [(0, .iload_n 1, 1, []), (1, .ifCond .ne 4, 3, [2])] := rfl
theorem cb_X4_releases_1 : (blk md_X4_releases 1).2 = [(4, .return_, 1, [])] := rfl
theorem cb_X4_releases_2 : (blk md_X4_releases 2).2 = [(5, .aload_n 0, 1, []), (6, .iload_n 1, 1, []), (7, .iconst (-1), 1, []), (8, .invokevirtual 111, 3, [0, 124, 3, 0]), (11, .aload_n 0, 1, []), (12, .getfield 7, 3, [4, 0]), (15, .iconst 0, 1, []), (16, .iload_n 1, 1, []), (17, .iadd, 1, []), (18, .iaload, 1, []), (19, .ifCond .eq 4, 3, [4])] := rfl
theorem cb_X4_releases_3 : (blk md_X4_releases 3).2 = [(22, .return_, 1, [])] := rfl
theorem cb_X4_releases_4 : (blk md_X4_releases 4).2 = [(23, .iconst 0, 1, []), (24, .istore_n 2, 1, [])] := rfl
theorem cb_X4_releases_5 : (blk md_X4_releases 5).2 = [(25, .iload_n 2, 1, []), (26, .iconst 4, 1, []), (27, .if_icmp .ge 43, 3, [9])] := rfl
theorem cb_X4_releases_6 : (blk md_X4_releases 6).2 = [(30, .aload_n 0, 1, []), (31, .getfield 7, 3, [4, 0]), (34, .bipush 64, 2, []), (36, .iconst 4, 1, []), (37, .iload_n 1, 1, []), (38, .imul, 1, []), (39, .iadd, 1, []), (40, .iload_n 2, 1, []), (41, .iadd, 1, []), (42, .iaload, 1, []), (43, .ifCond .eq 21, 3, [8])] := rfl
theorem cb_X4_releases_7 : (blk md_X4_releases 7).2 = [(46, .aload_n 0, 1, []), (47, .aload_n 0, 1, []), (48, .getfield 7, 3, [4, 0]), (51, .bipush 64, 2, []), (53, .iconst 4, 1, []), (54, .iload_n 1, 1, []), (55, .imul, 1, []), (56, .iadd, 1, []), (57, .iload_n 2, 1, []), (58, .iadd, 1, []), (59, .iaload, 1, []), (60, .iconst (-1), 1, []), (61, .invokevirtual 111, 3, [0, 124, 3, 0])] := rfl
theorem cb_X4_releases_8 : (blk md_X4_releases 8).2 = [(64, .iinc 2 1, 3, []), (67, .goto (-42), 3, [5])] := rfl
theorem cb_X4_releases_9 : (blk md_X4_releases 9).2 = [(70, .return_, 1, [])] := rfl
def md_X4_writes : List mB := [
  (false, [(0, .iload_n 2, 1, []), (1, .iconst 4, 1, []), (2, .idiv, 1, []), (3, .istore 4, 2, []), (5, .aload_n 0, 1, []), (6, .iload_n 1, 1, []), (7, .iload 4, 2, []), (9, .invokevirtual 114, 3, [0, 128, 3, 0]), (12, .bipush 64, 2, []), (14, .iconst 4, 1, []), (15, .aload_n 0, 1, []), (16, .getfield 7, 3, [4, 0]), (19, .iload_n 1, 1, []), (20, .iload 4, 2, []), (22, .iconst 4, 1, []), (23, .idiv, 1, []), (24, .invokestatic 41, 3, [1, 108, 2, 1]), (27, .iaload, 1, []), (28, .imul, 1, []), (29, .iadd, 1, []), (30, .iload 4, 2, []), (32, .iconst 4, 1, []), (33, .irem, 1, []), (34, .iadd, 1, []), (35, .istore 5, 2, []), (37, .aload_n 0, 1, []), (38, .getfield 7, 3, [4, 0]), (41, .iload 5, 2, []), (43, .iaload, 1, []), (44, .istore 6, 2, []), (46, .iload 6, 2, []), (48, .istore 7, 2, []), (50, .iload 6, 2, []), (52, .ifCond .ne 68, 3, [2])]),
  (false, [(55, .aload_n 0, 1, []), (56, .invokevirtual 104, 3, [0, 127, 1, 1]), (59, .istore 7, 2, []), (61, .aload_n 0, 1, []), (62, .iload 7, 2, []), (64, .aload_n 0, 1, []), (65, .iload_n 1, 1, []), (66, .iconst 4, 1, []), (67, .iload 4, 2, []), (69, .imul, 1, []), (70, .invokevirtual 63, 3, [0, 111, 3, 1]), (73, .aload_n 0, 1, []), (74, .iload_n 1, 1, []), (75, .iconst 4, 1, []), (76, .iload 4, 2, []), (78, .imul, 1, []), (79, .iconst 1, 1, []), (80, .iadd, 1, []), (81, .invokevirtual 63, 3, [0, 111, 3, 1]), (84, .aload_n 0, 1, []), (85, .iload_n 1, 1, []), (86, .iconst 4, 1, []), (87, .iload 4, 2, []), (89, .imul, 1, []), (90, .iconst 2, 1, []), (91, .iadd, 1, []), (92, .invokevirtual 63, 3, [0, 111, 3, 1]), (95, .aload_n 0, 1, []), (96, .iload_n 1, 1, []), (97, .iconst 4, 1, []), (98, .iload 4, 2, []), (100, .imul, 1, []), (101, .iconst 3, 1, []), (102, .iadd, 1, []), (103, .invokevirtual 63, 3, [0, 111, 3, 1]), (106, .invokevirtual 100, 3, [0, 125, 6, 0]), (109, .aload_n 0, 1, []), (110, .iload 5, 2, []), (112, .iload 7, 2, []), (114, .invokevirtual 96, 3, [0, 123, 3, 0]), (117, .goto 45, 3, [4])]),
  (false, [(120, .aload_n 0, 1, []), (121, .getfield 7, 3, [4, 0]), (124, .iconst 0, 1, []), (125, .iload 6, 2, []), (127, .iadd, 1, []), (128, .iaload, 1, []), (129, .iconst 1, 1, []), (130, .if_icmp .le 32, 3, [4])]),
  (false, [(133, .aload_n 0, 1, []), (134, .invokevirtual 104, 3, [0, 127, 1, 1]), (137, .istore 7, 2, []), (139, .aload_n 0, 1, []), (140, .iload 6, 2, []), (142, .iload 7, 2, []), (144, .invokevirtual 108, 3, [0, 126, 3, 0]), (147, .aload_n 0, 1, []), (148, .iload 5, 2, []), (150, .iload 7, 2, []), (152, .invokevirtual 96, 3, [0, 123, 3, 0]), (155, .aload_n 0, 1, []), (156, .iload 6, 2, []), (158, .iconst (-1), 1, []), (159, .invokevirtual 111, 3, [0, 124, 3, 0])]),
  (false, [(162, .aload_n 0, 1, []), (163, .bipush 64, 2, []), (165, .iconst 4, 1, []), (166, .iload 7, 2, []), (168, .imul, 1, []), (169, .iadd, 1, []), (170, .iload_n 2, 1, []), (171, .iconst 4, 1, []), (172, .irem, 1, []), (173, .iadd, 1, []), (174, .iload_n 3, 1, []), (175, .invokevirtual 96, 3, [0, 123, 3, 0]), (178, .return_, 1, [])])]
theorem cb_X4_writes_0 : (blk md_X4_writes 0).2 = [(0, .iload_n 2, 1, []), (1, .iconst 4, 1, []), (2, .idiv, 1, []), (3, .istore 4, 2, []), (5, .aload_n 0, 1, []), (6, .iload_n 1, 1, []), (7, .iload 4, 2, []), (9, .invokevirtual 114, 3, [0, 128, 3, 0]), (12, .bipush 64, 2, []), (14, .iconst 4, 1, []), (15, .aload_n 0, 1, []), (16, .getfield 7, 3, [4, 0]), (19, .iload_n 1, 1, []), (20, .iload 4, 2, []), (22, .iconst 4, 1, []), (23, .idiv, 1, []), (24, .invokestatic 41, 3, [1, 108, 2, 1]), (27, .iaload, 1, []), (28, .imul, 1, []), (29, .iadd, 1, []), (30, .iload 4, 2, []), (32, .iconst 4, 1, []), (33, .irem, 1, []), (34, .iadd, 1, []), (35, .istore 5, 2, []), (37, .aload_n 0, 1, []), (38, .getfield 7, 3, [4, 0]), (41, .iload 5, 2, []), (43, .iaload, 1, []), (44, .istore 6, 2, []), (46, .iload 6, 2, []), (48, .istore 7, 2, []), (50, .iload 6, 2, []), (52, .ifCond .ne 68, 3, [2])] := rfl
theorem cb_X4_writes_1 : (blk md_X4_writes 1).2 = [(55, .aload_n 0, 1, []), (56, .invokevirtual 104, 3, [0, 127, 1, 1]), (59, .istore 7, 2, []), (61, .aload_n 0, 1, []), (62, .iload 7, 2, []), (64, .aload_n 0, 1, []), (65, .iload_n 1, 1, []), (66, .iconst 4, 1, []), (67, .iload 4, 2, []), (69, .imul, 1, []), (70, .invokevirtual 63, 3, [0, 111, 3, 1]), (73, .aload_n 0, 1, []), (74, .iload_n 1, 1, []), (75, .iconst 4, 1, []), (76, .iload 4, 2, []), (78, .imul, 1, []), (79, .iconst 1, 1, []), (80, .iadd, 1, []), (81, .invokevirtual 63, 3, [0, 111, 3, 1]), (84, .aload_n 0, 1, []), (85, .iload_n 1, 1, []), (86, .iconst 4, 1, []), (87, .iload 4, 2, []), (89, .imul, 1, []), (90, .iconst 2, 1, []), (91, .iadd, 1, []), (92, .invokevirtual 63, 3, [0, 111, 3, 1]), (95, .aload_n 0, 1, []), (96, .iload_n 1, 1, []), (97, .iconst 4, 1, []), (98, .iload 4, 2, []), (100, .imul, 1, []), (101, .iconst 3, 1, []), (102, .iadd, 1, []), (103, .invokevirtual 63, 3, [0, 111, 3, 1]), (106, .invokevirtual 100, 3, [0, 125, 6, 0]), (109, .aload_n 0, 1, []), (110, .iload 5, 2, []), (112, .iload 7, 2, []), (114, .invokevirtual 96, 3, [0, 123, 3, 0]), (117, .goto 45, 3, [4])] := rfl
theorem cb_X4_writes_2 : (blk md_X4_writes 2).2 = [(120, .aload_n 0, 1, []), (121, .getfield 7, 3, [4, 0]), (124, .iconst 0, 1, []), (125, .iload 6, 2, []), (127, .iadd, 1, []), (128, .iaload, 1, []), (129, .iconst 1, 1, []), (130, .if_icmp .le 32, 3, [4])] := rfl
theorem cb_X4_writes_3 : (blk md_X4_writes 3).2 = [(133, .aload_n 0, 1, []), (134, .invokevirtual 104, 3, [0, 127, 1, 1]), (137, .istore 7, 2, []), (139, .aload_n 0, 1, []), (140, .iload 6, 2, []), (142, .iload 7, 2, []), (144, .invokevirtual 108, 3, [0, 126, 3, 0]), (147, .aload_n 0, 1, []), (148, .iload 5, 2, []), (150, .iload 7, 2, []), (152, .invokevirtual 96, 3, [0, 123, 3, 0]), (155, .aload_n 0, 1, []), (156, .iload 6, 2, []), (158, .iconst (-1), 1, []), (159, .invokevirtual 111, 3, [0, 124, 3, 0])] := rfl
theorem cb_X4_writes_4 : (blk md_X4_writes 4).2 = [(162, .aload_n 0, 1, []), (163, .bipush 64, 2, []), (165, .iconst 4, 1, []), (166, .iload 7, 2, []), (168, .imul, 1, []), (169, .iadd, 1, []), (170, .iload_n 2, 1, []), (171, .iconst 4, 1, []), (172, .irem, 1, []), (173, .iadd, 1, []), (174, .iload_n 3, 1, []), (175, .invokevirtual 96, 3, [0, 123, 3, 0]), (178, .return_, 1, [])] := rfl
def md_X4_remembers : List mB := [
  (false, [(0, .iconst 0, 1, []), (1, .istore_n 2, 1, [])]),
  (false, [(2, .iload_n 2, 1, []), (3, .iconst 4, 1, []), (4, .if_icmp .ge 25, 3, [3])]),
  (false, [(7, .aload_n 0, 1, []), (8, .getfield 28, 3, [4, 12]), (11, .iload_n 2, 1, []), (12, .aload_n 0, 1, []), (13, .getfield 7, 3, [4, 0]), (16, .iload_n 1, 1, []), (17, .iload_n 2, 1, []), (18, .invokestatic 41, 3, [1, 108, 2, 1]), (21, .iaload, 1, []), (22, .iastore, 1, []), (23, .iinc 2 1, 3, []), (26, .goto (-24), 3, [1])]),
  (false, [(29, .return_, 1, [])])]
theorem cb_X4_remembers_0 : (blk md_X4_remembers 0).2 = [(0, .iconst 0, 1, []), (1, .istore_n 2, 1, [])] := rfl
theorem cb_X4_remembers_1 : (blk md_X4_remembers 1).2 = [(2, .iload_n 2, 1, []), (3, .iconst 4, 1, []), (4, .if_icmp .ge 25, 3, [3])] := rfl
theorem cb_X4_remembers_2 : (blk md_X4_remembers 2).2 = [(7, .aload_n 0, 1, []), (8, .getfield 28, 3, [4, 12]), (11, .iload_n 2, 1, []), (12, .aload_n 0, 1, []), (13, .getfield 7, 3, [4, 0]), (16, .iload_n 1, 1, []), (17, .iload_n 2, 1, []), (18, .invokestatic 41, 3, [1, 108, 2, 1]), (21, .iaload, 1, []), (22, .iastore, 1, []), (23, .iinc 2 1, 3, []), (26, .goto (-24), 3, [1])] := rfl
theorem cb_X4_remembers_3 : (blk md_X4_remembers 3).2 = [(29, .return_, 1, [])] := rfl
def md_X4_releasesHad : List mB := [
  (false, [(0, .iconst 0, 1, []), (1, .istore_n 1, 1, [])]),
  (false, [(2, .iload_n 1, 1, []), (3, .iconst 4, 1, []), (4, .if_icmp .ge 19, 3, [3])]),
  (false, [(7, .aload_n 0, 1, []), (8, .aload_n 0, 1, []), (9, .getfield 28, 3, [4, 12]), (12, .iload_n 1, 1, []), (13, .iaload, 1, []), (14, .invokevirtual 117, 3, [0, 129, 2, 0]), (17, .iinc 1 1, 3, []), (20, .goto (-18), 3, [1])]),
  (false, [(23, .return_, 1, [])])]
theorem cb_X4_releasesHad_0 : (blk md_X4_releasesHad 0).2 = [(0, .iconst 0, 1, []), (1, .istore_n 1, 1, [])] := rfl
theorem cb_X4_releasesHad_1 : (blk md_X4_releasesHad 1).2 = [(2, .iload_n 1, 1, []), (3, .iconst 4, 1, []), (4, .if_icmp .ge 19, 3, [3])] := rfl
theorem cb_X4_releasesHad_2 : (blk md_X4_releasesHad 2).2 = [(7, .aload_n 0, 1, []), (8, .aload_n 0, 1, []), (9, .getfield 28, 3, [4, 12]), (12, .iload_n 1, 1, []), (13, .iaload, 1, []), (14, .invokevirtual 117, 3, [0, 129, 2, 0]), (17, .iinc 1 1, 3, []), (20, .goto (-18), 3, [1])] := rfl
theorem cb_X4_releasesHad_3 : (blk md_X4_releasesHad 3).2 = [(23, .return_, 1, [])] := rfl
def md_X4_countsTables : List mB := [
  (false, [(0, .iconst 0, 1, []), (1, .istore_n 2, 1, [])]),
  (false, [(2, .iload_n 2, 1, []), (3, .iconst 4, 1, []), (4, .if_icmp .ge 37, 3, [5])]),
  (false, [(7, .aload_n 0, 1, []), (8, .getfield 7, 3, [4, 0]), (11, .iload_n 1, 1, []), (12, .iload_n 2, 1, []), (13, .invokestatic 41, 3, [1, 108, 2, 1]), (16, .iaload, 1, []), (17, .ifCond .eq 18, 3, [4])]),
  (false, [(20, .aload_n 0, 1, []), (21, .aload_n 0, 1, []), (22, .getfield 7, 3, [4, 0]), (25, .iload_n 1, 1, []), (26, .iload_n 2, 1, []), (27, .invokestatic 41, 3, [1, 108, 2, 1]), (30, .iaload, 1, []), (31, .iconst 1, 1, []), (32, .invokevirtual 111, 3, [0, 124, 3, 0])]),
  (false, [(35, .iinc 2 1, 3, []), (38, .goto (-36), 3, [1])]),
  (false, [(41, .return_, 1, [])])]
theorem cb_X4_countsTables_0 : (blk md_X4_countsTables 0).2 = [(0, .iconst 0, 1, []), (1, .istore_n 2, 1, [])] := rfl
theorem cb_X4_countsTables_1 : (blk md_X4_countsTables 1).2 = [(2, .iload_n 2, 1, []), (3, .iconst 4, 1, []), (4, .if_icmp .ge 37, 3, [5])] := rfl
theorem cb_X4_countsTables_2 : (blk md_X4_countsTables 2).2 = [(7, .aload_n 0, 1, []), (8, .getfield 7, 3, [4, 0]), (11, .iload_n 1, 1, []), (12, .iload_n 2, 1, []), (13, .invokestatic 41, 3, [1, 108, 2, 1]), (16, .iaload, 1, []), (17, .ifCond .eq 18, 3, [4])] := rfl
theorem cb_X4_countsTables_3 : (blk md_X4_countsTables 3).2 = [(20, .aload_n 0, 1, []), (21, .aload_n 0, 1, []), (22, .getfield 7, 3, [4, 0]), (25, .iload_n 1, 1, []), (26, .iload_n 2, 1, []), (27, .invokestatic 41, 3, [1, 108, 2, 1]), (30, .iaload, 1, []), (31, .iconst 1, 1, []), (32, .invokevirtual 111, 3, [0, 124, 3, 0])] := rfl
theorem cb_X4_countsTables_4 : (blk md_X4_countsTables 4).2 = [(35, .iinc 2 1, 3, []), (38, .goto (-36), 3, [1])] := rfl
theorem cb_X4_countsTables_5 : (blk md_X4_countsTables 5).2 = [(41, .return_, 1, [])] := rfl
def md_X4_setsDirectory : List mB := [
  (false, [(0, .aload_n 0, 1, []), (1, .invokevirtual 92, 3, [0, 122, 1, 1]), (4, .ifCond .ne 4, 3, [2])]),
  (false, [(7, .return_, 1, [])]),
  (false, [(8, .iconst 0, 1, []), (9, .istore_n 3, 1, [])]),
  (false, [(10, .iload_n 3, 1, []), (11, .iconst 4, 1, []), (12, .if_icmp .ge 38, 3, [8])]),
  (false, [(15, .aload_n 0, 1, []), (16, .getfield 7, 3, [4, 0]), (19, .iload_n 1, 1, []), (20, .iload_n 3, 1, []), (21, .invokestatic 41, 3, [1, 108, 2, 1]), (24, .iload_n 2, 1, []), (25, .iconst (-1), 1, []), (26, .if_icmp .ne 7, 3, [6])]),
  (false, [(29, .iconst 0, 1, []), (30, .goto 13, 3, [7])]),
  (false, [(33, .aload_n 0, 1, []), (34, .getfield 7, 3, [4, 0]), (37, .iload_n 2, 1, []), (38, .iload_n 3, 1, []), (39, .invokestatic 41, 3, [1, 108, 2, 1]), (42, .iaload, 1, [])]),
  (false, [(43, .iastore, 1, []), (44, .iinc 3 1, 3, []), (47, .goto (-37), 3, [3])]),
  (false, [(50, .return_, 1, [])])]
theorem cb_X4_setsDirectory_0 : (blk md_X4_setsDirectory 0).2 = [(0, .aload_n 0, 1, []), (1, .invokevirtual 92, 3, [0, 122, 1, 1]), (4, .ifCond .ne 4, 3, [2])] := rfl
theorem cb_X4_setsDirectory_1 : (blk md_X4_setsDirectory 1).2 = [(7, .return_, 1, [])] := rfl
theorem cb_X4_setsDirectory_2 : (blk md_X4_setsDirectory 2).2 = [(8, .iconst 0, 1, []), (9, .istore_n 3, 1, [])] := rfl
theorem cb_X4_setsDirectory_3 : (blk md_X4_setsDirectory 3).2 = [(10, .iload_n 3, 1, []), (11, .iconst 4, 1, []), (12, .if_icmp .ge 38, 3, [8])] := rfl
theorem cb_X4_setsDirectory_4 : (blk md_X4_setsDirectory 4).2 = [(15, .aload_n 0, 1, []), (16, .getfield 7, 3, [4, 0]), (19, .iload_n 1, 1, []), (20, .iload_n 3, 1, []), (21, .invokestatic 41, 3, [1, 108, 2, 1]), (24, .iload_n 2, 1, []), (25, .iconst (-1), 1, []), (26, .if_icmp .ne 7, 3, [6])] := rfl
theorem cb_X4_setsDirectory_5 : (blk md_X4_setsDirectory 5).2 = [(29, .iconst 0, 1, []), (30, .goto 13, 3, [7])] := rfl
theorem cb_X4_setsDirectory_6 : (blk md_X4_setsDirectory 6).2 = [(33, .aload_n 0, 1, []), (34, .getfield 7, 3, [4, 0]), (37, .iload_n 2, 1, []), (38, .iload_n 3, 1, []), (39, .invokestatic 41, 3, [1, 108, 2, 1]), (42, .iaload, 1, [])] := rfl
theorem cb_X4_setsDirectory_7 : (blk md_X4_setsDirectory 7).2 = [(43, .iastore, 1, []), (44, .iinc 3 1, 3, []), (47, .goto (-37), 3, [3])] := rfl
theorem cb_X4_setsDirectory_8 : (blk md_X4_setsDirectory 8).2 = [(50, .return_, 1, [])] := rfl
def md_X4_snaps : List mB := [
  (false, [(0, .aload_n 0, 1, []), (1, .iload_n 1, 1, []), (2, .invokevirtual 121, 3, [0, 133, 2, 0]), (5, .aload_n 0, 1, []), (6, .invokevirtual 92, 3, [0, 122, 1, 1]), (9, .ifCond .ne 4, 3, [2])]),
  (false, [(12, .return_, 1, [])]),
  (false, [(13, .aload_n 0, 1, []), (14, .getfield 7, 3, [4, 0]), (17, .sipush 383, 3, []), (20, .iload_n 2, 1, []), (21, .iadd, 1, []), (22, .iconst 1, 1, []), (23, .iastore, 1, []), (24, .aload_n 0, 1, []), (25, .getfield 7, 3, [4, 0]), (28, .sipush 391, 3, []), (31, .iload_n 2, 1, []), (32, .iadd, 1, []), (33, .iload_n 1, 1, []), (34, .iastore, 1, []), (35, .iconst 0, 1, []), (36, .istore_n 3, 1, [])]),
  (false, [(37, .iload_n 3, 1, []), (38, .iconst 4, 1, []), (39, .if_icmp .ge 32, 3, [5])]),
  (false, [(42, .aload_n 0, 1, []), (43, .getfield 7, 3, [4, 0]), (46, .bipush 6, 2, []), (48, .iload_n 2, 1, []), (49, .iadd, 1, []), (50, .iload_n 3, 1, []), (51, .invokestatic 41, 3, [1, 108, 2, 1]), (54, .aload_n 0, 1, []), (55, .getfield 7, 3, [4, 0]), (58, .iload_n 1, 1, []), (59, .iload_n 3, 1, []), (60, .invokestatic 41, 3, [1, 108, 2, 1]), (63, .iaload, 1, []), (64, .iastore, 1, []), (65, .iinc 3 1, 3, []), (68, .goto (-31), 3, [3])]),
  (false, [(71, .return_, 1, [])])]
theorem cb_X4_snaps_0 : (blk md_X4_snaps 0).2 = [(0, .aload_n 0, 1, []), (1, .iload_n 1, 1, []), (2, .invokevirtual 121, 3, [0, 133, 2, 0]), (5, .aload_n 0, 1, []), (6, .invokevirtual 92, 3, [0, 122, 1, 1]), (9, .ifCond .ne 4, 3, [2])] := rfl
theorem cb_X4_snaps_1 : (blk md_X4_snaps 1).2 = [(12, .return_, 1, [])] := rfl
theorem cb_X4_snaps_2 : (blk md_X4_snaps 2).2 = [(13, .aload_n 0, 1, []), (14, .getfield 7, 3, [4, 0]), (17, .sipush 383, 3, []), (20, .iload_n 2, 1, []), (21, .iadd, 1, []), (22, .iconst 1, 1, []), (23, .iastore, 1, []), (24, .aload_n 0, 1, []), (25, .getfield 7, 3, [4, 0]), (28, .sipush 391, 3, []), (31, .iload_n 2, 1, []), (32, .iadd, 1, []), (33, .iload_n 1, 1, []), (34, .iastore, 1, []), (35, .iconst 0, 1, []), (36, .istore_n 3, 1, [])] := rfl
theorem cb_X4_snaps_3 : (blk md_X4_snaps 3).2 = [(37, .iload_n 3, 1, []), (38, .iconst 4, 1, []), (39, .if_icmp .ge 32, 3, [5])] := rfl
theorem cb_X4_snaps_4 : (blk md_X4_snaps 4).2 = [(42, .aload_n 0, 1, []), (43, .getfield 7, 3, [4, 0]), (46, .bipush 6, 2, []), (48, .iload_n 2, 1, []), (49, .iadd, 1, []), (50, .iload_n 3, 1, []), (51, .invokestatic 41, 3, [1, 108, 2, 1]), (54, .aload_n 0, 1, []), (55, .getfield 7, 3, [4, 0]), (58, .iload_n 1, 1, []), (59, .iload_n 3, 1, []), (60, .invokestatic 41, 3, [1, 108, 2, 1]), (63, .iaload, 1, []), (64, .iastore, 1, []), (65, .iinc 3 1, 3, []), (68, .goto (-31), 3, [3])] := rfl
theorem cb_X4_snaps_5 : (blk md_X4_snaps 5).2 = [(71, .return_, 1, [])] := rfl
def md_X4_drops : List mB := [
  (false, [(0, .aload_n 0, 1, []), (1, .bipush 6, 2, []), (3, .iload_n 1, 1, []), (4, .iadd, 1, []), (5, .invokevirtual 124, 3, [0, 131, 2, 0]), (8, .aload_n 0, 1, []), (9, .sipush 383, 3, []), (12, .iload_n 1, 1, []), (13, .iadd, 1, []), (14, .iconst 0, 1, []), (15, .invokevirtual 96, 3, [0, 123, 3, 0]), (18, .aload_n 0, 1, []), (19, .invokevirtual 127, 3, [0, 132, 1, 0]), (22, .return_, 1, [])])]
theorem cb_X4_drops_0 : (blk md_X4_drops 0).2 = [(0, .aload_n 0, 1, []), (1, .bipush 6, 2, []), (3, .iload_n 1, 1, []), (4, .iadd, 1, []), (5, .invokevirtual 124, 3, [0, 131, 2, 0]), (8, .aload_n 0, 1, []), (9, .sipush 383, 3, []), (12, .iload_n 1, 1, []), (13, .iadd, 1, []), (14, .iconst 0, 1, []), (15, .invokevirtual 96, 3, [0, 123, 3, 0]), (18, .aload_n 0, 1, []), (19, .invokevirtual 127, 3, [0, 132, 1, 0]), (22, .return_, 1, [])] := rfl
def md_X4_reverts : List mB := [
  (false, [(0, .aload_n 0, 1, []), (1, .getfield 7, 3, [4, 0]), (4, .sipush 391, 3, []), (7, .iload_n 1, 1, []), (8, .iadd, 1, []), (9, .iaload, 1, []), (10, .istore_n 2, 1, []), (11, .aload_n 0, 1, []), (12, .bipush 6, 2, []), (14, .iload_n 1, 1, []), (15, .iadd, 1, []), (16, .invokevirtual 121, 3, [0, 133, 2, 0]), (19, .aload_n 0, 1, []), (20, .iload_n 2, 1, []), (21, .invokevirtual 124, 3, [0, 131, 2, 0]), (24, .aload_n 0, 1, []), (25, .iload_n 2, 1, []), (26, .bipush 6, 2, []), (28, .iload_n 1, 1, []), (29, .iadd, 1, []), (30, .invokevirtual 130, 3, [0, 134, 3, 0]), (33, .aload_n 0, 1, []), (34, .invokevirtual 127, 3, [0, 132, 1, 0]), (37, .return_, 1, [])])]
theorem cb_X4_reverts_0 : (blk md_X4_reverts 0).2 = [(0, .aload_n 0, 1, []), (1, .getfield 7, 3, [4, 0]), (4, .sipush 391, 3, []), (7, .iload_n 1, 1, []), (8, .iadd, 1, []), (9, .iaload, 1, []), (10, .istore_n 2, 1, []), (11, .aload_n 0, 1, []), (12, .bipush 6, 2, []), (14, .iload_n 1, 1, []), (15, .iadd, 1, []), (16, .invokevirtual 121, 3, [0, 133, 2, 0]), (19, .aload_n 0, 1, []), (20, .iload_n 2, 1, []), (21, .invokevirtual 124, 3, [0, 131, 2, 0]), (24, .aload_n 0, 1, []), (25, .iload_n 2, 1, []), (26, .bipush 6, 2, []), (28, .iload_n 1, 1, []), (29, .iadd, 1, []), (30, .invokevirtual 130, 3, [0, 134, 3, 0]), (33, .aload_n 0, 1, []), (34, .invokevirtual 127, 3, [0, 132, 1, 0]), (37, .return_, 1, [])] := rfl
def md_X4_givesUp : List mB := [
  (false, [(0, .aload_n 0, 1, []), (1, .iload_n 1, 1, []), (2, .iload_n 2, 1, []), (3, .invokevirtual 45, 3, [0, 109, 3, 1]), (6, .istore_n 3, 1, []), (7, .iload_n 3, 1, []), (8, .ifCond .ne 4, 3, [2])]),
  (false, [(11, .return_, 1, [])]),
  (false, [(12, .aload_n 0, 1, []), (13, .iload_n 1, 1, []), (14, .iload_n 2, 1, []), (15, .invokevirtual 114, 3, [0, 128, 3, 0]), (18, .aload_n 0, 1, []), (19, .bipush 64, 2, []), (21, .iconst 4, 1, []), (22, .aload_n 0, 1, []), (23, .getfield 7, 3, [4, 0]), (26, .iload_n 1, 1, []), (27, .iload_n 2, 1, []), (28, .iconst 4, 1, []), (29, .idiv, 1, []), (30, .invokestatic 41, 3, [1, 108, 2, 1]), (33, .iaload, 1, []), (34, .imul, 1, []), (35, .iadd, 1, []), (36, .iload_n 2, 1, []), (37, .iconst 4, 1, []), (38, .irem, 1, []), (39, .iadd, 1, []), (40, .iconst 0, 1, []), (41, .invokevirtual 96, 3, [0, 123, 3, 0]), (44, .aload_n 0, 1, []), (45, .iload_n 3, 1, []), (46, .iconst (-1), 1, []), (47, .invokevirtual 111, 3, [0, 124, 3, 0]), (50, .return_, 1, [])])]
theorem cb_X4_givesUp_0 : (blk md_X4_givesUp 0).2 = [(0, .aload_n 0, 1, []), (1, .iload_n 1, 1, []), (2, .iload_n 2, 1, []), (3, .invokevirtual 45, 3, [0, 109, 3, 1]), (6, .istore_n 3, 1, []), (7, .iload_n 3, 1, []), (8, .ifCond .ne 4, 3, [2])] := rfl
theorem cb_X4_givesUp_1 : (blk md_X4_givesUp 1).2 = [(11, .return_, 1, [])] := rfl
theorem cb_X4_givesUp_2 : (blk md_X4_givesUp 2).2 = [(12, .aload_n 0, 1, []), (13, .iload_n 1, 1, []), (14, .iload_n 2, 1, []), (15, .invokevirtual 114, 3, [0, 128, 3, 0]), (18, .aload_n 0, 1, []), (19, .bipush 64, 2, []), (21, .iconst 4, 1, []), (22, .aload_n 0, 1, []), (23, .getfield 7, 3, [4, 0]), (26, .iload_n 1, 1, []), (27, .iload_n 2, 1, []), (28, .iconst 4, 1, []), (29, .idiv, 1, []), (30, .invokestatic 41, 3, [1, 108, 2, 1]), (33, .iaload, 1, []), (34, .imul, 1, []), (35, .iadd, 1, []), (36, .iload_n 2, 1, []), (37, .iconst 4, 1, []), (38, .irem, 1, []), (39, .iadd, 1, []), (40, .iconst 0, 1, []), (41, .invokevirtual 96, 3, [0, 123, 3, 0]), (44, .aload_n 0, 1, []), (45, .iload_n 3, 1, []), (46, .iconst (-1), 1, []), (47, .invokevirtual 111, 3, [0, 124, 3, 0]), (50, .return_, 1, [])] := rfl
def md_X4_merges : List mB := [
  (false, [(0, .iconst 0, 1, []), (1, .istore_n 2, 1, [])]),
  (false, [(2, .iload_n 2, 1, []), (3, .bipush 64, 2, []), (5, .if_icmp .ge 41, 3, [5])]),
  (false, [(8, .aload_n 0, 1, []), (9, .iload_n 1, 1, []), (10, .iload_n 2, 1, []), (11, .iconst 4, 1, []), (12, .idiv, 1, []), (13, .invokevirtual 45, 3, [0, 109, 3, 1]), (16, .ifCond .eq 24, 3, [4])]),
  (false, [(19, .aload_n 0, 1, []), (20, .aload_n 0, 1, []), (21, .getfield 7, 3, [4, 0]), (24, .sipush 321, 3, []), (27, .iload_n 1, 1, []), (28, .iadd, 1, []), (29, .iaload, 1, []), (30, .iload_n 2, 1, []), (31, .aload_n 0, 1, []), (32, .iload_n 1, 1, []), (33, .iload_n 2, 1, []), (34, .invokevirtual 63, 3, [0, 111, 3, 1]), (37, .invokevirtual 133, 3, [0, 130, 4, 0])]),
  (false, [(40, .iinc 2 1, 3, []), (43, .goto (-41), 3, [1])]),
  (false, [(46, .aload_n 0, 1, []), (47, .iload_n 1, 1, []), (48, .invokevirtual 124, 3, [0, 131, 2, 0]), (51, .aload_n 0, 1, []), (52, .iload_n 1, 1, []), (53, .iconst (-1), 1, []), (54, .invokevirtual 130, 3, [0, 134, 3, 0]), (57, .aload_n 0, 1, []), (58, .invokevirtual 127, 3, [0, 132, 1, 0]), (61, .return_, 1, [])])]
theorem cb_X4_merges_0 : (blk md_X4_merges 0).2 = [(0, .iconst 0, 1, []), (1, .istore_n 2, 1, [])] := rfl
theorem cb_X4_merges_1 : (blk md_X4_merges 1).2 = [(2, .iload_n 2, 1, []), (3, .bipush 64, 2, []), (5, .if_icmp .ge 41, 3, [5])] := rfl
theorem cb_X4_merges_2 : (blk md_X4_merges 2).2 = [(8, .aload_n 0, 1, []), (9, .iload_n 1, 1, []), (10, .iload_n 2, 1, []), (11, .iconst 4, 1, []), (12, .idiv, 1, []), (13, .invokevirtual 45, 3, [0, 109, 3, 1]), (16, .ifCond .eq 24, 3, [4])] := rfl
theorem cb_X4_merges_3 : (blk md_X4_merges 3).2 = [(19, .aload_n 0, 1, []), (20, .aload_n 0, 1, []), (21, .getfield 7, 3, [4, 0]), (24, .sipush 321, 3, []), (27, .iload_n 1, 1, []), (28, .iadd, 1, []), (29, .iaload, 1, []), (30, .iload_n 2, 1, []), (31, .aload_n 0, 1, []), (32, .iload_n 1, 1, []), (33, .iload_n 2, 1, []), (34, .invokevirtual 63, 3, [0, 111, 3, 1]), (37, .invokevirtual 133, 3, [0, 130, 4, 0])] := rfl
theorem cb_X4_merges_4 : (blk md_X4_merges 4).2 = [(40, .iinc 2 1, 3, []), (43, .goto (-41), 3, [1])] := rfl
theorem cb_X4_merges_5 : (blk md_X4_merges 5).2 = [(46, .aload_n 0, 1, []), (47, .iload_n 1, 1, []), (48, .invokevirtual 124, 3, [0, 131, 2, 0]), (51, .aload_n 0, 1, []), (52, .iload_n 1, 1, []), (53, .iconst (-1), 1, []), (54, .invokevirtual 130, 3, [0, 134, 3, 0]), (57, .aload_n 0, 1, []), (58, .invokevirtual 127, 3, [0, 132, 1, 0]), (61, .return_, 1, [])] := rfl
def md_X4_isSame : List mB := [
  (false, [(0, .iconst 1, 1, []), (1, .istore 4, 2, []), (3, .iconst 4, 1, []), (4, .iload_n 3, 1, []), (5, .imul, 1, []), (6, .istore 5, 2, [])]),
  (false, [(8, .iload 5, 2, []), (10, .iconst 4, 1, []), (11, .iload_n 3, 1, []), (12, .imul, 1, []), (13, .iconst 4, 1, []), (14, .iadd, 1, []), (15, .if_icmp .ge 47, 3, [10])]),
  (false, [(18, .iload 4, 2, []), (20, .ifCond .eq 33, 3, [8])]),
  (false, [(23, .aload_n 0, 1, []), (24, .iload_n 1, 1, []), (25, .iload 5, 2, []), (27, .invokevirtual 63, 3, [0, 111, 3, 1]), (30, .iload_n 2, 1, []), (31, .iconst (-1), 1, []), (32, .if_icmp .ne 7, 3, [5])]),
  (false, [(35, .iconst 0, 1, []), (36, .goto 10, 3, [6])]),
  (false, [(39, .aload_n 0, 1, []), (40, .iload_n 2, 1, []), (41, .iload 5, 2, []), (43, .invokevirtual 63, 3, [0, 111, 3, 1])]),
  (false, [(46, .if_icmp .ne 7, 3, [8])]),
  (false, [(49, .iconst 1, 1, []), (50, .goto 4, 3, [9])]),
  (false, [(53, .iconst 0, 1, [])]),
  (false, [(54, .istore 4, 2, []), (56, .iinc 5 1, 3, []), (59, .goto (-51), 3, [1])]),
  (false, [(62, .iload 4, 2, []), (64, .ireturn, 1, [1])])]
theorem cb_X4_isSame_0 : (blk md_X4_isSame 0).2 = [(0, .iconst 1, 1, []), (1, .istore 4, 2, []), (3, .iconst 4, 1, []), (4, .iload_n 3, 1, []), (5, .imul, 1, []), (6, .istore 5, 2, [])] := rfl
theorem cb_X4_isSame_1 : (blk md_X4_isSame 1).2 = [(8, .iload 5, 2, []), (10, .iconst 4, 1, []), (11, .iload_n 3, 1, []), (12, .imul, 1, []), (13, .iconst 4, 1, []), (14, .iadd, 1, []), (15, .if_icmp .ge 47, 3, [10])] := rfl
theorem cb_X4_isSame_2 : (blk md_X4_isSame 2).2 = [(18, .iload 4, 2, []), (20, .ifCond .eq 33, 3, [8])] := rfl
theorem cb_X4_isSame_3 : (blk md_X4_isSame 3).2 = [(23, .aload_n 0, 1, []), (24, .iload_n 1, 1, []), (25, .iload 5, 2, []), (27, .invokevirtual 63, 3, [0, 111, 3, 1]), (30, .iload_n 2, 1, []), (31, .iconst (-1), 1, []), (32, .if_icmp .ne 7, 3, [5])] := rfl
theorem cb_X4_isSame_4 : (blk md_X4_isSame 4).2 = [(35, .iconst 0, 1, []), (36, .goto 10, 3, [6])] := rfl
theorem cb_X4_isSame_5 : (blk md_X4_isSame 5).2 = [(39, .aload_n 0, 1, []), (40, .iload_n 2, 1, []), (41, .iload 5, 2, []), (43, .invokevirtual 63, 3, [0, 111, 3, 1])] := rfl
theorem cb_X4_isSame_6 : (blk md_X4_isSame 6).2 = [(46, .if_icmp .ne 7, 3, [8])] := rfl
theorem cb_X4_isSame_7 : (blk md_X4_isSame 7).2 = [(49, .iconst 1, 1, []), (50, .goto 4, 3, [9])] := rfl
theorem cb_X4_isSame_8 : (blk md_X4_isSame 8).2 = [(53, .iconst 0, 1, [])] := rfl
theorem cb_X4_isSame_9 : (blk md_X4_isSame 9).2 = [(54, .istore 4, 2, []), (56, .iinc 5 1, 3, []), (59, .goto (-51), 3, [1])] := rfl
theorem cb_X4_isSame_10 : (blk md_X4_isSame 10).2 = [(62, .iload 4, 2, []), (64, .ireturn, 1, [1])] := rfl
def md_X4_moves : List mB := [
  (false, [(0, .iconst 0, 1, []), (1, .istore 4, 2, [])]),
  (false, [(3, .iload 4, 2, []), (5, .bipush 16, 2, []), (7, .if_icmp .ge 75, 3, [10])]),
  (false, [(10, .iload_n 3, 1, []), (11, .iconst 1, 1, []), (12, .if_icmp .ne 70, 3, [10])]),
  (false, [(15, .aload_n 0, 1, []), (16, .iload_n 1, 1, []), (17, .iload 4, 2, []), (19, .invokevirtual 45, 3, [0, 109, 3, 1]), (22, .ifCond .ne 54, 3, [9])]),
  (false, [(25, .aload_n 0, 1, []), (26, .iload_n 1, 1, []), (27, .iload_n 2, 1, []), (28, .iload 4, 2, []), (30, .invokevirtual 137, 3, [0, 140, 4, 1]), (33, .ifCond .eq 6, 3, [6])]),
  (false, [(36, .goto 40, 3, [9])]),
  (false, [(39, .iconst 4, 1, []), (40, .iload 4, 2, []), (42, .imul, 1, []), (43, .istore 5, 2, [])]),
  (false, [(45, .iload 5, 2, []), (47, .iconst 4, 1, []), (48, .iload 4, 2, []), (50, .imul, 1, []), (51, .iconst 4, 1, []), (52, .iadd, 1, []), (53, .if_icmp .ge 23, 3, [9])]),
  (false, [(56, .aload_n 0, 1, []), (57, .iload_n 1, 1, []), (58, .iload 5, 2, []), (60, .aload_n 0, 1, []), (61, .iload_n 1, 1, []), (62, .iload 5, 2, []), (64, .invokevirtual 63, 3, [0, 111, 3, 1]), (67, .invokevirtual 133, 3, [0, 130, 4, 0]), (70, .iinc 5 1, 3, []), (73, .goto (-28), 3, [7])]),
  (false, [(76, .iinc 4 1, 3, []), (79, .goto (-76), 3, [1])]),
  (false, [(82, .aload_n 0, 1, []), (83, .sipush 321, 3, []), (86, .iload_n 1, 1, []), (87, .iadd, 1, []), (88, .iload_n 2, 1, []), (89, .invokevirtual 96, 3, [0, 123, 3, 0]), (92, .return_, 1, [])])]
theorem cb_X4_moves_0 : (blk md_X4_moves 0).2 = [(0, .iconst 0, 1, []), (1, .istore 4, 2, [])] := rfl
theorem cb_X4_moves_1 : (blk md_X4_moves 1).2 = [(3, .iload 4, 2, []), (5, .bipush 16, 2, []), (7, .if_icmp .ge 75, 3, [10])] := rfl
theorem cb_X4_moves_2 : (blk md_X4_moves 2).2 = [(10, .iload_n 3, 1, []), (11, .iconst 1, 1, []), (12, .if_icmp .ne 70, 3, [10])] := rfl
theorem cb_X4_moves_3 : (blk md_X4_moves 3).2 = [(15, .aload_n 0, 1, []), (16, .iload_n 1, 1, []), (17, .iload 4, 2, []), (19, .invokevirtual 45, 3, [0, 109, 3, 1]), (22, .ifCond .ne 54, 3, [9])] := rfl
theorem cb_X4_moves_4 : (blk md_X4_moves 4).2 = [(25, .aload_n 0, 1, []), (26, .iload_n 1, 1, []), (27, .iload_n 2, 1, []), (28, .iload 4, 2, []), (30, .invokevirtual 137, 3, [0, 140, 4, 1]), (33, .ifCond .eq 6, 3, [6])] := rfl
theorem cb_X4_moves_5 : (blk md_X4_moves 5).2 = [(36, .goto 40, 3, [9])] := rfl
theorem cb_X4_moves_6 : (blk md_X4_moves 6).2 = [(39, .iconst 4, 1, []), (40, .iload 4, 2, []), (42, .imul, 1, []), (43, .istore 5, 2, [])] := rfl
theorem cb_X4_moves_7 : (blk md_X4_moves 7).2 = [(45, .iload 5, 2, []), (47, .iconst 4, 1, []), (48, .iload 4, 2, []), (50, .imul, 1, []), (51, .iconst 4, 1, []), (52, .iadd, 1, []), (53, .if_icmp .ge 23, 3, [9])] := rfl
theorem cb_X4_moves_8 : (blk md_X4_moves 8).2 = [(56, .aload_n 0, 1, []), (57, .iload_n 1, 1, []), (58, .iload 5, 2, []), (60, .aload_n 0, 1, []), (61, .iload_n 1, 1, []), (62, .iload 5, 2, []), (64, .invokevirtual 63, 3, [0, 111, 3, 1]), (67, .invokevirtual 133, 3, [0, 130, 4, 0]), (70, .iinc 5 1, 3, []), (73, .goto (-28), 3, [7])] := rfl
theorem cb_X4_moves_9 : (blk md_X4_moves 9).2 = [(76, .iinc 4 1, 3, []), (79, .goto (-76), 3, [1])] := rfl
theorem cb_X4_moves_10 : (blk md_X4_moves 10).2 = [(82, .aload_n 0, 1, []), (83, .sipush 321, 3, []), (86, .iload_n 1, 1, []), (87, .iadd, 1, []), (88, .iload_n 2, 1, []), (89, .invokevirtual 96, 3, [0, 123, 3, 0]), (92, .return_, 1, [])] := rfl
def md_X4_areAlike : List mB := [
  (false, [(0, .iconst 1, 1, []), (1, .istore_n 3, 1, []), (2, .iconst 0, 1, []), (3, .istore 4, 2, [])]),
  (false, [(5, .iload 4, 2, []), (7, .iconst 4, 1, []), (8, .if_icmp .ge 50, 3, [7])]),
  (false, [(11, .iload_n 3, 1, []), (12, .ifCond .eq 38, 3, [5])]),
  (false, [(15, .aload_n 0, 1, []), (16, .getfield 7, 3, [4, 0]), (19, .bipush 64, 2, []), (21, .iconst 4, 1, []), (22, .iload_n 1, 1, []), (23, .imul, 1, []), (24, .iadd, 1, []), (25, .iload 4, 2, []), (27, .iadd, 1, []), (28, .iaload, 1, []), (29, .aload_n 0, 1, []), (30, .getfield 7, 3, [4, 0]), (33, .bipush 64, 2, []), (35, .iconst 4, 1, []), (36, .iload_n 2, 1, []), (37, .imul, 1, []), (38, .iadd, 1, []), (39, .iload 4, 2, []), (41, .iadd, 1, []), (42, .iaload, 1, []), (43, .if_icmp .ne 7, 3, [5])]),
  (false, [(46, .iconst 1, 1, []), (47, .goto 4, 3, [6])]),
  (false, [(50, .iconst 0, 1, [])]),
  (false, [(51, .istore_n 3, 1, []), (52, .iinc 4 1, 3, []), (55, .goto (-50), 3, [1])]),
  (false, [(58, .iload_n 3, 1, []), (59, .ireturn, 1, [1])])]
theorem cb_X4_areAlike_0 : (blk md_X4_areAlike 0).2 = [(0, .iconst 1, 1, []), (1, .istore_n 3, 1, []), (2, .iconst 0, 1, []), (3, .istore 4, 2, [])] := rfl
theorem cb_X4_areAlike_1 : (blk md_X4_areAlike 1).2 = [(5, .iload 4, 2, []), (7, .iconst 4, 1, []), (8, .if_icmp .ge 50, 3, [7])] := rfl
theorem cb_X4_areAlike_2 : (blk md_X4_areAlike 2).2 = [(11, .iload_n 3, 1, []), (12, .ifCond .eq 38, 3, [5])] := rfl
theorem cb_X4_areAlike_3 : (blk md_X4_areAlike 3).2 = [(15, .aload_n 0, 1, []), (16, .getfield 7, 3, [4, 0]), (19, .bipush 64, 2, []), (21, .iconst 4, 1, []), (22, .iload_n 1, 1, []), (23, .imul, 1, []), (24, .iadd, 1, []), (25, .iload 4, 2, []), (27, .iadd, 1, []), (28, .iaload, 1, []), (29, .aload_n 0, 1, []), (30, .getfield 7, 3, [4, 0]), (33, .bipush 64, 2, []), (35, .iconst 4, 1, []), (36, .iload_n 2, 1, []), (37, .imul, 1, []), (38, .iadd, 1, []), (39, .iload 4, 2, []), (41, .iadd, 1, []), (42, .iaload, 1, []), (43, .if_icmp .ne 7, 3, [5])] := rfl
theorem cb_X4_areAlike_4 : (blk md_X4_areAlike 4).2 = [(46, .iconst 1, 1, []), (47, .goto 4, 3, [6])] := rfl
theorem cb_X4_areAlike_5 : (blk md_X4_areAlike 5).2 = [(50, .iconst 0, 1, [])] := rfl
theorem cb_X4_areAlike_6 : (blk md_X4_areAlike 6).2 = [(51, .istore_n 3, 1, []), (52, .iinc 4 1, 3, []), (55, .goto (-50), 3, [1])] := rfl
theorem cb_X4_areAlike_7 : (blk md_X4_areAlike 7).2 = [(58, .iload_n 3, 1, []), (59, .ireturn, 1, [1])] := rfl
def md_X4_likeOf : List mB := [
  (false, [(0, .aload_n 0, 1, []), (1, .invokevirtual 75, 3, [0, 119, 1, 0]), (4, .iconst 1, 1, []), (5, .istore_n 2, 1, [])]),
  (false, [(6, .iload_n 2, 1, []), (7, .iload_n 1, 1, []), (8, .if_icmp .ge 27, 3, [5])]),
  (false, [(11, .aload_n 0, 1, []), (12, .getfield 25, 3, [4, 6]), (15, .iload_n 2, 1, []), (16, .iaload, 1, []), (17, .ifCond .le 12, 3, [4])]),
  (false, [(20, .aload_n 0, 1, []), (21, .iload_n 2, 1, []), (22, .iload_n 1, 1, []), (23, .invokevirtual 140, 3, [0, 142, 3, 1]), (26, .ifCond .ne 9, 3, [5])]),
  (false, [(29, .iinc 2 1, 3, []), (32, .goto (-26), 3, [1])]),
  (false, [(35, .iload_n 2, 1, []), (36, .ireturn, 1, [])])]
theorem cb_X4_likeOf_0 : (blk md_X4_likeOf 0).2 = [(0, .aload_n 0, 1, []), (1, .invokevirtual 75, 3, [0, 119, 1, 0]), (4, .iconst 1, 1, []), (5, .istore_n 2, 1, [])] := rfl
theorem cb_X4_likeOf_1 : (blk md_X4_likeOf 1).2 = [(6, .iload_n 2, 1, []), (7, .iload_n 1, 1, []), (8, .if_icmp .ge 27, 3, [5])] := rfl
theorem cb_X4_likeOf_2 : (blk md_X4_likeOf 2).2 = [(11, .aload_n 0, 1, []), (12, .getfield 25, 3, [4, 6]), (15, .iload_n 2, 1, []), (16, .iaload, 1, []), (17, .ifCond .le 12, 3, [4])] := rfl
theorem cb_X4_likeOf_3 : (blk md_X4_likeOf 3).2 = [(20, .aload_n 0, 1, []), (21, .iload_n 2, 1, []), (22, .iload_n 1, 1, []), (23, .invokevirtual 140, 3, [0, 142, 3, 1]), (26, .ifCond .ne 9, 3, [5])] := rfl
theorem cb_X4_likeOf_4 : (blk md_X4_likeOf 4).2 = [(29, .iinc 2 1, 3, []), (32, .goto (-26), 3, [1])] := rfl
theorem cb_X4_likeOf_5 : (blk md_X4_likeOf 5).2 = [(35, .iload_n 2, 1, []), (36, .ireturn, 1, [])] := rfl
def md_X4_folds : List mB := [
  (false, [(0, .iconst 1, 1, []), (1, .istore_n 1, 1, [])]),
  (false, [(2, .iload_n 1, 1, []), (3, .bipush 64, 2, []), (5, .if_icmp .ge 98, 3, [14])]),
  (false, [(8, .aload_n 0, 1, []), (9, .iload_n 1, 1, []), (10, .invokevirtual 72, 3, [0, 120, 2, 1]), (13, .ifCond .ne 6, 3, [4])]),
  (false, [(16, .goto 81, 3, [13])]),
  (false, [(19, .iconst 0, 1, []), (20, .istore_n 2, 1, [])]),
  (false, [(21, .iload_n 2, 1, []), (22, .iconst 4, 1, []), (23, .if_icmp .ge 74, 3, [13])]),
  (false, [(26, .aload_n 0, 1, []), (27, .getfield 7, 3, [4, 0]), (30, .bipush 64, 2, []), (32, .iconst 4, 1, []), (33, .iload_n 1, 1, []), (34, .imul, 1, []), (35, .iadd, 1, []), (36, .iload_n 2, 1, []), (37, .iadd, 1, []), (38, .iaload, 1, []), (39, .istore_n 3, 1, []), (40, .iload_n 3, 1, []), (41, .ifCond .ne 7, 3, [8])]),
  (false, [(44, .iconst 0, 1, []), (45, .goto 8, 3, [9])]),
  (false, [(48, .aload_n 0, 1, []), (49, .iload_n 3, 1, []), (50, .invokevirtual 144, 3, [0, 143, 2, 1])]),
  (false, [(53, .istore 4, 2, []), (55, .iload 4, 2, []), (57, .iload_n 3, 1, []), (58, .if_icmp .ne 6, 3, [11])]),
  (false, [(61, .goto 30, 3, [12])]),
  (false, [(64, .aload_n 0, 1, []), (65, .iload 4, 2, []), (67, .iconst 1, 1, []), (68, .invokevirtual 111, 3, [0, 124, 3, 0]), (71, .aload_n 0, 1, []), (72, .bipush 64, 2, []), (74, .iconst 4, 1, []), (75, .iload_n 1, 1, []), (76, .imul, 1, []), (77, .iadd, 1, []), (78, .iload_n 2, 1, []), (79, .iadd, 1, []), (80, .iload 4, 2, []), (82, .invokevirtual 96, 3, [0, 123, 3, 0]), (85, .aload_n 0, 1, []), (86, .iload_n 3, 1, []), (87, .iconst (-1), 1, []), (88, .invokevirtual 111, 3, [0, 124, 3, 0])]),
  (false, [(91, .iinc 2 1, 3, []), (94, .goto (-73), 3, [5])]),
  (false, [(97, .iinc 1 1, 3, []), (100, .goto (-98), 3, [1])]),
  (false, [(103, .return_, 1, [])])]
theorem cb_X4_folds_0 : (blk md_X4_folds 0).2 = [(0, .iconst 1, 1, []), (1, .istore_n 1, 1, [])] := rfl
theorem cb_X4_folds_1 : (blk md_X4_folds 1).2 = [(2, .iload_n 1, 1, []), (3, .bipush 64, 2, []), (5, .if_icmp .ge 98, 3, [14])] := rfl
theorem cb_X4_folds_2 : (blk md_X4_folds 2).2 = [(8, .aload_n 0, 1, []), (9, .iload_n 1, 1, []), (10, .invokevirtual 72, 3, [0, 120, 2, 1]), (13, .ifCond .ne 6, 3, [4])] := rfl
theorem cb_X4_folds_3 : (blk md_X4_folds 3).2 = [(16, .goto 81, 3, [13])] := rfl
theorem cb_X4_folds_4 : (blk md_X4_folds 4).2 = [(19, .iconst 0, 1, []), (20, .istore_n 2, 1, [])] := rfl
theorem cb_X4_folds_5 : (blk md_X4_folds 5).2 = [(21, .iload_n 2, 1, []), (22, .iconst 4, 1, []), (23, .if_icmp .ge 74, 3, [13])] := rfl
theorem cb_X4_folds_6 : (blk md_X4_folds 6).2 = [(26, .aload_n 0, 1, []), (27, .getfield 7, 3, [4, 0]), (30, .bipush 64, 2, []), (32, .iconst 4, 1, []), (33, .iload_n 1, 1, []), (34, .imul, 1, []), (35, .iadd, 1, []), (36, .iload_n 2, 1, []), (37, .iadd, 1, []), (38, .iaload, 1, []), (39, .istore_n 3, 1, []), (40, .iload_n 3, 1, []), (41, .ifCond .ne 7, 3, [8])] := rfl
theorem cb_X4_folds_7 : (blk md_X4_folds 7).2 = [(44, .iconst 0, 1, []), (45, .goto 8, 3, [9])] := rfl
theorem cb_X4_folds_8 : (blk md_X4_folds 8).2 = [(48, .aload_n 0, 1, []), (49, .iload_n 3, 1, []), (50, .invokevirtual 144, 3, [0, 143, 2, 1])] := rfl
theorem cb_X4_folds_9 : (blk md_X4_folds 9).2 = [(53, .istore 4, 2, []), (55, .iload 4, 2, []), (57, .iload_n 3, 1, []), (58, .if_icmp .ne 6, 3, [11])] := rfl
theorem cb_X4_folds_10 : (blk md_X4_folds 10).2 = [(61, .goto 30, 3, [12])] := rfl
theorem cb_X4_folds_11 : (blk md_X4_folds 11).2 = [(64, .aload_n 0, 1, []), (65, .iload 4, 2, []), (67, .iconst 1, 1, []), (68, .invokevirtual 111, 3, [0, 124, 3, 0]), (71, .aload_n 0, 1, []), (72, .bipush 64, 2, []), (74, .iconst 4, 1, []), (75, .iload_n 1, 1, []), (76, .imul, 1, []), (77, .iadd, 1, []), (78, .iload_n 2, 1, []), (79, .iadd, 1, []), (80, .iload 4, 2, []), (82, .invokevirtual 96, 3, [0, 123, 3, 0]), (85, .aload_n 0, 1, []), (86, .iload_n 3, 1, []), (87, .iconst (-1), 1, []), (88, .invokevirtual 111, 3, [0, 124, 3, 0])] := rfl
theorem cb_X4_folds_12 : (blk md_X4_folds 12).2 = [(91, .iinc 2 1, 3, []), (94, .goto (-73), 3, [5])] := rfl
theorem cb_X4_folds_13 : (blk md_X4_folds 13).2 = [(97, .iinc 1 1, 3, []), (100, .goto (-98), 3, [1])] := rfl
theorem cb_X4_folds_14 : (blk md_X4_folds 14).2 = [(103, .return_, 1, [])] := rfl
def md_X4_performs : List mB := [
  (false, [(0, .aload_n 0, 1, []), (1, .iconst 0, 1, []), (2, .putfield 85, 3, [4, 7]), (5, .aload_n 0, 1, []), (6, .iload 5, 2, []), (8, .putfield 89, 3, [4, 8]), (11, .aload_n 0, 1, []), (12, .iconst 0, 1, []), (13, .putfield 78, 3, [4, 9, 1]), (16, .aload_n 0, 1, []), (17, .iconst 0, 1, []), (18, .putfield 82, 3, [4, 10, 1]), (21, .iload_n 1, 1, []), (22, .tableswitch 106 0 6 #[42, 53, 62, 70, 78, 87, 95], 42, [8, 1, 2, 3, 4, 5, 6, 7])]),
  (false, [(64, .aload_n 0, 1, []), (65, .iload_n 2, 1, []), (66, .iload_n 3, 1, []), (67, .iload 4, 2, []), (69, .invokevirtual 133, 3, [0, 130, 4, 0]), (72, .goto 60, 3, [9])]),
  (false, [(75, .aload_n 0, 1, []), (76, .iload_n 2, 1, []), (77, .iload_n 3, 1, []), (78, .invokevirtual 147, 3, [0, 135, 3, 0]), (81, .goto 51, 3, [9])]),
  (false, [(84, .aload_n 0, 1, []), (85, .iload_n 2, 1, []), (86, .invokevirtual 150, 3, [0, 136, 2, 0]), (89, .goto 43, 3, [9])]),
  (false, [(92, .aload_n 0, 1, []), (93, .iload_n 2, 1, []), (94, .invokevirtual 153, 3, [0, 137, 2, 0]), (97, .goto 35, 3, [9])]),
  (false, [(100, .aload_n 0, 1, []), (101, .iload_n 2, 1, []), (102, .iload_n 3, 1, []), (103, .invokevirtual 156, 3, [0, 138, 3, 0]), (106, .goto 26, 3, [9])]),
  (false, [(109, .aload_n 0, 1, []), (110, .iload_n 2, 1, []), (111, .invokevirtual 159, 3, [0, 139, 2, 0]), (114, .goto 18, 3, [9])]),
  (false, [(117, .aload_n 0, 1, []), (118, .iload_n 2, 1, []), (119, .iload_n 3, 1, []), (120, .iload 4, 2, []), (122, .invokevirtual 162, 3, [0, 141, 4, 0]), (125, .goto 7, 3, [9])]),
  (false, [(128, .aload_n 0, 1, []), (129, .invokevirtual 165, 3, [0, 144, 1, 0])]),
  (false, [(132, .return_, 1, [])])]
theorem cb_X4_performs_0 : (blk md_X4_performs 0).2 = [(0, .aload_n 0, 1, []), (1, .iconst 0, 1, []), (2, .putfield 85, 3, [4, 7]), (5, .aload_n 0, 1, []), (6, .iload 5, 2, []), (8, .putfield 89, 3, [4, 8]), (11, .aload_n 0, 1, []), (12, .iconst 0, 1, []), (13, .putfield 78, 3, [4, 9, 1]), (16, .aload_n 0, 1, []), (17, .iconst 0, 1, []), (18, .putfield 82, 3, [4, 10, 1]), (21, .iload_n 1, 1, []), (22, .tableswitch 106 0 6 #[42, 53, 62, 70, 78, 87, 95], 42, [8, 1, 2, 3, 4, 5, 6, 7])] := rfl
theorem cb_X4_performs_1 : (blk md_X4_performs 1).2 = [(64, .aload_n 0, 1, []), (65, .iload_n 2, 1, []), (66, .iload_n 3, 1, []), (67, .iload 4, 2, []), (69, .invokevirtual 133, 3, [0, 130, 4, 0]), (72, .goto 60, 3, [9])] := rfl
theorem cb_X4_performs_2 : (blk md_X4_performs 2).2 = [(75, .aload_n 0, 1, []), (76, .iload_n 2, 1, []), (77, .iload_n 3, 1, []), (78, .invokevirtual 147, 3, [0, 135, 3, 0]), (81, .goto 51, 3, [9])] := rfl
theorem cb_X4_performs_3 : (blk md_X4_performs 3).2 = [(84, .aload_n 0, 1, []), (85, .iload_n 2, 1, []), (86, .invokevirtual 150, 3, [0, 136, 2, 0]), (89, .goto 43, 3, [9])] := rfl
theorem cb_X4_performs_4 : (blk md_X4_performs 4).2 = [(92, .aload_n 0, 1, []), (93, .iload_n 2, 1, []), (94, .invokevirtual 153, 3, [0, 137, 2, 0]), (97, .goto 35, 3, [9])] := rfl
theorem cb_X4_performs_5 : (blk md_X4_performs 5).2 = [(100, .aload_n 0, 1, []), (101, .iload_n 2, 1, []), (102, .iload_n 3, 1, []), (103, .invokevirtual 156, 3, [0, 138, 3, 0]), (106, .goto 26, 3, [9])] := rfl
theorem cb_X4_performs_6 : (blk md_X4_performs 6).2 = [(109, .aload_n 0, 1, []), (110, .iload_n 2, 1, []), (111, .invokevirtual 159, 3, [0, 139, 2, 0]), (114, .goto 18, 3, [9])] := rfl
theorem cb_X4_performs_7 : (blk md_X4_performs 7).2 = [(117, .aload_n 0, 1, []), (118, .iload_n 2, 1, []), (119, .iload_n 3, 1, []), (120, .iload 4, 2, []), (122, .invokevirtual 162, 3, [0, 141, 4, 0]), (125, .goto 7, 3, [9])] := rfl
theorem cb_X4_performs_8 : (blk md_X4_performs 8).2 = [(128, .aload_n 0, 1, []), (129, .invokevirtual 165, 3, [0, 144, 1, 0])] := rfl
theorem cb_X4_performs_9 : (blk md_X4_performs 9).2 = [(132, .return_, 1, [])] := rfl
def md_X4_isTooMuch : List mB := [
  (false, [(0, .aload_n 0, 1, []), (1, .getfield 7, 3, [4, 0]), (4, .aload_n 0, 1, []), (5, .getfield 13, 3, [4, 1]), (8, .invokestatic 168, 3, [1, 102, 2, 0]), (11, .aload_n 0, 1, []), (12, .iload_n 1, 1, []), (13, .iload_n 2, 1, []), (14, .iload_n 3, 1, []), (15, .iload 4, 2, []), (17, .iconst (-1), 1, []), (18, .invokevirtual 172, 3, [0, 145, 6, 0]), (21, .aload_n 0, 1, []), (22, .getfield 13, 3, [4, 1]), (25, .aload_n 0, 1, []), (26, .getfield 7, 3, [4, 0]), (29, .invokestatic 168, 3, [1, 102, 2, 0]), (32, .aload_n 0, 1, []), (33, .getfield 82, 3, [4, 10]), (36, .ireturn, 1, [1])])]
theorem cb_X4_isTooMuch_0 : (blk md_X4_isTooMuch 0).2 = [(0, .aload_n 0, 1, []), (1, .getfield 7, 3, [4, 0]), (4, .aload_n 0, 1, []), (5, .getfield 13, 3, [4, 1]), (8, .invokestatic 168, 3, [1, 102, 2, 0]), (11, .aload_n 0, 1, []), (12, .iload_n 1, 1, []), (13, .iload_n 2, 1, []), (14, .iload_n 3, 1, []), (15, .iload 4, 2, []), (17, .iconst (-1), 1, []), (18, .invokevirtual 172, 3, [0, 145, 6, 0]), (21, .aload_n 0, 1, []), (22, .getfield 13, 3, [4, 1]), (25, .aload_n 0, 1, []), (26, .getfield 7, 3, [4, 0]), (29, .invokestatic 168, 3, [1, 102, 2, 0]), (32, .aload_n 0, 1, []), (33, .getfield 82, 3, [4, 10]), (36, .ireturn, 1, [1])] := rfl
def md_X4_deed : List mB := [
  (false, [(0, .aload_n 0, 1, []), (1, .iload_n 1, 1, []), (2, .iload_n 2, 1, []), (3, .iload_n 3, 1, []), (4, .iload 4, 2, []), (6, .invokevirtual 175, 3, [0, 146, 5, 1]), (9, .ifCond .eq 11, 3, [2])]),
  (false, [(12, .aload_n 0, 1, []), (13, .sipush (-1002), 3, []), (16, .invokevirtual 56, 3, [0, 101, 2, 1]), (19, .ireturn, 1, [])]),
  (false, [(20, .aload_n 0, 1, []), (21, .iload_n 1, 1, []), (22, .iload_n 2, 1, []), (23, .iload_n 3, 1, []), (24, .iload 4, 2, []), (26, .aload_n 0, 1, []), (27, .getfield 7, 3, [4, 0]), (30, .sipush 399, 3, []), (33, .iaload, 1, []), (34, .invokevirtual 172, 3, [0, 145, 6, 0]), (37, .aload_n 0, 1, []), (38, .getfield 7, 3, [4, 0]), (41, .sipush 399, 3, []), (44, .iconst (-1), 1, []), (45, .iastore, 1, []), (46, .aload_n 0, 1, []), (47, .dup, 1, []), (48, .getfield 179, 3, [4, 11]), (51, .aload_n 0, 1, []), (52, .getfield 85, 3, [4, 7]), (55, .iadd, 1, []), (56, .putfield 179, 3, [4, 11]), (59, .aload_n 0, 1, []), (60, .getfield 78, 3, [4, 9]), (63, .ifCond .eq 9, 3, [4])]),
  (false, [(66, .sipush (-1005), 3, []), (69, .goto 7, 3, [5])]),
  (false, [(72, .aload_n 0, 1, []), (73, .getfield 85, 3, [4, 7])]),
  (false, [(76, .ireturn, 1, [])])]
theorem cb_X4_deed_0 : (blk md_X4_deed 0).2 = [(0, .aload_n 0, 1, []), (1, .iload_n 1, 1, []), (2, .iload_n 2, 1, []), (3, .iload_n 3, 1, []), (4, .iload 4, 2, []), (6, .invokevirtual 175, 3, [0, 146, 5, 1]), (9, .ifCond .eq 11, 3, [2])] := rfl
theorem cb_X4_deed_1 : (blk md_X4_deed 1).2 = [(12, .aload_n 0, 1, []), (13, .sipush (-1002), 3, []), (16, .invokevirtual 56, 3, [0, 101, 2, 1]), (19, .ireturn, 1, [])] := rfl
theorem cb_X4_deed_2 : (blk md_X4_deed 2).2 = [(20, .aload_n 0, 1, []), (21, .iload_n 1, 1, []), (22, .iload_n 2, 1, []), (23, .iload_n 3, 1, []), (24, .iload 4, 2, []), (26, .aload_n 0, 1, []), (27, .getfield 7, 3, [4, 0]), (30, .sipush 399, 3, []), (33, .iaload, 1, []), (34, .invokevirtual 172, 3, [0, 145, 6, 0]), (37, .aload_n 0, 1, []), (38, .getfield 7, 3, [4, 0]), (41, .sipush 399, 3, []), (44, .iconst (-1), 1, []), (45, .iastore, 1, []), (46, .aload_n 0, 1, []), (47, .dup, 1, []), (48, .getfield 179, 3, [4, 11]), (51, .aload_n 0, 1, []), (52, .getfield 85, 3, [4, 7]), (55, .iadd, 1, []), (56, .putfield 179, 3, [4, 11]), (59, .aload_n 0, 1, []), (60, .getfield 78, 3, [4, 9]), (63, .ifCond .eq 9, 3, [4])] := rfl
theorem cb_X4_deed_3 : (blk md_X4_deed 3).2 = [(66, .sipush (-1005), 3, []), (69, .goto 7, 3, [5])] := rfl
theorem cb_X4_deed_4 : (blk md_X4_deed 4).2 = [(72, .aload_n 0, 1, []), (73, .getfield 85, 3, [4, 7])] := rfl
theorem cb_X4_deed_5 : (blk md_X4_deed 5).2 = [(76, .ireturn, 1, [])] := rfl
def md_X4_isByte : List mB := [
  (false, [(0, .iload_n 0, 1, []), (1, .iconst 0, 1, []), (2, .sipush 255, 3, []), (5, .invokestatic 37, 3, [1, 100, 3, 1]), (8, .ireturn, 1, [1])])]
theorem cb_X4_isByte_0 : (blk md_X4_isByte 0).2 = [(0, .iload_n 0, 1, []), (1, .iconst 0, 1, []), (2, .sipush 255, 3, []), (5, .invokestatic 37, 3, [1, 100, 3, 1]), (8, .ireturn, 1, [1])] := rfl
def md_X4_write : List mB := [
  (false, [(0, .aload_n 0, 1, []), (1, .iload_n 1, 1, []), (2, .invokevirtual 52, 3, [0, 103, 2, 1]), (5, .ifCond .eq 17, 3, [3])]),
  (false, [(8, .iload_n 2, 1, []), (9, .invokestatic 60, 3, [1, 105, 1, 1]), (12, .ifCond .eq 10, 3, [3])]),
  (false, [(15, .iload_n 3, 1, []), (16, .invokestatic 182, 3, [1, 148, 1, 1]), (19, .ifCond .ne 11, 3, [4])]),
  (false, [(22, .aload_n 0, 1, []), (23, .sipush (-1001), 3, []), (26, .invokevirtual 56, 3, [0, 101, 2, 1]), (29, .ireturn, 1, [])]),
  (false, [(30, .aload_n 0, 1, []), (31, .invokevirtual 185, 3, [0, 121, 1, 1]), (34, .ifCond .eq 13, 3, [6])]),
  (false, [(37, .aload_n 0, 1, []), (38, .sipush (-1003), 3, []), (41, .invokevirtual 56, 3, [0, 101, 2, 1]), (44, .goto 11, 3, [7])]),
  (false, [(47, .aload_n 0, 1, []), (48, .iconst 0, 1, []), (49, .iload_n 1, 1, []), (50, .iload_n 2, 1, []), (51, .iload_n 3, 1, []), (52, .invokevirtual 188, 3, [0, 147, 5, 1])]),
  (false, [(55, .ireturn, 1, [])])]
theorem cb_X4_write_0 : (blk md_X4_write 0).2 = [(0, .aload_n 0, 1, []), (1, .iload_n 1, 1, []), (2, .invokevirtual 52, 3, [0, 103, 2, 1]), (5, .ifCond .eq 17, 3, [3])] := rfl
theorem cb_X4_write_1 : (blk md_X4_write 1).2 = [(8, .iload_n 2, 1, []), (9, .invokestatic 60, 3, [1, 105, 1, 1]), (12, .ifCond .eq 10, 3, [3])] := rfl
theorem cb_X4_write_2 : (blk md_X4_write 2).2 = [(15, .iload_n 3, 1, []), (16, .invokestatic 182, 3, [1, 148, 1, 1]), (19, .ifCond .ne 11, 3, [4])] := rfl
theorem cb_X4_write_3 : (blk md_X4_write 3).2 = [(22, .aload_n 0, 1, []), (23, .sipush (-1001), 3, []), (26, .invokevirtual 56, 3, [0, 101, 2, 1]), (29, .ireturn, 1, [])] := rfl
theorem cb_X4_write_4 : (blk md_X4_write 4).2 = [(30, .aload_n 0, 1, []), (31, .invokevirtual 185, 3, [0, 121, 1, 1]), (34, .ifCond .eq 13, 3, [6])] := rfl
theorem cb_X4_write_5 : (blk md_X4_write 5).2 = [(37, .aload_n 0, 1, []), (38, .sipush (-1003), 3, []), (41, .invokevirtual 56, 3, [0, 101, 2, 1]), (44, .goto 11, 3, [7])] := rfl
theorem cb_X4_write_6 : (blk md_X4_write 6).2 = [(47, .aload_n 0, 1, []), (48, .iconst 0, 1, []), (49, .iload_n 1, 1, []), (50, .iload_n 2, 1, []), (51, .iload_n 3, 1, []), (52, .invokevirtual 188, 3, [0, 147, 5, 1])] := rfl
theorem cb_X4_write_7 : (blk md_X4_write 7).2 = [(55, .ireturn, 1, [])] := rfl
def md_X4_snap : List mB := [
  (false, [(0, .aload_n 0, 1, []), (1, .iload_n 1, 1, []), (2, .invokevirtual 52, 3, [0, 103, 2, 1]), (5, .ifCond .ne 11, 3, [2])]),
  (false, [(8, .aload_n 0, 1, []), (9, .sipush (-1001), 3, []), (12, .invokevirtual 56, 3, [0, 101, 2, 1]), (15, .ireturn, 1, [])]),
  (false, [(16, .iconst 0, 1, []), (17, .istore_n 2, 1, [])]),
  (false, [(18, .iload_n 2, 1, []), (19, .bipush 8, 2, []), (21, .if_icmp .ge 23, 3, [6])]),
  (false, [(24, .aload_n 0, 1, []), (25, .getfield 7, 3, [4, 0]), (28, .sipush 383, 3, []), (31, .iload_n 2, 1, []), (32, .iadd, 1, []), (33, .iaload, 1, []), (34, .iconst 1, 1, []), (35, .if_icmp .ne 9, 3, [6])]),
  (false, [(38, .iinc 2 1, 3, []), (41, .goto (-23), 3, [3])]),
  (false, [(44, .aload_n 0, 1, []), (45, .invokevirtual 185, 3, [0, 121, 1, 1]), (48, .ifCond .ne 9, 3, [8])]),
  (false, [(51, .iload_n 2, 1, []), (52, .bipush 8, 2, []), (54, .if_icmp .ne 13, 3, [9])]),
  (false, [(57, .aload_n 0, 1, []), (58, .sipush (-1003), 3, []), (61, .invokevirtual 56, 3, [0, 101, 2, 1]), (64, .goto 11, 3, [10])]),
  (false, [(67, .aload_n 0, 1, []), (68, .iconst 1, 1, []), (69, .iload_n 1, 1, []), (70, .iload_n 2, 1, []), (71, .iconst 0, 1, []), (72, .invokevirtual 188, 3, [0, 147, 5, 1])]),
  (false, [(75, .ireturn, 1, [])])]
theorem cb_X4_snap_0 : (blk md_X4_snap 0).2 = [(0, .aload_n 0, 1, []), (1, .iload_n 1, 1, []), (2, .invokevirtual 52, 3, [0, 103, 2, 1]), (5, .ifCond .ne 11, 3, [2])] := rfl
theorem cb_X4_snap_1 : (blk md_X4_snap 1).2 = [(8, .aload_n 0, 1, []), (9, .sipush (-1001), 3, []), (12, .invokevirtual 56, 3, [0, 101, 2, 1]), (15, .ireturn, 1, [])] := rfl
theorem cb_X4_snap_2 : (blk md_X4_snap 2).2 = [(16, .iconst 0, 1, []), (17, .istore_n 2, 1, [])] := rfl
theorem cb_X4_snap_3 : (blk md_X4_snap 3).2 = [(18, .iload_n 2, 1, []), (19, .bipush 8, 2, []), (21, .if_icmp .ge 23, 3, [6])] := rfl
theorem cb_X4_snap_4 : (blk md_X4_snap 4).2 = [(24, .aload_n 0, 1, []), (25, .getfield 7, 3, [4, 0]), (28, .sipush 383, 3, []), (31, .iload_n 2, 1, []), (32, .iadd, 1, []), (33, .iaload, 1, []), (34, .iconst 1, 1, []), (35, .if_icmp .ne 9, 3, [6])] := rfl
theorem cb_X4_snap_5 : (blk md_X4_snap 5).2 = [(38, .iinc 2 1, 3, []), (41, .goto (-23), 3, [3])] := rfl
theorem cb_X4_snap_6 : (blk md_X4_snap 6).2 = [(44, .aload_n 0, 1, []), (45, .invokevirtual 185, 3, [0, 121, 1, 1]), (48, .ifCond .ne 9, 3, [8])] := rfl
theorem cb_X4_snap_7 : (blk md_X4_snap 7).2 = [(51, .iload_n 2, 1, []), (52, .bipush 8, 2, []), (54, .if_icmp .ne 13, 3, [9])] := rfl
theorem cb_X4_snap_8 : (blk md_X4_snap 8).2 = [(57, .aload_n 0, 1, []), (58, .sipush (-1003), 3, []), (61, .invokevirtual 56, 3, [0, 101, 2, 1]), (64, .goto 11, 3, [10])] := rfl
theorem cb_X4_snap_9 : (blk md_X4_snap 9).2 = [(67, .aload_n 0, 1, []), (68, .iconst 1, 1, []), (69, .iload_n 1, 1, []), (70, .iload_n 2, 1, []), (71, .iconst 0, 1, []), (72, .invokevirtual 188, 3, [0, 147, 5, 1])] := rfl
theorem cb_X4_snap_10 : (blk md_X4_snap 10).2 = [(75, .ireturn, 1, [])] := rfl
def md_X4_drop : List mB := [
  (false, [(0, .aload_n 0, 1, []), (1, .iload_n 1, 1, []), (2, .invokevirtual 66, 3, [0, 104, 2, 1]), (5, .ifCond .ne 13, 3, [2])]),
  (false, [(8, .aload_n 0, 1, []), (9, .sipush (-1001), 3, []), (12, .invokevirtual 56, 3, [0, 101, 2, 1]), (15, .goto 28, 3, [5])]),
  (false, [(18, .aload_n 0, 1, []), (19, .invokevirtual 185, 3, [0, 121, 1, 1]), (22, .ifCond .eq 13, 3, [4])]),
  (false, [(25, .aload_n 0, 1, []), (26, .sipush (-1003), 3, []), (29, .invokevirtual 56, 3, [0, 101, 2, 1]), (32, .goto 11, 3, [5])]),
  (false, [(35, .aload_n 0, 1, []), (36, .iconst 2, 1, []), (37, .iload_n 1, 1, []), (38, .iconst 0, 1, []), (39, .iconst 0, 1, []), (40, .invokevirtual 188, 3, [0, 147, 5, 1])]),
  (false, [(43, .ireturn, 1, [])])]
theorem cb_X4_drop_0 : (blk md_X4_drop 0).2 = [(0, .aload_n 0, 1, []), (1, .iload_n 1, 1, []), (2, .invokevirtual 66, 3, [0, 104, 2, 1]), (5, .ifCond .ne 13, 3, [2])] := rfl
theorem cb_X4_drop_1 : (blk md_X4_drop 1).2 = [(8, .aload_n 0, 1, []), (9, .sipush (-1001), 3, []), (12, .invokevirtual 56, 3, [0, 101, 2, 1]), (15, .goto 28, 3, [5])] := rfl
theorem cb_X4_drop_2 : (blk md_X4_drop 2).2 = [(18, .aload_n 0, 1, []), (19, .invokevirtual 185, 3, [0, 121, 1, 1]), (22, .ifCond .eq 13, 3, [4])] := rfl
theorem cb_X4_drop_3 : (blk md_X4_drop 3).2 = [(25, .aload_n 0, 1, []), (26, .sipush (-1003), 3, []), (29, .invokevirtual 56, 3, [0, 101, 2, 1]), (32, .goto 11, 3, [5])] := rfl
theorem cb_X4_drop_4 : (blk md_X4_drop 4).2 = [(35, .aload_n 0, 1, []), (36, .iconst 2, 1, []), (37, .iload_n 1, 1, []), (38, .iconst 0, 1, []), (39, .iconst 0, 1, []), (40, .invokevirtual 188, 3, [0, 147, 5, 1])] := rfl
theorem cb_X4_drop_5 : (blk md_X4_drop 5).2 = [(43, .ireturn, 1, [])] := rfl
def md_X4_revert : List mB := [
  (false, [(0, .aload_n 0, 1, []), (1, .iload_n 1, 1, []), (2, .invokevirtual 66, 3, [0, 104, 2, 1]), (5, .ifCond .ne 13, 3, [2])]),
  (false, [(8, .aload_n 0, 1, []), (9, .sipush (-1001), 3, []), (12, .invokevirtual 56, 3, [0, 101, 2, 1]), (15, .goto 28, 3, [5])]),
  (false, [(18, .aload_n 0, 1, []), (19, .invokevirtual 185, 3, [0, 121, 1, 1]), (22, .ifCond .eq 13, 3, [4])]),
  (false, [(25, .aload_n 0, 1, []), (26, .sipush (-1003), 3, []), (29, .invokevirtual 56, 3, [0, 101, 2, 1]), (32, .goto 11, 3, [5])]),
  (false, [(35, .aload_n 0, 1, []), (36, .iconst 3, 1, []), (37, .iload_n 1, 1, []), (38, .iconst 0, 1, []), (39, .iconst 0, 1, []), (40, .invokevirtual 188, 3, [0, 147, 5, 1])]),
  (false, [(43, .ireturn, 1, [])])]
theorem cb_X4_revert_0 : (blk md_X4_revert 0).2 = [(0, .aload_n 0, 1, []), (1, .iload_n 1, 1, []), (2, .invokevirtual 66, 3, [0, 104, 2, 1]), (5, .ifCond .ne 13, 3, [2])] := rfl
theorem cb_X4_revert_1 : (blk md_X4_revert 1).2 = [(8, .aload_n 0, 1, []), (9, .sipush (-1001), 3, []), (12, .invokevirtual 56, 3, [0, 101, 2, 1]), (15, .goto 28, 3, [5])] := rfl
theorem cb_X4_revert_2 : (blk md_X4_revert 2).2 = [(18, .aload_n 0, 1, []), (19, .invokevirtual 185, 3, [0, 121, 1, 1]), (22, .ifCond .eq 13, 3, [4])] := rfl
theorem cb_X4_revert_3 : (blk md_X4_revert 3).2 = [(25, .aload_n 0, 1, []), (26, .sipush (-1003), 3, []), (29, .invokevirtual 56, 3, [0, 101, 2, 1]), (32, .goto 11, 3, [5])] := rfl
theorem cb_X4_revert_4 : (blk md_X4_revert 4).2 = [(35, .aload_n 0, 1, []), (36, .iconst 3, 1, []), (37, .iload_n 1, 1, []), (38, .iconst 0, 1, []), (39, .iconst 0, 1, []), (40, .invokevirtual 188, 3, [0, 147, 5, 1])] := rfl
theorem cb_X4_revert_5 : (blk md_X4_revert 5).2 = [(43, .ireturn, 1, [])] := rfl
def md_X4_giveUp : List mB := [
  (false, [(0, .aload_n 0, 1, []), (1, .iload_n 1, 1, []), (2, .invokevirtual 52, 3, [0, 103, 2, 1]), (5, .ifCond .eq 10, 3, [2])]),
  (false, [(8, .iload_n 2, 1, []), (9, .invokestatic 192, 3, [1, 106, 1, 1]), (12, .ifCond .ne 13, 3, [3])]),
  (false, [(15, .aload_n 0, 1, []), (16, .sipush (-1001), 3, []), (19, .invokevirtual 56, 3, [0, 101, 2, 1]), (22, .goto 28, 3, [6])]),
  (false, [(25, .aload_n 0, 1, []), (26, .invokevirtual 185, 3, [0, 121, 1, 1]), (29, .ifCond .eq 13, 3, [5])]),
  (false, [(32, .aload_n 0, 1, []), (33, .sipush (-1003), 3, []), (36, .invokevirtual 56, 3, [0, 101, 2, 1]), (39, .goto 11, 3, [6])]),
  (false, [(42, .aload_n 0, 1, []), (43, .iconst 4, 1, []), (44, .iload_n 1, 1, []), (45, .iload_n 2, 1, []), (46, .iconst 0, 1, []), (47, .invokevirtual 188, 3, [0, 147, 5, 1])]),
  (false, [(50, .ireturn, 1, [])])]
theorem cb_X4_giveUp_0 : (blk md_X4_giveUp 0).2 = [(0, .aload_n 0, 1, []), (1, .iload_n 1, 1, []), (2, .invokevirtual 52, 3, [0, 103, 2, 1]), (5, .ifCond .eq 10, 3, [2])] := rfl
theorem cb_X4_giveUp_1 : (blk md_X4_giveUp 1).2 = [(8, .iload_n 2, 1, []), (9, .invokestatic 192, 3, [1, 106, 1, 1]), (12, .ifCond .ne 13, 3, [3])] := rfl
theorem cb_X4_giveUp_2 : (blk md_X4_giveUp 2).2 = [(15, .aload_n 0, 1, []), (16, .sipush (-1001), 3, []), (19, .invokevirtual 56, 3, [0, 101, 2, 1]), (22, .goto 28, 3, [6])] := rfl
theorem cb_X4_giveUp_3 : (blk md_X4_giveUp 3).2 = [(25, .aload_n 0, 1, []), (26, .invokevirtual 185, 3, [0, 121, 1, 1]), (29, .ifCond .eq 13, 3, [5])] := rfl
theorem cb_X4_giveUp_4 : (blk md_X4_giveUp 4).2 = [(32, .aload_n 0, 1, []), (33, .sipush (-1003), 3, []), (36, .invokevirtual 56, 3, [0, 101, 2, 1]), (39, .goto 11, 3, [6])] := rfl
theorem cb_X4_giveUp_5 : (blk md_X4_giveUp 5).2 = [(42, .aload_n 0, 1, []), (43, .iconst 4, 1, []), (44, .iload_n 1, 1, []), (45, .iload_n 2, 1, []), (46, .iconst 0, 1, []), (47, .invokevirtual 188, 3, [0, 147, 5, 1])] := rfl
theorem cb_X4_giveUp_6 : (blk md_X4_giveUp 6).2 = [(50, .ireturn, 1, [])] := rfl
def md_X4_merge : List mB := [
  (false, [(0, .aload_n 0, 1, []), (1, .iload_n 1, 1, []), (2, .invokevirtual 52, 3, [0, 103, 2, 1]), (5, .ifCond .ne 13, 3, [2])]),
  (false, [(8, .aload_n 0, 1, []), (9, .sipush (-1001), 3, []), (12, .invokevirtual 56, 3, [0, 101, 2, 1]), (15, .goto 42, 3, [6])]),
  (false, [(18, .aload_n 0, 1, []), (19, .invokevirtual 185, 3, [0, 121, 1, 1]), (22, .ifCond .ne 17, 3, [4])]),
  (false, [(25, .aload_n 0, 1, []), (26, .getfield 7, 3, [4, 0]), (29, .sipush 321, 3, []), (32, .iload_n 1, 1, []), (33, .iadd, 1, []), (34, .iaload, 1, []), (35, .iconst (-1), 1, []), (36, .if_icmp .ne 13, 3, [5])]),
  (false, [(39, .aload_n 0, 1, []), (40, .sipush (-1003), 3, []), (43, .invokevirtual 56, 3, [0, 101, 2, 1]), (46, .goto 11, 3, [6])]),
  (false, [(49, .aload_n 0, 1, []), (50, .iconst 5, 1, []), (51, .iload_n 1, 1, []), (52, .iconst 0, 1, []), (53, .iconst 0, 1, []), (54, .invokevirtual 188, 3, [0, 147, 5, 1])]),
  (false, [(57, .ireturn, 1, [])])]
theorem cb_X4_merge_0 : (blk md_X4_merge 0).2 = [(0, .aload_n 0, 1, []), (1, .iload_n 1, 1, []), (2, .invokevirtual 52, 3, [0, 103, 2, 1]), (5, .ifCond .ne 13, 3, [2])] := rfl
theorem cb_X4_merge_1 : (blk md_X4_merge 1).2 = [(8, .aload_n 0, 1, []), (9, .sipush (-1001), 3, []), (12, .invokevirtual 56, 3, [0, 101, 2, 1]), (15, .goto 42, 3, [6])] := rfl
theorem cb_X4_merge_2 : (blk md_X4_merge 2).2 = [(18, .aload_n 0, 1, []), (19, .invokevirtual 185, 3, [0, 121, 1, 1]), (22, .ifCond .ne 17, 3, [4])] := rfl
theorem cb_X4_merge_3 : (blk md_X4_merge 3).2 = [(25, .aload_n 0, 1, []), (26, .getfield 7, 3, [4, 0]), (29, .sipush 321, 3, []), (32, .iload_n 1, 1, []), (33, .iadd, 1, []), (34, .iaload, 1, []), (35, .iconst (-1), 1, []), (36, .if_icmp .ne 13, 3, [5])] := rfl
theorem cb_X4_merge_4 : (blk md_X4_merge 4).2 = [(39, .aload_n 0, 1, []), (40, .sipush (-1003), 3, []), (43, .invokevirtual 56, 3, [0, 101, 2, 1]), (46, .goto 11, 3, [6])] := rfl
theorem cb_X4_merge_5 : (blk md_X4_merge 5).2 = [(49, .aload_n 0, 1, []), (50, .iconst 5, 1, []), (51, .iload_n 1, 1, []), (52, .iconst 0, 1, []), (53, .iconst 0, 1, []), (54, .invokevirtual 188, 3, [0, 147, 5, 1])] := rfl
theorem cb_X4_merge_6 : (blk md_X4_merge 6).2 = [(57, .ireturn, 1, [])] := rfl
def md_X4_move : List mB := [
  (false, [(0, .aload_n 0, 1, []), (1, .iload_n 1, 1, []), (2, .invokevirtual 52, 3, [0, 103, 2, 1]), (5, .ifCond .eq 25, 3, [4])]),
  (false, [(8, .iload_n 2, 1, []), (9, .iconst (-1), 1, []), (10, .if_icmp .eq 11, 3, [3])]),
  (false, [(13, .aload_n 0, 1, []), (14, .iload_n 2, 1, []), (15, .invokevirtual 52, 3, [0, 103, 2, 1]), (18, .ifCond .eq 12, 3, [4])]),
  (false, [(21, .iload_n 3, 1, []), (22, .iconst 0, 1, []), (23, .iconst 1, 1, []), (24, .invokestatic 37, 3, [1, 100, 3, 1]), (27, .ifCond .ne 11, 3, [5])]),
  (false, [(30, .aload_n 0, 1, []), (31, .sipush (-1001), 3, []), (34, .invokevirtual 56, 3, [0, 101, 2, 1]), (37, .ireturn, 1, [])]),
  (false, [(38, .aload_n 0, 1, []), (39, .invokevirtual 185, 3, [0, 121, 1, 1]), (42, .ifCond .eq 11, 3, [7])]),
  (false, [(45, .aload_n 0, 1, []), (46, .sipush (-1003), 3, []), (49, .invokevirtual 56, 3, [0, 101, 2, 1]), (52, .ireturn, 1, [])]),
  (false, [(53, .aload_n 0, 1, []), (54, .iload_n 2, 1, []), (55, .iload_n 1, 1, []), (56, .invokevirtual 195, 3, [0, 117, 3, 1]), (59, .ifCond .eq 13, 3, [9])]),
  (false, [(62, .aload_n 0, 1, []), (63, .sipush (-1004), 3, []), (66, .invokevirtual 56, 3, [0, 101, 2, 1]), (69, .goto 12, 3, [10])]),
  (false, [(72, .aload_n 0, 1, []), (73, .bipush 6, 2, []), (75, .iload_n 1, 1, []), (76, .iload_n 2, 1, []), (77, .iload_n 3, 1, []), (78, .invokevirtual 188, 3, [0, 147, 5, 1])]),
  (false, [(81, .ireturn, 1, [])])]
theorem cb_X4_move_0 : (blk md_X4_move 0).2 = [(0, .aload_n 0, 1, []), (1, .iload_n 1, 1, []), (2, .invokevirtual 52, 3, [0, 103, 2, 1]), (5, .ifCond .eq 25, 3, [4])] := rfl
theorem cb_X4_move_1 : (blk md_X4_move 1).2 = [(8, .iload_n 2, 1, []), (9, .iconst (-1), 1, []), (10, .if_icmp .eq 11, 3, [3])] := rfl
theorem cb_X4_move_2 : (blk md_X4_move 2).2 = [(13, .aload_n 0, 1, []), (14, .iload_n 2, 1, []), (15, .invokevirtual 52, 3, [0, 103, 2, 1]), (18, .ifCond .eq 12, 3, [4])] := rfl
theorem cb_X4_move_3 : (blk md_X4_move 3).2 = [(21, .iload_n 3, 1, []), (22, .iconst 0, 1, []), (23, .iconst 1, 1, []), (24, .invokestatic 37, 3, [1, 100, 3, 1]), (27, .ifCond .ne 11, 3, [5])] := rfl
theorem cb_X4_move_4 : (blk md_X4_move 4).2 = [(30, .aload_n 0, 1, []), (31, .sipush (-1001), 3, []), (34, .invokevirtual 56, 3, [0, 101, 2, 1]), (37, .ireturn, 1, [])] := rfl
theorem cb_X4_move_5 : (blk md_X4_move 5).2 = [(38, .aload_n 0, 1, []), (39, .invokevirtual 185, 3, [0, 121, 1, 1]), (42, .ifCond .eq 11, 3, [7])] := rfl
theorem cb_X4_move_6 : (blk md_X4_move 6).2 = [(45, .aload_n 0, 1, []), (46, .sipush (-1003), 3, []), (49, .invokevirtual 56, 3, [0, 101, 2, 1]), (52, .ireturn, 1, [])] := rfl
theorem cb_X4_move_7 : (blk md_X4_move 7).2 = [(53, .aload_n 0, 1, []), (54, .iload_n 2, 1, []), (55, .iload_n 1, 1, []), (56, .invokevirtual 195, 3, [0, 117, 3, 1]), (59, .ifCond .eq 13, 3, [9])] := rfl
theorem cb_X4_move_8 : (blk md_X4_move 8).2 = [(62, .aload_n 0, 1, []), (63, .sipush (-1004), 3, []), (66, .invokevirtual 56, 3, [0, 101, 2, 1]), (69, .goto 12, 3, [10])] := rfl
theorem cb_X4_move_9 : (blk md_X4_move 9).2 = [(72, .aload_n 0, 1, []), (73, .bipush 6, 2, []), (75, .iload_n 1, 1, []), (76, .iload_n 2, 1, []), (77, .iload_n 3, 1, []), (78, .invokevirtual 188, 3, [0, 147, 5, 1])] := rfl
theorem cb_X4_move_10 : (blk md_X4_move 10).2 = [(81, .ireturn, 1, [])] := rfl
def md_X4_fold : List mB := [
  (false, [(0, .aload_n 0, 1, []), (1, .invokevirtual 185, 3, [0, 121, 1, 1]), (4, .ifCond .eq 13, 3, [2])]),
  (false, [(7, .aload_n 0, 1, []), (8, .sipush (-1003), 3, []), (11, .invokevirtual 56, 3, [0, 101, 2, 1]), (14, .goto 12, 3, [3])]),
  (false, [(17, .aload_n 0, 1, []), (18, .bipush 7, 2, []), (20, .iconst 0, 1, []), (21, .iconst 0, 1, []), (22, .iconst 0, 1, []), (23, .invokevirtual 188, 3, [0, 147, 5, 1])]),
  (false, [(26, .ireturn, 1, [])])]
theorem cb_X4_fold_0 : (blk md_X4_fold 0).2 = [(0, .aload_n 0, 1, []), (1, .invokevirtual 185, 3, [0, 121, 1, 1]), (4, .ifCond .eq 13, 3, [2])] := rfl
theorem cb_X4_fold_1 : (blk md_X4_fold 1).2 = [(7, .aload_n 0, 1, []), (8, .sipush (-1003), 3, []), (11, .invokevirtual 56, 3, [0, 101, 2, 1]), (14, .goto 12, 3, [3])] := rfl
theorem cb_X4_fold_2 : (blk md_X4_fold 2).2 = [(17, .aload_n 0, 1, []), (18, .bipush 7, 2, []), (20, .iconst 0, 1, []), (21, .iconst 0, 1, []), (22, .iconst 0, 1, []), (23, .invokevirtual 188, 3, [0, 147, 5, 1])] := rfl
theorem cb_X4_fold_3 : (blk md_X4_fold 3).2 = [(26, .ireturn, 1, [])] := rfl
def md_X4_tear : List mB := [
  (false, [(0, .iload_n 1, 1, []), (1, .iconst (-1), 1, []), (2, .sipush 999, 3, []), (5, .invokestatic 37, 3, [1, 100, 3, 1]), (8, .ifCond .ne 11, 3, [2])]),
  (false, [(11, .aload_n 0, 1, []), (12, .sipush (-1001), 3, []), (15, .invokevirtual 56, 3, [0, 101, 2, 1]), (18, .ireturn, 1, [])]),
  (false, [(19, .aload_n 0, 1, []), (20, .getfield 7, 3, [4, 0]), (23, .sipush 399, 3, []), (26, .iaload, 1, []), (27, .istore_n 2, 1, []), (28, .aload_n 0, 1, []), (29, .getfield 7, 3, [4, 0]), (32, .sipush 399, 3, []), (35, .iload_n 1, 1, []), (36, .iastore, 1, []), (37, .iload_n 2, 1, []), (38, .ireturn, 1, [])])]
theorem cb_X4_tear_0 : (blk md_X4_tear 0).2 = [(0, .iload_n 1, 1, []), (1, .iconst (-1), 1, []), (2, .sipush 999, 3, []), (5, .invokestatic 37, 3, [1, 100, 3, 1]), (8, .ifCond .ne 11, 3, [2])] := rfl
theorem cb_X4_tear_1 : (blk md_X4_tear 1).2 = [(11, .aload_n 0, 1, []), (12, .sipush (-1001), 3, []), (15, .invokevirtual 56, 3, [0, 101, 2, 1]), (18, .ireturn, 1, [])] := rfl
theorem cb_X4_tear_2 : (blk md_X4_tear 2).2 = [(19, .aload_n 0, 1, []), (20, .getfield 7, 3, [4, 0]), (23, .sipush 399, 3, []), (26, .iaload, 1, []), (27, .istore_n 2, 1, []), (28, .aload_n 0, 1, []), (29, .getfield 7, 3, [4, 0]), (32, .sipush 399, 3, []), (35, .iload_n 1, 1, []), (36, .iastore, 1, []), (37, .iload_n 2, 1, []), (38, .ireturn, 1, [])] := rfl
def md_X4_cluster : List mB := [
  (false, [(0, .iload_n 1, 1, []), (1, .invokestatic 198, 3, [1, 107, 1, 1]), (4, .ifCond .eq 12, 3, [2])]),
  (false, [(7, .iload_n 2, 1, []), (8, .iconst 0, 1, []), (9, .iconst 5, 1, []), (10, .invokestatic 37, 3, [1, 100, 3, 1]), (13, .ifCond .ne 11, 3, [3])]),
  (false, [(16, .aload_n 0, 1, []), (17, .sipush (-1001), 3, []), (20, .invokevirtual 56, 3, [0, 101, 2, 1]), (23, .ireturn, 1, [])]),
  (false, [(24, .aload_n 0, 1, []), (25, .invokevirtual 75, 3, [0, 119, 1, 0]), (28, .iload_n 2, 1, []), (29, .ifCond .ne 14, 3, [5])]),
  (false, [(32, .aload_n 0, 1, []), (33, .getfield 7, 3, [4, 0]), (36, .iconst 0, 1, []), (37, .iload_n 1, 1, []), (38, .iadd, 1, []), (39, .iaload, 1, []), (40, .goto 32, 3, [8])]),
  (false, [(43, .iload_n 2, 1, []), (44, .iconst 1, 1, []), (45, .if_icmp .ne 12, 3, [7])]),
  (false, [(48, .aload_n 0, 1, []), (49, .getfield 22, 3, [4, 5]), (52, .iload_n 1, 1, []), (53, .iaload, 1, []), (54, .goto 18, 3, [8])]),
  (false, [(57, .aload_n 0, 1, []), (58, .getfield 7, 3, [4, 0]), (61, .bipush 64, 2, []), (63, .iconst 4, 1, []), (64, .iload_n 1, 1, []), (65, .imul, 1, []), (66, .iadd, 1, []), (67, .iload_n 2, 1, []), (68, .iadd, 1, []), (69, .iconst 2, 1, []), (70, .isub, 1, []), (71, .iaload, 1, [])]),
  (false, [(72, .ireturn, 1, [])])]
theorem cb_X4_cluster_0 : (blk md_X4_cluster 0).2 = [(0, .iload_n 1, 1, []), (1, .invokestatic 198, 3, [1, 107, 1, 1]), (4, .ifCond .eq 12, 3, [2])] := rfl
theorem cb_X4_cluster_1 : (blk md_X4_cluster 1).2 = [(7, .iload_n 2, 1, []), (8, .iconst 0, 1, []), (9, .iconst 5, 1, []), (10, .invokestatic 37, 3, [1, 100, 3, 1]), (13, .ifCond .ne 11, 3, [3])] := rfl
theorem cb_X4_cluster_2 : (blk md_X4_cluster 2).2 = [(16, .aload_n 0, 1, []), (17, .sipush (-1001), 3, []), (20, .invokevirtual 56, 3, [0, 101, 2, 1]), (23, .ireturn, 1, [])] := rfl
theorem cb_X4_cluster_3 : (blk md_X4_cluster 3).2 = [(24, .aload_n 0, 1, []), (25, .invokevirtual 75, 3, [0, 119, 1, 0]), (28, .iload_n 2, 1, []), (29, .ifCond .ne 14, 3, [5])] := rfl
theorem cb_X4_cluster_4 : (blk md_X4_cluster 4).2 = [(32, .aload_n 0, 1, []), (33, .getfield 7, 3, [4, 0]), (36, .iconst 0, 1, []), (37, .iload_n 1, 1, []), (38, .iadd, 1, []), (39, .iaload, 1, []), (40, .goto 32, 3, [8])] := rfl
theorem cb_X4_cluster_5 : (blk md_X4_cluster 5).2 = [(43, .iload_n 2, 1, []), (44, .iconst 1, 1, []), (45, .if_icmp .ne 12, 3, [7])] := rfl
theorem cb_X4_cluster_6 : (blk md_X4_cluster 6).2 = [(48, .aload_n 0, 1, []), (49, .getfield 22, 3, [4, 5]), (52, .iload_n 1, 1, []), (53, .iaload, 1, []), (54, .goto 18, 3, [8])] := rfl
theorem cb_X4_cluster_7 : (blk md_X4_cluster 7).2 = [(57, .aload_n 0, 1, []), (58, .getfield 7, 3, [4, 0]), (61, .bipush 64, 2, []), (63, .iconst 4, 1, []), (64, .iload_n 1, 1, []), (65, .imul, 1, []), (66, .iadd, 1, []), (67, .iload_n 2, 1, []), (68, .iadd, 1, []), (69, .iconst 2, 1, []), (70, .isub, 1, []), (71, .iaload, 1, [])] := rfl
theorem cb_X4_cluster_8 : (blk md_X4_cluster 8).2 = [(72, .ireturn, 1, [])] := rfl
def md_X4_spoil : List mB := [
  (false, [(0, .iload_n 1, 1, []), (1, .invokestatic 198, 3, [1, 107, 1, 1]), (4, .ifCond .eq 13, 3, [2])]),
  (false, [(7, .iload_n 2, 1, []), (8, .iconst 0, 1, []), (9, .bipush 99, 2, []), (11, .invokestatic 37, 3, [1, 100, 3, 1]), (14, .ifCond .ne 11, 3, [3])]),
  (false, [(17, .aload_n 0, 1, []), (18, .sipush (-1001), 3, []), (21, .invokevirtual 56, 3, [0, 101, 2, 1]), (24, .ireturn, 1, [])]),
  (false, [(25, .aload_n 0, 1, []), (26, .getfield 7, 3, [4, 0]), (29, .iconst 0, 1, []), (30, .iload_n 1, 1, []), (31, .iadd, 1, []), (32, .iaload, 1, []), (33, .istore_n 3, 1, []), (34, .aload_n 0, 1, []), (35, .getfield 7, 3, [4, 0]), (38, .iconst 0, 1, []), (39, .iload_n 1, 1, []), (40, .iadd, 1, []), (41, .iload_n 2, 1, []), (42, .iastore, 1, []), (43, .iload_n 3, 1, []), (44, .ireturn, 1, [])])]
theorem cb_X4_spoil_0 : (blk md_X4_spoil 0).2 = [(0, .iload_n 1, 1, []), (1, .invokestatic 198, 3, [1, 107, 1, 1]), (4, .ifCond .eq 13, 3, [2])] := rfl
theorem cb_X4_spoil_1 : (blk md_X4_spoil 1).2 = [(7, .iload_n 2, 1, []), (8, .iconst 0, 1, []), (9, .bipush 99, 2, []), (11, .invokestatic 37, 3, [1, 100, 3, 1]), (14, .ifCond .ne 11, 3, [3])] := rfl
theorem cb_X4_spoil_2 : (blk md_X4_spoil 2).2 = [(17, .aload_n 0, 1, []), (18, .sipush (-1001), 3, []), (21, .invokevirtual 56, 3, [0, 101, 2, 1]), (24, .ireturn, 1, [])] := rfl
theorem cb_X4_spoil_3 : (blk md_X4_spoil 3).2 = [(25, .aload_n 0, 1, []), (26, .getfield 7, 3, [4, 0]), (29, .iconst 0, 1, []), (30, .iload_n 1, 1, []), (31, .iadd, 1, []), (32, .iaload, 1, []), (33, .istore_n 3, 1, []), (34, .aload_n 0, 1, []), (35, .getfield 7, 3, [4, 0]), (38, .iconst 0, 1, []), (39, .iload_n 1, 1, []), (40, .iadd, 1, []), (41, .iload_n 2, 1, []), (42, .iastore, 1, []), (43, .iload_n 3, 1, []), (44, .ireturn, 1, [])] := rfl
def md_X4_all : List mB := [
  (false, [(0, .aload_n 0, 1, []), (1, .invokevirtual 75, 3, [0, 119, 1, 0]), (4, .lconst 0, 1, []), (5, .lstore_n 2, 1, []), (6, .iconst 1, 1, []), (7, .istore 4, 2, [])]),
  (false, [(9, .iload 4, 2, []), (11, .bipush 64, 2, []), (13, .if_icmp .ge 126, 3, [22])]),
  (false, [(16, .aload_n 0, 1, []), (17, .getfield 7, 3, [4, 0]), (20, .iconst 0, 1, []), (21, .iload 4, 2, []), (23, .iadd, 1, []), (24, .iaload, 1, []), (25, .istore 5, 2, []), (27, .iload_n 1, 1, []), (28, .ifCond .ne 23, 3, [6])]),
  (false, [(31, .iload 5, 2, []), (33, .aload_n 0, 1, []), (34, .getfield 22, 3, [4, 5]), (37, .iload 4, 2, []), (39, .iaload, 1, []), (40, .if_icmp .le 7, 3, [5])]),
  (false, [(43, .iconst 1, 1, []), (44, .goto 71, 3, [18])]),
  (false, [(47, .iconst 0, 1, []), (48, .goto 67, 3, [18])]),
  (false, [(51, .iload_n 1, 1, []), (52, .iconst 1, 1, []), (53, .if_icmp .ne 23, 3, [10])]),
  (false, [(56, .iload 5, 2, []), (58, .aload_n 0, 1, []), (59, .getfield 22, 3, [4, 5]), (62, .iload 4, 2, []), (64, .iaload, 1, []), (65, .if_icmp .ge 7, 3, [9])]),
  (false, [(68, .iconst 1, 1, []), (69, .goto 46, 3, [18])]),
  (false, [(72, .iconst 0, 1, []), (73, .goto 42, 3, [18])]),
  (false, [(76, .iload_n 1, 1, []), (77, .iconst 2, 1, []), (78, .if_icmp .ne 16, 3, [14])]),
  (false, [(81, .iload 5, 2, []), (83, .ifCond .ne 7, 3, [13])]),
  (false, [(86, .iconst 1, 1, []), (87, .goto 28, 3, [18])]),
  (false, [(90, .iconst 0, 1, []), (91, .goto 24, 3, [18])]),
  (false, [(94, .iload_n 1, 1, []), (95, .iconst 3, 1, []), (96, .if_icmp .ne 18, 3, [17])]),
  (false, [(99, .aload_n 0, 1, []), (100, .getfield 25, 3, [4, 6]), (103, .iload 4, 2, []), (105, .iaload, 1, []), (106, .iconst 1, 1, []), (107, .if_icmp .le 7, 3, [17])]),
  (false, [(110, .iconst 1, 1, []), (111, .goto 4, 3, [18])]),
  (false, [(114, .iconst 0, 1, [])]),
  (false, [(115, .istore 6, 2, []), (117, .lload_n 2, 1, []), (118, .iload 6, 2, []), (120, .ifCond .eq 10, 3, [20])]),
  (false, [(123, .lconst 1, 1, []), (124, .iload 4, 2, []), (126, .lshl, 1, []), (127, .goto 4, 3, [21])]),
  (false, [(130, .lconst 0, 1, [])]),
  (false, [(131, .lor, 1, []), (132, .lstore_n 2, 1, []), (133, .iinc 4 1, 3, []), (136, .goto (-127), 3, [1])]),
  (false, [(139, .lload_n 2, 1, []), (140, .lreturn, 1, [])])]
theorem cb_X4_all_0 : (blk md_X4_all 0).2 = [(0, .aload_n 0, 1, []), (1, .invokevirtual 75, 3, [0, 119, 1, 0]), (4, .lconst 0, 1, []), (5, .lstore_n 2, 1, []), (6, .iconst 1, 1, []), (7, .istore 4, 2, [])] := rfl
theorem cb_X4_all_1 : (blk md_X4_all 1).2 = [(9, .iload 4, 2, []), (11, .bipush 64, 2, []), (13, .if_icmp .ge 126, 3, [22])] := rfl
theorem cb_X4_all_2 : (blk md_X4_all 2).2 = [(16, .aload_n 0, 1, []), (17, .getfield 7, 3, [4, 0]), (20, .iconst 0, 1, []), (21, .iload 4, 2, []), (23, .iadd, 1, []), (24, .iaload, 1, []), (25, .istore 5, 2, []), (27, .iload_n 1, 1, []), (28, .ifCond .ne 23, 3, [6])] := rfl
theorem cb_X4_all_3 : (blk md_X4_all 3).2 = [(31, .iload 5, 2, []), (33, .aload_n 0, 1, []), (34, .getfield 22, 3, [4, 5]), (37, .iload 4, 2, []), (39, .iaload, 1, []), (40, .if_icmp .le 7, 3, [5])] := rfl
theorem cb_X4_all_4 : (blk md_X4_all 4).2 = [(43, .iconst 1, 1, []), (44, .goto 71, 3, [18])] := rfl
theorem cb_X4_all_5 : (blk md_X4_all 5).2 = [(47, .iconst 0, 1, []), (48, .goto 67, 3, [18])] := rfl
theorem cb_X4_all_6 : (blk md_X4_all 6).2 = [(51, .iload_n 1, 1, []), (52, .iconst 1, 1, []), (53, .if_icmp .ne 23, 3, [10])] := rfl
theorem cb_X4_all_7 : (blk md_X4_all 7).2 = [(56, .iload 5, 2, []), (58, .aload_n 0, 1, []), (59, .getfield 22, 3, [4, 5]), (62, .iload 4, 2, []), (64, .iaload, 1, []), (65, .if_icmp .ge 7, 3, [9])] := rfl
theorem cb_X4_all_8 : (blk md_X4_all 8).2 = [(68, .iconst 1, 1, []), (69, .goto 46, 3, [18])] := rfl
theorem cb_X4_all_9 : (blk md_X4_all 9).2 = [(72, .iconst 0, 1, []), (73, .goto 42, 3, [18])] := rfl
theorem cb_X4_all_10 : (blk md_X4_all 10).2 = [(76, .iload_n 1, 1, []), (77, .iconst 2, 1, []), (78, .if_icmp .ne 16, 3, [14])] := rfl
theorem cb_X4_all_11 : (blk md_X4_all 11).2 = [(81, .iload 5, 2, []), (83, .ifCond .ne 7, 3, [13])] := rfl
theorem cb_X4_all_12 : (blk md_X4_all 12).2 = [(86, .iconst 1, 1, []), (87, .goto 28, 3, [18])] := rfl
theorem cb_X4_all_13 : (blk md_X4_all 13).2 = [(90, .iconst 0, 1, []), (91, .goto 24, 3, [18])] := rfl
theorem cb_X4_all_14 : (blk md_X4_all 14).2 = [(94, .iload_n 1, 1, []), (95, .iconst 3, 1, []), (96, .if_icmp .ne 18, 3, [17])] := rfl
theorem cb_X4_all_15 : (blk md_X4_all 15).2 = [(99, .aload_n 0, 1, []), (100, .getfield 25, 3, [4, 6]), (103, .iload 4, 2, []), (105, .iaload, 1, []), (106, .iconst 1, 1, []), (107, .if_icmp .le 7, 3, [17])] := rfl
theorem cb_X4_all_16 : (blk md_X4_all 16).2 = [(110, .iconst 1, 1, []), (111, .goto 4, 3, [18])] := rfl
theorem cb_X4_all_17 : (blk md_X4_all 17).2 = [(114, .iconst 0, 1, [])] := rfl
theorem cb_X4_all_18 : (blk md_X4_all 18).2 = [(115, .istore 6, 2, []), (117, .lload_n 2, 1, []), (118, .iload 6, 2, []), (120, .ifCond .eq 10, 3, [20])] := rfl
theorem cb_X4_all_19 : (blk md_X4_all 19).2 = [(123, .lconst 1, 1, []), (124, .iload 4, 2, []), (126, .lshl, 1, []), (127, .goto 4, 3, [21])] := rfl
theorem cb_X4_all_20 : (blk md_X4_all 20).2 = [(130, .lconst 0, 1, [])] := rfl
theorem cb_X4_all_21 : (blk md_X4_all 21).2 = [(131, .lor, 1, []), (132, .lstore_n 2, 1, []), (133, .iinc 4 1, 3, []), (136, .goto (-127), 3, [1])] := rfl
theorem cb_X4_all_22 : (blk md_X4_all 22).2 = [(139, .lload_n 2, 1, []), (140, .lreturn, 1, [])] := rfl
def md_X4_repair : List mB := [
  (false, [(0, .aload_n 0, 1, []), (1, .invokevirtual 75, 3, [0, 119, 1, 0]), (4, .iconst 0, 1, []), (5, .istore_n 1, 1, []), (6, .iconst 1, 1, []), (7, .istore_n 2, 1, [])]),
  (false, [(8, .iload_n 2, 1, []), (9, .bipush 64, 2, []), (11, .if_icmp .ge 48, 3, [6])]),
  (false, [(14, .iload_n 1, 1, []), (15, .aload_n 0, 1, []), (16, .getfield 7, 3, [4, 0]), (19, .iconst 0, 1, []), (20, .iload_n 2, 1, []), (21, .iadd, 1, []), (22, .iaload, 1, []), (23, .aload_n 0, 1, []), (24, .getfield 22, 3, [4, 5]), (27, .iload_n 2, 1, []), (28, .iaload, 1, []), (29, .if_icmp .ne 7, 3, [4])]),
  (false, [(32, .iconst 0, 1, []), (33, .goto 4, 3, [5])]),
  (false, [(36, .iconst 1, 1, [])]),
  (false, [(37, .iadd, 1, []), (38, .istore_n 1, 1, []), (39, .aload_n 0, 1, []), (40, .getfield 7, 3, [4, 0]), (43, .iconst 0, 1, []), (44, .iload_n 2, 1, []), (45, .iadd, 1, []), (46, .aload_n 0, 1, []), (47, .getfield 22, 3, [4, 5]), (50, .iload_n 2, 1, []), (51, .iaload, 1, []), (52, .iastore, 1, []), (53, .iinc 2 1, 3, []), (56, .goto (-48), 3, [1])]),
  (false, [(59, .iload_n 1, 1, []), (60, .ireturn, 1, [])])]
theorem cb_X4_repair_0 : (blk md_X4_repair 0).2 = [(0, .aload_n 0, 1, []), (1, .invokevirtual 75, 3, [0, 119, 1, 0]), (4, .iconst 0, 1, []), (5, .istore_n 1, 1, []), (6, .iconst 1, 1, []), (7, .istore_n 2, 1, [])] := rfl
theorem cb_X4_repair_1 : (blk md_X4_repair 1).2 = [(8, .iload_n 2, 1, []), (9, .bipush 64, 2, []), (11, .if_icmp .ge 48, 3, [6])] := rfl
theorem cb_X4_repair_2 : (blk md_X4_repair 2).2 = [(14, .iload_n 1, 1, []), (15, .aload_n 0, 1, []), (16, .getfield 7, 3, [4, 0]), (19, .iconst 0, 1, []), (20, .iload_n 2, 1, []), (21, .iadd, 1, []), (22, .iaload, 1, []), (23, .aload_n 0, 1, []), (24, .getfield 22, 3, [4, 5]), (27, .iload_n 2, 1, []), (28, .iaload, 1, []), (29, .if_icmp .ne 7, 3, [4])] := rfl
theorem cb_X4_repair_3 : (blk md_X4_repair 3).2 = [(32, .iconst 0, 1, []), (33, .goto 4, 3, [5])] := rfl
theorem cb_X4_repair_4 : (blk md_X4_repair 4).2 = [(36, .iconst 1, 1, [])] := rfl
theorem cb_X4_repair_5 : (blk md_X4_repair 5).2 = [(37, .iadd, 1, []), (38, .istore_n 1, 1, []), (39, .aload_n 0, 1, []), (40, .getfield 7, 3, [4, 0]), (43, .iconst 0, 1, []), (44, .iload_n 2, 1, []), (45, .iadd, 1, []), (46, .aload_n 0, 1, []), (47, .getfield 22, 3, [4, 5]), (50, .iload_n 2, 1, []), (51, .iaload, 1, []), (52, .iastore, 1, []), (53, .iinc 2 1, 3, []), (56, .goto (-48), 3, [1])] := rfl
theorem cb_X4_repair_6 : (blk md_X4_repair 6).2 = [(59, .iload_n 1, 1, []), (60, .ireturn, 1, [])] := rfl
def md_X4_directoryOf : List mB := [
  (false, [(0, .aload_n 0, 1, []), (1, .iload_n 1, 1, []), (2, .invokevirtual 52, 3, [0, 103, 2, 1]), (5, .ifCond .eq 7, 3, [2])]),
  (false, [(8, .iload_n 1, 1, []), (9, .goto 25, 3, [5])]),
  (false, [(12, .aload_n 0, 1, []), (13, .iload_n 1, 1, []), (14, .bipush 10, 2, []), (16, .isub, 1, []), (17, .invokevirtual 66, 3, [0, 104, 2, 1]), (20, .ifCond .eq 13, 3, [4])]),
  (false, [(23, .bipush 6, 2, []), (25, .iload_n 1, 1, []), (26, .iadd, 1, []), (27, .bipush 10, 2, []), (29, .isub, 1, []), (30, .goto 4, 3, [5])]),
  (false, [(33, .iconst (-1), 1, [])]),
  (false, [(34, .ireturn, 1, [])])]
theorem cb_X4_directoryOf_0 : (blk md_X4_directoryOf 0).2 = [(0, .aload_n 0, 1, []), (1, .iload_n 1, 1, []), (2, .invokevirtual 52, 3, [0, 103, 2, 1]), (5, .ifCond .eq 7, 3, [2])] := rfl
theorem cb_X4_directoryOf_1 : (blk md_X4_directoryOf 1).2 = [(8, .iload_n 1, 1, []), (9, .goto 25, 3, [5])] := rfl
theorem cb_X4_directoryOf_2 : (blk md_X4_directoryOf 2).2 = [(12, .aload_n 0, 1, []), (13, .iload_n 1, 1, []), (14, .bipush 10, 2, []), (16, .isub, 1, []), (17, .invokevirtual 66, 3, [0, 104, 2, 1]), (20, .ifCond .eq 13, 3, [4])] := rfl
theorem cb_X4_directoryOf_3 : (blk md_X4_directoryOf 3).2 = [(23, .bipush 6, 2, []), (25, .iload_n 1, 1, []), (26, .iadd, 1, []), (27, .bipush 10, 2, []), (29, .isub, 1, []), (30, .goto 4, 3, [5])] := rfl
theorem cb_X4_directoryOf_4 : (blk md_X4_directoryOf 4).2 = [(33, .iconst (-1), 1, [])] := rfl
theorem cb_X4_directoryOf_5 : (blk md_X4_directoryOf 5).2 = [(34, .ireturn, 1, [])] := rfl
def md_X4_heldBy : List mB := [
  (false, [(0, .lconst 0, 1, []), (1, .lstore_n 2, 1, []), (2, .iconst 0, 1, []), (3, .istore 4, 2, [])]),
  (false, [(5, .iload 4, 2, []), (7, .iconst 4, 1, []), (8, .if_icmp .ge 72, 3, [8])]),
  (false, [(11, .aload_n 0, 1, []), (12, .getfield 7, 3, [4, 0]), (15, .iload_n 1, 1, []), (16, .iload 4, 2, []), (18, .invokestatic 41, 3, [1, 108, 2, 1]), (21, .iaload, 1, []), (22, .istore 5, 2, []), (24, .iload 5, 2, []), (26, .ifCond .ne 6, 3, [4])]),
  (false, [(29, .goto 45, 3, [7])]),
  (false, [(32, .lload_n 2, 1, []), (33, .lconst 1, 1, []), (34, .iload 5, 2, []), (36, .lshl, 1, []), (37, .lor, 1, []), (38, .lstore_n 2, 1, []), (39, .iconst 0, 1, []), (40, .istore 6, 2, [])]),
  (false, [(42, .iload 6, 2, []), (44, .iconst 4, 1, []), (45, .if_icmp .ge 29, 3, [7])]),
  (false, [(48, .lload_n 2, 1, []), (49, .lconst 1, 1, []), (50, .aload_n 0, 1, []), (51, .getfield 7, 3, [4, 0]), (54, .bipush 64, 2, []), (56, .iconst 4, 1, []), (57, .iload 5, 2, []), (59, .imul, 1, []), (60, .iadd, 1, []), (61, .iload 6, 2, []), (63, .iadd, 1, []), (64, .iaload, 1, []), (65, .lshl, 1, []), (66, .lor, 1, []), (67, .lstore_n 2, 1, []), (68, .iinc 6 1, 3, []), (71, .goto (-29), 3, [5])]),
  (false, [(74, .iinc 4 1, 3, []), (77, .goto (-72), 3, [1])]),
  (false, [(80, .lload_n 2, 1, []), (81, .ldc2_w 201, 3, [18446744073709551614]), (84, .land, 1, []), (85, .lreturn, 1, [])])]
theorem cb_X4_heldBy_0 : (blk md_X4_heldBy 0).2 = [(0, .lconst 0, 1, []), (1, .lstore_n 2, 1, []), (2, .iconst 0, 1, []), (3, .istore 4, 2, [])] := rfl
theorem cb_X4_heldBy_1 : (blk md_X4_heldBy 1).2 = [(5, .iload 4, 2, []), (7, .iconst 4, 1, []), (8, .if_icmp .ge 72, 3, [8])] := rfl
theorem cb_X4_heldBy_2 : (blk md_X4_heldBy 2).2 = [(11, .aload_n 0, 1, []), (12, .getfield 7, 3, [4, 0]), (15, .iload_n 1, 1, []), (16, .iload 4, 2, []), (18, .invokestatic 41, 3, [1, 108, 2, 1]), (21, .iaload, 1, []), (22, .istore 5, 2, []), (24, .iload 5, 2, []), (26, .ifCond .ne 6, 3, [4])] := rfl
theorem cb_X4_heldBy_3 : (blk md_X4_heldBy 3).2 = [(29, .goto 45, 3, [7])] := rfl
theorem cb_X4_heldBy_4 : (blk md_X4_heldBy 4).2 = [(32, .lload_n 2, 1, []), (33, .lconst 1, 1, []), (34, .iload 5, 2, []), (36, .lshl, 1, []), (37, .lor, 1, []), (38, .lstore_n 2, 1, []), (39, .iconst 0, 1, []), (40, .istore 6, 2, [])] := rfl
theorem cb_X4_heldBy_5 : (blk md_X4_heldBy 5).2 = [(42, .iload 6, 2, []), (44, .iconst 4, 1, []), (45, .if_icmp .ge 29, 3, [7])] := rfl
theorem cb_X4_heldBy_6 : (blk md_X4_heldBy 6).2 = [(48, .lload_n 2, 1, []), (49, .lconst 1, 1, []), (50, .aload_n 0, 1, []), (51, .getfield 7, 3, [4, 0]), (54, .bipush 64, 2, []), (56, .iconst 4, 1, []), (57, .iload 5, 2, []), (59, .imul, 1, []), (60, .iadd, 1, []), (61, .iload 6, 2, []), (63, .iadd, 1, []), (64, .iaload, 1, []), (65, .lshl, 1, []), (66, .lor, 1, []), (67, .lstore_n 2, 1, []), (68, .iinc 6 1, 3, []), (71, .goto (-29), 3, [5])] := rfl
theorem cb_X4_heldBy_7 : (blk md_X4_heldBy 7).2 = [(74, .iinc 4 1, 3, []), (77, .goto (-72), 3, [1])] := rfl
theorem cb_X4_heldBy_8 : (blk md_X4_heldBy 8).2 = [(80, .lload_n 2, 1, []), (81, .ldc2_w 201, 3, [18446744073709551614]), (84, .land, 1, []), (85, .lreturn, 1, [])] := rfl
def md_X4_holds : List mB := [
  (false, [(0, .aload_n 0, 1, []), (1, .iload_n 1, 1, []), (2, .invokevirtual 203, 3, [0, 162, 2, 1]), (5, .iconst (-1), 1, []), (6, .if_icmp .ne 7, 3, [2])]),
  (false, [(9, .lconst 0, 1, []), (10, .goto 12, 3, [3])]),
  (false, [(13, .aload_n 0, 1, []), (14, .aload_n 0, 1, []), (15, .iload_n 1, 1, []), (16, .invokevirtual 203, 3, [0, 162, 2, 1]), (19, .invokevirtual 206, 3, [0, 163, 2, 2])]),
  (false, [(22, .lreturn, 1, [])])]
theorem cb_X4_holds_0 : (blk md_X4_holds 0).2 = [(0, .aload_n 0, 1, []), (1, .iload_n 1, 1, []), (2, .invokevirtual 203, 3, [0, 162, 2, 1]), (5, .iconst (-1), 1, []), (6, .if_icmp .ne 7, 3, [2])] := rfl
theorem cb_X4_holds_1 : (blk md_X4_holds 1).2 = [(9, .lconst 0, 1, []), (10, .goto 12, 3, [3])] := rfl
theorem cb_X4_holds_2 : (blk md_X4_holds 2).2 = [(13, .aload_n 0, 1, []), (14, .aload_n 0, 1, []), (15, .iload_n 1, 1, []), (16, .invokevirtual 203, 3, [0, 162, 2, 1]), (19, .invokevirtual 206, 3, [0, 163, 2, 2])] := rfl
theorem cb_X4_holds_3 : (blk md_X4_holds 3).2 = [(22, .lreturn, 1, [])] := rfl
def md_X4_alone : List mB := [
  (false, [(0, .aload_n 0, 1, []), (1, .iload_n 1, 1, []), (2, .invokevirtual 203, 3, [0, 162, 2, 1]), (5, .istore_n 2, 1, []), (6, .iload_n 2, 1, []), (7, .iconst (-1), 1, []), (8, .if_icmp .ne 5, 3, [2])]),
  (false, [(11, .lconst 0, 1, []), (12, .lreturn, 1, [])]),
  (false, [(13, .aload_n 0, 1, []), (14, .iload_n 2, 1, []), (15, .invokevirtual 206, 3, [0, 163, 2, 2]), (18, .lstore_n 3, 1, []), (19, .iconst 0, 1, []), (20, .istore 5, 2, [])]),
  (false, [(22, .iload 5, 2, []), (24, .bipush 14, 2, []), (26, .if_icmp .ge 37, 3, [8])]),
  (false, [(29, .iload 5, 2, []), (31, .iload_n 2, 1, []), (32, .if_icmp .eq 25, 3, [7])]),
  (false, [(35, .aload_n 0, 1, []), (36, .iload 5, 2, []), (38, .invokevirtual 69, 3, [0, 118, 2, 1]), (41, .ifCond .eq 16, 3, [7])]),
  (false, [(44, .lload_n 3, 1, []), (45, .aload_n 0, 1, []), (46, .iload 5, 2, []), (48, .invokevirtual 206, 3, [0, 163, 2, 2]), (51, .ldc2_w 210, 3, [18446744073709551615]), (54, .lxor, 1, []), (55, .land, 1, []), (56, .lstore_n 3, 1, [])]),
  (false, [(57, .iinc 5 1, 3, []), (60, .goto (-38), 3, [3])]),
  (false, [(63, .lload_n 3, 1, []), (64, .lreturn, 1, [])])]
theorem cb_X4_alone_0 : (blk md_X4_alone 0).2 = [(0, .aload_n 0, 1, []), (1, .iload_n 1, 1, []), (2, .invokevirtual 203, 3, [0, 162, 2, 1]), (5, .istore_n 2, 1, []), (6, .iload_n 2, 1, []), (7, .iconst (-1), 1, []), (8, .if_icmp .ne 5, 3, [2])] := rfl
theorem cb_X4_alone_1 : (blk md_X4_alone 1).2 = [(11, .lconst 0, 1, []), (12, .lreturn, 1, [])] := rfl
theorem cb_X4_alone_2 : (blk md_X4_alone 2).2 = [(13, .aload_n 0, 1, []), (14, .iload_n 2, 1, []), (15, .invokevirtual 206, 3, [0, 163, 2, 2]), (18, .lstore_n 3, 1, []), (19, .iconst 0, 1, []), (20, .istore 5, 2, [])] := rfl
theorem cb_X4_alone_3 : (blk md_X4_alone 3).2 = [(22, .iload 5, 2, []), (24, .bipush 14, 2, []), (26, .if_icmp .ge 37, 3, [8])] := rfl
theorem cb_X4_alone_4 : (blk md_X4_alone 4).2 = [(29, .iload 5, 2, []), (31, .iload_n 2, 1, []), (32, .if_icmp .eq 25, 3, [7])] := rfl
theorem cb_X4_alone_5 : (blk md_X4_alone 5).2 = [(35, .aload_n 0, 1, []), (36, .iload 5, 2, []), (38, .invokevirtual 69, 3, [0, 118, 2, 1]), (41, .ifCond .eq 16, 3, [7])] := rfl
theorem cb_X4_alone_6 : (blk md_X4_alone 6).2 = [(44, .lload_n 3, 1, []), (45, .aload_n 0, 1, []), (46, .iload 5, 2, []), (48, .invokevirtual 206, 3, [0, 163, 2, 2]), (51, .ldc2_w 210, 3, [18446744073709551615]), (54, .lxor, 1, []), (55, .land, 1, []), (56, .lstore_n 3, 1, [])] := rfl
theorem cb_X4_alone_7 : (blk md_X4_alone 7).2 = [(57, .iinc 5 1, 3, []), (60, .goto (-38), 3, [3])] := rfl
theorem cb_X4_alone_8 : (blk md_X4_alone 8).2 = [(63, .lload_n 3, 1, []), (64, .lreturn, 1, [])] := rfl
def md_X4_holders : List mB := [
  (false, [(0, .iload_n 1, 1, []), (1, .invokestatic 198, 3, [1, 107, 1, 1]), (4, .ifCond .ne 11, 3, [2])]),
  (false, [(7, .aload_n 0, 1, []), (8, .sipush (-1001), 3, []), (11, .invokevirtual 56, 3, [0, 101, 2, 1]), (14, .ireturn, 1, [])]),
  (false, [(15, .iconst 0, 1, []), (16, .istore_n 2, 1, []), (17, .iconst 0, 1, []), (18, .istore_n 3, 1, [])]),
  (false, [(19, .iload_n 3, 1, []), (20, .bipush 14, 2, []), (22, .if_icmp .ge 53, 3, [11])]),
  (false, [(25, .aload_n 0, 1, []), (26, .iload_n 3, 1, []), (27, .invokevirtual 69, 3, [0, 118, 2, 1]), (30, .ifCond .eq 39, 3, [10])]),
  (false, [(33, .aload_n 0, 1, []), (34, .iload_n 3, 1, []), (35, .invokevirtual 206, 3, [0, 163, 2, 2]), (38, .iload_n 1, 1, []), (39, .lushr, 1, []), (40, .lconst 1, 1, []), (41, .land, 1, []), (42, .lconst 1, 1, []), (43, .lcmp, 1, []), (44, .ifCond .ne 25, 3, [10])]),
  (false, [(47, .iload_n 2, 1, []), (48, .iconst 1, 1, []), (49, .iload_n 3, 1, []), (50, .bipush 6, 2, []), (52, .if_icmp .ge 7, 3, [8])]),
  (false, [(55, .iload_n 3, 1, []), (56, .goto 10, 3, [9])]),
  (false, [(59, .iload_n 3, 1, []), (60, .bipush 6, 2, []), (62, .isub, 1, []), (63, .bipush 10, 2, []), (65, .iadd, 1, [])]),
  (false, [(66, .ishl, 1, []), (67, .ior, 1, []), (68, .istore_n 2, 1, [])]),
  (false, [(69, .iinc 3 1, 3, []), (72, .goto (-53), 3, [3])]),
  (false, [(75, .iload_n 2, 1, []), (76, .ireturn, 1, [])])]
theorem cb_X4_holders_0 : (blk md_X4_holders 0).2 = [(0, .iload_n 1, 1, []), (1, .invokestatic 198, 3, [1, 107, 1, 1]), (4, .ifCond .ne 11, 3, [2])] := rfl
theorem cb_X4_holders_1 : (blk md_X4_holders 1).2 = [(7, .aload_n 0, 1, []), (8, .sipush (-1001), 3, []), (11, .invokevirtual 56, 3, [0, 101, 2, 1]), (14, .ireturn, 1, [])] := rfl
theorem cb_X4_holders_2 : (blk md_X4_holders 2).2 = [(15, .iconst 0, 1, []), (16, .istore_n 2, 1, []), (17, .iconst 0, 1, []), (18, .istore_n 3, 1, [])] := rfl
theorem cb_X4_holders_3 : (blk md_X4_holders 3).2 = [(19, .iload_n 3, 1, []), (20, .bipush 14, 2, []), (22, .if_icmp .ge 53, 3, [11])] := rfl
theorem cb_X4_holders_4 : (blk md_X4_holders 4).2 = [(25, .aload_n 0, 1, []), (26, .iload_n 3, 1, []), (27, .invokevirtual 69, 3, [0, 118, 2, 1]), (30, .ifCond .eq 39, 3, [10])] := rfl
theorem cb_X4_holders_5 : (blk md_X4_holders 5).2 = [(33, .aload_n 0, 1, []), (34, .iload_n 3, 1, []), (35, .invokevirtual 206, 3, [0, 163, 2, 2]), (38, .iload_n 1, 1, []), (39, .lushr, 1, []), (40, .lconst 1, 1, []), (41, .land, 1, []), (42, .lconst 1, 1, []), (43, .lcmp, 1, []), (44, .ifCond .ne 25, 3, [10])] := rfl
theorem cb_X4_holders_6 : (blk md_X4_holders 6).2 = [(47, .iload_n 2, 1, []), (48, .iconst 1, 1, []), (49, .iload_n 3, 1, []), (50, .bipush 6, 2, []), (52, .if_icmp .ge 7, 3, [8])] := rfl
theorem cb_X4_holders_7 : (blk md_X4_holders 7).2 = [(55, .iload_n 3, 1, []), (56, .goto 10, 3, [9])] := rfl
theorem cb_X4_holders_8 : (blk md_X4_holders 8).2 = [(59, .iload_n 3, 1, []), (60, .bipush 6, 2, []), (62, .isub, 1, []), (63, .bipush 10, 2, []), (65, .iadd, 1, [])] := rfl
theorem cb_X4_holders_9 : (blk md_X4_holders 9).2 = [(66, .ishl, 1, []), (67, .ior, 1, []), (68, .istore_n 2, 1, [])] := rfl
theorem cb_X4_holders_10 : (blk md_X4_holders 10).2 = [(69, .iinc 3 1, 3, []), (72, .goto (-53), 3, [3])] := rfl
theorem cb_X4_holders_11 : (blk md_X4_holders 11).2 = [(75, .iload_n 2, 1, []), (76, .ireturn, 1, [])] := rfl
def md_X4_free : List mB := [
  (false, [(0, .iconst 0, 1, []), (1, .istore_n 1, 1, []), (2, .iconst 1, 1, []), (3, .istore_n 2, 1, [])]),
  (false, [(4, .iload_n 2, 1, []), (5, .bipush 64, 2, []), (7, .if_icmp .ge 28, 3, [6])]),
  (false, [(10, .iload_n 1, 1, []), (11, .aload_n 0, 1, []), (12, .getfield 7, 3, [4, 0]), (15, .iconst 0, 1, []), (16, .iload_n 2, 1, []), (17, .iadd, 1, []), (18, .iaload, 1, []), (19, .ifCond .ne 7, 3, [4])]),
  (false, [(22, .iconst 1, 1, []), (23, .goto 4, 3, [5])]),
  (false, [(26, .iconst 0, 1, [])]),
  (false, [(27, .iadd, 1, []), (28, .istore_n 1, 1, []), (29, .iinc 2 1, 3, []), (32, .goto (-28), 3, [1])]),
  (false, [(35, .iload_n 1, 1, []), (36, .ireturn, 1, [])])]
theorem cb_X4_free_0 : (blk md_X4_free 0).2 = [(0, .iconst 0, 1, []), (1, .istore_n 1, 1, []), (2, .iconst 1, 1, []), (3, .istore_n 2, 1, [])] := rfl
theorem cb_X4_free_1 : (blk md_X4_free 1).2 = [(4, .iload_n 2, 1, []), (5, .bipush 64, 2, []), (7, .if_icmp .ge 28, 3, [6])] := rfl
theorem cb_X4_free_2 : (blk md_X4_free 2).2 = [(10, .iload_n 1, 1, []), (11, .aload_n 0, 1, []), (12, .getfield 7, 3, [4, 0]), (15, .iconst 0, 1, []), (16, .iload_n 2, 1, []), (17, .iadd, 1, []), (18, .iaload, 1, []), (19, .ifCond .ne 7, 3, [4])] := rfl
theorem cb_X4_free_3 : (blk md_X4_free 3).2 = [(22, .iconst 1, 1, []), (23, .goto 4, 3, [5])] := rfl
theorem cb_X4_free_4 : (blk md_X4_free 4).2 = [(26, .iconst 0, 1, [])] := rfl
theorem cb_X4_free_5 : (blk md_X4_free 5).2 = [(27, .iadd, 1, []), (28, .istore_n 1, 1, []), (29, .iinc 2 1, 3, []), (32, .goto (-28), 3, [1])] := rfl
theorem cb_X4_free_6 : (blk md_X4_free 6).2 = [(35, .iload_n 1, 1, []), (36, .ireturn, 1, [])] := rfl
def md_X4_best : List mB := [
  (false, [(0, .iload_n 1, 1, []), (1, .iconst 0, 1, []), (2, .iconst 1, 1, []), (3, .invokestatic 37, 3, [1, 100, 3, 1]), (6, .ifCond .ne 11, 3, [2])]),
  (false, [(9, .aload_n 0, 1, []), (10, .sipush (-1001), 3, []), (13, .invokevirtual 56, 3, [0, 101, 2, 1]), (16, .ireturn, 1, [])]),
  (false, [(17, .aload_n 0, 1, []), (18, .invokevirtual 185, 3, [0, 121, 1, 1]), (21, .ifCond .eq 5, 3, [4])]),
  (false, [(24, .iconst (-1), 1, []), (25, .ireturn, 1, [])]),
  (false, [(26, .iconst (-1), 1, []), (27, .istore_n 2, 1, []), (28, .iconst (-1), 1, []), (29, .istore_n 3, 1, []), (30, .iconst 0, 1, []), (31, .istore 4, 2, [])]),
  (false, [(33, .iload 4, 2, []), (35, .bipush 8, 2, []), (37, .if_icmp .ge 94, 3, [16])]),
  (false, [(40, .aload_n 0, 1, []), (41, .iload 4, 2, []), (43, .invokevirtual 66, 3, [0, 104, 2, 1]), (46, .ifCond .ne 6, 3, [8])]),
  (false, [(49, .goto 76, 3, [15])]),
  (false, [(52, .aload_n 0, 1, []), (53, .invokevirtual 212, 3, [0, 167, 1, 1]), (56, .istore 5, 2, []), (58, .aload_n 0, 1, []), (59, .getfield 7, 3, [4, 0]), (62, .aload_n 0, 1, []), (63, .getfield 13, 3, [4, 1]), (66, .invokestatic 168, 3, [1, 102, 2, 0]), (69, .aload_n 0, 1, []), (70, .iconst 2, 1, []), (71, .iload 4, 2, []), (73, .iconst 0, 1, []), (74, .iconst 0, 1, []), (75, .iconst (-1), 1, []), (76, .invokevirtual 172, 3, [0, 145, 6, 0]), (79, .aload_n 0, 1, []), (80, .invokevirtual 212, 3, [0, 167, 1, 1]), (83, .iload 5, 2, []), (85, .isub, 1, []), (86, .istore 6, 2, []), (88, .aload_n 0, 1, []), (89, .getfield 13, 3, [4, 1]), (92, .aload_n 0, 1, []), (93, .getfield 7, 3, [4, 0]), (96, .invokestatic 168, 3, [1, 102, 2, 0]), (99, .iload 6, 2, []), (101, .iload_n 3, 1, []), (102, .if_icmp .le 8, 3, [10])]),
  (false, [(105, .iload 4, 2, []), (107, .goto 4, 3, [11])]),
  (false, [(110, .iload_n 2, 1, [])]),
  (false, [(111, .istore_n 2, 1, []), (112, .iload 6, 2, []), (114, .iload_n 3, 1, []), (115, .if_icmp .le 8, 3, [13])]),
  (false, [(118, .iload 6, 2, []), (120, .goto 4, 3, [14])]),
  (false, [(123, .iload_n 3, 1, [])]),
  (false, [(124, .istore_n 3, 1, [])]),
  (false, [(125, .iinc 4 1, 3, []), (128, .goto (-95), 3, [5])]),
  (false, [(131, .iload_n 1, 1, []), (132, .ifCond .ne 7, 3, [18])]),
  (false, [(135, .iload_n 2, 1, []), (136, .goto 4, 3, [19])]),
  (false, [(139, .iload_n 3, 1, [])]),
  (false, [(140, .ireturn, 1, [])])]
theorem cb_X4_best_0 : (blk md_X4_best 0).2 = [(0, .iload_n 1, 1, []), (1, .iconst 0, 1, []), (2, .iconst 1, 1, []), (3, .invokestatic 37, 3, [1, 100, 3, 1]), (6, .ifCond .ne 11, 3, [2])] := rfl
theorem cb_X4_best_1 : (blk md_X4_best 1).2 = [(9, .aload_n 0, 1, []), (10, .sipush (-1001), 3, []), (13, .invokevirtual 56, 3, [0, 101, 2, 1]), (16, .ireturn, 1, [])] := rfl
theorem cb_X4_best_2 : (blk md_X4_best 2).2 = [(17, .aload_n 0, 1, []), (18, .invokevirtual 185, 3, [0, 121, 1, 1]), (21, .ifCond .eq 5, 3, [4])] := rfl
theorem cb_X4_best_3 : (blk md_X4_best 3).2 = [(24, .iconst (-1), 1, []), (25, .ireturn, 1, [])] := rfl
theorem cb_X4_best_4 : (blk md_X4_best 4).2 = [(26, .iconst (-1), 1, []), (27, .istore_n 2, 1, []), (28, .iconst (-1), 1, []), (29, .istore_n 3, 1, []), (30, .iconst 0, 1, []), (31, .istore 4, 2, [])] := rfl
theorem cb_X4_best_5 : (blk md_X4_best 5).2 = [(33, .iload 4, 2, []), (35, .bipush 8, 2, []), (37, .if_icmp .ge 94, 3, [16])] := rfl
theorem cb_X4_best_6 : (blk md_X4_best 6).2 = [(40, .aload_n 0, 1, []), (41, .iload 4, 2, []), (43, .invokevirtual 66, 3, [0, 104, 2, 1]), (46, .ifCond .ne 6, 3, [8])] := rfl
theorem cb_X4_best_7 : (blk md_X4_best 7).2 = [(49, .goto 76, 3, [15])] := rfl
theorem cb_X4_best_8 : (blk md_X4_best 8).2 = [(52, .aload_n 0, 1, []), (53, .invokevirtual 212, 3, [0, 167, 1, 1]), (56, .istore 5, 2, []), (58, .aload_n 0, 1, []), (59, .getfield 7, 3, [4, 0]), (62, .aload_n 0, 1, []), (63, .getfield 13, 3, [4, 1]), (66, .invokestatic 168, 3, [1, 102, 2, 0]), (69, .aload_n 0, 1, []), (70, .iconst 2, 1, []), (71, .iload 4, 2, []), (73, .iconst 0, 1, []), (74, .iconst 0, 1, []), (75, .iconst (-1), 1, []), (76, .invokevirtual 172, 3, [0, 145, 6, 0]), (79, .aload_n 0, 1, []), (80, .invokevirtual 212, 3, [0, 167, 1, 1]), (83, .iload 5, 2, []), (85, .isub, 1, []), (86, .istore 6, 2, []), (88, .aload_n 0, 1, []), (89, .getfield 13, 3, [4, 1]), (92, .aload_n 0, 1, []), (93, .getfield 7, 3, [4, 0]), (96, .invokestatic 168, 3, [1, 102, 2, 0]), (99, .iload 6, 2, []), (101, .iload_n 3, 1, []), (102, .if_icmp .le 8, 3, [10])] := rfl
theorem cb_X4_best_9 : (blk md_X4_best 9).2 = [(105, .iload 4, 2, []), (107, .goto 4, 3, [11])] := rfl
theorem cb_X4_best_10 : (blk md_X4_best 10).2 = [(110, .iload_n 2, 1, [])] := rfl
theorem cb_X4_best_11 : (blk md_X4_best 11).2 = [(111, .istore_n 2, 1, []), (112, .iload 6, 2, []), (114, .iload_n 3, 1, []), (115, .if_icmp .le 8, 3, [13])] := rfl
theorem cb_X4_best_12 : (blk md_X4_best 12).2 = [(118, .iload 6, 2, []), (120, .goto 4, 3, [14])] := rfl
theorem cb_X4_best_13 : (blk md_X4_best 13).2 = [(123, .iload_n 3, 1, [])] := rfl
theorem cb_X4_best_14 : (blk md_X4_best 14).2 = [(124, .istore_n 3, 1, [])] := rfl
theorem cb_X4_best_15 : (blk md_X4_best 15).2 = [(125, .iinc 4 1, 3, []), (128, .goto (-95), 3, [5])] := rfl
theorem cb_X4_best_16 : (blk md_X4_best 16).2 = [(131, .iload_n 1, 1, []), (132, .ifCond .ne 7, 3, [18])] := rfl
theorem cb_X4_best_17 : (blk md_X4_best 17).2 = [(135, .iload_n 2, 1, []), (136, .goto 4, 3, [19])] := rfl
theorem cb_X4_best_18 : (blk md_X4_best 18).2 = [(139, .iload_n 3, 1, [])] := rfl
theorem cb_X4_best_19 : (blk md_X4_best 19).2 = [(140, .ireturn, 1, [])] := rfl
def md_X4_twins : List mB := [
  (false, [(0, .aload_n 0, 1, []), (1, .invokevirtual 75, 3, [0, 119, 1, 0]), (4, .iconst 0, 1, []), (5, .istore_n 1, 1, []), (6, .iconst 1, 1, []), (7, .istore_n 2, 1, [])]),
  (false, [(8, .iload_n 2, 1, []), (9, .bipush 64, 2, []), (11, .if_icmp .ge 60, 3, [11])]),
  (false, [(14, .iload_n 2, 1, []), (15, .iconst 1, 1, []), (16, .iadd, 1, []), (17, .istore_n 3, 1, [])]),
  (false, [(18, .iload_n 3, 1, []), (19, .bipush 64, 2, []), (21, .if_icmp .ge 44, 3, [10])]),
  (false, [(24, .iload_n 1, 1, []), (25, .aload_n 0, 1, []), (26, .getfield 25, 3, [4, 6]), (29, .iload_n 2, 1, []), (30, .iaload, 1, []), (31, .ifCond .le 25, 3, [8])]),
  (false, [(34, .aload_n 0, 1, []), (35, .getfield 25, 3, [4, 6]), (38, .iload_n 3, 1, []), (39, .iaload, 1, []), (40, .ifCond .le 16, 3, [8])]),
  (false, [(43, .aload_n 0, 1, []), (44, .iload_n 2, 1, []), (45, .iload_n 3, 1, []), (46, .invokevirtual 140, 3, [0, 142, 3, 1]), (49, .ifCond .eq 7, 3, [8])]),
  (false, [(52, .iconst 1, 1, []), (53, .goto 4, 3, [9])]),
  (false, [(56, .iconst 0, 1, [])]),
  (false, [(57, .iadd, 1, []), (58, .istore_n 1, 1, []), (59, .iinc 3 1, 3, []), (62, .goto (-44), 3, [3])]),
  (false, [(65, .iinc 2 1, 3, []), (68, .goto (-60), 3, [1])]),
  (false, [(71, .iload_n 1, 1, []), (72, .ireturn, 1, [])])]
theorem cb_X4_twins_0 : (blk md_X4_twins 0).2 = [(0, .aload_n 0, 1, []), (1, .invokevirtual 75, 3, [0, 119, 1, 0]), (4, .iconst 0, 1, []), (5, .istore_n 1, 1, []), (6, .iconst 1, 1, []), (7, .istore_n 2, 1, [])] := rfl
theorem cb_X4_twins_1 : (blk md_X4_twins 1).2 = [(8, .iload_n 2, 1, []), (9, .bipush 64, 2, []), (11, .if_icmp .ge 60, 3, [11])] := rfl
theorem cb_X4_twins_2 : (blk md_X4_twins 2).2 = [(14, .iload_n 2, 1, []), (15, .iconst 1, 1, []), (16, .iadd, 1, []), (17, .istore_n 3, 1, [])] := rfl
theorem cb_X4_twins_3 : (blk md_X4_twins 3).2 = [(18, .iload_n 3, 1, []), (19, .bipush 64, 2, []), (21, .if_icmp .ge 44, 3, [10])] := rfl
theorem cb_X4_twins_4 : (blk md_X4_twins 4).2 = [(24, .iload_n 1, 1, []), (25, .aload_n 0, 1, []), (26, .getfield 25, 3, [4, 6]), (29, .iload_n 2, 1, []), (30, .iaload, 1, []), (31, .ifCond .le 25, 3, [8])] := rfl
theorem cb_X4_twins_5 : (blk md_X4_twins 5).2 = [(34, .aload_n 0, 1, []), (35, .getfield 25, 3, [4, 6]), (38, .iload_n 3, 1, []), (39, .iaload, 1, []), (40, .ifCond .le 16, 3, [8])] := rfl
theorem cb_X4_twins_6 : (blk md_X4_twins 6).2 = [(43, .aload_n 0, 1, []), (44, .iload_n 2, 1, []), (45, .iload_n 3, 1, []), (46, .invokevirtual 140, 3, [0, 142, 3, 1]), (49, .ifCond .eq 7, 3, [8])] := rfl
theorem cb_X4_twins_7 : (blk md_X4_twins 7).2 = [(52, .iconst 1, 1, []), (53, .goto 4, 3, [9])] := rfl
theorem cb_X4_twins_8 : (blk md_X4_twins 8).2 = [(56, .iconst 0, 1, [])] := rfl
theorem cb_X4_twins_9 : (blk md_X4_twins 9).2 = [(57, .iadd, 1, []), (58, .istore_n 1, 1, []), (59, .iinc 3 1, 3, []), (62, .goto (-44), 3, [3])] := rfl
theorem cb_X4_twins_10 : (blk md_X4_twins 10).2 = [(65, .iinc 2 1, 3, []), (68, .goto (-60), 3, [1])] := rfl
theorem cb_X4_twins_11 : (blk md_X4_twins 11).2 = [(71, .iload_n 1, 1, []), (72, .ireturn, 1, [])] := rfl
def md_X4_wrong : List mB := [
  (false, [(0, .aload_n 0, 1, []), (1, .iload_n 1, 1, []), (2, .invokevirtual 52, 3, [0, 103, 2, 1]), (5, .ifCond .eq 14, 3, [3])]),
  (false, [(8, .iload_n 2, 1, []), (9, .invokestatic 60, 3, [1, 105, 1, 1]), (12, .ifCond .eq 7, 3, [3])]),
  (false, [(15, .iload_n 3, 1, []), (16, .ifCond .ne 7, 3, [4])]),
  (false, [(19, .sipush (-1001), 3, []), (22, .ireturn, 1, [])]),
  (false, [(23, .aload_n 0, 1, []), (24, .invokevirtual 185, 3, [0, 121, 1, 1]), (27, .ifCond .eq 9, 3, [6])]),
  (false, [(30, .sipush (-1003), 3, []), (33, .goto 21, 3, [9])]),
  (false, [(36, .aload_n 0, 1, []), (37, .iconst 0, 1, []), (38, .iload_n 1, 1, []), (39, .iload_n 2, 1, []), (40, .iconst 0, 1, []), (41, .invokevirtual 175, 3, [0, 146, 5, 1]), (44, .ifCond .eq 9, 3, [8])]),
  (false, [(47, .sipush (-1002), 3, []), (50, .goto 4, 3, [9])]),
  (false, [(53, .iconst 0, 1, [])]),
  (false, [(54, .ireturn, 1, [])])]
theorem cb_X4_wrong_0 : (blk md_X4_wrong 0).2 = [(0, .aload_n 0, 1, []), (1, .iload_n 1, 1, []), (2, .invokevirtual 52, 3, [0, 103, 2, 1]), (5, .ifCond .eq 14, 3, [3])] := rfl
theorem cb_X4_wrong_1 : (blk md_X4_wrong 1).2 = [(8, .iload_n 2, 1, []), (9, .invokestatic 60, 3, [1, 105, 1, 1]), (12, .ifCond .eq 7, 3, [3])] := rfl
theorem cb_X4_wrong_2 : (blk md_X4_wrong 2).2 = [(15, .iload_n 3, 1, []), (16, .ifCond .ne 7, 3, [4])] := rfl
theorem cb_X4_wrong_3 : (blk md_X4_wrong 3).2 = [(19, .sipush (-1001), 3, []), (22, .ireturn, 1, [])] := rfl
theorem cb_X4_wrong_4 : (blk md_X4_wrong 4).2 = [(23, .aload_n 0, 1, []), (24, .invokevirtual 185, 3, [0, 121, 1, 1]), (27, .ifCond .eq 9, 3, [6])] := rfl
theorem cb_X4_wrong_5 : (blk md_X4_wrong 5).2 = [(30, .sipush (-1003), 3, []), (33, .goto 21, 3, [9])] := rfl
theorem cb_X4_wrong_6 : (blk md_X4_wrong 6).2 = [(36, .aload_n 0, 1, []), (37, .iconst 0, 1, []), (38, .iload_n 1, 1, []), (39, .iload_n 2, 1, []), (40, .iconst 0, 1, []), (41, .invokevirtual 175, 3, [0, 146, 5, 1]), (44, .ifCond .eq 9, 3, [8])] := rfl
theorem cb_X4_wrong_7 : (blk md_X4_wrong 7).2 = [(47, .sipush (-1002), 3, []), (50, .goto 4, 3, [9])] := rfl
theorem cb_X4_wrong_8 : (blk md_X4_wrong 8).2 = [(53, .iconst 0, 1, [])] := rfl
theorem cb_X4_wrong_9 : (blk md_X4_wrong 9).2 = [(54, .ireturn, 1, [])] := rfl
def md_X4_cost : List mB := [
  (false, [(0, .aload_n 0, 1, []), (1, .iload_n 1, 1, []), (2, .iload_n 2, 1, []), (3, .iconst 1, 1, []), (4, .invokevirtual 215, 3, [0, 170, 4, 1]), (7, .istore_n 3, 1, []), (8, .iload_n 3, 1, []), (9, .ifCond .eq 11, 3, [2])]),
  (false, [(12, .aload_n 0, 1, []), (13, .iload_n 3, 1, []), (14, .invokevirtual 56, 3, [0, 101, 2, 1]), (17, .goto 7, 3, [3])]),
  (false, [(20, .aload_n 0, 1, []), (21, .getfield 85, 3, [4, 7])]),
  (false, [(24, .ireturn, 1, [])])]
theorem cb_X4_cost_0 : (blk md_X4_cost 0).2 = [(0, .aload_n 0, 1, []), (1, .iload_n 1, 1, []), (2, .iload_n 2, 1, []), (3, .iconst 1, 1, []), (4, .invokevirtual 215, 3, [0, 170, 4, 1]), (7, .istore_n 3, 1, []), (8, .iload_n 3, 1, []), (9, .ifCond .eq 11, 3, [2])] := rfl
theorem cb_X4_cost_1 : (blk md_X4_cost 1).2 = [(12, .aload_n 0, 1, []), (13, .iload_n 3, 1, []), (14, .invokevirtual 56, 3, [0, 101, 2, 1]), (17, .goto 7, 3, [3])] := rfl
theorem cb_X4_cost_2 : (blk md_X4_cost 2).2 = [(20, .aload_n 0, 1, []), (21, .getfield 85, 3, [4, 7])] := rfl
theorem cb_X4_cost_3 : (blk md_X4_cost 3).2 = [(24, .ireturn, 1, [])] := rfl
def md_X4_thought : List mB := [
  (false, [(0, .aload_n 0, 1, []), (1, .getfield 7, 3, [4, 0]), (4, .aload_n 0, 1, []), (5, .getfield 13, 3, [4, 1]), (8, .invokestatic 168, 3, [1, 102, 2, 0]), (11, .aload_n 0, 1, []), (12, .iconst 0, 1, []), (13, .iload_n 1, 1, []), (14, .iload_n 2, 1, []), (15, .iload_n 3, 1, []), (16, .iload 4, 2, []), (18, .invokevirtual 172, 3, [0, 145, 6, 0]), (21, .aload_n 0, 1, []), (22, .iload_n 1, 1, []), (23, .iload_n 2, 1, []), (24, .invokevirtual 63, 3, [0, 111, 3, 1]), (27, .istore 6, 2, []), (29, .aload_n 0, 1, []), (30, .invokevirtual 75, 3, [0, 119, 1, 0]), (33, .iconst 0, 1, []), (34, .istore 7, 2, []), (36, .iconst 1, 1, []), (37, .istore 8, 2, [])]),
  (false, [(39, .iload 8, 2, []), (41, .bipush 64, 2, []), (43, .if_icmp .ge 38, 3, [6])]),
  (false, [(46, .iload 7, 2, []), (48, .aload_n 0, 1, []), (49, .getfield 7, 3, [4, 0]), (52, .iconst 0, 1, []), (53, .iload 8, 2, []), (55, .iadd, 1, []), (56, .iaload, 1, []), (57, .aload_n 0, 1, []), (58, .getfield 22, 3, [4, 5]), (61, .iload 8, 2, []), (63, .iaload, 1, []), (64, .if_icmp .le 7, 3, [4])]),
  (false, [(67, .iconst 1, 1, []), (68, .goto 4, 3, [5])]),
  (false, [(71, .iconst 0, 1, [])]),
  (false, [(72, .iadd, 1, []), (73, .istore 7, 2, []), (75, .iinc 8 1, 3, []), (78, .goto (-39), 3, [1])]),
  (false, [(81, .aload_n 0, 1, []), (82, .getfield 13, 3, [4, 1]), (85, .aload_n 0, 1, []), (86, .getfield 7, 3, [4, 0]), (89, .invokestatic 168, 3, [1, 102, 2, 0]), (92, .iload 5, 2, []), (94, .ifCond .ne 8, 3, [8])]),
  (false, [(97, .iload 6, 2, []), (99, .goto 5, 3, [9])]),
  (false, [(102, .iload 7, 2, [])]),
  (false, [(104, .ireturn, 1, [])])]
theorem cb_X4_thought_0 : (blk md_X4_thought 0).2 = [(0, .aload_n 0, 1, []), (1, .getfield 7, 3, [4, 0]), (4, .aload_n 0, 1, []), (5, .getfield 13, 3, [4, 1]), (8, .invokestatic 168, 3, [1, 102, 2, 0]), (11, .aload_n 0, 1, []), (12, .iconst 0, 1, []), (13, .iload_n 1, 1, []), (14, .iload_n 2, 1, []), (15, .iload_n 3, 1, []), (16, .iload 4, 2, []), (18, .invokevirtual 172, 3, [0, 145, 6, 0]), (21, .aload_n 0, 1, []), (22, .iload_n 1, 1, []), (23, .iload_n 2, 1, []), (24, .invokevirtual 63, 3, [0, 111, 3, 1]), (27, .istore 6, 2, []), (29, .aload_n 0, 1, []), (30, .invokevirtual 75, 3, [0, 119, 1, 0]), (33, .iconst 0, 1, []), (34, .istore 7, 2, []), (36, .iconst 1, 1, []), (37, .istore 8, 2, [])] := rfl
theorem cb_X4_thought_1 : (blk md_X4_thought 1).2 = [(39, .iload 8, 2, []), (41, .bipush 64, 2, []), (43, .if_icmp .ge 38, 3, [6])] := rfl
theorem cb_X4_thought_2 : (blk md_X4_thought 2).2 = [(46, .iload 7, 2, []), (48, .aload_n 0, 1, []), (49, .getfield 7, 3, [4, 0]), (52, .iconst 0, 1, []), (53, .iload 8, 2, []), (55, .iadd, 1, []), (56, .iaload, 1, []), (57, .aload_n 0, 1, []), (58, .getfield 22, 3, [4, 5]), (61, .iload 8, 2, []), (63, .iaload, 1, []), (64, .if_icmp .le 7, 3, [4])] := rfl
theorem cb_X4_thought_3 : (blk md_X4_thought 3).2 = [(67, .iconst 1, 1, []), (68, .goto 4, 3, [5])] := rfl
theorem cb_X4_thought_4 : (blk md_X4_thought 4).2 = [(71, .iconst 0, 1, [])] := rfl
theorem cb_X4_thought_5 : (blk md_X4_thought 5).2 = [(72, .iadd, 1, []), (73, .istore 7, 2, []), (75, .iinc 8 1, 3, []), (78, .goto (-39), 3, [1])] := rfl
theorem cb_X4_thought_6 : (blk md_X4_thought 6).2 = [(81, .aload_n 0, 1, []), (82, .getfield 13, 3, [4, 1]), (85, .aload_n 0, 1, []), (86, .getfield 7, 3, [4, 0]), (89, .invokestatic 168, 3, [1, 102, 2, 0]), (92, .iload 5, 2, []), (94, .ifCond .ne 8, 3, [8])] := rfl
theorem cb_X4_thought_7 : (blk md_X4_thought 7).2 = [(97, .iload 6, 2, []), (99, .goto 5, 3, [9])] := rfl
theorem cb_X4_thought_8 : (blk md_X4_thought 8).2 = [(102, .iload 7, 2, [])] := rfl
theorem cb_X4_thought_9 : (blk md_X4_thought 9).2 = [(104, .ireturn, 1, [])] := rfl
def md_X4_torn : List mB := [
  (false, [(0, .aload_n 0, 1, []), (1, .iload_n 1, 1, []), (2, .iload_n 2, 1, []), (3, .iload_n 3, 1, []), (4, .invokestatic 182, 3, [1, 148, 1, 1]), (7, .ifCond .eq 18, 3, [3])]),
  (false, [(10, .iload 4, 2, []), (12, .iconst 0, 1, []), (13, .bipush 99, 2, []), (15, .invokestatic 37, 3, [1, 100, 3, 1]), (18, .ifCond .eq 7, 3, [3])]),
  (false, [(21, .iconst 1, 1, []), (22, .goto 4, 3, [4])]),
  (false, [(25, .iconst 0, 1, [])]),
  (false, [(26, .invokevirtual 215, 3, [0, 170, 4, 1]), (29, .istore 5, 2, []), (31, .iload 5, 2, []), (33, .ifCond .eq 12, 3, [6])]),
  (false, [(36, .aload_n 0, 1, []), (37, .iload 5, 2, []), (39, .invokevirtual 56, 3, [0, 101, 2, 1]), (42, .goto 13, 3, [7])]),
  (false, [(45, .aload_n 0, 1, []), (46, .iload_n 1, 1, []), (47, .iload_n 2, 1, []), (48, .iload_n 3, 1, []), (49, .iload 4, 2, []), (51, .iconst 0, 1, []), (52, .invokevirtual 219, 3, [0, 172, 6, 1])]),
  (false, [(55, .ireturn, 1, [])])]
theorem cb_X4_torn_0 : (blk md_X4_torn 0).2 = [(0, .aload_n 0, 1, []), (1, .iload_n 1, 1, []), (2, .iload_n 2, 1, []), (3, .iload_n 3, 1, []), (4, .invokestatic 182, 3, [1, 148, 1, 1]), (7, .ifCond .eq 18, 3, [3])] := rfl
theorem cb_X4_torn_1 : (blk md_X4_torn 1).2 = [(10, .iload 4, 2, []), (12, .iconst 0, 1, []), (13, .bipush 99, 2, []), (15, .invokestatic 37, 3, [1, 100, 3, 1]), (18, .ifCond .eq 7, 3, [3])] := rfl
theorem cb_X4_torn_2 : (blk md_X4_torn 2).2 = [(21, .iconst 1, 1, []), (22, .goto 4, 3, [4])] := rfl
theorem cb_X4_torn_3 : (blk md_X4_torn 3).2 = [(25, .iconst 0, 1, [])] := rfl
theorem cb_X4_torn_4 : (blk md_X4_torn 4).2 = [(26, .invokevirtual 215, 3, [0, 170, 4, 1]), (29, .istore 5, 2, []), (31, .iload 5, 2, []), (33, .ifCond .eq 12, 3, [6])] := rfl
theorem cb_X4_torn_5 : (blk md_X4_torn 5).2 = [(36, .aload_n 0, 1, []), (37, .iload 5, 2, []), (39, .invokevirtual 56, 3, [0, 101, 2, 1]), (42, .goto 13, 3, [7])] := rfl
theorem cb_X4_torn_6 : (blk md_X4_torn 6).2 = [(45, .aload_n 0, 1, []), (46, .iload_n 1, 1, []), (47, .iload_n 2, 1, []), (48, .iload_n 3, 1, []), (49, .iload 4, 2, []), (51, .iconst 0, 1, []), (52, .invokevirtual 219, 3, [0, 172, 6, 1])] := rfl
theorem cb_X4_torn_7 : (blk md_X4_torn 7).2 = [(55, .ireturn, 1, [])] := rfl
def md_X4_leaks : List mB := [
  (false, [(0, .aload_n 0, 1, []), (1, .iload_n 1, 1, []), (2, .iload_n 2, 1, []), (3, .iload_n 3, 1, []), (4, .iconst 0, 1, []), (5, .bipush 99, 2, []), (7, .invokestatic 37, 3, [1, 100, 3, 1]), (10, .invokevirtual 215, 3, [0, 170, 4, 1]), (13, .istore 4, 2, []), (15, .iload 4, 2, []), (17, .ifCond .eq 12, 3, [2])]),
  (false, [(20, .aload_n 0, 1, []), (21, .iload 4, 2, []), (23, .invokevirtual 56, 3, [0, 101, 2, 1]), (26, .goto 12, 3, [3])]),
  (false, [(29, .aload_n 0, 1, []), (30, .iload_n 1, 1, []), (31, .iload_n 2, 1, []), (32, .iconst 0, 1, []), (33, .iload_n 3, 1, []), (34, .iconst 1, 1, []), (35, .invokevirtual 219, 3, [0, 172, 6, 1])]),
  (false, [(38, .ireturn, 1, [])])]
theorem cb_X4_leaks_0 : (blk md_X4_leaks 0).2 = [(0, .aload_n 0, 1, []), (1, .iload_n 1, 1, []), (2, .iload_n 2, 1, []), (3, .iload_n 3, 1, []), (4, .iconst 0, 1, []), (5, .bipush 99, 2, []), (7, .invokestatic 37, 3, [1, 100, 3, 1]), (10, .invokevirtual 215, 3, [0, 170, 4, 1]), (13, .istore 4, 2, []), (15, .iload 4, 2, []), (17, .ifCond .eq 12, 3, [2])] := rfl
theorem cb_X4_leaks_1 : (blk md_X4_leaks 1).2 = [(20, .aload_n 0, 1, []), (21, .iload 4, 2, []), (23, .invokevirtual 56, 3, [0, 101, 2, 1]), (26, .goto 12, 3, [3])] := rfl
theorem cb_X4_leaks_2 : (blk md_X4_leaks 2).2 = [(29, .aload_n 0, 1, []), (30, .iload_n 1, 1, []), (31, .iload_n 2, 1, []), (32, .iconst 0, 1, []), (33, .iload_n 3, 1, []), (34, .iconst 1, 1, []), (35, .invokevirtual 219, 3, [0, 172, 6, 1])] := rfl
theorem cb_X4_leaks_3 : (blk md_X4_leaks 3).2 = [(38, .ireturn, 1, [])] := rfl
def md_X4_behind : List mB := [
  (false, [(0, .aload_n 0, 1, []), (1, .iload_n 1, 1, []), (2, .iload_n 2, 1, []), (3, .iload_n 3, 1, []), (4, .invokestatic 182, 3, [1, 148, 1, 1]), (7, .invokevirtual 215, 3, [0, 170, 4, 1]), (10, .istore 4, 2, []), (12, .iload 4, 2, []), (14, .ifCond .eq 10, 3, [2])]),
  (false, [(17, .aload_n 0, 1, []), (18, .iload 4, 2, []), (20, .invokevirtual 56, 3, [0, 101, 2, 1]), (23, .ireturn, 1, [])]),
  (false, [(24, .aload_n 0, 1, []), (25, .iload_n 1, 1, []), (26, .iload_n 2, 1, []), (27, .invokevirtual 63, 3, [0, 111, 3, 1]), (30, .iload_n 3, 1, []), (31, .if_icmp .ne 5, 3, [4])]),
  (false, [(34, .iconst (-1), 1, []), (35, .ireturn, 1, [])]),
  (false, [(36, .iconst 0, 1, []), (37, .istore 5, 2, [])]),
  (false, [(39, .aload_n 0, 1, []), (40, .iload_n 1, 1, []), (41, .iload_n 2, 1, []), (42, .iload_n 3, 1, []), (43, .iload 5, 2, []), (45, .iconst 0, 1, []), (46, .invokevirtual 219, 3, [0, 172, 6, 1]), (49, .iload_n 3, 1, []), (50, .if_icmp .eq 9, 3, [7])]),
  (false, [(53, .iinc 5 1, 3, []), (56, .goto (-17), 3, [5])]),
  (false, [(59, .iload 5, 2, []), (61, .ireturn, 1, [])])]
theorem cb_X4_behind_0 : (blk md_X4_behind 0).2 = [(0, .aload_n 0, 1, []), (1, .iload_n 1, 1, []), (2, .iload_n 2, 1, []), (3, .iload_n 3, 1, []), (4, .invokestatic 182, 3, [1, 148, 1, 1]), (7, .invokevirtual 215, 3, [0, 170, 4, 1]), (10, .istore 4, 2, []), (12, .iload 4, 2, []), (14, .ifCond .eq 10, 3, [2])] := rfl
theorem cb_X4_behind_1 : (blk md_X4_behind 1).2 = [(17, .aload_n 0, 1, []), (18, .iload 4, 2, []), (20, .invokevirtual 56, 3, [0, 101, 2, 1]), (23, .ireturn, 1, [])] := rfl
theorem cb_X4_behind_2 : (blk md_X4_behind 2).2 = [(24, .aload_n 0, 1, []), (25, .iload_n 1, 1, []), (26, .iload_n 2, 1, []), (27, .invokevirtual 63, 3, [0, 111, 3, 1]), (30, .iload_n 3, 1, []), (31, .if_icmp .ne 5, 3, [4])] := rfl
theorem cb_X4_behind_3 : (blk md_X4_behind 3).2 = [(34, .iconst (-1), 1, []), (35, .ireturn, 1, [])] := rfl
theorem cb_X4_behind_4 : (blk md_X4_behind 4).2 = [(36, .iconst 0, 1, []), (37, .istore 5, 2, [])] := rfl
theorem cb_X4_behind_5 : (blk md_X4_behind 5).2 = [(39, .aload_n 0, 1, []), (40, .iload_n 1, 1, []), (41, .iload_n 2, 1, []), (42, .iload_n 3, 1, []), (43, .iload 5, 2, []), (45, .iconst 0, 1, []), (46, .invokevirtual 219, 3, [0, 172, 6, 1]), (49, .iload_n 3, 1, []), (50, .if_icmp .eq 9, 3, [7])] := rfl
theorem cb_X4_behind_6 : (blk md_X4_behind 6).2 = [(53, .iinc 5 1, 3, []), (56, .goto (-17), 3, [5])] := rfl
theorem cb_X4_behind_7 : (blk md_X4_behind 7).2 = [(59, .iload 5, 2, []), (61, .ireturn, 1, [])] := rfl
def md_X4_through : List mB := [
  (false, [(0, .aload_n 0, 1, []), (1, .getfield 7, 3, [4, 0]), (4, .aload_n 0, 1, []), (5, .getfield 13, 3, [4, 1]), (8, .invokestatic 168, 3, [1, 102, 2, 0]), (11, .iconst 0, 1, []), (12, .istore_n 3, 1, []), (13, .iconst 0, 1, []), (14, .istore 4, 2, []), (16, .aload_n 0, 1, []), (17, .iconst 0, 1, []), (18, .putfield 82, 3, [4, 10, 1])]),
  (false, [(21, .iload_n 3, 1, []), (22, .bipush 64, 2, []), (24, .if_icmp .ge 51, 3, [7])]),
  (false, [(27, .aload_n 0, 1, []), (28, .getfield 82, 3, [4, 10]), (31, .ifCond .ne 44, 3, [7])]),
  (false, [(34, .aload_n 0, 1, []), (35, .iconst 0, 1, []), (36, .iload_n 1, 1, []), (37, .iload_n 3, 1, []), (38, .aload_n 0, 1, []), (39, .iload_n 1, 1, []), (40, .iload_n 3, 1, []), (41, .invokevirtual 63, 3, [0, 111, 3, 1]), (44, .iconst (-1), 1, []), (45, .invokevirtual 172, 3, [0, 145, 6, 0]), (48, .iload 4, 2, []), (50, .aload_n 0, 1, []), (51, .getfield 85, 3, [4, 7]), (54, .iadd, 1, []), (55, .istore 4, 2, []), (57, .iload_n 3, 1, []), (58, .aload_n 0, 1, []), (59, .getfield 82, 3, [4, 10]), (62, .ifCond .eq 7, 3, [5])]),
  (false, [(65, .iconst 0, 1, []), (66, .goto 4, 3, [6])]),
  (false, [(69, .iconst 1, 1, [])]),
  (false, [(70, .iadd, 1, []), (71, .istore_n 3, 1, []), (72, .goto (-51), 3, [1])]),
  (false, [(75, .aload_n 0, 1, []), (76, .getfield 13, 3, [4, 1]), (79, .aload_n 0, 1, []), (80, .getfield 7, 3, [4, 0]), (83, .invokestatic 168, 3, [1, 102, 2, 0]), (86, .iload_n 2, 1, []), (87, .ifCond .ne 7, 3, [9])]),
  (false, [(90, .iload_n 3, 1, []), (91, .goto 15, 3, [12])]),
  (false, [(94, .iload_n 3, 1, []), (95, .bipush 64, 2, []), (97, .if_icmp .ge 7, 3, [11])]),
  (false, [(100, .iconst (-1), 1, []), (101, .goto 5, 3, [12])]),
  (false, [(104, .iload 4, 2, [])]),
  (false, [(106, .ireturn, 1, [])])]
theorem cb_X4_through_0 : (blk md_X4_through 0).2 = [(0, .aload_n 0, 1, []), (1, .getfield 7, 3, [4, 0]), (4, .aload_n 0, 1, []), (5, .getfield 13, 3, [4, 1]), (8, .invokestatic 168, 3, [1, 102, 2, 0]), (11, .iconst 0, 1, []), (12, .istore_n 3, 1, []), (13, .iconst 0, 1, []), (14, .istore 4, 2, []), (16, .aload_n 0, 1, []), (17, .iconst 0, 1, []), (18, .putfield 82, 3, [4, 10, 1])] := rfl
theorem cb_X4_through_1 : (blk md_X4_through 1).2 = [(21, .iload_n 3, 1, []), (22, .bipush 64, 2, []), (24, .if_icmp .ge 51, 3, [7])] := rfl
theorem cb_X4_through_2 : (blk md_X4_through 2).2 = [(27, .aload_n 0, 1, []), (28, .getfield 82, 3, [4, 10]), (31, .ifCond .ne 44, 3, [7])] := rfl
theorem cb_X4_through_3 : (blk md_X4_through 3).2 = [(34, .aload_n 0, 1, []), (35, .iconst 0, 1, []), (36, .iload_n 1, 1, []), (37, .iload_n 3, 1, []), (38, .aload_n 0, 1, []), (39, .iload_n 1, 1, []), (40, .iload_n 3, 1, []), (41, .invokevirtual 63, 3, [0, 111, 3, 1]), (44, .iconst (-1), 1, []), (45, .invokevirtual 172, 3, [0, 145, 6, 0]), (48, .iload 4, 2, []), (50, .aload_n 0, 1, []), (51, .getfield 85, 3, [4, 7]), (54, .iadd, 1, []), (55, .istore 4, 2, []), (57, .iload_n 3, 1, []), (58, .aload_n 0, 1, []), (59, .getfield 82, 3, [4, 10]), (62, .ifCond .eq 7, 3, [5])] := rfl
theorem cb_X4_through_4 : (blk md_X4_through 4).2 = [(65, .iconst 0, 1, []), (66, .goto 4, 3, [6])] := rfl
theorem cb_X4_through_5 : (blk md_X4_through 5).2 = [(69, .iconst 1, 1, [])] := rfl
theorem cb_X4_through_6 : (blk md_X4_through 6).2 = [(70, .iadd, 1, []), (71, .istore_n 3, 1, []), (72, .goto (-51), 3, [1])] := rfl
theorem cb_X4_through_7 : (blk md_X4_through 7).2 = [(75, .aload_n 0, 1, []), (76, .getfield 13, 3, [4, 1]), (79, .aload_n 0, 1, []), (80, .getfield 7, 3, [4, 0]), (83, .invokestatic 168, 3, [1, 102, 2, 0]), (86, .iload_n 2, 1, []), (87, .ifCond .ne 7, 3, [9])] := rfl
theorem cb_X4_through_8 : (blk md_X4_through 8).2 = [(90, .iload_n 3, 1, []), (91, .goto 15, 3, [12])] := rfl
theorem cb_X4_through_9 : (blk md_X4_through 9).2 = [(94, .iload_n 3, 1, []), (95, .bipush 64, 2, []), (97, .if_icmp .ge 7, 3, [11])] := rfl
theorem cb_X4_through_10 : (blk md_X4_through 10).2 = [(100, .iconst (-1), 1, []), (101, .goto 5, 3, [12])] := rfl
theorem cb_X4_through_11 : (blk md_X4_through 11).2 = [(104, .iload 4, 2, [])] := rfl
theorem cb_X4_through_12 : (blk md_X4_through 12).2 = [(106, .ireturn, 1, [])] := rfl
def md_X4_room : List mB := [
  (false, [(0, .aload_n 0, 1, []), (1, .iload_n 1, 1, []), (2, .invokevirtual 52, 3, [0, 103, 2, 1]), (5, .ifCond .ne 13, 3, [2])]),
  (false, [(8, .aload_n 0, 1, []), (9, .sipush (-1001), 3, []), (12, .invokevirtual 56, 3, [0, 101, 2, 1]), (15, .goto 26, 3, [5])]),
  (false, [(18, .aload_n 0, 1, []), (19, .invokevirtual 185, 3, [0, 121, 1, 1]), (22, .ifCond .eq 13, 3, [4])]),
  (false, [(25, .aload_n 0, 1, []), (26, .sipush (-1003), 3, []), (29, .invokevirtual 56, 3, [0, 101, 2, 1]), (32, .goto 9, 3, [5])]),
  (false, [(35, .aload_n 0, 1, []), (36, .iload_n 1, 1, []), (37, .iconst 0, 1, []), (38, .invokevirtual 223, 3, [0, 176, 3, 1])]),
  (false, [(41, .ireturn, 1, [])])]
theorem cb_X4_room_0 : (blk md_X4_room 0).2 = [(0, .aload_n 0, 1, []), (1, .iload_n 1, 1, []), (2, .invokevirtual 52, 3, [0, 103, 2, 1]), (5, .ifCond .ne 13, 3, [2])] := rfl
theorem cb_X4_room_1 : (blk md_X4_room 1).2 = [(8, .aload_n 0, 1, []), (9, .sipush (-1001), 3, []), (12, .invokevirtual 56, 3, [0, 101, 2, 1]), (15, .goto 26, 3, [5])] := rfl
theorem cb_X4_room_2 : (blk md_X4_room 2).2 = [(18, .aload_n 0, 1, []), (19, .invokevirtual 185, 3, [0, 121, 1, 1]), (22, .ifCond .eq 13, 3, [4])] := rfl
theorem cb_X4_room_3 : (blk md_X4_room 3).2 = [(25, .aload_n 0, 1, []), (26, .sipush (-1003), 3, []), (29, .invokevirtual 56, 3, [0, 101, 2, 1]), (32, .goto 9, 3, [5])] := rfl
theorem cb_X4_room_4 : (blk md_X4_room 4).2 = [(35, .aload_n 0, 1, []), (36, .iload_n 1, 1, []), (37, .iconst 0, 1, []), (38, .invokevirtual 223, 3, [0, 176, 3, 1])] := rfl
theorem cb_X4_room_5 : (blk md_X4_room 5).2 = [(41, .ireturn, 1, [])] := rfl
def md_X4_of : List mB := [
  (false, [(0, .aload_n 0, 1, []), (1, .iload_n 1, 1, []), (2, .invokevirtual 52, 3, [0, 103, 2, 1]), (5, .ifCond .eq 12, 3, [2])]),
  (false, [(8, .iload_n 2, 1, []), (9, .iconst 0, 1, []), (10, .iconst 3, 1, []), (11, .invokestatic 37, 3, [1, 100, 3, 1]), (14, .ifCond .ne 11, 3, [3])]),
  (false, [(17, .aload_n 0, 1, []), (18, .sipush (-1001), 3, []), (21, .invokevirtual 56, 3, [0, 101, 2, 1]), (24, .ireturn, 1, [])]),
  (false, [(25, .iconst 0, 1, []), (26, .istore_n 3, 1, []), (27, .iload_n 2, 1, []), (28, .tableswitch 96 0 2 #[28, 39, 78], 28, [16, 4, 5, 12])]),
  (false, [(56, .aload_n 0, 1, []), (57, .getfield 7, 3, [4, 0]), (60, .sipush 321, 3, []), (63, .iload_n 1, 1, []), (64, .iadd, 1, []), (65, .iaload, 1, []), (66, .ireturn, 1, [])]),
  (false, [(67, .iconst 0, 1, []), (68, .istore 4, 2, [])]),
  (false, [(70, .iload 4, 2, []), (72, .bipush 16, 2, []), (74, .if_icmp .ge 30, 3, [11])]),
  (false, [(77, .iload_n 3, 1, []), (78, .aload_n 0, 1, []), (79, .iload_n 1, 1, []), (80, .iload 4, 2, []), (82, .invokevirtual 45, 3, [0, 109, 3, 1]), (85, .ifCond .eq 10, 3, [9])]),
  (false, [(88, .iconst 1, 1, []), (89, .iload 4, 2, []), (91, .ishl, 1, []), (92, .goto 4, 3, [10])]),
  (false, [(95, .iconst 0, 1, [])]),
  (false, [(96, .ior, 1, []), (97, .istore_n 3, 1, []), (98, .iinc 4 1, 3, []), (101, .goto (-31), 3, [6])]),
  (false, [(104, .iload_n 3, 1, []), (105, .ireturn, 1, [])]),
  (false, [(106, .aload_n 0, 1, []), (107, .invokevirtual 185, 3, [0, 121, 1, 1]), (110, .ifCond .eq 7, 3, [14])]),
  (false, [(113, .iconst (-1), 1, []), (114, .goto 9, 3, [15])]),
  (false, [(117, .aload_n 0, 1, []), (118, .iload_n 1, 1, []), (119, .iconst 1, 1, []), (120, .invokevirtual 223, 3, [0, 176, 3, 1])]),
  (false, [(123, .ireturn, 1, [])]),
  (false, [(124, .aload_n 0, 1, []), (125, .getfield 7, 3, [4, 0]), (128, .sipush 321, 3, []), (131, .iload_n 1, 1, []), (132, .iadd, 1, []), (133, .iaload, 1, []), (134, .istore 4, 2, [])]),
  (false, [(136, .iload 4, 2, []), (138, .iconst (-1), 1, []), (139, .if_icmp .eq 22, 3, [19])]),
  (false, [(142, .iinc 3 1, 3, []), (145, .aload_n 0, 1, []), (146, .getfield 7, 3, [4, 0]), (149, .sipush 321, 3, []), (152, .iload 4, 2, []), (154, .iadd, 1, []), (155, .iaload, 1, []), (156, .istore 4, 2, []), (158, .goto (-22), 3, [17])]),
  (false, [(161, .iload_n 3, 1, []), (162, .ireturn, 1, [])])]
theorem cb_X4_of_0 : (blk md_X4_of 0).2 = [(0, .aload_n 0, 1, []), (1, .iload_n 1, 1, []), (2, .invokevirtual 52, 3, [0, 103, 2, 1]), (5, .ifCond .eq 12, 3, [2])] := rfl
theorem cb_X4_of_1 : (blk md_X4_of 1).2 = [(8, .iload_n 2, 1, []), (9, .iconst 0, 1, []), (10, .iconst 3, 1, []), (11, .invokestatic 37, 3, [1, 100, 3, 1]), (14, .ifCond .ne 11, 3, [3])] := rfl
theorem cb_X4_of_2 : (blk md_X4_of 2).2 = [(17, .aload_n 0, 1, []), (18, .sipush (-1001), 3, []), (21, .invokevirtual 56, 3, [0, 101, 2, 1]), (24, .ireturn, 1, [])] := rfl
theorem cb_X4_of_3 : (blk md_X4_of 3).2 = [(25, .iconst 0, 1, []), (26, .istore_n 3, 1, []), (27, .iload_n 2, 1, []), (28, .tableswitch 96 0 2 #[28, 39, 78], 28, [16, 4, 5, 12])] := rfl
theorem cb_X4_of_4 : (blk md_X4_of 4).2 = [(56, .aload_n 0, 1, []), (57, .getfield 7, 3, [4, 0]), (60, .sipush 321, 3, []), (63, .iload_n 1, 1, []), (64, .iadd, 1, []), (65, .iaload, 1, []), (66, .ireturn, 1, [])] := rfl
theorem cb_X4_of_5 : (blk md_X4_of 5).2 = [(67, .iconst 0, 1, []), (68, .istore 4, 2, [])] := rfl
theorem cb_X4_of_6 : (blk md_X4_of 6).2 = [(70, .iload 4, 2, []), (72, .bipush 16, 2, []), (74, .if_icmp .ge 30, 3, [11])] := rfl
theorem cb_X4_of_7 : (blk md_X4_of 7).2 = [(77, .iload_n 3, 1, []), (78, .aload_n 0, 1, []), (79, .iload_n 1, 1, []), (80, .iload 4, 2, []), (82, .invokevirtual 45, 3, [0, 109, 3, 1]), (85, .ifCond .eq 10, 3, [9])] := rfl
theorem cb_X4_of_8 : (blk md_X4_of 8).2 = [(88, .iconst 1, 1, []), (89, .iload 4, 2, []), (91, .ishl, 1, []), (92, .goto 4, 3, [10])] := rfl
theorem cb_X4_of_9 : (blk md_X4_of 9).2 = [(95, .iconst 0, 1, [])] := rfl
theorem cb_X4_of_10 : (blk md_X4_of 10).2 = [(96, .ior, 1, []), (97, .istore_n 3, 1, []), (98, .iinc 4 1, 3, []), (101, .goto (-31), 3, [6])] := rfl
theorem cb_X4_of_11 : (blk md_X4_of 11).2 = [(104, .iload_n 3, 1, []), (105, .ireturn, 1, [])] := rfl
theorem cb_X4_of_12 : (blk md_X4_of 12).2 = [(106, .aload_n 0, 1, []), (107, .invokevirtual 185, 3, [0, 121, 1, 1]), (110, .ifCond .eq 7, 3, [14])] := rfl
theorem cb_X4_of_13 : (blk md_X4_of 13).2 = [(113, .iconst (-1), 1, []), (114, .goto 9, 3, [15])] := rfl
theorem cb_X4_of_14 : (blk md_X4_of 14).2 = [(117, .aload_n 0, 1, []), (118, .iload_n 1, 1, []), (119, .iconst 1, 1, []), (120, .invokevirtual 223, 3, [0, 176, 3, 1])] := rfl
theorem cb_X4_of_15 : (blk md_X4_of 15).2 = [(123, .ireturn, 1, [])] := rfl
theorem cb_X4_of_16 : (blk md_X4_of 16).2 = [(124, .aload_n 0, 1, []), (125, .getfield 7, 3, [4, 0]), (128, .sipush 321, 3, []), (131, .iload_n 1, 1, []), (132, .iadd, 1, []), (133, .iaload, 1, []), (134, .istore 4, 2, [])] := rfl
theorem cb_X4_of_17 : (blk md_X4_of 17).2 = [(136, .iload 4, 2, []), (138, .iconst (-1), 1, []), (139, .if_icmp .eq 22, 3, [19])] := rfl
theorem cb_X4_of_18 : (blk md_X4_of 18).2 = [(142, .iinc 3 1, 3, []), (145, .aload_n 0, 1, []), (146, .getfield 7, 3, [4, 0]), (149, .sipush 321, 3, []), (152, .iload 4, 2, []), (154, .iadd, 1, []), (155, .iaload, 1, []), (156, .istore 4, 2, []), (158, .goto (-22), 3, [17])] := rfl
theorem cb_X4_of_19 : (blk md_X4_of 19).2 = [(161, .iload_n 3, 1, []), (162, .ireturn, 1, [])] := rfl
def md_X4_feed : List mB := [
  (false, [(0, .iload_n 3, 1, []), (1, .iconst 1, 1, []), (2, .bipush 8, 2, []), (4, .invokestatic 37, 3, [1, 100, 3, 1]), (7, .ifCond .ne 11, 3, [2])]),
  (false, [(10, .aload_n 0, 1, []), (11, .sipush (-1001), 3, []), (14, .invokevirtual 56, 3, [0, 101, 2, 1]), (17, .ireturn, 1, [])]),
  (false, [(18, .aload_n 0, 1, []), (19, .getfield 226, 3, [4, 15]), (22, .iload_n 3, 1, []), (23, .iadd, 1, []), (24, .bipush 120, 2, []), (26, .if_icmp .le 11, 3, [4])]),
  (false, [(29, .aload_n 0, 1, []), (30, .sipush (-1002), 3, []), (33, .invokevirtual 56, 3, [0, 101, 2, 1]), (36, .ireturn, 1, [])]),
  (false, [(37, .iconst 0, 1, []), (38, .istore 4, 2, [])]),
  (false, [(40, .iload 4, 2, []), (42, .iload_n 3, 1, []), (43, .if_icmp .ge 40, 3, [7])]),
  (false, [(46, .aload_n 0, 1, []), (47, .getfield 31, 3, [4, 13]), (50, .aload_n 0, 1, []), (51, .getfield 226, 3, [4, 15]), (54, .lload_n 1, 1, []), (55, .bipush 8, 2, []), (57, .iload 4, 2, []), (59, .imul, 1, []), (60, .lushr, 1, []), (61, .l2i, 1, []), (62, .sipush 255, 3, []), (65, .iand, 1, []), (66, .iastore, 1, []), (67, .aload_n 0, 1, []), (68, .dup, 1, []), (69, .getfield 226, 3, [4, 15]), (72, .iconst 1, 1, []), (73, .iadd, 1, []), (74, .putfield 226, 3, [4, 15]), (77, .iinc 4 1, 3, []), (80, .goto (-40), 3, [5])]),
  (false, [(83, .aload_n 0, 1, []), (84, .getfield 226, 3, [4, 15]), (87, .ireturn, 1, [])])]
theorem cb_X4_feed_0 : (blk md_X4_feed 0).2 = [(0, .iload_n 3, 1, []), (1, .iconst 1, 1, []), (2, .bipush 8, 2, []), (4, .invokestatic 37, 3, [1, 100, 3, 1]), (7, .ifCond .ne 11, 3, [2])] := rfl
theorem cb_X4_feed_1 : (blk md_X4_feed 1).2 = [(10, .aload_n 0, 1, []), (11, .sipush (-1001), 3, []), (14, .invokevirtual 56, 3, [0, 101, 2, 1]), (17, .ireturn, 1, [])] := rfl
theorem cb_X4_feed_2 : (blk md_X4_feed 2).2 = [(18, .aload_n 0, 1, []), (19, .getfield 226, 3, [4, 15]), (22, .iload_n 3, 1, []), (23, .iadd, 1, []), (24, .bipush 120, 2, []), (26, .if_icmp .le 11, 3, [4])] := rfl
theorem cb_X4_feed_3 : (blk md_X4_feed 3).2 = [(29, .aload_n 0, 1, []), (30, .sipush (-1002), 3, []), (33, .invokevirtual 56, 3, [0, 101, 2, 1]), (36, .ireturn, 1, [])] := rfl
theorem cb_X4_feed_4 : (blk md_X4_feed 4).2 = [(37, .iconst 0, 1, []), (38, .istore 4, 2, [])] := rfl
theorem cb_X4_feed_5 : (blk md_X4_feed 5).2 = [(40, .iload 4, 2, []), (42, .iload_n 3, 1, []), (43, .if_icmp .ge 40, 3, [7])] := rfl
theorem cb_X4_feed_6 : (blk md_X4_feed 6).2 = [(46, .aload_n 0, 1, []), (47, .getfield 31, 3, [4, 13]), (50, .aload_n 0, 1, []), (51, .getfield 226, 3, [4, 15]), (54, .lload_n 1, 1, []), (55, .bipush 8, 2, []), (57, .iload 4, 2, []), (59, .imul, 1, []), (60, .lushr, 1, []), (61, .l2i, 1, []), (62, .sipush 255, 3, []), (65, .iand, 1, []), (66, .iastore, 1, []), (67, .aload_n 0, 1, []), (68, .dup, 1, []), (69, .getfield 226, 3, [4, 15]), (72, .iconst 1, 1, []), (73, .iadd, 1, []), (74, .putfield 226, 3, [4, 15]), (77, .iinc 4 1, 3, []), (80, .goto (-40), 3, [5])] := rfl
theorem cb_X4_feed_7 : (blk md_X4_feed 7).2 = [(83, .aload_n 0, 1, []), (84, .getfield 226, 3, [4, 15]), (87, .ireturn, 1, [])] := rfl
def md_X4_wipe : List mB := [
  (false, [(0, .aload_n 0, 1, []), (1, .getfield 226, 3, [4, 15]), (4, .istore_n 1, 1, []), (5, .aload_n 0, 1, []), (6, .iconst 0, 1, []), (7, .putfield 226, 3, [4, 15]), (10, .iload_n 1, 1, []), (11, .ireturn, 1, [])])]
theorem cb_X4_wipe_0 : (blk md_X4_wipe 0).2 = [(0, .aload_n 0, 1, []), (1, .getfield 226, 3, [4, 15]), (4, .istore_n 1, 1, []), (5, .aload_n 0, 1, []), (6, .iconst 0, 1, []), (7, .putfield 226, 3, [4, 15]), (10, .iload_n 1, 1, []), (11, .ireturn, 1, [])] := rfl
def md_X4_numbersOf : List mB := [
  (false, [(0, .iload_n 0, 1, []), (1, .tableswitch 103 100 119 #[99, 103, 101, 97, 103, 103, 103, 103, 103, 99, 103, 103, 103, 103, 99, 99, 103, 103, 103, 95], 95, [5, 3, 5, 4, 2, 5, 5, 5, 5, 5, 3, 5, 5, 5, 5, 3, 3, 5, 5, 5, 1])]),
  (false, [(96, .iconst 3, 1, []), (97, .ireturn, 1, [])]),
  (false, [(98, .iconst 2, 1, []), (99, .ireturn, 1, [])]),
  (false, [(100, .iconst 1, 1, []), (101, .ireturn, 1, [])]),
  (false, [(102, .iconst 0, 1, []), (103, .ireturn, 1, [])]),
  (false, [(104, .iconst (-1), 1, []), (105, .ireturn, 1, [])])]
theorem cb_X4_numbersOf_0 : (blk md_X4_numbersOf 0).2 = [(0, .iload_n 0, 1, []), (1, .tableswitch 103 100 119 #[99, 103, 101, 97, 103, 103, 103, 103, 103, 99, 103, 103, 103, 103, 99, 99, 103, 103, 103, 95], 95, [5, 3, 5, 4, 2, 5, 5, 5, 5, 5, 3, 5, 5, 5, 5, 3, 3, 5, 5, 5, 1])] := rfl
theorem cb_X4_numbersOf_1 : (blk md_X4_numbersOf 1).2 = [(96, .iconst 3, 1, []), (97, .ireturn, 1, [])] := rfl
theorem cb_X4_numbersOf_2 : (blk md_X4_numbersOf 2).2 = [(98, .iconst 2, 1, []), (99, .ireturn, 1, [])] := rfl
theorem cb_X4_numbersOf_3 : (blk md_X4_numbersOf 3).2 = [(100, .iconst 1, 1, []), (101, .ireturn, 1, [])] := rfl
theorem cb_X4_numbersOf_4 : (blk md_X4_numbersOf 4).2 = [(102, .iconst 0, 1, []), (103, .ireturn, 1, [])] := rfl
theorem cb_X4_numbersOf_5 : (blk md_X4_numbersOf 5).2 = [(104, .iconst (-1), 1, []), (105, .ireturn, 1, [])] := rfl
def md_X4_isDigit : List mB := [
  (false, [(0, .iload_n 1, 1, []), (1, .aload_n 0, 1, []), (2, .getfield 226, 3, [4, 15]), (5, .if_icmp .ge 23, 3, [3])]),
  (false, [(8, .aload_n 0, 1, []), (9, .getfield 31, 3, [4, 13]), (12, .iload_n 1, 1, []), (13, .iaload, 1, []), (14, .bipush 48, 2, []), (16, .bipush 57, 2, []), (18, .invokestatic 37, 3, [1, 100, 3, 1]), (21, .ifCond .eq 7, 3, [3])]),
  (false, [(24, .iconst 1, 1, []), (25, .goto 4, 3, [4])]),
  (false, [(28, .iconst 0, 1, [])]),
  (false, [(29, .ireturn, 1, [1])])]
theorem cb_X4_isDigit_0 : (blk md_X4_isDigit 0).2 = [(0, .iload_n 1, 1, []), (1, .aload_n 0, 1, []), (2, .getfield 226, 3, [4, 15]), (5, .if_icmp .ge 23, 3, [3])] := rfl
theorem cb_X4_isDigit_1 : (blk md_X4_isDigit 1).2 = [(8, .aload_n 0, 1, []), (9, .getfield 31, 3, [4, 13]), (12, .iload_n 1, 1, []), (13, .iaload, 1, []), (14, .bipush 48, 2, []), (16, .bipush 57, 2, []), (18, .invokestatic 37, 3, [1, 100, 3, 1]), (21, .ifCond .eq 7, 3, [3])] := rfl
theorem cb_X4_isDigit_2 : (blk md_X4_isDigit 2).2 = [(24, .iconst 1, 1, []), (25, .goto 4, 3, [4])] := rfl
theorem cb_X4_isDigit_3 : (blk md_X4_isDigit 3).2 = [(28, .iconst 0, 1, [])] := rfl
theorem cb_X4_isDigit_4 : (blk md_X4_isDigit 4).2 = [(29, .ireturn, 1, [1])] := rfl
def md_X4_isDeed : List mB := [
  (false, [(0, .aload_n 0, 1, []), (1, .getfield 229, 3, [4, 17]), (4, .aload_n 0, 1, []), (5, .getfield 226, 3, [4, 15]), (8, .if_icmp .eq 19, 3, [2])]),
  (false, [(11, .aload_n 0, 1, []), (12, .getfield 31, 3, [4, 13]), (15, .aload_n 0, 1, []), (16, .getfield 229, 3, [4, 17]), (19, .iaload, 1, []), (20, .invokestatic 232, 3, [1, 181, 1, 1]), (23, .iconst (-1), 1, []), (24, .if_icmp .ne 5, 3, [3])]),
  (false, [(27, .iconst 0, 1, []), (28, .ireturn, 1, [1])]),
  (false, [(29, .aload_n 0, 1, []), (30, .getfield 34, 3, [4, 14]), (33, .iconst 4, 1, []), (34, .aload_n 0, 1, []), (35, .getfield 235, 3, [4, 16]), (38, .imul, 1, []), (39, .aload_n 0, 1, []), (40, .getfield 31, 3, [4, 13]), (43, .aload_n 0, 1, []), (44, .getfield 229, 3, [4, 17]), (47, .iaload, 1, []), (48, .iastore, 1, []), (49, .aload_n 0, 1, []), (50, .dup, 1, []), (51, .getfield 229, 3, [4, 17]), (54, .iconst 1, 1, []), (55, .iadd, 1, []), (56, .putfield 229, 3, [4, 17]), (59, .iconst 1, 1, []), (60, .istore_n 1, 1, [])]),
  (false, [(61, .iload_n 1, 1, []), (62, .aload_n 0, 1, []), (63, .getfield 34, 3, [4, 14]), (66, .iconst 4, 1, []), (67, .aload_n 0, 1, []), (68, .getfield 235, 3, [4, 16]), (71, .imul, 1, []), (72, .iaload, 1, []), (73, .invokestatic 232, 3, [1, 181, 1, 1]), (76, .if_icmp .gt 127, 3, [15])]),
  (false, [(79, .aload_n 0, 1, []), (80, .getfield 229, 3, [4, 17]), (83, .aload_n 0, 1, []), (84, .getfield 226, 3, [4, 15]), (87, .if_icmp .eq 17, 3, [7])]),
  (false, [(90, .aload_n 0, 1, []), (91, .getfield 31, 3, [4, 13]), (94, .aload_n 0, 1, []), (95, .getfield 229, 3, [4, 17]), (98, .iaload, 1, []), (99, .bipush 32, 2, []), (101, .if_icmp .eq 5, 3, [8])]),
  (false, [(104, .iconst 0, 1, []), (105, .ireturn, 1, [1])]),
  (false, [(106, .aload_n 0, 1, []), (107, .dup, 1, []), (108, .getfield 229, 3, [4, 17]), (111, .iconst 1, 1, []), (112, .iadd, 1, []), (113, .putfield 229, 3, [4, 17]), (116, .aload_n 0, 1, []), (117, .aload_n 0, 1, []), (118, .getfield 229, 3, [4, 17]), (121, .invokevirtual 238, 3, [0, 182, 2, 1]), (124, .ifCond .ne 5, 3, [10])]),
  (false, [(127, .iconst 0, 1, []), (128, .ireturn, 1, [1])]),
  (false, [(129, .iconst 0, 1, []), (130, .istore_n 2, 1, []), (131, .iconst 0, 1, []), (132, .istore_n 3, 1, [])]),
  (false, [(133, .iload_n 3, 1, []), (134, .iconst 3, 1, []), (135, .if_icmp .ge 48, 3, [14])]),
  (false, [(138, .aload_n 0, 1, []), (139, .aload_n 0, 1, []), (140, .getfield 229, 3, [4, 17]), (143, .invokevirtual 238, 3, [0, 182, 2, 1]), (146, .ifCond .eq 37, 3, [14])]),
  (false, [(149, .bipush 10, 2, []), (151, .iload_n 2, 1, []), (152, .imul, 1, []), (153, .aload_n 0, 1, []), (154, .getfield 31, 3, [4, 13]), (157, .aload_n 0, 1, []), (158, .getfield 229, 3, [4, 17]), (161, .iaload, 1, []), (162, .iadd, 1, []), (163, .bipush 48, 2, []), (165, .isub, 1, []), (166, .istore_n 2, 1, []), (167, .aload_n 0, 1, []), (168, .dup, 1, []), (169, .getfield 229, 3, [4, 17]), (172, .iconst 1, 1, []), (173, .iadd, 1, []), (174, .putfield 229, 3, [4, 17]), (177, .iinc 3 1, 3, []), (180, .goto (-47), 3, [11])]),
  (false, [(183, .aload_n 0, 1, []), (184, .getfield 34, 3, [4, 14]), (187, .iconst 4, 1, []), (188, .aload_n 0, 1, []), (189, .getfield 235, 3, [4, 16]), (192, .imul, 1, []), (193, .iload_n 1, 1, []), (194, .iadd, 1, []), (195, .iload_n 2, 1, []), (196, .iastore, 1, []), (197, .iinc 1 1, 3, []), (200, .goto (-139), 3, [4])]),
  (false, [(203, .aload_n 0, 1, []), (204, .dup, 1, []), (205, .getfield 235, 3, [4, 16]), (208, .iconst 1, 1, []), (209, .iadd, 1, []), (210, .putfield 235, 3, [4, 16]), (213, .iconst 1, 1, []), (214, .ireturn, 1, [1])])]
theorem cb_X4_isDeed_0 : (blk md_X4_isDeed 0).2 = [(0, .aload_n 0, 1, []), (1, .getfield 229, 3, [4, 17]), (4, .aload_n 0, 1, []), (5, .getfield 226, 3, [4, 15]), (8, .if_icmp .eq 19, 3, [2])] := rfl
theorem cb_X4_isDeed_1 : (blk md_X4_isDeed 1).2 = [(11, .aload_n 0, 1, []), (12, .getfield 31, 3, [4, 13]), (15, .aload_n 0, 1, []), (16, .getfield 229, 3, [4, 17]), (19, .iaload, 1, []), (20, .invokestatic 232, 3, [1, 181, 1, 1]), (23, .iconst (-1), 1, []), (24, .if_icmp .ne 5, 3, [3])] := rfl
theorem cb_X4_isDeed_2 : (blk md_X4_isDeed 2).2 = [(27, .iconst 0, 1, []), (28, .ireturn, 1, [1])] := rfl
theorem cb_X4_isDeed_3 : (blk md_X4_isDeed 3).2 = [(29, .aload_n 0, 1, []), (30, .getfield 34, 3, [4, 14]), (33, .iconst 4, 1, []), (34, .aload_n 0, 1, []), (35, .getfield 235, 3, [4, 16]), (38, .imul, 1, []), (39, .aload_n 0, 1, []), (40, .getfield 31, 3, [4, 13]), (43, .aload_n 0, 1, []), (44, .getfield 229, 3, [4, 17]), (47, .iaload, 1, []), (48, .iastore, 1, []), (49, .aload_n 0, 1, []), (50, .dup, 1, []), (51, .getfield 229, 3, [4, 17]), (54, .iconst 1, 1, []), (55, .iadd, 1, []), (56, .putfield 229, 3, [4, 17]), (59, .iconst 1, 1, []), (60, .istore_n 1, 1, [])] := rfl
theorem cb_X4_isDeed_4 : (blk md_X4_isDeed 4).2 = [(61, .iload_n 1, 1, []), (62, .aload_n 0, 1, []), (63, .getfield 34, 3, [4, 14]), (66, .iconst 4, 1, []), (67, .aload_n 0, 1, []), (68, .getfield 235, 3, [4, 16]), (71, .imul, 1, []), (72, .iaload, 1, []), (73, .invokestatic 232, 3, [1, 181, 1, 1]), (76, .if_icmp .gt 127, 3, [15])] := rfl
theorem cb_X4_isDeed_5 : (blk md_X4_isDeed 5).2 = [(79, .aload_n 0, 1, []), (80, .getfield 229, 3, [4, 17]), (83, .aload_n 0, 1, []), (84, .getfield 226, 3, [4, 15]), (87, .if_icmp .eq 17, 3, [7])] := rfl
theorem cb_X4_isDeed_6 : (blk md_X4_isDeed 6).2 = [(90, .aload_n 0, 1, []), (91, .getfield 31, 3, [4, 13]), (94, .aload_n 0, 1, []), (95, .getfield 229, 3, [4, 17]), (98, .iaload, 1, []), (99, .bipush 32, 2, []), (101, .if_icmp .eq 5, 3, [8])] := rfl
theorem cb_X4_isDeed_7 : (blk md_X4_isDeed 7).2 = [(104, .iconst 0, 1, []), (105, .ireturn, 1, [1])] := rfl
theorem cb_X4_isDeed_8 : (blk md_X4_isDeed 8).2 = [(106, .aload_n 0, 1, []), (107, .dup, 1, []), (108, .getfield 229, 3, [4, 17]), (111, .iconst 1, 1, []), (112, .iadd, 1, []), (113, .putfield 229, 3, [4, 17]), (116, .aload_n 0, 1, []), (117, .aload_n 0, 1, []), (118, .getfield 229, 3, [4, 17]), (121, .invokevirtual 238, 3, [0, 182, 2, 1]), (124, .ifCond .ne 5, 3, [10])] := rfl
theorem cb_X4_isDeed_9 : (blk md_X4_isDeed 9).2 = [(127, .iconst 0, 1, []), (128, .ireturn, 1, [1])] := rfl
theorem cb_X4_isDeed_10 : (blk md_X4_isDeed 10).2 = [(129, .iconst 0, 1, []), (130, .istore_n 2, 1, []), (131, .iconst 0, 1, []), (132, .istore_n 3, 1, [])] := rfl
theorem cb_X4_isDeed_11 : (blk md_X4_isDeed 11).2 = [(133, .iload_n 3, 1, []), (134, .iconst 3, 1, []), (135, .if_icmp .ge 48, 3, [14])] := rfl
theorem cb_X4_isDeed_12 : (blk md_X4_isDeed 12).2 = [(138, .aload_n 0, 1, []), (139, .aload_n 0, 1, []), (140, .getfield 229, 3, [4, 17]), (143, .invokevirtual 238, 3, [0, 182, 2, 1]), (146, .ifCond .eq 37, 3, [14])] := rfl
theorem cb_X4_isDeed_13 : (blk md_X4_isDeed 13).2 = [(149, .bipush 10, 2, []), (151, .iload_n 2, 1, []), (152, .imul, 1, []), (153, .aload_n 0, 1, []), (154, .getfield 31, 3, [4, 13]), (157, .aload_n 0, 1, []), (158, .getfield 229, 3, [4, 17]), (161, .iaload, 1, []), (162, .iadd, 1, []), (163, .bipush 48, 2, []), (165, .isub, 1, []), (166, .istore_n 2, 1, []), (167, .aload_n 0, 1, []), (168, .dup, 1, []), (169, .getfield 229, 3, [4, 17]), (172, .iconst 1, 1, []), (173, .iadd, 1, []), (174, .putfield 229, 3, [4, 17]), (177, .iinc 3 1, 3, []), (180, .goto (-47), 3, [11])] := rfl
theorem cb_X4_isDeed_14 : (blk md_X4_isDeed 14).2 = [(183, .aload_n 0, 1, []), (184, .getfield 34, 3, [4, 14]), (187, .iconst 4, 1, []), (188, .aload_n 0, 1, []), (189, .getfield 235, 3, [4, 16]), (192, .imul, 1, []), (193, .iload_n 1, 1, []), (194, .iadd, 1, []), (195, .iload_n 2, 1, []), (196, .iastore, 1, []), (197, .iinc 1 1, 3, []), (200, .goto (-139), 3, [4])] := rfl
theorem cb_X4_isDeed_15 : (blk md_X4_isDeed 15).2 = [(203, .aload_n 0, 1, []), (204, .dup, 1, []), (205, .getfield 235, 3, [4, 16]), (208, .iconst 1, 1, []), (209, .iadd, 1, []), (210, .putfield 235, 3, [4, 16]), (213, .iconst 1, 1, []), (214, .ireturn, 1, [1])] := rfl
def md_X4_areDeeds : List mB := [
  (false, [(0, .aload_n 0, 1, []), (1, .iconst 0, 1, []), (2, .putfield 229, 3, [4, 17]), (5, .aload_n 0, 1, []), (6, .iconst 0, 1, []), (7, .putfield 235, 3, [4, 16])]),
  (false, [(10, .aload_n 0, 1, []), (11, .invokevirtual 241, 3, [0, 183, 1, 1]), (14, .ifCond .ne 5, 3, [3])]),
  (false, [(17, .iconst 0, 1, []), (18, .ireturn, 1, [1])]),
  (false, [(19, .aload_n 0, 1, []), (20, .getfield 229, 3, [4, 17]), (23, .aload_n 0, 1, []), (24, .getfield 226, 3, [4, 15]), (27, .if_icmp .ne 5, 3, [5])]),
  (false, [(30, .iconst 1, 1, []), (31, .ireturn, 1, [1])]),
  (false, [(32, .aload_n 0, 1, []), (33, .getfield 31, 3, [4, 13]), (36, .aload_n 0, 1, []), (37, .getfield 229, 3, [4, 17]), (40, .iaload, 1, []), (41, .bipush 59, 2, []), (43, .if_icmp .eq 5, 3, [7])]),
  (false, [(46, .iconst 0, 1, []), (47, .ireturn, 1, [1])]),
  (false, [(48, .aload_n 0, 1, []), (49, .dup, 1, []), (50, .getfield 229, 3, [4, 17]), (53, .iconst 1, 1, []), (54, .iadd, 1, []), (55, .putfield 229, 3, [4, 17]), (58, .goto (-48), 3, [1])])]
theorem cb_X4_areDeeds_0 : (blk md_X4_areDeeds 0).2 = [(0, .aload_n 0, 1, []), (1, .iconst 0, 1, []), (2, .putfield 229, 3, [4, 17]), (5, .aload_n 0, 1, []), (6, .iconst 0, 1, []), (7, .putfield 235, 3, [4, 16])] := rfl
theorem cb_X4_areDeeds_1 : (blk md_X4_areDeeds 1).2 = [(10, .aload_n 0, 1, []), (11, .invokevirtual 241, 3, [0, 183, 1, 1]), (14, .ifCond .ne 5, 3, [3])] := rfl
theorem cb_X4_areDeeds_2 : (blk md_X4_areDeeds 2).2 = [(17, .iconst 0, 1, []), (18, .ireturn, 1, [1])] := rfl
theorem cb_X4_areDeeds_3 : (blk md_X4_areDeeds 3).2 = [(19, .aload_n 0, 1, []), (20, .getfield 229, 3, [4, 17]), (23, .aload_n 0, 1, []), (24, .getfield 226, 3, [4, 15]), (27, .if_icmp .ne 5, 3, [5])] := rfl
theorem cb_X4_areDeeds_4 : (blk md_X4_areDeeds 4).2 = [(30, .iconst 1, 1, []), (31, .ireturn, 1, [1])] := rfl
theorem cb_X4_areDeeds_5 : (blk md_X4_areDeeds 5).2 = [(32, .aload_n 0, 1, []), (33, .getfield 31, 3, [4, 13]), (36, .aload_n 0, 1, []), (37, .getfield 229, 3, [4, 17]), (40, .iaload, 1, []), (41, .bipush 59, 2, []), (43, .if_icmp .eq 5, 3, [7])] := rfl
theorem cb_X4_areDeeds_6 : (blk md_X4_areDeeds 6).2 = [(46, .iconst 0, 1, []), (47, .ireturn, 1, [1])] := rfl
theorem cb_X4_areDeeds_7 : (blk md_X4_areDeeds 7).2 = [(48, .aload_n 0, 1, []), (49, .dup, 1, []), (50, .getfield 229, 3, [4, 17]), (53, .iconst 1, 1, []), (54, .iadd, 1, []), (55, .putfield 229, 3, [4, 17]), (58, .goto (-48), 3, [1])] := rfl
def md_X4_does : List mB := [
  (false, [(0, .aload_n 0, 1, []), (1, .getfield 34, 3, [4, 14]), (4, .iconst 4, 1, []), (5, .iload_n 1, 1, []), (6, .imul, 1, []), (7, .iconst 1, 1, []), (8, .iadd, 1, []), (9, .iaload, 1, []), (10, .istore_n 2, 1, []), (11, .aload_n 0, 1, []), (12, .getfield 34, 3, [4, 14]), (15, .iconst 4, 1, []), (16, .iload_n 1, 1, []), (17, .imul, 1, []), (18, .iconst 2, 1, []), (19, .iadd, 1, []), (20, .iaload, 1, []), (21, .istore_n 3, 1, []), (22, .aload_n 0, 1, []), (23, .getfield 34, 3, [4, 14]), (26, .iconst 4, 1, []), (27, .iload_n 1, 1, []), (28, .imul, 1, []), (29, .iaload, 1, []), (30, .tableswitch 142 100 119 #[117, 142, 142, 129, 142, 142, 142, 142, 142, 136, 142, 142, 142, 142, 123, 111, 142, 142, 142, 94], 94, [7, 3, 7, 7, 5, 7, 7, 7, 7, 7, 6, 7, 7, 7, 7, 4, 2, 7, 7, 7, 1])]),
  (false, [(124, .aload_n 0, 1, []), (125, .iload_n 2, 1, []), (126, .iload_n 3, 1, []), (127, .aload_n 0, 1, []), (128, .getfield 34, 3, [4, 14]), (131, .iconst 4, 1, []), (132, .iload_n 1, 1, []), (133, .imul, 1, []), (134, .iconst 3, 1, []), (135, .iadd, 1, []), (136, .iaload, 1, []), (137, .invokevirtual 244, 3, [0, 149, 4, 1]), (140, .ireturn, 1, [])]),
  (false, [(141, .aload_n 0, 1, []), (142, .iload_n 2, 1, []), (143, .invokevirtual 247, 3, [0, 150, 2, 1]), (146, .ireturn, 1, [])]),
  (false, [(147, .aload_n 0, 1, []), (148, .iload_n 2, 1, []), (149, .invokevirtual 250, 3, [0, 151, 2, 1]), (152, .ireturn, 1, [])]),
  (false, [(153, .aload_n 0, 1, []), (154, .iload_n 2, 1, []), (155, .invokevirtual 253, 3, [0, 152, 2, 1]), (158, .ireturn, 1, [])]),
  (false, [(159, .aload_n 0, 1, []), (160, .iload_n 2, 1, []), (161, .iload_n 3, 1, []), (162, .invokevirtual 256, 3, [0, 153, 3, 1]), (165, .ireturn, 1, [])]),
  (false, [(166, .aload_n 0, 1, []), (167, .iload_n 2, 1, []), (168, .invokevirtual 259, 3, [0, 154, 2, 1]), (171, .ireturn, 1, [])]),
  (false, [(172, .aload_n 0, 1, []), (173, .invokevirtual 262, 3, [0, 156, 1, 1]), (176, .ireturn, 1, [])])]
theorem cb_X4_does_0 : (blk md_X4_does 0).2 = [(0, .aload_n 0, 1, []), (1, .getfield 34, 3, [4, 14]), (4, .iconst 4, 1, []), (5, .iload_n 1, 1, []), (6, .imul, 1, []), (7, .iconst 1, 1, []), (8, .iadd, 1, []), (9, .iaload, 1, []), (10, .istore_n 2, 1, []), (11, .aload_n 0, 1, []), (12, .getfield 34, 3, [4, 14]), (15, .iconst 4, 1, []), (16, .iload_n 1, 1, []), (17, .imul, 1, []), (18, .iconst 2, 1, []), (19, .iadd, 1, []), (20, .iaload, 1, []), (21, .istore_n 3, 1, []), (22, .aload_n 0, 1, []), (23, .getfield 34, 3, [4, 14]), (26, .iconst 4, 1, []), (27, .iload_n 1, 1, []), (28, .imul, 1, []), (29, .iaload, 1, []), (30, .tableswitch 142 100 119 #[117, 142, 142, 129, 142, 142, 142, 142, 142, 136, 142, 142, 142, 142, 123, 111, 142, 142, 142, 94], 94, [7, 3, 7, 7, 5, 7, 7, 7, 7, 7, 6, 7, 7, 7, 7, 4, 2, 7, 7, 7, 1])] := rfl
theorem cb_X4_does_1 : (blk md_X4_does 1).2 = [(124, .aload_n 0, 1, []), (125, .iload_n 2, 1, []), (126, .iload_n 3, 1, []), (127, .aload_n 0, 1, []), (128, .getfield 34, 3, [4, 14]), (131, .iconst 4, 1, []), (132, .iload_n 1, 1, []), (133, .imul, 1, []), (134, .iconst 3, 1, []), (135, .iadd, 1, []), (136, .iaload, 1, []), (137, .invokevirtual 244, 3, [0, 149, 4, 1]), (140, .ireturn, 1, [])] := rfl
theorem cb_X4_does_2 : (blk md_X4_does 2).2 = [(141, .aload_n 0, 1, []), (142, .iload_n 2, 1, []), (143, .invokevirtual 247, 3, [0, 150, 2, 1]), (146, .ireturn, 1, [])] := rfl
theorem cb_X4_does_3 : (blk md_X4_does 3).2 = [(147, .aload_n 0, 1, []), (148, .iload_n 2, 1, []), (149, .invokevirtual 250, 3, [0, 151, 2, 1]), (152, .ireturn, 1, [])] := rfl
theorem cb_X4_does_4 : (blk md_X4_does 4).2 = [(153, .aload_n 0, 1, []), (154, .iload_n 2, 1, []), (155, .invokevirtual 253, 3, [0, 152, 2, 1]), (158, .ireturn, 1, [])] := rfl
theorem cb_X4_does_5 : (blk md_X4_does 5).2 = [(159, .aload_n 0, 1, []), (160, .iload_n 2, 1, []), (161, .iload_n 3, 1, []), (162, .invokevirtual 256, 3, [0, 153, 3, 1]), (165, .ireturn, 1, [])] := rfl
theorem cb_X4_does_6 : (blk md_X4_does 6).2 = [(166, .aload_n 0, 1, []), (167, .iload_n 2, 1, []), (168, .invokevirtual 259, 3, [0, 154, 2, 1]), (171, .ireturn, 1, [])] := rfl
theorem cb_X4_does_7 : (blk md_X4_does 7).2 = [(172, .aload_n 0, 1, []), (173, .invokevirtual 262, 3, [0, 156, 1, 1]), (176, .ireturn, 1, [])] := rfl
def md_X4_run : List mB := [
  (false, [(0, .aload_n 0, 1, []), (1, .invokevirtual 265, 3, [0, 184, 1, 1]), (4, .istore_n 1, 1, []), (5, .aload_n 0, 1, []), (6, .iconst 0, 1, []), (7, .putfield 226, 3, [4, 15]), (10, .iload_n 1, 1, []), (11, .ifCond .ne 11, 3, [2])]),
  (false, [(14, .bipush (-10), 2, []), (16, .aload_n 0, 1, []), (17, .getfield 229, 3, [4, 17]), (20, .isub, 1, []), (21, .ireturn, 1, [])]),
  (false, [(22, .iconst 0, 1, []), (23, .istore_n 2, 1, [])]),
  (false, [(24, .iload_n 2, 1, []), (25, .aload_n 0, 1, []), (26, .getfield 235, 3, [4, 16]), (29, .if_icmp .ge 23, 3, [7])]),
  (false, [(32, .aload_n 0, 1, []), (33, .iload_n 2, 1, []), (34, .invokevirtual 268, 3, [0, 185, 2, 1]), (37, .ifCond .ge 9, 3, [6])]),
  (false, [(40, .sipush (-300), 3, []), (43, .iload_n 2, 1, []), (44, .isub, 1, []), (45, .ireturn, 1, [])]),
  (false, [(46, .iinc 2 1, 3, []), (49, .goto (-25), 3, [3])]),
  (false, [(52, .aload_n 0, 1, []), (53, .getfield 235, 3, [4, 16]), (56, .ireturn, 1, [])])]
theorem cb_X4_run_0 : (blk md_X4_run 0).2 = [(0, .aload_n 0, 1, []), (1, .invokevirtual 265, 3, [0, 184, 1, 1]), (4, .istore_n 1, 1, []), (5, .aload_n 0, 1, []), (6, .iconst 0, 1, []), (7, .putfield 226, 3, [4, 15]), (10, .iload_n 1, 1, []), (11, .ifCond .ne 11, 3, [2])] := rfl
theorem cb_X4_run_1 : (blk md_X4_run 1).2 = [(14, .bipush (-10), 2, []), (16, .aload_n 0, 1, []), (17, .getfield 229, 3, [4, 17]), (20, .isub, 1, []), (21, .ireturn, 1, [])] := rfl
theorem cb_X4_run_2 : (blk md_X4_run 2).2 = [(22, .iconst 0, 1, []), (23, .istore_n 2, 1, [])] := rfl
theorem cb_X4_run_3 : (blk md_X4_run 3).2 = [(24, .iload_n 2, 1, []), (25, .aload_n 0, 1, []), (26, .getfield 235, 3, [4, 16]), (29, .if_icmp .ge 23, 3, [7])] := rfl
theorem cb_X4_run_4 : (blk md_X4_run 4).2 = [(32, .aload_n 0, 1, []), (33, .iload_n 2, 1, []), (34, .invokevirtual 268, 3, [0, 185, 2, 1]), (37, .ifCond .ge 9, 3, [6])] := rfl
theorem cb_X4_run_5 : (blk md_X4_run 5).2 = [(40, .sipush (-300), 3, []), (43, .iload_n 2, 1, []), (44, .isub, 1, []), (45, .ireturn, 1, [])] := rfl
theorem cb_X4_run_6 : (blk md_X4_run 6).2 = [(46, .iinc 2 1, 3, []), (49, .goto (-25), 3, [3])] := rfl
theorem cb_X4_run_7 : (blk md_X4_run 7).2 = [(52, .aload_n 0, 1, []), (53, .getfield 235, 3, [4, 16]), (56, .ireturn, 1, [])] := rfl
def md_X4_keep : List mB := [
  (false, [(0, .aload_n 0, 1, []), (1, .getfield 7, 3, [4, 0]), (4, .aload_n 0, 1, []), (5, .getfield 16, 3, [4, 2]), (8, .invokestatic 168, 3, [1, 102, 2, 0]), (11, .aload_n 0, 1, []), (12, .iconst 1, 1, []), (13, .putfield 271, 3, [4, 3, 1]), (16, .aload_n 0, 1, []), (17, .invokevirtual 212, 3, [0, 167, 1, 1]), (20, .ireturn, 1, [])])]
theorem cb_X4_keep_0 : (blk md_X4_keep 0).2 = [(0, .aload_n 0, 1, []), (1, .getfield 7, 3, [4, 0]), (4, .aload_n 0, 1, []), (5, .getfield 16, 3, [4, 2]), (8, .invokestatic 168, 3, [1, 102, 2, 0]), (11, .aload_n 0, 1, []), (12, .iconst 1, 1, []), (13, .putfield 271, 3, [4, 3, 1]), (16, .aload_n 0, 1, []), (17, .invokevirtual 212, 3, [0, 167, 1, 1]), (20, .ireturn, 1, [])] := rfl
def md_X4_again : List mB := [
  (false, [(0, .aload_n 0, 1, []), (1, .getfield 271, 3, [4, 3]), (4, .ifCond .ne 11, 3, [2])]),
  (false, [(7, .aload_n 0, 1, []), (8, .sipush (-1003), 3, []), (11, .invokevirtual 56, 3, [0, 101, 2, 1]), (14, .ireturn, 1, [])]),
  (false, [(15, .aload_n 0, 1, []), (16, .getfield 16, 3, [4, 2]), (19, .aload_n 0, 1, []), (20, .getfield 7, 3, [4, 0]), (23, .invokestatic 168, 3, [1, 102, 2, 0]), (26, .aload_n 0, 1, []), (27, .invokevirtual 212, 3, [0, 167, 1, 1]), (30, .ireturn, 1, [])])]
theorem cb_X4_again_0 : (blk md_X4_again 0).2 = [(0, .aload_n 0, 1, []), (1, .getfield 271, 3, [4, 3]), (4, .ifCond .ne 11, 3, [2])] := rfl
theorem cb_X4_again_1 : (blk md_X4_again 1).2 = [(7, .aload_n 0, 1, []), (8, .sipush (-1003), 3, []), (11, .invokevirtual 56, 3, [0, 101, 2, 1]), (14, .ireturn, 1, [])] := rfl
theorem cb_X4_again_2 : (blk md_X4_again 2).2 = [(15, .aload_n 0, 1, []), (16, .getfield 16, 3, [4, 2]), (19, .aload_n 0, 1, []), (20, .getfield 7, 3, [4, 0]), (23, .invokestatic 168, 3, [1, 102, 2, 0]), (26, .aload_n 0, 1, []), (27, .invokevirtual 212, 3, [0, 167, 1, 1]), (30, .ireturn, 1, [])] := rfl
def md_X4_count : List mB := [
  (false, [(0, .iconst 0, 1, []), (1, .istore_n 2, 1, []), (2, .iconst 0, 1, []), (3, .istore_n 3, 1, [])]),
  (false, [(4, .iload_n 3, 1, []), (5, .bipush 8, 2, []), (7, .if_icmp .ge 24, 3, [3])]),
  (false, [(10, .iload_n 2, 1, []), (11, .aload_n 0, 1, []), (12, .getfield 7, 3, [4, 0]), (15, .sipush 383, 3, []), (18, .iload_n 3, 1, []), (19, .iadd, 1, []), (20, .iaload, 1, []), (21, .iload_n 3, 1, []), (22, .ishl, 1, []), (23, .ior, 1, []), (24, .istore_n 2, 1, []), (25, .iinc 3 1, 3, []), (28, .goto (-24), 3, [1])]),
  (false, [(31, .iload_n 1, 1, []), (32, .tableswitch 75 0 5 #[40, 49, 51, 56, 65, 70], 40, [10, 4, 5, 6, 7, 8, 9])]),
  (false, [(72, .aload_n 0, 1, []), (73, .getfield 7, 3, [4, 0]), (76, .sipush 320, 3, []), (79, .iaload, 1, []), (80, .ireturn, 1, [])]),
  (false, [(81, .iload_n 2, 1, []), (82, .ireturn, 1, [])]),
  (false, [(83, .aload_n 0, 1, []), (84, .invokevirtual 212, 3, [0, 167, 1, 1]), (87, .ireturn, 1, [])]),
  (false, [(88, .aload_n 0, 1, []), (89, .getfield 7, 3, [4, 0]), (92, .sipush 399, 3, []), (95, .iaload, 1, []), (96, .ireturn, 1, [])]),
  (false, [(97, .aload_n 0, 1, []), (98, .getfield 226, 3, [4, 15]), (101, .ireturn, 1, [])]),
  (false, [(102, .aload_n 0, 1, []), (103, .getfield 179, 3, [4, 11]), (106, .ireturn, 1, [])]),
  (false, [(107, .aload_n 0, 1, []), (108, .sipush (-1001), 3, []), (111, .invokevirtual 56, 3, [0, 101, 2, 1]), (114, .ireturn, 1, [])])]
theorem cb_X4_count_0 : (blk md_X4_count 0).2 = [(0, .iconst 0, 1, []), (1, .istore_n 2, 1, []), (2, .iconst 0, 1, []), (3, .istore_n 3, 1, [])] := rfl
theorem cb_X4_count_1 : (blk md_X4_count 1).2 = [(4, .iload_n 3, 1, []), (5, .bipush 8, 2, []), (7, .if_icmp .ge 24, 3, [3])] := rfl
theorem cb_X4_count_2 : (blk md_X4_count 2).2 = [(10, .iload_n 2, 1, []), (11, .aload_n 0, 1, []), (12, .getfield 7, 3, [4, 0]), (15, .sipush 383, 3, []), (18, .iload_n 3, 1, []), (19, .iadd, 1, []), (20, .iaload, 1, []), (21, .iload_n 3, 1, []), (22, .ishl, 1, []), (23, .ior, 1, []), (24, .istore_n 2, 1, []), (25, .iinc 3 1, 3, []), (28, .goto (-24), 3, [1])] := rfl
theorem cb_X4_count_3 : (blk md_X4_count 3).2 = [(31, .iload_n 1, 1, []), (32, .tableswitch 75 0 5 #[40, 49, 51, 56, 65, 70], 40, [10, 4, 5, 6, 7, 8, 9])] := rfl
theorem cb_X4_count_4 : (blk md_X4_count 4).2 = [(72, .aload_n 0, 1, []), (73, .getfield 7, 3, [4, 0]), (76, .sipush 320, 3, []), (79, .iaload, 1, []), (80, .ireturn, 1, [])] := rfl
theorem cb_X4_count_5 : (blk md_X4_count 5).2 = [(81, .iload_n 2, 1, []), (82, .ireturn, 1, [])] := rfl
theorem cb_X4_count_6 : (blk md_X4_count 6).2 = [(83, .aload_n 0, 1, []), (84, .invokevirtual 212, 3, [0, 167, 1, 1]), (87, .ireturn, 1, [])] := rfl
theorem cb_X4_count_7 : (blk md_X4_count 7).2 = [(88, .aload_n 0, 1, []), (89, .getfield 7, 3, [4, 0]), (92, .sipush 399, 3, []), (95, .iaload, 1, []), (96, .ireturn, 1, [])] := rfl
theorem cb_X4_count_8 : (blk md_X4_count 8).2 = [(97, .aload_n 0, 1, []), (98, .getfield 226, 3, [4, 15]), (101, .ireturn, 1, [])] := rfl
theorem cb_X4_count_9 : (blk md_X4_count 9).2 = [(102, .aload_n 0, 1, []), (103, .getfield 179, 3, [4, 11]), (106, .ireturn, 1, [])] := rfl
theorem cb_X4_count_10 : (blk md_X4_count 10).2 = [(107, .aload_n 0, 1, []), (108, .sipush (-1001), 3, []), (111, .invokevirtual 56, 3, [0, 101, 2, 1]), (114, .ireturn, 1, [])] := rfl
def md_X4_refused : List mB := [
  (false, [(0, .iload_n 1, 1, []), (1, .iconst 0, 1, []), (2, .iconst 3, 1, []), (3, .invokestatic 37, 3, [1, 100, 3, 1]), (6, .ifCond .eq 12, 3, [2])]),
  (false, [(9, .aload_n 0, 1, []), (10, .getfield 19, 3, [4, 4]), (13, .iload_n 1, 1, []), (14, .iaload, 1, []), (15, .goto 10, 3, [3])]),
  (false, [(18, .aload_n 0, 1, []), (19, .sipush (-1001), 3, []), (22, .invokevirtual 56, 3, [0, 101, 2, 1])]),
  (false, [(25, .ireturn, 1, [])])]
theorem cb_X4_refused_0 : (blk md_X4_refused 0).2 = [(0, .iload_n 1, 1, []), (1, .iconst 0, 1, []), (2, .iconst 3, 1, []), (3, .invokestatic 37, 3, [1, 100, 3, 1]), (6, .ifCond .eq 12, 3, [2])] := rfl
theorem cb_X4_refused_1 : (blk md_X4_refused 1).2 = [(9, .aload_n 0, 1, []), (10, .getfield 19, 3, [4, 4]), (13, .iload_n 1, 1, []), (14, .iaload, 1, []), (15, .goto 10, 3, [3])] := rfl
theorem cb_X4_refused_2 : (blk md_X4_refused 2).2 = [(18, .aload_n 0, 1, []), (19, .sipush (-1001), 3, []), (22, .invokevirtual 56, 3, [0, 101, 2, 1])] := rfl
theorem cb_X4_refused_3 : (blk md_X4_refused 3).2 = [(25, .ireturn, 1, [])] := rfl
def md_J13_bitCount : List mB := [
  (false, [(0, .lload_n 0, 1, []), (1, .lload_n 0, 1, []), (2, .iconst 1, 1, []), (3, .lushr, 1, []), (4, .ldc2_w 314, 3, [6148914691236517205]), (7, .land, 1, []), (8, .lsub, 1, []), (9, .lstore_n 0, 1, []), (10, .lload_n 0, 1, []), (11, .ldc2_w 316, 3, [3689348814741910323]), (14, .land, 1, []), (15, .lload_n 0, 1, []), (16, .iconst 2, 1, []), (17, .lushr, 1, []), (18, .ldc2_w 316, 3, [3689348814741910323]), (21, .land, 1, []), (22, .ladd, 1, []), (23, .lstore_n 0, 1, []), (24, .lload_n 0, 1, []), (25, .lload_n 0, 1, []), (26, .iconst 4, 1, []), (27, .lushr, 1, []), (28, .ladd, 1, []), (29, .ldc2_w 318, 3, [1085102592571150095]), (32, .land, 1, []), (33, .lstore_n 0, 1, []), (34, .lload_n 0, 1, []), (35, .lload_n 0, 1, []), (36, .bipush 8, 2, []), (38, .lushr, 1, []), (39, .ladd, 1, []), (40, .lstore_n 0, 1, []), (41, .lload_n 0, 1, []), (42, .lload_n 0, 1, []), (43, .bipush 16, 2, []), (45, .lushr, 1, []), (46, .ladd, 1, []), (47, .lstore_n 0, 1, []), (48, .lload_n 0, 1, []), (49, .lload_n 0, 1, []), (50, .bipush 32, 2, []), (52, .lushr, 1, []), (53, .ladd, 1, []), (54, .lstore_n 0, 1, []), (55, .lload_n 0, 1, []), (56, .l2i, 1, []), (57, .bipush 127, 2, []), (59, .iand, 1, []), (60, .ireturn, 1, [])])]
theorem cb_J13_bitCount_0 : (blk md_J13_bitCount 0).2 = [(0, .lload_n 0, 1, []), (1, .lload_n 0, 1, []), (2, .iconst 1, 1, []), (3, .lushr, 1, []), (4, .ldc2_w 314, 3, [6148914691236517205]), (7, .land, 1, []), (8, .lsub, 1, []), (9, .lstore_n 0, 1, []), (10, .lload_n 0, 1, []), (11, .ldc2_w 316, 3, [3689348814741910323]), (14, .land, 1, []), (15, .lload_n 0, 1, []), (16, .iconst 2, 1, []), (17, .lushr, 1, []), (18, .ldc2_w 316, 3, [3689348814741910323]), (21, .land, 1, []), (22, .ladd, 1, []), (23, .lstore_n 0, 1, []), (24, .lload_n 0, 1, []), (25, .lload_n 0, 1, []), (26, .iconst 4, 1, []), (27, .lushr, 1, []), (28, .ladd, 1, []), (29, .ldc2_w 318, 3, [1085102592571150095]), (32, .land, 1, []), (33, .lstore_n 0, 1, []), (34, .lload_n 0, 1, []), (35, .lload_n 0, 1, []), (36, .bipush 8, 2, []), (38, .lushr, 1, []), (39, .ladd, 1, []), (40, .lstore_n 0, 1, []), (41, .lload_n 0, 1, []), (42, .lload_n 0, 1, []), (43, .bipush 16, 2, []), (45, .lushr, 1, []), (46, .ladd, 1, []), (47, .lstore_n 0, 1, []), (48, .lload_n 0, 1, []), (49, .lload_n 0, 1, []), (50, .bipush 32, 2, []), (52, .lushr, 1, []), (53, .ladd, 1, []), (54, .lstore_n 0, 1, []), (55, .lload_n 0, 1, []), (56, .l2i, 1, []), (57, .bipush 127, 2, []), (59, .iand, 1, []), (60, .ireturn, 1, [])] := rfl
def md_J7_rangeCheck : List mB := [
  (false, [(0, .iload_n 1, 1, []), (1, .iload_n 2, 1, []), (2, .if_icmp .le 44, 3, [2])]),
  (false, [(5, .nop, 1, [7])]),
  (false, [(46, .iload_n 1, 1, []), (47, .ifCond .ge 12, 3, [4])]),
  (false, [(50, .nop, 1, [7])]),
  (false, [(59, .iload_n 2, 1, []), (60, .iload_n 0, 1, []), (61, .if_icmp .le 12, 3, [6])]),
  (false, [(64, .nop, 1, [7])]),
  (false, [(73, .return_, 1, [])])]
theorem cb_J7_rangeCheck_0 : (blk md_J7_rangeCheck 0).2 = [(0, .iload_n 1, 1, []), (1, .iload_n 2, 1, []), (2, .if_icmp .le 44, 3, [2])] := rfl
theorem cb_J7_rangeCheck_1 : (blk md_J7_rangeCheck 1).2 = [(5, .nop, 1, [7])] := rfl
theorem cb_J7_rangeCheck_2 : (blk md_J7_rangeCheck 2).2 = [(46, .iload_n 1, 1, []), (47, .ifCond .ge 12, 3, [4])] := rfl
theorem cb_J7_rangeCheck_3 : (blk md_J7_rangeCheck 3).2 = [(50, .nop, 1, [7])] := rfl
theorem cb_J7_rangeCheck_4 : (blk md_J7_rangeCheck 4).2 = [(59, .iload_n 2, 1, []), (60, .iload_n 0, 1, []), (61, .if_icmp .le 12, 3, [6])] := rfl
theorem cb_J7_rangeCheck_5 : (blk md_J7_rangeCheck 5).2 = [(64, .nop, 1, [7])] := rfl
theorem cb_J7_rangeCheck_6 : (blk md_J7_rangeCheck 6).2 = [(73, .return_, 1, [])] := rfl
def md_J7_fill2 : List mB := [
  (false, [(0, .iconst 0, 1, []), (1, .istore_n 2, 1, []), (2, .aload_n 0, 1, []), (3, .arraylength, 1, []), (4, .istore_n 3, 1, [])]),
  (false, [(5, .iload_n 2, 1, []), (6, .iload_n 3, 1, []), (7, .if_icmp .ge 13, 3, [3])]),
  (false, [(10, .aload_n 0, 1, []), (11, .iload_n 2, 1, []), (12, .iload_n 1, 1, []), (13, .iastore, 1, []), (14, .iinc 2 1, 3, []), (17, .goto (-12), 3, [1])]),
  (false, [(20, .return_, 1, [])])]
theorem cb_J7_fill2_0 : (blk md_J7_fill2 0).2 = [(0, .iconst 0, 1, []), (1, .istore_n 2, 1, []), (2, .aload_n 0, 1, []), (3, .arraylength, 1, []), (4, .istore_n 3, 1, [])] := rfl
theorem cb_J7_fill2_1 : (blk md_J7_fill2 1).2 = [(5, .iload_n 2, 1, []), (6, .iload_n 3, 1, []), (7, .if_icmp .ge 13, 3, [3])] := rfl
theorem cb_J7_fill2_2 : (blk md_J7_fill2 2).2 = [(10, .aload_n 0, 1, []), (11, .iload_n 2, 1, []), (12, .iload_n 1, 1, []), (13, .iastore, 1, []), (14, .iinc 2 1, 3, []), (17, .goto (-12), 3, [1])] := rfl
theorem cb_J7_fill2_3 : (blk md_J7_fill2 3).2 = [(20, .return_, 1, [])] := rfl
def md_J7_fill4 : List mB := [
  (false, [(0, .aload_n 0, 1, []), (1, .arraylength, 1, []), (2, .iload_n 1, 1, []), (3, .iload_n 2, 1, []), (4, .invokestatic 13, 3, [1, 192, 3, 0]), (7, .iload_n 1, 1, []), (8, .istore 4, 2, [])]),
  (false, [(10, .iload 4, 2, []), (12, .iload_n 2, 1, []), (13, .if_icmp .ge 14, 3, [3])]),
  (false, [(16, .aload_n 0, 1, []), (17, .iload 4, 2, []), (19, .iload_n 3, 1, []), (20, .iastore, 1, []), (21, .iinc 4 1, 3, []), (24, .goto (-14), 3, [1])]),
  (false, [(27, .return_, 1, [])])]
theorem cb_J7_fill4_0 : (blk md_J7_fill4 0).2 = [(0, .aload_n 0, 1, []), (1, .arraylength, 1, []), (2, .iload_n 1, 1, []), (3, .iload_n 2, 1, []), (4, .invokestatic 13, 3, [1, 192, 3, 0]), (7, .iload_n 1, 1, []), (8, .istore 4, 2, [])] := rfl
theorem cb_J7_fill4_1 : (blk md_J7_fill4 1).2 = [(10, .iload 4, 2, []), (12, .iload_n 2, 1, []), (13, .if_icmp .ge 14, 3, [3])] := rfl
theorem cb_J7_fill4_2 : (blk md_J7_fill4 2).2 = [(16, .aload_n 0, 1, []), (17, .iload 4, 2, []), (19, .iload_n 3, 1, []), (20, .iastore, 1, []), (21, .iinc 4 1, 3, []), (24, .goto (-14), 3, [1])] := rfl
theorem cb_J7_fill4_3 : (blk md_J7_fill4 3).2 = [(27, .return_, 1, [])] := rfl
