/-! tables of the methods of GossipCounts, laid by wip/p32/gen/tabs2.py -/
def tb_X4_init : ev_T := [(0, .aload_n 0, 1, 0, 0, 0, .null),
  (1, .invokespecial 3, 4, 0, 0, 0, .null),
  (4, .aload_n 0, 5, 0, 0, 0, .null),
  (5, .new 9, 8, 0, 0, 0, .null),
  (8, .dup, 9, 0, 0, 0, .null),
  (9, .invokespecial 11, 12, 0, 0, 0, .null),
  (12, .putfield 12, 15, 167, 4, 0, .null),
  (15, .aload_n 0, 16, 0, 0, 0, .null),
  (16, .new 9, 19, 0, 0, 0, .null),
  (19, .dup, 20, 0, 0, 0, .null),
  (20, .invokespecial 11, 23, 0, 0, 0, .null),
  (23, .putfield 16, 26, 168, 4, 1, .null),
  (26, .aload_n 0, 27, 0, 0, 0, .null),
  (27, .new 9, 30, 0, 0, 0, .null),
  (30, .dup, 31, 0, 0, 0, .null),
  (31, .invokespecial 11, 34, 0, 0, 0, .null),
  (34, .putfield 19, 37, 169, 4, 2, .null),
  (37, .aload_n 0, 38, 0, 0, 0, .null),
  (38, .bipush 6, 40, 0, 0, 0, .int 6),
  (40, .anewarray 9, 43, 0, 0, 0, .null),
  (43, .putfield 22, 46, 170, 4, 3, .null),
  (46, .iconst 0, 47, 0, 0, 0, .int 0),
  (47, .istore_n 1, 48, 0, 1, 0, .null),
  (48, .iload_n 1, 49, 0, 1, 0, .null),
  (49, .bipush 6, 51, 0, 0, 0, .int 6),
  (51, .if_icmp .ge 22, 54, 0, 73, 0, .null),
  (54, .aload_n 0, 55, 0, 0, 0, .null),
  (55, .getfield 22, 58, 170, 4, 3, .null),
  (58, .iload_n 1, 59, 0, 1, 0, .null),
  (59, .new 9, 62, 0, 0, 0, .null),
  (62, .dup, 63, 0, 0, 0, .null),
  (63, .invokespecial 11, 66, 0, 0, 0, .null),
  (66, .aastore, 67, 0, 0, 0, .null),
  (67, .iinc 1 1, 70, 0, 1, 0, .int 1),
  (70, .goto (-22), 73, 0, 48, 0, .null),
  (73, .aload_n 0, 74, 0, 0, 0, .null),
  (74, .new 26, 77, 0, 0, 0, .null),
  (77, .dup, 78, 0, 0, 0, .null),
  (78, .invokespecial 28, 81, 0, 0, 0, .null),
  (81, .putfield 29, 84, 172, 4, 5, .null),
  (84, .return_, 85, 0, 0, 0, .null)]
def mm_X4_init : ev_M := (RX4, "<init>", cX4_init, 2, none, tb_X4_init, 3, 71, 0, 0)
set_option maxRecDepth 100000 in
theorem ok_X4_init : ev_OK mm_X4_init := by unfold ev_OK; decide +kernel
theorem ci_X4_init : ev_CI yX4_init mm_X4_init 0 := ⟨ev_has_in (k := 41) (by decide +kernel), ev_has_in (k := 23) (by decide +kernel), ev_has_in (k := 40) (by decide +kernel), ⟨by decide +kernel, by decide +kernel, by decide +kernel⟩, rfl⟩
def tb_X4_add : ev_T := [(0, .iload_n 1, 1, 0, 1, 0, .null),
  (1, .ifCond .lt 9, 4, 0, 10, 0, .null),
  (4, .iload_n 1, 5, 0, 1, 0, .null),
  (5, .bipush 9, 7, 0, 0, 0, .int 9),
  (7, .if_icmp .le 13, 10, 0, 20, 0, .null),
  (10, .new 33, 13, 0, 0, 0, .null),
  (13, .dup, 14, 0, 0, 0, .null),
  (16, .invokespecial 37, 19, 0, 0, 0, .null),
  (19, .athrow, 20, 0, 0, 0, .null),
  (20, .aload_n 0, 21, 0, 0, 0, .null),
  (21, .getfield 12, 24, 167, 4, 0, .null),
  (24, .getfield 40, 27, 88, 3, 1, .null),
  (27, .bipush 24, 29, 0, 0, 0, .int 24),
  (29, .if_icmp .lt 13, 32, 0, 42, 0, .null),
  (32, .new 44, 35, 0, 0, 0, .null),
  (35, .dup, 36, 0, 0, 0, .null),
  (38, .invokespecial 48, 41, 0, 0, 0, .null),
  (41, .athrow, 42, 0, 0, 0, .null),
  (42, .aload_n 0, 43, 0, 0, 0, .null),
  (43, .invokevirtual 49, 46, 0, 0, 0, .null),
  (46, .aload_n 0, 47, 0, 0, 0, .null),
  (47, .getfield 12, 50, 167, 4, 0, .null),
  (50, .iload_n 1, 51, 0, 1, 0, .null),
  (51, .invokevirtual 52, 54, 0, 0, 0, .null),
  (54, .ireturn, 55, 0, 0, 0, .null)]
def mm_X4_add : ev_M := (RX4, "add", cX4_add, 2, (some .int), tb_X4_add, 6, 160, 0, 0)
set_option maxRecDepth 100000 in
theorem ok_X4_add : ev_OK mm_X4_add := by unfold ev_OK; decide +kernel
theorem cv_X4_add : ev_CV yX4_add mm_X4_add 4 1 := ⟨ev_has_in (k := 189) (by decide +kernel), ev_has_in (k := 23) (by decide +kernel), ev_has_in (k := 187) (by decide +kernel), ev_has_in (k := 188) (by decide +kernel), ⟨by decide +kernel, by decide +kernel, by decide +kernel⟩, rfl, by decide⟩
def tb_X4_take : ev_T := [(0, .iload_n 1, 1, 0, 1, 0, .null),
  (1, .invokestatic 56, 4, 0, 0, 0, .null),
  (4, .ifCond .eq 11, 7, 0, 15, 0, .null),
  (7, .aload_n 0, 8, 0, 0, 0, .null),
  (8, .iload_n 2, 9, 0, 2, 0, .null),
  (9, .invokevirtual 60, 12, 0, 0, 0, .null),
  (12, .ifCond .ne 13, 15, 0, 25, 0, .null),
  (15, .new 63, 18, 0, 0, 0, .null),
  (18, .dup, 19, 0, 0, 0, .null),
  (21, .invokespecial 67, 24, 0, 0, 0, .null),
  (24, .athrow, 25, 0, 0, 0, .null),
  (25, .aload_n 0, 26, 0, 0, 0, .null),
  (26, .getfield 12, 29, 167, 4, 0, .null),
  (29, .iload_n 2, 30, 0, 2, 0, .null),
  (30, .invokevirtual 68, 33, 0, 0, 0, .null),
  (33, .ifCond .ne 13, 36, 0, 46, 0, .null),
  (36, .new 44, 39, 0, 0, 0, .null),
  (39, .dup, 40, 0, 0, 0, .null),
  (42, .invokespecial 48, 45, 0, 0, 0, .null),
  (45, .athrow, 46, 0, 0, 0, .null),
  (46, .aload_n 0, 47, 0, 0, 0, .null),
  (47, .invokevirtual 49, 50, 0, 0, 0, .null),
  (50, .aload_n 0, 51, 0, 0, 0, .null),
  (51, .getfield 12, 54, 167, 4, 0, .null),
  (54, .iload_n 1, 55, 0, 1, 0, .null),
  (55, .iload_n 2, 56, 0, 2, 0, .null),
  (56, .invokevirtual 73, 59, 0, 0, 0, .null),
  (59, .ireturn, 60, 0, 0, 0, .null)]
def mm_X4_take : ev_M := (RX4, "take", cX4_take, 3, (some .int), tb_X4_take, 6, 160, 0, 0)
set_option maxRecDepth 100000 in
theorem ok_X4_take : ev_OK mm_X4_take := by unfold ev_OK; decide +kernel
theorem cv_X4_take : ev_CV yX4_take mm_X4_take 4 2 := ⟨ev_has_in (k := 507) (by decide +kernel), ev_has_in (k := 23) (by decide +kernel), ev_has_in (k := 505) (by decide +kernel), ev_has_in (k := 506) (by decide +kernel), ⟨by decide +kernel, by decide +kernel, by decide +kernel⟩, rfl, by decide⟩
def tb_X4_put : ev_T := [(0, .aload_n 0, 1, 0, 0, 0, .null),
  (1, .iload_n 1, 2, 0, 1, 0, .null),
  (2, .invokevirtual 77, 5, 0, 0, 0, .null),
  (5, .ifCond .eq 18, 8, 0, 23, 0, .null),
  (8, .iload_n 2, 9, 0, 2, 0, .null),
  (9, .invokestatic 80, 12, 0, 0, 0, .null),
  (12, .ifCond .eq 11, 15, 0, 23, 0, .null),
  (15, .aload_n 0, 16, 0, 0, 0, .null),
  (16, .iload_n 3, 17, 0, 3, 0, .null),
  (17, .invokevirtual 60, 20, 0, 0, 0, .null),
  (20, .ifCond .ne 13, 23, 0, 33, 0, .null),
  (23, .new 63, 26, 0, 0, 0, .null),
  (26, .dup, 27, 0, 0, 0, .null),
  (29, .invokespecial 67, 32, 0, 0, 0, .null),
  (32, .athrow, 33, 0, 0, 0, .null),
  (33, .aload_n 0, 34, 0, 0, 0, .null),
  (34, .getfield 12, 37, 167, 4, 0, .null),
  (37, .iload_n 1, 38, 0, 1, 0, .null),
  (38, .invokevirtual 85, 41, 0, 0, 0, .null),
  (41, .ifCond .eq 14, 44, 0, 55, 0, .null),
  (44, .aload_n 0, 45, 0, 0, 0, .null),
  (45, .getfield 12, 48, 167, 4, 0, .null),
  (48, .iload_n 3, 49, 0, 3, 0, .null),
  (49, .invokevirtual 68, 52, 0, 0, 0, .null),
  (52, .ifCond .ne 13, 55, 0, 65, 0, .null),
  (55, .new 44, 58, 0, 0, 0, .null),
  (58, .dup, 59, 0, 0, 0, .null),
  (61, .invokespecial 48, 64, 0, 0, 0, .null),
  (64, .athrow, 65, 0, 0, 0, .null),
  (65, .aload_n 0, 66, 0, 0, 0, .null),
  (66, .invokevirtual 49, 69, 0, 0, 0, .null),
  (69, .aload_n 0, 70, 0, 0, 0, .null),
  (70, .getfield 12, 73, 167, 4, 0, .null),
  (73, .iload_n 1, 74, 0, 1, 0, .null),
  (74, .iload_n 2, 75, 0, 2, 0, .null),
  (75, .invokestatic 90, 78, 0, 0, 0, .null),
  (78, .iload_n 3, 79, 0, 3, 0, .null),
  (79, .invokevirtual 73, 82, 0, 0, 0, .null),
  (82, .ireturn, 83, 0, 0, 0, .null)]
def mm_X4_put : ev_M := (RX4, "put", cX4_put, 4, (some .int), tb_X4_put, 6, 160, 0, 0)
set_option maxRecDepth 100000 in
theorem ok_X4_put : ev_OK mm_X4_put := by unfold ev_OK; decide +kernel
theorem cv_X4_put : ev_CV yX4_put mm_X4_put 4 3 := ⟨ev_has_in (k := 482) (by decide +kernel), ev_has_in (k := 23) (by decide +kernel), ev_has_in (k := 480) (by decide +kernel), ev_has_in (k := 481) (by decide +kernel), ⟨by decide +kernel, by decide +kernel, by decide +kernel⟩, rfl, by decide⟩
def tb_X4_suspect : ev_T := [(0, .aload_n 0, 1, 0, 0, 0, .null),
  (1, .iload_n 1, 2, 0, 1, 0, .null),
  (2, .invokevirtual 77, 5, 0, 0, 0, .null),
  (5, .ifCond .ne 13, 8, 0, 18, 0, .null),
  (8, .new 63, 11, 0, 0, 0, .null),
  (11, .dup, 12, 0, 0, 0, .null),
  (14, .invokespecial 67, 17, 0, 0, 0, .null),
  (17, .athrow, 18, 0, 0, 0, .null),
  (18, .aload_n 0, 19, 0, 0, 0, .null),
  (19, .getfield 12, 22, 167, 4, 0, .null),
  (22, .iload_n 1, 23, 0, 1, 0, .null),
  (23, .invokevirtual 85, 26, 0, 0, 0, .null),
  (26, .ifCond .eq 17, 29, 0, 43, 0, .null),
  (29, .aload_n 0, 30, 0, 0, 0, .null),
  (30, .getfield 12, 33, 167, 4, 0, .null),
  (33, .getfield 100, 36, 92, 3, 3, .null),
  (36, .iload_n 1, 37, 0, 1, 0, .null),
  (37, .invokestatic 103, 40, 0, 0, 0, .null),
  (40, .ifCond .eq 13, 43, 0, 53, 0, .null),
  (43, .new 44, 46, 0, 0, 0, .null),
  (46, .dup, 47, 0, 0, 0, .null),
  (49, .invokespecial 48, 52, 0, 0, 0, .null),
  (52, .athrow, 53, 0, 0, 0, .null),
  (53, .aload_n 0, 54, 0, 0, 0, .null),
  (54, .invokevirtual 49, 57, 0, 0, 0, .null),
  (57, .aload_n 0, 58, 0, 0, 0, .null),
  (58, .getfield 12, 61, 167, 4, 0, .null),
  (61, .dup, 62, 0, 0, 0, .null),
  (62, .getfield 100, 65, 92, 3, 3, .null),
  (65, .iconst 1, 66, 0, 0, 0, .int 1),
  (66, .iload_n 1, 67, 0, 1, 0, .null),
  (67, .ishl, 68, 0, 0, 0, .null),
  (68, .ior, 69, 0, 0, 0, .null),
  (69, .putfield 100, 72, 92, 3, 3, .null),
  (72, .aload_n 0, 73, 0, 0, 0, .null),
  (73, .getfield 12, 76, 167, 4, 0, .null),
  (76, .getfield 100, 79, 92, 3, 3, .null),
  (79, .invokestatic 109, 82, 0, 0, 0, .null),
  (82, .ireturn, 83, 0, 0, 0, .null)]
def mm_X4_suspect : ev_M := (RX4, "suspect", cX4_suspect, 2, (some .int), tb_X4_suspect, 6, 160, 0, 0)
set_option maxRecDepth 100000 in
theorem ok_X4_suspect : ev_OK mm_X4_suspect := by unfold ev_OK; decide +kernel
theorem cv_X4_suspect : ev_CV yX4_suspect mm_X4_suspect 4 1 := ⟨ev_has_in (k := 302) (by decide +kernel), ev_has_in (k := 23) (by decide +kernel), ev_has_in (k := 300) (by decide +kernel), ev_has_in (k := 301) (by decide +kernel), ⟨by decide +kernel, by decide +kernel, by decide +kernel⟩, rfl, by decide⟩
def tb_X4_set : ev_T := [(0, .iload_n 1, 1, 0, 1, 0, .null),
  (1, .invokestatic 114, 4, 0, 0, 0, .null),
  (4, .ifCond .ne 13, 7, 0, 17, 0, .null),
  (7, .new 63, 10, 0, 0, 0, .null),
  (10, .dup, 11, 0, 0, 0, .null),
  (13, .invokespecial 67, 16, 0, 0, 0, .null),
  (16, .athrow, 17, 0, 0, 0, .null),
  (17, .iload_n 2, 18, 0, 2, 0, .null),
  (18, .ifCond .lt 11, 21, 0, 29, 0, .null),
  (21, .iload_n 2, 22, 0, 2, 0, .null),
  (22, .iload_n 1, 23, 0, 1, 0, .null),
  (23, .invokestatic 119, 26, 0, 0, 0, .null),
  (26, .if_icmp .le 13, 29, 0, 39, 0, .null),
  (29, .new 33, 32, 0, 0, 0, .null),
  (32, .dup, 33, 0, 0, 0, .null),
  (35, .invokespecial 37, 38, 0, 0, 0, .null),
  (38, .athrow, 39, 0, 0, 0, .null),
  (39, .aload_n 0, 40, 0, 0, 0, .null),
  (40, .invokevirtual 49, 43, 0, 0, 0, .null),
  (43, .aload_n 0, 44, 0, 0, 0, .null),
  (44, .getfield 12, 47, 167, 4, 0, .null),
  (47, .getfield 124, 50, 99, 3, 7, .null),
  (50, .iload_n 1, 51, 0, 1, 0, .null),
  (51, .iaload, 52, 0, 0, 0, .null),
  (52, .istore_n 3, 53, 0, 3, 0, .null),
  (53, .aload_n 0, 54, 0, 0, 0, .null),
  (54, .getfield 12, 57, 167, 4, 0, .null),
  (57, .getfield 124, 60, 99, 3, 7, .null),
  (60, .iload_n 1, 61, 0, 1, 0, .null),
  (61, .iload_n 2, 62, 0, 2, 0, .null),
  (62, .iastore, 63, 0, 0, 0, .null),
  (63, .iload_n 3, 64, 0, 3, 0, .null),
  (64, .ireturn, 65, 0, 0, 0, .null)]
def mm_X4_set : ev_M := (RX4, "set", cX4_set, 4, (some .int), tb_X4_set, 6, 160, 0, 0)
set_option maxRecDepth 100000 in
theorem ok_X4_set : ev_OK mm_X4_set := by unfold ev_OK; decide +kernel
theorem cv_X4_set : ev_CV yX4_set mm_X4_set 4 2 := ⟨ev_has_in (k := 341) (by decide +kernel), ev_has_in (k := 23) (by decide +kernel), ev_has_in (k := 339) (by decide +kernel), ev_has_in (k := 340) (by decide +kernel), ⟨by decide +kernel, by decide +kernel, by decide +kernel⟩, rfl, by decide⟩
def tb_X4_pass : ev_T := [(0, .iload_n 1, 1, 0, 1, 0, .null),
  (1, .iconst 1, 2, 0, 0, 0, .int 1),
  (2, .if_icmp .lt 9, 5, 0, 11, 0, .null),
  (5, .iload_n 1, 6, 0, 1, 0, .null),
  (6, .bipush 100, 8, 0, 0, 0, .int 100),
  (8, .if_icmp .le 13, 11, 0, 21, 0, .null),
  (11, .new 33, 14, 0, 0, 0, .null),
  (14, .dup, 15, 0, 0, 0, .null),
  (17, .invokespecial 37, 20, 0, 0, 0, .null),
  (20, .athrow, 21, 0, 0, 0, .null),
  (21, .aload_n 0, 22, 0, 0, 0, .null),
  (22, .getfield 12, 25, 167, 4, 0, .null),
  (25, .getfield 130, 28, 86, 3, 0, .null),
  (28, .iload_n 1, 29, 0, 1, 0, .null),
  (29, .iadd, 30, 0, 0, 0, .null),
  (30, .sipush 5000, 33, 0, 0, 0, .int 5000),
  (33, .if_icmp .le 13, 36, 0, 46, 0, .null),
  (36, .new 44, 39, 0, 0, 0, .null),
  (39, .dup, 40, 0, 0, 0, .null),
  (42, .invokespecial 48, 45, 0, 0, 0, .null),
  (45, .athrow, 46, 0, 0, 0, .null),
  (46, .aload_n 0, 47, 0, 0, 0, .null),
  (47, .invokevirtual 49, 50, 0, 0, 0, .null),
  (50, .aload_n 0, 51, 0, 0, 0, .null),
  (51, .getfield 12, 54, 167, 4, 0, .null),
  (54, .iload_n 1, 55, 0, 1, 0, .null),
  (55, .invokevirtual 135, 58, 0, 0, 0, .null),
  (58, .ireturn, 59, 0, 0, 0, .null)]
def mm_X4_pass : ev_M := (RX4, "pass", cX4_pass, 2, (some .int), tb_X4_pass, 6, 186, 0, 0)
set_option maxRecDepth 100000 in
theorem ok_X4_pass : ev_OK mm_X4_pass := by unfold ev_OK; decide +kernel
theorem cv_X4_pass : ev_CV yX4_pass mm_X4_pass 4 1 := ⟨ev_has_in (k := 353) (by decide +kernel), ev_has_in (k := 23) (by decide +kernel), ev_has_in (k := 351) (by decide +kernel), ev_has_in (k := 352) (by decide +kernel), ⟨by decide +kernel, by decide +kernel, by decide +kernel⟩, rfl, by decide⟩
def tb_X4_trial : ev_T := [(0, .aload_n 0, 1, 0, 0, 0, .null),
  (1, .invokevirtual 49, 4, 0, 0, 0, .null),
  (4, .aload_n 0, 5, 0, 0, 0, .null),
  (5, .getfield 12, 8, 167, 4, 0, .null),
  (8, .invokevirtual 138, 11, 0, 0, 0, .null),
  (11, .ireturn, 12, 0, 0, 0, .null)]
def mm_X4_trial : ev_M := (RX4, "trial", cX4_trial, 1, (some .int), tb_X4_trial, 5, 162, 0, 0)
set_option maxRecDepth 100000 in
theorem ok_X4_trial : ev_OK mm_X4_trial := by unfold ev_OK; decide +kernel
theorem cv_X4_trial : ev_CV yX4_trial mm_X4_trial 4 0 := ⟨ev_has_in (k := 463) (by decide +kernel), ev_has_in (k := 23) (by decide +kernel), ev_has_in (k := 461) (by decide +kernel), ev_has_in (k := 462) (by decide +kernel), ⟨by decide +kernel, by decide +kernel, by decide +kernel⟩, rfl, by decide⟩
def tb_X4_thing : ev_T := [(0, .aload_n 0, 1, 0, 0, 0, .null),
  (1, .iload_n 1, 2, 0, 1, 0, .null),
  (2, .invokevirtual 77, 5, 0, 0, 0, .null),
  (5, .ifCond .ne 13, 8, 0, 18, 0, .null),
  (8, .new 63, 11, 0, 0, 0, .null),
  (11, .dup, 12, 0, 0, 0, .null),
  (14, .invokespecial 67, 17, 0, 0, 0, .null),
  (17, .athrow, 18, 0, 0, 0, .null),
  (18, .iload_n 2, 19, 0, 2, 0, .null),
  (19, .ifCond .lt 9, 22, 0, 28, 0, .null),
  (22, .iload_n 2, 23, 0, 2, 0, .null),
  (23, .bipush 13, 25, 0, 0, 0, .int 13),
  (25, .if_icmp .lt 13, 28, 0, 38, 0, .null),
  (28, .new 33, 31, 0, 0, 0, .null),
  (31, .dup, 32, 0, 0, 0, .null),
  (34, .invokespecial 37, 37, 0, 0, 0, .null),
  (37, .athrow, 38, 0, 0, 0, .null),
  (38, .aload_n 0, 39, 0, 0, 0, .null),
  (39, .getfield 12, 42, 167, 4, 0, .null),
  (42, .iload_n 1, 43, 0, 1, 0, .null),
  (43, .iload_n 2, 44, 0, 2, 0, .null),
  (44, .invokevirtual 184, 47, 0, 0, 0, .null),
  (47, .ireturn, 48, 0, 0, 0, .null)]
def mm_X4_thing : ev_M := (RX4, "thing", cX4_thing, 3, (some .int), tb_X4_thing, 6, 160, 0, 0)
set_option maxRecDepth 100000 in
theorem ok_X4_thing : ev_OK mm_X4_thing := by unfold ev_OK; decide +kernel
theorem cv_X4_thing : ev_CV yX4_thing mm_X4_thing 4 2 := ⟨ev_has_in (k := 549) (by decide +kernel), ev_has_in (k := 23) (by decide +kernel), ev_has_in (k := 547) (by decide +kernel), ev_has_in (k := 548) (by decide +kernel), ⟨by decide +kernel, by decide +kernel, by decide +kernel⟩, rfl, by decide⟩
def tb_X4_slot : ev_T := [(0, .aload_n 0, 1, 0, 0, 0, .null),
  (1, .iload_n 1, 2, 0, 1, 0, .null),
  (2, .invokevirtual 77, 5, 0, 0, 0, .null),
  (5, .ifCond .eq 10, 8, 0, 15, 0, .null),
  (8, .iload_n 2, 9, 0, 2, 0, .null),
  (9, .invokestatic 80, 12, 0, 0, 0, .null),
  (12, .ifCond .ne 13, 15, 0, 25, 0, .null),
  (15, .new 63, 18, 0, 0, 0, .null),
  (18, .dup, 19, 0, 0, 0, .null),
  (21, .invokespecial 67, 24, 0, 0, 0, .null),
  (24, .athrow, 25, 0, 0, 0, .null),
  (25, .aload_n 0, 26, 0, 0, 0, .null),
  (26, .getfield 12, 29, 167, 4, 0, .null),
  (29, .getfield 189, 32, 109, 3, 15, .null),
  (32, .iload_n 1, 33, 0, 1, 0, .null),
  (33, .iload_n 2, 34, 0, 2, 0, .null),
  (34, .invokestatic 90, 37, 0, 0, 0, .null),
  (37, .invokevirtual 193, 40, 0, 0, 0, .null),
  (40, .ireturn, 41, 0, 0, 0, .null)]
def mm_X4_slot : ev_M := (RX4, "slot", cX4_slot, 3, (some .int), tb_X4_slot, 6, 160, 0, 0)
set_option maxRecDepth 100000 in
theorem ok_X4_slot : ev_OK mm_X4_slot := by unfold ev_OK; decide +kernel
theorem cv_X4_slot : ev_CV yX4_slot mm_X4_slot 4 2 := ⟨ev_has_in (k := 586) (by decide +kernel), ev_has_in (k := 23) (by decide +kernel), ev_has_in (k := 584) (by decide +kernel), ev_has_in (k := 585) (by decide +kernel), ⟨by decide +kernel, by decide +kernel, by decide +kernel⟩, rfl, by decide⟩
def tb_X4_hand : ev_T := [(0, .iload_n 1, 1, 0, 1, 0, .null),
  (1, .invokestatic 56, 4, 0, 0, 0, .null),
  (4, .ifCond .ne 13, 7, 0, 17, 0, .null),
  (7, .new 63, 10, 0, 0, 0, .null),
  (10, .dup, 11, 0, 0, 0, .null),
  (13, .invokespecial 67, 16, 0, 0, 0, .null),
  (16, .athrow, 17, 0, 0, 0, .null),
  (17, .aload_n 0, 18, 0, 0, 0, .null),
  (18, .getfield 12, 21, 167, 4, 0, .null),
  (21, .getfield 189, 24, 109, 3, 15, .null),
  (24, .iload_n 1, 25, 0, 1, 0, .null),
  (25, .invokevirtual 193, 28, 0, 0, 0, .null),
  (28, .ireturn, 29, 0, 0, 0, .null)]
def mm_X4_hand : ev_M := (RX4, "hand", cX4_hand, 2, (some .int), tb_X4_hand, 6, 160, 0, 0)
set_option maxRecDepth 100000 in
theorem ok_X4_hand : ev_OK mm_X4_hand := by unfold ev_OK; decide +kernel
theorem cv_X4_hand : ev_CV yX4_hand mm_X4_hand 4 1 := ⟨ev_has_in (k := 592) (by decide +kernel), ev_has_in (k := 23) (by decide +kernel), ev_has_in (k := 590) (by decide +kernel), ev_has_in (k := 591) (by decide +kernel), ⟨by decide +kernel, by decide +kernel, by decide +kernel⟩, rfl, by decide⟩
def tb_X4_report : ev_T := [(0, .iload_n 1, 1, 0, 1, 0, .null),
  (1, .ifCond .lt 17, 4, 0, 18, 0, .null),
  (4, .iload_n 1, 5, 0, 1, 0, .null),
  (5, .aload_n 0, 6, 0, 0, 0, .null),
  (6, .getfield 12, 9, 167, 4, 0, .null),
  (9, .getfield 200, 12, 111, 3, 16, .null),
  (12, .invokevirtual 204, 15, 0, 0, 0, .null),
  (15, .if_icmp .lt 13, 18, 0, 28, 0, .null),
  (18, .new 63, 21, 0, 0, 0, .null),
  (21, .dup, 22, 0, 0, 0, .null),
  (24, .invokespecial 67, 27, 0, 0, 0, .null),
  (27, .athrow, 28, 0, 0, 0, .null),
  (28, .iload_n 2, 29, 0, 2, 0, .null),
  (29, .ifCond .lt 8, 32, 0, 37, 0, .null),
  (32, .iload_n 2, 33, 0, 2, 0, .null),
  (33, .iconst 5, 34, 0, 0, 0, .int 5),
  (34, .if_icmp .lt 13, 37, 0, 47, 0, .null),
  (37, .new 33, 40, 0, 0, 0, .null),
  (40, .dup, 41, 0, 0, 0, .null),
  (43, .invokespecial 37, 46, 0, 0, 0, .null),
  (46, .athrow, 47, 0, 0, 0, .null),
  (47, .aload_n 0, 48, 0, 0, 0, .null),
  (48, .getfield 12, 51, 167, 4, 0, .null),
  (51, .getfield 200, 54, 111, 3, 16, .null),
  (54, .iload_n 1, 55, 0, 1, 0, .null),
  (55, .iload_n 2, 56, 0, 2, 0, .null),
  (56, .invokevirtual 213, 59, 0, 0, 0, .null),
  (59, .ireturn, 60, 0, 0, 0, .null)]
def mm_X4_report : ev_M := (RX4, "report", cX4_report, 3, (some .int), tb_X4_report, 6, 160, 0, 0)
set_option maxRecDepth 100000 in
theorem ok_X4_report : ev_OK mm_X4_report := by unfold ev_OK; decide +kernel
theorem cv_X4_report : ev_CV yX4_report mm_X4_report 4 2 := ⟨ev_has_in (k := 597) (by decide +kernel), ev_has_in (k := 23) (by decide +kernel), ev_has_in (k := 595) (by decide +kernel), ev_has_in (k := 596) (by decide +kernel), ⟨by decide +kernel, by decide +kernel, by decide +kernel⟩, rfl, by decide⟩
def tb_X4_count : ev_T := [(0, .iload_n 1, 1, 0, 1, 0, .null),
  (1, .ifCond .lt 9, 4, 0, 10, 0, .null),
  (4, .iload_n 1, 5, 0, 1, 0, .null),
  (5, .bipush 14, 7, 0, 0, 0, .int 14),
  (7, .if_icmp .lt 13, 10, 0, 20, 0, .null),
  (10, .new 33, 13, 0, 0, 0, .null),
  (13, .dup, 14, 0, 0, 0, .null),
  (16, .invokespecial 37, 19, 0, 0, 0, .null),
  (19, .athrow, 20, 0, 0, 0, .null),
  (20, .iload_n 1, 21, 0, 1, 0, .null),
  (21, .bipush 13, 23, 0, 0, 0, .int 13),
  (23, .if_icmp .ne 10, 26, 0, 33, 0, .null),
  (26, .aload_n 0, 27, 0, 0, 0, .null),
  (27, .getfield 173, 30, 171, 4, 4, .null),
  (30, .goto 11, 33, 0, 41, 0, .null),
  (33, .aload_n 0, 34, 0, 0, 0, .null),
  (34, .getfield 12, 37, 167, 4, 0, .null),
  (37, .iload_n 1, 38, 0, 1, 0, .null),
  (38, .invokevirtual 226, 41, 0, 0, 0, .null),
  (41, .ireturn, 42, 0, 0, 0, .null)]
def mm_X4_count : ev_M := (RX4, "count", cX4_count, 2, (some .int), tb_X4_count, 6, 160, 0, 0)
set_option maxRecDepth 100000 in
theorem ok_X4_count : ev_OK mm_X4_count := by unfold ev_OK; decide +kernel
theorem cv_X4_count : ev_CV yX4_count mm_X4_count 4 1 := ⟨ev_has_in (k := 637) (by decide +kernel), ev_has_in (k := 23) (by decide +kernel), ev_has_in (k := 635) (by decide +kernel), ev_has_in (k := 636) (by decide +kernel), ⟨by decide +kernel, by decide +kernel, by decide +kernel⟩, rfl, by decide⟩
def tb_X4_ifPassed : ev_T := [(0, .iload_n 1, 1, 0, 1, 0, .null),
  (1, .iconst 1, 2, 0, 0, 0, .int 1),
  (2, .if_icmp .lt 18, 5, 0, 20, 0, .null),
  (5, .iload_n 1, 6, 0, 1, 0, .null),
  (6, .bipush 100, 8, 0, 0, 0, .int 100),
  (8, .if_icmp .gt 12, 11, 0, 20, 0, .null),
  (11, .iload_n 2, 12, 0, 2, 0, .null),
  (12, .ifCond .lt 8, 15, 0, 20, 0, .null),
  (15, .iload_n 2, 16, 0, 2, 0, .null),
  (16, .iconst 3, 17, 0, 0, 0, .int 3),
  (17, .if_icmp .le 13, 20, 0, 30, 0, .null),
  (20, .new 33, 23, 0, 0, 0, .null),
  (23, .dup, 24, 0, 0, 0, .null),
  (26, .invokespecial 37, 29, 0, 0, 0, .null),
  (29, .athrow, 30, 0, 0, 0, .null),
  (30, .aload_n 0, 31, 0, 0, 0, .null),
  (31, .iload_n 1, 32, 0, 1, 0, .null),
  (32, .invokevirtual 231, 35, 0, 0, 0, .null),
  (35, .aload_n 0, 36, 0, 0, 0, .null),
  (36, .iload_n 2, 37, 0, 2, 0, .null),
  (37, .invokevirtual 235, 40, 0, 0, 0, .null),
  (40, .ireturn, 41, 0, 0, 0, .null)]
def mm_X4_ifPassed : ev_M := (RX4, "ifPassed", cX4_ifPassed, 3, (some .int), tb_X4_ifPassed, 7, 207, 0, 0)
set_option maxRecDepth 100000 in
theorem ok_X4_ifPassed : ev_OK mm_X4_ifPassed := by unfold ev_OK; decide +kernel
theorem cv_X4_ifPassed : ev_CV yX4_ifPassed mm_X4_ifPassed 4 2 := ⟨ev_has_in (k := 648) (by decide +kernel), ev_has_in (k := 23) (by decide +kernel), ev_has_in (k := 646) (by decide +kernel), ev_has_in (k := 647) (by decide +kernel), ⟨by decide +kernel, by decide +kernel, by decide +kernel⟩, rfl, by decide⟩
def tb_X4_endsIn : ev_T := [(0, .aload_n 0, 1, 0, 0, 0, .null),
  (1, .iload_n 1, 2, 0, 1, 0, .null),
  (2, .invokevirtual 77, 5, 0, 0, 0, .null),
  (5, .ifCond .ne 13, 8, 0, 18, 0, .null),
  (8, .new 63, 11, 0, 0, 0, .null),
  (11, .dup, 12, 0, 0, 0, .null),
  (14, .invokespecial 67, 17, 0, 0, 0, .null),
  (17, .athrow, 18, 0, 0, 0, .null),
  (18, .aload_n 0, 19, 0, 0, 0, .null),
  (19, .sipush 200, 22, 0, 0, 0, .int 200),
  (22, .invokevirtual 231, 25, 0, 0, 0, .null),
  (25, .aload_n 0, 26, 0, 0, 0, .null),
  (26, .iload_n 1, 27, 0, 1, 0, .null),
  (27, .invokevirtual 238, 30, 0, 0, 0, .null),
  (30, .ireturn, 31, 0, 0, 0, .null)]
def mm_X4_endsIn : ev_M := (RX4, "endsIn", cX4_endsIn, 2, (some .int), tb_X4_endsIn, 7, 207, 0, 0)
set_option maxRecDepth 100000 in
theorem ok_X4_endsIn : ev_OK mm_X4_endsIn := by unfold ev_OK; decide +kernel
theorem cv_X4_endsIn : ev_CV yX4_endsIn mm_X4_endsIn 4 1 := ⟨ev_has_in (k := 662) (by decide +kernel), ev_has_in (k := 23) (by decide +kernel), ev_has_in (k := 660) (by decide +kernel), ev_has_in (k := 661) (by decide +kernel), ⟨by decide +kernel, by decide +kernel, by decide +kernel⟩, rfl, by decide⟩
def tb_X4_ifTried : ev_T := [(0, .iload_n 1, 1, 0, 1, 0, .null),
  (1, .ifCond .lt 8, 4, 0, 9, 0, .null),
  (4, .iload_n 1, 5, 0, 1, 0, .null),
  (5, .iconst 2, 6, 0, 0, 0, .int 2),
  (6, .if_icmp .le 13, 9, 0, 19, 0, .null),
  (9, .new 33, 12, 0, 0, 0, .null),
  (12, .dup, 13, 0, 0, 0, .null),
  (15, .invokespecial 37, 18, 0, 0, 0, .null),
  (18, .athrow, 19, 0, 0, 0, .null),
  (19, .aload_n 0, 20, 0, 0, 0, .null),
  (20, .invokevirtual 243, 23, 0, 0, 0, .null),
  (23, .aload_n 0, 24, 0, 0, 0, .null),
  (24, .iload_n 1, 25, 0, 1, 0, .null),
  (25, .invokevirtual 246, 28, 0, 0, 0, .null),
  (28, .ireturn, 29, 0, 0, 0, .null)]
def mm_X4_ifTried : ev_M := (RX4, "ifTried", cX4_ifTried, 2, (some .int), tb_X4_ifTried, 6, 182, 0, 0)
set_option maxRecDepth 100000 in
theorem ok_X4_ifTried : ev_OK mm_X4_ifTried := by unfold ev_OK; decide +kernel
theorem cv_X4_ifTried : ev_CV yX4_ifTried mm_X4_ifTried 4 1 := ⟨ev_has_in (k := 682) (by decide +kernel), ev_has_in (k := 23) (by decide +kernel), ev_has_in (k := 680) (by decide +kernel), ev_has_in (k := 681) (by decide +kernel), ⟨by decide +kernel, by decide +kernel, by decide +kernel⟩, rfl, by decide⟩
def tb_X4_ring : ev_T := [(0, .aload_n 0, 1, 0, 0, 0, .null),
  (1, .iload_n 1, 2, 0, 1, 0, .null),
  (2, .invokevirtual 77, 5, 0, 0, 0, .null),
  (5, .ifCond .ne 13, 8, 0, 18, 0, .null),
  (8, .new 63, 11, 0, 0, 0, .null),
  (11, .dup, 12, 0, 0, 0, .null),
  (14, .invokespecial 67, 17, 0, 0, 0, .null),
  (17, .athrow, 18, 0, 0, 0, .null),
  (18, .aload_n 0, 19, 0, 0, 0, .null),
  (19, .getfield 12, 22, 167, 4, 0, .null),
  (22, .getfield 189, 25, 109, 3, 15, .null),
  (25, .iload_n 1, 26, 0, 1, 0, .null),
  (26, .invokevirtual 249, 29, 0, 0, 0, .null),
  (29, .ireturn, 30, 0, 0, 0, .null)]
def mm_X4_ring : ev_M := (RX4, "ring", cX4_ring, 2, (some .int), tb_X4_ring, 6, 160, 0, 0)
set_option maxRecDepth 100000 in
theorem ok_X4_ring : ev_OK mm_X4_ring := by unfold ev_OK; decide +kernel
theorem cv_X4_ring : ev_CV yX4_ring mm_X4_ring 4 1 := ⟨ev_has_in (k := 577) (by decide +kernel), ev_has_in (k := 23) (by decide +kernel), ev_has_in (k := 575) (by decide +kernel), ev_has_in (k := 576) (by decide +kernel), ⟨by decide +kernel, by decide +kernel, by decide +kernel⟩, rfl, by decide⟩
def tb_X4_bestCut : ev_T := [(0, .iload_n 1, 1, 0, 1, 0, .null),
  (1, .ifCond .eq 18, 4, 0, 19, 0, .null),
  (4, .iload_n 1, 5, 0, 1, 0, .null),
  (5, .iconst 1, 6, 0, 0, 0, .int 1),
  (6, .if_icmp .eq 13, 9, 0, 19, 0, .null),
  (9, .new 33, 12, 0, 0, 0, .null),
  (12, .dup, 13, 0, 0, 0, .null),
  (15, .invokespecial 37, 18, 0, 0, 0, .null),
  (18, .athrow, 19, 0, 0, 0, .null),
  (19, .aload_n 0, 20, 0, 0, 0, .null),
  (20, .getfield 12, 23, 167, 4, 0, .null),
  (23, .getfield 189, 26, 109, 3, 15, .null),
  (26, .invokevirtual 254, 29, 0, 0, 0, .null),
  (29, .istore_n 2, 30, 0, 2, 0, .null),
  (30, .iload_n 1, 31, 0, 1, 0, .null),
  (31, .ifCond .ne 5, 34, 0, 36, 0, .null),
  (34, .iload_n 2, 35, 0, 2, 0, .null),
  (35, .ireturn, 36, 0, 0, 0, .null),
  (36, .iload_n 2, 37, 0, 2, 0, .null),
  (37, .iconst (-1), 38, 0, 0, 0, .int (-1)),
  (38, .if_icmp .ne 7, 41, 0, 45, 0, .null),
  (41, .iconst 0, 42, 0, 0, 0, .int 0),
  (42, .goto 14, 45, 0, 56, 0, .null),
  (45, .aload_n 0, 46, 0, 0, 0, .null),
  (46, .getfield 12, 49, 167, 4, 0, .null),
  (49, .getfield 189, 52, 109, 3, 15, .null),
  (52, .iload_n 2, 53, 0, 2, 0, .null),
  (53, .invokevirtual 257, 56, 0, 0, 0, .null),
  (56, .ireturn, 57, 0, 0, 0, .null)]
def mm_X4_bestCut : ev_M := (RX4, "bestCut", cX4_bestCut, 3, (some .int), tb_X4_bestCut, 6, 160, 0, 0)
set_option maxRecDepth 100000 in
theorem ok_X4_bestCut : ev_OK mm_X4_bestCut := by unfold ev_OK; decide +kernel
theorem cv_X4_bestCut : ev_CV yX4_bestCut mm_X4_bestCut 4 1 := ⟨ev_has_in (k := 695) (by decide +kernel), ev_has_in (k := 23) (by decide +kernel), ev_has_in (k := 693) (by decide +kernel), ev_has_in (k := 694) (by decide +kernel), ⟨by decide +kernel, by decide +kernel, by decide +kernel⟩, rfl, by decide⟩
def tb_X4_bears : ev_T := [(0, .aload_n 0, 1, 0, 0, 0, .null),
  (1, .iload_n 1, 2, 0, 1, 0, .null),
  (2, .invokevirtual 77, 5, 0, 0, 0, .null),
  (5, .ifCond .ne 13, 8, 0, 18, 0, .null),
  (8, .new 63, 11, 0, 0, 0, .null),
  (11, .dup, 12, 0, 0, 0, .null),
  (14, .invokespecial 67, 17, 0, 0, 0, .null),
  (17, .athrow, 18, 0, 0, 0, .null),
  (18, .aload_n 0, 19, 0, 0, 0, .null),
  (19, .iload_n 1, 20, 0, 1, 0, .null),
  (20, .invokevirtual 260, 23, 0, 0, 0, .null),
  (23, .ireturn, 24, 0, 0, 0, .null)]
def mm_X4_bears : ev_M := (RX4, "bears", cX4_bears, 2, (some .int), tb_X4_bears, 7, 208, 0, 0)
set_option maxRecDepth 100000 in
theorem ok_X4_bears : ev_OK mm_X4_bears := by unfold ev_OK; decide +kernel
theorem cv_X4_bears : ev_CV yX4_bears mm_X4_bears 4 1 := ⟨ev_has_in (k := 670) (by decide +kernel), ev_has_in (k := 23) (by decide +kernel), ev_has_in (k := 668) (by decide +kernel), ev_has_in (k := 669) (by decide +kernel), ⟨by decide +kernel, by decide +kernel, by decide +kernel⟩, rfl, by decide⟩
def tb_X4_reachedShare : ev_T := [(0, .aload_n 0, 1, 0, 0, 0, .null),
  (1, .getfield 12, 4, 167, 4, 0, .null),
  (4, .iconst 2, 5, 0, 0, 0, .int 2),
  (5, .invokevirtual 226, 8, 0, 0, 0, .null),
  (8, .istore_n 1, 9, 0, 1, 0, .null),
  (9, .iload_n 1, 10, 0, 1, 0, .null),
  (10, .ifCond .ne 7, 13, 0, 17, 0, .null),
  (13, .dconst 0, 14, 0, 0, 0, .double FP.dconst0),
  (14, .goto 15, 17, 0, 29, 0, .null),
  (17, .aload_n 0, 18, 0, 0, 0, .null),
  (18, .getfield 12, 21, 167, 4, 0, .null),
  (21, .iconst 3, 22, 0, 0, 0, .int 3),
  (22, .invokevirtual 226, 25, 0, 0, 0, .null),
  (25, .i2d, 26, 0, 0, 0, .null),
  (26, .iload_n 1, 27, 0, 1, 0, .null),
  (27, .i2d, 28, 0, 0, 0, .null),
  (28, .ddiv, 29, 0, 0, 0, .null),
  (29, .dreturn, 30, 0, 0, 0, .null)]
def mm_X4_reachedShare : ev_M := (RX4, "reachedShare", cX4_reachedShare, 2, (some .double), tb_X4_reachedShare, 5, 114, 0, 0)
set_option maxRecDepth 100000 in
theorem ok_X4_reachedShare : ev_OK mm_X4_reachedShare := by unfold ev_OK; decide +kernel
theorem cv_X4_reachedShare : ev_CV yX4_reachedShare mm_X4_reachedShare 4 0 := ⟨ev_has_in (k := 608) (by decide +kernel), ev_has_in (k := 23) (by decide +kernel), ev_has_in (k := 606) (by decide +kernel), ev_has_in (k := 607) (by decide +kernel), ⟨by decide +kernel, by decide +kernel, by decide +kernel⟩, rfl, by decide⟩
def tb_X4_foresee : ev_T := [(0, .aload_n 0, 1, 0, 0, 0, .null),
  (1, .getfield 16, 4, 168, 4, 1, .null),
  (4, .aload_n 0, 5, 0, 0, 0, .null),
  (5, .getfield 12, 8, 167, 4, 0, .null),
  (8, .invokevirtual 178, 11, 0, 0, 0, .null),
  (11, .aload_n 0, 12, 0, 0, 0, .null),
  (12, .getfield 16, 15, 168, 4, 1, .null),
  (15, .iload_n 1, 16, 0, 1, 0, .null),
  (16, .invokevirtual 135, 19, 0, 0, 0, .null),
  (19, .pop, 20, 0, 0, 0, .null),
  (20, .return_, 21, 0, 0, 0, .null)]
def mm_X4_foresee : ev_M := (RX4, "foresee", cX4_foresee, 2, none, tb_X4_foresee, 6, 186, 0, 0)
set_option maxRecDepth 100000 in
theorem ok_X4_foresee : ev_OK mm_X4_foresee := by unfold ev_OK; decide +kernel
theorem cv_X4_foresee : ev_CV yX4_foresee mm_X4_foresee 4 1 := ⟨ev_has_in (k := 653) (by decide +kernel), ev_has_in (k := 23) (by decide +kernel), ev_has_in (k := 652) (by decide +kernel), ev_has_in (k := 16) (by decide +kernel), ⟨by decide +kernel, by decide +kernel, by decide +kernel⟩, rfl, by decide⟩
def tb_X4_passedPart : ev_T := [(0, .iload_n 1, 1, 0, 1, 0, .null),
  (1, .tableswitch 76 0 2 #[27, 43, 65], 28, 0, 27, 1, .null),
  (28, .aload_n 0, 29, 0, 0, 0, .null),
  (29, .getfield 16, 32, 168, 4, 1, .null),
  (32, .getfield 216, 35, 96, 3, 5, .null),
  (35, .aload_n 0, 36, 0, 0, 0, .null),
  (36, .getfield 12, 39, 167, 4, 0, .null),
  (39, .getfield 216, 42, 96, 3, 5, .null),
  (42, .isub, 43, 0, 0, 0, .null),
  (43, .ireturn, 44, 0, 0, 0, .null),
  (44, .aload_n 0, 45, 0, 0, 0, .null),
  (45, .getfield 16, 48, 168, 4, 1, .null),
  (48, .getfield 304, 51, 94, 3, 4, .null),
  (51, .invokestatic 109, 54, 0, 0, 0, .null),
  (54, .aload_n 0, 55, 0, 0, 0, .null),
  (55, .getfield 12, 58, 167, 4, 0, .null),
  (58, .getfield 304, 61, 94, 3, 4, .null),
  (61, .invokestatic 109, 64, 0, 0, 0, .null),
  (64, .isub, 65, 0, 0, 0, .null),
  (65, .ireturn, 66, 0, 0, 0, .null),
  (66, .aload_n 0, 67, 0, 0, 0, .null),
  (67, .getfield 16, 70, 168, 4, 1, .null),
  (70, .getfield 200, 73, 111, 3, 16, .null),
  (73, .invokevirtual 204, 76, 0, 0, 0, .null),
  (76, .ireturn, 77, 0, 0, 0, .null),
  (77, .aload_n 0, 78, 0, 0, 0, .null),
  (78, .getfield 16, 81, 168, 4, 1, .null),
  (81, .getfield 307, 84, 90, 3, 2, .null),
  (84, .aload_n 0, 85, 0, 0, 0, .null),
  (85, .getfield 16, 88, 168, 4, 1, .null),
  (88, .getfield 189, 91, 109, 3, 15, .null),
  (91, .invokevirtual 310, 94, 0, 0, 0, .null),
  (94, .iconst (-1), 95, 0, 0, 0, .int (-1)),
  (95, .ixor, 96, 0, 0, 0, .null),
  (96, .iand, 97, 0, 0, 0, .null),
  (97, .invokestatic 109, 100, 0, 0, 0, .null),
  (100, .ireturn, 101, 0, 0, 0, .null)]
def mm_X4_passedPart : ev_M := (RX4, "passedPart", cX4_passedPart, 2, (some .int), tb_X4_passedPart, 4, 93, 0, 0)
set_option maxRecDepth 100000 in
theorem ok_X4_passedPart : ev_OK mm_X4_passedPart := by unfold ev_OK; decide +kernel
theorem cv_X4_passedPart : ev_CV yX4_passedPart mm_X4_passedPart 4 1 := ⟨ev_has_in (k := 657) (by decide +kernel), ev_has_in (k := 23) (by decide +kernel), ev_has_in (k := 656) (by decide +kernel), ev_has_in (k := 17) (by decide +kernel), ⟨by decide +kernel, by decide +kernel, by decide +kernel⟩, rfl, by decide⟩
def tb_X4_foreseenEnd : ev_T := [(0, .aload_n 0, 1, 0, 0, 0, .null),
  (1, .getfield 12, 4, 167, 4, 0, .null),
  (4, .iload_n 1, 5, 0, 1, 0, .null),
  (5, .invokevirtual 85, 8, 0, 0, 0, .null),
  (8, .ifCond .ne 5, 11, 0, 13, 0, .null),
  (11, .iconst 0, 12, 0, 0, 0, .int 0),
  (12, .ireturn, 13, 0, 0, 0, .null),
  (13, .aload_n 0, 14, 0, 0, 0, .null),
  (14, .getfield 16, 17, 168, 4, 1, .null),
  (17, .iload_n 1, 18, 0, 1, 0, .null),
  (18, .invokevirtual 85, 21, 0, 0, 0, .null),
  (21, .ifCond .eq 7, 24, 0, 28, 0, .null),
  (24, .iconst (-1), 25, 0, 0, 0, .int (-1)),
  (25, .goto 20, 28, 0, 45, 0, .null),
  (28, .aload_n 0, 29, 0, 0, 0, .null),
  (29, .getfield 16, 32, 168, 4, 1, .null),
  (32, .getfield 313, 35, 105, 3, 12, .null),
  (35, .iload_n 1, 36, 0, 1, 0, .null),
  (36, .iaload, 37, 0, 0, 0, .null),
  (37, .aload_n 0, 38, 0, 0, 0, .null),
  (38, .getfield 12, 41, 167, 4, 0, .null),
  (41, .getfield 130, 44, 86, 3, 0, .null),
  (44, .isub, 45, 0, 0, 0, .null),
  (45, .ireturn, 46, 0, 0, 0, .null)]
def mm_X4_foreseenEnd : ev_M := (RX4, "foreseenEnd", cX4_foreseenEnd, 2, (some .int), tb_X4_foreseenEnd, 2, 42, 0, 0)
set_option maxRecDepth 100000 in
theorem ok_X4_foreseenEnd : ev_OK mm_X4_foreseenEnd := by unfold ev_OK; decide +kernel
theorem cv_X4_foreseenEnd : ev_CV yX4_foreseenEnd mm_X4_foreseenEnd 4 1 := ⟨ev_has_in (k := 666) (by decide +kernel), ev_has_in (k := 23) (by decide +kernel), ev_has_in (k := 665) (by decide +kernel), ev_has_in (k := 18) (by decide +kernel), ⟨by decide +kernel, by decide +kernel, by decide +kernel⟩, rfl, by decide⟩
def tb_X4_foreseeTrial : ev_T := [(0, .aload_n 0, 1, 0, 0, 0, .null),
  (1, .getfield 16, 4, 168, 4, 1, .null),
  (4, .aload_n 0, 5, 0, 0, 0, .null),
  (5, .getfield 12, 8, 167, 4, 0, .null),
  (8, .invokevirtual 178, 11, 0, 0, 0, .null),
  (11, .aload_n 0, 12, 0, 0, 0, .null),
  (12, .getfield 16, 15, 168, 4, 1, .null),
  (15, .invokevirtual 138, 18, 0, 0, 0, .null),
  (18, .pop, 19, 0, 0, 0, .null),
  (19, .return_, 20, 0, 0, 0, .null)]
def mm_X4_foreseeTrial : ev_M := (RX4, "foreseeTrial", cX4_foreseeTrial, 1, none, tb_X4_foreseeTrial, 5, 162, 0, 0)
set_option maxRecDepth 100000 in
theorem ok_X4_foreseeTrial : ev_OK mm_X4_foreseeTrial := by unfold ev_OK; decide +kernel
theorem cv_X4_foreseeTrial : ev_CV yX4_foreseeTrial mm_X4_foreseeTrial 4 0 := ⟨ev_has_in (k := 687) (by decide +kernel), ev_has_in (k := 23) (by decide +kernel), ev_has_in (k := 686) (by decide +kernel), ev_has_in (k := 20) (by decide +kernel), ⟨by decide +kernel, by decide +kernel, by decide +kernel⟩, rfl, by decide⟩
def tb_X4_triedPart : ev_T := [(0, .iload_n 1, 1, 0, 1, 0, .null),
  (1, .lookupswitch 54 #[(0, 27), (1, 43)], 28, 0, 27, 1, .null),
  (28, .aload_n 0, 29, 0, 0, 0, .null),
  (29, .getfield 16, 32, 168, 4, 1, .null),
  (32, .getfield 216, 35, 96, 3, 5, .null),
  (35, .aload_n 0, 36, 0, 0, 0, .null),
  (36, .getfield 12, 39, 167, 4, 0, .null),
  (39, .getfield 216, 42, 96, 3, 5, .null),
  (42, .isub, 43, 0, 0, 0, .null),
  (43, .ireturn, 44, 0, 0, 0, .null),
  (44, .aload_n 0, 45, 0, 0, 0, .null),
  (45, .getfield 16, 48, 168, 4, 1, .null),
  (48, .getfield 100, 51, 92, 3, 3, .null),
  (51, .invokestatic 109, 54, 0, 0, 0, .null),
  (54, .ireturn, 55, 0, 0, 0, .null),
  (55, .aload_n 0, 56, 0, 0, 0, .null),
  (56, .getfield 16, 59, 168, 4, 1, .null),
  (59, .getfield 304, 62, 94, 3, 4, .null),
  (62, .invokestatic 109, 65, 0, 0, 0, .null),
  (65, .aload_n 0, 66, 0, 0, 0, .null),
  (66, .getfield 12, 69, 167, 4, 0, .null),
  (69, .getfield 304, 72, 94, 3, 4, .null),
  (72, .invokestatic 109, 75, 0, 0, 0, .null),
  (75, .isub, 76, 0, 0, 0, .null),
  (76, .ireturn, 77, 0, 0, 0, .null)]
def mm_X4_triedPart : ev_M := (RX4, "triedPart", cX4_triedPart, 2, (some .int), tb_X4_triedPart, 1, 20, 0, 0)
set_option maxRecDepth 100000 in
theorem ok_X4_triedPart : ev_OK mm_X4_triedPart := by unfold ev_OK; decide +kernel
theorem cv_X4_triedPart : ev_CV yX4_triedPart mm_X4_triedPart 4 1 := ⟨ev_has_in (k := 691) (by decide +kernel), ev_has_in (k := 23) (by decide +kernel), ev_has_in (k := 690) (by decide +kernel), ev_has_in (k := 21) (by decide +kernel), ⟨by decide +kernel, by decide +kernel, by decide +kernel⟩, rfl, by decide⟩
def tb_X4_slandersToEnd : ev_T := [(0, .aload_n 0, 1, 0, 0, 0, .null),
  (1, .getfield 19, 4, 169, 4, 2, .null),
  (4, .aload_n 0, 5, 0, 0, 0, .null),
  (5, .getfield 12, 8, 167, 4, 0, .null),
  (8, .invokevirtual 178, 11, 0, 0, 0, .null),
  (11, .iconst 0, 12, 0, 0, 0, .int 0),
  (12, .istore_n 2, 13, 0, 2, 0, .null),
  (13, .iload_n 2, 14, 0, 2, 0, .null),
  (14, .bipush 12, 16, 0, 0, 0, .int 12),
  (16, .if_icmp .gt 53, 19, 0, 69, 0, .null),
  (19, .aload_n 0, 20, 0, 0, 0, .null),
  (20, .getfield 16, 23, 168, 4, 1, .null),
  (23, .aload_n 0, 24, 0, 0, 0, .null),
  (24, .getfield 19, 27, 169, 4, 2, .null),
  (27, .invokevirtual 178, 30, 0, 0, 0, .null),
  (30, .aload_n 0, 31, 0, 0, 0, .null),
  (31, .getfield 16, 34, 168, 4, 1, .null),
  (34, .bipush 30, 36, 0, 0, 0, .int 30),
  (36, .invokevirtual 135, 39, 0, 0, 0, .null),
  (39, .pop, 40, 0, 0, 0, .null),
  (40, .aload_n 0, 41, 0, 0, 0, .null),
  (41, .getfield 16, 44, 168, 4, 1, .null),
  (44, .iload_n 1, 45, 0, 1, 0, .null),
  (45, .invokevirtual 85, 48, 0, 0, 0, .null),
  (48, .ifCond .ne 5, 51, 0, 53, 0, .null),
  (51, .iload_n 2, 52, 0, 2, 0, .null),
  (52, .ireturn, 53, 0, 0, 0, .null),
  (53, .aload_n 0, 54, 0, 0, 0, .null),
  (54, .getfield 19, 57, 169, 4, 2, .null),
  (57, .iload_n 1, 58, 0, 1, 0, .null),
  (58, .iconst (-1), 59, 0, 0, 0, .int (-1)),
  (59, .invokevirtual 97, 62, 0, 0, 0, .null),
  (62, .pop, 63, 0, 0, 0, .null),
  (63, .iinc 2 1, 66, 0, 2, 0, .int 1),
  (66, .goto (-53), 69, 0, 13, 0, .null),
  (69, .iconst (-1), 70, 0, 0, 0, .int (-1)),
  (70, .ireturn, 71, 0, 0, 0, .null)]
def mm_X4_slandersToEnd : ev_M := (RX4, "slandersToEnd", cX4_slandersToEnd, 3, (some .int), tb_X4_slandersToEnd, 6, 186, 0, 0)
set_option maxRecDepth 100000 in
theorem ok_X4_slandersToEnd : ev_OK mm_X4_slandersToEnd := by unfold ev_OK; decide +kernel
theorem cv_X4_slandersToEnd : ev_CV yX4_slandersToEnd mm_X4_slandersToEnd 4 1 := ⟨ev_has_in (k := 674) (by decide +kernel), ev_has_in (k := 23) (by decide +kernel), ev_has_in (k := 673) (by decide +kernel), ev_has_in (k := 19) (by decide +kernel), ⟨by decide +kernel, by decide +kernel, by decide +kernel⟩, rfl, by decide⟩
def tb_X4_save : ev_T := [(0, .aload_n 0, 1, 0, 0, 0, .null),
  (1, .getfield 173, 4, 171, 4, 4, .null),
  (4, .bipush 6, 6, 0, 0, 0, .int 6),
  (6, .if_icmp .lt 50, 9, 0, 56, 0, .null),
  (9, .aload_n 0, 10, 0, 0, 0, .null),
  (10, .getfield 22, 13, 170, 4, 3, .null),
  (13, .iconst 0, 14, 0, 0, 0, .int 0),
  (14, .aaload, 15, 0, 0, 0, .null),
  (15, .astore_n 1, 16, 0, 1, 0, .null),
  (16, .iconst 1, 17, 0, 0, 0, .int 1),
  (17, .istore_n 2, 18, 0, 2, 0, .null),
  (18, .iload_n 2, 19, 0, 2, 0, .null),
  (19, .bipush 6, 21, 0, 0, 0, .int 6),
  (21, .if_icmp .ge 23, 24, 0, 44, 0, .null),
  (24, .aload_n 0, 25, 0, 0, 0, .null),
  (25, .getfield 22, 28, 170, 4, 3, .null),
  (28, .iload_n 2, 29, 0, 2, 0, .null),
  (29, .iconst 1, 30, 0, 0, 0, .int 1),
  (30, .isub, 31, 0, 0, 0, .null),
  (31, .aload_n 0, 32, 0, 0, 0, .null),
  (32, .getfield 22, 35, 170, 4, 3, .null),
  (35, .iload_n 2, 36, 0, 2, 0, .null),
  (36, .aaload, 37, 0, 0, 0, .null),
  (37, .aastore, 38, 0, 0, 0, .null),
  (38, .iinc 2 1, 41, 0, 2, 0, .int 1),
  (41, .goto (-23), 44, 0, 18, 0, .null),
  (44, .aload_n 0, 45, 0, 0, 0, .null),
  (45, .getfield 22, 48, 170, 4, 3, .null),
  (48, .iconst 5, 49, 0, 0, 0, .int 5),
  (49, .aload_n 1, 50, 0, 1, 0, .null),
  (50, .aastore, 51, 0, 0, 0, .null),
  (51, .aload_n 0, 52, 0, 0, 0, .null),
  (52, .iconst 5, 53, 0, 0, 0, .int 5),
  (53, .putfield 173, 56, 171, 4, 4, .null),
  (56, .aload_n 0, 57, 0, 0, 0, .null),
  (57, .getfield 22, 60, 170, 4, 3, .null),
  (60, .aload_n 0, 61, 0, 0, 0, .null),
  (61, .getfield 173, 64, 171, 4, 4, .null),
  (64, .aaload, 65, 0, 0, 0, .null),
  (65, .aload_n 0, 66, 0, 0, 0, .null),
  (66, .getfield 12, 69, 167, 4, 0, .null),
  (69, .invokevirtual 178, 72, 0, 0, 0, .null),
  (72, .aload_n 0, 73, 0, 0, 0, .null),
  (73, .dup, 74, 0, 0, 0, .null),
  (74, .getfield 173, 77, 171, 4, 4, .null),
  (77, .iconst 1, 78, 0, 0, 0, .int 1),
  (78, .iadd, 79, 0, 0, 0, .null),
  (79, .putfield 173, 82, 171, 4, 4, .null),
  (82, .return_, 83, 0, 0, 0, .null)]
def mm_X4_save : ev_M := (RX4, "save", cX4_save, 3, none, tb_X4_save, 3, 102, 0, 0)
set_option maxRecDepth 100000 in
theorem ok_X4_save : ev_OK mm_X4_save := by unfold ev_OK; decide +kernel
theorem cv_X4_save : ev_CV yX4_save mm_X4_save 4 0 := ⟨ev_has_in (k := 277) (by decide +kernel), ev_has_in (k := 23) (by decide +kernel), ev_has_in (k := 276) (by decide +kernel), ev_has_in (k := 1) (by decide +kernel), ⟨by decide +kernel, by decide +kernel, by decide +kernel⟩, rfl, by decide⟩
def tb_X4_isThing : ev_T := [(0, .iload_n 1, 1, 0, 1, 0, .null),
  (1, .ifCond .lt 18, 4, 0, 19, 0, .null),
  (4, .iload_n 1, 5, 0, 1, 0, .null),
  (5, .aload_n 0, 6, 0, 0, 0, .null),
  (6, .getfield 12, 9, 167, 4, 0, .null),
  (9, .getfield 40, 12, 88, 3, 1, .null),
  (12, .if_icmp .ge 7, 15, 0, 19, 0, .null),
  (15, .iconst 1, 16, 0, 0, 0, .int 1),
  (16, .goto 4, 19, 0, 20, 0, .null),
  (19, .iconst 0, 20, 0, 0, 0, .int 0),
  (20, .ireturn, 21, 0, 0, 0, .null)]
def mm_X4_isThing : ev_M := (RX4, "isThing", cX4_isThing, 2, (some .boolean), tb_X4_isThing, 0, 0, 0, 0)
set_option maxRecDepth 100000 in
theorem ok_X4_isThing : ev_OK mm_X4_isThing := by unfold ev_OK; decide +kernel
theorem cv_X4_isThing : ev_CV yX4_isThing mm_X4_isThing 4 1 := ⟨ev_has_in (k := 306) (by decide +kernel), ev_has_in (k := 23) (by decide +kernel), ev_has_in (k := 305) (by decide +kernel), ev_has_in (k := 2) (by decide +kernel), ⟨by decide +kernel, by decide +kernel, by decide +kernel⟩, rfl, by decide⟩
def tb_X4_isThingOrNone : ev_T := [(0, .iload_n 1, 1, 0, 1, 0, .null),
  (1, .iconst (-1), 2, 0, 0, 0, .int (-1)),
  (2, .if_icmp .eq 11, 5, 0, 13, 0, .null),
  (5, .aload_n 0, 6, 0, 0, 0, .null),
  (6, .iload_n 1, 7, 0, 1, 0, .null),
  (7, .invokevirtual 77, 10, 0, 0, 0, .null),
  (10, .ifCond .eq 7, 13, 0, 17, 0, .null),
  (13, .iconst 1, 14, 0, 0, 0, .int 1),
  (14, .goto 4, 17, 0, 18, 0, .null),
  (17, .iconst 0, 18, 0, 0, 0, .int 0),
  (18, .ireturn, 19, 0, 0, 0, .null)]
def mm_X4_isThingOrNone : ev_M := (RX4, "isThingOrNone", cX4_isThingOrNone, 2, (some .boolean), tb_X4_isThingOrNone, 1, 21, 0, 0)
set_option maxRecDepth 100000 in
theorem ok_X4_isThingOrNone : ev_OK mm_X4_isThingOrNone := by unfold ev_OK; decide +kernel
theorem cv_X4_isThingOrNone : ev_CV yX4_isThingOrNone mm_X4_isThingOrNone 4 1 := ⟨ev_has_in (k := 489) (by decide +kernel), ev_has_in (k := 23) (by decide +kernel), ev_has_in (k := 488) (by decide +kernel), ev_has_in (k := 11) (by decide +kernel), ⟨by decide +kernel, by decide +kernel, by decide +kernel⟩, rfl, by decide⟩
def tb_X4_isHand : ev_T := [(0, .iload_n 0, 1, 0, 0, 0, .null),
  (1, .ifCond .lt 12, 4, 0, 13, 0, .null),
  (4, .iload_n 0, 5, 0, 0, 0, .null),
  (5, .iconst 4, 6, 0, 0, 0, .int 4),
  (6, .if_icmp .ge 7, 9, 0, 13, 0, .null),
  (9, .iconst 1, 10, 0, 0, 0, .int 1),
  (10, .goto 4, 13, 0, 14, 0, .null),
  (13, .iconst 0, 14, 0, 0, 0, .int 0),
  (14, .ireturn, 15, 0, 0, 0, .null)]
def mm_X4_isHand : ev_M := (RX4, "isHand", cX4_isHand, 1, (some .boolean), tb_X4_isHand, 0, 0, 0, 0)
set_option maxRecDepth 100000 in
theorem ok_X4_isHand : ev_OK mm_X4_isHand := by unfold ev_OK; decide +kernel
theorem cs_X4_isHand : ev_CS yX4_isHand mm_X4_isHand 1 := ⟨ev_has_in (k := 510) (by decide +kernel), ev_has_in (k := 23) (by decide +kernel), ev_has_in (k := 509) (by decide +kernel), ⟨by decide +kernel, by decide +kernel, by decide +kernel⟩⟩
def tb_X4_isSlot : ev_T := [(0, .iload_n 0, 1, 0, 0, 0, .null),
  (1, .ifCond .lt 12, 4, 0, 13, 0, .null),
  (4, .iload_n 0, 5, 0, 0, 0, .null),
  (5, .iconst 4, 6, 0, 0, 0, .int 4),
  (6, .if_icmp .ge 7, 9, 0, 13, 0, .null),
  (9, .iconst 1, 10, 0, 0, 0, .int 1),
  (10, .goto 4, 13, 0, 14, 0, .null),
  (13, .iconst 0, 14, 0, 0, 0, .int 0),
  (14, .ireturn, 15, 0, 0, 0, .null)]
def mm_X4_isSlot : ev_M := (RX4, "isSlot", cX4_isSlot, 1, (some .boolean), tb_X4_isSlot, 0, 0, 0, 0)
set_option maxRecDepth 100000 in
theorem ok_X4_isSlot : ev_OK mm_X4_isSlot := by unfold ev_OK; decide +kernel
theorem cs_X4_isSlot : ev_CS yX4_isSlot mm_X4_isSlot 1 := ⟨ev_has_in (k := 485) (by decide +kernel), ev_has_in (k := 23) (by decide +kernel), ev_has_in (k := 484) (by decide +kernel), ⟨by decide +kernel, by decide +kernel, by decide +kernel⟩⟩
def tb_X4_isSetting : ev_T := [(0, .iload_n 0, 1, 0, 0, 0, .null),
  (1, .ifCond .lt 12, 4, 0, 13, 0, .null),
  (4, .iload_n 0, 5, 0, 0, 0, .null),
  (5, .iconst 5, 6, 0, 0, 0, .int 5),
  (6, .if_icmp .ge 7, 9, 0, 13, 0, .null),
  (9, .iconst 1, 10, 0, 0, 0, .int 1),
  (10, .goto 4, 13, 0, 14, 0, .null),
  (13, .iconst 0, 14, 0, 0, 0, .int 0),
  (14, .ireturn, 15, 0, 0, 0, .null)]
def mm_X4_isSetting : ev_M := (RX4, "isSetting", cX4_isSetting, 1, (some .boolean), tb_X4_isSetting, 0, 0, 0, 0)
set_option maxRecDepth 100000 in
theorem ok_X4_isSetting : ev_OK mm_X4_isSetting := by unfold ev_OK; decide +kernel
theorem cs_X4_isSetting : ev_CS yX4_isSetting mm_X4_isSetting 1 := ⟨ev_has_in (k := 344) (by decide +kernel), ev_has_in (k := 23) (by decide +kernel), ev_has_in (k := 343) (by decide +kernel), ⟨by decide +kernel, by decide +kernel, by decide +kernel⟩⟩
def tb_X4_mostOf : ev_T := [(0, .iload_n 0, 1, 0, 0, 0, .null),
  (1, .iconst 3, 2, 0, 0, 0, .int 3),
  (2, .if_icmp .ge 6, 5, 0, 8, 0, .null),
  (5, .bipush 20, 7, 0, 0, 0, .int 20),
  (7, .ireturn, 8, 0, 0, 0, .null),
  (8, .iload_n 0, 9, 0, 0, 0, .null),
  (9, .iconst 3, 10, 0, 0, 0, .int 3),
  (10, .if_icmp .ne 7, 13, 0, 17, 0, .null),
  (13, .iconst 1, 14, 0, 0, 0, .int 1),
  (14, .goto 5, 17, 0, 19, 0, .null),
  (17, .bipush 50, 19, 0, 0, 0, .int 50),
  (19, .ireturn, 20, 0, 0, 0, .null)]
def mm_X4_mostOf : ev_M := (RX4, "mostOf", cX4_mostOf, 1, (some .int), tb_X4_mostOf, 0, 0, 0, 0)
set_option maxRecDepth 100000 in
theorem ok_X4_mostOf : ev_OK mm_X4_mostOf := by unfold ev_OK; decide +kernel
theorem cs_X4_mostOf : ev_CS yX4_mostOf mm_X4_mostOf 1 := ⟨ev_has_in (k := 348) (by decide +kernel), ev_has_in (k := 23) (by decide +kernel), ev_has_in (k := 347) (by decide +kernel), ⟨by decide +kernel, by decide +kernel, by decide +kernel⟩⟩
def tb_X4_placeOf : ev_T := [(0, .iconst 4, 1, 0, 0, 0, .int 4),
  (1, .iconst 4, 2, 0, 0, 0, .int 4),
  (2, .iload_n 0, 3, 0, 0, 0, .null),
  (3, .imul, 4, 0, 0, 0, .null),
  (4, .iadd, 5, 0, 0, 0, .null),
  (5, .iload_n 1, 6, 0, 1, 0, .null),
  (6, .iadd, 7, 0, 0, 0, .null),
  (7, .ireturn, 8, 0, 0, 0, .null)]
def mm_X4_placeOf : ev_M := (RX4, "placeOf", cX4_placeOf, 2, (some .int), tb_X4_placeOf, 0, 0, 0, 0)
set_option maxRecDepth 100000 in
theorem ok_X4_placeOf : ev_OK mm_X4_placeOf := by unfold ev_OK; decide +kernel
theorem cs_X4_placeOf : ev_CS yX4_placeOf mm_X4_placeOf 2 := ⟨ev_has_in (k := 397) (by decide +kernel), ev_has_in (k := 23) (by decide +kernel), ev_has_in (k := 396) (by decide +kernel), ⟨by decide +kernel, by decide +kernel, by decide +kernel⟩⟩
def tb_X4_isIn : ev_T := [(0, .iload_n 0, 1, 0, 0, 0, .null),
  (1, .iload_n 1, 2, 0, 1, 0, .null),
  (2, .ishr, 3, 0, 0, 0, .null),
  (3, .iconst 1, 4, 0, 0, 0, .int 1),
  (4, .iand, 5, 0, 0, 0, .null),
  (5, .ifCond .eq 7, 8, 0, 12, 0, .null),
  (8, .iconst 1, 9, 0, 0, 0, .int 1),
  (9, .goto 4, 12, 0, 13, 0, .null),
  (12, .iconst 0, 13, 0, 0, 0, .int 0),
  (13, .ireturn, 14, 0, 0, 0, .null)]
def mm_X4_isIn : ev_M := (RX4, "isIn", cX4_isIn, 2, (some .boolean), tb_X4_isIn, 0, 0, 0, 0)
set_option maxRecDepth 100000 in
theorem ok_X4_isIn : ev_OK mm_X4_isIn := by unfold ev_OK; decide +kernel
theorem cs_X4_isIn : ev_CS yX4_isIn mm_X4_isIn 2 := ⟨ev_has_in (k := 329) (by decide +kernel), ev_has_in (k := 23) (by decide +kernel), ev_has_in (k := 328) (by decide +kernel), ⟨by decide +kernel, by decide +kernel, by decide +kernel⟩⟩
theorem ml_X4_11 : ev_ml RX4 11 yX3_init := Or.inl (ev_has_in (k := 47) (by decide +kernel))
theorem ml_X4_28 : ev_ml RX4 28 yX2_init := Or.inl (ev_has_in (k := 150) (by decide +kernel))
theorem ml_X4_49 : ev_ml RX4 49 yX4_save := Or.inl (ev_has_in (k := 274) (by decide +kernel))
theorem ml_X4_52 : ev_ml RX4 52 yX3_bring := Or.inl (ev_has_in (k := 295) (by decide +kernel))
theorem ml_X4_56 : ev_ml RX4 56 yX4_isHand := Or.inl (ev_has_in (k := 508) (by decide +kernel))
theorem ml_X4_60 : ev_ml RX4 60 yX4_isThingOrNone := Or.inl (ev_has_in (k := 486) (by decide +kernel))
theorem ml_X4_68 : ev_ml RX4 68 yX3_mayBeHeld := Or.inl (ev_has_in (k := 491) (by decide +kernel))
theorem ml_X4_73 : ev_ml RX4 73 yX3_change := Or.inl (ev_has_in (k := 497) (by decide +kernel))
theorem ml_X4_77 : ev_ml RX4 77 yX4_isThing := Or.inl (ev_has_in (k := 303) (by decide +kernel))
theorem ml_X4_80 : ev_ml RX4 80 yX4_isSlot := Or.inl (ev_has_in (k := 483) (by decide +kernel))
theorem ml_X4_85 : ev_ml RX4 85 yX3_lives := Or.inl (ev_has_in (k := 323) (by decide +kernel))
theorem ml_X4_90 : ev_ml RX4 90 yX4_placeOf := Or.inl (ev_has_in (k := 496) (by decide +kernel))
theorem ml_X4_103 : ev_ml RX4 103 yX4_isIn := Or.inl (ev_has_in (k := 330) (by decide +kernel))
theorem ml_X4_109 : ev_ml RX4 109 yJ6_bitCount_0f7a4 := Or.inl (ev_has_in (k := 332) (by decide +kernel))
theorem ml_X4_114 : ev_ml RX4 114 yX4_isSetting := Or.inl (ev_has_in (k := 342) (by decide +kernel))
theorem ml_X4_119 : ev_ml RX4 119 yX4_mostOf := Or.inl (ev_has_in (k := 346) (by decide +kernel))
theorem ml_X4_135 : ev_ml RX4 135 yX3_passTicks := Or.inl (ev_has_in (k := 356) (by decide +kernel))
theorem ml_X4_138 : ev_ml RX4 138 yX3_holdTrial := Or.inl (ev_has_in (k := 464) (by decide +kernel))
theorem ml_X4_184 : ev_ml RX4 184 yX3_property := Or.inl (ev_has_in (k := 551) (by decide +kernel))
theorem ml_X4_193 : ev_ml RX4 193 yX0_at := Or.inl (ev_has_in (k := 588) (by decide +kernel))
theorem ml_X4_204 : ev_ml RX4 204 yX1_underWay := Or.inl (ev_has_in (k := 598) (by decide +kernel))
theorem ml_X4_213 : ev_ml RX4 213 yX1_part := Or.inl (ev_has_in (k := 604) (by decide +kernel))
theorem ml_X4_226 : ev_ml RX4 226 yX3_total := Or.inl (ev_has_in (k := 609) (by decide +kernel))
theorem ml_X4_231 : ev_ml RX4 231 yX4_foresee := Or.inl (ev_has_in (k := 650) (by decide +kernel))
theorem ml_X4_235 : ev_ml RX4 235 yX4_passedPart := Or.inl (ev_has_in (k := 654) (by decide +kernel))
theorem ml_X4_238 : ev_ml RX4 238 yX4_foreseenEnd := Or.inl (ev_has_in (k := 663) (by decide +kernel))
theorem ml_X4_243 : ev_ml RX4 243 yX4_foreseeTrial := Or.inl (ev_has_in (k := 684) (by decide +kernel))
theorem ml_X4_246 : ev_ml RX4 246 yX4_triedPart := Or.inl (ev_has_in (k := 688) (by decide +kernel))
theorem ml_X4_249 : ev_ml RX4 249 yX0_ringOf := Or.inl (ev_has_in (k := 578) (by decide +kernel))
theorem ml_X4_254 : ev_ml RX4 254 yX0_cutWithMostLost := Or.inl (ev_has_in (k := 697) (by decide +kernel))
theorem ml_X4_257 : ev_ml RX4 257 yX0_lostWithout := Or.inl (ev_has_in (k := 707) (by decide +kernel))
theorem ml_X4_260 : ev_ml RX4 260 yX4_slandersToEnd := Or.inl (ev_has_in (k := 671) (by decide +kernel))
theorem ml_X4_178 : ev_ml RX4 178 yX3_copyFrom := Or.inl (ev_has_in (k := 278) (by decide +kernel))
theorem ml_X4_310 : ev_ml RX4 310 yX0_reached := Or.inl (ev_has_in (k := 658) (by decide +kernel))
theorem ml_X4_97 : ev_ml RX4 97 yX3_lie := Or.inl (ev_has_in (k := 675) (by decide +kernel))
