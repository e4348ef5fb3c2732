/-! tables of the methods of GossipCountsLaw, laid by wip/whole/gen/tabs.py -/
def tb_L_add : ev_T := [(0, .aload_n 2, 1, 0, 2, 0, .null),
  (1, .iconst 0, 2, 0, 0, 0, .int 0),
  (2, .aload_n 0, 3, 0, 0, 0, .null),
  (3, .iload_n 1, 4, 0, 1, 0, .null),
  (4, .invokevirtual 7, 7, 0, 0, 0, .null),
  (7, .i2l, 8, 0, 0, 0, .null),
  (8, .lastore, 9, 0, 0, 0, .null),
  (9, .goto 9, 12, 0, 18, 0, .null),
  (12, .astore_n 3, 13, 0, 3, 0, .null),
  (13, .iconst 1, 14, 0, 0, 0, .int 1),
  (14, .ireturn, 15, 0, 0, 0, .null),
  (15, .astore_n 3, 16, 0, 3, 0, .null),
  (16, .iconst 2, 17, 0, 0, 0, .int 2),
  (17, .ireturn, 18, 0, 0, 0, .null),
  (18, .iconst 0, 19, 0, 0, 0, .int 0),
  (19, .ireturn, 20, 0, 0, 0, .null)]
def mm_L_add : ev_M := (RL, "add", cL_add, 4, (some .int), tb_L_add, 7, 181, 0, 0)
set_option maxRecDepth 100000 in
theorem ok_L_add : ev_OK mm_L_add := by unfold ev_OK; decide +kernel
def tb_L_take : ev_T := [(0, .aload_n 3, 1, 0, 3, 0, .null),
  (1, .iconst 0, 2, 0, 0, 0, .int 0),
  (2, .aload_n 0, 3, 0, 0, 0, .null),
  (3, .iload_n 1, 4, 0, 1, 0, .null),
  (4, .iload_n 2, 5, 0, 2, 0, .null),
  (5, .invokevirtual 17, 8, 0, 0, 0, .null),
  (8, .i2l, 9, 0, 0, 0, .null),
  (9, .lastore, 10, 0, 0, 0, .null),
  (10, .goto 11, 13, 0, 21, 0, .null),
  (13, .astore 4, 15, 0, 4, 0, .null),
  (15, .iconst 1, 16, 0, 0, 0, .int 1),
  (16, .ireturn, 17, 0, 0, 0, .null),
  (17, .astore 4, 19, 0, 4, 0, .null),
  (19, .iconst 2, 20, 0, 0, 0, .int 2),
  (20, .ireturn, 21, 0, 0, 0, .null),
  (21, .iconst 0, 22, 0, 0, 0, .int 0),
  (22, .ireturn, 23, 0, 0, 0, .null)]
def mm_L_take : ev_M := (RL, "take", cL_take, 5, (some .int), tb_L_take, 7, 182, 0, 0)
set_option maxRecDepth 100000 in
theorem ok_L_take : ev_OK mm_L_take := by unfold ev_OK; decide +kernel
def tb_L_put : ev_T := [(0, .aload 4, 2, 0, 4, 0, .null),
  (2, .iconst 0, 3, 0, 0, 0, .int 0),
  (3, .aload_n 0, 4, 0, 0, 0, .null),
  (4, .iload_n 1, 5, 0, 1, 0, .null),
  (5, .iload_n 2, 6, 0, 2, 0, .null),
  (6, .iload_n 3, 7, 0, 3, 0, .null),
  (7, .invokevirtual 23, 10, 0, 0, 0, .null),
  (10, .i2l, 11, 0, 0, 0, .null),
  (11, .lastore, 12, 0, 0, 0, .null),
  (12, .goto 11, 15, 0, 23, 0, .null),
  (15, .astore 5, 17, 0, 5, 0, .null),
  (17, .iconst 1, 18, 0, 0, 0, .int 1),
  (18, .ireturn, 19, 0, 0, 0, .null),
  (19, .astore 5, 21, 0, 5, 0, .null),
  (21, .iconst 2, 22, 0, 0, 0, .int 2),
  (22, .ireturn, 23, 0, 0, 0, .null),
  (23, .iconst 0, 24, 0, 0, 0, .int 0),
  (24, .ireturn, 25, 0, 0, 0, .null)]
def mm_L_put : ev_M := (RL, "put", cL_put, 6, (some .int), tb_L_put, 7, 183, 0, 0)
set_option maxRecDepth 100000 in
theorem ok_L_put : ev_OK mm_L_put := by unfold ev_OK; decide +kernel
def tb_L_slander : ev_T := [(0, .aload_n 3, 1, 0, 3, 0, .null),
  (1, .iconst 0, 2, 0, 0, 0, .int 0),
  (2, .aload_n 0, 3, 0, 0, 0, .null),
  (3, .iload_n 1, 4, 0, 1, 0, .null),
  (4, .iload_n 2, 5, 0, 2, 0, .null),
  (5, .invokevirtual 27, 8, 0, 0, 0, .null),
  (8, .i2l, 9, 0, 0, 0, .null),
  (9, .lastore, 10, 0, 0, 0, .null),
  (10, .goto 15, 13, 0, 25, 0, .null),
  (13, .astore 4, 15, 0, 4, 0, .null),
  (15, .iconst 1, 16, 0, 0, 0, .int 1),
  (16, .ireturn, 17, 0, 0, 0, .null),
  (17, .astore 4, 19, 0, 4, 0, .null),
  (19, .iconst 2, 20, 0, 0, 0, .int 2),
  (20, .ireturn, 21, 0, 0, 0, .null),
  (21, .astore 4, 23, 0, 4, 0, .null),
  (23, .iconst 3, 24, 0, 0, 0, .int 3),
  (24, .ireturn, 25, 0, 0, 0, .null),
  (25, .iconst 0, 26, 0, 0, 0, .int 0),
  (26, .ireturn, 27, 0, 0, 0, .null)]
def mm_L_slander : ev_M := (RL, "slander", cL_slander, 5, (some .int), tb_L_slander, 7, 182, 0, 0)
set_option maxRecDepth 100000 in
theorem ok_L_slander : ev_OK mm_L_slander := by unfold ev_OK; decide +kernel
def tb_L_suspect : ev_T := [(0, .aload_n 2, 1, 0, 2, 0, .null),
  (1, .iconst 0, 2, 0, 0, 0, .int 0),
  (2, .aload_n 0, 3, 0, 0, 0, .null),
  (3, .iload_n 1, 4, 0, 1, 0, .null),
  (4, .invokevirtual 30, 7, 0, 0, 0, .null),
  (7, .i2l, 8, 0, 0, 0, .null),
  (8, .lastore, 9, 0, 0, 0, .null),
  (9, .goto 9, 12, 0, 18, 0, .null),
  (12, .astore_n 3, 13, 0, 3, 0, .null),
  (13, .iconst 1, 14, 0, 0, 0, .int 1),
  (14, .ireturn, 15, 0, 0, 0, .null),
  (15, .astore_n 3, 16, 0, 3, 0, .null),
  (16, .iconst 2, 17, 0, 0, 0, .int 2),
  (17, .ireturn, 18, 0, 0, 0, .null),
  (18, .iconst 0, 19, 0, 0, 0, .int 0),
  (19, .ireturn, 20, 0, 0, 0, .null)]
def mm_L_suspect : ev_M := (RL, "suspect", cL_suspect, 4, (some .int), tb_L_suspect, 7, 181, 0, 0)
set_option maxRecDepth 100000 in
theorem ok_L_suspect : ev_OK mm_L_suspect := by unfold ev_OK; decide +kernel
def tb_L_set : ev_T := [(0, .aload_n 3, 1, 0, 3, 0, .null),
  (1, .iconst 0, 2, 0, 0, 0, .int 0),
  (2, .aload_n 0, 3, 0, 0, 0, .null),
  (3, .iload_n 1, 4, 0, 1, 0, .null),
  (4, .iload_n 2, 5, 0, 2, 0, .null),
  (5, .invokevirtual 33, 8, 0, 0, 0, .null),
  (8, .i2l, 9, 0, 0, 0, .null),
  (9, .lastore, 10, 0, 0, 0, .null),
  (10, .goto 11, 13, 0, 21, 0, .null),
  (13, .astore 4, 15, 0, 4, 0, .null),
  (15, .iconst 1, 16, 0, 0, 0, .int 1),
  (16, .ireturn, 17, 0, 0, 0, .null),
  (17, .astore 4, 19, 0, 4, 0, .null),
  (19, .iconst 2, 20, 0, 0, 0, .int 2),
  (20, .ireturn, 21, 0, 0, 0, .null),
  (21, .iconst 0, 22, 0, 0, 0, .int 0),
  (22, .ireturn, 23, 0, 0, 0, .null)]
def mm_L_set : ev_M := (RL, "set", cL_set, 5, (some .int), tb_L_set, 7, 183, 0, 0)
set_option maxRecDepth 100000 in
theorem ok_L_set : ev_OK mm_L_set := by unfold ev_OK; decide +kernel
def tb_L_pass : ev_T := [(0, .aload_n 2, 1, 0, 2, 0, .null),
  (1, .iconst 0, 2, 0, 0, 0, .int 0),
  (2, .aload_n 0, 3, 0, 0, 0, .null),
  (3, .iload_n 1, 4, 0, 1, 0, .null),
  (4, .invokevirtual 36, 7, 0, 0, 0, .null),
  (7, .i2l, 8, 0, 0, 0, .null),
  (8, .lastore, 9, 0, 0, 0, .null),
  (9, .goto 9, 12, 0, 18, 0, .null),
  (12, .astore_n 3, 13, 0, 3, 0, .null),
  (13, .iconst 1, 14, 0, 0, 0, .int 1),
  (14, .ireturn, 15, 0, 0, 0, .null),
  (15, .astore_n 3, 16, 0, 3, 0, .null),
  (16, .iconst 2, 17, 0, 0, 0, .int 2),
  (17, .ireturn, 18, 0, 0, 0, .null),
  (18, .iconst 0, 19, 0, 0, 0, .int 0),
  (19, .ireturn, 20, 0, 0, 0, .null)]
def mm_L_pass : ev_M := (RL, "pass", cL_pass, 4, (some .int), tb_L_pass, 7, 207, 0, 0)
set_option maxRecDepth 100000 in
theorem ok_L_pass : ev_OK mm_L_pass := by unfold ev_OK; decide +kernel
def tb_L_append : ev_T := [(0, .aload_n 2, 1, 0, 2, 0, .null),
  (1, .iconst 0, 2, 0, 0, 0, .int 0),
  (2, .aload_n 0, 3, 0, 0, 0, .null),
  (3, .iload_n 1, 4, 0, 1, 0, .null),
  (4, .invokevirtual 39, 7, 0, 0, 0, .null),
  (7, .i2l, 8, 0, 0, 0, .null),
  (8, .lastore, 9, 0, 0, 0, .null),
  (9, .goto 9, 12, 0, 18, 0, .null),
  (12, .astore_n 3, 13, 0, 3, 0, .null),
  (13, .iconst 1, 14, 0, 0, 0, .int 1),
  (14, .ireturn, 15, 0, 0, 0, .null),
  (15, .astore_n 3, 16, 0, 3, 0, .null),
  (16, .iconst 2, 17, 0, 0, 0, .int 2),
  (17, .ireturn, 18, 0, 0, 0, .null),
  (18, .iconst 0, 19, 0, 0, 0, .int 0),
  (19, .ireturn, 20, 0, 0, 0, .null)]
def mm_L_append : ev_M := (RL, "append", cL_append, 4, (some .int), tb_L_append, 7, 181, 0, 0)
set_option maxRecDepth 100000 in
theorem ok_L_append : ev_OK mm_L_append := by unfold ev_OK; decide +kernel
def tb_L_run : ev_T := [(0, .aload_n 1, 1, 0, 1, 0, .null),
  (1, .iconst 0, 2, 0, 0, 0, .int 0),
  (2, .aload_n 0, 3, 0, 0, 0, .null),
  (3, .invokevirtual 42, 6, 0, 0, 0, .null),
  (6, .i2l, 7, 0, 0, 0, .null),
  (7, .lastore, 8, 0, 0, 0, .null),
  (8, .goto 6, 11, 0, 14, 0, .null),
  (11, .astore_n 2, 12, 0, 2, 0, .null),
  (12, .iconst 1, 13, 0, 0, 0, .int 1),
  (13, .ireturn, 14, 0, 0, 0, .null),
  (14, .iconst 0, 15, 0, 0, 0, .int 0),
  (15, .ireturn, 16, 0, 0, 0, .null)]
def mm_L_run : ev_M := (RL, "run", cL_run, 3, (some .int), tb_L_run, 8, 230, 0, 0)
set_option maxRecDepth 100000 in
theorem ok_L_run : ev_OK mm_L_run := by unfold ev_OK; decide +kernel
def tb_L_undo : ev_T := [(0, .aload_n 1, 1, 0, 1, 0, .null),
  (1, .iconst 0, 2, 0, 0, 0, .int 0),
  (2, .aload_n 0, 3, 0, 0, 0, .null),
  (3, .invokevirtual 46, 6, 0, 0, 0, .null),
  (6, .i2l, 7, 0, 0, 0, .null),
  (7, .lastore, 8, 0, 0, 0, .null),
  (8, .goto 6, 11, 0, 14, 0, .null),
  (11, .astore_n 2, 12, 0, 2, 0, .null),
  (12, .iconst 1, 13, 0, 0, 0, .int 1),
  (13, .ireturn, 14, 0, 0, 0, .null),
  (14, .iconst 0, 15, 0, 0, 0, .int 0),
  (15, .ireturn, 16, 0, 0, 0, .null)]
def mm_L_undo : ev_M := (RL, "undo", cL_undo, 3, (some .int), tb_L_undo, 7, 180, 0, 0)
set_option maxRecDepth 100000 in
theorem ok_L_undo : ev_OK mm_L_undo := by unfold ev_OK; decide +kernel
def tb_L_thing : ev_T := [(0, .aload_n 3, 1, 0, 3, 0, .null),
  (1, .iconst 0, 2, 0, 0, 0, .int 0),
  (2, .aload_n 0, 3, 0, 0, 0, .null),
  (3, .iload_n 1, 4, 0, 1, 0, .null),
  (4, .iload_n 2, 5, 0, 2, 0, .null),
  (5, .invokevirtual 49, 8, 0, 0, 0, .null),
  (8, .i2l, 9, 0, 0, 0, .null),
  (9, .lastore, 10, 0, 0, 0, .null),
  (10, .goto 11, 13, 0, 21, 0, .null),
  (13, .astore 4, 15, 0, 4, 0, .null),
  (15, .iconst 1, 16, 0, 0, 0, .int 1),
  (16, .ireturn, 17, 0, 0, 0, .null),
  (17, .astore 4, 19, 0, 4, 0, .null),
  (19, .iconst 2, 20, 0, 0, 0, .int 2),
  (20, .ireturn, 21, 0, 0, 0, .null),
  (21, .iconst 0, 22, 0, 0, 0, .int 0),
  (22, .ireturn, 23, 0, 0, 0, .null)]
def mm_L_thing : ev_M := (RL, "thing", cL_thing, 5, (some .int), tb_L_thing, 7, 182, 0, 0)
set_option maxRecDepth 100000 in
theorem ok_L_thing : ev_OK mm_L_thing := by unfold ev_OK; decide +kernel
def tb_L_slot : ev_T := [(0, .aload_n 3, 1, 0, 3, 0, .null),
  (1, .iconst 0, 2, 0, 0, 0, .int 0),
  (2, .aload_n 0, 3, 0, 0, 0, .null),
  (3, .iload_n 1, 4, 0, 1, 0, .null),
  (4, .iload_n 2, 5, 0, 2, 0, .null),
  (5, .invokevirtual 52, 8, 0, 0, 0, .null),
  (8, .i2l, 9, 0, 0, 0, .null),
  (9, .lastore, 10, 0, 0, 0, .null),
  (10, .goto 7, 13, 0, 17, 0, .null),
  (13, .astore 4, 15, 0, 4, 0, .null),
  (15, .iconst 1, 16, 0, 0, 0, .int 1),
  (16, .ireturn, 17, 0, 0, 0, .null),
  (17, .iconst 0, 18, 0, 0, 0, .int 0),
  (18, .ireturn, 19, 0, 0, 0, .null)]
def mm_L_slot : ev_M := (RL, "slot", cL_slot, 5, (some .int), tb_L_slot, 7, 182, 0, 0)
set_option maxRecDepth 100000 in
theorem ok_L_slot : ev_OK mm_L_slot := by unfold ev_OK; decide +kernel
def tb_L_hand : ev_T := [(0, .aload_n 2, 1, 0, 2, 0, .null),
  (1, .iconst 0, 2, 0, 0, 0, .int 0),
  (2, .aload_n 0, 3, 0, 0, 0, .null),
  (3, .iload_n 1, 4, 0, 1, 0, .null),
  (4, .invokevirtual 55, 7, 0, 0, 0, .null),
  (7, .i2l, 8, 0, 0, 0, .null),
  (8, .lastore, 9, 0, 0, 0, .null),
  (9, .goto 6, 12, 0, 15, 0, .null),
  (12, .astore_n 3, 13, 0, 3, 0, .null),
  (13, .iconst 1, 14, 0, 0, 0, .int 1),
  (14, .ireturn, 15, 0, 0, 0, .null),
  (15, .iconst 0, 16, 0, 0, 0, .int 0),
  (16, .ireturn, 17, 0, 0, 0, .null)]
def mm_L_hand : ev_M := (RL, "hand", cL_hand, 4, (some .int), tb_L_hand, 7, 181, 0, 0)
set_option maxRecDepth 100000 in
theorem ok_L_hand : ev_OK mm_L_hand := by unfold ev_OK; decide +kernel
def tb_L_report : ev_T := [(0, .aload_n 3, 1, 0, 3, 0, .null),
  (1, .iconst 0, 2, 0, 0, 0, .int 0),
  (2, .aload_n 0, 3, 0, 0, 0, .null),
  (3, .iload_n 1, 4, 0, 1, 0, .null),
  (4, .iload_n 2, 5, 0, 2, 0, .null),
  (5, .invokevirtual 58, 8, 0, 0, 0, .null),
  (8, .i2l, 9, 0, 0, 0, .null),
  (9, .lastore, 10, 0, 0, 0, .null),
  (10, .goto 11, 13, 0, 21, 0, .null),
  (13, .astore 4, 15, 0, 4, 0, .null),
  (15, .iconst 1, 16, 0, 0, 0, .int 1),
  (16, .ireturn, 17, 0, 0, 0, .null),
  (17, .astore 4, 19, 0, 4, 0, .null),
  (19, .iconst 2, 20, 0, 0, 0, .int 2),
  (20, .ireturn, 21, 0, 0, 0, .null),
  (21, .iconst 0, 22, 0, 0, 0, .int 0),
  (22, .ireturn, 23, 0, 0, 0, .null)]
def mm_L_report : ev_M := (RL, "report", cL_report, 5, (some .int), tb_L_report, 7, 182, 0, 0)
set_option maxRecDepth 100000 in
theorem ok_L_report : ev_OK mm_L_report := by unfold ev_OK; decide +kernel
def tb_L_ended : ev_T := [(0, .aload_n 2, 1, 0, 2, 0, .null),
  (1, .iconst 0, 2, 0, 0, 0, .int 0),
  (2, .aload_n 0, 3, 0, 0, 0, .null),
  (3, .iload_n 1, 4, 0, 1, 0, .null),
  (4, .invokevirtual 61, 7, 0, 0, 0, .null),
  (7, .i2l, 8, 0, 0, 0, .null),
  (8, .lastore, 9, 0, 0, 0, .null),
  (9, .goto 6, 12, 0, 15, 0, .null),
  (12, .astore_n 3, 13, 0, 3, 0, .null),
  (13, .iconst 1, 14, 0, 0, 0, .int 1),
  (14, .ireturn, 15, 0, 0, 0, .null),
  (15, .iconst 0, 16, 0, 0, 0, .int 0),
  (16, .ireturn, 17, 0, 0, 0, .null)]
def mm_L_ended : ev_M := (RL, "ended", cL_ended, 4, (some .int), tb_L_ended, 7, 181, 0, 0)
set_option maxRecDepth 100000 in
theorem ok_L_ended : ev_OK mm_L_ended := by unfold ev_OK; decide +kernel
def tb_L_count : ev_T := [(0, .aload_n 2, 1, 0, 2, 0, .null),
  (1, .iconst 0, 2, 0, 0, 0, .int 0),
  (2, .aload_n 0, 3, 0, 0, 0, .null),
  (3, .iload_n 1, 4, 0, 1, 0, .null),
  (4, .invokevirtual 64, 7, 0, 0, 0, .null),
  (7, .i2l, 8, 0, 0, 0, .null),
  (8, .lastore, 9, 0, 0, 0, .null),
  (9, .goto 6, 12, 0, 15, 0, .null),
  (12, .astore_n 3, 13, 0, 3, 0, .null),
  (13, .iconst 1, 14, 0, 0, 0, .int 1),
  (14, .ireturn, 15, 0, 0, 0, .null),
  (15, .iconst 0, 16, 0, 0, 0, .int 0),
  (16, .ireturn, 17, 0, 0, 0, .null)]
def mm_L_count : ev_M := (RL, "count", cL_count, 4, (some .int), tb_L_count, 7, 181, 0, 0)
set_option maxRecDepth 100000 in
theorem ok_L_count : ev_OK mm_L_count := by unfold ev_OK; decide +kernel
def tb_L_setting : ev_T := [(0, .aload_n 2, 1, 0, 2, 0, .null),
  (1, .iconst 0, 2, 0, 0, 0, .int 0),
  (2, .aload_n 0, 3, 0, 0, 0, .null),
  (3, .iload_n 1, 4, 0, 1, 0, .null),
  (4, .invokevirtual 67, 7, 0, 0, 0, .null),
  (7, .i2l, 8, 0, 0, 0, .null),
  (8, .lastore, 9, 0, 0, 0, .null),
  (9, .goto 6, 12, 0, 15, 0, .null),
  (12, .astore_n 3, 13, 0, 3, 0, .null),
  (13, .iconst 1, 14, 0, 0, 0, .int 1),
  (14, .ireturn, 15, 0, 0, 0, .null),
  (15, .iconst 0, 16, 0, 0, 0, .int 0),
  (16, .ireturn, 17, 0, 0, 0, .null)]
def mm_L_setting : ev_M := (RL, "setting", cL_setting, 4, (some .int), tb_L_setting, 7, 181, 0, 0)
set_option maxRecDepth 100000 in
theorem ok_L_setting : ev_OK mm_L_setting := by unfold ev_OK; decide +kernel
def tb_L_ifPassed : ev_T := [(0, .aload_n 3, 1, 0, 3, 0, .null),
  (1, .iconst 0, 2, 0, 0, 0, .int 0),
  (2, .aload_n 0, 3, 0, 0, 0, .null),
  (3, .iload_n 1, 4, 0, 1, 0, .null),
  (4, .iload_n 2, 5, 0, 2, 0, .null),
  (5, .invokevirtual 70, 8, 0, 0, 0, .null),
  (8, .i2l, 9, 0, 0, 0, .null),
  (9, .lastore, 10, 0, 0, 0, .null),
  (10, .goto 7, 13, 0, 17, 0, .null),
  (13, .astore 4, 15, 0, 4, 0, .null),
  (15, .iconst 1, 16, 0, 0, 0, .int 1),
  (16, .ireturn, 17, 0, 0, 0, .null),
  (17, .iconst 0, 18, 0, 0, 0, .int 0),
  (18, .ireturn, 19, 0, 0, 0, .null)]
def mm_L_ifPassed : ev_M := (RL, "ifPassed", cL_ifPassed, 5, (some .int), tb_L_ifPassed, 8, 229, 0, 0)
set_option maxRecDepth 100000 in
theorem ok_L_ifPassed : ev_OK mm_L_ifPassed := by unfold ev_OK; decide +kernel
def tb_L_endsIn : ev_T := [(0, .aload_n 2, 1, 0, 2, 0, .null),
  (1, .iconst 0, 2, 0, 0, 0, .int 0),
  (2, .aload_n 0, 3, 0, 0, 0, .null),
  (3, .iload_n 1, 4, 0, 1, 0, .null),
  (4, .invokevirtual 73, 7, 0, 0, 0, .null),
  (7, .i2l, 8, 0, 0, 0, .null),
  (8, .lastore, 9, 0, 0, 0, .null),
  (9, .goto 6, 12, 0, 15, 0, .null),
  (12, .astore_n 3, 13, 0, 3, 0, .null),
  (13, .iconst 1, 14, 0, 0, 0, .int 1),
  (14, .ireturn, 15, 0, 0, 0, .null),
  (15, .iconst 0, 16, 0, 0, 0, .int 0),
  (16, .ireturn, 17, 0, 0, 0, .null)]
def mm_L_endsIn : ev_M := (RL, "endsIn", cL_endsIn, 4, (some .int), tb_L_endsIn, 8, 228, 0, 0)
set_option maxRecDepth 100000 in
theorem ok_L_endsIn : ev_OK mm_L_endsIn := by unfold ev_OK; decide +kernel
def tb_L_ifTried : ev_T := [(0, .aload_n 2, 1, 0, 2, 0, .null),
  (1, .iconst 0, 2, 0, 0, 0, .int 0),
  (2, .aload_n 0, 3, 0, 0, 0, .null),
  (3, .iload_n 1, 4, 0, 1, 0, .null),
  (4, .invokevirtual 76, 7, 0, 0, 0, .null),
  (7, .i2l, 8, 0, 0, 0, .null),
  (8, .lastore, 9, 0, 0, 0, .null),
  (9, .goto 6, 12, 0, 15, 0, .null),
  (12, .astore_n 3, 13, 0, 3, 0, .null),
  (13, .iconst 1, 14, 0, 0, 0, .int 1),
  (14, .ireturn, 15, 0, 0, 0, .null),
  (15, .iconst 0, 16, 0, 0, 0, .int 0),
  (16, .ireturn, 17, 0, 0, 0, .null)]
def mm_L_ifTried : ev_M := (RL, "ifTried", cL_ifTried, 4, (some .int), tb_L_ifTried, 7, 203, 0, 0)
set_option maxRecDepth 100000 in
theorem ok_L_ifTried : ev_OK mm_L_ifTried := by unfold ev_OK; decide +kernel
def tb_L_ring : ev_T := [(0, .aload_n 2, 1, 0, 2, 0, .null),
  (1, .iconst 0, 2, 0, 0, 0, .int 0),
  (2, .aload_n 0, 3, 0, 0, 0, .null),
  (3, .iload_n 1, 4, 0, 1, 0, .null),
  (4, .invokevirtual 79, 7, 0, 0, 0, .null),
  (7, .i2l, 8, 0, 0, 0, .null),
  (8, .lastore, 9, 0, 0, 0, .null),
  (9, .goto 6, 12, 0, 15, 0, .null),
  (12, .astore_n 3, 13, 0, 3, 0, .null),
  (13, .iconst 1, 14, 0, 0, 0, .int 1),
  (14, .ireturn, 15, 0, 0, 0, .null),
  (15, .iconst 0, 16, 0, 0, 0, .int 0),
  (16, .ireturn, 17, 0, 0, 0, .null)]
def mm_L_ring : ev_M := (RL, "ring", cL_ring, 4, (some .int), tb_L_ring, 7, 181, 0, 0)
set_option maxRecDepth 100000 in
theorem ok_L_ring : ev_OK mm_L_ring := by unfold ev_OK; decide +kernel
def tb_L_bestCut : ev_T := [(0, .aload_n 2, 1, 0, 2, 0, .null),
  (1, .iconst 0, 2, 0, 0, 0, .int 0),
  (2, .aload_n 0, 3, 0, 0, 0, .null),
  (3, .iload_n 1, 4, 0, 1, 0, .null),
  (4, .invokevirtual 82, 7, 0, 0, 0, .null),
  (7, .i2l, 8, 0, 0, 0, .null),
  (8, .lastore, 9, 0, 0, 0, .null),
  (9, .goto 6, 12, 0, 15, 0, .null),
  (12, .astore_n 3, 13, 0, 3, 0, .null),
  (13, .iconst 1, 14, 0, 0, 0, .int 1),
  (14, .ireturn, 15, 0, 0, 0, .null),
  (15, .iconst 0, 16, 0, 0, 0, .int 0),
  (16, .ireturn, 17, 0, 0, 0, .null)]
def mm_L_bestCut : ev_M := (RL, "bestCut", cL_bestCut, 4, (some .int), tb_L_bestCut, 7, 182, 0, 0)
set_option maxRecDepth 100000 in
theorem ok_L_bestCut : ev_OK mm_L_bestCut := by unfold ev_OK; decide +kernel
def tb_L_bears : ev_T := [(0, .aload_n 2, 1, 0, 2, 0, .null),
  (1, .iconst 0, 2, 0, 0, 0, .int 0),
  (2, .aload_n 0, 3, 0, 0, 0, .null),
  (3, .iload_n 1, 4, 0, 1, 0, .null),
  (4, .invokevirtual 85, 7, 0, 0, 0, .null),
  (7, .i2l, 8, 0, 0, 0, .null),
  (8, .lastore, 9, 0, 0, 0, .null),
  (9, .goto 6, 12, 0, 15, 0, .null),
  (12, .astore_n 3, 13, 0, 3, 0, .null),
  (13, .iconst 1, 14, 0, 0, 0, .int 1),
  (14, .ireturn, 15, 0, 0, 0, .null),
  (15, .iconst 0, 16, 0, 0, 0, .int 0),
  (16, .ireturn, 17, 0, 0, 0, .null)]
def mm_L_bears : ev_M := (RL, "bears", cL_bears, 4, (some .int), tb_L_bears, 8, 229, 0, 0)
set_option maxRecDepth 100000 in
theorem ok_L_bears : ev_OK mm_L_bears := by unfold ev_OK; decide +kernel
theorem ml_L_7 : ev_ml RL 7 yX4_add := Or.inl (ev_has_in (k := 645) (by decide +kernel))
theorem ml_L_17 : ev_ml RL 17 yX4_take := Or.inl (ev_has_in (k := 674) (by decide +kernel))
theorem ml_L_23 : ev_ml RL 23 yX4_put := Or.inl (ev_has_in (k := 717) (by decide +kernel))
theorem ml_L_27 : ev_ml RL 27 yX4_slander := Or.inl (ev_has_in (k := 729) (by decide +kernel))
theorem ml_L_30 : ev_ml RL 30 yX4_suspect := Or.inl (ev_has_in (k := 738) (by decide +kernel))
theorem ml_L_33 : ev_ml RL 33 yX4_set := Or.inl (ev_has_in (k := 747) (by decide +kernel))
theorem ml_L_36 : ev_ml RL 36 yX4_pass := Or.inl (ev_has_in (k := 762) (by decide +kernel))
theorem ml_L_39 : ev_ml RL 39 yX4_append := Or.inl (ev_has_in (k := 771) (by decide +kernel))
theorem ml_L_42 : ev_ml RL 42 yX4_run := Or.inl (ev_has_in (k := 780) (by decide +kernel))
theorem ml_L_46 : ev_ml RL 46 yX4_undo := Or.inl (ev_has_in (k := 812) (by decide +kernel))
theorem ml_L_49 : ev_ml RL 49 yX4_thing := Or.inl (ev_has_in (k := 820) (by decide +kernel))
theorem ml_L_52 : ev_ml RL 52 yX4_slot := Or.inl (ev_has_in (k := 828) (by decide +kernel))
theorem ml_L_55 : ev_ml RL 55 yX4_hand := Or.inl (ev_has_in (k := 836) (by decide +kernel))
theorem ml_L_58 : ev_ml RL 58 yX4_report := Or.inl (ev_has_in (k := 844) (by decide +kernel))
theorem ml_L_61 : ev_ml RL 61 yX4_ended := Or.inl (ev_has_in (k := 853) (by decide +kernel))
theorem ml_L_64 : ev_ml RL 64 yX4_count := Or.inl (ev_has_in (k := 861) (by decide +kernel))
theorem ml_L_67 : ev_ml RL 67 yX4_setting := Or.inl (ev_has_in (k := 865) (by decide +kernel))
theorem ml_L_70 : ev_ml RL 70 yX4_ifPassed := Or.inl (ev_has_in (k := 872) (by decide +kernel))
theorem ml_L_73 : ev_ml RL 73 yX4_endsIn := Or.inl (ev_has_in (k := 880) (by decide +kernel))
theorem ml_L_76 : ev_ml RL 76 yX4_ifTried := Or.inl (ev_has_in (k := 887) (by decide +kernel))
theorem ml_L_79 : ev_ml RL 79 yX4_ring := Or.inl (ev_has_in (k := 895) (by decide +kernel))
theorem ml_L_82 : ev_ml RL 82 yX4_bestCut := Or.inl (ev_has_in (k := 902) (by decide +kernel))
theorem ml_L_85 : ev_ml RL 85 yX4_bears := Or.inl (ev_has_in (k := 910) (by decide +kernel))
