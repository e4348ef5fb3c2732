/-! tables of the methods of GossipCounts$Holdings, laid by wip/p32/gen/tabs2.py -/
def tb_X0_init : ev_T := [(0, .aload_n 0, 1, 0, 0, 0, .null),
  (1, .invokespecial 3, 4, 0, 0, 0, .null),
  (4, .aload_n 0, 5, 0, 0, 0, .null),
  (5, .bipush 100, 7, 0, 0, 0, .int 100),
  (7, .newarray .int, 9, 0, 0, 0, .null),
  (9, .putfield 9, 12, 57, 0, 0, .null),
  (12, .iconst 0, 13, 0, 0, 0, .int 0),
  (13, .istore_n 1, 14, 0, 1, 0, .null),
  (14, .iload_n 1, 15, 0, 1, 0, .null),
  (15, .bipush 100, 17, 0, 0, 0, .int 100),
  (17, .if_icmp .ge 16, 20, 0, 33, 0, .null),
  (20, .aload_n 0, 21, 0, 0, 0, .null),
  (21, .getfield 9, 24, 57, 0, 0, .null),
  (24, .iload_n 1, 25, 0, 1, 0, .null),
  (25, .iconst (-1), 26, 0, 0, 0, .int (-1)),
  (26, .iastore, 27, 0, 0, 0, .null),
  (27, .iinc 1 1, 30, 0, 1, 0, .int 1),
  (30, .goto (-16), 33, 0, 14, 0, .null),
  (33, .return_, 34, 0, 0, 0, .null)]
def mm_X0_init : ev_M := (RX0, "<init>", cX0_init, 2, none, tb_X0_init, 1, 30, 0, 0)
set_option maxRecDepth 100000 in
theorem ok_X0_init : ev_OK mm_X0_init := by unfold ev_OK; decide +kernel
theorem ci_X0_init : ev_CI yX0_init mm_X0_init 0 := ⟨ev_has_in (k := 55) (by decide +kernel), ev_has_in (k := 25) (by decide +kernel), ev_has_in (k := 54) (by decide +kernel), ⟨by decide +kernel, by decide +kernel, by decide +kernel⟩, rfl⟩
def tb_X0_copyFrom : ev_T := [(0, .aload_n 1, 1, 0, 1, 0, .null),
  (1, .getfield 9, 4, 57, 0, 0, .null),
  (4, .iconst 0, 5, 0, 0, 0, .int 0),
  (5, .aload_n 0, 6, 0, 0, 0, .null),
  (6, .getfield 9, 9, 57, 0, 0, .null),
  (9, .iconst 0, 10, 0, 0, 0, .int 0),
  (10, .bipush 100, 12, 0, 0, 0, .int 100),
  (12, .invokestatic 15, 15, 0, 0, 0, .null),
  (15, .return_, 16, 0, 0, 0, .null)]
def mm_X0_copyFrom : ev_M := (RX0, "copyFrom", cX0_copyFrom, 2, none, tb_X0_copyFrom, 1, 60, 0, 0)
set_option maxRecDepth 100000 in
theorem ok_X0_copyFrom : ev_OK mm_X0_copyFrom := by unfold ev_OK; decide +kernel
theorem cv_X0_copyFrom : ev_CV yX0_copyFrom mm_X0_copyFrom 0 1 := ⟨ev_has_in (k := 288) (by decide +kernel), ev_has_in (k := 25) (by decide +kernel), ev_has_in (k := 286) (by decide +kernel), ev_has_in (k := 287) (by decide +kernel), ⟨by decide +kernel, by decide +kernel, by decide +kernel⟩, rfl, by decide⟩
def tb_X0_at : ev_T := [(0, .iload_n 1, 1, 0, 1, 0, .null),
  (1, .ifCond .lt 18, 4, 0, 19, 0, .null),
  (4, .iload_n 1, 5, 0, 1, 0, .null),
  (5, .bipush 100, 7, 0, 0, 0, .int 100),
  (7, .if_icmp .ge 12, 10, 0, 19, 0, .null),
  (10, .aload_n 0, 11, 0, 0, 0, .null),
  (11, .getfield 9, 14, 57, 0, 0, .null),
  (14, .iload_n 1, 15, 0, 1, 0, .null),
  (15, .iaload, 16, 0, 0, 0, .null),
  (16, .goto 4, 19, 0, 20, 0, .null),
  (19, .iconst (-1), 20, 0, 0, 0, .int (-1)),
  (20, .ireturn, 21, 0, 0, 0, .null)]
def mm_X0_at : ev_M := (RX0, "at", cX0_at, 2, (some .int), tb_X0_at, 0, 0, 0, 0)
set_option maxRecDepth 100000 in
theorem ok_X0_at : ev_OK mm_X0_at := by unfold ev_OK; decide +kernel
theorem cv_X0_at : ev_CV yX0_at mm_X0_at 0 1 := ⟨ev_has_in (k := 401) (by decide +kernel), ev_has_in (k := 25) (by decide +kernel), ev_has_in (k := 399) (by decide +kernel), ev_has_in (k := 400) (by decide +kernel), ⟨by decide +kernel, by decide +kernel, by decide +kernel⟩, rfl, by decide⟩
def tb_X0_hold : ev_T := [(0, .iload_n 1, 1, 0, 1, 0, .null),
  (1, .ifCond .lt 16, 4, 0, 17, 0, .null),
  (4, .iload_n 1, 5, 0, 1, 0, .null),
  (5, .bipush 100, 7, 0, 0, 0, .int 100),
  (7, .if_icmp .ge 10, 10, 0, 17, 0, .null),
  (10, .aload_n 0, 11, 0, 0, 0, .null),
  (11, .getfield 9, 14, 57, 0, 0, .null),
  (14, .iload_n 1, 15, 0, 1, 0, .null),
  (15, .iload_n 2, 16, 0, 2, 0, .null),
  (16, .iastore, 17, 0, 0, 0, .null),
  (17, .return_, 18, 0, 0, 0, .null)]
def mm_X0_hold : ev_M := (RX0, "hold", cX0_hold, 3, none, tb_X0_hold, 0, 0, 0, 0)
set_option maxRecDepth 100000 in
theorem ok_X0_hold : ev_OK mm_X0_hold := by unfold ev_OK; decide +kernel
theorem cv_X0_hold : ev_CV yX0_hold mm_X0_hold 0 2 := ⟨ev_has_in (k := 405) (by decide +kernel), ev_has_in (k := 25) (by decide +kernel), ev_has_in (k := 403) (by decide +kernel), ev_has_in (k := 404) (by decide +kernel), ⟨by decide +kernel, by decide +kernel, by decide +kernel⟩, rfl, by decide⟩
def tb_X0_taken : ev_T := [(0, .iconst 0, 1, 0, 0, 0, .int 0),
  (1, .istore_n 1, 2, 0, 1, 0, .null),
  (2, .iconst 0, 3, 0, 0, 0, .int 0),
  (3, .istore_n 2, 4, 0, 2, 0, .null),
  (4, .iload_n 2, 5, 0, 2, 0, .null),
  (5, .bipush 100, 7, 0, 0, 0, .int 100),
  (7, .if_icmp .ge 22, 10, 0, 29, 0, .null),
  (10, .aload_n 0, 11, 0, 0, 0, .null),
  (11, .getfield 9, 14, 57, 0, 0, .null),
  (14, .iload_n 2, 15, 0, 2, 0, .null),
  (15, .iaload, 16, 0, 0, 0, .null),
  (16, .iconst (-1), 17, 0, 0, 0, .int (-1)),
  (17, .if_icmp .eq 6, 20, 0, 23, 0, .null),
  (20, .iinc 1 1, 23, 0, 1, 0, .int 1),
  (23, .iinc 2 1, 26, 0, 2, 0, .int 1),
  (26, .goto (-22), 29, 0, 4, 0, .null),
  (29, .iload_n 1, 30, 0, 1, 0, .null),
  (30, .ireturn, 31, 0, 0, 0, .null)]
def mm_X0_taken : ev_M := (RX0, "taken", cX0_taken, 3, (some .int), tb_X0_taken, 0, 0, 0, 0)
set_option maxRecDepth 100000 in
theorem ok_X0_taken : ev_OK mm_X0_taken := by unfold ev_OK; decide +kernel
theorem cv_X0_taken : ev_CV yX0_taken mm_X0_taken 0 0 := ⟨ev_has_in (k := 622) (by decide +kernel), ev_has_in (k := 25) (by decide +kernel), ev_has_in (k := 620) (by decide +kernel), ev_has_in (k := 621) (by decide +kernel), ⟨by decide +kernel, by decide +kernel, by decide +kernel⟩, rfl, by decide⟩
def tb_X0_truthOf : ev_T := [(0, .iconst 0, 1, 0, 0, 0, .int 0),
  (1, .istore_n 2, 2, 0, 2, 0, .null),
  (2, .iconst 0, 3, 0, 0, 0, .int 0),
  (3, .istore_n 3, 4, 0, 3, 0, .null),
  (4, .iload_n 3, 5, 0, 3, 0, .null),
  (5, .bipush 100, 7, 0, 0, 0, .int 100),
  (7, .if_icmp .ge 22, 10, 0, 29, 0, .null),
  (10, .aload_n 0, 11, 0, 0, 0, .null),
  (11, .getfield 9, 14, 57, 0, 0, .null),
  (14, .iload_n 3, 15, 0, 3, 0, .null),
  (15, .iaload, 16, 0, 0, 0, .null),
  (16, .iload_n 1, 17, 0, 1, 0, .null),
  (17, .if_icmp .ne 6, 20, 0, 23, 0, .null),
  (20, .iinc 2 1, 23, 0, 2, 0, .int 1),
  (23, .iinc 3 1, 26, 0, 3, 0, .int 1),
  (26, .goto (-22), 29, 0, 4, 0, .null),
  (29, .iload_n 2, 30, 0, 2, 0, .null),
  (30, .ireturn, 31, 0, 0, 0, .null)]
def mm_X0_truthOf : ev_M := (RX0, "truthOf", cX0_truthOf, 4, (some .int), tb_X0_truthOf, 0, 0, 0, 0)
set_option maxRecDepth 100000 in
theorem ok_X0_truthOf : ev_OK mm_X0_truthOf := by unfold ev_OK; decide +kernel
theorem cv_X0_truthOf : ev_CV yX0_truthOf mm_X0_truthOf 0 1 := ⟨ev_has_in (k := 390) (by decide +kernel), ev_has_in (k := 25) (by decide +kernel), ev_has_in (k := 388) (by decide +kernel), ev_has_in (k := 389) (by decide +kernel), ⟨by decide +kernel, by decide +kernel, by decide +kernel⟩, rfl, by decide⟩
def tb_X0_slotsThatHold : ev_T := [(0, .iconst 0, 1, 0, 0, 0, .int 0),
  (1, .istore_n 3, 2, 0, 3, 0, .null),
  (2, .iconst 4, 3, 0, 0, 0, .int 4),
  (3, .istore 4, 5, 0, 4, 0, .null),
  (5, .iload 4, 7, 0, 4, 0, .null),
  (7, .bipush 100, 9, 0, 0, 0, .int 100),
  (9, .if_icmp .ge 36, 12, 0, 45, 0, .null),
  (12, .aload_n 0, 13, 0, 0, 0, .null),
  (13, .getfield 9, 16, 57, 0, 0, .null),
  (16, .iload 4, 18, 0, 4, 0, .null),
  (18, .iaload, 19, 0, 0, 0, .null),
  (19, .iload_n 1, 20, 0, 1, 0, .null),
  (20, .if_icmp .ne 19, 23, 0, 39, 0, .null),
  (23, .iload_n 2, 24, 0, 2, 0, .null),
  (24, .iload 4, 26, 0, 4, 0, .null),
  (26, .iconst 4, 27, 0, 0, 0, .int 4),
  (27, .isub, 28, 0, 0, 0, .null),
  (28, .iconst 4, 29, 0, 0, 0, .int 4),
  (29, .idiv, 30, 0, 0, 0, .null),
  (30, .invokestatic 21, 33, 0, 0, 0, .null),
  (33, .ifCond .eq 6, 36, 0, 39, 0, .null),
  (36, .iinc 3 1, 39, 0, 3, 0, .int 1),
  (39, .iinc 4 1, 42, 0, 4, 0, .int 1),
  (42, .goto (-37), 45, 0, 5, 0, .null),
  (45, .iload_n 3, 46, 0, 3, 0, .null),
  (46, .ireturn, 47, 0, 0, 0, .null)]
def mm_X0_slotsThatHold : ev_M := (RX0, "slotsThatHold", cX0_slotsThatHold, 5, (some .int), tb_X0_slotsThatHold, 1, 21, 0, 0)
set_option maxRecDepth 100000 in
theorem ok_X0_slotsThatHold : ev_OK mm_X0_slotsThatHold := by unfold ev_OK; decide +kernel
theorem cv_X0_slotsThatHold : ev_CV yX0_slotsThatHold mm_X0_slotsThatHold 0 2 := ⟨ev_has_in (k := 454) (by decide +kernel), ev_has_in (k := 25) (by decide +kernel), ev_has_in (k := 452) (by decide +kernel), ev_has_in (k := 453) (by decide +kernel), ⟨by decide +kernel, by decide +kernel, by decide +kernel⟩, rfl, by decide⟩
def tb_X0_letGo : ev_T := [(0, .iconst 0, 1, 0, 0, 0, .int 0),
  (1, .istore_n 3, 2, 0, 3, 0, .null),
  (2, .iconst 0, 3, 0, 0, 0, .int 0),
  (3, .istore 4, 5, 0, 4, 0, .null),
  (5, .iload 4, 7, 0, 4, 0, .null),
  (7, .bipush 100, 9, 0, 0, 0, .int 100),
  (9, .if_icmp .ge 57, 12, 0, 66, 0, .null),
  (12, .aload_n 0, 13, 0, 0, 0, .null),
  (13, .getfield 9, 16, 57, 0, 0, .null),
  (16, .iload 4, 18, 0, 4, 0, .null),
  (18, .iaload, 19, 0, 0, 0, .null),
  (19, .iload_n 1, 20, 0, 1, 0, .null),
  (20, .if_icmp .ne 40, 23, 0, 60, 0, .null),
  (23, .aload_n 0, 24, 0, 0, 0, .null),
  (24, .getfield 9, 27, 57, 0, 0, .null),
  (27, .iload 4, 29, 0, 4, 0, .null),
  (29, .iconst (-1), 30, 0, 0, 0, .int (-1)),
  (30, .iastore, 31, 0, 0, 0, .null),
  (31, .iload_n 3, 32, 0, 3, 0, .null),
  (32, .ifCond .ne 22, 35, 0, 54, 0, .null),
  (35, .iload 4, 37, 0, 4, 0, .null),
  (37, .iconst 4, 38, 0, 0, 0, .int 4),
  (38, .if_icmp .lt 16, 41, 0, 54, 0, .null),
  (41, .iload_n 2, 42, 0, 2, 0, .null),
  (42, .iload 4, 44, 0, 4, 0, .null),
  (44, .iconst 4, 45, 0, 0, 0, .int 4),
  (45, .isub, 46, 0, 0, 0, .null),
  (46, .iconst 4, 47, 0, 0, 0, .int 4),
  (47, .idiv, 48, 0, 0, 0, .null),
  (48, .invokestatic 21, 51, 0, 0, 0, .null),
  (51, .ifCond .ne 7, 54, 0, 58, 0, .null),
  (54, .iconst 1, 55, 0, 0, 0, .int 1),
  (55, .goto 4, 58, 0, 59, 0, .null),
  (58, .iconst 0, 59, 0, 0, 0, .int 0),
  (59, .istore_n 3, 60, 0, 3, 0, .null),
  (60, .iinc 4 1, 63, 0, 4, 0, .int 1),
  (63, .goto (-58), 66, 0, 5, 0, .null),
  (66, .iload_n 3, 67, 0, 3, 0, .null),
  (67, .ireturn, 68, 0, 0, 0, .null)]
def mm_X0_letGo : ev_M := (RX0, "letGo", cX0_letGo, 5, (some .boolean), tb_X0_letGo, 1, 21, 0, 0)
set_option maxRecDepth 100000 in
theorem ok_X0_letGo : ev_OK mm_X0_letGo := by unfold ev_OK; decide +kernel
theorem cv_X0_letGo : ev_CV yX0_letGo mm_X0_letGo 0 2 := ⟨ev_has_in (k := 420) (by decide +kernel), ev_has_in (k := 25) (by decide +kernel), ev_has_in (k := 418) (by decide +kernel), ev_has_in (k := 419) (by decide +kernel), ⟨by decide +kernel, by decide +kernel, by decide +kernel⟩, rfl, by decide⟩
def tb_X0_reached : ev_T := [(0, .aload_n 0, 1, 0, 0, 0, .null),
  (1, .iconst (-1), 2, 0, 0, 0, .int (-1)),
  (2, .invokevirtual 25, 5, 0, 0, 0, .null),
  (5, .ireturn, 6, 0, 0, 0, .null)]
def mm_X0_reached : ev_M := (RX0, "reached", cX0_reached, 1, (some .int), tb_X0_reached, 3, 73, 0, 0)
set_option maxRecDepth 100000 in
theorem ok_X0_reached : ev_OK mm_X0_reached := by unfold ev_OK; decide +kernel
theorem cv_X0_reached : ev_CV yX0_reached mm_X0_reached 0 0 := ⟨ev_has_in (k := 566) (by decide +kernel), ev_has_in (k := 25) (by decide +kernel), ev_has_in (k := 564) (by decide +kernel), ev_has_in (k := 565) (by decide +kernel), ⟨by decide +kernel, by decide +kernel, by decide +kernel⟩, rfl, by decide⟩
def tb_X0_reachOf : ev_T := [(0, .aload_n 0, 1, 0, 0, 0, .null),
  (1, .aload_n 0, 2, 0, 0, 0, .null),
  (2, .iload_n 1, 3, 0, 1, 0, .null),
  (3, .iconst 0, 4, 0, 0, 0, .int 0),
  (4, .invokestatic 29, 7, 0, 0, 0, .null),
  (7, .iconst 4, 8, 0, 0, 0, .int 4),
  (8, .iconst (-1), 9, 0, 0, 0, .int (-1)),
  (9, .invokevirtual 33, 12, 0, 0, 0, .null),
  (12, .iconst (-1), 13, 0, 0, 0, .int (-1)),
  (13, .invokevirtual 37, 16, 0, 0, 0, .null),
  (16, .ireturn, 17, 0, 0, 0, .null)]
def mm_X0_reachOf : ev_M := (RX0, "reachOf", cX0_reachOf, 2, (some .int), tb_X0_reachOf, 2, 52, 0, 0)
set_option maxRecDepth 100000 in
theorem ok_X0_reachOf : ev_OK mm_X0_reachOf := by unfold ev_OK; decide +kernel
theorem cv_X0_reachOf : ev_CV yX0_reachOf mm_X0_reachOf 0 1 := ⟨ev_has_in (k := 433) (by decide +kernel), ev_has_in (k := 25) (by decide +kernel), ev_has_in (k := 431) (by decide +kernel), ev_has_in (k := 432) (by decide +kernel), ⟨by decide +kernel, by decide +kernel, by decide +kernel⟩, rfl, by decide⟩
def tb_X0_ringOf : ev_T := [(0, .aload_n 0, 1, 0, 0, 0, .null),
  (1, .iload_n 1, 2, 0, 1, 0, .null),
  (2, .invokevirtual 40, 5, 0, 0, 0, .null),
  (5, .istore_n 2, 6, 0, 2, 0, .null),
  (6, .iconst 0, 7, 0, 0, 0, .int 0),
  (7, .istore_n 3, 8, 0, 3, 0, .null),
  (8, .iconst 0, 9, 0, 0, 0, .int 0),
  (9, .istore 4, 11, 0, 4, 0, .null),
  (11, .iload 4, 13, 0, 4, 0, .null),
  (13, .bipush 24, 15, 0, 0, 0, .int 24),
  (15, .if_icmp .ge 38, 18, 0, 53, 0, .null),
  (18, .iload_n 2, 19, 0, 2, 0, .null),
  (19, .iload 4, 21, 0, 4, 0, .null),
  (21, .invokestatic 21, 24, 0, 0, 0, .null),
  (24, .ifCond .eq 23, 27, 0, 47, 0, .null),
  (27, .aload_n 0, 28, 0, 0, 0, .null),
  (28, .iload 4, 30, 0, 4, 0, .null),
  (30, .invokevirtual 40, 33, 0, 0, 0, .null),
  (33, .iload_n 1, 34, 0, 1, 0, .null),
  (34, .invokestatic 21, 37, 0, 0, 0, .null),
  (37, .ifCond .eq 10, 40, 0, 47, 0, .null),
  (40, .iload_n 3, 41, 0, 3, 0, .null),
  (41, .iconst 1, 42, 0, 0, 0, .int 1),
  (42, .iload 4, 44, 0, 4, 0, .null),
  (44, .ishl, 45, 0, 0, 0, .null),
  (45, .ior, 46, 0, 0, 0, .null),
  (46, .istore_n 3, 47, 0, 3, 0, .null),
  (47, .iinc 4 1, 50, 0, 4, 0, .int 1),
  (50, .goto (-39), 53, 0, 11, 0, .null),
  (53, .iload_n 3, 54, 0, 3, 0, .null),
  (54, .ireturn, 55, 0, 0, 0, .null)]
def mm_X0_ringOf : ev_M := (RX0, "ringOf", cX0_ringOf, 5, (some .int), tb_X0_ringOf, 3, 73, 0, 0)
set_option maxRecDepth 100000 in
theorem ok_X0_ringOf : ev_OK mm_X0_ringOf := by unfold ev_OK; decide +kernel
theorem cv_X0_ringOf : ev_CV yX0_ringOf mm_X0_ringOf 0 1 := ⟨ev_has_in (k := 581) (by decide +kernel), ev_has_in (k := 25) (by decide +kernel), ev_has_in (k := 579) (by decide +kernel), ev_has_in (k := 580) (by decide +kernel), ⟨by decide +kernel, by decide +kernel, by decide +kernel⟩, rfl, by decide⟩
def tb_X0_cutWithMostLost : ev_T := [(0, .iconst (-1), 1, 0, 0, 0, .int (-1)),
  (1, .istore_n 1, 2, 0, 1, 0, .null),
  (2, .iconst 0, 3, 0, 0, 0, .int 0),
  (3, .istore_n 2, 4, 0, 2, 0, .null),
  (4, .iconst 0, 5, 0, 0, 0, .int 0),
  (5, .istore_n 3, 6, 0, 3, 0, .null),
  (6, .iload_n 3, 7, 0, 3, 0, .null),
  (7, .bipush 100, 9, 0, 0, 0, .int 100),
  (9, .if_icmp .ge 41, 12, 0, 50, 0, .null),
  (12, .aload_n 0, 13, 0, 0, 0, .null),
  (13, .getfield 9, 16, 57, 0, 0, .null),
  (16, .iload_n 3, 17, 0, 3, 0, .null),
  (17, .iaload, 18, 0, 0, 0, .null),
  (18, .iconst (-1), 19, 0, 0, 0, .int (-1)),
  (19, .if_icmp .ne 7, 22, 0, 26, 0, .null),
  (22, .iconst 0, 23, 0, 0, 0, .int 0),
  (23, .goto 8, 26, 0, 31, 0, .null),
  (26, .aload_n 0, 27, 0, 0, 0, .null),
  (27, .iload_n 3, 28, 0, 3, 0, .null),
  (28, .invokevirtual 43, 31, 0, 0, 0, .null),
  (31, .istore 4, 33, 0, 4, 0, .null),
  (33, .iload 4, 35, 0, 4, 0, .null),
  (35, .iload_n 2, 36, 0, 2, 0, .null),
  (36, .if_icmp .le 8, 39, 0, 44, 0, .null),
  (39, .iload_n 3, 40, 0, 3, 0, .null),
  (40, .istore_n 1, 41, 0, 1, 0, .null),
  (41, .iload 4, 43, 0, 4, 0, .null),
  (43, .istore_n 2, 44, 0, 2, 0, .null),
  (44, .iinc 3 1, 47, 0, 3, 0, .int 1),
  (47, .goto (-41), 50, 0, 6, 0, .null),
  (50, .iload_n 1, 51, 0, 1, 0, .null),
  (51, .ireturn, 52, 0, 0, 0, .null)]
def mm_X0_cutWithMostLost : ev_M := (RX0, "cutWithMostLost", cX0_cutWithMostLost, 5, (some .int), tb_X0_cutWithMostLost, 5, 114, 0, 0)
set_option maxRecDepth 100000 in
theorem ok_X0_cutWithMostLost : ev_OK mm_X0_cutWithMostLost := by unfold ev_OK; decide +kernel
theorem cv_X0_cutWithMostLost : ev_CV yX0_cutWithMostLost mm_X0_cutWithMostLost 0 0 := ⟨ev_has_in (k := 700) (by decide +kernel), ev_has_in (k := 25) (by decide +kernel), ev_has_in (k := 698) (by decide +kernel), ev_has_in (k := 699) (by decide +kernel), ⟨by decide +kernel, by decide +kernel, by decide +kernel⟩, rfl, by decide⟩
def tb_X0_lostWithout : ev_T := [(0, .aload_n 0, 1, 0, 0, 0, .null),
  (1, .invokevirtual 46, 4, 0, 0, 0, .null),
  (4, .invokestatic 50, 7, 0, 0, 0, .null),
  (7, .aload_n 0, 8, 0, 0, 0, .null),
  (8, .iload_n 1, 9, 0, 1, 0, .null),
  (9, .invokevirtual 25, 12, 0, 0, 0, .null),
  (12, .invokestatic 50, 15, 0, 0, 0, .null),
  (15, .isub, 16, 0, 0, 0, .null),
  (16, .ireturn, 17, 0, 0, 0, .null)]
def mm_X0_lostWithout : ev_M := (RX0, "lostWithout", cX0_lostWithout, 2, (some .int), tb_X0_lostWithout, 4, 93, 0, 0)
set_option maxRecDepth 100000 in
theorem ok_X0_lostWithout : ev_OK mm_X0_lostWithout := by unfold ev_OK; decide +kernel
theorem cv_X0_lostWithout : ev_CV yX0_lostWithout mm_X0_lostWithout 0 1 := ⟨ev_has_in (k := 704) (by decide +kernel), ev_has_in (k := 25) (by decide +kernel), ev_has_in (k := 702) (by decide +kernel), ev_has_in (k := 703) (by decide +kernel), ⟨by decide +kernel, by decide +kernel, by decide +kernel⟩, rfl, by decide⟩
def tb_X0_reachedFrom : ev_T := [(0, .iload_n 1, 1, 0, 1, 0, .null),
  (1, .istore_n 3, 2, 0, 3, 0, .null),
  (2, .iload_n 1, 3, 0, 1, 0, .null),
  (3, .istore 4, 5, 0, 4, 0, .null),
  (5, .iconst 0, 6, 0, 0, 0, .int 0),
  (6, .istore 5, 8, 0, 5, 0, .null),
  (8, .iload 5, 10, 0, 5, 0, .null),
  (10, .bipush 24, 12, 0, 0, 0, .int 24),
  (12, .if_icmp .ge 58, 15, 0, 70, 0, .null),
  (15, .iload 4, 17, 0, 4, 0, .null),
  (17, .ifCond .eq 53, 20, 0, 70, 0, .null),
  (20, .iload 4, 22, 0, 4, 0, .null),
  (22, .invokestatic 55, 25, 0, 0, 0, .null),
  (25, .istore 6, 27, 0, 6, 0, .null),
  (27, .aload_n 0, 28, 0, 0, 0, .null),
  (28, .iload 6, 30, 0, 6, 0, .null),
  (30, .iconst 0, 31, 0, 0, 0, .int 0),
  (31, .invokestatic 29, 34, 0, 0, 0, .null),
  (34, .iconst 4, 35, 0, 0, 0, .int 4),
  (35, .iload_n 2, 36, 0, 2, 0, .null),
  (36, .invokevirtual 33, 39, 0, 0, 0, .null),
  (39, .iload_n 3, 40, 0, 3, 0, .null),
  (40, .iconst (-1), 41, 0, 0, 0, .int (-1)),
  (41, .ixor, 42, 0, 0, 0, .null),
  (42, .iand, 43, 0, 0, 0, .null),
  (43, .istore 7, 45, 0, 7, 0, .null),
  (45, .iload_n 3, 46, 0, 3, 0, .null),
  (46, .iload 7, 48, 0, 7, 0, .null),
  (48, .ior, 49, 0, 0, 0, .null),
  (49, .istore_n 3, 50, 0, 3, 0, .null),
  (50, .iload 4, 52, 0, 4, 0, .null),
  (52, .iconst 1, 53, 0, 0, 0, .int 1),
  (53, .iload 6, 55, 0, 6, 0, .null),
  (55, .ishl, 56, 0, 0, 0, .null),
  (56, .iconst (-1), 57, 0, 0, 0, .int (-1)),
  (57, .ixor, 58, 0, 0, 0, .null),
  (58, .iand, 59, 0, 0, 0, .null),
  (59, .iload 7, 61, 0, 7, 0, .null),
  (61, .ior, 62, 0, 0, 0, .null),
  (62, .istore 4, 64, 0, 4, 0, .null),
  (64, .iinc 5 1, 67, 0, 5, 0, .int 1),
  (67, .goto (-59), 70, 0, 8, 0, .null),
  (70, .iload_n 3, 71, 0, 3, 0, .null),
  (71, .ireturn, 72, 0, 0, 0, .null)]
def mm_X0_reachedFrom : ev_M := (RX0, "reachedFrom", cX0_reachedFrom, 8, (some .int), tb_X0_reachedFrom, 1, 25, 0, 0)
set_option maxRecDepth 100000 in
theorem ok_X0_reachedFrom : ev_OK mm_X0_reachedFrom := by unfold ev_OK; decide +kernel
theorem cv_X0_reachedFrom : ev_CV yX0_reachedFrom mm_X0_reachedFrom 0 2 := ⟨ev_has_in (k := 442) (by decide +kernel), ev_has_in (k := 25) (by decide +kernel), ev_has_in (k := 440) (by decide +kernel), ev_has_in (k := 441) (by decide +kernel), ⟨by decide +kernel, by decide +kernel, by decide +kernel⟩, rfl, by decide⟩
def tb_X0_reachedWithout : ev_T := [(0, .aload_n 0, 1, 0, 0, 0, .null),
  (1, .aload_n 0, 2, 0, 0, 0, .null),
  (2, .iconst 0, 3, 0, 0, 0, .int 0),
  (3, .iconst 4, 4, 0, 0, 0, .int 4),
  (4, .iload_n 1, 5, 0, 1, 0, .null),
  (5, .invokevirtual 33, 8, 0, 0, 0, .null),
  (8, .iload_n 1, 9, 0, 1, 0, .null),
  (9, .invokevirtual 37, 12, 0, 0, 0, .null),
  (12, .ireturn, 13, 0, 0, 0, .null)]
def mm_X0_reachedWithout : ev_M := (RX0, "reachedWithout", cX0_reachedWithout, 2, (some .int), tb_X0_reachedWithout, 2, 52, 0, 0)
set_option maxRecDepth 100000 in
theorem ok_X0_reachedWithout : ev_OK mm_X0_reachedWithout := by unfold ev_OK; decide +kernel
theorem cv_X0_reachedWithout : ev_CV yX0_reachedWithout mm_X0_reachedWithout 0 1 := ⟨ev_has_in (k := 570) (by decide +kernel), ev_has_in (k := 25) (by decide +kernel), ev_has_in (k := 569) (by decide +kernel), ev_has_in (k := 12) (by decide +kernel), ⟨by decide +kernel, by decide +kernel, by decide +kernel⟩, rfl, by decide⟩
def tb_X0_heldAmong : ev_T := [(0, .iconst 0, 1, 0, 0, 0, .int 0),
  (1, .istore 4, 3, 0, 4, 0, .null),
  (3, .iload_n 1, 4, 0, 1, 0, .null),
  (4, .istore 5, 6, 0, 5, 0, .null),
  (6, .iload 5, 8, 0, 5, 0, .null),
  (8, .ifCond .lt 55, 11, 0, 63, 0, .null),
  (11, .iload 5, 13, 0, 5, 0, .null),
  (13, .iload_n 1, 14, 0, 1, 0, .null),
  (14, .iload_n 2, 15, 0, 2, 0, .null),
  (15, .iadd, 16, 0, 0, 0, .null),
  (16, .if_icmp .ge 47, 19, 0, 63, 0, .null),
  (19, .iload 5, 21, 0, 5, 0, .null),
  (21, .bipush 100, 23, 0, 0, 0, .int 100),
  (23, .if_icmp .ge 40, 26, 0, 63, 0, .null),
  (26, .iload 5, 28, 0, 5, 0, .null),
  (28, .iload_n 3, 29, 0, 3, 0, .null),
  (29, .if_icmp .eq 28, 32, 0, 57, 0, .null),
  (32, .aload_n 0, 33, 0, 0, 0, .null),
  (33, .getfield 9, 36, 57, 0, 0, .null),
  (36, .iload 5, 38, 0, 5, 0, .null),
  (38, .iaload, 39, 0, 0, 0, .null),
  (39, .iconst (-1), 40, 0, 0, 0, .int (-1)),
  (40, .if_icmp .eq 17, 43, 0, 57, 0, .null),
  (43, .iload 4, 45, 0, 4, 0, .null),
  (45, .iconst 1, 46, 0, 0, 0, .int 1),
  (46, .aload_n 0, 47, 0, 0, 0, .null),
  (47, .getfield 9, 50, 57, 0, 0, .null),
  (50, .iload 5, 52, 0, 5, 0, .null),
  (52, .iaload, 53, 0, 0, 0, .null),
  (53, .ishl, 54, 0, 0, 0, .null),
  (54, .ior, 55, 0, 0, 0, .null),
  (55, .istore 4, 57, 0, 4, 0, .null),
  (57, .iinc 5 1, 60, 0, 5, 0, .int 1),
  (60, .goto (-54), 63, 0, 6, 0, .null),
  (63, .iload 4, 65, 0, 4, 0, .null),
  (65, .ireturn, 66, 0, 0, 0, .null)]
def mm_X0_heldAmong : ev_M := (RX0, "heldAmong", cX0_heldAmong, 6, (some .int), tb_X0_heldAmong, 0, 0, 0, 0)
set_option maxRecDepth 100000 in
theorem ok_X0_heldAmong : ev_OK mm_X0_heldAmong := by unfold ev_OK; decide +kernel
theorem cv_X0_heldAmong : ev_CV yX0_heldAmong mm_X0_heldAmong 0 3 := ⟨ev_has_in (k := 438) (by decide +kernel), ev_has_in (k := 25) (by decide +kernel), ev_has_in (k := 437) (by decide +kernel), ev_has_in (k := 8) (by decide +kernel), ⟨by decide +kernel, by decide +kernel, by decide +kernel⟩, rfl, by decide⟩
theorem ml_X0_21 : ev_ml RX0 21 yX4_isIn := Or.inr ⟨"GossipCounts", ev_has_in (k := 421) (by decide +kernel)⟩
theorem ml_X0_25 : ev_ml RX0 25 yX0_reachedWithout := Or.inl (ev_has_in (k := 567) (by decide +kernel))
theorem ml_X0_29 : ev_ml RX0 29 yX4_placeOf := Or.inr ⟨"GossipCounts", ev_has_in (k := 434) (by decide +kernel)⟩
theorem ml_X0_33 : ev_ml RX0 33 yX0_heldAmong := Or.inl (ev_has_in (k := 435) (by decide +kernel))
theorem ml_X0_37 : ev_ml RX0 37 yX0_reachedFrom := Or.inl (ev_has_in (k := 439) (by decide +kernel))
theorem ml_X0_40 : ev_ml RX0 40 yX0_reachOf := Or.inl (ev_has_in (k := 582) (by decide +kernel))
theorem ml_X0_43 : ev_ml RX0 43 yX0_lostWithout := Or.inl (ev_has_in (k := 701) (by decide +kernel))
theorem ml_X0_46 : ev_ml RX0 46 yX0_reached := Or.inl (ev_has_in (k := 705) (by decide +kernel))
theorem ml_X0_50 : ev_ml RX0 50 yJ6_bitCount_0f7a4 := Or.inl (ev_has_in (k := 706) (by decide +kernel))
theorem ml_X0_55 : ev_ml RX0 55 yJ6_numberOfTrailingZeros_0f7a4 := Or.inl (ev_has_in (k := 443) (by decide +kernel))
