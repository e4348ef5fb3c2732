/-! tables of the methods of java/lang/Math, laid by wip/p32/gen/tabs2.py -/
def tb_J9_floorMod_7cf53 : ev_T := [(0, .iload_n 0, 1, 0, 0, 0, .null),
  (1, .iload_n 1, 2, 0, 1, 0, .null),
  (2, .irem, 3, 0, 0, 0, .null),
  (3, .istore_n 2, 4, 0, 2, 0, .null),
  (4, .iload_n 0, 5, 0, 0, 0, .null),
  (5, .iload_n 1, 6, 0, 1, 0, .null),
  (6, .ixor, 7, 0, 0, 0, .null),
  (7, .ifCond .ge 11, 10, 0, 18, 0, .null),
  (10, .iload_n 2, 11, 0, 2, 0, .null),
  (11, .ifCond .eq 7, 14, 0, 18, 0, .null),
  (14, .iload_n 2, 15, 0, 2, 0, .null),
  (15, .iload_n 1, 16, 0, 1, 0, .null),
  (16, .iadd, 17, 0, 0, 0, .null),
  (17, .ireturn, 18, 0, 0, 0, .null),
  (18, .iload_n 2, 19, 0, 2, 0, .null),
  (19, .ireturn, 20, 0, 0, 0, .null)]
def mm_J9_floorMod_7cf53 : ev_M := (RJ9, "floorMod", cJ9_floorMod_7cf53, 3, (some .int), tb_J9_floorMod_7cf53, 0, 0, 0, 0)
set_option maxRecDepth 100000 in
theorem ok_J9_floorMod_7cf53 : ev_OK mm_J9_floorMod_7cf53 := by unfold ev_OK; decide +kernel
theorem cs_J9_floorMod_7cf53 : ev_CS yJ9_floorMod_7cf53 mm_J9_floorMod_7cf53 2 := ⟨ev_has_in (k := 412) (by decide +kernel), ev_has_in (k := 35) (by decide +kernel), ev_has_in (k := 411) (by decide +kernel), ⟨by decide +kernel, by decide +kernel, by decide +kernel⟩⟩
