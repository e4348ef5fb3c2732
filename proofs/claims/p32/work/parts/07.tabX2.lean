/-! tables of the methods of GossipCounts$Text, laid by wip/p32/gen/tabs2.py -/
def tb_X2_init : ev_T := [(0, .aload_n 0, 1, 0, 0, 0, .null),
  (1, .invokespecial 3, 4, 0, 0, 0, .null),
  (4, .aload_n 0, 5, 0, 0, 0, .null),
  (5, .bipush 60, 7, 0, 0, 0, .int 60),
  (7, .newarray .int, 9, 0, 0, 0, .null),
  (9, .putfield 9, 12, 154, 2, 1, .null),
  (12, .aload_n 0, 13, 0, 0, 0, .null),
  (13, .iconst 3, 14, 0, 0, 0, .int 3),
  (14, .newarray .int, 16, 0, 0, 0, .null),
  (16, .putfield 15, 19, 155, 2, 3, .null),
  (19, .return_, 20, 0, 0, 0, .null)]
def mm_X2_init : ev_M := (RX2, "<init>", cX2_init, 1, none, tb_X2_init, 1, 30, 0, 0)
set_option maxRecDepth 100000 in
theorem ok_X2_init : ev_OK mm_X2_init := by unfold ev_OK; decide +kernel
theorem ci_X2_init : ev_CI yX2_init mm_X2_init 0 := ⟨ev_has_in (k := 152) (by decide +kernel), ev_has_in (k := 27) (by decide +kernel), ev_has_in (k := 151) (by decide +kernel), ⟨by decide +kernel, by decide +kernel, by decide +kernel⟩, rfl⟩
