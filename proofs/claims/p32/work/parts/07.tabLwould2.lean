/-! the table of L_would, in pieces -/
def tb_L_would : ev_T := tb_L_would_0 ++ (tb_L_would_1 ++ (tb_L_would_2 ++ (tb_L_would_3 ++ (tb_L_would_4))))
def mm_L_would : ev_M := (RL, "would", cL_would, 20, (some .boolean), tb_L_would, 8, 229, 0, 0)
theorem ok_L_would : ev_OK mm_L_would := ev_app tk_L_would_0 (ev_app tk_L_would_1 (ev_app tk_L_would_2 (ev_app tk_L_would_3 (tk_L_would_4))))
set_option maxRecDepth 100000 in
theorem wc_L_would : Jvm.Cond.code yL_would (ev_cc mm_L_would) (ev_nL mm_L_would) (ev_rt mm_L_would) ∈ ev_WA := List.mem_filter.mpr ⟨List.mem_of_getElem? (i := 641) (by with_unfolding_all rfl), by with_unfolding_all rfl⟩
theorem cs_L_would : ev_CS yL_would mm_L_would 11 := ⟨wc_L_would, ev_has_in (k := 22) (by decide +kernel), ev_has_in (k := 640) (by decide +kernel), ⟨by decide +kernel, by decide +kernel, by decide +kernel⟩⟩
