/-! the table of L_same, in pieces -/
def tb_L_same : ev_T := tb_L_same_0 ++ (tb_L_same_1 ++ (tb_L_same_2 ++ (tb_L_same_3 ++ (tb_L_same_4 ++ (tb_L_same_5 ++ (tb_L_same_6 ++ (tb_L_same_7 ++ (tb_L_same_8))))))))
def mm_L_same : ev_M := (RL, "same", cL_same, 18, (some .boolean), tb_L_same, 7, 182, 0, 0)
theorem ok_L_same : ev_OK mm_L_same := ev_app tk_L_same_0 (ev_app tk_L_same_1 (ev_app tk_L_same_2 (ev_app tk_L_same_3 (ev_app tk_L_same_4 (ev_app tk_L_same_5 (ev_app tk_L_same_6 (ev_app tk_L_same_7 (tk_L_same_8))))))))
set_option maxRecDepth 100000 in
theorem wc_L_same : Jvm.Cond.code yL_same (ev_cc mm_L_same) (ev_nL mm_L_same) (ev_rt mm_L_same) ∈ ev_WA := List.mem_filter.mpr ⟨List.mem_of_getElem? (i := 542) (by with_unfolding_all rfl), by with_unfolding_all rfl⟩
theorem cs_L_same : ev_CS yL_same mm_L_same 5 := ⟨wc_L_same, ev_has_in (k := 22) (by decide +kernel), ev_has_in (k := 541) (by decide +kernel), ⟨by decide +kernel, by decide +kernel, by decide +kernel⟩⟩
