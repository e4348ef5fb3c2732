def s_X3_copyFrom (F : Nat) (u : S_X3) (v : S_X3) : Option S_X3 := (s_X0_copyFrom F (a_X3_hold u) (a_X3_hold v)).bind fun y1 => ((s_X1_copyFrom F (a_X3_rep u) (a_X3_rep v)).bind fun y2 => (some (m_X3_rep y2 (m_X3_hold y1 (m_X3_endOrder (va_cpy (a_X3_endOrder v) (a_X3_endOrder u) (0 : Int32).toNatClampNeg (0 : Int32).toNatClampNeg (24 : Int32).toNatClampNeg) (m_X3_endKinds (va_cpy (a_X3_endKinds v) (a_X3_endKinds u) (0 : Int32).toNatClampNeg (0 : Int32).toNatClampNeg (24 : Int32).toNatClampNeg) (m_X3_endTimes (va_cpy (a_X3_endTimes v) (a_X3_endTimes u) (0 : Int32).toNatClampNeg (0 : Int32).toNatClampNeg (24 : Int32).toNatClampNeg) (m_X3_endNumbers (va_cpy (a_X3_endNumbers v) (a_X3_endNumbers u) (0 : Int32).toNatClampNeg (0 : Int32).toNatClampNeg (24 : Int32).toNatClampNeg) (m_X3_came (va_cpy (a_X3_came v) (a_X3_came u) (0 : Int32).toNatClampNeg (0 : Int32).toNatClampNeg (24 : Int32).toNatClampNeg) (m_X3_counts (va_cpy (a_X3_counts v) (a_X3_counts u) (0 : Int32).toNatClampNeg (0 : Int32).toNatClampNeg (24 : Int32).toNatClampNeg) (m_X3_ranks (va_cpy (a_X3_ranks v) (a_X3_ranks u) (0 : Int32).toNatClampNeg (0 : Int32).toNatClampNeg (24 : Int32).toNatClampNeg) (m_X3_settings (va_cpy (a_X3_settings v) (a_X3_settings u) (0 : Int32).toNatClampNeg (0 : Int32).toNatClampNeg (5 : Int32).toNatClampNeg) (m_X3_slanderFound (a_X3_slanderFound v) (m_X3_ends (a_X3_ends v) (m_X3_wronged (a_X3_wronged v) (m_X3_suspects (a_X3_suspects v) (m_X3_living (a_X3_living v) (m_X3_things (a_X3_things v) (m_X3_time (a_X3_time v) u)))))))))))))))))))
set_option maxHeartbeats 4000000 in
set_option maxRecDepth 20000 in
theorem t_X3_copyFrom (F : Nat) (u : S_X3) (v : S_X3) (x : S_X3) (hR : s_X3_copyFrom F u v = some x) : ev_A yX3_copyFrom mm_X3_copyFrom none [.ref 0, .ref 15] (W2_X3 u v) (fun r w => r = none ∧ w = W2_X3 x v) := by
  unfold s_X3_copyFrom at hR
  refine ev_start ok_X3_copyFrom (by decide +kernel) rfl rfl (Nat.le_of_ble_eq_true rfl) ?_
  refine ev_run (cs := []) (pc' := 24) (L' := [some (.ref 0), some (.ref 15)]) (st' := []) (w' := W2_X3 (m_X3_living (a_X3_living v) (m_X3_things (a_X3_things v) (m_X3_time (a_X3_time v) u))) v) [] 12 (by with_unfolding_all rfl) trivial ?_
  refine ev_run (cs := []) (pc' := 48) (L' := [some (.ref 0), some (.ref 15)]) (st' := []) (w' := W2_X3 (m_X3_ends (a_X3_ends v) (m_X3_wronged (a_X3_wronged v) (m_X3_suspects (a_X3_suspects v) (m_X3_living (a_X3_living v) (m_X3_things (a_X3_things v) (m_X3_time (a_X3_time v) u)))))) v) [] 12 (by with_unfolding_all rfl) trivial ?_
  refine ev_run (cs := []) (pc' := 67) (L' := [some (.ref 0), some (.ref 15)]) (st' := [.int 5, .int 0, .ref 1, .int 0, .ref 16]) (w' := W2_X3 (m_X3_slanderFound (a_X3_slanderFound v) (m_X3_ends (a_X3_ends v) (m_X3_wronged (a_X3_wronged v) (m_X3_suspects (a_X3_suspects v) (m_X3_living (a_X3_living v) (m_X3_things (a_X3_things v) (m_X3_time (a_X3_time v) u))))))) v) [] 11 (by with_unfolding_all rfl) trivial ?_
  refine ev_cpy (ev_has_in (k := 282) (by decide +kernel)) rfl rfl rfl (by decide) (Nat.le_of_ble_eq_true rfl) ⟨Nat.le_of_ble_eq_true rfl, Nat.le_of_ble_eq_true rfl⟩ ?_
  refine ev_nx (pc' := 70) (st' := []) (w' := W2_X3 (m_X3_settings (va_cpy (a_X3_settings v) (a_X3_settings u) (0 : Int32).toNatClampNeg (0 : Int32).toNatClampNeg (5 : Int32).toNatClampNeg) (m_X3_slanderFound (a_X3_slanderFound v) (m_X3_ends (a_X3_ends v) (m_X3_wronged (a_X3_wronged v) (m_X3_suspects (a_X3_suspects v) (m_X3_living (a_X3_living v) (m_X3_things (a_X3_things v) (m_X3_time (a_X3_time v) u)))))))) v) rfl rfl (by with_unfolding_all rfl) rfl rfl ?_
  refine ev_run (cs := []) (pc' := 82) (L' := [some (.ref 0), some (.ref 15)]) (st' := [.int 24, .int 0, .ref 2, .int 0, .ref 17]) (w' := W2_X3 (m_X3_settings (va_cpy (a_X3_settings v) (a_X3_settings u) (0 : Int32).toNatClampNeg (0 : Int32).toNatClampNeg (5 : Int32).toNatClampNeg) (m_X3_slanderFound (a_X3_slanderFound v) (m_X3_ends (a_X3_ends v) (m_X3_wronged (a_X3_wronged v) (m_X3_suspects (a_X3_suspects v) (m_X3_living (a_X3_living v) (m_X3_things (a_X3_things v) (m_X3_time (a_X3_time v) u)))))))) v) [] 7 (by with_unfolding_all rfl) trivial ?_
  refine ev_cpy (ev_has_in (k := 282) (by decide +kernel)) rfl rfl rfl (by decide) (Nat.le_of_ble_eq_true rfl) ⟨Nat.le_of_ble_eq_true rfl, Nat.le_of_ble_eq_true rfl⟩ ?_
  refine ev_nx (pc' := 85) (st' := []) (w' := W2_X3 (m_X3_ranks (va_cpy (a_X3_ranks v) (a_X3_ranks u) (0 : Int32).toNatClampNeg (0 : Int32).toNatClampNeg (24 : Int32).toNatClampNeg) (m_X3_settings (va_cpy (a_X3_settings v) (a_X3_settings u) (0 : Int32).toNatClampNeg (0 : Int32).toNatClampNeg (5 : Int32).toNatClampNeg) (m_X3_slanderFound (a_X3_slanderFound v) (m_X3_ends (a_X3_ends v) (m_X3_wronged (a_X3_wronged v) (m_X3_suspects (a_X3_suspects v) (m_X3_living (a_X3_living v) (m_X3_things (a_X3_things v) (m_X3_time (a_X3_time v) u))))))))) v) rfl rfl (by with_unfolding_all rfl) rfl rfl ?_
  refine ev_run (cs := []) (pc' := 97) (L' := [some (.ref 0), some (.ref 15)]) (st' := [.int 24, .int 0, .ref 3, .int 0, .ref 18]) (w' := W2_X3 (m_X3_ranks (va_cpy (a_X3_ranks v) (a_X3_ranks u) (0 : Int32).toNatClampNeg (0 : Int32).toNatClampNeg (24 : Int32).toNatClampNeg) (m_X3_settings (va_cpy (a_X3_settings v) (a_X3_settings u) (0 : Int32).toNatClampNeg (0 : Int32).toNatClampNeg (5 : Int32).toNatClampNeg) (m_X3_slanderFound (a_X3_slanderFound v) (m_X3_ends (a_X3_ends v) (m_X3_wronged (a_X3_wronged v) (m_X3_suspects (a_X3_suspects v) (m_X3_living (a_X3_living v) (m_X3_things (a_X3_things v) (m_X3_time (a_X3_time v) u))))))))) v) [] 7 (by with_unfolding_all rfl) trivial ?_
  refine ev_cpy (ev_has_in (k := 282) (by decide +kernel)) rfl rfl rfl (by decide) (Nat.le_of_ble_eq_true rfl) ⟨Nat.le_of_ble_eq_true rfl, Nat.le_of_ble_eq_true rfl⟩ ?_
  refine ev_nx (pc' := 100) (st' := []) (w' := W2_X3 (m_X3_counts (va_cpy (a_X3_counts v) (a_X3_counts u) (0 : Int32).toNatClampNeg (0 : Int32).toNatClampNeg (24 : Int32).toNatClampNeg) (m_X3_ranks (va_cpy (a_X3_ranks v) (a_X3_ranks u) (0 : Int32).toNatClampNeg (0 : Int32).toNatClampNeg (24 : Int32).toNatClampNeg) (m_X3_settings (va_cpy (a_X3_settings v) (a_X3_settings u) (0 : Int32).toNatClampNeg (0 : Int32).toNatClampNeg (5 : Int32).toNatClampNeg) (m_X3_slanderFound (a_X3_slanderFound v) (m_X3_ends (a_X3_ends v) (m_X3_wronged (a_X3_wronged v) (m_X3_suspects (a_X3_suspects v) (m_X3_living (a_X3_living v) (m_X3_things (a_X3_things v) (m_X3_time (a_X3_time v) u)))))))))) v) rfl rfl (by with_unfolding_all rfl) rfl rfl ?_
  refine ev_run (cs := []) (pc' := 112) (L' := [some (.ref 0), some (.ref 15)]) (st' := [.int 24, .int 0, .ref 4, .int 0, .ref 19]) (w' := W2_X3 (m_X3_counts (va_cpy (a_X3_counts v) (a_X3_counts u) (0 : Int32).toNatClampNeg (0 : Int32).toNatClampNeg (24 : Int32).toNatClampNeg) (m_X3_ranks (va_cpy (a_X3_ranks v) (a_X3_ranks u) (0 : Int32).toNatClampNeg (0 : Int32).toNatClampNeg (24 : Int32).toNatClampNeg) (m_X3_settings (va_cpy (a_X3_settings v) (a_X3_settings u) (0 : Int32).toNatClampNeg (0 : Int32).toNatClampNeg (5 : Int32).toNatClampNeg) (m_X3_slanderFound (a_X3_slanderFound v) (m_X3_ends (a_X3_ends v) (m_X3_wronged (a_X3_wronged v) (m_X3_suspects (a_X3_suspects v) (m_X3_living (a_X3_living v) (m_X3_things (a_X3_things v) (m_X3_time (a_X3_time v) u)))))))))) v) [] 7 (by with_unfolding_all rfl) trivial ?_
  refine ev_cpy (ev_has_in (k := 282) (by decide +kernel)) rfl rfl rfl (by decide) (Nat.le_of_ble_eq_true rfl) ⟨Nat.le_of_ble_eq_true rfl, Nat.le_of_ble_eq_true rfl⟩ ?_
  refine ev_nx (pc' := 115) (st' := []) (w' := W2_X3 (m_X3_came (va_cpy (a_X3_came v) (a_X3_came u) (0 : Int32).toNatClampNeg (0 : Int32).toNatClampNeg (24 : Int32).toNatClampNeg) (m_X3_counts (va_cpy (a_X3_counts v) (a_X3_counts u) (0 : Int32).toNatClampNeg (0 : Int32).toNatClampNeg (24 : Int32).toNatClampNeg) (m_X3_ranks (va_cpy (a_X3_ranks v) (a_X3_ranks u) (0 : Int32).toNatClampNeg (0 : Int32).toNatClampNeg (24 : Int32).toNatClampNeg) (m_X3_settings (va_cpy (a_X3_settings v) (a_X3_settings u) (0 : Int32).toNatClampNeg (0 : Int32).toNatClampNeg (5 : Int32).toNatClampNeg) (m_X3_slanderFound (a_X3_slanderFound v) (m_X3_ends (a_X3_ends v) (m_X3_wronged (a_X3_wronged v) (m_X3_suspects (a_X3_suspects v) (m_X3_living (a_X3_living v) (m_X3_things (a_X3_things v) (m_X3_time (a_X3_time v) u))))))))))) v) rfl rfl (by with_unfolding_all rfl) rfl rfl ?_
  refine ev_run (cs := []) (pc' := 127) (L' := [some (.ref 0), some (.ref 15)]) (st' := [.int 24, .int 0, .ref 5, .int 0, .ref 20]) (w' := W2_X3 (m_X3_came (va_cpy (a_X3_came v) (a_X3_came u) (0 : Int32).toNatClampNeg (0 : Int32).toNatClampNeg (24 : Int32).toNatClampNeg) (m_X3_counts (va_cpy (a_X3_counts v) (a_X3_counts u) (0 : Int32).toNatClampNeg (0 : Int32).toNatClampNeg (24 : Int32).toNatClampNeg) (m_X3_ranks (va_cpy (a_X3_ranks v) (a_X3_ranks u) (0 : Int32).toNatClampNeg (0 : Int32).toNatClampNeg (24 : Int32).toNatClampNeg) (m_X3_settings (va_cpy (a_X3_settings v) (a_X3_settings u) (0 : Int32).toNatClampNeg (0 : Int32).toNatClampNeg (5 : Int32).toNatClampNeg) (m_X3_slanderFound (a_X3_slanderFound v) (m_X3_ends (a_X3_ends v) (m_X3_wronged (a_X3_wronged v) (m_X3_suspects (a_X3_suspects v) (m_X3_living (a_X3_living v) (m_X3_things (a_X3_things v) (m_X3_time (a_X3_time v) u))))))))))) v) [] 7 (by with_unfolding_all rfl) trivial ?_
  refine ev_cpy (ev_has_in (k := 282) (by decide +kernel)) rfl rfl rfl (by decide) (Nat.le_of_ble_eq_true rfl) ⟨Nat.le_of_ble_eq_true rfl, Nat.le_of_ble_eq_true rfl⟩ ?_
  refine ev_nx (pc' := 130) (st' := []) (w' := W2_X3 (m_X3_endNumbers (va_cpy (a_X3_endNumbers v) (a_X3_endNumbers u) (0 : Int32).toNatClampNeg (0 : Int32).toNatClampNeg (24 : Int32).toNatClampNeg) (m_X3_came (va_cpy (a_X3_came v) (a_X3_came u) (0 : Int32).toNatClampNeg (0 : Int32).toNatClampNeg (24 : Int32).toNatClampNeg) (m_X3_counts (va_cpy (a_X3_counts v) (a_X3_counts u) (0 : Int32).toNatClampNeg (0 : Int32).toNatClampNeg (24 : Int32).toNatClampNeg) (m_X3_ranks (va_cpy (a_X3_ranks v) (a_X3_ranks u) (0 : Int32).toNatClampNeg (0 : Int32).toNatClampNeg (24 : Int32).toNatClampNeg) (m_X3_settings (va_cpy (a_X3_settings v) (a_X3_settings u) (0 : Int32).toNatClampNeg (0 : Int32).toNatClampNeg (5 : Int32).toNatClampNeg) (m_X3_slanderFound (a_X3_slanderFound v) (m_X3_ends (a_X3_ends v) (m_X3_wronged (a_X3_wronged v) (m_X3_suspects (a_X3_suspects v) (m_X3_living (a_X3_living v) (m_X3_things (a_X3_things v) (m_X3_time (a_X3_time v) u)))))))))))) v) rfl rfl (by with_unfolding_all rfl) rfl rfl ?_
  refine ev_run (cs := []) (pc' := 142) (L' := [some (.ref 0), some (.ref 15)]) (st' := [.int 24, .int 0, .ref 6, .int 0, .ref 21]) (w' := W2_X3 (m_X3_endNumbers (va_cpy (a_X3_endNumbers v) (a_X3_endNumbers u) (0 : Int32).toNatClampNeg (0 : Int32).toNatClampNeg (24 : Int32).toNatClampNeg) (m_X3_came (va_cpy (a_X3_came v) (a_X3_came u) (0 : Int32).toNatClampNeg (0 : Int32).toNatClampNeg (24 : Int32).toNatClampNeg) (m_X3_counts (va_cpy (a_X3_counts v) (a_X3_counts u) (0 : Int32).toNatClampNeg (0 : Int32).toNatClampNeg (24 : Int32).toNatClampNeg) (m_X3_ranks (va_cpy (a_X3_ranks v) (a_X3_ranks u) (0 : Int32).toNatClampNeg (0 : Int32).toNatClampNeg (24 : Int32).toNatClampNeg) (m_X3_settings (va_cpy (a_X3_settings v) (a_X3_settings u) (0 : Int32).toNatClampNeg (0 : Int32).toNatClampNeg (5 : Int32).toNatClampNeg) (m_X3_slanderFound (a_X3_slanderFound v) (m_X3_ends (a_X3_ends v) (m_X3_wronged (a_X3_wronged v) (m_X3_suspects (a_X3_suspects v) (m_X3_living (a_X3_living v) (m_X3_things (a_X3_things v) (m_X3_time (a_X3_time v) u)))))))))))) v) [] 7 (by with_unfolding_all rfl) trivial ?_
  refine ev_cpy (ev_has_in (k := 282) (by decide +kernel)) rfl rfl rfl (by decide) (Nat.le_of_ble_eq_true rfl) ⟨Nat.le_of_ble_eq_true rfl, Nat.le_of_ble_eq_true rfl⟩ ?_
  refine ev_nx (pc' := 145) (st' := []) (w' := W2_X3 (m_X3_endTimes (va_cpy (a_X3_endTimes v) (a_X3_endTimes u) (0 : Int32).toNatClampNeg (0 : Int32).toNatClampNeg (24 : Int32).toNatClampNeg) (m_X3_endNumbers (va_cpy (a_X3_endNumbers v) (a_X3_endNumbers u) (0 : Int32).toNatClampNeg (0 : Int32).toNatClampNeg (24 : Int32).toNatClampNeg) (m_X3_came (va_cpy (a_X3_came v) (a_X3_came u) (0 : Int32).toNatClampNeg (0 : Int32).toNatClampNeg (24 : Int32).toNatClampNeg) (m_X3_counts (va_cpy (a_X3_counts v) (a_X3_counts u) (0 : Int32).toNatClampNeg (0 : Int32).toNatClampNeg (24 : Int32).toNatClampNeg) (m_X3_ranks (va_cpy (a_X3_ranks v) (a_X3_ranks u) (0 : Int32).toNatClampNeg (0 : Int32).toNatClampNeg (24 : Int32).toNatClampNeg) (m_X3_settings (va_cpy (a_X3_settings v) (a_X3_settings u) (0 : Int32).toNatClampNeg (0 : Int32).toNatClampNeg (5 : Int32).toNatClampNeg) (m_X3_slanderFound (a_X3_slanderFound v) (m_X3_ends (a_X3_ends v) (m_X3_wronged (a_X3_wronged v) (m_X3_suspects (a_X3_suspects v) (m_X3_living (a_X3_living v) (m_X3_things (a_X3_things v) (m_X3_time (a_X3_time v) u))))))))))))) v) rfl rfl (by with_unfolding_all rfl) rfl rfl ?_
  refine ev_run (cs := []) (pc' := 157) (L' := [some (.ref 0), some (.ref 15)]) (st' := [.int 24, .int 0, .ref 7, .int 0, .ref 22]) (w' := W2_X3 (m_X3_endTimes (va_cpy (a_X3_endTimes v) (a_X3_endTimes u) (0 : Int32).toNatClampNeg (0 : Int32).toNatClampNeg (24 : Int32).toNatClampNeg) (m_X3_endNumbers (va_cpy (a_X3_endNumbers v) (a_X3_endNumbers u) (0 : Int32).toNatClampNeg (0 : Int32).toNatClampNeg (24 : Int32).toNatClampNeg) (m_X3_came (va_cpy (a_X3_came v) (a_X3_came u) (0 : Int32).toNatClampNeg (0 : Int32).toNatClampNeg (24 : Int32).toNatClampNeg) (m_X3_counts (va_cpy (a_X3_counts v) (a_X3_counts u) (0 : Int32).toNatClampNeg (0 : Int32).toNatClampNeg (24 : Int32).toNatClampNeg) (m_X3_ranks (va_cpy (a_X3_ranks v) (a_X3_ranks u) (0 : Int32).toNatClampNeg (0 : Int32).toNatClampNeg (24 : Int32).toNatClampNeg) (m_X3_settings (va_cpy (a_X3_settings v) (a_X3_settings u) (0 : Int32).toNatClampNeg (0 : Int32).toNatClampNeg (5 : Int32).toNatClampNeg) (m_X3_slanderFound (a_X3_slanderFound v) (m_X3_ends (a_X3_ends v) (m_X3_wronged (a_X3_wronged v) (m_X3_suspects (a_X3_suspects v) (m_X3_living (a_X3_living v) (m_X3_things (a_X3_things v) (m_X3_time (a_X3_time v) u))))))))))))) v) [] 7 (by with_unfolding_all rfl) trivial ?_
  refine ev_cpy (ev_has_in (k := 282) (by decide +kernel)) rfl rfl rfl (by decide) (Nat.le_of_ble_eq_true rfl) ⟨Nat.le_of_ble_eq_true rfl, Nat.le_of_ble_eq_true rfl⟩ ?_
  refine ev_nx (pc' := 160) (st' := []) (w' := W2_X3 (m_X3_endKinds (va_cpy (a_X3_endKinds v) (a_X3_endKinds u) (0 : Int32).toNatClampNeg (0 : Int32).toNatClampNeg (24 : Int32).toNatClampNeg) (m_X3_endTimes (va_cpy (a_X3_endTimes v) (a_X3_endTimes u) (0 : Int32).toNatClampNeg (0 : Int32).toNatClampNeg (24 : Int32).toNatClampNeg) (m_X3_endNumbers (va_cpy (a_X3_endNumbers v) (a_X3_endNumbers u) (0 : Int32).toNatClampNeg (0 : Int32).toNatClampNeg (24 : Int32).toNatClampNeg) (m_X3_came (va_cpy (a_X3_came v) (a_X3_came u) (0 : Int32).toNatClampNeg (0 : Int32).toNatClampNeg (24 : Int32).toNatClampNeg) (m_X3_counts (va_cpy (a_X3_counts v) (a_X3_counts u) (0 : Int32).toNatClampNeg (0 : Int32).toNatClampNeg (24 : Int32).toNatClampNeg) (m_X3_ranks (va_cpy (a_X3_ranks v) (a_X3_ranks u) (0 : Int32).toNatClampNeg (0 : Int32).toNatClampNeg (24 : Int32).toNatClampNeg) (m_X3_settings (va_cpy (a_X3_settings v) (a_X3_settings u) (0 : Int32).toNatClampNeg (0 : Int32).toNatClampNeg (5 : Int32).toNatClampNeg) (m_X3_slanderFound (a_X3_slanderFound v) (m_X3_ends (a_X3_ends v) (m_X3_wronged (a_X3_wronged v) (m_X3_suspects (a_X3_suspects v) (m_X3_living (a_X3_living v) (m_X3_things (a_X3_things v) (m_X3_time (a_X3_time v) u)))))))))))))) v) rfl rfl (by with_unfolding_all rfl) rfl rfl ?_
  refine ev_run (cs := []) (pc' := 172) (L' := [some (.ref 0), some (.ref 15)]) (st' := [.int 24, .int 0, .ref 8, .int 0, .ref 23]) (w' := W2_X3 (m_X3_endKinds (va_cpy (a_X3_endKinds v) (a_X3_endKinds u) (0 : Int32).toNatClampNeg (0 : Int32).toNatClampNeg (24 : Int32).toNatClampNeg) (m_X3_endTimes (va_cpy (a_X3_endTimes v) (a_X3_endTimes u) (0 : Int32).toNatClampNeg (0 : Int32).toNatClampNeg (24 : Int32).toNatClampNeg) (m_X3_endNumbers (va_cpy (a_X3_endNumbers v) (a_X3_endNumbers u) (0 : Int32).toNatClampNeg (0 : Int32).toNatClampNeg (24 : Int32).toNatClampNeg) (m_X3_came (va_cpy (a_X3_came v) (a_X3_came u) (0 : Int32).toNatClampNeg (0 : Int32).toNatClampNeg (24 : Int32).toNatClampNeg) (m_X3_counts (va_cpy (a_X3_counts v) (a_X3_counts u) (0 : Int32).toNatClampNeg (0 : Int32).toNatClampNeg (24 : Int32).toNatClampNeg) (m_X3_ranks (va_cpy (a_X3_ranks v) (a_X3_ranks u) (0 : Int32).toNatClampNeg (0 : Int32).toNatClampNeg (24 : Int32).toNatClampNeg) (m_X3_settings (va_cpy (a_X3_settings v) (a_X3_settings u) (0 : Int32).toNatClampNeg (0 : Int32).toNatClampNeg (5 : Int32).toNatClampNeg) (m_X3_slanderFound (a_X3_slanderFound v) (m_X3_ends (a_X3_ends v) (m_X3_wronged (a_X3_wronged v) (m_X3_suspects (a_X3_suspects v) (m_X3_living (a_X3_living v) (m_X3_things (a_X3_things v) (m_X3_time (a_X3_time v) u)))))))))))))) v) [] 7 (by with_unfolding_all rfl) trivial ?_
  refine ev_cpy (ev_has_in (k := 282) (by decide +kernel)) rfl rfl rfl (by decide) (Nat.le_of_ble_eq_true rfl) ⟨Nat.le_of_ble_eq_true rfl, Nat.le_of_ble_eq_true rfl⟩ ?_
  refine ev_nx (pc' := 175) (st' := []) (w' := W2_X3 (m_X3_endOrder (va_cpy (a_X3_endOrder v) (a_X3_endOrder u) (0 : Int32).toNatClampNeg (0 : Int32).toNatClampNeg (24 : Int32).toNatClampNeg) (m_X3_endKinds (va_cpy (a_X3_endKinds v) (a_X3_endKinds u) (0 : Int32).toNatClampNeg (0 : Int32).toNatClampNeg (24 : Int32).toNatClampNeg) (m_X3_endTimes (va_cpy (a_X3_endTimes v) (a_X3_endTimes u) (0 : Int32).toNatClampNeg (0 : Int32).toNatClampNeg (24 : Int32).toNatClampNeg) (m_X3_endNumbers (va_cpy (a_X3_endNumbers v) (a_X3_endNumbers u) (0 : Int32).toNatClampNeg (0 : Int32).toNatClampNeg (24 : Int32).toNatClampNeg) (m_X3_came (va_cpy (a_X3_came v) (a_X3_came u) (0 : Int32).toNatClampNeg (0 : Int32).toNatClampNeg (24 : Int32).toNatClampNeg) (m_X3_counts (va_cpy (a_X3_counts v) (a_X3_counts u) (0 : Int32).toNatClampNeg (0 : Int32).toNatClampNeg (24 : Int32).toNatClampNeg) (m_X3_ranks (va_cpy (a_X3_ranks v) (a_X3_ranks u) (0 : Int32).toNatClampNeg (0 : Int32).toNatClampNeg (24 : Int32).toNatClampNeg) (m_X3_settings (va_cpy (a_X3_settings v) (a_X3_settings u) (0 : Int32).toNatClampNeg (0 : Int32).toNatClampNeg (5 : Int32).toNatClampNeg) (m_X3_slanderFound (a_X3_slanderFound v) (m_X3_ends (a_X3_ends v) (m_X3_wronged (a_X3_wronged v) (m_X3_suspects (a_X3_suspects v) (m_X3_living (a_X3_living v) (m_X3_things (a_X3_things v) (m_X3_time (a_X3_time v) u))))))))))))))) v) rfl rfl (by with_unfolding_all rfl) rfl rfl ?_
  refine ev_run (cs := []) (pc' := 183) (L' := [some (.ref 0), some (.ref 15)]) (st' := [.ref 24, .ref 9]) (w' := W2_X3 (m_X3_endOrder (va_cpy (a_X3_endOrder v) (a_X3_endOrder u) (0 : Int32).toNatClampNeg (0 : Int32).toNatClampNeg (24 : Int32).toNatClampNeg) (m_X3_endKinds (va_cpy (a_X3_endKinds v) (a_X3_endKinds u) (0 : Int32).toNatClampNeg (0 : Int32).toNatClampNeg (24 : Int32).toNatClampNeg) (m_X3_endTimes (va_cpy (a_X3_endTimes v) (a_X3_endTimes u) (0 : Int32).toNatClampNeg (0 : Int32).toNatClampNeg (24 : Int32).toNatClampNeg) (m_X3_endNumbers (va_cpy (a_X3_endNumbers v) (a_X3_endNumbers u) (0 : Int32).toNatClampNeg (0 : Int32).toNatClampNeg (24 : Int32).toNatClampNeg) (m_X3_came (va_cpy (a_X3_came v) (a_X3_came u) (0 : Int32).toNatClampNeg (0 : Int32).toNatClampNeg (24 : Int32).toNatClampNeg) (m_X3_counts (va_cpy (a_X3_counts v) (a_X3_counts u) (0 : Int32).toNatClampNeg (0 : Int32).toNatClampNeg (24 : Int32).toNatClampNeg) (m_X3_ranks (va_cpy (a_X3_ranks v) (a_X3_ranks u) (0 : Int32).toNatClampNeg (0 : Int32).toNatClampNeg (24 : Int32).toNatClampNeg) (m_X3_settings (va_cpy (a_X3_settings v) (a_X3_settings u) (0 : Int32).toNatClampNeg (0 : Int32).toNatClampNeg (5 : Int32).toNatClampNeg) (m_X3_slanderFound (a_X3_slanderFound v) (m_X3_ends (a_X3_ends v) (m_X3_wronged (a_X3_wronged v) (m_X3_suspects (a_X3_suspects v) (m_X3_living (a_X3_living v) (m_X3_things (a_X3_things v) (m_X3_time (a_X3_time v) u))))))))))))))) v) [] 4 (by with_unfolding_all rfl) trivial ?_
  obtain ⟨y1, h1, hR⟩ := lf_b hR
  refine ev_callV2 2 9 24 (t_X0_copyFrom F (a_X3_hold u) (a_X3_hold v) _ h1) cv_X0_copyFrom ml_X3_78 rfl rfl rfl rfl (Nat.le_of_ble_eq_true rfl) (Nat.le_of_ble_eq_true rfl) (by decide) (by with_unfolding_all rfl) (Nat.le_of_ble_eq_true rfl) ⟨Nat.le_of_ble_eq_true rfl, Nat.le_of_ble_eq_true rfl⟩ ⟨Nat.le_refl _, Nat.le_refl _⟩ ?_ ?_
  · rintro r w ⟨rfl, rfl⟩; rfl
  rintro r w ⟨rfl, rfl⟩
  refine ev_nx (pc' := 186) (st' := []) (w' := W2_X3 (m_X3_hold y1 (m_X3_endOrder (va_cpy (a_X3_endOrder v) (a_X3_endOrder u) (0 : Int32).toNatClampNeg (0 : Int32).toNatClampNeg (24 : Int32).toNatClampNeg) (m_X3_endKinds (va_cpy (a_X3_endKinds v) (a_X3_endKinds u) (0 : Int32).toNatClampNeg (0 : Int32).toNatClampNeg (24 : Int32).toNatClampNeg) (m_X3_endTimes (va_cpy (a_X3_endTimes v) (a_X3_endTimes u) (0 : Int32).toNatClampNeg (0 : Int32).toNatClampNeg (24 : Int32).toNatClampNeg) (m_X3_endNumbers (va_cpy (a_X3_endNumbers v) (a_X3_endNumbers u) (0 : Int32).toNatClampNeg (0 : Int32).toNatClampNeg (24 : Int32).toNatClampNeg) (m_X3_came (va_cpy (a_X3_came v) (a_X3_came u) (0 : Int32).toNatClampNeg (0 : Int32).toNatClampNeg (24 : Int32).toNatClampNeg) (m_X3_counts (va_cpy (a_X3_counts v) (a_X3_counts u) (0 : Int32).toNatClampNeg (0 : Int32).toNatClampNeg (24 : Int32).toNatClampNeg) (m_X3_ranks (va_cpy (a_X3_ranks v) (a_X3_ranks u) (0 : Int32).toNatClampNeg (0 : Int32).toNatClampNeg (24 : Int32).toNatClampNeg) (m_X3_settings (va_cpy (a_X3_settings v) (a_X3_settings u) (0 : Int32).toNatClampNeg (0 : Int32).toNatClampNeg (5 : Int32).toNatClampNeg) (m_X3_slanderFound (a_X3_slanderFound v) (m_X3_ends (a_X3_ends v) (m_X3_wronged (a_X3_wronged v) (m_X3_suspects (a_X3_suspects v) (m_X3_living (a_X3_living v) (m_X3_things (a_X3_things v) (m_X3_time (a_X3_time v) u)))))))))))))))) v) rfl rfl (by with_unfolding_all rfl) rfl rfl ?_
  refine ev_run (cs := []) (pc' := 194) (L' := [some (.ref 0), some (.ref 15)]) (st' := [.ref 26, .ref 11]) (w' := W2_X3 (m_X3_hold y1 (m_X3_endOrder (va_cpy (a_X3_endOrder v) (a_X3_endOrder u) (0 : Int32).toNatClampNeg (0 : Int32).toNatClampNeg (24 : Int32).toNatClampNeg) (m_X3_endKinds (va_cpy (a_X3_endKinds v) (a_X3_endKinds u) (0 : Int32).toNatClampNeg (0 : Int32).toNatClampNeg (24 : Int32).toNatClampNeg) (m_X3_endTimes (va_cpy (a_X3_endTimes v) (a_X3_endTimes u) (0 : Int32).toNatClampNeg (0 : Int32).toNatClampNeg (24 : Int32).toNatClampNeg) (m_X3_endNumbers (va_cpy (a_X3_endNumbers v) (a_X3_endNumbers u) (0 : Int32).toNatClampNeg (0 : Int32).toNatClampNeg (24 : Int32).toNatClampNeg) (m_X3_came (va_cpy (a_X3_came v) (a_X3_came u) (0 : Int32).toNatClampNeg (0 : Int32).toNatClampNeg (24 : Int32).toNatClampNeg) (m_X3_counts (va_cpy (a_X3_counts v) (a_X3_counts u) (0 : Int32).toNatClampNeg (0 : Int32).toNatClampNeg (24 : Int32).toNatClampNeg) (m_X3_ranks (va_cpy (a_X3_ranks v) (a_X3_ranks u) (0 : Int32).toNatClampNeg (0 : Int32).toNatClampNeg (24 : Int32).toNatClampNeg) (m_X3_settings (va_cpy (a_X3_settings v) (a_X3_settings u) (0 : Int32).toNatClampNeg (0 : Int32).toNatClampNeg (5 : Int32).toNatClampNeg) (m_X3_slanderFound (a_X3_slanderFound v) (m_X3_ends (a_X3_ends v) (m_X3_wronged (a_X3_wronged v) (m_X3_suspects (a_X3_suspects v) (m_X3_living (a_X3_living v) (m_X3_things (a_X3_things v) (m_X3_time (a_X3_time v) u)))))))))))))))) v) [] 4 (by with_unfolding_all rfl) trivial ?_
  obtain ⟨y2, h2, hR⟩ := lf_b hR
  refine ev_callV2 4 11 26 (t_X1_copyFrom F (a_X3_rep u) (a_X3_rep v) _ h2) cv_X1_copyFrom ml_X3_82 rfl rfl rfl rfl (Nat.le_of_ble_eq_true rfl) (Nat.le_of_ble_eq_true rfl) (by decide) (by with_unfolding_all rfl) (Nat.le_of_ble_eq_true rfl) ⟨Nat.le_of_ble_eq_true rfl, Nat.le_of_ble_eq_true rfl⟩ ⟨Nat.le_refl _, Nat.le_refl _⟩ ?_ ?_
  · rintro r w ⟨rfl, rfl⟩; rfl
  rintro r w ⟨rfl, rfl⟩
  refine ev_nx (pc' := 197) (st' := []) (w' := W2_X3 (m_X3_rep y2 (m_X3_hold y1 (m_X3_endOrder (va_cpy (a_X3_endOrder v) (a_X3_endOrder u) (0 : Int32).toNatClampNeg (0 : Int32).toNatClampNeg (24 : Int32).toNatClampNeg) (m_X3_endKinds (va_cpy (a_X3_endKinds v) (a_X3_endKinds u) (0 : Int32).toNatClampNeg (0 : Int32).toNatClampNeg (24 : Int32).toNatClampNeg) (m_X3_endTimes (va_cpy (a_X3_endTimes v) (a_X3_endTimes u) (0 : Int32).toNatClampNeg (0 : Int32).toNatClampNeg (24 : Int32).toNatClampNeg) (m_X3_endNumbers (va_cpy (a_X3_endNumbers v) (a_X3_endNumbers u) (0 : Int32).toNatClampNeg (0 : Int32).toNatClampNeg (24 : Int32).toNatClampNeg) (m_X3_came (va_cpy (a_X3_came v) (a_X3_came u) (0 : Int32).toNatClampNeg (0 : Int32).toNatClampNeg (24 : Int32).toNatClampNeg) (m_X3_counts (va_cpy (a_X3_counts v) (a_X3_counts u) (0 : Int32).toNatClampNeg (0 : Int32).toNatClampNeg (24 : Int32).toNatClampNeg) (m_X3_ranks (va_cpy (a_X3_ranks v) (a_X3_ranks u) (0 : Int32).toNatClampNeg (0 : Int32).toNatClampNeg (24 : Int32).toNatClampNeg) (m_X3_settings (va_cpy (a_X3_settings v) (a_X3_settings u) (0 : Int32).toNatClampNeg (0 : Int32).toNatClampNeg (5 : Int32).toNatClampNeg) (m_X3_slanderFound (a_X3_slanderFound v) (m_X3_ends (a_X3_ends v) (m_X3_wronged (a_X3_wronged v) (m_X3_suspects (a_X3_suspects v) (m_X3_living (a_X3_living v) (m_X3_things (a_X3_things v) (m_X3_time (a_X3_time v) u))))))))))))))))) v) rfl rfl (by with_unfolding_all rfl) rfl rfl ?_
  cases hR
  exact ev_exit ⟨_, _, rfl, ⟨rfl, rfl⟩, ⟨rfl, rfl⟩, Nat.le_refl _, Nat.le_refl _⟩

def s_X3_lives (F : Nat) (u : S_X3) (v1 : Int32) : Option Bool := if v1 < 0 then (some (false)) else (if 24 ≤ v1 then (some (false)) else (if (st_in (a_X3_living u) v1) then (some (true)) else (some (false))))
set_option maxHeartbeats 4000000 in
set_option maxRecDepth 20000 in
theorem t_X3_lives (F : Nat) (u : S_X3) (v1 : Int32) (x : Bool) (hR : s_X3_lives F u v1 = some x) : ev_A yX3_lives mm_X3_lives none [.ref 0, .int v1] (W_X3 u) (fun r w => r = some (.int (ev_b x)) ∧ w = W_X3 u) := by
  unfold s_X3_lives at hR
  refine ev_start ok_X3_lives (by decide +kernel) rfl rfl (Nat.le_of_ble_eq_true rfl) ?_
  refine ev_run (cs := []) (pc' := 1) (L' := [some (.ref 0), some (.int v1)]) (st' := [.int v1]) (w' := W_X3 u) [] 1 (by with_unfolding_all rfl) trivial ?_
  refine ev_br rfl rfl (fun h1 => ?_) (fun h1 => ?_)
  · replace hR := lf_t h1 hR
    refine ev_run (cs := []) (pc' := 26) (L' := [some (.ref 0), some (.int v1)]) (st' := [.int 0]) (w' := W_X3 u) [] 1 (by with_unfolding_all rfl) trivial ?_
    cases hR
    exact ev_exit ⟨_, _, rfl, ⟨rfl, Or.inr ⟨rfl, rfl⟩⟩, ⟨rfl, rfl⟩, Nat.le_refl _, Nat.le_refl _⟩
  · replace hR := lf_f h1 hR
    refine ev_run (cs := []) (pc' := 7) (L' := [some (.ref 0), some (.int v1)]) (st' := [.int 24, .int v1]) (w' := W_X3 u) [] 2 (by with_unfolding_all rfl) trivial ?_
    refine ev_br rfl rfl (fun h2 => ?_) (fun h2 => ?_)
    · replace hR := lf_t h2 hR
      refine ev_run (cs := []) (pc' := 26) (L' := [some (.ref 0), some (.int v1)]) (st' := [.int 0]) (w' := W_X3 u) [] 1 (by with_unfolding_all rfl) trivial ?_
      cases hR
      exact ev_exit ⟨_, _, rfl, ⟨rfl, Or.inr ⟨rfl, rfl⟩⟩, ⟨rfl, rfl⟩, Nat.le_refl _, Nat.le_refl _⟩
    · replace hR := lf_f h2 hR
      refine ev_run (cs := []) (pc' := 15) (L' := [some (.ref 0), some (.int v1)]) (st' := [.int v1, .int (a_X3_living u)]) (w' := W_X3 u) [] 3 (by with_unfolding_all rfl) trivial ?_
      refine ev_callS1 0 (t_X4_isIn (a_X3_living u) v1) cs_X4_isIn ml_X3_85 rfl rfl rfl (Nat.le_of_ble_eq_true rfl) (by with_unfolding_all rfl) (Nat.le_of_ble_eq_true rfl) ⟨Nat.le_of_ble_eq_true rfl, Nat.le_of_ble_eq_true rfl⟩ ⟨Nat.le_refl _, Nat.le_refl _⟩ ?_ ?_
      · rintro r w ⟨rfl, rfl⟩; rfl
      rintro r w ⟨rfl, rfl⟩
      refine ev_nx (pc' := 18) (st' := [.int (ev_b (st_in (a_X3_living u) v1))]) (w' := W_X3 u) rfl rfl (by with_unfolding_all rfl) rfl rfl ?_
      refine ev_br rfl rfl (fun h3 => ?_) (fun h3 => ?_)
      · replace hR := lf_z0 h3 hR
        refine ev_run (cs := []) (pc' := 26) (L' := [some (.ref 0), some (.int v1)]) (st' := [.int 0]) (w' := W_X3 u) [] 1 (by with_unfolding_all rfl) trivial ?_
        cases hR
        exact ev_exit ⟨_, _, rfl, ⟨rfl, Or.inr ⟨rfl, rfl⟩⟩, ⟨rfl, rfl⟩, Nat.le_refl _, Nat.le_refl _⟩
      · replace hR := lf_z1 h3 hR
        refine ev_run (cs := []) (pc' := 26) (L' := [some (.ref 0), some (.int v1)]) (st' := [.int 1]) (w' := W_X3 u) [] 2 (by with_unfolding_all rfl) trivial ?_
        cases hR
        exact ev_exit ⟨_, _, rfl, ⟨rfl, Or.inr ⟨rfl, rfl⟩⟩, ⟨rfl, rfl⟩, Nat.le_refl _, Nat.le_refl _⟩

def s_X3_mayBeHeld (F : Nat) (u : S_X3) (v1 : Int32) : Option Bool := if v1 = (-1) then (some (true)) else ((s_X3_lives F u v1).bind fun y1 => (if y1 then (some (true)) else (some (false))))
set_option maxHeartbeats 4000000 in
set_option maxRecDepth 20000 in
theorem t_X3_mayBeHeld (F : Nat) (u : S_X3) (v1 : Int32) (x : Bool) (hR : s_X3_mayBeHeld F u v1 = some x) : ev_A yX3_mayBeHeld mm_X3_mayBeHeld none [.ref 0, .int v1] (W_X3 u) (fun r w => r = some (.int (ev_b x)) ∧ w = W_X3 u) := by
  unfold s_X3_mayBeHeld at hR
  refine ev_start ok_X3_mayBeHeld (by decide +kernel) rfl rfl (Nat.le_of_ble_eq_true rfl) ?_
  refine ev_run (cs := []) (pc' := 2) (L' := [some (.ref 0), some (.int v1)]) (st' := [.int (-1), .int v1]) (w' := W_X3 u) [] 2 (by with_unfolding_all rfl) trivial ?_
  refine ev_br rfl rfl (fun h1 => ?_) (fun h1 => ?_)
  · replace hR := lf_t h1 hR
    refine ev_run (cs := []) (pc' := 18) (L' := [some (.ref 0), some (.int v1)]) (st' := [.int 1]) (w' := W_X3 u) [] 2 (by with_unfolding_all rfl) trivial ?_
    cases hR
    exact ev_exit ⟨_, _, rfl, ⟨rfl, Or.inr ⟨rfl, rfl⟩⟩, ⟨rfl, rfl⟩, Nat.le_refl _, Nat.le_refl _⟩
  · replace hR := lf_f h1 hR
    refine ev_run (cs := []) (pc' := 7) (L' := [some (.ref 0), some (.int v1)]) (st' := [.int v1, .ref 0]) (w' := W_X3 u) [] 2 (by with_unfolding_all rfl) trivial ?_
    obtain ⟨y1, h2, hR⟩ := lf_b hR
    refine ev_callV1 0 (t_X3_lives F u v1 _ h2) cv_X3_lives ml_X3_89 rfl rfl rfl (Nat.le_of_ble_eq_true rfl) (by with_unfolding_all rfl) (Nat.le_of_ble_eq_true rfl) ⟨Nat.le_of_ble_eq_true rfl, Nat.le_of_ble_eq_true rfl⟩ ⟨Nat.le_refl _, Nat.le_refl _⟩ ?_ ?_
    · rintro r w ⟨rfl, rfl⟩; rfl
    rintro r w ⟨rfl, rfl⟩
    refine ev_nx (pc' := 10) (st' := [.int (ev_b y1)]) (w' := W_X3 u) rfl rfl (by with_unfolding_all rfl) rfl rfl ?_
    refine ev_br rfl rfl (fun h3 => ?_) (fun h3 => ?_)
    · replace hR := lf_z0 h3 hR
      refine ev_run (cs := []) (pc' := 18) (L' := [some (.ref 0), some (.int v1)]) (st' := [.int 0]) (w' := W_X3 u) [] 1 (by with_unfolding_all rfl) trivial ?_
      cases hR
      exact ev_exit ⟨_, _, rfl, ⟨rfl, Or.inr ⟨rfl, rfl⟩⟩, ⟨rfl, rfl⟩, Nat.le_refl _, Nat.le_refl _⟩
    · replace hR := lf_z1 h3 hR
      refine ev_run (cs := []) (pc' := 18) (L' := [some (.ref 0), some (.int v1)]) (st' := [.int 1]) (w' := W_X3 u) [] 2 (by with_unfolding_all rfl) trivial ?_
      cases hR
      exact ev_exit ⟨_, _, rfl, ⟨rfl, Or.inr ⟨rfl, rfl⟩⟩, ⟨rfl, rfl⟩, Nat.le_refl _, Nat.le_refl _⟩

def s_X3_bring (F : Nat) (u : S_X3) (v1 : Int32) : Option (Int32 × S_X3) := if (a_X3_things u) < 0 then (some ((-1), u)) else (if (a_X3_things u) < 24 then (if lf_ix (a_X3_things u) 24 then (if lf_ix (a_X3_things u) 24 then (if lf_ix (a_X3_things u) 24 then (if lf_ix (a_X3_things u) 24 then (some (a_X3_things u, m_X3_things ((a_X3_things u) + 1) (m_X3_living ((a_X3_living u) ||| (1 <<< ((a_X3_things u) &&& 31))) (m_X3_endTimes (upd (a_X3_endTimes u) ((a_X3_things u).toNatClampNeg) (-1)) (m_X3_endNumbers (upd (a_X3_endNumbers u) ((a_X3_things u).toNatClampNeg) (-1)) (m_X3_came (upd (a_X3_came u) ((a_X3_things u).toNatClampNeg) (a_X3_time u)) (m_X3_ranks (upd (a_X3_ranks u) ((a_X3_things u).toNatClampNeg) v1) u))))))) else none) else none) else none) else none) else (some ((-1), u)))
set_option maxHeartbeats 4000000 in
set_option maxRecDepth 20000 in
theorem t_X3_bring (F : Nat) (u : S_X3) (v1 : Int32) (x : (Int32 × S_X3)) (hR : s_X3_bring F u v1 = some x) : ev_A yX3_bring mm_X3_bring none [.ref 0, .int v1] (W_X3 u) (fun r w => r = some (.int x.1) ∧ w = W_X3 x.2) := by
  unfold s_X3_bring at hR
  refine ev_start ok_X3_bring (by decide +kernel) rfl rfl (Nat.le_of_ble_eq_true rfl) ?_
  refine ev_run (cs := []) (pc' := 6) (L' := [some (.ref 0), some (.int v1), some (.int (a_X3_things u))]) (st' := [.int (a_X3_things u)]) (w' := W_X3 u) [] 4 (by with_unfolding_all rfl) trivial ?_
  refine ev_br rfl rfl (fun h1 => ?_) (fun h1 => ?_)
  · replace hR := lf_t h1 hR
    refine ev_run (cs := []) (pc' := 16) (L' := [some (.ref 0), some (.int v1), some (.int (a_X3_things u))]) (st' := [.int (-1)]) (w' := W_X3 u) [] 1 (by with_unfolding_all rfl) trivial ?_
    cases hR
    exact ev_exit ⟨_, _, rfl, ⟨rfl, Or.inl rfl⟩, ⟨rfl, rfl⟩, Nat.le_refl _, Nat.le_refl _⟩
  · replace hR := lf_f h1 hR
    refine ev_run (cs := []) (pc' := 12) (L' := [some (.ref 0), some (.int v1), some (.int (a_X3_things u))]) (st' := [.int 24, .int (a_X3_things u)]) (w' := W_X3 u) [] 2 (by with_unfolding_all rfl) trivial ?_
    refine ev_br rfl rfl (fun h2 => ?_) (fun h2 => ?_)
    · replace hR := lf_t h2 hR
      obtain ⟨h3, hR⟩ := lf_g hR
      obtain ⟨h4, hR⟩ := lf_g hR
      refine ev_run (cs := [lf_ix (a_X3_things u) 24, lf_ix (a_X3_things u) 24]) (pc' := 35) (L' := [some (.ref 0), some (.int v1), some (.int (a_X3_things u))]) (st' := [.ref 0]) (w' := W_X3 (m_X3_came (upd (a_X3_came u) ((a_X3_things u).toNatClampNeg) (a_X3_time u)) (m_X3_ranks (upd (a_X3_ranks u) ((a_X3_things u).toNatClampNeg) v1) u))) [] 12 (by with_unfolding_all rfl) ⟨h3, h4⟩ ?_
      obtain ⟨h5, hR⟩ := lf_g hR
      obtain ⟨h6, hR⟩ := lf_g hR
      refine ev_run (cs := [lf_ix (a_X3_things u) 24, lf_ix (a_X3_things u) 24]) (pc' := 53) (L' := [some (.ref 0), some (.int v1), some (.int (a_X3_things u))]) (st' := [.int (a_X3_living u), .ref 0]) (w' := W_X3 (m_X3_endTimes (upd (a_X3_endTimes u) ((a_X3_things u).toNatClampNeg) (-1)) (m_X3_endNumbers (upd (a_X3_endNumbers u) ((a_X3_things u).toNatClampNeg) (-1)) (m_X3_came (upd (a_X3_came u) ((a_X3_things u).toNatClampNeg) (a_X3_time u)) (m_X3_ranks (upd (a_X3_ranks u) ((a_X3_things u).toNatClampNeg) v1) u))))) [] 12 (by with_unfolding_all rfl) ⟨h5, h6⟩ ?_
      refine ev_run (cs := []) (pc' := 71) (L' := [some (.ref 0), some (.int v1), some (.int (a_X3_things u))]) (st' := [.int (a_X3_things u)]) (w' := W_X3 (m_X3_things ((a_X3_things u) + 1) (m_X3_living ((a_X3_living u) ||| (1 <<< ((a_X3_things u) &&& 31))) (m_X3_endTimes (upd (a_X3_endTimes u) ((a_X3_things u).toNatClampNeg) (-1)) (m_X3_endNumbers (upd (a_X3_endNumbers u) ((a_X3_things u).toNatClampNeg) (-1)) (m_X3_came (upd (a_X3_came u) ((a_X3_things u).toNatClampNeg) (a_X3_time u)) (m_X3_ranks (upd (a_X3_ranks u) ((a_X3_things u).toNatClampNeg) v1) u))))))) [] 12 (by with_unfolding_all rfl) trivial ?_
      cases hR
      exact ev_exit ⟨_, _, rfl, ⟨rfl, Or.inl rfl⟩, ⟨rfl, rfl⟩, Nat.le_refl _, Nat.le_refl _⟩
    · replace hR := lf_f h2 hR
      refine ev_run (cs := []) (pc' := 16) (L' := [some (.ref 0), some (.int v1), some (.int (a_X3_things u))]) (st' := [.int (-1)]) (w' := W_X3 u) [] 1 (by with_unfolding_all rfl) trivial ?_
      cases hR
      exact ev_exit ⟨_, _, rfl, ⟨rfl, Or.inl rfl⟩, ⟨rfl, rfl⟩, Nat.le_refl _, Nat.le_refl _⟩

def s_X3_dueTime (F : Nat) (u : S_X3) (v1 : Int32) : Option Int32 := if ¬ (3 : Int32) = 0 then (if lf_ix (jd_fm v1 3) 5 then (some ((a_X3_time u) + ((a_X3_settings u) ((jd_fm v1 3).toNatClampNeg)))) else none) else none
set_option maxHeartbeats 4000000 in
set_option maxRecDepth 20000 in
theorem t_X3_dueTime (F : Nat) (u : S_X3) (v1 : Int32) (x : Int32) (hR : s_X3_dueTime F u v1 = some x) : ev_A yX3_dueTime mm_X3_dueTime none [.ref 0, .int v1] (W_X3 u) (fun r w => r = some (.int x) ∧ w = W_X3 u) := by
  unfold s_X3_dueTime at hR
  refine ev_start ok_X3_dueTime (by decide +kernel) rfl rfl (Nat.le_of_ble_eq_true rfl) ?_
  refine ev_run (cs := []) (pc' := 10) (L' := [some (.ref 0), some (.int v1)]) (st' := [.int 3, .int v1, .ref 1, .int (a_X3_time u)]) (w' := W_X3 u) [] 6 (by with_unfolding_all rfl) trivial ?_
  obtain ⟨h1, hR⟩ := lf_g hR
  refine ev_callS1 0 (t_J9_floorMod_7cf53 v1 3 h1) cs_J9_floorMod_7cf53 ml_X3_169 rfl rfl rfl (Nat.le_of_ble_eq_true rfl) (by with_unfolding_all rfl) (Nat.le_of_ble_eq_true rfl) ⟨Nat.le_of_ble_eq_true rfl, Nat.le_of_ble_eq_true rfl⟩ ⟨Nat.le_refl _, Nat.le_refl _⟩ ?_ ?_
  · rintro r w ⟨rfl, rfl⟩; rfl
  rintro r w ⟨rfl, rfl⟩
  refine ev_nx (pc' := 13) (st' := [.int (jd_fm v1 3), .ref 1, .int (a_X3_time u)]) (w' := W_X3 u) rfl rfl (by with_unfolding_all rfl) rfl rfl ?_
  obtain ⟨h2, hR⟩ := lf_g hR
  refine ev_run (cs := [lf_ix (jd_fm v1 3) 5]) (pc' := 15) (L' := [some (.ref 0), some (.int v1)]) (st' := [.int ((a_X3_time u) + ((a_X3_settings u) ((jd_fm v1 3).toNatClampNeg)))]) (w' := W_X3 u) [] 2 (by with_unfolding_all rfl) (h2) ?_
  cases hR
  exact ev_exit ⟨_, _, rfl, ⟨rfl, Or.inl rfl⟩, ⟨rfl, rfl⟩, Nat.le_refl _, Nat.le_refl _⟩

def s_X3_mustEnd_b59 (F : Nat) (u : S_X3) (v1 : Int32) (p0 : Int32) : Option (Bool × S_X3) := if p0 = 0 then (some (true, u)) else (if lf_ix v1 24 then (some (false, m_X3_slanderFound ((a_X3_slanderFound u) + 1) (m_X3_counts (upd (a_X3_counts u) v1.toNatClampNeg p0) u))) else none)
set_option maxHeartbeats 4000000 in
set_option maxRecDepth 20000 in
theorem t_X3_mustEnd_b59 (F : Nat) (u : S_X3) (v1 : Int32) (p0 : Int32) (x : (Bool × S_X3))  (hR : s_X3_mustEnd_b59 F u v1 p0 = some x) : ev_V mm_X3_mustEnd none (ev_XR mm_X3_mustEnd (fun r w => r = some (.int (ev_b x.1)) ∧ w = W_X3 x.2)) 59 [some (.ref 0), some (.int v1), none] [.int p0] (W_X3 u) 0 0 := by
  unfold s_X3_mustEnd_b59 at hR
  refine ev_run (cs := []) (pc' := 61) (L' := [some (.ref 0), some (.int v1), some (.int p0)]) (st' := [.int p0]) (w' := W_X3 u) [] 2 (by with_unfolding_all rfl) trivial ?_
  refine ev_br rfl rfl (fun h1 => ?_) (fun h1 => ?_)
  · replace hR := lf_f h1 hR
    obtain ⟨h2, hR⟩ := lf_g hR
    refine ev_run (cs := [lf_ix v1 24]) (pc' := 84) (L' := [some (.ref 0), some (.int v1), some (.int p0)]) (st' := [.int 0]) (w' := W_X3 (m_X3_slanderFound ((a_X3_slanderFound u) + 1) (m_X3_counts (upd (a_X3_counts u) v1.toNatClampNeg p0) u))) [] 12 (by with_unfolding_all rfl) (h2) ?_
    cases hR
    exact ev_exit ⟨_, _, rfl, ⟨rfl, Or.inr ⟨rfl, rfl⟩⟩, ⟨rfl, rfl⟩, Nat.le_refl _, Nat.le_refl _⟩
  · replace hR := lf_t h1 hR
    refine ev_run (cs := []) (pc' := 65) (L' := [some (.ref 0), some (.int v1), some (.int p0)]) (st' := [.int 1]) (w' := W_X3 u) [] 1 (by with_unfolding_all rfl) trivial ?_
    cases hR
    exact ev_exit ⟨_, _, rfl, ⟨rfl, Or.inr ⟨rfl, rfl⟩⟩, ⟨rfl, rfl⟩, Nat.le_refl _, Nat.le_refl _⟩

def s_X3_mustEnd (F : Nat) (u : S_X3) (v1 : Int32) : Option (Bool × S_X3) := if lf_ix v1 24 then (if ((a_X3_counts u) v1.toNatClampNeg) ≤ 0 then ((s_X1_anyFor F (a_X3_rep u) (1 <<< (v1 &&& 31))).bind fun y1 => (if y1 then (some (false, u)) else (if ((a_X3_settings u) (3 : Int32).toNatClampNeg) = 0 then (s_X3_mustEnd_b59 F u v1 0) else ((s_X0_truthOf F (a_X3_hold u) v1).bind fun y2 => (s_X3_mustEnd_b59 F u v1 y2))))) else (some (false, m_X3_suspects ((a_X3_suspects u) ||| (1 <<< (v1 &&& 31))) u))) else none
set_option maxHeartbeats 4000000 in
set_option maxRecDepth 20000 in
theorem t_X3_mustEnd (F : Nat) (u : S_X3) (v1 : Int32) (x : (Bool × S_X3)) (hR : s_X3_mustEnd F u v1 = some x) : ev_A yX3_mustEnd mm_X3_mustEnd none [.ref 0, .int v1] (W_X3 u) (fun r w => r = some (.int (ev_b x.1)) ∧ w = W_X3 x.2) := by
  unfold s_X3_mustEnd at hR
  refine ev_start ok_X3_mustEnd (by decide +kernel) rfl rfl (Nat.le_of_ble_eq_true rfl) ?_
  obtain ⟨h1, hR⟩ := lf_g hR
  refine ev_run (cs := [lf_ix v1 24]) (pc' := 6) (L' := [some (.ref 0), some (.int v1), none]) (st' := [.int ((a_X3_counts u) v1.toNatClampNeg)]) (w' := W_X3 u) [] 4 (by with_unfolding_all rfl) (h1) ?_
  refine ev_br rfl rfl (fun h2 => ?_) (fun h2 => ?_)
  · replace hR := lf_t h2 hR
    refine ev_run (cs := []) (pc' := 30) (L' := [some (.ref 0), some (.int v1), none]) (st' := [.int (1 <<< (v1 &&& 31)), .ref 11]) (w' := W_X3 u) [] 5 (by with_unfolding_all rfl) trivial ?_
    obtain ⟨y1, h3, hR⟩ := lf_b hR
    refine ev_callV1 11 (t_X1_anyFor F (a_X3_rep u) (1 <<< (v1 &&& 31)) _ h3) cv_X1_anyFor ml_X3_131 rfl rfl rfl (Nat.le_of_ble_eq_true rfl) (by with_unfolding_all rfl) (Nat.le_of_ble_eq_true rfl) ⟨Nat.le_of_ble_eq_true rfl, Nat.le_of_ble_eq_true rfl⟩ ⟨Nat.le_refl _, Nat.le_refl _⟩ ?_ ?_
    · rintro r w ⟨rfl, rfl⟩; rfl
    rintro r w ⟨rfl, rfl⟩
    refine ev_nx (pc' := 33) (st' := [.int (ev_b y1)]) (w' := W_X3 u) rfl rfl (by with_unfolding_all rfl) rfl rfl ?_
    refine ev_br rfl rfl (fun h4 => ?_) (fun h4 => ?_)
    · replace hR := lf_z0 h4 hR
      refine ev_run (cs := [lf_ix 3 5]) (pc' := 44) (L' := [some (.ref 0), some (.int v1), none]) (st' := [.int ((a_X3_settings u) (3 : Int32).toNatClampNeg)]) (w' := W_X3 u) [] 4 (by with_unfolding_all rfl) (by show ¬ _; decide) ?_
      refine ev_br rfl rfl (fun h5 => ?_) (fun h5 => ?_)
      · replace hR := lf_f h5 hR
        refine ev_run (cs := []) (pc' := 56) (L' := [some (.ref 0), some (.int v1), none]) (st' := [.int v1, .ref 9]) (w' := W_X3 u) [] 3 (by with_unfolding_all rfl) trivial ?_
        obtain ⟨y2, h6, hR⟩ := lf_b hR
        refine ev_callV1 9 (t_X0_truthOf F (a_X3_hold u) v1 _ h6) cv_X0_truthOf ml_X3_114 rfl rfl rfl (Nat.le_of_ble_eq_true rfl) (by with_unfolding_all rfl) (Nat.le_of_ble_eq_true rfl) ⟨Nat.le_of_ble_eq_true rfl, Nat.le_of_ble_eq_true rfl⟩ ⟨Nat.le_refl _, Nat.le_refl _⟩ ?_ ?_
        · rintro r w ⟨rfl, rfl⟩; rfl
        rintro r w ⟨rfl, rfl⟩
        refine ev_nx (pc' := 59) (st' := [.int y2]) (w' := W_X3 u) rfl rfl (by with_unfolding_all rfl) rfl rfl ?_
        exact ev_to2 (t_X3_mustEnd_b59 F u v1 y2 _ hR) ⟨rfl, rfl, trivial⟩ rfl rfl
      · replace hR := lf_t h5 hR
        refine ev_run (cs := []) (pc' := 59) (L' := [some (.ref 0), some (.int v1), none]) (st' := [.int 0]) (w' := W_X3 u) [] 2 (by with_unfolding_all rfl) trivial ?_
        exact ev_to2 (t_X3_mustEnd_b59 F u v1 0 _ hR) ⟨rfl, rfl, trivial⟩ rfl rfl
    · replace hR := lf_z1 h4 hR
      refine ev_run (cs := []) (pc' := 37) (L' := [some (.ref 0), some (.int v1), none]) (st' := [.int 0]) (w' := W_X3 u) [] 1 (by with_unfolding_all rfl) trivial ?_
      cases hR
      exact ev_exit ⟨_, _, rfl, ⟨rfl, Or.inr ⟨rfl, rfl⟩⟩, ⟨rfl, rfl⟩, Nat.le_refl _, Nat.le_refl _⟩
  · replace hR := lf_f h2 hR
    refine ev_run (cs := []) (pc' := 22) (L' := [some (.ref 0), some (.int v1), none]) (st' := [.int 0]) (w' := W_X3 (m_X3_suspects ((a_X3_suspects u) ||| (1 <<< (v1 &&& 31))) u)) [] 9 (by with_unfolding_all rfl) trivial ?_
    cases hR
    exact ev_exit ⟨_, _, rfl, ⟨rfl, Or.inr ⟨rfl, rfl⟩⟩, ⟨rfl, rfl⟩, Nat.le_refl _, Nat.le_refl _⟩

def s_X3_endThing_b177 (F : Nat) (u : S_X3) (v1 : Int32) (v2 : Int32) : Option S_X3 := (s_X0_letGo F (a_X3_hold u) v1 v2).bind fun y1 => (if y1.1 then (some (m_X3_wronged ((a_X3_wronged u) ||| (1 <<< (v1 &&& 31))) (m_X3_hold y1.2 u))) else (some (m_X3_hold y1.2 u)))
set_option maxHeartbeats 4000000 in
set_option maxRecDepth 20000 in
theorem t_X3_endThing_b177 (F : Nat) (u : S_X3) (v1 : Int32) (v2 : Int32) (x : S_X3)  (hR : s_X3_endThing_b177 F u v1 v2 = some x) : ev_V mm_X3_endThing none (ev_XR mm_X3_endThing (fun r w => r = none ∧ w = W_X3 x)) 177 [some (.ref 0), some (.int v1), some (.int v2), none, none, none, none] [] (W_X3 u) 0 0 := by
  unfold s_X3_endThing_b177 at hR
  refine ev_run (cs := []) (pc' := 183) (L' := [some (.ref 0), some (.int v1), some (.int v2), none, none, none, none]) (st' := [.int v2, .int v1, .ref 9]) (w' := W_X3 u) [] 4 (by with_unfolding_all rfl) trivial ?_
  obtain ⟨y1, h1, hR⟩ := lf_b hR
  refine ev_callV1 9 (t_X0_letGo F (a_X3_hold u) v1 v2 _ h1) cv_X0_letGo ml_X3_166 rfl rfl rfl (Nat.le_of_ble_eq_true rfl) (by with_unfolding_all rfl) (Nat.le_of_ble_eq_true rfl) ⟨Nat.le_of_ble_eq_true rfl, Nat.le_of_ble_eq_true rfl⟩ ⟨Nat.le_refl _, Nat.le_refl _⟩ ?_ ?_
  · rintro r w ⟨rfl, rfl⟩; rfl
  rintro r w ⟨rfl, rfl⟩
  refine ev_nx (pc' := 186) (st' := [.int (ev_b y1.1)]) (w' := W_X3 (m_X3_hold y1.2 u)) rfl rfl (by with_unfolding_all rfl) rfl rfl ?_
  refine ev_br rfl rfl (fun h2 => ?_) (fun h2 => ?_)
  · replace hR := lf_z0 h2 hR
    cases hR
    exact ev_exit ⟨_, _, rfl, ⟨rfl, rfl⟩, ⟨rfl, rfl⟩, Nat.le_refl _, Nat.le_refl _⟩
  · replace hR := lf_z1 h2 hR
    refine ev_run (cs := []) (pc' := 201) (L' := [some (.ref 0), some (.int v1), some (.int v2), none, none, none, none]) (st' := []) (w' := W_X3 (m_X3_wronged ((a_X3_wronged u) ||| (1 <<< (v1 &&& 31))) (m_X3_hold y1.2 u))) [] 8 (by with_unfolding_all rfl) trivial ?_
    cases hR
    exact ev_exit ⟨_, _, rfl, ⟨rfl, rfl⟩, ⟨rfl, rfl⟩, Nat.le_refl _, Nat.le_refl _⟩

def s_X3_endThing_l103 (F : Nat) (v1 : Int32) (v2 : Int32) : Nat → S_X3 → Int32 → Option S_X3
  | 0 => fun _ _ => none
  | n + 1 => fun u v4 => if 4 ≤ v4 then (s_X3_endThing_b177 F u v1 v2) else ((s_X0_at F (a_X3_hold u) (st_pl v1 v4)).bind fun y1 => ((s_X0_hold F (a_X3_hold u) (st_pl v1 v4) (-1)).bind fun y2 => (if y1 = (-1) then (s_X3_endThing_l103 F v1 v2 n (m_X3_hold y2 u) (v4 + 1)) else (if (st_in v2 y1) then (s_X3_endThing_l103 F v1 v2 n (m_X3_hold y2 u) (v4 + 1)) else ((s_X3_dueTime F (m_X3_hold y2 u) y1).bind fun y3 => ((s_X1_make F (a_X3_rep u) y1 (-1) y3 0).bind fun y4 => (s_X3_endThing_l103 F v1 v2 n (m_X3_rep y4.2 (m_X3_hold y2 u)) (v4 + 1))))))))
theorem e_X3_endThing_l103 (F : Nat) (v1 : Int32) (v2 : Int32) (n : Nat) (u : S_X3) (v4 : Int32) : s_X3_endThing_l103 F v1 v2 (n + 1) u v4 = if 4 ≤ v4 then (s_X3_endThing_b177 F u v1 v2) else ((s_X0_at F (a_X3_hold u) (st_pl v1 v4)).bind fun y1 => ((s_X0_hold F (a_X3_hold u) (st_pl v1 v4) (-1)).bind fun y2 => (if y1 = (-1) then (s_X3_endThing_l103 F v1 v2 n (m_X3_hold y2 u) (v4 + 1)) else (if (st_in v2 y1) then (s_X3_endThing_l103 F v1 v2 n (m_X3_hold y2 u) (v4 + 1)) else ((s_X3_dueTime F (m_X3_hold y2 u) y1).bind fun y3 => ((s_X1_make F (a_X3_rep u) y1 (-1) y3 0).bind fun y4 => (s_X3_endThing_l103 F v1 v2 n (m_X3_rep y4.2 (m_X3_hold y2 u)) (v4 + 1)))))))) := rfl
set_option maxHeartbeats 4000000 in
set_option maxRecDepth 20000 in
theorem t_X3_endThing_l103 (F : Nat) (v1 : Int32) (v2 : Int32) (x : S_X3)  : ∀ (n : Nat) (u : S_X3) (v4 : Int32), s_X3_endThing_l103 F v1 v2 n u v4 = some x → ev_V mm_X3_endThing none (ev_XR mm_X3_endThing (fun r w => r = none ∧ w = W_X3 x)) 103 [some (.ref 0), some (.int v1), some (.int v2), none, some (.int v4), none, none] [] (W_X3 u) 0 0 := by
  intro n
  induction n with
  | zero => intro u v4 hR; cases hR
  | succ n hk103 =>
    intro u v4 hR
    unfold s_X3_endThing_l103 at hR
    refine ev_run (cs := []) (pc' := 106) (L' := [some (.ref 0), some (.int v1), some (.int v2), none, some (.int v4), none, none]) (st' := [.int 4, .int v4]) (w' := W_X3 u) [] 2 (by with_unfolding_all rfl) trivial ?_
    refine ev_br rfl rfl (fun h1 => ?_) (fun h1 => ?_)
    · replace hR := lf_t h1 hR
      exact ev_to2 (t_X3_endThing_b177 F u v1 v2 _ hR) ⟨rfl, rfl, rfl, trivial⟩ rfl rfl
    · replace hR := lf_f h1 hR
      refine ev_run (cs := []) (pc' := 112) (L' := [some (.ref 0), some (.int v1), some (.int v2), none, some (.int v4), none, none]) (st' := [.int v4, .int v1]) (w' := W_X3 u) [] 2 (by with_unfolding_all rfl) trivial ?_
      refine ev_callS1 0 (t_X4_placeOf v1 v4) cs_X4_placeOf ml_X3_163 rfl rfl rfl (Nat.le_of_ble_eq_true rfl) (by with_unfolding_all rfl) (Nat.le_of_ble_eq_true rfl) ⟨Nat.le_of_ble_eq_true rfl, Nat.le_of_ble_eq_true rfl⟩ ⟨Nat.le_refl _, Nat.le_refl _⟩ ?_ ?_
      · rintro r w ⟨rfl, rfl⟩; rfl
      rintro r w ⟨rfl, rfl⟩
      refine ev_nx (pc' := 115) (st' := [.int (st_pl v1 v4)]) (w' := W_X3 u) rfl rfl (by with_unfolding_all rfl) rfl rfl ?_
      refine ev_run (cs := []) (pc' := 123) (L' := [some (.ref 0), some (.int v1), some (.int v2), none, some (.int v4), some (.int (st_pl v1 v4)), none]) (st' := [.int (st_pl v1 v4), .ref 9]) (w' := W_X3 u) [] 4 (by with_unfolding_all rfl) trivial ?_
      obtain ⟨y1, h2, hR⟩ := lf_b hR
      refine ev_callV1 9 (t_X0_at F (a_X3_hold u) (st_pl v1 v4) _ h2) cv_X0_at ml_X3_93 rfl rfl rfl (Nat.le_of_ble_eq_true rfl) (by with_unfolding_all rfl) (Nat.le_of_ble_eq_true rfl) ⟨Nat.le_of_ble_eq_true rfl, Nat.le_of_ble_eq_true rfl⟩ ⟨Nat.le_refl _, Nat.le_refl _⟩ ?_ ?_
      · rintro r w ⟨rfl, rfl⟩; rfl
      rintro r w ⟨rfl, rfl⟩
      refine ev_nx (pc' := 126) (st' := [.int y1]) (w' := W_X3 u) rfl rfl (by with_unfolding_all rfl) rfl rfl ?_
      refine ev_run (cs := []) (pc' := 135) (L' := [some (.ref 0), some (.int v1), some (.int v2), none, some (.int v4), some (.int (st_pl v1 v4)), some (.int y1)]) (st' := [.int (-1), .int (st_pl v1 v4), .ref 9]) (w' := W_X3 u) [] 5 (by with_unfolding_all rfl) trivial ?_
      obtain ⟨y2, h3, hR⟩ := lf_b hR
      refine ev_callV1 9 (t_X0_hold F (a_X3_hold u) (st_pl v1 v4) (-1) _ h3) cv_X0_hold ml_X3_97 rfl rfl rfl (Nat.le_of_ble_eq_true rfl) (by with_unfolding_all rfl) (Nat.le_of_ble_eq_true rfl) ⟨Nat.le_of_ble_eq_true rfl, Nat.le_of_ble_eq_true rfl⟩ ⟨Nat.le_refl _, Nat.le_refl _⟩ ?_ ?_
      · rintro r w ⟨rfl, rfl⟩; rfl
      rintro r w ⟨rfl, rfl⟩
      refine ev_nx (pc' := 138) (st' := []) (w' := W_X3 (m_X3_hold y2 u)) rfl rfl (by with_unfolding_all rfl) rfl rfl ?_
      refine ev_run (cs := []) (pc' := 141) (L' := [some (.ref 0), some (.int v1), some (.int v2), none, some (.int v4), some (.int (st_pl v1 v4)), some (.int y1)]) (st' := [.int (-1), .int y1]) (w' := W_X3 (m_X3_hold y2 u)) [] 2 (by with_unfolding_all rfl) trivial ?_
      refine ev_br rfl rfl (fun h4 => ?_) (fun h4 => ?_)
      · replace hR := lf_t h4 hR
        refine ev_run (cs := []) (pc' := 103) (L' := [some (.ref 0), some (.int v1), some (.int v2), none, some (.int (v4 + 1)), some (.int (st_pl v1 v4)), some (.int y1)]) (st' := []) (w' := W_X3 (m_X3_hold y2 u)) [] 2 (by with_unfolding_all rfl) trivial ?_
        exact ev_to2 (hk103 _ _ hR) ⟨rfl, rfl, rfl, rfl, trivial⟩ rfl rfl
      · replace hR := lf_f h4 hR
        refine ev_run (cs := []) (pc' := 147) (L' := [some (.ref 0), some (.int v1), some (.int v2), none, some (.int v4), some (.int (st_pl v1 v4)), some (.int y1)]) (st' := [.int y1, .int v2]) (w' := W_X3 (m_X3_hold y2 u)) [] 2 (by with_unfolding_all rfl) trivial ?_
        refine ev_callS1 0 (t_X4_isIn v2 y1) cs_X4_isIn ml_X3_85 rfl rfl rfl (Nat.le_of_ble_eq_true rfl) (by with_unfolding_all rfl) (Nat.le_of_ble_eq_true rfl) ⟨Nat.le_of_ble_eq_true rfl, Nat.le_of_ble_eq_true rfl⟩ ⟨Nat.le_refl _, Nat.le_refl _⟩ ?_ ?_
        · rintro r w ⟨rfl, rfl⟩; rfl
        rintro r w ⟨rfl, rfl⟩
        refine ev_nx (pc' := 150) (st' := [.int (ev_b (st_in v2 y1))]) (w' := W_X3 (m_X3_hold y2 u)) rfl rfl (by with_unfolding_all rfl) rfl rfl ?_
        refine ev_br rfl rfl (fun h5 => ?_) (fun h5 => ?_)
        · replace hR := lf_z1 h5 hR
          refine ev_run (cs := []) (pc' := 103) (L' := [some (.ref 0), some (.int v1), some (.int v2), none, some (.int (v4 + 1)), some (.int (st_pl v1 v4)), some (.int y1)]) (st' := []) (w' := W_X3 (m_X3_hold y2 u)) [] 2 (by with_unfolding_all rfl) trivial ?_
          exact ev_to2 (hk103 _ _ hR) ⟨rfl, rfl, rfl, rfl, trivial⟩ rfl rfl
        · replace hR := lf_z0 h5 hR
          refine ev_run (cs := []) (pc' := 163) (L' := [some (.ref 0), some (.int v1), some (.int v2), none, some (.int v4), some (.int (st_pl v1 v4)), some (.int y1)]) (st' := [.int y1, .ref 0, .int (-1), .int y1, .ref 11]) (w' := W_X3 (m_X3_hold y2 u)) [] 6 (by with_unfolding_all rfl) trivial ?_
          obtain ⟨y3, h6, hR⟩ := lf_b hR
          refine ev_callV1 0 (t_X3_dueTime F (m_X3_hold y2 u) y1 _ h6) cv_X3_dueTime ml_X3_101 rfl rfl rfl (Nat.le_of_ble_eq_true rfl) (by with_unfolding_all rfl) (Nat.le_of_ble_eq_true rfl) ⟨Nat.le_of_ble_eq_true rfl, Nat.le_of_ble_eq_true rfl⟩ ⟨Nat.le_refl _, Nat.le_refl _⟩ ?_ ?_
          · rintro r w ⟨rfl, rfl⟩; rfl
          rintro r w ⟨rfl, rfl⟩
          refine ev_nx (pc' := 166) (st' := [.int y3, .int (-1), .int y1, .ref 11]) (w' := W_X3 (m_X3_hold y2 u)) rfl rfl (by with_unfolding_all rfl) rfl rfl ?_
          refine ev_run (cs := []) (pc' := 167) (L' := [some (.ref 0), some (.int v1), some (.int v2), none, some (.int v4), some (.int (st_pl v1 v4)), some (.int y1)]) (st' := [.int 0, .int y3, .int (-1), .int y1, .ref 11]) (w' := W_X3 (m_X3_hold y2 u)) [] 1 (by with_unfolding_all rfl) trivial ?_
          obtain ⟨y4, h7, hR⟩ := lf_b hR
          refine ev_callV1 11 (t_X1_make F (a_X3_rep u) y1 (-1) y3 0 _ h7) cv_X1_make ml_X3_104 rfl rfl rfl (Nat.le_of_ble_eq_true rfl) (by with_unfolding_all rfl) (Nat.le_of_ble_eq_true rfl) ⟨Nat.le_of_ble_eq_true rfl, Nat.le_of_ble_eq_true rfl⟩ ⟨Nat.le_refl _, Nat.le_refl _⟩ ?_ ?_
          · rintro r w ⟨rfl, rfl⟩; rfl
          rintro r w ⟨rfl, rfl⟩
          refine ev_nx (pc' := 170) (st' := [.int y4.1]) (w' := W_X3 (m_X3_rep y4.2 (m_X3_hold y2 u))) rfl rfl (by with_unfolding_all rfl) rfl rfl ?_
          refine ev_run (cs := []) (pc' := 103) (L' := [some (.ref 0), some (.int v1), some (.int v2), none, some (.int (v4 + 1)), some (.int (st_pl v1 v4)), some (.int y1)]) (st' := []) (w' := W_X3 (m_X3_rep y4.2 (m_X3_hold y2 u))) [] 3 (by with_unfolding_all rfl) trivial ?_
          exact ev_to2 (hk103 _ _ hR) ⟨rfl, rfl, rfl, rfl, trivial⟩ rfl rfl

def s_X3_endThing (F : Nat) (u : S_X3) (v1 : Int32) (v2 : Int32) (v3 : Int32) : Option S_X3 := (s_X3_lives F u v1).bind fun y1 => (if y1 then (if (a_X3_ends u) < 0 then (some (u)) else (if (a_X3_ends u) < 24 then (if lf_ix v1 24 then (if lf_ix v1 24 then (if lf_ix v1 24 then (if lf_ix (a_X3_ends u) 24 then (s_X3_endThing_l103 F v1 v2 F (m_X3_ends ((a_X3_ends u) + 1) (m_X3_endOrder (upd (a_X3_endOrder u) ((a_X3_ends u).toNatClampNeg) v1) (m_X3_endKinds (upd (a_X3_endKinds u) v1.toNatClampNeg v3) (m_X3_endTimes (upd (a_X3_endTimes u) v1.toNatClampNeg (a_X3_time u)) (m_X3_endNumbers (upd (a_X3_endNumbers u) v1.toNatClampNeg (a_X3_ends u)) (m_X3_suspects ((a_X3_suspects u) &&& ((1 <<< (v1 &&& 31)) ^^^ (-1))) (m_X3_living ((a_X3_living u) &&& ((1 <<< (v1 &&& 31)) ^^^ (-1))) u))))))) 0) else none) else none) else none) else none) else (some (u)))) else (some (u)))
set_option maxHeartbeats 4000000 in
set_option maxRecDepth 20000 in
theorem t_X3_endThing (F : Nat) (u : S_X3) (v1 : Int32) (v2 : Int32) (v3 : Int32) (x : S_X3) (hR : s_X3_endThing F u v1 v2 v3 = some x) : ev_A yX3_endThing mm_X3_endThing none [.ref 0, .int v1, .int v2, .int v3] (W_X3 u) (fun r w => r = none ∧ w = W_X3 x) := by
  unfold s_X3_endThing at hR
  refine ev_start ok_X3_endThing (by decide +kernel) rfl rfl (Nat.le_of_ble_eq_true rfl) ?_
  refine ev_run (cs := []) (pc' := 2) (L' := [some (.ref 0), some (.int v1), some (.int v2), some (.int v3), none, none, none]) (st' := [.int v1, .ref 0]) (w' := W_X3 u) [] 2 (by with_unfolding_all rfl) trivial ?_
  obtain ⟨y1, h1, hR⟩ := lf_b hR
  refine ev_callV1 0 (t_X3_lives F u v1 _ h1) cv_X3_lives ml_X3_89 rfl rfl rfl (Nat.le_of_ble_eq_true rfl) (by with_unfolding_all rfl) (Nat.le_of_ble_eq_true rfl) ⟨Nat.le_of_ble_eq_true rfl, Nat.le_of_ble_eq_true rfl⟩ ⟨Nat.le_refl _, Nat.le_refl _⟩ ?_ ?_
  · rintro r w ⟨rfl, rfl⟩; rfl
  rintro r w ⟨rfl, rfl⟩
  refine ev_nx (pc' := 5) (st' := [.int (ev_b y1)]) (w' := W_X3 u) rfl rfl (by with_unfolding_all rfl) rfl rfl ?_
  refine ev_br rfl rfl (fun h2 => ?_) (fun h2 => ?_)
  · replace hR := lf_z0 h2 hR
    cases hR
    exact ev_exit ⟨_, _, rfl, ⟨rfl, rfl⟩, ⟨rfl, rfl⟩, Nat.le_refl _, Nat.le_refl _⟩
  · replace hR := lf_z1 h2 hR
    refine ev_run (cs := []) (pc' := 12) (L' := [some (.ref 0), some (.int v1), some (.int v2), some (.int v3), none, none, none]) (st' := [.int (a_X3_ends u)]) (w' := W_X3 u) [] 2 (by with_unfolding_all rfl) trivial ?_
    refine ev_br rfl rfl (fun h3 => ?_) (fun h3 => ?_)
    · replace hR := lf_t h3 hR
      cases hR
      exact ev_exit ⟨_, _, rfl, ⟨rfl, rfl⟩, ⟨rfl, rfl⟩, Nat.le_refl _, Nat.le_refl _⟩
    · replace hR := lf_f h3 hR
      refine ev_run (cs := []) (pc' := 21) (L' := [some (.ref 0), some (.int v1), some (.int v2), some (.int v3), none, none, none]) (st' := [.int 24, .int (a_X3_ends u)]) (w' := W_X3 u) [] 3 (by with_unfolding_all rfl) trivial ?_
      refine ev_br rfl rfl (fun h4 => ?_) (fun h4 => ?_)
      · replace hR := lf_t h4 hR
        refine ev_run (cs := []) (pc' := 41) (L' := [some (.ref 0), some (.int v1), some (.int v2), some (.int v3), none, none, none]) (st' := [.ref 0, .ref 0]) (w' := W_X3 (m_X3_living ((a_X3_living u) &&& ((1 <<< (v1 &&& 31)) ^^^ (-1))) u)) [] 12 (by with_unfolding_all rfl) trivial ?_
        refine ev_run (cs := []) (pc' := 59) (L' := [some (.ref 0), some (.int v1), some (.int v2), some (.int v3), none, none, none]) (st' := [.ref 0, .int v1, .ref 5]) (w' := W_X3 (m_X3_suspects ((a_X3_suspects u) &&& ((1 <<< (v1 &&& 31)) ^^^ (-1))) (m_X3_living ((a_X3_living u) &&& ((1 <<< (v1 &&& 31)) ^^^ (-1))) u))) [] 12 (by with_unfolding_all rfl) trivial ?_
        obtain ⟨h5, hR⟩ := lf_g hR
        obtain ⟨h6, hR⟩ := lf_g hR
        refine ev_run (cs := [lf_ix v1 24, lf_ix v1 24]) (pc' := 79) (L' := [some (.ref 0), some (.int v1), some (.int v2), some (.int v3), none, none, none]) (st' := [.int v3, .int v1, .ref 7]) (w' := W_X3 (m_X3_endTimes (upd (a_X3_endTimes u) v1.toNatClampNeg (a_X3_time u)) (m_X3_endNumbers (upd (a_X3_endNumbers u) v1.toNatClampNeg (a_X3_ends u)) (m_X3_suspects ((a_X3_suspects u) &&& ((1 <<< (v1 &&& 31)) ^^^ (-1))) (m_X3_living ((a_X3_living u) &&& ((1 <<< (v1 &&& 31)) ^^^ (-1))) u))))) [] 12 (by with_unfolding_all rfl) ⟨h5, h6⟩ ?_
        obtain ⟨h7, hR⟩ := lf_g hR
        obtain ⟨h8, hR⟩ := lf_g hR
        refine ev_run (cs := [lf_ix v1 24, lf_ix (a_X3_ends u) 24]) (pc' := 97) (L' := [some (.ref 0), some (.int v1), some (.int v2), some (.int v3), none, none, none]) (st' := [.int ((a_X3_ends u) + 1), .ref 0]) (w' := W_X3 (m_X3_endOrder (upd (a_X3_endOrder u) ((a_X3_ends u).toNatClampNeg) v1) (m_X3_endKinds (upd (a_X3_endKinds u) v1.toNatClampNeg v3) (m_X3_endTimes (upd (a_X3_endTimes u) v1.toNatClampNeg (a_X3_time u)) (m_X3_endNumbers (upd (a_X3_endNumbers u) v1.toNatClampNeg (a_X3_ends u)) (m_X3_suspects ((a_X3_suspects u) &&& ((1 <<< (v1 &&& 31)) ^^^ (-1))) (m_X3_living ((a_X3_living u) &&& ((1 <<< (v1 &&& 31)) ^^^ (-1))) u))))))) [] 12 (by with_unfolding_all rfl) ⟨h7, h8⟩ ?_
        refine ev_run (cs := []) (pc' := 103) (L' := [some (.ref 0), some (.int v1), some (.int v2), some (.int v3), some (.int 0), none, none]) (st' := []) (w' := W_X3 (m_X3_ends ((a_X3_ends u) + 1) (m_X3_endOrder (upd (a_X3_endOrder u) ((a_X3_ends u).toNatClampNeg) v1) (m_X3_endKinds (upd (a_X3_endKinds u) v1.toNatClampNeg v3) (m_X3_endTimes (upd (a_X3_endTimes u) v1.toNatClampNeg (a_X3_time u)) (m_X3_endNumbers (upd (a_X3_endNumbers u) v1.toNatClampNeg (a_X3_ends u)) (m_X3_suspects ((a_X3_suspects u) &&& ((1 <<< (v1 &&& 31)) ^^^ (-1))) (m_X3_living ((a_X3_living u) &&& ((1 <<< (v1 &&& 31)) ^^^ (-1))) u)))))))) [] 3 (by with_unfolding_all rfl) trivial ?_
        exact ev_to2 (t_X3_endThing_l103 F v1 v2 _ F (m_X3_ends ((a_X3_ends u) + 1) (m_X3_endOrder (upd (a_X3_endOrder u) ((a_X3_ends u).toNatClampNeg) v1) (m_X3_endKinds (upd (a_X3_endKinds u) v1.toNatClampNeg v3) (m_X3_endTimes (upd (a_X3_endTimes u) v1.toNatClampNeg (a_X3_time u)) (m_X3_endNumbers (upd (a_X3_endNumbers u) v1.toNatClampNeg (a_X3_ends u)) (m_X3_suspects ((a_X3_suspects u) &&& ((1 <<< (v1 &&& 31)) ^^^ (-1))) (m_X3_living ((a_X3_living u) &&& ((1 <<< (v1 &&& 31)) ^^^ (-1))) u))))))) 0 hR) ⟨rfl, rfl, rfl, rfl, trivial⟩ rfl rfl
      · replace hR := lf_f h4 hR
        cases hR
        exact ev_exit ⟨_, _, rfl, ⟨rfl, rfl⟩, ⟨rfl, rfl⟩, Nat.le_refl _, Nat.le_refl _⟩

def s_X3_hearDue_l2 (F : Nat) : Nat → S_X3 → Int32 → Option S_X3
  | 0 => fun _ _ => none
  | n + 1 => fun u v1 => if 1200 ≤ v1 then (some (u)) else ((s_X1_anyDue F (a_X3_rep u) (a_X3_time u)).bind fun y1 => (if y1 then ((s_X1_part F (a_X3_rep u) 0 1).bind fun y2 => ((s_X1_part F (a_X3_rep u) 0 2).bind fun y3 => ((s_X1_dropFirst F (a_X3_rep u)).bind fun y4 => ((s_X3_lives F (m_X3_rep y4 u) y2).bind fun y5 => (if y5 then (if lf_ix y2 24 then (if lf_ix y2 24 then (if 0 ≤ y3 then (s_X3_hearDue_l2 F n (m_X3_counts (upd (a_X3_counts u) y2.toNatClampNeg (((a_X3_counts u) y2.toNatClampNeg) + y3)) (m_X3_rep y4 u)) (v1 + 1)) else ((s_X3_mustEnd F (m_X3_counts (upd (a_X3_counts u) y2.toNatClampNeg (((a_X3_counts u) y2.toNatClampNeg) + y3)) (m_X3_rep y4 u)) y2).bind fun y6 => (if y6.1 then ((s_X3_endThing F y6.2 y2 (1 <<< (y2 &&& 31)) 1).bind fun y7 => (s_X3_hearDue_l2 F n y7 (v1 + 1))) else (s_X3_hearDue_l2 F n y6.2 (v1 + 1))))) else none) else none) else (s_X3_hearDue_l2 F n (m_X3_rep y4 u) (v1 + 1))))))) else (some (u))))
theorem e_X3_hearDue_l2 (F : Nat) (n : Nat) (u : S_X3) (v1 : Int32) : s_X3_hearDue_l2 F (n + 1) u v1 = if 1200 ≤ v1 then (some (u)) else ((s_X1_anyDue F (a_X3_rep u) (a_X3_time u)).bind fun y1 => (if y1 then ((s_X1_part F (a_X3_rep u) 0 1).bind fun y2 => ((s_X1_part F (a_X3_rep u) 0 2).bind fun y3 => ((s_X1_dropFirst F (a_X3_rep u)).bind fun y4 => ((s_X3_lives F (m_X3_rep y4 u) y2).bind fun y5 => (if y5 then (if lf_ix y2 24 then (if lf_ix y2 24 then (if 0 ≤ y3 then (s_X3_hearDue_l2 F n (m_X3_counts (upd (a_X3_counts u) y2.toNatClampNeg (((a_X3_counts u) y2.toNatClampNeg) + y3)) (m_X3_rep y4 u)) (v1 + 1)) else ((s_X3_mustEnd F (m_X3_counts (upd (a_X3_counts u) y2.toNatClampNeg (((a_X3_counts u) y2.toNatClampNeg) + y3)) (m_X3_rep y4 u)) y2).bind fun y6 => (if y6.1 then ((s_X3_endThing F y6.2 y2 (1 <<< (y2 &&& 31)) 1).bind fun y7 => (s_X3_hearDue_l2 F n y7 (v1 + 1))) else (s_X3_hearDue_l2 F n y6.2 (v1 + 1))))) else none) else none) else (s_X3_hearDue_l2 F n (m_X3_rep y4 u) (v1 + 1))))))) else (some (u)))) := rfl
set_option maxHeartbeats 4000000 in
set_option maxRecDepth 20000 in
theorem t_X3_hearDue_l2 (F : Nat) (x : S_X3)  : ∀ (n : Nat) (u : S_X3) (v1 : Int32), s_X3_hearDue_l2 F n u v1 = some x → ev_V mm_X3_hearDue none (ev_XR mm_X3_hearDue (fun r w => r = none ∧ w = W_X3 x)) 2 [some (.ref 0), some (.int v1), none, none] [] (W_X3 u) 0 0 := by
  intro n
  induction n with
  | zero => intro u v1 hR; cases hR
  | succ n hk2 =>
    intro u v1 hR
    unfold s_X3_hearDue_l2 at hR
    refine ev_run (cs := []) (pc' := 6) (L' := [some (.ref 0), some (.int v1), none, none]) (st' := [.int 1200, .int v1]) (w' := W_X3 u) [] 2 (by with_unfolding_all rfl) trivial ?_
    refine ev_br rfl rfl (fun h1 => ?_) (fun h1 => ?_)
    · replace hR := lf_t h1 hR
      cases hR
      exact ev_exit ⟨_, _, rfl, ⟨rfl, rfl⟩, ⟨rfl, rfl⟩, Nat.le_refl _, Nat.le_refl _⟩
    · replace hR := lf_f h1 hR
      refine ev_run (cs := []) (pc' := 17) (L' := [some (.ref 0), some (.int v1), none, none]) (st' := [.int (a_X3_time u), .ref 11]) (w' := W_X3 u) [] 4 (by with_unfolding_all rfl) trivial ?_
      obtain ⟨y1, h2, hR⟩ := lf_b hR
      refine ev_callV1 11 (t_X1_anyDue F (a_X3_rep u) (a_X3_time u) _ h2) cv_X1_anyDue ml_X3_151 rfl rfl rfl (Nat.le_of_ble_eq_true rfl) (by with_unfolding_all rfl) (Nat.le_of_ble_eq_true rfl) ⟨Nat.le_of_ble_eq_true rfl, Nat.le_of_ble_eq_true rfl⟩ ⟨Nat.le_refl _, Nat.le_refl _⟩ ?_ ?_
      · rintro r w ⟨rfl, rfl⟩; rfl
      rintro r w ⟨rfl, rfl⟩
      refine ev_nx (pc' := 20) (st' := [.int (ev_b y1)]) (w' := W_X3 u) rfl rfl (by with_unfolding_all rfl) rfl rfl ?_
      refine ev_br rfl rfl (fun h3 => ?_) (fun h3 => ?_)
      · replace hR := lf_z0 h3 hR
        cases hR
        exact ev_exit ⟨_, _, rfl, ⟨rfl, rfl⟩, ⟨rfl, rfl⟩, Nat.le_refl _, Nat.le_refl _⟩
      · replace hR := lf_z1 h3 hR
        refine ev_run (cs := []) (pc' := 29) (L' := [some (.ref 0), some (.int v1), none, none]) (st' := [.int 1, .int 0, .ref 11]) (w' := W_X3 u) [] 4 (by with_unfolding_all rfl) trivial ?_
        obtain ⟨y2, h4, hR⟩ := lf_b hR
        refine ev_callV1 11 (t_X1_part F (a_X3_rep u) 0 1 _ h4) cv_X1_part ml_X3_154 rfl rfl rfl (Nat.le_of_ble_eq_true rfl) (by with_unfolding_all rfl) (Nat.le_of_ble_eq_true rfl) ⟨Nat.le_of_ble_eq_true rfl, Nat.le_of_ble_eq_true rfl⟩ ⟨Nat.le_refl _, Nat.le_refl _⟩ ?_ ?_
        · rintro r w ⟨rfl, rfl⟩; rfl
        rintro r w ⟨rfl, rfl⟩
        refine ev_nx (pc' := 32) (st' := [.int y2]) (w' := W_X3 u) rfl rfl (by with_unfolding_all rfl) rfl rfl ?_
        refine ev_run (cs := []) (pc' := 39) (L' := [some (.ref 0), some (.int v1), some (.int y2), none]) (st' := [.int 2, .int 0, .ref 11]) (w' := W_X3 u) [] 5 (by with_unfolding_all rfl) trivial ?_
        obtain ⟨y3, h5, hR⟩ := lf_b hR
        refine ev_callV1 11 (t_X1_part F (a_X3_rep u) 0 2 _ h5) cv_X1_part ml_X3_154 rfl rfl rfl (Nat.le_of_ble_eq_true rfl) (by with_unfolding_all rfl) (Nat.le_of_ble_eq_true rfl) ⟨Nat.le_of_ble_eq_true rfl, Nat.le_of_ble_eq_true rfl⟩ ⟨Nat.le_refl _, Nat.le_refl _⟩ ?_ ?_
        · rintro r w ⟨rfl, rfl⟩; rfl
        rintro r w ⟨rfl, rfl⟩
        refine ev_nx (pc' := 42) (st' := [.int y3]) (w' := W_X3 u) rfl rfl (by with_unfolding_all rfl) rfl rfl ?_
        refine ev_run (cs := []) (pc' := 47) (L' := [some (.ref 0), some (.int v1), some (.int y2), some (.int y3)]) (st' := [.ref 11]) (w' := W_X3 u) [] 3 (by with_unfolding_all rfl) trivial ?_
        obtain ⟨y4, h6, hR⟩ := lf_b hR
        refine ev_callV1 11 (t_X1_dropFirst F (a_X3_rep u) _ h6) cv_X1_dropFirst ml_X3_157 rfl rfl rfl (Nat.le_of_ble_eq_true rfl) (by with_unfolding_all rfl) (Nat.le_of_ble_eq_true rfl) ⟨Nat.le_of_ble_eq_true rfl, Nat.le_of_ble_eq_true rfl⟩ ⟨Nat.le_refl _, Nat.le_refl _⟩ ?_ ?_
        · rintro r w ⟨rfl, rfl⟩; rfl
        rintro r w ⟨rfl, rfl⟩
        refine ev_nx (pc' := 50) (st' := []) (w' := W_X3 (m_X3_rep y4 u)) rfl rfl (by with_unfolding_all rfl) rfl rfl ?_
        refine ev_run (cs := []) (pc' := 52) (L' := [some (.ref 0), some (.int v1), some (.int y2), some (.int y3)]) (st' := [.int y2, .ref 0]) (w' := W_X3 (m_X3_rep y4 u)) [] 2 (by with_unfolding_all rfl) trivial ?_
        obtain ⟨y5, h7, hR⟩ := lf_b hR
        refine ev_callV1 0 (t_X3_lives F (m_X3_rep y4 u) y2 _ h7) cv_X3_lives ml_X3_89 rfl rfl rfl (Nat.le_of_ble_eq_true rfl) (by with_unfolding_all rfl) (Nat.le_of_ble_eq_true rfl) ⟨Nat.le_of_ble_eq_true rfl, Nat.le_of_ble_eq_true rfl⟩ ⟨Nat.le_refl _, Nat.le_refl _⟩ ?_ ?_
        · rintro r w ⟨rfl, rfl⟩; rfl
        rintro r w ⟨rfl, rfl⟩
        refine ev_nx (pc' := 55) (st' := [.int (ev_b y5)]) (w' := W_X3 (m_X3_rep y4 u)) rfl rfl (by with_unfolding_all rfl) rfl rfl ?_
        refine ev_br rfl rfl (fun h8 => ?_) (fun h8 => ?_)
        · replace hR := lf_z0 h8 hR
          refine ev_run (cs := []) (pc' := 2) (L' := [some (.ref 0), some (.int (v1 + 1)), some (.int y2), some (.int y3)]) (st' := []) (w' := W_X3 (m_X3_rep y4 u)) [] 2 (by with_unfolding_all rfl) trivial ?_
          exact ev_to2 (hk2 _ _ hR) ⟨rfl, rfl, trivial⟩ rfl rfl
        · replace hR := lf_z1 h8 hR
          obtain ⟨h9, hR⟩ := lf_g hR
          obtain ⟨h10, hR⟩ := lf_g hR
          refine ev_run (cs := [lf_ix y2 24, lf_ix y2 24]) (pc' := 69) (L' := [some (.ref 0), some (.int v1), some (.int y2), some (.int y3)]) (st' := [.int y3]) (w' := W_X3 (m_X3_counts (upd (a_X3_counts u) y2.toNatClampNeg (((a_X3_counts u) y2.toNatClampNeg) + y3)) (m_X3_rep y4 u))) [] 9 (by with_unfolding_all rfl) ⟨h9, h10⟩ ?_
          refine ev_br rfl rfl (fun h11 => ?_) (fun h11 => ?_)
          · replace hR := lf_t h11 hR
            refine ev_run (cs := []) (pc' := 2) (L' := [some (.ref 0), some (.int (v1 + 1)), some (.int y2), some (.int y3)]) (st' := []) (w' := W_X3 (m_X3_counts (upd (a_X3_counts u) y2.toNatClampNeg (((a_X3_counts u) y2.toNatClampNeg) + y3)) (m_X3_rep y4 u))) [] 2 (by with_unfolding_all rfl) trivial ?_
            exact ev_to2 (hk2 _ _ hR) ⟨rfl, rfl, trivial⟩ rfl rfl
          · replace hR := lf_f h11 hR
            refine ev_run (cs := []) (pc' := 74) (L' := [some (.ref 0), some (.int v1), some (.int y2), some (.int y3)]) (st' := [.int y2, .ref 0]) (w' := W_X3 (m_X3_counts (upd (a_X3_counts u) y2.toNatClampNeg (((a_X3_counts u) y2.toNatClampNeg) + y3)) (m_X3_rep y4 u))) [] 2 (by with_unfolding_all rfl) trivial ?_
            obtain ⟨y6, h12, hR⟩ := lf_b hR
            refine ev_callV1 0 (t_X3_mustEnd F (m_X3_counts (upd (a_X3_counts u) y2.toNatClampNeg (((a_X3_counts u) y2.toNatClampNeg) + y3)) (m_X3_rep y4 u)) y2 _ h12) cv_X3_mustEnd ml_X3_160 rfl rfl rfl (Nat.le_of_ble_eq_true rfl) (by with_unfolding_all rfl) (Nat.le_of_ble_eq_true rfl) ⟨Nat.le_of_ble_eq_true rfl, Nat.le_of_ble_eq_true rfl⟩ ⟨Nat.le_refl _, Nat.le_refl _⟩ ?_ ?_
            · rintro r w ⟨rfl, rfl⟩; rfl
            rintro r w ⟨rfl, rfl⟩
            refine ev_nx (pc' := 77) (st' := [.int (ev_b y6.1)]) (w' := W_X3 y6.2) rfl rfl (by with_unfolding_all rfl) rfl rfl ?_
            refine ev_br rfl rfl (fun h13 => ?_) (fun h13 => ?_)
            · replace hR := lf_z0 h13 hR
              refine ev_run (cs := []) (pc' := 2) (L' := [some (.ref 0), some (.int (v1 + 1)), some (.int y2), some (.int y3)]) (st' := []) (w' := W_X3 y6.2) [] 2 (by with_unfolding_all rfl) trivial ?_
              exact ev_to2 (hk2 _ _ hR) ⟨rfl, rfl, trivial⟩ rfl rfl
            · replace hR := lf_z1 h13 hR
              refine ev_run (cs := []) (pc' := 86) (L' := [some (.ref 0), some (.int v1), some (.int y2), some (.int y3)]) (st' := [.int 1, .int (1 <<< (y2 &&& 31)), .int y2, .ref 0]) (w' := W_X3 y6.2) [] 6 (by with_unfolding_all rfl) trivial ?_
              obtain ⟨y7, h14, hR⟩ := lf_b hR
              refine ev_callV1 0 (t_X3_endThing F y6.2 y2 (1 <<< (y2 &&& 31)) 1 _ h14) cv_X3_endThing ml_X3_144 rfl rfl rfl (Nat.le_of_ble_eq_true rfl) (by with_unfolding_all rfl) (Nat.le_of_ble_eq_true rfl) ⟨Nat.le_of_ble_eq_true rfl, Nat.le_of_ble_eq_true rfl⟩ ⟨Nat.le_refl _, Nat.le_refl _⟩ ?_ ?_
              · rintro r w ⟨rfl, rfl⟩; rfl
              rintro r w ⟨rfl, rfl⟩
              refine ev_nx (pc' := 89) (st' := []) (w' := W_X3 y7) rfl rfl (by with_unfolding_all rfl) rfl rfl ?_
              refine ev_run (cs := []) (pc' := 2) (L' := [some (.ref 0), some (.int (v1 + 1)), some (.int y2), some (.int y3)]) (st' := []) (w' := W_X3 y7) [] 2 (by with_unfolding_all rfl) trivial ?_
              exact ev_to2 (hk2 _ _ hR) ⟨rfl, rfl, trivial⟩ rfl rfl

def s_X3_hearDue (F : Nat) (u : S_X3) : Option S_X3 := s_X3_hearDue_l2 F F u 0
set_option maxHeartbeats 4000000 in
set_option maxRecDepth 20000 in
theorem t_X3_hearDue (F : Nat) (u : S_X3) (x : S_X3) (hR : s_X3_hearDue F u = some x) : ev_A yX3_hearDue mm_X3_hearDue none [.ref 0] (W_X3 u) (fun r w => r = none ∧ w = W_X3 x) := by
  unfold s_X3_hearDue at hR
  refine ev_start ok_X3_hearDue (by decide +kernel) rfl rfl (Nat.le_of_ble_eq_true rfl) ?_
  refine ev_run (cs := []) (pc' := 2) (L' := [some (.ref 0), some (.int 0), none, none]) (st' := []) (w' := W_X3 u) [] 2 (by with_unfolding_all rfl) trivial ?_
  exact ev_to2 (t_X3_hearDue_l2 F _ F u 0 hR) ⟨rfl, rfl, trivial⟩ rfl rfl

def s_X3_change_b60 (F : Nat) (u : S_X3) (v3 : Int32) : Option (Int32 × S_X3) := (s_X3_hearDue F u).bind fun y1 => (some (v3, y1))
set_option maxHeartbeats 4000000 in
set_option maxRecDepth 20000 in
theorem t_X3_change_b60 (F : Nat) (u : S_X3) (v3 : Int32) (x : (Int32 × S_X3))  (hR : s_X3_change_b60 F u v3 = some x) : ev_V mm_X3_change none (ev_XR mm_X3_change (fun r w => r = some (.int x.1) ∧ w = W_X3 x.2)) 60 [some (.ref 0), none, none, some (.int v3)] [] (W_X3 u) 0 0 := by
  unfold s_X3_change_b60 at hR
  refine ev_run (cs := []) (pc' := 61) (L' := [some (.ref 0), none, none, some (.int v3)]) (st' := [.ref 0]) (w' := W_X3 u) [] 1 (by with_unfolding_all rfl) trivial ?_
  obtain ⟨y1, h1, hR⟩ := lf_b hR
  refine ev_callV1 0 (t_X3_hearDue F u _ h1) cv_X3_hearDue ml_X3_108 rfl rfl rfl (Nat.le_of_ble_eq_true rfl) (by with_unfolding_all rfl) (Nat.le_of_ble_eq_true rfl) ⟨Nat.le_of_ble_eq_true rfl, Nat.le_of_ble_eq_true rfl⟩ ⟨Nat.le_refl _, Nat.le_refl _⟩ ?_ ?_
  · rintro r w ⟨rfl, rfl⟩; rfl
  rintro r w ⟨rfl, rfl⟩
  refine ev_nx (pc' := 64) (st' := []) (w' := W_X3 y1) rfl rfl (by with_unfolding_all rfl) rfl rfl ?_
  refine ev_run (cs := []) (pc' := 65) (L' := [some (.ref 0), none, none, some (.int v3)]) (st' := [.int v3]) (w' := W_X3 y1) [] 1 (by with_unfolding_all rfl) trivial ?_
  cases hR
  exact ev_exit ⟨_, _, rfl, ⟨rfl, Or.inl rfl⟩, ⟨rfl, rfl⟩, Nat.le_refl _, Nat.le_refl _⟩

def s_X3_change_b39 (F : Nat) (u : S_X3) (v3 : Int32) : Option (Int32 × S_X3) := if v3 = (-1) then (s_X3_change_b60 F u v3) else ((s_X3_dueTime F u v3).bind fun y1 => ((s_X1_make F (a_X3_rep u) v3 (-1) y1 0).bind fun y2 => (s_X3_change_b60 F (m_X3_rep y2.2 u) v3)))
set_option maxHeartbeats 4000000 in
set_option maxRecDepth 20000 in
theorem t_X3_change_b39 (F : Nat) (u : S_X3) (v3 : Int32) (x : (Int32 × S_X3))  (hR : s_X3_change_b39 F u v3 = some x) : ev_V mm_X3_change none (ev_XR mm_X3_change (fun r w => r = some (.int x.1) ∧ w = W_X3 x.2)) 39 [some (.ref 0), none, none, some (.int v3)] [] (W_X3 u) 0 0 := by
  unfold s_X3_change_b39 at hR
  refine ev_run (cs := []) (pc' := 41) (L' := [some (.ref 0), none, none, some (.int v3)]) (st' := [.int (-1), .int v3]) (w' := W_X3 u) [] 2 (by with_unfolding_all rfl) trivial ?_
  refine ev_br rfl rfl (fun h1 => ?_) (fun h1 => ?_)
  · replace hR := lf_t h1 hR
    exact ev_to2 (t_X3_change_b60 F u v3 _ hR) ⟨rfl, rfl, trivial⟩ rfl rfl
  · replace hR := lf_f h1 hR
    refine ev_run (cs := []) (pc' := 52) (L' := [some (.ref 0), none, none, some (.int v3)]) (st' := [.int v3, .ref 0, .int (-1), .int v3, .ref 11]) (w' := W_X3 u) [] 6 (by with_unfolding_all rfl) trivial ?_
    obtain ⟨y1, h2, hR⟩ := lf_b hR
    refine ev_callV1 0 (t_X3_dueTime F u v3 _ h2) cv_X3_dueTime ml_X3_101 rfl rfl rfl (Nat.le_of_ble_eq_true rfl) (by with_unfolding_all rfl) (Nat.le_of_ble_eq_true rfl) ⟨Nat.le_of_ble_eq_true rfl, Nat.le_of_ble_eq_true rfl⟩ ⟨Nat.le_refl _, Nat.le_refl _⟩ ?_ ?_
    · rintro r w ⟨rfl, rfl⟩; rfl
    rintro r w ⟨rfl, rfl⟩
    refine ev_nx (pc' := 55) (st' := [.int y1, .int (-1), .int v3, .ref 11]) (w' := W_X3 u) rfl rfl (by with_unfolding_all rfl) rfl rfl ?_
    refine ev_run (cs := []) (pc' := 56) (L' := [some (.ref 0), none, none, some (.int v3)]) (st' := [.int 0, .int y1, .int (-1), .int v3, .ref 11]) (w' := W_X3 u) [] 1 (by with_unfolding_all rfl) trivial ?_
    obtain ⟨y2, h3, hR⟩ := lf_b hR
    refine ev_callV1 11 (t_X1_make F (a_X3_rep u) v3 (-1) y1 0 _ h3) cv_X1_make ml_X3_104 rfl rfl rfl (Nat.le_of_ble_eq_true rfl) (by with_unfolding_all rfl) (Nat.le_of_ble_eq_true rfl) ⟨Nat.le_of_ble_eq_true rfl, Nat.le_of_ble_eq_true rfl⟩ ⟨Nat.le_refl _, Nat.le_refl _⟩ ?_ ?_
    · rintro r w ⟨rfl, rfl⟩; rfl
    rintro r w ⟨rfl, rfl⟩
    refine ev_nx (pc' := 59) (st' := [.int y2.1]) (w' := W_X3 (m_X3_rep y2.2 u)) rfl rfl (by with_unfolding_all rfl) rfl rfl ?_
    refine ev_run (cs := []) (pc' := 60) (L' := [some (.ref 0), none, none, some (.int v3)]) (st' := []) (w' := W_X3 (m_X3_rep y2.2 u)) [] 1 (by with_unfolding_all rfl) trivial ?_
    exact ev_to2 (t_X3_change_b60 F (m_X3_rep y2.2 u) v3 _ hR) ⟨rfl, rfl, trivial⟩ rfl rfl

def s_X3_change (F : Nat) (u : S_X3) (v1 : Int32) (v2 : Int32) : Option (Int32 × S_X3) := (s_X0_at F (a_X3_hold u) v1).bind fun y1 => ((s_X0_hold F (a_X3_hold u) v1 v2).bind fun y2 => (if v2 = (-1) then (s_X3_change_b39 F (m_X3_hold y2 u) y1) else ((s_X3_dueTime F (m_X3_hold y2 u) v2).bind fun y3 => ((s_X1_make F (a_X3_rep u) v2 1 y3 0).bind fun y4 => (s_X3_change_b39 F (m_X3_rep y4.2 (m_X3_hold y2 u)) y1)))))
set_option maxHeartbeats 4000000 in
set_option maxRecDepth 20000 in
theorem t_X3_change (F : Nat) (u : S_X3) (v1 : Int32) (v2 : Int32) (x : (Int32 × S_X3)) (hR : s_X3_change F u v1 v2 = some x) : ev_A yX3_change mm_X3_change none [.ref 0, .int v1, .int v2] (W_X3 u) (fun r w => r = some (.int x.1) ∧ w = W_X3 x.2) := by
  unfold s_X3_change at hR
  refine ev_start ok_X3_change (by decide +kernel) rfl rfl (Nat.le_of_ble_eq_true rfl) ?_
  refine ev_run (cs := []) (pc' := 5) (L' := [some (.ref 0), some (.int v1), some (.int v2), none]) (st' := [.int v1, .ref 9]) (w' := W_X3 u) [] 3 (by with_unfolding_all rfl) trivial ?_
  obtain ⟨y1, h1, hR⟩ := lf_b hR
  refine ev_callV1 9 (t_X0_at F (a_X3_hold u) v1 _ h1) cv_X0_at ml_X3_93 rfl rfl rfl (Nat.le_of_ble_eq_true rfl) (by with_unfolding_all rfl) (Nat.le_of_ble_eq_true rfl) ⟨Nat.le_of_ble_eq_true rfl, Nat.le_of_ble_eq_true rfl⟩ ⟨Nat.le_refl _, Nat.le_refl _⟩ ?_ ?_
  · rintro r w ⟨rfl, rfl⟩; rfl
  rintro r w ⟨rfl, rfl⟩
  refine ev_nx (pc' := 8) (st' := [.int y1]) (w' := W_X3 u) rfl rfl (by with_unfolding_all rfl) rfl rfl ?_
  refine ev_run (cs := []) (pc' := 15) (L' := [some (.ref 0), some (.int v1), some (.int v2), some (.int y1)]) (st' := [.int v2, .int v1, .ref 9]) (w' := W_X3 u) [] 5 (by with_unfolding_all rfl) trivial ?_
  obtain ⟨y2, h2, hR⟩ := lf_b hR
  refine ev_callV1 9 (t_X0_hold F (a_X3_hold u) v1 v2 _ h2) cv_X0_hold ml_X3_97 rfl rfl rfl (Nat.le_of_ble_eq_true rfl) (by with_unfolding_all rfl) (Nat.le_of_ble_eq_true rfl) ⟨Nat.le_of_ble_eq_true rfl, Nat.le_of_ble_eq_true rfl⟩ ⟨Nat.le_refl _, Nat.le_refl _⟩ ?_ ?_
  · rintro r w ⟨rfl, rfl⟩; rfl
  rintro r w ⟨rfl, rfl⟩
  refine ev_nx (pc' := 18) (st' := []) (w' := W_X3 (m_X3_hold y2 u)) rfl rfl (by with_unfolding_all rfl) rfl rfl ?_
  refine ev_run (cs := []) (pc' := 20) (L' := [some (.ref 0), some (.int v1), some (.int v2), some (.int y1)]) (st' := [.int (-1), .int v2]) (w' := W_X3 (m_X3_hold y2 u)) [] 2 (by with_unfolding_all rfl) trivial ?_
  refine ev_br rfl rfl (fun h3 => ?_) (fun h3 => ?_)
  · replace hR := lf_t h3 hR
    exact ev_to2 (t_X3_change_b39 F (m_X3_hold y2 u) y1 _ hR) ⟨rfl, rfl, trivial⟩ rfl rfl
  · replace hR := lf_f h3 hR
    refine ev_run (cs := []) (pc' := 31) (L' := [some (.ref 0), some (.int v1), some (.int v2), some (.int y1)]) (st' := [.int v2, .ref 0, .int 1, .int v2, .ref 11]) (w' := W_X3 (m_X3_hold y2 u)) [] 6 (by with_unfolding_all rfl) trivial ?_
    obtain ⟨y3, h4, hR⟩ := lf_b hR
    refine ev_callV1 0 (t_X3_dueTime F (m_X3_hold y2 u) v2 _ h4) cv_X3_dueTime ml_X3_101 rfl rfl rfl (Nat.le_of_ble_eq_true rfl) (by with_unfolding_all rfl) (Nat.le_of_ble_eq_true rfl) ⟨Nat.le_of_ble_eq_true rfl, Nat.le_of_ble_eq_true rfl⟩ ⟨Nat.le_refl _, Nat.le_refl _⟩ ?_ ?_
    · rintro r w ⟨rfl, rfl⟩; rfl
    rintro r w ⟨rfl, rfl⟩
    refine ev_nx (pc' := 34) (st' := [.int y3, .int 1, .int v2, .ref 11]) (w' := W_X3 (m_X3_hold y2 u)) rfl rfl (by with_unfolding_all rfl) rfl rfl ?_
    refine ev_run (cs := []) (pc' := 35) (L' := [some (.ref 0), some (.int v1), some (.int v2), some (.int y1)]) (st' := [.int 0, .int y3, .int 1, .int v2, .ref 11]) (w' := W_X3 (m_X3_hold y2 u)) [] 1 (by with_unfolding_all rfl) trivial ?_
    obtain ⟨y4, h5, hR⟩ := lf_b hR
    refine ev_callV1 11 (t_X1_make F (a_X3_rep u) v2 1 y3 0 _ h5) cv_X1_make ml_X3_104 rfl rfl rfl (Nat.le_of_ble_eq_true rfl) (by with_unfolding_all rfl) (Nat.le_of_ble_eq_true rfl) ⟨Nat.le_of_ble_eq_true rfl, Nat.le_of_ble_eq_true rfl⟩ ⟨Nat.le_refl _, Nat.le_refl _⟩ ?_ ?_
    · rintro r w ⟨rfl, rfl⟩; rfl
    rintro r w ⟨rfl, rfl⟩
    refine ev_nx (pc' := 38) (st' := [.int y4.1]) (w' := W_X3 (m_X3_rep y4.2 (m_X3_hold y2 u))) rfl rfl (by with_unfolding_all rfl) rfl rfl ?_
    refine ev_run (cs := []) (pc' := 39) (L' := [some (.ref 0), some (.int v1), some (.int v2), some (.int y1)]) (st' := []) (w' := W_X3 (m_X3_rep y4.2 (m_X3_hold y2 u))) [] 1 (by with_unfolding_all rfl) trivial ?_
    exact ev_to2 (t_X3_change_b39 F (m_X3_rep y4.2 (m_X3_hold y2 u)) y1 _ hR) ⟨rfl, rfl, trivial⟩ rfl rfl

def s_X3_lie (F : Nat) (u : S_X3) (v1 : Int32) (v2 : Int32) : Option (Int32 × S_X3) := (s_X3_dueTime F u v1).bind fun y1 => ((s_X1_make F (a_X3_rep u) v1 v2 y1 1).bind fun y2 => ((s_X3_hearDue F (m_X3_rep y2.2 u)).bind fun y3 => (some (y2.1, y3))))
set_option maxHeartbeats 4000000 in
set_option maxRecDepth 20000 in
theorem t_X3_lie (F : Nat) (u : S_X3) (v1 : Int32) (v2 : Int32) (x : (Int32 × S_X3)) (hR : s_X3_lie F u v1 v2 = some x) : ev_A yX3_lie mm_X3_lie none [.ref 0, .int v1, .int v2] (W_X3 u) (fun r w => r = some (.int x.1) ∧ w = W_X3 x.2) := by
  unfold s_X3_lie at hR
  refine ev_start ok_X3_lie (by decide +kernel) rfl rfl (Nat.le_of_ble_eq_true rfl) ?_
  refine ev_run (cs := []) (pc' := 8) (L' := [some (.ref 0), some (.int v1), some (.int v2), none]) (st' := [.int v1, .ref 0, .int v2, .int v1, .ref 11]) (w' := W_X3 u) [] 6 (by with_unfolding_all rfl) trivial ?_
  obtain ⟨y1, h1, hR⟩ := lf_b hR
  refine ev_callV1 0 (t_X3_dueTime F u v1 _ h1) cv_X3_dueTime ml_X3_101 rfl rfl rfl (Nat.le_of_ble_eq_true rfl) (by with_unfolding_all rfl) (Nat.le_of_ble_eq_true rfl) ⟨Nat.le_of_ble_eq_true rfl, Nat.le_of_ble_eq_true rfl⟩ ⟨Nat.le_refl _, Nat.le_refl _⟩ ?_ ?_
  · rintro r w ⟨rfl, rfl⟩; rfl
  rintro r w ⟨rfl, rfl⟩
  refine ev_nx (pc' := 11) (st' := [.int y1, .int v2, .int v1, .ref 11]) (w' := W_X3 u) rfl rfl (by with_unfolding_all rfl) rfl rfl ?_
  refine ev_run (cs := []) (pc' := 12) (L' := [some (.ref 0), some (.int v1), some (.int v2), none]) (st' := [.int 1, .int y1, .int v2, .int v1, .ref 11]) (w' := W_X3 u) [] 1 (by with_unfolding_all rfl) trivial ?_
  obtain ⟨y2, h2, hR⟩ := lf_b hR
  refine ev_callV1 11 (t_X1_make F (a_X3_rep u) v1 v2 y1 1 _ h2) cv_X1_make ml_X3_104 rfl rfl rfl (Nat.le_of_ble_eq_true rfl) (by with_unfolding_all rfl) (Nat.le_of_ble_eq_true rfl) ⟨Nat.le_of_ble_eq_true rfl, Nat.le_of_ble_eq_true rfl⟩ ⟨Nat.le_refl _, Nat.le_refl _⟩ ?_ ?_
  · rintro r w ⟨rfl, rfl⟩; rfl
  rintro r w ⟨rfl, rfl⟩
  refine ev_nx (pc' := 15) (st' := [.int y2.1]) (w' := W_X3 (m_X3_rep y2.2 u)) rfl rfl (by with_unfolding_all rfl) rfl rfl ?_
  refine ev_run (cs := []) (pc' := 17) (L' := [some (.ref 0), some (.int v1), some (.int v2), some (.int y2.1)]) (st' := [.ref 0]) (w' := W_X3 (m_X3_rep y2.2 u)) [] 2 (by with_unfolding_all rfl) trivial ?_
  obtain ⟨y3, h3, hR⟩ := lf_b hR
  refine ev_callV1 0 (t_X3_hearDue F (m_X3_rep y2.2 u) _ h3) cv_X3_hearDue ml_X3_108 rfl rfl rfl (Nat.le_of_ble_eq_true rfl) (by with_unfolding_all rfl) (Nat.le_of_ble_eq_true rfl) ⟨Nat.le_of_ble_eq_true rfl, Nat.le_of_ble_eq_true rfl⟩ ⟨Nat.le_refl _, Nat.le_refl _⟩ ?_ ?_
  · rintro r w ⟨rfl, rfl⟩; rfl
  rintro r w ⟨rfl, rfl⟩
  refine ev_nx (pc' := 20) (st' := []) (w' := W_X3 y3) rfl rfl (by with_unfolding_all rfl) rfl rfl ?_
  refine ev_run (cs := []) (pc' := 21) (L' := [some (.ref 0), some (.int v1), some (.int v2), some (.int y2.1)]) (st' := [.int y2.1]) (w' := W_X3 y3) [] 1 (by with_unfolding_all rfl) trivial ?_
  cases hR
  exact ev_exit ⟨_, _, rfl, ⟨rfl, Or.inl rfl⟩, ⟨rfl, rfl⟩, Nat.le_refl _, Nat.le_refl _⟩

def s_X3_isWrong (F : Nat) (u : S_X3) (v1 : Int32) : Option Bool := if lf_ix v1 24 then ((s_X1_sumFor F (a_X3_rep u) v1).bind fun y1 => ((s_X0_truthOf F (a_X3_hold u) v1).bind fun y2 => (if (((a_X3_counts u) v1.toNatClampNeg) + y1) = y2 then (some (false)) else (some (true))))) else none
set_option maxHeartbeats 4000000 in
set_option maxRecDepth 20000 in
theorem t_X3_isWrong (F : Nat) (u : S_X3) (v1 : Int32) (x : Bool) (hR : s_X3_isWrong F u v1 = some x) : ev_A yX3_isWrong mm_X3_isWrong none [.ref 0, .int v1] (W_X3 u) (fun r w => r = some (.int (ev_b x)) ∧ w = W_X3 u) := by
  unfold s_X3_isWrong at hR
  refine ev_start ok_X3_isWrong (by decide +kernel) rfl rfl (Nat.le_of_ble_eq_true rfl) ?_
  obtain ⟨h1, hR⟩ := lf_g hR
  refine ev_run (cs := [lf_ix v1 24]) (pc' := 11) (L' := [some (.ref 0), some (.int v1)]) (st' := [.int v1, .ref 11, .int ((a_X3_counts u) v1.toNatClampNeg)]) (w' := W_X3 u) [] 7 (by with_unfolding_all rfl) (h1) ?_
  obtain ⟨y1, h2, hR⟩ := lf_b hR
  refine ev_callV1 11 (t_X1_sumFor F (a_X3_rep u) v1 _ h2) cv_X1_sumFor ml_X3_117 rfl rfl rfl (Nat.le_of_ble_eq_true rfl) (by with_unfolding_all rfl) (Nat.le_of_ble_eq_true rfl) ⟨Nat.le_of_ble_eq_true rfl, Nat.le_of_ble_eq_true rfl⟩ ⟨Nat.le_refl _, Nat.le_refl _⟩ ?_ ?_
  · rintro r w ⟨rfl, rfl⟩; rfl
  rintro r w ⟨rfl, rfl⟩
  refine ev_nx (pc' := 14) (st' := [.int y1, .int ((a_X3_counts u) v1.toNatClampNeg)]) (w' := W_X3 u) rfl rfl (by with_unfolding_all rfl) rfl rfl ?_
  refine ev_run (cs := []) (pc' := 20) (L' := [some (.ref 0), some (.int v1)]) (st' := [.int v1, .ref 9, .int (((a_X3_counts u) v1.toNatClampNeg) + y1)]) (w' := W_X3 u) [] 4 (by with_unfolding_all rfl) trivial ?_
  obtain ⟨y2, h3, hR⟩ := lf_b hR
  refine ev_callV1 9 (t_X0_truthOf F (a_X3_hold u) v1 _ h3) cv_X0_truthOf ml_X3_114 rfl rfl rfl (Nat.le_of_ble_eq_true rfl) (by with_unfolding_all rfl) (Nat.le_of_ble_eq_true rfl) ⟨Nat.le_of_ble_eq_true rfl, Nat.le_of_ble_eq_true rfl⟩ ⟨Nat.le_refl _, Nat.le_refl _⟩ ?_ ?_
  · rintro r w ⟨rfl, rfl⟩; rfl
  rintro r w ⟨rfl, rfl⟩
  refine ev_nx (pc' := 23) (st' := [.int y2, .int (((a_X3_counts u) v1.toNatClampNeg) + y1)]) (w' := W_X3 u) rfl rfl (by with_unfolding_all rfl) rfl rfl ?_
  refine ev_br rfl rfl (fun h4 => ?_) (fun h4 => ?_)
  · replace hR := lf_t h4 hR
    refine ev_run (cs := []) (pc' := 31) (L' := [some (.ref 0), some (.int v1)]) (st' := [.int 0]) (w' := W_X3 u) [] 1 (by with_unfolding_all rfl) trivial ?_
    cases hR
    exact ev_exit ⟨_, _, rfl, ⟨rfl, Or.inr ⟨rfl, rfl⟩⟩, ⟨rfl, rfl⟩, Nat.le_refl _, Nat.le_refl _⟩
  · replace hR := lf_f h4 hR
    refine ev_run (cs := []) (pc' := 31) (L' := [some (.ref 0), some (.int v1)]) (st' := [.int 1]) (w' := W_X3 u) [] 2 (by with_unfolding_all rfl) trivial ?_
    cases hR
    exact ev_exit ⟨_, _, rfl, ⟨rfl, Or.inr ⟨rfl, rfl⟩⟩, ⟨rfl, rfl⟩, Nat.le_refl _, Nat.le_refl _⟩

def s_X3_withRest_l4 (F : Nat) (u : S_X3) (v1 : Int32) : Nat → Int32 → Int32 → Option Int32
  | 0 => fun _ _ => none
  | n + 1 => fun v2 v3 => if 24 ≤ v3 then (some (v2)) else (if (st_in v1 v3) then (if lf_ix v3 24 then ((s_X0_slotsThatHold F (a_X3_hold u) v3 v1).bind fun y1 => (if ((a_X3_counts u) v3.toNatClampNeg) ≤ y1 then (s_X3_withRest_l4 F u v1 n v2 (v3 + 1)) else (s_X3_withRest_l4 F u v1 n (v2 ||| (1 <<< (v3 &&& 31))) (v3 + 1)))) else none) else (s_X3_withRest_l4 F u v1 n v2 (v3 + 1)))
theorem e_X3_withRest_l4 (F : Nat) (u : S_X3) (v1 : Int32) (n : Nat) (v2 : Int32) (v3 : Int32) : s_X3_withRest_l4 F u v1 (n + 1) v2 v3 = if 24 ≤ v3 then (some (v2)) else (if (st_in v1 v3) then (if lf_ix v3 24 then ((s_X0_slotsThatHold F (a_X3_hold u) v3 v1).bind fun y1 => (if ((a_X3_counts u) v3.toNatClampNeg) ≤ y1 then (s_X3_withRest_l4 F u v1 n v2 (v3 + 1)) else (s_X3_withRest_l4 F u v1 n (v2 ||| (1 <<< (v3 &&& 31))) (v3 + 1)))) else none) else (s_X3_withRest_l4 F u v1 n v2 (v3 + 1))) := rfl
set_option maxHeartbeats 4000000 in
set_option maxRecDepth 20000 in
theorem t_X3_withRest_l4 (F : Nat) (u : S_X3) (v1 : Int32) (x : Int32)  : ∀ (n : Nat) (v2 : Int32) (v3 : Int32), s_X3_withRest_l4 F u v1 n v2 v3 = some x → ev_V mm_X3_withRest none (ev_XR mm_X3_withRest (fun r w => r = some (.int x) ∧ w = W_X3 u)) 4 [some (.ref 0), some (.int v1), some (.int v2), some (.int v3)] [] (W_X3 u) 0 0 := by
  intro n
  induction n with
  | zero => intro v2 v3 hR; cases hR
  | succ n hk4 =>
    intro v2 v3 hR
    unfold s_X3_withRest_l4 at hR
    refine ev_run (cs := []) (pc' := 7) (L' := [some (.ref 0), some (.int v1), some (.int v2), some (.int v3)]) (st' := [.int 24, .int v3]) (w' := W_X3 u) [] 2 (by with_unfolding_all rfl) trivial ?_
    refine ev_br rfl rfl (fun h1 => ?_) (fun h1 => ?_)
    · replace hR := lf_t h1 hR
      refine ev_run (cs := []) (pc' := 49) (L' := [some (.ref 0), some (.int v1), some (.int v2), some (.int v3)]) (st' := [.int v2]) (w' := W_X3 u) [] 1 (by with_unfolding_all rfl) trivial ?_
      cases hR
      exact ev_exit ⟨_, _, rfl, ⟨rfl, Or.inl rfl⟩, ⟨rfl, rfl⟩, Nat.le_refl _, Nat.le_refl _⟩
    · replace hR := lf_f h1 hR
      refine ev_run (cs := []) (pc' := 12) (L' := [some (.ref 0), some (.int v1), some (.int v2), some (.int v3)]) (st' := [.int v3, .int v1]) (w' := W_X3 u) [] 2 (by with_unfolding_all rfl) trivial ?_
      refine ev_callS1 0 (t_X4_isIn v1 v3) cs_X4_isIn ml_X3_85 rfl rfl rfl (Nat.le_of_ble_eq_true rfl) (by with_unfolding_all rfl) (Nat.le_of_ble_eq_true rfl) ⟨Nat.le_of_ble_eq_true rfl, Nat.le_of_ble_eq_true rfl⟩ ⟨Nat.le_refl _, Nat.le_refl _⟩ ?_ ?_
      · rintro r w ⟨rfl, rfl⟩; rfl
      rintro r w ⟨rfl, rfl⟩
      refine ev_nx (pc' := 15) (st' := [.int (ev_b (st_in v1 v3))]) (w' := W_X3 u) rfl rfl (by with_unfolding_all rfl) rfl rfl ?_
      refine ev_br rfl rfl (fun h2 => ?_) (fun h2 => ?_)
      · replace hR := lf_z0 h2 hR
        refine ev_run (cs := []) (pc' := 4) (L' := [some (.ref 0), some (.int v1), some (.int v2), some (.int (v3 + 1))]) (st' := []) (w' := W_X3 u) [] 2 (by with_unfolding_all rfl) trivial ?_
        exact ev_to2 (hk4 _ _ hR) ⟨rfl, rfl, rfl, rfl, trivial⟩ rfl rfl
      · replace hR := lf_z1 h2 hR
        obtain ⟨h3, hR⟩ := lf_g hR
        refine ev_run (cs := [lf_ix v3 24]) (pc' := 30) (L' := [some (.ref 0), some (.int v1), some (.int v2), some (.int v3)]) (st' := [.int v1, .int v3, .ref 9, .int ((a_X3_counts u) v3.toNatClampNeg)]) (w' := W_X3 u) [] 8 (by with_unfolding_all rfl) (h3) ?_
        obtain ⟨y1, h4, hR⟩ := lf_b hR
        refine ev_callV1 9 (t_X0_slotsThatHold F (a_X3_hold u) v3 v1 _ h4) cv_X0_slotsThatHold ml_X3_148 rfl rfl rfl (Nat.le_of_ble_eq_true rfl) (by with_unfolding_all rfl) (Nat.le_of_ble_eq_true rfl) ⟨Nat.le_of_ble_eq_true rfl, Nat.le_of_ble_eq_true rfl⟩ ⟨Nat.le_refl _, Nat.le_refl _⟩ ?_ ?_
        · rintro r w ⟨rfl, rfl⟩; rfl
        rintro r w ⟨rfl, rfl⟩
        refine ev_nx (pc' := 33) (st' := [.int y1, .int ((a_X3_counts u) v3.toNatClampNeg)]) (w' := W_X3 u) rfl rfl (by with_unfolding_all rfl) rfl rfl ?_
        refine ev_br rfl rfl (fun h5 => ?_) (fun h5 => ?_)
        · replace hR := lf_t h5 hR
          refine ev_run (cs := []) (pc' := 4) (L' := [some (.ref 0), some (.int v1), some (.int v2), some (.int (v3 + 1))]) (st' := []) (w' := W_X3 u) [] 2 (by with_unfolding_all rfl) trivial ?_
          exact ev_to2 (hk4 _ _ hR) ⟨rfl, rfl, rfl, rfl, trivial⟩ rfl rfl
        · replace hR := lf_f h5 hR
          refine ev_run (cs := []) (pc' := 4) (L' := [some (.ref 0), some (.int v1), some (.int (v2 ||| (1 <<< (v3 &&& 31)))), some (.int (v3 + 1))]) (st' := []) (w' := W_X3 u) [] 8 (by with_unfolding_all rfl) trivial ?_
          exact ev_to2 (hk4 _ _ hR) ⟨rfl, rfl, rfl, rfl, trivial⟩ rfl rfl

def s_X3_withRest (F : Nat) (u : S_X3) (v1 : Int32) : Option Int32 := s_X3_withRest_l4 F u v1 F 0 0
set_option maxHeartbeats 4000000 in
set_option maxRecDepth 20000 in
theorem t_X3_withRest (F : Nat) (u : S_X3) (v1 : Int32) (x : Int32) (hR : s_X3_withRest F u v1 = some x) : ev_A yX3_withRest mm_X3_withRest none [.ref 0, .int v1] (W_X3 u) (fun r w => r = some (.int x) ∧ w = W_X3 u) := by
  unfold s_X3_withRest at hR
  refine ev_start ok_X3_withRest (by decide +kernel) rfl rfl (Nat.le_of_ble_eq_true rfl) ?_
  refine ev_run (cs := []) (pc' := 4) (L' := [some (.ref 0), some (.int v1), some (.int 0), some (.int 0)]) (st' := []) (w' := W_X3 u) [] 4 (by with_unfolding_all rfl) trivial ?_
  exact ev_to2 (t_X3_withRest_l4 F u v1 _ F 0 0 hR) ⟨rfl, rfl, rfl, rfl, trivial⟩ rfl rfl

def s_X3_highestOf_l7 (F : Nat) (u : S_X3) (v1 : Int32) : Nat → Int32 → Int32 → Int32 → Option Int32
  | 0 => fun _ _ _ => none
  | n + 1 => fun v2 v3 v4 => if 24 ≤ v4 then (some (v2)) else (if (st_in v1 v4) then (if lf_ix v4 24 then (if ((a_X3_ranks u) v4.toNatClampNeg) ≤ v3 then (s_X3_highestOf_l7 F u v1 n v2 v3 (v4 + 1)) else (if lf_ix v4 24 then (s_X3_highestOf_l7 F u v1 n v4 ((a_X3_ranks u) v4.toNatClampNeg) (v4 + 1)) else none)) else none) else (s_X3_highestOf_l7 F u v1 n v2 v3 (v4 + 1)))
theorem e_X3_highestOf_l7 (F : Nat) (u : S_X3) (v1 : Int32) (n : Nat) (v2 : Int32) (v3 : Int32) (v4 : Int32) : s_X3_highestOf_l7 F u v1 (n + 1) v2 v3 v4 = if 24 ≤ v4 then (some (v2)) else (if (st_in v1 v4) then (if lf_ix v4 24 then (if ((a_X3_ranks u) v4.toNatClampNeg) ≤ v3 then (s_X3_highestOf_l7 F u v1 n v2 v3 (v4 + 1)) else (if lf_ix v4 24 then (s_X3_highestOf_l7 F u v1 n v4 ((a_X3_ranks u) v4.toNatClampNeg) (v4 + 1)) else none)) else none) else (s_X3_highestOf_l7 F u v1 n v2 v3 (v4 + 1))) := rfl
set_option maxHeartbeats 4000000 in
set_option maxRecDepth 20000 in
theorem t_X3_highestOf_l7 (F : Nat) (u : S_X3) (v1 : Int32) (x : Int32)  : ∀ (n : Nat) (v2 : Int32) (v3 : Int32) (v4 : Int32), s_X3_highestOf_l7 F u v1 n v2 v3 v4 = some x → ev_V mm_X3_highestOf none (ev_XR mm_X3_highestOf (fun r w => r = some (.int x) ∧ w = W_X3 u)) 7 [some (.ref 0), some (.int v1), some (.int v2), some (.int v3), some (.int v4)] [] (W_X3 u) 0 0 := by
  intro n
  induction n with
  | zero => intro v2 v3 v4 hR; cases hR
  | succ n hk7 =>
    intro v2 v3 v4 hR
    unfold s_X3_highestOf_l7 at hR
    refine ev_run (cs := []) (pc' := 11) (L' := [some (.ref 0), some (.int v1), some (.int v2), some (.int v3), some (.int v4)]) (st' := [.int 24, .int v4]) (w' := W_X3 u) [] 2 (by with_unfolding_all rfl) trivial ?_
    refine ev_br rfl rfl (fun h1 => ?_) (fun h1 => ?_)
    · replace hR := lf_t h1 hR
      refine ev_run (cs := []) (pc' := 52) (L' := [some (.ref 0), some (.int v1), some (.int v2), some (.int v3), some (.int v4)]) (st' := [.int v2]) (w' := W_X3 u) [] 1 (by with_unfolding_all rfl) trivial ?_
      cases hR
      exact ev_exit ⟨_, _, rfl, ⟨rfl, Or.inl rfl⟩, ⟨rfl, rfl⟩, Nat.le_refl _, Nat.le_refl _⟩
    · replace hR := lf_f h1 hR
      refine ev_run (cs := []) (pc' := 17) (L' := [some (.ref 0), some (.int v1), some (.int v2), some (.int v3), some (.int v4)]) (st' := [.int v4, .int v1]) (w' := W_X3 u) [] 2 (by with_unfolding_all rfl) trivial ?_
      refine ev_callS1 0 (t_X4_isIn v1 v4) cs_X4_isIn ml_X3_85 rfl rfl rfl (Nat.le_of_ble_eq_true rfl) (by with_unfolding_all rfl) (Nat.le_of_ble_eq_true rfl) ⟨Nat.le_of_ble_eq_true rfl, Nat.le_of_ble_eq_true rfl⟩ ⟨Nat.le_refl _, Nat.le_refl _⟩ ?_ ?_
      · rintro r w ⟨rfl, rfl⟩; rfl
      rintro r w ⟨rfl, rfl⟩
      refine ev_nx (pc' := 20) (st' := [.int (ev_b (st_in v1 v4))]) (w' := W_X3 u) rfl rfl (by with_unfolding_all rfl) rfl rfl ?_
      refine ev_br rfl rfl (fun h2 => ?_) (fun h2 => ?_)
      · replace hR := lf_z0 h2 hR
        refine ev_run (cs := []) (pc' := 7) (L' := [some (.ref 0), some (.int v1), some (.int v2), some (.int v3), some (.int (v4 + 1))]) (st' := []) (w' := W_X3 u) [] 2 (by with_unfolding_all rfl) trivial ?_
        exact ev_to2 (hk7 _ _ _ hR) ⟨rfl, rfl, rfl, rfl, rfl, trivial⟩ rfl rfl
      · replace hR := lf_z1 h2 hR
        obtain ⟨h3, hR⟩ := lf_g hR
        refine ev_run (cs := [lf_ix v4 24]) (pc' := 31) (L' := [some (.ref 0), some (.int v1), some (.int v2), some (.int v3), some (.int v4)]) (st' := [.int v3, .int ((a_X3_ranks u) v4.toNatClampNeg)]) (w' := W_X3 u) [] 5 (by with_unfolding_all rfl) (h3) ?_
        refine ev_br rfl rfl (fun h4 => ?_) (fun h4 => ?_)
        · replace hR := lf_t h4 hR
          refine ev_run (cs := []) (pc' := 7) (L' := [some (.ref 0), some (.int v1), some (.int v2), some (.int v3), some (.int (v4 + 1))]) (st' := []) (w' := W_X3 u) [] 2 (by with_unfolding_all rfl) trivial ?_
          exact ev_to2 (hk7 _ _ _ hR) ⟨rfl, rfl, rfl, rfl, rfl, trivial⟩ rfl rfl
        · replace hR := lf_f h4 hR
          obtain ⟨h5, hR⟩ := lf_g hR
          refine ev_run (cs := [lf_ix v4 24]) (pc' := 7) (L' := [some (.ref 0), some (.int v1), some (.int v4), some (.int ((a_X3_ranks u) v4.toNatClampNeg)), some (.int (v4 + 1))]) (st' := []) (w' := W_X3 u) [] 9 (by with_unfolding_all rfl) (h5) ?_
          exact ev_to2 (hk7 _ _ _ hR) ⟨rfl, rfl, rfl, rfl, rfl, trivial⟩ rfl rfl

def s_X3_highestOf (F : Nat) (u : S_X3) (v1 : Int32) : Option Int32 := s_X3_highestOf_l7 F u v1 F 0 (-1) 0
set_option maxHeartbeats 4000000 in
set_option maxRecDepth 20000 in
theorem t_X3_highestOf (F : Nat) (u : S_X3) (v1 : Int32) (x : Int32) (hR : s_X3_highestOf F u v1 = some x) : ev_A yX3_highestOf mm_X3_highestOf none [.ref 0, .int v1] (W_X3 u) (fun r w => r = some (.int x) ∧ w = W_X3 u) := by
  unfold s_X3_highestOf at hR
  refine ev_start ok_X3_highestOf (by decide +kernel) rfl rfl (Nat.le_of_ble_eq_true rfl) ?_
  refine ev_run (cs := []) (pc' := 7) (L' := [some (.ref 0), some (.int v1), some (.int 0), some (.int (-1)), some (.int 0)]) (st' := []) (w' := W_X3 u) [] 6 (by with_unfolding_all rfl) trivial ?_
  exact ev_to2 (t_X3_highestOf_l7 F u v1 _ F 0 (-1) 0 hR) ⟨rfl, rfl, rfl, rfl, rfl, trivial⟩ rfl rfl

def s_X3_judge_l63 (F : Nat) (v3 : Int32) : Nat → S_X3 → Int32 → Int32 → Option S_X3
  | 0 => fun _ _ _ => none
  | n + 1 => fun u v4 v5 => if 24 ≤ v5 then (some (u)) else (if v4 = 0 then (some (u)) else ((s_X3_highestOf F u v4).bind fun y1 => ((s_X3_endThing F u y1 v3 2).bind fun y2 => (s_X3_judge_l63 F v3 n y2 (v4 &&& ((1 <<< (y1 &&& 31)) ^^^ (-1))) (v5 + 1)))))
theorem e_X3_judge_l63 (F : Nat) (v3 : Int32) (n : Nat) (u : S_X3) (v4 : Int32) (v5 : Int32) : s_X3_judge_l63 F v3 (n + 1) u v4 v5 = if 24 ≤ v5 then (some (u)) else (if v4 = 0 then (some (u)) else ((s_X3_highestOf F u v4).bind fun y1 => ((s_X3_endThing F u y1 v3 2).bind fun y2 => (s_X3_judge_l63 F v3 n y2 (v4 &&& ((1 <<< (y1 &&& 31)) ^^^ (-1))) (v5 + 1))))) := rfl
set_option maxHeartbeats 4000000 in
set_option maxRecDepth 20000 in
theorem t_X3_judge_l63 (F : Nat) (v3 : Int32) (x : S_X3)  : ∀ (n : Nat) (u : S_X3) (v4 : Int32) (v5 : Int32), s_X3_judge_l63 F v3 n u v4 v5 = some x → ev_V mm_X3_judge none (ev_XR mm_X3_judge (fun r w => r = none ∧ w = W_X3 x)) 63 [some (.ref 0), none, none, some (.int v3), some (.int v4), some (.int v5), none] [] (W_X3 u) 0 0 := by
  intro n
  induction n with
  | zero => intro u v4 v5 hR; cases hR
  | succ n hk63 =>
    intro u v4 v5 hR
    unfold s_X3_judge_l63 at hR
    refine ev_run (cs := []) (pc' := 67) (L' := [some (.ref 0), none, none, some (.int v3), some (.int v4), some (.int v5), none]) (st' := [.int 24, .int v5]) (w' := W_X3 u) [] 2 (by with_unfolding_all rfl) trivial ?_
    refine ev_br rfl rfl (fun h1 => ?_) (fun h1 => ?_)
    · replace hR := lf_t h1 hR
      cases hR
      exact ev_exit ⟨_, _, rfl, ⟨rfl, rfl⟩, ⟨rfl, rfl⟩, Nat.le_refl _, Nat.le_refl _⟩
    · replace hR := lf_f h1 hR
      refine ev_run (cs := []) (pc' := 72) (L' := [some (.ref 0), none, none, some (.int v3), some (.int v4), some (.int v5), none]) (st' := [.int v4]) (w' := W_X3 u) [] 1 (by with_unfolding_all rfl) trivial ?_
      refine ev_br rfl rfl (fun h2 => ?_) (fun h2 => ?_)
      · replace hR := lf_t h2 hR
        cases hR
        exact ev_exit ⟨_, _, rfl, ⟨rfl, rfl⟩, ⟨rfl, rfl⟩, Nat.le_refl _, Nat.le_refl _⟩
      · replace hR := lf_f h2 hR
        refine ev_run (cs := []) (pc' := 78) (L' := [some (.ref 0), none, none, some (.int v3), some (.int v4), some (.int v5), none]) (st' := [.int v4, .ref 0]) (w' := W_X3 u) [] 2 (by with_unfolding_all rfl) trivial ?_
        obtain ⟨y1, h3, hR⟩ := lf_b hR
        refine ev_callV1 0 (t_X3_highestOf F u v4 _ h3) cv_X3_highestOf ml_X3_141 rfl rfl rfl (Nat.le_of_ble_eq_true rfl) (by with_unfolding_all rfl) (Nat.le_of_ble_eq_true rfl) ⟨Nat.le_of_ble_eq_true rfl, Nat.le_of_ble_eq_true rfl⟩ ⟨Nat.le_refl _, Nat.le_refl _⟩ ?_ ?_
        · rintro r w ⟨rfl, rfl⟩; rfl
        rintro r w ⟨rfl, rfl⟩
        refine ev_nx (pc' := 81) (st' := [.int y1]) (w' := W_X3 u) rfl rfl (by with_unfolding_all rfl) rfl rfl ?_
        refine ev_run (cs := []) (pc' := 88) (L' := [some (.ref 0), none, none, some (.int v3), some (.int v4), some (.int v5), some (.int y1)]) (st' := [.int 2, .int v3, .int y1, .ref 0]) (w' := W_X3 u) [] 5 (by with_unfolding_all rfl) trivial ?_
        obtain ⟨y2, h4, hR⟩ := lf_b hR
        refine ev_callV1 0 (t_X3_endThing F u y1 v3 2 _ h4) cv_X3_endThing ml_X3_144 rfl rfl rfl (Nat.le_of_ble_eq_true rfl) (by with_unfolding_all rfl) (Nat.le_of_ble_eq_true rfl) ⟨Nat.le_of_ble_eq_true rfl, Nat.le_of_ble_eq_true rfl⟩ ⟨Nat.le_refl _, Nat.le_refl _⟩ ?_ ?_
        · rintro r w ⟨rfl, rfl⟩; rfl
        rintro r w ⟨rfl, rfl⟩
        refine ev_nx (pc' := 91) (st' := []) (w' := W_X3 y2) rfl rfl (by with_unfolding_all rfl) rfl rfl ?_
        refine ev_run (cs := []) (pc' := 63) (L' := [some (.ref 0), none, none, some (.int v3), some (.int (v4 &&& ((1 <<< (y1 &&& 31)) ^^^ (-1)))), some (.int (v5 + 1)), some (.int y1)]) (st' := []) (w' := W_X3 y2) [] 10 (by with_unfolding_all rfl) trivial ?_
        exact ev_to2 (hk63 _ _ _ hR) ⟨rfl, rfl, rfl, rfl, trivial⟩ rfl rfl

def s_X3_judge (F : Nat) (u : S_X3) (v1 : Int32) : Option S_X3 := (s_X0_reachOf F (a_X3_hold u) v1).bind fun y1 => ((s_X1_anyFor F (a_X3_rep u) (y1 ||| (1 <<< (v1 &&& 31)))).bind fun y2 => (if y2 then (some (u)) else ((s_X3_withRest F (m_X3_suspects ((a_X3_suspects u) &&& ((1 <<< (v1 &&& 31)) ^^^ (-1))) u) (y1 ||| (1 <<< (v1 &&& 31)))).bind fun y3 => ((s_X0_reachedFrom F (a_X3_hold u) y3 (-1)).bind fun y4 => (s_X3_judge_l63 F ((y1 ||| (1 <<< (v1 &&& 31))) &&& (y4 ^^^ (-1))) F (m_X3_suspects ((a_X3_suspects u) &&& ((1 <<< (v1 &&& 31)) ^^^ (-1))) u) ((y1 ||| (1 <<< (v1 &&& 31))) &&& (y4 ^^^ (-1))) 0)))))
set_option maxHeartbeats 4000000 in
set_option maxRecDepth 20000 in
theorem t_X3_judge (F : Nat) (u : S_X3) (v1 : Int32) (x : S_X3) (hR : s_X3_judge F u v1 = some x) : ev_A yX3_judge mm_X3_judge none [.ref 0, .int v1] (W_X3 u) (fun r w => r = none ∧ w = W_X3 x) := by
  unfold s_X3_judge at hR
  refine ev_start ok_X3_judge (by decide +kernel) rfl rfl (Nat.le_of_ble_eq_true rfl) ?_
  refine ev_run (cs := []) (pc' := 5) (L' := [some (.ref 0), some (.int v1), none, none, none, none, none]) (st' := [.int v1, .ref 9]) (w' := W_X3 u) [] 3 (by with_unfolding_all rfl) trivial ?_
  obtain ⟨y1, h1, hR⟩ := lf_b hR
  refine ev_callV1 9 (t_X0_reachOf F (a_X3_hold u) v1 _ h1) cv_X0_reachOf ml_X3_128 rfl rfl rfl (Nat.le_of_ble_eq_true rfl) (by with_unfolding_all rfl) (Nat.le_of_ble_eq_true rfl) ⟨Nat.le_of_ble_eq_true rfl, Nat.le_of_ble_eq_true rfl⟩ ⟨Nat.le_refl _, Nat.le_refl _⟩ ?_ ?_
  · rintro r w ⟨rfl, rfl⟩; rfl
  rintro r w ⟨rfl, rfl⟩
  refine ev_nx (pc' := 8) (st' := [.int y1]) (w' := W_X3 u) rfl rfl (by with_unfolding_all rfl) rfl rfl ?_
  refine ev_run (cs := []) (pc' := 18) (L' := [some (.ref 0), some (.int v1), some (.int (y1 ||| (1 <<< (v1 &&& 31)))), none, none, none, none]) (st' := [.int (y1 ||| (1 <<< (v1 &&& 31))), .ref 11]) (w' := W_X3 u) [] 8 (by with_unfolding_all rfl) trivial ?_
  obtain ⟨y2, h2, hR⟩ := lf_b hR
  refine ev_callV1 11 (t_X1_anyFor F (a_X3_rep u) (y1 ||| (1 <<< (v1 &&& 31))) _ h2) cv_X1_anyFor ml_X3_131 rfl rfl rfl (Nat.le_of_ble_eq_true rfl) (by with_unfolding_all rfl) (Nat.le_of_ble_eq_true rfl) ⟨Nat.le_of_ble_eq_true rfl, Nat.le_of_ble_eq_true rfl⟩ ⟨Nat.le_refl _, Nat.le_refl _⟩ ?_ ?_
  · rintro r w ⟨rfl, rfl⟩; rfl
  rintro r w ⟨rfl, rfl⟩
  refine ev_nx (pc' := 21) (st' := [.int (ev_b y2)]) (w' := W_X3 u) rfl rfl (by with_unfolding_all rfl) rfl rfl ?_
  refine ev_br rfl rfl (fun h3 => ?_) (fun h3 => ?_)
  · replace hR := lf_z0 h3 hR
    refine ev_run (cs := []) (pc' := 41) (L' := [some (.ref 0), some (.int v1), some (.int (y1 ||| (1 <<< (v1 &&& 31)))), none, none, none, none]) (st' := [.ref 0, .int (y1 ||| (1 <<< (v1 &&& 31)))]) (w' := W_X3 (m_X3_suspects ((a_X3_suspects u) &&& ((1 <<< (v1 &&& 31)) ^^^ (-1))) u)) [] 12 (by with_unfolding_all rfl) trivial ?_
    refine ev_run (cs := []) (pc' := 46) (L' := [some (.ref 0), some (.int v1), some (.int (y1 ||| (1 <<< (v1 &&& 31)))), none, none, none, none]) (st' := [.int (y1 ||| (1 <<< (v1 &&& 31))), .ref 0, .ref 9, .int (y1 ||| (1 <<< (v1 &&& 31)))]) (w' := W_X3 (m_X3_suspects ((a_X3_suspects u) &&& ((1 <<< (v1 &&& 31)) ^^^ (-1))) u)) [] 3 (by with_unfolding_all rfl) trivial ?_
    obtain ⟨y3, h4, hR⟩ := lf_b hR
    refine ev_callV1 0 (t_X3_withRest F (m_X3_suspects ((a_X3_suspects u) &&& ((1 <<< (v1 &&& 31)) ^^^ (-1))) u) (y1 ||| (1 <<< (v1 &&& 31))) _ h4) cv_X3_withRest ml_X3_134 rfl rfl rfl (Nat.le_of_ble_eq_true rfl) (by with_unfolding_all rfl) (Nat.le_of_ble_eq_true rfl) ⟨Nat.le_of_ble_eq_true rfl, Nat.le_of_ble_eq_true rfl⟩ ⟨Nat.le_refl _, Nat.le_refl _⟩ ?_ ?_
    · rintro r w ⟨rfl, rfl⟩; rfl
    rintro r w ⟨rfl, rfl⟩
    refine ev_nx (pc' := 49) (st' := [.int y3, .ref 9, .int (y1 ||| (1 <<< (v1 &&& 31)))]) (w' := W_X3 (m_X3_suspects ((a_X3_suspects u) &&& ((1 <<< (v1 &&& 31)) ^^^ (-1))) u)) rfl rfl (by with_unfolding_all rfl) rfl rfl ?_
    refine ev_run (cs := []) (pc' := 50) (L' := [some (.ref 0), some (.int v1), some (.int (y1 ||| (1 <<< (v1 &&& 31)))), none, none, none, none]) (st' := [.int (-1), .int y3, .ref 9, .int (y1 ||| (1 <<< (v1 &&& 31)))]) (w' := W_X3 (m_X3_suspects ((a_X3_suspects u) &&& ((1 <<< (v1 &&& 31)) ^^^ (-1))) u)) [] 1 (by with_unfolding_all rfl) trivial ?_
    obtain ⟨y4, h5, hR⟩ := lf_b hR
    refine ev_callV1 9 (t_X0_reachedFrom F (a_X3_hold u) y3 (-1) _ h5) cv_X0_reachedFrom ml_X3_137 rfl rfl rfl (Nat.le_of_ble_eq_true rfl) (by with_unfolding_all rfl) (Nat.le_of_ble_eq_true rfl) ⟨Nat.le_of_ble_eq_true rfl, Nat.le_of_ble_eq_true rfl⟩ ⟨Nat.le_refl _, Nat.le_refl _⟩ ?_ ?_
    · rintro r w ⟨rfl, rfl⟩; rfl
    rintro r w ⟨rfl, rfl⟩
    refine ev_nx (pc' := 53) (st' := [.int y4, .int (y1 ||| (1 <<< (v1 &&& 31)))]) (w' := W_X3 (m_X3_suspects ((a_X3_suspects u) &&& ((1 <<< (v1 &&& 31)) ^^^ (-1))) u)) rfl rfl (by with_unfolding_all rfl) rfl rfl ?_
    refine ev_run (cs := []) (pc' := 63) (L' := [some (.ref 0), some (.int v1), some (.int (y1 ||| (1 <<< (v1 &&& 31)))), some (.int ((y1 ||| (1 <<< (v1 &&& 31))) &&& (y4 ^^^ (-1)))), some (.int ((y1 ||| (1 <<< (v1 &&& 31))) &&& (y4 ^^^ (-1)))), some (.int 0), none]) (st' := []) (w' := W_X3 (m_X3_suspects ((a_X3_suspects u) &&& ((1 <<< (v1 &&& 31)) ^^^ (-1))) u)) [] 8 (by with_unfolding_all rfl) trivial ?_
    exact ev_to2 (t_X3_judge_l63 F ((y1 ||| (1 <<< (v1 &&& 31))) &&& (y4 ^^^ (-1))) _ F (m_X3_suspects ((a_X3_suspects u) &&& ((1 <<< (v1 &&& 31)) ^^^ (-1))) u) ((y1 ||| (1 <<< (v1 &&& 31))) &&& (y4 ^^^ (-1))) 0 hR) ⟨rfl, rfl, rfl, rfl, trivial⟩ rfl rfl
  · replace hR := lf_z1 h3 hR
    cases hR
    exact ev_exit ⟨_, _, rfl, ⟨rfl, rfl⟩, ⟨rfl, rfl⟩, Nat.le_refl _, Nat.le_refl _⟩

def s_X3_holdTrial_l12 (F : Nat) (v1 : Int32) (v2 : Int32) : Nat → S_X3 → Int32 → Option (Int32 × S_X3)
  | 0 => fun _ _ => none
  | n + 1 => fun u v3 => if 24 ≤ v3 then (some ((a_X3_ends u) - v1, u)) else (if (st_in (v2 &&& (a_X3_suspects u)) v3) then ((s_X3_judge F u v3).bind fun y1 => ((s_X3_hearDue F y1).bind fun y2 => (s_X3_holdTrial_l12 F v1 v2 n y2 (v3 + 1)))) else (s_X3_holdTrial_l12 F v1 v2 n u (v3 + 1)))
theorem e_X3_holdTrial_l12 (F : Nat) (v1 : Int32) (v2 : Int32) (n : Nat) (u : S_X3) (v3 : Int32) : s_X3_holdTrial_l12 F v1 v2 (n + 1) u v3 = if 24 ≤ v3 then (some ((a_X3_ends u) - v1, u)) else (if (st_in (v2 &&& (a_X3_suspects u)) v3) then ((s_X3_judge F u v3).bind fun y1 => ((s_X3_hearDue F y1).bind fun y2 => (s_X3_holdTrial_l12 F v1 v2 n y2 (v3 + 1)))) else (s_X3_holdTrial_l12 F v1 v2 n u (v3 + 1))) := rfl
set_option maxHeartbeats 4000000 in
set_option maxRecDepth 20000 in
theorem t_X3_holdTrial_l12 (F : Nat) (v1 : Int32) (v2 : Int32) (x : (Int32 × S_X3))  : ∀ (n : Nat) (u : S_X3) (v3 : Int32), s_X3_holdTrial_l12 F v1 v2 n u v3 = some x → ev_V mm_X3_holdTrial none (ev_XR mm_X3_holdTrial (fun r w => r = some (.int x.1) ∧ w = W_X3 x.2)) 12 [some (.ref 0), some (.int v1), some (.int v2), some (.int v3)] [] (W_X3 u) 0 0 := by
  intro n
  induction n with
  | zero => intro u v3 hR; cases hR
  | succ n hk12 =>
    intro u v3 hR
    unfold s_X3_holdTrial_l12 at hR
    refine ev_run (cs := []) (pc' := 15) (L' := [some (.ref 0), some (.int v1), some (.int v2), some (.int v3)]) (st' := [.int 24, .int v3]) (w' := W_X3 u) [] 2 (by with_unfolding_all rfl) trivial ?_
    refine ev_br rfl rfl (fun h1 => ?_) (fun h1 => ?_)
    · replace hR := lf_t h1 hR
      refine ev_run (cs := []) (pc' := 52) (L' := [some (.ref 0), some (.int v1), some (.int v2), some (.int v3)]) (st' := [.int ((a_X3_ends u) - v1)]) (w' := W_X3 u) [] 4 (by with_unfolding_all rfl) trivial ?_
      cases hR
      exact ev_exit ⟨_, _, rfl, ⟨rfl, Or.inl rfl⟩, ⟨rfl, rfl⟩, Nat.le_refl _, Nat.le_refl _⟩
    · replace hR := lf_f h1 hR
      refine ev_run (cs := []) (pc' := 25) (L' := [some (.ref 0), some (.int v1), some (.int v2), some (.int v3)]) (st' := [.int v3, .int (v2 &&& (a_X3_suspects u))]) (w' := W_X3 u) [] 5 (by with_unfolding_all rfl) trivial ?_
      refine ev_callS1 0 (t_X4_isIn (v2 &&& (a_X3_suspects u)) v3) cs_X4_isIn ml_X3_85 rfl rfl rfl (Nat.le_of_ble_eq_true rfl) (by with_unfolding_all rfl) (Nat.le_of_ble_eq_true rfl) ⟨Nat.le_of_ble_eq_true rfl, Nat.le_of_ble_eq_true rfl⟩ ⟨Nat.le_refl _, Nat.le_refl _⟩ ?_ ?_
      · rintro r w ⟨rfl, rfl⟩; rfl
      rintro r w ⟨rfl, rfl⟩
      refine ev_nx (pc' := 28) (st' := [.int (ev_b (st_in (v2 &&& (a_X3_suspects u)) v3))]) (w' := W_X3 u) rfl rfl (by with_unfolding_all rfl) rfl rfl ?_
      refine ev_br rfl rfl (fun h2 => ?_) (fun h2 => ?_)
      · replace hR := lf_z0 h2 hR
        refine ev_run (cs := []) (pc' := 12) (L' := [some (.ref 0), some (.int v1), some (.int v2), some (.int (v3 + 1))]) (st' := []) (w' := W_X3 u) [] 2 (by with_unfolding_all rfl) trivial ?_
        exact ev_to2 (hk12 _ _ hR) ⟨rfl, rfl, rfl, rfl, trivial⟩ rfl rfl
      · replace hR := lf_z1 h2 hR
        refine ev_run (cs := []) (pc' := 33) (L' := [some (.ref 0), some (.int v1), some (.int v2), some (.int v3)]) (st' := [.int v3, .ref 0]) (w' := W_X3 u) [] 2 (by with_unfolding_all rfl) trivial ?_
        obtain ⟨y1, h3, hR⟩ := lf_b hR
        refine ev_callV1 0 (t_X3_judge F u v3 _ h3) cv_X3_judge ml_X3_124 rfl rfl rfl (Nat.le_of_ble_eq_true rfl) (by with_unfolding_all rfl) (Nat.le_of_ble_eq_true rfl) ⟨Nat.le_of_ble_eq_true rfl, Nat.le_of_ble_eq_true rfl⟩ ⟨Nat.le_refl _, Nat.le_refl _⟩ ?_ ?_
        · rintro r w ⟨rfl, rfl⟩; rfl
        rintro r w ⟨rfl, rfl⟩
        refine ev_nx (pc' := 36) (st' := []) (w' := W_X3 y1) rfl rfl (by with_unfolding_all rfl) rfl rfl ?_
        refine ev_run (cs := []) (pc' := 37) (L' := [some (.ref 0), some (.int v1), some (.int v2), some (.int v3)]) (st' := [.ref 0]) (w' := W_X3 y1) [] 1 (by with_unfolding_all rfl) trivial ?_
        obtain ⟨y2, h4, hR⟩ := lf_b hR
        refine ev_callV1 0 (t_X3_hearDue F y1 _ h4) cv_X3_hearDue ml_X3_108 rfl rfl rfl (Nat.le_of_ble_eq_true rfl) (by with_unfolding_all rfl) (Nat.le_of_ble_eq_true rfl) ⟨Nat.le_of_ble_eq_true rfl, Nat.le_of_ble_eq_true rfl⟩ ⟨Nat.le_refl _, Nat.le_refl _⟩ ?_ ?_
        · rintro r w ⟨rfl, rfl⟩; rfl
        rintro r w ⟨rfl, rfl⟩
        refine ev_nx (pc' := 40) (st' := []) (w' := W_X3 y2) rfl rfl (by with_unfolding_all rfl) rfl rfl ?_
        refine ev_run (cs := []) (pc' := 12) (L' := [some (.ref 0), some (.int v1), some (.int v2), some (.int (v3 + 1))]) (st' := []) (w' := W_X3 y2) [] 2 (by with_unfolding_all rfl) trivial ?_
        exact ev_to2 (hk12 _ _ hR) ⟨rfl, rfl, rfl, rfl, trivial⟩ rfl rfl

def s_X3_holdTrial (F : Nat) (u : S_X3) : Option (Int32 × S_X3) := s_X3_holdTrial_l12 F (a_X3_ends u) (a_X3_suspects u) F u 0
set_option maxHeartbeats 4000000 in
set_option maxRecDepth 20000 in
theorem t_X3_holdTrial (F : Nat) (u : S_X3) (x : (Int32 × S_X3)) (hR : s_X3_holdTrial F u = some x) : ev_A yX3_holdTrial mm_X3_holdTrial none [.ref 0] (W_X3 u) (fun r w => r = some (.int x.1) ∧ w = W_X3 x.2) := by
  unfold s_X3_holdTrial at hR
  refine ev_start ok_X3_holdTrial (by decide +kernel) rfl rfl (Nat.le_of_ble_eq_true rfl) ?_
  refine ev_run (cs := []) (pc' := 12) (L' := [some (.ref 0), some (.int (a_X3_ends u)), some (.int (a_X3_suspects u)), some (.int 0)]) (st' := []) (w' := W_X3 u) [] 8 (by with_unfolding_all rfl) trivial ?_
  exact ev_to2 (t_X3_holdTrial_l12 F (a_X3_ends u) (a_X3_suspects u) _ F u 0 hR) ⟨rfl, rfl, rfl, rfl, trivial⟩ rfl rfl

def s_X3_passTicks_l7 (F : Nat) (v1 : Int32) (v2 : Int32) : Nat → S_X3 → Int32 → Option (Int32 × S_X3)
  | 0 => fun _ _ => none
  | n + 1 => fun u v3 => if v1 ≤ v3 then (some ((a_X3_ends u) - v2, u)) else ((s_X3_hearDue F (m_X3_time ((a_X3_time u) + 1) u)).bind fun y1 => (if ((a_X3_settings y1) (4 : Int32).toNatClampNeg) ≤ 0 then (s_X3_passTicks_l7 F v1 v2 n y1 (v3 + 1)) else (if ¬ ((a_X3_settings y1) (4 : Int32).toNatClampNeg) = 0 then (if ((a_X3_time y1) - (a_X3_time y1) / ((a_X3_settings y1) (4 : Int32).toNatClampNeg) * ((a_X3_settings y1) (4 : Int32).toNatClampNeg)) = 0 then ((s_X3_holdTrial F y1).bind fun y2 => (s_X3_passTicks_l7 F v1 v2 n y2.2 (v3 + 1))) else (s_X3_passTicks_l7 F v1 v2 n y1 (v3 + 1))) else none)))
theorem e_X3_passTicks_l7 (F : Nat) (v1 : Int32) (v2 : Int32) (n : Nat) (u : S_X3) (v3 : Int32) : s_X3_passTicks_l7 F v1 v2 (n + 1) u v3 = if v1 ≤ v3 then (some ((a_X3_ends u) - v2, u)) else ((s_X3_hearDue F (m_X3_time ((a_X3_time u) + 1) u)).bind fun y1 => (if ((a_X3_settings y1) (4 : Int32).toNatClampNeg) ≤ 0 then (s_X3_passTicks_l7 F v1 v2 n y1 (v3 + 1)) else (if ¬ ((a_X3_settings y1) (4 : Int32).toNatClampNeg) = 0 then (if ((a_X3_time y1) - (a_X3_time y1) / ((a_X3_settings y1) (4 : Int32).toNatClampNeg) * ((a_X3_settings y1) (4 : Int32).toNatClampNeg)) = 0 then ((s_X3_holdTrial F y1).bind fun y2 => (s_X3_passTicks_l7 F v1 v2 n y2.2 (v3 + 1))) else (s_X3_passTicks_l7 F v1 v2 n y1 (v3 + 1))) else none))) := rfl
set_option maxHeartbeats 4000000 in
set_option maxRecDepth 20000 in
theorem t_X3_passTicks_l7 (F : Nat) (v1 : Int32) (v2 : Int32) (x : (Int32 × S_X3))  : ∀ (n : Nat) (u : S_X3) (v3 : Int32), s_X3_passTicks_l7 F v1 v2 n u v3 = some x → ev_V mm_X3_passTicks none (ev_XR mm_X3_passTicks (fun r w => r = some (.int x.1) ∧ w = W_X3 x.2)) 7 [some (.ref 0), some (.int v1), some (.int v2), some (.int v3), none] [] (W_X3 u) 0 0 := by
  intro n
  induction n with
  | zero => intro u v3 hR; cases hR
  | succ n hk7 =>
    intro u v3 hR
    unfold s_X3_passTicks_l7 at hR
    refine ev_run (cs := []) (pc' := 9) (L' := [some (.ref 0), some (.int v1), some (.int v2), some (.int v3), none]) (st' := [.int v1, .int v3]) (w' := W_X3 u) [] 2 (by with_unfolding_all rfl) trivial ?_
    refine ev_br rfl rfl (fun h1 => ?_) (fun h1 => ?_)
    · replace hR := lf_t h1 hR
      refine ev_run (cs := []) (pc' := 66) (L' := [some (.ref 0), some (.int v1), some (.int v2), some (.int v3), none]) (st' := [.int ((a_X3_ends u) - v2)]) (w' := W_X3 u) [] 4 (by with_unfolding_all rfl) trivial ?_
      cases hR
      exact ev_exit ⟨_, _, rfl, ⟨rfl, Or.inl rfl⟩, ⟨rfl, rfl⟩, Nat.le_refl _, Nat.le_refl _⟩
    · replace hR := lf_f h1 hR
      refine ev_run (cs := []) (pc' := 23) (L' := [some (.ref 0), some (.int v1), some (.int v2), some (.int v3), none]) (st' := [.ref 0]) (w' := W_X3 (m_X3_time ((a_X3_time u) + 1) u)) [] 7 (by with_unfolding_all rfl) trivial ?_
      obtain ⟨y1, h2, hR⟩ := lf_b hR
      refine ev_callV1 0 (t_X3_hearDue F (m_X3_time ((a_X3_time u) + 1) u) _ h2) cv_X3_hearDue ml_X3_108 rfl rfl rfl (Nat.le_of_ble_eq_true rfl) (by with_unfolding_all rfl) (Nat.le_of_ble_eq_true rfl) ⟨Nat.le_of_ble_eq_true rfl, Nat.le_of_ble_eq_true rfl⟩ ⟨Nat.le_refl _, Nat.le_refl _⟩ ?_ ?_
      · rintro r w ⟨rfl, rfl⟩; rfl
      rintro r w ⟨rfl, rfl⟩
      refine ev_nx (pc' := 26) (st' := []) (w' := W_X3 y1) rfl rfl (by with_unfolding_all rfl) rfl rfl ?_
      refine ev_run (cs := [lf_ix 4 5]) (pc' := 36) (L' := [some (.ref 0), some (.int v1), some (.int v2), some (.int v3), some (.int ((a_X3_settings y1) (4 : Int32).toNatClampNeg))]) (st' := [.int ((a_X3_settings y1) (4 : Int32).toNatClampNeg)]) (w' := W_X3 y1) [] 6 (by with_unfolding_all rfl) (by show ¬ _; decide) ?_
      refine ev_br rfl rfl (fun h3 => ?_) (fun h3 => ?_)
      · replace hR := lf_t h3 hR
        refine ev_run (cs := []) (pc' := 7) (L' := [some (.ref 0), some (.int v1), some (.int v2), some (.int (v3 + 1)), some (.int ((a_X3_settings y1) (4 : Int32).toNatClampNeg))]) (st' := []) (w' := W_X3 y1) [] 2 (by with_unfolding_all rfl) trivial ?_
        exact ev_to2 (hk7 _ _ hR) ⟨rfl, rfl, rfl, rfl, trivial⟩ rfl rfl
      · replace hR := lf_f h3 hR
        obtain ⟨h4, hR⟩ := lf_g hR
        refine ev_run (cs := [¬ ((a_X3_settings y1) (4 : Int32).toNatClampNeg) = 0]) (pc' := 46) (L' := [some (.ref 0), some (.int v1), some (.int v2), some (.int v3), some (.int ((a_X3_settings y1) (4 : Int32).toNatClampNeg))]) (st' := [.int ((a_X3_time y1) - (a_X3_time y1) / ((a_X3_settings y1) (4 : Int32).toNatClampNeg) * ((a_X3_settings y1) (4 : Int32).toNatClampNeg))]) (w' := W_X3 y1) [] 4 (by with_unfolding_all rfl) (h4) ?_
        refine ev_br rfl rfl (fun h5 => ?_) (fun h5 => ?_)
        · replace hR := lf_f h5 hR
          refine ev_run (cs := []) (pc' := 7) (L' := [some (.ref 0), some (.int v1), some (.int v2), some (.int (v3 + 1)), some (.int ((a_X3_settings y1) (4 : Int32).toNatClampNeg))]) (st' := []) (w' := W_X3 y1) [] 2 (by with_unfolding_all rfl) trivial ?_
          exact ev_to2 (hk7 _ _ hR) ⟨rfl, rfl, rfl, rfl, trivial⟩ rfl rfl
        · replace hR := lf_t h5 hR
          refine ev_run (cs := []) (pc' := 50) (L' := [some (.ref 0), some (.int v1), some (.int v2), some (.int v3), some (.int ((a_X3_settings y1) (4 : Int32).toNatClampNeg))]) (st' := [.ref 0]) (w' := W_X3 y1) [] 1 (by with_unfolding_all rfl) trivial ?_
          obtain ⟨y2, h6, hR⟩ := lf_b hR
          refine ev_callV1 0 (t_X3_holdTrial F y1 _ h6) cv_X3_holdTrial ml_X3_120 rfl rfl rfl (Nat.le_of_ble_eq_true rfl) (by with_unfolding_all rfl) (Nat.le_of_ble_eq_true rfl) ⟨Nat.le_of_ble_eq_true rfl, Nat.le_of_ble_eq_true rfl⟩ ⟨Nat.le_refl _, Nat.le_refl _⟩ ?_ ?_
          · rintro r w ⟨rfl, rfl⟩; rfl
          rintro r w ⟨rfl, rfl⟩
          refine ev_nx (pc' := 53) (st' := [.int y2.1]) (w' := W_X3 y2.2) rfl rfl (by with_unfolding_all rfl) rfl rfl ?_
          refine ev_run (cs := []) (pc' := 7) (L' := [some (.ref 0), some (.int v1), some (.int v2), some (.int (v3 + 1)), some (.int ((a_X3_settings y1) (4 : Int32).toNatClampNeg))]) (st' := []) (w' := W_X3 y2.2) [] 3 (by with_unfolding_all rfl) trivial ?_
          exact ev_to2 (hk7 _ _ hR) ⟨rfl, rfl, rfl, rfl, trivial⟩ rfl rfl

def s_X3_passTicks (F : Nat) (u : S_X3) (v1 : Int32) : Option (Int32 × S_X3) := s_X3_passTicks_l7 F v1 (a_X3_ends u) F u 0
set_option maxHeartbeats 4000000 in
set_option maxRecDepth 20000 in
theorem t_X3_passTicks (F : Nat) (u : S_X3) (v1 : Int32) (x : (Int32 × S_X3)) (hR : s_X3_passTicks F u v1 = some x) : ev_A yX3_passTicks mm_X3_passTicks none [.ref 0, .int v1] (W_X3 u) (fun r w => r = some (.int x.1) ∧ w = W_X3 x.2) := by
  unfold s_X3_passTicks at hR
  refine ev_start ok_X3_passTicks (by decide +kernel) rfl rfl (Nat.le_of_ble_eq_true rfl) ?_
  refine ev_run (cs := []) (pc' := 7) (L' := [some (.ref 0), some (.int v1), some (.int (a_X3_ends u)), some (.int 0), none]) (st' := []) (w' := W_X3 u) [] 5 (by with_unfolding_all rfl) trivial ?_
  exact ev_to2 (t_X3_passTicks_l7 F v1 (a_X3_ends u) _ F u 0 hR) ⟨rfl, rfl, rfl, rfl, trivial⟩ rfl rfl

def s_X3_property (F : Nat) (u : S_X3) (v1 : Int32) (v2 : Int32) : Option Int32 := if v1 < 0 then (some (0)) else (if v1 < 24 then (if v2 = 0 then (some (((a_X3_living u) >>> (v1 &&& 31)) &&& 1)) else (if v2 = 1 then (if lf_ix v1 24 then (some ((a_X3_ranks u) v1.toNatClampNeg)) else none) else (if v2 = 2 then (if lf_ix v1 24 then (some ((a_X3_counts u) v1.toNatClampNeg)) else none) else (if v2 = 3 then ((s_X0_truthOf F (a_X3_hold u) v1).bind fun y1 => (some (y1))) else (if v2 = 4 then ((s_X1_numberFor F (a_X3_rep u) v1).bind fun y2 => (some (y2))) else (if v2 = 5 then ((s_X1_sumFor F (a_X3_rep u) v1).bind fun y3 => (some (y3))) else (if v2 = 6 then (some (((a_X3_suspects u) >>> (v1 &&& 31)) &&& 1)) else (if v2 = 7 then ((s_X0_reached F (a_X3_hold u)).bind fun y4 => (some ((y4 >>> (v1 &&& 31)) &&& 1))) else (if v2 = 8 then (if lf_ix v1 24 then (some ((a_X3_came u) v1.toNatClampNeg)) else none) else (if v2 = 9 then (if lf_ix v1 24 then (some ((a_X3_endNumbers u) v1.toNatClampNeg)) else none) else (if v2 = 10 then (if lf_ix v1 24 then (some ((a_X3_endTimes u) v1.toNatClampNeg)) else none) else (if v2 = 11 then (if lf_ix v1 24 then (some ((a_X3_endKinds u) v1.toNatClampNeg)) else none) else (some (((a_X3_wronged u) >>> (v1 &&& 31)) &&& 1)))))))))))))) else (some (0)))
set_option maxHeartbeats 4000000 in
set_option maxRecDepth 20000 in
theorem t_X3_property (F : Nat) (u : S_X3) (v1 : Int32) (v2 : Int32) (x : Int32) (hR : s_X3_property F u v1 v2 = some x) : ev_A yX3_property mm_X3_property none [.ref 0, .int v1, .int v2] (W_X3 u) (fun r w => r = some (.int x) ∧ w = W_X3 u) := by
  unfold s_X3_property at hR
  refine ev_start ok_X3_property (by decide +kernel) rfl rfl (Nat.le_of_ble_eq_true rfl) ?_
  refine ev_run (cs := []) (pc' := 1) (L' := [some (.ref 0), some (.int v1), some (.int v2)]) (st' := [.int v1]) (w' := W_X3 u) [] 1 (by with_unfolding_all rfl) trivial ?_
  refine ev_br rfl rfl (fun h1 => ?_) (fun h1 => ?_)
  · replace hR := lf_t h1 hR
    refine ev_run (cs := []) (pc' := 11) (L' := [some (.ref 0), some (.int v1), some (.int v2)]) (st' := [.int 0]) (w' := W_X3 u) [] 1 (by with_unfolding_all rfl) trivial ?_
    cases hR
    exact ev_exit ⟨_, _, rfl, ⟨rfl, Or.inl rfl⟩, ⟨rfl, rfl⟩, Nat.le_refl _, Nat.le_refl _⟩
  · replace hR := lf_f h1 hR
    refine ev_run (cs := []) (pc' := 7) (L' := [some (.ref 0), some (.int v1), some (.int v2)]) (st' := [.int 24, .int v1]) (w' := W_X3 u) [] 2 (by with_unfolding_all rfl) trivial ?_
    refine ev_br rfl rfl (fun h2 => ?_) (fun h2 => ?_)
    · replace hR := lf_t h2 hR
      refine ev_run (cs := []) (pc' := 13) (L' := [some (.ref 0), some (.int v1), some (.int v2)]) (st' := [.int v2]) (w' := W_X3 u) [] 1 (by with_unfolding_all rfl) trivial ?_
      by_cases h3 : v2 = 0
      · replace hR := lf_t h3 hR
        refine ev_lit h3 (ev_run [] 1 rfl trivial ?_)
        refine ev_run (cs := []) (pc' := 84) (L' := [some (.ref 0), some (.int v1), some (.int v2)]) (st' := [.int (((a_X3_living u) >>> (v1 &&& 31)) &&& 1)]) (w' := W_X3 u) [] 6 (by with_unfolding_all rfl) trivial ?_
        cases hR
        exact ev_exit ⟨_, _, rfl, ⟨rfl, Or.inl rfl⟩, ⟨rfl, rfl⟩, Nat.le_refl _, Nat.le_refl _⟩
      replace hR := lf_f h3 hR
      by_cases h4 : v2 = 1
      · replace hR := lf_t h4 hR
        refine ev_lit h4 (ev_run [] 1 rfl trivial ?_)
        obtain ⟨h5, hR⟩ := lf_g hR
        refine ev_run (cs := [lf_ix v1 24]) (pc' := 91) (L' := [some (.ref 0), some (.int v1), some (.int v2)]) (st' := [.int ((a_X3_ranks u) v1.toNatClampNeg)]) (w' := W_X3 u) [] 4 (by with_unfolding_all rfl) (h5) ?_
        cases hR
        exact ev_exit ⟨_, _, rfl, ⟨rfl, Or.inl rfl⟩, ⟨rfl, rfl⟩, Nat.le_refl _, Nat.le_refl _⟩
      replace hR := lf_f h4 hR
      by_cases h6 : v2 = 2
      · replace hR := lf_t h6 hR
        refine ev_lit h6 (ev_run [] 1 rfl trivial ?_)
        obtain ⟨h7, hR⟩ := lf_g hR
        refine ev_run (cs := [lf_ix v1 24]) (pc' := 98) (L' := [some (.ref 0), some (.int v1), some (.int v2)]) (st' := [.int ((a_X3_counts u) v1.toNatClampNeg)]) (w' := W_X3 u) [] 4 (by with_unfolding_all rfl) (h7) ?_
        cases hR
        exact ev_exit ⟨_, _, rfl, ⟨rfl, Or.inl rfl⟩, ⟨rfl, rfl⟩, Nat.le_refl _, Nat.le_refl _⟩
      replace hR := lf_f h6 hR
      by_cases h8 : v2 = 3
      · replace hR := lf_t h8 hR
        refine ev_lit h8 (ev_run [] 1 rfl trivial ?_)
        refine ev_run (cs := []) (pc' := 104) (L' := [some (.ref 0), some (.int v1), some (.int v2)]) (st' := [.int v1, .ref 9]) (w' := W_X3 u) [] 3 (by with_unfolding_all rfl) trivial ?_
        obtain ⟨y1, h9, hR⟩ := lf_b hR
        refine ev_callV1 9 (t_X0_truthOf F (a_X3_hold u) v1 _ h9) cv_X0_truthOf ml_X3_114 rfl rfl rfl (Nat.le_of_ble_eq_true rfl) (by with_unfolding_all rfl) (Nat.le_of_ble_eq_true rfl) ⟨Nat.le_of_ble_eq_true rfl, Nat.le_of_ble_eq_true rfl⟩ ⟨Nat.le_refl _, Nat.le_refl _⟩ ?_ ?_
        · rintro r w ⟨rfl, rfl⟩; rfl
        rintro r w ⟨rfl, rfl⟩
        refine ev_nx (pc' := 107) (st' := [.int y1]) (w' := W_X3 u) rfl rfl (by with_unfolding_all rfl) rfl rfl ?_
        cases hR
        exact ev_exit ⟨_, _, rfl, ⟨rfl, Or.inl rfl⟩, ⟨rfl, rfl⟩, Nat.le_refl _, Nat.le_refl _⟩
      replace hR := lf_f h8 hR
      by_cases h10 : v2 = 4
      · replace hR := lf_t h10 hR
        refine ev_lit h10 (ev_run [] 1 rfl trivial ?_)
        refine ev_run (cs := []) (pc' := 113) (L' := [some (.ref 0), some (.int v1), some (.int v2)]) (st' := [.int v1, .ref 11]) (w' := W_X3 u) [] 3 (by with_unfolding_all rfl) trivial ?_
        obtain ⟨y2, h11, hR⟩ := lf_b hR
        refine ev_callV1 11 (t_X1_numberFor F (a_X3_rep u) v1 _ h11) cv_X1_numberFor ml_X3_174 rfl rfl rfl (Nat.le_of_ble_eq_true rfl) (by with_unfolding_all rfl) (Nat.le_of_ble_eq_true rfl) ⟨Nat.le_of_ble_eq_true rfl, Nat.le_of_ble_eq_true rfl⟩ ⟨Nat.le_refl _, Nat.le_refl _⟩ ?_ ?_
        · rintro r w ⟨rfl, rfl⟩; rfl
        rintro r w ⟨rfl, rfl⟩
        refine ev_nx (pc' := 116) (st' := [.int y2]) (w' := W_X3 u) rfl rfl (by with_unfolding_all rfl) rfl rfl ?_
        cases hR
        exact ev_exit ⟨_, _, rfl, ⟨rfl, Or.inl rfl⟩, ⟨rfl, rfl⟩, Nat.le_refl _, Nat.le_refl _⟩
      replace hR := lf_f h10 hR
      by_cases h12 : v2 = 5
      · replace hR := lf_t h12 hR
        refine ev_lit h12 (ev_run [] 1 rfl trivial ?_)
        refine ev_run (cs := []) (pc' := 122) (L' := [some (.ref 0), some (.int v1), some (.int v2)]) (st' := [.int v1, .ref 11]) (w' := W_X3 u) [] 3 (by with_unfolding_all rfl) trivial ?_
        obtain ⟨y3, h13, hR⟩ := lf_b hR
        refine ev_callV1 11 (t_X1_sumFor F (a_X3_rep u) v1 _ h13) cv_X1_sumFor ml_X3_117 rfl rfl rfl (Nat.le_of_ble_eq_true rfl) (by with_unfolding_all rfl) (Nat.le_of_ble_eq_true rfl) ⟨Nat.le_of_ble_eq_true rfl, Nat.le_of_ble_eq_true rfl⟩ ⟨Nat.le_refl _, Nat.le_refl _⟩ ?_ ?_
        · rintro r w ⟨rfl, rfl⟩; rfl
        rintro r w ⟨rfl, rfl⟩
        refine ev_nx (pc' := 125) (st' := [.int y3]) (w' := W_X3 u) rfl rfl (by with_unfolding_all rfl) rfl rfl ?_
        cases hR
        exact ev_exit ⟨_, _, rfl, ⟨rfl, Or.inl rfl⟩, ⟨rfl, rfl⟩, Nat.le_refl _, Nat.le_refl _⟩
      replace hR := lf_f h12 hR
      by_cases h14 : v2 = 6
      · replace hR := lf_t h14 hR
        refine ev_lit h14 (ev_run [] 1 rfl trivial ?_)
        refine ev_run (cs := []) (pc' := 134) (L' := [some (.ref 0), some (.int v1), some (.int v2)]) (st' := [.int (((a_X3_suspects u) >>> (v1 &&& 31)) &&& 1)]) (w' := W_X3 u) [] 6 (by with_unfolding_all rfl) trivial ?_
        cases hR
        exact ev_exit ⟨_, _, rfl, ⟨rfl, Or.inl rfl⟩, ⟨rfl, rfl⟩, Nat.le_refl _, Nat.le_refl _⟩
      replace hR := lf_f h14 hR
      by_cases h15 : v2 = 7
      · replace hR := lf_t h15 hR
        refine ev_lit h15 (ev_run [] 1 rfl trivial ?_)
        refine ev_run (cs := []) (pc' := 139) (L' := [some (.ref 0), some (.int v1), some (.int v2)]) (st' := [.ref 9]) (w' := W_X3 u) [] 2 (by with_unfolding_all rfl) trivial ?_
        obtain ⟨y4, h16, hR⟩ := lf_b hR
        refine ev_callV1 9 (t_X0_reached F (a_X3_hold u) _ h16) cv_X0_reached ml_X3_177 rfl rfl rfl (Nat.le_of_ble_eq_true rfl) (by with_unfolding_all rfl) (Nat.le_of_ble_eq_true rfl) ⟨Nat.le_of_ble_eq_true rfl, Nat.le_of_ble_eq_true rfl⟩ ⟨Nat.le_refl _, Nat.le_refl _⟩ ?_ ?_
        · rintro r w ⟨rfl, rfl⟩; rfl
        rintro r w ⟨rfl, rfl⟩
        refine ev_nx (pc' := 142) (st' := [.int y4]) (w' := W_X3 u) rfl rfl (by with_unfolding_all rfl) rfl rfl ?_
        refine ev_run (cs := []) (pc' := 146) (L' := [some (.ref 0), some (.int v1), some (.int v2)]) (st' := [.int ((y4 >>> (v1 &&& 31)) &&& 1)]) (w' := W_X3 u) [] 4 (by with_unfolding_all rfl) trivial ?_
        cases hR
        exact ev_exit ⟨_, _, rfl, ⟨rfl, Or.inl rfl⟩, ⟨rfl, rfl⟩, Nat.le_refl _, Nat.le_refl _⟩
      replace hR := lf_f h15 hR
      by_cases h17 : v2 = 8
      · replace hR := lf_t h17 hR
        refine ev_lit h17 (ev_run [] 1 rfl trivial ?_)
        obtain ⟨h18, hR⟩ := lf_g hR
        refine ev_run (cs := [lf_ix v1 24]) (pc' := 153) (L' := [some (.ref 0), some (.int v1), some (.int v2)]) (st' := [.int ((a_X3_came u) v1.toNatClampNeg)]) (w' := W_X3 u) [] 4 (by with_unfolding_all rfl) (h18) ?_
        cases hR
        exact ev_exit ⟨_, _, rfl, ⟨rfl, Or.inl rfl⟩, ⟨rfl, rfl⟩, Nat.le_refl _, Nat.le_refl _⟩
      replace hR := lf_f h17 hR
      by_cases h19 : v2 = 9
      · replace hR := lf_t h19 hR
        refine ev_lit h19 (ev_run [] 1 rfl trivial ?_)
        obtain ⟨h20, hR⟩ := lf_g hR
        refine ev_run (cs := [lf_ix v1 24]) (pc' := 160) (L' := [some (.ref 0), some (.int v1), some (.int v2)]) (st' := [.int ((a_X3_endNumbers u) v1.toNatClampNeg)]) (w' := W_X3 u) [] 4 (by with_unfolding_all rfl) (h20) ?_
        cases hR
        exact ev_exit ⟨_, _, rfl, ⟨rfl, Or.inl rfl⟩, ⟨rfl, rfl⟩, Nat.le_refl _, Nat.le_refl _⟩
      replace hR := lf_f h19 hR
      by_cases h21 : v2 = 10
      · replace hR := lf_t h21 hR
        refine ev_lit h21 (ev_run [] 1 rfl trivial ?_)
        obtain ⟨h22, hR⟩ := lf_g hR
        refine ev_run (cs := [lf_ix v1 24]) (pc' := 167) (L' := [some (.ref 0), some (.int v1), some (.int v2)]) (st' := [.int ((a_X3_endTimes u) v1.toNatClampNeg)]) (w' := W_X3 u) [] 4 (by with_unfolding_all rfl) (h22) ?_
        cases hR
        exact ev_exit ⟨_, _, rfl, ⟨rfl, Or.inl rfl⟩, ⟨rfl, rfl⟩, Nat.le_refl _, Nat.le_refl _⟩
      replace hR := lf_f h21 hR
      by_cases h23 : v2 = 11
      · replace hR := lf_t h23 hR
        refine ev_lit h23 (ev_run [] 1 rfl trivial ?_)
        obtain ⟨h24, hR⟩ := lf_g hR
        refine ev_run (cs := [lf_ix v1 24]) (pc' := 174) (L' := [some (.ref 0), some (.int v1), some (.int v2)]) (st' := [.int ((a_X3_endKinds u) v1.toNatClampNeg)]) (w' := W_X3 u) [] 4 (by with_unfolding_all rfl) (h24) ?_
        cases hR
        exact ev_exit ⟨_, _, rfl, ⟨rfl, Or.inl rfl⟩, ⟨rfl, rfl⟩, Nat.le_refl _, Nat.le_refl _⟩
      replace hR := lf_f h23 hR
      refine ev_tso 175 rfl ?_ rfl ?_
      · have k0 := lf_nt h3; have k1 := lf_nt h4; have k2 := lf_nt h6; have k3 := lf_nt h8; have k4 := lf_nt h10; have k5 := lf_nt h12; have k6 := lf_nt h14; have k7 := lf_nt h15; have k8 := lf_nt h17; have k9 := lf_nt h19; have k10 := lf_nt h21; have k11 := lf_nt h23; rw [show (0 : Int32).toInt = 0 from rfl] at k0; rw [show (1 : Int32).toInt = 1 from rfl] at k1; rw [show (2 : Int32).toInt = 2 from rfl] at k2; rw [show (3 : Int32).toInt = 3 from rfl] at k3; rw [show (4 : Int32).toInt = 4 from rfl] at k4; rw [show (5 : Int32).toInt = 5 from rfl] at k5; rw [show (6 : Int32).toInt = 6 from rfl] at k6; rw [show (7 : Int32).toInt = 7 from rfl] at k7; rw [show (8 : Int32).toInt = 8 from rfl] at k8; rw [show (9 : Int32).toInt = 9 from rfl] at k9; rw [show (10 : Int32).toInt = 10 from rfl] at k10; rw [show (11 : Int32).toInt = 11 from rfl] at k11; omega
      refine ev_run (cs := []) (pc' := 183) (L' := [some (.ref 0), some (.int v1), some (.int v2)]) (st' := [.int (((a_X3_wronged u) >>> (v1 &&& 31)) &&& 1)]) (w' := W_X3 u) [] 6 (by with_unfolding_all rfl) trivial ?_
      cases hR
      exact ev_exit ⟨_, _, rfl, ⟨rfl, Or.inl rfl⟩, ⟨rfl, rfl⟩, Nat.le_refl _, Nat.le_refl _⟩
    · replace hR := lf_f h2 hR
      refine ev_run (cs := []) (pc' := 11) (L' := [some (.ref 0), some (.int v1), some (.int v2)]) (st' := [.int 0]) (w' := W_X3 u) [] 1 (by with_unfolding_all rfl) trivial ?_
      cases hR
      exact ev_exit ⟨_, _, rfl, ⟨rfl, Or.inl rfl⟩, ⟨rfl, rfl⟩, Nat.le_refl _, Nat.le_refl _⟩

def s_X3_endsInTrials_l4 (F : Nat) (u : S_X3) : Nat → Int32 → Int32 → Option Int32
  | 0 => fun _ _ => none
  | n + 1 => fun v1 v2 => if (a_X3_things u) ≤ v2 then (some (v1)) else (if 24 ≤ v2 then (some (v1)) else (if lf_ix v2 24 then (if ((a_X3_endKinds u) v2.toNatClampNeg) = 2 then (s_X3_endsInTrials_l4 F u n (v1 + 1) (v2 + 1)) else (s_X3_endsInTrials_l4 F u n v1 (v2 + 1))) else none))
theorem e_X3_endsInTrials_l4 (F : Nat) (u : S_X3) (n : Nat) (v1 : Int32) (v2 : Int32) : s_X3_endsInTrials_l4 F u (n + 1) v1 v2 = if (a_X3_things u) ≤ v2 then (some (v1)) else (if 24 ≤ v2 then (some (v1)) else (if lf_ix v2 24 then (if ((a_X3_endKinds u) v2.toNatClampNeg) = 2 then (s_X3_endsInTrials_l4 F u n (v1 + 1) (v2 + 1)) else (s_X3_endsInTrials_l4 F u n v1 (v2 + 1))) else none)) := rfl
set_option maxHeartbeats 4000000 in
set_option maxRecDepth 20000 in
theorem t_X3_endsInTrials_l4 (F : Nat) (u : S_X3) (x : Int32)  : ∀ (n : Nat) (v1 : Int32) (v2 : Int32), s_X3_endsInTrials_l4 F u n v1 v2 = some x → ev_V mm_X3_endsInTrials none (ev_XR mm_X3_endsInTrials (fun r w => r = some (.int x) ∧ w = W_X3 u)) 4 [some (.ref 0), some (.int v1), some (.int v2)] [] (W_X3 u) 0 0 := by
  intro n
  induction n with
  | zero => intro v1 v2 hR; cases hR
  | succ n hk4 =>
    intro v1 v2 hR
    unfold s_X3_endsInTrials_l4 at hR
    refine ev_run (cs := []) (pc' := 9) (L' := [some (.ref 0), some (.int v1), some (.int v2)]) (st' := [.int (a_X3_things u), .int v2]) (w' := W_X3 u) [] 3 (by with_unfolding_all rfl) trivial ?_
    refine ev_br rfl rfl (fun h1 => ?_) (fun h1 => ?_)
    · replace hR := lf_t h1 hR
      refine ev_run (cs := []) (pc' := 38) (L' := [some (.ref 0), some (.int v1), some (.int v2)]) (st' := [.int v1]) (w' := W_X3 u) [] 1 (by with_unfolding_all rfl) trivial ?_
      cases hR
      exact ev_exit ⟨_, _, rfl, ⟨rfl, Or.inl rfl⟩, ⟨rfl, rfl⟩, Nat.le_refl _, Nat.le_refl _⟩
    · replace hR := lf_f h1 hR
      refine ev_run (cs := []) (pc' := 15) (L' := [some (.ref 0), some (.int v1), some (.int v2)]) (st' := [.int 24, .int v2]) (w' := W_X3 u) [] 2 (by with_unfolding_all rfl) trivial ?_
      refine ev_br rfl rfl (fun h2 => ?_) (fun h2 => ?_)
      · replace hR := lf_t h2 hR
        refine ev_run (cs := []) (pc' := 38) (L' := [some (.ref 0), some (.int v1), some (.int v2)]) (st' := [.int v1]) (w' := W_X3 u) [] 1 (by with_unfolding_all rfl) trivial ?_
        cases hR
        exact ev_exit ⟨_, _, rfl, ⟨rfl, Or.inl rfl⟩, ⟨rfl, rfl⟩, Nat.le_refl _, Nat.le_refl _⟩
      · replace hR := lf_f h2 hR
        obtain ⟨h3, hR⟩ := lf_g hR
        refine ev_run (cs := [lf_ix v2 24]) (pc' := 25) (L' := [some (.ref 0), some (.int v1), some (.int v2)]) (st' := [.int 2, .int ((a_X3_endKinds u) v2.toNatClampNeg)]) (w' := W_X3 u) [] 5 (by with_unfolding_all rfl) (h3) ?_
        refine ev_br rfl rfl (fun h4 => ?_) (fun h4 => ?_)
        · replace hR := lf_f h4 hR
          refine ev_run (cs := []) (pc' := 4) (L' := [some (.ref 0), some (.int v1), some (.int (v2 + 1))]) (st' := []) (w' := W_X3 u) [] 2 (by with_unfolding_all rfl) trivial ?_
          exact ev_to2 (hk4 _ _ hR) ⟨rfl, rfl, rfl, trivial⟩ rfl rfl
        · replace hR := lf_t h4 hR
          refine ev_run (cs := []) (pc' := 4) (L' := [some (.ref 0), some (.int (v1 + 1)), some (.int (v2 + 1))]) (st' := []) (w' := W_X3 u) [] 3 (by with_unfolding_all rfl) trivial ?_
          exact ev_to2 (hk4 _ _ hR) ⟨rfl, rfl, rfl, trivial⟩ rfl rfl

def s_X3_endsInTrials (F : Nat) (u : S_X3) : Option Int32 := s_X3_endsInTrials_l4 F u F 0 0
set_option maxHeartbeats 4000000 in
set_option maxRecDepth 20000 in
theorem t_X3_endsInTrials (F : Nat) (u : S_X3) (x : Int32) (hR : s_X3_endsInTrials F u = some x) : ev_A yX3_endsInTrials mm_X3_endsInTrials none [.ref 0] (W_X3 u) (fun r w => r = some (.int x) ∧ w = W_X3 u) := by
  unfold s_X3_endsInTrials at hR
  refine ev_start ok_X3_endsInTrials (by decide +kernel) rfl rfl (Nat.le_of_ble_eq_true rfl) ?_
  refine ev_run (cs := []) (pc' := 4) (L' := [some (.ref 0), some (.int 0), some (.int 0)]) (st' := []) (w' := W_X3 u) [] 4 (by with_unfolding_all rfl) trivial ?_
  exact ev_to2 (t_X3_endsInTrials_l4 F u _ F 0 0 hR) ⟨rfl, rfl, rfl, trivial⟩ rfl rfl

def s_X3_wrongCounts_l4 (F : Nat) (u : S_X3) : Nat → Int32 → Int32 → Option Int32
  | 0 => fun _ _ => none
  | n + 1 => fun v1 v2 => if 24 ≤ v2 then (some (v1)) else ((s_X3_lives F u v2).bind fun y1 => (if y1 then ((s_X3_isWrong F u v2).bind fun y2 => (if y2 then (s_X3_wrongCounts_l4 F u n (v1 + 1) (v2 + 1)) else (s_X3_wrongCounts_l4 F u n v1 (v2 + 1)))) else (s_X3_wrongCounts_l4 F u n v1 (v2 + 1))))
theorem e_X3_wrongCounts_l4 (F : Nat) (u : S_X3) (n : Nat) (v1 : Int32) (v2 : Int32) : s_X3_wrongCounts_l4 F u (n + 1) v1 v2 = if 24 ≤ v2 then (some (v1)) else ((s_X3_lives F u v2).bind fun y1 => (if y1 then ((s_X3_isWrong F u v2).bind fun y2 => (if y2 then (s_X3_wrongCounts_l4 F u n (v1 + 1) (v2 + 1)) else (s_X3_wrongCounts_l4 F u n v1 (v2 + 1)))) else (s_X3_wrongCounts_l4 F u n v1 (v2 + 1)))) := rfl
set_option maxHeartbeats 4000000 in
set_option maxRecDepth 20000 in
theorem t_X3_wrongCounts_l4 (F : Nat) (u : S_X3) (x : Int32)  : ∀ (n : Nat) (v1 : Int32) (v2 : Int32), s_X3_wrongCounts_l4 F u n v1 v2 = some x → ev_V mm_X3_wrongCounts none (ev_XR mm_X3_wrongCounts (fun r w => r = some (.int x) ∧ w = W_X3 u)) 4 [some (.ref 0), some (.int v1), some (.int v2)] [] (W_X3 u) 0 0 := by
  intro n
  induction n with
  | zero => intro v1 v2 hR; cases hR
  | succ n hk4 =>
    intro v1 v2 hR
    unfold s_X3_wrongCounts_l4 at hR
    refine ev_run (cs := []) (pc' := 7) (L' := [some (.ref 0), some (.int v1), some (.int v2)]) (st' := [.int 24, .int v2]) (w' := W_X3 u) [] 2 (by with_unfolding_all rfl) trivial ?_
    refine ev_br rfl rfl (fun h1 => ?_) (fun h1 => ?_)
    · replace hR := lf_t h1 hR
      refine ev_run (cs := []) (pc' := 36) (L' := [some (.ref 0), some (.int v1), some (.int v2)]) (st' := [.int v1]) (w' := W_X3 u) [] 1 (by with_unfolding_all rfl) trivial ?_
      cases hR
      exact ev_exit ⟨_, _, rfl, ⟨rfl, Or.inl rfl⟩, ⟨rfl, rfl⟩, Nat.le_refl _, Nat.le_refl _⟩
    · replace hR := lf_f h1 hR
      refine ev_run (cs := []) (pc' := 12) (L' := [some (.ref 0), some (.int v1), some (.int v2)]) (st' := [.int v2, .ref 0]) (w' := W_X3 u) [] 2 (by with_unfolding_all rfl) trivial ?_
      obtain ⟨y1, h2, hR⟩ := lf_b hR
      refine ev_callV1 0 (t_X3_lives F u v2 _ h2) cv_X3_lives ml_X3_89 rfl rfl rfl (Nat.le_of_ble_eq_true rfl) (by with_unfolding_all rfl) (Nat.le_of_ble_eq_true rfl) ⟨Nat.le_of_ble_eq_true rfl, Nat.le_of_ble_eq_true rfl⟩ ⟨Nat.le_refl _, Nat.le_refl _⟩ ?_ ?_
      · rintro r w ⟨rfl, rfl⟩; rfl
      rintro r w ⟨rfl, rfl⟩
      refine ev_nx (pc' := 15) (st' := [.int (ev_b y1)]) (w' := W_X3 u) rfl rfl (by with_unfolding_all rfl) rfl rfl ?_
      refine ev_br rfl rfl (fun h3 => ?_) (fun h3 => ?_)
      · replace hR := lf_z0 h3 hR
        refine ev_run (cs := []) (pc' := 4) (L' := [some (.ref 0), some (.int v1), some (.int (v2 + 1))]) (st' := []) (w' := W_X3 u) [] 2 (by with_unfolding_all rfl) trivial ?_
        exact ev_to2 (hk4 _ _ hR) ⟨rfl, rfl, rfl, trivial⟩ rfl rfl
      · replace hR := lf_z1 h3 hR
        refine ev_run (cs := []) (pc' := 20) (L' := [some (.ref 0), some (.int v1), some (.int v2)]) (st' := [.int v2, .ref 0]) (w' := W_X3 u) [] 2 (by with_unfolding_all rfl) trivial ?_
        obtain ⟨y2, h4, hR⟩ := lf_b hR
        refine ev_callV1 0 (t_X3_isWrong F u v2 _ h4) cv_X3_isWrong ml_X3_111 rfl rfl rfl (Nat.le_of_ble_eq_true rfl) (by with_unfolding_all rfl) (Nat.le_of_ble_eq_true rfl) ⟨Nat.le_of_ble_eq_true rfl, Nat.le_of_ble_eq_true rfl⟩ ⟨Nat.le_refl _, Nat.le_refl _⟩ ?_ ?_
        · rintro r w ⟨rfl, rfl⟩; rfl
        rintro r w ⟨rfl, rfl⟩
        refine ev_nx (pc' := 23) (st' := [.int (ev_b y2)]) (w' := W_X3 u) rfl rfl (by with_unfolding_all rfl) rfl rfl ?_
        refine ev_br rfl rfl (fun h5 => ?_) (fun h5 => ?_)
        · replace hR := lf_z0 h5 hR
          refine ev_run (cs := []) (pc' := 4) (L' := [some (.ref 0), some (.int v1), some (.int (v2 + 1))]) (st' := []) (w' := W_X3 u) [] 2 (by with_unfolding_all rfl) trivial ?_
          exact ev_to2 (hk4 _ _ hR) ⟨rfl, rfl, rfl, trivial⟩ rfl rfl
        · replace hR := lf_z1 h5 hR
          refine ev_run (cs := []) (pc' := 4) (L' := [some (.ref 0), some (.int (v1 + 1)), some (.int (v2 + 1))]) (st' := []) (w' := W_X3 u) [] 3 (by with_unfolding_all rfl) trivial ?_
          exact ev_to2 (hk4 _ _ hR) ⟨rfl, rfl, rfl, trivial⟩ rfl rfl

def s_X3_wrongCounts (F : Nat) (u : S_X3) : Option Int32 := s_X3_wrongCounts_l4 F u F 0 0
set_option maxHeartbeats 4000000 in
set_option maxRecDepth 20000 in
theorem t_X3_wrongCounts (F : Nat) (u : S_X3) (x : Int32) (hR : s_X3_wrongCounts F u = some x) : ev_A yX3_wrongCounts mm_X3_wrongCounts none [.ref 0] (W_X3 u) (fun r w => r = some (.int x) ∧ w = W_X3 u) := by
  unfold s_X3_wrongCounts at hR
  refine ev_start ok_X3_wrongCounts (by decide +kernel) rfl rfl (Nat.le_of_ble_eq_true rfl) ?_
  refine ev_run (cs := []) (pc' := 4) (L' := [some (.ref 0), some (.int 0), some (.int 0)]) (st' := []) (w' := W_X3 u) [] 4 (by with_unfolding_all rfl) trivial ?_
  exact ev_to2 (t_X3_wrongCounts_l4 F u _ F 0 0 hR) ⟨rfl, rfl, rfl, trivial⟩ rfl rfl

def s_X3_total (F : Nat) (u : S_X3) (v1 : Int32) : Option Int32 := if v1 = 0 then (some (a_X3_time u)) else (if v1 = 1 then (some (a_X3_things u)) else (if v1 = 2 then (some (jd_bc (a_X3_living u))) else (if v1 = 3 then ((s_X0_reached F (a_X3_hold u)).bind fun y1 => (some (jd_bc y1))) else (if v1 = 4 then (some (jd_bc (a_X3_suspects u))) else (if v1 = 5 then ((s_X1_underWay F (a_X3_rep u)).bind fun y2 => (some (y2))) else (if v1 = 6 then (some (a_X1_made (a_X3_rep u))) else (if v1 = 7 then (some (a_X3_ends u)) else (if v1 = 8 then ((s_X3_endsInTrials F u).bind fun y3 => (some (y3))) else (if v1 = 9 then (some (jd_bc (a_X3_wronged u))) else (if v1 = 10 then (some (a_X3_slanderFound u)) else (if v1 = 11 then ((s_X0_taken F (a_X3_hold u)).bind fun y4 => (some (y4))) else ((s_X3_wrongCounts F u).bind fun y5 => (some (y5))))))))))))))
set_option maxHeartbeats 4000000 in
set_option maxRecDepth 20000 in
theorem t_X3_total (F : Nat) (u : S_X3) (v1 : Int32) (x : Int32) (hR : s_X3_total F u v1 = some x) : ev_A yX3_total mm_X3_total none [.ref 0, .int v1] (W_X3 u) (fun r w => r = some (.int x) ∧ w = W_X3 u) := by
  unfold s_X3_total at hR
  refine ev_start ok_X3_total (by decide +kernel) rfl rfl (Nat.le_of_ble_eq_true rfl) ?_
  refine ev_run (cs := []) (pc' := 1) (L' := [some (.ref 0), some (.int v1)]) (st' := [.int v1]) (w' := W_X3 u) [] 1 (by with_unfolding_all rfl) trivial ?_
  by_cases h1 : v1 = 0
  · replace hR := lf_t h1 hR
    refine ev_lit h1 (ev_run [] 1 rfl trivial ?_)
    refine ev_run (cs := []) (pc' := 68) (L' := [some (.ref 0), some (.int v1)]) (st' := [.int (a_X3_time u)]) (w' := W_X3 u) [] 2 (by with_unfolding_all rfl) trivial ?_
    cases hR
    exact ev_exit ⟨_, _, rfl, ⟨rfl, Or.inl rfl⟩, ⟨rfl, rfl⟩, Nat.le_refl _, Nat.le_refl _⟩
  replace hR := lf_f h1 hR
  by_cases h2 : v1 = 1
  · replace hR := lf_t h2 hR
    refine ev_lit h2 (ev_run [] 1 rfl trivial ?_)
    refine ev_run (cs := []) (pc' := 73) (L' := [some (.ref 0), some (.int v1)]) (st' := [.int (a_X3_things u)]) (w' := W_X3 u) [] 2 (by with_unfolding_all rfl) trivial ?_
    cases hR
    exact ev_exit ⟨_, _, rfl, ⟨rfl, Or.inl rfl⟩, ⟨rfl, rfl⟩, Nat.le_refl _, Nat.le_refl _⟩
  replace hR := lf_f h2 hR
  by_cases h3 : v1 = 2
  · replace hR := lf_t h3 hR
    refine ev_lit h3 (ev_run [] 1 rfl trivial ?_)
    refine ev_run (cs := []) (pc' := 78) (L' := [some (.ref 0), some (.int v1)]) (st' := [.int (a_X3_living u)]) (w' := W_X3 u) [] 2 (by with_unfolding_all rfl) trivial ?_
    refine ev_callS1 0 (t_J6_bitCount_0f7a4 (a_X3_living u)) cs_J6_bitCount_0f7a4 ml_X3_180 rfl rfl rfl (Nat.le_of_ble_eq_true rfl) (by with_unfolding_all rfl) (Nat.le_of_ble_eq_true rfl) ⟨Nat.le_of_ble_eq_true rfl, Nat.le_of_ble_eq_true rfl⟩ ⟨Nat.le_refl _, Nat.le_refl _⟩ ?_ ?_
    · rintro r w ⟨rfl, rfl⟩; rfl
    rintro r w ⟨rfl, rfl⟩
    refine ev_nx (pc' := 81) (st' := [.int (jd_bc (a_X3_living u))]) (w' := W_X3 u) rfl rfl (by with_unfolding_all rfl) rfl rfl ?_
    cases hR
    exact ev_exit ⟨_, _, rfl, ⟨rfl, Or.inl rfl⟩, ⟨rfl, rfl⟩, Nat.le_refl _, Nat.le_refl _⟩
  replace hR := lf_f h3 hR
  by_cases h4 : v1 = 3
  · replace hR := lf_t h4 hR
    refine ev_lit h4 (ev_run [] 1 rfl trivial ?_)
    refine ev_run (cs := []) (pc' := 86) (L' := [some (.ref 0), some (.int v1)]) (st' := [.ref 9]) (w' := W_X3 u) [] 2 (by with_unfolding_all rfl) trivial ?_
    obtain ⟨y1, h5, hR⟩ := lf_b hR
    refine ev_callV1 9 (t_X0_reached F (a_X3_hold u) _ h5) cv_X0_reached ml_X3_177 rfl rfl rfl (Nat.le_of_ble_eq_true rfl) (by with_unfolding_all rfl) (Nat.le_of_ble_eq_true rfl) ⟨Nat.le_of_ble_eq_true rfl, Nat.le_of_ble_eq_true rfl⟩ ⟨Nat.le_refl _, Nat.le_refl _⟩ ?_ ?_
    · rintro r w ⟨rfl, rfl⟩; rfl
    rintro r w ⟨rfl, rfl⟩
    refine ev_nx (pc' := 89) (st' := [.int y1]) (w' := W_X3 u) rfl rfl (by with_unfolding_all rfl) rfl rfl ?_
    refine ev_callS1 0 (t_J6_bitCount_0f7a4 y1) cs_J6_bitCount_0f7a4 ml_X3_180 rfl rfl rfl (Nat.le_of_ble_eq_true rfl) (by with_unfolding_all rfl) (Nat.le_of_ble_eq_true rfl) ⟨Nat.le_of_ble_eq_true rfl, Nat.le_of_ble_eq_true rfl⟩ ⟨Nat.le_refl _, Nat.le_refl _⟩ ?_ ?_
    · rintro r w ⟨rfl, rfl⟩; rfl
    rintro r w ⟨rfl, rfl⟩
    refine ev_nx (pc' := 92) (st' := [.int (jd_bc y1)]) (w' := W_X3 u) rfl rfl (by with_unfolding_all rfl) rfl rfl ?_
    cases hR
    exact ev_exit ⟨_, _, rfl, ⟨rfl, Or.inl rfl⟩, ⟨rfl, rfl⟩, Nat.le_refl _, Nat.le_refl _⟩
  replace hR := lf_f h4 hR
  by_cases h6 : v1 = 4
  · replace hR := lf_t h6 hR
    refine ev_lit h6 (ev_run [] 1 rfl trivial ?_)
    refine ev_run (cs := []) (pc' := 97) (L' := [some (.ref 0), some (.int v1)]) (st' := [.int (a_X3_suspects u)]) (w' := W_X3 u) [] 2 (by with_unfolding_all rfl) trivial ?_
    refine ev_callS1 0 (t_J6_bitCount_0f7a4 (a_X3_suspects u)) cs_J6_bitCount_0f7a4 ml_X3_180 rfl rfl rfl (Nat.le_of_ble_eq_true rfl) (by with_unfolding_all rfl) (Nat.le_of_ble_eq_true rfl) ⟨Nat.le_of_ble_eq_true rfl, Nat.le_of_ble_eq_true rfl⟩ ⟨Nat.le_refl _, Nat.le_refl _⟩ ?_ ?_
    · rintro r w ⟨rfl, rfl⟩; rfl
    rintro r w ⟨rfl, rfl⟩
    refine ev_nx (pc' := 100) (st' := [.int (jd_bc (a_X3_suspects u))]) (w' := W_X3 u) rfl rfl (by with_unfolding_all rfl) rfl rfl ?_
    cases hR
    exact ev_exit ⟨_, _, rfl, ⟨rfl, Or.inl rfl⟩, ⟨rfl, rfl⟩, Nat.le_refl _, Nat.le_refl _⟩
  replace hR := lf_f h6 hR
  by_cases h7 : v1 = 5
  · replace hR := lf_t h7 hR
    refine ev_lit h7 (ev_run [] 1 rfl trivial ?_)
    refine ev_run (cs := []) (pc' := 105) (L' := [some (.ref 0), some (.int v1)]) (st' := [.ref 11]) (w' := W_X3 u) [] 2 (by with_unfolding_all rfl) trivial ?_
    obtain ⟨y2, h8, hR⟩ := lf_b hR
    refine ev_callV1 11 (t_X1_underWay F (a_X3_rep u) _ h8) cv_X1_underWay ml_X3_185 rfl rfl rfl (Nat.le_of_ble_eq_true rfl) (by with_unfolding_all rfl) (Nat.le_of_ble_eq_true rfl) ⟨Nat.le_of_ble_eq_true rfl, Nat.le_of_ble_eq_true rfl⟩ ⟨Nat.le_refl _, Nat.le_refl _⟩ ?_ ?_
    · rintro r w ⟨rfl, rfl⟩; rfl
    rintro r w ⟨rfl, rfl⟩
    refine ev_nx (pc' := 108) (st' := [.int y2]) (w' := W_X3 u) rfl rfl (by with_unfolding_all rfl) rfl rfl ?_
    cases hR
    exact ev_exit ⟨_, _, rfl, ⟨rfl, Or.inl rfl⟩, ⟨rfl, rfl⟩, Nat.le_refl _, Nat.le_refl _⟩
  replace hR := lf_f h7 hR
  by_cases h9 : v1 = 6
  · replace hR := lf_t h9 hR
    refine ev_lit h9 (ev_run [] 1 rfl trivial ?_)
    refine ev_run (cs := []) (pc' := 116) (L' := [some (.ref 0), some (.int v1)]) (st' := [.int (a_X1_made (a_X3_rep u))]) (w' := W_X3 u) [] 3 (by with_unfolding_all rfl) trivial ?_
    cases hR
    exact ev_exit ⟨_, _, rfl, ⟨rfl, Or.inl rfl⟩, ⟨rfl, rfl⟩, Nat.le_refl _, Nat.le_refl _⟩
  replace hR := lf_f h9 hR
  by_cases h10 : v1 = 7
  · replace hR := lf_t h10 hR
    refine ev_lit h10 (ev_run [] 1 rfl trivial ?_)
    refine ev_run (cs := []) (pc' := 121) (L' := [some (.ref 0), some (.int v1)]) (st' := [.int (a_X3_ends u)]) (w' := W_X3 u) [] 2 (by with_unfolding_all rfl) trivial ?_
    cases hR
    exact ev_exit ⟨_, _, rfl, ⟨rfl, Or.inl rfl⟩, ⟨rfl, rfl⟩, Nat.le_refl _, Nat.le_refl _⟩
  replace hR := lf_f h10 hR
  by_cases h11 : v1 = 8
  · replace hR := lf_t h11 hR
    refine ev_lit h11 (ev_run [] 1 rfl trivial ?_)
    refine ev_run (cs := []) (pc' := 123) (L' := [some (.ref 0), some (.int v1)]) (st' := [.ref 0]) (w' := W_X3 u) [] 1 (by with_unfolding_all rfl) trivial ?_
    obtain ⟨y3, h12, hR⟩ := lf_b hR
    refine ev_callV1 0 (t_X3_endsInTrials F u _ h12) cv_X3_endsInTrials ml_X3_191 rfl rfl rfl (Nat.le_of_ble_eq_true rfl) (by with_unfolding_all rfl) (Nat.le_of_ble_eq_true rfl) ⟨Nat.le_of_ble_eq_true rfl, Nat.le_of_ble_eq_true rfl⟩ ⟨Nat.le_refl _, Nat.le_refl _⟩ ?_ ?_
    · rintro r w ⟨rfl, rfl⟩; rfl
    rintro r w ⟨rfl, rfl⟩
    refine ev_nx (pc' := 126) (st' := [.int y3]) (w' := W_X3 u) rfl rfl (by with_unfolding_all rfl) rfl rfl ?_
    cases hR
    exact ev_exit ⟨_, _, rfl, ⟨rfl, Or.inl rfl⟩, ⟨rfl, rfl⟩, Nat.le_refl _, Nat.le_refl _⟩
  replace hR := lf_f h11 hR
  by_cases h13 : v1 = 9
  · replace hR := lf_t h13 hR
    refine ev_lit h13 (ev_run [] 1 rfl trivial ?_)
    refine ev_run (cs := []) (pc' := 131) (L' := [some (.ref 0), some (.int v1)]) (st' := [.int (a_X3_wronged u)]) (w' := W_X3 u) [] 2 (by with_unfolding_all rfl) trivial ?_
    refine ev_callS1 0 (t_J6_bitCount_0f7a4 (a_X3_wronged u)) cs_J6_bitCount_0f7a4 ml_X3_180 rfl rfl rfl (Nat.le_of_ble_eq_true rfl) (by with_unfolding_all rfl) (Nat.le_of_ble_eq_true rfl) ⟨Nat.le_of_ble_eq_true rfl, Nat.le_of_ble_eq_true rfl⟩ ⟨Nat.le_refl _, Nat.le_refl _⟩ ?_ ?_
    · rintro r w ⟨rfl, rfl⟩; rfl
    rintro r w ⟨rfl, rfl⟩
    refine ev_nx (pc' := 134) (st' := [.int (jd_bc (a_X3_wronged u))]) (w' := W_X3 u) rfl rfl (by with_unfolding_all rfl) rfl rfl ?_
    cases hR
    exact ev_exit ⟨_, _, rfl, ⟨rfl, Or.inl rfl⟩, ⟨rfl, rfl⟩, Nat.le_refl _, Nat.le_refl _⟩
  replace hR := lf_f h13 hR
  by_cases h14 : v1 = 10
  · replace hR := lf_t h14 hR
    refine ev_lit h14 (ev_run [] 1 rfl trivial ?_)
    refine ev_run (cs := []) (pc' := 139) (L' := [some (.ref 0), some (.int v1)]) (st' := [.int (a_X3_slanderFound u)]) (w' := W_X3 u) [] 2 (by with_unfolding_all rfl) trivial ?_
    cases hR
    exact ev_exit ⟨_, _, rfl, ⟨rfl, Or.inl rfl⟩, ⟨rfl, rfl⟩, Nat.le_refl _, Nat.le_refl _⟩
  replace hR := lf_f h14 hR
  by_cases h15 : v1 = 11
  · replace hR := lf_t h15 hR
    refine ev_lit h15 (ev_run [] 1 rfl trivial ?_)
    refine ev_run (cs := []) (pc' := 144) (L' := [some (.ref 0), some (.int v1)]) (st' := [.ref 9]) (w' := W_X3 u) [] 2 (by with_unfolding_all rfl) trivial ?_
    obtain ⟨y4, h16, hR⟩ := lf_b hR
    refine ev_callV1 9 (t_X0_taken F (a_X3_hold u) _ h16) cv_X0_taken ml_X3_194 rfl rfl rfl (Nat.le_of_ble_eq_true rfl) (by with_unfolding_all rfl) (Nat.le_of_ble_eq_true rfl) ⟨Nat.le_of_ble_eq_true rfl, Nat.le_of_ble_eq_true rfl⟩ ⟨Nat.le_refl _, Nat.le_refl _⟩ ?_ ?_
    · rintro r w ⟨rfl, rfl⟩; rfl
    rintro r w ⟨rfl, rfl⟩
    refine ev_nx (pc' := 147) (st' := [.int y4]) (w' := W_X3 u) rfl rfl (by with_unfolding_all rfl) rfl rfl ?_
    cases hR
    exact ev_exit ⟨_, _, rfl, ⟨rfl, Or.inl rfl⟩, ⟨rfl, rfl⟩, Nat.le_refl _, Nat.le_refl _⟩
  replace hR := lf_f h15 hR
  refine ev_tso 148 rfl ?_ rfl ?_
  · have k0 := lf_nt h1; have k1 := lf_nt h2; have k2 := lf_nt h3; have k3 := lf_nt h4; have k4 := lf_nt h6; have k5 := lf_nt h7; have k6 := lf_nt h9; have k7 := lf_nt h10; have k8 := lf_nt h11; have k9 := lf_nt h13; have k10 := lf_nt h14; have k11 := lf_nt h15; rw [show (0 : Int32).toInt = 0 from rfl] at k0; rw [show (1 : Int32).toInt = 1 from rfl] at k1; rw [show (2 : Int32).toInt = 2 from rfl] at k2; rw [show (3 : Int32).toInt = 3 from rfl] at k3; rw [show (4 : Int32).toInt = 4 from rfl] at k4; rw [show (5 : Int32).toInt = 5 from rfl] at k5; rw [show (6 : Int32).toInt = 6 from rfl] at k6; rw [show (7 : Int32).toInt = 7 from rfl] at k7; rw [show (8 : Int32).toInt = 8 from rfl] at k8; rw [show (9 : Int32).toInt = 9 from rfl] at k9; rw [show (10 : Int32).toInt = 10 from rfl] at k10; rw [show (11 : Int32).toInt = 11 from rfl] at k11; omega
  refine ev_run (cs := []) (pc' := 149) (L' := [some (.ref 0), some (.int v1)]) (st' := [.ref 0]) (w' := W_X3 u) [] 1 (by with_unfolding_all rfl) trivial ?_
  obtain ⟨y5, h17, hR⟩ := lf_b hR
  refine ev_callV1 0 (t_X3_wrongCounts F u _ h17) cv_X3_wrongCounts ml_X3_197 rfl rfl rfl (Nat.le_of_ble_eq_true rfl) (by with_unfolding_all rfl) (Nat.le_of_ble_eq_true rfl) ⟨Nat.le_of_ble_eq_true rfl, Nat.le_of_ble_eq_true rfl⟩ ⟨Nat.le_refl _, Nat.le_refl _⟩ ?_ ?_
  · rintro r w ⟨rfl, rfl⟩; rfl
  rintro r w ⟨rfl, rfl⟩
  refine ev_nx (pc' := 152) (st' := [.int y5]) (w' := W_X3 u) rfl rfl (by with_unfolding_all rfl) rfl rfl ?_
  cases hR
  exact ev_exit ⟨_, _, rfl, ⟨rfl, Or.inl rfl⟩, ⟨rfl, rfl⟩, Nat.le_refl _, Nat.le_refl _⟩

