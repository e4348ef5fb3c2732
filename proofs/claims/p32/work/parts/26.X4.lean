def s_X4_foreseenEnd (F : Nat) (u : S_X4) (v1 : Int32) : Option Int32 := (s_X3_lives F (a_X4_now u) v1).bind fun y1 => (if y1 then ((s_X3_lives F (a_X4_ahead u) v1).bind fun y2 => (if y2 then (some ((-1))) else (if lf_ix v1 24 then (some (((a_X3_endTimes (a_X4_ahead u)) v1.toNatClampNeg) - (a_X3_time (a_X4_now u)))) else none))) else (some (0)))
set_option maxHeartbeats 4000000 in
set_option maxRecDepth 20000 in
theorem t_X4_foreseenEnd (F : Nat) (u : S_X4) (v1 : Int32) (x : Int32) (hR : s_X4_foreseenEnd F u v1 = some x) : ev_A yX4_foreseenEnd mm_X4_foreseenEnd none [.ref 0, .int v1] (W_X4 u) (fun r w => r = some (.int x) ∧ w = W_X4 u) := by
  unfold s_X4_foreseenEnd at hR
  refine ev_start ok_X4_foreseenEnd (by decide +kernel) rfl rfl (Nat.le_of_ble_eq_true rfl) ?_
  refine ev_run (cs := []) (pc' := 5) (L' := [some (.ref 0), some (.int v1)]) (st' := [.int v1, .ref 1]) (w' := W_X4 u) [] 3 (by with_unfolding_all rfl) trivial ?_
  obtain ⟨y1, h1, hR⟩ := lf_b hR
  refine ev_callV1 1 (t_X3_lives F (a_X4_now u) v1 _ h1) cv_X3_lives ml_X4_85 rfl rfl rfl (Nat.le_of_ble_eq_true rfl) (by with_unfolding_all rfl) (Nat.le_of_ble_eq_true rfl) ⟨Nat.le_of_ble_eq_true rfl, Nat.le_of_ble_eq_true rfl⟩ ⟨Nat.le_refl _, Nat.le_refl _⟩ ?_ ?_
  · rintro r w ⟨rfl, rfl⟩; rfl
  rintro r w ⟨rfl, rfl⟩
  refine ev_nx (pc' := 8) (st' := [.int (ev_b y1)]) (w' := W_X4 u) rfl rfl (by with_unfolding_all rfl) rfl rfl ?_
  refine ev_br rfl rfl (fun h2 => ?_) (fun h2 => ?_)
  · replace hR := lf_z1 h2 hR
    refine ev_run (cs := []) (pc' := 18) (L' := [some (.ref 0), some (.int v1)]) (st' := [.int v1, .ref 16]) (w' := W_X4 u) [] 3 (by with_unfolding_all rfl) trivial ?_
    obtain ⟨y2, h3, hR⟩ := lf_b hR
    refine ev_callV1 16 (t_X3_lives F (a_X4_ahead u) v1 _ h3) cv_X3_lives ml_X4_85 rfl rfl rfl (Nat.le_of_ble_eq_true rfl) (by with_unfolding_all rfl) (Nat.le_of_ble_eq_true rfl) ⟨Nat.le_of_ble_eq_true rfl, Nat.le_of_ble_eq_true rfl⟩ ⟨Nat.le_refl _, Nat.le_refl _⟩ ?_ ?_
    · rintro r w ⟨rfl, rfl⟩; rfl
    rintro r w ⟨rfl, rfl⟩
    refine ev_nx (pc' := 21) (st' := [.int (ev_b y2)]) (w' := W_X4 u) rfl rfl (by with_unfolding_all rfl) rfl rfl ?_
    refine ev_br rfl rfl (fun h4 => ?_) (fun h4 => ?_)
    · replace hR := lf_z0 h4 hR
      obtain ⟨h5, hR⟩ := lf_g hR
      refine ev_run (cs := [lf_ix v1 24]) (pc' := 45) (L' := [some (.ref 0), some (.int v1)]) (st' := [.int (((a_X3_endTimes (a_X4_ahead u)) v1.toNatClampNeg) - (a_X3_time (a_X4_now u)))]) (w' := W_X4 u) [] 9 (by with_unfolding_all rfl) (h5) ?_
      cases hR
      exact ev_exit ⟨_, _, rfl, ⟨rfl, Or.inl rfl⟩, ⟨rfl, rfl⟩, Nat.le_refl _, Nat.le_refl _⟩
    · replace hR := lf_z1 h4 hR
      refine ev_run (cs := []) (pc' := 45) (L' := [some (.ref 0), some (.int v1)]) (st' := [.int (-1)]) (w' := W_X4 u) [] 2 (by with_unfolding_all rfl) trivial ?_
      cases hR
      exact ev_exit ⟨_, _, rfl, ⟨rfl, Or.inl rfl⟩, ⟨rfl, rfl⟩, Nat.le_refl _, Nat.le_refl _⟩
  · replace hR := lf_z0 h2 hR
    refine ev_run (cs := []) (pc' := 12) (L' := [some (.ref 0), some (.int v1)]) (st' := [.int 0]) (w' := W_X4 u) [] 1 (by with_unfolding_all rfl) trivial ?_
    cases hR
    exact ev_exit ⟨_, _, rfl, ⟨rfl, Or.inl rfl⟩, ⟨rfl, rfl⟩, Nat.le_refl _, Nat.le_refl _⟩

def s_X4_passedPart (F : Nat) (u : S_X4) (v1 : Int32) : Option Int32 := if v1 = 0 then (some ((a_X3_ends (a_X4_ahead u)) - (a_X3_ends (a_X4_now u)))) else (if v1 = 1 then (some ((jd_bc (a_X3_wronged (a_X4_ahead u))) - (jd_bc (a_X3_wronged (a_X4_now u))))) else (if v1 = 2 then ((s_X1_underWay F (a_X3_rep (a_X4_ahead u))).bind fun y1 => (some (y1))) else ((s_X0_reached F (a_X3_hold (a_X4_ahead u))).bind fun y2 => (some (jd_bc ((a_X3_living (a_X4_ahead u)) &&& (y2 ^^^ (-1))))))))
set_option maxHeartbeats 4000000 in
set_option maxRecDepth 20000 in
theorem t_X4_passedPart (F : Nat) (u : S_X4) (v1 : Int32) (x : Int32) (hR : s_X4_passedPart F u v1 = some x) : ev_A yX4_passedPart mm_X4_passedPart none [.ref 0, .int v1] (W_X4 u) (fun r w => r = some (.int x) ∧ w = W_X4 u) := by
  unfold s_X4_passedPart at hR
  refine ev_start ok_X4_passedPart (by decide +kernel) rfl rfl (Nat.le_of_ble_eq_true rfl) ?_
  refine ev_run (cs := []) (pc' := 1) (L' := [some (.ref 0), some (.int v1)]) (st' := [.int v1]) (w' := W_X4 u) [] 1 (by with_unfolding_all rfl) trivial ?_
  by_cases h1 : v1 = 0
  · replace hR := lf_t h1 hR
    refine ev_lit h1 (ev_run [] 1 rfl trivial ?_)
    refine ev_run (cs := []) (pc' := 43) (L' := [some (.ref 0), some (.int v1)]) (st' := [.int ((a_X3_ends (a_X4_ahead u)) - (a_X3_ends (a_X4_now u)))]) (w' := W_X4 u) [] 7 (by with_unfolding_all rfl) trivial ?_
    cases hR
    exact ev_exit ⟨_, _, rfl, ⟨rfl, Or.inl rfl⟩, ⟨rfl, rfl⟩, Nat.le_refl _, Nat.le_refl _⟩
  replace hR := lf_f h1 hR
  by_cases h2 : v1 = 1
  · replace hR := lf_t h2 hR
    refine ev_lit h2 (ev_run [] 1 rfl trivial ?_)
    refine ev_run (cs := []) (pc' := 51) (L' := [some (.ref 0), some (.int v1)]) (st' := [.int (a_X3_wronged (a_X4_ahead u))]) (w' := W_X4 u) [] 3 (by with_unfolding_all rfl) trivial ?_
    refine ev_callS1 0 (t_J6_bitCount_0f7a4 (a_X3_wronged (a_X4_ahead u))) cs_J6_bitCount_0f7a4 ml_X4_109 rfl rfl rfl (Nat.le_of_ble_eq_true rfl) (by with_unfolding_all rfl) (Nat.le_of_ble_eq_true rfl) ⟨Nat.le_of_ble_eq_true rfl, Nat.le_of_ble_eq_true rfl⟩ ⟨Nat.le_refl _, Nat.le_refl _⟩ ?_ ?_
    · rintro r w ⟨rfl, rfl⟩; rfl
    rintro r w ⟨rfl, rfl⟩
    refine ev_nx (pc' := 54) (st' := [.int (jd_bc (a_X3_wronged (a_X4_ahead u)))]) (w' := W_X4 u) rfl rfl (by with_unfolding_all rfl) rfl rfl ?_
    refine ev_run (cs := []) (pc' := 61) (L' := [some (.ref 0), some (.int v1)]) (st' := [.int (a_X3_wronged (a_X4_now u)), .int (jd_bc (a_X3_wronged (a_X4_ahead u)))]) (w' := W_X4 u) [] 3 (by with_unfolding_all rfl) trivial ?_
    refine ev_callS1 0 (t_J6_bitCount_0f7a4 (a_X3_wronged (a_X4_now u))) cs_J6_bitCount_0f7a4 ml_X4_109 rfl rfl rfl (Nat.le_of_ble_eq_true rfl) (by with_unfolding_all rfl) (Nat.le_of_ble_eq_true rfl) ⟨Nat.le_of_ble_eq_true rfl, Nat.le_of_ble_eq_true rfl⟩ ⟨Nat.le_refl _, Nat.le_refl _⟩ ?_ ?_
    · rintro r w ⟨rfl, rfl⟩; rfl
    rintro r w ⟨rfl, rfl⟩
    refine ev_nx (pc' := 64) (st' := [.int (jd_bc (a_X3_wronged (a_X4_now u))), .int (jd_bc (a_X3_wronged (a_X4_ahead u)))]) (w' := W_X4 u) rfl rfl (by with_unfolding_all rfl) rfl rfl ?_
    refine ev_run (cs := []) (pc' := 65) (L' := [some (.ref 0), some (.int v1)]) (st' := [.int ((jd_bc (a_X3_wronged (a_X4_ahead u))) - (jd_bc (a_X3_wronged (a_X4_now u))))]) (w' := W_X4 u) [] 1 (by with_unfolding_all rfl) trivial ?_
    cases hR
    exact ev_exit ⟨_, _, rfl, ⟨rfl, Or.inl rfl⟩, ⟨rfl, rfl⟩, Nat.le_refl _, Nat.le_refl _⟩
  replace hR := lf_f h2 hR
  by_cases h3 : v1 = 2
  · replace hR := lf_t h3 hR
    refine ev_lit h3 (ev_run [] 1 rfl trivial ?_)
    refine ev_run (cs := []) (pc' := 73) (L' := [some (.ref 0), some (.int v1)]) (st' := [.ref 27]) (w' := W_X4 u) [] 3 (by with_unfolding_all rfl) trivial ?_
    obtain ⟨y1, h4, hR⟩ := lf_b hR
    refine ev_callV1 27 (t_X1_underWay F (a_X3_rep (a_X4_ahead u)) _ h4) cv_X1_underWay ml_X4_204 rfl rfl rfl (Nat.le_of_ble_eq_true rfl) (by with_unfolding_all rfl) (Nat.le_of_ble_eq_true rfl) ⟨Nat.le_of_ble_eq_true rfl, Nat.le_of_ble_eq_true rfl⟩ ⟨Nat.le_refl _, Nat.le_refl _⟩ ?_ ?_
    · rintro r w ⟨rfl, rfl⟩; rfl
    rintro r w ⟨rfl, rfl⟩
    refine ev_nx (pc' := 76) (st' := [.int y1]) (w' := W_X4 u) rfl rfl (by with_unfolding_all rfl) rfl rfl ?_
    cases hR
    exact ev_exit ⟨_, _, rfl, ⟨rfl, Or.inl rfl⟩, ⟨rfl, rfl⟩, Nat.le_refl _, Nat.le_refl _⟩
  replace hR := lf_f h3 hR
  refine ev_tso 77 rfl ?_ rfl ?_
  · have k0 := lf_nt h1; have k1 := lf_nt h2; have k2 := lf_nt h3; rw [show (0 : Int32).toInt = 0 from rfl] at k0; rw [show (1 : Int32).toInt = 1 from rfl] at k1; rw [show (2 : Int32).toInt = 2 from rfl] at k2; omega
  refine ev_run (cs := []) (pc' := 91) (L' := [some (.ref 0), some (.int v1)]) (st' := [.ref 25, .int (a_X3_living (a_X4_ahead u))]) (w' := W_X4 u) [] 6 (by with_unfolding_all rfl) trivial ?_
  obtain ⟨y2, h5, hR⟩ := lf_b hR
  refine ev_callV1 25 (t_X0_reached F (a_X3_hold (a_X4_ahead u)) _ h5) cv_X0_reached ml_X4_310 rfl rfl rfl (Nat.le_of_ble_eq_true rfl) (by with_unfolding_all rfl) (Nat.le_of_ble_eq_true rfl) ⟨Nat.le_of_ble_eq_true rfl, Nat.le_of_ble_eq_true rfl⟩ ⟨Nat.le_refl _, Nat.le_refl _⟩ ?_ ?_
  · rintro r w ⟨rfl, rfl⟩; rfl
  rintro r w ⟨rfl, rfl⟩
  refine ev_nx (pc' := 94) (st' := [.int y2, .int (a_X3_living (a_X4_ahead u))]) (w' := W_X4 u) rfl rfl (by with_unfolding_all rfl) rfl rfl ?_
  refine ev_run (cs := []) (pc' := 97) (L' := [some (.ref 0), some (.int v1)]) (st' := [.int ((a_X3_living (a_X4_ahead u)) &&& (y2 ^^^ (-1)))]) (w' := W_X4 u) [] 3 (by with_unfolding_all rfl) trivial ?_
  refine ev_callS1 0 (t_J6_bitCount_0f7a4 ((a_X3_living (a_X4_ahead u)) &&& (y2 ^^^ (-1)))) cs_J6_bitCount_0f7a4 ml_X4_109 rfl rfl rfl (Nat.le_of_ble_eq_true rfl) (by with_unfolding_all rfl) (Nat.le_of_ble_eq_true rfl) ⟨Nat.le_of_ble_eq_true rfl, Nat.le_of_ble_eq_true rfl⟩ ⟨Nat.le_refl _, Nat.le_refl _⟩ ?_ ?_
  · rintro r w ⟨rfl, rfl⟩; rfl
  rintro r w ⟨rfl, rfl⟩
  refine ev_nx (pc' := 100) (st' := [.int (jd_bc ((a_X3_living (a_X4_ahead u)) &&& (y2 ^^^ (-1))))]) (w' := W_X4 u) rfl rfl (by with_unfolding_all rfl) rfl rfl ?_
  cases hR
  exact ev_exit ⟨_, _, rfl, ⟨rfl, Or.inl rfl⟩, ⟨rfl, rfl⟩, Nat.le_refl _, Nat.le_refl _⟩

def s_X4_triedPart (F : Nat) (u : S_X4) (v1 : Int32) : Option Int32 := if v1 = 0 then (some ((a_X3_ends (a_X4_ahead u)) - (a_X3_ends (a_X4_now u)))) else (if v1 = 1 then (some (jd_bc (a_X3_suspects (a_X4_ahead u)))) else (some ((jd_bc (a_X3_wronged (a_X4_ahead u))) - (jd_bc (a_X3_wronged (a_X4_now u))))))
set_option maxHeartbeats 4000000 in
set_option maxRecDepth 20000 in
theorem t_X4_triedPart (F : Nat) (u : S_X4) (v1 : Int32) (x : Int32) (hR : s_X4_triedPart F u v1 = some x) : ev_A yX4_triedPart mm_X4_triedPart none [.ref 0, .int v1] (W_X4 u) (fun r w => r = some (.int x) ∧ w = W_X4 u) := by
  unfold s_X4_triedPart at hR
  refine ev_start ok_X4_triedPart (by decide +kernel) rfl rfl (Nat.le_of_ble_eq_true rfl) ?_
  refine ev_run (cs := []) (pc' := 1) (L' := [some (.ref 0), some (.int v1)]) (st' := [.int v1]) (w' := W_X4 u) [] 1 (by with_unfolding_all rfl) trivial ?_
  by_cases h1 : v1 = 0
  · replace hR := lf_t h1 hR
    refine ev_lit h1 (ev_lsw 28 rfl rfl rfl rfl ?_)
    refine ev_run (cs := []) (pc' := 43) (L' := [some (.ref 0), some (.int v1)]) (st' := [.int ((a_X3_ends (a_X4_ahead u)) - (a_X3_ends (a_X4_now u)))]) (w' := W_X4 u) [] 7 (by with_unfolding_all rfl) trivial ?_
    cases hR
    exact ev_exit ⟨_, _, rfl, ⟨rfl, Or.inl rfl⟩, ⟨rfl, rfl⟩, Nat.le_refl _, Nat.le_refl _⟩
  replace hR := lf_f h1 hR
  by_cases h2 : v1 = 1
  · replace hR := lf_t h2 hR
    refine ev_lit h2 (ev_lsw 44 rfl rfl rfl rfl ?_)
    refine ev_run (cs := []) (pc' := 51) (L' := [some (.ref 0), some (.int v1)]) (st' := [.int (a_X3_suspects (a_X4_ahead u))]) (w' := W_X4 u) [] 3 (by with_unfolding_all rfl) trivial ?_
    refine ev_callS1 0 (t_J6_bitCount_0f7a4 (a_X3_suspects (a_X4_ahead u))) cs_J6_bitCount_0f7a4 ml_X4_109 rfl rfl rfl (Nat.le_of_ble_eq_true rfl) (by with_unfolding_all rfl) (Nat.le_of_ble_eq_true rfl) ⟨Nat.le_of_ble_eq_true rfl, Nat.le_of_ble_eq_true rfl⟩ ⟨Nat.le_refl _, Nat.le_refl _⟩ ?_ ?_
    · rintro r w ⟨rfl, rfl⟩; rfl
    rintro r w ⟨rfl, rfl⟩
    refine ev_nx (pc' := 54) (st' := [.int (jd_bc (a_X3_suspects (a_X4_ahead u)))]) (w' := W_X4 u) rfl rfl (by with_unfolding_all rfl) rfl rfl ?_
    cases hR
    exact ev_exit ⟨_, _, rfl, ⟨rfl, Or.inl rfl⟩, ⟨rfl, rfl⟩, Nat.le_refl _, Nat.le_refl _⟩
  replace hR := lf_f h2 hR
  refine ev_lsw 55 rfl rfl (off := 54) ?_ rfl ?_
  · have k0 := lf_nt h1; have k1 := lf_nt h2; rw [show (0 : Int32).toInt = 0 from rfl] at k0; rw [show (1 : Int32).toInt = 1 from rfl] at k1; simp [Op.lookupswitch.offset, k0, Ne.symm k0, k1, Ne.symm k1]
  refine ev_run (cs := []) (pc' := 62) (L' := [some (.ref 0), some (.int v1)]) (st' := [.int (a_X3_wronged (a_X4_ahead u))]) (w' := W_X4 u) [] 3 (by with_unfolding_all rfl) trivial ?_
  refine ev_callS1 0 (t_J6_bitCount_0f7a4 (a_X3_wronged (a_X4_ahead u))) cs_J6_bitCount_0f7a4 ml_X4_109 rfl rfl rfl (Nat.le_of_ble_eq_true rfl) (by with_unfolding_all rfl) (Nat.le_of_ble_eq_true rfl) ⟨Nat.le_of_ble_eq_true rfl, Nat.le_of_ble_eq_true rfl⟩ ⟨Nat.le_refl _, Nat.le_refl _⟩ ?_ ?_
  · rintro r w ⟨rfl, rfl⟩; rfl
  rintro r w ⟨rfl, rfl⟩
  refine ev_nx (pc' := 65) (st' := [.int (jd_bc (a_X3_wronged (a_X4_ahead u)))]) (w' := W_X4 u) rfl rfl (by with_unfolding_all rfl) rfl rfl ?_
  refine ev_run (cs := []) (pc' := 72) (L' := [some (.ref 0), some (.int v1)]) (st' := [.int (a_X3_wronged (a_X4_now u)), .int (jd_bc (a_X3_wronged (a_X4_ahead u)))]) (w' := W_X4 u) [] 3 (by with_unfolding_all rfl) trivial ?_
  refine ev_callS1 0 (t_J6_bitCount_0f7a4 (a_X3_wronged (a_X4_now u))) cs_J6_bitCount_0f7a4 ml_X4_109 rfl rfl rfl (Nat.le_of_ble_eq_true rfl) (by with_unfolding_all rfl) (Nat.le_of_ble_eq_true rfl) ⟨Nat.le_of_ble_eq_true rfl, Nat.le_of_ble_eq_true rfl⟩ ⟨Nat.le_refl _, Nat.le_refl _⟩ ?_ ?_
  · rintro r w ⟨rfl, rfl⟩; rfl
  rintro r w ⟨rfl, rfl⟩
  refine ev_nx (pc' := 75) (st' := [.int (jd_bc (a_X3_wronged (a_X4_now u))), .int (jd_bc (a_X3_wronged (a_X4_ahead u)))]) (w' := W_X4 u) rfl rfl (by with_unfolding_all rfl) rfl rfl ?_
  refine ev_run (cs := []) (pc' := 76) (L' := [some (.ref 0), some (.int v1)]) (st' := [.int ((jd_bc (a_X3_wronged (a_X4_ahead u))) - (jd_bc (a_X3_wronged (a_X4_now u))))]) (w' := W_X4 u) [] 1 (by with_unfolding_all rfl) trivial ?_
  cases hR
  exact ev_exit ⟨_, _, rfl, ⟨rfl, Or.inl rfl⟩, ⟨rfl, rfl⟩, Nat.le_refl _, Nat.le_refl _⟩

def s_X4_foresee (F : Nat) (u : S_X4) (v1 : Int32) : Option S_X4 := (s_X3_copyFrom F (a_X4_ahead u) (a_X4_now u)).bind fun y1 => ((s_X3_passTicks F y1 v1).bind fun y2 => (some (m_X4_ahead y2.2 u)))
set_option maxHeartbeats 4000000 in
set_option maxRecDepth 20000 in
theorem t_X4_foresee (F : Nat) (u : S_X4) (v1 : Int32) (x : S_X4) (hR : s_X4_foresee F u v1 = some x) : ev_A yX4_foresee mm_X4_foresee none [.ref 0, .int v1] (W_X4 u) (fun r w => r = none ∧ w = W_X4 x) := by
  unfold s_X4_foresee at hR
  refine ev_start ok_X4_foresee (by decide +kernel) rfl rfl (Nat.le_of_ble_eq_true rfl) ?_
  refine ev_run (cs := []) (pc' := 8) (L' := [some (.ref 0), some (.int v1)]) (st' := [.ref 1, .ref 16]) (w' := W_X4 u) [] 4 (by with_unfolding_all rfl) trivial ?_
  obtain ⟨y1, h1, hR⟩ := lf_b hR
  refine ev_callV2 15 16 1 (t_X3_copyFrom F (a_X4_ahead u) (a_X4_now u) _ h1) cv_X3_copyFrom ml_X4_178 rfl rfl rfl rfl (Nat.le_of_ble_eq_true rfl) (Nat.le_of_ble_eq_true rfl) (by decide) (by with_unfolding_all rfl) (Nat.le_of_ble_eq_true rfl) ⟨Nat.le_of_ble_eq_true rfl, Nat.le_of_ble_eq_true rfl⟩ ⟨Nat.le_refl _, Nat.le_refl _⟩ ?_ ?_
  · rintro r w ⟨rfl, rfl⟩; rfl
  rintro r w ⟨rfl, rfl⟩
  refine ev_nx (pc' := 11) (st' := []) (w' := W_X4 (m_X4_ahead y1 u)) rfl rfl (by with_unfolding_all rfl) rfl rfl ?_
  refine ev_run (cs := []) (pc' := 16) (L' := [some (.ref 0), some (.int v1)]) (st' := [.int v1, .ref 16]) (w' := W_X4 (m_X4_ahead y1 u)) [] 3 (by with_unfolding_all rfl) trivial ?_
  obtain ⟨y2, h2, hR⟩ := lf_b hR
  refine ev_callV1 16 (t_X3_passTicks F y1 v1 _ h2) cv_X3_passTicks ml_X4_135 rfl rfl rfl (Nat.le_of_ble_eq_true rfl) (by with_unfolding_all rfl) (Nat.le_of_ble_eq_true rfl) ⟨Nat.le_of_ble_eq_true rfl, Nat.le_of_ble_eq_true rfl⟩ ⟨Nat.le_refl _, Nat.le_refl _⟩ ?_ ?_
  · rintro r w ⟨rfl, rfl⟩; rfl
  rintro r w ⟨rfl, rfl⟩
  refine ev_nx (pc' := 19) (st' := [.int y2.1]) (w' := W_X4 (m_X4_ahead y2.2 u)) rfl rfl (by with_unfolding_all rfl) rfl rfl ?_
  refine ev_run (cs := []) (pc' := 20) (L' := [some (.ref 0), some (.int v1)]) (st' := []) (w' := W_X4 (m_X4_ahead y2.2 u)) [] 1 (by with_unfolding_all rfl) trivial ?_
  cases hR
  exact ev_exit ⟨_, _, rfl, ⟨rfl, rfl⟩, ⟨rfl, rfl⟩, Nat.le_refl _, Nat.le_refl _⟩

def s_X4_foreseeTrial (F : Nat) (u : S_X4) : Option S_X4 := (s_X3_copyFrom F (a_X4_ahead u) (a_X4_now u)).bind fun y1 => ((s_X3_holdTrial F y1).bind fun y2 => (some (m_X4_ahead y2.2 u)))
set_option maxHeartbeats 4000000 in
set_option maxRecDepth 20000 in
theorem t_X4_foreseeTrial (F : Nat) (u : S_X4) (x : S_X4) (hR : s_X4_foreseeTrial F u = some x) : ev_A yX4_foreseeTrial mm_X4_foreseeTrial none [.ref 0] (W_X4 u) (fun r w => r = none ∧ w = W_X4 x) := by
  unfold s_X4_foreseeTrial at hR
  refine ev_start ok_X4_foreseeTrial (by decide +kernel) rfl rfl (Nat.le_of_ble_eq_true rfl) ?_
  refine ev_run (cs := []) (pc' := 8) (L' := [some (.ref 0)]) (st' := [.ref 1, .ref 16]) (w' := W_X4 u) [] 4 (by with_unfolding_all rfl) trivial ?_
  obtain ⟨y1, h1, hR⟩ := lf_b hR
  refine ev_callV2 15 16 1 (t_X3_copyFrom F (a_X4_ahead u) (a_X4_now u) _ h1) cv_X3_copyFrom ml_X4_178 rfl rfl rfl rfl (Nat.le_of_ble_eq_true rfl) (Nat.le_of_ble_eq_true rfl) (by decide) (by with_unfolding_all rfl) (Nat.le_of_ble_eq_true rfl) ⟨Nat.le_of_ble_eq_true rfl, Nat.le_of_ble_eq_true rfl⟩ ⟨Nat.le_refl _, Nat.le_refl _⟩ ?_ ?_
  · rintro r w ⟨rfl, rfl⟩; rfl
  rintro r w ⟨rfl, rfl⟩
  refine ev_nx (pc' := 11) (st' := []) (w' := W_X4 (m_X4_ahead y1 u)) rfl rfl (by with_unfolding_all rfl) rfl rfl ?_
  refine ev_run (cs := []) (pc' := 15) (L' := [some (.ref 0)]) (st' := [.ref 16]) (w' := W_X4 (m_X4_ahead y1 u)) [] 2 (by with_unfolding_all rfl) trivial ?_
  obtain ⟨y2, h2, hR⟩ := lf_b hR
  refine ev_callV1 16 (t_X3_holdTrial F y1 _ h2) cv_X3_holdTrial ml_X4_138 rfl rfl rfl (Nat.le_of_ble_eq_true rfl) (by with_unfolding_all rfl) (Nat.le_of_ble_eq_true rfl) ⟨Nat.le_of_ble_eq_true rfl, Nat.le_of_ble_eq_true rfl⟩ ⟨Nat.le_refl _, Nat.le_refl _⟩ ?_ ?_
  · rintro r w ⟨rfl, rfl⟩; rfl
  rintro r w ⟨rfl, rfl⟩
  refine ev_nx (pc' := 18) (st' := [.int y2.1]) (w' := W_X4 (m_X4_ahead y2.2 u)) rfl rfl (by with_unfolding_all rfl) rfl rfl ?_
  refine ev_run (cs := []) (pc' := 19) (L' := [some (.ref 0)]) (st' := []) (w' := W_X4 (m_X4_ahead y2.2 u)) [] 1 (by with_unfolding_all rfl) trivial ?_
  cases hR
  exact ev_exit ⟨_, _, rfl, ⟨rfl, rfl⟩, ⟨rfl, rfl⟩, Nat.le_refl _, Nat.le_refl _⟩

def s_X4_slandersToEnd_l13 (F : Nat) (v1 : Int32) : Nat → S_X4 → Int32 → Option (Int32 × S_X4)
  | 0 => fun _ _ => none
  | n + 1 => fun u v2 => if 12 < v2 then (some ((-1), u)) else ((s_X3_copyFrom F (a_X4_ahead u) (a_X4_slandered u)).bind fun y1 => ((s_X3_passTicks F y1 30).bind fun y2 => ((s_X3_lives F y2.2 v1).bind fun y3 => (if y3 then ((s_X3_lie F (a_X4_slandered u) v1 (-1)).bind fun y4 => (s_X4_slandersToEnd_l13 F v1 n (m_X4_slandered y4.2 (m_X4_ahead y2.2 u)) (v2 + 1))) else (some (v2, m_X4_ahead y2.2 u))))))
theorem e_X4_slandersToEnd_l13 (F : Nat) (v1 : Int32) (n : Nat) (u : S_X4) (v2 : Int32) : s_X4_slandersToEnd_l13 F v1 (n + 1) u v2 = if 12 < v2 then (some ((-1), u)) else ((s_X3_copyFrom F (a_X4_ahead u) (a_X4_slandered u)).bind fun y1 => ((s_X3_passTicks F y1 30).bind fun y2 => ((s_X3_lives F y2.2 v1).bind fun y3 => (if y3 then ((s_X3_lie F (a_X4_slandered u) v1 (-1)).bind fun y4 => (s_X4_slandersToEnd_l13 F v1 n (m_X4_slandered y4.2 (m_X4_ahead y2.2 u)) (v2 + 1))) else (some (v2, m_X4_ahead y2.2 u)))))) := rfl
set_option maxHeartbeats 4000000 in
set_option maxRecDepth 20000 in
theorem t_X4_slandersToEnd_l13 (F : Nat) (v1 : Int32) (x : (Int32 × S_X4))  : ∀ (n : Nat) (u : S_X4) (v2 : Int32), s_X4_slandersToEnd_l13 F v1 n u v2 = some x → ev_V mm_X4_slandersToEnd none (ev_XR mm_X4_slandersToEnd (fun r w => r = some (.int x.1) ∧ w = W_X4 x.2)) 13 [some (.ref 0), some (.int v1), some (.int v2)] [] (W_X4 u) 0 0 := by
  intro n
  induction n with
  | zero => intro u v2 hR; cases hR
  | succ n hk13 =>
    intro u v2 hR
    unfold s_X4_slandersToEnd_l13 at hR
    refine ev_run (cs := []) (pc' := 16) (L' := [some (.ref 0), some (.int v1), some (.int v2)]) (st' := [.int 12, .int v2]) (w' := W_X4 u) [] 2 (by with_unfolding_all rfl) trivial ?_
    refine ev_br rfl rfl (fun h1 => ?_) (fun h1 => ?_)
    · replace hR := lf_t h1 hR
      refine ev_run (cs := []) (pc' := 70) (L' := [some (.ref 0), some (.int v1), some (.int v2)]) (st' := [.int (-1)]) (w' := W_X4 u) [] 1 (by with_unfolding_all rfl) trivial ?_
      cases hR
      exact ev_exit ⟨_, _, rfl, ⟨rfl, Or.inl rfl⟩, ⟨rfl, rfl⟩, Nat.le_refl _, Nat.le_refl _⟩
    · replace hR := lf_f h1 hR
      refine ev_run (cs := []) (pc' := 27) (L' := [some (.ref 0), some (.int v1), some (.int v2)]) (st' := [.ref 31, .ref 16]) (w' := W_X4 u) [] 4 (by with_unfolding_all rfl) trivial ?_
      obtain ⟨y1, h2, hR⟩ := lf_b hR
      refine ev_callV2 15 16 31 (t_X3_copyFrom F (a_X4_ahead u) (a_X4_slandered u) _ h2) cv_X3_copyFrom ml_X4_178 rfl rfl rfl rfl (Nat.le_of_ble_eq_true rfl) (Nat.le_of_ble_eq_true rfl) (by decide) (by with_unfolding_all rfl) (Nat.le_of_ble_eq_true rfl) ⟨Nat.le_of_ble_eq_true rfl, Nat.le_of_ble_eq_true rfl⟩ ⟨Nat.le_refl _, Nat.le_refl _⟩ ?_ ?_
      · rintro r w ⟨rfl, rfl⟩; rfl
      rintro r w ⟨rfl, rfl⟩
      refine ev_nx (pc' := 30) (st' := []) (w' := W_X4 (m_X4_ahead y1 u)) rfl rfl (by with_unfolding_all rfl) rfl rfl ?_
      refine ev_run (cs := []) (pc' := 36) (L' := [some (.ref 0), some (.int v1), some (.int v2)]) (st' := [.int 30, .ref 16]) (w' := W_X4 (m_X4_ahead y1 u)) [] 3 (by with_unfolding_all rfl) trivial ?_
      obtain ⟨y2, h3, hR⟩ := lf_b hR
      refine ev_callV1 16 (t_X3_passTicks F y1 30 _ h3) cv_X3_passTicks ml_X4_135 rfl rfl rfl (Nat.le_of_ble_eq_true rfl) (by with_unfolding_all rfl) (Nat.le_of_ble_eq_true rfl) ⟨Nat.le_of_ble_eq_true rfl, Nat.le_of_ble_eq_true rfl⟩ ⟨Nat.le_refl _, Nat.le_refl _⟩ ?_ ?_
      · rintro r w ⟨rfl, rfl⟩; rfl
      rintro r w ⟨rfl, rfl⟩
      refine ev_nx (pc' := 39) (st' := [.int y2.1]) (w' := W_X4 (m_X4_ahead y2.2 u)) rfl rfl (by with_unfolding_all rfl) rfl rfl ?_
      refine ev_run (cs := []) (pc' := 45) (L' := [some (.ref 0), some (.int v1), some (.int v2)]) (st' := [.int v1, .ref 16]) (w' := W_X4 (m_X4_ahead y2.2 u)) [] 4 (by with_unfolding_all rfl) trivial ?_
      obtain ⟨y3, h4, hR⟩ := lf_b hR
      refine ev_callV1 16 (t_X3_lives F y2.2 v1 _ h4) cv_X3_lives ml_X4_85 rfl rfl rfl (Nat.le_of_ble_eq_true rfl) (by with_unfolding_all rfl) (Nat.le_of_ble_eq_true rfl) ⟨Nat.le_of_ble_eq_true rfl, Nat.le_of_ble_eq_true rfl⟩ ⟨Nat.le_refl _, Nat.le_refl _⟩ ?_ ?_
      · rintro r w ⟨rfl, rfl⟩; rfl
      rintro r w ⟨rfl, rfl⟩
      refine ev_nx (pc' := 48) (st' := [.int (ev_b y3)]) (w' := W_X4 (m_X4_ahead y2.2 u)) rfl rfl (by with_unfolding_all rfl) rfl rfl ?_
      refine ev_br rfl rfl (fun h5 => ?_) (fun h5 => ?_)
      · replace hR := lf_z1 h5 hR
        refine ev_run (cs := []) (pc' := 59) (L' := [some (.ref 0), some (.int v1), some (.int v2)]) (st' := [.int (-1), .int v1, .ref 31]) (w' := W_X4 (m_X4_ahead y2.2 u)) [] 4 (by with_unfolding_all rfl) trivial ?_
        obtain ⟨y4, h6, hR⟩ := lf_b hR
        refine ev_callV1 31 (t_X3_lie F (a_X4_slandered u) v1 (-1) _ h6) cv_X3_lie ml_X4_97 rfl rfl rfl (Nat.le_of_ble_eq_true rfl) (by with_unfolding_all rfl) (Nat.le_of_ble_eq_true rfl) ⟨Nat.le_of_ble_eq_true rfl, Nat.le_of_ble_eq_true rfl⟩ ⟨Nat.le_refl _, Nat.le_refl _⟩ ?_ ?_
        · rintro r w ⟨rfl, rfl⟩; rfl
        rintro r w ⟨rfl, rfl⟩
        refine ev_nx (pc' := 62) (st' := [.int y4.1]) (w' := W_X4 (m_X4_slandered y4.2 (m_X4_ahead y2.2 u))) rfl rfl (by with_unfolding_all rfl) rfl rfl ?_
        refine ev_run (cs := []) (pc' := 13) (L' := [some (.ref 0), some (.int v1), some (.int (v2 + 1))]) (st' := []) (w' := W_X4 (m_X4_slandered y4.2 (m_X4_ahead y2.2 u))) [] 3 (by with_unfolding_all rfl) trivial ?_
        exact ev_to2 (hk13 _ _ hR) ⟨rfl, rfl, rfl, trivial⟩ rfl rfl
      · replace hR := lf_z0 h5 hR
        refine ev_run (cs := []) (pc' := 52) (L' := [some (.ref 0), some (.int v1), some (.int v2)]) (st' := [.int v2]) (w' := W_X4 (m_X4_ahead y2.2 u)) [] 1 (by with_unfolding_all rfl) trivial ?_
        cases hR
        exact ev_exit ⟨_, _, rfl, ⟨rfl, Or.inl rfl⟩, ⟨rfl, rfl⟩, Nat.le_refl _, Nat.le_refl _⟩

def s_X4_slandersToEnd (F : Nat) (u : S_X4) (v1 : Int32) : Option (Int32 × S_X4) := (s_X3_copyFrom F (a_X4_slandered u) (a_X4_now u)).bind fun y1 => (s_X4_slandersToEnd_l13 F v1 F (m_X4_slandered y1 u) 0)
set_option maxHeartbeats 4000000 in
set_option maxRecDepth 20000 in
theorem t_X4_slandersToEnd (F : Nat) (u : S_X4) (v1 : Int32) (x : (Int32 × S_X4)) (hR : s_X4_slandersToEnd F u v1 = some x) : ev_A yX4_slandersToEnd mm_X4_slandersToEnd none [.ref 0, .int v1] (W_X4 u) (fun r w => r = some (.int x.1) ∧ w = W_X4 x.2) := by
  unfold s_X4_slandersToEnd at hR
  refine ev_start ok_X4_slandersToEnd (by decide +kernel) rfl rfl (Nat.le_of_ble_eq_true rfl) ?_
  refine ev_run (cs := []) (pc' := 8) (L' := [some (.ref 0), some (.int v1), none]) (st' := [.ref 1, .ref 31]) (w' := W_X4 u) [] 4 (by with_unfolding_all rfl) trivial ?_
  obtain ⟨y1, h1, hR⟩ := lf_b hR
  refine ev_callV2 15 31 1 (t_X3_copyFrom F (a_X4_slandered u) (a_X4_now u) _ h1) cv_X3_copyFrom ml_X4_178 rfl rfl rfl rfl (Nat.le_of_ble_eq_true rfl) (Nat.le_of_ble_eq_true rfl) (by decide) (by with_unfolding_all rfl) (Nat.le_of_ble_eq_true rfl) ⟨Nat.le_of_ble_eq_true rfl, Nat.le_of_ble_eq_true rfl⟩ ⟨Nat.le_refl _, Nat.le_refl _⟩ ?_ ?_
  · rintro r w ⟨rfl, rfl⟩; rfl
  rintro r w ⟨rfl, rfl⟩
  refine ev_nx (pc' := 11) (st' := []) (w' := W_X4 (m_X4_slandered y1 u)) rfl rfl (by with_unfolding_all rfl) rfl rfl ?_
  refine ev_run (cs := []) (pc' := 13) (L' := [some (.ref 0), some (.int v1), some (.int 0)]) (st' := []) (w' := W_X4 (m_X4_slandered y1 u)) [] 2 (by with_unfolding_all rfl) trivial ?_
  exact ev_to2 (t_X4_slandersToEnd_l13 F v1 _ F (m_X4_slandered y1 u) 0 hR) ⟨rfl, rfl, rfl, trivial⟩ rfl rfl

def s_X4_isHand (F : Nat) (v0 : Int32) : Option Bool := if v0 < 0 then (some (false)) else (if 4 ≤ v0 then (some (false)) else (some (true)))
set_option maxHeartbeats 4000000 in
set_option maxRecDepth 20000 in
theorem t_X4_isHand (F : Nat) (v0 : Int32) (x : Bool) (hR : s_X4_isHand F v0 = some x) : ev_A yX4_isHand mm_X4_isHand none [.int v0] (([] : List ev_E)) (fun r w => r = some (.int (ev_b x)) ∧ w = ([] : List ev_E)) := by
  unfold s_X4_isHand at hR
  refine ev_start ok_X4_isHand (by decide +kernel) rfl rfl (Nat.le_of_ble_eq_true rfl) ?_
  refine ev_run (cs := []) (pc' := 1) (L' := [some (.int v0)]) (st' := [.int v0]) (w' := ([] : List ev_E)) [] 1 (by with_unfolding_all rfl) trivial ?_
  refine ev_br rfl rfl (fun h1 => ?_) (fun h1 => ?_)
  · replace hR := lf_t h1 hR
    refine ev_run (cs := []) (pc' := 14) (L' := [some (.int v0)]) (st' := [.int 0]) (w' := ([] : List ev_E)) [] 1 (by with_unfolding_all rfl) trivial ?_
    cases hR
    exact ev_exit ⟨_, _, rfl, ⟨rfl, Or.inr ⟨rfl, rfl⟩⟩, ⟨rfl, rfl⟩, Nat.le_refl _, Nat.le_refl _⟩
  · replace hR := lf_f h1 hR
    refine ev_run (cs := []) (pc' := 6) (L' := [some (.int v0)]) (st' := [.int 4, .int v0]) (w' := ([] : List ev_E)) [] 2 (by with_unfolding_all rfl) trivial ?_
    refine ev_br rfl rfl (fun h2 => ?_) (fun h2 => ?_)
    · replace hR := lf_t h2 hR
      refine ev_run (cs := []) (pc' := 14) (L' := [some (.int v0)]) (st' := [.int 0]) (w' := ([] : List ev_E)) [] 1 (by with_unfolding_all rfl) trivial ?_
      cases hR
      exact ev_exit ⟨_, _, rfl, ⟨rfl, Or.inr ⟨rfl, rfl⟩⟩, ⟨rfl, rfl⟩, Nat.le_refl _, Nat.le_refl _⟩
    · replace hR := lf_f h2 hR
      refine ev_run (cs := []) (pc' := 14) (L' := [some (.int v0)]) (st' := [.int 1]) (w' := ([] : List ev_E)) [] 2 (by with_unfolding_all rfl) trivial ?_
      cases hR
      exact ev_exit ⟨_, _, rfl, ⟨rfl, Or.inr ⟨rfl, rfl⟩⟩, ⟨rfl, rfl⟩, Nat.le_refl _, Nat.le_refl _⟩

def s_X4_isSlot (F : Nat) (v0 : Int32) : Option Bool := if v0 < 0 then (some (false)) else (if 4 ≤ v0 then (some (false)) else (some (true)))
set_option maxHeartbeats 4000000 in
set_option maxRecDepth 20000 in
theorem t_X4_isSlot (F : Nat) (v0 : Int32) (x : Bool) (hR : s_X4_isSlot F v0 = some x) : ev_A yX4_isSlot mm_X4_isSlot none [.int v0] (([] : List ev_E)) (fun r w => r = some (.int (ev_b x)) ∧ w = ([] : List ev_E)) := by
  unfold s_X4_isSlot at hR
  refine ev_start ok_X4_isSlot (by decide +kernel) rfl rfl (Nat.le_of_ble_eq_true rfl) ?_
  refine ev_run (cs := []) (pc' := 1) (L' := [some (.int v0)]) (st' := [.int v0]) (w' := ([] : List ev_E)) [] 1 (by with_unfolding_all rfl) trivial ?_
  refine ev_br rfl rfl (fun h1 => ?_) (fun h1 => ?_)
  · replace hR := lf_t h1 hR
    refine ev_run (cs := []) (pc' := 14) (L' := [some (.int v0)]) (st' := [.int 0]) (w' := ([] : List ev_E)) [] 1 (by with_unfolding_all rfl) trivial ?_
    cases hR
    exact ev_exit ⟨_, _, rfl, ⟨rfl, Or.inr ⟨rfl, rfl⟩⟩, ⟨rfl, rfl⟩, Nat.le_refl _, Nat.le_refl _⟩
  · replace hR := lf_f h1 hR
    refine ev_run (cs := []) (pc' := 6) (L' := [some (.int v0)]) (st' := [.int 4, .int v0]) (w' := ([] : List ev_E)) [] 2 (by with_unfolding_all rfl) trivial ?_
    refine ev_br rfl rfl (fun h2 => ?_) (fun h2 => ?_)
    · replace hR := lf_t h2 hR
      refine ev_run (cs := []) (pc' := 14) (L' := [some (.int v0)]) (st' := [.int 0]) (w' := ([] : List ev_E)) [] 1 (by with_unfolding_all rfl) trivial ?_
      cases hR
      exact ev_exit ⟨_, _, rfl, ⟨rfl, Or.inr ⟨rfl, rfl⟩⟩, ⟨rfl, rfl⟩, Nat.le_refl _, Nat.le_refl _⟩
    · replace hR := lf_f h2 hR
      refine ev_run (cs := []) (pc' := 14) (L' := [some (.int v0)]) (st' := [.int 1]) (w' := ([] : List ev_E)) [] 2 (by with_unfolding_all rfl) trivial ?_
      cases hR
      exact ev_exit ⟨_, _, rfl, ⟨rfl, Or.inr ⟨rfl, rfl⟩⟩, ⟨rfl, rfl⟩, Nat.le_refl _, Nat.le_refl _⟩

def s_X4_isThing (F : Nat) (u : S_X4) (v1 : Int32) : Option Bool := if v1 < 0 then (some (false)) else (if (a_X3_things (a_X4_now u)) ≤ v1 then (some (false)) else (some (true)))
set_option maxHeartbeats 4000000 in
set_option maxRecDepth 20000 in
theorem t_X4_isThing (F : Nat) (u : S_X4) (v1 : Int32) (x : Bool) (hR : s_X4_isThing F u v1 = some x) : ev_A yX4_isThing mm_X4_isThing none [.ref 0, .int v1] (W_X4 u) (fun r w => r = some (.int (ev_b x)) ∧ w = W_X4 u) := by
  unfold s_X4_isThing at hR
  refine ev_start ok_X4_isThing (by decide +kernel) rfl rfl (Nat.le_of_ble_eq_true rfl) ?_
  refine ev_run (cs := []) (pc' := 1) (L' := [some (.ref 0), some (.int v1)]) (st' := [.int v1]) (w' := W_X4 u) [] 1 (by with_unfolding_all rfl) trivial ?_
  refine ev_br rfl rfl (fun h1 => ?_) (fun h1 => ?_)
  · replace hR := lf_t h1 hR
    refine ev_run (cs := []) (pc' := 20) (L' := [some (.ref 0), some (.int v1)]) (st' := [.int 0]) (w' := W_X4 u) [] 1 (by with_unfolding_all rfl) trivial ?_
    cases hR
    exact ev_exit ⟨_, _, rfl, ⟨rfl, Or.inr ⟨rfl, rfl⟩⟩, ⟨rfl, rfl⟩, Nat.le_refl _, Nat.le_refl _⟩
  · replace hR := lf_f h1 hR
    refine ev_run (cs := []) (pc' := 12) (L' := [some (.ref 0), some (.int v1)]) (st' := [.int (a_X3_things (a_X4_now u)), .int v1]) (w' := W_X4 u) [] 4 (by with_unfolding_all rfl) trivial ?_
    refine ev_br rfl rfl (fun h2 => ?_) (fun h2 => ?_)
    · replace hR := lf_t h2 hR
      refine ev_run (cs := []) (pc' := 20) (L' := [some (.ref 0), some (.int v1)]) (st' := [.int 0]) (w' := W_X4 u) [] 1 (by with_unfolding_all rfl) trivial ?_
      cases hR
      exact ev_exit ⟨_, _, rfl, ⟨rfl, Or.inr ⟨rfl, rfl⟩⟩, ⟨rfl, rfl⟩, Nat.le_refl _, Nat.le_refl _⟩
    · replace hR := lf_f h2 hR
      refine ev_run (cs := []) (pc' := 20) (L' := [some (.ref 0), some (.int v1)]) (st' := [.int 1]) (w' := W_X4 u) [] 2 (by with_unfolding_all rfl) trivial ?_
      cases hR
      exact ev_exit ⟨_, _, rfl, ⟨rfl, Or.inr ⟨rfl, rfl⟩⟩, ⟨rfl, rfl⟩, Nat.le_refl _, Nat.le_refl _⟩

def s_X4_isThingOrNone (F : Nat) (u : S_X4) (v1 : Int32) : Option Bool := if v1 = (-1) then (some (true)) else ((s_X4_isThing F u v1).bind fun y1 => (if y1 then (some (true)) else (some (false))))
set_option maxHeartbeats 4000000 in
set_option maxRecDepth 20000 in
theorem t_X4_isThingOrNone (F : Nat) (u : S_X4) (v1 : Int32) (x : Bool) (hR : s_X4_isThingOrNone F u v1 = some x) : ev_A yX4_isThingOrNone mm_X4_isThingOrNone none [.ref 0, .int v1] (W_X4 u) (fun r w => r = some (.int (ev_b x)) ∧ w = W_X4 u) := by
  unfold s_X4_isThingOrNone at hR
  refine ev_start ok_X4_isThingOrNone (by decide +kernel) rfl rfl (Nat.le_of_ble_eq_true rfl) ?_
  refine ev_run (cs := []) (pc' := 2) (L' := [some (.ref 0), some (.int v1)]) (st' := [.int (-1), .int v1]) (w' := W_X4 u) [] 2 (by with_unfolding_all rfl) trivial ?_
  refine ev_br rfl rfl (fun h1 => ?_) (fun h1 => ?_)
  · replace hR := lf_t h1 hR
    refine ev_run (cs := []) (pc' := 18) (L' := [some (.ref 0), some (.int v1)]) (st' := [.int 1]) (w' := W_X4 u) [] 2 (by with_unfolding_all rfl) trivial ?_
    cases hR
    exact ev_exit ⟨_, _, rfl, ⟨rfl, Or.inr ⟨rfl, rfl⟩⟩, ⟨rfl, rfl⟩, Nat.le_refl _, Nat.le_refl _⟩
  · replace hR := lf_f h1 hR
    refine ev_run (cs := []) (pc' := 7) (L' := [some (.ref 0), some (.int v1)]) (st' := [.int v1, .ref 0]) (w' := W_X4 u) [] 2 (by with_unfolding_all rfl) trivial ?_
    obtain ⟨y1, h2, hR⟩ := lf_b hR
    refine ev_callV1 0 (t_X4_isThing F u v1 _ h2) cv_X4_isThing ml_X4_77 rfl rfl rfl (Nat.le_of_ble_eq_true rfl) (by with_unfolding_all rfl) (Nat.le_of_ble_eq_true rfl) ⟨Nat.le_of_ble_eq_true rfl, Nat.le_of_ble_eq_true rfl⟩ ⟨Nat.le_refl _, Nat.le_refl _⟩ ?_ ?_
    · rintro r w ⟨rfl, rfl⟩; rfl
    rintro r w ⟨rfl, rfl⟩
    refine ev_nx (pc' := 10) (st' := [.int (ev_b y1)]) (w' := W_X4 u) rfl rfl (by with_unfolding_all rfl) rfl rfl ?_
    refine ev_br rfl rfl (fun h3 => ?_) (fun h3 => ?_)
    · replace hR := lf_z0 h3 hR
      refine ev_run (cs := []) (pc' := 18) (L' := [some (.ref 0), some (.int v1)]) (st' := [.int 0]) (w' := W_X4 u) [] 1 (by with_unfolding_all rfl) trivial ?_
      cases hR
      exact ev_exit ⟨_, _, rfl, ⟨rfl, Or.inr ⟨rfl, rfl⟩⟩, ⟨rfl, rfl⟩, Nat.le_refl _, Nat.le_refl _⟩
    · replace hR := lf_z1 h3 hR
      refine ev_run (cs := []) (pc' := 18) (L' := [some (.ref 0), some (.int v1)]) (st' := [.int 1]) (w' := W_X4 u) [] 2 (by with_unfolding_all rfl) trivial ?_
      cases hR
      exact ev_exit ⟨_, _, rfl, ⟨rfl, Or.inr ⟨rfl, rfl⟩⟩, ⟨rfl, rfl⟩, Nat.le_refl _, Nat.le_refl _⟩

def s_X4_isSetting (F : Nat) (v0 : Int32) : Option Bool := if v0 < 0 then (some (false)) else (if 5 ≤ v0 then (some (false)) else (some (true)))
set_option maxHeartbeats 4000000 in
set_option maxRecDepth 20000 in
theorem t_X4_isSetting (F : Nat) (v0 : Int32) (x : Bool) (hR : s_X4_isSetting F v0 = some x) : ev_A yX4_isSetting mm_X4_isSetting none [.int v0] (([] : List ev_E)) (fun r w => r = some (.int (ev_b x)) ∧ w = ([] : List ev_E)) := by
  unfold s_X4_isSetting at hR
  refine ev_start ok_X4_isSetting (by decide +kernel) rfl rfl (Nat.le_of_ble_eq_true rfl) ?_
  refine ev_run (cs := []) (pc' := 1) (L' := [some (.int v0)]) (st' := [.int v0]) (w' := ([] : List ev_E)) [] 1 (by with_unfolding_all rfl) trivial ?_
  refine ev_br rfl rfl (fun h1 => ?_) (fun h1 => ?_)
  · replace hR := lf_t h1 hR
    refine ev_run (cs := []) (pc' := 14) (L' := [some (.int v0)]) (st' := [.int 0]) (w' := ([] : List ev_E)) [] 1 (by with_unfolding_all rfl) trivial ?_
    cases hR
    exact ev_exit ⟨_, _, rfl, ⟨rfl, Or.inr ⟨rfl, rfl⟩⟩, ⟨rfl, rfl⟩, Nat.le_refl _, Nat.le_refl _⟩
  · replace hR := lf_f h1 hR
    refine ev_run (cs := []) (pc' := 6) (L' := [some (.int v0)]) (st' := [.int 5, .int v0]) (w' := ([] : List ev_E)) [] 2 (by with_unfolding_all rfl) trivial ?_
    refine ev_br rfl rfl (fun h2 => ?_) (fun h2 => ?_)
    · replace hR := lf_t h2 hR
      refine ev_run (cs := []) (pc' := 14) (L' := [some (.int v0)]) (st' := [.int 0]) (w' := ([] : List ev_E)) [] 1 (by with_unfolding_all rfl) trivial ?_
      cases hR
      exact ev_exit ⟨_, _, rfl, ⟨rfl, Or.inr ⟨rfl, rfl⟩⟩, ⟨rfl, rfl⟩, Nat.le_refl _, Nat.le_refl _⟩
    · replace hR := lf_f h2 hR
      refine ev_run (cs := []) (pc' := 14) (L' := [some (.int v0)]) (st' := [.int 1]) (w' := ([] : List ev_E)) [] 2 (by with_unfolding_all rfl) trivial ?_
      cases hR
      exact ev_exit ⟨_, _, rfl, ⟨rfl, Or.inr ⟨rfl, rfl⟩⟩, ⟨rfl, rfl⟩, Nat.le_refl _, Nat.le_refl _⟩

def s_X4_mostOf (F : Nat) (v0 : Int32) : Option Int32 := if 3 ≤ v0 then (if v0 = 3 then (some (1)) else (some (50))) else (some (20))
set_option maxHeartbeats 4000000 in
set_option maxRecDepth 20000 in
theorem t_X4_mostOf (F : Nat) (v0 : Int32) (x : Int32) (hR : s_X4_mostOf F v0 = some x) : ev_A yX4_mostOf mm_X4_mostOf none [.int v0] (([] : List ev_E)) (fun r w => r = some (.int x) ∧ w = ([] : List ev_E)) := by
  unfold s_X4_mostOf at hR
  refine ev_start ok_X4_mostOf (by decide +kernel) rfl rfl (Nat.le_of_ble_eq_true rfl) ?_
  refine ev_run (cs := []) (pc' := 2) (L' := [some (.int v0)]) (st' := [.int 3, .int v0]) (w' := ([] : List ev_E)) [] 2 (by with_unfolding_all rfl) trivial ?_
  refine ev_br rfl rfl (fun h1 => ?_) (fun h1 => ?_)
  · replace hR := lf_t h1 hR
    refine ev_run (cs := []) (pc' := 10) (L' := [some (.int v0)]) (st' := [.int 3, .int v0]) (w' := ([] : List ev_E)) [] 2 (by with_unfolding_all rfl) trivial ?_
    refine ev_br rfl rfl (fun h2 => ?_) (fun h2 => ?_)
    · replace hR := lf_f h2 hR
      refine ev_run (cs := []) (pc' := 19) (L' := [some (.int v0)]) (st' := [.int 50]) (w' := ([] : List ev_E)) [] 1 (by with_unfolding_all rfl) trivial ?_
      cases hR
      exact ev_exit ⟨_, _, rfl, ⟨rfl, Or.inl rfl⟩, ⟨rfl, rfl⟩, Nat.le_refl _, Nat.le_refl _⟩
    · replace hR := lf_t h2 hR
      refine ev_run (cs := []) (pc' := 19) (L' := [some (.int v0)]) (st' := [.int 1]) (w' := ([] : List ev_E)) [] 2 (by with_unfolding_all rfl) trivial ?_
      cases hR
      exact ev_exit ⟨_, _, rfl, ⟨rfl, Or.inl rfl⟩, ⟨rfl, rfl⟩, Nat.le_refl _, Nat.le_refl _⟩
  · replace hR := lf_f h1 hR
    refine ev_run (cs := []) (pc' := 7) (L' := [some (.int v0)]) (st' := [.int 20]) (w' := ([] : List ev_E)) [] 1 (by with_unfolding_all rfl) trivial ?_
    cases hR
    exact ev_exit ⟨_, _, rfl, ⟨rfl, Or.inl rfl⟩, ⟨rfl, rfl⟩, Nat.le_refl _, Nat.le_refl _⟩

