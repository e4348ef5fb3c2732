def s_X4_clearBuffer (F : Nat) (u : S_X4) : Option (Int32 × S_X4) := some (a_X2_length (a_X4_text u), m_X4_text (m_X2_length 0 (a_X4_text u)) u)
set_option maxHeartbeats 4000000 in
set_option maxRecDepth 20000 in
theorem t_X4_clearBuffer (F : Nat) (u : S_X4) (x : (Int32 × S_X4)) (hR : s_X4_clearBuffer F u = some x) : ev_A yX4_clearBuffer mm_X4_clearBuffer none [.ref 0] (W_X4 u) (fun r w => r = some (.int x.1) ∧ w = W_X4 x.2) := by
  unfold s_X4_clearBuffer at hR
  refine ev_start ok_X4_clearBuffer (by decide +kernel) rfl rfl (Nat.le_of_ble_eq_true rfl) ?_
  refine ev_run (cs := []) (pc' := 17) (L' := [some (.ref 0), some (.int (a_X2_length (a_X4_text u)))]) (st' := [.int (a_X2_length (a_X4_text u))]) (w' := W_X4 (m_X4_text (m_X2_length 0 (a_X4_text u)) u)) [] 9 (by with_unfolding_all rfl) trivial ?_
  cases hR
  exact ev_exit ⟨_, _, rfl, ⟨rfl, Or.inl rfl⟩, ⟨rfl, rfl⟩, Nat.le_refl _, Nat.le_refl _⟩

def s_X4_firstError (F : Nat) (u : S_X4) : Option Int32 := (s_X2_errorAt F (a_X4_text u)).bind fun y1 => (some (y1))
set_option maxHeartbeats 4000000 in
set_option maxRecDepth 20000 in
theorem t_X4_firstError (F : Nat) (u : S_X4) (x : Int32) (hR : s_X4_firstError F u = some x) : ev_A yX4_firstError mm_X4_firstError none [.ref 0] (W_X4 u) (fun r w => r = some (.int x) ∧ w = W_X4 u) := by
  unfold s_X4_firstError at hR
  refine ev_start ok_X4_firstError (by decide +kernel) rfl rfl (Nat.le_of_ble_eq_true rfl) ?_
  refine ev_run (cs := []) (pc' := 4) (L' := [some (.ref 0)]) (st' := [.ref 46]) (w' := W_X4 u) [] 2 (by with_unfolding_all rfl) trivial ?_
  obtain ⟨y1, h1, hR⟩ := lf_b hR
  refine ev_callV1 46 (t_X2_errorAt F (a_X4_text u) _ h1) cv_X2_errorAt ml_X4_155 rfl rfl rfl (Nat.le_of_ble_eq_true rfl) (by with_unfolding_all rfl) (Nat.le_of_ble_eq_true rfl) ⟨Nat.le_of_ble_eq_true rfl, Nat.le_of_ble_eq_true rfl⟩ ⟨Nat.le_refl _, Nat.le_refl _⟩ ?_ ?_
  · rintro r w ⟨rfl, rfl⟩; rfl
  rintro r w ⟨rfl, rfl⟩
  refine ev_nx (pc' := 7) (st' := [.int y1]) (w' := W_X4 u) rfl rfl (by with_unfolding_all rfl) rfl rfl ?_
  cases hR
  exact ev_exit ⟨_, _, rfl, ⟨rfl, Or.inl rfl⟩, ⟨rfl, rfl⟩, Nat.le_refl _, Nat.le_refl _⟩

def s_X4_mixed (F : Nat) (v0 : Int64) (v2 : Int64) : Option Int64 := some ((31 * v0) + v2)
set_option maxHeartbeats 4000000 in
set_option maxRecDepth 20000 in
theorem t_X4_mixed (F : Nat) (v0 : Int64) (v2 : Int64) (x : Int64) (hR : s_X4_mixed F v0 v2 = some x) : ev_A yX4_mixed mm_X4_mixed none [.long v0, .long v2] (([] : List ev_E)) (fun r w => r = some (.long x) ∧ w = ([] : List ev_E)) := by
  unfold s_X4_mixed at hR
  refine ev_start ok_X4_mixed (by decide +kernel) rfl rfl (Nat.le_of_ble_eq_true rfl) ?_
  refine ev_run (cs := []) (pc' := 7) (L' := [some (.long v0), none, some (.long v2), none]) (st' := [.long ((31 * v0) + v2)]) (w' := ([] : List ev_E)) [] 5 (by with_unfolding_all rfl) trivial ?_
  cases hR
  exact ev_exit ⟨_, _, rfl, ⟨rfl, rfl⟩, ⟨rfl, rfl⟩, Nat.le_refl _, Nat.le_refl _⟩

def s_X4_foreseenEnd (F : Nat) (u : S_X4) (v1 : Int32) : Option Int32 := (s_X3_lives F (a_X4_now u) v1).bind fun y1 => (if y1 then ((s_X3_lives F (a_X4_ahead u) v1).bind fun y2 => (if y2 then (some ((-1))) else (if lf_ix v1 24 then (some (((a_X3_endTimes (a_X4_ahead u)) v1.toNatClampNeg) - (a_X3_time (a_X4_now u)))) else none))) else (some (0)))
set_option maxHeartbeats 4000000 in
set_option maxRecDepth 20000 in
theorem t_X4_foreseenEnd (F : Nat) (u : S_X4) (v1 : Int32) (x : Int32) (hR : s_X4_foreseenEnd F u v1 = some x) : ev_A yX4_foreseenEnd mm_X4_foreseenEnd none [.ref 0, .int v1] (W_X4 u) (fun r w => r = some (.int x) ∧ w = W_X4 u) := by
  unfold s_X4_foreseenEnd at hR
  refine ev_start ok_X4_foreseenEnd (by decide +kernel) rfl rfl (Nat.le_of_ble_eq_true rfl) ?_
  refine ev_run (cs := []) (pc' := 5) (L' := [some (.ref 0), some (.int v1)]) (st' := [.int v1, .ref 1]) (w' := W_X4 u) [] 3 (by with_unfolding_all rfl) trivial ?_
  obtain ⟨y1, h1, hR⟩ := lf_b hR
  refine ev_callV1 1 (t_X3_lives F (a_X4_now u) v1 _ h1) cv_X3_lives ml_X4_85 rfl rfl rfl (Nat.le_of_ble_eq_true rfl) (by with_unfolding_all rfl) (Nat.le_of_ble_eq_true rfl) ⟨Nat.le_of_ble_eq_true rfl, Nat.le_of_ble_eq_true rfl⟩ ⟨Nat.le_refl _, Nat.le_refl _⟩ ?_ ?_
  · rintro r w ⟨rfl, rfl⟩; rfl
  rintro r w ⟨rfl, rfl⟩
  refine ev_nx (pc' := 8) (st' := [.int (ev_b y1)]) (w' := W_X4 u) rfl rfl (by with_unfolding_all rfl) rfl rfl ?_
  refine ev_br rfl rfl (fun h2 => ?_) (fun h2 => ?_)
  · replace hR := lf_z1 h2 hR
    refine ev_run (cs := []) (pc' := 18) (L' := [some (.ref 0), some (.int v1)]) (st' := [.int v1, .ref 16]) (w' := W_X4 u) [] 3 (by with_unfolding_all rfl) trivial ?_
    obtain ⟨y2, h3, hR⟩ := lf_b hR
    refine ev_callV1 16 (t_X3_lives F (a_X4_ahead u) v1 _ h3) cv_X3_lives ml_X4_85 rfl rfl rfl (Nat.le_of_ble_eq_true rfl) (by with_unfolding_all rfl) (Nat.le_of_ble_eq_true rfl) ⟨Nat.le_of_ble_eq_true rfl, Nat.le_of_ble_eq_true rfl⟩ ⟨Nat.le_refl _, Nat.le_refl _⟩ ?_ ?_
    · rintro r w ⟨rfl, rfl⟩; rfl
    rintro r w ⟨rfl, rfl⟩
    refine ev_nx (pc' := 21) (st' := [.int (ev_b y2)]) (w' := W_X4 u) rfl rfl (by with_unfolding_all rfl) rfl rfl ?_
    refine ev_br rfl rfl (fun h4 => ?_) (fun h4 => ?_)
    · replace hR := lf_z0 h4 hR
      obtain ⟨h5, hR⟩ := lf_g hR
      refine ev_run (cs := [lf_ix v1 24]) (pc' := 45) (L' := [some (.ref 0), some (.int v1)]) (st' := [.int (((a_X3_endTimes (a_X4_ahead u)) v1.toNatClampNeg) - (a_X3_time (a_X4_now u)))]) (w' := W_X4 u) [] 9 (by with_unfolding_all rfl) (h5) ?_
      cases hR
      exact ev_exit ⟨_, _, rfl, ⟨rfl, Or.inl rfl⟩, ⟨rfl, rfl⟩, Nat.le_refl _, Nat.le_refl _⟩
    · replace hR := lf_z1 h4 hR
      refine ev_run (cs := []) (pc' := 45) (L' := [some (.ref 0), some (.int v1)]) (st' := [.int (-1)]) (w' := W_X4 u) [] 2 (by with_unfolding_all rfl) trivial ?_
      cases hR
      exact ev_exit ⟨_, _, rfl, ⟨rfl, Or.inl rfl⟩, ⟨rfl, rfl⟩, Nat.le_refl _, Nat.le_refl _⟩
  · replace hR := lf_z0 h2 hR
    refine ev_run (cs := []) (pc' := 12) (L' := [some (.ref 0), some (.int v1)]) (st' := [.int 0]) (w' := W_X4 u) [] 1 (by with_unfolding_all rfl) trivial ?_
    cases hR
    exact ev_exit ⟨_, _, rfl, ⟨rfl, Or.inl rfl⟩, ⟨rfl, rfl⟩, Nat.le_refl _, Nat.le_refl _⟩

def s_X4_withThings_b95 (F : Nat) (k5 : Int64 → Int32 → Option Int64) (u : S_X4) (v3 : Int64) (v5 : Int32) : Option Int64 := (s_X0_ringOf F (a_X3_hold (a_X4_now u)) v5).bind fun y1 => ((s_X4_mixed F v3 ((y1 : Int32).toInt64)).bind fun y2 => ((s_X4_foreseenEnd F u v5).bind fun y3 => ((s_X4_mixed F y2 ((y3 : Int32).toInt64)).bind fun y4 => (k5 y4 (v5 + 1)))))
set_option maxHeartbeats 4000000 in
set_option maxRecDepth 20000 in
theorem t_X4_withThings_b95 (F : Nat) (k5 : Int64 → Int32 → Option Int64) (u : S_X4) (v3 : Int64) (v5 : Int32) (x : Int64) (hk5 : ∀ (v3 : Int64) (v5 : Int32), k5 v3 v5 = some x → ev_V mm_X4_withThings none (ev_XR mm_X4_withThings (fun r w => r = some (.long x) ∧ w = W_X4 u)) 5 [some (.ref 0), none, none, some (.long v3), none, some (.int v5), none] [] (W_X4 u) 0 0) (hR : s_X4_withThings_b95 F k5 u v3 v5 = some x) : ev_V mm_X4_withThings none (ev_XR mm_X4_withThings (fun r w => r = some (.long x) ∧ w = W_X4 u)) 95 [some (.ref 0), none, none, some (.long v3), none, some (.int v5), none] [] (W_X4 u) 0 0 := by
  unfold s_X4_withThings_b95 at hR
  refine ev_run (cs := []) (pc' := 105) (L' := [some (.ref 0), none, none, some (.long v3), none, some (.int v5), none]) (st' := [.int v5, .ref 10, .long v3]) (w' := W_X4 u) [] 5 (by with_unfolding_all rfl) trivial ?_
  obtain ⟨y1, h1, hR⟩ := lf_b hR
  refine ev_callV1 10 (t_X0_ringOf F (a_X3_hold (a_X4_now u)) v5 _ h1) cv_X0_ringOf ml_X4_249 rfl rfl rfl (Nat.le_of_ble_eq_true rfl) (by with_unfolding_all rfl) (Nat.le_of_ble_eq_true rfl) ⟨Nat.le_of_ble_eq_true rfl, Nat.le_of_ble_eq_true rfl⟩ ⟨Nat.le_refl _, Nat.le_refl _⟩ ?_ ?_
  · rintro r w ⟨rfl, rfl⟩; rfl
  rintro r w ⟨rfl, rfl⟩
  refine ev_nx (pc' := 108) (st' := [.int y1, .long v3]) (w' := W_X4 u) rfl rfl (by with_unfolding_all rfl) rfl rfl ?_
  refine ev_run (cs := []) (pc' := 109) (L' := [some (.ref 0), none, none, some (.long v3), none, some (.int v5), none]) (st' := [.long ((y1 : Int32).toInt64), .long v3]) (w' := W_X4 u) [] 1 (by with_unfolding_all rfl) trivial ?_
  obtain ⟨y2, h2, hR⟩ := lf_b hR
  refine ev_callS1 0 (t_X4_mixed F v3 ((y1 : Int32).toInt64) _ h2) cs_X4_mixed ml_X4_268 rfl rfl rfl (Nat.le_of_ble_eq_true rfl) (by with_unfolding_all rfl) (Nat.le_of_ble_eq_true rfl) ⟨Nat.le_of_ble_eq_true rfl, Nat.le_of_ble_eq_true rfl⟩ ⟨Nat.le_refl _, Nat.le_refl _⟩ ?_ ?_
  · rintro r w ⟨rfl, rfl⟩; rfl
  rintro r w ⟨rfl, rfl⟩
  refine ev_nx (pc' := 112) (st' := [.long y2]) (w' := W_X4 u) rfl rfl (by with_unfolding_all rfl) rfl rfl ?_
  refine ev_run (cs := []) (pc' := 117) (L' := [some (.ref 0), none, none, some (.long y2), none, some (.int v5), none]) (st' := [.int v5, .ref 0, .long y2]) (w' := W_X4 u) [] 4 (by with_unfolding_all rfl) trivial ?_
  obtain ⟨y3, h3, hR⟩ := lf_b hR
  refine ev_callV1 0 (t_X4_foreseenEnd F u v5 _ h3) cv_X4_foreseenEnd ml_X4_238 rfl rfl rfl (Nat.le_of_ble_eq_true rfl) (by with_unfolding_all rfl) (Nat.le_of_ble_eq_true rfl) ⟨Nat.le_of_ble_eq_true rfl, Nat.le_of_ble_eq_true rfl⟩ ⟨Nat.le_refl _, Nat.le_refl _⟩ ?_ ?_
  · rintro r w ⟨rfl, rfl⟩; rfl
  rintro r w ⟨rfl, rfl⟩
  refine ev_nx (pc' := 120) (st' := [.int y3, .long y2]) (w' := W_X4 u) rfl rfl (by with_unfolding_all rfl) rfl rfl ?_
  refine ev_run (cs := []) (pc' := 121) (L' := [some (.ref 0), none, none, some (.long y2), none, some (.int v5), none]) (st' := [.long ((y3 : Int32).toInt64), .long y2]) (w' := W_X4 u) [] 1 (by with_unfolding_all rfl) trivial ?_
  obtain ⟨y4, h4, hR⟩ := lf_b hR
  refine ev_callS1 0 (t_X4_mixed F y2 ((y3 : Int32).toInt64) _ h4) cs_X4_mixed ml_X4_268 rfl rfl rfl (Nat.le_of_ble_eq_true rfl) (by with_unfolding_all rfl) (Nat.le_of_ble_eq_true rfl) ⟨Nat.le_of_ble_eq_true rfl, Nat.le_of_ble_eq_true rfl⟩ ⟨Nat.le_refl _, Nat.le_refl _⟩ ?_ ?_
  · rintro r w ⟨rfl, rfl⟩; rfl
  rintro r w ⟨rfl, rfl⟩
  refine ev_nx (pc' := 124) (st' := [.long y4]) (w' := W_X4 u) rfl rfl (by with_unfolding_all rfl) rfl rfl ?_
  refine ev_run (cs := []) (pc' := 5) (L' := [some (.ref 0), none, none, some (.long y4), none, some (.int (v5 + 1)), none]) (st' := []) (w' := W_X4 u) [] 3 (by with_unfolding_all rfl) trivial ?_
  exact ev_to2 (hk5 _ _ hR) ⟨rfl, rfl, rfl, trivial⟩ rfl rfl

def s_X4_withThings_l60 (F : Nat) (u : S_X4) (v5 : Int32) (k5 : Int64 → Int32 → Option Int64) : Nat → Int64 → Int32 → Option Int64
  | 0 => fun _ _ => none
  | n + 1 => fun v3 v6 => if 4 ≤ v6 then (s_X4_withThings_b95 F k5 u v3 v5) else ((s_X0_at F (a_X3_hold (a_X4_now u)) (st_pl v5 v6)).bind fun y1 => ((s_X4_mixed F v3 ((y1 : Int32).toInt64)).bind fun y2 => (s_X4_withThings_l60 F u v5 k5 n y2 (v6 + 1))))
theorem e_X4_withThings_l60 (F : Nat) (u : S_X4) (v5 : Int32) (k5 : Int64 → Int32 → Option Int64) (n : Nat) (v3 : Int64) (v6 : Int32) : s_X4_withThings_l60 F u v5 k5 (n + 1) v3 v6 = if 4 ≤ v6 then (s_X4_withThings_b95 F k5 u v3 v5) else ((s_X0_at F (a_X3_hold (a_X4_now u)) (st_pl v5 v6)).bind fun y1 => ((s_X4_mixed F v3 ((y1 : Int32).toInt64)).bind fun y2 => (s_X4_withThings_l60 F u v5 k5 n y2 (v6 + 1)))) := rfl
set_option maxHeartbeats 4000000 in
set_option maxRecDepth 20000 in
theorem t_X4_withThings_l60 (F : Nat) (u : S_X4) (v5 : Int32) (k5 : Int64 → Int32 → Option Int64) (x : Int64) (hk5 : ∀ (v3 : Int64) (v5 : Int32), k5 v3 v5 = some x → ev_V mm_X4_withThings none (ev_XR mm_X4_withThings (fun r w => r = some (.long x) ∧ w = W_X4 u)) 5 [some (.ref 0), none, none, some (.long v3), none, some (.int v5), none] [] (W_X4 u) 0 0) : ∀ (n : Nat) (v3 : Int64) (v6 : Int32), s_X4_withThings_l60 F u v5 k5 n v3 v6 = some x → ev_V mm_X4_withThings none (ev_XR mm_X4_withThings (fun r w => r = some (.long x) ∧ w = W_X4 u)) 60 [some (.ref 0), none, none, some (.long v3), none, some (.int v5), some (.int v6)] [] (W_X4 u) 0 0 := by
  intro n
  induction n with
  | zero => intro v3 v6 hR; cases hR
  | succ n hk60 =>
    intro v3 v6 hR
    unfold s_X4_withThings_l60 at hR
    refine ev_run (cs := []) (pc' := 63) (L' := [some (.ref 0), none, none, some (.long v3), none, some (.int v5), some (.int v6)]) (st' := [.int 4, .int v6]) (w' := W_X4 u) [] 2 (by with_unfolding_all rfl) trivial ?_
    refine ev_br rfl rfl (fun h1 => ?_) (fun h1 => ?_)
    · replace hR := lf_t h1 hR
      exact ev_to2 (t_X4_withThings_b95 F k5 u v3 v5 _ hk5 hR) ⟨rfl, rfl, rfl, trivial⟩ rfl rfl
    · replace hR := lf_f h1 hR
      refine ev_run (cs := []) (pc' := 78) (L' := [some (.ref 0), none, none, some (.long v3), none, some (.int v5), some (.int v6)]) (st' := [.int v6, .int v5, .ref 10, .long v3]) (w' := W_X4 u) [] 6 (by with_unfolding_all rfl) trivial ?_
      refine ev_callS1 0 (t_X4_placeOf v5 v6) cs_X4_placeOf ml_X4_90 rfl rfl rfl (Nat.le_of_ble_eq_true rfl) (by with_unfolding_all rfl) (Nat.le_of_ble_eq_true rfl) ⟨Nat.le_of_ble_eq_true rfl, Nat.le_of_ble_eq_true rfl⟩ ⟨Nat.le_refl _, Nat.le_refl _⟩ ?_ ?_
      · rintro r w ⟨rfl, rfl⟩; rfl
      rintro r w ⟨rfl, rfl⟩
      refine ev_nx (pc' := 81) (st' := [.int (st_pl v5 v6), .ref 10, .long v3]) (w' := W_X4 u) rfl rfl (by with_unfolding_all rfl) rfl rfl ?_
      obtain ⟨y1, h2, hR⟩ := lf_b hR
      refine ev_callV1 10 (t_X0_at F (a_X3_hold (a_X4_now u)) (st_pl v5 v6) _ h2) cv_X0_at ml_X4_193 rfl rfl rfl (Nat.le_of_ble_eq_true rfl) (by with_unfolding_all rfl) (Nat.le_of_ble_eq_true rfl) ⟨Nat.le_of_ble_eq_true rfl, Nat.le_of_ble_eq_true rfl⟩ ⟨Nat.le_refl _, Nat.le_refl _⟩ ?_ ?_
      · rintro r w ⟨rfl, rfl⟩; rfl
      rintro r w ⟨rfl, rfl⟩
      refine ev_nx (pc' := 84) (st' := [.int y1, .long v3]) (w' := W_X4 u) rfl rfl (by with_unfolding_all rfl) rfl rfl ?_
      refine ev_run (cs := []) (pc' := 85) (L' := [some (.ref 0), none, none, some (.long v3), none, some (.int v5), some (.int v6)]) (st' := [.long ((y1 : Int32).toInt64), .long v3]) (w' := W_X4 u) [] 1 (by with_unfolding_all rfl) trivial ?_
      obtain ⟨y2, h3, hR⟩ := lf_b hR
      refine ev_callS1 0 (t_X4_mixed F v3 ((y1 : Int32).toInt64) _ h3) cs_X4_mixed ml_X4_268 rfl rfl rfl (Nat.le_of_ble_eq_true rfl) (by with_unfolding_all rfl) (Nat.le_of_ble_eq_true rfl) ⟨Nat.le_of_ble_eq_true rfl, Nat.le_of_ble_eq_true rfl⟩ ⟨Nat.le_refl _, Nat.le_refl _⟩ ?_ ?_
      · rintro r w ⟨rfl, rfl⟩; rfl
      rintro r w ⟨rfl, rfl⟩
      refine ev_nx (pc' := 88) (st' := [.long y2]) (w' := W_X4 u) rfl rfl (by with_unfolding_all rfl) rfl rfl ?_
      refine ev_run (cs := []) (pc' := 60) (L' := [some (.ref 0), none, none, some (.long y2), none, some (.int v5), some (.int (v6 + 1))]) (st' := []) (w' := W_X4 u) [] 3 (by with_unfolding_all rfl) trivial ?_
      exact ev_to2 (hk60 _ _ hR) ⟨rfl, rfl, rfl, rfl, trivial⟩ rfl rfl

def s_X4_withThings_l27 (F : Nat) (u : S_X4) (v5 : Int32) (k5 : Int64 → Int32 → Option Int64) : Nat → Int64 → Int32 → Option Int64
  | 0 => fun _ _ => none
  | n + 1 => fun v3 v6 => if 13 ≤ v6 then (s_X4_withThings_l60 F u v5 k5 F v3 0) else ((s_X3_property F (a_X4_now u) v5 v6).bind fun y1 => ((s_X4_mixed F v3 ((y1 : Int32).toInt64)).bind fun y2 => (s_X4_withThings_l27 F u v5 k5 n y2 (v6 + 1))))
theorem e_X4_withThings_l27 (F : Nat) (u : S_X4) (v5 : Int32) (k5 : Int64 → Int32 → Option Int64) (n : Nat) (v3 : Int64) (v6 : Int32) : s_X4_withThings_l27 F u v5 k5 (n + 1) v3 v6 = if 13 ≤ v6 then (s_X4_withThings_l60 F u v5 k5 F v3 0) else ((s_X3_property F (a_X4_now u) v5 v6).bind fun y1 => ((s_X4_mixed F v3 ((y1 : Int32).toInt64)).bind fun y2 => (s_X4_withThings_l27 F u v5 k5 n y2 (v6 + 1)))) := rfl
set_option maxHeartbeats 4000000 in
set_option maxRecDepth 20000 in
theorem t_X4_withThings_l27 (F : Nat) (u : S_X4) (v5 : Int32) (k5 : Int64 → Int32 → Option Int64) (x : Int64) (hk5 : ∀ (v3 : Int64) (v5 : Int32), k5 v3 v5 = some x → ev_V mm_X4_withThings none (ev_XR mm_X4_withThings (fun r w => r = some (.long x) ∧ w = W_X4 u)) 5 [some (.ref 0), none, none, some (.long v3), none, some (.int v5), none] [] (W_X4 u) 0 0) : ∀ (n : Nat) (v3 : Int64) (v6 : Int32), s_X4_withThings_l27 F u v5 k5 n v3 v6 = some x → ev_V mm_X4_withThings none (ev_XR mm_X4_withThings (fun r w => r = some (.long x) ∧ w = W_X4 u)) 27 [some (.ref 0), none, none, some (.long v3), none, some (.int v5), some (.int v6)] [] (W_X4 u) 0 0 := by
  intro n
  induction n with
  | zero => intro v3 v6 hR; cases hR
  | succ n hk27 =>
    intro v3 v6 hR
    unfold s_X4_withThings_l27 at hR
    refine ev_run (cs := []) (pc' := 31) (L' := [some (.ref 0), none, none, some (.long v3), none, some (.int v5), some (.int v6)]) (st' := [.int 13, .int v6]) (w' := W_X4 u) [] 2 (by with_unfolding_all rfl) trivial ?_
    refine ev_br rfl rfl (fun h1 => ?_) (fun h1 => ?_)
    · replace hR := lf_t h1 hR
      refine ev_run (cs := []) (pc' := 60) (L' := [some (.ref 0), none, none, some (.long v3), none, some (.int v5), some (.int 0)]) (st' := []) (w' := W_X4 u) [] 2 (by with_unfolding_all rfl) trivial ?_
      exact ev_to2 (t_X4_withThings_l60 F u v5 k5 _ hk5 F v3 0 hR) ⟨rfl, rfl, rfl, rfl, trivial⟩ rfl rfl
    · replace hR := lf_f h1 hR
      refine ev_run (cs := []) (pc' := 43) (L' := [some (.ref 0), none, none, some (.long v3), none, some (.int v5), some (.int v6)]) (st' := [.int v6, .int v5, .ref 1, .long v3]) (w' := W_X4 u) [] 5 (by with_unfolding_all rfl) trivial ?_
      obtain ⟨y1, h2, hR⟩ := lf_b hR
      refine ev_callV1 1 (t_X3_property F (a_X4_now u) v5 v6 _ h2) cv_X3_property ml_X4_184 rfl rfl rfl (Nat.le_of_ble_eq_true rfl) (by with_unfolding_all rfl) (Nat.le_of_ble_eq_true rfl) ⟨Nat.le_of_ble_eq_true rfl, Nat.le_of_ble_eq_true rfl⟩ ⟨Nat.le_refl _, Nat.le_refl _⟩ ?_ ?_
      · rintro r w ⟨rfl, rfl⟩; rfl
      rintro r w ⟨rfl, rfl⟩
      refine ev_nx (pc' := 46) (st' := [.int y1, .long v3]) (w' := W_X4 u) rfl rfl (by with_unfolding_all rfl) rfl rfl ?_
      refine ev_run (cs := []) (pc' := 47) (L' := [some (.ref 0), none, none, some (.long v3), none, some (.int v5), some (.int v6)]) (st' := [.long ((y1 : Int32).toInt64), .long v3]) (w' := W_X4 u) [] 1 (by with_unfolding_all rfl) trivial ?_
      obtain ⟨y2, h3, hR⟩ := lf_b hR
      refine ev_callS1 0 (t_X4_mixed F v3 ((y1 : Int32).toInt64) _ h3) cs_X4_mixed ml_X4_268 rfl rfl rfl (Nat.le_of_ble_eq_true rfl) (by with_unfolding_all rfl) (Nat.le_of_ble_eq_true rfl) ⟨Nat.le_of_ble_eq_true rfl, Nat.le_of_ble_eq_true rfl⟩ ⟨Nat.le_refl _, Nat.le_refl _⟩ ?_ ?_
      · rintro r w ⟨rfl, rfl⟩; rfl
      rintro r w ⟨rfl, rfl⟩
      refine ev_nx (pc' := 50) (st' := [.long y2]) (w' := W_X4 u) rfl rfl (by with_unfolding_all rfl) rfl rfl ?_
      refine ev_run (cs := []) (pc' := 27) (L' := [some (.ref 0), none, none, some (.long y2), none, some (.int v5), some (.int (v6 + 1))]) (st' := []) (w' := W_X4 u) [] 3 (by with_unfolding_all rfl) trivial ?_
      exact ev_to2 (hk27 _ _ hR) ⟨rfl, rfl, rfl, rfl, trivial⟩ rfl rfl

def s_X4_withThings_l5 (F : Nat) (u : S_X4) : Nat → Int64 → Int32 → Option Int64
  | 0 => fun _ _ => none
  | n + 1 => fun v3 v5 => if (a_X3_things (a_X4_now u)) ≤ v5 then (some (v3)) else (if 24 ≤ v5 then (some (v3)) else (s_X4_withThings_l27 F u v5 (s_X4_withThings_l5 F u n) F v3 0))
theorem e_X4_withThings_l5 (F : Nat) (u : S_X4) (n : Nat) (v3 : Int64) (v5 : Int32) : s_X4_withThings_l5 F u (n + 1) v3 v5 = if (a_X3_things (a_X4_now u)) ≤ v5 then (some (v3)) else (if 24 ≤ v5 then (some (v3)) else (s_X4_withThings_l27 F u v5 (s_X4_withThings_l5 F u n) F v3 0)) := rfl
set_option maxHeartbeats 4000000 in
set_option maxRecDepth 20000 in
theorem t_X4_withThings_l5 (F : Nat) (u : S_X4) (x : Int64)  : ∀ (n : Nat) (v3 : Int64) (v5 : Int32), s_X4_withThings_l5 F u n v3 v5 = some x → ev_V mm_X4_withThings none (ev_XR mm_X4_withThings (fun r w => r = some (.long x) ∧ w = W_X4 u)) 5 [some (.ref 0), none, none, some (.long v3), none, some (.int v5), none] [] (W_X4 u) 0 0 := by
  intro n
  induction n with
  | zero => intro v3 v5 hR; cases hR
  | succ n hk5 =>
    intro v3 v5 hR
    unfold s_X4_withThings_l5 at hR
    refine ev_run (cs := []) (pc' := 14) (L' := [some (.ref 0), none, none, some (.long v3), none, some (.int v5), none]) (st' := [.int (a_X3_things (a_X4_now u)), .int v5]) (w' := W_X4 u) [] 4 (by with_unfolding_all rfl) trivial ?_
    refine ev_br rfl rfl (fun h1 => ?_) (fun h1 => ?_)
    · replace hR := lf_t h1 hR
      refine ev_run (cs := []) (pc' := 132) (L' := [some (.ref 0), none, none, some (.long v3), none, some (.int v5), none]) (st' := [.long v3]) (w' := W_X4 u) [] 1 (by with_unfolding_all rfl) trivial ?_
      cases hR
      exact ev_exit ⟨_, _, rfl, ⟨rfl, rfl⟩, ⟨rfl, rfl⟩, Nat.le_refl _, Nat.le_refl _⟩
    · replace hR := lf_f h1 hR
      refine ev_run (cs := []) (pc' := 21) (L' := [some (.ref 0), none, none, some (.long v3), none, some (.int v5), none]) (st' := [.int 24, .int v5]) (w' := W_X4 u) [] 2 (by with_unfolding_all rfl) trivial ?_
      refine ev_br rfl rfl (fun h2 => ?_) (fun h2 => ?_)
      · replace hR := lf_t h2 hR
        refine ev_run (cs := []) (pc' := 132) (L' := [some (.ref 0), none, none, some (.long v3), none, some (.int v5), none]) (st' := [.long v3]) (w' := W_X4 u) [] 1 (by with_unfolding_all rfl) trivial ?_
        cases hR
        exact ev_exit ⟨_, _, rfl, ⟨rfl, rfl⟩, ⟨rfl, rfl⟩, Nat.le_refl _, Nat.le_refl _⟩
      · replace hR := lf_f h2 hR
        refine ev_run (cs := []) (pc' := 27) (L' := [some (.ref 0), none, none, some (.long v3), none, some (.int v5), some (.int 0)]) (st' := []) (w' := W_X4 u) [] 2 (by with_unfolding_all rfl) trivial ?_
        exact ev_to2 (t_X4_withThings_l27 F u v5 (s_X4_withThings_l5 F u n) _ hk5 F v3 0 hR) ⟨rfl, rfl, rfl, rfl, trivial⟩ rfl rfl

def s_X4_withThings (F : Nat) (u : S_X4) (v1 : Int64) : Option Int64 := s_X4_withThings_l5 F u F v1 0
set_option maxHeartbeats 4000000 in
set_option maxRecDepth 20000 in
theorem t_X4_withThings (F : Nat) (u : S_X4) (v1 : Int64) (x : Int64) (hR : s_X4_withThings F u v1 = some x) : ev_A yX4_withThings mm_X4_withThings none [.ref 0, .long v1] (W_X4 u) (fun r w => r = some (.long x) ∧ w = W_X4 u) := by
  unfold s_X4_withThings at hR
  refine ev_start ok_X4_withThings (by decide +kernel) rfl rfl (Nat.le_of_ble_eq_true rfl) ?_
  refine ev_run (cs := []) (pc' := 5) (L' := [some (.ref 0), some (.long v1), none, some (.long v1), none, some (.int 0), none]) (st' := []) (w' := W_X4 u) [] 4 (by with_unfolding_all rfl) trivial ?_
  exact ev_to2 (t_X4_withThings_l5 F u _ F v1 0 hR) ⟨rfl, rfl, rfl, trivial⟩ rfl rfl

def s_X4_withReportsAndEnds_l23 (F : Nat) (u : S_X4) (v5 : Int32) (k5 : Int64 → Int32 → Option Int64) : Nat → Int64 → Int32 → Option Int64
  | 0 => fun _ _ => none
  | n + 1 => fun v3 v6 => if 5 ≤ v6 then (k5 v3 (v5 + 1)) else ((s_X1_part F (a_X3_rep (a_X4_now u)) v5 v6).bind fun y1 => ((s_X4_mixed F v3 ((y1 : Int32).toInt64)).bind fun y2 => (s_X4_withReportsAndEnds_l23 F u v5 k5 n y2 (v6 + 1))))
theorem e_X4_withReportsAndEnds_l23 (F : Nat) (u : S_X4) (v5 : Int32) (k5 : Int64 → Int32 → Option Int64) (n : Nat) (v3 : Int64) (v6 : Int32) : s_X4_withReportsAndEnds_l23 F u v5 k5 (n + 1) v3 v6 = if 5 ≤ v6 then (k5 v3 (v5 + 1)) else ((s_X1_part F (a_X3_rep (a_X4_now u)) v5 v6).bind fun y1 => ((s_X4_mixed F v3 ((y1 : Int32).toInt64)).bind fun y2 => (s_X4_withReportsAndEnds_l23 F u v5 k5 n y2 (v6 + 1)))) := rfl
set_option maxHeartbeats 4000000 in
set_option maxRecDepth 20000 in
theorem t_X4_withReportsAndEnds_l23 (F : Nat) (u : S_X4) (v5 : Int32) (k5 : Int64 → Int32 → Option Int64) (x : Int64) (hk5 : ∀ (v3 : Int64) (v5 : Int32), k5 v3 v5 = some x → ev_V mm_X4_withReportsAndEnds none (ev_XR mm_X4_withReportsAndEnds (fun r w => r = some (.long x) ∧ w = W_X4 u)) 5 [some (.ref 0), none, none, some (.long v3), none, some (.int v5), none] [] (W_X4 u) 0 0) : ∀ (n : Nat) (v3 : Int64) (v6 : Int32), s_X4_withReportsAndEnds_l23 F u v5 k5 n v3 v6 = some x → ev_V mm_X4_withReportsAndEnds none (ev_XR mm_X4_withReportsAndEnds (fun r w => r = some (.long x) ∧ w = W_X4 u)) 23 [some (.ref 0), none, none, some (.long v3), none, some (.int v5), some (.int v6)] [] (W_X4 u) 0 0 := by
  intro n
  induction n with
  | zero => intro v3 v6 hR; cases hR
  | succ n hk23 =>
    intro v3 v6 hR
    unfold s_X4_withReportsAndEnds_l23 at hR
    refine ev_run (cs := []) (pc' := 26) (L' := [some (.ref 0), none, none, some (.long v3), none, some (.int v5), some (.int v6)]) (st' := [.int 5, .int v6]) (w' := W_X4 u) [] 2 (by with_unfolding_all rfl) trivial ?_
    refine ev_br rfl rfl (fun h1 => ?_) (fun h1 => ?_)
    · replace hR := lf_t h1 hR
      refine ev_run (cs := []) (pc' := 5) (L' := [some (.ref 0), none, none, some (.long v3), none, some (.int (v5 + 1)), some (.int v6)]) (st' := []) (w' := W_X4 u) [] 2 (by with_unfolding_all rfl) trivial ?_
      exact ev_to2 (hk5 _ _ hR) ⟨rfl, rfl, rfl, trivial⟩ rfl rfl
    · replace hR := lf_f h1 hR
      refine ev_run (cs := []) (pc' := 41) (L' := [some (.ref 0), none, none, some (.long v3), none, some (.int v5), some (.int v6)]) (st' := [.int v6, .int v5, .ref 12, .long v3]) (w' := W_X4 u) [] 6 (by with_unfolding_all rfl) trivial ?_
      obtain ⟨y1, h2, hR⟩ := lf_b hR
      refine ev_callV1 12 (t_X1_part F (a_X3_rep (a_X4_now u)) v5 v6 _ h2) cv_X1_part ml_X4_213 rfl rfl rfl (Nat.le_of_ble_eq_true rfl) (by with_unfolding_all rfl) (Nat.le_of_ble_eq_true rfl) ⟨Nat.le_of_ble_eq_true rfl, Nat.le_of_ble_eq_true rfl⟩ ⟨Nat.le_refl _, Nat.le_refl _⟩ ?_ ?_
      · rintro r w ⟨rfl, rfl⟩; rfl
      rintro r w ⟨rfl, rfl⟩
      refine ev_nx (pc' := 44) (st' := [.int y1, .long v3]) (w' := W_X4 u) rfl rfl (by with_unfolding_all rfl) rfl rfl ?_
      refine ev_run (cs := []) (pc' := 45) (L' := [some (.ref 0), none, none, some (.long v3), none, some (.int v5), some (.int v6)]) (st' := [.long ((y1 : Int32).toInt64), .long v3]) (w' := W_X4 u) [] 1 (by with_unfolding_all rfl) trivial ?_
      obtain ⟨y2, h3, hR⟩ := lf_b hR
      refine ev_callS1 0 (t_X4_mixed F v3 ((y1 : Int32).toInt64) _ h3) cs_X4_mixed ml_X4_268 rfl rfl rfl (Nat.le_of_ble_eq_true rfl) (by with_unfolding_all rfl) (Nat.le_of_ble_eq_true rfl) ⟨Nat.le_of_ble_eq_true rfl, Nat.le_of_ble_eq_true rfl⟩ ⟨Nat.le_refl _, Nat.le_refl _⟩ ?_ ?_
      · rintro r w ⟨rfl, rfl⟩; rfl
      rintro r w ⟨rfl, rfl⟩
      refine ev_nx (pc' := 48) (st' := [.long y2]) (w' := W_X4 u) rfl rfl (by with_unfolding_all rfl) rfl rfl ?_
      refine ev_run (cs := []) (pc' := 23) (L' := [some (.ref 0), none, none, some (.long y2), none, some (.int v5), some (.int (v6 + 1))]) (st' := []) (w' := W_X4 u) [] 3 (by with_unfolding_all rfl) trivial ?_
      exact ev_to2 (hk23 _ _ hR) ⟨rfl, rfl, rfl, rfl, trivial⟩ rfl rfl

def s_X4_withReportsAndEnds_l64 (F : Nat) (u : S_X4) : Nat → Int64 → Int32 → Option Int64
  | 0 => fun _ _ => none
  | n + 1 => fun v3 v5 => if (a_X3_ends (a_X4_now u)) ≤ v5 then (some (v3)) else (if 24 ≤ v5 then (some (v3)) else (if lf_ix v5 24 then ((s_X4_mixed F v3 (((a_X3_endOrder (a_X4_now u)) v5.toNatClampNeg : Int32).toInt64)).bind fun y1 => (s_X4_withReportsAndEnds_l64 F u n y1 (v5 + 1))) else none))
theorem e_X4_withReportsAndEnds_l64 (F : Nat) (u : S_X4) (n : Nat) (v3 : Int64) (v5 : Int32) : s_X4_withReportsAndEnds_l64 F u (n + 1) v3 v5 = if (a_X3_ends (a_X4_now u)) ≤ v5 then (some (v3)) else (if 24 ≤ v5 then (some (v3)) else (if lf_ix v5 24 then ((s_X4_mixed F v3 (((a_X3_endOrder (a_X4_now u)) v5.toNatClampNeg : Int32).toInt64)).bind fun y1 => (s_X4_withReportsAndEnds_l64 F u n y1 (v5 + 1))) else none)) := rfl
set_option maxHeartbeats 4000000 in
set_option maxRecDepth 20000 in
theorem t_X4_withReportsAndEnds_l64 (F : Nat) (u : S_X4) (x : Int64)  : ∀ (n : Nat) (v3 : Int64) (v5 : Int32), s_X4_withReportsAndEnds_l64 F u n v3 v5 = some x → ev_V mm_X4_withReportsAndEnds none (ev_XR mm_X4_withReportsAndEnds (fun r w => r = some (.long x) ∧ w = W_X4 u)) 64 [some (.ref 0), none, none, some (.long v3), none, some (.int v5), none] [] (W_X4 u) 0 0 := by
  intro n
  induction n with
  | zero => intro v3 v5 hR; cases hR
  | succ n hk64 =>
    intro v3 v5 hR
    unfold s_X4_withReportsAndEnds_l64 at hR
    refine ev_run (cs := []) (pc' := 73) (L' := [some (.ref 0), none, none, some (.long v3), none, some (.int v5), none]) (st' := [.int (a_X3_ends (a_X4_now u)), .int v5]) (w' := W_X4 u) [] 4 (by with_unfolding_all rfl) trivial ?_
    refine ev_br rfl rfl (fun h1 => ?_) (fun h1 => ?_)
    · replace hR := lf_t h1 hR
      refine ev_run (cs := []) (pc' := 106) (L' := [some (.ref 0), none, none, some (.long v3), none, some (.int v5), none]) (st' := [.long v3]) (w' := W_X4 u) [] 1 (by with_unfolding_all rfl) trivial ?_
      cases hR
      exact ev_exit ⟨_, _, rfl, ⟨rfl, rfl⟩, ⟨rfl, rfl⟩, Nat.le_refl _, Nat.le_refl _⟩
    · replace hR := lf_f h1 hR
      refine ev_run (cs := []) (pc' := 80) (L' := [some (.ref 0), none, none, some (.long v3), none, some (.int v5), none]) (st' := [.int 24, .int v5]) (w' := W_X4 u) [] 2 (by with_unfolding_all rfl) trivial ?_
      refine ev_br rfl rfl (fun h2 => ?_) (fun h2 => ?_)
      · replace hR := lf_t h2 hR
        refine ev_run (cs := []) (pc' := 106) (L' := [some (.ref 0), none, none, some (.long v3), none, some (.int v5), none]) (st' := [.long v3]) (w' := W_X4 u) [] 1 (by with_unfolding_all rfl) trivial ?_
        cases hR
        exact ev_exit ⟨_, _, rfl, ⟨rfl, rfl⟩, ⟨rfl, rfl⟩, Nat.le_refl _, Nat.le_refl _⟩
      · replace hR := lf_f h2 hR
        obtain ⟨h3, hR⟩ := lf_g hR
        refine ev_run (cs := [lf_ix v5 24]) (pc' := 95) (L' := [some (.ref 0), none, none, some (.long v3), none, some (.int v5), none]) (st' := [.long (((a_X3_endOrder (a_X4_now u)) v5.toNatClampNeg : Int32).toInt64), .long v3]) (w' := W_X4 u) [] 7 (by with_unfolding_all rfl) (h3) ?_
        obtain ⟨y1, h4, hR⟩ := lf_b hR
        refine ev_callS1 0 (t_X4_mixed F v3 (((a_X3_endOrder (a_X4_now u)) v5.toNatClampNeg : Int32).toInt64) _ h4) cs_X4_mixed ml_X4_268 rfl rfl rfl (Nat.le_of_ble_eq_true rfl) (by with_unfolding_all rfl) (Nat.le_of_ble_eq_true rfl) ⟨Nat.le_of_ble_eq_true rfl, Nat.le_of_ble_eq_true rfl⟩ ⟨Nat.le_refl _, Nat.le_refl _⟩ ?_ ?_
        · rintro r w ⟨rfl, rfl⟩; rfl
        rintro r w ⟨rfl, rfl⟩
        refine ev_nx (pc' := 98) (st' := [.long y1]) (w' := W_X4 u) rfl rfl (by with_unfolding_all rfl) rfl rfl ?_
        refine ev_run (cs := []) (pc' := 64) (L' := [some (.ref 0), none, none, some (.long y1), none, some (.int (v5 + 1)), none]) (st' := []) (w' := W_X4 u) [] 3 (by with_unfolding_all rfl) trivial ?_
        exact ev_to2 (hk64 _ _ hR) ⟨rfl, rfl, rfl, trivial⟩ rfl rfl

def s_X4_withReportsAndEnds_l5 (F : Nat) (u : S_X4) : Nat → Int64 → Int32 → Option Int64
  | 0 => fun _ _ => none
  | n + 1 => fun v3 v5 => (s_X1_underWay F (a_X3_rep (a_X4_now u))).bind fun y1 => (if y1 ≤ v5 then (s_X4_withReportsAndEnds_l64 F u F v3 0) else (s_X4_withReportsAndEnds_l23 F u v5 (s_X4_withReportsAndEnds_l5 F u n) F v3 0))
theorem e_X4_withReportsAndEnds_l5 (F : Nat) (u : S_X4) (n : Nat) (v3 : Int64) (v5 : Int32) : s_X4_withReportsAndEnds_l5 F u (n + 1) v3 v5 = (s_X1_underWay F (a_X3_rep (a_X4_now u))).bind fun y1 => (if y1 ≤ v5 then (s_X4_withReportsAndEnds_l64 F u F v3 0) else (s_X4_withReportsAndEnds_l23 F u v5 (s_X4_withReportsAndEnds_l5 F u n) F v3 0)) := rfl
set_option maxHeartbeats 4000000 in
set_option maxRecDepth 20000 in
theorem t_X4_withReportsAndEnds_l5 (F : Nat) (u : S_X4) (x : Int64)  : ∀ (n : Nat) (v3 : Int64) (v5 : Int32), s_X4_withReportsAndEnds_l5 F u n v3 v5 = some x → ev_V mm_X4_withReportsAndEnds none (ev_XR mm_X4_withReportsAndEnds (fun r w => r = some (.long x) ∧ w = W_X4 u)) 5 [some (.ref 0), none, none, some (.long v3), none, some (.int v5), none] [] (W_X4 u) 0 0 := by
  intro n
  induction n with
  | zero => intro v3 v5 hR; cases hR
  | succ n hk5 =>
    intro v3 v5 hR
    unfold s_X4_withReportsAndEnds_l5 at hR
    refine ev_run (cs := []) (pc' := 14) (L' := [some (.ref 0), none, none, some (.long v3), none, some (.int v5), none]) (st' := [.ref 12, .int v5]) (w' := W_X4 u) [] 4 (by with_unfolding_all rfl) trivial ?_
    obtain ⟨y1, h1, hR⟩ := lf_b hR
    refine ev_callV1 12 (t_X1_underWay F (a_X3_rep (a_X4_now u)) _ h1) cv_X1_underWay ml_X4_204 rfl rfl rfl (Nat.le_of_ble_eq_true rfl) (by with_unfolding_all rfl) (Nat.le_of_ble_eq_true rfl) ⟨Nat.le_of_ble_eq_true rfl, Nat.le_of_ble_eq_true rfl⟩ ⟨Nat.le_refl _, Nat.le_refl _⟩ ?_ ?_
    · rintro r w ⟨rfl, rfl⟩; rfl
    rintro r w ⟨rfl, rfl⟩
    refine ev_nx (pc' := 17) (st' := [.int y1, .int v5]) (w' := W_X4 u) rfl rfl (by with_unfolding_all rfl) rfl rfl ?_
    refine ev_br rfl rfl (fun h2 => ?_) (fun h2 => ?_)
    · replace hR := lf_t h2 hR
      refine ev_run (cs := []) (pc' := 64) (L' := [some (.ref 0), none, none, some (.long v3), none, some (.int 0), none]) (st' := []) (w' := W_X4 u) [] 2 (by with_unfolding_all rfl) trivial ?_
      exact ev_to2 (t_X4_withReportsAndEnds_l64 F u _ F v3 0 hR) ⟨rfl, rfl, rfl, trivial⟩ rfl rfl
    · replace hR := lf_f h2 hR
      refine ev_run (cs := []) (pc' := 23) (L' := [some (.ref 0), none, none, some (.long v3), none, some (.int v5), some (.int 0)]) (st' := []) (w' := W_X4 u) [] 2 (by with_unfolding_all rfl) trivial ?_
      exact ev_to2 (t_X4_withReportsAndEnds_l23 F u v5 (s_X4_withReportsAndEnds_l5 F u n) _ hk5 F v3 0 hR) ⟨rfl, rfl, rfl, rfl, trivial⟩ rfl rfl

def s_X4_withReportsAndEnds (F : Nat) (u : S_X4) (v1 : Int64) : Option Int64 := s_X4_withReportsAndEnds_l5 F u F v1 0
set_option maxHeartbeats 4000000 in
set_option maxRecDepth 20000 in
theorem t_X4_withReportsAndEnds (F : Nat) (u : S_X4) (v1 : Int64) (x : Int64) (hR : s_X4_withReportsAndEnds F u v1 = some x) : ev_A yX4_withReportsAndEnds mm_X4_withReportsAndEnds none [.ref 0, .long v1] (W_X4 u) (fun r w => r = some (.long x) ∧ w = W_X4 u) := by
  unfold s_X4_withReportsAndEnds at hR
  refine ev_start ok_X4_withReportsAndEnds (by decide +kernel) rfl rfl (Nat.le_of_ble_eq_true rfl) ?_
  refine ev_run (cs := []) (pc' := 5) (L' := [some (.ref 0), some (.long v1), none, some (.long v1), none, some (.int 0), none]) (st' := []) (w' := W_X4 u) [] 4 (by with_unfolding_all rfl) trivial ?_
  exact ev_to2 (t_X4_withReportsAndEnds_l5 F u _ F v1 0 hR) ⟨rfl, rfl, rfl, trivial⟩ rfl rfl

def s_X4_passedPart (F : Nat) (u : S_X4) (v1 : Int32) : Option Int32 := if v1 = 0 then (some ((a_X3_ends (a_X4_ahead u)) - (a_X3_ends (a_X4_now u)))) else (if v1 = 1 then (some ((jd_bc (a_X3_wronged (a_X4_ahead u))) - (jd_bc (a_X3_wronged (a_X4_now u))))) else (if v1 = 2 then ((s_X1_underWay F (a_X3_rep (a_X4_ahead u))).bind fun y1 => (some (y1))) else ((s_X0_reached F (a_X3_hold (a_X4_ahead u))).bind fun y2 => (some (jd_bc ((a_X3_living (a_X4_ahead u)) &&& (y2 ^^^ (-1))))))))
set_option maxHeartbeats 4000000 in
set_option maxRecDepth 20000 in
theorem t_X4_passedPart (F : Nat) (u : S_X4) (v1 : Int32) (x : Int32) (hR : s_X4_passedPart F u v1 = some x) : ev_A yX4_passedPart mm_X4_passedPart none [.ref 0, .int v1] (W_X4 u) (fun r w => r = some (.int x) ∧ w = W_X4 u) := by
  unfold s_X4_passedPart at hR
  refine ev_start ok_X4_passedPart (by decide +kernel) rfl rfl (Nat.le_of_ble_eq_true rfl) ?_
  refine ev_run (cs := []) (pc' := 1) (L' := [some (.ref 0), some (.int v1)]) (st' := [.int v1]) (w' := W_X4 u) [] 1 (by with_unfolding_all rfl) trivial ?_
  by_cases h1 : v1 = 0
  · replace hR := lf_t h1 hR
    refine ev_lit h1 (ev_run [] 1 rfl trivial ?_)
    refine ev_run (cs := []) (pc' := 43) (L' := [some (.ref 0), some (.int v1)]) (st' := [.int ((a_X3_ends (a_X4_ahead u)) - (a_X3_ends (a_X4_now u)))]) (w' := W_X4 u) [] 7 (by with_unfolding_all rfl) trivial ?_
    cases hR
    exact ev_exit ⟨_, _, rfl, ⟨rfl, Or.inl rfl⟩, ⟨rfl, rfl⟩, Nat.le_refl _, Nat.le_refl _⟩
  replace hR := lf_f h1 hR
  by_cases h2 : v1 = 1
  · replace hR := lf_t h2 hR
    refine ev_lit h2 (ev_run [] 1 rfl trivial ?_)
    refine ev_run (cs := []) (pc' := 51) (L' := [some (.ref 0), some (.int v1)]) (st' := [.int (a_X3_wronged (a_X4_ahead u))]) (w' := W_X4 u) [] 3 (by with_unfolding_all rfl) trivial ?_
    refine ev_callS1 0 (t_J6_bitCount_0f7a4 (a_X3_wronged (a_X4_ahead u))) cs_J6_bitCount_0f7a4 ml_X4_109 rfl rfl rfl (Nat.le_of_ble_eq_true rfl) (by with_unfolding_all rfl) (Nat.le_of_ble_eq_true rfl) ⟨Nat.le_of_ble_eq_true rfl, Nat.le_of_ble_eq_true rfl⟩ ⟨Nat.le_refl _, Nat.le_refl _⟩ ?_ ?_
    · rintro r w ⟨rfl, rfl⟩; rfl
    rintro r w ⟨rfl, rfl⟩
    refine ev_nx (pc' := 54) (st' := [.int (jd_bc (a_X3_wronged (a_X4_ahead u)))]) (w' := W_X4 u) rfl rfl (by with_unfolding_all rfl) rfl rfl ?_
    refine ev_run (cs := []) (pc' := 61) (L' := [some (.ref 0), some (.int v1)]) (st' := [.int (a_X3_wronged (a_X4_now u)), .int (jd_bc (a_X3_wronged (a_X4_ahead u)))]) (w' := W_X4 u) [] 3 (by with_unfolding_all rfl) trivial ?_
    refine ev_callS1 0 (t_J6_bitCount_0f7a4 (a_X3_wronged (a_X4_now u))) cs_J6_bitCount_0f7a4 ml_X4_109 rfl rfl rfl (Nat.le_of_ble_eq_true rfl) (by with_unfolding_all rfl) (Nat.le_of_ble_eq_true rfl) ⟨Nat.le_of_ble_eq_true rfl, Nat.le_of_ble_eq_true rfl⟩ ⟨Nat.le_refl _, Nat.le_refl _⟩ ?_ ?_
    · rintro r w ⟨rfl, rfl⟩; rfl
    rintro r w ⟨rfl, rfl⟩
    refine ev_nx (pc' := 64) (st' := [.int (jd_bc (a_X3_wronged (a_X4_now u))), .int (jd_bc (a_X3_wronged (a_X4_ahead u)))]) (w' := W_X4 u) rfl rfl (by with_unfolding_all rfl) rfl rfl ?_
    refine ev_run (cs := []) (pc' := 65) (L' := [some (.ref 0), some (.int v1)]) (st' := [.int ((jd_bc (a_X3_wronged (a_X4_ahead u))) - (jd_bc (a_X3_wronged (a_X4_now u))))]) (w' := W_X4 u) [] 1 (by with_unfolding_all rfl) trivial ?_
    cases hR
    exact ev_exit ⟨_, _, rfl, ⟨rfl, Or.inl rfl⟩, ⟨rfl, rfl⟩, Nat.le_refl _, Nat.le_refl _⟩
  replace hR := lf_f h2 hR
  by_cases h3 : v1 = 2
  · replace hR := lf_t h3 hR
    refine ev_lit h3 (ev_run [] 1 rfl trivial ?_)
    refine ev_run (cs := []) (pc' := 73) (L' := [some (.ref 0), some (.int v1)]) (st' := [.ref 27]) (w' := W_X4 u) [] 3 (by with_unfolding_all rfl) trivial ?_
    obtain ⟨y1, h4, hR⟩ := lf_b hR
    refine ev_callV1 27 (t_X1_underWay F (a_X3_rep (a_X4_ahead u)) _ h4) cv_X1_underWay ml_X4_204 rfl rfl rfl (Nat.le_of_ble_eq_true rfl) (by with_unfolding_all rfl) (Nat.le_of_ble_eq_true rfl) ⟨Nat.le_of_ble_eq_true rfl, Nat.le_of_ble_eq_true rfl⟩ ⟨Nat.le_refl _, Nat.le_refl _⟩ ?_ ?_
    · rintro r w ⟨rfl, rfl⟩; rfl
    rintro r w ⟨rfl, rfl⟩
    refine ev_nx (pc' := 76) (st' := [.int y1]) (w' := W_X4 u) rfl rfl (by with_unfolding_all rfl) rfl rfl ?_
    cases hR
    exact ev_exit ⟨_, _, rfl, ⟨rfl, Or.inl rfl⟩, ⟨rfl, rfl⟩, Nat.le_refl _, Nat.le_refl _⟩
  replace hR := lf_f h3 hR
  refine ev_tso 77 rfl ?_ rfl ?_
  · have k0 := lf_nt h1; have k1 := lf_nt h2; have k2 := lf_nt h3; rw [show (0 : Int32).toInt = 0 from rfl] at k0; rw [show (1 : Int32).toInt = 1 from rfl] at k1; rw [show (2 : Int32).toInt = 2 from rfl] at k2; omega
  refine ev_run (cs := []) (pc' := 91) (L' := [some (.ref 0), some (.int v1)]) (st' := [.ref 25, .int (a_X3_living (a_X4_ahead u))]) (w' := W_X4 u) [] 6 (by with_unfolding_all rfl) trivial ?_
  obtain ⟨y2, h5, hR⟩ := lf_b hR
  refine ev_callV1 25 (t_X0_reached F (a_X3_hold (a_X4_ahead u)) _ h5) cv_X0_reached ml_X4_310 rfl rfl rfl (Nat.le_of_ble_eq_true rfl) (by with_unfolding_all rfl) (Nat.le_of_ble_eq_true rfl) ⟨Nat.le_of_ble_eq_true rfl, Nat.le_of_ble_eq_true rfl⟩ ⟨Nat.le_refl _, Nat.le_refl _⟩ ?_ ?_
  · rintro r w ⟨rfl, rfl⟩; rfl
  rintro r w ⟨rfl, rfl⟩
  refine ev_nx (pc' := 94) (st' := [.int y2, .int (a_X3_living (a_X4_ahead u))]) (w' := W_X4 u) rfl rfl (by with_unfolding_all rfl) rfl rfl ?_
  refine ev_run (cs := []) (pc' := 97) (L' := [some (.ref 0), some (.int v1)]) (st' := [.int ((a_X3_living (a_X4_ahead u)) &&& (y2 ^^^ (-1)))]) (w' := W_X4 u) [] 3 (by with_unfolding_all rfl) trivial ?_
  refine ev_callS1 0 (t_J6_bitCount_0f7a4 ((a_X3_living (a_X4_ahead u)) &&& (y2 ^^^ (-1)))) cs_J6_bitCount_0f7a4 ml_X4_109 rfl rfl rfl (Nat.le_of_ble_eq_true rfl) (by with_unfolding_all rfl) (Nat.le_of_ble_eq_true rfl) ⟨Nat.le_of_ble_eq_true rfl, Nat.le_of_ble_eq_true rfl⟩ ⟨Nat.le_refl _, Nat.le_refl _⟩ ?_ ?_
  · rintro r w ⟨rfl, rfl⟩; rfl
  rintro r w ⟨rfl, rfl⟩
  refine ev_nx (pc' := 100) (st' := [.int (jd_bc ((a_X3_living (a_X4_ahead u)) &&& (y2 ^^^ (-1))))]) (w' := W_X4 u) rfl rfl (by with_unfolding_all rfl) rfl rfl ?_
  cases hR
  exact ev_exit ⟨_, _, rfl, ⟨rfl, Or.inl rfl⟩, ⟨rfl, rfl⟩, Nat.le_refl _, Nat.le_refl _⟩

def s_X4_withPassed_l5 (F : Nat) (u : S_X4) : Nat → Int64 → Int32 → Option Int64
  | 0 => fun _ _ => none
  | n + 1 => fun v3 v5 => if 3 < v5 then (some (v3)) else ((s_X4_passedPart F u v5).bind fun y1 => ((s_X4_mixed F v3 ((y1 : Int32).toInt64)).bind fun y2 => (s_X4_withPassed_l5 F u n y2 (v5 + 1))))
theorem e_X4_withPassed_l5 (F : Nat) (u : S_X4) (n : Nat) (v3 : Int64) (v5 : Int32) : s_X4_withPassed_l5 F u (n + 1) v3 v5 = if 3 < v5 then (some (v3)) else ((s_X4_passedPart F u v5).bind fun y1 => ((s_X4_mixed F v3 ((y1 : Int32).toInt64)).bind fun y2 => (s_X4_withPassed_l5 F u n y2 (v5 + 1)))) := rfl
set_option maxHeartbeats 4000000 in
set_option maxRecDepth 20000 in
theorem t_X4_withPassed_l5 (F : Nat) (u : S_X4) (x : Int64)  : ∀ (n : Nat) (v3 : Int64) (v5 : Int32), s_X4_withPassed_l5 F u n v3 v5 = some x → ev_V mm_X4_withPassed none (ev_XR mm_X4_withPassed (fun r w => r = some (.long x) ∧ w = W_X4 u)) 5 [some (.ref 0), none, none, some (.long v3), none, some (.int v5)] [] (W_X4 u) 0 0 := by
  intro n
  induction n with
  | zero => intro v3 v5 hR; cases hR
  | succ n hk5 =>
    intro v3 v5 hR
    unfold s_X4_withPassed_l5 at hR
    refine ev_run (cs := []) (pc' := 8) (L' := [some (.ref 0), none, none, some (.long v3), none, some (.int v5)]) (st' := [.int 3, .int v5]) (w' := W_X4 u) [] 2 (by with_unfolding_all rfl) trivial ?_
    refine ev_br rfl rfl (fun h1 => ?_) (fun h1 => ?_)
    · replace hR := lf_t h1 hR
      refine ev_run (cs := []) (pc' := 30) (L' := [some (.ref 0), none, none, some (.long v3), none, some (.int v5)]) (st' := [.long v3]) (w' := W_X4 u) [] 1 (by with_unfolding_all rfl) trivial ?_
      cases hR
      exact ev_exit ⟨_, _, rfl, ⟨rfl, rfl⟩, ⟨rfl, rfl⟩, Nat.le_refl _, Nat.le_refl _⟩
    · replace hR := lf_f h1 hR
      refine ev_run (cs := []) (pc' := 15) (L' := [some (.ref 0), none, none, some (.long v3), none, some (.int v5)]) (st' := [.int v5, .ref 0, .long v3]) (w' := W_X4 u) [] 3 (by with_unfolding_all rfl) trivial ?_
      obtain ⟨y1, h2, hR⟩ := lf_b hR
      refine ev_callV1 0 (t_X4_passedPart F u v5 _ h2) cv_X4_passedPart ml_X4_235 rfl rfl rfl (Nat.le_of_ble_eq_true rfl) (by with_unfolding_all rfl) (Nat.le_of_ble_eq_true rfl) ⟨Nat.le_of_ble_eq_true rfl, Nat.le_of_ble_eq_true rfl⟩ ⟨Nat.le_refl _, Nat.le_refl _⟩ ?_ ?_
      · rintro r w ⟨rfl, rfl⟩; rfl
      rintro r w ⟨rfl, rfl⟩
      refine ev_nx (pc' := 18) (st' := [.int y1, .long v3]) (w' := W_X4 u) rfl rfl (by with_unfolding_all rfl) rfl rfl ?_
      refine ev_run (cs := []) (pc' := 19) (L' := [some (.ref 0), none, none, some (.long v3), none, some (.int v5)]) (st' := [.long ((y1 : Int32).toInt64), .long v3]) (w' := W_X4 u) [] 1 (by with_unfolding_all rfl) trivial ?_
      obtain ⟨y2, h3, hR⟩ := lf_b hR
      refine ev_callS1 0 (t_X4_mixed F v3 ((y1 : Int32).toInt64) _ h3) cs_X4_mixed ml_X4_268 rfl rfl rfl (Nat.le_of_ble_eq_true rfl) (by with_unfolding_all rfl) (Nat.le_of_ble_eq_true rfl) ⟨Nat.le_of_ble_eq_true rfl, Nat.le_of_ble_eq_true rfl⟩ ⟨Nat.le_refl _, Nat.le_refl _⟩ ?_ ?_
      · rintro r w ⟨rfl, rfl⟩; rfl
      rintro r w ⟨rfl, rfl⟩
      refine ev_nx (pc' := 22) (st' := [.long y2]) (w' := W_X4 u) rfl rfl (by with_unfolding_all rfl) rfl rfl ?_
      refine ev_run (cs := []) (pc' := 5) (L' := [some (.ref 0), none, none, some (.long y2), none, some (.int (v5 + 1))]) (st' := []) (w' := W_X4 u) [] 3 (by with_unfolding_all rfl) trivial ?_
      exact ev_to2 (hk5 _ _ hR) ⟨rfl, rfl, rfl, trivial⟩ rfl rfl

def s_X4_withPassed (F : Nat) (u : S_X4) (v1 : Int64) : Option Int64 := s_X4_withPassed_l5 F u F v1 0
set_option maxHeartbeats 4000000 in
set_option maxRecDepth 20000 in
theorem t_X4_withPassed (F : Nat) (u : S_X4) (v1 : Int64) (x : Int64) (hR : s_X4_withPassed F u v1 = some x) : ev_A yX4_withPassed mm_X4_withPassed none [.ref 0, .long v1] (W_X4 u) (fun r w => r = some (.long x) ∧ w = W_X4 u) := by
  unfold s_X4_withPassed at hR
  refine ev_start ok_X4_withPassed (by decide +kernel) rfl rfl (Nat.le_of_ble_eq_true rfl) ?_
  refine ev_run (cs := []) (pc' := 5) (L' := [some (.ref 0), some (.long v1), none, some (.long v1), none, some (.int 0)]) (st' := []) (w' := W_X4 u) [] 4 (by with_unfolding_all rfl) trivial ?_
  exact ev_to2 (t_X4_withPassed_l5 F u _ F v1 0 hR) ⟨rfl, rfl, rfl, trivial⟩ rfl rfl

def s_X4_triedPart (F : Nat) (u : S_X4) (v1 : Int32) : Option Int32 := if v1 = 0 then (some ((a_X3_ends (a_X4_ahead u)) - (a_X3_ends (a_X4_now u)))) else (if v1 = 1 then (some (jd_bc (a_X3_suspects (a_X4_ahead u)))) else (some ((jd_bc (a_X3_wronged (a_X4_ahead u))) - (jd_bc (a_X3_wronged (a_X4_now u))))))
set_option maxHeartbeats 4000000 in
set_option maxRecDepth 20000 in
theorem t_X4_triedPart (F : Nat) (u : S_X4) (v1 : Int32) (x : Int32) (hR : s_X4_triedPart F u v1 = some x) : ev_A yX4_triedPart mm_X4_triedPart none [.ref 0, .int v1] (W_X4 u) (fun r w => r = some (.int x) ∧ w = W_X4 u) := by
  unfold s_X4_triedPart at hR
  refine ev_start ok_X4_triedPart (by decide +kernel) rfl rfl (Nat.le_of_ble_eq_true rfl) ?_
  refine ev_run (cs := []) (pc' := 1) (L' := [some (.ref 0), some (.int v1)]) (st' := [.int v1]) (w' := W_X4 u) [] 1 (by with_unfolding_all rfl) trivial ?_
  by_cases h1 : v1 = 0
  · replace hR := lf_t h1 hR
    refine ev_lit h1 (ev_lsw 28 rfl rfl rfl rfl ?_)
    refine ev_run (cs := []) (pc' := 43) (L' := [some (.ref 0), some (.int v1)]) (st' := [.int ((a_X3_ends (a_X4_ahead u)) - (a_X3_ends (a_X4_now u)))]) (w' := W_X4 u) [] 7 (by with_unfolding_all rfl) trivial ?_
    cases hR
    exact ev_exit ⟨_, _, rfl, ⟨rfl, Or.inl rfl⟩, ⟨rfl, rfl⟩, Nat.le_refl _, Nat.le_refl _⟩
  replace hR := lf_f h1 hR
  by_cases h2 : v1 = 1
  · replace hR := lf_t h2 hR
    refine ev_lit h2 (ev_lsw 44 rfl rfl rfl rfl ?_)
    refine ev_run (cs := []) (pc' := 51) (L' := [some (.ref 0), some (.int v1)]) (st' := [.int (a_X3_suspects (a_X4_ahead u))]) (w' := W_X4 u) [] 3 (by with_unfolding_all rfl) trivial ?_
    refine ev_callS1 0 (t_J6_bitCount_0f7a4 (a_X3_suspects (a_X4_ahead u))) cs_J6_bitCount_0f7a4 ml_X4_109 rfl rfl rfl (Nat.le_of_ble_eq_true rfl) (by with_unfolding_all rfl) (Nat.le_of_ble_eq_true rfl) ⟨Nat.le_of_ble_eq_true rfl, Nat.le_of_ble_eq_true rfl⟩ ⟨Nat.le_refl _, Nat.le_refl _⟩ ?_ ?_
    · rintro r w ⟨rfl, rfl⟩; rfl
    rintro r w ⟨rfl, rfl⟩
    refine ev_nx (pc' := 54) (st' := [.int (jd_bc (a_X3_suspects (a_X4_ahead u)))]) (w' := W_X4 u) rfl rfl (by with_unfolding_all rfl) rfl rfl ?_
    cases hR
    exact ev_exit ⟨_, _, rfl, ⟨rfl, Or.inl rfl⟩, ⟨rfl, rfl⟩, Nat.le_refl _, Nat.le_refl _⟩
  replace hR := lf_f h2 hR
  refine ev_lsw 55 rfl rfl (off := 54) ?_ rfl ?_
  · have k0 := lf_nt h1; have k1 := lf_nt h2; rw [show (0 : Int32).toInt = 0 from rfl] at k0; rw [show (1 : Int32).toInt = 1 from rfl] at k1; simp [Op.lookupswitch.offset, k0, Ne.symm k0, k1, Ne.symm k1]
  refine ev_run (cs := []) (pc' := 62) (L' := [some (.ref 0), some (.int v1)]) (st' := [.int (a_X3_wronged (a_X4_ahead u))]) (w' := W_X4 u) [] 3 (by with_unfolding_all rfl) trivial ?_
  refine ev_callS1 0 (t_J6_bitCount_0f7a4 (a_X3_wronged (a_X4_ahead u))) cs_J6_bitCount_0f7a4 ml_X4_109 rfl rfl rfl (Nat.le_of_ble_eq_true rfl) (by with_unfolding_all rfl) (Nat.le_of_ble_eq_true rfl) ⟨Nat.le_of_ble_eq_true rfl, Nat.le_of_ble_eq_true rfl⟩ ⟨Nat.le_refl _, Nat.le_refl _⟩ ?_ ?_
  · rintro r w ⟨rfl, rfl⟩; rfl
  rintro r w ⟨rfl, rfl⟩
  refine ev_nx (pc' := 65) (st' := [.int (jd_bc (a_X3_wronged (a_X4_ahead u)))]) (w' := W_X4 u) rfl rfl (by with_unfolding_all rfl) rfl rfl ?_
  refine ev_run (cs := []) (pc' := 72) (L' := [some (.ref 0), some (.int v1)]) (st' := [.int (a_X3_wronged (a_X4_now u)), .int (jd_bc (a_X3_wronged (a_X4_ahead u)))]) (w' := W_X4 u) [] 3 (by with_unfolding_all rfl) trivial ?_
  refine ev_callS1 0 (t_J6_bitCount_0f7a4 (a_X3_wronged (a_X4_now u))) cs_J6_bitCount_0f7a4 ml_X4_109 rfl rfl rfl (Nat.le_of_ble_eq_true rfl) (by with_unfolding_all rfl) (Nat.le_of_ble_eq_true rfl) ⟨Nat.le_of_ble_eq_true rfl, Nat.le_of_ble_eq_true rfl⟩ ⟨Nat.le_refl _, Nat.le_refl _⟩ ?_ ?_
  · rintro r w ⟨rfl, rfl⟩; rfl
  rintro r w ⟨rfl, rfl⟩
  refine ev_nx (pc' := 75) (st' := [.int (jd_bc (a_X3_wronged (a_X4_now u))), .int (jd_bc (a_X3_wronged (a_X4_ahead u)))]) (w' := W_X4 u) rfl rfl (by with_unfolding_all rfl) rfl rfl ?_
  refine ev_run (cs := []) (pc' := 76) (L' := [some (.ref 0), some (.int v1)]) (st' := [.int ((jd_bc (a_X3_wronged (a_X4_ahead u))) - (jd_bc (a_X3_wronged (a_X4_now u))))]) (w' := W_X4 u) [] 1 (by with_unfolding_all rfl) trivial ?_
  cases hR
  exact ev_exit ⟨_, _, rfl, ⟨rfl, Or.inl rfl⟩, ⟨rfl, rfl⟩, Nat.le_refl _, Nat.le_refl _⟩

def s_X4_withTried_l5 (F : Nat) (u : S_X4) : Nat → Int64 → Int32 → Option Int64
  | 0 => fun _ _ => none
  | n + 1 => fun v3 v5 => if 2 < v5 then (some (v3)) else ((s_X4_triedPart F u v5).bind fun y1 => ((s_X4_mixed F v3 ((y1 : Int32).toInt64)).bind fun y2 => (s_X4_withTried_l5 F u n y2 (v5 + 1))))
theorem e_X4_withTried_l5 (F : Nat) (u : S_X4) (n : Nat) (v3 : Int64) (v5 : Int32) : s_X4_withTried_l5 F u (n + 1) v3 v5 = if 2 < v5 then (some (v3)) else ((s_X4_triedPart F u v5).bind fun y1 => ((s_X4_mixed F v3 ((y1 : Int32).toInt64)).bind fun y2 => (s_X4_withTried_l5 F u n y2 (v5 + 1)))) := rfl
set_option maxHeartbeats 4000000 in
set_option maxRecDepth 20000 in
theorem t_X4_withTried_l5 (F : Nat) (u : S_X4) (x : Int64)  : ∀ (n : Nat) (v3 : Int64) (v5 : Int32), s_X4_withTried_l5 F u n v3 v5 = some x → ev_V mm_X4_withTried none (ev_XR mm_X4_withTried (fun r w => r = some (.long x) ∧ w = W_X4 u)) 5 [some (.ref 0), none, none, some (.long v3), none, some (.int v5)] [] (W_X4 u) 0 0 := by
  intro n
  induction n with
  | zero => intro v3 v5 hR; cases hR
  | succ n hk5 =>
    intro v3 v5 hR
    unfold s_X4_withTried_l5 at hR
    refine ev_run (cs := []) (pc' := 8) (L' := [some (.ref 0), none, none, some (.long v3), none, some (.int v5)]) (st' := [.int 2, .int v5]) (w' := W_X4 u) [] 2 (by with_unfolding_all rfl) trivial ?_
    refine ev_br rfl rfl (fun h1 => ?_) (fun h1 => ?_)
    · replace hR := lf_t h1 hR
      refine ev_run (cs := []) (pc' := 30) (L' := [some (.ref 0), none, none, some (.long v3), none, some (.int v5)]) (st' := [.long v3]) (w' := W_X4 u) [] 1 (by with_unfolding_all rfl) trivial ?_
      cases hR
      exact ev_exit ⟨_, _, rfl, ⟨rfl, rfl⟩, ⟨rfl, rfl⟩, Nat.le_refl _, Nat.le_refl _⟩
    · replace hR := lf_f h1 hR
      refine ev_run (cs := []) (pc' := 15) (L' := [some (.ref 0), none, none, some (.long v3), none, some (.int v5)]) (st' := [.int v5, .ref 0, .long v3]) (w' := W_X4 u) [] 3 (by with_unfolding_all rfl) trivial ?_
      obtain ⟨y1, h2, hR⟩ := lf_b hR
      refine ev_callV1 0 (t_X4_triedPart F u v5 _ h2) cv_X4_triedPart ml_X4_246 rfl rfl rfl (Nat.le_of_ble_eq_true rfl) (by with_unfolding_all rfl) (Nat.le_of_ble_eq_true rfl) ⟨Nat.le_of_ble_eq_true rfl, Nat.le_of_ble_eq_true rfl⟩ ⟨Nat.le_refl _, Nat.le_refl _⟩ ?_ ?_
      · rintro r w ⟨rfl, rfl⟩; rfl
      rintro r w ⟨rfl, rfl⟩
      refine ev_nx (pc' := 18) (st' := [.int y1, .long v3]) (w' := W_X4 u) rfl rfl (by with_unfolding_all rfl) rfl rfl ?_
      refine ev_run (cs := []) (pc' := 19) (L' := [some (.ref 0), none, none, some (.long v3), none, some (.int v5)]) (st' := [.long ((y1 : Int32).toInt64), .long v3]) (w' := W_X4 u) [] 1 (by with_unfolding_all rfl) trivial ?_
      obtain ⟨y2, h3, hR⟩ := lf_b hR
      refine ev_callS1 0 (t_X4_mixed F v3 ((y1 : Int32).toInt64) _ h3) cs_X4_mixed ml_X4_268 rfl rfl rfl (Nat.le_of_ble_eq_true rfl) (by with_unfolding_all rfl) (Nat.le_of_ble_eq_true rfl) ⟨Nat.le_of_ble_eq_true rfl, Nat.le_of_ble_eq_true rfl⟩ ⟨Nat.le_refl _, Nat.le_refl _⟩ ?_ ?_
      · rintro r w ⟨rfl, rfl⟩; rfl
      rintro r w ⟨rfl, rfl⟩
      refine ev_nx (pc' := 22) (st' := [.long y2]) (w' := W_X4 u) rfl rfl (by with_unfolding_all rfl) rfl rfl ?_
      refine ev_run (cs := []) (pc' := 5) (L' := [some (.ref 0), none, none, some (.long y2), none, some (.int (v5 + 1))]) (st' := []) (w' := W_X4 u) [] 3 (by with_unfolding_all rfl) trivial ?_
      exact ev_to2 (hk5 _ _ hR) ⟨rfl, rfl, rfl, trivial⟩ rfl rfl

def s_X4_withTried (F : Nat) (u : S_X4) (v1 : Int64) : Option Int64 := s_X4_withTried_l5 F u F v1 0
set_option maxHeartbeats 4000000 in
set_option maxRecDepth 20000 in
theorem t_X4_withTried (F : Nat) (u : S_X4) (v1 : Int64) (x : Int64) (hR : s_X4_withTried F u v1 = some x) : ev_A yX4_withTried mm_X4_withTried none [.ref 0, .long v1] (W_X4 u) (fun r w => r = some (.long x) ∧ w = W_X4 u) := by
  unfold s_X4_withTried at hR
  refine ev_start ok_X4_withTried (by decide +kernel) rfl rfl (Nat.le_of_ble_eq_true rfl) ?_
  refine ev_run (cs := []) (pc' := 5) (L' := [some (.ref 0), some (.long v1), none, some (.long v1), none, some (.int 0)]) (st' := []) (w' := W_X4 u) [] 4 (by with_unfolding_all rfl) trivial ?_
  exact ev_to2 (t_X4_withTried_l5 F u _ F v1 0 hR) ⟨rfl, rfl, rfl, trivial⟩ rfl rfl

def s_X4_withBestCut_b42 (F : Nat) (u : S_X4) (p0 : Int64) (p1 : Int64) : Option Int64 := (s_X4_mixed F p0 p1).bind fun y1 => (some (y1))
set_option maxHeartbeats 4000000 in
set_option maxRecDepth 20000 in
theorem t_X4_withBestCut_b42 (F : Nat) (u : S_X4) (p0 : Int64) (p1 : Int64) (x : Int64)  (hR : s_X4_withBestCut_b42 F u p0 p1 = some x) : ev_V mm_X4_withBestCut none (ev_XR mm_X4_withBestCut (fun r w => r = some (.long x) ∧ w = W_X4 u)) 42 [some (.ref 0), none, none, none, none, none] [.long p1, .long p0] (W_X4 u) 0 0 := by
  unfold s_X4_withBestCut_b42 at hR
  obtain ⟨y1, h1, hR⟩ := lf_b hR
  refine ev_callS1 0 (t_X4_mixed F p0 p1 _ h1) cs_X4_mixed ml_X4_268 rfl rfl rfl (Nat.le_of_ble_eq_true rfl) (by with_unfolding_all rfl) (Nat.le_of_ble_eq_true rfl) ⟨Nat.le_of_ble_eq_true rfl, Nat.le_of_ble_eq_true rfl⟩ ⟨Nat.le_refl _, Nat.le_refl _⟩ ?_ ?_
  · rintro r w ⟨rfl, rfl⟩; rfl
  rintro r w ⟨rfl, rfl⟩
  refine ev_nx (pc' := 45) (st' := [.long y1]) (w' := W_X4 u) rfl rfl (by with_unfolding_all rfl) rfl rfl ?_
  cases hR
  exact ev_exit ⟨_, _, rfl, ⟨rfl, rfl⟩, ⟨rfl, rfl⟩, Nat.le_refl _, Nat.le_refl _⟩

def s_X4_withBestCut (F : Nat) (u : S_X4) (v1 : Int64) : Option Int64 := (s_X0_cutWithMostLost F (a_X3_hold (a_X4_now u))).bind fun y1 => ((s_X4_mixed F v1 ((y1 : Int32).toInt64)).bind fun y2 => (if y1 = (-1) then (s_X4_withBestCut_b42 F u y2 0) else ((s_X0_lostWithout F (a_X3_hold (a_X4_now u)) y1).bind fun y3 => (s_X4_withBestCut_b42 F u y2 ((y3 : Int32).toInt64)))))
set_option maxHeartbeats 4000000 in
set_option maxRecDepth 20000 in
theorem t_X4_withBestCut (F : Nat) (u : S_X4) (v1 : Int64) (x : Int64) (hR : s_X4_withBestCut F u v1 = some x) : ev_A yX4_withBestCut mm_X4_withBestCut none [.ref 0, .long v1] (W_X4 u) (fun r w => r = some (.long x) ∧ w = W_X4 u) := by
  unfold s_X4_withBestCut at hR
  refine ev_start ok_X4_withBestCut (by decide +kernel) rfl rfl (Nat.le_of_ble_eq_true rfl) ?_
  refine ev_run (cs := []) (pc' := 7) (L' := [some (.ref 0), some (.long v1), none, none, none, none]) (st' := [.ref 10]) (w' := W_X4 u) [] 3 (by with_unfolding_all rfl) trivial ?_
  obtain ⟨y1, h1, hR⟩ := lf_b hR
  refine ev_callV1 10 (t_X0_cutWithMostLost F (a_X3_hold (a_X4_now u)) _ h1) cv_X0_cutWithMostLost ml_X4_254 rfl rfl rfl (Nat.le_of_ble_eq_true rfl) (by with_unfolding_all rfl) (Nat.le_of_ble_eq_true rfl) ⟨Nat.le_of_ble_eq_true rfl, Nat.le_of_ble_eq_true rfl⟩ ⟨Nat.le_refl _, Nat.le_refl _⟩ ?_ ?_
  · rintro r w ⟨rfl, rfl⟩; rfl
  rintro r w ⟨rfl, rfl⟩
  refine ev_nx (pc' := 10) (st' := [.int y1]) (w' := W_X4 u) rfl rfl (by with_unfolding_all rfl) rfl rfl ?_
  refine ev_run (cs := []) (pc' := 14) (L' := [some (.ref 0), some (.long v1), none, some (.int y1), none, none]) (st' := [.long ((y1 : Int32).toInt64), .long v1]) (w' := W_X4 u) [] 4 (by with_unfolding_all rfl) trivial ?_
  obtain ⟨y2, h2, hR⟩ := lf_b hR
  refine ev_callS1 0 (t_X4_mixed F v1 ((y1 : Int32).toInt64) _ h2) cs_X4_mixed ml_X4_268 rfl rfl rfl (Nat.le_of_ble_eq_true rfl) (by with_unfolding_all rfl) (Nat.le_of_ble_eq_true rfl) ⟨Nat.le_of_ble_eq_true rfl, Nat.le_of_ble_eq_true rfl⟩ ⟨Nat.le_refl _, Nat.le_refl _⟩ ?_ ?_
  · rintro r w ⟨rfl, rfl⟩; rfl
  rintro r w ⟨rfl, rfl⟩
  refine ev_nx (pc' := 17) (st' := [.long y2]) (w' := W_X4 u) rfl rfl (by with_unfolding_all rfl) rfl rfl ?_
  refine ev_run (cs := []) (pc' := 23) (L' := [some (.ref 0), some (.long v1), none, some (.int y1), some (.long y2), none]) (st' := [.int (-1), .int y1, .long y2]) (w' := W_X4 u) [] 4 (by with_unfolding_all rfl) trivial ?_
  refine ev_br rfl rfl (fun h3 => ?_) (fun h3 => ?_)
  · replace hR := lf_f h3 hR
    refine ev_run (cs := []) (pc' := 38) (L' := [some (.ref 0), some (.long v1), none, some (.int y1), some (.long y2), none]) (st' := [.int y1, .ref 10, .long y2]) (w' := W_X4 u) [] 4 (by with_unfolding_all rfl) trivial ?_
    obtain ⟨y3, h4, hR⟩ := lf_b hR
    refine ev_callV1 10 (t_X0_lostWithout F (a_X3_hold (a_X4_now u)) y1 _ h4) cv_X0_lostWithout ml_X4_257 rfl rfl rfl (Nat.le_of_ble_eq_true rfl) (by with_unfolding_all rfl) (Nat.le_of_ble_eq_true rfl) ⟨Nat.le_of_ble_eq_true rfl, Nat.le_of_ble_eq_true rfl⟩ ⟨Nat.le_refl _, Nat.le_refl _⟩ ?_ ?_
    · rintro r w ⟨rfl, rfl⟩; rfl
    rintro r w ⟨rfl, rfl⟩
    refine ev_nx (pc' := 41) (st' := [.int y3, .long y2]) (w' := W_X4 u) rfl rfl (by with_unfolding_all rfl) rfl rfl ?_
    refine ev_run (cs := []) (pc' := 42) (L' := [some (.ref 0), some (.long v1), none, some (.int y1), some (.long y2), none]) (st' := [.long ((y3 : Int32).toInt64), .long y2]) (w' := W_X4 u) [] 1 (by with_unfolding_all rfl) trivial ?_
    exact ev_to2 (t_X4_withBestCut_b42 F u y2 ((y3 : Int32).toInt64) _ hR) ⟨rfl, trivial⟩ rfl rfl
  · replace hR := lf_t h3 hR
    refine ev_run (cs := []) (pc' := 42) (L' := [some (.ref 0), some (.long v1), none, some (.int y1), some (.long y2), none]) (st' := [.long 0, .long y2]) (w' := W_X4 u) [] 2 (by with_unfolding_all rfl) trivial ?_
    exact ev_to2 (t_X4_withBestCut_b42 F u y2 0 _ hR) ⟨rfl, trivial⟩ rfl rfl

def s_X4_foresee (F : Nat) (u : S_X4) (v1 : Int32) : Option S_X4 := (s_X3_copyFrom F (a_X4_ahead u) (a_X4_now u)).bind fun y1 => ((s_X3_passTicks F y1 v1).bind fun y2 => (some (m_X4_ahead y2.2 u)))
set_option maxHeartbeats 4000000 in
set_option maxRecDepth 20000 in
theorem t_X4_foresee (F : Nat) (u : S_X4) (v1 : Int32) (x : S_X4) (hR : s_X4_foresee F u v1 = some x) : ev_A yX4_foresee mm_X4_foresee none [.ref 0, .int v1] (W_X4 u) (fun r w => r = none ∧ w = W_X4 x) := by
  unfold s_X4_foresee at hR
  refine ev_start ok_X4_foresee (by decide +kernel) rfl rfl (Nat.le_of_ble_eq_true rfl) ?_
  refine ev_run (cs := []) (pc' := 8) (L' := [some (.ref 0), some (.int v1)]) (st' := [.ref 1, .ref 16]) (w' := W_X4 u) [] 4 (by with_unfolding_all rfl) trivial ?_
  obtain ⟨y1, h1, hR⟩ := lf_b hR
  refine ev_callV2 15 16 1 (t_X3_copyFrom F (a_X4_ahead u) (a_X4_now u) _ h1) cv_X3_copyFrom ml_X4_178 rfl rfl rfl rfl (Nat.le_of_ble_eq_true rfl) (Nat.le_of_ble_eq_true rfl) (by decide) (by with_unfolding_all rfl) (Nat.le_of_ble_eq_true rfl) ⟨Nat.le_of_ble_eq_true rfl, Nat.le_of_ble_eq_true rfl⟩ ⟨Nat.le_refl _, Nat.le_refl _⟩ ?_ ?_
  · rintro r w ⟨rfl, rfl⟩; rfl
  rintro r w ⟨rfl, rfl⟩
  refine ev_nx (pc' := 11) (st' := []) (w' := W_X4 (m_X4_ahead y1 u)) rfl rfl (by with_unfolding_all rfl) rfl rfl ?_
  refine ev_run (cs := []) (pc' := 16) (L' := [some (.ref 0), some (.int v1)]) (st' := [.int v1, .ref 16]) (w' := W_X4 (m_X4_ahead y1 u)) [] 3 (by with_unfolding_all rfl) trivial ?_
  obtain ⟨y2, h2, hR⟩ := lf_b hR
  refine ev_callV1 16 (t_X3_passTicks F y1 v1 _ h2) cv_X3_passTicks ml_X4_135 rfl rfl rfl (Nat.le_of_ble_eq_true rfl) (by with_unfolding_all rfl) (Nat.le_of_ble_eq_true rfl) ⟨Nat.le_of_ble_eq_true rfl, Nat.le_of_ble_eq_true rfl⟩ ⟨Nat.le_refl _, Nat.le_refl _⟩ ?_ ?_
  · rintro r w ⟨rfl, rfl⟩; rfl
  rintro r w ⟨rfl, rfl⟩
  refine ev_nx (pc' := 19) (st' := [.int y2.1]) (w' := W_X4 (m_X4_ahead y2.2 u)) rfl rfl (by with_unfolding_all rfl) rfl rfl ?_
  refine ev_run (cs := []) (pc' := 20) (L' := [some (.ref 0), some (.int v1)]) (st' := []) (w' := W_X4 (m_X4_ahead y2.2 u)) [] 1 (by with_unfolding_all rfl) trivial ?_
  cases hR
  exact ev_exit ⟨_, _, rfl, ⟨rfl, rfl⟩, ⟨rfl, rfl⟩, Nat.le_refl _, Nat.le_refl _⟩

def s_X4_foreseeTrial (F : Nat) (u : S_X4) : Option S_X4 := (s_X3_copyFrom F (a_X4_ahead u) (a_X4_now u)).bind fun y1 => ((s_X3_holdTrial F y1).bind fun y2 => (some (m_X4_ahead y2.2 u)))
set_option maxHeartbeats 4000000 in
set_option maxRecDepth 20000 in
theorem t_X4_foreseeTrial (F : Nat) (u : S_X4) (x : S_X4) (hR : s_X4_foreseeTrial F u = some x) : ev_A yX4_foreseeTrial mm_X4_foreseeTrial none [.ref 0] (W_X4 u) (fun r w => r = none ∧ w = W_X4 x) := by
  unfold s_X4_foreseeTrial at hR
  refine ev_start ok_X4_foreseeTrial (by decide +kernel) rfl rfl (Nat.le_of_ble_eq_true rfl) ?_
  refine ev_run (cs := []) (pc' := 8) (L' := [some (.ref 0)]) (st' := [.ref 1, .ref 16]) (w' := W_X4 u) [] 4 (by with_unfolding_all rfl) trivial ?_
  obtain ⟨y1, h1, hR⟩ := lf_b hR
  refine ev_callV2 15 16 1 (t_X3_copyFrom F (a_X4_ahead u) (a_X4_now u) _ h1) cv_X3_copyFrom ml_X4_178 rfl rfl rfl rfl (Nat.le_of_ble_eq_true rfl) (Nat.le_of_ble_eq_true rfl) (by decide) (by with_unfolding_all rfl) (Nat.le_of_ble_eq_true rfl) ⟨Nat.le_of_ble_eq_true rfl, Nat.le_of_ble_eq_true rfl⟩ ⟨Nat.le_refl _, Nat.le_refl _⟩ ?_ ?_
  · rintro r w ⟨rfl, rfl⟩; rfl
  rintro r w ⟨rfl, rfl⟩
  refine ev_nx (pc' := 11) (st' := []) (w' := W_X4 (m_X4_ahead y1 u)) rfl rfl (by with_unfolding_all rfl) rfl rfl ?_
  refine ev_run (cs := []) (pc' := 15) (L' := [some (.ref 0)]) (st' := [.ref 16]) (w' := W_X4 (m_X4_ahead y1 u)) [] 2 (by with_unfolding_all rfl) trivial ?_
  obtain ⟨y2, h2, hR⟩ := lf_b hR
  refine ev_callV1 16 (t_X3_holdTrial F y1 _ h2) cv_X3_holdTrial ml_X4_138 rfl rfl rfl (Nat.le_of_ble_eq_true rfl) (by with_unfolding_all rfl) (Nat.le_of_ble_eq_true rfl) ⟨Nat.le_of_ble_eq_true rfl, Nat.le_of_ble_eq_true rfl⟩ ⟨Nat.le_refl _, Nat.le_refl _⟩ ?_ ?_
  · rintro r w ⟨rfl, rfl⟩; rfl
  rintro r w ⟨rfl, rfl⟩
  refine ev_nx (pc' := 18) (st' := [.int y2.1]) (w' := W_X4 (m_X4_ahead y2.2 u)) rfl rfl (by with_unfolding_all rfl) rfl rfl ?_
  refine ev_run (cs := []) (pc' := 19) (L' := [some (.ref 0)]) (st' := []) (w' := W_X4 (m_X4_ahead y2.2 u)) [] 1 (by with_unfolding_all rfl) trivial ?_
  cases hR
  exact ev_exit ⟨_, _, rfl, ⟨rfl, rfl⟩, ⟨rfl, rfl⟩, Nat.le_refl _, Nat.le_refl _⟩

def s_X4_slandersToEnd_l13 (F : Nat) (v1 : Int32) : Nat → S_X4 → Int32 → Option (Int32 × S_X4)
  | 0 => fun _ _ => none
  | n + 1 => fun u v2 => if 12 < v2 then (some ((-1), u)) else ((s_X3_copyFrom F (a_X4_ahead u) (a_X4_slandered u)).bind fun y1 => ((s_X3_passTicks F y1 30).bind fun y2 => ((s_X3_lives F y2.2 v1).bind fun y3 => (if y3 then ((s_X3_lie F (a_X4_slandered u) v1 (-1)).bind fun y4 => (s_X4_slandersToEnd_l13 F v1 n (m_X4_slandered y4.2 (m_X4_ahead y2.2 u)) (v2 + 1))) else (some (v2, m_X4_ahead y2.2 u))))))
theorem e_X4_slandersToEnd_l13 (F : Nat) (v1 : Int32) (n : Nat) (u : S_X4) (v2 : Int32) : s_X4_slandersToEnd_l13 F v1 (n + 1) u v2 = if 12 < v2 then (some ((-1), u)) else ((s_X3_copyFrom F (a_X4_ahead u) (a_X4_slandered u)).bind fun y1 => ((s_X3_passTicks F y1 30).bind fun y2 => ((s_X3_lives F y2.2 v1).bind fun y3 => (if y3 then ((s_X3_lie F (a_X4_slandered u) v1 (-1)).bind fun y4 => (s_X4_slandersToEnd_l13 F v1 n (m_X4_slandered y4.2 (m_X4_ahead y2.2 u)) (v2 + 1))) else (some (v2, m_X4_ahead y2.2 u)))))) := rfl
set_option maxHeartbeats 4000000 in
set_option maxRecDepth 20000 in
theorem t_X4_slandersToEnd_l13 (F : Nat) (v1 : Int32) (x : (Int32 × S_X4))  : ∀ (n : Nat) (u : S_X4) (v2 : Int32), s_X4_slandersToEnd_l13 F v1 n u v2 = some x → ev_V mm_X4_slandersToEnd none (ev_XR mm_X4_slandersToEnd (fun r w => r = some (.int x.1) ∧ w = W_X4 x.2)) 13 [some (.ref 0), some (.int v1), some (.int v2)] [] (W_X4 u) 0 0 := by
  intro n
  induction n with
  | zero => intro u v2 hR; cases hR
  | succ n hk13 =>
    intro u v2 hR
    unfold s_X4_slandersToEnd_l13 at hR
    refine ev_run (cs := []) (pc' := 16) (L' := [some (.ref 0), some (.int v1), some (.int v2)]) (st' := [.int 12, .int v2]) (w' := W_X4 u) [] 2 (by with_unfolding_all rfl) trivial ?_
    refine ev_br rfl rfl (fun h1 => ?_) (fun h1 => ?_)
    · replace hR := lf_t h1 hR
      refine ev_run (cs := []) (pc' := 70) (L' := [some (.ref 0), some (.int v1), some (.int v2)]) (st' := [.int (-1)]) (w' := W_X4 u) [] 1 (by with_unfolding_all rfl) trivial ?_
      cases hR
      exact ev_exit ⟨_, _, rfl, ⟨rfl, Or.inl rfl⟩, ⟨rfl, rfl⟩, Nat.le_refl _, Nat.le_refl _⟩
    · replace hR := lf_f h1 hR
      refine ev_run (cs := []) (pc' := 27) (L' := [some (.ref 0), some (.int v1), some (.int v2)]) (st' := [.ref 31, .ref 16]) (w' := W_X4 u) [] 4 (by with_unfolding_all rfl) trivial ?_
      obtain ⟨y1, h2, hR⟩ := lf_b hR
      refine ev_callV2 15 16 31 (t_X3_copyFrom F (a_X4_ahead u) (a_X4_slandered u) _ h2) cv_X3_copyFrom ml_X4_178 rfl rfl rfl rfl (Nat.le_of_ble_eq_true rfl) (Nat.le_of_ble_eq_true rfl) (by decide) (by with_unfolding_all rfl) (Nat.le_of_ble_eq_true rfl) ⟨Nat.le_of_ble_eq_true rfl, Nat.le_of_ble_eq_true rfl⟩ ⟨Nat.le_refl _, Nat.le_refl _⟩ ?_ ?_
      · rintro r w ⟨rfl, rfl⟩; rfl
      rintro r w ⟨rfl, rfl⟩
      refine ev_nx (pc' := 30) (st' := []) (w' := W_X4 (m_X4_ahead y1 u)) rfl rfl (by with_unfolding_all rfl) rfl rfl ?_
      refine ev_run (cs := []) (pc' := 36) (L' := [some (.ref 0), some (.int v1), some (.int v2)]) (st' := [.int 30, .ref 16]) (w' := W_X4 (m_X4_ahead y1 u)) [] 3 (by with_unfolding_all rfl) trivial ?_
      obtain ⟨y2, h3, hR⟩ := lf_b hR
      refine ev_callV1 16 (t_X3_passTicks F y1 30 _ h3) cv_X3_passTicks ml_X4_135 rfl rfl rfl (Nat.le_of_ble_eq_true rfl) (by with_unfolding_all rfl) (Nat.le_of_ble_eq_true rfl) ⟨Nat.le_of_ble_eq_true rfl, Nat.le_of_ble_eq_true rfl⟩ ⟨Nat.le_refl _, Nat.le_refl _⟩ ?_ ?_
      · rintro r w ⟨rfl, rfl⟩; rfl
      rintro r w ⟨rfl, rfl⟩
      refine ev_nx (pc' := 39) (st' := [.int y2.1]) (w' := W_X4 (m_X4_ahead y2.2 u)) rfl rfl (by with_unfolding_all rfl) rfl rfl ?_
      refine ev_run (cs := []) (pc' := 45) (L' := [some (.ref 0), some (.int v1), some (.int v2)]) (st' := [.int v1, .ref 16]) (w' := W_X4 (m_X4_ahead y2.2 u)) [] 4 (by with_unfolding_all rfl) trivial ?_
      obtain ⟨y3, h4, hR⟩ := lf_b hR
      refine ev_callV1 16 (t_X3_lives F y2.2 v1 _ h4) cv_X3_lives ml_X4_85 rfl rfl rfl (Nat.le_of_ble_eq_true rfl) (by with_unfolding_all rfl) (Nat.le_of_ble_eq_true rfl) ⟨Nat.le_of_ble_eq_true rfl, Nat.le_of_ble_eq_true rfl⟩ ⟨Nat.le_refl _, Nat.le_refl _⟩ ?_ ?_
      · rintro r w ⟨rfl, rfl⟩; rfl
      rintro r w ⟨rfl, rfl⟩
      refine ev_nx (pc' := 48) (st' := [.int (ev_b y3)]) (w' := W_X4 (m_X4_ahead y2.2 u)) rfl rfl (by with_unfolding_all rfl) rfl rfl ?_
      refine ev_br rfl rfl (fun h5 => ?_) (fun h5 => ?_)
      · replace hR := lf_z1 h5 hR
        refine ev_run (cs := []) (pc' := 59) (L' := [some (.ref 0), some (.int v1), some (.int v2)]) (st' := [.int (-1), .int v1, .ref 31]) (w' := W_X4 (m_X4_ahead y2.2 u)) [] 4 (by with_unfolding_all rfl) trivial ?_
        obtain ⟨y4, h6, hR⟩ := lf_b hR
        refine ev_callV1 31 (t_X3_lie F (a_X4_slandered u) v1 (-1) _ h6) cv_X3_lie ml_X4_97 rfl rfl rfl (Nat.le_of_ble_eq_true rfl) (by with_unfolding_all rfl) (Nat.le_of_ble_eq_true rfl) ⟨Nat.le_of_ble_eq_true rfl, Nat.le_of_ble_eq_true rfl⟩ ⟨Nat.le_refl _, Nat.le_refl _⟩ ?_ ?_
        · rintro r w ⟨rfl, rfl⟩; rfl
        rintro r w ⟨rfl, rfl⟩
        refine ev_nx (pc' := 62) (st' := [.int y4.1]) (w' := W_X4 (m_X4_slandered y4.2 (m_X4_ahead y2.2 u))) rfl rfl (by with_unfolding_all rfl) rfl rfl ?_
        refine ev_run (cs := []) (pc' := 13) (L' := [some (.ref 0), some (.int v1), some (.int (v2 + 1))]) (st' := []) (w' := W_X4 (m_X4_slandered y4.2 (m_X4_ahead y2.2 u))) [] 3 (by with_unfolding_all rfl) trivial ?_
        exact ev_to2 (hk13 _ _ hR) ⟨rfl, rfl, rfl, trivial⟩ rfl rfl
      · replace hR := lf_z0 h5 hR
        refine ev_run (cs := []) (pc' := 52) (L' := [some (.ref 0), some (.int v1), some (.int v2)]) (st' := [.int v2]) (w' := W_X4 (m_X4_ahead y2.2 u)) [] 1 (by with_unfolding_all rfl) trivial ?_
        cases hR
        exact ev_exit ⟨_, _, rfl, ⟨rfl, Or.inl rfl⟩, ⟨rfl, rfl⟩, Nat.le_refl _, Nat.le_refl _⟩

def s_X4_slandersToEnd (F : Nat) (u : S_X4) (v1 : Int32) : Option (Int32 × S_X4) := (s_X3_copyFrom F (a_X4_slandered u) (a_X4_now u)).bind fun y1 => (s_X4_slandersToEnd_l13 F v1 F (m_X4_slandered y1 u) 0)
set_option maxHeartbeats 4000000 in
set_option maxRecDepth 20000 in
theorem t_X4_slandersToEnd (F : Nat) (u : S_X4) (v1 : Int32) (x : (Int32 × S_X4)) (hR : s_X4_slandersToEnd F u v1 = some x) : ev_A yX4_slandersToEnd mm_X4_slandersToEnd none [.ref 0, .int v1] (W_X4 u) (fun r w => r = some (.int x.1) ∧ w = W_X4 x.2) := by
  unfold s_X4_slandersToEnd at hR
  refine ev_start ok_X4_slandersToEnd (by decide +kernel) rfl rfl (Nat.le_of_ble_eq_true rfl) ?_
  refine ev_run (cs := []) (pc' := 8) (L' := [some (.ref 0), some (.int v1), none]) (st' := [.ref 1, .ref 31]) (w' := W_X4 u) [] 4 (by with_unfolding_all rfl) trivial ?_
  obtain ⟨y1, h1, hR⟩ := lf_b hR
  refine ev_callV2 15 31 1 (t_X3_copyFrom F (a_X4_slandered u) (a_X4_now u) _ h1) cv_X3_copyFrom ml_X4_178 rfl rfl rfl rfl (Nat.le_of_ble_eq_true rfl) (Nat.le_of_ble_eq_true rfl) (by decide) (by with_unfolding_all rfl) (Nat.le_of_ble_eq_true rfl) ⟨Nat.le_of_ble_eq_true rfl, Nat.le_of_ble_eq_true rfl⟩ ⟨Nat.le_refl _, Nat.le_refl _⟩ ?_ ?_
  · rintro r w ⟨rfl, rfl⟩; rfl
  rintro r w ⟨rfl, rfl⟩
  refine ev_nx (pc' := 11) (st' := []) (w' := W_X4 (m_X4_slandered y1 u)) rfl rfl (by with_unfolding_all rfl) rfl rfl ?_
  refine ev_run (cs := []) (pc' := 13) (L' := [some (.ref 0), some (.int v1), some (.int 0)]) (st' := []) (w' := W_X4 (m_X4_slandered y1 u)) [] 2 (by with_unfolding_all rfl) trivial ?_
  exact ev_to2 (t_X4_slandersToEnd_l13 F v1 _ F (m_X4_slandered y1 u) 0 hR) ⟨rfl, rfl, rfl, trivial⟩ rfl rfl

def s_X4_isHand (F : Nat) (v0 : Int32) : Option Bool := if v0 < 0 then (some (false)) else (if 4 ≤ v0 then (some (false)) else (some (true)))
set_option maxHeartbeats 4000000 in
set_option maxRecDepth 20000 in
theorem t_X4_isHand (F : Nat) (v0 : Int32) (x : Bool) (hR : s_X4_isHand F v0 = some x) : ev_A yX4_isHand mm_X4_isHand none [.int v0] (([] : List ev_E)) (fun r w => r = some (.int (ev_b x)) ∧ w = ([] : List ev_E)) := by
  unfold s_X4_isHand at hR
  refine ev_start ok_X4_isHand (by decide +kernel) rfl rfl (Nat.le_of_ble_eq_true rfl) ?_
  refine ev_run (cs := []) (pc' := 1) (L' := [some (.int v0)]) (st' := [.int v0]) (w' := ([] : List ev_E)) [] 1 (by with_unfolding_all rfl) trivial ?_
  refine ev_br rfl rfl (fun h1 => ?_) (fun h1 => ?_)
  · replace hR := lf_t h1 hR
    refine ev_run (cs := []) (pc' := 14) (L' := [some (.int v0)]) (st' := [.int 0]) (w' := ([] : List ev_E)) [] 1 (by with_unfolding_all rfl) trivial ?_
    cases hR
    exact ev_exit ⟨_, _, rfl, ⟨rfl, Or.inr ⟨rfl, rfl⟩⟩, ⟨rfl, rfl⟩, Nat.le_refl _, Nat.le_refl _⟩
  · replace hR := lf_f h1 hR
    refine ev_run (cs := []) (pc' := 6) (L' := [some (.int v0)]) (st' := [.int 4, .int v0]) (w' := ([] : List ev_E)) [] 2 (by with_unfolding_all rfl) trivial ?_
    refine ev_br rfl rfl (fun h2 => ?_) (fun h2 => ?_)
    · replace hR := lf_t h2 hR
      refine ev_run (cs := []) (pc' := 14) (L' := [some (.int v0)]) (st' := [.int 0]) (w' := ([] : List ev_E)) [] 1 (by with_unfolding_all rfl) trivial ?_
      cases hR
      exact ev_exit ⟨_, _, rfl, ⟨rfl, Or.inr ⟨rfl, rfl⟩⟩, ⟨rfl, rfl⟩, Nat.le_refl _, Nat.le_refl _⟩
    · replace hR := lf_f h2 hR
      refine ev_run (cs := []) (pc' := 14) (L' := [some (.int v0)]) (st' := [.int 1]) (w' := ([] : List ev_E)) [] 2 (by with_unfolding_all rfl) trivial ?_
      cases hR
      exact ev_exit ⟨_, _, rfl, ⟨rfl, Or.inr ⟨rfl, rfl⟩⟩, ⟨rfl, rfl⟩, Nat.le_refl _, Nat.le_refl _⟩

def s_X4_isSlot (F : Nat) (v0 : Int32) : Option Bool := if v0 < 0 then (some (false)) else (if 4 ≤ v0 then (some (false)) else (some (true)))
set_option maxHeartbeats 4000000 in
set_option maxRecDepth 20000 in
theorem t_X4_isSlot (F : Nat) (v0 : Int32) (x : Bool) (hR : s_X4_isSlot F v0 = some x) : ev_A yX4_isSlot mm_X4_isSlot none [.int v0] (([] : List ev_E)) (fun r w => r = some (.int (ev_b x)) ∧ w = ([] : List ev_E)) := by
  unfold s_X4_isSlot at hR
  refine ev_start ok_X4_isSlot (by decide +kernel) rfl rfl (Nat.le_of_ble_eq_true rfl) ?_
  refine ev_run (cs := []) (pc' := 1) (L' := [some (.int v0)]) (st' := [.int v0]) (w' := ([] : List ev_E)) [] 1 (by with_unfolding_all rfl) trivial ?_
  refine ev_br rfl rfl (fun h1 => ?_) (fun h1 => ?_)
  · replace hR := lf_t h1 hR
    refine ev_run (cs := []) (pc' := 14) (L' := [some (.int v0)]) (st' := [.int 0]) (w' := ([] : List ev_E)) [] 1 (by with_unfolding_all rfl) trivial ?_
    cases hR
    exact ev_exit ⟨_, _, rfl, ⟨rfl, Or.inr ⟨rfl, rfl⟩⟩, ⟨rfl, rfl⟩, Nat.le_refl _, Nat.le_refl _⟩
  · replace hR := lf_f h1 hR
    refine ev_run (cs := []) (pc' := 6) (L' := [some (.int v0)]) (st' := [.int 4, .int v0]) (w' := ([] : List ev_E)) [] 2 (by with_unfolding_all rfl) trivial ?_
    refine ev_br rfl rfl (fun h2 => ?_) (fun h2 => ?_)
    · replace hR := lf_t h2 hR
      refine ev_run (cs := []) (pc' := 14) (L' := [some (.int v0)]) (st' := [.int 0]) (w' := ([] : List ev_E)) [] 1 (by with_unfolding_all rfl) trivial ?_
      cases hR
      exact ev_exit ⟨_, _, rfl, ⟨rfl, Or.inr ⟨rfl, rfl⟩⟩, ⟨rfl, rfl⟩, Nat.le_refl _, Nat.le_refl _⟩
    · replace hR := lf_f h2 hR
      refine ev_run (cs := []) (pc' := 14) (L' := [some (.int v0)]) (st' := [.int 1]) (w' := ([] : List ev_E)) [] 2 (by with_unfolding_all rfl) trivial ?_
      cases hR
      exact ev_exit ⟨_, _, rfl, ⟨rfl, Or.inr ⟨rfl, rfl⟩⟩, ⟨rfl, rfl⟩, Nat.le_refl _, Nat.le_refl _⟩

def s_X4_doStep (F : Nat) (u : S_X4) : Option (Bool × S_X4) := if (a_X2_letter (a_X4_text u)) = 104 then ((s_X4_isHand F ((a_X2_numbers (a_X4_text u)) (0 : Int32).toNatClampNeg)).bind fun y1 => (if y1 then ((s_X3_mayBeHeld F (a_X4_now u) ((a_X2_numbers (a_X4_text u)) (1 : Int32).toNatClampNeg)).bind fun y2 => (if y2 then ((s_X3_change F (a_X4_now u) ((a_X2_numbers (a_X4_text u)) (0 : Int32).toNatClampNeg) ((a_X2_numbers (a_X4_text u)) (1 : Int32).toNatClampNeg)).bind fun y3 => (some (true, m_X4_now y3.2 u))) else (some (false, u)))) else (some (false, u)))) else (if (a_X2_letter (a_X4_text u)) = 110 then (if 24 ≤ (a_X3_things (a_X4_now u)) then (some (false, u)) else ((s_X3_bring F (a_X4_now u) ((a_X2_numbers (a_X4_text u)) (0 : Int32).toNatClampNeg)).bind fun y4 => (if y4.1 = (-1) then (some (false, m_X4_now y4.2 u)) else (some (true, m_X4_now y4.2 u))))) else (if (a_X2_letter (a_X4_text u)) = 115 then ((s_X3_lives F (a_X4_now u) ((a_X2_numbers (a_X4_text u)) (0 : Int32).toNatClampNeg)).bind fun y5 => (if y5 then ((s_X4_isSlot F ((a_X2_numbers (a_X4_text u)) (1 : Int32).toNatClampNeg)).bind fun y6 => (if y6 then ((s_X3_mayBeHeld F (a_X4_now u) ((a_X2_numbers (a_X4_text u)) (2 : Int32).toNatClampNeg)).bind fun y7 => (if y7 then ((s_X3_change F (a_X4_now u) (st_pl ((a_X2_numbers (a_X4_text u)) (0 : Int32).toNatClampNeg) ((a_X2_numbers (a_X4_text u)) (1 : Int32).toNatClampNeg)) ((a_X2_numbers (a_X4_text u)) (2 : Int32).toNatClampNeg)).bind fun y8 => (some (true, m_X4_now y8.2 u))) else (some (false, u)))) else (some (false, u)))) else (some (false, u)))) else (if (a_X2_letter (a_X4_text u)) = 116 then (if ((a_X3_time (a_X4_now u)) + ((a_X2_numbers (a_X4_text u)) (0 : Int32).toNatClampNeg)) ≤ 5000 then ((s_X3_passTicks F (a_X4_now u) ((a_X2_numbers (a_X4_text u)) (0 : Int32).toNatClampNeg)).bind fun y9 => (some (true, m_X4_now y9.2 u))) else (some (false, u))) else ((s_X3_holdTrial F (a_X4_now u)).bind fun y10 => (some (true, m_X4_now y10.2 u))))))
set_option maxHeartbeats 4000000 in
set_option maxRecDepth 20000 in
theorem t_X4_doStep (F : Nat) (u : S_X4) (x : (Bool × S_X4)) (hR : s_X4_doStep F u = some x) : ev_A yX4_doStep mm_X4_doStep none [.ref 0] (W_X4 u) (fun r w => r = some (.int (ev_b x.1)) ∧ w = W_X4 x.2) := by
  unfold s_X4_doStep at hR
  refine ev_start ok_X4_doStep (by decide +kernel) rfl rfl (Nat.le_of_ble_eq_true rfl) ?_
  refine ev_run (cs := [lf_ix 0 3, lf_ix 1 3]) (pc' := 20) (L' := [some (.ref 0), some (.int ((a_X2_numbers (a_X4_text u)) (0 : Int32).toNatClampNeg)), some (.int ((a_X2_numbers (a_X4_text u)) (1 : Int32).toNatClampNeg)), none]) (st' := []) (w' := W_X4 u) [] 12 (by with_unfolding_all rfl) ⟨by show ¬ _; decide, by show ¬ _; decide⟩ ?_
  refine ev_run (cs := [lf_ix 2 3]) (pc' := 37) (L' := [some (.ref 0), some (.int ((a_X2_numbers (a_X4_text u)) (0 : Int32).toNatClampNeg)), some (.int ((a_X2_numbers (a_X4_text u)) (1 : Int32).toNatClampNeg)), some (.int ((a_X2_numbers (a_X4_text u)) (2 : Int32).toNatClampNeg))]) (st' := [.int (a_X2_letter (a_X4_text u))]) (w' := W_X4 u) [] 9 (by with_unfolding_all rfl) (by show ¬ _; decide) ?_
  by_cases h1 : (a_X2_letter (a_X4_text u)) = 104
  · replace hR := lf_t h1 hR
    refine ev_lit h1 (ev_lsw 110 rfl rfl rfl rfl ?_)
    refine ev_run (cs := []) (pc' := 111) (L' := [some (.ref 0), some (.int ((a_X2_numbers (a_X4_text u)) (0 : Int32).toNatClampNeg)), some (.int ((a_X2_numbers (a_X4_text u)) (1 : Int32).toNatClampNeg)), some (.int ((a_X2_numbers (a_X4_text u)) (2 : Int32).toNatClampNeg))]) (st' := [.int ((a_X2_numbers (a_X4_text u)) (0 : Int32).toNatClampNeg)]) (w' := W_X4 u) [] 1 (by with_unfolding_all rfl) trivial ?_
    obtain ⟨y1, h2, hR⟩ := lf_b hR
    refine ev_callS1 0 (t_X4_isHand F ((a_X2_numbers (a_X4_text u)) (0 : Int32).toNatClampNeg) _ h2) cs_X4_isHand ml_X4_56 rfl rfl rfl (Nat.le_of_ble_eq_true rfl) (by with_unfolding_all rfl) (Nat.le_of_ble_eq_true rfl) ⟨Nat.le_of_ble_eq_true rfl, Nat.le_of_ble_eq_true rfl⟩ ⟨Nat.le_refl _, Nat.le_refl _⟩ ?_ ?_
    · rintro r w ⟨rfl, rfl⟩; rfl
    rintro r w ⟨rfl, rfl⟩
    refine ev_nx (pc' := 114) (st' := [.int (ev_b y1)]) (w' := W_X4 u) rfl rfl (by with_unfolding_all rfl) rfl rfl ?_
    refine ev_br rfl rfl (fun h3 => ?_) (fun h3 => ?_)
    · replace hR := lf_z0 h3 hR
      refine ev_run (cs := []) (pc' := 129) (L' := [some (.ref 0), some (.int ((a_X2_numbers (a_X4_text u)) (0 : Int32).toNatClampNeg)), some (.int ((a_X2_numbers (a_X4_text u)) (1 : Int32).toNatClampNeg)), some (.int ((a_X2_numbers (a_X4_text u)) (2 : Int32).toNatClampNeg))]) (st' := [.int 0]) (w' := W_X4 u) [] 1 (by with_unfolding_all rfl) trivial ?_
      cases hR
      exact ev_exit ⟨_, _, rfl, ⟨rfl, Or.inr ⟨rfl, rfl⟩⟩, ⟨rfl, rfl⟩, Nat.le_refl _, Nat.le_refl _⟩
    · replace hR := lf_z1 h3 hR
      refine ev_run (cs := []) (pc' := 122) (L' := [some (.ref 0), some (.int ((a_X2_numbers (a_X4_text u)) (0 : Int32).toNatClampNeg)), some (.int ((a_X2_numbers (a_X4_text u)) (1 : Int32).toNatClampNeg)), some (.int ((a_X2_numbers (a_X4_text u)) (2 : Int32).toNatClampNeg))]) (st' := [.int ((a_X2_numbers (a_X4_text u)) (1 : Int32).toNatClampNeg), .ref 1]) (w' := W_X4 u) [] 3 (by with_unfolding_all rfl) trivial ?_
      obtain ⟨y2, h4, hR⟩ := lf_b hR
      refine ev_callV1 1 (t_X3_mayBeHeld F (a_X4_now u) ((a_X2_numbers (a_X4_text u)) (1 : Int32).toNatClampNeg) _ h4) cv_X3_mayBeHeld ml_X4_68 rfl rfl rfl (Nat.le_of_ble_eq_true rfl) (by with_unfolding_all rfl) (Nat.le_of_ble_eq_true rfl) ⟨Nat.le_of_ble_eq_true rfl, Nat.le_of_ble_eq_true rfl⟩ ⟨Nat.le_refl _, Nat.le_refl _⟩ ?_ ?_
      · rintro r w ⟨rfl, rfl⟩; rfl
      rintro r w ⟨rfl, rfl⟩
      refine ev_nx (pc' := 125) (st' := [.int (ev_b y2)]) (w' := W_X4 u) rfl rfl (by with_unfolding_all rfl) rfl rfl ?_
      refine ev_br rfl rfl (fun h5 => ?_) (fun h5 => ?_)
      · replace hR := lf_z1 h5 hR
        refine ev_run (cs := []) (pc' := 136) (L' := [some (.ref 0), some (.int ((a_X2_numbers (a_X4_text u)) (0 : Int32).toNatClampNeg)), some (.int ((a_X2_numbers (a_X4_text u)) (1 : Int32).toNatClampNeg)), some (.int ((a_X2_numbers (a_X4_text u)) (2 : Int32).toNatClampNeg))]) (st' := [.int ((a_X2_numbers (a_X4_text u)) (1 : Int32).toNatClampNeg), .int ((a_X2_numbers (a_X4_text u)) (0 : Int32).toNatClampNeg), .ref 1]) (w' := W_X4 u) [] 4 (by with_unfolding_all rfl) trivial ?_
        obtain ⟨y3, h6, hR⟩ := lf_b hR
        refine ev_callV1 1 (t_X3_change F (a_X4_now u) ((a_X2_numbers (a_X4_text u)) (0 : Int32).toNatClampNeg) ((a_X2_numbers (a_X4_text u)) (1 : Int32).toNatClampNeg) _ h6) cv_X3_change ml_X4_73 rfl rfl rfl (Nat.le_of_ble_eq_true rfl) (by with_unfolding_all rfl) (Nat.le_of_ble_eq_true rfl) ⟨Nat.le_of_ble_eq_true rfl, Nat.le_of_ble_eq_true rfl⟩ ⟨Nat.le_refl _, Nat.le_refl _⟩ ?_ ?_
        · rintro r w ⟨rfl, rfl⟩; rfl
        rintro r w ⟨rfl, rfl⟩
        refine ev_nx (pc' := 139) (st' := [.int y3.1]) (w' := W_X4 (m_X4_now y3.2 u)) rfl rfl (by with_unfolding_all rfl) rfl rfl ?_
        refine ev_run (cs := []) (pc' := 141) (L' := [some (.ref 0), some (.int ((a_X2_numbers (a_X4_text u)) (0 : Int32).toNatClampNeg)), some (.int ((a_X2_numbers (a_X4_text u)) (1 : Int32).toNatClampNeg)), some (.int ((a_X2_numbers (a_X4_text u)) (2 : Int32).toNatClampNeg))]) (st' := [.int 1]) (w' := W_X4 (m_X4_now y3.2 u)) [] 2 (by with_unfolding_all rfl) trivial ?_
        cases hR
        exact ev_exit ⟨_, _, rfl, ⟨rfl, Or.inr ⟨rfl, rfl⟩⟩, ⟨rfl, rfl⟩, Nat.le_refl _, Nat.le_refl _⟩
      · replace hR := lf_z0 h5 hR
        refine ev_run (cs := []) (pc' := 129) (L' := [some (.ref 0), some (.int ((a_X2_numbers (a_X4_text u)) (0 : Int32).toNatClampNeg)), some (.int ((a_X2_numbers (a_X4_text u)) (1 : Int32).toNatClampNeg)), some (.int ((a_X2_numbers (a_X4_text u)) (2 : Int32).toNatClampNeg))]) (st' := [.int 0]) (w' := W_X4 u) [] 1 (by with_unfolding_all rfl) trivial ?_
        cases hR
        exact ev_exit ⟨_, _, rfl, ⟨rfl, Or.inr ⟨rfl, rfl⟩⟩, ⟨rfl, rfl⟩, Nat.le_refl _, Nat.le_refl _⟩
  replace hR := lf_f h1 hR
  by_cases h7 : (a_X2_letter (a_X4_text u)) = 110
  · replace hR := lf_t h7 hR
    refine ev_lit h7 (ev_lsw 80 rfl rfl rfl rfl ?_)
    refine ev_run (cs := []) (pc' := 89) (L' := [some (.ref 0), some (.int ((a_X2_numbers (a_X4_text u)) (0 : Int32).toNatClampNeg)), some (.int ((a_X2_numbers (a_X4_text u)) (1 : Int32).toNatClampNeg)), some (.int ((a_X2_numbers (a_X4_text u)) (2 : Int32).toNatClampNeg))]) (st' := [.int 24, .int (a_X3_things (a_X4_now u))]) (w' := W_X4 u) [] 4 (by with_unfolding_all rfl) trivial ?_
    refine ev_br rfl rfl (fun h8 => ?_) (fun h8 => ?_)
    · replace hR := lf_t h8 hR
      refine ev_run (cs := []) (pc' := 109) (L' := [some (.ref 0), some (.int ((a_X2_numbers (a_X4_text u)) (0 : Int32).toNatClampNeg)), some (.int ((a_X2_numbers (a_X4_text u)) (1 : Int32).toNatClampNeg)), some (.int ((a_X2_numbers (a_X4_text u)) (2 : Int32).toNatClampNeg))]) (st' := [.int 0]) (w' := W_X4 u) [] 1 (by with_unfolding_all rfl) trivial ?_
      cases hR
      exact ev_exit ⟨_, _, rfl, ⟨rfl, Or.inr ⟨rfl, rfl⟩⟩, ⟨rfl, rfl⟩, Nat.le_refl _, Nat.le_refl _⟩
    · replace hR := lf_f h8 hR
      refine ev_run (cs := []) (pc' := 97) (L' := [some (.ref 0), some (.int ((a_X2_numbers (a_X4_text u)) (0 : Int32).toNatClampNeg)), some (.int ((a_X2_numbers (a_X4_text u)) (1 : Int32).toNatClampNeg)), some (.int ((a_X2_numbers (a_X4_text u)) (2 : Int32).toNatClampNeg))]) (st' := [.int ((a_X2_numbers (a_X4_text u)) (0 : Int32).toNatClampNeg), .ref 1]) (w' := W_X4 u) [] 3 (by with_unfolding_all rfl) trivial ?_
      obtain ⟨y4, h9, hR⟩ := lf_b hR
      refine ev_callV1 1 (t_X3_bring F (a_X4_now u) ((a_X2_numbers (a_X4_text u)) (0 : Int32).toNatClampNeg) _ h9) cv_X3_bring ml_X4_52 rfl rfl rfl (Nat.le_of_ble_eq_true rfl) (by with_unfolding_all rfl) (Nat.le_of_ble_eq_true rfl) ⟨Nat.le_of_ble_eq_true rfl, Nat.le_of_ble_eq_true rfl⟩ ⟨Nat.le_refl _, Nat.le_refl _⟩ ?_ ?_
      · rintro r w ⟨rfl, rfl⟩; rfl
      rintro r w ⟨rfl, rfl⟩
      refine ev_nx (pc' := 100) (st' := [.int y4.1]) (w' := W_X4 (m_X4_now y4.2 u)) rfl rfl (by with_unfolding_all rfl) rfl rfl ?_
      refine ev_run (cs := []) (pc' := 101) (L' := [some (.ref 0), some (.int ((a_X2_numbers (a_X4_text u)) (0 : Int32).toNatClampNeg)), some (.int ((a_X2_numbers (a_X4_text u)) (1 : Int32).toNatClampNeg)), some (.int ((a_X2_numbers (a_X4_text u)) (2 : Int32).toNatClampNeg))]) (st' := [.int (-1), .int y4.1]) (w' := W_X4 (m_X4_now y4.2 u)) [] 1 (by with_unfolding_all rfl) trivial ?_
      refine ev_br rfl rfl (fun h10 => ?_) (fun h10 => ?_)
      · replace hR := lf_t h10 hR
        refine ev_run (cs := []) (pc' := 109) (L' := [some (.ref 0), some (.int ((a_X2_numbers (a_X4_text u)) (0 : Int32).toNatClampNeg)), some (.int ((a_X2_numbers (a_X4_text u)) (1 : Int32).toNatClampNeg)), some (.int ((a_X2_numbers (a_X4_text u)) (2 : Int32).toNatClampNeg))]) (st' := [.int 0]) (w' := W_X4 (m_X4_now y4.2 u)) [] 1 (by with_unfolding_all rfl) trivial ?_
        cases hR
        exact ev_exit ⟨_, _, rfl, ⟨rfl, Or.inr ⟨rfl, rfl⟩⟩, ⟨rfl, rfl⟩, Nat.le_refl _, Nat.le_refl _⟩
      · replace hR := lf_f h10 hR
        refine ev_run (cs := []) (pc' := 109) (L' := [some (.ref 0), some (.int ((a_X2_numbers (a_X4_text u)) (0 : Int32).toNatClampNeg)), some (.int ((a_X2_numbers (a_X4_text u)) (1 : Int32).toNatClampNeg)), some (.int ((a_X2_numbers (a_X4_text u)) (2 : Int32).toNatClampNeg))]) (st' := [.int 1]) (w' := W_X4 (m_X4_now y4.2 u)) [] 2 (by with_unfolding_all rfl) trivial ?_
        cases hR
        exact ev_exit ⟨_, _, rfl, ⟨rfl, Or.inr ⟨rfl, rfl⟩⟩, ⟨rfl, rfl⟩, Nat.le_refl _, Nat.le_refl _⟩
  replace hR := lf_f h7 hR
  by_cases h11 : (a_X2_letter (a_X4_text u)) = 115
  · replace hR := lf_t h11 hR
    refine ev_lit h11 (ev_lsw 142 rfl rfl rfl rfl ?_)
    refine ev_run (cs := []) (pc' := 147) (L' := [some (.ref 0), some (.int ((a_X2_numbers (a_X4_text u)) (0 : Int32).toNatClampNeg)), some (.int ((a_X2_numbers (a_X4_text u)) (1 : Int32).toNatClampNeg)), some (.int ((a_X2_numbers (a_X4_text u)) (2 : Int32).toNatClampNeg))]) (st' := [.int ((a_X2_numbers (a_X4_text u)) (0 : Int32).toNatClampNeg), .ref 1]) (w' := W_X4 u) [] 3 (by with_unfolding_all rfl) trivial ?_
    obtain ⟨y5, h12, hR⟩ := lf_b hR
    refine ev_callV1 1 (t_X3_lives F (a_X4_now u) ((a_X2_numbers (a_X4_text u)) (0 : Int32).toNatClampNeg) _ h12) cv_X3_lives ml_X4_85 rfl rfl rfl (Nat.le_of_ble_eq_true rfl) (by with_unfolding_all rfl) (Nat.le_of_ble_eq_true rfl) ⟨Nat.le_of_ble_eq_true rfl, Nat.le_of_ble_eq_true rfl⟩ ⟨Nat.le_refl _, Nat.le_refl _⟩ ?_ ?_
    · rintro r w ⟨rfl, rfl⟩; rfl
    rintro r w ⟨rfl, rfl⟩
    refine ev_nx (pc' := 150) (st' := [.int (ev_b y5)]) (w' := W_X4 u) rfl rfl (by with_unfolding_all rfl) rfl rfl ?_
    refine ev_br rfl rfl (fun h13 => ?_) (fun h13 => ?_)
    · replace hR := lf_z0 h13 hR
      refine ev_run (cs := []) (pc' := 172) (L' := [some (.ref 0), some (.int ((a_X2_numbers (a_X4_text u)) (0 : Int32).toNatClampNeg)), some (.int ((a_X2_numbers (a_X4_text u)) (1 : Int32).toNatClampNeg)), some (.int ((a_X2_numbers (a_X4_text u)) (2 : Int32).toNatClampNeg))]) (st' := [.int 0]) (w' := W_X4 u) [] 1 (by with_unfolding_all rfl) trivial ?_
      cases hR
      exact ev_exit ⟨_, _, rfl, ⟨rfl, Or.inr ⟨rfl, rfl⟩⟩, ⟨rfl, rfl⟩, Nat.le_refl _, Nat.le_refl _⟩
    · replace hR := lf_z1 h13 hR
      refine ev_run (cs := []) (pc' := 154) (L' := [some (.ref 0), some (.int ((a_X2_numbers (a_X4_text u)) (0 : Int32).toNatClampNeg)), some (.int ((a_X2_numbers (a_X4_text u)) (1 : Int32).toNatClampNeg)), some (.int ((a_X2_numbers (a_X4_text u)) (2 : Int32).toNatClampNeg))]) (st' := [.int ((a_X2_numbers (a_X4_text u)) (1 : Int32).toNatClampNeg)]) (w' := W_X4 u) [] 1 (by with_unfolding_all rfl) trivial ?_
      obtain ⟨y6, h14, hR⟩ := lf_b hR
      refine ev_callS1 0 (t_X4_isSlot F ((a_X2_numbers (a_X4_text u)) (1 : Int32).toNatClampNeg) _ h14) cs_X4_isSlot ml_X4_80 rfl rfl rfl (Nat.le_of_ble_eq_true rfl) (by with_unfolding_all rfl) (Nat.le_of_ble_eq_true rfl) ⟨Nat.le_of_ble_eq_true rfl, Nat.le_of_ble_eq_true rfl⟩ ⟨Nat.le_refl _, Nat.le_refl _⟩ ?_ ?_
      · rintro r w ⟨rfl, rfl⟩; rfl
      rintro r w ⟨rfl, rfl⟩
      refine ev_nx (pc' := 157) (st' := [.int (ev_b y6)]) (w' := W_X4 u) rfl rfl (by with_unfolding_all rfl) rfl rfl ?_
      refine ev_br rfl rfl (fun h15 => ?_) (fun h15 => ?_)
      · replace hR := lf_z0 h15 hR
        refine ev_run (cs := []) (pc' := 172) (L' := [some (.ref 0), some (.int ((a_X2_numbers (a_X4_text u)) (0 : Int32).toNatClampNeg)), some (.int ((a_X2_numbers (a_X4_text u)) (1 : Int32).toNatClampNeg)), some (.int ((a_X2_numbers (a_X4_text u)) (2 : Int32).toNatClampNeg))]) (st' := [.int 0]) (w' := W_X4 u) [] 1 (by with_unfolding_all rfl) trivial ?_
        cases hR
        exact ev_exit ⟨_, _, rfl, ⟨rfl, Or.inr ⟨rfl, rfl⟩⟩, ⟨rfl, rfl⟩, Nat.le_refl _, Nat.le_refl _⟩
      · replace hR := lf_z1 h15 hR
        refine ev_run (cs := []) (pc' := 165) (L' := [some (.ref 0), some (.int ((a_X2_numbers (a_X4_text u)) (0 : Int32).toNatClampNeg)), some (.int ((a_X2_numbers (a_X4_text u)) (1 : Int32).toNatClampNeg)), some (.int ((a_X2_numbers (a_X4_text u)) (2 : Int32).toNatClampNeg))]) (st' := [.int ((a_X2_numbers (a_X4_text u)) (2 : Int32).toNatClampNeg), .ref 1]) (w' := W_X4 u) [] 3 (by with_unfolding_all rfl) trivial ?_
        obtain ⟨y7, h16, hR⟩ := lf_b hR
        refine ev_callV1 1 (t_X3_mayBeHeld F (a_X4_now u) ((a_X2_numbers (a_X4_text u)) (2 : Int32).toNatClampNeg) _ h16) cv_X3_mayBeHeld ml_X4_68 rfl rfl rfl (Nat.le_of_ble_eq_true rfl) (by with_unfolding_all rfl) (Nat.le_of_ble_eq_true rfl) ⟨Nat.le_of_ble_eq_true rfl, Nat.le_of_ble_eq_true rfl⟩ ⟨Nat.le_refl _, Nat.le_refl _⟩ ?_ ?_
        · rintro r w ⟨rfl, rfl⟩; rfl
        rintro r w ⟨rfl, rfl⟩
        refine ev_nx (pc' := 168) (st' := [.int (ev_b y7)]) (w' := W_X4 u) rfl rfl (by with_unfolding_all rfl) rfl rfl ?_
        refine ev_br rfl rfl (fun h17 => ?_) (fun h17 => ?_)
        · replace hR := lf_z1 h17 hR
          refine ev_run (cs := []) (pc' := 179) (L' := [some (.ref 0), some (.int ((a_X2_numbers (a_X4_text u)) (0 : Int32).toNatClampNeg)), some (.int ((a_X2_numbers (a_X4_text u)) (1 : Int32).toNatClampNeg)), some (.int ((a_X2_numbers (a_X4_text u)) (2 : Int32).toNatClampNeg))]) (st' := [.int ((a_X2_numbers (a_X4_text u)) (1 : Int32).toNatClampNeg), .int ((a_X2_numbers (a_X4_text u)) (0 : Int32).toNatClampNeg), .ref 1]) (w' := W_X4 u) [] 4 (by with_unfolding_all rfl) trivial ?_
          refine ev_callS1 0 (t_X4_placeOf ((a_X2_numbers (a_X4_text u)) (0 : Int32).toNatClampNeg) ((a_X2_numbers (a_X4_text u)) (1 : Int32).toNatClampNeg)) cs_X4_placeOf ml_X4_90 rfl rfl rfl (Nat.le_of_ble_eq_true rfl) (by with_unfolding_all rfl) (Nat.le_of_ble_eq_true rfl) ⟨Nat.le_of_ble_eq_true rfl, Nat.le_of_ble_eq_true rfl⟩ ⟨Nat.le_refl _, Nat.le_refl _⟩ ?_ ?_
          · rintro r w ⟨rfl, rfl⟩; rfl
          rintro r w ⟨rfl, rfl⟩
          refine ev_nx (pc' := 182) (st' := [.int (st_pl ((a_X2_numbers (a_X4_text u)) (0 : Int32).toNatClampNeg) ((a_X2_numbers (a_X4_text u)) (1 : Int32).toNatClampNeg)), .ref 1]) (w' := W_X4 u) rfl rfl (by with_unfolding_all rfl) rfl rfl ?_
          refine ev_run (cs := []) (pc' := 183) (L' := [some (.ref 0), some (.int ((a_X2_numbers (a_X4_text u)) (0 : Int32).toNatClampNeg)), some (.int ((a_X2_numbers (a_X4_text u)) (1 : Int32).toNatClampNeg)), some (.int ((a_X2_numbers (a_X4_text u)) (2 : Int32).toNatClampNeg))]) (st' := [.int ((a_X2_numbers (a_X4_text u)) (2 : Int32).toNatClampNeg), .int (st_pl ((a_X2_numbers (a_X4_text u)) (0 : Int32).toNatClampNeg) ((a_X2_numbers (a_X4_text u)) (1 : Int32).toNatClampNeg)), .ref 1]) (w' := W_X4 u) [] 1 (by with_unfolding_all rfl) trivial ?_
          obtain ⟨y8, h18, hR⟩ := lf_b hR
          refine ev_callV1 1 (t_X3_change F (a_X4_now u) (st_pl ((a_X2_numbers (a_X4_text u)) (0 : Int32).toNatClampNeg) ((a_X2_numbers (a_X4_text u)) (1 : Int32).toNatClampNeg)) ((a_X2_numbers (a_X4_text u)) (2 : Int32).toNatClampNeg) _ h18) cv_X3_change ml_X4_73 rfl rfl rfl (Nat.le_of_ble_eq_true rfl) (by with_unfolding_all rfl) (Nat.le_of_ble_eq_true rfl) ⟨Nat.le_of_ble_eq_true rfl, Nat.le_of_ble_eq_true rfl⟩ ⟨Nat.le_refl _, Nat.le_refl _⟩ ?_ ?_
          · rintro r w ⟨rfl, rfl⟩; rfl
          rintro r w ⟨rfl, rfl⟩
          refine ev_nx (pc' := 186) (st' := [.int y8.1]) (w' := W_X4 (m_X4_now y8.2 u)) rfl rfl (by with_unfolding_all rfl) rfl rfl ?_
          refine ev_run (cs := []) (pc' := 188) (L' := [some (.ref 0), some (.int ((a_X2_numbers (a_X4_text u)) (0 : Int32).toNatClampNeg)), some (.int ((a_X2_numbers (a_X4_text u)) (1 : Int32).toNatClampNeg)), some (.int ((a_X2_numbers (a_X4_text u)) (2 : Int32).toNatClampNeg))]) (st' := [.int 1]) (w' := W_X4 (m_X4_now y8.2 u)) [] 2 (by with_unfolding_all rfl) trivial ?_
          cases hR
          exact ev_exit ⟨_, _, rfl, ⟨rfl, Or.inr ⟨rfl, rfl⟩⟩, ⟨rfl, rfl⟩, Nat.le_refl _, Nat.le_refl _⟩
        · replace hR := lf_z0 h17 hR
          refine ev_run (cs := []) (pc' := 172) (L' := [some (.ref 0), some (.int ((a_X2_numbers (a_X4_text u)) (0 : Int32).toNatClampNeg)), some (.int ((a_X2_numbers (a_X4_text u)) (1 : Int32).toNatClampNeg)), some (.int ((a_X2_numbers (a_X4_text u)) (2 : Int32).toNatClampNeg))]) (st' := [.int 0]) (w' := W_X4 u) [] 1 (by with_unfolding_all rfl) trivial ?_
          cases hR
          exact ev_exit ⟨_, _, rfl, ⟨rfl, Or.inr ⟨rfl, rfl⟩⟩, ⟨rfl, rfl⟩, Nat.le_refl _, Nat.le_refl _⟩
  replace hR := lf_f h11 hR
  by_cases h19 : (a_X2_letter (a_X4_text u)) = 116
  · replace hR := lf_t h19 hR
    refine ev_lit h19 (ev_lsw 189 rfl rfl rfl rfl ?_)
    refine ev_run (cs := []) (pc' := 201) (L' := [some (.ref 0), some (.int ((a_X2_numbers (a_X4_text u)) (0 : Int32).toNatClampNeg)), some (.int ((a_X2_numbers (a_X4_text u)) (1 : Int32).toNatClampNeg)), some (.int ((a_X2_numbers (a_X4_text u)) (2 : Int32).toNatClampNeg))]) (st' := [.int 5000, .int ((a_X3_time (a_X4_now u)) + ((a_X2_numbers (a_X4_text u)) (0 : Int32).toNatClampNeg))]) (w' := W_X4 u) [] 6 (by with_unfolding_all rfl) trivial ?_
    refine ev_br rfl rfl (fun h20 => ?_) (fun h20 => ?_)
    · replace hR := lf_t h20 hR
      refine ev_run (cs := []) (pc' := 211) (L' := [some (.ref 0), some (.int ((a_X2_numbers (a_X4_text u)) (0 : Int32).toNatClampNeg)), some (.int ((a_X2_numbers (a_X4_text u)) (1 : Int32).toNatClampNeg)), some (.int ((a_X2_numbers (a_X4_text u)) (2 : Int32).toNatClampNeg))]) (st' := [.int ((a_X2_numbers (a_X4_text u)) (0 : Int32).toNatClampNeg), .ref 1]) (w' := W_X4 u) [] 3 (by with_unfolding_all rfl) trivial ?_
      obtain ⟨y9, h21, hR⟩ := lf_b hR
      refine ev_callV1 1 (t_X3_passTicks F (a_X4_now u) ((a_X2_numbers (a_X4_text u)) (0 : Int32).toNatClampNeg) _ h21) cv_X3_passTicks ml_X4_135 rfl rfl rfl (Nat.le_of_ble_eq_true rfl) (by with_unfolding_all rfl) (Nat.le_of_ble_eq_true rfl) ⟨Nat.le_of_ble_eq_true rfl, Nat.le_of_ble_eq_true rfl⟩ ⟨Nat.le_refl _, Nat.le_refl _⟩ ?_ ?_
      · rintro r w ⟨rfl, rfl⟩; rfl
      rintro r w ⟨rfl, rfl⟩
      refine ev_nx (pc' := 214) (st' := [.int y9.1]) (w' := W_X4 (m_X4_now y9.2 u)) rfl rfl (by with_unfolding_all rfl) rfl rfl ?_
      refine ev_run (cs := []) (pc' := 216) (L' := [some (.ref 0), some (.int ((a_X2_numbers (a_X4_text u)) (0 : Int32).toNatClampNeg)), some (.int ((a_X2_numbers (a_X4_text u)) (1 : Int32).toNatClampNeg)), some (.int ((a_X2_numbers (a_X4_text u)) (2 : Int32).toNatClampNeg))]) (st' := [.int 1]) (w' := W_X4 (m_X4_now y9.2 u)) [] 2 (by with_unfolding_all rfl) trivial ?_
      cases hR
      exact ev_exit ⟨_, _, rfl, ⟨rfl, Or.inr ⟨rfl, rfl⟩⟩, ⟨rfl, rfl⟩, Nat.le_refl _, Nat.le_refl _⟩
    · replace hR := lf_f h20 hR
      refine ev_run (cs := []) (pc' := 205) (L' := [some (.ref 0), some (.int ((a_X2_numbers (a_X4_text u)) (0 : Int32).toNatClampNeg)), some (.int ((a_X2_numbers (a_X4_text u)) (1 : Int32).toNatClampNeg)), some (.int ((a_X2_numbers (a_X4_text u)) (2 : Int32).toNatClampNeg))]) (st' := [.int 0]) (w' := W_X4 u) [] 1 (by with_unfolding_all rfl) trivial ?_
      cases hR
      exact ev_exit ⟨_, _, rfl, ⟨rfl, Or.inr ⟨rfl, rfl⟩⟩, ⟨rfl, rfl⟩, Nat.le_refl _, Nat.le_refl _⟩
  replace hR := lf_f h19 hR
  refine ev_lsw 217 rfl rfl (off := 180) ?_ rfl ?_
  · have k0 := lf_nt h1; have k1 := lf_nt h7; have k2 := lf_nt h11; have k3 := lf_nt h19; rw [show (104 : Int32).toInt = 104 from rfl] at k0; rw [show (110 : Int32).toInt = 110 from rfl] at k1; rw [show (115 : Int32).toInt = 115 from rfl] at k2; rw [show (116 : Int32).toInt = 116 from rfl] at k3; simp [Op.lookupswitch.offset, k0, Ne.symm k0, k1, Ne.symm k1, k2, Ne.symm k2, k3, Ne.symm k3]
  refine ev_run (cs := []) (pc' := 221) (L' := [some (.ref 0), some (.int ((a_X2_numbers (a_X4_text u)) (0 : Int32).toNatClampNeg)), some (.int ((a_X2_numbers (a_X4_text u)) (1 : Int32).toNatClampNeg)), some (.int ((a_X2_numbers (a_X4_text u)) (2 : Int32).toNatClampNeg))]) (st' := [.ref 1]) (w' := W_X4 u) [] 2 (by with_unfolding_all rfl) trivial ?_
  obtain ⟨y10, h22, hR⟩ := lf_b hR
  refine ev_callV1 1 (t_X3_holdTrial F (a_X4_now u) _ h22) cv_X3_holdTrial ml_X4_138 rfl rfl rfl (Nat.le_of_ble_eq_true rfl) (by with_unfolding_all rfl) (Nat.le_of_ble_eq_true rfl) ⟨Nat.le_of_ble_eq_true rfl, Nat.le_of_ble_eq_true rfl⟩ ⟨Nat.le_refl _, Nat.le_refl _⟩ ?_ ?_
  · rintro r w ⟨rfl, rfl⟩; rfl
  rintro r w ⟨rfl, rfl⟩
  refine ev_nx (pc' := 224) (st' := [.int y10.1]) (w' := W_X4 (m_X4_now y10.2 u)) rfl rfl (by with_unfolding_all rfl) rfl rfl ?_
  refine ev_run (cs := []) (pc' := 226) (L' := [some (.ref 0), some (.int ((a_X2_numbers (a_X4_text u)) (0 : Int32).toNatClampNeg)), some (.int ((a_X2_numbers (a_X4_text u)) (1 : Int32).toNatClampNeg)), some (.int ((a_X2_numbers (a_X4_text u)) (2 : Int32).toNatClampNeg))]) (st' := [.int 1]) (w' := W_X4 (m_X4_now y10.2 u)) [] 2 (by with_unfolding_all rfl) trivial ?_
  cases hR
  exact ev_exit ⟨_, _, rfl, ⟨rfl, Or.inr ⟨rfl, rfl⟩⟩, ⟨rfl, rfl⟩, Nat.le_refl _, Nat.le_refl _⟩

def s_X4_isThing (F : Nat) (u : S_X4) (v1 : Int32) : Option Bool := if v1 < 0 then (some (false)) else (if (a_X3_things (a_X4_now u)) ≤ v1 then (some (false)) else (some (true)))
set_option maxHeartbeats 4000000 in
set_option maxRecDepth 20000 in
theorem t_X4_isThing (F : Nat) (u : S_X4) (v1 : Int32) (x : Bool) (hR : s_X4_isThing F u v1 = some x) : ev_A yX4_isThing mm_X4_isThing none [.ref 0, .int v1] (W_X4 u) (fun r w => r = some (.int (ev_b x)) ∧ w = W_X4 u) := by
  unfold s_X4_isThing at hR
  refine ev_start ok_X4_isThing (by decide +kernel) rfl rfl (Nat.le_of_ble_eq_true rfl) ?_
  refine ev_run (cs := []) (pc' := 1) (L' := [some (.ref 0), some (.int v1)]) (st' := [.int v1]) (w' := W_X4 u) [] 1 (by with_unfolding_all rfl) trivial ?_
  refine ev_br rfl rfl (fun h1 => ?_) (fun h1 => ?_)
  · replace hR := lf_t h1 hR
    refine ev_run (cs := []) (pc' := 20) (L' := [some (.ref 0), some (.int v1)]) (st' := [.int 0]) (w' := W_X4 u) [] 1 (by with_unfolding_all rfl) trivial ?_
    cases hR
    exact ev_exit ⟨_, _, rfl, ⟨rfl, Or.inr ⟨rfl, rfl⟩⟩, ⟨rfl, rfl⟩, Nat.le_refl _, Nat.le_refl _⟩
  · replace hR := lf_f h1 hR
    refine ev_run (cs := []) (pc' := 12) (L' := [some (.ref 0), some (.int v1)]) (st' := [.int (a_X3_things (a_X4_now u)), .int v1]) (w' := W_X4 u) [] 4 (by with_unfolding_all rfl) trivial ?_
    refine ev_br rfl rfl (fun h2 => ?_) (fun h2 => ?_)
    · replace hR := lf_t h2 hR
      refine ev_run (cs := []) (pc' := 20) (L' := [some (.ref 0), some (.int v1)]) (st' := [.int 0]) (w' := W_X4 u) [] 1 (by with_unfolding_all rfl) trivial ?_
      cases hR
      exact ev_exit ⟨_, _, rfl, ⟨rfl, Or.inr ⟨rfl, rfl⟩⟩, ⟨rfl, rfl⟩, Nat.le_refl _, Nat.le_refl _⟩
    · replace hR := lf_f h2 hR
      refine ev_run (cs := []) (pc' := 20) (L' := [some (.ref 0), some (.int v1)]) (st' := [.int 1]) (w' := W_X4 u) [] 2 (by with_unfolding_all rfl) trivial ?_
      cases hR
      exact ev_exit ⟨_, _, rfl, ⟨rfl, Or.inr ⟨rfl, rfl⟩⟩, ⟨rfl, rfl⟩, Nat.le_refl _, Nat.le_refl _⟩

def s_X4_isThingOrNone (F : Nat) (u : S_X4) (v1 : Int32) : Option Bool := if v1 = (-1) then (some (true)) else ((s_X4_isThing F u v1).bind fun y1 => (if y1 then (some (true)) else (some (false))))
set_option maxHeartbeats 4000000 in
set_option maxRecDepth 20000 in
theorem t_X4_isThingOrNone (F : Nat) (u : S_X4) (v1 : Int32) (x : Bool) (hR : s_X4_isThingOrNone F u v1 = some x) : ev_A yX4_isThingOrNone mm_X4_isThingOrNone none [.ref 0, .int v1] (W_X4 u) (fun r w => r = some (.int (ev_b x)) ∧ w = W_X4 u) := by
  unfold s_X4_isThingOrNone at hR
  refine ev_start ok_X4_isThingOrNone (by decide +kernel) rfl rfl (Nat.le_of_ble_eq_true rfl) ?_
  refine ev_run (cs := []) (pc' := 2) (L' := [some (.ref 0), some (.int v1)]) (st' := [.int (-1), .int v1]) (w' := W_X4 u) [] 2 (by with_unfolding_all rfl) trivial ?_
  refine ev_br rfl rfl (fun h1 => ?_) (fun h1 => ?_)
  · replace hR := lf_t h1 hR
    refine ev_run (cs := []) (pc' := 18) (L' := [some (.ref 0), some (.int v1)]) (st' := [.int 1]) (w' := W_X4 u) [] 2 (by with_unfolding_all rfl) trivial ?_
    cases hR
    exact ev_exit ⟨_, _, rfl, ⟨rfl, Or.inr ⟨rfl, rfl⟩⟩, ⟨rfl, rfl⟩, Nat.le_refl _, Nat.le_refl _⟩
  · replace hR := lf_f h1 hR
    refine ev_run (cs := []) (pc' := 7) (L' := [some (.ref 0), some (.int v1)]) (st' := [.int v1, .ref 0]) (w' := W_X4 u) [] 2 (by with_unfolding_all rfl) trivial ?_
    obtain ⟨y1, h2, hR⟩ := lf_b hR
    refine ev_callV1 0 (t_X4_isThing F u v1 _ h2) cv_X4_isThing ml_X4_77 rfl rfl rfl (Nat.le_of_ble_eq_true rfl) (by with_unfolding_all rfl) (Nat.le_of_ble_eq_true rfl) ⟨Nat.le_of_ble_eq_true rfl, Nat.le_of_ble_eq_true rfl⟩ ⟨Nat.le_refl _, Nat.le_refl _⟩ ?_ ?_
    · rintro r w ⟨rfl, rfl⟩; rfl
    rintro r w ⟨rfl, rfl⟩
    refine ev_nx (pc' := 10) (st' := [.int (ev_b y1)]) (w' := W_X4 u) rfl rfl (by with_unfolding_all rfl) rfl rfl ?_
    refine ev_br rfl rfl (fun h3 => ?_) (fun h3 => ?_)
    · replace hR := lf_z0 h3 hR
      refine ev_run (cs := []) (pc' := 18) (L' := [some (.ref 0), some (.int v1)]) (st' := [.int 0]) (w' := W_X4 u) [] 1 (by with_unfolding_all rfl) trivial ?_
      cases hR
      exact ev_exit ⟨_, _, rfl, ⟨rfl, Or.inr ⟨rfl, rfl⟩⟩, ⟨rfl, rfl⟩, Nat.le_refl _, Nat.le_refl _⟩
    · replace hR := lf_z1 h3 hR
      refine ev_run (cs := []) (pc' := 18) (L' := [some (.ref 0), some (.int v1)]) (st' := [.int 1]) (w' := W_X4 u) [] 2 (by with_unfolding_all rfl) trivial ?_
      cases hR
      exact ev_exit ⟨_, _, rfl, ⟨rfl, Or.inr ⟨rfl, rfl⟩⟩, ⟨rfl, rfl⟩, Nat.le_refl _, Nat.le_refl _⟩

def s_X4_isSetting (F : Nat) (v0 : Int32) : Option Bool := if v0 < 0 then (some (false)) else (if 5 ≤ v0 then (some (false)) else (some (true)))
set_option maxHeartbeats 4000000 in
set_option maxRecDepth 20000 in
theorem t_X4_isSetting (F : Nat) (v0 : Int32) (x : Bool) (hR : s_X4_isSetting F v0 = some x) : ev_A yX4_isSetting mm_X4_isSetting none [.int v0] (([] : List ev_E)) (fun r w => r = some (.int (ev_b x)) ∧ w = ([] : List ev_E)) := by
  unfold s_X4_isSetting at hR
  refine ev_start ok_X4_isSetting (by decide +kernel) rfl rfl (Nat.le_of_ble_eq_true rfl) ?_
  refine ev_run (cs := []) (pc' := 1) (L' := [some (.int v0)]) (st' := [.int v0]) (w' := ([] : List ev_E)) [] 1 (by with_unfolding_all rfl) trivial ?_
  refine ev_br rfl rfl (fun h1 => ?_) (fun h1 => ?_)
  · replace hR := lf_t h1 hR
    refine ev_run (cs := []) (pc' := 14) (L' := [some (.int v0)]) (st' := [.int 0]) (w' := ([] : List ev_E)) [] 1 (by with_unfolding_all rfl) trivial ?_
    cases hR
    exact ev_exit ⟨_, _, rfl, ⟨rfl, Or.inr ⟨rfl, rfl⟩⟩, ⟨rfl, rfl⟩, Nat.le_refl _, Nat.le_refl _⟩
  · replace hR := lf_f h1 hR
    refine ev_run (cs := []) (pc' := 6) (L' := [some (.int v0)]) (st' := [.int 5, .int v0]) (w' := ([] : List ev_E)) [] 2 (by with_unfolding_all rfl) trivial ?_
    refine ev_br rfl rfl (fun h2 => ?_) (fun h2 => ?_)
    · replace hR := lf_t h2 hR
      refine ev_run (cs := []) (pc' := 14) (L' := [some (.int v0)]) (st' := [.int 0]) (w' := ([] : List ev_E)) [] 1 (by with_unfolding_all rfl) trivial ?_
      cases hR
      exact ev_exit ⟨_, _, rfl, ⟨rfl, Or.inr ⟨rfl, rfl⟩⟩, ⟨rfl, rfl⟩, Nat.le_refl _, Nat.le_refl _⟩
    · replace hR := lf_f h2 hR
      refine ev_run (cs := []) (pc' := 14) (L' := [some (.int v0)]) (st' := [.int 1]) (w' := ([] : List ev_E)) [] 2 (by with_unfolding_all rfl) trivial ?_
      cases hR
      exact ev_exit ⟨_, _, rfl, ⟨rfl, Or.inr ⟨rfl, rfl⟩⟩, ⟨rfl, rfl⟩, Nat.le_refl _, Nat.le_refl _⟩

def s_X4_mostOf (F : Nat) (v0 : Int32) : Option Int32 := if 3 ≤ v0 then (if v0 = 3 then (some (1)) else (some (50))) else (some (20))
set_option maxHeartbeats 4000000 in
set_option maxRecDepth 20000 in
theorem t_X4_mostOf (F : Nat) (v0 : Int32) (x : Int32) (hR : s_X4_mostOf F v0 = some x) : ev_A yX4_mostOf mm_X4_mostOf none [.int v0] (([] : List ev_E)) (fun r w => r = some (.int x) ∧ w = ([] : List ev_E)) := by
  unfold s_X4_mostOf at hR
  refine ev_start ok_X4_mostOf (by decide +kernel) rfl rfl (Nat.le_of_ble_eq_true rfl) ?_
  refine ev_run (cs := []) (pc' := 2) (L' := [some (.int v0)]) (st' := [.int 3, .int v0]) (w' := ([] : List ev_E)) [] 2 (by with_unfolding_all rfl) trivial ?_
  refine ev_br rfl rfl (fun h1 => ?_) (fun h1 => ?_)
  · replace hR := lf_t h1 hR
    refine ev_run (cs := []) (pc' := 10) (L' := [some (.int v0)]) (st' := [.int 3, .int v0]) (w' := ([] : List ev_E)) [] 2 (by with_unfolding_all rfl) trivial ?_
    refine ev_br rfl rfl (fun h2 => ?_) (fun h2 => ?_)
    · replace hR := lf_f h2 hR
      refine ev_run (cs := []) (pc' := 19) (L' := [some (.int v0)]) (st' := [.int 50]) (w' := ([] : List ev_E)) [] 1 (by with_unfolding_all rfl) trivial ?_
      cases hR
      exact ev_exit ⟨_, _, rfl, ⟨rfl, Or.inl rfl⟩, ⟨rfl, rfl⟩, Nat.le_refl _, Nat.le_refl _⟩
    · replace hR := lf_t h2 hR
      refine ev_run (cs := []) (pc' := 19) (L' := [some (.int v0)]) (st' := [.int 1]) (w' := ([] : List ev_E)) [] 2 (by with_unfolding_all rfl) trivial ?_
      cases hR
      exact ev_exit ⟨_, _, rfl, ⟨rfl, Or.inl rfl⟩, ⟨rfl, rfl⟩, Nat.le_refl _, Nat.le_refl _⟩
  · replace hR := lf_f h1 hR
    refine ev_run (cs := []) (pc' := 7) (L' := [some (.int v0)]) (st' := [.int 20]) (w' := ([] : List ev_E)) [] 1 (by with_unfolding_all rfl) trivial ?_
    cases hR
    exact ev_exit ⟨_, _, rfl, ⟨rfl, Or.inl rfl⟩, ⟨rfl, rfl⟩, Nat.le_refl _, Nat.le_refl _⟩
