def s_X2_nextInStep (F : Nat) (v0 : Int32) : Option Int32 := if v0 = 104 then (some (2)) else (if v0 = 105 then (some ((-1))) else (if v0 = 106 then (some (14)) else (if v0 = 107 then (some ((-1))) else (if v0 = 108 then (some ((-1))) else (if v0 = 109 then (some ((-1))) else (if v0 = 110 then (some (1)) else (if v0 = 111 then (some ((-1))) else (if v0 = 112 then (some ((-1))) else (if v0 = 113 then (some ((-1))) else (if v0 = 114 then (some ((-1))) else (if v0 = 115 then (some (8)) else (if v0 = 116 then (some (12)) else (some ((-1)))))))))))))))
set_option maxHeartbeats 4000000 in
set_option maxRecDepth 20000 in
theorem t_X2_nextInStep (F : Nat) (v0 : Int32) (x : Int32) (hR : s_X2_nextInStep F v0 = some x) : ev_A yX2_nextInStep mm_X2_nextInStep none [.int v0] (([] : List ev_E)) (fun r w => r = some (.int x) ∧ w = ([] : List ev_E)) := by
  unfold s_X2_nextInStep at hR
  refine ev_start ok_X2_nextInStep (by decide +kernel) rfl rfl (Nat.le_of_ble_eq_true rfl) ?_
  refine ev_run (cs := []) (pc' := 1) (L' := [some (.int v0)]) (st' := [.int v0]) (w' := ([] : List ev_E)) [] 1 (by with_unfolding_all rfl) trivial ?_
  by_cases h1 : v0 = 104
  · replace hR := lf_t h1 hR
    refine ev_lit h1 (ev_run [] 1 rfl trivial ?_)
    refine ev_run (cs := []) (pc' := 71) (L' := [some (.int v0)]) (st' := [.int 2]) (w' := ([] : List ev_E)) [] 1 (by with_unfolding_all rfl) trivial ?_
    cases hR
    exact ev_exit ⟨_, _, rfl, ⟨rfl, Or.inl rfl⟩, ⟨rfl, rfl⟩, Nat.le_refl _, Nat.le_refl _⟩
  replace hR := lf_f h1 hR
  by_cases h2 : v0 = 105
  · replace hR := lf_t h2 hR
    refine ev_lit h2 (ev_run [] 1 rfl trivial ?_)
    refine ev_run (cs := []) (pc' := 82) (L' := [some (.int v0)]) (st' := [.int (-1)]) (w' := ([] : List ev_E)) [] 1 (by with_unfolding_all rfl) trivial ?_
    cases hR
    exact ev_exit ⟨_, _, rfl, ⟨rfl, Or.inl rfl⟩, ⟨rfl, rfl⟩, Nat.le_refl _, Nat.le_refl _⟩
  replace hR := lf_f h2 hR
  by_cases h3 : v0 = 106
  · replace hR := lf_t h3 hR
    refine ev_lit h3 (ev_run [] 1 rfl trivial ?_)
    refine ev_run (cs := []) (pc' := 80) (L' := [some (.int v0)]) (st' := [.int 14]) (w' := ([] : List ev_E)) [] 1 (by with_unfolding_all rfl) trivial ?_
    cases hR
    exact ev_exit ⟨_, _, rfl, ⟨rfl, Or.inl rfl⟩, ⟨rfl, rfl⟩, Nat.le_refl _, Nat.le_refl _⟩
  replace hR := lf_f h3 hR
  by_cases h4 : v0 = 107
  · replace hR := lf_t h4 hR
    refine ev_lit h4 (ev_run [] 1 rfl trivial ?_)
    refine ev_run (cs := []) (pc' := 82) (L' := [some (.int v0)]) (st' := [.int (-1)]) (w' := ([] : List ev_E)) [] 1 (by with_unfolding_all rfl) trivial ?_
    cases hR
    exact ev_exit ⟨_, _, rfl, ⟨rfl, Or.inl rfl⟩, ⟨rfl, rfl⟩, Nat.le_refl _, Nat.le_refl _⟩
  replace hR := lf_f h4 hR
  by_cases h5 : v0 = 108
  · replace hR := lf_t h5 hR
    refine ev_lit h5 (ev_run [] 1 rfl trivial ?_)
    refine ev_run (cs := []) (pc' := 82) (L' := [some (.int v0)]) (st' := [.int (-1)]) (w' := ([] : List ev_E)) [] 1 (by with_unfolding_all rfl) trivial ?_
    cases hR
    exact ev_exit ⟨_, _, rfl, ⟨rfl, Or.inl rfl⟩, ⟨rfl, rfl⟩, Nat.le_refl _, Nat.le_refl _⟩
  replace hR := lf_f h5 hR
  by_cases h6 : v0 = 109
  · replace hR := lf_t h6 hR
    refine ev_lit h6 (ev_run [] 1 rfl trivial ?_)
    refine ev_run (cs := []) (pc' := 82) (L' := [some (.int v0)]) (st' := [.int (-1)]) (w' := ([] : List ev_E)) [] 1 (by with_unfolding_all rfl) trivial ?_
    cases hR
    exact ev_exit ⟨_, _, rfl, ⟨rfl, Or.inl rfl⟩, ⟨rfl, rfl⟩, Nat.le_refl _, Nat.le_refl _⟩
  replace hR := lf_f h6 hR
  by_cases h7 : v0 = 110
  · replace hR := lf_t h7 hR
    refine ev_lit h7 (ev_run [] 1 rfl trivial ?_)
    refine ev_run (cs := []) (pc' := 69) (L' := [some (.int v0)]) (st' := [.int 1]) (w' := ([] : List ev_E)) [] 1 (by with_unfolding_all rfl) trivial ?_
    cases hR
    exact ev_exit ⟨_, _, rfl, ⟨rfl, Or.inl rfl⟩, ⟨rfl, rfl⟩, Nat.le_refl _, Nat.le_refl _⟩
  replace hR := lf_f h7 hR
  by_cases h8 : v0 = 111
  · replace hR := lf_t h8 hR
    refine ev_lit h8 (ev_run [] 1 rfl trivial ?_)
    refine ev_run (cs := []) (pc' := 82) (L' := [some (.int v0)]) (st' := [.int (-1)]) (w' := ([] : List ev_E)) [] 1 (by with_unfolding_all rfl) trivial ?_
    cases hR
    exact ev_exit ⟨_, _, rfl, ⟨rfl, Or.inl rfl⟩, ⟨rfl, rfl⟩, Nat.le_refl _, Nat.le_refl _⟩
  replace hR := lf_f h8 hR
  by_cases h9 : v0 = 112
  · replace hR := lf_t h9 hR
    refine ev_lit h9 (ev_run [] 1 rfl trivial ?_)
    refine ev_run (cs := []) (pc' := 82) (L' := [some (.int v0)]) (st' := [.int (-1)]) (w' := ([] : List ev_E)) [] 1 (by with_unfolding_all rfl) trivial ?_
    cases hR
    exact ev_exit ⟨_, _, rfl, ⟨rfl, Or.inl rfl⟩, ⟨rfl, rfl⟩, Nat.le_refl _, Nat.le_refl _⟩
  replace hR := lf_f h9 hR
  by_cases h10 : v0 = 113
  · replace hR := lf_t h10 hR
    refine ev_lit h10 (ev_run [] 1 rfl trivial ?_)
    refine ev_run (cs := []) (pc' := 82) (L' := [some (.int v0)]) (st' := [.int (-1)]) (w' := ([] : List ev_E)) [] 1 (by with_unfolding_all rfl) trivial ?_
    cases hR
    exact ev_exit ⟨_, _, rfl, ⟨rfl, Or.inl rfl⟩, ⟨rfl, rfl⟩, Nat.le_refl _, Nat.le_refl _⟩
  replace hR := lf_f h10 hR
  by_cases h11 : v0 = 114
  · replace hR := lf_t h11 hR
    refine ev_lit h11 (ev_run [] 1 rfl trivial ?_)
    refine ev_run (cs := []) (pc' := 82) (L' := [some (.int v0)]) (st' := [.int (-1)]) (w' := ([] : List ev_E)) [] 1 (by with_unfolding_all rfl) trivial ?_
    cases hR
    exact ev_exit ⟨_, _, rfl, ⟨rfl, Or.inl rfl⟩, ⟨rfl, rfl⟩, Nat.le_refl _, Nat.le_refl _⟩
  replace hR := lf_f h11 hR
  by_cases h12 : v0 = 115
  · replace hR := lf_t h12 hR
    refine ev_lit h12 (ev_run [] 1 rfl trivial ?_)
    refine ev_run (cs := []) (pc' := 74) (L' := [some (.int v0)]) (st' := [.int 8]) (w' := ([] : List ev_E)) [] 1 (by with_unfolding_all rfl) trivial ?_
    cases hR
    exact ev_exit ⟨_, _, rfl, ⟨rfl, Or.inl rfl⟩, ⟨rfl, rfl⟩, Nat.le_refl _, Nat.le_refl _⟩
  replace hR := lf_f h12 hR
  by_cases h13 : v0 = 116
  · replace hR := lf_t h13 hR
    refine ev_lit h13 (ev_run [] 1 rfl trivial ?_)
    refine ev_run (cs := []) (pc' := 77) (L' := [some (.int v0)]) (st' := [.int 12]) (w' := ([] : List ev_E)) [] 1 (by with_unfolding_all rfl) trivial ?_
    cases hR
    exact ev_exit ⟨_, _, rfl, ⟨rfl, Or.inl rfl⟩, ⟨rfl, rfl⟩, Nat.le_refl _, Nat.le_refl _⟩
  replace hR := lf_f h13 hR
  refine ev_tso 81 rfl ?_ rfl ?_
  · have k0 := lf_nt h1; have k1 := lf_nt h2; have k2 := lf_nt h3; have k3 := lf_nt h4; have k4 := lf_nt h5; have k5 := lf_nt h6; have k6 := lf_nt h7; have k7 := lf_nt h8; have k8 := lf_nt h9; have k9 := lf_nt h10; have k10 := lf_nt h11; have k11 := lf_nt h12; have k12 := lf_nt h13; rw [show (104 : Int32).toInt = 104 from rfl] at k0; rw [show (105 : Int32).toInt = 105 from rfl] at k1; rw [show (106 : Int32).toInt = 106 from rfl] at k2; rw [show (107 : Int32).toInt = 107 from rfl] at k3; rw [show (108 : Int32).toInt = 108 from rfl] at k4; rw [show (109 : Int32).toInt = 109 from rfl] at k5; rw [show (110 : Int32).toInt = 110 from rfl] at k6; rw [show (111 : Int32).toInt = 111 from rfl] at k7; rw [show (112 : Int32).toInt = 112 from rfl] at k8; rw [show (113 : Int32).toInt = 113 from rfl] at k9; rw [show (114 : Int32).toInt = 114 from rfl] at k10; rw [show (115 : Int32).toInt = 115 from rfl] at k11; rw [show (116 : Int32).toInt = 116 from rfl] at k12; omega
  refine ev_run (cs := []) (pc' := 82) (L' := [some (.int v0)]) (st' := [.int (-1)]) (w' := ([] : List ev_E)) [] 1 (by with_unfolding_all rfl) trivial ?_
  cases hR
  exact ev_exit ⟨_, _, rfl, ⟨rfl, Or.inl rfl⟩, ⟨rfl, rfl⟩, Nat.le_refl _, Nat.le_refl _⟩

def s_X2_isDigit (F : Nat) (v0 : Int32) (v1 : Int32) (v2 : Int32) : Option Bool := if v0 < (48 + v1) then (some (false)) else (if (48 + v2) < v0 then (some (false)) else (some (true)))
set_option maxHeartbeats 4000000 in
set_option maxRecDepth 20000 in
theorem t_X2_isDigit (F : Nat) (v0 : Int32) (v1 : Int32) (v2 : Int32) (x : Bool) (hR : s_X2_isDigit F v0 v1 v2 = some x) : ev_A yX2_isDigit mm_X2_isDigit none [.int v0, .int v1, .int v2] (([] : List ev_E)) (fun r w => r = some (.int (ev_b x)) ∧ w = ([] : List ev_E)) := by
  unfold s_X2_isDigit at hR
  refine ev_start ok_X2_isDigit (by decide +kernel) rfl rfl (Nat.le_of_ble_eq_true rfl) ?_
  refine ev_run (cs := []) (pc' := 5) (L' := [some (.int v0), some (.int v1), some (.int v2)]) (st' := [.int (48 + v1), .int v0]) (w' := ([] : List ev_E)) [] 4 (by with_unfolding_all rfl) trivial ?_
  refine ev_br rfl rfl (fun h1 => ?_) (fun h1 => ?_)
  · replace hR := lf_t h1 hR
    refine ev_run (cs := []) (pc' := 21) (L' := [some (.int v0), some (.int v1), some (.int v2)]) (st' := [.int 0]) (w' := ([] : List ev_E)) [] 1 (by with_unfolding_all rfl) trivial ?_
    cases hR
    exact ev_exit ⟨_, _, rfl, ⟨rfl, Or.inr ⟨rfl, rfl⟩⟩, ⟨rfl, rfl⟩, Nat.le_refl _, Nat.le_refl _⟩
  · replace hR := lf_f h1 hR
    refine ev_run (cs := []) (pc' := 13) (L' := [some (.int v0), some (.int v1), some (.int v2)]) (st' := [.int (48 + v2), .int v0]) (w' := ([] : List ev_E)) [] 4 (by with_unfolding_all rfl) trivial ?_
    refine ev_br rfl rfl (fun h2 => ?_) (fun h2 => ?_)
    · replace hR := lf_t h2 hR
      refine ev_run (cs := []) (pc' := 21) (L' := [some (.int v0), some (.int v1), some (.int v2)]) (st' := [.int 0]) (w' := ([] : List ev_E)) [] 1 (by with_unfolding_all rfl) trivial ?_
      cases hR
      exact ev_exit ⟨_, _, rfl, ⟨rfl, Or.inr ⟨rfl, rfl⟩⟩, ⟨rfl, rfl⟩, Nat.le_refl _, Nat.le_refl _⟩
    · replace hR := lf_f h2 hR
      refine ev_run (cs := []) (pc' := 21) (L' := [some (.int v0), some (.int v1), some (.int v2)]) (st' := [.int 1]) (w' := ([] : List ev_E)) [] 2 (by with_unfolding_all rfl) trivial ?_
      cases hR
      exact ev_exit ⟨_, _, rfl, ⟨rfl, Or.inr ⟨rfl, rfl⟩⟩, ⟨rfl, rfl⟩, Nat.le_refl _, Nat.le_refl _⟩

def s_X2_nextInThing (F : Nat) (v0 : Int32) (v1 : Int32) (v2 : Int32) (v3 : Int32) : Option Int32 := if v0 = 49 then (some (v2)) else (if v0 = 50 then (some (v3)) else ((s_X2_isDigit F v0 0 9).bind fun y1 => (if y1 then (some (v1)) else (some ((-1))))))
set_option maxHeartbeats 4000000 in
set_option maxRecDepth 20000 in
theorem t_X2_nextInThing (F : Nat) (v0 : Int32) (v1 : Int32) (v2 : Int32) (v3 : Int32) (x : Int32) (hR : s_X2_nextInThing F v0 v1 v2 v3 = some x) : ev_A yX2_nextInThing mm_X2_nextInThing none [.int v0, .int v1, .int v2, .int v3] (([] : List ev_E)) (fun r w => r = some (.int x) ∧ w = ([] : List ev_E)) := by
  unfold s_X2_nextInThing at hR
  refine ev_start ok_X2_nextInThing (by decide +kernel) rfl rfl (Nat.le_of_ble_eq_true rfl) ?_
  refine ev_run (cs := []) (pc' := 3) (L' := [some (.int v0), some (.int v1), some (.int v2), some (.int v3)]) (st' := [.int 49, .int v0]) (w' := ([] : List ev_E)) [] 2 (by with_unfolding_all rfl) trivial ?_
  refine ev_br rfl rfl (fun h1 => ?_) (fun h1 => ?_)
  · replace hR := lf_f h1 hR
    refine ev_run (cs := []) (pc' := 11) (L' := [some (.int v0), some (.int v1), some (.int v2), some (.int v3)]) (st' := [.int 50, .int v0]) (w' := ([] : List ev_E)) [] 2 (by with_unfolding_all rfl) trivial ?_
    refine ev_br rfl rfl (fun h2 => ?_) (fun h2 => ?_)
    · replace hR := lf_f h2 hR
      refine ev_run (cs := []) (pc' := 20) (L' := [some (.int v0), some (.int v1), some (.int v2), some (.int v3)]) (st' := [.int 9, .int 0, .int v0]) (w' := ([] : List ev_E)) [] 3 (by with_unfolding_all rfl) trivial ?_
      obtain ⟨y1, h3, hR⟩ := lf_b hR
      refine ev_callS1 0 (t_X2_isDigit F v0 0 9 _ h3) cs_X2_isDigit ml_X2_30 rfl rfl rfl (Nat.le_of_ble_eq_true rfl) (by with_unfolding_all rfl) (Nat.le_of_ble_eq_true rfl) ⟨Nat.le_of_ble_eq_true rfl, Nat.le_of_ble_eq_true rfl⟩ ⟨Nat.le_refl _, Nat.le_refl _⟩ ?_ ?_
      · rintro r w ⟨rfl, rfl⟩; rfl
      rintro r w ⟨rfl, rfl⟩
      refine ev_nx (pc' := 23) (st' := [.int (ev_b y1)]) (w' := ([] : List ev_E)) rfl rfl (by with_unfolding_all rfl) rfl rfl ?_
      refine ev_br rfl rfl (fun h4 => ?_) (fun h4 => ?_)
      · replace hR := lf_z0 h4 hR
        refine ev_run (cs := []) (pc' := 31) (L' := [some (.int v0), some (.int v1), some (.int v2), some (.int v3)]) (st' := [.int (-1)]) (w' := ([] : List ev_E)) [] 1 (by with_unfolding_all rfl) trivial ?_
        cases hR
        exact ev_exit ⟨_, _, rfl, ⟨rfl, Or.inl rfl⟩, ⟨rfl, rfl⟩, Nat.le_refl _, Nat.le_refl _⟩
      · replace hR := lf_z1 h4 hR
        refine ev_run (cs := []) (pc' := 31) (L' := [some (.int v0), some (.int v1), some (.int v2), some (.int v3)]) (st' := [.int v1]) (w' := ([] : List ev_E)) [] 2 (by with_unfolding_all rfl) trivial ?_
        cases hR
        exact ev_exit ⟨_, _, rfl, ⟨rfl, Or.inl rfl⟩, ⟨rfl, rfl⟩, Nat.le_refl _, Nat.le_refl _⟩
    · replace hR := lf_t h2 hR
      refine ev_run (cs := []) (pc' := 15) (L' := [some (.int v0), some (.int v1), some (.int v2), some (.int v3)]) (st' := [.int v3]) (w' := ([] : List ev_E)) [] 1 (by with_unfolding_all rfl) trivial ?_
      cases hR
      exact ev_exit ⟨_, _, rfl, ⟨rfl, Or.inl rfl⟩, ⟨rfl, rfl⟩, Nat.le_refl _, Nat.le_refl _⟩
  · replace hR := lf_t h1 hR
    refine ev_run (cs := []) (pc' := 7) (L' := [some (.int v0), some (.int v1), some (.int v2), some (.int v3)]) (st' := [.int v2]) (w' := ([] : List ev_E)) [] 1 (by with_unfolding_all rfl) trivial ?_
    cases hR
    exact ev_exit ⟨_, _, rfl, ⟨rfl, Or.inl rfl⟩, ⟨rfl, rfl⟩, Nat.le_refl _, Nat.le_refl _⟩

def s_X2_nextIf (F : Nat) (v0 : Int32) (v1 : Int32) (v2 : Int32) : Option Int32 := if v0 = v1 then (some (v2)) else (some ((-1)))
set_option maxHeartbeats 4000000 in
set_option maxRecDepth 20000 in
theorem t_X2_nextIf (F : Nat) (v0 : Int32) (v1 : Int32) (v2 : Int32) (x : Int32) (hR : s_X2_nextIf F v0 v1 v2 = some x) : ev_A yX2_nextIf mm_X2_nextIf none [.int v0, .int v1, .int v2] (([] : List ev_E)) (fun r w => r = some (.int x) ∧ w = ([] : List ev_E)) := by
  unfold s_X2_nextIf at hR
  refine ev_start ok_X2_nextIf (by decide +kernel) rfl rfl (Nat.le_of_ble_eq_true rfl) ?_
  refine ev_run (cs := []) (pc' := 2) (L' := [some (.int v0), some (.int v1), some (.int v2)]) (st' := [.int v1, .int v0]) (w' := ([] : List ev_E)) [] 2 (by with_unfolding_all rfl) trivial ?_
  refine ev_br rfl rfl (fun h1 => ?_) (fun h1 => ?_)
  · replace hR := lf_f h1 hR
    refine ev_run (cs := []) (pc' := 10) (L' := [some (.int v0), some (.int v1), some (.int v2)]) (st' := [.int (-1)]) (w' := ([] : List ev_E)) [] 1 (by with_unfolding_all rfl) trivial ?_
    cases hR
    exact ev_exit ⟨_, _, rfl, ⟨rfl, Or.inl rfl⟩, ⟨rfl, rfl⟩, Nat.le_refl _, Nat.le_refl _⟩
  · replace hR := lf_t h1 hR
    refine ev_run (cs := []) (pc' := 10) (L' := [some (.int v0), some (.int v1), some (.int v2)]) (st' := [.int v2]) (w' := ([] : List ev_E)) [] 2 (by with_unfolding_all rfl) trivial ?_
    cases hR
    exact ev_exit ⟨_, _, rfl, ⟨rfl, Or.inl rfl⟩, ⟨rfl, rfl⟩, Nat.le_refl _, Nat.le_refl _⟩

def s_X2_next_b98 (F : Nat) (v1 : Int32) : Option Int32 := (s_X2_isDigit F v1 0 3).bind fun y1 => (if y1 then (some (4)) else (some ((-1))))
set_option maxHeartbeats 4000000 in
set_option maxRecDepth 20000 in
theorem t_X2_next_b98 (F : Nat) (v1 : Int32) (x : Int32)  (hR : s_X2_next_b98 F v1 = some x) : ev_V mm_X2_next none (ev_XR mm_X2_next (fun r w => r = some (.int x) ∧ w = ([] : List ev_E))) 98 [none, some (.int v1)] [] (([] : List ev_E)) 0 0 := by
  unfold s_X2_next_b98 at hR
  refine ev_run (cs := []) (pc' := 101) (L' := [none, some (.int v1)]) (st' := [.int 3, .int 0, .int v1]) (w' := ([] : List ev_E)) [] 3 (by with_unfolding_all rfl) trivial ?_
  obtain ⟨y1, h1, hR⟩ := lf_b hR
  refine ev_callS1 0 (t_X2_isDigit F v1 0 3 _ h1) cs_X2_isDigit ml_X2_30 rfl rfl rfl (Nat.le_of_ble_eq_true rfl) (by with_unfolding_all rfl) (Nat.le_of_ble_eq_true rfl) ⟨Nat.le_of_ble_eq_true rfl, Nat.le_of_ble_eq_true rfl⟩ ⟨Nat.le_refl _, Nat.le_refl _⟩ ?_ ?_
  · rintro r w ⟨rfl, rfl⟩; rfl
  rintro r w ⟨rfl, rfl⟩
  refine ev_nx (pc' := 104) (st' := [.int (ev_b y1)]) (w' := ([] : List ev_E)) rfl rfl (by with_unfolding_all rfl) rfl rfl ?_
  refine ev_br rfl rfl (fun h2 => ?_) (fun h2 => ?_)
  · replace hR := lf_z0 h2 hR
    refine ev_run (cs := []) (pc' := 112) (L' := [none, some (.int v1)]) (st' := [.int (-1)]) (w' := ([] : List ev_E)) [] 1 (by with_unfolding_all rfl) trivial ?_
    cases hR
    exact ev_exit ⟨_, _, rfl, ⟨rfl, Or.inl rfl⟩, ⟨rfl, rfl⟩, Nat.le_refl _, Nat.le_refl _⟩
  · replace hR := lf_z1 h2 hR
    refine ev_run (cs := []) (pc' := 112) (L' := [none, some (.int v1)]) (st' := [.int 4]) (w' := ([] : List ev_E)) [] 2 (by with_unfolding_all rfl) trivial ?_
    cases hR
    exact ev_exit ⟨_, _, rfl, ⟨rfl, Or.inl rfl⟩, ⟨rfl, rfl⟩, Nat.le_refl _, Nat.le_refl _⟩

def s_X2_next_b175 (F : Nat) (v1 : Int32) : Option Int32 := (s_X2_isDigit F v1 0 9).bind fun y1 => (if y1 then (some (14)) else ((s_X2_nextIf F v1 59 0).bind fun y2 => (some (y2))))
set_option maxHeartbeats 4000000 in
set_option maxRecDepth 20000 in
theorem t_X2_next_b175 (F : Nat) (v1 : Int32) (x : Int32)  (hR : s_X2_next_b175 F v1 = some x) : ev_V mm_X2_next none (ev_XR mm_X2_next (fun r w => r = some (.int x) ∧ w = ([] : List ev_E))) 175 [none, some (.int v1)] [] (([] : List ev_E)) 0 0 := by
  unfold s_X2_next_b175 at hR
  refine ev_run (cs := []) (pc' := 179) (L' := [none, some (.int v1)]) (st' := [.int 9, .int 0, .int v1]) (w' := ([] : List ev_E)) [] 3 (by with_unfolding_all rfl) trivial ?_
  obtain ⟨y1, h1, hR⟩ := lf_b hR
  refine ev_callS1 0 (t_X2_isDigit F v1 0 9 _ h1) cs_X2_isDigit ml_X2_30 rfl rfl rfl (Nat.le_of_ble_eq_true rfl) (by with_unfolding_all rfl) (Nat.le_of_ble_eq_true rfl) ⟨Nat.le_of_ble_eq_true rfl, Nat.le_of_ble_eq_true rfl⟩ ⟨Nat.le_refl _, Nat.le_refl _⟩ ?_ ?_
  · rintro r w ⟨rfl, rfl⟩; rfl
  rintro r w ⟨rfl, rfl⟩
  refine ev_nx (pc' := 182) (st' := [.int (ev_b y1)]) (w' := ([] : List ev_E)) rfl rfl (by with_unfolding_all rfl) rfl rfl ?_
  refine ev_br rfl rfl (fun h2 => ?_) (fun h2 => ?_)
  · replace hR := lf_z0 h2 hR
    refine ev_run (cs := []) (pc' := 194) (L' := [none, some (.int v1)]) (st' := [.int 0, .int 59, .int v1]) (w' := ([] : List ev_E)) [] 3 (by with_unfolding_all rfl) trivial ?_
    obtain ⟨y2, h3, hR⟩ := lf_b hR
    refine ev_callS1 0 (t_X2_nextIf F v1 59 0 _ h3) cs_X2_nextIf ml_X2_38 rfl rfl rfl (Nat.le_of_ble_eq_true rfl) (by with_unfolding_all rfl) (Nat.le_of_ble_eq_true rfl) ⟨Nat.le_of_ble_eq_true rfl, Nat.le_of_ble_eq_true rfl⟩ ⟨Nat.le_refl _, Nat.le_refl _⟩ ?_ ?_
    · rintro r w ⟨rfl, rfl⟩; rfl
    rintro r w ⟨rfl, rfl⟩
    refine ev_nx (pc' := 197) (st' := [.int y2]) (w' := ([] : List ev_E)) rfl rfl (by with_unfolding_all rfl) rfl rfl ?_
    cases hR
    exact ev_exit ⟨_, _, rfl, ⟨rfl, Or.inl rfl⟩, ⟨rfl, rfl⟩, Nat.le_refl _, Nat.le_refl _⟩
  · replace hR := lf_z1 h2 hR
    refine ev_run (cs := []) (pc' := 197) (L' := [none, some (.int v1)]) (st' := [.int 14]) (w' := ([] : List ev_E)) [] 2 (by with_unfolding_all rfl) trivial ?_
    cases hR
    exact ev_exit ⟨_, _, rfl, ⟨rfl, Or.inl rfl⟩, ⟨rfl, rfl⟩, Nat.le_refl _, Nat.le_refl _⟩

def s_X2_next (F : Nat) (v0 : Int32) (v1 : Int32) : Option Int32 := if v0 = 0 then ((s_X2_nextInStep F v1).bind fun y1 => (some (y1))) else (if v0 = 1 then ((s_X2_isDigit F v1 0 9).bind fun y2 => (if y2 then (some (14)) else (some ((-1))))) else (if v0 = 2 then (s_X2_next_b98 F v1) else (if v0 = 3 then (s_X2_next_b98 F v1) else (if v0 = 4 then (if v1 = 61 then (some (5)) else (some ((-1)))) else (if v0 = 5 then (if v1 = 45 then (some (14)) else ((s_X2_nextInThing F v1 14 6 7).bind fun y3 => (some (y3)))) else (if v0 = 6 then (s_X2_next_b175 F v1) else (if v0 = 7 then ((s_X2_isDigit F v1 0 3).bind fun y4 => (if y4 then (some (14)) else ((s_X2_nextIf F v1 59 0).bind fun y5 => (some (y5))))) else (if v0 = 8 then ((s_X2_nextInThing F v1 11 9 10).bind fun y6 => (some (y6))) else (if v0 = 9 then ((s_X2_isDigit F v1 0 9).bind fun y7 => (if y7 then (some (11)) else ((s_X2_nextIf F v1 46 3).bind fun y8 => (some (y8))))) else (if v0 = 10 then ((s_X2_isDigit F v1 0 3).bind fun y9 => (if y9 then (some (11)) else ((s_X2_nextIf F v1 46 3).bind fun y10 => (some (y10))))) else (if v0 = 11 then ((s_X2_nextIf F v1 46 3).bind fun y11 => (some (y11))) else (if v0 = 12 then ((s_X2_isDigit F v1 1 9).bind fun y12 => (if y12 then (some (13)) else (some ((-1))))) else (if v0 = 13 then (s_X2_next_b175 F v1) else (if v0 = 14 then ((s_X2_nextIf F v1 59 0).bind fun y13 => (some (y13))) else (some ((-1)))))))))))))))))
set_option maxHeartbeats 4000000 in
set_option maxRecDepth 20000 in
theorem t_X2_next (F : Nat) (v0 : Int32) (v1 : Int32) (x : Int32) (hR : s_X2_next F v0 v1 = some x) : ev_A yX2_next mm_X2_next none [.int v0, .int v1] (([] : List ev_E)) (fun r w => r = some (.int x) ∧ w = ([] : List ev_E)) := by
  unfold s_X2_next at hR
  refine ev_start ok_X2_next (by decide +kernel) rfl rfl (Nat.le_of_ble_eq_true rfl) ?_
  refine ev_run (cs := []) (pc' := 1) (L' := [some (.int v0), some (.int v1)]) (st' := [.int v0]) (w' := ([] : List ev_E)) [] 1 (by with_unfolding_all rfl) trivial ?_
  by_cases h1 : v0 = 0
  · replace hR := lf_t h1 hR
    refine ev_lit h1 (ev_run [] 1 rfl trivial ?_)
    refine ev_run (cs := []) (pc' := 77) (L' := [some (.int v0), some (.int v1)]) (st' := [.int v1]) (w' := ([] : List ev_E)) [] 1 (by with_unfolding_all rfl) trivial ?_
    obtain ⟨y1, h2, hR⟩ := lf_b hR
    refine ev_callS1 0 (t_X2_nextInStep F v1 _ h2) cs_X2_nextInStep ml_X2_26 rfl rfl rfl (Nat.le_of_ble_eq_true rfl) (by with_unfolding_all rfl) (Nat.le_of_ble_eq_true rfl) ⟨Nat.le_of_ble_eq_true rfl, Nat.le_of_ble_eq_true rfl⟩ ⟨Nat.le_refl _, Nat.le_refl _⟩ ?_ ?_
    · rintro r w ⟨rfl, rfl⟩; rfl
    rintro r w ⟨rfl, rfl⟩
    refine ev_nx (pc' := 80) (st' := [.int y1]) (w' := ([] : List ev_E)) rfl rfl (by with_unfolding_all rfl) rfl rfl ?_
    cases hR
    exact ev_exit ⟨_, _, rfl, ⟨rfl, Or.inl rfl⟩, ⟨rfl, rfl⟩, Nat.le_refl _, Nat.le_refl _⟩
  replace hR := lf_f h1 hR
  by_cases h3 : v0 = 1
  · replace hR := lf_t h3 hR
    refine ev_lit h3 (ev_run [] 1 rfl trivial ?_)
    refine ev_run (cs := []) (pc' := 85) (L' := [some (.int v0), some (.int v1)]) (st' := [.int 9, .int 0, .int v1]) (w' := ([] : List ev_E)) [] 3 (by with_unfolding_all rfl) trivial ?_
    obtain ⟨y2, h4, hR⟩ := lf_b hR
    refine ev_callS1 0 (t_X2_isDigit F v1 0 9 _ h4) cs_X2_isDigit ml_X2_30 rfl rfl rfl (Nat.le_of_ble_eq_true rfl) (by with_unfolding_all rfl) (Nat.le_of_ble_eq_true rfl) ⟨Nat.le_of_ble_eq_true rfl, Nat.le_of_ble_eq_true rfl⟩ ⟨Nat.le_refl _, Nat.le_refl _⟩ ?_ ?_
    · rintro r w ⟨rfl, rfl⟩; rfl
    rintro r w ⟨rfl, rfl⟩
    refine ev_nx (pc' := 88) (st' := [.int (ev_b y2)]) (w' := ([] : List ev_E)) rfl rfl (by with_unfolding_all rfl) rfl rfl ?_
    refine ev_br rfl rfl (fun h5 => ?_) (fun h5 => ?_)
    · replace hR := lf_z0 h5 hR
      refine ev_run (cs := []) (pc' := 97) (L' := [some (.int v0), some (.int v1)]) (st' := [.int (-1)]) (w' := ([] : List ev_E)) [] 1 (by with_unfolding_all rfl) trivial ?_
      cases hR
      exact ev_exit ⟨_, _, rfl, ⟨rfl, Or.inl rfl⟩, ⟨rfl, rfl⟩, Nat.le_refl _, Nat.le_refl _⟩
    · replace hR := lf_z1 h5 hR
      refine ev_run (cs := []) (pc' := 97) (L' := [some (.int v0), some (.int v1)]) (st' := [.int 14]) (w' := ([] : List ev_E)) [] 2 (by with_unfolding_all rfl) trivial ?_
      cases hR
      exact ev_exit ⟨_, _, rfl, ⟨rfl, Or.inl rfl⟩, ⟨rfl, rfl⟩, Nat.le_refl _, Nat.le_refl _⟩
  replace hR := lf_f h3 hR
  by_cases h6 : v0 = 2
  · replace hR := lf_t h6 hR
    refine ev_lit h6 (ev_run [] 1 rfl trivial ?_)
    exact ev_to2 (t_X2_next_b98 F v1 _ hR) ⟨rfl, trivial⟩ rfl rfl
  replace hR := lf_f h6 hR
  by_cases h7 : v0 = 3
  · replace hR := lf_t h7 hR
    refine ev_lit h7 (ev_run [] 1 rfl trivial ?_)
    exact ev_to2 (t_X2_next_b98 F v1 _ hR) ⟨rfl, trivial⟩ rfl rfl
  replace hR := lf_f h7 hR
  by_cases h8 : v0 = 4
  · replace hR := lf_t h8 hR
    refine ev_lit h8 (ev_run [] 1 rfl trivial ?_)
    refine ev_run (cs := []) (pc' := 116) (L' := [some (.int v0), some (.int v1)]) (st' := [.int 61, .int v1]) (w' := ([] : List ev_E)) [] 2 (by with_unfolding_all rfl) trivial ?_
    refine ev_br rfl rfl (fun h9 => ?_) (fun h9 => ?_)
    · replace hR := lf_f h9 hR
      refine ev_run (cs := []) (pc' := 124) (L' := [some (.int v0), some (.int v1)]) (st' := [.int (-1)]) (w' := ([] : List ev_E)) [] 1 (by with_unfolding_all rfl) trivial ?_
      cases hR
      exact ev_exit ⟨_, _, rfl, ⟨rfl, Or.inl rfl⟩, ⟨rfl, rfl⟩, Nat.le_refl _, Nat.le_refl _⟩
    · replace hR := lf_t h9 hR
      refine ev_run (cs := []) (pc' := 124) (L' := [some (.int v0), some (.int v1)]) (st' := [.int 5]) (w' := ([] : List ev_E)) [] 2 (by with_unfolding_all rfl) trivial ?_
      cases hR
      exact ev_exit ⟨_, _, rfl, ⟨rfl, Or.inl rfl⟩, ⟨rfl, rfl⟩, Nat.le_refl _, Nat.le_refl _⟩
  replace hR := lf_f h8 hR
  by_cases h10 : v0 = 5
  · replace hR := lf_t h10 hR
    refine ev_lit h10 (ev_run [] 1 rfl trivial ?_)
    refine ev_run (cs := []) (pc' := 128) (L' := [some (.int v0), some (.int v1)]) (st' := [.int 45, .int v1]) (w' := ([] : List ev_E)) [] 2 (by with_unfolding_all rfl) trivial ?_
    refine ev_br rfl rfl (fun h11 => ?_) (fun h11 => ?_)
    · replace hR := lf_f h11 hR
      refine ev_run (cs := []) (pc' := 143) (L' := [some (.int v0), some (.int v1)]) (st' := [.int 7, .int 6, .int 14, .int v1]) (w' := ([] : List ev_E)) [] 4 (by with_unfolding_all rfl) trivial ?_
      obtain ⟨y3, h12, hR⟩ := lf_b hR
      refine ev_callS1 0 (t_X2_nextInThing F v1 14 6 7 _ h12) cs_X2_nextInThing ml_X2_34 rfl rfl rfl (Nat.le_of_ble_eq_true rfl) (by with_unfolding_all rfl) (Nat.le_of_ble_eq_true rfl) ⟨Nat.le_of_ble_eq_true rfl, Nat.le_of_ble_eq_true rfl⟩ ⟨Nat.le_refl _, Nat.le_refl _⟩ ?_ ?_
      · rintro r w ⟨rfl, rfl⟩; rfl
      rintro r w ⟨rfl, rfl⟩
      refine ev_nx (pc' := 146) (st' := [.int y3]) (w' := ([] : List ev_E)) rfl rfl (by with_unfolding_all rfl) rfl rfl ?_
      cases hR
      exact ev_exit ⟨_, _, rfl, ⟨rfl, Or.inl rfl⟩, ⟨rfl, rfl⟩, Nat.le_refl _, Nat.le_refl _⟩
    · replace hR := lf_t h11 hR
      refine ev_run (cs := []) (pc' := 146) (L' := [some (.int v0), some (.int v1)]) (st' := [.int 14]) (w' := ([] : List ev_E)) [] 2 (by with_unfolding_all rfl) trivial ?_
      cases hR
      exact ev_exit ⟨_, _, rfl, ⟨rfl, Or.inl rfl⟩, ⟨rfl, rfl⟩, Nat.le_refl _, Nat.le_refl _⟩
  replace hR := lf_f h10 hR
  by_cases h13 : v0 = 6
  · replace hR := lf_t h13 hR
    refine ev_lit h13 (ev_run [] 1 rfl trivial ?_)
    exact ev_to2 (t_X2_next_b175 F v1 _ hR) ⟨rfl, trivial⟩ rfl rfl
  replace hR := lf_f h13 hR
  by_cases h14 : v0 = 7
  · replace hR := lf_t h14 hR
    refine ev_lit h14 (ev_run [] 1 rfl trivial ?_)
    refine ev_run (cs := []) (pc' := 201) (L' := [some (.int v0), some (.int v1)]) (st' := [.int 3, .int 0, .int v1]) (w' := ([] : List ev_E)) [] 3 (by with_unfolding_all rfl) trivial ?_
    obtain ⟨y4, h15, hR⟩ := lf_b hR
    refine ev_callS1 0 (t_X2_isDigit F v1 0 3 _ h15) cs_X2_isDigit ml_X2_30 rfl rfl rfl (Nat.le_of_ble_eq_true rfl) (by with_unfolding_all rfl) (Nat.le_of_ble_eq_true rfl) ⟨Nat.le_of_ble_eq_true rfl, Nat.le_of_ble_eq_true rfl⟩ ⟨Nat.le_refl _, Nat.le_refl _⟩ ?_ ?_
    · rintro r w ⟨rfl, rfl⟩; rfl
    rintro r w ⟨rfl, rfl⟩
    refine ev_nx (pc' := 204) (st' := [.int (ev_b y4)]) (w' := ([] : List ev_E)) rfl rfl (by with_unfolding_all rfl) rfl rfl ?_
    refine ev_br rfl rfl (fun h16 => ?_) (fun h16 => ?_)
    · replace hR := lf_z0 h16 hR
      refine ev_run (cs := []) (pc' := 216) (L' := [some (.int v0), some (.int v1)]) (st' := [.int 0, .int 59, .int v1]) (w' := ([] : List ev_E)) [] 3 (by with_unfolding_all rfl) trivial ?_
      obtain ⟨y5, h17, hR⟩ := lf_b hR
      refine ev_callS1 0 (t_X2_nextIf F v1 59 0 _ h17) cs_X2_nextIf ml_X2_38 rfl rfl rfl (Nat.le_of_ble_eq_true rfl) (by with_unfolding_all rfl) (Nat.le_of_ble_eq_true rfl) ⟨Nat.le_of_ble_eq_true rfl, Nat.le_of_ble_eq_true rfl⟩ ⟨Nat.le_refl _, Nat.le_refl _⟩ ?_ ?_
      · rintro r w ⟨rfl, rfl⟩; rfl
      rintro r w ⟨rfl, rfl⟩
      refine ev_nx (pc' := 219) (st' := [.int y5]) (w' := ([] : List ev_E)) rfl rfl (by with_unfolding_all rfl) rfl rfl ?_
      cases hR
      exact ev_exit ⟨_, _, rfl, ⟨rfl, Or.inl rfl⟩, ⟨rfl, rfl⟩, Nat.le_refl _, Nat.le_refl _⟩
    · replace hR := lf_z1 h16 hR
      refine ev_run (cs := []) (pc' := 219) (L' := [some (.int v0), some (.int v1)]) (st' := [.int 14]) (w' := ([] : List ev_E)) [] 2 (by with_unfolding_all rfl) trivial ?_
      cases hR
      exact ev_exit ⟨_, _, rfl, ⟨rfl, Or.inl rfl⟩, ⟨rfl, rfl⟩, Nat.le_refl _, Nat.le_refl _⟩
  replace hR := lf_f h14 hR
  by_cases h18 : v0 = 8
  · replace hR := lf_t h18 hR
    refine ev_lit h18 (ev_run [] 1 rfl trivial ?_)
    refine ev_run (cs := []) (pc' := 154) (L' := [some (.int v0), some (.int v1)]) (st' := [.int 10, .int 9, .int 11, .int v1]) (w' := ([] : List ev_E)) [] 4 (by with_unfolding_all rfl) trivial ?_
    obtain ⟨y6, h19, hR⟩ := lf_b hR
    refine ev_callS1 0 (t_X2_nextInThing F v1 11 9 10 _ h19) cs_X2_nextInThing ml_X2_34 rfl rfl rfl (Nat.le_of_ble_eq_true rfl) (by with_unfolding_all rfl) (Nat.le_of_ble_eq_true rfl) ⟨Nat.le_of_ble_eq_true rfl, Nat.le_of_ble_eq_true rfl⟩ ⟨Nat.le_refl _, Nat.le_refl _⟩ ?_ ?_
    · rintro r w ⟨rfl, rfl⟩; rfl
    rintro r w ⟨rfl, rfl⟩
    refine ev_nx (pc' := 157) (st' := [.int y6]) (w' := ([] : List ev_E)) rfl rfl (by with_unfolding_all rfl) rfl rfl ?_
    cases hR
    exact ev_exit ⟨_, _, rfl, ⟨rfl, Or.inl rfl⟩, ⟨rfl, rfl⟩, Nat.le_refl _, Nat.le_refl _⟩
  replace hR := lf_f h18 hR
  by_cases h20 : v0 = 9
  · replace hR := lf_t h20 hR
    refine ev_lit h20 (ev_run [] 1 rfl trivial ?_)
    refine ev_run (cs := []) (pc' := 232) (L' := [some (.int v0), some (.int v1)]) (st' := [.int 9, .int 0, .int v1]) (w' := ([] : List ev_E)) [] 3 (by with_unfolding_all rfl) trivial ?_
    obtain ⟨y7, h21, hR⟩ := lf_b hR
    refine ev_callS1 0 (t_X2_isDigit F v1 0 9 _ h21) cs_X2_isDigit ml_X2_30 rfl rfl rfl (Nat.le_of_ble_eq_true rfl) (by with_unfolding_all rfl) (Nat.le_of_ble_eq_true rfl) ⟨Nat.le_of_ble_eq_true rfl, Nat.le_of_ble_eq_true rfl⟩ ⟨Nat.le_refl _, Nat.le_refl _⟩ ?_ ?_
    · rintro r w ⟨rfl, rfl⟩; rfl
    rintro r w ⟨rfl, rfl⟩
    refine ev_nx (pc' := 235) (st' := [.int (ev_b y7)]) (w' := ([] : List ev_E)) rfl rfl (by with_unfolding_all rfl) rfl rfl ?_
    refine ev_br rfl rfl (fun h22 => ?_) (fun h22 => ?_)
    · replace hR := lf_z0 h22 hR
      refine ev_run (cs := []) (pc' := 247) (L' := [some (.int v0), some (.int v1)]) (st' := [.int 3, .int 46, .int v1]) (w' := ([] : List ev_E)) [] 3 (by with_unfolding_all rfl) trivial ?_
      obtain ⟨y8, h23, hR⟩ := lf_b hR
      refine ev_callS1 0 (t_X2_nextIf F v1 46 3 _ h23) cs_X2_nextIf ml_X2_38 rfl rfl rfl (Nat.le_of_ble_eq_true rfl) (by with_unfolding_all rfl) (Nat.le_of_ble_eq_true rfl) ⟨Nat.le_of_ble_eq_true rfl, Nat.le_of_ble_eq_true rfl⟩ ⟨Nat.le_refl _, Nat.le_refl _⟩ ?_ ?_
      · rintro r w ⟨rfl, rfl⟩; rfl
      rintro r w ⟨rfl, rfl⟩
      refine ev_nx (pc' := 250) (st' := [.int y8]) (w' := ([] : List ev_E)) rfl rfl (by with_unfolding_all rfl) rfl rfl ?_
      cases hR
      exact ev_exit ⟨_, _, rfl, ⟨rfl, Or.inl rfl⟩, ⟨rfl, rfl⟩, Nat.le_refl _, Nat.le_refl _⟩
    · replace hR := lf_z1 h22 hR
      refine ev_run (cs := []) (pc' := 250) (L' := [some (.int v0), some (.int v1)]) (st' := [.int 11]) (w' := ([] : List ev_E)) [] 2 (by with_unfolding_all rfl) trivial ?_
      cases hR
      exact ev_exit ⟨_, _, rfl, ⟨rfl, Or.inl rfl⟩, ⟨rfl, rfl⟩, Nat.le_refl _, Nat.le_refl _⟩
  replace hR := lf_f h20 hR
  by_cases h24 : v0 = 10
  · replace hR := lf_t h24 hR
    refine ev_lit h24 (ev_run [] 1 rfl trivial ?_)
    refine ev_run (cs := []) (pc' := 254) (L' := [some (.int v0), some (.int v1)]) (st' := [.int 3, .int 0, .int v1]) (w' := ([] : List ev_E)) [] 3 (by with_unfolding_all rfl) trivial ?_
    obtain ⟨y9, h25, hR⟩ := lf_b hR
    refine ev_callS1 0 (t_X2_isDigit F v1 0 3 _ h25) cs_X2_isDigit ml_X2_30 rfl rfl rfl (Nat.le_of_ble_eq_true rfl) (by with_unfolding_all rfl) (Nat.le_of_ble_eq_true rfl) ⟨Nat.le_of_ble_eq_true rfl, Nat.le_of_ble_eq_true rfl⟩ ⟨Nat.le_refl _, Nat.le_refl _⟩ ?_ ?_
    · rintro r w ⟨rfl, rfl⟩; rfl
    rintro r w ⟨rfl, rfl⟩
    refine ev_nx (pc' := 257) (st' := [.int (ev_b y9)]) (w' := ([] : List ev_E)) rfl rfl (by with_unfolding_all rfl) rfl rfl ?_
    refine ev_br rfl rfl (fun h26 => ?_) (fun h26 => ?_)
    · replace hR := lf_z0 h26 hR
      refine ev_run (cs := []) (pc' := 269) (L' := [some (.int v0), some (.int v1)]) (st' := [.int 3, .int 46, .int v1]) (w' := ([] : List ev_E)) [] 3 (by with_unfolding_all rfl) trivial ?_
      obtain ⟨y10, h27, hR⟩ := lf_b hR
      refine ev_callS1 0 (t_X2_nextIf F v1 46 3 _ h27) cs_X2_nextIf ml_X2_38 rfl rfl rfl (Nat.le_of_ble_eq_true rfl) (by with_unfolding_all rfl) (Nat.le_of_ble_eq_true rfl) ⟨Nat.le_of_ble_eq_true rfl, Nat.le_of_ble_eq_true rfl⟩ ⟨Nat.le_refl _, Nat.le_refl _⟩ ?_ ?_
      · rintro r w ⟨rfl, rfl⟩; rfl
      rintro r w ⟨rfl, rfl⟩
      refine ev_nx (pc' := 272) (st' := [.int y10]) (w' := ([] : List ev_E)) rfl rfl (by with_unfolding_all rfl) rfl rfl ?_
      cases hR
      exact ev_exit ⟨_, _, rfl, ⟨rfl, Or.inl rfl⟩, ⟨rfl, rfl⟩, Nat.le_refl _, Nat.le_refl _⟩
    · replace hR := lf_z1 h26 hR
      refine ev_run (cs := []) (pc' := 272) (L' := [some (.int v0), some (.int v1)]) (st' := [.int 11]) (w' := ([] : List ev_E)) [] 2 (by with_unfolding_all rfl) trivial ?_
      cases hR
      exact ev_exit ⟨_, _, rfl, ⟨rfl, Or.inl rfl⟩, ⟨rfl, rfl⟩, Nat.le_refl _, Nat.le_refl _⟩
  replace hR := lf_f h24 hR
  by_cases h28 : v0 = 11
  · replace hR := lf_t h28 hR
    refine ev_lit h28 (ev_run [] 1 rfl trivial ?_)
    refine ev_run (cs := []) (pc' := 277) (L' := [some (.int v0), some (.int v1)]) (st' := [.int 3, .int 46, .int v1]) (w' := ([] : List ev_E)) [] 3 (by with_unfolding_all rfl) trivial ?_
    obtain ⟨y11, h29, hR⟩ := lf_b hR
    refine ev_callS1 0 (t_X2_nextIf F v1 46 3 _ h29) cs_X2_nextIf ml_X2_38 rfl rfl rfl (Nat.le_of_ble_eq_true rfl) (by with_unfolding_all rfl) (Nat.le_of_ble_eq_true rfl) ⟨Nat.le_of_ble_eq_true rfl, Nat.le_of_ble_eq_true rfl⟩ ⟨Nat.le_refl _, Nat.le_refl _⟩ ?_ ?_
    · rintro r w ⟨rfl, rfl⟩; rfl
    rintro r w ⟨rfl, rfl⟩
    refine ev_nx (pc' := 280) (st' := [.int y11]) (w' := ([] : List ev_E)) rfl rfl (by with_unfolding_all rfl) rfl rfl ?_
    cases hR
    exact ev_exit ⟨_, _, rfl, ⟨rfl, Or.inl rfl⟩, ⟨rfl, rfl⟩, Nat.le_refl _, Nat.le_refl _⟩
  replace hR := lf_f h28 hR
  by_cases h30 : v0 = 12
  · replace hR := lf_t h30 hR
    refine ev_lit h30 (ev_run [] 1 rfl trivial ?_)
    refine ev_run (cs := []) (pc' := 162) (L' := [some (.int v0), some (.int v1)]) (st' := [.int 9, .int 1, .int v1]) (w' := ([] : List ev_E)) [] 3 (by with_unfolding_all rfl) trivial ?_
    obtain ⟨y12, h31, hR⟩ := lf_b hR
    refine ev_callS1 0 (t_X2_isDigit F v1 1 9 _ h31) cs_X2_isDigit ml_X2_30 rfl rfl rfl (Nat.le_of_ble_eq_true rfl) (by with_unfolding_all rfl) (Nat.le_of_ble_eq_true rfl) ⟨Nat.le_of_ble_eq_true rfl, Nat.le_of_ble_eq_true rfl⟩ ⟨Nat.le_refl _, Nat.le_refl _⟩ ?_ ?_
    · rintro r w ⟨rfl, rfl⟩; rfl
    rintro r w ⟨rfl, rfl⟩
    refine ev_nx (pc' := 165) (st' := [.int (ev_b y12)]) (w' := ([] : List ev_E)) rfl rfl (by with_unfolding_all rfl) rfl rfl ?_
    refine ev_br rfl rfl (fun h32 => ?_) (fun h32 => ?_)
    · replace hR := lf_z0 h32 hR
      refine ev_run (cs := []) (pc' := 174) (L' := [some (.int v0), some (.int v1)]) (st' := [.int (-1)]) (w' := ([] : List ev_E)) [] 1 (by with_unfolding_all rfl) trivial ?_
      cases hR
      exact ev_exit ⟨_, _, rfl, ⟨rfl, Or.inl rfl⟩, ⟨rfl, rfl⟩, Nat.le_refl _, Nat.le_refl _⟩
    · replace hR := lf_z1 h32 hR
      refine ev_run (cs := []) (pc' := 174) (L' := [some (.int v0), some (.int v1)]) (st' := [.int 13]) (w' := ([] : List ev_E)) [] 2 (by with_unfolding_all rfl) trivial ?_
      cases hR
      exact ev_exit ⟨_, _, rfl, ⟨rfl, Or.inl rfl⟩, ⟨rfl, rfl⟩, Nat.le_refl _, Nat.le_refl _⟩
  replace hR := lf_f h30 hR
  by_cases h33 : v0 = 13
  · replace hR := lf_t h33 hR
    refine ev_lit h33 (ev_run [] 1 rfl trivial ?_)
    exact ev_to2 (t_X2_next_b175 F v1 _ hR) ⟨rfl, trivial⟩ rfl rfl
  replace hR := lf_f h33 hR
  by_cases h34 : v0 = 14
  · replace hR := lf_t h34 hR
    refine ev_lit h34 (ev_run [] 1 rfl trivial ?_)
    refine ev_run (cs := []) (pc' := 224) (L' := [some (.int v0), some (.int v1)]) (st' := [.int 0, .int 59, .int v1]) (w' := ([] : List ev_E)) [] 3 (by with_unfolding_all rfl) trivial ?_
    obtain ⟨y13, h35, hR⟩ := lf_b hR
    refine ev_callS1 0 (t_X2_nextIf F v1 59 0 _ h35) cs_X2_nextIf ml_X2_38 rfl rfl rfl (Nat.le_of_ble_eq_true rfl) (by with_unfolding_all rfl) (Nat.le_of_ble_eq_true rfl) ⟨Nat.le_of_ble_eq_true rfl, Nat.le_of_ble_eq_true rfl⟩ ⟨Nat.le_refl _, Nat.le_refl _⟩ ?_ ?_
    · rintro r w ⟨rfl, rfl⟩; rfl
    rintro r w ⟨rfl, rfl⟩
    refine ev_nx (pc' := 227) (st' := [.int y13]) (w' := ([] : List ev_E)) rfl rfl (by with_unfolding_all rfl) rfl rfl ?_
    cases hR
    exact ev_exit ⟨_, _, rfl, ⟨rfl, Or.inl rfl⟩, ⟨rfl, rfl⟩, Nat.le_refl _, Nat.le_refl _⟩
  replace hR := lf_f h34 hR
  refine ev_tso 281 rfl ?_ rfl ?_
  · have k0 := lf_nt h1; have k1 := lf_nt h3; have k2 := lf_nt h6; have k3 := lf_nt h7; have k4 := lf_nt h8; have k5 := lf_nt h10; have k6 := lf_nt h13; have k7 := lf_nt h14; have k8 := lf_nt h18; have k9 := lf_nt h20; have k10 := lf_nt h24; have k11 := lf_nt h28; have k12 := lf_nt h30; have k13 := lf_nt h33; have k14 := lf_nt h34; rw [show (0 : Int32).toInt = 0 from rfl] at k0; rw [show (1 : Int32).toInt = 1 from rfl] at k1; rw [show (2 : Int32).toInt = 2 from rfl] at k2; rw [show (3 : Int32).toInt = 3 from rfl] at k3; rw [show (4 : Int32).toInt = 4 from rfl] at k4; rw [show (5 : Int32).toInt = 5 from rfl] at k5; rw [show (6 : Int32).toInt = 6 from rfl] at k6; rw [show (7 : Int32).toInt = 7 from rfl] at k7; rw [show (8 : Int32).toInt = 8 from rfl] at k8; rw [show (9 : Int32).toInt = 9 from rfl] at k9; rw [show (10 : Int32).toInt = 10 from rfl] at k10; rw [show (11 : Int32).toInt = 11 from rfl] at k11; rw [show (12 : Int32).toInt = 12 from rfl] at k12; rw [show (13 : Int32).toInt = 13 from rfl] at k13; rw [show (14 : Int32).toInt = 14 from rfl] at k14; omega
  refine ev_run (cs := []) (pc' := 282) (L' := [some (.int v0), some (.int v1)]) (st' := [.int (-1)]) (w' := ([] : List ev_E)) [] 1 (by with_unfolding_all rfl) trivial ?_
  cases hR
  exact ev_exit ⟨_, _, rfl, ⟨rfl, Or.inl rfl⟩, ⟨rfl, rfl⟩, Nat.le_refl _, Nat.le_refl _⟩

def s_X2_errorAt_l4 (F : Nat) (u : S_X2) : Nat → Int32 → Int32 → Option Int32
  | 0 => fun _ _ => none
  | n + 1 => fun v1 v2 => if (a_X2_length u) ≤ v2 then (some (a_X2_length u)) else (if 60 ≤ v2 then (some (a_X2_length u)) else (if lf_ix v2 60 then ((s_X2_next F v1 ((a_X2_codes u) v2.toNatClampNeg)).bind fun y1 => (if y1 = (-1) then (some (v2)) else (s_X2_errorAt_l4 F u n y1 (v2 + 1)))) else none))
theorem e_X2_errorAt_l4 (F : Nat) (u : S_X2) (n : Nat) (v1 : Int32) (v2 : Int32) : s_X2_errorAt_l4 F u (n + 1) v1 v2 = if (a_X2_length u) ≤ v2 then (some (a_X2_length u)) else (if 60 ≤ v2 then (some (a_X2_length u)) else (if lf_ix v2 60 then ((s_X2_next F v1 ((a_X2_codes u) v2.toNatClampNeg)).bind fun y1 => (if y1 = (-1) then (some (v2)) else (s_X2_errorAt_l4 F u n y1 (v2 + 1)))) else none)) := rfl
set_option maxHeartbeats 4000000 in
set_option maxRecDepth 20000 in
theorem t_X2_errorAt_l4 (F : Nat) (u : S_X2) (x : Int32)  : ∀ (n : Nat) (v1 : Int32) (v2 : Int32), s_X2_errorAt_l4 F u n v1 v2 = some x → ev_V mm_X2_errorAt none (ev_XR mm_X2_errorAt (fun r w => r = some (.int x) ∧ w = W_X2 u)) 4 [some (.ref 0), some (.int v1), some (.int v2)] [] (W_X2 u) 0 0 := by
  intro n
  induction n with
  | zero => intro v1 v2 hR; cases hR
  | succ n hk4 =>
    intro v1 v2 hR
    unfold s_X2_errorAt_l4 at hR
    refine ev_run (cs := []) (pc' := 9) (L' := [some (.ref 0), some (.int v1), some (.int v2)]) (st' := [.int (a_X2_length u), .int v2]) (w' := W_X2 u) [] 3 (by with_unfolding_all rfl) trivial ?_
    refine ev_br rfl rfl (fun h1 => ?_) (fun h1 => ?_)
    · replace hR := lf_t h1 hR
      refine ev_run (cs := []) (pc' := 46) (L' := [some (.ref 0), some (.int v1), some (.int v2)]) (st' := [.int (a_X2_length u)]) (w' := W_X2 u) [] 2 (by with_unfolding_all rfl) trivial ?_
      cases hR
      exact ev_exit ⟨_, _, rfl, ⟨rfl, Or.inl rfl⟩, ⟨rfl, rfl⟩, Nat.le_refl _, Nat.le_refl _⟩
    · replace hR := lf_f h1 hR
      refine ev_run (cs := []) (pc' := 15) (L' := [some (.ref 0), some (.int v1), some (.int v2)]) (st' := [.int 60, .int v2]) (w' := W_X2 u) [] 2 (by with_unfolding_all rfl) trivial ?_
      refine ev_br rfl rfl (fun h2 => ?_) (fun h2 => ?_)
      · replace hR := lf_t h2 hR
        refine ev_run (cs := []) (pc' := 46) (L' := [some (.ref 0), some (.int v1), some (.int v2)]) (st' := [.int (a_X2_length u)]) (w' := W_X2 u) [] 2 (by with_unfolding_all rfl) trivial ?_
        cases hR
        exact ev_exit ⟨_, _, rfl, ⟨rfl, Or.inl rfl⟩, ⟨rfl, rfl⟩, Nat.le_refl _, Nat.le_refl _⟩
      · replace hR := lf_f h2 hR
        obtain ⟨h3, hR⟩ := lf_g hR
        refine ev_run (cs := [lf_ix v2 60]) (pc' := 25) (L' := [some (.ref 0), some (.int v1), some (.int v2)]) (st' := [.int ((a_X2_codes u) v2.toNatClampNeg), .int v1]) (w' := W_X2 u) [] 5 (by with_unfolding_all rfl) (h3) ?_
        obtain ⟨y1, h4, hR⟩ := lf_b hR
        refine ev_callS1 0 (t_X2_next F v1 ((a_X2_codes u) v2.toNatClampNeg) _ h4) cs_X2_next ml_X2_22 rfl rfl rfl (Nat.le_of_ble_eq_true rfl) (by with_unfolding_all rfl) (Nat.le_of_ble_eq_true rfl) ⟨Nat.le_of_ble_eq_true rfl, Nat.le_of_ble_eq_true rfl⟩ ⟨Nat.le_refl _, Nat.le_refl _⟩ ?_ ?_
        · rintro r w ⟨rfl, rfl⟩; rfl
        rintro r w ⟨rfl, rfl⟩
        refine ev_nx (pc' := 28) (st' := [.int y1]) (w' := W_X2 u) rfl rfl (by with_unfolding_all rfl) rfl rfl ?_
        refine ev_run (cs := []) (pc' := 31) (L' := [some (.ref 0), some (.int y1), some (.int v2)]) (st' := [.int (-1), .int y1]) (w' := W_X2 u) [] 3 (by with_unfolding_all rfl) trivial ?_
        refine ev_br rfl rfl (fun h5 => ?_) (fun h5 => ?_)
        · replace hR := lf_f h5 hR
          refine ev_run (cs := []) (pc' := 4) (L' := [some (.ref 0), some (.int y1), some (.int (v2 + 1))]) (st' := []) (w' := W_X2 u) [] 2 (by with_unfolding_all rfl) trivial ?_
          exact ev_to2 (hk4 _ _ hR) ⟨rfl, rfl, rfl, trivial⟩ rfl rfl
        · replace hR := lf_t h5 hR
          refine ev_run (cs := []) (pc' := 35) (L' := [some (.ref 0), some (.int y1), some (.int v2)]) (st' := [.int v2]) (w' := W_X2 u) [] 1 (by with_unfolding_all rfl) trivial ?_
          cases hR
          exact ev_exit ⟨_, _, rfl, ⟨rfl, Or.inl rfl⟩, ⟨rfl, rfl⟩, Nat.le_refl _, Nat.le_refl _⟩

def s_X2_errorAt (F : Nat) (u : S_X2) : Option Int32 := s_X2_errorAt_l4 F u F 0 0
set_option maxHeartbeats 4000000 in
set_option maxRecDepth 20000 in
theorem t_X2_errorAt (F : Nat) (u : S_X2) (x : Int32) (hR : s_X2_errorAt F u = some x) : ev_A yX2_errorAt mm_X2_errorAt none [.ref 0] (W_X2 u) (fun r w => r = some (.int x) ∧ w = W_X2 u) := by
  unfold s_X2_errorAt at hR
  refine ev_start ok_X2_errorAt (by decide +kernel) rfl rfl (Nat.le_of_ble_eq_true rfl) ?_
  refine ev_run (cs := []) (pc' := 4) (L' := [some (.ref 0), some (.int 0), some (.int 0)]) (st' := []) (w' := W_X2 u) [] 4 (by with_unfolding_all rfl) trivial ?_
  exact ev_to2 (t_X2_errorAt_l4 F u _ F 0 0 hR) ⟨rfl, rfl, rfl, trivial⟩ rfl rfl

def s_X2_isProgram_b35 (F : Nat) (u : S_X2) (v1 : Int32) : Option Bool := if v1 = 14 then (some (true)) else (if v1 = 6 then (some (true)) else (if v1 = 7 then (some (true)) else (if v1 = 13 then (some (true)) else (some (false)))))
set_option maxHeartbeats 4000000 in
set_option maxRecDepth 20000 in
theorem t_X2_isProgram_b35 (F : Nat) (u : S_X2) (v1 : Int32) (x : Bool)  (hR : s_X2_isProgram_b35 F u v1 = some x) : ev_V mm_X2_isProgram none (ev_XR mm_X2_isProgram (fun r w => r = some (.int (ev_b x)) ∧ w = W_X2 u)) 35 [some (.ref 0), some (.int v1), none] [] (W_X2 u) 0 0 := by
  unfold s_X2_isProgram_b35 at hR
  refine ev_run (cs := []) (pc' := 38) (L' := [some (.ref 0), some (.int v1), none]) (st' := [.int 14, .int v1]) (w' := W_X2 u) [] 2 (by with_unfolding_all rfl) trivial ?_
  refine ev_br rfl rfl (fun h1 => ?_) (fun h1 => ?_)
  · replace hR := lf_t h1 hR
    refine ev_run (cs := []) (pc' := 64) (L' := [some (.ref 0), some (.int v1), none]) (st' := [.int 1]) (w' := W_X2 u) [] 2 (by with_unfolding_all rfl) trivial ?_
    cases hR
    exact ev_exit ⟨_, _, rfl, ⟨rfl, Or.inr ⟨rfl, rfl⟩⟩, ⟨rfl, rfl⟩, Nat.le_refl _, Nat.le_refl _⟩
  · replace hR := lf_f h1 hR
    refine ev_run (cs := []) (pc' := 44) (L' := [some (.ref 0), some (.int v1), none]) (st' := [.int 6, .int v1]) (w' := W_X2 u) [] 2 (by with_unfolding_all rfl) trivial ?_
    refine ev_br rfl rfl (fun h2 => ?_) (fun h2 => ?_)
    · replace hR := lf_t h2 hR
      refine ev_run (cs := []) (pc' := 64) (L' := [some (.ref 0), some (.int v1), none]) (st' := [.int 1]) (w' := W_X2 u) [] 2 (by with_unfolding_all rfl) trivial ?_
      cases hR
      exact ev_exit ⟨_, _, rfl, ⟨rfl, Or.inr ⟨rfl, rfl⟩⟩, ⟨rfl, rfl⟩, Nat.le_refl _, Nat.le_refl _⟩
    · replace hR := lf_f h2 hR
      refine ev_run (cs := []) (pc' := 50) (L' := [some (.ref 0), some (.int v1), none]) (st' := [.int 7, .int v1]) (w' := W_X2 u) [] 2 (by with_unfolding_all rfl) trivial ?_
      refine ev_br rfl rfl (fun h3 => ?_) (fun h3 => ?_)
      · replace hR := lf_t h3 hR
        refine ev_run (cs := []) (pc' := 64) (L' := [some (.ref 0), some (.int v1), none]) (st' := [.int 1]) (w' := W_X2 u) [] 2 (by with_unfolding_all rfl) trivial ?_
        cases hR
        exact ev_exit ⟨_, _, rfl, ⟨rfl, Or.inr ⟨rfl, rfl⟩⟩, ⟨rfl, rfl⟩, Nat.le_refl _, Nat.le_refl _⟩
      · replace hR := lf_f h3 hR
        refine ev_run (cs := []) (pc' := 56) (L' := [some (.ref 0), some (.int v1), none]) (st' := [.int 13, .int v1]) (w' := W_X2 u) [] 2 (by with_unfolding_all rfl) trivial ?_
        refine ev_br rfl rfl (fun h4 => ?_) (fun h4 => ?_)
        · replace hR := lf_f h4 hR
          refine ev_run (cs := []) (pc' := 64) (L' := [some (.ref 0), some (.int v1), none]) (st' := [.int 0]) (w' := W_X2 u) [] 1 (by with_unfolding_all rfl) trivial ?_
          cases hR
          exact ev_exit ⟨_, _, rfl, ⟨rfl, Or.inr ⟨rfl, rfl⟩⟩, ⟨rfl, rfl⟩, Nat.le_refl _, Nat.le_refl _⟩
        · replace hR := lf_t h4 hR
          refine ev_run (cs := []) (pc' := 64) (L' := [some (.ref 0), some (.int v1), none]) (st' := [.int 1]) (w' := W_X2 u) [] 2 (by with_unfolding_all rfl) trivial ?_
          cases hR
          exact ev_exit ⟨_, _, rfl, ⟨rfl, Or.inr ⟨rfl, rfl⟩⟩, ⟨rfl, rfl⟩, Nat.le_refl _, Nat.le_refl _⟩

def s_X2_isProgram_l4 (F : Nat) (u : S_X2) : Nat → Int32 → Int32 → Option Bool
  | 0 => fun _ _ => none
  | n + 1 => fun v1 v2 => if (a_X2_length u) ≤ v2 then (s_X2_isProgram_b35 F u v1) else (if 60 ≤ v2 then (s_X2_isProgram_b35 F u v1) else (if lf_ix v2 60 then ((s_X2_next F v1 ((a_X2_codes u) v2.toNatClampNeg)).bind fun y1 => (s_X2_isProgram_l4 F u n y1 (v2 + 1))) else none))
theorem e_X2_isProgram_l4 (F : Nat) (u : S_X2) (n : Nat) (v1 : Int32) (v2 : Int32) : s_X2_isProgram_l4 F u (n + 1) v1 v2 = if (a_X2_length u) ≤ v2 then (s_X2_isProgram_b35 F u v1) else (if 60 ≤ v2 then (s_X2_isProgram_b35 F u v1) else (if lf_ix v2 60 then ((s_X2_next F v1 ((a_X2_codes u) v2.toNatClampNeg)).bind fun y1 => (s_X2_isProgram_l4 F u n y1 (v2 + 1))) else none)) := rfl
set_option maxHeartbeats 4000000 in
set_option maxRecDepth 20000 in
theorem t_X2_isProgram_l4 (F : Nat) (u : S_X2) (x : Bool)  : ∀ (n : Nat) (v1 : Int32) (v2 : Int32), s_X2_isProgram_l4 F u n v1 v2 = some x → ev_V mm_X2_isProgram none (ev_XR mm_X2_isProgram (fun r w => r = some (.int (ev_b x)) ∧ w = W_X2 u)) 4 [some (.ref 0), some (.int v1), some (.int v2)] [] (W_X2 u) 0 0 := by
  intro n
  induction n with
  | zero => intro v1 v2 hR; cases hR
  | succ n hk4 =>
    intro v1 v2 hR
    unfold s_X2_isProgram_l4 at hR
    refine ev_run (cs := []) (pc' := 9) (L' := [some (.ref 0), some (.int v1), some (.int v2)]) (st' := [.int (a_X2_length u), .int v2]) (w' := W_X2 u) [] 3 (by with_unfolding_all rfl) trivial ?_
    refine ev_br rfl rfl (fun h1 => ?_) (fun h1 => ?_)
    · replace hR := lf_t h1 hR
      exact ev_to2 (t_X2_isProgram_b35 F u v1 _ hR) ⟨rfl, rfl, trivial⟩ rfl rfl
    · replace hR := lf_f h1 hR
      refine ev_run (cs := []) (pc' := 15) (L' := [some (.ref 0), some (.int v1), some (.int v2)]) (st' := [.int 60, .int v2]) (w' := W_X2 u) [] 2 (by with_unfolding_all rfl) trivial ?_
      refine ev_br rfl rfl (fun h2 => ?_) (fun h2 => ?_)
      · replace hR := lf_t h2 hR
        exact ev_to2 (t_X2_isProgram_b35 F u v1 _ hR) ⟨rfl, rfl, trivial⟩ rfl rfl
      · replace hR := lf_f h2 hR
        obtain ⟨h3, hR⟩ := lf_g hR
        refine ev_run (cs := [lf_ix v2 60]) (pc' := 25) (L' := [some (.ref 0), some (.int v1), some (.int v2)]) (st' := [.int ((a_X2_codes u) v2.toNatClampNeg), .int v1]) (w' := W_X2 u) [] 5 (by with_unfolding_all rfl) (h3) ?_
        obtain ⟨y1, h4, hR⟩ := lf_b hR
        refine ev_callS1 0 (t_X2_next F v1 ((a_X2_codes u) v2.toNatClampNeg) _ h4) cs_X2_next ml_X2_22 rfl rfl rfl (Nat.le_of_ble_eq_true rfl) (by with_unfolding_all rfl) (Nat.le_of_ble_eq_true rfl) ⟨Nat.le_of_ble_eq_true rfl, Nat.le_of_ble_eq_true rfl⟩ ⟨Nat.le_refl _, Nat.le_refl _⟩ ?_ ?_
        · rintro r w ⟨rfl, rfl⟩; rfl
        rintro r w ⟨rfl, rfl⟩
        refine ev_nx (pc' := 28) (st' := [.int y1]) (w' := W_X2 u) rfl rfl (by with_unfolding_all rfl) rfl rfl ?_
        refine ev_run (cs := []) (pc' := 4) (L' := [some (.ref 0), some (.int y1), some (.int (v2 + 1))]) (st' := []) (w' := W_X2 u) [] 3 (by with_unfolding_all rfl) trivial ?_
        exact ev_to2 (hk4 _ _ hR) ⟨rfl, rfl, rfl, trivial⟩ rfl rfl

def s_X2_isProgram (F : Nat) (u : S_X2) : Option Bool := s_X2_isProgram_l4 F u F 0 0
set_option maxHeartbeats 4000000 in
set_option maxRecDepth 20000 in
theorem t_X2_isProgram (F : Nat) (u : S_X2) (x : Bool) (hR : s_X2_isProgram F u = some x) : ev_A yX2_isProgram mm_X2_isProgram none [.ref 0] (W_X2 u) (fun r w => r = some (.int (ev_b x)) ∧ w = W_X2 u) := by
  unfold s_X2_isProgram at hR
  refine ev_start ok_X2_isProgram (by decide +kernel) rfl rfl (Nat.le_of_ble_eq_true rfl) ?_
  refine ev_run (cs := []) (pc' := 4) (L' := [some (.ref 0), some (.int 0), some (.int 0)]) (st' := []) (w' := W_X2 u) [] 4 (by with_unfolding_all rfl) trivial ?_
  exact ev_to2 (t_X2_isProgram_l4 F u _ F 0 0 hR) ⟨rfl, rfl, rfl, trivial⟩ rfl rfl

def s_X2_toBegin (F : Nat) (u : S_X2) : Option S_X2 := some (m_X2_at 0 u)
set_option maxHeartbeats 4000000 in
set_option maxRecDepth 20000 in
theorem t_X2_toBegin (F : Nat) (u : S_X2) (x : S_X2) (hR : s_X2_toBegin F u = some x) : ev_A yX2_toBegin mm_X2_toBegin none [.ref 0] (W_X2 u) (fun r w => r = none ∧ w = W_X2 x) := by
  unfold s_X2_toBegin at hR
  refine ev_start ok_X2_toBegin (by decide +kernel) rfl rfl (Nat.le_of_ble_eq_true rfl) ?_
  refine ev_run (cs := []) (pc' := 5) (L' := [some (.ref 0)]) (st' := []) (w' := W_X2 (m_X2_at 0 u)) [] 3 (by with_unfolding_all rfl) trivial ?_
  cases hR
  exact ev_exit ⟨_, _, rfl, ⟨rfl, rfl⟩, ⟨rfl, rfl⟩, Nat.le_refl _, Nat.le_refl _⟩

def s_X2_hasMore (F : Nat) (u : S_X2) : Option Bool := if (a_X2_at u) < 0 then (some (false)) else (if (a_X2_length u) ≤ (a_X2_at u) then (some (false)) else (if 60 ≤ (a_X2_at u) then (some (false)) else (some (true))))
set_option maxHeartbeats 4000000 in
set_option maxRecDepth 20000 in
theorem t_X2_hasMore (F : Nat) (u : S_X2) (x : Bool) (hR : s_X2_hasMore F u = some x) : ev_A yX2_hasMore mm_X2_hasMore none [.ref 0] (W_X2 u) (fun r w => r = some (.int (ev_b x)) ∧ w = W_X2 u) := by
  unfold s_X2_hasMore at hR
  refine ev_start ok_X2_hasMore (by decide +kernel) rfl rfl (Nat.le_of_ble_eq_true rfl) ?_
  refine ev_run (cs := []) (pc' := 4) (L' := [some (.ref 0)]) (st' := [.int (a_X2_at u)]) (w' := W_X2 u) [] 2 (by with_unfolding_all rfl) trivial ?_
  refine ev_br rfl rfl (fun h1 => ?_) (fun h1 => ?_)
  · replace hR := lf_t h1 hR
    refine ev_run (cs := []) (pc' := 32) (L' := [some (.ref 0)]) (st' := [.int 0]) (w' := W_X2 u) [] 1 (by with_unfolding_all rfl) trivial ?_
    cases hR
    exact ev_exit ⟨_, _, rfl, ⟨rfl, Or.inr ⟨rfl, rfl⟩⟩, ⟨rfl, rfl⟩, Nat.le_refl _, Nat.le_refl _⟩
  · replace hR := lf_f h1 hR
    refine ev_run (cs := []) (pc' := 15) (L' := [some (.ref 0)]) (st' := [.int (a_X2_length u), .int (a_X2_at u)]) (w' := W_X2 u) [] 4 (by with_unfolding_all rfl) trivial ?_
    refine ev_br rfl rfl (fun h2 => ?_) (fun h2 => ?_)
    · replace hR := lf_t h2 hR
      refine ev_run (cs := []) (pc' := 32) (L' := [some (.ref 0)]) (st' := [.int 0]) (w' := W_X2 u) [] 1 (by with_unfolding_all rfl) trivial ?_
      cases hR
      exact ev_exit ⟨_, _, rfl, ⟨rfl, Or.inr ⟨rfl, rfl⟩⟩, ⟨rfl, rfl⟩, Nat.le_refl _, Nat.le_refl _⟩
    · replace hR := lf_f h2 hR
      refine ev_run (cs := []) (pc' := 24) (L' := [some (.ref 0)]) (st' := [.int 60, .int (a_X2_at u)]) (w' := W_X2 u) [] 3 (by with_unfolding_all rfl) trivial ?_
      refine ev_br rfl rfl (fun h3 => ?_) (fun h3 => ?_)
      · replace hR := lf_t h3 hR
        refine ev_run (cs := []) (pc' := 32) (L' := [some (.ref 0)]) (st' := [.int 0]) (w' := W_X2 u) [] 1 (by with_unfolding_all rfl) trivial ?_
        cases hR
        exact ev_exit ⟨_, _, rfl, ⟨rfl, Or.inr ⟨rfl, rfl⟩⟩, ⟨rfl, rfl⟩, Nat.le_refl _, Nat.le_refl _⟩
      · replace hR := lf_f h3 hR
        refine ev_run (cs := []) (pc' := 32) (L' := [some (.ref 0)]) (st' := [.int 1]) (w' := W_X2 u) [] 2 (by with_unfolding_all rfl) trivial ?_
        cases hR
        exact ev_exit ⟨_, _, rfl, ⟨rfl, Or.inr ⟨rfl, rfl⟩⟩, ⟨rfl, rfl⟩, Nat.le_refl _, Nat.le_refl _⟩

def s_X2_readNumber_l37 (F : Nat) : Nat → S_X2 → Int32 → Int32 → Option (Int32 × S_X2)
  | 0 => fun _ _ _ => none
  | n + 1 => fun u v1 v2 => if 60 ≤ v2 then (some (v1, u)) else ((s_X2_hasMore F u).bind fun y1 => (if y1 then (if lf_ix (a_X2_at u) 60 then ((s_X2_isDigit F ((a_X2_codes u) ((a_X2_at u).toNatClampNeg)) 0 9).bind fun y2 => (if y2 then (if lf_ix (a_X2_at u) 60 then (s_X2_readNumber_l37 F n (m_X2_at ((a_X2_at u) + 1) u) (((10 * v1) + ((a_X2_codes u) ((a_X2_at u).toNatClampNeg))) - 48) (v2 + 1)) else none) else (some (v1, u)))) else none) else (some (v1, u))))
theorem e_X2_readNumber_l37 (F : Nat) (n : Nat) (u : S_X2) (v1 : Int32) (v2 : Int32) : s_X2_readNumber_l37 F (n + 1) u v1 v2 = if 60 ≤ v2 then (some (v1, u)) else ((s_X2_hasMore F u).bind fun y1 => (if y1 then (if lf_ix (a_X2_at u) 60 then ((s_X2_isDigit F ((a_X2_codes u) ((a_X2_at u).toNatClampNeg)) 0 9).bind fun y2 => (if y2 then (if lf_ix (a_X2_at u) 60 then (s_X2_readNumber_l37 F n (m_X2_at ((a_X2_at u) + 1) u) (((10 * v1) + ((a_X2_codes u) ((a_X2_at u).toNatClampNeg))) - 48) (v2 + 1)) else none) else (some (v1, u)))) else none) else (some (v1, u)))) := rfl
set_option maxHeartbeats 4000000 in
set_option maxRecDepth 20000 in
theorem t_X2_readNumber_l37 (F : Nat) (x : (Int32 × S_X2))  : ∀ (n : Nat) (u : S_X2) (v1 : Int32) (v2 : Int32), s_X2_readNumber_l37 F n u v1 v2 = some x → ev_V mm_X2_readNumber none (ev_XR mm_X2_readNumber (fun r w => r = some (.int x.1) ∧ w = W_X2 x.2)) 37 [some (.ref 0), some (.int v1), some (.int v2)] [] (W_X2 u) 0 0 := by
  intro n
  induction n with
  | zero => intro u v1 v2 hR; cases hR
  | succ n hk37 =>
    intro u v1 v2 hR
    unfold s_X2_readNumber_l37 at hR
    refine ev_run (cs := []) (pc' := 40) (L' := [some (.ref 0), some (.int v1), some (.int v2)]) (st' := [.int 60, .int v2]) (w' := W_X2 u) [] 2 (by with_unfolding_all rfl) trivial ?_
    refine ev_br rfl rfl (fun h1 => ?_) (fun h1 => ?_)
    · replace hR := lf_t h1 hR
      refine ev_run (cs := []) (pc' := 103) (L' := [some (.ref 0), some (.int v1), some (.int v2)]) (st' := [.int v1]) (w' := W_X2 u) [] 1 (by with_unfolding_all rfl) trivial ?_
      cases hR
      exact ev_exit ⟨_, _, rfl, ⟨rfl, Or.inl rfl⟩, ⟨rfl, rfl⟩, Nat.le_refl _, Nat.le_refl _⟩
    · replace hR := lf_f h1 hR
      refine ev_run (cs := []) (pc' := 44) (L' := [some (.ref 0), some (.int v1), some (.int v2)]) (st' := [.ref 0]) (w' := W_X2 u) [] 1 (by with_unfolding_all rfl) trivial ?_
      obtain ⟨y1, h2, hR⟩ := lf_b hR
      refine ev_callV1 0 (t_X2_hasMore F u _ h2) cv_X2_hasMore ml_X2_45 rfl rfl rfl (Nat.le_of_ble_eq_true rfl) (by with_unfolding_all rfl) (Nat.le_of_ble_eq_true rfl) ⟨Nat.le_of_ble_eq_true rfl, Nat.le_of_ble_eq_true rfl⟩ ⟨Nat.le_refl _, Nat.le_refl _⟩ ?_ ?_
      · rintro r w ⟨rfl, rfl⟩; rfl
      rintro r w ⟨rfl, rfl⟩
      refine ev_nx (pc' := 47) (st' := [.int (ev_b y1)]) (w' := W_X2 u) rfl rfl (by with_unfolding_all rfl) rfl rfl ?_
      refine ev_br rfl rfl (fun h3 => ?_) (fun h3 => ?_)
      · replace hR := lf_z0 h3 hR
        refine ev_run (cs := []) (pc' := 103) (L' := [some (.ref 0), some (.int v1), some (.int v2)]) (st' := [.int v1]) (w' := W_X2 u) [] 1 (by with_unfolding_all rfl) trivial ?_
        cases hR
        exact ev_exit ⟨_, _, rfl, ⟨rfl, Or.inl rfl⟩, ⟨rfl, rfl⟩, Nat.le_refl _, Nat.le_refl _⟩
      · replace hR := lf_z1 h3 hR
        obtain ⟨h4, hR⟩ := lf_g hR
        refine ev_run (cs := [lf_ix (a_X2_at u) 60]) (pc' := 62) (L' := [some (.ref 0), some (.int v1), some (.int v2)]) (st' := [.int 9, .int 0, .int ((a_X2_codes u) ((a_X2_at u).toNatClampNeg))]) (w' := W_X2 u) [] 7 (by with_unfolding_all rfl) (h4) ?_
        obtain ⟨y2, h5, hR⟩ := lf_b hR
        refine ev_callS1 0 (t_X2_isDigit F ((a_X2_codes u) ((a_X2_at u).toNatClampNeg)) 0 9 _ h5) cs_X2_isDigit ml_X2_30 rfl rfl rfl (Nat.le_of_ble_eq_true rfl) (by with_unfolding_all rfl) (Nat.le_of_ble_eq_true rfl) ⟨Nat.le_of_ble_eq_true rfl, Nat.le_of_ble_eq_true rfl⟩ ⟨Nat.le_refl _, Nat.le_refl _⟩ ?_ ?_
        · rintro r w ⟨rfl, rfl⟩; rfl
        rintro r w ⟨rfl, rfl⟩
        refine ev_nx (pc' := 65) (st' := [.int (ev_b y2)]) (w' := W_X2 u) rfl rfl (by with_unfolding_all rfl) rfl rfl ?_
        refine ev_br rfl rfl (fun h6 => ?_) (fun h6 => ?_)
        · replace hR := lf_z0 h6 hR
          refine ev_run (cs := []) (pc' := 103) (L' := [some (.ref 0), some (.int v1), some (.int v2)]) (st' := [.int v1]) (w' := W_X2 u) [] 1 (by with_unfolding_all rfl) trivial ?_
          cases hR
          exact ev_exit ⟨_, _, rfl, ⟨rfl, Or.inl rfl⟩, ⟨rfl, rfl⟩, Nat.le_refl _, Nat.le_refl _⟩
        · replace hR := lf_z1 h6 hR
          obtain ⟨h7, hR⟩ := lf_g hR
          refine ev_run (cs := [lf_ix (a_X2_at u) 60]) (pc' := 86) (L' := [some (.ref 0), some (.int (((10 * v1) + ((a_X2_codes u) ((a_X2_at u).toNatClampNeg))) - 48)), some (.int v2)]) (st' := []) (w' := W_X2 u) [] 12 (by with_unfolding_all rfl) (h7) ?_
          refine ev_run (cs := []) (pc' := 37) (L' := [some (.ref 0), some (.int (((10 * v1) + ((a_X2_codes u) ((a_X2_at u).toNatClampNeg))) - 48)), some (.int (v2 + 1))]) (st' := []) (w' := W_X2 (m_X2_at ((a_X2_at u) + 1) u)) [] 8 (by with_unfolding_all rfl) trivial ?_
          exact ev_to2 (hk37 _ _ _ hR) ⟨rfl, rfl, rfl, trivial⟩ rfl rfl

def s_X2_readNumber (F : Nat) (u : S_X2) : Option (Int32 × S_X2) := (s_X2_hasMore F u).bind fun y1 => (if y1 then (if lf_ix (a_X2_at u) 60 then (if ((a_X2_codes u) ((a_X2_at u).toNatClampNeg)) = 45 then (some ((-1), m_X2_at ((a_X2_at u) + 1) u)) else (s_X2_readNumber_l37 F F u 0 0)) else none) else (s_X2_readNumber_l37 F F u 0 0))
set_option maxHeartbeats 4000000 in
set_option maxRecDepth 20000 in
theorem t_X2_readNumber (F : Nat) (u : S_X2) (x : (Int32 × S_X2)) (hR : s_X2_readNumber F u = some x) : ev_A yX2_readNumber mm_X2_readNumber none [.ref 0] (W_X2 u) (fun r w => r = some (.int x.1) ∧ w = W_X2 x.2) := by
  unfold s_X2_readNumber at hR
  refine ev_start ok_X2_readNumber (by decide +kernel) rfl rfl (Nat.le_of_ble_eq_true rfl) ?_
  refine ev_run (cs := []) (pc' := 1) (L' := [some (.ref 0), none, none]) (st' := [.ref 0]) (w' := W_X2 u) [] 1 (by with_unfolding_all rfl) trivial ?_
  obtain ⟨y1, h1, hR⟩ := lf_b hR
  refine ev_callV1 0 (t_X2_hasMore F u _ h1) cv_X2_hasMore ml_X2_45 rfl rfl rfl (Nat.le_of_ble_eq_true rfl) (by with_unfolding_all rfl) (Nat.le_of_ble_eq_true rfl) ⟨Nat.le_of_ble_eq_true rfl, Nat.le_of_ble_eq_true rfl⟩ ⟨Nat.le_refl _, Nat.le_refl _⟩ ?_ ?_
  · rintro r w ⟨rfl, rfl⟩; rfl
  rintro r w ⟨rfl, rfl⟩
  refine ev_nx (pc' := 4) (st' := [.int (ev_b y1)]) (w' := W_X2 u) rfl rfl (by with_unfolding_all rfl) rfl rfl ?_
  refine ev_br rfl rfl (fun h2 => ?_) (fun h2 => ?_)
  · replace hR := lf_z0 h2 hR
    refine ev_run (cs := []) (pc' := 37) (L' := [some (.ref 0), some (.int 0), some (.int 0)]) (st' := []) (w' := W_X2 u) [] 4 (by with_unfolding_all rfl) trivial ?_
    exact ev_to2 (t_X2_readNumber_l37 F _ F u 0 0 hR) ⟨rfl, rfl, rfl, trivial⟩ rfl rfl
  · replace hR := lf_z1 h2 hR
    obtain ⟨h3, hR⟩ := lf_g hR
    refine ev_run (cs := [lf_ix (a_X2_at u) 60]) (pc' := 18) (L' := [some (.ref 0), none, none]) (st' := [.int 45, .int ((a_X2_codes u) ((a_X2_at u).toNatClampNeg))]) (w' := W_X2 u) [] 6 (by with_unfolding_all rfl) (h3) ?_
    refine ev_br rfl rfl (fun h4 => ?_) (fun h4 => ?_)
    · replace hR := lf_f h4 hR
      refine ev_run (cs := []) (pc' := 37) (L' := [some (.ref 0), some (.int 0), some (.int 0)]) (st' := []) (w' := W_X2 u) [] 4 (by with_unfolding_all rfl) trivial ?_
      exact ev_to2 (t_X2_readNumber_l37 F _ F u 0 0 hR) ⟨rfl, rfl, rfl, trivial⟩ rfl rfl
    · replace hR := lf_t h4 hR
      refine ev_run (cs := []) (pc' := 32) (L' := [some (.ref 0), none, none]) (st' := [.int (-1)]) (w' := W_X2 (m_X2_at ((a_X2_at u) + 1) u)) [] 7 (by with_unfolding_all rfl) trivial ?_
      cases hR
      exact ev_exit ⟨_, _, rfl, ⟨rfl, Or.inl rfl⟩, ⟨rfl, rfl⟩, Nat.le_refl _, Nat.le_refl _⟩

def s_X2_readStep_l34 (F : Nat) : Nat → S_X2 → Int32 → Option (Bool × S_X2)
  | 0 => fun _ _ => none
  | n + 1 => fun u v1 => if 3 ≤ v1 then (some (true, m_X2_at ((a_X2_at u) + 1) u)) else ((s_X2_hasMore F u).bind fun y1 => (if y1 then (if lf_ix (a_X2_at u) 60 then (if ((a_X2_codes u) ((a_X2_at u).toNatClampNeg)) = 59 then (some (true, m_X2_at ((a_X2_at u) + 1) u)) else ((s_X2_readNumber F u).bind fun y2 => (if lf_ix v1 3 then ((s_X2_hasMore F (m_X2_numbers (upd (a_X2_numbers y2.2) v1.toNatClampNeg y2.1) y2.2)).bind fun y3 => (if y3 then (if lf_ix (a_X2_at y2.2) 60 then (if ((a_X2_codes y2.2) ((a_X2_at y2.2).toNatClampNeg)) = 46 then (s_X2_readStep_l34 F n (m_X2_at ((a_X2_at y2.2) + 1) (m_X2_numbers (upd (a_X2_numbers y2.2) v1.toNatClampNeg y2.1) y2.2)) (v1 + 1)) else (if lf_ix (a_X2_at y2.2) 60 then (if ((a_X2_codes y2.2) ((a_X2_at y2.2).toNatClampNeg)) = 61 then (s_X2_readStep_l34 F n (m_X2_at ((a_X2_at y2.2) + 1) (m_X2_numbers (upd (a_X2_numbers y2.2) v1.toNatClampNeg y2.1) y2.2)) (v1 + 1)) else (s_X2_readStep_l34 F n (m_X2_numbers (upd (a_X2_numbers y2.2) v1.toNatClampNeg y2.1) y2.2) (v1 + 1))) else none)) else none) else (s_X2_readStep_l34 F n (m_X2_numbers (upd (a_X2_numbers y2.2) v1.toNatClampNeg y2.1) y2.2) (v1 + 1)))) else none))) else none) else (some (true, m_X2_at ((a_X2_at u) + 1) u))))
theorem e_X2_readStep_l34 (F : Nat) (n : Nat) (u : S_X2) (v1 : Int32) : s_X2_readStep_l34 F (n + 1) u v1 = if 3 ≤ v1 then (some (true, m_X2_at ((a_X2_at u) + 1) u)) else ((s_X2_hasMore F u).bind fun y1 => (if y1 then (if lf_ix (a_X2_at u) 60 then (if ((a_X2_codes u) ((a_X2_at u).toNatClampNeg)) = 59 then (some (true, m_X2_at ((a_X2_at u) + 1) u)) else ((s_X2_readNumber F u).bind fun y2 => (if lf_ix v1 3 then ((s_X2_hasMore F (m_X2_numbers (upd (a_X2_numbers y2.2) v1.toNatClampNeg y2.1) y2.2)).bind fun y3 => (if y3 then (if lf_ix (a_X2_at y2.2) 60 then (if ((a_X2_codes y2.2) ((a_X2_at y2.2).toNatClampNeg)) = 46 then (s_X2_readStep_l34 F n (m_X2_at ((a_X2_at y2.2) + 1) (m_X2_numbers (upd (a_X2_numbers y2.2) v1.toNatClampNeg y2.1) y2.2)) (v1 + 1)) else (if lf_ix (a_X2_at y2.2) 60 then (if ((a_X2_codes y2.2) ((a_X2_at y2.2).toNatClampNeg)) = 61 then (s_X2_readStep_l34 F n (m_X2_at ((a_X2_at y2.2) + 1) (m_X2_numbers (upd (a_X2_numbers y2.2) v1.toNatClampNeg y2.1) y2.2)) (v1 + 1)) else (s_X2_readStep_l34 F n (m_X2_numbers (upd (a_X2_numbers y2.2) v1.toNatClampNeg y2.1) y2.2) (v1 + 1))) else none)) else none) else (s_X2_readStep_l34 F n (m_X2_numbers (upd (a_X2_numbers y2.2) v1.toNatClampNeg y2.1) y2.2) (v1 + 1)))) else none))) else none) else (some (true, m_X2_at ((a_X2_at u) + 1) u)))) := rfl
set_option maxHeartbeats 4000000 in
set_option maxRecDepth 20000 in
theorem t_X2_readStep_l34 (F : Nat) (x : (Bool × S_X2))  : ∀ (n : Nat) (u : S_X2) (v1 : Int32), s_X2_readStep_l34 F n u v1 = some x → ev_V mm_X2_readStep none (ev_XR mm_X2_readStep (fun r w => r = some (.int (ev_b x.1)) ∧ w = W_X2 x.2)) 34 [some (.ref 0), some (.int v1)] [] (W_X2 u) 0 0 := by
  intro n
  induction n with
  | zero => intro u v1 hR; cases hR
  | succ n hk34 =>
    intro u v1 hR
    unfold s_X2_readStep_l34 at hR
    refine ev_run (cs := []) (pc' := 36) (L' := [some (.ref 0), some (.int v1)]) (st' := [.int 3, .int v1]) (w' := W_X2 u) [] 2 (by with_unfolding_all rfl) trivial ?_
    refine ev_br rfl rfl (fun h1 => ?_) (fun h1 => ?_)
    · replace hR := lf_t h1 hR
      refine ev_run (cs := []) (pc' := 132) (L' := [some (.ref 0), some (.int v1)]) (st' := [.int 1]) (w' := W_X2 (m_X2_at ((a_X2_at u) + 1) u)) [] 7 (by with_unfolding_all rfl) trivial ?_
      cases hR
      exact ev_exit ⟨_, _, rfl, ⟨rfl, Or.inr ⟨rfl, rfl⟩⟩, ⟨rfl, rfl⟩, Nat.le_refl _, Nat.le_refl _⟩
    · replace hR := lf_f h1 hR
      refine ev_run (cs := []) (pc' := 40) (L' := [some (.ref 0), some (.int v1)]) (st' := [.ref 0]) (w' := W_X2 u) [] 1 (by with_unfolding_all rfl) trivial ?_
      obtain ⟨y1, h2, hR⟩ := lf_b hR
      refine ev_callV1 0 (t_X2_hasMore F u _ h2) cv_X2_hasMore ml_X2_45 rfl rfl rfl (Nat.le_of_ble_eq_true rfl) (by with_unfolding_all rfl) (Nat.le_of_ble_eq_true rfl) ⟨Nat.le_of_ble_eq_true rfl, Nat.le_of_ble_eq_true rfl⟩ ⟨Nat.le_refl _, Nat.le_refl _⟩ ?_ ?_
      · rintro r w ⟨rfl, rfl⟩; rfl
      rintro r w ⟨rfl, rfl⟩
      refine ev_nx (pc' := 43) (st' := [.int (ev_b y1)]) (w' := W_X2 u) rfl rfl (by with_unfolding_all rfl) rfl rfl ?_
      refine ev_br rfl rfl (fun h3 => ?_) (fun h3 => ?_)
      · replace hR := lf_z0 h3 hR
        refine ev_run (cs := []) (pc' := 132) (L' := [some (.ref 0), some (.int v1)]) (st' := [.int 1]) (w' := W_X2 (m_X2_at ((a_X2_at u) + 1) u)) [] 7 (by with_unfolding_all rfl) trivial ?_
        cases hR
        exact ev_exit ⟨_, _, rfl, ⟨rfl, Or.inr ⟨rfl, rfl⟩⟩, ⟨rfl, rfl⟩, Nat.le_refl _, Nat.le_refl _⟩
      · replace hR := lf_z1 h3 hR
        obtain ⟨h4, hR⟩ := lf_g hR
        refine ev_run (cs := [lf_ix (a_X2_at u) 60]) (pc' := 57) (L' := [some (.ref 0), some (.int v1)]) (st' := [.int 59, .int ((a_X2_codes u) ((a_X2_at u).toNatClampNeg))]) (w' := W_X2 u) [] 6 (by with_unfolding_all rfl) (h4) ?_
        refine ev_br rfl rfl (fun h5 => ?_) (fun h5 => ?_)
        · replace hR := lf_t h5 hR
          refine ev_run (cs := []) (pc' := 132) (L' := [some (.ref 0), some (.int v1)]) (st' := [.int 1]) (w' := W_X2 (m_X2_at ((a_X2_at u) + 1) u)) [] 7 (by with_unfolding_all rfl) trivial ?_
          cases hR
          exact ev_exit ⟨_, _, rfl, ⟨rfl, Or.inr ⟨rfl, rfl⟩⟩, ⟨rfl, rfl⟩, Nat.le_refl _, Nat.le_refl _⟩
        · replace hR := lf_f h5 hR
          refine ev_run (cs := []) (pc' := 66) (L' := [some (.ref 0), some (.int v1)]) (st' := [.ref 0, .int v1, .ref 2]) (w' := W_X2 u) [] 4 (by with_unfolding_all rfl) trivial ?_
          obtain ⟨y2, h6, hR⟩ := lf_b hR
          refine ev_callV1 0 (t_X2_readNumber F u _ h6) cv_X2_readNumber ml_X2_52 rfl rfl rfl (Nat.le_of_ble_eq_true rfl) (by with_unfolding_all rfl) (Nat.le_of_ble_eq_true rfl) ⟨Nat.le_of_ble_eq_true rfl, Nat.le_of_ble_eq_true rfl⟩ ⟨Nat.le_refl _, Nat.le_refl _⟩ ?_ ?_
          · rintro r w ⟨rfl, rfl⟩; rfl
          rintro r w ⟨rfl, rfl⟩
          refine ev_nx (pc' := 69) (st' := [.int y2.1, .int v1, .ref 2]) (w' := W_X2 y2.2) rfl rfl (by with_unfolding_all rfl) rfl rfl ?_
          obtain ⟨h7, hR⟩ := lf_g hR
          refine ev_run (cs := [lf_ix v1 3]) (pc' := 71) (L' := [some (.ref 0), some (.int v1)]) (st' := [.ref 0]) (w' := W_X2 (m_X2_numbers (upd (a_X2_numbers y2.2) v1.toNatClampNeg y2.1) y2.2)) [] 2 (by with_unfolding_all rfl) (h7) ?_
          obtain ⟨y3, h8, hR⟩ := lf_b hR
          refine ev_callV1 0 (t_X2_hasMore F (m_X2_numbers (upd (a_X2_numbers y2.2) v1.toNatClampNeg y2.1) y2.2) _ h8) cv_X2_hasMore ml_X2_45 rfl rfl rfl (Nat.le_of_ble_eq_true rfl) (by with_unfolding_all rfl) (Nat.le_of_ble_eq_true rfl) ⟨Nat.le_of_ble_eq_true rfl, Nat.le_of_ble_eq_true rfl⟩ ⟨Nat.le_refl _, Nat.le_refl _⟩ ?_ ?_
          · rintro r w ⟨rfl, rfl⟩; rfl
          rintro r w ⟨rfl, rfl⟩
          refine ev_nx (pc' := 74) (st' := [.int (ev_b y3)]) (w' := W_X2 (m_X2_numbers (upd (a_X2_numbers y2.2) v1.toNatClampNeg y2.1) y2.2)) rfl rfl (by with_unfolding_all rfl) rfl rfl ?_
          refine ev_br rfl rfl (fun h9 => ?_) (fun h9 => ?_)
          · replace hR := lf_z0 h9 hR
            refine ev_run (cs := []) (pc' := 34) (L' := [some (.ref 0), some (.int (v1 + 1))]) (st' := []) (w' := W_X2 (m_X2_numbers (upd (a_X2_numbers y2.2) v1.toNatClampNeg y2.1) y2.2)) [] 2 (by with_unfolding_all rfl) trivial ?_
            exact ev_to2 (hk34 _ _ hR) ⟨rfl, rfl, trivial⟩ rfl rfl
          · replace hR := lf_z1 h9 hR
            obtain ⟨h10, hR⟩ := lf_g hR
            refine ev_run (cs := [lf_ix (a_X2_at y2.2) 60]) (pc' := 88) (L' := [some (.ref 0), some (.int v1)]) (st' := [.int 46, .int ((a_X2_codes y2.2) ((a_X2_at y2.2).toNatClampNeg))]) (w' := W_X2 (m_X2_numbers (upd (a_X2_numbers y2.2) v1.toNatClampNeg y2.1) y2.2)) [] 6 (by with_unfolding_all rfl) (h10) ?_
            refine ev_br rfl rfl (fun h11 => ?_) (fun h11 => ?_)
            · replace hR := lf_t h11 hR
              refine ev_run (cs := []) (pc' := 34) (L' := [some (.ref 0), some (.int (v1 + 1))]) (st' := []) (w' := W_X2 (m_X2_at ((a_X2_at y2.2) + 1) (m_X2_numbers (upd (a_X2_numbers y2.2) v1.toNatClampNeg y2.1) y2.2))) [] 8 (by with_unfolding_all rfl) trivial ?_
              exact ev_to2 (hk34 _ _ hR) ⟨rfl, rfl, trivial⟩ rfl rfl
            · replace hR := lf_f h11 hR
              obtain ⟨h12, hR⟩ := lf_g hR
              refine ev_run (cs := [lf_ix (a_X2_at y2.2) 60]) (pc' := 102) (L' := [some (.ref 0), some (.int v1)]) (st' := [.int 61, .int ((a_X2_codes y2.2) ((a_X2_at y2.2).toNatClampNeg))]) (w' := W_X2 (m_X2_numbers (upd (a_X2_numbers y2.2) v1.toNatClampNeg y2.1) y2.2)) [] 6 (by with_unfolding_all rfl) (h12) ?_
              refine ev_br rfl rfl (fun h13 => ?_) (fun h13 => ?_)
              · replace hR := lf_f h13 hR
                refine ev_run (cs := []) (pc' := 34) (L' := [some (.ref 0), some (.int (v1 + 1))]) (st' := []) (w' := W_X2 (m_X2_numbers (upd (a_X2_numbers y2.2) v1.toNatClampNeg y2.1) y2.2)) [] 2 (by with_unfolding_all rfl) trivial ?_
                exact ev_to2 (hk34 _ _ hR) ⟨rfl, rfl, trivial⟩ rfl rfl
              · replace hR := lf_t h13 hR
                refine ev_run (cs := []) (pc' := 34) (L' := [some (.ref 0), some (.int (v1 + 1))]) (st' := []) (w' := W_X2 (m_X2_at ((a_X2_at y2.2) + 1) (m_X2_numbers (upd (a_X2_numbers y2.2) v1.toNatClampNeg y2.1) y2.2))) [] 8 (by with_unfolding_all rfl) trivial ?_
                exact ev_to2 (hk34 _ _ hR) ⟨rfl, rfl, trivial⟩ rfl rfl

def s_X2_readStep (F : Nat) (u : S_X2) : Option (Bool × S_X2) := (s_X2_hasMore F u).bind fun y1 => (if y1 then (if lf_ix (a_X2_at u) 60 then (s_X2_readStep_l34 F F (m_X2_at ((a_X2_at u) + 1) (m_X2_letter ((a_X2_codes u) ((a_X2_at u).toNatClampNeg)) u)) 0) else none) else (some (false, u)))
set_option maxHeartbeats 4000000 in
set_option maxRecDepth 20000 in
theorem t_X2_readStep (F : Nat) (u : S_X2) (x : (Bool × S_X2)) (hR : s_X2_readStep F u = some x) : ev_A yX2_readStep mm_X2_readStep none [.ref 0] (W_X2 u) (fun r w => r = some (.int (ev_b x.1)) ∧ w = W_X2 x.2) := by
  unfold s_X2_readStep at hR
  refine ev_start ok_X2_readStep (by decide +kernel) rfl rfl (Nat.le_of_ble_eq_true rfl) ?_
  refine ev_run (cs := []) (pc' := 1) (L' := [some (.ref 0), none]) (st' := [.ref 0]) (w' := W_X2 u) [] 1 (by with_unfolding_all rfl) trivial ?_
  obtain ⟨y1, h1, hR⟩ := lf_b hR
  refine ev_callV1 0 (t_X2_hasMore F u _ h1) cv_X2_hasMore ml_X2_45 rfl rfl rfl (Nat.le_of_ble_eq_true rfl) (by with_unfolding_all rfl) (Nat.le_of_ble_eq_true rfl) ⟨Nat.le_of_ble_eq_true rfl, Nat.le_of_ble_eq_true rfl⟩ ⟨Nat.le_refl _, Nat.le_refl _⟩ ?_ ?_
  · rintro r w ⟨rfl, rfl⟩; rfl
  rintro r w ⟨rfl, rfl⟩
  refine ev_nx (pc' := 4) (st' := [.int (ev_b y1)]) (w' := W_X2 u) rfl rfl (by with_unfolding_all rfl) rfl rfl ?_
  refine ev_br rfl rfl (fun h2 => ?_) (fun h2 => ?_)
  · replace hR := lf_z1 h2 hR
    obtain ⟨h3, hR⟩ := lf_g hR
    refine ev_run (cs := [lf_ix (a_X2_at u) 60]) (pc' := 29) (L' := [some (.ref 0), none]) (st' := [.int ((a_X2_at u) + 1), .ref 0]) (w' := W_X2 (m_X2_letter ((a_X2_codes u) ((a_X2_at u).toNatClampNeg)) u)) [] 12 (by with_unfolding_all rfl) (h3) ?_
    refine ev_run (cs := []) (pc' := 34) (L' := [some (.ref 0), some (.int 0)]) (st' := []) (w' := W_X2 (m_X2_at ((a_X2_at u) + 1) (m_X2_letter ((a_X2_codes u) ((a_X2_at u).toNatClampNeg)) u))) [] 3 (by with_unfolding_all rfl) trivial ?_
    exact ev_to2 (t_X2_readStep_l34 F _ F (m_X2_at ((a_X2_at u) + 1) (m_X2_letter ((a_X2_codes u) ((a_X2_at u).toNatClampNeg)) u)) 0 hR) ⟨rfl, rfl, trivial⟩ rfl rfl
  · replace hR := lf_z0 h2 hR
    refine ev_run (cs := []) (pc' := 8) (L' := [some (.ref 0), none]) (st' := [.int 0]) (w' := W_X2 u) [] 1 (by with_unfolding_all rfl) trivial ?_
    cases hR
    exact ev_exit ⟨_, _, rfl, ⟨rfl, Or.inr ⟨rfl, rfl⟩⟩, ⟨rfl, rfl⟩, Nat.le_refl _, Nat.le_refl _⟩
