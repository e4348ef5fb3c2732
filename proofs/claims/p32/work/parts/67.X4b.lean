/-! the rest of the class, lifted -/
abbrev lf_n64 (r : UInt64) : Prop := r &&& 0x7fffffffffffffff ≤ 0x7ff0000000000000
def s_X4_add_6 (F : Nat) (u : S_X6) (v1 : Int32) : Option (Int32 × S_X6) := if v1 < 0 then (none) else (if v1 ≤ 9 then (if (a_X3_things (a_X4_now (a_X6_g u))) < 24 then ((s_X4_save_6 F u).bind fun y1 => ((s_X3_bring F (a_X4_now (a_X6_g y1)) v1).bind fun y2 => (some (y2.1, m_X6_g (m_X4_now y2.2 (a_X6_g y1)) y1)))) else (none)) else (none))
set_option maxHeartbeats 4000000 in
set_option maxRecDepth 20000 in
theorem t_X4_add_6 (F : Nat) (u : S_X6) (v1 : Int32) (x : (Int32 × S_X6)) (hR : s_X4_add_6 F u v1 = some x) : ev_A yX4_add mm_X4_add none [.ref 0, .int v1] (W_X6 u) (fun r w => r = some (.int x.1) ∧ w = W_X6 x.2) := by
  unfold s_X4_add_6 at hR
  refine ev_start ok_X4_add (by decide +kernel) rfl rfl (Nat.le_of_ble_eq_true rfl) ?_
  refine ev_run (cs := []) (pc' := 1) (L' := [some (.ref 0), some (.int v1)]) (st' := [.int v1]) (w' := W_X6 u) [] 1 (by with_unfolding_all rfl) trivial ?_
  refine ev_br rfl rfl (fun h1 => ?_) (fun h1 => ?_)
  · replace hR := lf_t h1 hR
    cases hR
  · replace hR := lf_f h1 hR
    refine ev_run (cs := []) (pc' := 7) (L' := [some (.ref 0), some (.int v1)]) (st' := [.int 9, .int v1]) (w' := W_X6 u) [] 2 (by with_unfolding_all rfl) trivial ?_
    refine ev_br rfl rfl (fun h2 => ?_) (fun h2 => ?_)
    · replace hR := lf_t h2 hR
      refine ev_run (cs := []) (pc' := 29) (L' := [some (.ref 0), some (.int v1)]) (st' := [.int 24, .int (a_X3_things (a_X4_now (a_X6_g u)))]) (w' := W_X6 u) [] 4 (by with_unfolding_all rfl) trivial ?_
      refine ev_br rfl rfl (fun h3 => ?_) (fun h3 => ?_)
      · replace hR := lf_t h3 hR
        refine ev_run (cs := []) (pc' := 43) (L' := [some (.ref 0), some (.int v1)]) (st' := [.ref 0]) (w' := W_X6 u) [] 1 (by with_unfolding_all rfl) trivial ?_
        obtain ⟨y1, h4, hR⟩ := lf_b hR
        refine ev_callV0 (t_X4_save_6 F u _ h4) rfl cv_X4_save ml_X4_49 rfl rfl rfl (Nat.le_of_ble_eq_true rfl) ⟨Nat.le_of_ble_eq_true rfl, Nat.le_of_ble_eq_true rfl⟩ ⟨Nat.le_refl _, Nat.le_refl _⟩ ?_ ?_
        · rintro r w ⟨rfl, rfl⟩; rw [W6_len, W6_len]
        rintro r w ⟨rfl, rfl⟩
        refine ev_nx (pc' := 46) (st' := []) (w' := W_X6 y1) rfl rfl (by with_unfolding_all rfl) rfl rfl ?_
        refine ev_run (cs := []) (pc' := 51) (L' := [some (.ref 0), some (.int v1)]) (st' := [.int v1, .ref 1]) (w' := W_X6 y1) [] 3 (by with_unfolding_all rfl) trivial ?_
        obtain ⟨y2, h5, hR⟩ := lf_b hR
        refine ev_callV1 1 (t_X3_bring F (a_X4_now (a_X6_g y1)) v1 _ h5) cv_X3_bring ml_X4_52 rfl rfl rfl (Nat.le_of_ble_eq_true rfl) (by with_unfolding_all rfl) (Nat.le_of_ble_eq_true rfl) ⟨Nat.le_of_ble_eq_true rfl, Nat.le_of_ble_eq_true rfl⟩ ⟨Nat.le_refl _, Nat.le_refl _⟩ ?_ ?_
        · rintro r w ⟨rfl, rfl⟩; rfl
        rintro r w ⟨rfl, rfl⟩
        refine ev_nx (pc' := 54) (st' := [.int y2.1]) (w' := W_X6 (m_X6_g (m_X4_now y2.2 (a_X6_g y1)) y1)) rfl rfl (by with_unfolding_all rfl) rfl rfl ?_
        cases hR
        exact ev_exit ⟨_, _, rfl, ⟨rfl, Or.inl rfl⟩, ⟨rfl, rfl⟩, Nat.le_refl _, Nat.le_refl _⟩
      · replace hR := lf_f h3 hR
        cases hR
    · replace hR := lf_f h2 hR
      cases hR

def s_X4_take_6 (F : Nat) (u : S_X6) (v1 : Int32) (v2 : Int32) : Option (Int32 × S_X6) := (s_X4_isHand F v1).bind fun y1 => (if y1 then ((s_X4_isThingOrNone F (a_X6_g u) v2).bind fun y2 => (if y2 then ((s_X3_mayBeHeld F (a_X4_now (a_X6_g u)) v2).bind fun y3 => (if y3 then ((s_X4_save_6 F u).bind fun y4 => ((s_X3_change F (a_X4_now (a_X6_g y4)) v1 v2).bind fun y5 => (some (y5.1, m_X6_g (m_X4_now y5.2 (a_X6_g y4)) y4)))) else (none))) else (none))) else (none))
set_option maxHeartbeats 4000000 in
set_option maxRecDepth 20000 in
theorem t_X4_take_6 (F : Nat) (u : S_X6) (v1 : Int32) (v2 : Int32) (x : (Int32 × S_X6)) (hR : s_X4_take_6 F u v1 v2 = some x) : ev_A yX4_take mm_X4_take none [.ref 0, .int v1, .int v2] (W_X6 u) (fun r w => r = some (.int x.1) ∧ w = W_X6 x.2) := by
  unfold s_X4_take_6 at hR
  refine ev_start ok_X4_take (by decide +kernel) rfl rfl (Nat.le_of_ble_eq_true rfl) ?_
  refine ev_run (cs := []) (pc' := 1) (L' := [some (.ref 0), some (.int v1), some (.int v2)]) (st' := [.int v1]) (w' := W_X6 u) [] 1 (by with_unfolding_all rfl) trivial ?_
  obtain ⟨y1, h1, hR⟩ := lf_b hR
  refine ev_callS1 0 (t_X4_isHand F v1 _ h1) cs_X4_isHand ml_X4_56 rfl rfl rfl (Nat.le_of_ble_eq_true rfl) (by with_unfolding_all rfl) (Nat.le_of_ble_eq_true rfl) ⟨Nat.le_of_ble_eq_true rfl, Nat.le_of_ble_eq_true rfl⟩ ⟨Nat.le_refl _, Nat.le_refl _⟩ ?_ ?_
  · rintro r w ⟨rfl, rfl⟩; rfl
  rintro r w ⟨rfl, rfl⟩
  refine ev_nx (pc' := 4) (st' := [.int (ev_b y1)]) (w' := W_X6 u) rfl rfl (by with_unfolding_all rfl) rfl rfl ?_
  refine ev_br rfl rfl (fun h2 => ?_) (fun h2 => ?_)
  · replace hR := lf_z0 h2 hR
    cases hR
  · replace hR := lf_z1 h2 hR
    refine ev_run (cs := []) (pc' := 9) (L' := [some (.ref 0), some (.int v1), some (.int v2)]) (st' := [.int v2, .ref 0]) (w' := W_X6 u) [] 2 (by with_unfolding_all rfl) trivial ?_
    obtain ⟨y2, h3, hR⟩ := lf_b hR
    refine ev_callV1 0 (t_X4_isThingOrNone F (a_X6_g u) v2 _ h3) cv_X4_isThingOrNone ml_X4_60 rfl rfl rfl (Nat.le_of_ble_eq_true rfl) (by with_unfolding_all rfl) (Nat.le_of_ble_eq_true rfl) ⟨Nat.le_of_ble_eq_true rfl, Nat.le_of_ble_eq_true rfl⟩ ⟨Nat.le_refl _, Nat.le_refl _⟩ ?_ ?_
    · rintro r w ⟨rfl, rfl⟩; rfl
    rintro r w ⟨rfl, rfl⟩
    refine ev_nx (pc' := 12) (st' := [.int (ev_b y2)]) (w' := W_X6 u) rfl rfl (by with_unfolding_all rfl) rfl rfl ?_
    refine ev_br rfl rfl (fun h4 => ?_) (fun h4 => ?_)
    · replace hR := lf_z1 h4 hR
      refine ev_run (cs := []) (pc' := 30) (L' := [some (.ref 0), some (.int v1), some (.int v2)]) (st' := [.int v2, .ref 1]) (w' := W_X6 u) [] 3 (by with_unfolding_all rfl) trivial ?_
      obtain ⟨y3, h5, hR⟩ := lf_b hR
      refine ev_callV1 1 (t_X3_mayBeHeld F (a_X4_now (a_X6_g u)) v2 _ h5) cv_X3_mayBeHeld ml_X4_68 rfl rfl rfl (Nat.le_of_ble_eq_true rfl) (by with_unfolding_all rfl) (Nat.le_of_ble_eq_true rfl) ⟨Nat.le_of_ble_eq_true rfl, Nat.le_of_ble_eq_true rfl⟩ ⟨Nat.le_refl _, Nat.le_refl _⟩ ?_ ?_
      · rintro r w ⟨rfl, rfl⟩; rfl
      rintro r w ⟨rfl, rfl⟩
      refine ev_nx (pc' := 33) (st' := [.int (ev_b y3)]) (w' := W_X6 u) rfl rfl (by with_unfolding_all rfl) rfl rfl ?_
      refine ev_br rfl rfl (fun h6 => ?_) (fun h6 => ?_)
      · replace hR := lf_z1 h6 hR
        refine ev_run (cs := []) (pc' := 47) (L' := [some (.ref 0), some (.int v1), some (.int v2)]) (st' := [.ref 0]) (w' := W_X6 u) [] 1 (by with_unfolding_all rfl) trivial ?_
        obtain ⟨y4, h7, hR⟩ := lf_b hR
        refine ev_callV0 (t_X4_save_6 F u _ h7) rfl cv_X4_save ml_X4_49 rfl rfl rfl (Nat.le_of_ble_eq_true rfl) ⟨Nat.le_of_ble_eq_true rfl, Nat.le_of_ble_eq_true rfl⟩ ⟨Nat.le_refl _, Nat.le_refl _⟩ ?_ ?_
        · rintro r w ⟨rfl, rfl⟩; rw [W6_len, W6_len]
        rintro r w ⟨rfl, rfl⟩
        refine ev_nx (pc' := 50) (st' := []) (w' := W_X6 y4) rfl rfl (by with_unfolding_all rfl) rfl rfl ?_
        refine ev_run (cs := []) (pc' := 56) (L' := [some (.ref 0), some (.int v1), some (.int v2)]) (st' := [.int v2, .int v1, .ref 1]) (w' := W_X6 y4) [] 4 (by with_unfolding_all rfl) trivial ?_
        obtain ⟨y5, h8, hR⟩ := lf_b hR
        refine ev_callV1 1 (t_X3_change F (a_X4_now (a_X6_g y4)) v1 v2 _ h8) cv_X3_change ml_X4_73 rfl rfl rfl (Nat.le_of_ble_eq_true rfl) (by with_unfolding_all rfl) (Nat.le_of_ble_eq_true rfl) ⟨Nat.le_of_ble_eq_true rfl, Nat.le_of_ble_eq_true rfl⟩ ⟨Nat.le_refl _, Nat.le_refl _⟩ ?_ ?_
        · rintro r w ⟨rfl, rfl⟩; rfl
        rintro r w ⟨rfl, rfl⟩
        refine ev_nx (pc' := 59) (st' := [.int y5.1]) (w' := W_X6 (m_X6_g (m_X4_now y5.2 (a_X6_g y4)) y4)) rfl rfl (by with_unfolding_all rfl) rfl rfl ?_
        cases hR
        exact ev_exit ⟨_, _, rfl, ⟨rfl, Or.inl rfl⟩, ⟨rfl, rfl⟩, Nat.le_refl _, Nat.le_refl _⟩
      · replace hR := lf_z0 h6 hR
        cases hR
    · replace hR := lf_z0 h4 hR
      cases hR

def s_X4_put_6 (F : Nat) (u : S_X6) (v1 : Int32) (v2 : Int32) (v3 : Int32) : Option (Int32 × S_X6) := (s_X4_isThing F (a_X6_g u) v1).bind fun y1 => (if y1 then ((s_X4_isSlot F v2).bind fun y2 => (if y2 then ((s_X4_isThingOrNone F (a_X6_g u) v3).bind fun y3 => (if y3 then ((s_X3_lives F (a_X4_now (a_X6_g u)) v1).bind fun y4 => (if y4 then ((s_X3_mayBeHeld F (a_X4_now (a_X6_g u)) v3).bind fun y5 => (if y5 then ((s_X4_save_6 F u).bind fun y6 => ((s_X3_change F (a_X4_now (a_X6_g y6)) (st_pl v1 v2) v3).bind fun y7 => (some (y7.1, m_X6_g (m_X4_now y7.2 (a_X6_g y6)) y6)))) else (none))) else (none))) else (none))) else (none))) else (none))
set_option maxHeartbeats 4000000 in
set_option maxRecDepth 20000 in
theorem t_X4_put_6 (F : Nat) (u : S_X6) (v1 : Int32) (v2 : Int32) (v3 : Int32) (x : (Int32 × S_X6)) (hR : s_X4_put_6 F u v1 v2 v3 = some x) : ev_A yX4_put mm_X4_put none [.ref 0, .int v1, .int v2, .int v3] (W_X6 u) (fun r w => r = some (.int x.1) ∧ w = W_X6 x.2) := by
  unfold s_X4_put_6 at hR
  refine ev_start ok_X4_put (by decide +kernel) rfl rfl (Nat.le_of_ble_eq_true rfl) ?_
  refine ev_run (cs := []) (pc' := 2) (L' := [some (.ref 0), some (.int v1), some (.int v2), some (.int v3)]) (st' := [.int v1, .ref 0]) (w' := W_X6 u) [] 2 (by with_unfolding_all rfl) trivial ?_
  obtain ⟨y1, h1, hR⟩ := lf_b hR
  refine ev_callV1 0 (t_X4_isThing F (a_X6_g u) v1 _ h1) cv_X4_isThing ml_X4_77 rfl rfl rfl (Nat.le_of_ble_eq_true rfl) (by with_unfolding_all rfl) (Nat.le_of_ble_eq_true rfl) ⟨Nat.le_of_ble_eq_true rfl, Nat.le_of_ble_eq_true rfl⟩ ⟨Nat.le_refl _, Nat.le_refl _⟩ ?_ ?_
  · rintro r w ⟨rfl, rfl⟩; rfl
  rintro r w ⟨rfl, rfl⟩
  refine ev_nx (pc' := 5) (st' := [.int (ev_b y1)]) (w' := W_X6 u) rfl rfl (by with_unfolding_all rfl) rfl rfl ?_
  refine ev_br rfl rfl (fun h2 => ?_) (fun h2 => ?_)
  · replace hR := lf_z0 h2 hR
    cases hR
  · replace hR := lf_z1 h2 hR
    refine ev_run (cs := []) (pc' := 9) (L' := [some (.ref 0), some (.int v1), some (.int v2), some (.int v3)]) (st' := [.int v2]) (w' := W_X6 u) [] 1 (by with_unfolding_all rfl) trivial ?_
    obtain ⟨y2, h3, hR⟩ := lf_b hR
    refine ev_callS1 0 (t_X4_isSlot F v2 _ h3) cs_X4_isSlot ml_X4_80 rfl rfl rfl (Nat.le_of_ble_eq_true rfl) (by with_unfolding_all rfl) (Nat.le_of_ble_eq_true rfl) ⟨Nat.le_of_ble_eq_true rfl, Nat.le_of_ble_eq_true rfl⟩ ⟨Nat.le_refl _, Nat.le_refl _⟩ ?_ ?_
    · rintro r w ⟨rfl, rfl⟩; rfl
    rintro r w ⟨rfl, rfl⟩
    refine ev_nx (pc' := 12) (st' := [.int (ev_b y2)]) (w' := W_X6 u) rfl rfl (by with_unfolding_all rfl) rfl rfl ?_
    refine ev_br rfl rfl (fun h4 => ?_) (fun h4 => ?_)
    · replace hR := lf_z0 h4 hR
      cases hR
    · replace hR := lf_z1 h4 hR
      refine ev_run (cs := []) (pc' := 17) (L' := [some (.ref 0), some (.int v1), some (.int v2), some (.int v3)]) (st' := [.int v3, .ref 0]) (w' := W_X6 u) [] 2 (by with_unfolding_all rfl) trivial ?_
      obtain ⟨y3, h5, hR⟩ := lf_b hR
      refine ev_callV1 0 (t_X4_isThingOrNone F (a_X6_g u) v3 _ h5) cv_X4_isThingOrNone ml_X4_60 rfl rfl rfl (Nat.le_of_ble_eq_true rfl) (by with_unfolding_all rfl) (Nat.le_of_ble_eq_true rfl) ⟨Nat.le_of_ble_eq_true rfl, Nat.le_of_ble_eq_true rfl⟩ ⟨Nat.le_refl _, Nat.le_refl _⟩ ?_ ?_
      · rintro r w ⟨rfl, rfl⟩; rfl
      rintro r w ⟨rfl, rfl⟩
      refine ev_nx (pc' := 20) (st' := [.int (ev_b y3)]) (w' := W_X6 u) rfl rfl (by with_unfolding_all rfl) rfl rfl ?_
      refine ev_br rfl rfl (fun h6 => ?_) (fun h6 => ?_)
      · replace hR := lf_z1 h6 hR
        refine ev_run (cs := []) (pc' := 38) (L' := [some (.ref 0), some (.int v1), some (.int v2), some (.int v3)]) (st' := [.int v1, .ref 1]) (w' := W_X6 u) [] 3 (by with_unfolding_all rfl) trivial ?_
        obtain ⟨y4, h7, hR⟩ := lf_b hR
        refine ev_callV1 1 (t_X3_lives F (a_X4_now (a_X6_g u)) v1 _ h7) cv_X3_lives ml_X4_85 rfl rfl rfl (Nat.le_of_ble_eq_true rfl) (by with_unfolding_all rfl) (Nat.le_of_ble_eq_true rfl) ⟨Nat.le_of_ble_eq_true rfl, Nat.le_of_ble_eq_true rfl⟩ ⟨Nat.le_refl _, Nat.le_refl _⟩ ?_ ?_
        · rintro r w ⟨rfl, rfl⟩; rfl
        rintro r w ⟨rfl, rfl⟩
        refine ev_nx (pc' := 41) (st' := [.int (ev_b y4)]) (w' := W_X6 u) rfl rfl (by with_unfolding_all rfl) rfl rfl ?_
        refine ev_br rfl rfl (fun h8 => ?_) (fun h8 => ?_)
        · replace hR := lf_z0 h8 hR
          cases hR
        · replace hR := lf_z1 h8 hR
          refine ev_run (cs := []) (pc' := 49) (L' := [some (.ref 0), some (.int v1), some (.int v2), some (.int v3)]) (st' := [.int v3, .ref 1]) (w' := W_X6 u) [] 3 (by with_unfolding_all rfl) trivial ?_
          obtain ⟨y5, h9, hR⟩ := lf_b hR
          refine ev_callV1 1 (t_X3_mayBeHeld F (a_X4_now (a_X6_g u)) v3 _ h9) cv_X3_mayBeHeld ml_X4_68 rfl rfl rfl (Nat.le_of_ble_eq_true rfl) (by with_unfolding_all rfl) (Nat.le_of_ble_eq_true rfl) ⟨Nat.le_of_ble_eq_true rfl, Nat.le_of_ble_eq_true rfl⟩ ⟨Nat.le_refl _, Nat.le_refl _⟩ ?_ ?_
          · rintro r w ⟨rfl, rfl⟩; rfl
          rintro r w ⟨rfl, rfl⟩
          refine ev_nx (pc' := 52) (st' := [.int (ev_b y5)]) (w' := W_X6 u) rfl rfl (by with_unfolding_all rfl) rfl rfl ?_
          refine ev_br rfl rfl (fun h10 => ?_) (fun h10 => ?_)
          · replace hR := lf_z1 h10 hR
            refine ev_run (cs := []) (pc' := 66) (L' := [some (.ref 0), some (.int v1), some (.int v2), some (.int v3)]) (st' := [.ref 0]) (w' := W_X6 u) [] 1 (by with_unfolding_all rfl) trivial ?_
            obtain ⟨y6, h11, hR⟩ := lf_b hR
            refine ev_callV0 (t_X4_save_6 F u _ h11) rfl cv_X4_save ml_X4_49 rfl rfl rfl (Nat.le_of_ble_eq_true rfl) ⟨Nat.le_of_ble_eq_true rfl, Nat.le_of_ble_eq_true rfl⟩ ⟨Nat.le_refl _, Nat.le_refl _⟩ ?_ ?_
            · rintro r w ⟨rfl, rfl⟩; rw [W6_len, W6_len]
            rintro r w ⟨rfl, rfl⟩
            refine ev_nx (pc' := 69) (st' := []) (w' := W_X6 y6) rfl rfl (by with_unfolding_all rfl) rfl rfl ?_
            refine ev_run (cs := []) (pc' := 75) (L' := [some (.ref 0), some (.int v1), some (.int v2), some (.int v3)]) (st' := [.int v2, .int v1, .ref 1]) (w' := W_X6 y6) [] 4 (by with_unfolding_all rfl) trivial ?_
            refine ev_callS1 0 (t_X4_placeOf v1 v2) cs_X4_placeOf ml_X4_90 rfl rfl rfl (Nat.le_of_ble_eq_true rfl) (by with_unfolding_all rfl) (Nat.le_of_ble_eq_true rfl) ⟨Nat.le_of_ble_eq_true rfl, Nat.le_of_ble_eq_true rfl⟩ ⟨Nat.le_refl _, Nat.le_refl _⟩ ?_ ?_
            · rintro r w ⟨rfl, rfl⟩; rfl
            rintro r w ⟨rfl, rfl⟩
            refine ev_nx (pc' := 78) (st' := [.int (st_pl v1 v2), .ref 1]) (w' := W_X6 y6) rfl rfl (by with_unfolding_all rfl) rfl rfl ?_
            refine ev_run (cs := []) (pc' := 79) (L' := [some (.ref 0), some (.int v1), some (.int v2), some (.int v3)]) (st' := [.int v3, .int (st_pl v1 v2), .ref 1]) (w' := W_X6 y6) [] 1 (by with_unfolding_all rfl) trivial ?_
            obtain ⟨y7, h12, hR⟩ := lf_b hR
            refine ev_callV1 1 (t_X3_change F (a_X4_now (a_X6_g y6)) (st_pl v1 v2) v3 _ h12) cv_X3_change ml_X4_73 rfl rfl rfl (Nat.le_of_ble_eq_true rfl) (by with_unfolding_all rfl) (Nat.le_of_ble_eq_true rfl) ⟨Nat.le_of_ble_eq_true rfl, Nat.le_of_ble_eq_true rfl⟩ ⟨Nat.le_refl _, Nat.le_refl _⟩ ?_ ?_
            · rintro r w ⟨rfl, rfl⟩; rfl
            rintro r w ⟨rfl, rfl⟩
            refine ev_nx (pc' := 82) (st' := [.int y7.1]) (w' := W_X6 (m_X6_g (m_X4_now y7.2 (a_X6_g y6)) y6)) rfl rfl (by with_unfolding_all rfl) rfl rfl ?_
            cases hR
            exact ev_exit ⟨_, _, rfl, ⟨rfl, Or.inl rfl⟩, ⟨rfl, rfl⟩, Nat.le_refl _, Nat.le_refl _⟩
          · replace hR := lf_z0 h10 hR
            cases hR
      · replace hR := lf_z0 h6 hR
        cases hR

def s_X4_suspect_6 (F : Nat) (u : S_X6) (v1 : Int32) : Option (Int32 × S_X6) := (s_X4_isThing F (a_X6_g u) v1).bind fun y1 => (if y1 then ((s_X3_lives F (a_X4_now (a_X6_g u)) v1).bind fun y2 => (if y2 then (if (st_in (a_X3_suspects (a_X4_now (a_X6_g u))) v1) then (none) else ((s_X4_save_6 F u).bind fun y3 => (some (jd_bc ((a_X3_suspects (a_X4_now (a_X6_g y3))) ||| (1 <<< (v1 &&& 31))), m_X6_g (m_X4_now (m_X3_suspects ((a_X3_suspects (a_X4_now (a_X6_g y3))) ||| (1 <<< (v1 &&& 31))) (a_X4_now (a_X6_g y3))) (a_X6_g y3)) y3)))) else (none))) else (none))
set_option maxHeartbeats 4000000 in
set_option maxRecDepth 20000 in
theorem t_X4_suspect_6 (F : Nat) (u : S_X6) (v1 : Int32) (x : (Int32 × S_X6)) (hR : s_X4_suspect_6 F u v1 = some x) : ev_A yX4_suspect mm_X4_suspect none [.ref 0, .int v1] (W_X6 u) (fun r w => r = some (.int x.1) ∧ w = W_X6 x.2) := by
  unfold s_X4_suspect_6 at hR
  refine ev_start ok_X4_suspect (by decide +kernel) rfl rfl (Nat.le_of_ble_eq_true rfl) ?_
  refine ev_run (cs := []) (pc' := 2) (L' := [some (.ref 0), some (.int v1)]) (st' := [.int v1, .ref 0]) (w' := W_X6 u) [] 2 (by with_unfolding_all rfl) trivial ?_
  obtain ⟨y1, h1, hR⟩ := lf_b hR
  refine ev_callV1 0 (t_X4_isThing F (a_X6_g u) v1 _ h1) cv_X4_isThing ml_X4_77 rfl rfl rfl (Nat.le_of_ble_eq_true rfl) (by with_unfolding_all rfl) (Nat.le_of_ble_eq_true rfl) ⟨Nat.le_of_ble_eq_true rfl, Nat.le_of_ble_eq_true rfl⟩ ⟨Nat.le_refl _, Nat.le_refl _⟩ ?_ ?_
  · rintro r w ⟨rfl, rfl⟩; rfl
  rintro r w ⟨rfl, rfl⟩
  refine ev_nx (pc' := 5) (st' := [.int (ev_b y1)]) (w' := W_X6 u) rfl rfl (by with_unfolding_all rfl) rfl rfl ?_
  refine ev_br rfl rfl (fun h2 => ?_) (fun h2 => ?_)
  · replace hR := lf_z1 h2 hR
    refine ev_run (cs := []) (pc' := 23) (L' := [some (.ref 0), some (.int v1)]) (st' := [.int v1, .ref 1]) (w' := W_X6 u) [] 3 (by with_unfolding_all rfl) trivial ?_
    obtain ⟨y2, h3, hR⟩ := lf_b hR
    refine ev_callV1 1 (t_X3_lives F (a_X4_now (a_X6_g u)) v1 _ h3) cv_X3_lives ml_X4_85 rfl rfl rfl (Nat.le_of_ble_eq_true rfl) (by with_unfolding_all rfl) (Nat.le_of_ble_eq_true rfl) ⟨Nat.le_of_ble_eq_true rfl, Nat.le_of_ble_eq_true rfl⟩ ⟨Nat.le_refl _, Nat.le_refl _⟩ ?_ ?_
    · rintro r w ⟨rfl, rfl⟩; rfl
    rintro r w ⟨rfl, rfl⟩
    refine ev_nx (pc' := 26) (st' := [.int (ev_b y2)]) (w' := W_X6 u) rfl rfl (by with_unfolding_all rfl) rfl rfl ?_
    refine ev_br rfl rfl (fun h4 => ?_) (fun h4 => ?_)
    · replace hR := lf_z0 h4 hR
      cases hR
    · replace hR := lf_z1 h4 hR
      refine ev_run (cs := []) (pc' := 37) (L' := [some (.ref 0), some (.int v1)]) (st' := [.int v1, .int (a_X3_suspects (a_X4_now (a_X6_g u)))]) (w' := W_X6 u) [] 4 (by with_unfolding_all rfl) trivial ?_
      refine ev_callS1 0 (t_X4_isIn (a_X3_suspects (a_X4_now (a_X6_g u))) v1) cs_X4_isIn ml_X4_103 rfl rfl rfl (Nat.le_of_ble_eq_true rfl) (by with_unfolding_all rfl) (Nat.le_of_ble_eq_true rfl) ⟨Nat.le_of_ble_eq_true rfl, Nat.le_of_ble_eq_true rfl⟩ ⟨Nat.le_refl _, Nat.le_refl _⟩ ?_ ?_
      · rintro r w ⟨rfl, rfl⟩; rfl
      rintro r w ⟨rfl, rfl⟩
      refine ev_nx (pc' := 40) (st' := [.int (ev_b (st_in (a_X3_suspects (a_X4_now (a_X6_g u))) v1))]) (w' := W_X6 u) rfl rfl (by with_unfolding_all rfl) rfl rfl ?_
      refine ev_br rfl rfl (fun h5 => ?_) (fun h5 => ?_)
      · replace hR := lf_z0 h5 hR
        refine ev_run (cs := []) (pc' := 54) (L' := [some (.ref 0), some (.int v1)]) (st' := [.ref 0]) (w' := W_X6 u) [] 1 (by with_unfolding_all rfl) trivial ?_
        obtain ⟨y3, h6, hR⟩ := lf_b hR
        refine ev_callV0 (t_X4_save_6 F u _ h6) rfl cv_X4_save ml_X4_49 rfl rfl rfl (Nat.le_of_ble_eq_true rfl) ⟨Nat.le_of_ble_eq_true rfl, Nat.le_of_ble_eq_true rfl⟩ ⟨Nat.le_refl _, Nat.le_refl _⟩ ?_ ?_
        · rintro r w ⟨rfl, rfl⟩; rw [W6_len, W6_len]
        rintro r w ⟨rfl, rfl⟩
        refine ev_nx (pc' := 57) (st' := []) (w' := W_X6 y3) rfl rfl (by with_unfolding_all rfl) rfl rfl ?_
        refine ev_run (cs := []) (pc' := 79) (L' := [some (.ref 0), some (.int v1)]) (st' := [.int ((a_X3_suspects (a_X4_now (a_X6_g y3))) ||| (1 <<< (v1 &&& 31)))]) (w' := W_X6 (m_X6_g (m_X4_now (m_X3_suspects ((a_X3_suspects (a_X4_now (a_X6_g y3))) ||| (1 <<< (v1 &&& 31))) (a_X4_now (a_X6_g y3))) (a_X6_g y3)) y3)) [] 12 (by with_unfolding_all rfl) trivial ?_
        refine ev_callS1 0 (t_J6_bitCount_0f7a4 ((a_X3_suspects (a_X4_now (a_X6_g y3))) ||| (1 <<< (v1 &&& 31)))) cs_J6_bitCount_0f7a4 ml_X4_109 rfl rfl rfl (Nat.le_of_ble_eq_true rfl) (by with_unfolding_all rfl) (Nat.le_of_ble_eq_true rfl) ⟨Nat.le_of_ble_eq_true rfl, Nat.le_of_ble_eq_true rfl⟩ ⟨Nat.le_refl _, Nat.le_refl _⟩ ?_ ?_
        · rintro r w ⟨rfl, rfl⟩; rfl
        rintro r w ⟨rfl, rfl⟩
        refine ev_nx (pc' := 82) (st' := [.int (jd_bc ((a_X3_suspects (a_X4_now (a_X6_g y3))) ||| (1 <<< (v1 &&& 31))))]) (w' := W_X6 (m_X6_g (m_X4_now (m_X3_suspects ((a_X3_suspects (a_X4_now (a_X6_g y3))) ||| (1 <<< (v1 &&& 31))) (a_X4_now (a_X6_g y3))) (a_X6_g y3)) y3)) rfl rfl (by with_unfolding_all rfl) rfl rfl ?_
        cases hR
        exact ev_exit ⟨_, _, rfl, ⟨rfl, Or.inl rfl⟩, ⟨rfl, rfl⟩, Nat.le_refl _, Nat.le_refl _⟩
      · replace hR := lf_z1 h5 hR
        cases hR
  · replace hR := lf_z0 h2 hR
    cases hR

def s_X4_set_6 (F : Nat) (u : S_X6) (v1 : Int32) (v2 : Int32) : Option (Int32 × S_X6) := (s_X4_isSetting F v1).bind fun y1 => (if y1 then (if v2 < 0 then (none) else ((s_X4_mostOf F v1).bind fun y2 => (if v2 ≤ y2 then ((s_X4_save_6 F u).bind fun y3 => (if lf_ix v1 5 then (if lf_ix v1 5 then (some ((a_X3_settings (a_X4_now (a_X6_g y3))) v1.toNatClampNeg, m_X6_g (m_X4_now (m_X3_settings (upd (a_X3_settings (a_X4_now (a_X6_g y3))) v1.toNatClampNeg v2) (a_X4_now (a_X6_g y3))) (a_X6_g y3)) y3)) else none) else none)) else (none)))) else (none))
set_option maxHeartbeats 4000000 in
set_option maxRecDepth 20000 in
theorem t_X4_set_6 (F : Nat) (u : S_X6) (v1 : Int32) (v2 : Int32) (x : (Int32 × S_X6)) (hR : s_X4_set_6 F u v1 v2 = some x) : ev_A yX4_set mm_X4_set none [.ref 0, .int v1, .int v2] (W_X6 u) (fun r w => r = some (.int x.1) ∧ w = W_X6 x.2) := by
  unfold s_X4_set_6 at hR
  refine ev_start ok_X4_set (by decide +kernel) rfl rfl (Nat.le_of_ble_eq_true rfl) ?_
  refine ev_run (cs := []) (pc' := 1) (L' := [some (.ref 0), some (.int v1), some (.int v2), none]) (st' := [.int v1]) (w' := W_X6 u) [] 1 (by with_unfolding_all rfl) trivial ?_
  obtain ⟨y1, h1, hR⟩ := lf_b hR
  refine ev_callS1 0 (t_X4_isSetting F v1 _ h1) cs_X4_isSetting ml_X4_114 rfl rfl rfl (Nat.le_of_ble_eq_true rfl) (by with_unfolding_all rfl) (Nat.le_of_ble_eq_true rfl) ⟨Nat.le_of_ble_eq_true rfl, Nat.le_of_ble_eq_true rfl⟩ ⟨Nat.le_refl _, Nat.le_refl _⟩ ?_ ?_
  · rintro r w ⟨rfl, rfl⟩; rfl
  rintro r w ⟨rfl, rfl⟩
  refine ev_nx (pc' := 4) (st' := [.int (ev_b y1)]) (w' := W_X6 u) rfl rfl (by with_unfolding_all rfl) rfl rfl ?_
  refine ev_br rfl rfl (fun h2 => ?_) (fun h2 => ?_)
  · replace hR := lf_z1 h2 hR
    refine ev_run (cs := []) (pc' := 18) (L' := [some (.ref 0), some (.int v1), some (.int v2), none]) (st' := [.int v2]) (w' := W_X6 u) [] 1 (by with_unfolding_all rfl) trivial ?_
    refine ev_br rfl rfl (fun h3 => ?_) (fun h3 => ?_)
    · replace hR := lf_t h3 hR
      cases hR
    · replace hR := lf_f h3 hR
      refine ev_run (cs := []) (pc' := 23) (L' := [some (.ref 0), some (.int v1), some (.int v2), none]) (st' := [.int v1, .int v2]) (w' := W_X6 u) [] 2 (by with_unfolding_all rfl) trivial ?_
      obtain ⟨y2, h4, hR⟩ := lf_b hR
      refine ev_callS1 0 (t_X4_mostOf F v1 _ h4) cs_X4_mostOf ml_X4_119 rfl rfl rfl (Nat.le_of_ble_eq_true rfl) (by with_unfolding_all rfl) (Nat.le_of_ble_eq_true rfl) ⟨Nat.le_of_ble_eq_true rfl, Nat.le_of_ble_eq_true rfl⟩ ⟨Nat.le_refl _, Nat.le_refl _⟩ ?_ ?_
      · rintro r w ⟨rfl, rfl⟩; rfl
      rintro r w ⟨rfl, rfl⟩
      refine ev_nx (pc' := 26) (st' := [.int y2, .int v2]) (w' := W_X6 u) rfl rfl (by with_unfolding_all rfl) rfl rfl ?_
      refine ev_br rfl rfl (fun h5 => ?_) (fun h5 => ?_)
      · replace hR := lf_t h5 hR
        refine ev_run (cs := []) (pc' := 40) (L' := [some (.ref 0), some (.int v1), some (.int v2), none]) (st' := [.ref 0]) (w' := W_X6 u) [] 1 (by with_unfolding_all rfl) trivial ?_
        obtain ⟨y3, h6, hR⟩ := lf_b hR
        refine ev_callV0 (t_X4_save_6 F u _ h6) rfl cv_X4_save ml_X4_49 rfl rfl rfl (Nat.le_of_ble_eq_true rfl) ⟨Nat.le_of_ble_eq_true rfl, Nat.le_of_ble_eq_true rfl⟩ ⟨Nat.le_refl _, Nat.le_refl _⟩ ?_ ?_
        · rintro r w ⟨rfl, rfl⟩; rw [W6_len, W6_len]
        rintro r w ⟨rfl, rfl⟩
        refine ev_nx (pc' := 43) (st' := []) (w' := W_X6 y3) rfl rfl (by with_unfolding_all rfl) rfl rfl ?_
        obtain ⟨h7, hR⟩ := lf_g hR
        obtain ⟨h8, hR⟩ := lf_g hR
        refine ev_run (cs := [lf_ix v1 5, lf_ix v1 5]) (pc' := 63) (L' := [some (.ref 0), some (.int v1), some (.int v2), some (.int ((a_X3_settings (a_X4_now (a_X6_g y3))) v1.toNatClampNeg))]) (st' := []) (w' := W_X6 (m_X6_g (m_X4_now (m_X3_settings (upd (a_X3_settings (a_X4_now (a_X6_g y3))) v1.toNatClampNeg v2) (a_X4_now (a_X6_g y3))) (a_X6_g y3)) y3)) [] 12 (by with_unfolding_all rfl) ⟨h7, h8⟩ ?_
        refine ev_run (cs := []) (pc' := 64) (L' := [some (.ref 0), some (.int v1), some (.int v2), some (.int ((a_X3_settings (a_X4_now (a_X6_g y3))) v1.toNatClampNeg))]) (st' := [.int ((a_X3_settings (a_X4_now (a_X6_g y3))) v1.toNatClampNeg)]) (w' := W_X6 (m_X6_g (m_X4_now (m_X3_settings (upd (a_X3_settings (a_X4_now (a_X6_g y3))) v1.toNatClampNeg v2) (a_X4_now (a_X6_g y3))) (a_X6_g y3)) y3)) [] 1 (by with_unfolding_all rfl) trivial ?_
        cases hR
        exact ev_exit ⟨_, _, rfl, ⟨rfl, Or.inl rfl⟩, ⟨rfl, rfl⟩, Nat.le_refl _, Nat.le_refl _⟩
      · replace hR := lf_f h5 hR
        cases hR
  · replace hR := lf_z0 h2 hR
    cases hR

def s_X4_pass_6 (F : Nat) (u : S_X6) (v1 : Int32) : Option (Int32 × S_X6) := if v1 < 1 then (none) else (if v1 ≤ 100 then (if ((a_X3_time (a_X4_now (a_X6_g u))) + v1) ≤ 5000 then ((s_X4_save_6 F u).bind fun y1 => ((s_X3_passTicks F (a_X4_now (a_X6_g y1)) v1).bind fun y2 => (some (y2.1, m_X6_g (m_X4_now y2.2 (a_X6_g y1)) y1)))) else (none)) else (none))
set_option maxHeartbeats 4000000 in
set_option maxRecDepth 20000 in
theorem t_X4_pass_6 (F : Nat) (u : S_X6) (v1 : Int32) (x : (Int32 × S_X6)) (hR : s_X4_pass_6 F u v1 = some x) : ev_A yX4_pass mm_X4_pass none [.ref 0, .int v1] (W_X6 u) (fun r w => r = some (.int x.1) ∧ w = W_X6 x.2) := by
  unfold s_X4_pass_6 at hR
  refine ev_start ok_X4_pass (by decide +kernel) rfl rfl (Nat.le_of_ble_eq_true rfl) ?_
  refine ev_run (cs := []) (pc' := 2) (L' := [some (.ref 0), some (.int v1)]) (st' := [.int 1, .int v1]) (w' := W_X6 u) [] 2 (by with_unfolding_all rfl) trivial ?_
  refine ev_br rfl rfl (fun h1 => ?_) (fun h1 => ?_)
  · replace hR := lf_t h1 hR
    cases hR
  · replace hR := lf_f h1 hR
    refine ev_run (cs := []) (pc' := 8) (L' := [some (.ref 0), some (.int v1)]) (st' := [.int 100, .int v1]) (w' := W_X6 u) [] 2 (by with_unfolding_all rfl) trivial ?_
    refine ev_br rfl rfl (fun h2 => ?_) (fun h2 => ?_)
    · replace hR := lf_t h2 hR
      refine ev_run (cs := []) (pc' := 33) (L' := [some (.ref 0), some (.int v1)]) (st' := [.int 5000, .int ((a_X3_time (a_X4_now (a_X6_g u))) + v1)]) (w' := W_X6 u) [] 6 (by with_unfolding_all rfl) trivial ?_
      refine ev_br rfl rfl (fun h3 => ?_) (fun h3 => ?_)
      · replace hR := lf_t h3 hR
        refine ev_run (cs := []) (pc' := 47) (L' := [some (.ref 0), some (.int v1)]) (st' := [.ref 0]) (w' := W_X6 u) [] 1 (by with_unfolding_all rfl) trivial ?_
        obtain ⟨y1, h4, hR⟩ := lf_b hR
        refine ev_callV0 (t_X4_save_6 F u _ h4) rfl cv_X4_save ml_X4_49 rfl rfl rfl (Nat.le_of_ble_eq_true rfl) ⟨Nat.le_of_ble_eq_true rfl, Nat.le_of_ble_eq_true rfl⟩ ⟨Nat.le_refl _, Nat.le_refl _⟩ ?_ ?_
        · rintro r w ⟨rfl, rfl⟩; rw [W6_len, W6_len]
        rintro r w ⟨rfl, rfl⟩
        refine ev_nx (pc' := 50) (st' := []) (w' := W_X6 y1) rfl rfl (by with_unfolding_all rfl) rfl rfl ?_
        refine ev_run (cs := []) (pc' := 55) (L' := [some (.ref 0), some (.int v1)]) (st' := [.int v1, .ref 1]) (w' := W_X6 y1) [] 3 (by with_unfolding_all rfl) trivial ?_
        obtain ⟨y2, h5, hR⟩ := lf_b hR
        refine ev_callV1 1 (t_X3_passTicks F (a_X4_now (a_X6_g y1)) v1 _ h5) cv_X3_passTicks ml_X4_135 rfl rfl rfl (Nat.le_of_ble_eq_true rfl) (by with_unfolding_all rfl) (Nat.le_of_ble_eq_true rfl) ⟨Nat.le_of_ble_eq_true rfl, Nat.le_of_ble_eq_true rfl⟩ ⟨Nat.le_refl _, Nat.le_refl _⟩ ?_ ?_
        · rintro r w ⟨rfl, rfl⟩; rfl
        rintro r w ⟨rfl, rfl⟩
        refine ev_nx (pc' := 58) (st' := [.int y2.1]) (w' := W_X6 (m_X6_g (m_X4_now y2.2 (a_X6_g y1)) y1)) rfl rfl (by with_unfolding_all rfl) rfl rfl ?_
        cases hR
        exact ev_exit ⟨_, _, rfl, ⟨rfl, Or.inl rfl⟩, ⟨rfl, rfl⟩, Nat.le_refl _, Nat.le_refl _⟩
      · replace hR := lf_f h3 hR
        cases hR
    · replace hR := lf_f h2 hR
      cases hR

def s_X4_trial_6 (F : Nat) (u : S_X6) : Option (Int32 × S_X6) := (s_X4_save_6 F u).bind fun y1 => ((s_X3_holdTrial F (a_X4_now (a_X6_g y1))).bind fun y2 => (some (y2.1, m_X6_g (m_X4_now y2.2 (a_X6_g y1)) y1)))
set_option maxHeartbeats 4000000 in
set_option maxRecDepth 20000 in
theorem t_X4_trial_6 (F : Nat) (u : S_X6) (x : (Int32 × S_X6)) (hR : s_X4_trial_6 F u = some x) : ev_A yX4_trial mm_X4_trial none [.ref 0] (W_X6 u) (fun r w => r = some (.int x.1) ∧ w = W_X6 x.2) := by
  unfold s_X4_trial_6 at hR
  refine ev_start ok_X4_trial (by decide +kernel) rfl rfl (Nat.le_of_ble_eq_true rfl) ?_
  refine ev_run (cs := []) (pc' := 1) (L' := [some (.ref 0)]) (st' := [.ref 0]) (w' := W_X6 u) [] 1 (by with_unfolding_all rfl) trivial ?_
  obtain ⟨y1, h1, hR⟩ := lf_b hR
  refine ev_callV0 (t_X4_save_6 F u _ h1) rfl cv_X4_save ml_X4_49 rfl rfl rfl (Nat.le_of_ble_eq_true rfl) ⟨Nat.le_of_ble_eq_true rfl, Nat.le_of_ble_eq_true rfl⟩ ⟨Nat.le_refl _, Nat.le_refl _⟩ ?_ ?_
  · rintro r w ⟨rfl, rfl⟩; rw [W6_len, W6_len]
  rintro r w ⟨rfl, rfl⟩
  refine ev_nx (pc' := 4) (st' := []) (w' := W_X6 y1) rfl rfl (by with_unfolding_all rfl) rfl rfl ?_
  refine ev_run (cs := []) (pc' := 8) (L' := [some (.ref 0)]) (st' := [.ref 1]) (w' := W_X6 y1) [] 2 (by with_unfolding_all rfl) trivial ?_
  obtain ⟨y2, h2, hR⟩ := lf_b hR
  refine ev_callV1 1 (t_X3_holdTrial F (a_X4_now (a_X6_g y1)) _ h2) cv_X3_holdTrial ml_X4_138 rfl rfl rfl (Nat.le_of_ble_eq_true rfl) (by with_unfolding_all rfl) (Nat.le_of_ble_eq_true rfl) ⟨Nat.le_of_ble_eq_true rfl, Nat.le_of_ble_eq_true rfl⟩ ⟨Nat.le_refl _, Nat.le_refl _⟩ ?_ ?_
  · rintro r w ⟨rfl, rfl⟩; rfl
  rintro r w ⟨rfl, rfl⟩
  refine ev_nx (pc' := 11) (st' := [.int y2.1]) (w' := W_X6 (m_X6_g (m_X4_now y2.2 (a_X6_g y1)) y1)) rfl rfl (by with_unfolding_all rfl) rfl rfl ?_
  cases hR
  exact ev_exit ⟨_, _, rfl, ⟨rfl, Or.inl rfl⟩, ⟨rfl, rfl⟩, Nat.le_refl _, Nat.le_refl _⟩

def s_X4_thing (F : Nat) (u : S_X4) (v1 : Int32) (v2 : Int32) : Option Int32 := (s_X4_isThing F u v1).bind fun y1 => (if y1 then (if v2 < 0 then (none) else (if v2 < 13 then ((s_X3_property F (a_X4_now u) v1 v2).bind fun y2 => (some (y2))) else (none))) else (none))
set_option maxHeartbeats 4000000 in
set_option maxRecDepth 20000 in
theorem t_X4_thing (F : Nat) (u : S_X4) (v1 : Int32) (v2 : Int32) (x : Int32) (hR : s_X4_thing F u v1 v2 = some x) : ev_A yX4_thing mm_X4_thing none [.ref 0, .int v1, .int v2] (W_X4 u) (fun r w => r = some (.int x) ∧ w = W_X4 u) := by
  unfold s_X4_thing at hR
  refine ev_start ok_X4_thing (by decide +kernel) rfl rfl (Nat.le_of_ble_eq_true rfl) ?_
  refine ev_run (cs := []) (pc' := 2) (L' := [some (.ref 0), some (.int v1), some (.int v2)]) (st' := [.int v1, .ref 0]) (w' := W_X4 u) [] 2 (by with_unfolding_all rfl) trivial ?_
  obtain ⟨y1, h1, hR⟩ := lf_b hR
  refine ev_callV1 0 (t_X4_isThing F u v1 _ h1) cv_X4_isThing ml_X4_77 rfl rfl rfl (Nat.le_of_ble_eq_true rfl) (by with_unfolding_all rfl) (Nat.le_of_ble_eq_true rfl) ⟨Nat.le_of_ble_eq_true rfl, Nat.le_of_ble_eq_true rfl⟩ ⟨Nat.le_refl _, Nat.le_refl _⟩ ?_ ?_
  · rintro r w ⟨rfl, rfl⟩; rfl
  rintro r w ⟨rfl, rfl⟩
  refine ev_nx (pc' := 5) (st' := [.int (ev_b y1)]) (w' := W_X4 u) rfl rfl (by with_unfolding_all rfl) rfl rfl ?_
  refine ev_br rfl rfl (fun h2 => ?_) (fun h2 => ?_)
  · replace hR := lf_z1 h2 hR
    refine ev_run (cs := []) (pc' := 19) (L' := [some (.ref 0), some (.int v1), some (.int v2)]) (st' := [.int v2]) (w' := W_X4 u) [] 1 (by with_unfolding_all rfl) trivial ?_
    refine ev_br rfl rfl (fun h3 => ?_) (fun h3 => ?_)
    · replace hR := lf_t h3 hR
      cases hR
    · replace hR := lf_f h3 hR
      refine ev_run (cs := []) (pc' := 25) (L' := [some (.ref 0), some (.int v1), some (.int v2)]) (st' := [.int 13, .int v2]) (w' := W_X4 u) [] 2 (by with_unfolding_all rfl) trivial ?_
      refine ev_br rfl rfl (fun h4 => ?_) (fun h4 => ?_)
      · replace hR := lf_t h4 hR
        refine ev_run (cs := []) (pc' := 44) (L' := [some (.ref 0), some (.int v1), some (.int v2)]) (st' := [.int v2, .int v1, .ref 1]) (w' := W_X4 u) [] 4 (by with_unfolding_all rfl) trivial ?_
        obtain ⟨y2, h5, hR⟩ := lf_b hR
        refine ev_callV1 1 (t_X3_property F (a_X4_now u) v1 v2 _ h5) cv_X3_property ml_X4_184 rfl rfl rfl (Nat.le_of_ble_eq_true rfl) (by with_unfolding_all rfl) (Nat.le_of_ble_eq_true rfl) ⟨Nat.le_of_ble_eq_true rfl, Nat.le_of_ble_eq_true rfl⟩ ⟨Nat.le_refl _, Nat.le_refl _⟩ ?_ ?_
        · rintro r w ⟨rfl, rfl⟩; rfl
        rintro r w ⟨rfl, rfl⟩
        refine ev_nx (pc' := 47) (st' := [.int y2]) (w' := W_X4 u) rfl rfl (by with_unfolding_all rfl) rfl rfl ?_
        cases hR
        exact ev_exit ⟨_, _, rfl, ⟨rfl, Or.inl rfl⟩, ⟨rfl, rfl⟩, Nat.le_refl _, Nat.le_refl _⟩
      · replace hR := lf_f h4 hR
        cases hR
  · replace hR := lf_z0 h2 hR
    cases hR

def s_X4_slot (F : Nat) (u : S_X4) (v1 : Int32) (v2 : Int32) : Option Int32 := (s_X4_isThing F u v1).bind fun y1 => (if y1 then ((s_X4_isSlot F v2).bind fun y2 => (if y2 then ((s_X0_at F (a_X3_hold (a_X4_now u)) (st_pl v1 v2)).bind fun y3 => (some (y3))) else (none))) else (none))
set_option maxHeartbeats 4000000 in
set_option maxRecDepth 20000 in
theorem t_X4_slot (F : Nat) (u : S_X4) (v1 : Int32) (v2 : Int32) (x : Int32) (hR : s_X4_slot F u v1 v2 = some x) : ev_A yX4_slot mm_X4_slot none [.ref 0, .int v1, .int v2] (W_X4 u) (fun r w => r = some (.int x) ∧ w = W_X4 u) := by
  unfold s_X4_slot at hR
  refine ev_start ok_X4_slot (by decide +kernel) rfl rfl (Nat.le_of_ble_eq_true rfl) ?_
  refine ev_run (cs := []) (pc' := 2) (L' := [some (.ref 0), some (.int v1), some (.int v2)]) (st' := [.int v1, .ref 0]) (w' := W_X4 u) [] 2 (by with_unfolding_all rfl) trivial ?_
  obtain ⟨y1, h1, hR⟩ := lf_b hR
  refine ev_callV1 0 (t_X4_isThing F u v1 _ h1) cv_X4_isThing ml_X4_77 rfl rfl rfl (Nat.le_of_ble_eq_true rfl) (by with_unfolding_all rfl) (Nat.le_of_ble_eq_true rfl) ⟨Nat.le_of_ble_eq_true rfl, Nat.le_of_ble_eq_true rfl⟩ ⟨Nat.le_refl _, Nat.le_refl _⟩ ?_ ?_
  · rintro r w ⟨rfl, rfl⟩; rfl
  rintro r w ⟨rfl, rfl⟩
  refine ev_nx (pc' := 5) (st' := [.int (ev_b y1)]) (w' := W_X4 u) rfl rfl (by with_unfolding_all rfl) rfl rfl ?_
  refine ev_br rfl rfl (fun h2 => ?_) (fun h2 => ?_)
  · replace hR := lf_z0 h2 hR
    cases hR
  · replace hR := lf_z1 h2 hR
    refine ev_run (cs := []) (pc' := 9) (L' := [some (.ref 0), some (.int v1), some (.int v2)]) (st' := [.int v2]) (w' := W_X4 u) [] 1 (by with_unfolding_all rfl) trivial ?_
    obtain ⟨y2, h3, hR⟩ := lf_b hR
    refine ev_callS1 0 (t_X4_isSlot F v2 _ h3) cs_X4_isSlot ml_X4_80 rfl rfl rfl (Nat.le_of_ble_eq_true rfl) (by with_unfolding_all rfl) (Nat.le_of_ble_eq_true rfl) ⟨Nat.le_of_ble_eq_true rfl, Nat.le_of_ble_eq_true rfl⟩ ⟨Nat.le_refl _, Nat.le_refl _⟩ ?_ ?_
    · rintro r w ⟨rfl, rfl⟩; rfl
    rintro r w ⟨rfl, rfl⟩
    refine ev_nx (pc' := 12) (st' := [.int (ev_b y2)]) (w' := W_X4 u) rfl rfl (by with_unfolding_all rfl) rfl rfl ?_
    refine ev_br rfl rfl (fun h4 => ?_) (fun h4 => ?_)
    · replace hR := lf_z1 h4 hR
      refine ev_run (cs := []) (pc' := 34) (L' := [some (.ref 0), some (.int v1), some (.int v2)]) (st' := [.int v2, .int v1, .ref 10]) (w' := W_X4 u) [] 5 (by with_unfolding_all rfl) trivial ?_
      refine ev_callS1 0 (t_X4_placeOf v1 v2) cs_X4_placeOf ml_X4_90 rfl rfl rfl (Nat.le_of_ble_eq_true rfl) (by with_unfolding_all rfl) (Nat.le_of_ble_eq_true rfl) ⟨Nat.le_of_ble_eq_true rfl, Nat.le_of_ble_eq_true rfl⟩ ⟨Nat.le_refl _, Nat.le_refl _⟩ ?_ ?_
      · rintro r w ⟨rfl, rfl⟩; rfl
      rintro r w ⟨rfl, rfl⟩
      refine ev_nx (pc' := 37) (st' := [.int (st_pl v1 v2), .ref 10]) (w' := W_X4 u) rfl rfl (by with_unfolding_all rfl) rfl rfl ?_
      obtain ⟨y3, h5, hR⟩ := lf_b hR
      refine ev_callV1 10 (t_X0_at F (a_X3_hold (a_X4_now u)) (st_pl v1 v2) _ h5) cv_X0_at ml_X4_193 rfl rfl rfl (Nat.le_of_ble_eq_true rfl) (by with_unfolding_all rfl) (Nat.le_of_ble_eq_true rfl) ⟨Nat.le_of_ble_eq_true rfl, Nat.le_of_ble_eq_true rfl⟩ ⟨Nat.le_refl _, Nat.le_refl _⟩ ?_ ?_
      · rintro r w ⟨rfl, rfl⟩; rfl
      rintro r w ⟨rfl, rfl⟩
      refine ev_nx (pc' := 40) (st' := [.int y3]) (w' := W_X4 u) rfl rfl (by with_unfolding_all rfl) rfl rfl ?_
      cases hR
      exact ev_exit ⟨_, _, rfl, ⟨rfl, Or.inl rfl⟩, ⟨rfl, rfl⟩, Nat.le_refl _, Nat.le_refl _⟩
    · replace hR := lf_z0 h4 hR
      cases hR

def s_X4_hand (F : Nat) (u : S_X4) (v1 : Int32) : Option Int32 := (s_X4_isHand F v1).bind fun y1 => (if y1 then ((s_X0_at F (a_X3_hold (a_X4_now u)) v1).bind fun y2 => (some (y2))) else (none))
set_option maxHeartbeats 4000000 in
set_option maxRecDepth 20000 in
theorem t_X4_hand (F : Nat) (u : S_X4) (v1 : Int32) (x : Int32) (hR : s_X4_hand F u v1 = some x) : ev_A yX4_hand mm_X4_hand none [.ref 0, .int v1] (W_X4 u) (fun r w => r = some (.int x) ∧ w = W_X4 u) := by
  unfold s_X4_hand at hR
  refine ev_start ok_X4_hand (by decide +kernel) rfl rfl (Nat.le_of_ble_eq_true rfl) ?_
  refine ev_run (cs := []) (pc' := 1) (L' := [some (.ref 0), some (.int v1)]) (st' := [.int v1]) (w' := W_X4 u) [] 1 (by with_unfolding_all rfl) trivial ?_
  obtain ⟨y1, h1, hR⟩ := lf_b hR
  refine ev_callS1 0 (t_X4_isHand F v1 _ h1) cs_X4_isHand ml_X4_56 rfl rfl rfl (Nat.le_of_ble_eq_true rfl) (by with_unfolding_all rfl) (Nat.le_of_ble_eq_true rfl) ⟨Nat.le_of_ble_eq_true rfl, Nat.le_of_ble_eq_true rfl⟩ ⟨Nat.le_refl _, Nat.le_refl _⟩ ?_ ?_
  · rintro r w ⟨rfl, rfl⟩; rfl
  rintro r w ⟨rfl, rfl⟩
  refine ev_nx (pc' := 4) (st' := [.int (ev_b y1)]) (w' := W_X4 u) rfl rfl (by with_unfolding_all rfl) rfl rfl ?_
  refine ev_br rfl rfl (fun h2 => ?_) (fun h2 => ?_)
  · replace hR := lf_z1 h2 hR
    refine ev_run (cs := []) (pc' := 25) (L' := [some (.ref 0), some (.int v1)]) (st' := [.int v1, .ref 10]) (w' := W_X4 u) [] 4 (by with_unfolding_all rfl) trivial ?_
    obtain ⟨y2, h3, hR⟩ := lf_b hR
    refine ev_callV1 10 (t_X0_at F (a_X3_hold (a_X4_now u)) v1 _ h3) cv_X0_at ml_X4_193 rfl rfl rfl (Nat.le_of_ble_eq_true rfl) (by with_unfolding_all rfl) (Nat.le_of_ble_eq_true rfl) ⟨Nat.le_of_ble_eq_true rfl, Nat.le_of_ble_eq_true rfl⟩ ⟨Nat.le_refl _, Nat.le_refl _⟩ ?_ ?_
    · rintro r w ⟨rfl, rfl⟩; rfl
    rintro r w ⟨rfl, rfl⟩
    refine ev_nx (pc' := 28) (st' := [.int y2]) (w' := W_X4 u) rfl rfl (by with_unfolding_all rfl) rfl rfl ?_
    cases hR
    exact ev_exit ⟨_, _, rfl, ⟨rfl, Or.inl rfl⟩, ⟨rfl, rfl⟩, Nat.le_refl _, Nat.le_refl _⟩
  · replace hR := lf_z0 h2 hR
    cases hR

def s_X4_report (F : Nat) (u : S_X4) (v1 : Int32) (v2 : Int32) : Option Int32 := if v1 < 0 then (none) else ((s_X1_underWay F (a_X3_rep (a_X4_now u))).bind fun y1 => (if v1 < y1 then (if v2 < 0 then (none) else (if v2 < 5 then ((s_X1_part F (a_X3_rep (a_X4_now u)) v1 v2).bind fun y2 => (some (y2))) else (none))) else (none)))
set_option maxHeartbeats 4000000 in
set_option maxRecDepth 20000 in
theorem t_X4_report (F : Nat) (u : S_X4) (v1 : Int32) (v2 : Int32) (x : Int32) (hR : s_X4_report F u v1 v2 = some x) : ev_A yX4_report mm_X4_report none [.ref 0, .int v1, .int v2] (W_X4 u) (fun r w => r = some (.int x) ∧ w = W_X4 u) := by
  unfold s_X4_report at hR
  refine ev_start ok_X4_report (by decide +kernel) rfl rfl (Nat.le_of_ble_eq_true rfl) ?_
  refine ev_run (cs := []) (pc' := 1) (L' := [some (.ref 0), some (.int v1), some (.int v2)]) (st' := [.int v1]) (w' := W_X4 u) [] 1 (by with_unfolding_all rfl) trivial ?_
  refine ev_br rfl rfl (fun h1 => ?_) (fun h1 => ?_)
  · replace hR := lf_t h1 hR
    cases hR
  · replace hR := lf_f h1 hR
    refine ev_run (cs := []) (pc' := 12) (L' := [some (.ref 0), some (.int v1), some (.int v2)]) (st' := [.ref 12, .int v1]) (w' := W_X4 u) [] 4 (by with_unfolding_all rfl) trivial ?_
    obtain ⟨y1, h2, hR⟩ := lf_b hR
    refine ev_callV1 12 (t_X1_underWay F (a_X3_rep (a_X4_now u)) _ h2) cv_X1_underWay ml_X4_204 rfl rfl rfl (Nat.le_of_ble_eq_true rfl) (by with_unfolding_all rfl) (Nat.le_of_ble_eq_true rfl) ⟨Nat.le_of_ble_eq_true rfl, Nat.le_of_ble_eq_true rfl⟩ ⟨Nat.le_refl _, Nat.le_refl _⟩ ?_ ?_
    · rintro r w ⟨rfl, rfl⟩; rfl
    rintro r w ⟨rfl, rfl⟩
    refine ev_nx (pc' := 15) (st' := [.int y1, .int v1]) (w' := W_X4 u) rfl rfl (by with_unfolding_all rfl) rfl rfl ?_
    refine ev_br rfl rfl (fun h3 => ?_) (fun h3 => ?_)
    · replace hR := lf_t h3 hR
      refine ev_run (cs := []) (pc' := 29) (L' := [some (.ref 0), some (.int v1), some (.int v2)]) (st' := [.int v2]) (w' := W_X4 u) [] 1 (by with_unfolding_all rfl) trivial ?_
      refine ev_br rfl rfl (fun h4 => ?_) (fun h4 => ?_)
      · replace hR := lf_t h4 hR
        cases hR
      · replace hR := lf_f h4 hR
        refine ev_run (cs := []) (pc' := 34) (L' := [some (.ref 0), some (.int v1), some (.int v2)]) (st' := [.int 5, .int v2]) (w' := W_X4 u) [] 2 (by with_unfolding_all rfl) trivial ?_
        refine ev_br rfl rfl (fun h5 => ?_) (fun h5 => ?_)
        · replace hR := lf_t h5 hR
          refine ev_run (cs := []) (pc' := 56) (L' := [some (.ref 0), some (.int v1), some (.int v2)]) (st' := [.int v2, .int v1, .ref 12]) (w' := W_X4 u) [] 5 (by with_unfolding_all rfl) trivial ?_
          obtain ⟨y2, h6, hR⟩ := lf_b hR
          refine ev_callV1 12 (t_X1_part F (a_X3_rep (a_X4_now u)) v1 v2 _ h6) cv_X1_part ml_X4_213 rfl rfl rfl (Nat.le_of_ble_eq_true rfl) (by with_unfolding_all rfl) (Nat.le_of_ble_eq_true rfl) ⟨Nat.le_of_ble_eq_true rfl, Nat.le_of_ble_eq_true rfl⟩ ⟨Nat.le_refl _, Nat.le_refl _⟩ ?_ ?_
          · rintro r w ⟨rfl, rfl⟩; rfl
          rintro r w ⟨rfl, rfl⟩
          refine ev_nx (pc' := 59) (st' := [.int y2]) (w' := W_X4 u) rfl rfl (by with_unfolding_all rfl) rfl rfl ?_
          cases hR
          exact ev_exit ⟨_, _, rfl, ⟨rfl, Or.inl rfl⟩, ⟨rfl, rfl⟩, Nat.le_refl _, Nat.le_refl _⟩
        · replace hR := lf_f h5 hR
          cases hR
    · replace hR := lf_f h3 hR
      cases hR

def s_X4_count (F : Nat) (u : S_X4) (v1 : Int32) : Option Int32 := if v1 < 0 then (none) else (if v1 < 14 then (if v1 = 13 then (some (a_X4_savedStates u)) else ((s_X3_total F (a_X4_now u) v1).bind fun y1 => (some (y1)))) else (none))
set_option maxHeartbeats 4000000 in
set_option maxRecDepth 20000 in
theorem t_X4_count (F : Nat) (u : S_X4) (v1 : Int32) (x : Int32) (hR : s_X4_count F u v1 = some x) : ev_A yX4_count mm_X4_count none [.ref 0, .int v1] (W_X4 u) (fun r w => r = some (.int x) ∧ w = W_X4 u) := by
  unfold s_X4_count at hR
  refine ev_start ok_X4_count (by decide +kernel) rfl rfl (Nat.le_of_ble_eq_true rfl) ?_
  refine ev_run (cs := []) (pc' := 1) (L' := [some (.ref 0), some (.int v1)]) (st' := [.int v1]) (w' := W_X4 u) [] 1 (by with_unfolding_all rfl) trivial ?_
  refine ev_br rfl rfl (fun h1 => ?_) (fun h1 => ?_)
  · replace hR := lf_t h1 hR
    cases hR
  · replace hR := lf_f h1 hR
    refine ev_run (cs := []) (pc' := 7) (L' := [some (.ref 0), some (.int v1)]) (st' := [.int 14, .int v1]) (w' := W_X4 u) [] 2 (by with_unfolding_all rfl) trivial ?_
    refine ev_br rfl rfl (fun h2 => ?_) (fun h2 => ?_)
    · replace hR := lf_t h2 hR
      refine ev_run (cs := []) (pc' := 23) (L' := [some (.ref 0), some (.int v1)]) (st' := [.int 13, .int v1]) (w' := W_X4 u) [] 2 (by with_unfolding_all rfl) trivial ?_
      refine ev_br rfl rfl (fun h3 => ?_) (fun h3 => ?_)
      · replace hR := lf_f h3 hR
        refine ev_run (cs := []) (pc' := 38) (L' := [some (.ref 0), some (.int v1)]) (st' := [.int v1, .ref 1]) (w' := W_X4 u) [] 3 (by with_unfolding_all rfl) trivial ?_
        obtain ⟨y1, h4, hR⟩ := lf_b hR
        refine ev_callV1 1 (t_X3_total F (a_X4_now u) v1 _ h4) cv_X3_total ml_X4_226 rfl rfl rfl (Nat.le_of_ble_eq_true rfl) (by with_unfolding_all rfl) (Nat.le_of_ble_eq_true rfl) ⟨Nat.le_of_ble_eq_true rfl, Nat.le_of_ble_eq_true rfl⟩ ⟨Nat.le_refl _, Nat.le_refl _⟩ ?_ ?_
        · rintro r w ⟨rfl, rfl⟩; rfl
        rintro r w ⟨rfl, rfl⟩
        refine ev_nx (pc' := 41) (st' := [.int y1]) (w' := W_X4 u) rfl rfl (by with_unfolding_all rfl) rfl rfl ?_
        cases hR
        exact ev_exit ⟨_, _, rfl, ⟨rfl, Or.inl rfl⟩, ⟨rfl, rfl⟩, Nat.le_refl _, Nat.le_refl _⟩
      · replace hR := lf_t h3 hR
        refine ev_run (cs := []) (pc' := 41) (L' := [some (.ref 0), some (.int v1)]) (st' := [.int (a_X4_savedStates u)]) (w' := W_X4 u) [] 3 (by with_unfolding_all rfl) trivial ?_
        cases hR
        exact ev_exit ⟨_, _, rfl, ⟨rfl, Or.inl rfl⟩, ⟨rfl, rfl⟩, Nat.le_refl _, Nat.le_refl _⟩
    · replace hR := lf_f h2 hR
      cases hR

def s_X4_ifPassed (F : Nat) (u : S_X4) (v1 : Int32) (v2 : Int32) : Option (Int32 × S_X4) := if v1 < 1 then (none) else (if 100 < v1 then (none) else (if v2 < 0 then (none) else (if v2 ≤ 3 then ((s_X4_foresee F u v1).bind fun y1 => ((s_X4_passedPart F y1 v2).bind fun y2 => (some (y2, y1)))) else (none))))
set_option maxHeartbeats 4000000 in
set_option maxRecDepth 20000 in
theorem t_X4_ifPassed (F : Nat) (u : S_X4) (v1 : Int32) (v2 : Int32) (x : (Int32 × S_X4)) (hR : s_X4_ifPassed F u v1 v2 = some x) : ev_A yX4_ifPassed mm_X4_ifPassed none [.ref 0, .int v1, .int v2] (W_X4 u) (fun r w => r = some (.int x.1) ∧ w = W_X4 x.2) := by
  unfold s_X4_ifPassed at hR
  refine ev_start ok_X4_ifPassed (by decide +kernel) rfl rfl (Nat.le_of_ble_eq_true rfl) ?_
  refine ev_run (cs := []) (pc' := 2) (L' := [some (.ref 0), some (.int v1), some (.int v2)]) (st' := [.int 1, .int v1]) (w' := W_X4 u) [] 2 (by with_unfolding_all rfl) trivial ?_
  refine ev_br rfl rfl (fun h1 => ?_) (fun h1 => ?_)
  · replace hR := lf_t h1 hR
    cases hR
  · replace hR := lf_f h1 hR
    refine ev_run (cs := []) (pc' := 8) (L' := [some (.ref 0), some (.int v1), some (.int v2)]) (st' := [.int 100, .int v1]) (w' := W_X4 u) [] 2 (by with_unfolding_all rfl) trivial ?_
    refine ev_br rfl rfl (fun h2 => ?_) (fun h2 => ?_)
    · replace hR := lf_t h2 hR
      cases hR
    · replace hR := lf_f h2 hR
      refine ev_run (cs := []) (pc' := 12) (L' := [some (.ref 0), some (.int v1), some (.int v2)]) (st' := [.int v2]) (w' := W_X4 u) [] 1 (by with_unfolding_all rfl) trivial ?_
      refine ev_br rfl rfl (fun h3 => ?_) (fun h3 => ?_)
      · replace hR := lf_t h3 hR
        cases hR
      · replace hR := lf_f h3 hR
        refine ev_run (cs := []) (pc' := 17) (L' := [some (.ref 0), some (.int v1), some (.int v2)]) (st' := [.int 3, .int v2]) (w' := W_X4 u) [] 2 (by with_unfolding_all rfl) trivial ?_
        refine ev_br rfl rfl (fun h4 => ?_) (fun h4 => ?_)
        · replace hR := lf_t h4 hR
          refine ev_run (cs := []) (pc' := 32) (L' := [some (.ref 0), some (.int v1), some (.int v2)]) (st' := [.int v1, .ref 0]) (w' := W_X4 u) [] 2 (by with_unfolding_all rfl) trivial ?_
          obtain ⟨y1, h5, hR⟩ := lf_b hR
          refine ev_callV1 0 (t_X4_foresee F u v1 _ h5) cv_X4_foresee ml_X4_231 rfl rfl rfl (Nat.le_of_ble_eq_true rfl) (by with_unfolding_all rfl) (Nat.le_of_ble_eq_true rfl) ⟨Nat.le_of_ble_eq_true rfl, Nat.le_of_ble_eq_true rfl⟩ ⟨Nat.le_refl _, Nat.le_refl _⟩ ?_ ?_
          · rintro r w ⟨rfl, rfl⟩; rfl
          rintro r w ⟨rfl, rfl⟩
          refine ev_nx (pc' := 35) (st' := []) (w' := W_X4 y1) rfl rfl (by with_unfolding_all rfl) rfl rfl ?_
          refine ev_run (cs := []) (pc' := 37) (L' := [some (.ref 0), some (.int v1), some (.int v2)]) (st' := [.int v2, .ref 0]) (w' := W_X4 y1) [] 2 (by with_unfolding_all rfl) trivial ?_
          obtain ⟨y2, h6, hR⟩ := lf_b hR
          refine ev_callV1 0 (t_X4_passedPart F y1 v2 _ h6) cv_X4_passedPart ml_X4_235 rfl rfl rfl (Nat.le_of_ble_eq_true rfl) (by with_unfolding_all rfl) (Nat.le_of_ble_eq_true rfl) ⟨Nat.le_of_ble_eq_true rfl, Nat.le_of_ble_eq_true rfl⟩ ⟨Nat.le_refl _, Nat.le_refl _⟩ ?_ ?_
          · rintro r w ⟨rfl, rfl⟩; rfl
          rintro r w ⟨rfl, rfl⟩
          refine ev_nx (pc' := 40) (st' := [.int y2]) (w' := W_X4 y1) rfl rfl (by with_unfolding_all rfl) rfl rfl ?_
          cases hR
          exact ev_exit ⟨_, _, rfl, ⟨rfl, Or.inl rfl⟩, ⟨rfl, rfl⟩, Nat.le_refl _, Nat.le_refl _⟩
        · replace hR := lf_f h4 hR
          cases hR

def s_X4_endsIn (F : Nat) (u : S_X4) (v1 : Int32) : Option (Int32 × S_X4) := (s_X4_isThing F u v1).bind fun y1 => (if y1 then ((s_X4_foresee F u 200).bind fun y2 => ((s_X4_foreseenEnd F y2 v1).bind fun y3 => (some (y3, y2)))) else (none))
set_option maxHeartbeats 4000000 in
set_option maxRecDepth 20000 in
theorem t_X4_endsIn (F : Nat) (u : S_X4) (v1 : Int32) (x : (Int32 × S_X4)) (hR : s_X4_endsIn F u v1 = some x) : ev_A yX4_endsIn mm_X4_endsIn none [.ref 0, .int v1] (W_X4 u) (fun r w => r = some (.int x.1) ∧ w = W_X4 x.2) := by
  unfold s_X4_endsIn at hR
  refine ev_start ok_X4_endsIn (by decide +kernel) rfl rfl (Nat.le_of_ble_eq_true rfl) ?_
  refine ev_run (cs := []) (pc' := 2) (L' := [some (.ref 0), some (.int v1)]) (st' := [.int v1, .ref 0]) (w' := W_X4 u) [] 2 (by with_unfolding_all rfl) trivial ?_
  obtain ⟨y1, h1, hR⟩ := lf_b hR
  refine ev_callV1 0 (t_X4_isThing F u v1 _ h1) cv_X4_isThing ml_X4_77 rfl rfl rfl (Nat.le_of_ble_eq_true rfl) (by with_unfolding_all rfl) (Nat.le_of_ble_eq_true rfl) ⟨Nat.le_of_ble_eq_true rfl, Nat.le_of_ble_eq_true rfl⟩ ⟨Nat.le_refl _, Nat.le_refl _⟩ ?_ ?_
  · rintro r w ⟨rfl, rfl⟩; rfl
  rintro r w ⟨rfl, rfl⟩
  refine ev_nx (pc' := 5) (st' := [.int (ev_b y1)]) (w' := W_X4 u) rfl rfl (by with_unfolding_all rfl) rfl rfl ?_
  refine ev_br rfl rfl (fun h2 => ?_) (fun h2 => ?_)
  · replace hR := lf_z1 h2 hR
    refine ev_run (cs := []) (pc' := 22) (L' := [some (.ref 0), some (.int v1)]) (st' := [.int 200, .ref 0]) (w' := W_X4 u) [] 2 (by with_unfolding_all rfl) trivial ?_
    obtain ⟨y2, h3, hR⟩ := lf_b hR
    refine ev_callV1 0 (t_X4_foresee F u 200 _ h3) cv_X4_foresee ml_X4_231 rfl rfl rfl (Nat.le_of_ble_eq_true rfl) (by with_unfolding_all rfl) (Nat.le_of_ble_eq_true rfl) ⟨Nat.le_of_ble_eq_true rfl, Nat.le_of_ble_eq_true rfl⟩ ⟨Nat.le_refl _, Nat.le_refl _⟩ ?_ ?_
    · rintro r w ⟨rfl, rfl⟩; rfl
    rintro r w ⟨rfl, rfl⟩
    refine ev_nx (pc' := 25) (st' := []) (w' := W_X4 y2) rfl rfl (by with_unfolding_all rfl) rfl rfl ?_
    refine ev_run (cs := []) (pc' := 27) (L' := [some (.ref 0), some (.int v1)]) (st' := [.int v1, .ref 0]) (w' := W_X4 y2) [] 2 (by with_unfolding_all rfl) trivial ?_
    obtain ⟨y3, h4, hR⟩ := lf_b hR
    refine ev_callV1 0 (t_X4_foreseenEnd F y2 v1 _ h4) cv_X4_foreseenEnd ml_X4_238 rfl rfl rfl (Nat.le_of_ble_eq_true rfl) (by with_unfolding_all rfl) (Nat.le_of_ble_eq_true rfl) ⟨Nat.le_of_ble_eq_true rfl, Nat.le_of_ble_eq_true rfl⟩ ⟨Nat.le_refl _, Nat.le_refl _⟩ ?_ ?_
    · rintro r w ⟨rfl, rfl⟩; rfl
    rintro r w ⟨rfl, rfl⟩
    refine ev_nx (pc' := 30) (st' := [.int y3]) (w' := W_X4 y2) rfl rfl (by with_unfolding_all rfl) rfl rfl ?_
    cases hR
    exact ev_exit ⟨_, _, rfl, ⟨rfl, Or.inl rfl⟩, ⟨rfl, rfl⟩, Nat.le_refl _, Nat.le_refl _⟩
  · replace hR := lf_z0 h2 hR
    cases hR

def s_X4_ifTried (F : Nat) (u : S_X4) (v1 : Int32) : Option (Int32 × S_X4) := if v1 < 0 then (none) else (if v1 ≤ 2 then ((s_X4_foreseeTrial F u).bind fun y1 => ((s_X4_triedPart F y1 v1).bind fun y2 => (some (y2, y1)))) else (none))
set_option maxHeartbeats 4000000 in
set_option maxRecDepth 20000 in
theorem t_X4_ifTried (F : Nat) (u : S_X4) (v1 : Int32) (x : (Int32 × S_X4)) (hR : s_X4_ifTried F u v1 = some x) : ev_A yX4_ifTried mm_X4_ifTried none [.ref 0, .int v1] (W_X4 u) (fun r w => r = some (.int x.1) ∧ w = W_X4 x.2) := by
  unfold s_X4_ifTried at hR
  refine ev_start ok_X4_ifTried (by decide +kernel) rfl rfl (Nat.le_of_ble_eq_true rfl) ?_
  refine ev_run (cs := []) (pc' := 1) (L' := [some (.ref 0), some (.int v1)]) (st' := [.int v1]) (w' := W_X4 u) [] 1 (by with_unfolding_all rfl) trivial ?_
  refine ev_br rfl rfl (fun h1 => ?_) (fun h1 => ?_)
  · replace hR := lf_t h1 hR
    cases hR
  · replace hR := lf_f h1 hR
    refine ev_run (cs := []) (pc' := 6) (L' := [some (.ref 0), some (.int v1)]) (st' := [.int 2, .int v1]) (w' := W_X4 u) [] 2 (by with_unfolding_all rfl) trivial ?_
    refine ev_br rfl rfl (fun h2 => ?_) (fun h2 => ?_)
    · replace hR := lf_t h2 hR
      refine ev_run (cs := []) (pc' := 20) (L' := [some (.ref 0), some (.int v1)]) (st' := [.ref 0]) (w' := W_X4 u) [] 1 (by with_unfolding_all rfl) trivial ?_
      obtain ⟨y1, h3, hR⟩ := lf_b hR
      refine ev_callV1 0 (t_X4_foreseeTrial F u _ h3) cv_X4_foreseeTrial ml_X4_243 rfl rfl rfl (Nat.le_of_ble_eq_true rfl) (by with_unfolding_all rfl) (Nat.le_of_ble_eq_true rfl) ⟨Nat.le_of_ble_eq_true rfl, Nat.le_of_ble_eq_true rfl⟩ ⟨Nat.le_refl _, Nat.le_refl _⟩ ?_ ?_
      · rintro r w ⟨rfl, rfl⟩; rfl
      rintro r w ⟨rfl, rfl⟩
      refine ev_nx (pc' := 23) (st' := []) (w' := W_X4 y1) rfl rfl (by with_unfolding_all rfl) rfl rfl ?_
      refine ev_run (cs := []) (pc' := 25) (L' := [some (.ref 0), some (.int v1)]) (st' := [.int v1, .ref 0]) (w' := W_X4 y1) [] 2 (by with_unfolding_all rfl) trivial ?_
      obtain ⟨y2, h4, hR⟩ := lf_b hR
      refine ev_callV1 0 (t_X4_triedPart F y1 v1 _ h4) cv_X4_triedPart ml_X4_246 rfl rfl rfl (Nat.le_of_ble_eq_true rfl) (by with_unfolding_all rfl) (Nat.le_of_ble_eq_true rfl) ⟨Nat.le_of_ble_eq_true rfl, Nat.le_of_ble_eq_true rfl⟩ ⟨Nat.le_refl _, Nat.le_refl _⟩ ?_ ?_
      · rintro r w ⟨rfl, rfl⟩; rfl
      rintro r w ⟨rfl, rfl⟩
      refine ev_nx (pc' := 28) (st' := [.int y2]) (w' := W_X4 y1) rfl rfl (by with_unfolding_all rfl) rfl rfl ?_
      cases hR
      exact ev_exit ⟨_, _, rfl, ⟨rfl, Or.inl rfl⟩, ⟨rfl, rfl⟩, Nat.le_refl _, Nat.le_refl _⟩
    · replace hR := lf_f h2 hR
      cases hR

def s_X4_ring (F : Nat) (u : S_X4) (v1 : Int32) : Option Int32 := (s_X4_isThing F u v1).bind fun y1 => (if y1 then ((s_X0_ringOf F (a_X3_hold (a_X4_now u)) v1).bind fun y2 => (some (y2))) else (none))
set_option maxHeartbeats 4000000 in
set_option maxRecDepth 20000 in
theorem t_X4_ring (F : Nat) (u : S_X4) (v1 : Int32) (x : Int32) (hR : s_X4_ring F u v1 = some x) : ev_A yX4_ring mm_X4_ring none [.ref 0, .int v1] (W_X4 u) (fun r w => r = some (.int x) ∧ w = W_X4 u) := by
  unfold s_X4_ring at hR
  refine ev_start ok_X4_ring (by decide +kernel) rfl rfl (Nat.le_of_ble_eq_true rfl) ?_
  refine ev_run (cs := []) (pc' := 2) (L' := [some (.ref 0), some (.int v1)]) (st' := [.int v1, .ref 0]) (w' := W_X4 u) [] 2 (by with_unfolding_all rfl) trivial ?_
  obtain ⟨y1, h1, hR⟩ := lf_b hR
  refine ev_callV1 0 (t_X4_isThing F u v1 _ h1) cv_X4_isThing ml_X4_77 rfl rfl rfl (Nat.le_of_ble_eq_true rfl) (by with_unfolding_all rfl) (Nat.le_of_ble_eq_true rfl) ⟨Nat.le_of_ble_eq_true rfl, Nat.le_of_ble_eq_true rfl⟩ ⟨Nat.le_refl _, Nat.le_refl _⟩ ?_ ?_
  · rintro r w ⟨rfl, rfl⟩; rfl
  rintro r w ⟨rfl, rfl⟩
  refine ev_nx (pc' := 5) (st' := [.int (ev_b y1)]) (w' := W_X4 u) rfl rfl (by with_unfolding_all rfl) rfl rfl ?_
  refine ev_br rfl rfl (fun h2 => ?_) (fun h2 => ?_)
  · replace hR := lf_z1 h2 hR
    refine ev_run (cs := []) (pc' := 26) (L' := [some (.ref 0), some (.int v1)]) (st' := [.int v1, .ref 10]) (w' := W_X4 u) [] 4 (by with_unfolding_all rfl) trivial ?_
    obtain ⟨y2, h3, hR⟩ := lf_b hR
    refine ev_callV1 10 (t_X0_ringOf F (a_X3_hold (a_X4_now u)) v1 _ h3) cv_X0_ringOf ml_X4_249 rfl rfl rfl (Nat.le_of_ble_eq_true rfl) (by with_unfolding_all rfl) (Nat.le_of_ble_eq_true rfl) ⟨Nat.le_of_ble_eq_true rfl, Nat.le_of_ble_eq_true rfl⟩ ⟨Nat.le_refl _, Nat.le_refl _⟩ ?_ ?_
    · rintro r w ⟨rfl, rfl⟩; rfl
    rintro r w ⟨rfl, rfl⟩
    refine ev_nx (pc' := 29) (st' := [.int y2]) (w' := W_X4 u) rfl rfl (by with_unfolding_all rfl) rfl rfl ?_
    cases hR
    exact ev_exit ⟨_, _, rfl, ⟨rfl, Or.inl rfl⟩, ⟨rfl, rfl⟩, Nat.le_refl _, Nat.le_refl _⟩
  · replace hR := lf_z0 h2 hR
    cases hR

def s_X4_bestCut_b19 (F : Nat) (u : S_X4) (v1 : Int32) : Option Int32 := (s_X0_cutWithMostLost F (a_X3_hold (a_X4_now u))).bind fun y1 => (if v1 = 0 then (some (y1)) else (if y1 = (-1) then (some (0)) else ((s_X0_lostWithout F (a_X3_hold (a_X4_now u)) y1).bind fun y2 => (some (y2)))))
set_option maxHeartbeats 4000000 in
set_option maxRecDepth 20000 in
theorem t_X4_bestCut_b19 (F : Nat) (u : S_X4) (v1 : Int32) (x : Int32)  (hR : s_X4_bestCut_b19 F u v1 = some x) : ev_V mm_X4_bestCut none (ev_XR mm_X4_bestCut (fun r w => r = some (.int x) ∧ w = W_X4 u)) 19 [some (.ref 0), some (.int v1), none] [] (W_X4 u) 0 0 := by
  unfold s_X4_bestCut_b19 at hR
  refine ev_run (cs := []) (pc' := 26) (L' := [some (.ref 0), some (.int v1), none]) (st' := [.ref 10]) (w' := W_X4 u) [] 3 (by with_unfolding_all rfl) trivial ?_
  obtain ⟨y1, h1, hR⟩ := lf_b hR
  refine ev_callV1 10 (t_X0_cutWithMostLost F (a_X3_hold (a_X4_now u)) _ h1) cv_X0_cutWithMostLost ml_X4_254 rfl rfl rfl (Nat.le_of_ble_eq_true rfl) (by with_unfolding_all rfl) (Nat.le_of_ble_eq_true rfl) ⟨Nat.le_of_ble_eq_true rfl, Nat.le_of_ble_eq_true rfl⟩ ⟨Nat.le_refl _, Nat.le_refl _⟩ ?_ ?_
  · rintro r w ⟨rfl, rfl⟩; rfl
  rintro r w ⟨rfl, rfl⟩
  refine ev_nx (pc' := 29) (st' := [.int y1]) (w' := W_X4 u) rfl rfl (by with_unfolding_all rfl) rfl rfl ?_
  refine ev_run (cs := []) (pc' := 31) (L' := [some (.ref 0), some (.int v1), some (.int y1)]) (st' := [.int v1]) (w' := W_X4 u) [] 2 (by with_unfolding_all rfl) trivial ?_
  refine ev_br rfl rfl (fun h2 => ?_) (fun h2 => ?_)
  · replace hR := lf_f h2 hR
    refine ev_run (cs := []) (pc' := 38) (L' := [some (.ref 0), some (.int v1), some (.int y1)]) (st' := [.int (-1), .int y1]) (w' := W_X4 u) [] 2 (by with_unfolding_all rfl) trivial ?_
    refine ev_br rfl rfl (fun h3 => ?_) (fun h3 => ?_)
    · replace hR := lf_f h3 hR
      refine ev_run (cs := []) (pc' := 53) (L' := [some (.ref 0), some (.int v1), some (.int y1)]) (st' := [.int y1, .ref 10]) (w' := W_X4 u) [] 4 (by with_unfolding_all rfl) trivial ?_
      obtain ⟨y2, h4, hR⟩ := lf_b hR
      refine ev_callV1 10 (t_X0_lostWithout F (a_X3_hold (a_X4_now u)) y1 _ h4) cv_X0_lostWithout ml_X4_257 rfl rfl rfl (Nat.le_of_ble_eq_true rfl) (by with_unfolding_all rfl) (Nat.le_of_ble_eq_true rfl) ⟨Nat.le_of_ble_eq_true rfl, Nat.le_of_ble_eq_true rfl⟩ ⟨Nat.le_refl _, Nat.le_refl _⟩ ?_ ?_
      · rintro r w ⟨rfl, rfl⟩; rfl
      rintro r w ⟨rfl, rfl⟩
      refine ev_nx (pc' := 56) (st' := [.int y2]) (w' := W_X4 u) rfl rfl (by with_unfolding_all rfl) rfl rfl ?_
      cases hR
      exact ev_exit ⟨_, _, rfl, ⟨rfl, Or.inl rfl⟩, ⟨rfl, rfl⟩, Nat.le_refl _, Nat.le_refl _⟩
    · replace hR := lf_t h3 hR
      refine ev_run (cs := []) (pc' := 56) (L' := [some (.ref 0), some (.int v1), some (.int y1)]) (st' := [.int 0]) (w' := W_X4 u) [] 2 (by with_unfolding_all rfl) trivial ?_
      cases hR
      exact ev_exit ⟨_, _, rfl, ⟨rfl, Or.inl rfl⟩, ⟨rfl, rfl⟩, Nat.le_refl _, Nat.le_refl _⟩
  · replace hR := lf_t h2 hR
    refine ev_run (cs := []) (pc' := 35) (L' := [some (.ref 0), some (.int v1), some (.int y1)]) (st' := [.int y1]) (w' := W_X4 u) [] 1 (by with_unfolding_all rfl) trivial ?_
    cases hR
    exact ev_exit ⟨_, _, rfl, ⟨rfl, Or.inl rfl⟩, ⟨rfl, rfl⟩, Nat.le_refl _, Nat.le_refl _⟩

def s_X4_bestCut (F : Nat) (u : S_X4) (v1 : Int32) : Option Int32 := if v1 = 0 then (s_X4_bestCut_b19 F u v1) else (if v1 = 1 then (s_X4_bestCut_b19 F u v1) else (none))
set_option maxHeartbeats 4000000 in
set_option maxRecDepth 20000 in
theorem t_X4_bestCut (F : Nat) (u : S_X4) (v1 : Int32) (x : Int32) (hR : s_X4_bestCut F u v1 = some x) : ev_A yX4_bestCut mm_X4_bestCut none [.ref 0, .int v1] (W_X4 u) (fun r w => r = some (.int x) ∧ w = W_X4 u) := by
  unfold s_X4_bestCut at hR
  refine ev_start ok_X4_bestCut (by decide +kernel) rfl rfl (Nat.le_of_ble_eq_true rfl) ?_
  refine ev_run (cs := []) (pc' := 1) (L' := [some (.ref 0), some (.int v1), none]) (st' := [.int v1]) (w' := W_X4 u) [] 1 (by with_unfolding_all rfl) trivial ?_
  refine ev_br rfl rfl (fun h1 => ?_) (fun h1 => ?_)
  · replace hR := lf_t h1 hR
    exact ev_to2 (t_X4_bestCut_b19 F u v1 _ hR) ⟨rfl, rfl, trivial⟩ rfl rfl
  · replace hR := lf_f h1 hR
    refine ev_run (cs := []) (pc' := 6) (L' := [some (.ref 0), some (.int v1), none]) (st' := [.int 1, .int v1]) (w' := W_X4 u) [] 2 (by with_unfolding_all rfl) trivial ?_
    refine ev_br rfl rfl (fun h2 => ?_) (fun h2 => ?_)
    · replace hR := lf_t h2 hR
      exact ev_to2 (t_X4_bestCut_b19 F u v1 _ hR) ⟨rfl, rfl, trivial⟩ rfl rfl
    · replace hR := lf_f h2 hR
      cases hR

def s_X4_bears (F : Nat) (u : S_X4) (v1 : Int32) : Option (Int32 × S_X4) := (s_X4_isThing F u v1).bind fun y1 => (if y1 then ((s_X4_slandersToEnd F u v1).bind fun y2 => (some (y2.1, y2.2))) else (none))
set_option maxHeartbeats 4000000 in
set_option maxRecDepth 20000 in
theorem t_X4_bears (F : Nat) (u : S_X4) (v1 : Int32) (x : (Int32 × S_X4)) (hR : s_X4_bears F u v1 = some x) : ev_A yX4_bears mm_X4_bears none [.ref 0, .int v1] (W_X4 u) (fun r w => r = some (.int x.1) ∧ w = W_X4 x.2) := by
  unfold s_X4_bears at hR
  refine ev_start ok_X4_bears (by decide +kernel) rfl rfl (Nat.le_of_ble_eq_true rfl) ?_
  refine ev_run (cs := []) (pc' := 2) (L' := [some (.ref 0), some (.int v1)]) (st' := [.int v1, .ref 0]) (w' := W_X4 u) [] 2 (by with_unfolding_all rfl) trivial ?_
  obtain ⟨y1, h1, hR⟩ := lf_b hR
  refine ev_callV1 0 (t_X4_isThing F u v1 _ h1) cv_X4_isThing ml_X4_77 rfl rfl rfl (Nat.le_of_ble_eq_true rfl) (by with_unfolding_all rfl) (Nat.le_of_ble_eq_true rfl) ⟨Nat.le_of_ble_eq_true rfl, Nat.le_of_ble_eq_true rfl⟩ ⟨Nat.le_refl _, Nat.le_refl _⟩ ?_ ?_
  · rintro r w ⟨rfl, rfl⟩; rfl
  rintro r w ⟨rfl, rfl⟩
  refine ev_nx (pc' := 5) (st' := [.int (ev_b y1)]) (w' := W_X4 u) rfl rfl (by with_unfolding_all rfl) rfl rfl ?_
  refine ev_br rfl rfl (fun h2 => ?_) (fun h2 => ?_)
  · replace hR := lf_z1 h2 hR
    refine ev_run (cs := []) (pc' := 20) (L' := [some (.ref 0), some (.int v1)]) (st' := [.int v1, .ref 0]) (w' := W_X4 u) [] 2 (by with_unfolding_all rfl) trivial ?_
    obtain ⟨y2, h3, hR⟩ := lf_b hR
    refine ev_callV1 0 (t_X4_slandersToEnd F u v1 _ h3) cv_X4_slandersToEnd ml_X4_260 rfl rfl rfl (Nat.le_of_ble_eq_true rfl) (by with_unfolding_all rfl) (Nat.le_of_ble_eq_true rfl) ⟨Nat.le_of_ble_eq_true rfl, Nat.le_of_ble_eq_true rfl⟩ ⟨Nat.le_refl _, Nat.le_refl _⟩ ?_ ?_
    · rintro r w ⟨rfl, rfl⟩; rfl
    rintro r w ⟨rfl, rfl⟩
    refine ev_nx (pc' := 23) (st' := [.int y2.1]) (w' := W_X4 y2.2) rfl rfl (by with_unfolding_all rfl) rfl rfl ?_
    cases hR
    exact ev_exit ⟨_, _, rfl, ⟨rfl, Or.inl rfl⟩, ⟨rfl, rfl⟩, Nat.le_refl _, Nat.le_refl _⟩
  · replace hR := lf_z0 h2 hR
    cases hR

def s_X4_reachedShare (F : Nat) (u : S_X4) : Option UInt64 := (s_X3_total F (a_X4_now u) 2).bind fun y1 => (if y1 = 0 then (some (FP.dconst0)) else ((s_X3_total F (a_X4_now u) 3).bind fun y2 => (if lf_n64 (FP.ddiv (FP.i2d y2) (FP.i2d y1)) then (some (FP.ddiv (FP.i2d y2) (FP.i2d y1))) else none)))
set_option maxHeartbeats 4000000 in
set_option maxRecDepth 20000 in
theorem t_X4_reachedShare (F : Nat) (u : S_X4) (x : UInt64) (hR : s_X4_reachedShare F u = some x) : ev_A yX4_reachedShare mm_X4_reachedShare none [.ref 0] (W_X4 u) (fun r w => r = some (.double x) ∧ w = W_X4 u) := by
  unfold s_X4_reachedShare at hR
  refine ev_start ok_X4_reachedShare (by decide +kernel) rfl rfl (Nat.le_of_ble_eq_true rfl) ?_
  refine ev_run (cs := []) (pc' := 5) (L' := [some (.ref 0), none]) (st' := [.int 2, .ref 1]) (w' := W_X4 u) [] 3 (by with_unfolding_all rfl) trivial ?_
  obtain ⟨y1, h1, hR⟩ := lf_b hR
  refine ev_callV1 1 (t_X3_total F (a_X4_now u) 2 _ h1) cv_X3_total ml_X4_226 rfl rfl rfl (Nat.le_of_ble_eq_true rfl) (by with_unfolding_all rfl) (Nat.le_of_ble_eq_true rfl) ⟨Nat.le_of_ble_eq_true rfl, Nat.le_of_ble_eq_true rfl⟩ ⟨Nat.le_refl _, Nat.le_refl _⟩ ?_ ?_
  · rintro r w ⟨rfl, rfl⟩; rfl
  rintro r w ⟨rfl, rfl⟩
  refine ev_nx (pc' := 8) (st' := [.int y1]) (w' := W_X4 u) rfl rfl (by with_unfolding_all rfl) rfl rfl ?_
  refine ev_run (cs := []) (pc' := 10) (L' := [some (.ref 0), some (.int y1)]) (st' := [.int y1]) (w' := W_X4 u) [] 2 (by with_unfolding_all rfl) trivial ?_
  refine ev_br rfl rfl (fun h2 => ?_) (fun h2 => ?_)
  · replace hR := lf_f h2 hR
    refine ev_run (cs := []) (pc' := 22) (L' := [some (.ref 0), some (.int y1)]) (st' := [.int 3, .ref 1]) (w' := W_X4 u) [] 3 (by with_unfolding_all rfl) trivial ?_
    obtain ⟨y2, h3, hR⟩ := lf_b hR
    refine ev_callV1 1 (t_X3_total F (a_X4_now u) 3 _ h3) cv_X3_total ml_X4_226 rfl rfl rfl (Nat.le_of_ble_eq_true rfl) (by with_unfolding_all rfl) (Nat.le_of_ble_eq_true rfl) ⟨Nat.le_of_ble_eq_true rfl, Nat.le_of_ble_eq_true rfl⟩ ⟨Nat.le_refl _, Nat.le_refl _⟩ ?_ ?_
    · rintro r w ⟨rfl, rfl⟩; rfl
    rintro r w ⟨rfl, rfl⟩
    refine ev_nx (pc' := 25) (st' := [.int y2]) (w' := W_X4 u) rfl rfl (by with_unfolding_all rfl) rfl rfl ?_
    obtain ⟨h4, hR⟩ := lf_g hR
    refine ev_run (cs := [lf_n64 (FP.ddiv (FP.i2d y2) (FP.i2d y1))]) (pc' := 29) (L' := [some (.ref 0), some (.int y1)]) (st' := [.double (FP.ddiv (FP.i2d y2) (FP.i2d y1))]) (w' := W_X4 u) [] 4 (by with_unfolding_all rfl) (h4) ?_
    cases hR
    exact ev_exit ⟨_, _, rfl, ⟨rfl, rfl⟩, ⟨rfl, rfl⟩, Nat.le_refl _, Nat.le_refl _⟩
  · replace hR := lf_t h2 hR
    refine ev_run (cs := []) (pc' := 29) (L' := [some (.ref 0), some (.int y1)]) (st' := [.double FP.dconst0]) (w' := W_X4 u) [] 2 (by with_unfolding_all rfl) trivial ?_
    cases hR
    exact ev_exit ⟨_, _, rfl, ⟨rfl, rfl⟩, ⟨rfl, rfl⟩, Nat.le_refl _, Nat.le_refl _⟩

