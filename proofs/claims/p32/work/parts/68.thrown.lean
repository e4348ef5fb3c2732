/-! what the class throws, and where: the run comes to a new E(..) with its cells as they were -/
def ev_XT (xt : Nat → Option Nat) (x : Nat) (w0 : List ev_E) : ev_X := fun pc _ st w kc ks => xt pc = some x ∧ st = [] ∧ w = w0 ∧ kc = 0 ∧ ks = 0
def xt_X4_add (pc : Nat) : Option Nat := if pc = 10 then some 1 else if pc = 32 then some 2 else none
def s_X4_add_e (F : Nat) (u : S_X4) (v1 : Int32) : Option Nat := if v1 < 0 then (some 1) else (if v1 ≤ 9 then (if (a_X3_things (a_X4_now u)) < 24 then (none) else (some 2)) else (some 1))
def xt_X4_take (pc : Nat) : Option Nat := if pc = 15 then some 1 else if pc = 36 then some 2 else none
def s_X4_take_e (F : Nat) (u : S_X4) (v1 : Int32) (v2 : Int32) : Option Nat := (s_X4_isHand F v1).bind fun y1 => (if y1 then ((s_X4_isThingOrNone F u v2).bind fun y2 => (if y2 then ((s_X3_mayBeHeld F (a_X4_now u) v2).bind fun y3 => (if y3 then (none) else (some 2))) else (some 1))) else (some 1))
set_option maxHeartbeats 4000000 in
set_option maxRecDepth 20000 in
theorem t_X4_take_e (F : Nat) (u : S_X4) (v1 : Int32) (v2 : Int32) (x : Nat) (hR : s_X4_take_e F u v1 v2 = some x) : ev_V mm_X4_take none (ev_XT xt_X4_take x (W_X4 u)) 0 [some (.ref 0), some (.int v1), some (.int v2)] [] (W_X4 u) 0 0 := by
  unfold s_X4_take_e at hR
  refine ev_run (cs := []) (pc' := 1) (L' := [some (.ref 0), some (.int v1), some (.int v2)]) (st' := [.int v1]) (w' := W_X4 u) [] 1 (by with_unfolding_all rfl) trivial ?_
  obtain ⟨y1, h1, hR⟩ := lf_b hR
  refine ev_callS1 0 (t_X4_isHand F v1 _ h1) cs_X4_isHand ml_X4_56 rfl rfl rfl (Nat.le_of_ble_eq_true rfl) (by with_unfolding_all rfl) (Nat.le_of_ble_eq_true rfl) ⟨Nat.le_of_ble_eq_true rfl, Nat.le_of_ble_eq_true rfl⟩ ⟨Nat.le_refl _, Nat.le_refl _⟩ ?_ ?_
  · rintro r w ⟨rfl, rfl⟩; rfl
  rintro r w ⟨rfl, rfl⟩
  refine ev_nx (pc' := 4) (st' := [.int (ev_b y1)]) (w' := W_X4 u) rfl rfl (by with_unfolding_all rfl) rfl rfl ?_
  refine ev_br rfl rfl (fun h2 => ?_) (fun h2 => ?_)
  · replace hR := lf_z0 h2 hR
    cases hR
    exact ev_exit ⟨rfl, rfl, rfl, rfl, rfl⟩
  · replace hR := lf_z1 h2 hR
    refine ev_run (cs := []) (pc' := 9) (L' := [some (.ref 0), some (.int v1), some (.int v2)]) (st' := [.int v2, .ref 0]) (w' := W_X4 u) [] 2 (by with_unfolding_all rfl) trivial ?_
    obtain ⟨y2, h3, hR⟩ := lf_b hR
    refine ev_callV1 0 (t_X4_isThingOrNone F u v2 _ h3) cv_X4_isThingOrNone ml_X4_60 rfl rfl rfl (Nat.le_of_ble_eq_true rfl) (by with_unfolding_all rfl) (Nat.le_of_ble_eq_true rfl) ⟨Nat.le_of_ble_eq_true rfl, Nat.le_of_ble_eq_true rfl⟩ ⟨Nat.le_refl _, Nat.le_refl _⟩ ?_ ?_
    · rintro r w ⟨rfl, rfl⟩; rfl
    rintro r w ⟨rfl, rfl⟩
    refine ev_nx (pc' := 12) (st' := [.int (ev_b y2)]) (w' := W_X4 u) rfl rfl (by with_unfolding_all rfl) rfl rfl ?_
    refine ev_br rfl rfl (fun h4 => ?_) (fun h4 => ?_)
    · replace hR := lf_z1 h4 hR
      refine ev_run (cs := []) (pc' := 30) (L' := [some (.ref 0), some (.int v1), some (.int v2)]) (st' := [.int v2, .ref 1]) (w' := W_X4 u) [] 3 (by with_unfolding_all rfl) trivial ?_
      obtain ⟨y3, h5, hR⟩ := lf_b hR
      refine ev_callV1 1 (t_X3_mayBeHeld F (a_X4_now u) v2 _ h5) cv_X3_mayBeHeld ml_X4_68 rfl rfl rfl (Nat.le_of_ble_eq_true rfl) (by with_unfolding_all rfl) (Nat.le_of_ble_eq_true rfl) ⟨Nat.le_of_ble_eq_true rfl, Nat.le_of_ble_eq_true rfl⟩ ⟨Nat.le_refl _, Nat.le_refl _⟩ ?_ ?_
      · rintro r w ⟨rfl, rfl⟩; rfl
      rintro r w ⟨rfl, rfl⟩
      refine ev_nx (pc' := 33) (st' := [.int (ev_b y3)]) (w' := W_X4 u) rfl rfl (by with_unfolding_all rfl) rfl rfl ?_
      refine ev_br rfl rfl (fun h6 => ?_) (fun h6 => ?_)
      · replace hR := lf_z1 h6 hR
        cases hR
      · replace hR := lf_z0 h6 hR
        cases hR
        exact ev_exit ⟨rfl, rfl, rfl, rfl, rfl⟩
    · replace hR := lf_z0 h4 hR
      cases hR
      exact ev_exit ⟨rfl, rfl, rfl, rfl, rfl⟩
def xt_X4_put (pc : Nat) : Option Nat := if pc = 23 then some 1 else if pc = 55 then some 2 else none
def s_X4_put_e (F : Nat) (u : S_X4) (v1 : Int32) (v2 : Int32) (v3 : Int32) : Option Nat := (s_X4_isThing F u v1).bind fun y1 => (if y1 then ((s_X4_isSlot F v2).bind fun y2 => (if y2 then ((s_X4_isThingOrNone F u v3).bind fun y3 => (if y3 then ((s_X3_lives F (a_X4_now u) v1).bind fun y4 => (if y4 then ((s_X3_mayBeHeld F (a_X4_now u) v3).bind fun y5 => (if y5 then (none) else (some 2))) else (some 2))) else (some 1))) else (some 1))) else (some 1))
set_option maxHeartbeats 4000000 in
set_option maxRecDepth 20000 in
theorem t_X4_put_e (F : Nat) (u : S_X4) (v1 : Int32) (v2 : Int32) (v3 : Int32) (x : Nat) (hR : s_X4_put_e F u v1 v2 v3 = some x) : ev_V mm_X4_put none (ev_XT xt_X4_put x (W_X4 u)) 0 [some (.ref 0), some (.int v1), some (.int v2), some (.int v3)] [] (W_X4 u) 0 0 := by
  unfold s_X4_put_e at hR
  refine ev_run (cs := []) (pc' := 2) (L' := [some (.ref 0), some (.int v1), some (.int v2), some (.int v3)]) (st' := [.int v1, .ref 0]) (w' := W_X4 u) [] 2 (by with_unfolding_all rfl) trivial ?_
  obtain ⟨y1, h1, hR⟩ := lf_b hR
  refine ev_callV1 0 (t_X4_isThing F u v1 _ h1) cv_X4_isThing ml_X4_77 rfl rfl rfl (Nat.le_of_ble_eq_true rfl) (by with_unfolding_all rfl) (Nat.le_of_ble_eq_true rfl) ⟨Nat.le_of_ble_eq_true rfl, Nat.le_of_ble_eq_true rfl⟩ ⟨Nat.le_refl _, Nat.le_refl _⟩ ?_ ?_
  · rintro r w ⟨rfl, rfl⟩; rfl
  rintro r w ⟨rfl, rfl⟩
  refine ev_nx (pc' := 5) (st' := [.int (ev_b y1)]) (w' := W_X4 u) rfl rfl (by with_unfolding_all rfl) rfl rfl ?_
  refine ev_br rfl rfl (fun h2 => ?_) (fun h2 => ?_)
  · replace hR := lf_z0 h2 hR
    cases hR
    exact ev_exit ⟨rfl, rfl, rfl, rfl, rfl⟩
  · replace hR := lf_z1 h2 hR
    refine ev_run (cs := []) (pc' := 9) (L' := [some (.ref 0), some (.int v1), some (.int v2), some (.int v3)]) (st' := [.int v2]) (w' := W_X4 u) [] 1 (by with_unfolding_all rfl) trivial ?_
    obtain ⟨y2, h3, hR⟩ := lf_b hR
    refine ev_callS1 0 (t_X4_isSlot F v2 _ h3) cs_X4_isSlot ml_X4_80 rfl rfl rfl (Nat.le_of_ble_eq_true rfl) (by with_unfolding_all rfl) (Nat.le_of_ble_eq_true rfl) ⟨Nat.le_of_ble_eq_true rfl, Nat.le_of_ble_eq_true rfl⟩ ⟨Nat.le_refl _, Nat.le_refl _⟩ ?_ ?_
    · rintro r w ⟨rfl, rfl⟩; rfl
    rintro r w ⟨rfl, rfl⟩
    refine ev_nx (pc' := 12) (st' := [.int (ev_b y2)]) (w' := W_X4 u) rfl rfl (by with_unfolding_all rfl) rfl rfl ?_
    refine ev_br rfl rfl (fun h4 => ?_) (fun h4 => ?_)
    · replace hR := lf_z0 h4 hR
      cases hR
      exact ev_exit ⟨rfl, rfl, rfl, rfl, rfl⟩
    · replace hR := lf_z1 h4 hR
      refine ev_run (cs := []) (pc' := 17) (L' := [some (.ref 0), some (.int v1), some (.int v2), some (.int v3)]) (st' := [.int v3, .ref 0]) (w' := W_X4 u) [] 2 (by with_unfolding_all rfl) trivial ?_
      obtain ⟨y3, h5, hR⟩ := lf_b hR
      refine ev_callV1 0 (t_X4_isThingOrNone F u v3 _ h5) cv_X4_isThingOrNone ml_X4_60 rfl rfl rfl (Nat.le_of_ble_eq_true rfl) (by with_unfolding_all rfl) (Nat.le_of_ble_eq_true rfl) ⟨Nat.le_of_ble_eq_true rfl, Nat.le_of_ble_eq_true rfl⟩ ⟨Nat.le_refl _, Nat.le_refl _⟩ ?_ ?_
      · rintro r w ⟨rfl, rfl⟩; rfl
      rintro r w ⟨rfl, rfl⟩
      refine ev_nx (pc' := 20) (st' := [.int (ev_b y3)]) (w' := W_X4 u) rfl rfl (by with_unfolding_all rfl) rfl rfl ?_
      refine ev_br rfl rfl (fun h6 => ?_) (fun h6 => ?_)
      · replace hR := lf_z1 h6 hR
        refine ev_run (cs := []) (pc' := 38) (L' := [some (.ref 0), some (.int v1), some (.int v2), some (.int v3)]) (st' := [.int v1, .ref 1]) (w' := W_X4 u) [] 3 (by with_unfolding_all rfl) trivial ?_
        obtain ⟨y4, h7, hR⟩ := lf_b hR
        refine ev_callV1 1 (t_X3_lives F (a_X4_now u) v1 _ h7) cv_X3_lives ml_X4_85 rfl rfl rfl (Nat.le_of_ble_eq_true rfl) (by with_unfolding_all rfl) (Nat.le_of_ble_eq_true rfl) ⟨Nat.le_of_ble_eq_true rfl, Nat.le_of_ble_eq_true rfl⟩ ⟨Nat.le_refl _, Nat.le_refl _⟩ ?_ ?_
        · rintro r w ⟨rfl, rfl⟩; rfl
        rintro r w ⟨rfl, rfl⟩
        refine ev_nx (pc' := 41) (st' := [.int (ev_b y4)]) (w' := W_X4 u) rfl rfl (by with_unfolding_all rfl) rfl rfl ?_
        refine ev_br rfl rfl (fun h8 => ?_) (fun h8 => ?_)
        · replace hR := lf_z0 h8 hR
          cases hR
          exact ev_exit ⟨rfl, rfl, rfl, rfl, rfl⟩
        · replace hR := lf_z1 h8 hR
          refine ev_run (cs := []) (pc' := 49) (L' := [some (.ref 0), some (.int v1), some (.int v2), some (.int v3)]) (st' := [.int v3, .ref 1]) (w' := W_X4 u) [] 3 (by with_unfolding_all rfl) trivial ?_
          obtain ⟨y5, h9, hR⟩ := lf_b hR
          refine ev_callV1 1 (t_X3_mayBeHeld F (a_X4_now u) v3 _ h9) cv_X3_mayBeHeld ml_X4_68 rfl rfl rfl (Nat.le_of_ble_eq_true rfl) (by with_unfolding_all rfl) (Nat.le_of_ble_eq_true rfl) ⟨Nat.le_of_ble_eq_true rfl, Nat.le_of_ble_eq_true rfl⟩ ⟨Nat.le_refl _, Nat.le_refl _⟩ ?_ ?_
          · rintro r w ⟨rfl, rfl⟩; rfl
          rintro r w ⟨rfl, rfl⟩
          refine ev_nx (pc' := 52) (st' := [.int (ev_b y5)]) (w' := W_X4 u) rfl rfl (by with_unfolding_all rfl) rfl rfl ?_
          refine ev_br rfl rfl (fun h10 => ?_) (fun h10 => ?_)
          · replace hR := lf_z1 h10 hR
            cases hR
          · replace hR := lf_z0 h10 hR
            cases hR
            exact ev_exit ⟨rfl, rfl, rfl, rfl, rfl⟩
      · replace hR := lf_z0 h6 hR
        cases hR
        exact ev_exit ⟨rfl, rfl, rfl, rfl, rfl⟩
def xt_X4_suspect (pc : Nat) : Option Nat := if pc = 8 then some 1 else if pc = 43 then some 2 else none
def s_X4_suspect_e (F : Nat) (u : S_X4) (v1 : Int32) : Option Nat := (s_X4_isThing F u v1).bind fun y1 => (if y1 then ((s_X3_lives F (a_X4_now u) v1).bind fun y2 => (if y2 then (if (st_in (a_X3_suspects (a_X4_now u)) v1) then (some 2) else (none)) else (some 2))) else (some 1))
def xt_X4_set (pc : Nat) : Option Nat := if pc = 7 then some 1 else if pc = 29 then some 2 else none
def s_X4_set_e (F : Nat) (u : S_X4) (v1 : Int32) (v2 : Int32) : Option Nat := (s_X4_isSetting F v1).bind fun y1 => (if y1 then (if v2 < 0 then (some 2) else ((s_X4_mostOf F v1).bind fun y2 => (if v2 ≤ y2 then (none) else (some 2)))) else (some 1))
def xt_X4_pass (pc : Nat) : Option Nat := if pc = 11 then some 1 else if pc = 36 then some 2 else none
def s_X4_pass_e (F : Nat) (u : S_X4) (v1 : Int32) : Option Nat := if v1 < 1 then (some 1) else (if v1 ≤ 100 then (if ((a_X3_time (a_X4_now u)) + v1) ≤ 5000 then (none) else (some 2)) else (some 1))
