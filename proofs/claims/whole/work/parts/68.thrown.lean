/-! what the class throws, and where: the run comes to a new E(..) with its cells as they were -/
def ev_XT (xt : Nat → Option Nat) (x : Nat) (w0 : List ev_E) : ev_X := fun pc _ st w kc ks => xt pc = some x ∧ st = [] ∧ w = w0 ∧ kc = 0 ∧ ks = 0
def xt_X4_add (pc : Nat) : Option Nat := if pc = 10 then some 1 else if pc = 32 then some 2 else none

def s_X4_add_e (F : Nat) (u : S_X4) (v1 : Int32) : Option Nat := if v1 < 0 then (some 1) else (if v1 ≤ 9 then (if (a_X3_things (a_X4_now u)) < 24 then (none) else (some 2)) else (some 1))
set_option maxHeartbeats 4000000 in
set_option maxRecDepth 20000 in
theorem t_X4_add_e (F : Nat) (u : S_X4) (v1 : Int32) (x : Nat) (hR : s_X4_add_e F u v1 = some x) : ev_V mm_X4_add none (ev_XT xt_X4_add x (W_X4 u)) 0 [some (.ref 0), some (.int v1)] [] (W_X4 u) 0 0 := by
  unfold s_X4_add_e at hR
  refine ev_run (cs := []) (pc' := 1) (L' := [some (.ref 0), some (.int v1)]) (st' := [.int v1]) (w' := W_X4 u) [] 1 (by with_unfolding_all rfl) trivial ?_
  refine ev_br rfl rfl (fun h1 => ?_) (fun h1 => ?_)
  · replace hR := lf_t h1 hR
    cases hR
    exact ev_exit ⟨rfl, rfl, rfl, rfl, rfl⟩
  · replace hR := lf_f h1 hR
    refine ev_run (cs := []) (pc' := 7) (L' := [some (.ref 0), some (.int v1)]) (st' := [.int 9, .int v1]) (w' := W_X4 u) [] 2 (by with_unfolding_all rfl) trivial ?_
    refine ev_br rfl rfl (fun h2 => ?_) (fun h2 => ?_)
    · replace hR := lf_t h2 hR
      refine ev_run (cs := []) (pc' := 29) (L' := [some (.ref 0), some (.int v1)]) (st' := [.int 24, .int (a_X3_things (a_X4_now u))]) (w' := W_X4 u) [] 4 (by with_unfolding_all rfl) trivial ?_
      refine ev_br rfl rfl (fun h3 => ?_) (fun h3 => ?_)
      · replace hR := lf_t h3 hR
        cases hR
      · replace hR := lf_f h3 hR
        cases hR
        exact ev_exit ⟨rfl, rfl, rfl, rfl, rfl⟩
    · replace hR := lf_f h2 hR
      cases hR
      exact ev_exit ⟨rfl, rfl, rfl, rfl, rfl⟩

def xt_X4_take (pc : Nat) : Option Nat := if pc = 15 then some 1 else if pc = 36 then some 2 else none

def s_X4_take_e (F : Nat) (u : S_X4) (v1 : Int32) (v2 : Int32) : Option Nat := (s_X4_isHand F v1).bind fun y1 => (if y1 then ((s_X4_isThingOrNone F u v2).bind fun y2 => (if y2 then ((s_X3_mayBeHeld F (a_X4_now u) v2).bind fun y3 => (if y3 then (none) else (some 2))) else (some 1))) else (some 1))
set_option maxHeartbeats 4000000 in
set_option maxRecDepth 20000 in
theorem t_X4_take_e (F : Nat) (u : S_X4) (v1 : Int32) (v2 : Int32) (x : Nat) (hR : s_X4_take_e F u v1 v2 = some x) : ev_V mm_X4_take none (ev_XT xt_X4_take x (W_X4 u)) 0 [some (.ref 0), some (.int v1), some (.int v2)] [] (W_X4 u) 0 0 := by
  unfold s_X4_take_e at hR
  refine ev_run (cs := []) (pc' := 1) (L' := [some (.ref 0), some (.int v1), some (.int v2)]) (st' := [.int v1]) (w' := W_X4 u) [] 1 (by with_unfolding_all rfl) trivial ?_
  obtain ⟨y1, h1, hR⟩ := lf_b hR
  refine ev_callS1 0 (t_X4_isHand F v1 _ h1) cs_X4_isHand ml_X4_56 rfl rfl rfl (Nat.le_of_ble_eq_true rfl) (by with_unfolding_all rfl) (Nat.le_of_ble_eq_true rfl) ⟨Nat.le_of_ble_eq_true rfl, Nat.le_of_ble_eq_true rfl⟩ ⟨Nat.le_refl _, Nat.le_refl _⟩ ?_ ?_
  · rintro r w ⟨rfl, rfl⟩; rfl
  rintro r w ⟨rfl, rfl⟩
  refine ev_nx (pc' := 4) (st' := [.int (ev_b y1)]) (w' := W_X4 u) rfl rfl (by with_unfolding_all rfl) rfl rfl ?_
  refine ev_br rfl rfl (fun h2 => ?_) (fun h2 => ?_)
  · replace hR := lf_z0 h2 hR
    cases hR
    exact ev_exit ⟨rfl, rfl, rfl, rfl, rfl⟩
  · replace hR := lf_z1 h2 hR
    refine ev_run (cs := []) (pc' := 9) (L' := [some (.ref 0), some (.int v1), some (.int v2)]) (st' := [.int v2, .ref 0]) (w' := W_X4 u) [] 2 (by with_unfolding_all rfl) trivial ?_
    obtain ⟨y2, h3, hR⟩ := lf_b hR
    refine ev_callV1 0 (t_X4_isThingOrNone F u v2 _ h3) cv_X4_isThingOrNone ml_X4_60 rfl rfl rfl (Nat.le_of_ble_eq_true rfl) (by with_unfolding_all rfl) (Nat.le_of_ble_eq_true rfl) ⟨Nat.le_of_ble_eq_true rfl, Nat.le_of_ble_eq_true rfl⟩ ⟨Nat.le_refl _, Nat.le_refl _⟩ ?_ ?_
    · rintro r w ⟨rfl, rfl⟩; rfl
    rintro r w ⟨rfl, rfl⟩
    refine ev_nx (pc' := 12) (st' := [.int (ev_b y2)]) (w' := W_X4 u) rfl rfl (by with_unfolding_all rfl) rfl rfl ?_
    refine ev_br rfl rfl (fun h4 => ?_) (fun h4 => ?_)
    · replace hR := lf_z1 h4 hR
      refine ev_run (cs := []) (pc' := 30) (L' := [some (.ref 0), some (.int v1), some (.int v2)]) (st' := [.int v2, .ref 1]) (w' := W_X4 u) [] 3 (by with_unfolding_all rfl) trivial ?_
      obtain ⟨y3, h5, hR⟩ := lf_b hR
      refine ev_callV1 1 (t_X3_mayBeHeld F (a_X4_now u) v2 _ h5) cv_X3_mayBeHeld ml_X4_68 rfl rfl rfl (Nat.le_of_ble_eq_true rfl) (by with_unfolding_all rfl) (Nat.le_of_ble_eq_true rfl) ⟨Nat.le_of_ble_eq_true rfl, Nat.le_of_ble_eq_true rfl⟩ ⟨Nat.le_refl _, Nat.le_refl _⟩ ?_ ?_
      · rintro r w ⟨rfl, rfl⟩; rfl
      rintro r w ⟨rfl, rfl⟩
      refine ev_nx (pc' := 33) (st' := [.int (ev_b y3)]) (w' := W_X4 u) rfl rfl (by with_unfolding_all rfl) rfl rfl ?_
      refine ev_br rfl rfl (fun h6 => ?_) (fun h6 => ?_)
      · replace hR := lf_z1 h6 hR
        cases hR
      · replace hR := lf_z0 h6 hR
        cases hR
        exact ev_exit ⟨rfl, rfl, rfl, rfl, rfl⟩
    · replace hR := lf_z0 h4 hR
      cases hR
      exact ev_exit ⟨rfl, rfl, rfl, rfl, rfl⟩

def xt_X4_put (pc : Nat) : Option Nat := if pc = 23 then some 1 else if pc = 55 then some 2 else none

def s_X4_put_e (F : Nat) (u : S_X4) (v1 : Int32) (v2 : Int32) (v3 : Int32) : Option Nat := (s_X4_isThing F u v1).bind fun y1 => (if y1 then ((s_X4_isSlot F v2).bind fun y2 => (if y2 then ((s_X4_isThingOrNone F u v3).bind fun y3 => (if y3 then ((s_X3_lives F (a_X4_now u) v1).bind fun y4 => (if y4 then ((s_X3_mayBeHeld F (a_X4_now u) v3).bind fun y5 => (if y5 then (none) else (some 2))) else (some 2))) else (some 1))) else (some 1))) else (some 1))
set_option maxHeartbeats 4000000 in
set_option maxRecDepth 20000 in
theorem t_X4_put_e (F : Nat) (u : S_X4) (v1 : Int32) (v2 : Int32) (v3 : Int32) (x : Nat) (hR : s_X4_put_e F u v1 v2 v3 = some x) : ev_V mm_X4_put none (ev_XT xt_X4_put x (W_X4 u)) 0 [some (.ref 0), some (.int v1), some (.int v2), some (.int v3)] [] (W_X4 u) 0 0 := by
  unfold s_X4_put_e at hR
  refine ev_run (cs := []) (pc' := 2) (L' := [some (.ref 0), some (.int v1), some (.int v2), some (.int v3)]) (st' := [.int v1, .ref 0]) (w' := W_X4 u) [] 2 (by with_unfolding_all rfl) trivial ?_
  obtain ⟨y1, h1, hR⟩ := lf_b hR
  refine ev_callV1 0 (t_X4_isThing F u v1 _ h1) cv_X4_isThing ml_X4_77 rfl rfl rfl (Nat.le_of_ble_eq_true rfl) (by with_unfolding_all rfl) (Nat.le_of_ble_eq_true rfl) ⟨Nat.le_of_ble_eq_true rfl, Nat.le_of_ble_eq_true rfl⟩ ⟨Nat.le_refl _, Nat.le_refl _⟩ ?_ ?_
  · rintro r w ⟨rfl, rfl⟩; rfl
  rintro r w ⟨rfl, rfl⟩
  refine ev_nx (pc' := 5) (st' := [.int (ev_b y1)]) (w' := W_X4 u) rfl rfl (by with_unfolding_all rfl) rfl rfl ?_
  refine ev_br rfl rfl (fun h2 => ?_) (fun h2 => ?_)
  · replace hR := lf_z0 h2 hR
    cases hR
    exact ev_exit ⟨rfl, rfl, rfl, rfl, rfl⟩
  · replace hR := lf_z1 h2 hR
    refine ev_run (cs := []) (pc' := 9) (L' := [some (.ref 0), some (.int v1), some (.int v2), some (.int v3)]) (st' := [.int v2]) (w' := W_X4 u) [] 1 (by with_unfolding_all rfl) trivial ?_
    obtain ⟨y2, h3, hR⟩ := lf_b hR
    refine ev_callS1 0 (t_X4_isSlot F v2 _ h3) cs_X4_isSlot ml_X4_80 rfl rfl rfl (Nat.le_of_ble_eq_true rfl) (by with_unfolding_all rfl) (Nat.le_of_ble_eq_true rfl) ⟨Nat.le_of_ble_eq_true rfl, Nat.le_of_ble_eq_true rfl⟩ ⟨Nat.le_refl _, Nat.le_refl _⟩ ?_ ?_
    · rintro r w ⟨rfl, rfl⟩; rfl
    rintro r w ⟨rfl, rfl⟩
    refine ev_nx (pc' := 12) (st' := [.int (ev_b y2)]) (w' := W_X4 u) rfl rfl (by with_unfolding_all rfl) rfl rfl ?_
    refine ev_br rfl rfl (fun h4 => ?_) (fun h4 => ?_)
    · replace hR := lf_z0 h4 hR
      cases hR
      exact ev_exit ⟨rfl, rfl, rfl, rfl, rfl⟩
    · replace hR := lf_z1 h4 hR
      refine ev_run (cs := []) (pc' := 17) (L' := [some (.ref 0), some (.int v1), some (.int v2), some (.int v3)]) (st' := [.int v3, .ref 0]) (w' := W_X4 u) [] 2 (by with_unfolding_all rfl) trivial ?_
      obtain ⟨y3, h5, hR⟩ := lf_b hR
      refine ev_callV1 0 (t_X4_isThingOrNone F u v3 _ h5) cv_X4_isThingOrNone ml_X4_60 rfl rfl rfl (Nat.le_of_ble_eq_true rfl) (by with_unfolding_all rfl) (Nat.le_of_ble_eq_true rfl) ⟨Nat.le_of_ble_eq_true rfl, Nat.le_of_ble_eq_true rfl⟩ ⟨Nat.le_refl _, Nat.le_refl _⟩ ?_ ?_
      · rintro r w ⟨rfl, rfl⟩; rfl
      rintro r w ⟨rfl, rfl⟩
      refine ev_nx (pc' := 20) (st' := [.int (ev_b y3)]) (w' := W_X4 u) rfl rfl (by with_unfolding_all rfl) rfl rfl ?_
      refine ev_br rfl rfl (fun h6 => ?_) (fun h6 => ?_)
      · replace hR := lf_z1 h6 hR
        refine ev_run (cs := []) (pc' := 38) (L' := [some (.ref 0), some (.int v1), some (.int v2), some (.int v3)]) (st' := [.int v1, .ref 1]) (w' := W_X4 u) [] 3 (by with_unfolding_all rfl) trivial ?_
        obtain ⟨y4, h7, hR⟩ := lf_b hR
        refine ev_callV1 1 (t_X3_lives F (a_X4_now u) v1 _ h7) cv_X3_lives ml_X4_85 rfl rfl rfl (Nat.le_of_ble_eq_true rfl) (by with_unfolding_all rfl) (Nat.le_of_ble_eq_true rfl) ⟨Nat.le_of_ble_eq_true rfl, Nat.le_of_ble_eq_true rfl⟩ ⟨Nat.le_refl _, Nat.le_refl _⟩ ?_ ?_
        · rintro r w ⟨rfl, rfl⟩; rfl
        rintro r w ⟨rfl, rfl⟩
        refine ev_nx (pc' := 41) (st' := [.int (ev_b y4)]) (w' := W_X4 u) rfl rfl (by with_unfolding_all rfl) rfl rfl ?_
        refine ev_br rfl rfl (fun h8 => ?_) (fun h8 => ?_)
        · replace hR := lf_z0 h8 hR
          cases hR
          exact ev_exit ⟨rfl, rfl, rfl, rfl, rfl⟩
        · replace hR := lf_z1 h8 hR
          refine ev_run (cs := []) (pc' := 49) (L' := [some (.ref 0), some (.int v1), some (.int v2), some (.int v3)]) (st' := [.int v3, .ref 1]) (w' := W_X4 u) [] 3 (by with_unfolding_all rfl) trivial ?_
          obtain ⟨y5, h9, hR⟩ := lf_b hR
          refine ev_callV1 1 (t_X3_mayBeHeld F (a_X4_now u) v3 _ h9) cv_X3_mayBeHeld ml_X4_68 rfl rfl rfl (Nat.le_of_ble_eq_true rfl) (by with_unfolding_all rfl) (Nat.le_of_ble_eq_true rfl) ⟨Nat.le_of_ble_eq_true rfl, Nat.le_of_ble_eq_true rfl⟩ ⟨Nat.le_refl _, Nat.le_refl _⟩ ?_ ?_
          · rintro r w ⟨rfl, rfl⟩; rfl
          rintro r w ⟨rfl, rfl⟩
          refine ev_nx (pc' := 52) (st' := [.int (ev_b y5)]) (w' := W_X4 u) rfl rfl (by with_unfolding_all rfl) rfl rfl ?_
          refine ev_br rfl rfl (fun h10 => ?_) (fun h10 => ?_)
          · replace hR := lf_z1 h10 hR
            cases hR
          · replace hR := lf_z0 h10 hR
            cases hR
            exact ev_exit ⟨rfl, rfl, rfl, rfl, rfl⟩
      · replace hR := lf_z0 h6 hR
        cases hR
        exact ev_exit ⟨rfl, rfl, rfl, rfl, rfl⟩

def xt_X4_slander (pc : Nat) : Option Nat := if pc = 8 then some 1 else if pc = 28 then some 2 else if pc = 49 then some 3 else none

def s_X4_slander_e_b38 (F : Nat) (u : S_X4) (v1 : Int32) (v2 : Int32) : Option Nat := (s_X3_lives F (a_X4_now u) v1).bind fun y1 => (if y1 then (none) else (some 3))
set_option maxHeartbeats 4000000 in
set_option maxRecDepth 20000 in
theorem t_X4_slander_e_b38 (F : Nat) (u : S_X4) (v1 : Int32) (v2 : Int32) (x : Nat)  (hR : s_X4_slander_e_b38 F u v1 v2 = some x) : ev_V mm_X4_slander none (ev_XT xt_X4_slander x (W_X4 u)) 38 [some (.ref 0), some (.int v1), some (.int v2)] [] (W_X4 u) 0 0 := by
  unfold s_X4_slander_e_b38 at hR
  refine ev_run (cs := []) (pc' := 43) (L' := [some (.ref 0), some (.int v1), some (.int v2)]) (st' := [.int v1, .ref 1]) (w' := W_X4 u) [] 3 (by with_unfolding_all rfl) trivial ?_
  obtain ⟨y1, h1, hR⟩ := lf_b hR
  refine ev_callV1 1 (t_X3_lives F (a_X4_now u) v1 _ h1) cv_X3_lives ml_X4_85 rfl rfl rfl (Nat.le_of_ble_eq_true rfl) (by with_unfolding_all rfl) (Nat.le_of_ble_eq_true rfl) ⟨Nat.le_of_ble_eq_true rfl, Nat.le_of_ble_eq_true rfl⟩ ⟨Nat.le_refl _, Nat.le_refl _⟩ ?_ ?_
  · rintro r w ⟨rfl, rfl⟩; rfl
  rintro r w ⟨rfl, rfl⟩
  refine ev_nx (pc' := 46) (st' := [.int (ev_b y1)]) (w' := W_X4 u) rfl rfl (by with_unfolding_all rfl) rfl rfl ?_
  refine ev_br rfl rfl (fun h2 => ?_) (fun h2 => ?_)
  · replace hR := lf_z1 h2 hR
    cases hR
  · replace hR := lf_z0 h2 hR
    cases hR
    exact ev_exit ⟨rfl, rfl, rfl, rfl, rfl⟩

def s_X4_slander_e (F : Nat) (u : S_X4) (v1 : Int32) (v2 : Int32) : Option Nat := (s_X4_isThing F u v1).bind fun y1 => (if y1 then (if v2 = (-1) then (s_X4_slander_e_b38 F u v1 v2) else (if v2 = 1 then (s_X4_slander_e_b38 F u v1 v2) else (some 2))) else (some 1))
set_option maxHeartbeats 4000000 in
set_option maxRecDepth 20000 in
theorem t_X4_slander_e (F : Nat) (u : S_X4) (v1 : Int32) (v2 : Int32) (x : Nat) (hR : s_X4_slander_e F u v1 v2 = some x) : ev_V mm_X4_slander none (ev_XT xt_X4_slander x (W_X4 u)) 0 [some (.ref 0), some (.int v1), some (.int v2)] [] (W_X4 u) 0 0 := by
  unfold s_X4_slander_e at hR
  refine ev_run (cs := []) (pc' := 2) (L' := [some (.ref 0), some (.int v1), some (.int v2)]) (st' := [.int v1, .ref 0]) (w' := W_X4 u) [] 2 (by with_unfolding_all rfl) trivial ?_
  obtain ⟨y1, h1, hR⟩ := lf_b hR
  refine ev_callV1 0 (t_X4_isThing F u v1 _ h1) cv_X4_isThing ml_X4_77 rfl rfl rfl (Nat.le_of_ble_eq_true rfl) (by with_unfolding_all rfl) (Nat.le_of_ble_eq_true rfl) ⟨Nat.le_of_ble_eq_true rfl, Nat.le_of_ble_eq_true rfl⟩ ⟨Nat.le_refl _, Nat.le_refl _⟩ ?_ ?_
  · rintro r w ⟨rfl, rfl⟩; rfl
  rintro r w ⟨rfl, rfl⟩
  refine ev_nx (pc' := 5) (st' := [.int (ev_b y1)]) (w' := W_X4 u) rfl rfl (by with_unfolding_all rfl) rfl rfl ?_
  refine ev_br rfl rfl (fun h2 => ?_) (fun h2 => ?_)
  · replace hR := lf_z1 h2 hR
    refine ev_run (cs := []) (pc' := 20) (L' := [some (.ref 0), some (.int v1), some (.int v2)]) (st' := [.int (-1), .int v2]) (w' := W_X4 u) [] 2 (by with_unfolding_all rfl) trivial ?_
    refine ev_br rfl rfl (fun h3 => ?_) (fun h3 => ?_)
    · replace hR := lf_t h3 hR
      exact ev_to2 (t_X4_slander_e_b38 F u v1 v2 _ hR) ⟨rfl, rfl, rfl, trivial⟩ rfl rfl
    · replace hR := lf_f h3 hR
      refine ev_run (cs := []) (pc' := 25) (L' := [some (.ref 0), some (.int v1), some (.int v2)]) (st' := [.int 1, .int v2]) (w' := W_X4 u) [] 2 (by with_unfolding_all rfl) trivial ?_
      refine ev_br rfl rfl (fun h4 => ?_) (fun h4 => ?_)
      · replace hR := lf_t h4 hR
        exact ev_to2 (t_X4_slander_e_b38 F u v1 v2 _ hR) ⟨rfl, rfl, rfl, trivial⟩ rfl rfl
      · replace hR := lf_f h4 hR
        cases hR
        exact ev_exit ⟨rfl, rfl, rfl, rfl, rfl⟩
  · replace hR := lf_z0 h2 hR
    cases hR
    exact ev_exit ⟨rfl, rfl, rfl, rfl, rfl⟩

def xt_X4_suspect (pc : Nat) : Option Nat := if pc = 8 then some 1 else if pc = 43 then some 2 else none

def s_X4_suspect_e (F : Nat) (u : S_X4) (v1 : Int32) : Option Nat := (s_X4_isThing F u v1).bind fun y1 => (if y1 then ((s_X3_lives F (a_X4_now u) v1).bind fun y2 => (if y2 then (if (st_in (a_X3_suspects (a_X4_now u)) v1) then (some 2) else (none)) else (some 2))) else (some 1))
set_option maxHeartbeats 4000000 in
set_option maxRecDepth 20000 in
theorem t_X4_suspect_e (F : Nat) (u : S_X4) (v1 : Int32) (x : Nat) (hR : s_X4_suspect_e F u v1 = some x) : ev_V mm_X4_suspect none (ev_XT xt_X4_suspect x (W_X4 u)) 0 [some (.ref 0), some (.int v1)] [] (W_X4 u) 0 0 := by
  unfold s_X4_suspect_e at hR
  refine ev_run (cs := []) (pc' := 2) (L' := [some (.ref 0), some (.int v1)]) (st' := [.int v1, .ref 0]) (w' := W_X4 u) [] 2 (by with_unfolding_all rfl) trivial ?_
  obtain ⟨y1, h1, hR⟩ := lf_b hR
  refine ev_callV1 0 (t_X4_isThing F u v1 _ h1) cv_X4_isThing ml_X4_77 rfl rfl rfl (Nat.le_of_ble_eq_true rfl) (by with_unfolding_all rfl) (Nat.le_of_ble_eq_true rfl) ⟨Nat.le_of_ble_eq_true rfl, Nat.le_of_ble_eq_true rfl⟩ ⟨Nat.le_refl _, Nat.le_refl _⟩ ?_ ?_
  · rintro r w ⟨rfl, rfl⟩; rfl
  rintro r w ⟨rfl, rfl⟩
  refine ev_nx (pc' := 5) (st' := [.int (ev_b y1)]) (w' := W_X4 u) rfl rfl (by with_unfolding_all rfl) rfl rfl ?_
  refine ev_br rfl rfl (fun h2 => ?_) (fun h2 => ?_)
  · replace hR := lf_z1 h2 hR
    refine ev_run (cs := []) (pc' := 23) (L' := [some (.ref 0), some (.int v1)]) (st' := [.int v1, .ref 1]) (w' := W_X4 u) [] 3 (by with_unfolding_all rfl) trivial ?_
    obtain ⟨y2, h3, hR⟩ := lf_b hR
    refine ev_callV1 1 (t_X3_lives F (a_X4_now u) v1 _ h3) cv_X3_lives ml_X4_85 rfl rfl rfl (Nat.le_of_ble_eq_true rfl) (by with_unfolding_all rfl) (Nat.le_of_ble_eq_true rfl) ⟨Nat.le_of_ble_eq_true rfl, Nat.le_of_ble_eq_true rfl⟩ ⟨Nat.le_refl _, Nat.le_refl _⟩ ?_ ?_
    · rintro r w ⟨rfl, rfl⟩; rfl
    rintro r w ⟨rfl, rfl⟩
    refine ev_nx (pc' := 26) (st' := [.int (ev_b y2)]) (w' := W_X4 u) rfl rfl (by with_unfolding_all rfl) rfl rfl ?_
    refine ev_br rfl rfl (fun h4 => ?_) (fun h4 => ?_)
    · replace hR := lf_z0 h4 hR
      cases hR
      exact ev_exit ⟨rfl, rfl, rfl, rfl, rfl⟩
    · replace hR := lf_z1 h4 hR
      refine ev_run (cs := []) (pc' := 37) (L' := [some (.ref 0), some (.int v1)]) (st' := [.int v1, .int (a_X3_suspects (a_X4_now u))]) (w' := W_X4 u) [] 4 (by with_unfolding_all rfl) trivial ?_
      refine ev_callS1 0 (t_X4_isIn (a_X3_suspects (a_X4_now u)) v1) cs_X4_isIn ml_X4_103 rfl rfl rfl (Nat.le_of_ble_eq_true rfl) (by with_unfolding_all rfl) (Nat.le_of_ble_eq_true rfl) ⟨Nat.le_of_ble_eq_true rfl, Nat.le_of_ble_eq_true rfl⟩ ⟨Nat.le_refl _, Nat.le_refl _⟩ ?_ ?_
      · rintro r w ⟨rfl, rfl⟩; rfl
      rintro r w ⟨rfl, rfl⟩
      refine ev_nx (pc' := 40) (st' := [.int (ev_b (st_in (a_X3_suspects (a_X4_now u)) v1))]) (w' := W_X4 u) rfl rfl (by with_unfolding_all rfl) rfl rfl ?_
      refine ev_br rfl rfl (fun h5 => ?_) (fun h5 => ?_)
      · replace hR := lf_z0 h5 hR
        cases hR
      · replace hR := lf_z1 h5 hR
        cases hR
        exact ev_exit ⟨rfl, rfl, rfl, rfl, rfl⟩
  · replace hR := lf_z0 h2 hR
    cases hR
    exact ev_exit ⟨rfl, rfl, rfl, rfl, rfl⟩

def xt_X4_set (pc : Nat) : Option Nat := if pc = 7 then some 1 else if pc = 29 then some 2 else none

def s_X4_set_e (F : Nat) (u : S_X4) (v1 : Int32) (v2 : Int32) : Option Nat := (s_X4_isSetting F v1).bind fun y1 => (if y1 then (if v2 < 0 then (some 2) else ((s_X4_mostOf F v1).bind fun y2 => (if v2 ≤ y2 then (none) else (some 2)))) else (some 1))
set_option maxHeartbeats 4000000 in
set_option maxRecDepth 20000 in
theorem t_X4_set_e (F : Nat) (u : S_X4) (v1 : Int32) (v2 : Int32) (x : Nat) (hR : s_X4_set_e F u v1 v2 = some x) : ev_V mm_X4_set none (ev_XT xt_X4_set x (W_X4 u)) 0 [some (.ref 0), some (.int v1), some (.int v2), none] [] (W_X4 u) 0 0 := by
  unfold s_X4_set_e at hR
  refine ev_run (cs := []) (pc' := 1) (L' := [some (.ref 0), some (.int v1), some (.int v2), none]) (st' := [.int v1]) (w' := W_X4 u) [] 1 (by with_unfolding_all rfl) trivial ?_
  obtain ⟨y1, h1, hR⟩ := lf_b hR
  refine ev_callS1 0 (t_X4_isSetting F v1 _ h1) cs_X4_isSetting ml_X4_114 rfl rfl rfl (Nat.le_of_ble_eq_true rfl) (by with_unfolding_all rfl) (Nat.le_of_ble_eq_true rfl) ⟨Nat.le_of_ble_eq_true rfl, Nat.le_of_ble_eq_true rfl⟩ ⟨Nat.le_refl _, Nat.le_refl _⟩ ?_ ?_
  · rintro r w ⟨rfl, rfl⟩; rfl
  rintro r w ⟨rfl, rfl⟩
  refine ev_nx (pc' := 4) (st' := [.int (ev_b y1)]) (w' := W_X4 u) rfl rfl (by with_unfolding_all rfl) rfl rfl ?_
  refine ev_br rfl rfl (fun h2 => ?_) (fun h2 => ?_)
  · replace hR := lf_z1 h2 hR
    refine ev_run (cs := []) (pc' := 18) (L' := [some (.ref 0), some (.int v1), some (.int v2), none]) (st' := [.int v2]) (w' := W_X4 u) [] 1 (by with_unfolding_all rfl) trivial ?_
    refine ev_br rfl rfl (fun h3 => ?_) (fun h3 => ?_)
    · replace hR := lf_t h3 hR
      cases hR
      exact ev_exit ⟨rfl, rfl, rfl, rfl, rfl⟩
    · replace hR := lf_f h3 hR
      refine ev_run (cs := []) (pc' := 23) (L' := [some (.ref 0), some (.int v1), some (.int v2), none]) (st' := [.int v1, .int v2]) (w' := W_X4 u) [] 2 (by with_unfolding_all rfl) trivial ?_
      obtain ⟨y2, h4, hR⟩ := lf_b hR
      refine ev_callS1 0 (t_X4_mostOf F v1 _ h4) cs_X4_mostOf ml_X4_119 rfl rfl rfl (Nat.le_of_ble_eq_true rfl) (by with_unfolding_all rfl) (Nat.le_of_ble_eq_true rfl) ⟨Nat.le_of_ble_eq_true rfl, Nat.le_of_ble_eq_true rfl⟩ ⟨Nat.le_refl _, Nat.le_refl _⟩ ?_ ?_
      · rintro r w ⟨rfl, rfl⟩; rfl
      rintro r w ⟨rfl, rfl⟩
      refine ev_nx (pc' := 26) (st' := [.int y2, .int v2]) (w' := W_X4 u) rfl rfl (by with_unfolding_all rfl) rfl rfl ?_
      refine ev_br rfl rfl (fun h5 => ?_) (fun h5 => ?_)
      · replace hR := lf_t h5 hR
        cases hR
      · replace hR := lf_f h5 hR
        cases hR
        exact ev_exit ⟨rfl, rfl, rfl, rfl, rfl⟩
  · replace hR := lf_z0 h2 hR
    cases hR
    exact ev_exit ⟨rfl, rfl, rfl, rfl, rfl⟩

def xt_X4_pass (pc : Nat) : Option Nat := if pc = 11 then some 1 else if pc = 36 then some 2 else none

def s_X4_pass_e (F : Nat) (u : S_X4) (v1 : Int32) : Option Nat := if v1 < 1 then (some 1) else (if v1 ≤ 100 then (if ((a_X3_time (a_X4_now u)) + v1) ≤ 5000 then (none) else (some 2)) else (some 1))
set_option maxHeartbeats 4000000 in
set_option maxRecDepth 20000 in
theorem t_X4_pass_e (F : Nat) (u : S_X4) (v1 : Int32) (x : Nat) (hR : s_X4_pass_e F u v1 = some x) : ev_V mm_X4_pass none (ev_XT xt_X4_pass x (W_X4 u)) 0 [some (.ref 0), some (.int v1)] [] (W_X4 u) 0 0 := by
  unfold s_X4_pass_e at hR
  refine ev_run (cs := []) (pc' := 2) (L' := [some (.ref 0), some (.int v1)]) (st' := [.int 1, .int v1]) (w' := W_X4 u) [] 2 (by with_unfolding_all rfl) trivial ?_
  refine ev_br rfl rfl (fun h1 => ?_) (fun h1 => ?_)
  · replace hR := lf_t h1 hR
    cases hR
    exact ev_exit ⟨rfl, rfl, rfl, rfl, rfl⟩
  · replace hR := lf_f h1 hR
    refine ev_run (cs := []) (pc' := 8) (L' := [some (.ref 0), some (.int v1)]) (st' := [.int 100, .int v1]) (w' := W_X4 u) [] 2 (by with_unfolding_all rfl) trivial ?_
    refine ev_br rfl rfl (fun h2 => ?_) (fun h2 => ?_)
    · replace hR := lf_t h2 hR
      refine ev_run (cs := []) (pc' := 33) (L' := [some (.ref 0), some (.int v1)]) (st' := [.int 5000, .int ((a_X3_time (a_X4_now u)) + v1)]) (w' := W_X4 u) [] 6 (by with_unfolding_all rfl) trivial ?_
      refine ev_br rfl rfl (fun h3 => ?_) (fun h3 => ?_)
      · replace hR := lf_t h3 hR
        cases hR
      · replace hR := lf_f h3 hR
        cases hR
        exact ev_exit ⟨rfl, rfl, rfl, rfl, rfl⟩
    · replace hR := lf_f h2 hR
      cases hR
      exact ev_exit ⟨rfl, rfl, rfl, rfl, rfl⟩

def xt_X4_append (pc : Nat) : Option Nat := if pc = 12 then some 1 else if pc = 34 then some 2 else none

def s_X4_append_e (F : Nat) (u : S_X4) (v1 : Int32) : Option Nat := if v1 < 33 then (some 1) else (if v1 ≤ 126 then (if (a_X2_length (a_X4_text u)) < 60 then (none) else (some 2)) else (some 1))
set_option maxHeartbeats 4000000 in
set_option maxRecDepth 20000 in
theorem t_X4_append_e (F : Nat) (u : S_X4) (v1 : Int32) (x : Nat) (hR : s_X4_append_e F u v1 = some x) : ev_V mm_X4_append none (ev_XT xt_X4_append x (W_X4 u)) 0 [some (.ref 0), some (.int v1)] [] (W_X4 u) 0 0 := by
  unfold s_X4_append_e at hR
  refine ev_run (cs := []) (pc' := 3) (L' := [some (.ref 0), some (.int v1)]) (st' := [.int 33, .int v1]) (w' := W_X4 u) [] 2 (by with_unfolding_all rfl) trivial ?_
  refine ev_br rfl rfl (fun h1 => ?_) (fun h1 => ?_)
  · replace hR := lf_t h1 hR
    cases hR
    exact ev_exit ⟨rfl, rfl, rfl, rfl, rfl⟩
  · replace hR := lf_f h1 hR
    refine ev_run (cs := []) (pc' := 9) (L' := [some (.ref 0), some (.int v1)]) (st' := [.int 126, .int v1]) (w' := W_X4 u) [] 2 (by with_unfolding_all rfl) trivial ?_
    refine ev_br rfl rfl (fun h2 => ?_) (fun h2 => ?_)
    · replace hR := lf_t h2 hR
      refine ev_run (cs := []) (pc' := 31) (L' := [some (.ref 0), some (.int v1)]) (st' := [.int 60, .int (a_X2_length (a_X4_text u))]) (w' := W_X4 u) [] 4 (by with_unfolding_all rfl) trivial ?_
      refine ev_br rfl rfl (fun h3 => ?_) (fun h3 => ?_)
      · replace hR := lf_t h3 hR
        cases hR
      · replace hR := lf_f h3 hR
        cases hR
        exact ev_exit ⟨rfl, rfl, rfl, rfl, rfl⟩
    · replace hR := lf_f h2 hR
      cases hR
      exact ev_exit ⟨rfl, rfl, rfl, rfl, rfl⟩

def xt_X4_run (pc : Nat) : Option Nat := if pc = 10 then some 1 else none

def s_X4_run_e (F : Nat) (u : S_X4) : Option Nat := (s_X2_isProgram F (a_X4_text u)).bind fun y1 => (if y1 then (none) else (some 1))
set_option maxHeartbeats 4000000 in
set_option maxRecDepth 20000 in
theorem t_X4_run_e (F : Nat) (u : S_X4) (x : Nat) (hR : s_X4_run_e F u = some x) : ev_V mm_X4_run none (ev_XT xt_X4_run x (W_X4 u)) 0 [some (.ref 0), none] [] (W_X4 u) 0 0 := by
  unfold s_X4_run_e at hR
  refine ev_run (cs := []) (pc' := 4) (L' := [some (.ref 0), none]) (st' := [.ref 46]) (w' := W_X4 u) [] 2 (by with_unfolding_all rfl) trivial ?_
  obtain ⟨y1, h1, hR⟩ := lf_b hR
  refine ev_callV1 46 (t_X2_isProgram F (a_X4_text u) _ h1) cv_X2_isProgram ml_X4_158 rfl rfl rfl (Nat.le_of_ble_eq_true rfl) (by with_unfolding_all rfl) (Nat.le_of_ble_eq_true rfl) ⟨Nat.le_of_ble_eq_true rfl, Nat.le_of_ble_eq_true rfl⟩ ⟨Nat.le_refl _, Nat.le_refl _⟩ ?_ ?_
  · rintro r w ⟨rfl, rfl⟩; rfl
  rintro r w ⟨rfl, rfl⟩
  refine ev_nx (pc' := 7) (st' := [.int (ev_b y1)]) (w' := W_X4 u) rfl rfl (by with_unfolding_all rfl) rfl rfl ?_
  refine ev_br rfl rfl (fun h2 => ?_) (fun h2 => ?_)
  · replace hR := lf_z1 h2 hR
    cases hR
  · replace hR := lf_z0 h2 hR
    cases hR
    exact ev_exit ⟨rfl, rfl, rfl, rfl, rfl⟩

def xt_X4_undo (pc : Nat) : Option Nat := if pc = 7 then some 1 else none

def s_X4_undo_e (F : Nat) (u : S_X4) : Option Nat := if 0 < (a_X4_savedStates u) then (none) else (some 1)
set_option maxHeartbeats 4000000 in
set_option maxRecDepth 20000 in
theorem t_X4_undo_e (F : Nat) (u : S_X4) (x : Nat) (hR : s_X4_undo_e F u = some x) : ev_V mm_X4_undo none (ev_XT xt_X4_undo x (W_X4 u)) 0 [some (.ref 0)] [] (W_X4 u) 0 0 := by
  unfold s_X4_undo_e at hR
  refine ev_run (cs := []) (pc' := 4) (L' := [some (.ref 0)]) (st' := [.int (a_X4_savedStates u)]) (w' := W_X4 u) [] 2 (by with_unfolding_all rfl) trivial ?_
  refine ev_br rfl rfl (fun h1 => ?_) (fun h1 => ?_)
  · replace hR := lf_t h1 hR
    cases hR
  · replace hR := lf_f h1 hR
    cases hR
    exact ev_exit ⟨rfl, rfl, rfl, rfl, rfl⟩

def xt_X4_thing (pc : Nat) : Option Nat := if pc = 8 then some 1 else if pc = 28 then some 2 else none

def s_X4_thing_e (F : Nat) (u : S_X4) (v1 : Int32) (v2 : Int32) : Option Nat := (s_X4_isThing F u v1).bind fun y1 => (if y1 then (if v2 < 0 then (some 2) else (if v2 < 13 then (none) else (some 2))) else (some 1))
set_option maxHeartbeats 4000000 in
set_option maxRecDepth 20000 in
theorem t_X4_thing_e (F : Nat) (u : S_X4) (v1 : Int32) (v2 : Int32) (x : Nat) (hR : s_X4_thing_e F u v1 v2 = some x) : ev_V mm_X4_thing none (ev_XT xt_X4_thing x (W_X4 u)) 0 [some (.ref 0), some (.int v1), some (.int v2)] [] (W_X4 u) 0 0 := by
  unfold s_X4_thing_e at hR
  refine ev_run (cs := []) (pc' := 2) (L' := [some (.ref 0), some (.int v1), some (.int v2)]) (st' := [.int v1, .ref 0]) (w' := W_X4 u) [] 2 (by with_unfolding_all rfl) trivial ?_
  obtain ⟨y1, h1, hR⟩ := lf_b hR
  refine ev_callV1 0 (t_X4_isThing F u v1 _ h1) cv_X4_isThing ml_X4_77 rfl rfl rfl (Nat.le_of_ble_eq_true rfl) (by with_unfolding_all rfl) (Nat.le_of_ble_eq_true rfl) ⟨Nat.le_of_ble_eq_true rfl, Nat.le_of_ble_eq_true rfl⟩ ⟨Nat.le_refl _, Nat.le_refl _⟩ ?_ ?_
  · rintro r w ⟨rfl, rfl⟩; rfl
  rintro r w ⟨rfl, rfl⟩
  refine ev_nx (pc' := 5) (st' := [.int (ev_b y1)]) (w' := W_X4 u) rfl rfl (by with_unfolding_all rfl) rfl rfl ?_
  refine ev_br rfl rfl (fun h2 => ?_) (fun h2 => ?_)
  · replace hR := lf_z1 h2 hR
    refine ev_run (cs := []) (pc' := 19) (L' := [some (.ref 0), some (.int v1), some (.int v2)]) (st' := [.int v2]) (w' := W_X4 u) [] 1 (by with_unfolding_all rfl) trivial ?_
    refine ev_br rfl rfl (fun h3 => ?_) (fun h3 => ?_)
    · replace hR := lf_t h3 hR
      cases hR
      exact ev_exit ⟨rfl, rfl, rfl, rfl, rfl⟩
    · replace hR := lf_f h3 hR
      refine ev_run (cs := []) (pc' := 25) (L' := [some (.ref 0), some (.int v1), some (.int v2)]) (st' := [.int 13, .int v2]) (w' := W_X4 u) [] 2 (by with_unfolding_all rfl) trivial ?_
      refine ev_br rfl rfl (fun h4 => ?_) (fun h4 => ?_)
      · replace hR := lf_t h4 hR
        cases hR
      · replace hR := lf_f h4 hR
        cases hR
        exact ev_exit ⟨rfl, rfl, rfl, rfl, rfl⟩
  · replace hR := lf_z0 h2 hR
    cases hR
    exact ev_exit ⟨rfl, rfl, rfl, rfl, rfl⟩

def xt_X4_slot (pc : Nat) : Option Nat := if pc = 15 then some 1 else none

def s_X4_slot_e (F : Nat) (u : S_X4) (v1 : Int32) (v2 : Int32) : Option Nat := (s_X4_isThing F u v1).bind fun y1 => (if y1 then ((s_X4_isSlot F v2).bind fun y2 => (if y2 then (none) else (some 1))) else (some 1))
set_option maxHeartbeats 4000000 in
set_option maxRecDepth 20000 in
theorem t_X4_slot_e (F : Nat) (u : S_X4) (v1 : Int32) (v2 : Int32) (x : Nat) (hR : s_X4_slot_e F u v1 v2 = some x) : ev_V mm_X4_slot none (ev_XT xt_X4_slot x (W_X4 u)) 0 [some (.ref 0), some (.int v1), some (.int v2)] [] (W_X4 u) 0 0 := by
  unfold s_X4_slot_e at hR
  refine ev_run (cs := []) (pc' := 2) (L' := [some (.ref 0), some (.int v1), some (.int v2)]) (st' := [.int v1, .ref 0]) (w' := W_X4 u) [] 2 (by with_unfolding_all rfl) trivial ?_
  obtain ⟨y1, h1, hR⟩ := lf_b hR
  refine ev_callV1 0 (t_X4_isThing F u v1 _ h1) cv_X4_isThing ml_X4_77 rfl rfl rfl (Nat.le_of_ble_eq_true rfl) (by with_unfolding_all rfl) (Nat.le_of_ble_eq_true rfl) ⟨Nat.le_of_ble_eq_true rfl, Nat.le_of_ble_eq_true rfl⟩ ⟨Nat.le_refl _, Nat.le_refl _⟩ ?_ ?_
  · rintro r w ⟨rfl, rfl⟩; rfl
  rintro r w ⟨rfl, rfl⟩
  refine ev_nx (pc' := 5) (st' := [.int (ev_b y1)]) (w' := W_X4 u) rfl rfl (by with_unfolding_all rfl) rfl rfl ?_
  refine ev_br rfl rfl (fun h2 => ?_) (fun h2 => ?_)
  · replace hR := lf_z0 h2 hR
    cases hR
    exact ev_exit ⟨rfl, rfl, rfl, rfl, rfl⟩
  · replace hR := lf_z1 h2 hR
    refine ev_run (cs := []) (pc' := 9) (L' := [some (.ref 0), some (.int v1), some (.int v2)]) (st' := [.int v2]) (w' := W_X4 u) [] 1 (by with_unfolding_all rfl) trivial ?_
    obtain ⟨y2, h3, hR⟩ := lf_b hR
    refine ev_callS1 0 (t_X4_isSlot F v2 _ h3) cs_X4_isSlot ml_X4_80 rfl rfl rfl (Nat.le_of_ble_eq_true rfl) (by with_unfolding_all rfl) (Nat.le_of_ble_eq_true rfl) ⟨Nat.le_of_ble_eq_true rfl, Nat.le_of_ble_eq_true rfl⟩ ⟨Nat.le_refl _, Nat.le_refl _⟩ ?_ ?_
    · rintro r w ⟨rfl, rfl⟩; rfl
    rintro r w ⟨rfl, rfl⟩
    refine ev_nx (pc' := 12) (st' := [.int (ev_b y2)]) (w' := W_X4 u) rfl rfl (by with_unfolding_all rfl) rfl rfl ?_
    refine ev_br rfl rfl (fun h4 => ?_) (fun h4 => ?_)
    · replace hR := lf_z1 h4 hR
      cases hR
    · replace hR := lf_z0 h4 hR
      cases hR
      exact ev_exit ⟨rfl, rfl, rfl, rfl, rfl⟩

def xt_X4_hand (pc : Nat) : Option Nat := if pc = 7 then some 1 else none

def s_X4_hand_e (F : Nat) (u : S_X4) (v1 : Int32) : Option Nat := (s_X4_isHand F v1).bind fun y1 => (if y1 then (none) else (some 1))
set_option maxHeartbeats 4000000 in
set_option maxRecDepth 20000 in
theorem t_X4_hand_e (F : Nat) (u : S_X4) (v1 : Int32) (x : Nat) (hR : s_X4_hand_e F u v1 = some x) : ev_V mm_X4_hand none (ev_XT xt_X4_hand x (W_X4 u)) 0 [some (.ref 0), some (.int v1)] [] (W_X4 u) 0 0 := by
  unfold s_X4_hand_e at hR
  refine ev_run (cs := []) (pc' := 1) (L' := [some (.ref 0), some (.int v1)]) (st' := [.int v1]) (w' := W_X4 u) [] 1 (by with_unfolding_all rfl) trivial ?_
  obtain ⟨y1, h1, hR⟩ := lf_b hR
  refine ev_callS1 0 (t_X4_isHand F v1 _ h1) cs_X4_isHand ml_X4_56 rfl rfl rfl (Nat.le_of_ble_eq_true rfl) (by with_unfolding_all rfl) (Nat.le_of_ble_eq_true rfl) ⟨Nat.le_of_ble_eq_true rfl, Nat.le_of_ble_eq_true rfl⟩ ⟨Nat.le_refl _, Nat.le_refl _⟩ ?_ ?_
  · rintro r w ⟨rfl, rfl⟩; rfl
  rintro r w ⟨rfl, rfl⟩
  refine ev_nx (pc' := 4) (st' := [.int (ev_b y1)]) (w' := W_X4 u) rfl rfl (by with_unfolding_all rfl) rfl rfl ?_
  refine ev_br rfl rfl (fun h2 => ?_) (fun h2 => ?_)
  · replace hR := lf_z1 h2 hR
    cases hR
  · replace hR := lf_z0 h2 hR
    cases hR
    exact ev_exit ⟨rfl, rfl, rfl, rfl, rfl⟩

def xt_X4_report (pc : Nat) : Option Nat := if pc = 18 then some 1 else if pc = 37 then some 2 else none

def s_X4_report_e (F : Nat) (u : S_X4) (v1 : Int32) (v2 : Int32) : Option Nat := if v1 < 0 then (some 1) else ((s_X1_underWay F (a_X3_rep (a_X4_now u))).bind fun y1 => (if v1 < y1 then (if v2 < 0 then (some 2) else (if v2 < 5 then (none) else (some 2))) else (some 1)))
set_option maxHeartbeats 4000000 in
set_option maxRecDepth 20000 in
theorem t_X4_report_e (F : Nat) (u : S_X4) (v1 : Int32) (v2 : Int32) (x : Nat) (hR : s_X4_report_e F u v1 v2 = some x) : ev_V mm_X4_report none (ev_XT xt_X4_report x (W_X4 u)) 0 [some (.ref 0), some (.int v1), some (.int v2)] [] (W_X4 u) 0 0 := by
  unfold s_X4_report_e at hR
  refine ev_run (cs := []) (pc' := 1) (L' := [some (.ref 0), some (.int v1), some (.int v2)]) (st' := [.int v1]) (w' := W_X4 u) [] 1 (by with_unfolding_all rfl) trivial ?_
  refine ev_br rfl rfl (fun h1 => ?_) (fun h1 => ?_)
  · replace hR := lf_t h1 hR
    cases hR
    exact ev_exit ⟨rfl, rfl, rfl, rfl, rfl⟩
  · replace hR := lf_f h1 hR
    refine ev_run (cs := []) (pc' := 12) (L' := [some (.ref 0), some (.int v1), some (.int v2)]) (st' := [.ref 12, .int v1]) (w' := W_X4 u) [] 4 (by with_unfolding_all rfl) trivial ?_
    obtain ⟨y1, h2, hR⟩ := lf_b hR
    refine ev_callV1 12 (t_X1_underWay F (a_X3_rep (a_X4_now u)) _ h2) cv_X1_underWay ml_X4_204 rfl rfl rfl (Nat.le_of_ble_eq_true rfl) (by with_unfolding_all rfl) (Nat.le_of_ble_eq_true rfl) ⟨Nat.le_of_ble_eq_true rfl, Nat.le_of_ble_eq_true rfl⟩ ⟨Nat.le_refl _, Nat.le_refl _⟩ ?_ ?_
    · rintro r w ⟨rfl, rfl⟩; rfl
    rintro r w ⟨rfl, rfl⟩
    refine ev_nx (pc' := 15) (st' := [.int y1, .int v1]) (w' := W_X4 u) rfl rfl (by with_unfolding_all rfl) rfl rfl ?_
    refine ev_br rfl rfl (fun h3 => ?_) (fun h3 => ?_)
    · replace hR := lf_t h3 hR
      refine ev_run (cs := []) (pc' := 29) (L' := [some (.ref 0), some (.int v1), some (.int v2)]) (st' := [.int v2]) (w' := W_X4 u) [] 1 (by with_unfolding_all rfl) trivial ?_
      refine ev_br rfl rfl (fun h4 => ?_) (fun h4 => ?_)
      · replace hR := lf_t h4 hR
        cases hR
        exact ev_exit ⟨rfl, rfl, rfl, rfl, rfl⟩
      · replace hR := lf_f h4 hR
        refine ev_run (cs := []) (pc' := 34) (L' := [some (.ref 0), some (.int v1), some (.int v2)]) (st' := [.int 5, .int v2]) (w' := W_X4 u) [] 2 (by with_unfolding_all rfl) trivial ?_
        refine ev_br rfl rfl (fun h5 => ?_) (fun h5 => ?_)
        · replace hR := lf_t h5 hR
          cases hR
        · replace hR := lf_f h5 hR
          cases hR
          exact ev_exit ⟨rfl, rfl, rfl, rfl, rfl⟩
    · replace hR := lf_f h3 hR
      cases hR
      exact ev_exit ⟨rfl, rfl, rfl, rfl, rfl⟩

def xt_X4_ended (pc : Nat) : Option Nat := if pc = 21 then some 1 else none

def s_X4_ended_e (F : Nat) (u : S_X4) (v1 : Int32) : Option Nat := if v1 < 0 then (some 1) else (if (a_X3_ends (a_X4_now u)) ≤ v1 then (some 1) else (if v1 < 24 then (none) else (some 1)))
set_option maxHeartbeats 4000000 in
set_option maxRecDepth 20000 in
theorem t_X4_ended_e (F : Nat) (u : S_X4) (v1 : Int32) (x : Nat) (hR : s_X4_ended_e F u v1 = some x) : ev_V mm_X4_ended none (ev_XT xt_X4_ended x (W_X4 u)) 0 [some (.ref 0), some (.int v1)] [] (W_X4 u) 0 0 := by
  unfold s_X4_ended_e at hR
  refine ev_run (cs := []) (pc' := 1) (L' := [some (.ref 0), some (.int v1)]) (st' := [.int v1]) (w' := W_X4 u) [] 1 (by with_unfolding_all rfl) trivial ?_
  refine ev_br rfl rfl (fun h1 => ?_) (fun h1 => ?_)
  · replace hR := lf_t h1 hR
    cases hR
    exact ev_exit ⟨rfl, rfl, rfl, rfl, rfl⟩
  · replace hR := lf_f h1 hR
    refine ev_run (cs := []) (pc' := 12) (L' := [some (.ref 0), some (.int v1)]) (st' := [.int (a_X3_ends (a_X4_now u)), .int v1]) (w' := W_X4 u) [] 4 (by with_unfolding_all rfl) trivial ?_
    refine ev_br rfl rfl (fun h2 => ?_) (fun h2 => ?_)
    · replace hR := lf_t h2 hR
      cases hR
      exact ev_exit ⟨rfl, rfl, rfl, rfl, rfl⟩
    · replace hR := lf_f h2 hR
      refine ev_run (cs := []) (pc' := 18) (L' := [some (.ref 0), some (.int v1)]) (st' := [.int 24, .int v1]) (w' := W_X4 u) [] 2 (by with_unfolding_all rfl) trivial ?_
      refine ev_br rfl rfl (fun h3 => ?_) (fun h3 => ?_)
      · replace hR := lf_t h3 hR
        cases hR
      · replace hR := lf_f h3 hR
        cases hR
        exact ev_exit ⟨rfl, rfl, rfl, rfl, rfl⟩

def xt_X4_count (pc : Nat) : Option Nat := if pc = 10 then some 1 else none

def s_X4_count_e (F : Nat) (u : S_X4) (v1 : Int32) : Option Nat := if v1 < 0 then (some 1) else (if v1 < 14 then (none) else (some 1))
set_option maxHeartbeats 4000000 in
set_option maxRecDepth 20000 in
theorem t_X4_count_e (F : Nat) (u : S_X4) (v1 : Int32) (x : Nat) (hR : s_X4_count_e F u v1 = some x) : ev_V mm_X4_count none (ev_XT xt_X4_count x (W_X4 u)) 0 [some (.ref 0), some (.int v1)] [] (W_X4 u) 0 0 := by
  unfold s_X4_count_e at hR
  refine ev_run (cs := []) (pc' := 1) (L' := [some (.ref 0), some (.int v1)]) (st' := [.int v1]) (w' := W_X4 u) [] 1 (by with_unfolding_all rfl) trivial ?_
  refine ev_br rfl rfl (fun h1 => ?_) (fun h1 => ?_)
  · replace hR := lf_t h1 hR
    cases hR
    exact ev_exit ⟨rfl, rfl, rfl, rfl, rfl⟩
  · replace hR := lf_f h1 hR
    refine ev_run (cs := []) (pc' := 7) (L' := [some (.ref 0), some (.int v1)]) (st' := [.int 14, .int v1]) (w' := W_X4 u) [] 2 (by with_unfolding_all rfl) trivial ?_
    refine ev_br rfl rfl (fun h2 => ?_) (fun h2 => ?_)
    · replace hR := lf_t h2 hR
      cases hR
    · replace hR := lf_f h2 hR
      cases hR
      exact ev_exit ⟨rfl, rfl, rfl, rfl, rfl⟩

def xt_X4_setting (pc : Nat) : Option Nat := if pc = 7 then some 1 else none

def s_X4_setting_e (F : Nat) (u : S_X4) (v1 : Int32) : Option Nat := (s_X4_isSetting F v1).bind fun y1 => (if y1 then (none) else (some 1))
set_option maxHeartbeats 4000000 in
set_option maxRecDepth 20000 in
theorem t_X4_setting_e (F : Nat) (u : S_X4) (v1 : Int32) (x : Nat) (hR : s_X4_setting_e F u v1 = some x) : ev_V mm_X4_setting none (ev_XT xt_X4_setting x (W_X4 u)) 0 [some (.ref 0), some (.int v1)] [] (W_X4 u) 0 0 := by
  unfold s_X4_setting_e at hR
  refine ev_run (cs := []) (pc' := 1) (L' := [some (.ref 0), some (.int v1)]) (st' := [.int v1]) (w' := W_X4 u) [] 1 (by with_unfolding_all rfl) trivial ?_
  obtain ⟨y1, h1, hR⟩ := lf_b hR
  refine ev_callS1 0 (t_X4_isSetting F v1 _ h1) cs_X4_isSetting ml_X4_114 rfl rfl rfl (Nat.le_of_ble_eq_true rfl) (by with_unfolding_all rfl) (Nat.le_of_ble_eq_true rfl) ⟨Nat.le_of_ble_eq_true rfl, Nat.le_of_ble_eq_true rfl⟩ ⟨Nat.le_refl _, Nat.le_refl _⟩ ?_ ?_
  · rintro r w ⟨rfl, rfl⟩; rfl
  rintro r w ⟨rfl, rfl⟩
  refine ev_nx (pc' := 4) (st' := [.int (ev_b y1)]) (w' := W_X4 u) rfl rfl (by with_unfolding_all rfl) rfl rfl ?_
  refine ev_br rfl rfl (fun h2 => ?_) (fun h2 => ?_)
  · replace hR := lf_z1 h2 hR
    cases hR
  · replace hR := lf_z0 h2 hR
    cases hR
    exact ev_exit ⟨rfl, rfl, rfl, rfl, rfl⟩

def xt_X4_ifPassed (pc : Nat) : Option Nat := if pc = 20 then some 1 else none

def s_X4_ifPassed_e (F : Nat) (u : S_X4) (v1 : Int32) (v2 : Int32) : Option Nat := if v1 < 1 then (some 1) else (if 100 < v1 then (some 1) else (if v2 < 0 then (some 1) else (if v2 ≤ 3 then (none) else (some 1))))
set_option maxHeartbeats 4000000 in
set_option maxRecDepth 20000 in
theorem t_X4_ifPassed_e (F : Nat) (u : S_X4) (v1 : Int32) (v2 : Int32) (x : Nat) (hR : s_X4_ifPassed_e F u v1 v2 = some x) : ev_V mm_X4_ifPassed none (ev_XT xt_X4_ifPassed x (W_X4 u)) 0 [some (.ref 0), some (.int v1), some (.int v2)] [] (W_X4 u) 0 0 := by
  unfold s_X4_ifPassed_e at hR
  refine ev_run (cs := []) (pc' := 2) (L' := [some (.ref 0), some (.int v1), some (.int v2)]) (st' := [.int 1, .int v1]) (w' := W_X4 u) [] 2 (by with_unfolding_all rfl) trivial ?_
  refine ev_br rfl rfl (fun h1 => ?_) (fun h1 => ?_)
  · replace hR := lf_t h1 hR
    cases hR
    exact ev_exit ⟨rfl, rfl, rfl, rfl, rfl⟩
  · replace hR := lf_f h1 hR
    refine ev_run (cs := []) (pc' := 8) (L' := [some (.ref 0), some (.int v1), some (.int v2)]) (st' := [.int 100, .int v1]) (w' := W_X4 u) [] 2 (by with_unfolding_all rfl) trivial ?_
    refine ev_br rfl rfl (fun h2 => ?_) (fun h2 => ?_)
    · replace hR := lf_t h2 hR
      cases hR
      exact ev_exit ⟨rfl, rfl, rfl, rfl, rfl⟩
    · replace hR := lf_f h2 hR
      refine ev_run (cs := []) (pc' := 12) (L' := [some (.ref 0), some (.int v1), some (.int v2)]) (st' := [.int v2]) (w' := W_X4 u) [] 1 (by with_unfolding_all rfl) trivial ?_
      refine ev_br rfl rfl (fun h3 => ?_) (fun h3 => ?_)
      · replace hR := lf_t h3 hR
        cases hR
        exact ev_exit ⟨rfl, rfl, rfl, rfl, rfl⟩
      · replace hR := lf_f h3 hR
        refine ev_run (cs := []) (pc' := 17) (L' := [some (.ref 0), some (.int v1), some (.int v2)]) (st' := [.int 3, .int v2]) (w' := W_X4 u) [] 2 (by with_unfolding_all rfl) trivial ?_
        refine ev_br rfl rfl (fun h4 => ?_) (fun h4 => ?_)
        · replace hR := lf_t h4 hR
          cases hR
        · replace hR := lf_f h4 hR
          cases hR
          exact ev_exit ⟨rfl, rfl, rfl, rfl, rfl⟩

def xt_X4_endsIn (pc : Nat) : Option Nat := if pc = 8 then some 1 else none

def s_X4_endsIn_e (F : Nat) (u : S_X4) (v1 : Int32) : Option Nat := (s_X4_isThing F u v1).bind fun y1 => (if y1 then (none) else (some 1))
set_option maxHeartbeats 4000000 in
set_option maxRecDepth 20000 in
theorem t_X4_endsIn_e (F : Nat) (u : S_X4) (v1 : Int32) (x : Nat) (hR : s_X4_endsIn_e F u v1 = some x) : ev_V mm_X4_endsIn none (ev_XT xt_X4_endsIn x (W_X4 u)) 0 [some (.ref 0), some (.int v1)] [] (W_X4 u) 0 0 := by
  unfold s_X4_endsIn_e at hR
  refine ev_run (cs := []) (pc' := 2) (L' := [some (.ref 0), some (.int v1)]) (st' := [.int v1, .ref 0]) (w' := W_X4 u) [] 2 (by with_unfolding_all rfl) trivial ?_
  obtain ⟨y1, h1, hR⟩ := lf_b hR
  refine ev_callV1 0 (t_X4_isThing F u v1 _ h1) cv_X4_isThing ml_X4_77 rfl rfl rfl (Nat.le_of_ble_eq_true rfl) (by with_unfolding_all rfl) (Nat.le_of_ble_eq_true rfl) ⟨Nat.le_of_ble_eq_true rfl, Nat.le_of_ble_eq_true rfl⟩ ⟨Nat.le_refl _, Nat.le_refl _⟩ ?_ ?_
  · rintro r w ⟨rfl, rfl⟩; rfl
  rintro r w ⟨rfl, rfl⟩
  refine ev_nx (pc' := 5) (st' := [.int (ev_b y1)]) (w' := W_X4 u) rfl rfl (by with_unfolding_all rfl) rfl rfl ?_
  refine ev_br rfl rfl (fun h2 => ?_) (fun h2 => ?_)
  · replace hR := lf_z1 h2 hR
    cases hR
  · replace hR := lf_z0 h2 hR
    cases hR
    exact ev_exit ⟨rfl, rfl, rfl, rfl, rfl⟩

def xt_X4_ifTried (pc : Nat) : Option Nat := if pc = 9 then some 1 else none

def s_X4_ifTried_e (F : Nat) (u : S_X4) (v1 : Int32) : Option Nat := if v1 < 0 then (some 1) else (if v1 ≤ 2 then (none) else (some 1))
set_option maxHeartbeats 4000000 in
set_option maxRecDepth 20000 in
theorem t_X4_ifTried_e (F : Nat) (u : S_X4) (v1 : Int32) (x : Nat) (hR : s_X4_ifTried_e F u v1 = some x) : ev_V mm_X4_ifTried none (ev_XT xt_X4_ifTried x (W_X4 u)) 0 [some (.ref 0), some (.int v1)] [] (W_X4 u) 0 0 := by
  unfold s_X4_ifTried_e at hR
  refine ev_run (cs := []) (pc' := 1) (L' := [some (.ref 0), some (.int v1)]) (st' := [.int v1]) (w' := W_X4 u) [] 1 (by with_unfolding_all rfl) trivial ?_
  refine ev_br rfl rfl (fun h1 => ?_) (fun h1 => ?_)
  · replace hR := lf_t h1 hR
    cases hR
    exact ev_exit ⟨rfl, rfl, rfl, rfl, rfl⟩
  · replace hR := lf_f h1 hR
    refine ev_run (cs := []) (pc' := 6) (L' := [some (.ref 0), some (.int v1)]) (st' := [.int 2, .int v1]) (w' := W_X4 u) [] 2 (by with_unfolding_all rfl) trivial ?_
    refine ev_br rfl rfl (fun h2 => ?_) (fun h2 => ?_)
    · replace hR := lf_t h2 hR
      cases hR
    · replace hR := lf_f h2 hR
      cases hR
      exact ev_exit ⟨rfl, rfl, rfl, rfl, rfl⟩

def xt_X4_ring (pc : Nat) : Option Nat := if pc = 8 then some 1 else none

def s_X4_ring_e (F : Nat) (u : S_X4) (v1 : Int32) : Option Nat := (s_X4_isThing F u v1).bind fun y1 => (if y1 then (none) else (some 1))
set_option maxHeartbeats 4000000 in
set_option maxRecDepth 20000 in
theorem t_X4_ring_e (F : Nat) (u : S_X4) (v1 : Int32) (x : Nat) (hR : s_X4_ring_e F u v1 = some x) : ev_V mm_X4_ring none (ev_XT xt_X4_ring x (W_X4 u)) 0 [some (.ref 0), some (.int v1)] [] (W_X4 u) 0 0 := by
  unfold s_X4_ring_e at hR
  refine ev_run (cs := []) (pc' := 2) (L' := [some (.ref 0), some (.int v1)]) (st' := [.int v1, .ref 0]) (w' := W_X4 u) [] 2 (by with_unfolding_all rfl) trivial ?_
  obtain ⟨y1, h1, hR⟩ := lf_b hR
  refine ev_callV1 0 (t_X4_isThing F u v1 _ h1) cv_X4_isThing ml_X4_77 rfl rfl rfl (Nat.le_of_ble_eq_true rfl) (by with_unfolding_all rfl) (Nat.le_of_ble_eq_true rfl) ⟨Nat.le_of_ble_eq_true rfl, Nat.le_of_ble_eq_true rfl⟩ ⟨Nat.le_refl _, Nat.le_refl _⟩ ?_ ?_
  · rintro r w ⟨rfl, rfl⟩; rfl
  rintro r w ⟨rfl, rfl⟩
  refine ev_nx (pc' := 5) (st' := [.int (ev_b y1)]) (w' := W_X4 u) rfl rfl (by with_unfolding_all rfl) rfl rfl ?_
  refine ev_br rfl rfl (fun h2 => ?_) (fun h2 => ?_)
  · replace hR := lf_z1 h2 hR
    cases hR
  · replace hR := lf_z0 h2 hR
    cases hR
    exact ev_exit ⟨rfl, rfl, rfl, rfl, rfl⟩

def xt_X4_bestCut (pc : Nat) : Option Nat := if pc = 9 then some 1 else none

def s_X4_bestCut_e (F : Nat) (u : S_X4) (v1 : Int32) : Option Nat := if v1 = 0 then (none) else (if v1 = 1 then (none) else (some 1))
set_option maxHeartbeats 4000000 in
set_option maxRecDepth 20000 in
theorem t_X4_bestCut_e (F : Nat) (u : S_X4) (v1 : Int32) (x : Nat) (hR : s_X4_bestCut_e F u v1 = some x) : ev_V mm_X4_bestCut none (ev_XT xt_X4_bestCut x (W_X4 u)) 0 [some (.ref 0), some (.int v1), none] [] (W_X4 u) 0 0 := by
  unfold s_X4_bestCut_e at hR
  refine ev_run (cs := []) (pc' := 1) (L' := [some (.ref 0), some (.int v1), none]) (st' := [.int v1]) (w' := W_X4 u) [] 1 (by with_unfolding_all rfl) trivial ?_
  refine ev_br rfl rfl (fun h1 => ?_) (fun h1 => ?_)
  · replace hR := lf_t h1 hR
    cases hR
  · replace hR := lf_f h1 hR
    refine ev_run (cs := []) (pc' := 6) (L' := [some (.ref 0), some (.int v1), none]) (st' := [.int 1, .int v1]) (w' := W_X4 u) [] 2 (by with_unfolding_all rfl) trivial ?_
    refine ev_br rfl rfl (fun h2 => ?_) (fun h2 => ?_)
    · replace hR := lf_t h2 hR
      cases hR
    · replace hR := lf_f h2 hR
      cases hR
      exact ev_exit ⟨rfl, rfl, rfl, rfl, rfl⟩

def xt_X4_bears (pc : Nat) : Option Nat := if pc = 8 then some 1 else none

def s_X4_bears_e (F : Nat) (u : S_X4) (v1 : Int32) : Option Nat := (s_X4_isThing F u v1).bind fun y1 => (if y1 then (none) else (some 1))
set_option maxHeartbeats 4000000 in
set_option maxRecDepth 20000 in
theorem t_X4_bears_e (F : Nat) (u : S_X4) (v1 : Int32) (x : Nat) (hR : s_X4_bears_e F u v1 = some x) : ev_V mm_X4_bears none (ev_XT xt_X4_bears x (W_X4 u)) 0 [some (.ref 0), some (.int v1)] [] (W_X4 u) 0 0 := by
  unfold s_X4_bears_e at hR
  refine ev_run (cs := []) (pc' := 2) (L' := [some (.ref 0), some (.int v1)]) (st' := [.int v1, .ref 0]) (w' := W_X4 u) [] 2 (by with_unfolding_all rfl) trivial ?_
  obtain ⟨y1, h1, hR⟩ := lf_b hR
  refine ev_callV1 0 (t_X4_isThing F u v1 _ h1) cv_X4_isThing ml_X4_77 rfl rfl rfl (Nat.le_of_ble_eq_true rfl) (by with_unfolding_all rfl) (Nat.le_of_ble_eq_true rfl) ⟨Nat.le_of_ble_eq_true rfl, Nat.le_of_ble_eq_true rfl⟩ ⟨Nat.le_refl _, Nat.le_refl _⟩ ?_ ?_
  · rintro r w ⟨rfl, rfl⟩; rfl
  rintro r w ⟨rfl, rfl⟩
  refine ev_nx (pc' := 5) (st' := [.int (ev_b y1)]) (w' := W_X4 u) rfl rfl (by with_unfolding_all rfl) rfl rfl ?_
  refine ev_br rfl rfl (fun h2 => ?_) (fun h2 => ?_)
  · replace hR := lf_z1 h2 hR
    cases hR
  · replace hR := lf_z0 h2 hR
    cases hR
    exact ev_exit ⟨rfl, rfl, rfl, rfl, rfl⟩

