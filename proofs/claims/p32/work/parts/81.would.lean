section Q9
variable {f9 : Nat → Option Nat}
/-! lifted -/
def s_L_would_b510 (F : Nat) (u : S_XW) (v15 : Int32) (v16 : Int32) : Option (Bool × S_XW) := (s_X4_bestCut F (a_XW_g u) 0).bind fun y1 => (if y1 = v15 then ((s_X4_bestCut F (a_XW_g u) 1).bind fun y2 => (if y2 = v16 then (some (true, u)) else (some (false, u)))) else (some (false, u)))
set_option maxHeartbeats 4000000 in
set_option maxRecDepth 20000 in
theorem t_L_would_b510 (F : Nat) (u : S_XW) (v15 : Int32) (v16 : Int32) (x : (Bool × S_XW))  (hR : s_L_would_b510 F u v15 v16 = some x) : ev_V mm_L_would none (ev_XR mm_L_would (fun r w => r = some (.int (ev_b x.1)) ∧ w = W_XW f9 x.2)) 510 [some (.ref 0), none, none, some (.ref 50), some (.ref 51), some (.ref 52), some (.ref 53), some (.ref 54), some (.ref 55), some (.ref 56), some (.ref 57), none, none, none, none, some (.int v15), some (.int v16), none, none, none] [] (W_XW f9 u) 0 0 := by
  unfold s_L_would_b510 at hR
  refine ev_run (cs := []) (pc' := 512) (L' := [some (.ref 0), none, none, some (.ref 50), some (.ref 51), some (.ref 52), some (.ref 53), some (.ref 54), some (.ref 55), some (.ref 56), some (.ref 57), none, none, none, none, some (.int v15), some (.int v16), none, none, none]) (st' := [.int 0, .ref 0]) (w' := W_XW f9 u) [] 2 (by with_unfolding_all rfl) trivial ?_
  obtain ⟨y1, h1, hR⟩ := lf_b hR
  refine ev_callV1 0 (t_X4_bestCut F (a_XW_g u) 0 _ h1) cv_X4_bestCut ml_L_106 rfl rfl rfl (Nat.le_of_ble_eq_true rfl) (by with_unfolding_all rfl) (Nat.le_of_ble_eq_true rfl) ⟨Nat.le_of_ble_eq_true rfl, Nat.le_of_ble_eq_true rfl⟩ ⟨Nat.le_refl _, Nat.le_refl _⟩ ?_ ?_
  · rintro r w ⟨rfl, rfl⟩; rfl
  rintro r w ⟨rfl, rfl⟩
  refine ev_nx (pc' := 515) (st' := [.int y1]) (w' := W_XW f9 u) rfl rfl (by with_unfolding_all rfl) rfl rfl ?_
  refine ev_run (cs := []) (pc' := 517) (L' := [some (.ref 0), none, none, some (.ref 50), some (.ref 51), some (.ref 52), some (.ref 53), some (.ref 54), some (.ref 55), some (.ref 56), some (.ref 57), none, none, none, none, some (.int v15), some (.int v16), none, none, none]) (st' := [.int v15, .int y1]) (w' := W_XW f9 u) [] 1 (by with_unfolding_all rfl) trivial ?_
  refine ev_br rfl rfl (fun h2 => ?_) (fun h2 => ?_)
  · replace hR := lf_f h2 hR
    refine ev_run (cs := []) (pc' := 535) (L' := [some (.ref 0), none, none, some (.ref 50), some (.ref 51), some (.ref 52), some (.ref 53), some (.ref 54), some (.ref 55), some (.ref 56), some (.ref 57), none, none, none, none, some (.int v15), some (.int v16), none, none, none]) (st' := [.int 0]) (w' := W_XW f9 u) [] 1 (by with_unfolding_all rfl) trivial ?_
    cases hR
    exact ev_exit ⟨_, _, rfl, ⟨rfl, Or.inr ⟨rfl, rfl⟩⟩, ⟨rfl, rfl⟩, Nat.le_refl _, Nat.le_refl _⟩
  · replace hR := lf_t h2 hR
    refine ev_run (cs := []) (pc' := 522) (L' := [some (.ref 0), none, none, some (.ref 50), some (.ref 51), some (.ref 52), some (.ref 53), some (.ref 54), some (.ref 55), some (.ref 56), some (.ref 57), none, none, none, none, some (.int v15), some (.int v16), none, none, none]) (st' := [.int 1, .ref 0]) (w' := W_XW f9 u) [] 2 (by with_unfolding_all rfl) trivial ?_
    obtain ⟨y2, h3, hR⟩ := lf_b hR
    refine ev_callV1 0 (t_X4_bestCut F (a_XW_g u) 1 _ h3) cv_X4_bestCut ml_L_106 rfl rfl rfl (Nat.le_of_ble_eq_true rfl) (by with_unfolding_all rfl) (Nat.le_of_ble_eq_true rfl) ⟨Nat.le_of_ble_eq_true rfl, Nat.le_of_ble_eq_true rfl⟩ ⟨Nat.le_refl _, Nat.le_refl _⟩ ?_ ?_
    · rintro r w ⟨rfl, rfl⟩; rfl
    rintro r w ⟨rfl, rfl⟩
    refine ev_nx (pc' := 525) (st' := [.int y2]) (w' := W_XW f9 u) rfl rfl (by with_unfolding_all rfl) rfl rfl ?_
    refine ev_run (cs := []) (pc' := 527) (L' := [some (.ref 0), none, none, some (.ref 50), some (.ref 51), some (.ref 52), some (.ref 53), some (.ref 54), some (.ref 55), some (.ref 56), some (.ref 57), none, none, none, none, some (.int v15), some (.int v16), none, none, none]) (st' := [.int v16, .int y2]) (w' := W_XW f9 u) [] 1 (by with_unfolding_all rfl) trivial ?_
    refine ev_br rfl rfl (fun h4 => ?_) (fun h4 => ?_)
    · replace hR := lf_f h4 hR
      refine ev_run (cs := []) (pc' := 535) (L' := [some (.ref 0), none, none, some (.ref 50), some (.ref 51), some (.ref 52), some (.ref 53), some (.ref 54), some (.ref 55), some (.ref 56), some (.ref 57), none, none, none, none, some (.int v15), some (.int v16), none, none, none]) (st' := [.int 0]) (w' := W_XW f9 u) [] 1 (by with_unfolding_all rfl) trivial ?_
      cases hR
      exact ev_exit ⟨_, _, rfl, ⟨rfl, Or.inr ⟨rfl, rfl⟩⟩, ⟨rfl, rfl⟩, Nat.le_refl _, Nat.le_refl _⟩
    · replace hR := lf_t h4 hR
      refine ev_run (cs := []) (pc' := 535) (L' := [some (.ref 0), none, none, some (.ref 50), some (.ref 51), some (.ref 52), some (.ref 53), some (.ref 54), some (.ref 55), some (.ref 56), some (.ref 57), none, none, none, none, some (.int v15), some (.int v16), none, none, none]) (st' := [.int 1]) (w' := W_XW f9 u) [] 2 (by with_unfolding_all rfl) trivial ?_
      cases hR
      exact ev_exit ⟨_, _, rfl, ⟨rfl, Or.inr ⟨rfl, rfl⟩⟩, ⟨rfl, rfl⟩, Nat.le_refl _, Nat.le_refl _⟩

def s_L_would_b486 (F : Nat) (k414 : S_XW → Int32 → Int32 → Int32 → Option (Bool × S_XW)) (u : S_XW) (v14 : Int32) (v16 : Int32) (v17 : Int32) (v19 : Int32) (p0 : Int32) : Option (Bool × S_XW) := if v19 ≤ v16 then (k414 u p0 v16 (v17 + 1)) else (k414 u p0 v19 (v17 + 1))
set_option maxHeartbeats 4000000 in
set_option maxRecDepth 20000 in
theorem t_L_would_b486 (F : Nat) (k414 : S_XW → Int32 → Int32 → Int32 → Option (Bool × S_XW)) (u : S_XW) (v14 : Int32) (v16 : Int32) (v17 : Int32) (v19 : Int32) (p0 : Int32) (x : (Bool × S_XW)) (hk414 : ∀ (u : S_XW) (v15 : Int32) (v16 : Int32) (v17 : Int32), k414 u v15 v16 v17 = some x → ev_V mm_L_would none (ev_XR mm_L_would (fun r w => r = some (.int (ev_b x.1)) ∧ w = W_XW f9 x.2)) 414 [some (.ref 0), none, none, some (.ref 50), some (.ref 51), some (.ref 52), some (.ref 53), some (.ref 54), some (.ref 55), some (.ref 56), some (.ref 57), none, none, none, some (.int v14), some (.int v15), some (.int v16), some (.int v17), none, none] [] (W_XW f9 u) 0 0) (hR : s_L_would_b486 F k414 u v14 v16 v17 v19 p0 = some x) : ev_V mm_L_would none (ev_XR mm_L_would (fun r w => r = some (.int (ev_b x.1)) ∧ w = W_XW f9 x.2)) 486 [some (.ref 0), none, none, some (.ref 50), some (.ref 51), some (.ref 52), some (.ref 53), some (.ref 54), some (.ref 55), some (.ref 56), some (.ref 57), none, none, none, some (.int v14), none, some (.int v16), some (.int v17), none, some (.int v19)] [.int p0] (W_XW f9 u) 0 0 := by
  unfold s_L_would_b486 at hR
  refine ev_run (cs := []) (pc' := 492) (L' := [some (.ref 0), none, none, some (.ref 50), some (.ref 51), some (.ref 52), some (.ref 53), some (.ref 54), some (.ref 55), some (.ref 56), some (.ref 57), none, none, none, some (.int v14), some (.int p0), some (.int v16), some (.int v17), none, some (.int v19)]) (st' := [.int v16, .int v19]) (w' := W_XW f9 u) [] 3 (by with_unfolding_all rfl) trivial ?_
  refine ev_br rfl rfl (fun h1 => ?_) (fun h1 => ?_)
  · replace hR := lf_t h1 hR
    refine ev_run (cs := []) (pc' := 414) (L' := [some (.ref 0), none, none, some (.ref 50), some (.ref 51), some (.ref 52), some (.ref 53), some (.ref 54), some (.ref 55), some (.ref 56), some (.ref 57), none, none, none, some (.int v14), some (.int p0), some (.int v16), some (.int (v17 + 1)), none, some (.int v19)]) (st' := []) (w' := W_XW f9 u) [] 4 (by with_unfolding_all rfl) trivial ?_
    exact ev_to2 (hk414 _ _ _ _ hR) ⟨rfl, rfl, rfl, rfl, rfl, rfl, rfl, rfl, rfl, rfl, rfl, rfl, rfl, trivial⟩ rfl rfl
  · replace hR := lf_f h1 hR
    refine ev_run (cs := []) (pc' := 414) (L' := [some (.ref 0), none, none, some (.ref 50), some (.ref 51), some (.ref 52), some (.ref 53), some (.ref 54), some (.ref 55), some (.ref 56), some (.ref 57), none, none, none, some (.int v14), some (.int p0), some (.int v19), some (.int (v17 + 1)), none, some (.int v19)]) (st' := []) (w' := W_XW f9 u) [] 5 (by with_unfolding_all rfl) trivial ?_
    exact ev_to2 (hk414 _ _ _ _ hR) ⟨rfl, rfl, rfl, rfl, rfl, rfl, rfl, rfl, rfl, rfl, rfl, rfl, rfl, trivial⟩ rfl rfl

def s_L_would_b439 (F : Nat) (k414 : S_XW → Int32 → Int32 → Int32 → Option (Bool × S_XW)) (u : S_XW) (v14 : Int32) (v15 : Int32) (v16 : Int32) (v17 : Int32) (p0 : Int32) : Option (Bool × S_XW) := (s_L_copy F 28 28 (a_XW_sl u) (a_XW_ss u)).bind fun y1 => (if lf_ix p0 28 then ((s_L_bits F v14).bind fun y2 => ((s_L_held F 48 28 (a_XW_th u) (upd y1 p0.toNatClampNeg (-1))).bind fun y3 => ((s_L_bits F y3).bind fun y4 => (if (y2 - y4) ≤ v16 then (s_L_would_b486 F k414 (m_XW_ss (upd y1 p0.toNatClampNeg (-1)) u) v14 v16 v17 (y2 - y4) v15) else (s_L_would_b486 F k414 (m_XW_ss (upd y1 p0.toNatClampNeg (-1)) u) v14 v16 v17 (y2 - y4) v17))))) else none)
set_option maxHeartbeats 4000000 in
set_option maxRecDepth 20000 in
theorem t_L_would_b439 (F : Nat) (k414 : S_XW → Int32 → Int32 → Int32 → Option (Bool × S_XW)) (u : S_XW) (v14 : Int32) (v15 : Int32) (v16 : Int32) (v17 : Int32) (p0 : Int32) (x : (Bool × S_XW)) (hk414 : ∀ (u : S_XW) (v15 : Int32) (v16 : Int32) (v17 : Int32), k414 u v15 v16 v17 = some x → ev_V mm_L_would none (ev_XR mm_L_would (fun r w => r = some (.int (ev_b x.1)) ∧ w = W_XW f9 x.2)) 414 [some (.ref 0), none, none, some (.ref 50), some (.ref 51), some (.ref 52), some (.ref 53), some (.ref 54), some (.ref 55), some (.ref 56), some (.ref 57), none, none, none, some (.int v14), some (.int v15), some (.int v16), some (.int v17), none, none] [] (W_XW f9 u) 0 0) (hR : s_L_would_b439 F k414 u v14 v15 v16 v17 p0 = some x) : ev_V mm_L_would none (ev_XR mm_L_would (fun r w => r = some (.int (ev_b x.1)) ∧ w = W_XW f9 x.2)) 439 [some (.ref 0), none, none, some (.ref 50), some (.ref 51), some (.ref 52), some (.ref 53), some (.ref 54), some (.ref 55), some (.ref 56), some (.ref 57), none, none, none, some (.int v14), some (.int v15), some (.int v16), some (.int v17), none, none] [.int p0] (W_XW f9 u) 0 0 := by
  unfold s_L_would_b439 at hR
  refine ev_run (cs := []) (pc' := 445) (L' := [some (.ref 0), none, none, some (.ref 50), some (.ref 51), some (.ref 52), some (.ref 53), some (.ref 54), some (.ref 55), some (.ref 56), some (.ref 57), none, none, none, some (.int v14), some (.int v15), some (.int v16), some (.int v17), some (.int p0), none]) (st' := [.ref 56, .ref 52]) (w' := W_XW f9 u) [] 3 (by with_unfolding_all rfl) trivial ?_
  obtain ⟨y1, h1, hR⟩ := lf_b hR
  refine ev_callL [52, 56] (t_L_copy F 28 28 (a_XW_sl u) (a_XW_ss u) _ h1) cs_L_copy ml_L_87 rfl rfl rfl rfl (by with_unfolding_all rfl) (by decide) (Nat.le_of_ble_eq_true rfl) ⟨Nat.le_of_ble_eq_true rfl, Nat.le_of_ble_eq_true rfl⟩ ⟨Nat.le_refl _, Nat.le_refl _⟩ ?_ ?_
  · rintro r w ⟨rfl, rfl⟩; rfl
  rintro r w ⟨rfl, rfl⟩
  refine ev_nx (pc' := 448) (st' := []) (w' := W_XW f9 (m_XW_ss y1 u)) rfl rfl (by with_unfolding_all rfl) rfl rfl ?_
  obtain ⟨h2, hR⟩ := lf_g hR
  refine ev_run (cs := [lf_ix p0 28]) (pc' := 456) (L' := [some (.ref 0), none, none, some (.ref 50), some (.ref 51), some (.ref 52), some (.ref 53), some (.ref 54), some (.ref 55), some (.ref 56), some (.ref 57), none, none, none, some (.int v14), some (.int v15), some (.int v16), some (.int v17), some (.int p0), none]) (st' := [.int v14]) (w' := W_XW f9 (m_XW_ss (upd y1 p0.toNatClampNeg (-1)) u)) [] 5 (by with_unfolding_all rfl) (h2) ?_
  obtain ⟨y2, h3, hR⟩ := lf_b hR
  refine ev_callS1 0 (t_L_bits F v14 _ h3) cs_L_bits ml_L_81 rfl rfl rfl (Nat.le_of_ble_eq_true rfl) (by with_unfolding_all rfl) (Nat.le_of_ble_eq_true rfl) ⟨Nat.le_of_ble_eq_true rfl, Nat.le_of_ble_eq_true rfl⟩ ⟨Nat.le_refl _, Nat.le_refl _⟩ ?_ ?_
  · rintro r w ⟨rfl, rfl⟩; rfl
  rintro r w ⟨rfl, rfl⟩
  refine ev_nx (pc' := 459) (st' := [.int y2]) (w' := W_XW f9 (m_XW_ss (upd y1 p0.toNatClampNeg (-1)) u)) rfl rfl (by with_unfolding_all rfl) rfl rfl ?_
  refine ev_run (cs := []) (pc' := 463) (L' := [some (.ref 0), none, none, some (.ref 50), some (.ref 51), some (.ref 52), some (.ref 53), some (.ref 54), some (.ref 55), some (.ref 56), some (.ref 57), none, none, none, some (.int v14), some (.int v15), some (.int v16), some (.int v17), some (.int p0), none]) (st' := [.ref 56, .ref 51, .int y2]) (w' := W_XW f9 (m_XW_ss (upd y1 p0.toNatClampNeg (-1)) u)) [] 2 (by with_unfolding_all rfl) trivial ?_
  obtain ⟨y3, h4, hR⟩ := lf_b hR
  refine ev_callL [51, 56] (t_L_held F 48 28 (a_XW_th u) (upd y1 p0.toNatClampNeg (-1)) _ h4) cs_L_held ml_L_55 rfl rfl rfl rfl (by with_unfolding_all rfl) (by decide) (Nat.le_of_ble_eq_true rfl) ⟨Nat.le_of_ble_eq_true rfl, Nat.le_of_ble_eq_true rfl⟩ ⟨Nat.le_refl _, Nat.le_refl _⟩ ?_ ?_
  · rintro r w ⟨rfl, rfl⟩; rfl
  rintro r w ⟨rfl, rfl⟩
  refine ev_nx (pc' := 466) (st' := [.int y3, .int y2]) (w' := W_XW f9 (m_XW_ss (upd y1 p0.toNatClampNeg (-1)) u)) rfl rfl (by with_unfolding_all rfl) rfl rfl ?_
  obtain ⟨y4, h5, hR⟩ := lf_b hR
  refine ev_callS1 0 (t_L_bits F y3 _ h5) cs_L_bits ml_L_81 rfl rfl rfl (Nat.le_of_ble_eq_true rfl) (by with_unfolding_all rfl) (Nat.le_of_ble_eq_true rfl) ⟨Nat.le_of_ble_eq_true rfl, Nat.le_of_ble_eq_true rfl⟩ ⟨Nat.le_refl _, Nat.le_refl _⟩ ?_ ?_
  · rintro r w ⟨rfl, rfl⟩; rfl
  rintro r w ⟨rfl, rfl⟩
  refine ev_nx (pc' := 469) (st' := [.int y4, .int y2]) (w' := W_XW f9 (m_XW_ss (upd y1 p0.toNatClampNeg (-1)) u)) rfl rfl (by with_unfolding_all rfl) rfl rfl ?_
  refine ev_run (cs := []) (pc' := 476) (L' := [some (.ref 0), none, none, some (.ref 50), some (.ref 51), some (.ref 52), some (.ref 53), some (.ref 54), some (.ref 55), some (.ref 56), some (.ref 57), none, none, none, some (.int v14), some (.int v15), some (.int v16), some (.int v17), some (.int p0), some (.int (y2 - y4))]) (st' := [.int v16, .int (y2 - y4)]) (w' := W_XW f9 (m_XW_ss (upd y1 p0.toNatClampNeg (-1)) u)) [] 4 (by with_unfolding_all rfl) trivial ?_
  refine ev_br rfl rfl (fun h6 => ?_) (fun h6 => ?_)
  · replace hR := lf_t h6 hR
    refine ev_run (cs := []) (pc' := 486) (L' := [some (.ref 0), none, none, some (.ref 50), some (.ref 51), some (.ref 52), some (.ref 53), some (.ref 54), some (.ref 55), some (.ref 56), some (.ref 57), none, none, none, some (.int v14), some (.int v15), some (.int v16), some (.int v17), some (.int p0), some (.int (y2 - y4))]) (st' := [.int v15]) (w' := W_XW f9 (m_XW_ss (upd y1 p0.toNatClampNeg (-1)) u)) [] 1 (by with_unfolding_all rfl) trivial ?_
    exact ev_to2 (t_L_would_b486 F k414 (m_XW_ss (upd y1 p0.toNatClampNeg (-1)) u) v14 v16 v17 (y2 - y4) v15 _ hk414 hR) ⟨rfl, rfl, rfl, rfl, rfl, rfl, rfl, rfl, rfl, rfl, rfl, rfl, rfl, trivial⟩ rfl rfl
  · replace hR := lf_f h6 hR
    refine ev_run (cs := []) (pc' := 486) (L' := [some (.ref 0), none, none, some (.ref 50), some (.ref 51), some (.ref 52), some (.ref 53), some (.ref 54), some (.ref 55), some (.ref 56), some (.ref 57), none, none, none, some (.int v14), some (.int v15), some (.int v16), some (.int v17), some (.int p0), some (.int (y2 - y4))]) (st' := [.int v17]) (w' := W_XW f9 (m_XW_ss (upd y1 p0.toNatClampNeg (-1)) u)) [] 2 (by with_unfolding_all rfl) trivial ?_
    exact ev_to2 (t_L_would_b486 F k414 (m_XW_ss (upd y1 p0.toNatClampNeg (-1)) u) v14 v16 v17 (y2 - y4) v17 _ hk414 hR) ⟨rfl, rfl, rfl, rfl, rfl, rfl, rfl, rfl, rfl, rfl, rfl, rfl, rfl, trivial⟩ rfl rfl

def s_L_would_l414 (F : Nat) (v14 : Int32) : Nat → S_XW → Int32 → Int32 → Int32 → Option (Bool × S_XW)
  | 0 => fun _ _ _ _ => none
  | n + 1 => fun u v15 v16 v17 => if 28 ≤ v17 then (s_L_would_b510 F u v15 v16) else (if 4 ≤ v17 then (s_L_would_b439 F (s_L_would_l414 F v14 n) u v14 v15 v16 v17 (v17 - 4)) else (s_L_would_b439 F (s_L_would_l414 F v14 n) u v14 v15 v16 v17 (24 + v17)))
theorem e_L_would_l414 (F : Nat) (v14 : Int32) (n : Nat) (u : S_XW) (v15 : Int32) (v16 : Int32) (v17 : Int32) : s_L_would_l414 F v14 (n + 1) u v15 v16 v17 = if 28 ≤ v17 then (s_L_would_b510 F u v15 v16) else (if 4 ≤ v17 then (s_L_would_b439 F (s_L_would_l414 F v14 n) u v14 v15 v16 v17 (v17 - 4)) else (s_L_would_b439 F (s_L_would_l414 F v14 n) u v14 v15 v16 v17 (24 + v17))) := rfl
set_option maxHeartbeats 4000000 in
set_option maxRecDepth 20000 in
theorem t_L_would_l414 (F : Nat) (v14 : Int32) (x : (Bool × S_XW))  : ∀ (n : Nat) (u : S_XW) (v15 : Int32) (v16 : Int32) (v17 : Int32), s_L_would_l414 F v14 n u v15 v16 v17 = some x → ev_V mm_L_would none (ev_XR mm_L_would (fun r w => r = some (.int (ev_b x.1)) ∧ w = W_XW f9 x.2)) 414 [some (.ref 0), none, none, some (.ref 50), some (.ref 51), some (.ref 52), some (.ref 53), some (.ref 54), some (.ref 55), some (.ref 56), some (.ref 57), none, none, none, some (.int v14), some (.int v15), some (.int v16), some (.int v17), none, none] [] (W_XW f9 u) 0 0 := by
  intro n
  induction n with
  | zero => intro u v15 v16 v17 hR; cases hR
  | succ n hk414 =>
    intro u v15 v16 v17 hR
    unfold s_L_would_l414 at hR
    refine ev_run (cs := []) (pc' := 418) (L' := [some (.ref 0), none, none, some (.ref 50), some (.ref 51), some (.ref 52), some (.ref 53), some (.ref 54), some (.ref 55), some (.ref 56), some (.ref 57), none, none, none, some (.int v14), some (.int v15), some (.int v16), some (.int v17), none, none]) (st' := [.int 28, .int v17]) (w' := W_XW f9 u) [] 2 (by with_unfolding_all rfl) trivial ?_
    refine ev_br rfl rfl (fun h1 => ?_) (fun h1 => ?_)
    · replace hR := lf_t h1 hR
      exact ev_to2 (t_L_would_b510 F u v15 v16 _ hR) ⟨rfl, rfl, rfl, rfl, rfl, rfl, rfl, rfl, rfl, rfl, rfl, trivial⟩ rfl rfl
    · replace hR := lf_f h1 hR
      refine ev_run (cs := []) (pc' := 424) (L' := [some (.ref 0), none, none, some (.ref 50), some (.ref 51), some (.ref 52), some (.ref 53), some (.ref 54), some (.ref 55), some (.ref 56), some (.ref 57), none, none, none, some (.int v14), some (.int v15), some (.int v16), some (.int v17), none, none]) (st' := [.int 4, .int v17]) (w' := W_XW f9 u) [] 2 (by with_unfolding_all rfl) trivial ?_
      refine ev_br rfl rfl (fun h2 => ?_) (fun h2 => ?_)
      · replace hR := lf_t h2 hR
        refine ev_run (cs := []) (pc' := 439) (L' := [some (.ref 0), none, none, some (.ref 50), some (.ref 51), some (.ref 52), some (.ref 53), some (.ref 54), some (.ref 55), some (.ref 56), some (.ref 57), none, none, none, some (.int v14), some (.int v15), some (.int v16), some (.int v17), none, none]) (st' := [.int (v17 - 4)]) (w' := W_XW f9 u) [] 3 (by with_unfolding_all rfl) trivial ?_
        exact ev_to2 (t_L_would_b439 F (s_L_would_l414 F v14 n) u v14 v15 v16 v17 (v17 - 4) _ hk414 hR) ⟨rfl, rfl, rfl, rfl, rfl, rfl, rfl, rfl, rfl, rfl, rfl, rfl, rfl, trivial⟩ rfl rfl
      · replace hR := lf_f h2 hR
        refine ev_run (cs := []) (pc' := 439) (L' := [some (.ref 0), none, none, some (.ref 50), some (.ref 51), some (.ref 52), some (.ref 53), some (.ref 54), some (.ref 55), some (.ref 56), some (.ref 57), none, none, none, some (.int v14), some (.int v15), some (.int v16), some (.int v17), none, none]) (st' := [.int (24 + v17)]) (w' := W_XW f9 u) [] 4 (by with_unfolding_all rfl) trivial ?_
        exact ev_to2 (t_L_would_b439 F (s_L_would_l414 F v14 n) u v14 v15 v16 v17 (24 + v17) _ hk414 hR) ⟨rfl, rfl, rfl, rfl, rfl, rfl, rfl, rfl, rfl, rfl, rfl, rfl, rfl, trivial⟩ rfl rfl

def s_L_would_b352 (F : Nat) (u : S_XW) (v13 : Int32) : Option (Bool × S_XW) := (s_X4_ifTried F (a_XW_g u) 0).bind fun y1 => (if y1.1 = (((a_XW_qs u) (3 : Int32).toNatClampNeg) - ((a_XW_q u) (3 : Int32).toNatClampNeg)) then ((s_X4_ifTried F y1.2 1).bind fun y2 => (if y2.1 = v13 then ((s_X4_ifTried F y2.2 2).bind fun y3 => (if y3.1 = (((a_XW_qs u) (5 : Int32).toNatClampNeg) - ((a_XW_q u) (5 : Int32).toNatClampNeg)) then ((s_L_held F 48 28 (a_XW_th u) (a_XW_sl u)).bind fun y4 => (s_L_would_l414 F y4 F (m_XW_g y3.2 u) (-1) 0 0)) else (some (false, m_XW_g y3.2 u)))) else (some (false, m_XW_g y2.2 u)))) else (some (false, m_XW_g y1.2 u)))
set_option maxHeartbeats 4000000 in
set_option maxRecDepth 20000 in
theorem t_L_would_b352 (F : Nat) (u : S_XW) (v13 : Int32) (x : (Bool × S_XW))  (hR : s_L_would_b352 F u v13 = some x) : ev_V mm_L_would none (ev_XR mm_L_would (fun r w => r = some (.int (ev_b x.1)) ∧ w = W_XW f9 x.2)) 352 [some (.ref 0), none, none, some (.ref 50), some (.ref 51), some (.ref 52), some (.ref 53), some (.ref 54), some (.ref 55), some (.ref 56), some (.ref 57), none, none, some (.int v13), none, none, none, none, none, none] [] (W_XW f9 u) 0 0 := by
  unfold s_L_would_b352 at hR
  refine ev_run (cs := []) (pc' := 354) (L' := [some (.ref 0), none, none, some (.ref 50), some (.ref 51), some (.ref 52), some (.ref 53), some (.ref 54), some (.ref 55), some (.ref 56), some (.ref 57), none, none, some (.int v13), none, none, none, none, none, none]) (st' := [.int 0, .ref 0]) (w' := W_XW f9 u) [] 2 (by with_unfolding_all rfl) trivial ?_
  obtain ⟨y1, h1, hR⟩ := lf_b hR
  refine ev_callV1 0 (t_X4_ifTried F (a_XW_g u) 0 _ h1) cv_X4_ifTried ml_L_103 rfl rfl rfl (Nat.le_of_ble_eq_true rfl) (by with_unfolding_all rfl) (Nat.le_of_ble_eq_true rfl) ⟨Nat.le_of_ble_eq_true rfl, Nat.le_of_ble_eq_true rfl⟩ ⟨Nat.le_refl _, Nat.le_refl _⟩ ?_ ?_
  · rintro r w ⟨rfl, rfl⟩; rfl
  rintro r w ⟨rfl, rfl⟩
  refine ev_nx (pc' := 357) (st' := [.int y1.1]) (w' := W_XW f9 (m_XW_g y1.2 u)) rfl rfl (by with_unfolding_all rfl) rfl rfl ?_
  refine ev_run (cs := [lf_ix 3 12, lf_ix 3 12]) (pc' := 365) (L' := [some (.ref 0), none, none, some (.ref 50), some (.ref 51), some (.ref 52), some (.ref 53), some (.ref 54), some (.ref 55), some (.ref 56), some (.ref 57), none, none, some (.int v13), none, none, none, none, none, none]) (st' := [.int (((a_XW_qs u) (3 : Int32).toNatClampNeg) - ((a_XW_q u) (3 : Int32).toNatClampNeg)), .int y1.1]) (w' := W_XW f9 (m_XW_g y1.2 u)) [] 7 (by with_unfolding_all rfl) ⟨by show ¬ _; decide, by show ¬ _; decide⟩ ?_
  refine ev_br rfl rfl (fun h2 => ?_) (fun h2 => ?_)
  · replace hR := lf_f h2 hR
    refine ev_run (cs := []) (pc' := 395) (L' := [some (.ref 0), none, none, some (.ref 50), some (.ref 51), some (.ref 52), some (.ref 53), some (.ref 54), some (.ref 55), some (.ref 56), some (.ref 57), none, none, some (.int v13), none, none, none, none, none, none]) (st' := [.int 0]) (w' := W_XW f9 (m_XW_g y1.2 u)) [] 1 (by with_unfolding_all rfl) trivial ?_
    cases hR
    exact ev_exit ⟨_, _, rfl, ⟨rfl, Or.inr ⟨rfl, rfl⟩⟩, ⟨rfl, rfl⟩, Nat.le_refl _, Nat.le_refl _⟩
  · replace hR := lf_t h2 hR
    refine ev_run (cs := []) (pc' := 370) (L' := [some (.ref 0), none, none, some (.ref 50), some (.ref 51), some (.ref 52), some (.ref 53), some (.ref 54), some (.ref 55), some (.ref 56), some (.ref 57), none, none, some (.int v13), none, none, none, none, none, none]) (st' := [.int 1, .ref 0]) (w' := W_XW f9 (m_XW_g y1.2 u)) [] 2 (by with_unfolding_all rfl) trivial ?_
    obtain ⟨y2, h3, hR⟩ := lf_b hR
    refine ev_callV1 0 (t_X4_ifTried F y1.2 1 _ h3) cv_X4_ifTried ml_L_103 rfl rfl rfl (Nat.le_of_ble_eq_true rfl) (by with_unfolding_all rfl) (Nat.le_of_ble_eq_true rfl) ⟨Nat.le_of_ble_eq_true rfl, Nat.le_of_ble_eq_true rfl⟩ ⟨Nat.le_refl _, Nat.le_refl _⟩ ?_ ?_
    · rintro r w ⟨rfl, rfl⟩; rfl
    rintro r w ⟨rfl, rfl⟩
    refine ev_nx (pc' := 373) (st' := [.int y2.1]) (w' := W_XW f9 (m_XW_g y2.2 u)) rfl rfl (by with_unfolding_all rfl) rfl rfl ?_
    refine ev_run (cs := []) (pc' := 375) (L' := [some (.ref 0), none, none, some (.ref 50), some (.ref 51), some (.ref 52), some (.ref 53), some (.ref 54), some (.ref 55), some (.ref 56), some (.ref 57), none, none, some (.int v13), none, none, none, none, none, none]) (st' := [.int v13, .int y2.1]) (w' := W_XW f9 (m_XW_g y2.2 u)) [] 1 (by with_unfolding_all rfl) trivial ?_
    refine ev_br rfl rfl (fun h4 => ?_) (fun h4 => ?_)
    · replace hR := lf_f h4 hR
      refine ev_run (cs := []) (pc' := 395) (L' := [some (.ref 0), none, none, some (.ref 50), some (.ref 51), some (.ref 52), some (.ref 53), some (.ref 54), some (.ref 55), some (.ref 56), some (.ref 57), none, none, some (.int v13), none, none, none, none, none, none]) (st' := [.int 0]) (w' := W_XW f9 (m_XW_g y2.2 u)) [] 1 (by with_unfolding_all rfl) trivial ?_
      cases hR
      exact ev_exit ⟨_, _, rfl, ⟨rfl, Or.inr ⟨rfl, rfl⟩⟩, ⟨rfl, rfl⟩, Nat.le_refl _, Nat.le_refl _⟩
    · replace hR := lf_t h4 hR
      refine ev_run (cs := []) (pc' := 380) (L' := [some (.ref 0), none, none, some (.ref 50), some (.ref 51), some (.ref 52), some (.ref 53), some (.ref 54), some (.ref 55), some (.ref 56), some (.ref 57), none, none, some (.int v13), none, none, none, none, none, none]) (st' := [.int 2, .ref 0]) (w' := W_XW f9 (m_XW_g y2.2 u)) [] 2 (by with_unfolding_all rfl) trivial ?_
      obtain ⟨y3, h5, hR⟩ := lf_b hR
      refine ev_callV1 0 (t_X4_ifTried F y2.2 2 _ h5) cv_X4_ifTried ml_L_103 rfl rfl rfl (Nat.le_of_ble_eq_true rfl) (by with_unfolding_all rfl) (Nat.le_of_ble_eq_true rfl) ⟨Nat.le_of_ble_eq_true rfl, Nat.le_of_ble_eq_true rfl⟩ ⟨Nat.le_refl _, Nat.le_refl _⟩ ?_ ?_
      · rintro r w ⟨rfl, rfl⟩; rfl
      rintro r w ⟨rfl, rfl⟩
      refine ev_nx (pc' := 383) (st' := [.int y3.1]) (w' := W_XW f9 (m_XW_g y3.2 u)) rfl rfl (by with_unfolding_all rfl) rfl rfl ?_
      refine ev_run (cs := [lf_ix 5 12, lf_ix 5 12]) (pc' := 391) (L' := [some (.ref 0), none, none, some (.ref 50), some (.ref 51), some (.ref 52), some (.ref 53), some (.ref 54), some (.ref 55), some (.ref 56), some (.ref 57), none, none, some (.int v13), none, none, none, none, none, none]) (st' := [.int (((a_XW_qs u) (5 : Int32).toNatClampNeg) - ((a_XW_q u) (5 : Int32).toNatClampNeg)), .int y3.1]) (w' := W_XW f9 (m_XW_g y3.2 u)) [] 7 (by with_unfolding_all rfl) ⟨by show ¬ _; decide, by show ¬ _; decide⟩ ?_
      refine ev_br rfl rfl (fun h6 => ?_) (fun h6 => ?_)
      · replace hR := lf_t h6 hR
        refine ev_run (cs := []) (pc' := 400) (L' := [some (.ref 0), none, none, some (.ref 50), some (.ref 51), some (.ref 52), some (.ref 53), some (.ref 54), some (.ref 55), some (.ref 56), some (.ref 57), none, none, some (.int v13), none, none, none, none, none, none]) (st' := [.ref 52, .ref 51]) (w' := W_XW f9 (m_XW_g y3.2 u)) [] 2 (by with_unfolding_all rfl) trivial ?_
        obtain ⟨y4, h7, hR⟩ := lf_b hR
        refine ev_callL [51, 52] (t_L_held F 48 28 (a_XW_th u) (a_XW_sl u) _ h7) cs_L_held ml_L_55 rfl rfl rfl rfl (by with_unfolding_all rfl) (by decide) (Nat.le_of_ble_eq_true rfl) ⟨Nat.le_of_ble_eq_true rfl, Nat.le_of_ble_eq_true rfl⟩ ⟨Nat.le_refl _, Nat.le_refl _⟩ ?_ ?_
        · rintro r w ⟨rfl, rfl⟩; rfl
        rintro r w ⟨rfl, rfl⟩
        refine ev_nx (pc' := 403) (st' := [.int y4]) (w' := W_XW f9 (m_XW_g y3.2 u)) rfl rfl (by with_unfolding_all rfl) rfl rfl ?_
        refine ev_run (cs := []) (pc' := 414) (L' := [some (.ref 0), none, none, some (.ref 50), some (.ref 51), some (.ref 52), some (.ref 53), some (.ref 54), some (.ref 55), some (.ref 56), some (.ref 57), none, none, some (.int v13), some (.int y4), some (.int (-1)), some (.int 0), some (.int 0), none, none]) (st' := []) (w' := W_XW f9 (m_XW_g y3.2 u)) [] 7 (by with_unfolding_all rfl) trivial ?_
        exact ev_to2 (t_L_would_l414 F y4 _ F (m_XW_g y3.2 u) (-1) 0 0 hR) ⟨rfl, rfl, rfl, rfl, rfl, rfl, rfl, rfl, rfl, rfl, rfl, rfl, rfl, trivial⟩ rfl rfl
      · replace hR := lf_f h6 hR
        refine ev_run (cs := []) (pc' := 395) (L' := [some (.ref 0), none, none, some (.ref 50), some (.ref 51), some (.ref 52), some (.ref 53), some (.ref 54), some (.ref 55), some (.ref 56), some (.ref 57), none, none, some (.int v13), none, none, none, none, none, none]) (st' := [.int 0]) (w' := W_XW f9 (m_XW_g y3.2 u)) [] 1 (by with_unfolding_all rfl) trivial ?_
        cases hR
        exact ev_exit ⟨_, _, rfl, ⟨rfl, Or.inr ⟨rfl, rfl⟩⟩, ⟨rfl, rfl⟩, Nat.le_refl _, Nat.le_refl _⟩

def s_L_would_l324 (F : Nat) (u : S_XW) : Nat → Int32 → Int32 → Option (Bool × S_XW)
  | 0 => fun _ _ => none
  | n + 1 => fun v13 v14 => if 6 ≤ v14 then (s_L_would_b352 F u v13) else (if lf_ix ((8 * v14) + 3) 48 then (s_L_would_l324 F u n (v13 + ((a_XW_ts u) (((8 * v14) + 3).toNatClampNeg))) (v14 + 1)) else none)
theorem e_L_would_l324 (F : Nat) (u : S_XW) (n : Nat) (v13 : Int32) (v14 : Int32) : s_L_would_l324 F u (n + 1) v13 v14 = if 6 ≤ v14 then (s_L_would_b352 F u v13) else (if lf_ix ((8 * v14) + 3) 48 then (s_L_would_l324 F u n (v13 + ((a_XW_ts u) (((8 * v14) + 3).toNatClampNeg))) (v14 + 1)) else none) := rfl
set_option maxHeartbeats 4000000 in
set_option maxRecDepth 20000 in
theorem t_L_would_l324 (F : Nat) (u : S_XW) (x : (Bool × S_XW))  : ∀ (n : Nat) (v13 : Int32) (v14 : Int32), s_L_would_l324 F u n v13 v14 = some x → ev_V mm_L_would none (ev_XR mm_L_would (fun r w => r = some (.int (ev_b x.1)) ∧ w = W_XW f9 x.2)) 324 [some (.ref 0), none, none, some (.ref 50), some (.ref 51), some (.ref 52), some (.ref 53), some (.ref 54), some (.ref 55), some (.ref 56), some (.ref 57), none, none, some (.int v13), some (.int v14), none, none, none, none, none] [] (W_XW f9 u) 0 0 := by
  intro n
  induction n with
  | zero => intro v13 v14 hR; cases hR
  | succ n hk324 =>
    intro v13 v14 hR
    unfold s_L_would_l324 at hR
    refine ev_run (cs := []) (pc' := 328) (L' := [some (.ref 0), none, none, some (.ref 50), some (.ref 51), some (.ref 52), some (.ref 53), some (.ref 54), some (.ref 55), some (.ref 56), some (.ref 57), none, none, some (.int v13), some (.int v14), none, none, none, none, none]) (st' := [.int 6, .int v14]) (w' := W_XW f9 u) [] 2 (by with_unfolding_all rfl) trivial ?_
    refine ev_br rfl rfl (fun h1 => ?_) (fun h1 => ?_)
    · replace hR := lf_t h1 hR
      exact ev_to2 (t_L_would_b352 F u v13 _ hR) ⟨rfl, rfl, rfl, rfl, rfl, rfl, rfl, rfl, rfl, rfl, trivial⟩ rfl rfl
    · replace hR := lf_f h1 hR
      obtain ⟨h2, hR⟩ := lf_g hR
      refine ev_run (cs := [lf_ix ((8 * v14) + 3) 48]) (pc' := 324) (L' := [some (.ref 0), none, none, some (.ref 50), some (.ref 51), some (.ref 52), some (.ref 53), some (.ref 54), some (.ref 55), some (.ref 56), some (.ref 57), none, none, some (.int (v13 + ((a_XW_ts u) (((8 * v14) + 3).toNatClampNeg)))), some (.int (v14 + 1)), none, none, none, none, none]) (st' := []) (w' := W_XW f9 u) [] 12 (by with_unfolding_all rfl) (h2) ?_
      exact ev_to2 (hk324 _ _ hR) ⟨rfl, rfl, rfl, rfl, rfl, rfl, rfl, rfl, rfl, rfl, rfl, trivial⟩ rfl rfl

def s_L_would_b275 (F : Nat) (u : S_XW) (p0 : Int32) (p1 : Int32) : Option (Bool × S_XW) := if p0 = p1 then ((s_L_copy F 12 12 (a_XW_q u) (a_XW_qs u)).bind fun y1 => ((s_L_copy F 48 48 (a_XW_th u) (a_XW_ts u)).bind fun y2 => ((s_L_copy F 28 28 (a_XW_sl u) (a_XW_ss u)).bind fun y3 => ((s_L_copy F 64 64 (a_XW_re u) (a_XW_rs u)).bind fun y4 => ((s_L_trial F (y1, y2, y3, y4)).bind fun y5 => (s_L_would_l324 F (m_XW_rs (a_XE_re (y5)) (m_XW_ss (a_XE_sl (y5)) (m_XW_ts (a_XE_th (y5)) (m_XW_qs (a_XE_q (y5)) u)))) F 0 0)))))) else (some (false, u))
set_option maxHeartbeats 4000000 in
set_option maxRecDepth 20000 in
theorem t_L_would_b275 (F : Nat) (u : S_XW) (p0 : Int32) (p1 : Int32) (x : (Bool × S_XW))  (hR : s_L_would_b275 F u p0 p1 = some x) : ev_V mm_L_would none (ev_XR mm_L_would (fun r w => r = some (.int (ev_b x.1)) ∧ w = W_XW f9 x.2)) 275 [some (.ref 0), none, none, some (.ref 50), some (.ref 51), some (.ref 52), some (.ref 53), some (.ref 54), some (.ref 55), some (.ref 56), some (.ref 57), none, none, none, none, none, none, none, none, none] [.int p1, .int p0] (W_XW f9 u) 0 0 := by
  unfold s_L_would_b275 at hR
  refine ev_br rfl rfl (fun h1 => ?_) (fun h1 => ?_)
  · replace hR := lf_t h1 hR
    refine ev_run (cs := []) (pc' := 283) (L' := [some (.ref 0), none, none, some (.ref 50), some (.ref 51), some (.ref 52), some (.ref 53), some (.ref 54), some (.ref 55), some (.ref 56), some (.ref 57), none, none, none, none, none, none, none, none, none]) (st' := [.ref 54, .ref 50]) (w' := W_XW f9 u) [] 2 (by with_unfolding_all rfl) trivial ?_
    obtain ⟨y1, h2, hR⟩ := lf_b hR
    refine ev_callL [50, 54] (t_L_copy F 12 12 (a_XW_q u) (a_XW_qs u) _ h2) cs_L_copy ml_L_87 rfl rfl rfl rfl (by with_unfolding_all rfl) (by decide) (Nat.le_of_ble_eq_true rfl) ⟨Nat.le_of_ble_eq_true rfl, Nat.le_of_ble_eq_true rfl⟩ ⟨Nat.le_refl _, Nat.le_refl _⟩ ?_ ?_
    · rintro r w ⟨rfl, rfl⟩; rfl
    rintro r w ⟨rfl, rfl⟩
    refine ev_nx (pc' := 286) (st' := []) (w' := W_XW f9 (m_XW_qs y1 u)) rfl rfl (by with_unfolding_all rfl) rfl rfl ?_
    refine ev_run (cs := []) (pc' := 290) (L' := [some (.ref 0), none, none, some (.ref 50), some (.ref 51), some (.ref 52), some (.ref 53), some (.ref 54), some (.ref 55), some (.ref 56), some (.ref 57), none, none, none, none, none, none, none, none, none]) (st' := [.ref 55, .ref 51]) (w' := W_XW f9 (m_XW_qs y1 u)) [] 2 (by with_unfolding_all rfl) trivial ?_
    obtain ⟨y2, h3, hR⟩ := lf_b hR
    refine ev_callL [51, 55] (t_L_copy F 48 48 (a_XW_th u) (a_XW_ts u) _ h3) cs_L_copy ml_L_87 rfl rfl rfl rfl (by with_unfolding_all rfl) (by decide) (Nat.le_of_ble_eq_true rfl) ⟨Nat.le_of_ble_eq_true rfl, Nat.le_of_ble_eq_true rfl⟩ ⟨Nat.le_refl _, Nat.le_refl _⟩ ?_ ?_
    · rintro r w ⟨rfl, rfl⟩; rfl
    rintro r w ⟨rfl, rfl⟩
    refine ev_nx (pc' := 293) (st' := []) (w' := W_XW f9 (m_XW_ts y2 (m_XW_qs y1 u))) rfl rfl (by with_unfolding_all rfl) rfl rfl ?_
    refine ev_run (cs := []) (pc' := 297) (L' := [some (.ref 0), none, none, some (.ref 50), some (.ref 51), some (.ref 52), some (.ref 53), some (.ref 54), some (.ref 55), some (.ref 56), some (.ref 57), none, none, none, none, none, none, none, none, none]) (st' := [.ref 56, .ref 52]) (w' := W_XW f9 (m_XW_ts y2 (m_XW_qs y1 u))) [] 2 (by with_unfolding_all rfl) trivial ?_
    obtain ⟨y3, h4, hR⟩ := lf_b hR
    refine ev_callL [52, 56] (t_L_copy F 28 28 (a_XW_sl u) (a_XW_ss u) _ h4) cs_L_copy ml_L_87 rfl rfl rfl rfl (by with_unfolding_all rfl) (by decide) (Nat.le_of_ble_eq_true rfl) ⟨Nat.le_of_ble_eq_true rfl, Nat.le_of_ble_eq_true rfl⟩ ⟨Nat.le_refl _, Nat.le_refl _⟩ ?_ ?_
    · rintro r w ⟨rfl, rfl⟩; rfl
    rintro r w ⟨rfl, rfl⟩
    refine ev_nx (pc' := 300) (st' := []) (w' := W_XW f9 (m_XW_ss y3 (m_XW_ts y2 (m_XW_qs y1 u)))) rfl rfl (by with_unfolding_all rfl) rfl rfl ?_
    refine ev_run (cs := []) (pc' := 304) (L' := [some (.ref 0), none, none, some (.ref 50), some (.ref 51), some (.ref 52), some (.ref 53), some (.ref 54), some (.ref 55), some (.ref 56), some (.ref 57), none, none, none, none, none, none, none, none, none]) (st' := [.ref 57, .ref 53]) (w' := W_XW f9 (m_XW_ss y3 (m_XW_ts y2 (m_XW_qs y1 u)))) [] 2 (by with_unfolding_all rfl) trivial ?_
    obtain ⟨y4, h5, hR⟩ := lf_b hR
    refine ev_callL [53, 57] (t_L_copy F 64 64 (a_XW_re u) (a_XW_rs u) _ h5) cs_L_copy ml_L_87 rfl rfl rfl rfl (by with_unfolding_all rfl) (by decide) (Nat.le_of_ble_eq_true rfl) ⟨Nat.le_of_ble_eq_true rfl, Nat.le_of_ble_eq_true rfl⟩ ⟨Nat.le_refl _, Nat.le_refl _⟩ ?_ ?_
    · rintro r w ⟨rfl, rfl⟩; rfl
    rintro r w ⟨rfl, rfl⟩
    refine ev_nx (pc' := 307) (st' := []) (w' := W_XW f9 (m_XW_rs y4 (m_XW_ss y3 (m_XW_ts y2 (m_XW_qs y1 u))))) rfl rfl (by with_unfolding_all rfl) rfl rfl ?_
    refine ev_run (cs := []) (pc' := 315) (L' := [some (.ref 0), none, none, some (.ref 50), some (.ref 51), some (.ref 52), some (.ref 53), some (.ref 54), some (.ref 55), some (.ref 56), some (.ref 57), none, none, none, none, none, none, none, none, none]) (st' := [.ref 57, .ref 56, .ref 55, .ref 54]) (w' := W_XW f9 (m_XW_rs y4 (m_XW_ss y3 (m_XW_ts y2 (m_XW_qs y1 u))))) [] 4 (by with_unfolding_all rfl) trivial ?_
    obtain ⟨y5, h6, hR⟩ := lf_b hR
    refine ev_callL [54, 55, 56, 57] (t_L_trial F (y1, y2, y3, y4) _ h6) cs_L_trial ml_L_52 rfl rfl rfl rfl (by with_unfolding_all rfl) (by decide) (Nat.le_of_ble_eq_true rfl) ⟨Nat.le_of_ble_eq_true rfl, Nat.le_of_ble_eq_true rfl⟩ ⟨Nat.le_refl _, Nat.le_refl _⟩ ?_ ?_
    · rintro r w ⟨rfl, rfl⟩; rfl
    rintro r w ⟨rfl, rfl⟩
    refine ev_nx (pc' := 318) (st' := []) (w' := W_XW f9 (m_XW_rs (a_XE_re (y5)) (m_XW_ss (a_XE_sl (y5)) (m_XW_ts (a_XE_th (y5)) (m_XW_qs (a_XE_q (y5)) u))))) rfl rfl (by with_unfolding_all rfl) rfl rfl ?_
    refine ev_run (cs := []) (pc' := 324) (L' := [some (.ref 0), none, none, some (.ref 50), some (.ref 51), some (.ref 52), some (.ref 53), some (.ref 54), some (.ref 55), some (.ref 56), some (.ref 57), none, none, some (.int 0), some (.int 0), none, none, none, none, none]) (st' := []) (w' := W_XW f9 (m_XW_rs (a_XE_re (y5)) (m_XW_ss (a_XE_sl (y5)) (m_XW_ts (a_XE_th (y5)) (m_XW_qs (a_XE_q (y5)) u))))) [] 4 (by with_unfolding_all rfl) trivial ?_
    exact ev_to2 (t_L_would_l324 F (m_XW_rs (a_XE_re (y5)) (m_XW_ss (a_XE_sl (y5)) (m_XW_ts (a_XE_th (y5)) (m_XW_qs (a_XE_q (y5)) u)))) _ F 0 0 hR) ⟨rfl, rfl, rfl, rfl, rfl, rfl, rfl, rfl, rfl, rfl, rfl, trivial⟩ rfl rfl
  · replace hR := lf_f h1 hR
    refine ev_run (cs := []) (pc' := 279) (L' := [some (.ref 0), none, none, some (.ref 50), some (.ref 51), some (.ref 52), some (.ref 53), some (.ref 54), some (.ref 55), some (.ref 56), some (.ref 57), none, none, none, none, none, none, none, none, none]) (st' := [.int 0]) (w' := W_XW f9 u) [] 1 (by with_unfolding_all rfl) trivial ?_
    cases hR
    exact ev_exit ⟨_, _, rfl, ⟨rfl, Or.inr ⟨rfl, rfl⟩⟩, ⟨rfl, rfl⟩, Nat.le_refl _, Nat.le_refl _⟩

def s_L_would_b265 (F : Nat) (u : S_XW) (v11 : Int32) (p0 : Int32) : Option (Bool × S_XW) := if v11 < 0 then (s_L_would_b275 F u p0 0) else (s_L_would_b275 F u p0 1)
set_option maxHeartbeats 4000000 in
set_option maxRecDepth 20000 in
theorem t_L_would_b265 (F : Nat) (u : S_XW) (v11 : Int32) (p0 : Int32) (x : (Bool × S_XW))  (hR : s_L_would_b265 F u v11 p0 = some x) : ev_V mm_L_would none (ev_XR mm_L_would (fun r w => r = some (.int (ev_b x.1)) ∧ w = W_XW f9 x.2)) 265 [some (.ref 0), none, none, some (.ref 50), some (.ref 51), some (.ref 52), some (.ref 53), some (.ref 54), some (.ref 55), some (.ref 56), some (.ref 57), some (.int v11), none, none, none, none, none, none, none, none] [.int p0] (W_XW f9 u) 0 0 := by
  unfold s_L_would_b265 at hR
  refine ev_run (cs := []) (pc' := 267) (L' := [some (.ref 0), none, none, some (.ref 50), some (.ref 51), some (.ref 52), some (.ref 53), some (.ref 54), some (.ref 55), some (.ref 56), some (.ref 57), some (.int v11), none, none, none, none, none, none, none, none]) (st' := [.int v11, .int p0]) (w' := W_XW f9 u) [] 1 (by with_unfolding_all rfl) trivial ?_
  refine ev_br rfl rfl (fun h1 => ?_) (fun h1 => ?_)
  · replace hR := lf_t h1 hR
    refine ev_run (cs := []) (pc' := 275) (L' := [some (.ref 0), none, none, some (.ref 50), some (.ref 51), some (.ref 52), some (.ref 53), some (.ref 54), some (.ref 55), some (.ref 56), some (.ref 57), some (.int v11), none, none, none, none, none, none, none, none]) (st' := [.int 0, .int p0]) (w' := W_XW f9 u) [] 1 (by with_unfolding_all rfl) trivial ?_
    exact ev_to2 (t_L_would_b275 F u p0 0 _ hR) ⟨rfl, rfl, rfl, rfl, rfl, rfl, rfl, rfl, rfl, trivial⟩ rfl rfl
  · replace hR := lf_f h1 hR
    refine ev_run (cs := []) (pc' := 275) (L' := [some (.ref 0), none, none, some (.ref 50), some (.ref 51), some (.ref 52), some (.ref 53), some (.ref 54), some (.ref 55), some (.ref 56), some (.ref 57), some (.int v11), none, none, none, none, none, none, none, none]) (st' := [.int 1, .int p0]) (w' := W_XW f9 u) [] 2 (by with_unfolding_all rfl) trivial ?_
    exact ev_to2 (t_L_would_b275 F u p0 1 _ hR) ⟨rfl, rfl, rfl, rfl, rfl, rfl, rfl, rfl, rfl, trivial⟩ rfl rfl

def s_L_would_b252 (F : Nat) (u : S_XW) (v1 : Int32) (v11 : Int32) : Option (Bool × S_XW) := (s_X4_bears F (a_XW_g u) v1).bind fun y1 => (if y1.1 = 0 then (s_L_would_b265 F (m_XW_g y1.2 u) v11 1) else (s_L_would_b265 F (m_XW_g y1.2 u) v11 0))
set_option maxHeartbeats 4000000 in
set_option maxRecDepth 20000 in
theorem t_L_would_b252 (F : Nat) (u : S_XW) (v1 : Int32) (v11 : Int32) (x : (Bool × S_XW))  (hR : s_L_would_b252 F u v1 v11 = some x) : ev_V mm_L_would none (ev_XR mm_L_would (fun r w => r = some (.int (ev_b x.1)) ∧ w = W_XW f9 x.2)) 252 [some (.ref 0), some (.int v1), none, some (.ref 50), some (.ref 51), some (.ref 52), some (.ref 53), some (.ref 54), some (.ref 55), some (.ref 56), some (.ref 57), some (.int v11), none, none, none, none, none, none, none, none] [] (W_XW f9 u) 0 0 := by
  unfold s_L_would_b252 at hR
  refine ev_run (cs := []) (pc' := 254) (L' := [some (.ref 0), some (.int v1), none, some (.ref 50), some (.ref 51), some (.ref 52), some (.ref 53), some (.ref 54), some (.ref 55), some (.ref 56), some (.ref 57), some (.int v11), none, none, none, none, none, none, none, none]) (st' := [.int v1, .ref 0]) (w' := W_XW f9 u) [] 2 (by with_unfolding_all rfl) trivial ?_
  obtain ⟨y1, h1, hR⟩ := lf_b hR
  refine ev_callV1 0 (t_X4_bears F (a_XW_g u) v1 _ h1) cv_X4_bears ml_L_100 rfl rfl rfl (Nat.le_of_ble_eq_true rfl) (by with_unfolding_all rfl) (Nat.le_of_ble_eq_true rfl) ⟨Nat.le_of_ble_eq_true rfl, Nat.le_of_ble_eq_true rfl⟩ ⟨Nat.le_refl _, Nat.le_refl _⟩ ?_ ?_
  · rintro r w ⟨rfl, rfl⟩; rfl
  rintro r w ⟨rfl, rfl⟩
  refine ev_nx (pc' := 257) (st' := [.int y1.1]) (w' := W_XW f9 (m_XW_g y1.2 u)) rfl rfl (by with_unfolding_all rfl) rfl rfl ?_
  refine ev_br rfl rfl (fun h2 => ?_) (fun h2 => ?_)
  · replace hR := lf_f h2 hR
    refine ev_run (cs := []) (pc' := 265) (L' := [some (.ref 0), some (.int v1), none, some (.ref 50), some (.ref 51), some (.ref 52), some (.ref 53), some (.ref 54), some (.ref 55), some (.ref 56), some (.ref 57), some (.int v11), none, none, none, none, none, none, none, none]) (st' := [.int 0]) (w' := W_XW f9 (m_XW_g y1.2 u)) [] 1 (by with_unfolding_all rfl) trivial ?_
    exact ev_to2 (t_L_would_b265 F (m_XW_g y1.2 u) v11 0 _ hR) ⟨rfl, rfl, rfl, rfl, rfl, rfl, rfl, rfl, rfl, rfl, trivial⟩ rfl rfl
  · replace hR := lf_t h2 hR
    refine ev_run (cs := []) (pc' := 265) (L' := [some (.ref 0), some (.int v1), none, some (.ref 50), some (.ref 51), some (.ref 52), some (.ref 53), some (.ref 54), some (.ref 55), some (.ref 56), some (.ref 57), some (.int v11), none, none, none, none, none, none, none, none]) (st' := [.int 1]) (w' := W_XW f9 (m_XW_g y1.2 u)) [] 2 (by with_unfolding_all rfl) trivial ?_
    exact ev_to2 (t_L_would_b265 F (m_XW_g y1.2 u) v11 1 _ hR) ⟨rfl, rfl, rfl, rfl, rfl, rfl, rfl, rfl, rfl, rfl, trivial⟩ rfl rfl

def s_L_would_b216 (F : Nat) (u : S_XW) (v1 : Int32) (v11 : Int32) : Option (Bool × S_XW) := (s_X4_endsIn F (a_XW_g u) v1).bind fun y1 => (if v11 < 0 then (if y1.1 < 0 then (s_L_would_b252 F (m_XW_g y1.2 u) v1 v11) else (if 30 < y1.1 then (s_L_would_b252 F (m_XW_g y1.2 u) v1 v11) else (some (false, m_XW_g y1.2 u)))) else (if y1.1 = v11 then (s_L_would_b252 F (m_XW_g y1.2 u) v1 v11) else (some (false, m_XW_g y1.2 u))))
set_option maxHeartbeats 4000000 in
set_option maxRecDepth 20000 in
theorem t_L_would_b216 (F : Nat) (u : S_XW) (v1 : Int32) (v11 : Int32) (x : (Bool × S_XW))  (hR : s_L_would_b216 F u v1 v11 = some x) : ev_V mm_L_would none (ev_XR mm_L_would (fun r w => r = some (.int (ev_b x.1)) ∧ w = W_XW f9 x.2)) 216 [some (.ref 0), some (.int v1), none, some (.ref 50), some (.ref 51), some (.ref 52), some (.ref 53), some (.ref 54), some (.ref 55), some (.ref 56), some (.ref 57), some (.int v11), none, none, none, none, none, none, none, none] [] (W_XW f9 u) 0 0 := by
  unfold s_L_would_b216 at hR
  refine ev_run (cs := []) (pc' := 218) (L' := [some (.ref 0), some (.int v1), none, some (.ref 50), some (.ref 51), some (.ref 52), some (.ref 53), some (.ref 54), some (.ref 55), some (.ref 56), some (.ref 57), some (.int v11), none, none, none, none, none, none, none, none]) (st' := [.int v1, .ref 0]) (w' := W_XW f9 u) [] 2 (by with_unfolding_all rfl) trivial ?_
  obtain ⟨y1, h1, hR⟩ := lf_b hR
  refine ev_callV1 0 (t_X4_endsIn F (a_XW_g u) v1 _ h1) cv_X4_endsIn ml_L_97 rfl rfl rfl (Nat.le_of_ble_eq_true rfl) (by with_unfolding_all rfl) (Nat.le_of_ble_eq_true rfl) ⟨Nat.le_of_ble_eq_true rfl, Nat.le_of_ble_eq_true rfl⟩ ⟨Nat.le_refl _, Nat.le_refl _⟩ ?_ ?_
  · rintro r w ⟨rfl, rfl⟩; rfl
  rintro r w ⟨rfl, rfl⟩
  refine ev_nx (pc' := 221) (st' := [.int y1.1]) (w' := W_XW f9 (m_XW_g y1.2 u)) rfl rfl (by with_unfolding_all rfl) rfl rfl ?_
  refine ev_run (cs := []) (pc' := 225) (L' := [some (.ref 0), some (.int v1), none, some (.ref 50), some (.ref 51), some (.ref 52), some (.ref 53), some (.ref 54), some (.ref 55), some (.ref 56), some (.ref 57), some (.int v11), some (.int y1.1), none, none, none, none, none, none, none]) (st' := [.int v11]) (w' := W_XW f9 (m_XW_g y1.2 u)) [] 2 (by with_unfolding_all rfl) trivial ?_
  refine ev_br rfl rfl (fun h2 => ?_) (fun h2 => ?_)
  · replace hR := lf_t h2 hR
    refine ev_run (cs := []) (pc' := 240) (L' := [some (.ref 0), some (.int v1), none, some (.ref 50), some (.ref 51), some (.ref 52), some (.ref 53), some (.ref 54), some (.ref 55), some (.ref 56), some (.ref 57), some (.int v11), some (.int y1.1), none, none, none, none, none, none, none]) (st' := [.int y1.1]) (w' := W_XW f9 (m_XW_g y1.2 u)) [] 1 (by with_unfolding_all rfl) trivial ?_
    refine ev_br rfl rfl (fun h3 => ?_) (fun h3 => ?_)
    · replace hR := lf_t h3 hR
      exact ev_to2 (t_L_would_b252 F (m_XW_g y1.2 u) v1 v11 _ hR) ⟨rfl, rfl, rfl, rfl, rfl, rfl, rfl, rfl, rfl, rfl, rfl, trivial⟩ rfl rfl
    · replace hR := lf_f h3 hR
      refine ev_run (cs := []) (pc' := 247) (L' := [some (.ref 0), some (.int v1), none, some (.ref 50), some (.ref 51), some (.ref 52), some (.ref 53), some (.ref 54), some (.ref 55), some (.ref 56), some (.ref 57), some (.int v11), some (.int y1.1), none, none, none, none, none, none, none]) (st' := [.int 30, .int y1.1]) (w' := W_XW f9 (m_XW_g y1.2 u)) [] 2 (by with_unfolding_all rfl) trivial ?_
      refine ev_br rfl rfl (fun h4 => ?_) (fun h4 => ?_)
      · replace hR := lf_t h4 hR
        exact ev_to2 (t_L_would_b252 F (m_XW_g y1.2 u) v1 v11 _ hR) ⟨rfl, rfl, rfl, rfl, rfl, rfl, rfl, rfl, rfl, rfl, rfl, trivial⟩ rfl rfl
      · replace hR := lf_f h4 hR
        refine ev_run (cs := []) (pc' := 251) (L' := [some (.ref 0), some (.int v1), none, some (.ref 50), some (.ref 51), some (.ref 52), some (.ref 53), some (.ref 54), some (.ref 55), some (.ref 56), some (.ref 57), some (.int v11), some (.int y1.1), none, none, none, none, none, none, none]) (st' := [.int 0]) (w' := W_XW f9 (m_XW_g y1.2 u)) [] 1 (by with_unfolding_all rfl) trivial ?_
        cases hR
        exact ev_exit ⟨_, _, rfl, ⟨rfl, Or.inr ⟨rfl, rfl⟩⟩, ⟨rfl, rfl⟩, Nat.le_refl _, Nat.le_refl _⟩
  · replace hR := lf_f h2 hR
    refine ev_run (cs := []) (pc' := 232) (L' := [some (.ref 0), some (.int v1), none, some (.ref 50), some (.ref 51), some (.ref 52), some (.ref 53), some (.ref 54), some (.ref 55), some (.ref 56), some (.ref 57), some (.int v11), some (.int y1.1), none, none, none, none, none, none, none]) (st' := [.int v11, .int y1.1]) (w' := W_XW f9 (m_XW_g y1.2 u)) [] 2 (by with_unfolding_all rfl) trivial ?_
    refine ev_br rfl rfl (fun h5 => ?_) (fun h5 => ?_)
    · replace hR := lf_t h5 hR
      exact ev_to2 (t_L_would_b252 F (m_XW_g y1.2 u) v1 v11 _ hR) ⟨rfl, rfl, rfl, rfl, rfl, rfl, rfl, rfl, rfl, rfl, rfl, trivial⟩ rfl rfl
    · replace hR := lf_f h5 hR
      refine ev_run (cs := []) (pc' := 251) (L' := [some (.ref 0), some (.int v1), none, some (.ref 50), some (.ref 51), some (.ref 52), some (.ref 53), some (.ref 54), some (.ref 55), some (.ref 56), some (.ref 57), some (.int v11), some (.int y1.1), none, none, none, none, none, none, none]) (st' := [.int 0]) (w' := W_XW f9 (m_XW_g y1.2 u)) [] 2 (by with_unfolding_all rfl) trivial ?_
      cases hR
      exact ev_exit ⟨_, _, rfl, ⟨rfl, Or.inr ⟨rfl, rfl⟩⟩, ⟨rfl, rfl⟩, Nat.le_refl _, Nat.le_refl _⟩

def s_L_would_b150 (F : Nat) (k46 : S_XW → Int32 → Int32 → Option (Bool × S_XW)) (u : S_XW) (v1 : Int32) (v2 : Int32) (v11 : Int32) (v12 : Int32) (v13 : Int32) : Option (Bool × S_XW) := (s_X4_ifPassed F (a_XW_g u) v2 0).bind fun y1 => (if y1.1 = (((a_XW_qs u) (3 : Int32).toNatClampNeg) - ((a_XW_q u) (3 : Int32).toNatClampNeg)) then ((s_X4_ifPassed F y1.2 v2 1).bind fun y2 => (if y2.1 = (((a_XW_qs u) (5 : Int32).toNatClampNeg) - ((a_XW_q u) (5 : Int32).toNatClampNeg)) then ((s_X4_ifPassed F y2.2 v2 2).bind fun y3 => (if y3.1 = ((a_XW_qs u) (2 : Int32).toNatClampNeg) then ((s_X4_ifPassed F y3.2 v2 3).bind fun y4 => (if y4.1 = v13 then (k46 (m_XW_g y4.2 u) v11 (v12 + 1)) else (some (false, m_XW_g y4.2 u)))) else (some (false, m_XW_g y3.2 u)))) else (some (false, m_XW_g y2.2 u)))) else (some (false, m_XW_g y1.2 u)))
set_option maxHeartbeats 4000000 in
set_option maxRecDepth 20000 in
theorem t_L_would_b150 (F : Nat) (k46 : S_XW → Int32 → Int32 → Option (Bool × S_XW)) (u : S_XW) (v1 : Int32) (v2 : Int32) (v11 : Int32) (v12 : Int32) (v13 : Int32) (x : (Bool × S_XW)) (hk46 : ∀ (u : S_XW) (v11 : Int32) (v12 : Int32), k46 u v11 v12 = some x → ev_V mm_L_would none (ev_XR mm_L_would (fun r w => r = some (.int (ev_b x.1)) ∧ w = W_XW f9 x.2)) 46 [some (.ref 0), some (.int v1), some (.int v2), some (.ref 50), some (.ref 51), some (.ref 52), some (.ref 53), some (.ref 54), some (.ref 55), some (.ref 56), some (.ref 57), some (.int v11), some (.int v12), none, none, none, none, none, none, none] [] (W_XW f9 u) 0 0) (hR : s_L_would_b150 F k46 u v1 v2 v11 v12 v13 = some x) : ev_V mm_L_would none (ev_XR mm_L_would (fun r w => r = some (.int (ev_b x.1)) ∧ w = W_XW f9 x.2)) 150 [some (.ref 0), some (.int v1), some (.int v2), some (.ref 50), some (.ref 51), some (.ref 52), some (.ref 53), some (.ref 54), some (.ref 55), some (.ref 56), some (.ref 57), some (.int v11), some (.int v12), some (.int v13), none, none, none, none, none, none] [] (W_XW f9 u) 0 0 := by
  unfold s_L_would_b150 at hR
  refine ev_run (cs := []) (pc' := 153) (L' := [some (.ref 0), some (.int v1), some (.int v2), some (.ref 50), some (.ref 51), some (.ref 52), some (.ref 53), some (.ref 54), some (.ref 55), some (.ref 56), some (.ref 57), some (.int v11), some (.int v12), some (.int v13), none, none, none, none, none, none]) (st' := [.int 0, .int v2, .ref 0]) (w' := W_XW f9 u) [] 3 (by with_unfolding_all rfl) trivial ?_
  obtain ⟨y1, h1, hR⟩ := lf_b hR
  refine ev_callV1 0 (t_X4_ifPassed F (a_XW_g u) v2 0 _ h1) cv_X4_ifPassed ml_L_94 rfl rfl rfl (Nat.le_of_ble_eq_true rfl) (by with_unfolding_all rfl) (Nat.le_of_ble_eq_true rfl) ⟨Nat.le_of_ble_eq_true rfl, Nat.le_of_ble_eq_true rfl⟩ ⟨Nat.le_refl _, Nat.le_refl _⟩ ?_ ?_
  · rintro r w ⟨rfl, rfl⟩; rfl
  rintro r w ⟨rfl, rfl⟩
  refine ev_nx (pc' := 156) (st' := [.int y1.1]) (w' := W_XW f9 (m_XW_g y1.2 u)) rfl rfl (by with_unfolding_all rfl) rfl rfl ?_
  refine ev_run (cs := [lf_ix 3 12, lf_ix 3 12]) (pc' := 164) (L' := [some (.ref 0), some (.int v1), some (.int v2), some (.ref 50), some (.ref 51), some (.ref 52), some (.ref 53), some (.ref 54), some (.ref 55), some (.ref 56), some (.ref 57), some (.int v11), some (.int v12), some (.int v13), none, none, none, none, none, none]) (st' := [.int (((a_XW_qs u) (3 : Int32).toNatClampNeg) - ((a_XW_q u) (3 : Int32).toNatClampNeg)), .int y1.1]) (w' := W_XW f9 (m_XW_g y1.2 u)) [] 7 (by with_unfolding_all rfl) ⟨by show ¬ _; decide, by show ¬ _; decide⟩ ?_
  refine ev_br rfl rfl (fun h2 => ?_) (fun h2 => ?_)
  · replace hR := lf_f h2 hR
    refine ev_run (cs := []) (pc' := 209) (L' := [some (.ref 0), some (.int v1), some (.int v2), some (.ref 50), some (.ref 51), some (.ref 52), some (.ref 53), some (.ref 54), some (.ref 55), some (.ref 56), some (.ref 57), some (.int v11), some (.int v12), some (.int v13), none, none, none, none, none, none]) (st' := [.int 0]) (w' := W_XW f9 (m_XW_g y1.2 u)) [] 1 (by with_unfolding_all rfl) trivial ?_
    cases hR
    exact ev_exit ⟨_, _, rfl, ⟨rfl, Or.inr ⟨rfl, rfl⟩⟩, ⟨rfl, rfl⟩, Nat.le_refl _, Nat.le_refl _⟩
  · replace hR := lf_t h2 hR
    refine ev_run (cs := []) (pc' := 170) (L' := [some (.ref 0), some (.int v1), some (.int v2), some (.ref 50), some (.ref 51), some (.ref 52), some (.ref 53), some (.ref 54), some (.ref 55), some (.ref 56), some (.ref 57), some (.int v11), some (.int v12), some (.int v13), none, none, none, none, none, none]) (st' := [.int 1, .int v2, .ref 0]) (w' := W_XW f9 (m_XW_g y1.2 u)) [] 3 (by with_unfolding_all rfl) trivial ?_
    obtain ⟨y2, h3, hR⟩ := lf_b hR
    refine ev_callV1 0 (t_X4_ifPassed F y1.2 v2 1 _ h3) cv_X4_ifPassed ml_L_94 rfl rfl rfl (Nat.le_of_ble_eq_true rfl) (by with_unfolding_all rfl) (Nat.le_of_ble_eq_true rfl) ⟨Nat.le_of_ble_eq_true rfl, Nat.le_of_ble_eq_true rfl⟩ ⟨Nat.le_refl _, Nat.le_refl _⟩ ?_ ?_
    · rintro r w ⟨rfl, rfl⟩; rfl
    rintro r w ⟨rfl, rfl⟩
    refine ev_nx (pc' := 173) (st' := [.int y2.1]) (w' := W_XW f9 (m_XW_g y2.2 u)) rfl rfl (by with_unfolding_all rfl) rfl rfl ?_
    refine ev_run (cs := [lf_ix 5 12, lf_ix 5 12]) (pc' := 181) (L' := [some (.ref 0), some (.int v1), some (.int v2), some (.ref 50), some (.ref 51), some (.ref 52), some (.ref 53), some (.ref 54), some (.ref 55), some (.ref 56), some (.ref 57), some (.int v11), some (.int v12), some (.int v13), none, none, none, none, none, none]) (st' := [.int (((a_XW_qs u) (5 : Int32).toNatClampNeg) - ((a_XW_q u) (5 : Int32).toNatClampNeg)), .int y2.1]) (w' := W_XW f9 (m_XW_g y2.2 u)) [] 7 (by with_unfolding_all rfl) ⟨by show ¬ _; decide, by show ¬ _; decide⟩ ?_
    refine ev_br rfl rfl (fun h4 => ?_) (fun h4 => ?_)
    · replace hR := lf_f h4 hR
      refine ev_run (cs := []) (pc' := 209) (L' := [some (.ref 0), some (.int v1), some (.int v2), some (.ref 50), some (.ref 51), some (.ref 52), some (.ref 53), some (.ref 54), some (.ref 55), some (.ref 56), some (.ref 57), some (.int v11), some (.int v12), some (.int v13), none, none, none, none, none, none]) (st' := [.int 0]) (w' := W_XW f9 (m_XW_g y2.2 u)) [] 1 (by with_unfolding_all rfl) trivial ?_
      cases hR
      exact ev_exit ⟨_, _, rfl, ⟨rfl, Or.inr ⟨rfl, rfl⟩⟩, ⟨rfl, rfl⟩, Nat.le_refl _, Nat.le_refl _⟩
    · replace hR := lf_t h4 hR
      refine ev_run (cs := []) (pc' := 187) (L' := [some (.ref 0), some (.int v1), some (.int v2), some (.ref 50), some (.ref 51), some (.ref 52), some (.ref 53), some (.ref 54), some (.ref 55), some (.ref 56), some (.ref 57), some (.int v11), some (.int v12), some (.int v13), none, none, none, none, none, none]) (st' := [.int 2, .int v2, .ref 0]) (w' := W_XW f9 (m_XW_g y2.2 u)) [] 3 (by with_unfolding_all rfl) trivial ?_
      obtain ⟨y3, h5, hR⟩ := lf_b hR
      refine ev_callV1 0 (t_X4_ifPassed F y2.2 v2 2 _ h5) cv_X4_ifPassed ml_L_94 rfl rfl rfl (Nat.le_of_ble_eq_true rfl) (by with_unfolding_all rfl) (Nat.le_of_ble_eq_true rfl) ⟨Nat.le_of_ble_eq_true rfl, Nat.le_of_ble_eq_true rfl⟩ ⟨Nat.le_refl _, Nat.le_refl _⟩ ?_ ?_
      · rintro r w ⟨rfl, rfl⟩; rfl
      rintro r w ⟨rfl, rfl⟩
      refine ev_nx (pc' := 190) (st' := [.int y3.1]) (w' := W_XW f9 (m_XW_g y3.2 u)) rfl rfl (by with_unfolding_all rfl) rfl rfl ?_
      refine ev_run (cs := [lf_ix 2 12]) (pc' := 194) (L' := [some (.ref 0), some (.int v1), some (.int v2), some (.ref 50), some (.ref 51), some (.ref 52), some (.ref 53), some (.ref 54), some (.ref 55), some (.ref 56), some (.ref 57), some (.int v11), some (.int v12), some (.int v13), none, none, none, none, none, none]) (st' := [.int ((a_XW_qs u) (2 : Int32).toNatClampNeg), .int y3.1]) (w' := W_XW f9 (m_XW_g y3.2 u)) [] 3 (by with_unfolding_all rfl) (by show ¬ _; decide) ?_
      refine ev_br rfl rfl (fun h6 => ?_) (fun h6 => ?_)
      · replace hR := lf_f h6 hR
        refine ev_run (cs := []) (pc' := 209) (L' := [some (.ref 0), some (.int v1), some (.int v2), some (.ref 50), some (.ref 51), some (.ref 52), some (.ref 53), some (.ref 54), some (.ref 55), some (.ref 56), some (.ref 57), some (.int v11), some (.int v12), some (.int v13), none, none, none, none, none, none]) (st' := [.int 0]) (w' := W_XW f9 (m_XW_g y3.2 u)) [] 1 (by with_unfolding_all rfl) trivial ?_
        cases hR
        exact ev_exit ⟨_, _, rfl, ⟨rfl, Or.inr ⟨rfl, rfl⟩⟩, ⟨rfl, rfl⟩, Nat.le_refl _, Nat.le_refl _⟩
      · replace hR := lf_t h6 hR
        refine ev_run (cs := []) (pc' := 200) (L' := [some (.ref 0), some (.int v1), some (.int v2), some (.ref 50), some (.ref 51), some (.ref 52), some (.ref 53), some (.ref 54), some (.ref 55), some (.ref 56), some (.ref 57), some (.int v11), some (.int v12), some (.int v13), none, none, none, none, none, none]) (st' := [.int 3, .int v2, .ref 0]) (w' := W_XW f9 (m_XW_g y3.2 u)) [] 3 (by with_unfolding_all rfl) trivial ?_
        obtain ⟨y4, h7, hR⟩ := lf_b hR
        refine ev_callV1 0 (t_X4_ifPassed F y3.2 v2 3 _ h7) cv_X4_ifPassed ml_L_94 rfl rfl rfl (Nat.le_of_ble_eq_true rfl) (by with_unfolding_all rfl) (Nat.le_of_ble_eq_true rfl) ⟨Nat.le_of_ble_eq_true rfl, Nat.le_of_ble_eq_true rfl⟩ ⟨Nat.le_refl _, Nat.le_refl _⟩ ?_ ?_
        · rintro r w ⟨rfl, rfl⟩; rfl
        rintro r w ⟨rfl, rfl⟩
        refine ev_nx (pc' := 203) (st' := [.int y4.1]) (w' := W_XW f9 (m_XW_g y4.2 u)) rfl rfl (by with_unfolding_all rfl) rfl rfl ?_
        refine ev_run (cs := []) (pc' := 205) (L' := [some (.ref 0), some (.int v1), some (.int v2), some (.ref 50), some (.ref 51), some (.ref 52), some (.ref 53), some (.ref 54), some (.ref 55), some (.ref 56), some (.ref 57), some (.int v11), some (.int v12), some (.int v13), none, none, none, none, none, none]) (st' := [.int v13, .int y4.1]) (w' := W_XW f9 (m_XW_g y4.2 u)) [] 1 (by with_unfolding_all rfl) trivial ?_
        refine ev_br rfl rfl (fun h8 => ?_) (fun h8 => ?_)
        · replace hR := lf_t h8 hR
          refine ev_run (cs := []) (pc' := 46) (L' := [some (.ref 0), some (.int v1), some (.int v2), some (.ref 50), some (.ref 51), some (.ref 52), some (.ref 53), some (.ref 54), some (.ref 55), some (.ref 56), some (.ref 57), some (.int v11), some (.int (v12 + 1)), some (.int v13), none, none, none, none, none, none]) (st' := []) (w' := W_XW f9 (m_XW_g y4.2 u)) [] 2 (by with_unfolding_all rfl) trivial ?_
          exact ev_to2 (hk46 _ _ _ hR) ⟨rfl, rfl, rfl, rfl, rfl, rfl, rfl, rfl, rfl, rfl, rfl, rfl, rfl, trivial⟩ rfl rfl
        · replace hR := lf_f h8 hR
          refine ev_run (cs := []) (pc' := 209) (L' := [some (.ref 0), some (.int v1), some (.int v2), some (.ref 50), some (.ref 51), some (.ref 52), some (.ref 53), some (.ref 54), some (.ref 55), some (.ref 56), some (.ref 57), some (.int v11), some (.int v12), some (.int v13), none, none, none, none, none, none]) (st' := [.int 0]) (w' := W_XW f9 (m_XW_g y4.2 u)) [] 1 (by with_unfolding_all rfl) trivial ?_
          cases hR
          exact ev_exit ⟨_, _, rfl, ⟨rfl, Or.inr ⟨rfl, rfl⟩⟩, ⟨rfl, rfl⟩, Nat.le_refl _, Nat.le_refl _⟩

def s_L_would_l102 (F : Nat) (u : S_XW) (v1 : Int32) (v2 : Int32) (v11 : Int32) (v12 : Int32) (k46 : S_XW → Int32 → Int32 → Option (Bool × S_XW)) : Nat → Int32 → Int32 → Option (Bool × S_XW)
  | 0 => fun _ _ => none
  | n + 1 => fun v13 v14 => if 6 ≤ v14 then (s_L_would_b150 F k46 u v1 v2 v11 v12 v13) else ((s_L_lives F 48 (a_XW_ts u) v14).bind fun y1 => (if y1 then ((s_L_held F 48 28 (a_XW_ts u) (a_XW_ss u)).bind fun y2 => (if ((y2 >>> (v14 &&& 31)) &&& 1) = 0 then (s_L_would_l102 F u v1 v2 v11 v12 k46 n (v13 + 1) (v14 + 1)) else (s_L_would_l102 F u v1 v2 v11 v12 k46 n (v13 + 0) (v14 + 1)))) else (s_L_would_l102 F u v1 v2 v11 v12 k46 n (v13 + 0) (v14 + 1))))
theorem e_L_would_l102 (F : Nat) (u : S_XW) (v1 : Int32) (v2 : Int32) (v11 : Int32) (v12 : Int32) (k46 : S_XW → Int32 → Int32 → Option (Bool × S_XW)) (n : Nat) (v13 : Int32) (v14 : Int32) : s_L_would_l102 F u v1 v2 v11 v12 k46 (n + 1) v13 v14 = if 6 ≤ v14 then (s_L_would_b150 F k46 u v1 v2 v11 v12 v13) else ((s_L_lives F 48 (a_XW_ts u) v14).bind fun y1 => (if y1 then ((s_L_held F 48 28 (a_XW_ts u) (a_XW_ss u)).bind fun y2 => (if ((y2 >>> (v14 &&& 31)) &&& 1) = 0 then (s_L_would_l102 F u v1 v2 v11 v12 k46 n (v13 + 1) (v14 + 1)) else (s_L_would_l102 F u v1 v2 v11 v12 k46 n (v13 + 0) (v14 + 1)))) else (s_L_would_l102 F u v1 v2 v11 v12 k46 n (v13 + 0) (v14 + 1)))) := rfl
set_option maxHeartbeats 4000000 in
set_option maxRecDepth 20000 in
theorem t_L_would_l102 (F : Nat) (u : S_XW) (v1 : Int32) (v2 : Int32) (v11 : Int32) (v12 : Int32) (k46 : S_XW → Int32 → Int32 → Option (Bool × S_XW)) (x : (Bool × S_XW)) (hk46 : ∀ (u : S_XW) (v11 : Int32) (v12 : Int32), k46 u v11 v12 = some x → ev_V mm_L_would none (ev_XR mm_L_would (fun r w => r = some (.int (ev_b x.1)) ∧ w = W_XW f9 x.2)) 46 [some (.ref 0), some (.int v1), some (.int v2), some (.ref 50), some (.ref 51), some (.ref 52), some (.ref 53), some (.ref 54), some (.ref 55), some (.ref 56), some (.ref 57), some (.int v11), some (.int v12), none, none, none, none, none, none, none] [] (W_XW f9 u) 0 0) : ∀ (n : Nat) (v13 : Int32) (v14 : Int32), s_L_would_l102 F u v1 v2 v11 v12 k46 n v13 v14 = some x → ev_V mm_L_would none (ev_XR mm_L_would (fun r w => r = some (.int (ev_b x.1)) ∧ w = W_XW f9 x.2)) 102 [some (.ref 0), some (.int v1), some (.int v2), some (.ref 50), some (.ref 51), some (.ref 52), some (.ref 53), some (.ref 54), some (.ref 55), some (.ref 56), some (.ref 57), some (.int v11), some (.int v12), some (.int v13), some (.int v14), none, none, none, none, none] [] (W_XW f9 u) 0 0 := by
  intro n
  induction n with
  | zero => intro v13 v14 hR; cases hR
  | succ n hk102 =>
    intro v13 v14 hR
    unfold s_L_would_l102 at hR
    refine ev_run (cs := []) (pc' := 106) (L' := [some (.ref 0), some (.int v1), some (.int v2), some (.ref 50), some (.ref 51), some (.ref 52), some (.ref 53), some (.ref 54), some (.ref 55), some (.ref 56), some (.ref 57), some (.int v11), some (.int v12), some (.int v13), some (.int v14), none, none, none, none, none]) (st' := [.int 6, .int v14]) (w' := W_XW f9 u) [] 2 (by with_unfolding_all rfl) trivial ?_
    refine ev_br rfl rfl (fun h1 => ?_) (fun h1 => ?_)
    · replace hR := lf_t h1 hR
      exact ev_to2 (t_L_would_b150 F k46 u v1 v2 v11 v12 v13 _ hk46 hR) ⟨rfl, rfl, rfl, rfl, rfl, rfl, rfl, rfl, rfl, rfl, rfl, rfl, rfl, rfl, trivial⟩ rfl rfl
    · replace hR := lf_f h1 hR
      refine ev_run (cs := []) (pc' := 115) (L' := [some (.ref 0), some (.int v1), some (.int v2), some (.ref 50), some (.ref 51), some (.ref 52), some (.ref 53), some (.ref 54), some (.ref 55), some (.ref 56), some (.ref 57), some (.int v11), some (.int v12), some (.int v13), some (.int v14), none, none, none, none, none]) (st' := [.ref 55, .int v14, .int v13]) (w' := W_XW f9 u) [] 3 (by with_unfolding_all rfl) trivial ?_
      obtain ⟨y1, h2, hR⟩ := lf_b hR
      refine ev_callL [55] (t_L_lives F 48 (a_XW_ts u) v14 _ h2) cs_L_lives ml_L_24 rfl rfl rfl rfl (by with_unfolding_all rfl) (by decide) (Nat.le_of_ble_eq_true rfl) ⟨Nat.le_of_ble_eq_true rfl, Nat.le_of_ble_eq_true rfl⟩ ⟨Nat.le_refl _, Nat.le_refl _⟩ ?_ ?_
      · rintro r w ⟨rfl, rfl⟩; rfl
      rintro r w ⟨rfl, rfl⟩
      refine ev_nx (pc' := 118) (st' := [.int (ev_b y1), .int v13]) (w' := W_XW f9 u) rfl rfl (by with_unfolding_all rfl) rfl rfl ?_
      refine ev_br rfl rfl (fun h3 => ?_) (fun h3 => ?_)
      · replace hR := lf_z0 h3 hR
        refine ev_run (cs := []) (pc' := 102) (L' := [some (.ref 0), some (.int v1), some (.int v2), some (.ref 50), some (.ref 51), some (.ref 52), some (.ref 53), some (.ref 54), some (.ref 55), some (.ref 56), some (.ref 57), some (.int v11), some (.int v12), some (.int (v13 + 0)), some (.int (v14 + 1)), none, none, none, none, none]) (st' := []) (w' := W_XW f9 u) [] 5 (by with_unfolding_all rfl) trivial ?_
        exact ev_to2 (hk102 _ _ hR) ⟨rfl, rfl, rfl, rfl, rfl, rfl, rfl, rfl, rfl, rfl, rfl, rfl, rfl, rfl, rfl, trivial⟩ rfl rfl
      · replace hR := lf_z1 h3 hR
        refine ev_run (cs := []) (pc' := 125) (L' := [some (.ref 0), some (.int v1), some (.int v2), some (.ref 50), some (.ref 51), some (.ref 52), some (.ref 53), some (.ref 54), some (.ref 55), some (.ref 56), some (.ref 57), some (.int v11), some (.int v12), some (.int v13), some (.int v14), none, none, none, none, none]) (st' := [.ref 56, .ref 55, .int v13]) (w' := W_XW f9 u) [] 2 (by with_unfolding_all rfl) trivial ?_
        obtain ⟨y2, h4, hR⟩ := lf_b hR
        refine ev_callL [55, 56] (t_L_held F 48 28 (a_XW_ts u) (a_XW_ss u) _ h4) cs_L_held ml_L_55 rfl rfl rfl rfl (by with_unfolding_all rfl) (by decide) (Nat.le_of_ble_eq_true rfl) ⟨Nat.le_of_ble_eq_true rfl, Nat.le_of_ble_eq_true rfl⟩ ⟨Nat.le_refl _, Nat.le_refl _⟩ ?_ ?_
        · rintro r w ⟨rfl, rfl⟩; rfl
        rintro r w ⟨rfl, rfl⟩
        refine ev_nx (pc' := 128) (st' := [.int y2, .int v13]) (w' := W_XW f9 u) rfl rfl (by with_unfolding_all rfl) rfl rfl ?_
        refine ev_run (cs := []) (pc' := 133) (L' := [some (.ref 0), some (.int v1), some (.int v2), some (.ref 50), some (.ref 51), some (.ref 52), some (.ref 53), some (.ref 54), some (.ref 55), some (.ref 56), some (.ref 57), some (.int v11), some (.int v12), some (.int v13), some (.int v14), none, none, none, none, none]) (st' := [.int ((y2 >>> (v14 &&& 31)) &&& 1), .int v13]) (w' := W_XW f9 u) [] 4 (by with_unfolding_all rfl) trivial ?_
        refine ev_br rfl rfl (fun h5 => ?_) (fun h5 => ?_)
        · replace hR := lf_f h5 hR
          refine ev_run (cs := []) (pc' := 102) (L' := [some (.ref 0), some (.int v1), some (.int v2), some (.ref 50), some (.ref 51), some (.ref 52), some (.ref 53), some (.ref 54), some (.ref 55), some (.ref 56), some (.ref 57), some (.int v11), some (.int v12), some (.int (v13 + 0)), some (.int (v14 + 1)), none, none, none, none, none]) (st' := []) (w' := W_XW f9 u) [] 5 (by with_unfolding_all rfl) trivial ?_
          exact ev_to2 (hk102 _ _ hR) ⟨rfl, rfl, rfl, rfl, rfl, rfl, rfl, rfl, rfl, rfl, rfl, rfl, rfl, rfl, rfl, trivial⟩ rfl rfl
        · replace hR := lf_t h5 hR
          refine ev_run (cs := []) (pc' := 102) (L' := [some (.ref 0), some (.int v1), some (.int v2), some (.ref 50), some (.ref 51), some (.ref 52), some (.ref 53), some (.ref 54), some (.ref 55), some (.ref 56), some (.ref 57), some (.int v11), some (.int v12), some (.int (v13 + 1)), some (.int (v14 + 1)), none, none, none, none, none]) (st' := []) (w' := W_XW f9 u) [] 6 (by with_unfolding_all rfl) trivial ?_
          exact ev_to2 (hk102 _ _ hR) ⟨rfl, rfl, rfl, rfl, rfl, rfl, rfl, rfl, rfl, rfl, rfl, rfl, rfl, rfl, rfl, trivial⟩ rfl rfl

def s_L_would_b85 (F : Nat) (k46 : S_XW → Int32 → Int32 → Option (Bool × S_XW)) (u : S_XW) (v1 : Int32) (v2 : Int32) (v12 : Int32) (p0 : Int32) : Option (Bool × S_XW) := if v12 = v2 then (s_L_would_l102 F u v1 v2 p0 v12 k46 F 0 0) else (k46 u p0 (v12 + 1))
set_option maxHeartbeats 4000000 in
set_option maxRecDepth 20000 in
theorem t_L_would_b85 (F : Nat) (k46 : S_XW → Int32 → Int32 → Option (Bool × S_XW)) (u : S_XW) (v1 : Int32) (v2 : Int32) (v12 : Int32) (p0 : Int32) (x : (Bool × S_XW)) (hk46 : ∀ (u : S_XW) (v11 : Int32) (v12 : Int32), k46 u v11 v12 = some x → ev_V mm_L_would none (ev_XR mm_L_would (fun r w => r = some (.int (ev_b x.1)) ∧ w = W_XW f9 x.2)) 46 [some (.ref 0), some (.int v1), some (.int v2), some (.ref 50), some (.ref 51), some (.ref 52), some (.ref 53), some (.ref 54), some (.ref 55), some (.ref 56), some (.ref 57), some (.int v11), some (.int v12), none, none, none, none, none, none, none] [] (W_XW f9 u) 0 0) (hR : s_L_would_b85 F k46 u v1 v2 v12 p0 = some x) : ev_V mm_L_would none (ev_XR mm_L_would (fun r w => r = some (.int (ev_b x.1)) ∧ w = W_XW f9 x.2)) 85 [some (.ref 0), some (.int v1), some (.int v2), some (.ref 50), some (.ref 51), some (.ref 52), some (.ref 53), some (.ref 54), some (.ref 55), some (.ref 56), some (.ref 57), none, some (.int v12), none, none, none, none, none, none, none] [.int p0] (W_XW f9 u) 0 0 := by
  unfold s_L_would_b85 at hR
  refine ev_run (cs := []) (pc' := 90) (L' := [some (.ref 0), some (.int v1), some (.int v2), some (.ref 50), some (.ref 51), some (.ref 52), some (.ref 53), some (.ref 54), some (.ref 55), some (.ref 56), some (.ref 57), some (.int p0), some (.int v12), none, none, none, none, none, none, none]) (st' := [.int v2, .int v12]) (w' := W_XW f9 u) [] 3 (by with_unfolding_all rfl) trivial ?_
  refine ev_br rfl rfl (fun h1 => ?_) (fun h1 => ?_)
  · replace hR := lf_t h1 hR
    refine ev_run (cs := []) (pc' := 102) (L' := [some (.ref 0), some (.int v1), some (.int v2), some (.ref 50), some (.ref 51), some (.ref 52), some (.ref 53), some (.ref 54), some (.ref 55), some (.ref 56), some (.ref 57), some (.int p0), some (.int v12), some (.int 0), some (.int 0), none, none, none, none, none]) (st' := []) (w' := W_XW f9 u) [] 4 (by with_unfolding_all rfl) trivial ?_
    exact ev_to2 (t_L_would_l102 F u v1 v2 p0 v12 k46 _ hk46 F 0 0 hR) ⟨rfl, rfl, rfl, rfl, rfl, rfl, rfl, rfl, rfl, rfl, rfl, rfl, rfl, rfl, rfl, trivial⟩ rfl rfl
  · replace hR := lf_f h1 hR
    refine ev_run (cs := []) (pc' := 46) (L' := [some (.ref 0), some (.int v1), some (.int v2), some (.ref 50), some (.ref 51), some (.ref 52), some (.ref 53), some (.ref 54), some (.ref 55), some (.ref 56), some (.ref 57), some (.int p0), some (.int (v12 + 1)), none, none, none, none, none, none, none]) (st' := []) (w' := W_XW f9 u) [] 3 (by with_unfolding_all rfl) trivial ?_
    exact ev_to2 (hk46 _ _ _ hR) ⟨rfl, rfl, rfl, rfl, rfl, rfl, rfl, rfl, rfl, rfl, rfl, rfl, rfl, trivial⟩ rfl rfl

def s_L_would_l46 (F : Nat) (v1 : Int32) (v2 : Int32) : Nat → S_XW → Int32 → Int32 → Option (Bool × S_XW)
  | 0 => fun _ _ _ => none
  | n + 1 => fun u v11 v12 => if 30 < v12 then (s_L_would_b216 F u v1 v11) else ((s_L_tick F (a_XW_qs u, a_XW_ts u, a_XW_ss u, a_XW_rs u)).bind fun y1 => (if 0 ≤ v11 then (s_L_would_b85 F (s_L_would_l46 F v1 v2 n) (m_XW_rs (a_XE_re (y1)) (m_XW_ss (a_XE_sl (y1)) (m_XW_ts (a_XE_th (y1)) (m_XW_qs (a_XE_q (y1)) u)))) v1 v2 v12 v11) else ((s_L_lives F 48 (a_XE_th (y1)) v1).bind fun y2 => (if y2 then (s_L_would_b85 F (s_L_would_l46 F v1 v2 n) (m_XW_rs (a_XE_re (y1)) (m_XW_ss (a_XE_sl (y1)) (m_XW_ts (a_XE_th (y1)) (m_XW_qs (a_XE_q (y1)) u)))) v1 v2 v12 v11) else (s_L_would_b85 F (s_L_would_l46 F v1 v2 n) (m_XW_rs (a_XE_re (y1)) (m_XW_ss (a_XE_sl (y1)) (m_XW_ts (a_XE_th (y1)) (m_XW_qs (a_XE_q (y1)) u)))) v1 v2 v12 v12)))))
theorem e_L_would_l46 (F : Nat) (v1 : Int32) (v2 : Int32) (n : Nat) (u : S_XW) (v11 : Int32) (v12 : Int32) : s_L_would_l46 F v1 v2 (n + 1) u v11 v12 = if 30 < v12 then (s_L_would_b216 F u v1 v11) else ((s_L_tick F (a_XW_qs u, a_XW_ts u, a_XW_ss u, a_XW_rs u)).bind fun y1 => (if 0 ≤ v11 then (s_L_would_b85 F (s_L_would_l46 F v1 v2 n) (m_XW_rs (a_XE_re (y1)) (m_XW_ss (a_XE_sl (y1)) (m_XW_ts (a_XE_th (y1)) (m_XW_qs (a_XE_q (y1)) u)))) v1 v2 v12 v11) else ((s_L_lives F 48 (a_XE_th (y1)) v1).bind fun y2 => (if y2 then (s_L_would_b85 F (s_L_would_l46 F v1 v2 n) (m_XW_rs (a_XE_re (y1)) (m_XW_ss (a_XE_sl (y1)) (m_XW_ts (a_XE_th (y1)) (m_XW_qs (a_XE_q (y1)) u)))) v1 v2 v12 v11) else (s_L_would_b85 F (s_L_would_l46 F v1 v2 n) (m_XW_rs (a_XE_re (y1)) (m_XW_ss (a_XE_sl (y1)) (m_XW_ts (a_XE_th (y1)) (m_XW_qs (a_XE_q (y1)) u)))) v1 v2 v12 v12))))) := rfl
set_option maxHeartbeats 4000000 in
set_option maxRecDepth 20000 in
theorem t_L_would_l46 (F : Nat) (v1 : Int32) (v2 : Int32) (x : (Bool × S_XW))  : ∀ (n : Nat) (u : S_XW) (v11 : Int32) (v12 : Int32), s_L_would_l46 F v1 v2 n u v11 v12 = some x → ev_V mm_L_would none (ev_XR mm_L_would (fun r w => r = some (.int (ev_b x.1)) ∧ w = W_XW f9 x.2)) 46 [some (.ref 0), some (.int v1), some (.int v2), some (.ref 50), some (.ref 51), some (.ref 52), some (.ref 53), some (.ref 54), some (.ref 55), some (.ref 56), some (.ref 57), some (.int v11), some (.int v12), none, none, none, none, none, none, none] [] (W_XW f9 u) 0 0 := by
  intro n
  induction n with
  | zero => intro u v11 v12 hR; cases hR
  | succ n hk46 =>
    intro u v11 v12 hR
    unfold s_L_would_l46 at hR
    refine ev_run (cs := []) (pc' := 50) (L' := [some (.ref 0), some (.int v1), some (.int v2), some (.ref 50), some (.ref 51), some (.ref 52), some (.ref 53), some (.ref 54), some (.ref 55), some (.ref 56), some (.ref 57), some (.int v11), some (.int v12), none, none, none, none, none, none, none]) (st' := [.int 30, .int v12]) (w' := W_XW f9 u) [] 2 (by with_unfolding_all rfl) trivial ?_
    refine ev_br rfl rfl (fun h1 => ?_) (fun h1 => ?_)
    · replace hR := lf_t h1 hR
      exact ev_to2 (t_L_would_b216 F u v1 v11 _ hR) ⟨rfl, rfl, rfl, rfl, rfl, rfl, rfl, rfl, rfl, rfl, rfl, trivial⟩ rfl rfl
    · replace hR := lf_f h1 hR
      refine ev_run (cs := []) (pc' := 61) (L' := [some (.ref 0), some (.int v1), some (.int v2), some (.ref 50), some (.ref 51), some (.ref 52), some (.ref 53), some (.ref 54), some (.ref 55), some (.ref 56), some (.ref 57), some (.int v11), some (.int v12), none, none, none, none, none, none, none]) (st' := [.ref 57, .ref 56, .ref 55, .ref 54]) (w' := W_XW f9 u) [] 4 (by with_unfolding_all rfl) trivial ?_
      obtain ⟨y1, h2, hR⟩ := lf_b hR
      refine ev_callL [54, 55, 56, 57] (t_L_tick F (a_XW_qs u, a_XW_ts u, a_XW_ss u, a_XW_rs u) _ h2) cs_L_tick ml_L_91 rfl rfl rfl rfl (by with_unfolding_all rfl) (by decide) (Nat.le_of_ble_eq_true rfl) ⟨Nat.le_of_ble_eq_true rfl, Nat.le_of_ble_eq_true rfl⟩ ⟨Nat.le_refl _, Nat.le_refl _⟩ ?_ ?_
      · rintro r w ⟨rfl, rfl⟩; rfl
      rintro r w ⟨rfl, rfl⟩
      refine ev_nx (pc' := 64) (st' := []) (w' := W_XW f9 (m_XW_rs (a_XE_re (y1)) (m_XW_ss (a_XE_sl (y1)) (m_XW_ts (a_XE_th (y1)) (m_XW_qs (a_XE_q (y1)) u))))) rfl rfl (by with_unfolding_all rfl) rfl rfl ?_
      refine ev_run (cs := []) (pc' := 66) (L' := [some (.ref 0), some (.int v1), some (.int v2), some (.ref 50), some (.ref 51), some (.ref 52), some (.ref 53), some (.ref 54), some (.ref 55), some (.ref 56), some (.ref 57), some (.int v11), some (.int v12), none, none, none, none, none, none, none]) (st' := [.int v11]) (w' := W_XW f9 (m_XW_rs (a_XE_re (y1)) (m_XW_ss (a_XE_sl (y1)) (m_XW_ts (a_XE_th (y1)) (m_XW_qs (a_XE_q (y1)) u))))) [] 1 (by with_unfolding_all rfl) trivial ?_
      refine ev_br rfl rfl (fun h3 => ?_) (fun h3 => ?_)
      · replace hR := lf_t h3 hR
        refine ev_run (cs := []) (pc' := 85) (L' := [some (.ref 0), some (.int v1), some (.int v2), some (.ref 50), some (.ref 51), some (.ref 52), some (.ref 53), some (.ref 54), some (.ref 55), some (.ref 56), some (.ref 57), some (.int v11), some (.int v12), none, none, none, none, none, none, none]) (st' := [.int v11]) (w' := W_XW f9 (m_XW_rs (a_XE_re (y1)) (m_XW_ss (a_XE_sl (y1)) (m_XW_ts (a_XE_th (y1)) (m_XW_qs (a_XE_q (y1)) u))))) [] 1 (by with_unfolding_all rfl) trivial ?_
        exact ev_to2 (t_L_would_b85 F (s_L_would_l46 F v1 v2 n) (m_XW_rs (a_XE_re (y1)) (m_XW_ss (a_XE_sl (y1)) (m_XW_ts (a_XE_th (y1)) (m_XW_qs (a_XE_q (y1)) u)))) v1 v2 v12 v11 _ hk46 hR) ⟨rfl, rfl, rfl, rfl, rfl, rfl, rfl, rfl, rfl, rfl, rfl, rfl, trivial⟩ rfl rfl
      · replace hR := lf_f h3 hR
        refine ev_run (cs := []) (pc' := 72) (L' := [some (.ref 0), some (.int v1), some (.int v2), some (.ref 50), some (.ref 51), some (.ref 52), some (.ref 53), some (.ref 54), some (.ref 55), some (.ref 56), some (.ref 57), some (.int v11), some (.int v12), none, none, none, none, none, none, none]) (st' := [.ref 55, .int v1]) (w' := W_XW f9 (m_XW_rs (a_XE_re (y1)) (m_XW_ss (a_XE_sl (y1)) (m_XW_ts (a_XE_th (y1)) (m_XW_qs (a_XE_q (y1)) u))))) [] 2 (by with_unfolding_all rfl) trivial ?_
        obtain ⟨y2, h4, hR⟩ := lf_b hR
        refine ev_callL [55] (t_L_lives F 48 (a_XE_th (y1)) v1 _ h4) cs_L_lives ml_L_24 rfl rfl rfl rfl (by with_unfolding_all rfl) (by decide) (Nat.le_of_ble_eq_true rfl) ⟨Nat.le_of_ble_eq_true rfl, Nat.le_of_ble_eq_true rfl⟩ ⟨Nat.le_refl _, Nat.le_refl _⟩ ?_ ?_
        · rintro r w ⟨rfl, rfl⟩; rfl
        rintro r w ⟨rfl, rfl⟩
        refine ev_nx (pc' := 75) (st' := [.int (ev_b y2)]) (w' := W_XW f9 (m_XW_rs (a_XE_re (y1)) (m_XW_ss (a_XE_sl (y1)) (m_XW_ts (a_XE_th (y1)) (m_XW_qs (a_XE_q (y1)) u))))) rfl rfl (by with_unfolding_all rfl) rfl rfl ?_
        refine ev_br rfl rfl (fun h5 => ?_) (fun h5 => ?_)
        · replace hR := lf_z1 h5 hR
          refine ev_run (cs := []) (pc' := 85) (L' := [some (.ref 0), some (.int v1), some (.int v2), some (.ref 50), some (.ref 51), some (.ref 52), some (.ref 53), some (.ref 54), some (.ref 55), some (.ref 56), some (.ref 57), some (.int v11), some (.int v12), none, none, none, none, none, none, none]) (st' := [.int v11]) (w' := W_XW f9 (m_XW_rs (a_XE_re (y1)) (m_XW_ss (a_XE_sl (y1)) (m_XW_ts (a_XE_th (y1)) (m_XW_qs (a_XE_q (y1)) u))))) [] 1 (by with_unfolding_all rfl) trivial ?_
          exact ev_to2 (t_L_would_b85 F (s_L_would_l46 F v1 v2 n) (m_XW_rs (a_XE_re (y1)) (m_XW_ss (a_XE_sl (y1)) (m_XW_ts (a_XE_th (y1)) (m_XW_qs (a_XE_q (y1)) u)))) v1 v2 v12 v11 _ hk46 hR) ⟨rfl, rfl, rfl, rfl, rfl, rfl, rfl, rfl, rfl, rfl, rfl, rfl, trivial⟩ rfl rfl
        · replace hR := lf_z0 h5 hR
          refine ev_run (cs := []) (pc' := 85) (L' := [some (.ref 0), some (.int v1), some (.int v2), some (.ref 50), some (.ref 51), some (.ref 52), some (.ref 53), some (.ref 54), some (.ref 55), some (.ref 56), some (.ref 57), some (.int v11), some (.int v12), none, none, none, none, none, none, none]) (st' := [.int v12]) (w' := W_XW f9 (m_XW_rs (a_XE_re (y1)) (m_XW_ss (a_XE_sl (y1)) (m_XW_ts (a_XE_th (y1)) (m_XW_qs (a_XE_q (y1)) u))))) [] 2 (by with_unfolding_all rfl) trivial ?_
          exact ev_to2 (t_L_would_b85 F (s_L_would_l46 F v1 v2 n) (m_XW_rs (a_XE_re (y1)) (m_XW_ss (a_XE_sl (y1)) (m_XW_ts (a_XE_th (y1)) (m_XW_qs (a_XE_q (y1)) u)))) v1 v2 v12 v12 _ hk46 hR) ⟨rfl, rfl, rfl, rfl, rfl, rfl, rfl, rfl, rfl, rfl, rfl, rfl, trivial⟩ rfl rfl

def s_L_would (F : Nat) (u : S_XW) (v1 : Int32) (v2 : Int32) : Option (Bool × S_XW) := (s_L_copy F 12 12 (a_XW_q u) (a_XW_qs u)).bind fun y1 => ((s_L_copy F 48 48 (a_XW_th u) (a_XW_ts u)).bind fun y2 => ((s_L_copy F 28 28 (a_XW_sl u) (a_XW_ss u)).bind fun y3 => ((s_L_copy F 64 64 (a_XW_re u) (a_XW_rs u)).bind fun y4 => ((s_L_lives F 48 y2 v1).bind fun y5 => (if y5 then (s_L_would_l46 F v1 v2 F (m_XW_rs y4 (m_XW_ss y3 (m_XW_ts y2 (m_XW_qs y1 u)))) (-1) 1) else (s_L_would_l46 F v1 v2 F (m_XW_rs y4 (m_XW_ss y3 (m_XW_ts y2 (m_XW_qs y1 u)))) 0 1))))))
set_option maxHeartbeats 4000000 in
set_option maxRecDepth 20000 in
theorem t_L_would (F : Nat) (u : S_XW) (v1 : Int32) (v2 : Int32) (x : (Bool × S_XW)) (hR : s_L_would F u v1 v2 = some x) : ev_A yL_would mm_L_would none [.ref 0, .int v1, .int v2, .ref 50, .ref 51, .ref 52, .ref 53, .ref 54, .ref 55, .ref 56, .ref 57] (W_XW f9 u) (fun r w => r = some (.int (ev_b x.1)) ∧ w = W_XW f9 x.2) := by
  unfold s_L_would at hR
  refine ev_start ok_L_would (by decide +kernel) rfl rfl (Nat.le_of_ble_eq_true rfl) ?_
  refine ev_run (cs := []) (pc' := 3) (L' := [some (.ref 0), some (.int v1), some (.int v2), some (.ref 50), some (.ref 51), some (.ref 52), some (.ref 53), some (.ref 54), some (.ref 55), some (.ref 56), some (.ref 57), none, none, none, none, none, none, none, none, none]) (st' := [.ref 54, .ref 50]) (w' := W_XW f9 u) [] 2 (by with_unfolding_all rfl) trivial ?_
  obtain ⟨y1, h1, hR⟩ := lf_b hR
  refine ev_callL [50, 54] (t_L_copy F 12 12 (a_XW_q u) (a_XW_qs u) _ h1) cs_L_copy ml_L_87 rfl rfl rfl rfl (by with_unfolding_all rfl) (by decide) (Nat.le_of_ble_eq_true rfl) ⟨Nat.le_of_ble_eq_true rfl, Nat.le_of_ble_eq_true rfl⟩ ⟨Nat.le_refl _, Nat.le_refl _⟩ ?_ ?_
  · rintro r w ⟨rfl, rfl⟩; rfl
  rintro r w ⟨rfl, rfl⟩
  refine ev_nx (pc' := 6) (st' := []) (w' := W_XW f9 (m_XW_qs y1 u)) rfl rfl (by with_unfolding_all rfl) rfl rfl ?_
  refine ev_run (cs := []) (pc' := 10) (L' := [some (.ref 0), some (.int v1), some (.int v2), some (.ref 50), some (.ref 51), some (.ref 52), some (.ref 53), some (.ref 54), some (.ref 55), some (.ref 56), some (.ref 57), none, none, none, none, none, none, none, none, none]) (st' := [.ref 55, .ref 51]) (w' := W_XW f9 (m_XW_qs y1 u)) [] 2 (by with_unfolding_all rfl) trivial ?_
  obtain ⟨y2, h2, hR⟩ := lf_b hR
  refine ev_callL [51, 55] (t_L_copy F 48 48 (a_XW_th u) (a_XW_ts u) _ h2) cs_L_copy ml_L_87 rfl rfl rfl rfl (by with_unfolding_all rfl) (by decide) (Nat.le_of_ble_eq_true rfl) ⟨Nat.le_of_ble_eq_true rfl, Nat.le_of_ble_eq_true rfl⟩ ⟨Nat.le_refl _, Nat.le_refl _⟩ ?_ ?_
  · rintro r w ⟨rfl, rfl⟩; rfl
  rintro r w ⟨rfl, rfl⟩
  refine ev_nx (pc' := 13) (st' := []) (w' := W_XW f9 (m_XW_ts y2 (m_XW_qs y1 u))) rfl rfl (by with_unfolding_all rfl) rfl rfl ?_
  refine ev_run (cs := []) (pc' := 17) (L' := [some (.ref 0), some (.int v1), some (.int v2), some (.ref 50), some (.ref 51), some (.ref 52), some (.ref 53), some (.ref 54), some (.ref 55), some (.ref 56), some (.ref 57), none, none, none, none, none, none, none, none, none]) (st' := [.ref 56, .ref 52]) (w' := W_XW f9 (m_XW_ts y2 (m_XW_qs y1 u))) [] 2 (by with_unfolding_all rfl) trivial ?_
  obtain ⟨y3, h3, hR⟩ := lf_b hR
  refine ev_callL [52, 56] (t_L_copy F 28 28 (a_XW_sl u) (a_XW_ss u) _ h3) cs_L_copy ml_L_87 rfl rfl rfl rfl (by with_unfolding_all rfl) (by decide) (Nat.le_of_ble_eq_true rfl) ⟨Nat.le_of_ble_eq_true rfl, Nat.le_of_ble_eq_true rfl⟩ ⟨Nat.le_refl _, Nat.le_refl _⟩ ?_ ?_
  · rintro r w ⟨rfl, rfl⟩; rfl
  rintro r w ⟨rfl, rfl⟩
  refine ev_nx (pc' := 20) (st' := []) (w' := W_XW f9 (m_XW_ss y3 (m_XW_ts y2 (m_XW_qs y1 u)))) rfl rfl (by with_unfolding_all rfl) rfl rfl ?_
  refine ev_run (cs := []) (pc' := 24) (L' := [some (.ref 0), some (.int v1), some (.int v2), some (.ref 50), some (.ref 51), some (.ref 52), some (.ref 53), some (.ref 54), some (.ref 55), some (.ref 56), some (.ref 57), none, none, none, none, none, none, none, none, none]) (st' := [.ref 57, .ref 53]) (w' := W_XW f9 (m_XW_ss y3 (m_XW_ts y2 (m_XW_qs y1 u)))) [] 2 (by with_unfolding_all rfl) trivial ?_
  obtain ⟨y4, h4, hR⟩ := lf_b hR
  refine ev_callL [53, 57] (t_L_copy F 64 64 (a_XW_re u) (a_XW_rs u) _ h4) cs_L_copy ml_L_87 rfl rfl rfl rfl (by with_unfolding_all rfl) (by decide) (Nat.le_of_ble_eq_true rfl) ⟨Nat.le_of_ble_eq_true rfl, Nat.le_of_ble_eq_true rfl⟩ ⟨Nat.le_refl _, Nat.le_refl _⟩ ?_ ?_
  · rintro r w ⟨rfl, rfl⟩; rfl
  rintro r w ⟨rfl, rfl⟩
  refine ev_nx (pc' := 27) (st' := []) (w' := W_XW f9 (m_XW_rs y4 (m_XW_ss y3 (m_XW_ts y2 (m_XW_qs y1 u))))) rfl rfl (by with_unfolding_all rfl) rfl rfl ?_
  refine ev_run (cs := []) (pc' := 30) (L' := [some (.ref 0), some (.int v1), some (.int v2), some (.ref 50), some (.ref 51), some (.ref 52), some (.ref 53), some (.ref 54), some (.ref 55), some (.ref 56), some (.ref 57), none, none, none, none, none, none, none, none, none]) (st' := [.ref 55, .int v1]) (w' := W_XW f9 (m_XW_rs y4 (m_XW_ss y3 (m_XW_ts y2 (m_XW_qs y1 u))))) [] 2 (by with_unfolding_all rfl) trivial ?_
  obtain ⟨y5, h5, hR⟩ := lf_b hR
  refine ev_callL [55] (t_L_lives F 48 y2 v1 _ h5) cs_L_lives ml_L_24 rfl rfl rfl rfl (by with_unfolding_all rfl) (by decide) (Nat.le_of_ble_eq_true rfl) ⟨Nat.le_of_ble_eq_true rfl, Nat.le_of_ble_eq_true rfl⟩ ⟨Nat.le_refl _, Nat.le_refl _⟩ ?_ ?_
  · rintro r w ⟨rfl, rfl⟩; rfl
  rintro r w ⟨rfl, rfl⟩
  refine ev_nx (pc' := 33) (st' := [.int (ev_b y5)]) (w' := W_XW f9 (m_XW_rs y4 (m_XW_ss y3 (m_XW_ts y2 (m_XW_qs y1 u))))) rfl rfl (by with_unfolding_all rfl) rfl rfl ?_
  refine ev_br rfl rfl (fun h6 => ?_) (fun h6 => ?_)
  · replace hR := lf_z0 h6 hR
    refine ev_run (cs := []) (pc' := 46) (L' := [some (.ref 0), some (.int v1), some (.int v2), some (.ref 50), some (.ref 51), some (.ref 52), some (.ref 53), some (.ref 54), some (.ref 55), some (.ref 56), some (.ref 57), some (.int 0), some (.int 1), none, none, none, none, none, none, none]) (st' := []) (w' := W_XW f9 (m_XW_rs y4 (m_XW_ss y3 (m_XW_ts y2 (m_XW_qs y1 u))))) [] 4 (by with_unfolding_all rfl) trivial ?_
    exact ev_to2 (t_L_would_l46 F v1 v2 _ F (m_XW_rs y4 (m_XW_ss y3 (m_XW_ts y2 (m_XW_qs y1 u)))) 0 1 hR) ⟨rfl, rfl, rfl, rfl, rfl, rfl, rfl, rfl, rfl, rfl, rfl, rfl, rfl, trivial⟩ rfl rfl
  · replace hR := lf_z1 h6 hR
    refine ev_run (cs := []) (pc' := 46) (L' := [some (.ref 0), some (.int v1), some (.int v2), some (.ref 50), some (.ref 51), some (.ref 52), some (.ref 53), some (.ref 54), some (.ref 55), some (.ref 56), some (.ref 57), some (.int (-1)), some (.int 1), none, none, none, none, none, none, none]) (st' := []) (w' := W_XW f9 (m_XW_rs y4 (m_XW_ss y3 (m_XW_ts y2 (m_XW_qs y1 u))))) [] 5 (by with_unfolding_all rfl) trivial ?_
    exact ev_to2 (t_L_would_l46 F v1 v2 _ F (m_XW_rs y4 (m_XW_ss y3 (m_XW_ts y2 (m_XW_qs y1 u)))) (-1) 1 hR) ⟨rfl, rfl, rfl, rfl, rfl, rfl, rfl, rfl, rfl, rfl, rfl, rfl, rfl, trivial⟩ rfl rfl
end Q9
